/-! the class's own methods: what is foretold -/
theorem cpM_rel {nT nL : Nat} {M N : Mo} {nw : Nat → Int32} (hT : nT ≤ 6) (hL : nL ≤ 4) (h : RM nT nL M nw) : RM nT nL (cpM M N) nw := by
  obtain ⟨h1, h2, h3, h4, h5, h6, h7, h8⟩ := h
  refine ⟨h1, h2, h3, h4, h5, fun t ht => ?_, fun l hl => ?_, fun l ha hb => ?_⟩
  · show cp M.fr N.fr 6 t = _ ∧ _
    rw [cp, if_pos (by omega)]
    exact h6 t ht
  · show cp M.ln N.ln 4 l = _ ∧ _
    rw [cp, if_pos (by omega)]
    exact h7 l hl
  · show cp M.ln N.ln 4 l = _
    rw [cp, if_pos hb]
    exact h8 l ha hb
theorem CI.afl {h : XH} {O : Oc} {M : Mo} {V : Hi} {KO : Oc} {KM : Mo} {KV : Hi} {kp : Bool} {T : Ta} {S : Nat → Sh} (H : CI h O M V KO KM KV kp T S) (N : Mo) : CI (setM h 82 N) O M V KO KM KV kp T S := H.lat (sM_is _ _ _) (fun i q => sMo _ _ (by omega))
theorem c_X6_ahead_bad {d : Nat} {h : XH} {n w : Int32} (hb : inI n (nI 0) (nI 60) = false ∨ inI w (nI 0) (nI 2) = false) : MetI mX6_ahead (d + 1, 0, 0) [.ref 0, .int n, .int w] h (-1) := by
  refine MetX.of (by decide) rfl (Nat.le_of_ble_eq_true rfl) ?_
  refine X.iload iX6_ahead_0 rfl ?_
  refine X.pushi (v := nI 0) iX6_ahead_1 ?_
  refine X.pushi (v := nI 60) iX6_ahead_2 ?_
  refine X.callSi iX6_ahead_4 (c_X6_within d h n (nI 0) (nI 60)) rfl rfl (xfit _ _ _) (Nat.le_of_ble_eq_true rfl) ?_
  refine X.ifeqB iX6_ahead_7 (fun c7 => ?_) (fun c7 => ?_)
  · refine X.pushi iX6_ahead_19 ?_
    exact X.iret iX6_ahead_20 ⟨rfl, rfl⟩
  · refine X.iload iX6_ahead_10 rfl ?_
    refine X.pushi (v := nI 0) iX6_ahead_11 ?_
    refine X.pushi (v := nI 2) iX6_ahead_12 ?_
    refine X.callSi iX6_ahead_13 (c_X6_within d h w (nI 0) (nI 2)) rfl rfl (xfit _ _ _) (Nat.le_of_ble_eq_true rfl) ?_
    refine X.ifneB iX6_ahead_16 (fun c16 => ?_) (fun c16 => ?_)
    · exact absurd hb (fun z => z.elim (fun y => Bool.noConfusion (c7.symm.trans y)) (fun y => Bool.noConfusion (c16.symm.trans y)))
    · refine X.pushi iX6_ahead_19 ?_
      exact X.iret iX6_ahead_20 ⟨rfl, rfl⟩
theorem ahw {w : Nat} (hw : w ≤ 2) (h0 : ¬ nI w = 0) (h1 : ¬ nI w = nI 1) : w = 2 := by
  match w, hw with
  | 0, _ => exact absurd rfl h0
  | 1, _ => exact absurd rfl h1
  | 2, _ => rfl
theorem c_X6_ahead {d n w : Nat} {nw : Nat → Int32} {h : XH} {O : Oc} {M : Mo} {V : Hi} {KO : Oc} {KM : Mo} {KV : Hi} {kp : Bool} {T : Ta} {S : Nat → Sh} (H : CI h O M V KO KM KV kp T S) (h1 : RO O nw) (h2 : RM O.nT O.nL M nw) (hn : n ≤ 60) (hw : w ≤ 2) : MetC mX6_ahead (d + 5) [.ref 0, .int (nI n), .int (nI w)] h (gbN nw O.nT O.nL n (3 + w)) O M V KO KM KV kp T S := by
  have hT := h1.2.2.1
  have hL := h1.2.2.2.1
  obtain ⟨L, iL⟩ := H.cL
  have B := c_X2_become (d := d + 3) (m := 82) (n := 7) (h := h) (M := L) H.cM (by omega)
  rw [IsM.set iL] at B
  obtain ⟨-, r2⟩ := days_rel h1 (cpM_rel (N := L) hT hL h2) n
  have P : ∀ k, k ≤ n → X xT mX6_ahead (xR (d + 5, 0, 0)) (0, 0) 37 [some (.ref 0), some (.int (nI n)), some (.int (nI w)), some (.int (nI k))] [] (setM h 82 (passN O (cpM M L) k)) (fun v h' => v = some (.int (gbN nw O.nT O.nL n (3 + w))) ∧ CI h' O M V KO KM KV kp T S ∧ ∀ i, 98 ≤ i → h' i = h i) := by
    refine xloop n ?_ ?_
    · have H1 := H.afl (passN O (cpM M L) n)
      have HL := sM_is h 82 (passN O (cpM M L) n)
      have fin : CI (setM h 82 (passN O (cpM M L) n)) O M V KO KM KV kp T S ∧ ∀ i, 98 ≤ i → setM h 82 (passN O (cpM M L) n) i = h i := ⟨H1, fun i hi => sMo _ _ (by omega)⟩
      refine X.iload iX6_ahead_37 rfl ?_
      refine X.iload iX6_ahead_38 rfl ?_
      refine X.cmge iX6_ahead_39 (fun c39 => ?_) (fun c39 => ?_)
      · refine X.iload iX6_ahead_59 rfl ?_
        refine X.ifne iX6_ahead_60 (fun c60 => ?_) (fun c60 => ?_)
        · refine X.iload iX6_ahead_71 rfl ?_
          refine X.pushi (v := nI 1) iX6_ahead_72 ?_
          refine X.cmne iX6_ahead_73 (fun c73 => ?_) (fun c73 => ?_)
          · refine X.aload iX6_ahead_86 rfl ?_
            refine X.getf iX6_ahead_87 (by first | exact H.c0 | exact H.cO.1 | exact H.cO.2.1 | exact H.cO.2.2.1 | exact H.cO.2.2.2.1 | exact H.cO.2.2.2.2.1 | exact H.cO.2.2.2.2.2 | exact H.cM.1 | exact H.cM.2.1 | exact H.cM.2.2 | exact H1.c0 | exact H1.cO.1 | exact H1.cM.1 | exact HL.1 | assumption) rfl ?_
            refine X.getf iX6_ahead_90 (by first | exact H.c0 | exact H.cO.1 | exact H.cO.2.1 | exact H.cO.2.2.1 | exact H.cO.2.2.2.1 | exact H.cO.2.2.2.2.1 | exact H.cO.2.2.2.2.2 | exact H.cM.1 | exact H.cM.2.1 | exact H.cM.2.2 | exact H1.c0 | exact H1.cO.1 | exact H1.cM.1 | exact HL.1 | assumption) rfl ?_
            first
            | (have w1 : w = 1 := (nI_eq (by omega) (by decide)).mp c73; exact X.iret iX6_ahead_93 ⟨by rw [w1, ← r2.2.2.1], fin⟩)
            | (have w2 : w = 2 := ahw hw c60 c73; exact X.iret iX6_ahead_93 ⟨by rw [w2, ← r2.2.2.2.1], fin⟩)
          · refine X.aload iX6_ahead_76 rfl ?_
            refine X.getf iX6_ahead_77 (by first | exact H.c0 | exact H.cO.1 | exact H.cO.2.1 | exact H.cO.2.2.1 | exact H.cO.2.2.2.1 | exact H.cO.2.2.2.2.1 | exact H.cO.2.2.2.2.2 | exact H.cM.1 | exact H.cM.2.1 | exact H.cM.2.2 | exact H1.c0 | exact H1.cO.1 | exact H1.cM.1 | exact HL.1 | assumption) rfl ?_
            refine X.getf iX6_ahead_80 (by first | exact H.c0 | exact H.cO.1 | exact H.cO.2.1 | exact H.cO.2.2.1 | exact H.cO.2.2.2.1 | exact H.cO.2.2.2.2.1 | exact H.cO.2.2.2.2.2 | exact H.cM.1 | exact H.cM.2.1 | exact H.cM.2.2 | exact H1.c0 | exact H1.cO.1 | exact H1.cM.1 | exact HL.1 | assumption) rfl ?_
            refine X.goto iX6_ahead_83 ?_
            first
            | (have w1 : w = 1 := (nI_eq (by omega) (by decide)).mp c73; exact X.iret iX6_ahead_93 ⟨by rw [w1, ← r2.2.2.1], fin⟩)
            | (have w2 : w = 2 := ahw hw c60 c73; exact X.iret iX6_ahead_93 ⟨by rw [w2, ← r2.2.2.2.1], fin⟩)
        · refine X.aload iX6_ahead_63 rfl ?_
          refine X.getf iX6_ahead_64 (by first | exact H.c0 | exact H.cO.1 | exact H.cO.2.1 | exact H.cO.2.2.1 | exact H.cO.2.2.2.1 | exact H.cO.2.2.2.2.1 | exact H.cO.2.2.2.2.2 | exact H.cM.1 | exact H.cM.2.1 | exact H.cM.2.2 | exact H1.c0 | exact H1.cO.1 | exact H1.cM.1 | exact HL.1 | assumption) rfl ?_
          refine X.getf iX6_ahead_67 (by first | exact H.c0 | exact H.cO.1 | exact H.cO.2.1 | exact H.cO.2.2.1 | exact H.cO.2.2.2.1 | exact H.cO.2.2.2.2.1 | exact H.cO.2.2.2.2.2 | exact H.cM.1 | exact H.cM.2.1 | exact H.cM.2.2 | exact H1.c0 | exact H1.cO.1 | exact H1.cM.1 | exact HL.1 | assumption) rfl ?_
          have w0 : w = 0 := (nI_eq (by omega) (by decide)).mp c60
          exact X.iret iX6_ahead_70 ⟨by rw [w0, ← r2.2.1], fin⟩
      · exact absurd (Int32.le_refl _) c39
    · intro k hk ih
      have H1 := H.afl (passN O (cpM M L) k)
      have HL := sM_is h 82 (passN O (cpM M L) k)
      refine X.iload iX6_ahead_37 rfl ?_
      refine X.iload iX6_ahead_38 rfl ?_
      refine X.cmge iX6_ahead_39 (fun c39 => ?_) (fun c39 => ?_)
      · exact absurd c39 (nI_ge hk (by omega))
      · refine X.aload iX6_ahead_42 rfl ?_
        refine X.getf iX6_ahead_43 (by first | exact H.c0 | exact H.cO.1 | exact H.cO.2.1 | exact H.cO.2.2.1 | exact H.cO.2.2.2.1 | exact H.cO.2.2.2.2.1 | exact H.cO.2.2.2.2.2 | exact H.cM.1 | exact H.cM.2.1 | exact H.cM.2.2 | exact H1.c0 | exact H1.cO.1 | exact H1.cM.1 | exact HL.1 | assumption) rfl ?_
        refine X.aload iX6_ahead_46 rfl ?_
        refine X.getf iX6_ahead_47 (by first | exact H.c0 | exact H.cO.1 | exact H.cO.2.1 | exact H.cO.2.2.1 | exact H.cO.2.2.2.1 | exact H.cO.2.2.2.2.1 | exact H.cO.2.2.2.2.2 | exact H.cM.1 | exact H.cM.2.1 | exact H.cM.2.2 | exact H1.c0 | exact H1.cO.1 | exact H1.cM.1 | exact HL.1 | assumption) rfl ?_
        refine X.callVv iX6_ahead_50 (c_X3_pass (d := d) (m := 82) H.cO (by omega) h1.ki hL hT) (by first | exact H.c0 | exact H.cO.1 | exact H.cO.2.1 | exact H.cO.2.2.1 | exact H.cO.2.2.2.1 | exact H.cO.2.2.2.2.1 | exact H.cO.2.2.2.2.2 | exact H.cM.1 | exact H.cM.2.1 | exact H.cM.2.2 | exact H1.c0 | exact H1.cO.1 | exact H1.cM.1 | exact HL.1 | assumption) rfl rfl (xfit _ _ _) (Nat.le_of_ble_eq_true rfl) ?_
        refine X.iinc iX6_ahead_53 rfl rfl rfl ?_
        refine X.goto iX6_ahead_56 ?_
        rw [nI_1]
        exact ih
  refine MetX.of (by decide) rfl (Nat.le_of_ble_eq_true rfl) ?_
  refine X.iload iX6_ahead_0 rfl ?_
  refine X.pushi (v := nI 0) iX6_ahead_1 ?_
  refine X.pushi (v := nI 60) iX6_ahead_2 ?_
  refine X.callSi iX6_ahead_4 (c_X6_within (d + 4) h (nI n) (nI 0) (nI 60)) rfl rfl (xfit _ _ _) (Nat.le_of_ble_eq_true rfl) ?_
  refine X.ifeqB iX6_ahead_7 (fun c7 => ?_) (fun c7 => ?_)
  · exact absurd (c7.symm.trans (inI_of (Nat.zero_le _) hn (by decide))) (by decide)
  · refine X.iload iX6_ahead_10 rfl ?_
    refine X.pushi (v := nI 0) iX6_ahead_11 ?_
    refine X.pushi (v := nI 2) iX6_ahead_12 ?_
    refine X.callSi iX6_ahead_13 (c_X6_within (d + 4) h (nI w) (nI 0) (nI 2)) rfl rfl (xfit _ _ _) (Nat.le_of_ble_eq_true rfl) ?_
    refine X.ifneB iX6_ahead_16 (fun c16 => ?_) (fun c16 => ?_)
    · refine X.aload iX6_ahead_21 rfl ?_
      refine X.getf iX6_ahead_22 (by first | exact H.c0 | exact H.cO.1 | exact H.cO.2.1 | exact H.cO.2.2.1 | exact H.cO.2.2.2.1 | exact H.cO.2.2.2.2.1 | exact H.cO.2.2.2.2.2 | exact H.cM.1 | exact H.cM.2.1 | exact H.cM.2.2 | exact H1.c0 | exact H1.cO.1 | exact H1.cM.1 | exact HL.1 | assumption) rfl ?_
      refine X.aload iX6_ahead_25 rfl ?_
      refine X.getf iX6_ahead_26 (by first | exact H.c0 | exact H.cO.1 | exact H.cO.2.1 | exact H.cO.2.2.1 | exact H.cO.2.2.2.1 | exact H.cO.2.2.2.2.1 | exact H.cO.2.2.2.2.2 | exact H.cM.1 | exact H.cM.2.1 | exact H.cM.2.2 | exact H1.c0 | exact H1.cO.1 | exact H1.cM.1 | exact HL.1 | assumption) rfl ?_
      refine X.getf iX6_ahead_29 (by first | exact H.c0 | exact H.cO.1 | exact H.cO.2.1 | exact H.cO.2.2.1 | exact H.cO.2.2.2.1 | exact H.cO.2.2.2.2.1 | exact H.cO.2.2.2.2.2 | exact H.cM.1 | exact H.cM.2.1 | exact H.cM.2.2 | exact H1.c0 | exact H1.cO.1 | exact H1.cM.1 | exact HL.1 | assumption) rfl ?_
      refine X.callVv iX6_ahead_32 B iL.1 rfl rfl (xfit _ _ _) (Nat.le_of_ble_eq_true rfl) ?_
      refine X.pushi (v := nI 0) iX6_ahead_35 ?_
      refine X.istore iX6_ahead_36 rfl rfl ?_
      exact P 0 (Nat.zero_le _)
    · exact absurd (c16.symm.trans (inI_of (Nat.zero_le _) hw (by decide))) (by decide)
theorem sumF_N {nT nL : Nat} {M : Mo} {nw : Nat → Int32} (h2 : RM nT nL M nw) : ∀ k, k ≤ nT → ∃ x, x ≤ 99 * k ∧ sumF nw k = nI x
  | 0, _ => ⟨0, by omega, rfl⟩
  | k + 1, hk => by
    obtain ⟨x, hx, e⟩ := sumF_N h2 k (by omega)
    obtain ⟨-, a, ha, ea⟩ := h2.2.2.2.2.2.1 k (by omega)
    exact ⟨x + a, by omega, by rw [sumF, e, ea, nI_add]⟩
theorem gath_loop {d : Nat} {nw : Nat → Int32} {N : Mo} {h : XH} {O : Oc} {M : Mo} {V : Hi} {KO : Oc} {KM : Mo} {KV : Hi} {kp : Bool} {T : Ta} {S : Nat → Sh} (H : CI h O M V KO KM KV kp T S) (h1 : RO O nw) (h2 : RM O.nT O.nL N nw) : ∀ f k, k + f = 61 → X xT mX6_gathered (xR (d + 5, 0, 0)) (0, 0) 16 [some (.ref 0), some (.int (nI k))] [] (setM h 82 (passN O N k)) (fun v h' => v = some (.int (if gaN nw O.nT O.nL f k < 61 then nI (gaN nw O.nT O.nL f k) else -4)) ∧ CI h' O M V KO KM KV kp T S ∧ ∀ i, 98 ≤ i → h' i = h i) := by
  have hT := h1.2.2.1
  have hL := h1.2.2.2.1
  intro f
  induction f with
  | zero =>
    intro k hk
    have k61 : k = 61 := by omega
    subst k61
    have fin : CI (setM h 82 (passN O N 61)) O M V KO KM KV kp T S ∧ ∀ i, 98 ≤ i → setM h 82 (passN O N 61) i = h i := ⟨H.afl _, fun i hi => sMo _ _ (by omega)⟩
    rw [gaN, if_neg (by decide)]
    refine X.iload iX6_gathered_16 rfl ?_
    refine X.pushi (v := nI 60) iX6_gathered_17 ?_
    refine X.cmgt iX6_gathered_19 (fun c19 => ?_) (fun c19 => ?_)
    · refine X.pushi iX6_gathered_55 ?_
      exact X.iret iX6_gathered_57 ⟨rfl, fin⟩
    · exact absurd (nI_lt (show 60 < 61 by decide) (by decide)) (fun z => c19 z)
  | succ f ih =>
    intro k hk
    have H1 := H.afl (passN O N k)
    have HL := sM_is h 82 (passN O N k)
    obtain ⟨-, r2⟩ := days_rel h1 h2 k
    obtain ⟨x, hx, ex⟩ := sumF_N r2 O.nT (Nat.le_refl _)
    have fin : CI (setM h 82 (passN O N k)) O M V KO KM KV kp T S ∧ ∀ i, 98 ≤ i → setM h 82 (passN O N k) i = h i := ⟨H1, fun i hi => sMo _ _ (by omega)⟩
    have FA := c_X3_fruitOfAll (d := d + 4) (m := 82) H1.cO HL hT
    rw [fsum_F r2 O.nT (Nat.le_refl _)] at FA
    rw [gaN]
    have ih := ih (k + 1) (by omega)
    refine X.iload iX6_gathered_16 rfl ?_
    refine X.pushi (v := nI 60) iX6_gathered_17 ?_
    refine X.cmgt iX6_gathered_19 (fun c19 => ?_) (fun c19 => ?_)
    · exact absurd c19 (nI_nlt (show k ≤ 60 by omega) (by decide))
    · refine X.aload iX6_gathered_22 rfl ?_
      refine X.getf iX6_gathered_23 (by first | exact H.c0 | exact H.cO.1 | exact H.cO.2.1 | exact H.cO.2.2.1 | exact H.cO.2.2.2.1 | exact H.cO.2.2.2.2.1 | exact H.cO.2.2.2.2.2 | exact H.cM.1 | exact H.cM.2.1 | exact H.cM.2.2 | exact H1.c0 | exact H1.cO.1 | exact H1.cM.1 | exact HL.1 | assumption) rfl ?_
      refine X.aload iX6_gathered_26 rfl ?_
      refine X.getf iX6_gathered_27 (by first | exact H.c0 | exact H.cO.1 | exact H.cO.2.1 | exact H.cO.2.2.1 | exact H.cO.2.2.2.1 | exact H.cO.2.2.2.2.1 | exact H.cO.2.2.2.2.2 | exact H.cM.1 | exact H.cM.2.1 | exact H.cM.2.2 | exact H1.c0 | exact H1.cO.1 | exact H1.cM.1 | exact HL.1 | assumption) rfl ?_
      refine X.callVi iX6_gathered_30 (FA) (by first | exact H.c0 | exact H.cO.1 | exact H.cO.2.1 | exact H.cO.2.2.1 | exact H.cO.2.2.2.1 | exact H.cO.2.2.2.2.1 | exact H.cO.2.2.2.2.2 | exact H.cM.1 | exact H.cM.2.1 | exact H.cM.2.2 | exact H1.c0 | exact H1.cO.1 | exact H1.cM.1 | exact HL.1 | assumption) rfl rfl (xfit _ _ _) (Nat.le_of_ble_eq_true rfl) ?_
      refine X.ifne iX6_gathered_33 (fun c33 => ?_) (fun c33 => ?_)
      · refine X.aload iX6_gathered_38 rfl ?_
        refine X.getf iX6_gathered_39 (by first | exact H.c0 | exact H.cO.1 | exact H.cO.2.1 | exact H.cO.2.2.1 | exact H.cO.2.2.2.1 | exact H.cO.2.2.2.2.1 | exact H.cO.2.2.2.2.2 | exact H.cM.1 | exact H.cM.2.1 | exact H.cM.2.2 | exact H1.c0 | exact H1.cO.1 | exact H1.cM.1 | exact HL.1 | assumption) rfl ?_
        refine X.aload iX6_gathered_42 rfl ?_
        refine X.getf iX6_gathered_43 (by first | exact H.c0 | exact H.cO.1 | exact H.cO.2.1 | exact H.cO.2.2.1 | exact H.cO.2.2.2.1 | exact H.cO.2.2.2.2.1 | exact H.cO.2.2.2.2.2 | exact H.cM.1 | exact H.cM.2.1 | exact H.cM.2.2 | exact H1.c0 | exact H1.cO.1 | exact H1.cM.1 | exact HL.1 | assumption) rfl ?_
        refine X.callVv iX6_gathered_46 (c_X3_pass (d := d) (m := 82) H.cO (by omega) h1.ki hL hT) (by first | exact H.c0 | exact H.cO.1 | exact H.cO.2.1 | exact H.cO.2.2.1 | exact H.cO.2.2.2.1 | exact H.cO.2.2.2.2.1 | exact H.cO.2.2.2.2.2 | exact H.cM.1 | exact H.cM.2.1 | exact H.cM.2.2 | exact H1.c0 | exact H1.cO.1 | exact H1.cM.1 | exact HL.1 | assumption) rfl rfl (xfit _ _ _) (Nat.le_of_ble_eq_true rfl) ?_
        refine X.iinc iX6_gathered_49 rfl rfl rfl ?_
        refine X.goto iX6_gathered_52 ?_
        have s0 : 0 < sumF (gbN nw O.nT O.nL k) O.nT := by
          rw [ex] at c33 ⊢
          by_cases q : x = 0
          · exact absurd (by rw [q]; rfl) c33
          · exact (nI_ltI (a := 0) (by decide) (by omega)).mpr (by omega)
        rw [nI_1, if_pos s0]
        exact ih
      · refine X.iload iX6_gathered_36 rfl ?_
        have s0 : sumF (gbN nw O.nT O.nL k) O.nT = 0 := c33
        have s1 : ¬ 0 < sumF (gbN nw O.nT O.nL k) O.nT := by rw [s0]; decide
        exact X.iret iX6_gathered_37 ⟨by rw [if_neg s1, if_pos (show k < 61 by omega)], fin⟩
theorem c_X6_gathered {d : Nat} {nw : Nat → Int32} {h : XH} {O : Oc} {M : Mo} {V : Hi} {KO : Oc} {KM : Mo} {KV : Hi} {kp : Bool} {T : Ta} {S : Nat → Sh} (H : CI h O M V KO KM KV kp T S) (h1 : RO O nw) (h2 : RM O.nT O.nL M nw) : MetC mX6_gathered (d + 5) [.ref 0] h (if gaN nw O.nT O.nL 61 0 < 61 then nI (gaN nw O.nT O.nL 61 0) else -4) O M V KO KM KV kp T S := by
  obtain ⟨L, iL⟩ := H.cL
  have B := c_X2_become (d := d + 3) (m := 82) (n := 7) (h := h) (M := L) H.cM (by omega)
  rw [IsM.set iL] at B
  refine MetX.of (by decide) rfl (Nat.le_of_ble_eq_true rfl) ?_
  refine X.aload iX6_gathered_0 rfl ?_
  refine X.getf iX6_gathered_1 (by first | exact H.c0 | exact H.cO.1 | exact H.cO.2.1 | exact H.cO.2.2.1 | exact H.cO.2.2.2.1 | exact H.cO.2.2.2.2.1 | exact H.cO.2.2.2.2.2 | exact H.cM.1 | exact H.cM.2.1 | exact H.cM.2.2 | exact H1.c0 | exact H1.cO.1 | exact H1.cM.1 | exact HL.1 | assumption) rfl ?_
  refine X.aload iX6_gathered_4 rfl ?_
  refine X.getf iX6_gathered_5 (by first | exact H.c0 | exact H.cO.1 | exact H.cO.2.1 | exact H.cO.2.2.1 | exact H.cO.2.2.2.1 | exact H.cO.2.2.2.2.1 | exact H.cO.2.2.2.2.2 | exact H.cM.1 | exact H.cM.2.1 | exact H.cM.2.2 | exact H1.c0 | exact H1.cO.1 | exact H1.cM.1 | exact HL.1 | assumption) rfl ?_
  refine X.getf iX6_gathered_8 (by first | exact H.c0 | exact H.cO.1 | exact H.cO.2.1 | exact H.cO.2.2.1 | exact H.cO.2.2.2.1 | exact H.cO.2.2.2.2.1 | exact H.cO.2.2.2.2.2 | exact H.cM.1 | exact H.cM.2.1 | exact H.cM.2.2 | exact H1.c0 | exact H1.cO.1 | exact H1.cM.1 | exact HL.1 | assumption) rfl ?_
  refine X.callVv iX6_gathered_11 B iL.1 rfl rfl (xfit _ _ _) (Nat.le_of_ble_eq_true rfl) ?_
  refine X.pushi (v := nI 0) iX6_gathered_14 ?_
  refine X.istore iX6_gathered_15 rfl rfl ?_
  exact gath_loop (N := cpM M L) H h1 (cpM_rel h1.2.2.1 h1.2.2.2.1 h2) 61 0 rfl
theorem lb_gS (O : Oc) (fr day s : Int32) (t k : Nat) : lbI O.hi O.ri O.ki O.le t O.nL (day + nI k) s (gS O fr day t (fun _ => s) O.ba k).1 O.ba O.wa = (gS O fr day t (fun _ => s) O.ba (k + 1)).1 := by
  rw [gS, lbI]
  rfl
theorem c_X6_fruit_bad {d : Nat} {t n : Int32} {nw : Nat → Int32} {h : XH} {O : Oc} {M : Mo} {V : Hi} {KO : Oc} {KM : Mo} {KV : Hi} {kp : Bool} {T : Ta} {S : Nat → Sh} (H : CI h O M V KO KM KV kp T S) (h1 : RO O nw) (hb : isT nw t = false ∨ inI n (nI 0) (nI 60) = false) : MetI mX6_fruit (d + 1, 0, 0) [.ref 0, .int t, .int n] h (-1) := by
  have HT := c_X3_hasTree (d := d) (t := t) H.cO
  rw [has_T h1] at HT
  refine MetX.of (by decide) rfl (Nat.le_of_ble_eq_true rfl) ?_
  refine X.aload iX6_fruit_0 rfl ?_
  refine X.getf iX6_fruit_1 (by first | exact H.c0 | exact H.cO.1 | exact H.cO.2.1 | exact H.cO.2.2.1 | exact H.cO.2.2.2.1 | exact H.cO.2.2.2.2.1 | exact H.cO.2.2.2.2.2 | exact H.cM.1 | exact H.cM.2.1 | exact H.cM.2.2 | exact H1.c0 | exact H1.cO.1 | exact H1.cM.1 | exact HL.1 | assumption) rfl ?_
  refine X.iload iX6_fruit_4 rfl ?_
  refine X.callVi iX6_fruit_5 (HT) (by first | exact H.c0 | exact H.cO.1 | exact H.cO.2.1 | exact H.cO.2.2.1 | exact H.cO.2.2.2.1 | exact H.cO.2.2.2.2.1 | exact H.cO.2.2.2.2.2 | exact H.cM.1 | exact H.cM.2.1 | exact H.cM.2.2 | exact H1.c0 | exact H1.cO.1 | exact H1.cM.1 | exact HL.1 | assumption) rfl rfl (xfit _ _ _) (Nat.le_of_ble_eq_true rfl) ?_
  refine X.ifeqB iX6_fruit_8 (fun c8 => ?_) (fun c8 => ?_)
  · refine X.pushi iX6_fruit_21 ?_
    exact X.iret iX6_fruit_22 ⟨rfl, rfl⟩
  · refine X.iload iX6_fruit_11 rfl ?_
    refine X.pushi (v := nI 0) iX6_fruit_12 ?_
    refine X.pushi (v := nI 60) iX6_fruit_13 ?_
    refine X.callSi iX6_fruit_15 (c_X6_within d h n (nI 0) (nI 60)) rfl rfl (xfit _ _ _) (Nat.le_of_ble_eq_true rfl) ?_
    refine X.ifneB iX6_fruit_18 (fun c18 => ?_) (fun c18 => ?_)
    · exact absurd hb (fun z => z.elim (fun y => Bool.noConfusion (c8.symm.trans y)) (fun y => Bool.noConfusion (c18.symm.trans y)))
    · refine X.pushi iX6_fruit_21 ?_
      exact X.iret iX6_fruit_22 ⟨rfl, rfl⟩
theorem c_X6_fruit {d t n : Nat} {nw : Nat → Int32} {h : XH} {O : Oc} {M : Mo} {V : Hi} {KO : Oc} {KM : Mo} {KV : Hi} {kp : Bool} {T : Ta} {S : Nat → Sh} (H : CI h O M V KO KM KV kp T S) (h1 : RO O nw) (h2 : RM O.nT O.nL M nw) (ht : t < O.nT) (hn : n ≤ 60) : MetI mX6_fruit (d + 5, 0, 0) [.ref 0, .int (nI t), .int (nI n)] h (gbN nw O.nT O.nL n (9 + 3 * t + 1)) := by
  have hT := h1.2.2.1
  have hL := h1.2.2.2.1
  have HT := c_X3_hasTree (d := d + 4) (t := nI t) H.cO
  rw [has_T h1] at HT
  have eT := isT_of (RM.wf h1 h2) ht
  rw [(tree_law h1 h2 n).1 t ht]
  have P : ∀ k, k ≤ n → X xT mX6_fruit (xR (d + 5, 0, 0)) (0, 0) 52 [some (.ref 0), some (.int (nI t)), some (.int (nI n)), some (.int (atL M.ln t)), some (.int (gS O (M.fr t) M.day t (fun _ => atL M.ln t) O.ba k).1), some (.int (nI k))] [] h (fun v h' => v = some (.int (gS O (M.fr t) M.day t (fun _ => atL M.ln t) O.ba n).1) ∧ h' = h) := by
    refine xloop n ?_ ?_
    · refine X.iload iX6_fruit_52 rfl ?_
      refine X.iload iX6_fruit_54 rfl ?_
      refine X.cmge iX6_fruit_55 (fun c55 => ?_) (fun c55 => ?_)
      · refine X.iload iX6_fruit_90 rfl ?_
        exact X.iret iX6_fruit_92 ⟨rfl, rfl⟩
      · exact absurd (Int32.le_refl _) c55
    · intro k hk ih
      refine X.iload iX6_fruit_52 rfl ?_
      refine X.iload iX6_fruit_54 rfl ?_
      refine X.cmge iX6_fruit_55 (fun c55 => ?_) (fun c55 => ?_)
      · exact absurd c55 (nI_ge hk (by omega))
      · refine X.aload iX6_fruit_58 rfl ?_
        refine X.getf iX6_fruit_59 (by first | exact H.c0 | exact H.cO.1 | exact H.cO.2.1 | exact H.cO.2.2.1 | exact H.cO.2.2.2.1 | exact H.cO.2.2.2.2.1 | exact H.cO.2.2.2.2.2 | exact H.cM.1 | exact H.cM.2.1 | exact H.cM.2.2 | exact H1.c0 | exact H1.cO.1 | exact H1.cM.1 | exact HL.1 | assumption) rfl ?_
        refine X.iload iX6_fruit_62 rfl ?_
        refine X.aload iX6_fruit_63 rfl ?_
        refine X.getf iX6_fruit_64 (by first | exact H.c0 | exact H.cO.1 | exact H.cO.2.1 | exact H.cO.2.2.1 | exact H.cO.2.2.2.1 | exact H.cO.2.2.2.2.1 | exact H.cO.2.2.2.2.2 | exact H.cM.1 | exact H.cM.2.1 | exact H.cM.2.2 | exact H1.c0 | exact H1.cO.1 | exact H1.cM.1 | exact HL.1 | assumption) rfl ?_
        refine X.getf iX6_fruit_67 (by first | exact H.c0 | exact H.cO.1 | exact H.cO.2.1 | exact H.cO.2.2.1 | exact H.cO.2.2.2.1 | exact H.cO.2.2.2.2.1 | exact H.cO.2.2.2.2.2 | exact H.cM.1 | exact H.cM.2.1 | exact H.cM.2.2 | exact H1.c0 | exact H1.cO.1 | exact H1.cM.1 | exact HL.1 | assumption) rfl ?_
        refine X.getf iX6_fruit_70 (by first | exact H.c0 | exact H.cO.1 | exact H.cO.2.1 | exact H.cO.2.2.1 | exact H.cO.2.2.2.1 | exact H.cO.2.2.2.2.1 | exact H.cO.2.2.2.2.2 | exact H.cM.1 | exact H.cM.2.1 | exact H.cM.2.2 | exact H1.c0 | exact H1.cO.1 | exact H1.cM.1 | exact HL.1 | assumption) rfl ?_
        refine X.iload iX6_fruit_73 rfl ?_
        refine X.iadd iX6_fruit_75 ?_
        refine X.iload iX6_fruit_76 rfl ?_
        refine X.iload iX6_fruit_77 rfl ?_
        refine X.callVi iX6_fruit_79 (c_X3_leftBehind (d := d) H.cO h1.ki hL (by omega)) (by first | exact H.c0 | exact H.cO.1 | exact H.cO.2.1 | exact H.cO.2.2.1 | exact H.cO.2.2.2.1 | exact H.cO.2.2.2.2.1 | exact H.cO.2.2.2.2.2 | exact H.cM.1 | exact H.cM.2.1 | exact H.cM.2.2 | exact H1.c0 | exact H1.cO.1 | exact H1.cM.1 | exact HL.1 | assumption) rfl rfl (xfit _ _ _) (Nat.le_of_ble_eq_true rfl) ?_
        refine X.istore iX6_fruit_82 rfl rfl ?_
        refine X.iinc iX6_fruit_84 rfl rfl rfl ?_
        refine X.goto iX6_fruit_87 ?_
        rw [nI_1, lb_gS]
        exact ih
  refine MetX.of (by decide) rfl (Nat.le_of_ble_eq_true rfl) ?_
  refine X.aload iX6_fruit_0 rfl ?_
  refine X.getf iX6_fruit_1 (by first | exact H.c0 | exact H.cO.1 | exact H.cO.2.1 | exact H.cO.2.2.1 | exact H.cO.2.2.2.1 | exact H.cO.2.2.2.2.1 | exact H.cO.2.2.2.2.2 | exact H.cM.1 | exact H.cM.2.1 | exact H.cM.2.2 | exact H1.c0 | exact H1.cO.1 | exact H1.cM.1 | exact HL.1 | assumption) rfl ?_
  refine X.iload iX6_fruit_4 rfl ?_
  refine X.callVi iX6_fruit_5 (HT) (by first | exact H.c0 | exact H.cO.1 | exact H.cO.2.1 | exact H.cO.2.2.1 | exact H.cO.2.2.2.1 | exact H.cO.2.2.2.2.1 | exact H.cO.2.2.2.2.2 | exact H.cM.1 | exact H.cM.2.1 | exact H.cM.2.2 | exact H1.c0 | exact H1.cO.1 | exact H1.cM.1 | exact HL.1 | assumption) rfl rfl (xfit _ _ _) (Nat.le_of_ble_eq_true rfl) ?_
  refine X.ifeqB iX6_fruit_8 (fun c8 => ?_) (fun c8 => ?_)
  · exact absurd (c8.symm.trans eT) (by decide)
  · refine X.iload iX6_fruit_11 rfl ?_
    refine X.pushi (v := nI 0) iX6_fruit_12 ?_
    refine X.pushi (v := nI 60) iX6_fruit_13 ?_
    refine X.callSi iX6_fruit_15 (c_X6_within (d + 4) h (nI n) (nI 0) (nI 60)) rfl rfl (xfit _ _ _) (Nat.le_of_ble_eq_true rfl) ?_
    refine X.ifneB iX6_fruit_18 (fun c18 => ?_) (fun c18 => ?_)
    · refine X.aload iX6_fruit_23 rfl ?_
      refine X.getf iX6_fruit_24 (by first | exact H.c0 | exact H.cO.1 | exact H.cO.2.1 | exact H.cO.2.2.1 | exact H.cO.2.2.2.1 | exact H.cO.2.2.2.2.1 | exact H.cO.2.2.2.2.2 | exact H.cM.1 | exact H.cM.2.1 | exact H.cM.2.2 | exact H1.c0 | exact H1.cO.1 | exact H1.cM.1 | exact HL.1 | assumption) rfl ?_
      refine X.getf iX6_fruit_27 (by first | exact H.c0 | exact H.cO.1 | exact H.cO.2.1 | exact H.cO.2.2.1 | exact H.cO.2.2.2.1 | exact H.cO.2.2.2.2.1 | exact H.cO.2.2.2.2.2 | exact H.cM.1 | exact H.cM.2.1 | exact H.cM.2.2 | exact H1.c0 | exact H1.cO.1 | exact H1.cM.1 | exact HL.1 | assumption) rfl ?_
      refine X.iload iX6_fruit_30 rfl ?_
      refine X.callVi iX6_fruit_31 (c_X2_leaningAt (d := d + 4) H.cM) (by first | exact H.c0 | exact H.cO.1 | exact H.cO.2.1 | exact H.cO.2.2.1 | exact H.cO.2.2.2.1 | exact H.cO.2.2.2.2.1 | exact H.cO.2.2.2.2.2 | exact H.cM.1 | exact H.cM.2.1 | exact H.cM.2.2 | exact H1.c0 | exact H1.cO.1 | exact H1.cM.1 | exact HL.1 | assumption) rfl rfl (xfit _ _ _) (Nat.le_of_ble_eq_true rfl) ?_
      refine X.istore iX6_fruit_34 rfl rfl ?_
      refine X.aload iX6_fruit_35 rfl ?_
      refine X.getf iX6_fruit_36 (by first | exact H.c0 | exact H.cO.1 | exact H.cO.2.1 | exact H.cO.2.2.1 | exact H.cO.2.2.2.1 | exact H.cO.2.2.2.2.1 | exact H.cO.2.2.2.2.2 | exact H.cM.1 | exact H.cM.2.1 | exact H.cM.2.2 | exact H1.c0 | exact H1.cO.1 | exact H1.cM.1 | exact HL.1 | assumption) rfl ?_
      refine X.getf iX6_fruit_39 (by first | exact H.c0 | exact H.cO.1 | exact H.cO.2.1 | exact H.cO.2.2.1 | exact H.cO.2.2.2.1 | exact H.cO.2.2.2.2.1 | exact H.cO.2.2.2.2.2 | exact H.cM.1 | exact H.cM.2.1 | exact H.cM.2.2 | exact H1.c0 | exact H1.cO.1 | exact H1.cM.1 | exact HL.1 | assumption) rfl ?_
      refine X.getf iX6_fruit_42 (by first | exact H.c0 | exact H.cO.1 | exact H.cO.2.1 | exact H.cO.2.2.1 | exact H.cO.2.2.2.1 | exact H.cO.2.2.2.2.1 | exact H.cO.2.2.2.2.2 | exact H.cM.1 | exact H.cM.2.1 | exact H.cM.2.2 | exact H1.c0 | exact H1.cO.1 | exact H1.cM.1 | exact HL.1 | assumption) rfl ?_
      refine X.iload iX6_fruit_45 rfl ?_
      refine X.ialdN iX6_fruit_46 (by first | exact H.c0 | exact H.cO.1 | exact H.cO.2.1 | exact H.cO.2.2.1 | exact H.cO.2.2.2.1 | exact H.cO.2.2.2.2.1 | exact H.cO.2.2.2.2.2 | exact H.cM.1 | exact H.cM.2.1 | exact H.cM.2.2 | exact H1.c0 | exact H1.cO.1 | exact H1.cM.1 | exact HL.1 | assumption) (by omega) (by decide) ?_
      refine X.istore iX6_fruit_47 rfl rfl ?_
      refine X.pushi (v := nI 0) iX6_fruit_49 ?_
      refine X.istore iX6_fruit_50 rfl rfl ?_
      exact P 0 (Nat.zero_le _)
    · exact absurd (c18.symm.trans (inI_of (Nat.zero_le _) hn (by decide))) (by decide)
theorem c_X6_longer_bad {d : Nat} {l t : Int32} {nw : Nat → Int32} {h : XH} {O : Oc} {M : Mo} {V : Hi} {KO : Oc} {KM : Mo} {KV : Hi} {kp : Bool} {T : Ta} {S : Nat → Sh} (H : CI h O M V KO KM KV kp T S) (h1 : RO O nw) (hb : isL nw l = false ∨ isT nw t = false) : MetI mX6_longer (d + 1, 0, 0) [.ref 0, .int l, .int t] h (-1) := by
  have HL := c_X3_hasLadder (d := d) (t := l) H.cO
  rw [has_L h1] at HL
  have HT := c_X3_hasTree (d := d) (t := t) H.cO
  rw [has_T h1] at HT
  refine MetX.of (by decide) rfl (Nat.le_of_ble_eq_true rfl) ?_
  refine X.aload iX6_longer_0 rfl ?_
  refine X.getf iX6_longer_1 (by first | exact H.c0 | exact H.cO.1 | exact H.cO.2.1 | exact H.cO.2.2.1 | exact H.cO.2.2.2.1 | exact H.cO.2.2.2.2.1 | exact H.cO.2.2.2.2.2 | exact H.cM.1 | exact H.cM.2.1 | exact H.cM.2.2 | exact H1.c0 | exact H1.cO.1 | exact H1.cM.1 | exact HL.1 | assumption) rfl ?_
  refine X.iload iX6_longer_4 rfl ?_
  refine X.callVi iX6_longer_5 (HL) (by first | exact H.c0 | exact H.cO.1 | exact H.cO.2.1 | exact H.cO.2.2.1 | exact H.cO.2.2.2.1 | exact H.cO.2.2.2.2.1 | exact H.cO.2.2.2.2.2 | exact H.cM.1 | exact H.cM.2.1 | exact H.cM.2.2 | exact H1.c0 | exact H1.cO.1 | exact H1.cM.1 | exact HL.1 | assumption) rfl rfl (xfit _ _ _) (Nat.le_of_ble_eq_true rfl) ?_
  refine X.ifeqB iX6_longer_8 (fun c8 => ?_) (fun c8 => ?_)
  · refine X.pushi iX6_longer_22 ?_
    exact X.iret iX6_longer_23 ⟨rfl, rfl⟩
  · refine X.aload iX6_longer_11 rfl ?_
    refine X.getf iX6_longer_12 (by first | exact H.c0 | exact H.cO.1 | exact H.cO.2.1 | exact H.cO.2.2.1 | exact H.cO.2.2.2.1 | exact H.cO.2.2.2.2.1 | exact H.cO.2.2.2.2.2 | exact H.cM.1 | exact H.cM.2.1 | exact H.cM.2.2 | exact H1.c0 | exact H1.cO.1 | exact H1.cM.1 | exact HL.1 | assumption) rfl ?_
    refine X.iload iX6_longer_15 rfl ?_
    refine X.callVi iX6_longer_16 (HT) (by first | exact H.c0 | exact H.cO.1 | exact H.cO.2.1 | exact H.cO.2.2.1 | exact H.cO.2.2.2.1 | exact H.cO.2.2.2.2.1 | exact H.cO.2.2.2.2.2 | exact H.cM.1 | exact H.cM.2.1 | exact H.cM.2.2 | exact H1.c0 | exact H1.cO.1 | exact H1.cM.1 | exact HL.1 | assumption) rfl rfl (xfit _ _ _) (Nat.le_of_ble_eq_true rfl) ?_
    refine X.ifneB iX6_longer_19 (fun c19 => ?_) (fun c19 => ?_)
    · exact absurd hb (fun z => z.elim (fun y => Bool.noConfusion (c8.symm.trans y)) (fun y => Bool.noConfusion (c19.symm.trans y)))
    · refine X.pushi iX6_longer_22 ?_
      exact X.iret iX6_longer_23 ⟨rfl, rfl⟩
theorem c_X6_longer {d l t le : Nat} {nw : Nat → Int32} {h : XH} {O : Oc} {M : Mo} {V : Hi} {KO : Oc} {KM : Mo} {KV : Hi} {kp : Bool} {T : Ta} {S : Nat → Sh} (H : CI h O M V KO KM KV kp T S) (h1 : RO O nw) (h2 : RM O.nT O.nL M nw) (hl : l < O.nL) (ht : t < O.nT) (hle : le ≤ 9) (el : nw (27 + 4 * l + 1) = nI le) : MetI mX6_longer (d + 2, 0, 0) [.ref 0, .int (nI l), .int (nI t)] h (lngF (nw (27 + 4 * l + 0)) (nw (9 + 3 * t + 0)) (nw 2) le (10 - le) 0) := by
  have hT := h1.2.2.1
  have hL := h1.2.2.2.1
  have CL := c_X3_hasLadder (d := d + 1) (t := nI l) H.cO
  rw [has_L h1] at CL
  have CT := c_X3_hasTree (d := d + 1) (t := nI t) H.cO
  rw [has_T h1] at CT
  have eT := isT_of (RM.wf h1 h2) ht
  have eL := isL_of (RM.wf h1 h2) hl
  obtain ⟨r1, r2, -⟩ := h1.2.2.2.2.2.2.2.2.2 l hl
  have eh := (h1.2.2.2.2.2.2.2.2.1 t ht).1
  have ele : O.le l = nI le := by rw [r2, ← el, show 27 + 4 * l + 1 = 28 + 4 * l by omega]
  rw [show nw (27 + 4 * l + 0) = O.ki l from r1.symm, show nw (9 + 3 * t + 0) = O.hi t from eh.symm, ← h2.1]
  have P : ∀ f m, le + m + f = 10 → X xT mX6_longer (xR (d + 2, 0, 0)) (0, 0) 48 [some (.ref 0), some (.int (nI l)), some (.int (nI t)), some (.int (O.ki l)), some (.int (nI le)), some (.int (nI m))] [] h (fun v h' => v = some (.int (lngF (O.ki l) (O.hi t) M.day le f m)) ∧ h' = h) := by
    intro f
    induction f with
    | zero =>
      intro m hm
      rw [lngF]
      refine X.iload iX6_longer_48 rfl ?_
      refine X.iload iX6_longer_50 rfl ?_
      refine X.iadd iX6_longer_52 ?_
      refine X.pushi (v := nI 9) iX6_longer_53 ?_
      rw [nI_add]
      refine X.cmgt iX6_longer_55 (fun c55 => ?_) (fun c55 => ?_)
      · refine X.pushi iX6_longer_98 ?_
        exact X.iret iX6_longer_100 ⟨rfl, rfl⟩
      · exact absurd (nI_lt (show 9 < le + m by omega) (by omega)) c55
    | succ f ih =>
      intro m hm
      rw [lngF]
      have ih := ih (m + 1) (by omega)
      refine X.iload iX6_longer_48 rfl ?_
      refine X.iload iX6_longer_50 rfl ?_
      refine X.iadd iX6_longer_52 ?_
      refine X.pushi (v := nI 9) iX6_longer_53 ?_
      rw [nI_add]
      refine X.cmgt iX6_longer_55 (fun c55 => ?_) (fun c55 => ?_)
      · exact absurd c55 (nI_nlt (show le + m ≤ 9 by omega) (by decide))
      · refine X.iload iX6_longer_58 rfl ?_
        refine X.iload iX6_longer_59 rfl ?_
        refine X.iload iX6_longer_61 rfl ?_
        refine X.iadd iX6_longer_63 ?_
        rw [nI_add]
        refine X.aload iX6_longer_64 rfl ?_
        refine X.getf iX6_longer_65 (by first | exact H.c0 | exact H.cO.1 | exact H.cO.2.1 | exact H.cO.2.2.1 | exact H.cO.2.2.2.1 | exact H.cO.2.2.2.2.1 | exact H.cO.2.2.2.2.2 | exact H.cM.1 | exact H.cM.2.1 | exact H.cM.2.2 | exact H1.c0 | exact H1.cO.1 | exact H1.cM.1 | exact HL.1 | assumption) rfl ?_
        refine X.getf iX6_longer_68 (by first | exact H.c0 | exact H.cO.1 | exact H.cO.2.1 | exact H.cO.2.2.1 | exact H.cO.2.2.2.1 | exact H.cO.2.2.2.2.1 | exact H.cO.2.2.2.2.2 | exact H.cM.1 | exact H.cM.2.1 | exact H.cM.2.2 | exact H1.c0 | exact H1.cO.1 | exact H1.cM.1 | exact HL.1 | assumption) rfl ?_
        refine X.getf iX6_longer_71 (by first | exact H.c0 | exact H.cO.1 | exact H.cO.2.1 | exact H.cO.2.2.1 | exact H.cO.2.2.2.1 | exact H.cO.2.2.2.2.1 | exact H.cO.2.2.2.2.2 | exact H.cM.1 | exact H.cM.2.1 | exact H.cM.2.2 | exact H1.c0 | exact H1.cO.1 | exact H1.cM.1 | exact HL.1 | assumption) rfl ?_
        refine X.callSi iX6_longer_74 (c_X6_reachOfK (d := d) (ki := O.ki) (nI (le + m)) M.day h1.ki hl) rfl rfl (xfit _ _ _) (Nat.le_of_ble_eq_true rfl) ?_
        refine X.aload iX6_longer_77 rfl ?_
        refine X.getf iX6_longer_78 (by first | exact H.c0 | exact H.cO.1 | exact H.cO.2.1 | exact H.cO.2.2.1 | exact H.cO.2.2.2.1 | exact H.cO.2.2.2.2.1 | exact H.cO.2.2.2.2.2 | exact H.cM.1 | exact H.cM.2.1 | exact H.cM.2.2 | exact H1.c0 | exact H1.cO.1 | exact H1.cM.1 | exact HL.1 | assumption) rfl ?_
        refine X.getf iX6_longer_81 (by first | exact H.c0 | exact H.cO.1 | exact H.cO.2.1 | exact H.cO.2.2.1 | exact H.cO.2.2.2.1 | exact H.cO.2.2.2.2.1 | exact H.cO.2.2.2.2.2 | exact H.cM.1 | exact H.cM.2.1 | exact H.cM.2.2 | exact H1.c0 | exact H1.cO.1 | exact H1.cM.1 | exact HL.1 | assumption) rfl ?_
        refine X.iload iX6_longer_84 rfl ?_
        refine X.ialdN iX6_longer_85 (by first | exact H.c0 | exact H.cO.1 | exact H.cO.2.1 | exact H.cO.2.2.1 | exact H.cO.2.2.2.1 | exact H.cO.2.2.2.2.1 | exact H.cO.2.2.2.2.2 | exact H.cM.1 | exact H.cM.2.1 | exact H.cM.2.2 | exact H1.c0 | exact H1.cO.1 | exact H1.cM.1 | exact HL.1 | assumption) (by omega) (by decide) ?_
        refine X.cmlt iX6_longer_86 (fun c86 => ?_) (fun c86 => ?_)
        · refine X.iinc iX6_longer_92 rfl rfl rfl ?_
          refine X.goto iX6_longer_95 ?_
          rw [nI_1, if_neg (Int32.not_le.mpr c86)]
          exact ih
        · refine X.iload iX6_longer_89 rfl ?_
          exact X.iret iX6_longer_91 ⟨(by rw [if_pos (Int32.not_lt.mp c86)]), rfl⟩
  refine MetX.of (by decide) rfl (Nat.le_of_ble_eq_true rfl) ?_
  refine X.aload iX6_longer_0 rfl ?_
  refine X.getf iX6_longer_1 (by first | exact H.c0 | exact H.cO.1 | exact H.cO.2.1 | exact H.cO.2.2.1 | exact H.cO.2.2.2.1 | exact H.cO.2.2.2.2.1 | exact H.cO.2.2.2.2.2 | exact H.cM.1 | exact H.cM.2.1 | exact H.cM.2.2 | exact H1.c0 | exact H1.cO.1 | exact H1.cM.1 | exact HL.1 | assumption) rfl ?_
  refine X.iload iX6_longer_4 rfl ?_
  refine X.callVi iX6_longer_5 (CL) (by first | exact H.c0 | exact H.cO.1 | exact H.cO.2.1 | exact H.cO.2.2.1 | exact H.cO.2.2.2.1 | exact H.cO.2.2.2.2.1 | exact H.cO.2.2.2.2.2 | exact H.cM.1 | exact H.cM.2.1 | exact H.cM.2.2 | exact H1.c0 | exact H1.cO.1 | exact H1.cM.1 | exact HL.1 | assumption) rfl rfl (xfit _ _ _) (Nat.le_of_ble_eq_true rfl) ?_
  refine X.ifeqB iX6_longer_8 (fun c8 => ?_) (fun c8 => ?_)
  · exact absurd (c8.symm.trans eL) (by decide)
  · refine X.aload iX6_longer_11 rfl ?_
    refine X.getf iX6_longer_12 (by first | exact H.c0 | exact H.cO.1 | exact H.cO.2.1 | exact H.cO.2.2.1 | exact H.cO.2.2.2.1 | exact H.cO.2.2.2.2.1 | exact H.cO.2.2.2.2.2 | exact H.cM.1 | exact H.cM.2.1 | exact H.cM.2.2 | exact H1.c0 | exact H1.cO.1 | exact H1.cM.1 | exact HL.1 | assumption) rfl ?_
    refine X.iload iX6_longer_15 rfl ?_
    refine X.callVi iX6_longer_16 (CT) (by first | exact H.c0 | exact H.cO.1 | exact H.cO.2.1 | exact H.cO.2.2.1 | exact H.cO.2.2.2.1 | exact H.cO.2.2.2.2.1 | exact H.cO.2.2.2.2.2 | exact H.cM.1 | exact H.cM.2.1 | exact H.cM.2.2 | exact H1.c0 | exact H1.cO.1 | exact H1.cM.1 | exact HL.1 | assumption) rfl rfl (xfit _ _ _) (Nat.le_of_ble_eq_true rfl) ?_
    refine X.ifneB iX6_longer_19 (fun c19 => ?_) (fun c19 => ?_)
    · refine X.aload iX6_longer_24 rfl ?_
      refine X.getf iX6_longer_25 (by first | exact H.c0 | exact H.cO.1 | exact H.cO.2.1 | exact H.cO.2.2.1 | exact H.cO.2.2.2.1 | exact H.cO.2.2.2.2.1 | exact H.cO.2.2.2.2.2 | exact H.cM.1 | exact H.cM.2.1 | exact H.cM.2.2 | exact H1.c0 | exact H1.cO.1 | exact H1.cM.1 | exact HL.1 | assumption) rfl ?_
      refine X.getf iX6_longer_28 (by first | exact H.c0 | exact H.cO.1 | exact H.cO.2.1 | exact H.cO.2.2.1 | exact H.cO.2.2.2.1 | exact H.cO.2.2.2.2.1 | exact H.cO.2.2.2.2.2 | exact H.cM.1 | exact H.cM.2.1 | exact H.cM.2.2 | exact H1.c0 | exact H1.cO.1 | exact H1.cM.1 | exact HL.1 | assumption) rfl ?_
      refine X.iload iX6_longer_31 rfl ?_
      refine X.ialdN iX6_longer_32 (by first | exact H.c0 | exact H.cO.1 | exact H.cO.2.1 | exact H.cO.2.2.1 | exact H.cO.2.2.2.1 | exact H.cO.2.2.2.2.1 | exact H.cO.2.2.2.2.2 | exact H.cM.1 | exact H.cM.2.1 | exact H.cM.2.2 | exact H1.c0 | exact H1.cO.1 | exact H1.cM.1 | exact HL.1 | assumption) (by omega) (by decide) ?_
      refine X.istore iX6_longer_33 rfl rfl ?_
      refine X.aload iX6_longer_34 rfl ?_
      refine X.getf iX6_longer_35 (by first | exact H.c0 | exact H.cO.1 | exact H.cO.2.1 | exact H.cO.2.2.1 | exact H.cO.2.2.2.1 | exact H.cO.2.2.2.2.1 | exact H.cO.2.2.2.2.2 | exact H.cM.1 | exact H.cM.2.1 | exact H.cM.2.2 | exact H1.c0 | exact H1.cO.1 | exact H1.cM.1 | exact HL.1 | assumption) rfl ?_
      refine X.getf iX6_longer_38 (by first | exact H.c0 | exact H.cO.1 | exact H.cO.2.1 | exact H.cO.2.2.1 | exact H.cO.2.2.2.1 | exact H.cO.2.2.2.2.1 | exact H.cO.2.2.2.2.2 | exact H.cM.1 | exact H.cM.2.1 | exact H.cM.2.2 | exact H1.c0 | exact H1.cO.1 | exact H1.cM.1 | exact HL.1 | assumption) rfl ?_
      refine X.iload iX6_longer_41 rfl ?_
      refine X.ialdN iX6_longer_42 (by first | exact H.c0 | exact H.cO.1 | exact H.cO.2.1 | exact H.cO.2.2.1 | exact H.cO.2.2.2.1 | exact H.cO.2.2.2.2.1 | exact H.cO.2.2.2.2.2 | exact H.cM.1 | exact H.cM.2.1 | exact H.cM.2.2 | exact H1.c0 | exact H1.cO.1 | exact H1.cM.1 | exact HL.1 | assumption) (by omega) (by decide) ?_
      rw [ele]
      refine X.istore iX6_longer_43 rfl rfl ?_
      refine X.pushi (v := nI 0) iX6_longer_45 ?_
      refine X.istore iX6_longer_46 rfl rfl ?_
      exact P (10 - le) 0 (by omega)
    · exact absurd (c19.symm.trans eT) (by decide)
theorem c_X6_larger_bad {d : Nat} {h : XH} {n g : Int32} (hb : inI n (nI 1) (nI 60) = false ∨ inI g (nI 1) (nI 999) = false) : MetI mX6_larger (d + 1, 0, 0) [.ref 0, .int n, .int g] h (-1) := by
  refine MetX.of (by decide) rfl (Nat.le_of_ble_eq_true rfl) ?_
  refine X.iload iX6_larger_0 rfl ?_
  refine X.pushi (v := nI 1) iX6_larger_1 ?_
  refine X.pushi (v := nI 60) iX6_larger_2 ?_
  refine X.callSi iX6_larger_4 (c_X6_within d h n (nI 1) (nI 60)) rfl rfl (xfit _ _ _) (Nat.le_of_ble_eq_true rfl) ?_
  refine X.ifeqB iX6_larger_7 (fun c7 => ?_) (fun c7 => ?_)
  · refine X.pushi iX6_larger_21 ?_
    exact X.iret iX6_larger_22 ⟨rfl, rfl⟩
  · refine X.iload iX6_larger_10 rfl ?_
    refine X.pushi (v := nI 1) iX6_larger_11 ?_
    refine X.pushi (v := nI 999) iX6_larger_12 ?_
    refine X.callSi iX6_larger_15 (c_X6_within d h g (nI 1) (nI 999)) rfl rfl (xfit _ _ _) (Nat.le_of_ble_eq_true rfl) ?_
    refine X.ifneB iX6_larger_18 (fun c18 => ?_) (fun c18 => ?_)
    · exact absurd hb (fun z => z.elim (fun y => Bool.noConfusion (c7.symm.trans y)) (fun y => Bool.noConfusion (c18.symm.trans y)))
    · refine X.pushi iX6_larger_21 ?_
      exact X.iret iX6_larger_22 ⟨rfl, rfl⟩
theorem c_X6_larger {d n : Nat} {g : Int32} {nw : Nat → Int32} {h : XH} {O : Oc} {M : Mo} {V : Hi} {KO : Oc} {KM : Mo} {KV : Hi} {kp : Bool} {T : Ta} {S : Nat → Sh} (H : CI h O M V KO KM KV kp T S) (h1 : RO O nw) (h2 : RM O.nT O.nL M nw) (hn1 : 1 ≤ n) (hn : n ≤ 60) (hg : inI g (nI 1) (nI 999) = true) : MetI mX6_larger (d + 6, 0, 0) [.ref 0, .int (nI n), .int g] h (lgF nw O.nT O.nL n g 30 1) := by
  have hT := h1.2.2.1
  have hL := h1.2.2.2.1
  have P2 : ∀ f b, b + f = 31 → 1 ≤ b → X xT mX6_larger (xR (d + 6, 0, 0)) (0, 0) 25 [some (.ref 0), some (.int (nI n)), some (.int g), some (.int (nI b)), none, none] [] h (fun v h' => v = some (.int (lgF nw O.nT O.nL n g f b)) ∧ h' = h) := by
    intro f
    induction f with
    | zero =>
      intro b hb hb1
      rw [lgF]
      refine X.iload iX6_larger_25 rfl ?_
      refine X.pushi (v := nI 30) iX6_larger_26 ?_
      refine X.cmgt iX6_larger_28 (fun c28 => ?_) (fun c28 => ?_)
      · refine X.pushi iX6_larger_97 ?_
        exact X.iret iX6_larger_99 ⟨rfl, rfl⟩
      · exact absurd (nI_lt (show 30 < b by omega) (by omega)) c28
    | succ f ih =>
      intro b hb hb1
      rw [lgF, larger_own h1 h2 hn ⟨hb1, by omega⟩]
      have ih := ih (b + 1) (by omega) (by omega)
      have P1 : ∀ k, k ≤ O.nT → X xT mX6_larger (xR (d + 6, 0, 0)) (0, 0) 37 [some (.ref 0), some (.int (nI n)), some (.int g), some (.int (nI b)), some (.int (sumI (fun t => gwF O M t (atM M t) (nI 0) (nI 0) n (nI b)) k)), some (.int (nI k))] [] h (fun v h' => v = some (.int (if g ≤ sumI (fun t => gwF O M t (atM M t) (nI 0) (nI 0) n (nI b)) O.nT then nI b else lgF nw O.nT O.nL n g f (b + 1))) ∧ h' = h) := by
        refine xloop O.nT ?_ ?_
        · refine X.iload iX6_larger_37 rfl ?_
          refine X.aload iX6_larger_39 rfl ?_
          refine X.getf iX6_larger_40 (by first | exact H.c0 | exact H.cO.1 | exact H.cO.2.1 | exact H.cO.2.2.1 | exact H.cO.2.2.2.1 | exact H.cO.2.2.2.2.1 | exact H.cO.2.2.2.2.2 | exact H.cM.1 | exact H.cM.2.1 | exact H.cM.2.2 | exact H1.c0 | exact H1.cO.1 | exact H1.cM.1 | exact HL.1 | assumption) rfl ?_
          refine X.getf iX6_larger_43 (by first | exact H.c0 | exact H.cO.1 | exact H.cO.2.1 | exact H.cO.2.2.1 | exact H.cO.2.2.2.1 | exact H.cO.2.2.2.2.1 | exact H.cO.2.2.2.2.2 | exact H.cM.1 | exact H.cM.2.1 | exact H.cM.2.2 | exact H1.c0 | exact H1.cO.1 | exact H1.cM.1 | exact HL.1 | assumption) rfl ?_
          refine X.cmge iX6_larger_46 (fun c46 => ?_) (fun c46 => ?_)
          · refine X.iload iX6_larger_83 rfl ?_
            refine X.iload iX6_larger_85 rfl ?_
            refine X.cmlt iX6_larger_86 (fun c86 => ?_) (fun c86 => ?_)
            · refine X.iinc iX6_larger_91 rfl rfl rfl ?_
              refine X.goto iX6_larger_94 ?_
              rw [nI_1, if_neg (Int32.not_le.mpr c86)]
              exact X.unset 4 rfl (X.unset 5 rfl ih)
            · refine X.iload iX6_larger_89 rfl ?_
              exact X.iret iX6_larger_90 ⟨(by rw [if_pos (Int32.not_lt.mp c86)]), rfl⟩
          · exact absurd (Int32.le_refl _) c46
        · intro k hk ih1
          refine X.iload iX6_larger_37 rfl ?_
          refine X.aload iX6_larger_39 rfl ?_
          refine X.getf iX6_larger_40 (by first | exact H.c0 | exact H.cO.1 | exact H.cO.2.1 | exact H.cO.2.2.1 | exact H.cO.2.2.2.1 | exact H.cO.2.2.2.2.1 | exact H.cO.2.2.2.2.2 | exact H.cM.1 | exact H.cM.2.1 | exact H.cM.2.2 | exact H1.c0 | exact H1.cO.1 | exact H1.cM.1 | exact HL.1 | assumption) rfl ?_
          refine X.getf iX6_larger_43 (by first | exact H.c0 | exact H.cO.1 | exact H.cO.2.1 | exact H.cO.2.2.1 | exact H.cO.2.2.2.1 | exact H.cO.2.2.2.2.1 | exact H.cO.2.2.2.2.2 | exact H.cM.1 | exact H.cM.2.1 | exact H.cM.2.2 | exact H1.c0 | exact H1.cO.1 | exact H1.cM.1 | exact HL.1 | assumption) rfl ?_
          refine X.cmge iX6_larger_46 (fun c46 => ?_) (fun c46 => ?_)
          · exact absurd c46 (nI_ge hk (by omega))
          · refine X.iload iX6_larger_49 rfl ?_
            refine X.aload iX6_larger_51 rfl ?_
            refine X.getf iX6_larger_52 (by first | exact H.c0 | exact H.cO.1 | exact H.cO.2.1 | exact H.cO.2.2.1 | exact H.cO.2.2.2.1 | exact H.cO.2.2.2.2.1 | exact H.cO.2.2.2.2.2 | exact H.cM.1 | exact H.cM.2.1 | exact H.cM.2.2 | exact H1.c0 | exact H1.cO.1 | exact H1.cM.1 | exact HL.1 | assumption) rfl ?_
            refine X.iload iX6_larger_55 rfl ?_
            refine X.aload iX6_larger_57 rfl ?_
            refine X.getf iX6_larger_58 (by first | exact H.c0 | exact H.cO.1 | exact H.cO.2.1 | exact H.cO.2.2.1 | exact H.cO.2.2.2.1 | exact H.cO.2.2.2.2.1 | exact H.cO.2.2.2.2.2 | exact H.cM.1 | exact H.cM.2.1 | exact H.cM.2.2 | exact H1.c0 | exact H1.cO.1 | exact H1.cM.1 | exact HL.1 | assumption) rfl ?_
            refine X.getf iX6_larger_61 (by first | exact H.c0 | exact H.cO.1 | exact H.cO.2.1 | exact H.cO.2.2.1 | exact H.cO.2.2.2.1 | exact H.cO.2.2.2.2.1 | exact H.cO.2.2.2.2.2 | exact H.cM.1 | exact H.cM.2.1 | exact H.cM.2.2 | exact H1.c0 | exact H1.cO.1 | exact H1.cM.1 | exact HL.1 | assumption) rfl ?_
            refine X.iload iX6_larger_64 rfl ?_
            refine X.callVi iX6_larger_66 (c_X2_leaningAt (d := d + 5) H.cM) (by first | exact H.c0 | exact H.cO.1 | exact H.cO.2.1 | exact H.cO.2.2.1 | exact H.cO.2.2.2.1 | exact H.cO.2.2.2.2.1 | exact H.cO.2.2.2.2.2 | exact H.cM.1 | exact H.cM.2.1 | exact H.cM.2.2 | exact H1.c0 | exact H1.cO.1 | exact H1.cM.1 | exact HL.1 | assumption) rfl rfl (xfit _ _ _) (Nat.le_of_ble_eq_true rfl) ?_
            refine X.iload iX6_larger_69 rfl ?_
            refine X.iload iX6_larger_70 rfl ?_
            refine X.callVi iX6_larger_71 (c_X3_gotAt (d := d) (t := k) (n := n) (M := M) H.cO H.cM h1.ki hL (by omega) (by omega)) (by first | exact H.c0 | exact H.cO.1 | exact H.cO.2.1 | exact H.cO.2.2.1 | exact H.cO.2.2.2.1 | exact H.cO.2.2.2.2.1 | exact H.cO.2.2.2.2.2 | exact H.cM.1 | exact H.cM.2.1 | exact H.cM.2.2 | exact H1.c0 | exact H1.cO.1 | exact H1.cM.1 | exact HL.1 | assumption) rfl rfl (xfit _ _ _) (Nat.le_of_ble_eq_true rfl) ?_
            refine X.iadd iX6_larger_74 ?_
            refine X.istore iX6_larger_75 rfl rfl ?_
            refine X.iinc iX6_larger_77 rfl rfl rfl ?_
            refine X.goto iX6_larger_80 ?_
            rw [nI_1]
            exact ih1
      refine X.iload iX6_larger_25 rfl ?_
      refine X.pushi (v := nI 30) iX6_larger_26 ?_
      refine X.cmgt iX6_larger_28 (fun c28 => ?_) (fun c28 => ?_)
      · exact absurd c28 (nI_nlt (show b ≤ 30 by omega) (by decide))
      · refine X.pushi (v := nI 0) iX6_larger_31 ?_
        refine X.istore iX6_larger_32 rfl rfl ?_
        refine X.pushi (v := nI 0) iX6_larger_34 ?_
        refine X.istore iX6_larger_35 rfl rfl ?_
        exact P1 0 (Nat.zero_le _)
  refine MetX.of (by decide) rfl (Nat.le_of_ble_eq_true rfl) ?_
  refine X.iload iX6_larger_0 rfl ?_
  refine X.pushi (v := nI 1) iX6_larger_1 ?_
  refine X.pushi (v := nI 60) iX6_larger_2 ?_
  refine X.callSi iX6_larger_4 (c_X6_within (d + 5) h (nI n) (nI 1) (nI 60)) rfl rfl (xfit _ _ _) (Nat.le_of_ble_eq_true rfl) ?_
  refine X.ifeqB iX6_larger_7 (fun c7 => ?_) (fun c7 => ?_)
  · exact absurd (c7.symm.trans (inI_of hn1 hn (by decide))) (by decide)
  · refine X.iload iX6_larger_10 rfl ?_
    refine X.pushi (v := nI 1) iX6_larger_11 ?_
    refine X.pushi (v := nI 999) iX6_larger_12 ?_
    refine X.callSi iX6_larger_15 (c_X6_within (d + 5) h g (nI 1) (nI 999)) rfl rfl (xfit _ _ _) (Nat.le_of_ble_eq_true rfl) ?_
    refine X.ifneB iX6_larger_18 (fun c18 => ?_) (fun c18 => ?_)
    · refine X.pushi (v := nI 1) iX6_larger_23 ?_
      refine X.istore iX6_larger_24 rfl rfl ?_
      exact P2 30 1 rfl (Nat.le_refl _)
    · exact absurd (c18.symm.trans hg) (by decide)
