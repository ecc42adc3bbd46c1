/-! the class's own methods: plan, round -/
theorem CI.afc {h : XH} {O : Oc} {M : Mo} {V : Hi} {KO : Oc} {KM : Mo} {KV : Hi} {kp : Bool} {T : Ta} {S : Nat → Sh} (H : CI h O M V KO KM KV kp T S) (C : Ch) : CI (setC h 85 C) O M V KO KM KV kp T S := H.cho (sC_is _ _ _) (fun i q => sCo _ _ (by omega))
def TB (W : Nat → Nat → Int32) (N : Nat) (f : Nat → Int32) (k m : Nat) : Prop := ∀ t j, j < N → (t < k ∨ t = k ∧ j < m) → f (16 * t + j) = W t j
theorem TB.put {W : Nat → Nat → Int32} {N k m : Nat} {f : Nat → Int32} (hN : N ≤ 16) (h : TB W N f k m) (hm : m < N) : TB W N (upd f (16 * k + m) (W k m)) k (m + 1) := by
  intro t j hj q
  by_cases e : t = k ∧ j = m
  · obtain ⟨rfl, rfl⟩ := e
    exact upd_eq _ _ _
  · rw [upd_ne _ _ (by omega)]
    exact h t j hj (by omega)
theorem TB.next {W : Nat → Nat → Int32} {N k : Nat} {f : Nat → Int32} (h : TB W N f k N) : TB W N f (k + 1) 0 := fun t j hj q => h t j hj (by omega)
theorem p16 {n : Nat} (hn : n ≤ 4) : 2 ^ n ≤ 16 := Nat.pow_le_pow_right (by decide) hn
theorem ix16 (t j : Nat) : nI t * nI 16 + nI j = nI (16 * t + j) := by rw [pk_mul, nI_add, Nat.mul_comm]
theorem c_X6_plan_bad {d : Nat} {n l : Int32} {nw : Nat → Int32} {h : XH} {O : Oc} {M : Mo} {V : Hi} {KO : Oc} {KM : Mo} {KV : Hi} {kp : Bool} {T : Ta} {S : Nat → Sh} (H : CI h O M V KO KM KV kp T S) (h1 : RO O nw) (hb : inI n (nI 1) (nI 14) = false ∨ (¬ l = -4 ∧ isL nw l = false)) : MetI mX6_plan (d + 1, 0, 0) [.ref 0, .int n, .int l] h (-1) := by
  have HL := c_X3_hasLadder (d := d) (t := l) H.cO
  rw [has_L h1] at HL
  refine MetX.of (by decide) rfl (Nat.le_of_ble_eq_true rfl) ?_
  refine X.iload iX6_plan_0 rfl ?_
  refine X.pushi (v := nI 1) iX6_plan_1 ?_
  refine X.pushi (v := nI 14) iX6_plan_2 ?_
  refine X.callSi iX6_plan_4 (c_X6_within d h n (nI 1) (nI 14)) rfl rfl (xfit _ _ _) (Nat.le_of_ble_eq_true rfl) ?_
  refine X.ifeqB iX6_plan_7 (fun c7 => ?_) (fun c7 => ?_)
  · refine X.pushi iX6_plan_27 ?_
    exact X.iret iX6_plan_28 ⟨rfl, rfl⟩
  · refine X.iload iX6_plan_10 rfl ?_
    refine X.pushi iX6_plan_11 ?_
    refine X.cmeq iX6_plan_13 (fun c13 => ?_) (fun c13 => ?_)
    · first
      | (exact absurd hb (fun z => z.elim (fun y => Bool.noConfusion (c7.symm.trans y)) (fun y => y.1 c13)))
      | (exact absurd hb (fun z => z.elim (fun y => Bool.noConfusion (c7.symm.trans y)) (fun y => Bool.noConfusion (c24.symm.trans y.2))))
    · refine X.aload iX6_plan_16 rfl ?_
      refine X.getf iX6_plan_17 (by first | exact H.c0 | exact H.cO.1 | exact H.cM.1 | exact H1.c0 | exact H1.cO.1 | exact H1.cM.1 | exact sC0 _ _ _ | exact sC1 _ _ _ | exact sC2 _ _ _ | assumption) rfl ?_
      refine X.iload iX6_plan_20 rfl ?_
      refine X.callVi iX6_plan_21 (HL) (by first | exact H.c0 | exact H.cO.1 | exact H.cM.1 | exact H1.c0 | exact H1.cO.1 | exact H1.cM.1 | exact sC0 _ _ _ | exact sC1 _ _ _ | exact sC2 _ _ _ | assumption) rfl rfl (xfit _ _ _) (Nat.le_of_ble_eq_true rfl) ?_
      refine X.ifneB iX6_plan_24 (fun c24 => ?_) (fun c24 => ?_)
      · first
        | (exact absurd hb (fun z => z.elim (fun y => Bool.noConfusion (c7.symm.trans y)) (fun y => y.1 c13)))
        | (exact absurd hb (fun z => z.elim (fun y => Bool.noConfusion (c7.symm.trans y)) (fun y => Bool.noConfusion (c24.symm.trans y.2))))
      · refine X.pushi iX6_plan_27 ?_
        exact X.iret iX6_plan_28 ⟨rfl, rfl⟩
theorem plan_ok {d : Nat} {n l : Int32} {nw : Nat → Int32} {Q : Option Value → XH → Prop} {h : XH} {O : Oc} {M : Mo} {V : Hi} {KO : Oc} {KM : Mo} {KV : Hi} {kp : Bool} {T : Ta} {S : Nat → Sh} (H : CI h O M V KO KM KV kp T S) (h1 : RO O nw) (hn : inI n (nI 1) (nI 14) = true) (hl : l = -4 ∨ isL nw l = true) (K : X xT mX6_plan (xR (d + 1, 0, 0)) (0, 0) 29 [some (.ref 0), some (.int n), some (.int l), none, none] [] h Q) : X xT mX6_plan (xR (d + 1, 0, 0)) (0, 0) 0 [some (.ref 0), some (.int n), some (.int l), none, none] [] h Q := by
  have HL := c_X3_hasLadder (d := d) (t := l) H.cO
  rw [has_L h1] at HL
  refine X.iload iX6_plan_0 rfl ?_
  refine X.pushi (v := nI 1) iX6_plan_1 ?_
  refine X.pushi (v := nI 14) iX6_plan_2 ?_
  refine X.callSi iX6_plan_4 (c_X6_within d h n (nI 1) (nI 14)) rfl rfl (xfit _ _ _) (Nat.le_of_ble_eq_true rfl) ?_
  refine X.ifeqB iX6_plan_7 (fun c7 => ?_) (fun c7 => ?_)
  · exact absurd (c7.symm.trans hn) (by decide)
  · refine X.iload iX6_plan_10 rfl ?_
    refine X.pushi iX6_plan_11 ?_
    refine X.cmeq iX6_plan_13 (fun c13 => ?_) (fun c13 => ?_)
    · exact K
    · refine X.aload iX6_plan_16 rfl ?_
      refine X.getf iX6_plan_17 (by first | exact H.c0 | exact H.cO.1 | exact H.cM.1 | exact H1.c0 | exact H1.cO.1 | exact H1.cM.1 | exact sC0 _ _ _ | exact sC1 _ _ _ | exact sC2 _ _ _ | assumption) rfl ?_
      refine X.iload iX6_plan_20 rfl ?_
      refine X.callVi iX6_plan_21 (HL) (by first | exact H.c0 | exact H.cO.1 | exact H.cM.1 | exact H1.c0 | exact H1.cO.1 | exact H1.cM.1 | exact sC0 _ _ _ | exact sC1 _ _ _ | exact sC2 _ _ _ | assumption) rfl rfl (xfit _ _ _) (Nat.le_of_ble_eq_true rfl) ?_
      refine X.ifneB iX6_plan_24 (fun c24 => ?_) (fun c24 => ?_)
      · exact K
      · (exact absurd (hl.resolve_left c13) (fun z => Bool.noConfusion (c24.symm.trans z)))
theorem c_X6_plan_none {d : Nat} {n l : Int32} {nw : Nat → Int32} {h : XH} {O : Oc} {M : Mo} {V : Hi} {KO : Oc} {KM : Mo} {KV : Hi} {kp : Bool} {T : Ta} {S : Nat → Sh} (H : CI h O M V KO KM KV kp T S) (h1 : RO O nw) (hn : inI n (nI 1) (nI 14) = true) (hl : l = -4 ∨ isL nw l = true) (hz : O.nT = 0 ∨ O.nL = 0) : MetI mX6_plan (d + 1, 0, 0) [.ref 0, .int n, .int l] h (-4) := by
  have hT := h1.2.2.1
  have hL := h1.2.2.2.1
  refine MetX.of (by decide) rfl (Nat.le_of_ble_eq_true rfl) ?_
  refine plan_ok H h1 hn hl ?_
  refine X.aload iX6_plan_29 rfl ?_
  refine X.getf iX6_plan_30 (by first | exact H.c0 | exact H.cO.1 | exact H.cM.1 | exact H1.c0 | exact H1.cO.1 | exact H1.cM.1 | exact sC0 _ _ _ | exact sC1 _ _ _ | exact sC2 _ _ _ | assumption) rfl ?_
  refine X.getf iX6_plan_33 (by first | exact H.c0 | exact H.cO.1 | exact H.cM.1 | exact H1.c0 | exact H1.cO.1 | exact H1.cM.1 | exact sC0 _ _ _ | exact sC1 _ _ _ | exact sC2 _ _ _ | assumption) rfl ?_
  refine X.ifeq iX6_plan_36 (fun c36 => ?_) (fun c36 => ?_)
  · refine X.pushi iX6_plan_49 ?_
    exact X.iret iX6_plan_51 ⟨rfl, rfl⟩
  · refine X.aload iX6_plan_39 rfl ?_
    refine X.getf iX6_plan_40 (by first | exact H.c0 | exact H.cO.1 | exact H.cM.1 | exact H1.c0 | exact H1.cO.1 | exact H1.cM.1 | exact sC0 _ _ _ | exact sC1 _ _ _ | exact sC2 _ _ _ | assumption) rfl ?_
    refine X.getf iX6_plan_43 (by first | exact H.c0 | exact H.cO.1 | exact H.cM.1 | exact H1.c0 | exact H1.cO.1 | exact H1.cM.1 | exact sC0 _ _ _ | exact sC1 _ _ _ | exact sC2 _ _ _ | assumption) rfl ?_
    refine X.ifne iX6_plan_46 (fun c46 => ?_) (fun c46 => ?_)
    · (exact absurd hz (fun z => z.elim (fun y => c36 (by rw [y]; exact nI_0)) (fun y => c46 (by rw [y]; exact nI_0))))
    · refine X.pushi iX6_plan_49 ?_
      exact X.iret iX6_plan_51 ⟨rfl, rfl⟩
theorem c_X6_plan {d n : Nat} {l : Int32} {nw : Nat → Int32} {h : XH} {O : Oc} {M : Mo} {V : Hi} {KO : Oc} {KM : Mo} {KV : Hi} {kp : Bool} {T : Ta} {S : Nat → Sh} (H : CI h O M V KO KM KV kp T S) (h1 : RO O nw) (h2 : RM O.nT O.nL M nw) (h0 : 0 < O.nT) (h0L : 0 < O.nL) (hn1 : 1 ≤ n) (hn : n ≤ 14) (hl : l = -4 ∨ isL nw l = true) : MetC mX6_plan (d + 6) [.ref 0, .int (nI n), .int l] h (planF nw O.nT O.nL n l) O M V KO KM KV kp T S := by
  have hT := h1.2.2.1
  have hL := h1.2.2.2.1
  have h16 := p16 hL
  obtain ⟨C, iC⟩ := H.cC
  have END : ∀ f, TB (fun t j => gwF O M t (nI j) (nI 0) (nI 0) n O.ba) (2 ^ O.nL) f O.nT 0 → ∀ L4 : Option Value, X xT mX6_plan (xR (d + 6, 0, 0)) (0, 0) 127 [some (.ref 0), some (.int (nI n)), some (.int l), some (.int (nI O.nT)), L4] [] (setC h 85 (Ch.mk f C.tr C.pl C.most)) (fun v h' => v = some (.int (planF nw O.nT O.nL n l)) ∧ CI h' O M V KO KM KV kp T S ∧ ∀ i, 98 ≤ i → h' i = h i) := by
    intro f hf L4
    have H1 := H.afc (Ch.mk f C.tr C.pl C.most)
    have SK := c_X0_seek (d := d + 4) (c := 85) (h := h) (V := (Ch.mk f C.tr C.pl C.most)) h0 hT h0L hL
    have H2 := H.afc (seekF (Ch.mk f C.tr C.pl C.most) O.nT O.nL)
    have bmE : bm (wOwn f O.nT O.nL) (O.nT ^ O.nL) = bm (plOwn nw O.nT O.nL n) (O.nT ^ O.nL) := bm_cong _ (fun w _ => (plan_own h1 h2 h0 hn (fun t j ht hj => hf t j hj (Or.inl ht))).symm)
    refine X.aload iX6_plan_127 rfl ?_
    refine X.getf iX6_plan_128 (by first | exact H.c0 | exact H.cO.1 | exact H.cM.1 | exact H1.c0 | exact H1.cO.1 | exact H1.cM.1 | exact sC0 _ _ _ | exact sC1 _ _ _ | exact sC2 _ _ _ | assumption) rfl ?_
    refine X.aload iX6_plan_131 rfl ?_
    refine X.getf iX6_plan_132 (by first | exact H.c0 | exact H.cO.1 | exact H.cM.1 | exact H1.c0 | exact H1.cO.1 | exact H1.cM.1 | exact sC0 _ _ _ | exact sC1 _ _ _ | exact sC2 _ _ _ | assumption) rfl ?_
    refine X.getf iX6_plan_135 (by first | exact H.c0 | exact H.cO.1 | exact H.cM.1 | exact H1.c0 | exact H1.cO.1 | exact H1.cM.1 | exact sC0 _ _ _ | exact sC1 _ _ _ | exact sC2 _ _ _ | assumption) rfl ?_
    refine X.aload iX6_plan_138 rfl ?_
    refine X.getf iX6_plan_139 (by first | exact H.c0 | exact H.cO.1 | exact H.cM.1 | exact H1.c0 | exact H1.cO.1 | exact H1.cM.1 | exact sC0 _ _ _ | exact sC1 _ _ _ | exact sC2 _ _ _ | assumption) rfl ?_
    refine X.getf iX6_plan_142 (by first | exact H.c0 | exact H.cO.1 | exact H.cM.1 | exact H1.c0 | exact H1.cO.1 | exact H1.cM.1 | exact sC0 _ _ _ | exact sC1 _ _ _ | exact sC2 _ _ _ | assumption) rfl ?_
    refine X.callVv iX6_plan_145 SK (sC0 _ _ _) rfl rfl (xfit _ _ _) (Nat.le_of_ble_eq_true rfl) ?_
    refine X.iload iX6_plan_148 rfl ?_
    refine X.pushi iX6_plan_149 ?_
    refine X.cmne iX6_plan_151 (fun c151 => ?_) (fun c151 => ?_)
    · refine X.aload iX6_plan_164 rfl ?_
      refine X.getf iX6_plan_165 H2.c0 rfl ?_
      refine X.getf iX6_plan_168 (by first | exact H.c0 | exact H.cO.1 | exact H.cM.1 | exact H1.c0 | exact H1.cO.1 | exact H1.cM.1 | exact sC0 _ _ _ | exact sC1 _ _ _ | exact sC2 _ _ _ | assumption) rfl ?_
      obtain ⟨l', hl', rfl⟩ := isL_nat (RM.wf h1 h2) (hl.resolve_left c151)
      refine X.iload iX6_plan_171 rfl ?_
      refine X.ialdN iX6_plan_172 (by first | exact H.c0 | exact H.cO.1 | exact H.cM.1 | exact H1.c0 | exact H1.cO.1 | exact H1.cM.1 | exact sC0 _ _ _ | exact sC1 _ _ _ | exact sC2 _ _ _ | assumption) (by omega) (by decide) ?_
      first
      | (refine X.iret iX6_plan_173 ⟨?_, H2, fun i hi => sCo _ _ (by omega)⟩; rw [planF, if_pos c151, ← bmE]; rfl)
      | (refine X.iret iX6_plan_173 ⟨?_, H2, fun i hi => sCo _ _ (by omega)⟩; rw [planF, if_neg c151, ← bmE, nI_clamp (by omega)]; exact congrArg (fun z => some (Value.int z)) ((sdg_row O.nL _ _).1 l' hl'))
    · refine X.aload iX6_plan_154 rfl ?_
      refine X.getf iX6_plan_155 H2.c0 rfl ?_
      refine X.getf iX6_plan_158 (by first | exact H.c0 | exact H.cO.1 | exact H.cM.1 | exact H1.c0 | exact H1.cO.1 | exact H1.cM.1 | exact sC0 _ _ _ | exact sC1 _ _ _ | exact sC2 _ _ _ | assumption) rfl ?_
      refine X.goto iX6_plan_161 ?_
      first
      | (refine X.iret iX6_plan_173 ⟨?_, H2, fun i hi => sCo _ _ (by omega)⟩; rw [planF, if_pos c151, ← bmE]; rfl)
      | (refine X.iret iX6_plan_173 ⟨?_, H2, fun i hi => sCo _ _ (by omega)⟩; rw [planF, if_neg c151, ← bmE, nI_clamp (by omega)]; exact congrArg (fun z => some (Value.int z)) ((sdg_row O.nL _ _).1 l' hl'))
  have IN : ∀ k, k < O.nT → (∀ f, TB (fun t j => gwF O M t (nI j) (nI 0) (nI 0) n O.ba) (2 ^ O.nL) f (k + 1) 0 → ∀ L4 : Option Value, X xT mX6_plan (xR (d + 6, 0, 0)) (0, 0) 54 [some (.ref 0), some (.int (nI n)), some (.int l), some (.int (nI (k + 1))), L4] [] (setC h 85 (Ch.mk f C.tr C.pl C.most)) (fun v h' => v = some (.int (planF nw O.nT O.nL n l)) ∧ CI h' O M V KO KM KV kp T S ∧ ∀ i, 98 ≤ i → h' i = h i)) → ∀ m, m ≤ 2 ^ O.nL → ∀ f, TB (fun t j => gwF O M t (nI j) (nI 0) (nI 0) n O.ba) (2 ^ O.nL) f k m → X xT mX6_plan (xR (d + 6, 0, 0)) (0, 0) 68 [some (.ref 0), some (.int (nI n)), some (.int l), some (.int (nI k)), some (.int (nI m))] [] (setC h 85 (Ch.mk f C.tr C.pl C.most)) (fun v h' => v = some (.int (planF nw O.nT O.nL n l)) ∧ CI h' O M V KO KM KV kp T S ∧ ∀ i, 98 ≤ i → h' i = h i) := by
    intro k hk next
    refine xloop (2 ^ O.nL) ?_ ?_
    · intro f hf
      have H1 := H.afc (Ch.mk f C.tr C.pl C.most)
      refine X.iload iX6_plan_68 rfl ?_
      refine X.pushi (v := nI 1) iX6_plan_70 ?_
      refine X.aload iX6_plan_71 rfl ?_
      refine X.getf iX6_plan_72 (by first | exact H.c0 | exact H.cO.1 | exact H.cM.1 | exact H1.c0 | exact H1.cO.1 | exact H1.cM.1 | exact sC0 _ _ _ | exact sC1 _ _ _ | exact sC2 _ _ _ | assumption) rfl ?_
      refine X.getf iX6_plan_75 (by first | exact H.c0 | exact H.cO.1 | exact H.cM.1 | exact H1.c0 | exact H1.cO.1 | exact H1.cM.1 | exact sC0 _ _ _ | exact sC1 _ _ _ | exact sC2 _ _ _ | assumption) rfl ?_
      refine X.ishl iX6_plan_78 ?_
      rw [bit1 (by omega)]
      refine X.cmge iX6_plan_79 (fun c79 => ?_) (fun c79 => ?_)
      · refine X.iinc iX6_plan_121 rfl rfl rfl ?_
        refine X.goto iX6_plan_124 ?_
        rw [nI_1]
        exact next f hf.next _
      · exact absurd (Int32.le_refl _) c79
    · intro m hm ih f hf
      have H1 := H.afc (Ch.mk f C.tr C.pl C.most)
      refine X.iload iX6_plan_68 rfl ?_
      refine X.pushi (v := nI 1) iX6_plan_70 ?_
      refine X.aload iX6_plan_71 rfl ?_
      refine X.getf iX6_plan_72 (by first | exact H.c0 | exact H.cO.1 | exact H.cM.1 | exact H1.c0 | exact H1.cO.1 | exact H1.cM.1 | exact sC0 _ _ _ | exact sC1 _ _ _ | exact sC2 _ _ _ | assumption) rfl ?_
      refine X.getf iX6_plan_75 (by first | exact H.c0 | exact H.cO.1 | exact H.cM.1 | exact H1.c0 | exact H1.cO.1 | exact H1.cM.1 | exact sC0 _ _ _ | exact sC1 _ _ _ | exact sC2 _ _ _ | assumption) rfl ?_
      refine X.ishl iX6_plan_78 ?_
      rw [bit1 (by omega)]
      refine X.cmge iX6_plan_79 (fun c79 => ?_) (fun c79 => ?_)
      · exact absurd c79 (nI_ge hm (by omega))
      · refine X.aload iX6_plan_82 rfl ?_
        refine X.getf iX6_plan_83 (by first | exact H.c0 | exact H.cO.1 | exact H.cM.1 | exact H1.c0 | exact H1.cO.1 | exact H1.cM.1 | exact sC0 _ _ _ | exact sC1 _ _ _ | exact sC2 _ _ _ | assumption) rfl ?_
        refine X.getf iX6_plan_86 (by first | exact H.c0 | exact H.cO.1 | exact H.cM.1 | exact H1.c0 | exact H1.cO.1 | exact H1.cM.1 | exact sC0 _ _ _ | exact sC1 _ _ _ | exact sC2 _ _ _ | assumption) rfl ?_
        refine X.iload iX6_plan_89 rfl ?_
        refine X.pushi (v := nI 16) iX6_plan_90 ?_
        refine X.imul iX6_plan_92 ?_
        refine X.iload iX6_plan_93 rfl ?_
        refine X.iadd iX6_plan_95 ?_
        refine X.aload iX6_plan_96 rfl ?_
        refine X.getf iX6_plan_97 (by first | exact H.c0 | exact H.cO.1 | exact H.cM.1 | exact H1.c0 | exact H1.cO.1 | exact H1.cM.1 | exact sC0 _ _ _ | exact sC1 _ _ _ | exact sC2 _ _ _ | assumption) rfl ?_
        refine X.iload iX6_plan_100 rfl ?_
        refine X.iload iX6_plan_101 rfl ?_
        refine X.iload iX6_plan_103 rfl ?_
        refine X.aload iX6_plan_104 rfl ?_
        refine X.getf iX6_plan_105 (by first | exact H.c0 | exact H.cO.1 | exact H.cM.1 | exact H1.c0 | exact H1.cO.1 | exact H1.cM.1 | exact sC0 _ _ _ | exact sC1 _ _ _ | exact sC2 _ _ _ | assumption) rfl ?_
        refine X.getf iX6_plan_108 (by first | exact H.c0 | exact H.cO.1 | exact H.cM.1 | exact H1.c0 | exact H1.cO.1 | exact H1.cM.1 | exact sC0 _ _ _ | exact sC1 _ _ _ | exact sC2 _ _ _ | assumption) rfl ?_
        refine X.callVi iX6_plan_111 (c_X3_gotAt (d := d) (t := k) (n := n) (M := M) H1.cO H1.cM h1.ki hL (by omega) (by omega)) (by first | exact H.c0 | exact H.cO.1 | exact H.cM.1 | exact H1.c0 | exact H1.cO.1 | exact H1.cM.1 | exact sC0 _ _ _ | exact sC1 _ _ _ | exact sC2 _ _ _ | assumption) rfl rfl (xfit _ _ _) (Nat.le_of_ble_eq_true rfl) ?_
        refine X.iastE iX6_plan_114 (sC1 _ _ _) (ix16 k m) (by omega) (by decide) ?_
        rw [sC_wo]
        refine X.iinc iX6_plan_115 rfl rfl rfl ?_
        refine X.goto iX6_plan_118 ?_
        rw [nI_1]
        exact ih _ (hf.put h16 hm)
  have OUT : ∀ k, k ≤ O.nT → ∀ f, TB (fun t j => gwF O M t (nI j) (nI 0) (nI 0) n O.ba) (2 ^ O.nL) f k 0 → ∀ L4 : Option Value, X xT mX6_plan (xR (d + 6, 0, 0)) (0, 0) 54 [some (.ref 0), some (.int (nI n)), some (.int l), some (.int (nI k)), L4] [] (setC h 85 (Ch.mk f C.tr C.pl C.most)) (fun v h' => v = some (.int (planF nw O.nT O.nL n l)) ∧ CI h' O M V KO KM KV kp T S ∧ ∀ i, 98 ≤ i → h' i = h i) := by
    refine xloop O.nT ?_ ?_
    · intro f hf L4
      have H1 := H.afc (Ch.mk f C.tr C.pl C.most)
      refine X.iload iX6_plan_54 rfl ?_
      refine X.aload iX6_plan_55 rfl ?_
      refine X.getf iX6_plan_56 (by first | exact H.c0 | exact H.cO.1 | exact H.cM.1 | exact H1.c0 | exact H1.cO.1 | exact H1.cM.1 | exact sC0 _ _ _ | exact sC1 _ _ _ | exact sC2 _ _ _ | assumption) rfl ?_
      refine X.getf iX6_plan_59 (by first | exact H.c0 | exact H.cO.1 | exact H.cM.1 | exact H1.c0 | exact H1.cO.1 | exact H1.cM.1 | exact sC0 _ _ _ | exact sC1 _ _ _ | exact sC2 _ _ _ | assumption) rfl ?_
      refine X.cmge iX6_plan_62 (fun c62 => ?_) (fun c62 => ?_)
      · exact END f hf L4
      · exact absurd (Int32.le_refl _) c62
    · intro k hk ih f hf L4
      have H1 := H.afc (Ch.mk f C.tr C.pl C.most)
      have I0 := IN k hk ih 0 (Nat.zero_le _) f hf
      rcases L4 with _ | x
      · refine X.iload iX6_plan_54 rfl ?_
        refine X.aload iX6_plan_55 rfl ?_
        refine X.getf iX6_plan_56 (by first | exact H.c0 | exact H.cO.1 | exact H.cM.1 | exact H1.c0 | exact H1.cO.1 | exact H1.cM.1 | exact sC0 _ _ _ | exact sC1 _ _ _ | exact sC2 _ _ _ | assumption) rfl ?_
        refine X.getf iX6_plan_59 (by first | exact H.c0 | exact H.cO.1 | exact H.cM.1 | exact H1.c0 | exact H1.cO.1 | exact H1.cM.1 | exact sC0 _ _ _ | exact sC1 _ _ _ | exact sC2 _ _ _ | assumption) rfl ?_
        refine X.cmge iX6_plan_62 (fun c62 => ?_) (fun c62 => ?_)
        · exact absurd c62 (nI_ge hk (by omega))
        · refine X.pushi (v := nI 0) iX6_plan_65 ?_
          refine X.istore iX6_plan_66 rfl rfl ?_
          exact I0
      · refine X.iload iX6_plan_54 rfl ?_
        refine X.aload iX6_plan_55 rfl ?_
        refine X.getf iX6_plan_56 (by first | exact H.c0 | exact H.cO.1 | exact H.cM.1 | exact H1.c0 | exact H1.cO.1 | exact H1.cM.1 | exact sC0 _ _ _ | exact sC1 _ _ _ | exact sC2 _ _ _ | assumption) rfl ?_
        refine X.getf iX6_plan_59 (by first | exact H.c0 | exact H.cO.1 | exact H.cM.1 | exact H1.c0 | exact H1.cO.1 | exact H1.cM.1 | exact sC0 _ _ _ | exact sC1 _ _ _ | exact sC2 _ _ _ | assumption) rfl ?_
        refine X.cmge iX6_plan_62 (fun c62 => ?_) (fun c62 => ?_)
        · exact absurd c62 (nI_ge hk (by omega))
        · refine X.pushi (v := nI 0) iX6_plan_65 ?_
          refine X.istore iX6_plan_66 rfl rfl ?_
          exact I0
  have S0 := OUT 0 (Nat.zero_le _) C.wo (fun t j _ q => absurd q (by omega)) none
  rw [show setC h 85 (Ch.mk C.wo C.tr C.pl C.most) = h from IsC.set iC] at S0
  refine MetX.of (by decide) rfl (Nat.le_of_ble_eq_true rfl) ?_
  refine plan_ok H h1 (inI_of hn1 hn (by decide)) hl ?_
  refine X.aload iX6_plan_29 rfl ?_
  refine X.getf iX6_plan_30 (by first | exact H.c0 | exact H.cO.1 | exact H.cM.1 | exact H1.c0 | exact H1.cO.1 | exact H1.cM.1 | exact sC0 _ _ _ | exact sC1 _ _ _ | exact sC2 _ _ _ | assumption) rfl ?_
  refine X.getf iX6_plan_33 (by first | exact H.c0 | exact H.cO.1 | exact H.cM.1 | exact H1.c0 | exact H1.cO.1 | exact H1.cM.1 | exact sC0 _ _ _ | exact sC1 _ _ _ | exact sC2 _ _ _ | assumption) rfl ?_
  refine X.ifeq iX6_plan_36 (fun c36 => ?_) (fun c36 => ?_)
  · exact absurd c36 (nI_ne0 h0 (by omega))
  · refine X.aload iX6_plan_39 rfl ?_
    refine X.getf iX6_plan_40 (by first | exact H.c0 | exact H.cO.1 | exact H.cM.1 | exact H1.c0 | exact H1.cO.1 | exact H1.cM.1 | exact sC0 _ _ _ | exact sC1 _ _ _ | exact sC2 _ _ _ | assumption) rfl ?_
    refine X.getf iX6_plan_43 (by first | exact H.c0 | exact H.cO.1 | exact H.cM.1 | exact H1.c0 | exact H1.cO.1 | exact H1.cM.1 | exact sC0 _ _ _ | exact sC1 _ _ _ | exact sC2 _ _ _ | assumption) rfl ?_
    refine X.ifne iX6_plan_46 (fun c46 => ?_) (fun c46 => ?_)
    · refine X.pushi (v := nI 0) iX6_plan_52 ?_
      refine X.istore iX6_plan_53 rfl rfl ?_
      exact S0
    · exact absurd c46 (nI_ne0 h0L (by omega))
