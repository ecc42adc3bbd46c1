/-! the class's own methods: round, luck -/
theorem c_X6_round_bad {d : Nat} {l n k : Int32} {nw : Nat → Int32} {h : XH} {O : Oc} {M : Mo} {V : Hi} {KO : Oc} {KM : Mo} {KV : Hi} {kp : Bool} {T : Ta} {S : Nat → Sh} (H : CI h O M V KO KM KV kp T S) (h1 : RO O nw) (hb : isL nw l = false ∨ inI n (nI 1) (nI 4) = false ∨ k < -1) : MetI mX6_round (d + 1, 0, 0) [.ref 0, .int l, .int n, .int k] h (-1) := by
  have HL := c_X3_hasLadder (d := d) (t := l) H.cO
  rw [has_L h1] at HL
  refine MetX.of (by decide) rfl (Nat.le_of_ble_eq_true rfl) ?_
  refine X.aload iX6_round_0 rfl ?_
  refine X.getf iX6_round_1 (by first | exact H.c0 | exact H.cO.1 | exact H.cM.1 | exact H1.c0 | exact H1.cO.1 | exact H1.cM.1 | exact sC0 _ _ _ | exact sC1 _ _ _ | exact sC2 _ _ _ | assumption) rfl ?_
  refine X.iload iX6_round_4 rfl ?_
  refine X.callVi iX6_round_5 (HL) (by first | exact H.c0 | exact H.cO.1 | exact H.cM.1 | exact H1.c0 | exact H1.cO.1 | exact H1.cM.1 | exact sC0 _ _ _ | exact sC1 _ _ _ | exact sC2 _ _ _ | assumption) rfl rfl (xfit _ _ _) (Nat.le_of_ble_eq_true rfl) ?_
  refine X.ifeqB iX6_round_8 (fun c8 => ?_) (fun c8 => ?_)
  · refine X.pushi iX6_round_25 ?_
    exact X.iret iX6_round_26 ⟨rfl, rfl⟩
  · refine X.iload iX6_round_11 rfl ?_
    refine X.pushi (v := nI 1) iX6_round_12 ?_
    refine X.pushi (v := nI 4) iX6_round_13 ?_
    refine X.callSi iX6_round_14 (c_X6_within d h n (nI 1) (nI 4)) rfl rfl (xfit _ _ _) (Nat.le_of_ble_eq_true rfl) ?_
    refine X.ifeqB iX6_round_17 (fun c17 => ?_) (fun c17 => ?_)
    · refine X.pushi iX6_round_25 ?_
      exact X.iret iX6_round_26 ⟨rfl, rfl⟩
    · refine X.iload iX6_round_20 rfl ?_
      refine X.pushi iX6_round_21 ?_
      refine X.cmge iX6_round_22 (fun c22 => ?_) (fun c22 => ?_)
      · exact absurd hb (fun z => z.elim (fun y => Bool.noConfusion (c8.symm.trans y)) (fun y => y.elim (fun x => Bool.noConfusion (c17.symm.trans x)) (fun x => Int32.not_lt.mpr c22 x)))
      · refine X.pushi iX6_round_25 ?_
        exact X.iret iX6_round_26 ⟨rfl, rfl⟩
theorem round_ok {d : Nat} {l n k : Int32} {nw : Nat → Int32} {Q : Option Value → XH → Prop} {h : XH} {O : Oc} {M : Mo} {V : Hi} {KO : Oc} {KM : Mo} {KV : Hi} {kp : Bool} {T : Ta} {S : Nat → Sh} (H : CI h O M V KO KM KV kp T S) (h1 : RO O nw) (hl : isL nw l = true) (hn : inI n (nI 1) (nI 4) = true) (hk : ¬ k < -1) (K : X xT mX6_round (xR (d + 1, 0, 0)) (0, 0) 27 [some (.ref 0), some (.int l), some (.int n), some (.int k), none, none, none] [] h Q) : X xT mX6_round (xR (d + 1, 0, 0)) (0, 0) 0 [some (.ref 0), some (.int l), some (.int n), some (.int k), none, none, none] [] h Q := by
  have HL := c_X3_hasLadder (d := d) (t := l) H.cO
  rw [has_L h1] at HL
  refine X.aload iX6_round_0 rfl ?_
  refine X.getf iX6_round_1 (by first | exact H.c0 | exact H.cO.1 | exact H.cM.1 | exact H1.c0 | exact H1.cO.1 | exact H1.cM.1 | exact sC0 _ _ _ | exact sC1 _ _ _ | exact sC2 _ _ _ | assumption) rfl ?_
  refine X.iload iX6_round_4 rfl ?_
  refine X.callVi iX6_round_5 (HL) (by first | exact H.c0 | exact H.cO.1 | exact H.cM.1 | exact H1.c0 | exact H1.cO.1 | exact H1.cM.1 | exact sC0 _ _ _ | exact sC1 _ _ _ | exact sC2 _ _ _ | assumption) rfl rfl (xfit _ _ _) (Nat.le_of_ble_eq_true rfl) ?_
  refine X.ifeqB iX6_round_8 (fun c8 => ?_) (fun c8 => ?_)
  · exact absurd (c8.symm.trans hl) (by decide)
  · refine X.iload iX6_round_11 rfl ?_
    refine X.pushi (v := nI 1) iX6_round_12 ?_
    refine X.pushi (v := nI 4) iX6_round_13 ?_
    refine X.callSi iX6_round_14 (c_X6_within d h n (nI 1) (nI 4)) rfl rfl (xfit _ _ _) (Nat.le_of_ble_eq_true rfl) ?_
    refine X.ifeqB iX6_round_17 (fun c17 => ?_) (fun c17 => ?_)
    · exact absurd (c17.symm.trans hn) (by decide)
    · refine X.iload iX6_round_20 rfl ?_
      refine X.pushi iX6_round_21 ?_
      refine X.cmge iX6_round_22 (fun c22 => ?_) (fun c22 => ?_)
      · exact K
      · exact absurd (Int32.not_lt.mp hk) c22
theorem c_X6_round_none {d : Nat} {l n k : Int32} {nw : Nat → Int32} {h : XH} {O : Oc} {M : Mo} {V : Hi} {KO : Oc} {KM : Mo} {KV : Hi} {kp : Bool} {T : Ta} {S : Nat → Sh} (H : CI h O M V KO KM KV kp T S) (h1 : RO O nw) (hl : isL nw l = true) (hn : inI n (nI 1) (nI 4) = true) (hk : ¬ k < -1) (hz : O.nT = 0 ∨ n ≤ k) : MetI mX6_round (d + 1, 0, 0) [.ref 0, .int l, .int n, .int k] h (-4) := by
  refine MetX.of (by decide) rfl (Nat.le_of_ble_eq_true rfl) ?_
  refine round_ok H h1 hl hn hk ?_
  refine X.aload iX6_round_27 rfl ?_
  refine X.getf iX6_round_28 (by first | exact H.c0 | exact H.cO.1 | exact H.cM.1 | exact H1.c0 | exact H1.cO.1 | exact H1.cM.1 | exact sC0 _ _ _ | exact sC1 _ _ _ | exact sC2 _ _ _ | assumption) rfl ?_
  refine X.getf iX6_round_31 (by first | exact H.c0 | exact H.cO.1 | exact H.cM.1 | exact H1.c0 | exact H1.cO.1 | exact H1.cM.1 | exact sC0 _ _ _ | exact sC1 _ _ _ | exact sC2 _ _ _ | assumption) rfl ?_
  refine X.ifeq iX6_round_34 (fun c34 => ?_) (fun c34 => ?_)
  · refine X.pushi iX6_round_42 ?_
    exact X.iret iX6_round_44 ⟨rfl, rfl⟩
  · refine X.iload iX6_round_37 rfl ?_
    refine X.iload iX6_round_38 rfl ?_
    refine X.cmlt iX6_round_39 (fun c39 => ?_) (fun c39 => ?_)
    · (exact absurd hz (fun z => z.elim (fun y => c34 (by rw [y]; exact nI_0)) (fun y => Int32.not_le.mpr c39 y)))
    · refine X.pushi iX6_round_42 ?_
      exact X.iret iX6_round_44 ⟨rfl, rfl⟩
theorem c_X6_round {d lad n : Nat} {k : Int32} {nw : Nat → Int32} {h : XH} {O : Oc} {M : Mo} {V : Hi} {KO : Oc} {KM : Mo} {KV : Hi} {kp : Bool} {T : Ta} {S : Nat → Sh} (H : CI h O M V KO KM KV kp T S) (h1 : RO O nw) (h2 : RM O.nT O.nL M nw) (h0 : 0 < O.nT) (hl : lad < O.nL) (hn1 : 1 ≤ n) (hn : n ≤ 4) (hk : ¬ k < -1) (hkn : k < nI n) : MetC mX6_round (d + 5) [.ref 0, .int (nI lad), .int (nI n), .int k] h (roundF nw O.nT O.nL lad n k) O M V KO KM KV kp T S := by
  have hT := h1.2.2.1
  have hL := h1.2.2.2.1
  have h16 := p16 hn
  obtain ⟨C, iC⟩ := H.cC
  have END : ∀ f, TB (fun t j => gwF O M t (atM M t &&& (bitI lad ^^^ -1)) (bitI lad) (nI j) n O.ba) (2 ^ n) f O.nT 0 → X xT mX6_round (xR (d + 5, 0, 0)) (0, 0) 143 [some (.ref 0), some (.int (nI lad)), some (.int (nI n)), some (.int k), some (.int (nI O.nT)), none, none] [] (setC h 85 (Ch.mk f C.tr C.pl C.most)) (fun v h' => v = some (.int (roundF nw O.nT O.nL lad n k)) ∧ CI h' O M V KO KM KV kp T S ∧ ∀ i, 98 ≤ i → h' i = h i) := by
    intro f hf
    have H1 := H.afc (Ch.mk f C.tr C.pl C.most)
    have SK := c_X0_seek (d := d + 3) (c := 85) (h := h) (V := (Ch.mk f C.tr C.pl C.most)) h0 hT hn1 hn
    have H2 := H.afc (seekF (Ch.mk f C.tr C.pl C.most) O.nT n)
    have bmE : bm (wOwn f O.nT n) (O.nT ^ n) = bm (rdOwn nw O.nT O.nL lad n) (O.nT ^ n) := bm_cong _ (fun w _ => (round_own h1 h2 h0 hl hn (fun t j ht hj => hf t j hj (Or.inl ht))).symm)
    by_cases k1 : k = -1
    · refine X.aload iX6_round_143 rfl ?_
      refine X.getf iX6_round_144 (by first | exact H.c0 | exact H.cO.1 | exact H.cM.1 | exact H1.c0 | exact H1.cO.1 | exact H1.cM.1 | exact sC0 _ _ _ | exact sC1 _ _ _ | exact sC2 _ _ _ | assumption) rfl ?_
      refine X.aload iX6_round_147 rfl ?_
      refine X.getf iX6_round_148 (by first | exact H.c0 | exact H.cO.1 | exact H.cM.1 | exact H1.c0 | exact H1.cO.1 | exact H1.cM.1 | exact sC0 _ _ _ | exact sC1 _ _ _ | exact sC2 _ _ _ | assumption) rfl ?_
      refine X.getf iX6_round_151 (by first | exact H.c0 | exact H.cO.1 | exact H.cM.1 | exact H1.c0 | exact H1.cO.1 | exact H1.cM.1 | exact sC0 _ _ _ | exact sC1 _ _ _ | exact sC2 _ _ _ | assumption) rfl ?_
      refine X.iload iX6_round_154 rfl ?_
      refine X.callVv iX6_round_155 SK (sC0 _ _ _) rfl rfl (xfit _ _ _) (Nat.le_of_ble_eq_true rfl) ?_
      refine X.iload iX6_round_158 rfl ?_
      refine X.pushi iX6_round_159 ?_
      refine X.cmne iX6_round_160 (fun c160 => ?_) (fun c160 => ?_)
      · exact absurd k1 c160
      · refine X.aload iX6_round_163 rfl ?_
        refine X.getf iX6_round_164 H2.c0 rfl ?_
        refine X.getf iX6_round_167 (by first | exact H.c0 | exact H.cO.1 | exact H.cM.1 | exact H1.c0 | exact H1.cO.1 | exact H1.cM.1 | exact sC0 _ _ _ | exact sC1 _ _ _ | exact sC2 _ _ _ | assumption) rfl ?_
        refine X.goto iX6_round_170 ?_
        refine X.iret iX6_round_182 ⟨?_, H2, fun i hi => sCo _ _ (by omega)⟩
        rw [roundF, k1, if_neg (by decide), ← bmE]
        rfl
    · have k0 : ¬ k < 0 := fun z => k1 (by
        have a := Int32.lt_iff_toInt_lt.mp z
        have b := Int32.le_iff_toInt_le.mp (Int32.not_lt.mp hk)
        have c0 : (0 : Int32).toInt = 0 := by decide
        have c1 : (-1 : Int32).toInt = -1 := by decide
        rw [c0] at a
        rw [c1] at b
        exact Int32.toInt_inj.mp (by rw [c1]; omega))
      obtain ⟨j, hj, ej⟩ := nI_of k0
      subst ej
      have jn : j < n := (nI_ltI hj (by omega)).mp hkn
      refine X.aload iX6_round_143 rfl ?_
      refine X.getf iX6_round_144 (by first | exact H.c0 | exact H.cO.1 | exact H.cM.1 | exact H1.c0 | exact H1.cO.1 | exact H1.cM.1 | exact sC0 _ _ _ | exact sC1 _ _ _ | exact sC2 _ _ _ | assumption) rfl ?_
      refine X.aload iX6_round_147 rfl ?_
      refine X.getf iX6_round_148 (by first | exact H.c0 | exact H.cO.1 | exact H.cM.1 | exact H1.c0 | exact H1.cO.1 | exact H1.cM.1 | exact sC0 _ _ _ | exact sC1 _ _ _ | exact sC2 _ _ _ | assumption) rfl ?_
      refine X.getf iX6_round_151 (by first | exact H.c0 | exact H.cO.1 | exact H.cM.1 | exact H1.c0 | exact H1.cO.1 | exact H1.cM.1 | exact sC0 _ _ _ | exact sC1 _ _ _ | exact sC2 _ _ _ | assumption) rfl ?_
      refine X.iload iX6_round_154 rfl ?_
      refine X.callVv iX6_round_155 SK (sC0 _ _ _) rfl rfl (xfit _ _ _) (Nat.le_of_ble_eq_true rfl) ?_
      refine X.iload iX6_round_158 rfl ?_
      refine X.pushi iX6_round_159 ?_
      refine X.cmne iX6_round_160 (fun c160 => ?_) (fun c160 => ?_)
      · refine X.aload iX6_round_173 rfl ?_
        refine X.getf iX6_round_174 H2.c0 rfl ?_
        refine X.getf iX6_round_177 (by first | exact H.c0 | exact H.cO.1 | exact H.cM.1 | exact H1.c0 | exact H1.cO.1 | exact H1.cM.1 | exact sC0 _ _ _ | exact sC1 _ _ _ | exact sC2 _ _ _ | assumption) rfl ?_
        refine X.iload iX6_round_180 rfl ?_
        refine X.ialdN iX6_round_181 (by first | exact H.c0 | exact H.cO.1 | exact H.cM.1 | exact H1.c0 | exact H1.cO.1 | exact H1.cM.1 | exact sC0 _ _ _ | exact sC1 _ _ _ | exact sC2 _ _ _ | assumption) (by omega) (by decide) ?_
        refine X.iret iX6_round_182 ⟨?_, H2, fun i hi => sCo _ _ (by omega)⟩
        rw [roundF, if_pos (Int32.not_lt.mp k0), if_pos hkn, ← bmE, nI_clamp hj]
        exact congrArg (fun z => some (Value.int z)) ((sdg_row n _ _).1 j jn)
      · exact absurd c160 k1
  have IN : ∀ i, i < O.nT → (∀ f, TB (fun t j => gwF O M t (atM M t &&& (bitI lad ^^^ -1)) (bitI lad) (nI j) n O.ba) (2 ^ n) f (i + 1) 0 → X xT mX6_round (xR (d + 5, 0, 0)) (0, 0) 48 [some (.ref 0), some (.int (nI lad)), some (.int (nI n)), some (.int k), some (.int (nI (i + 1))), none, none] [] (setC h 85 (Ch.mk f C.tr C.pl C.most)) (fun v h' => v = some (.int (roundF nw O.nT O.nL lad n k)) ∧ CI h' O M V KO KM KV kp T S ∧ ∀ i, 98 ≤ i → h' i = h i)) → ∀ m, m ≤ 2 ^ n → ∀ f, TB (fun t j => gwF O M t (atM M t &&& (bitI lad ^^^ -1)) (bitI lad) (nI j) n O.ba) (2 ^ n) f i m → X xT mX6_round (xR (d + 5, 0, 0)) (0, 0) 83 [some (.ref 0), some (.int (nI lad)), some (.int (nI n)), some (.int k), some (.int (nI i)), some (.int (atM M i &&& (bitI lad ^^^ -1))), some (.int (nI m))] [] (setC h 85 (Ch.mk f C.tr C.pl C.most)) (fun v h' => v = some (.int (roundF nw O.nT O.nL lad n k)) ∧ CI h' O M V KO KM KV kp T S ∧ ∀ i, 98 ≤ i → h' i = h i) := by
    intro i hi next
    refine xloop (2 ^ n) ?_ ?_
    · intro f hf
      have H1 := H.afc (Ch.mk f C.tr C.pl C.most)
      refine X.iload iX6_round_83 rfl ?_
      refine X.pushi (v := nI 1) iX6_round_85 ?_
      refine X.iload iX6_round_86 rfl ?_
      refine X.ishl iX6_round_87 ?_
      rw [bit1 (by omega)]
      refine X.cmge iX6_round_88 (fun c88 => ?_) (fun c88 => ?_)
      · refine X.iinc iX6_round_137 rfl rfl rfl ?_
        refine X.goto iX6_round_140 ?_
        rw [nI_1]
        exact X.unset 5 rfl (X.unset 6 rfl (next f hf.next))
      · exact absurd (Int32.le_refl _) c88
    · intro m hm ih f hf
      have H1 := H.afc (Ch.mk f C.tr C.pl C.most)
      refine X.iload iX6_round_83 rfl ?_
      refine X.pushi (v := nI 1) iX6_round_85 ?_
      refine X.iload iX6_round_86 rfl ?_
      refine X.ishl iX6_round_87 ?_
      rw [bit1 (by omega)]
      refine X.cmge iX6_round_88 (fun c88 => ?_) (fun c88 => ?_)
      · exact absurd c88 (nI_ge hm (by omega))
      · refine X.aload iX6_round_91 rfl ?_
        refine X.getf iX6_round_92 (by first | exact H.c0 | exact H.cO.1 | exact H.cM.1 | exact H1.c0 | exact H1.cO.1 | exact H1.cM.1 | exact sC0 _ _ _ | exact sC1 _ _ _ | exact sC2 _ _ _ | assumption) rfl ?_
        refine X.getf iX6_round_95 (by first | exact H.c0 | exact H.cO.1 | exact H.cM.1 | exact H1.c0 | exact H1.cO.1 | exact H1.cM.1 | exact sC0 _ _ _ | exact sC1 _ _ _ | exact sC2 _ _ _ | assumption) rfl ?_
        refine X.iload iX6_round_98 rfl ?_
        refine X.pushi (v := nI 16) iX6_round_100 ?_
        refine X.imul iX6_round_102 ?_
        refine X.iload iX6_round_103 rfl ?_
        refine X.iadd iX6_round_105 ?_
        refine X.aload iX6_round_106 rfl ?_
        refine X.getf iX6_round_107 (by first | exact H.c0 | exact H.cO.1 | exact H.cM.1 | exact H1.c0 | exact H1.cO.1 | exact H1.cM.1 | exact sC0 _ _ _ | exact sC1 _ _ _ | exact sC2 _ _ _ | assumption) rfl ?_
        refine X.iload iX6_round_110 rfl ?_
        refine X.iload iX6_round_112 rfl ?_
        refine X.pushi (v := nI 1) iX6_round_114 ?_
        refine X.iload iX6_round_115 rfl ?_
        refine X.ishl iX6_round_116 ?_
        refine X.iload iX6_round_117 rfl ?_
        refine X.iload iX6_round_119 rfl ?_
        refine X.aload iX6_round_120 rfl ?_
        refine X.getf iX6_round_121 (by first | exact H.c0 | exact H.cO.1 | exact H.cM.1 | exact H1.c0 | exact H1.cO.1 | exact H1.cM.1 | exact sC0 _ _ _ | exact sC1 _ _ _ | exact sC2 _ _ _ | assumption) rfl ?_
        refine X.getf iX6_round_124 (by first | exact H.c0 | exact H.cO.1 | exact H.cM.1 | exact H1.c0 | exact H1.cO.1 | exact H1.cM.1 | exact sC0 _ _ _ | exact sC1 _ _ _ | exact sC2 _ _ _ | assumption) rfl ?_
        refine X.callVi iX6_round_127 (c_X3_gotWithGuest (d := d) (t := i) (n := n) (M := M) H1.cO H1.cM h1.ki hL (by omega) (by omega)) (by first | exact H.c0 | exact H.cO.1 | exact H.cM.1 | exact H1.c0 | exact H1.cO.1 | exact H1.cM.1 | exact sC0 _ _ _ | exact sC1 _ _ _ | exact sC2 _ _ _ | assumption) rfl rfl (xfit _ _ _) (Nat.le_of_ble_eq_true rfl) ?_
        refine X.iastE iX6_round_130 (sC1 _ _ _) (ix16 i m) (by omega) (by decide) ?_
        rw [sC_wo]
        refine X.iinc iX6_round_131 rfl rfl rfl ?_
        refine X.goto iX6_round_134 ?_
        rw [nI_1]
        exact ih _ (hf.put h16 hm)
  have OUT : ∀ i, i ≤ O.nT → ∀ f, TB (fun t j => gwF O M t (atM M t &&& (bitI lad ^^^ -1)) (bitI lad) (nI j) n O.ba) (2 ^ n) f i 0 → X xT mX6_round (xR (d + 5, 0, 0)) (0, 0) 48 [some (.ref 0), some (.int (nI lad)), some (.int (nI n)), some (.int k), some (.int (nI i)), none, none] [] (setC h 85 (Ch.mk f C.tr C.pl C.most)) (fun v h' => v = some (.int (roundF nw O.nT O.nL lad n k)) ∧ CI h' O M V KO KM KV kp T S ∧ ∀ i, 98 ≤ i → h' i = h i) := by
    refine xloop O.nT ?_ ?_
    · intro f hf
      have H1 := H.afc (Ch.mk f C.tr C.pl C.most)
      refine X.iload iX6_round_48 rfl ?_
      refine X.aload iX6_round_50 rfl ?_
      refine X.getf iX6_round_51 (by first | exact H.c0 | exact H.cO.1 | exact H.cM.1 | exact H1.c0 | exact H1.cO.1 | exact H1.cM.1 | exact sC0 _ _ _ | exact sC1 _ _ _ | exact sC2 _ _ _ | assumption) rfl ?_
      refine X.getf iX6_round_54 (by first | exact H.c0 | exact H.cO.1 | exact H.cM.1 | exact H1.c0 | exact H1.cO.1 | exact H1.cM.1 | exact sC0 _ _ _ | exact sC1 _ _ _ | exact sC2 _ _ _ | assumption) rfl ?_
      refine X.cmge iX6_round_57 (fun c57 => ?_) (fun c57 => ?_)
      · exact END f hf
      · exact absurd (Int32.le_refl _) c57
    · intro i hi ih f hf
      have H1 := H.afc (Ch.mk f C.tr C.pl C.most)
      have I0 := IN i hi ih 0 (Nat.zero_le _) f hf
      refine X.iload iX6_round_48 rfl ?_
      refine X.aload iX6_round_50 rfl ?_
      refine X.getf iX6_round_51 (by first | exact H.c0 | exact H.cO.1 | exact H.cM.1 | exact H1.c0 | exact H1.cO.1 | exact H1.cM.1 | exact sC0 _ _ _ | exact sC1 _ _ _ | exact sC2 _ _ _ | assumption) rfl ?_
      refine X.getf iX6_round_54 (by first | exact H.c0 | exact H.cO.1 | exact H.cM.1 | exact H1.c0 | exact H1.cO.1 | exact H1.cM.1 | exact sC0 _ _ _ | exact sC1 _ _ _ | exact sC2 _ _ _ | assumption) rfl ?_
      refine X.cmge iX6_round_57 (fun c57 => ?_) (fun c57 => ?_)
      · exact absurd c57 (nI_ge hi (by omega))
      · refine X.aload iX6_round_60 rfl ?_
        refine X.getf iX6_round_61 (by first | exact H.c0 | exact H.cO.1 | exact H.cM.1 | exact H1.c0 | exact H1.cO.1 | exact H1.cM.1 | exact sC0 _ _ _ | exact sC1 _ _ _ | exact sC2 _ _ _ | assumption) rfl ?_
        refine X.getf iX6_round_64 (by first | exact H.c0 | exact H.cO.1 | exact H.cM.1 | exact H1.c0 | exact H1.cO.1 | exact H1.cM.1 | exact sC0 _ _ _ | exact sC1 _ _ _ | exact sC2 _ _ _ | assumption) rfl ?_
        refine X.iload iX6_round_67 rfl ?_
        refine X.callVi iX6_round_69 (c_X2_leaningAt (d := d + 4) H1.cM) (by first | exact H.c0 | exact H.cO.1 | exact H.cM.1 | exact H1.c0 | exact H1.cO.1 | exact H1.cM.1 | exact sC0 _ _ _ | exact sC1 _ _ _ | exact sC2 _ _ _ | assumption) rfl rfl (xfit _ _ _) (Nat.le_of_ble_eq_true rfl) ?_
        refine X.pushi (v := nI 1) iX6_round_72 ?_
        refine X.iload iX6_round_73 rfl ?_
        refine X.ishl iX6_round_74 ?_
        refine X.pushi iX6_round_75 ?_
        refine X.ixor iX6_round_76 ?_
        refine X.iand iX6_round_77 ?_
        refine X.istore iX6_round_78 rfl rfl ?_
        refine X.pushi (v := nI 0) iX6_round_80 ?_
        refine X.istore iX6_round_81 rfl rfl ?_
        exact I0
  have S0 := OUT 0 (Nat.zero_le _) C.wo (fun t j _ q => absurd q (by omega))
  rw [show setC h 85 (Ch.mk C.wo C.tr C.pl C.most) = h from IsC.set iC] at S0
  refine MetX.of (by decide) rfl (Nat.le_of_ble_eq_true rfl) ?_
  refine round_ok H h1 (isL_of (RM.wf h1 h2) hl) (inI_of hn1 hn (by decide)) hk ?_
  refine X.aload iX6_round_27 rfl ?_
  refine X.getf iX6_round_28 (by first | exact H.c0 | exact H.cO.1 | exact H.cM.1 | exact H1.c0 | exact H1.cO.1 | exact H1.cM.1 | exact sC0 _ _ _ | exact sC1 _ _ _ | exact sC2 _ _ _ | assumption) rfl ?_
  refine X.getf iX6_round_31 (by first | exact H.c0 | exact H.cO.1 | exact H.cM.1 | exact H1.c0 | exact H1.cO.1 | exact H1.cM.1 | exact sC0 _ _ _ | exact sC1 _ _ _ | exact sC2 _ _ _ | assumption) rfl ?_
  refine X.ifeq iX6_round_34 (fun c34 => ?_) (fun c34 => ?_)
  · exact absurd c34 (nI_ne0 h0 (by omega))
  · refine X.iload iX6_round_37 rfl ?_
    refine X.iload iX6_round_38 rfl ?_
    refine X.cmlt iX6_round_39 (fun c39 => ?_) (fun c39 => ?_)
    · refine X.pushi (v := nI 0) iX6_round_45 ?_
      refine X.istore iX6_round_46 rfl rfl ?_
      exact S0
    · exact absurd hkn c39
theorem bit01 (x : Nat) : x % 2 = 1 ∨ x % 2 = 0 := by omega
theorem c_X6_waysToBe {d p m c : Nat} {h : XH} (hp : p < 2 ^ 31) (hm : m < 2 ^ 31) (hc : c ≤ 10) : MetI mX6_waysToBe (d, 0, 0) [.int (nI p), .int (nI m), .int (nI c)] h (nI (wyN m p c 4)) := by
  have P : ∀ l, l ≤ 4 → X xT mX6_waysToBe (xR (d, 0, 0)) (0, 0) 5 [some (.int (nI p)), some (.int (nI m)), some (.int (nI c)), some (.int (nI (wyN m p c l))), some (.int (nI l))] [] h (fun v h' => v = some (.int (nI (wyN m p c 4))) ∧ h' = h) := by
    refine xloop 4 ?_ ?_
    · refine X.iload iX6_waysToBe_5 rfl ?_
      refine X.pushi (v := nI 4) iX6_waysToBe_7 ?_
      refine X.cmge iX6_waysToBe_8 (fun c8 => ?_) (fun c8 => ?_)
      · refine X.iload iX6_waysToBe_46 rfl ?_
        exact X.iret iX6_waysToBe_47 ⟨rfl, rfl⟩
      · exact absurd (Int32.le_refl _) c8
    · intro l hl ih
      rw [wyN] at ih
      rcases bit01 (m / 2 ^ l) with em | em
      · rw [if_pos em] at ih
        rcases bit01 (p / 2 ^ l) with ep | ep
        · rw [if_pos ep] at ih
          refine X.iload iX6_waysToBe_5 rfl ?_
          refine X.pushi (v := nI 4) iX6_waysToBe_7 ?_
          refine X.cmge iX6_waysToBe_8 (fun c8 => ?_) (fun c8 => ?_)
          · exact absurd c8 (nI_ge hl (by decide))
          · refine X.iload iX6_waysToBe_11 rfl ?_
            refine X.iload iX6_waysToBe_12 rfl ?_
            refine X.ishr iX6_waysToBe_14 ?_
            refine X.pushi (v := nI 1) iX6_waysToBe_15 ?_
            refine X.iand iX6_waysToBe_16 ?_
            rw [bitN hm (by omega), em]
            refine X.ifeq iX6_waysToBe_17 (fun c17 => ?_) (fun c17 => ?_)
            · exact absurd c17 (by decide)
            · refine X.iload iX6_waysToBe_20 rfl ?_
              refine X.iload iX6_waysToBe_21 rfl ?_
              refine X.iload iX6_waysToBe_22 rfl ?_
              refine X.ishr iX6_waysToBe_24 ?_
              refine X.pushi (v := nI 1) iX6_waysToBe_25 ?_
              refine X.iand iX6_waysToBe_26 ?_
              rw [bitN hp (by omega), ep]
              refine X.ifeq iX6_waysToBe_27 (fun c27 => ?_) (fun c27 => ?_)
              · exact absurd c27 (by decide)
              · refine X.pushi (v := nI 10) iX6_waysToBe_30 ?_
                refine X.iload iX6_waysToBe_32 rfl ?_
                refine X.isub iX6_waysToBe_33 ?_
                refine X.goto iX6_waysToBe_34 ?_
                rw [pk_sub hc]
                refine X.imul iX6_waysToBe_38 ?_
                rw [pk_mul]
                refine X.istore iX6_waysToBe_39 rfl rfl ?_
                refine X.iinc iX6_waysToBe_40 rfl rfl rfl ?_
                refine X.goto iX6_waysToBe_43 ?_
                rw [nI_1]
                exact ih
        · rw [if_neg (by omega)] at ih
          refine X.iload iX6_waysToBe_5 rfl ?_
          refine X.pushi (v := nI 4) iX6_waysToBe_7 ?_
          refine X.cmge iX6_waysToBe_8 (fun c8 => ?_) (fun c8 => ?_)
          · exact absurd c8 (nI_ge hl (by decide))
          · refine X.iload iX6_waysToBe_11 rfl ?_
            refine X.iload iX6_waysToBe_12 rfl ?_
            refine X.ishr iX6_waysToBe_14 ?_
            refine X.pushi (v := nI 1) iX6_waysToBe_15 ?_
            refine X.iand iX6_waysToBe_16 ?_
            rw [bitN hm (by omega), em]
            refine X.ifeq iX6_waysToBe_17 (fun c17 => ?_) (fun c17 => ?_)
            · exact absurd c17 (by decide)
            · refine X.iload iX6_waysToBe_20 rfl ?_
              refine X.iload iX6_waysToBe_21 rfl ?_
              refine X.iload iX6_waysToBe_22 rfl ?_
              refine X.ishr iX6_waysToBe_24 ?_
              refine X.pushi (v := nI 1) iX6_waysToBe_25 ?_
              refine X.iand iX6_waysToBe_26 ?_
              rw [bitN hp (by omega), ep]
              refine X.ifeq iX6_waysToBe_27 (fun c27 => ?_) (fun c27 => ?_)
              · refine X.iload iX6_waysToBe_37 rfl ?_
                refine X.imul iX6_waysToBe_38 ?_
                rw [pk_mul]
                refine X.istore iX6_waysToBe_39 rfl rfl ?_
                refine X.iinc iX6_waysToBe_40 rfl rfl rfl ?_
                refine X.goto iX6_waysToBe_43 ?_
                rw [nI_1]
                exact ih
              · exact absurd nI_0 c27
      · rw [if_neg (by omega)] at ih
        refine X.iload iX6_waysToBe_5 rfl ?_
        refine X.pushi (v := nI 4) iX6_waysToBe_7 ?_
        refine X.cmge iX6_waysToBe_8 (fun c8 => ?_) (fun c8 => ?_)
        · exact absurd c8 (nI_ge hl (by decide))
        · refine X.iload iX6_waysToBe_11 rfl ?_
          refine X.iload iX6_waysToBe_12 rfl ?_
          refine X.ishr iX6_waysToBe_14 ?_
          refine X.pushi (v := nI 1) iX6_waysToBe_15 ?_
          refine X.iand iX6_waysToBe_16 ?_
          rw [bitN hm (by omega), em]
          refine X.ifeq iX6_waysToBe_17 (fun c17 => ?_) (fun c17 => ?_)
          · refine X.iinc iX6_waysToBe_40 rfl rfl rfl ?_
            refine X.goto iX6_waysToBe_43 ?_
            rw [nI_1]
            exact ih
          · exact absurd nI_0 c17
  refine MetX.of (by decide) rfl (Nat.le_of_ble_eq_true rfl) ?_
  refine X.pushi (v := nI 1) iX6_waysToBe_0 ?_
  refine X.istore iX6_waysToBe_1 rfl rfl ?_
  refine X.pushi (v := nI 0) iX6_waysToBe_2 ?_
  refine X.istore iX6_waysToBe_3 rfl rfl ?_
  exact P 0 (Nat.zero_le _)
theorem gcd_0 {d a st : Nat} {h : XH} {x0 x1 : Int32} {L5 : Option Value} (ha : 0 < a) (ha2 : a < 2 ^ 31) (hs : st ≤ 100) : X xT mX6_commonDivisor (xR (d + 1, 0, 0)) (0, 0) 7 [some (.int x0), some (.int x1), some (.int (nI a)), some (.int (nI 0)), some (.int (nI st)), L5] [] h (fun v h' => v = some (.int (nI a)) ∧ h' = h) := by
  refine X.iload iX6_commonDivisor_7 rfl ?_
  refine X.pushi (v := nI 100) iX6_commonDivisor_9 ?_
  refine X.cmge iX6_commonDivisor_11 (fun c11 => ?_) (fun c11 => ?_)
  · refine X.iload iX6_commonDivisor_34 rfl ?_
    refine X.pushi (v := nI 1) iX6_commonDivisor_35 ?_
    refine X.mmax iX6_commonDivisor_36 (xfit0 _ _ _) (Nat.le_of_ble_eq_true rfl) ?_
    exact X.iret iX6_commonDivisor_39 ⟨(by rw [if_neg (nI_nlt (by omega) ha2)]), rfl⟩
  · refine X.iload iX6_commonDivisor_14 rfl ?_
    refine X.ifeq iX6_commonDivisor_15 (fun c15 => ?_) (fun c15 => ?_)
    · refine X.iload iX6_commonDivisor_34 rfl ?_
      refine X.pushi (v := nI 1) iX6_commonDivisor_35 ?_
      refine X.mmax iX6_commonDivisor_36 (xfit0 _ _ _) (Nat.le_of_ble_eq_true rfl) ?_
      exact X.iret iX6_commonDivisor_39 ⟨(by rw [if_neg (nI_nlt (by omega) ha2)]), rfl⟩
    · exact absurd nI_0 c15
theorem gcd_1 {d a b st : Nat} {h : XH} {x0 x1 : Int32} {L5 : Option Value} {Q : Option Value → XH → Prop} (hL5 : L5 = none ∨ ∃ x : Int32, L5 = some (.int x)) (ha : a < 2 ^ 31) (hb : b < 2 ^ 31) (h0 : 0 < b) (hs : st < 100) (K : ∀ x : Int32, X xT mX6_commonDivisor (xR (d + 1, 0, 0)) (0, 0) 7 [some (.int x0), some (.int x1), some (.int (nI b)), some (.int (nI (a % b))), some (.int (nI (st + 1))), some (.int x)] [] h Q) : X xT mX6_commonDivisor (xR (d + 1, 0, 0)) (0, 0) 7 [some (.int x0), some (.int x1), some (.int (nI a)), some (.int (nI b)), some (.int (nI st)), L5] [] h Q := by
  refine X.iload iX6_commonDivisor_7 rfl ?_
  refine X.pushi (v := nI 100) iX6_commonDivisor_9 ?_
  refine X.cmge iX6_commonDivisor_11 (fun c11 => ?_) (fun c11 => ?_)
  · exact absurd c11 (nI_ge hs (by decide))
  · refine X.iload iX6_commonDivisor_14 rfl ?_
    refine X.ifeq iX6_commonDivisor_15 (fun c15 => ?_) (fun c15 => ?_)
    · exact absurd c15 (nI_ne0 h0 hb)
    · refine X.iload iX6_commonDivisor_18 rfl ?_
      refine X.iload iX6_commonDivisor_19 rfl ?_
      refine X.irem iX6_commonDivisor_20 (nI_ne0 h0 hb) ?_
      rw [pk_rem ha h0 hb]
      refine X.istore iX6_commonDivisor_21 rfl rfl ?_
      refine X.iload iX6_commonDivisor_23 rfl ?_
      refine X.istore iX6_commonDivisor_24 rfl rfl ?_
      refine X.iload iX6_commonDivisor_25 rfl ?_
      refine X.istore iX6_commonDivisor_27 rfl rfl ?_
      refine X.iinc iX6_commonDivisor_28 rfl rfl rfl ?_
      refine X.goto iX6_commonDivisor_31 ?_
      rw [nI_1]
      exact K _
theorem gcd_k {d g : Nat} {h : XH} {x0 x1 : Int32} (hg : 0 < g) : ∀ k a b st (L5 : Option Value), (L5 = none ∨ ∃ x : Int32, L5 = some (.int x)) → b < 2 ^ k → st + 2 * k ≤ 100 → a < 2 ^ 31 → b < 2 ^ 31 → Nat.gcd a b = g → X xT mX6_commonDivisor (xR (d + 1, 0, 0)) (0, 0) 7 [some (.int x0), some (.int x1), some (.int (nI a)), some (.int (nI b)), some (.int (nI st)), L5] [] h (fun v h' => v = some (.int (nI g)) ∧ h' = h) := by
  intro k
  induction k with
  | zero =>
    intro a b st L5 _ hb hs ha _ e
    have b0 : b = 0 := by simp at hb; omega
    subst b0
    rw [Nat.gcd_zero_right] at e
    subst e
    exact gcd_0 hg ha (by omega)
  | succ k ih =>
    intro a b st L5 hL5 hb hs ha hb2 e
    by_cases b0 : b = 0
    · subst b0
      rw [Nat.gcd_zero_right] at e
      subst e
      exact gcd_0 hg ha (by omega)
    · refine gcd_1 hL5 ha hb2 (by omega) (by omega) (fun x => ?_)
      have hr := Nat.mod_lt a (show 0 < b by omega)
      have e2 : Nat.gcd b (a % b) = g := by
        rw [← e, Nat.gcd_comm a b, Nat.gcd_rec b a, Nat.gcd_comm]
      generalize a % b = r at hr e2
      by_cases r0 : r = 0
      · subst r0
        rw [Nat.gcd_zero_right] at e2
        subst e2
        exact gcd_0 hg hb2 (by omega)
      · refine gcd_1 (Or.inr ⟨x, rfl⟩) hb2 (by omega) (by omega) (by omega) (fun y => ?_)
        have hq := Nat.mod_lt b (show 0 < r by omega)
        have hh : b % r + r ≤ b := by
          have := Nat.div_add_mod b r
          have d1 : 1 ≤ b / r := (Nat.le_div_iff_mul_le (by omega)).mpr (by omega)
          have : r * 1 ≤ r * (b / r) := Nat.mul_le_mul_left r d1
          omega
        have e3 : Nat.gcd r (b % r) = g := by
          rw [← e2, Nat.gcd_comm b r, Nat.gcd_rec r b, Nat.gcd_comm]
        have hp : 2 ^ (k + 1) = 2 * 2 ^ k := by rw [Nat.pow_succ, Nat.mul_comm]
        exact ih r (b % r) (st + 1 + 1) _ (Or.inr ⟨y, rfl⟩) (by omega) (by omega) (by omega) (by omega) e3
theorem c_X6_commonDivisor {d a b : Nat} {h : XH} (ha : a < 2 ^ 31) (hb : b < 2 ^ 31) (h0 : 0 < b) : MetI mX6_commonDivisor (d + 1, 0, 0) [.int (nI a), .int (nI b)] h (nI (Nat.gcd a b)) := by
  refine MetX.of (by decide) rfl (Nat.le_of_ble_eq_true rfl) ?_
  refine X.iload iX6_commonDivisor_0 rfl ?_
  refine X.istore iX6_commonDivisor_1 rfl rfl ?_
  refine X.iload iX6_commonDivisor_2 rfl ?_
  refine X.istore iX6_commonDivisor_3 rfl rfl ?_
  refine X.pushi (v := nI 0) iX6_commonDivisor_4 ?_
  refine X.istore iX6_commonDivisor_5 rfl rfl ?_
  exact gcd_k (Nat.gcd_pos_of_pos_right a h0) 31 a b 0 none (Or.inl rfl) hb (by omega) ha hb rfl
