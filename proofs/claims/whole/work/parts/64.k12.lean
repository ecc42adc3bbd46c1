/-! the class's own methods: left, film -/
theorem lvB_f {O : Oc} {M : Mo} {t a k : Nat} {s : Int32} {it : Nat → Int64} (h : lvB O M t s it a k = false) : ∀ j, lvB O M t s it a (k + j) = false
  | 0 => h
  | j + 1 => by rw [← Nat.add_assoc, lvB, lvB_f h j, Bool.false_and]
theorem lvB_it {O : Oc} {M : Mo} {t a b : Nat} {s : Int32} {f g : Nat → Int64} : ∀ n, (∀ k, k < n → f (a + k) = g (b + k)) → lvB O M t s f a n = lvB O M t s g b n
  | 0, _ => rfl
  | n + 1, h => by rw [lvB, lvB, lvB_it n (fun k hk => h k (by omega)), h n (by omega)]
theorem c_X6_leavesSo {d t q i n : Nat} {s : Int32} {Z : Sh} {nw : Nat → Int32} {h : XH} {O : Oc} {M : Mo} {V : Hi} {KO : Oc} {KM : Mo} {KV : Hi} {kp : Bool} {T : Ta} {S : Nat → Sh} (H : CI h O M V KO KM KV kp T S) (h1 : RO O nw) (ht : t < O.nT) (hq : IsS h q Z) (hi : i + n ≤ 24) : MetI mX6_leavesSo (d + 5, 0, 0) [.ref 0, .int (nI t), .int s, .ref q, .int (nI i), .int (nI n)] h (bI (lvB O M t s Z.it i n)) := by
  have hT := h1.2.2.1
  have hL := h1.2.2.2.1
  have P : ∀ k, k ≤ n → lvB O M t s Z.it i k = true → X xT mX6_leavesSo (xR (d + 5, 0, 0)) (0, 0) 17 [some (.ref 0), some (.int (nI t)), some (.int s), some (.ref q), some (.int (nI i)), some (.int (nI n)), some (.int (gS O (M.fr t) M.day t (fun _ => s) O.ba k).1), some (.int (nI k))] [] h (fun v h' => v = some (.int (bI (lvB O M t s Z.it i n))) ∧ h' = h) := by
    refine xloop n ?_ ?_
    · intro e
      rw [e]
      refine X.iload iX6_leavesSo_17 rfl ?_
      refine X.iload iX6_leavesSo_19 rfl ?_
      refine X.cmge iX6_leavesSo_21 (fun c21 => ?_) (fun c21 => ?_)
      · refine X.pushi (v := nI 1) iX6_leavesSo_75 ?_
        exact X.zret (x := true) iX6_leavesSo_76 ⟨rfl, rfl⟩
      · exact absurd (Int32.le_refl _) c21
    · intro k hk ih e
      refine X.iload iX6_leavesSo_17 rfl ?_
      refine X.iload iX6_leavesSo_19 rfl ?_
      refine X.cmge iX6_leavesSo_21 (fun c21 => ?_) (fun c21 => ?_)
      · exact absurd c21 (nI_ge hk (by omega))
      · refine X.aload iX6_leavesSo_24 rfl ?_
        refine X.getf iX6_leavesSo_25 (by first | exact H.c0 | exact H.cO.1 | exact H.cM.1 | exact H.cM.2.1 | exact hA | exact H1.c0 | exact H1.cO.1 | exact H1.cM.1 | assumption) rfl ?_
        refine X.iload iX6_leavesSo_28 rfl ?_
        refine X.aload iX6_leavesSo_29 rfl ?_
        refine X.getf iX6_leavesSo_30 (by first | exact H.c0 | exact H.cO.1 | exact H.cM.1 | exact H.cM.2.1 | exact hA | exact H1.c0 | exact H1.cO.1 | exact H1.cM.1 | assumption) rfl ?_
        refine X.getf iX6_leavesSo_33 (by first | exact H.c0 | exact H.cO.1 | exact H.cM.1 | exact H.cM.2.1 | exact hA | exact H1.c0 | exact H1.cO.1 | exact H1.cM.1 | assumption) rfl ?_
        refine X.getf iX6_leavesSo_36 (by first | exact H.c0 | exact H.cO.1 | exact H.cM.1 | exact H.cM.2.1 | exact hA | exact H1.c0 | exact H1.cO.1 | exact H1.cM.1 | assumption) rfl ?_
        refine X.iload iX6_leavesSo_39 rfl ?_
        refine X.iadd iX6_leavesSo_41 ?_
        refine X.iload iX6_leavesSo_42 rfl ?_
        refine X.iload iX6_leavesSo_43 rfl ?_
        refine X.callVi iX6_leavesSo_45 (c_X3_leftBehind (d := d) H.cO h1.ki hL (by omega)) (by first | exact H.c0 | exact H.cO.1 | exact H.cM.1 | exact H.cM.2.1 | exact hA | exact H1.c0 | exact H1.cO.1 | exact H1.cM.1 | assumption) rfl rfl (xfit _ _ _) (Nat.le_of_ble_eq_true rfl) ?_
        rw [lb_gS]
        refine X.istore iX6_leavesSo_48 rfl rfl ?_
        refine X.aload iX6_leavesSo_50 rfl ?_
        refine X.getf iX6_leavesSo_51 hq.1 rfl ?_
        refine X.iload iX6_leavesSo_54 rfl ?_
        refine X.iload iX6_leavesSo_56 rfl ?_
        refine X.iadd iX6_leavesSo_58 ?_
        refine X.laldE iX6_leavesSo_59 hq.2 (nI_add i k) (by omega) (by decide) ?_
        refine X.iload iX6_leavesSo_60 rfl ?_
        refine X.i2l iX6_leavesSo_62 ?_
        refine X.lcmp iX6_leavesSo_63 ?_
        refine X.ifeq iX6_leavesSo_64 (fun c64 => ?_) (fun c64 => ?_)
        · refine X.iinc iX6_leavesSo_69 rfl rfl rfl ?_
          refine X.goto iX6_leavesSo_72 ?_
          rw [nI_1]
          exact ih (by rw [lvB, e, Bool.true_and]; exact decide_eq_true ((lg0 _ _).mp c64).symm)
        · refine X.pushi (v := nI 0) iX6_leavesSo_67 ?_
          have ef : lvB O M t s Z.it i (k + 1) = false := by
            rw [lvB, e, Bool.true_and]
            exact decide_eq_false (fun z => c64 ((lg0 _ _).mpr z.symm))
          have en := lvB_f ef (n - (k + 1))
          rw [show k + 1 + (n - (k + 1)) = n by omega] at en
          rw [en]
          exact X.zret (x := false) iX6_leavesSo_68 ⟨rfl, rfl⟩
  refine MetX.of (by decide) rfl (Nat.le_of_ble_eq_true rfl) ?_
  refine X.aload iX6_leavesSo_0 rfl ?_
  refine X.getf iX6_leavesSo_1 (by first | exact H.c0 | exact H.cO.1 | exact H.cM.1 | exact H.cM.2.1 | exact hA | exact H1.c0 | exact H1.cO.1 | exact H1.cM.1 | assumption) rfl ?_
  refine X.getf iX6_leavesSo_4 (by first | exact H.c0 | exact H.cO.1 | exact H.cM.1 | exact H.cM.2.1 | exact hA | exact H1.c0 | exact H1.cO.1 | exact H1.cM.1 | assumption) rfl ?_
  refine X.getf iX6_leavesSo_7 (by first | exact H.c0 | exact H.cO.1 | exact H.cM.1 | exact H.cM.2.1 | exact hA | exact H1.c0 | exact H1.cO.1 | exact H1.cM.1 | assumption) rfl ?_
  refine X.iload iX6_leavesSo_10 rfl ?_
  refine X.ialdN iX6_leavesSo_11 (by first | exact H.c0 | exact H.cO.1 | exact H.cM.1 | exact H.cM.2.1 | exact hA | exact H1.c0 | exact H1.cO.1 | exact H1.cM.1 | assumption) (by omega) (by decide) ?_
  refine X.istore iX6_leavesSo_12 rfl rfl ?_
  refine X.pushi (v := nI 0) iX6_leavesSo_14 ?_
  refine X.istore iX6_leavesSo_15 rfl rfl ?_
  exact P 0 (Nat.zero_le _) rfl
theorem left_ok {d t s n : Nat} {l i : Int32} {nw : Nat → Int32} {Q : Option Value → XH → Prop} {h : XH} {O : Oc} {M : Mo} {V : Hi} {KO : Oc} {KM : Mo} {KV : Hi} {kp : Bool} {T : Ta} {S : Nat → Sh} (H : CI h O M V KO KM KV kp T S) (h1 : RO O nw) (h2 : RM O.nT O.nL M nw) (ht : t < O.nT) (hs : s < 4) (hl : inI l (nI 0) (nI 3) = true) (hn : 1 ≤ n ∧ n ≤ 8) (K : X xT mX6_left (xR (d + 2, 0, 0)) (0, 0) 54 [some (.ref 0), some (.int (nI t)), some (.int (nI s)), some (.int l), some (.int i), some (.int (nI n)), some (.int (fndI (S s) l i (nI n))), none, none] [] h Q) : X xT mX6_left (xR (d + 2, 0, 0)) (0, 0) 0 [some (.ref 0), some (.int (nI t)), some (.int (nI s)), some (.int l), some (.int i), some (.int (nI n)), none, none, none] [] h Q := by
  obtain ⟨ss, hA, hss⟩ := H.cA
  have HT := c_X3_hasTree (d := d + 1) (t := nI t) H.cO
  rw [has_T h1] at HT
  have eT := isT_of (RM.wf h1 h2) ht
  refine X.aload iX6_left_0 rfl ?_
  refine X.getf iX6_left_1 (by first | exact H.c0 | exact H.cO.1 | exact H.cM.1 | exact H.cM.2.1 | exact hA | exact H1.c0 | exact H1.cO.1 | exact H1.cM.1 | assumption) rfl ?_
  refine X.iload iX6_left_4 rfl ?_
  refine X.callVi iX6_left_5 (HT) (by first | exact H.c0 | exact H.cO.1 | exact H.cM.1 | exact H.cM.2.1 | exact hA | exact H1.c0 | exact H1.cO.1 | exact H1.cM.1 | assumption) rfl rfl (xfit _ _ _) (Nat.le_of_ble_eq_true rfl) ?_
  refine X.ifeqB iX6_left_8 (fun c8 => ?_) (fun c8 => ?_)
  · exact absurd (c8.symm.trans eT) (by decide)
  · refine X.iload iX6_left_11 rfl ?_
    refine X.callSi iX6_left_12 (c_X6_isSheet d h (nI s)) rfl rfl (xfit _ _ _) (Nat.le_of_ble_eq_true rfl) ?_
    refine X.ifeqB iX6_left_15 (fun c15 => ?_) (fun c15 => ?_)
    · exact absurd (c15.symm.trans (inI_of (Nat.zero_le _) (show s ≤ 3 by omega) (by decide))) (by decide)
    · refine X.iload iX6_left_18 rfl ?_
      refine X.callSi iX6_left_19 (c_X6_isLane d h l) rfl rfl (xfit _ _ _) (Nat.le_of_ble_eq_true rfl) ?_
      refine X.ifeqB iX6_left_22 (fun c22 => ?_) (fun c22 => ?_)
      · exact absurd (c22.symm.trans hl) (by decide)
      · refine X.iload iX6_left_25 rfl ?_
        refine X.pushi (v := nI 1) iX6_left_27 ?_
        refine X.pushi (v := nI 8) iX6_left_28 ?_
        refine X.callSi iX6_left_30 (c_X6_within (d + 1) h (nI n) (nI 1) (nI 8)) rfl rfl (xfit _ _ _) (Nat.le_of_ble_eq_true rfl) ?_
        refine X.ifneB iX6_left_33 (fun c33 => ?_) (fun c33 => ?_)
        · refine X.aload iX6_left_38 rfl ?_
          refine X.getf iX6_left_39 (by first | exact H.c0 | exact H.cO.1 | exact H.cM.1 | exact H.cM.2.1 | exact hA | exact H1.c0 | exact H1.cO.1 | exact H1.cM.1 | assumption) rfl ?_
          refine X.iload iX6_left_42 rfl ?_
          refine X.aald (q := 90 + 2 * s) iX6_left_43 (Or.inr rfl) hA (vp_inN hs (by decide)) (ss_at hss hs) ?_
          refine X.iload iX6_left_44 rfl ?_
          refine X.iload iX6_left_45 rfl ?_
          refine X.iload iX6_left_47 rfl ?_
          refine X.callVi iX6_left_49 (c_X4_find (d := d) (H.cS s hs)) (H.cS s hs).1 rfl rfl (xfit _ _ _) (Nat.le_of_ble_eq_true rfl) ?_
          refine X.istore iX6_left_52 rfl rfl ?_
          exact K
        · exact absurd (c33.symm.trans (inI_of hn.1 hn.2 (by decide))) (by decide)
theorem c_X6_left_bad {d : Nat} {t s l i n : Int32} {nw : Nat → Int32} {h : XH} {O : Oc} {M : Mo} {V : Hi} {KO : Oc} {KM : Mo} {KV : Hi} {kp : Bool} {T : Ta} {S : Nat → Sh} (H : CI h O M V KO KM KV kp T S) (h1 : RO O nw) (hb : isT nw t = false ∨ inI s (nI 0) (nI 3) = false ∨ inI l (nI 0) (nI 3) = false ∨ inI n (nI 1) (nI 8) = false) : MetI mX6_left (d + 2, 0, 0) [.ref 0, .int t, .int s, .int l, .int i, .int n] h (-1) := by
  have HT := c_X3_hasTree (d := d + 1) (t := t) H.cO
  rw [has_T h1] at HT
  refine MetX.of (by decide) rfl (Nat.le_of_ble_eq_true rfl) ?_
  refine X.aload iX6_left_0 rfl ?_
  refine X.getf iX6_left_1 (by first | exact H.c0 | exact H.cO.1 | exact H.cM.1 | exact H.cM.2.1 | exact hA | exact H1.c0 | exact H1.cO.1 | exact H1.cM.1 | assumption) rfl ?_
  refine X.iload iX6_left_4 rfl ?_
  refine X.callVi iX6_left_5 (HT) (by first | exact H.c0 | exact H.cO.1 | exact H.cM.1 | exact H.cM.2.1 | exact hA | exact H1.c0 | exact H1.cO.1 | exact H1.cM.1 | assumption) rfl rfl (xfit _ _ _) (Nat.le_of_ble_eq_true rfl) ?_
  refine X.ifeqB iX6_left_8 (fun c8 => ?_) (fun c8 => ?_)
  · refine X.pushi iX6_left_36 ?_
    exact X.iret iX6_left_37 ⟨rfl, rfl⟩
  · refine X.iload iX6_left_11 rfl ?_
    refine X.callSi iX6_left_12 (c_X6_isSheet d h s) rfl rfl (xfit _ _ _) (Nat.le_of_ble_eq_true rfl) ?_
    refine X.ifeqB iX6_left_15 (fun c15 => ?_) (fun c15 => ?_)
    · refine X.pushi iX6_left_36 ?_
      exact X.iret iX6_left_37 ⟨rfl, rfl⟩
    · refine X.iload iX6_left_18 rfl ?_
      refine X.callSi iX6_left_19 (c_X6_isLane d h l) rfl rfl (xfit _ _ _) (Nat.le_of_ble_eq_true rfl) ?_
      refine X.ifeqB iX6_left_22 (fun c22 => ?_) (fun c22 => ?_)
      · refine X.pushi iX6_left_36 ?_
        exact X.iret iX6_left_37 ⟨rfl, rfl⟩
      · refine X.iload iX6_left_25 rfl ?_
        refine X.pushi (v := nI 1) iX6_left_27 ?_
        refine X.pushi (v := nI 8) iX6_left_28 ?_
        refine X.callSi iX6_left_30 (c_X6_within (d + 1) h n (nI 1) (nI 8)) rfl rfl (xfit _ _ _) (Nat.le_of_ble_eq_true rfl) ?_
        refine X.ifneB iX6_left_33 (fun c33 => ?_) (fun c33 => ?_)
        · exact absurd hb (fun z => z.elim (fun y => Bool.noConfusion (c8.symm.trans y)) (fun y => y.elim (fun x => Bool.noConfusion (c15.symm.trans x)) (fun x => x.elim (fun v => Bool.noConfusion (c22.symm.trans v)) (fun v => Bool.noConfusion (c33.symm.trans v)))))
        · refine X.pushi iX6_left_36 ?_
          exact X.iret iX6_left_37 ⟨rfl, rfl⟩
theorem c_X6_left_no {d t s n : Nat} {l i : Int32} {nw : Nat → Int32} {h : XH} {O : Oc} {M : Mo} {V : Hi} {KO : Oc} {KM : Mo} {KV : Hi} {kp : Bool} {T : Ta} {S : Nat → Sh} (H : CI h O M V KO KM KV kp T S) (h1 : RO O nw) (h2 : RM O.nT O.nL M nw) (ht : t < O.nT) (hs : s < 4) (hl : inI l (nI 0) (nI 3) = true) (hn : 1 ≤ n ∧ n ≤ 8) (e : ¬ fndI (S s) l i (nI n) = 0) : MetI mX6_left (d + 2, 0, 0) [.ref 0, .int (nI t), .int (nI s), .int l, .int i, .int (nI n)] h (fndI (S s) l i (nI n)) := by
  refine MetX.of (by decide) rfl (Nat.le_of_ble_eq_true rfl) ?_
  refine left_ok H h1 h2 ht hs hl hn ?_
  refine X.iload iX6_left_54 rfl ?_
  refine X.ifeq iX6_left_56 (fun c56 => ?_) (fun c56 => ?_)
  · exact absurd c56 e
  · refine X.iload iX6_left_59 rfl ?_
    exact X.iret iX6_left_61 ⟨rfl, rfl⟩
def lfA (O : Oc) (M : Mo) (t : Nat) (it : Nat → Int64) (i n : Nat) (b : Int32) : Nat → Int32
  | 0 => b
  | l + 1 => if lvB O M t (bitI l) it i n = true then lfA O M t it i n b l ||| bitI l else lfA O M t it i n b l
def lf0 (O : Oc) (M : Mo) (t : Nat) (it : Nat → Int64) (i n : Nat) : Int32 := if lvB O M t (nI 0) it i n = true then nI 32 else nI 0
theorem c_X6_left {d t s n i : Nat} {l : Int32} {nw : Nat → Int32} {h : XH} {O : Oc} {M : Mo} {V : Hi} {KO : Oc} {KM : Mo} {KV : Hi} {kp : Bool} {T : Ta} {S : Nat → Sh} (H : CI h O M V KO KM KV kp T S) (h1 : RO O nw) (h2 : RM O.nT O.nL M nw) (ht : t < O.nT) (hs : s < 4) (hl : inI l (nI 0) (nI 3) = true) (hn : 1 ≤ n ∧ n ≤ 8) (hi : i + n ≤ 24) (e : fndI (S s) l (nI i) (nI n) = 0) : MetI mX6_left (d + 6, 0, 0) [.ref 0, .int (nI t), .int (nI s), .int l, .int (nI i), .int (nI n)] h (lfA O M t (S s).it i n (lf0 O M t (S s).it i n) O.nL) := by
  have hT := h1.2.2.1
  have hL := h1.2.2.2.1
  obtain ⟨ss, hA, hss⟩ := H.cA
  have P : ∀ k, k ≤ O.nL → X xT mX6_left (xR (d + 6, 0, 0)) (0, 0) 92 [some (.ref 0), some (.int (nI t)), some (.int (nI s)), some (.int l), some (.int (nI i)), some (.int (nI n)), some (.int (fndI (S s) l (nI i) (nI n))), some (.int (lfA O M t (S s).it i n (lf0 O M t (S s).it i n) k)), some (.int (nI k))] [] h (fun v h' => v = some (.int (lfA O M t (S s).it i n (lf0 O M t (S s).it i n) O.nL)) ∧ h' = h) := by
    refine xloop O.nL ?_ ?_
    · refine X.iload iX6_left_92 rfl ?_
      refine X.aload iX6_left_94 rfl ?_
      refine X.getf iX6_left_95 (by first | exact H.c0 | exact H.cO.1 | exact H.cM.1 | exact H.cM.2.1 | exact hA | exact H1.c0 | exact H1.cO.1 | exact H1.cM.1 | assumption) rfl ?_
      refine X.getf iX6_left_98 (by first | exact H.c0 | exact H.cO.1 | exact H.cM.1 | exact H.cM.2.1 | exact hA | exact H1.c0 | exact H1.cO.1 | exact H1.cM.1 | assumption) rfl ?_
      refine X.cmge iX6_left_101 (fun c101 => ?_) (fun c101 => ?_)
      · refine X.iload iX6_left_141 rfl ?_
        exact X.iret iX6_left_143 ⟨rfl, rfl⟩
      · exact absurd (Int32.le_refl _) c101
    · intro k hk ih
      rw [lfA] at ih
      refine X.iload iX6_left_92 rfl ?_
      refine X.aload iX6_left_94 rfl ?_
      refine X.getf iX6_left_95 (by first | exact H.c0 | exact H.cO.1 | exact H.cM.1 | exact H.cM.2.1 | exact hA | exact H1.c0 | exact H1.cO.1 | exact H1.cM.1 | assumption) rfl ?_
      refine X.getf iX6_left_98 (by first | exact H.c0 | exact H.cO.1 | exact H.cM.1 | exact H.cM.2.1 | exact hA | exact H1.c0 | exact H1.cO.1 | exact H1.cM.1 | assumption) rfl ?_
      refine X.cmge iX6_left_101 (fun c101 => ?_) (fun c101 => ?_)
      · exact absurd c101 (nI_ge hk (by omega))
      · refine X.aload iX6_left_104 rfl ?_
        refine X.iload iX6_left_105 rfl ?_
        refine X.pushi (v := nI 1) iX6_left_106 ?_
        refine X.iload iX6_left_107 rfl ?_
        refine X.ishl iX6_left_109 ?_
        refine X.aload iX6_left_110 rfl ?_
        refine X.getf iX6_left_111 (by first | exact H.c0 | exact H.cO.1 | exact H.cM.1 | exact H.cM.2.1 | exact hA | exact H1.c0 | exact H1.cO.1 | exact H1.cM.1 | assumption) rfl ?_
        refine X.iload iX6_left_114 rfl ?_
        refine X.aald (q := 90 + 2 * s) iX6_left_115 (Or.inr rfl) hA (vp_inN hs (by decide)) (ss_at hss hs) ?_
        refine X.iload iX6_left_116 rfl ?_
        refine X.iload iX6_left_118 rfl ?_
        refine X.callVi iX6_left_120 (c_X6_leavesSo (d := d) (s := bitI k) H h1 ht (H.cS s hs) hi) (by first | exact H.c0 | exact H.cO.1 | exact H.cM.1 | exact H.cM.2.1 | exact hA | exact H1.c0 | exact H1.cO.1 | exact H1.cM.1 | assumption) rfl rfl (xfit _ _ _) (Nat.le_of_ble_eq_true rfl) ?_
        refine X.ifeqB iX6_left_123 (fun c123 => ?_) (fun c123 => ?_)
        · refine X.iinc iX6_left_135 rfl rfl rfl ?_
          refine X.goto iX6_left_138 ?_
          rw [nI_1]
          first
          | (rw [if_pos c123] at ih; exact ih)
          | (rw [if_neg (fun z => Bool.noConfusion (c123.symm.trans z))] at ih; exact ih)
        · refine X.iload iX6_left_126 rfl ?_
          refine X.pushi (v := nI 1) iX6_left_128 ?_
          refine X.iload iX6_left_129 rfl ?_
          refine X.ishl iX6_left_131 ?_
          refine X.ior iX6_left_132 ?_
          refine X.istore iX6_left_133 rfl rfl ?_
          refine X.iinc iX6_left_135 rfl rfl rfl ?_
          refine X.goto iX6_left_138 ?_
          rw [nI_1]
          first
          | (rw [if_pos c123] at ih; exact ih)
          | (rw [if_neg (fun z => Bool.noConfusion (c123.symm.trans z))] at ih; exact ih)
  have p1 : ∀ x, lf0 O M t (S s).it i n = x → X xT mX6_left (xR (d + 6, 0, 0)) (0, 0) 92 [some (.ref 0), some (.int (nI t)), some (.int (nI s)), some (.int l), some (.int (nI i)), some (.int (nI n)), some (.int (fndI (S s) l (nI i) (nI n))), some (.int x), some (.int (nI 0))] [] h (fun v h' => v = some (.int (lfA O M t (S s).it i n (lf0 O M t (S s).it i n) O.nL)) ∧ h' = h) := fun x hx => by
    have p0 := P 0 (Nat.zero_le _)
    rw [show lfA O M t (S s).it i n (lf0 O M t (S s).it i n) 0 = x from hx] at p0
    exact p0
  refine MetX.of (by decide) rfl (Nat.le_of_ble_eq_true rfl) ?_
  refine left_ok (d := d + 4) H h1 h2 ht hs hl hn ?_
  refine X.iload iX6_left_54 rfl ?_
  refine X.ifeq iX6_left_56 (fun c56 => ?_) (fun c56 => ?_)
  · refine X.aload iX6_left_62 rfl ?_
    refine X.iload iX6_left_63 rfl ?_
    refine X.pushi (v := nI 0) iX6_left_64 ?_
    refine X.aload iX6_left_65 rfl ?_
    refine X.getf iX6_left_66 (by first | exact H.c0 | exact H.cO.1 | exact H.cM.1 | exact H.cM.2.1 | exact hA | exact H1.c0 | exact H1.cO.1 | exact H1.cM.1 | assumption) rfl ?_
    refine X.iload iX6_left_69 rfl ?_
    refine X.aald (q := 90 + 2 * s) iX6_left_70 (Or.inr rfl) hA (vp_inN hs (by decide)) (ss_at hss hs) ?_
    refine X.iload iX6_left_71 rfl ?_
    refine X.iload iX6_left_73 rfl ?_
    refine X.callVi iX6_left_75 (c_X6_leavesSo (d := d) (s := nI 0) H h1 ht (H.cS s hs) hi) (by first | exact H.c0 | exact H.cO.1 | exact H.cM.1 | exact H.cM.2.1 | exact hA | exact H1.c0 | exact H1.cO.1 | exact H1.cM.1 | assumption) rfl rfl (xfit _ _ _) (Nat.le_of_ble_eq_true rfl) ?_
    refine X.ifeqB iX6_left_78 (fun c78 => ?_) (fun c78 => ?_)
    · refine X.pushi (v := nI 0) iX6_left_86 ?_
      refine X.istore iX6_left_87 rfl rfl ?_
      refine X.pushi (v := nI 0) iX6_left_89 ?_
      refine X.istore iX6_left_90 rfl rfl ?_
      first
      | (refine p1 _ ?_; rw [lf0, if_pos c78])
      | (refine p1 _ ?_; rw [lf0, c78, if_neg Bool.false_ne_true])
    · refine X.pushi (v := nI 32) iX6_left_81 ?_
      refine X.goto iX6_left_83 ?_
      refine X.istore iX6_left_87 rfl rfl ?_
      refine X.pushi (v := nI 0) iX6_left_89 ?_
      refine X.istore iX6_left_90 rfl rfl ?_
      first
      | (refine p1 _ ?_; rw [lf0, if_pos c78])
      | (refine p1 _ ?_; rw [lf0, c78, if_neg Bool.false_ne_true])
  · exact absurd e c56
/-- the class's set, the reference's -/
theorem lfA_bits (O : Oc) (M : Mo) (t : Nat) (it : Nat → Int64) (i n : Nat) (b : Int32) : ∀ k, lfA O M t it i n b k = b ||| bits (fun l => lvB O M t (bitI l) it i n) k
  | 0 => by
    rw [lfA, bits]
    exact (Int32.or_zero).symm
  | k + 1 => by
    rw [lfA, bits, lfA_bits O M t it i n b k]
    by_cases q : lvB O M t (bitI k) it i n = true
    · rw [if_pos q, if_pos q, Int32.or_assoc]
    · rw [if_neg q, if_neg q, show bits (fun l => lvB O M t (bitI l) it i n) k ||| nI 0 = bits (fun l => lvB O M t (bitI l) it i n) k from Int32.or_zero]
theorem leftS_bits {O : Oc} {M : Mo} {nw : Nat → Int32} {t a n i : Nat} {it f : Nat → Int64} (h : RO O nw) (h2 : RM O.nT O.nL M nw) (ht : t < O.nT) (hf : ∀ k, k < n → it (a + k) = f (i + k)) : ∀ l, l ≤ O.nL → leftS nw O.nT O.nL t it a n l = bits (fun l => lvB O M t (bitI l) f i n) l
  | 0, _ => rfl
  | l + 1, hl => by
    rw [leftS, bits, leftS_bits h h2 ht hf l (by omega), left_own h h2 ht n, lvB_it n hf, lfS, if_pos (show l < O.nL by omega), if_neg (show ¬ l = O.nL by omega)]
theorem left_ans {O : Oc} {M : Mo} {nw : Nat → Int32} {t a n i : Nat} {it f : Nat → Int64} (h : RO O nw) (h2 : RM O.nT O.nL M nw) (ht : t < O.nT) (hf : ∀ k, k < n → it (a + k) = f (i + k)) : leftS nw O.nT O.nL t it a n (O.nL + 1) = lfA O M t f i n (lf0 O M t f i n) O.nL := by
  rw [leftS, leftS_bits h h2 ht hf O.nL (Nat.le_refl _), left_own h h2 ht n, lvB_it n hf, lfS, if_neg (Nat.lt_irrefl _), if_pos rfl, lfA_bits, lf0]
  exact Int32.or_comm _ _
/-- film -/
theorem itm_N (l x : Nat) (hl : l < 4) (hx : x ≤ 99) : itmV (nI l) (nI x).toInt64 = (nI x).toInt64 :=
  (by decide +kernel : ∀ (l : Fin 4) (x : Fin 100), itmV (nI l.1) (nI x.1).toInt64 = (nI x.1).toInt64) ⟨l, hl⟩ ⟨x, by omega⟩
def flG (O : Oc) (M : Mo) (t : Nat) : Nat → Int64 := fun k => (gS O (M.fr t) M.day t (fun _ => atL M.ln t) O.ba (k + 1)).1.toInt64
theorem film_G {O : Oc} {M : Mo} {nw : Nat → Int32} {t : Nat} (h : RO O nw) (h2 : RM O.nT O.nL M nw) (ht : t < O.nT) : filmG nw O.nT O.nL t = flG O M t := by
  funext k
  rw [filmG, flG, (tree_law h h2 (k + 1)).1 t ht]
theorem film_ok {d t s n : Nat} {l i : Int32} {nw : Nat → Int32} {Q : Option Value → XH → Prop} {h : XH} {O : Oc} {M : Mo} {V : Hi} {KO : Oc} {KM : Mo} {KV : Hi} {kp : Bool} {T : Ta} {S : Nat → Sh} (H : CI h O M V KO KM KV kp T S) (h1 : RO O nw) (h2 : RM O.nT O.nL M nw) (ht : t < O.nT) (hs : s < 4) (hl : inI l (nI 0) (nI 3) = true) (hn : 1 ≤ n ∧ n ≤ 24) (K : X xT mX6_film (xR (d + 2, 0, 0)) (0, 0) 54 [some (.ref 0), some (.int (nI t)), some (.int (nI n)), some (.int (nI s)), some (.int l), some (.int i), some (.int (fndI (S s) l i (nI n))), none, none, none] [] h Q) : X xT mX6_film (xR (d + 2, 0, 0)) (0, 0) 0 [some (.ref 0), some (.int (nI t)), some (.int (nI n)), some (.int (nI s)), some (.int l), some (.int i), none, none, none, none] [] h Q := by
  obtain ⟨ss, hA, hss⟩ := H.cA
  have HT := c_X3_hasTree (d := d + 1) (t := nI t) H.cO
  rw [has_T h1] at HT
  have eT := isT_of (RM.wf h1 h2) ht
  refine X.aload iX6_film_0 rfl ?_
  refine X.getf iX6_film_1 (by first | exact H.c0 | exact H.cO.1 | exact H.cM.1 | exact H.cM.2.1 | exact hA | exact H1.c0 | exact H1.cO.1 | exact H1.cM.1 | assumption) rfl ?_
  refine X.iload iX6_film_4 rfl ?_
  refine X.callVi iX6_film_5 (HT) (by first | exact H.c0 | exact H.cO.1 | exact H.cM.1 | exact H.cM.2.1 | exact hA | exact H1.c0 | exact H1.cO.1 | exact H1.cM.1 | assumption) rfl rfl (xfit _ _ _) (Nat.le_of_ble_eq_true rfl) ?_
  refine X.ifeqB iX6_film_8 (fun c8 => ?_) (fun c8 => ?_)
  · exact absurd (c8.symm.trans eT) (by decide)
  · refine X.iload iX6_film_11 rfl ?_
    refine X.pushi (v := nI 1) iX6_film_12 ?_
    refine X.pushi (v := nI 24) iX6_film_13 ?_
    refine X.callSi iX6_film_15 (c_X6_within (d + 1) h (nI n) (nI 1) (nI 24)) rfl rfl (xfit _ _ _) (Nat.le_of_ble_eq_true rfl) ?_
    refine X.ifeqB iX6_film_18 (fun c18 => ?_) (fun c18 => ?_)
    · exact absurd (c18.symm.trans (inI_of hn.1 hn.2 (by decide))) (by decide)
    · refine X.iload iX6_film_21 rfl ?_
      refine X.callSi iX6_film_22 (c_X6_isSheet d h (nI s)) rfl rfl (xfit _ _ _) (Nat.le_of_ble_eq_true rfl) ?_
      refine X.ifeqB iX6_film_25 (fun c25 => ?_) (fun c25 => ?_)
      · exact absurd (c25.symm.trans (inI_of (Nat.zero_le _) (show s ≤ 3 by omega) (by decide))) (by decide)
      · refine X.iload iX6_film_28 rfl ?_
        refine X.callSi iX6_film_30 (c_X6_isLane d h l) rfl rfl (xfit _ _ _) (Nat.le_of_ble_eq_true rfl) ?_
        refine X.ifneB iX6_film_33 (fun c33 => ?_) (fun c33 => ?_)
        · refine X.aload iX6_film_38 rfl ?_
          refine X.getf iX6_film_39 (by first | exact H.c0 | exact H.cO.1 | exact H.cM.1 | exact H.cM.2.1 | exact hA | exact H1.c0 | exact H1.cO.1 | exact H1.cM.1 | assumption) rfl ?_
          refine X.iload iX6_film_42 rfl ?_
          refine X.aald (q := 90 + 2 * s) iX6_film_43 (Or.inr rfl) hA (vp_inN hs (by decide)) (ss_at hss hs) ?_
          refine X.iload iX6_film_44 rfl ?_
          refine X.iload iX6_film_46 rfl ?_
          refine X.iload iX6_film_48 rfl ?_
          refine X.callVi iX6_film_49 (c_X4_find (d := d) (H.cS s hs)) (H.cS s hs).1 rfl rfl (xfit _ _ _) (Nat.le_of_ble_eq_true rfl) ?_
          refine X.istore iX6_film_52 rfl rfl ?_
          exact K
        · exact absurd (c33.symm.trans hl) (by decide)
theorem c_X6_film_bad {d : Nat} {t n s l i : Int32} {nw : Nat → Int32} {h : XH} {O : Oc} {M : Mo} {V : Hi} {KO : Oc} {KM : Mo} {KV : Hi} {kp : Bool} {T : Ta} {S : Nat → Sh} (H : CI h O M V KO KM KV kp T S) (h1 : RO O nw) (hb : isT nw t = false ∨ inI n (nI 1) (nI 24) = false ∨ inI s (nI 0) (nI 3) = false ∨ inI l (nI 0) (nI 3) = false) : MetI mX6_film (d + 2, 0, 0) [.ref 0, .int t, .int n, .int s, .int l, .int i] h (-1) := by
  have HT := c_X3_hasTree (d := d + 1) (t := t) H.cO
  rw [has_T h1] at HT
  refine MetX.of (by decide) rfl (Nat.le_of_ble_eq_true rfl) ?_
  refine X.aload iX6_film_0 rfl ?_
  refine X.getf iX6_film_1 (by first | exact H.c0 | exact H.cO.1 | exact H.cM.1 | exact H.cM.2.1 | exact hA | exact H1.c0 | exact H1.cO.1 | exact H1.cM.1 | assumption) rfl ?_
  refine X.iload iX6_film_4 rfl ?_
  refine X.callVi iX6_film_5 (HT) (by first | exact H.c0 | exact H.cO.1 | exact H.cM.1 | exact H.cM.2.1 | exact hA | exact H1.c0 | exact H1.cO.1 | exact H1.cM.1 | assumption) rfl rfl (xfit _ _ _) (Nat.le_of_ble_eq_true rfl) ?_
  refine X.ifeqB iX6_film_8 (fun c8 => ?_) (fun c8 => ?_)
  · refine X.pushi iX6_film_36 ?_
    exact X.iret iX6_film_37 ⟨rfl, rfl⟩
  · refine X.iload iX6_film_11 rfl ?_
    refine X.pushi (v := nI 1) iX6_film_12 ?_
    refine X.pushi (v := nI 24) iX6_film_13 ?_
    refine X.callSi iX6_film_15 (c_X6_within (d + 1) h n (nI 1) (nI 24)) rfl rfl (xfit _ _ _) (Nat.le_of_ble_eq_true rfl) ?_
    refine X.ifeqB iX6_film_18 (fun c18 => ?_) (fun c18 => ?_)
    · refine X.pushi iX6_film_36 ?_
      exact X.iret iX6_film_37 ⟨rfl, rfl⟩
    · refine X.iload iX6_film_21 rfl ?_
      refine X.callSi iX6_film_22 (c_X6_isSheet d h s) rfl rfl (xfit _ _ _) (Nat.le_of_ble_eq_true rfl) ?_
      refine X.ifeqB iX6_film_25 (fun c25 => ?_) (fun c25 => ?_)
      · refine X.pushi iX6_film_36 ?_
        exact X.iret iX6_film_37 ⟨rfl, rfl⟩
      · refine X.iload iX6_film_28 rfl ?_
        refine X.callSi iX6_film_30 (c_X6_isLane d h l) rfl rfl (xfit _ _ _) (Nat.le_of_ble_eq_true rfl) ?_
        refine X.ifneB iX6_film_33 (fun c33 => ?_) (fun c33 => ?_)
        · exact absurd hb (fun z => z.elim (fun y => Bool.noConfusion (c8.symm.trans y)) (fun y => y.elim (fun x => Bool.noConfusion (c18.symm.trans x)) (fun x => x.elim (fun v => Bool.noConfusion (c25.symm.trans v)) (fun v => Bool.noConfusion (c33.symm.trans v)))))
        · refine X.pushi iX6_film_36 ?_
          exact X.iret iX6_film_37 ⟨rfl, rfl⟩
theorem c_X6_film_no {d t s n : Nat} {l i : Int32} {nw : Nat → Int32} {h : XH} {O : Oc} {M : Mo} {V : Hi} {KO : Oc} {KM : Mo} {KV : Hi} {kp : Bool} {T : Ta} {S : Nat → Sh} (H : CI h O M V KO KM KV kp T S) (h1 : RO O nw) (h2 : RM O.nT O.nL M nw) (ht : t < O.nT) (hs : s < 4) (hl : inI l (nI 0) (nI 3) = true) (hn : 1 ≤ n ∧ n ≤ 24) (e : ¬ fndI (S s) l i (nI n) = 0) : MetI mX6_film (d + 2, 0, 0) [.ref 0, .int (nI t), .int (nI n), .int (nI s), .int l, .int i] h (fndI (S s) l i (nI n)) := by
  refine MetX.of (by decide) rfl (Nat.le_of_ble_eq_true rfl) ?_
  refine film_ok H h1 h2 ht hs hl hn ?_
  refine X.iload iX6_film_54 rfl ?_
  refine X.ifeq iX6_film_56 (fun c56 => ?_) (fun c56 => ?_)
  · exact absurd c56 e
  · refine X.iload iX6_film_59 rfl ?_
    exact X.iret iX6_film_61 ⟨rfl, rfl⟩
theorem c_X6_film {d t s n i l : Nat} {nw : Nat → Int32} {h : XH} {O : Oc} {M : Mo} {V : Hi} {KO : Oc} {KM : Mo} {KV : Hi} {kp : Bool} {T : Ta} {S : Nat → Sh} (H : CI h O M V KO KM KV kp T S) (h1 : RO O nw) (h2 : RM O.nT O.nL M nw) (ht : t < O.nT) (hs : s < 4) (hl : l < 4) (el : (S s).la = nI l) (hn : 1 ≤ n ∧ n ≤ 24) (hi : i + n ≤ 24) (e : fndI (S s) (nI l) (nI i) (nI n) = 0) : MetC mX6_film (d + 5) [.ref 0, .int (nI t), .int (nI n), .int (nI s), .int (nI l), .int (nI i)] h (nI n) O M V KO KM KV kp T (upS S s (Sh.mk (putL (S s).it (flG O M t) i n) (S s).la (S s).sz)) := by
  have hT := h1.2.2.1
  have hL := h1.2.2.2.1
  obtain ⟨ss, hA, hss⟩ := H.cA
  obtain ⟨b, wv, hb, eb, hw, ew⟩ := h1.nums
  obtain ⟨a, ea, ha⟩ := h2.fn ht
  have P : ∀ k, k ≤ n → X xT mX6_film (xR (d + 5, 0, 0)) (0, 0) 92 [some (.ref 0), some (.int (nI t)), some (.int (nI n)), some (.int (nI s)), some (.int (nI l)), some (.int (nI i)), some (.int (fndI (S s) (nI l) (nI i) (nI n))), some (.int (atL M.ln t)), some (.int (gS O (M.fr t) M.day t (fun _ => atL M.ln t) O.ba k).1), some (.int (nI k))] [] (setS h (90 + 2 * s) (Sh.mk (putL (S s).it (flG O M t) i k) (S s).la (S s).sz)) (fun v h' => v = some (.int (nI n)) ∧ CI h' O M V KO KM KV kp T (upS S s (Sh.mk (putL (S s).it (flG O M t) i n) (S s).la (S s).sz)) ∧ ∀ i, 98 ≤ i → h' i = h i) := by
    refine xloop n ?_ ?_
    · refine X.iload iX6_film_92 rfl ?_
      refine X.iload iX6_film_94 rfl ?_
      refine X.cmge iX6_film_95 (fun c95 => ?_) (fun c95 => ?_)
      · refine X.iload iX6_film_148 rfl ?_
        exact X.iret iX6_film_149 ⟨rfl, H.afs hs _, fun i hi => sSo _ _ (by omega)⟩
      · exact absurd (Int32.le_refl _) c95
    · intro k hk ih
      have H1 := H.afs hs (Sh.mk (putL (S s).it (flG O M t) i k) (S s).la (S s).sz)
      have hA1 : setS h (90 + 2 * s) (Sh.mk (putL (S s).it (flG O M t) i k) (S s).la (S s).sz) 89 = some (.inl (.object RX4, 4, .inr (.inr (.inr (.inr ss))))) := by rw [sSo _ _ (by omega)]; exact hA
      obtain ⟨x, hx, ex, -⟩ := gS_N (day := M.day) (t := t) (S := fun _ => atL M.ln t) hL ⟨ea, ha⟩ hb ⟨ew, hw⟩ (k + 1)
      rw [← eb] at ex
      have PU := c_X4_put (d := d + 4) (s := 90 + 2 * s) (i := i + k) (h := h) (V := (Sh.mk (putL (S s).it (flG O M t) i k) (S s).la (S s).sz)) (v := (gS O (M.fr t) M.day t (fun _ => atL M.ln t) O.ba (k + 1)).1.toInt64) el hl (by omega)
      have eP : vp_updL (putL (S s).it (flG O M t) i k) (i + k) (itmV (S s).la (gS O (M.fr t) M.day t (fun _ => atL M.ln t) O.ba (k + 1)).1.toInt64) = putL (S s).it (flG O M t) i (k + 1) := by
        rw [el, ex, itm_N l x hl hx, ← putL_s, flG, ex]
      rw [show ((Sh.mk (putL (S s).it (flG O M t) i k) (S s).la (S s).sz) : Sh).la = (S s).la from rfl, show ((Sh.mk (putL (S s).it (flG O M t) i k) (S s).la (S s).sz) : Sh).it = putL (S s).it (flG O M t) i k from rfl, eP] at PU
      refine X.iload iX6_film_92 rfl ?_
      refine X.iload iX6_film_94 rfl ?_
      refine X.cmge iX6_film_95 (fun c95 => ?_) (fun c95 => ?_)
      · exact absurd c95 (nI_ge hk (by omega))
      · refine X.aload iX6_film_98 rfl ?_
        refine X.getf iX6_film_99 (by first | exact H.c0 | exact H.cO.1 | exact H.cM.1 | exact H.cM.2.1 | exact hA | exact H1.c0 | exact H1.cO.1 | exact H1.cM.1 | assumption) rfl ?_
        refine X.iload iX6_film_102 rfl ?_
        refine X.aload iX6_film_103 rfl ?_
        refine X.getf iX6_film_104 (by first | exact H.c0 | exact H.cO.1 | exact H.cM.1 | exact H.cM.2.1 | exact hA | exact H1.c0 | exact H1.cO.1 | exact H1.cM.1 | assumption) rfl ?_
        refine X.getf iX6_film_107 (by first | exact H.c0 | exact H.cO.1 | exact H.cM.1 | exact H.cM.2.1 | exact hA | exact H1.c0 | exact H1.cO.1 | exact H1.cM.1 | assumption) rfl ?_
        refine X.getf iX6_film_110 (by first | exact H.c0 | exact H.cO.1 | exact H.cM.1 | exact H.cM.2.1 | exact hA | exact H1.c0 | exact H1.cO.1 | exact H1.cM.1 | assumption) rfl ?_
        refine X.iload iX6_film_113 rfl ?_
        refine X.iadd iX6_film_115 ?_
        refine X.iload iX6_film_116 rfl ?_
        refine X.iload iX6_film_118 rfl ?_
        refine X.callVi iX6_film_120 (c_X3_leftBehind (d := d) H1.cO h1.ki hL (by omega)) (by first | exact H.c0 | exact H.cO.1 | exact H.cM.1 | exact H.cM.2.1 | exact hA | exact H1.c0 | exact H1.cO.1 | exact H1.cM.1 | assumption) rfl rfl (xfit _ _ _) (Nat.le_of_ble_eq_true rfl) ?_
        rw [lb_gS]
        refine X.istore iX6_film_123 rfl rfl ?_
        refine X.aload iX6_film_125 rfl ?_
        refine X.getf iX6_film_126 (by first | exact H.c0 | exact H.cO.1 | exact H.cM.1 | exact H.cM.2.1 | exact hA | exact H1.c0 | exact H1.cO.1 | exact H1.cM.1 | assumption) rfl ?_
        refine X.iload iX6_film_129 rfl ?_
        refine X.aald (q := 90 + 2 * s) iX6_film_130 (Or.inr rfl) hA1 (vp_inN hs (by decide)) (ss_at hss hs) ?_
        refine X.iload iX6_film_131 rfl ?_
        refine X.iload iX6_film_133 rfl ?_
        refine X.iadd iX6_film_135 ?_
        rw [nI_add]
        refine X.iload iX6_film_136 rfl ?_
        refine X.i2l iX6_film_138 ?_
        refine X.callVv iX6_film_139 PU (sS0 _ _ _) rfl rfl (xfit _ _ _) (Nat.le_of_ble_eq_true rfl) ?_
        refine X.iinc iX6_film_142 rfl rfl rfl ?_
        refine X.goto iX6_film_145 ?_
        rw [nI_1]
        exact ih
  have p0 := P 0 (Nat.zero_le _)
  rw [putL_0, show setS h (90 + 2 * s) (Sh.mk ((S s).it) (S s).la (S s).sz) = h from IsS.set (H.cS s hs)] at p0
  refine MetX.of (by decide) rfl (Nat.le_of_ble_eq_true rfl) ?_
  refine film_ok (d := d + 3) H h1 h2 ht hs (inI_of (Nat.zero_le _) (show l ≤ 3 by omega) (by decide)) hn ?_
  refine X.iload iX6_film_54 rfl ?_
  refine X.ifeq iX6_film_56 (fun c56 => ?_) (fun c56 => ?_)
  · refine X.aload iX6_film_62 rfl ?_
    refine X.getf iX6_film_63 (by first | exact H.c0 | exact H.cO.1 | exact H.cM.1 | exact H.cM.2.1 | exact hA | exact H1.c0 | exact H1.cO.1 | exact H1.cM.1 | assumption) rfl ?_
    refine X.getf iX6_film_66 (by first | exact H.c0 | exact H.cO.1 | exact H.cM.1 | exact H.cM.2.1 | exact hA | exact H1.c0 | exact H1.cO.1 | exact H1.cM.1 | assumption) rfl ?_
    refine X.iload iX6_film_69 rfl ?_
    refine X.callVi iX6_film_70 (c_X2_leaningAt (d := d + 4) H.cM) (by first | exact H.c0 | exact H.cO.1 | exact H.cM.1 | exact H.cM.2.1 | exact hA | exact H1.c0 | exact H1.cO.1 | exact H1.cM.1 | assumption) rfl rfl (xfit _ _ _) (Nat.le_of_ble_eq_true rfl) ?_
    refine X.istore iX6_film_73 rfl rfl ?_
    refine X.aload iX6_film_75 rfl ?_
    refine X.getf iX6_film_76 (by first | exact H.c0 | exact H.cO.1 | exact H.cM.1 | exact H.cM.2.1 | exact hA | exact H1.c0 | exact H1.cO.1 | exact H1.cM.1 | assumption) rfl ?_
    refine X.getf iX6_film_79 (by first | exact H.c0 | exact H.cO.1 | exact H.cM.1 | exact H.cM.2.1 | exact hA | exact H1.c0 | exact H1.cO.1 | exact H1.cM.1 | assumption) rfl ?_
    refine X.getf iX6_film_82 (by first | exact H.c0 | exact H.cO.1 | exact H.cM.1 | exact H.cM.2.1 | exact hA | exact H1.c0 | exact H1.cO.1 | exact H1.cM.1 | assumption) rfl ?_
    refine X.iload iX6_film_85 rfl ?_
    refine X.ialdN iX6_film_86 (by first | exact H.c0 | exact H.cO.1 | exact H.cM.1 | exact H.cM.2.1 | exact hA | exact H1.c0 | exact H1.cO.1 | exact H1.cM.1 | assumption) (by omega) (by decide) ?_
    refine X.istore iX6_film_87 rfl rfl ?_
    refine X.pushi (v := nI 0) iX6_film_89 ?_
    refine X.istore iX6_film_90 rfl rfl ?_
    exact p0
  · exact absurd e c56
