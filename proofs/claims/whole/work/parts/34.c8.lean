/-! the class: a Choice -/
abbrev Ch : Type := (Nat → Int32) × (Nat → Int32) × (Nat → Int32) × Int32
abbrev Ch.mk (wo : Nat → Int32) (tr : Nat → Int32) (pl : Nat → Int32) (most : Int32) : Ch := (wo, tr, pl, most)
abbrev Ch.wo (Z : Ch) : Nat → Int32 := Z.1
abbrev Ch.tr (Z : Ch) : Nat → Int32 := Z.2.1
abbrev Ch.pl (Z : Ch) : Nat → Int32 := Z.2.2.1
abbrev Ch.most (Z : Ch) : Int32 := Z.2.2.2
abbrev chS (c : Nat) (V : Ch) : List Value := [.ref (c + 1), .ref (c + 2), .ref (c + 3), .int V.most]
def IsC (h : XH) (c : Nat) (V : Ch) : Prop := h c = some (.inr (0, chS c V)) ∧ h (c + 1) = some (IA 96 V.wo) ∧ h (c + 2) = some (IA 4 V.tr) ∧ h (c + 3) = some (IA 6 V.pl)
def setC (h : XH) (c : Nat) (V : Ch) : XH := fun i => if i = c then some (.inr (0, chS c V)) else if i = c + 1 then some (IA 96 V.wo) else if i = c + 2 then some (IA 4 V.tr) else if i = c + 3 then some (IA 6 V.pl) else h i
theorem sC0 (h : XH) (c : Nat) (V : Ch) : setC h c V c = some (.inr (0, chS c V)) := if_pos rfl
theorem sC1 (h : XH) (c : Nat) (V : Ch) : setC h c V (c + 1) = some (IA 96 V.wo) := by rw [setC, if_neg (by omega), if_pos rfl]
theorem sC2 (h : XH) (c : Nat) (V : Ch) : setC h c V (c + 2) = some (IA 4 V.tr) := by rw [setC, if_neg (by omega), if_neg (by omega), if_pos rfl]
theorem sC3 (h : XH) (c : Nat) (V : Ch) : setC h c V (c + 3) = some (IA 6 V.pl) := by rw [setC, if_neg (by omega), if_neg (by omega), if_neg (by omega), if_pos rfl]
theorem sCo (h : XH) {c i : Nat} (V : Ch) (q : i < c ∨ c + 3 < i) : setC h c V i = h i := by rw [setC, if_neg (by omega), if_neg (by omega), if_neg (by omega), if_neg (by omega)]
theorem sC_is (h : XH) (c : Nat) (V : Ch) : IsC (setC h c V) c V := ⟨sC0 h c V, sC1 h c V, sC2 h c V, sC3 h c V⟩
theorem sC_eq {h p : XH} {c : Nat} {V : Ch} (a : IsC p c V) (o : ∀ i, i < c ∨ c + 3 < i → p i = h i) : p = setC h c V := by
  obtain ⟨a0, a1, a2, a3⟩ := a
  funext i
  by_cases q0 : i = c
  · rw [q0, sC0, a0]
  by_cases q1 : i = c + 1
  · rw [q1, sC1, a1]
  by_cases q2 : i = c + 2
  · rw [q2, sC2, a2]
  by_cases q3 : i = c + 3
  · rw [q3, sC3, a3]
  rw [sCo _ _ (by omega)]
  exact o i (by omega)
theorem IsC.set {h : XH} {c : Nat} {V : Ch} (a : IsC h c V) : setC h c V = h := (sC_eq a (fun _ _ => rfl)).symm
theorem sC_wo (h : XH) (c : Nat) (V : Ch) (f : Nat → Int32) : xup (setC h c V) (c + 1) (IA 96 f) = setC h c (Ch.mk f V.tr V.pl V.most) := sC_eq ⟨by rw [xup_ne _ _ (by omega)]; exact sC0 h c V, xup_eq _ _ _, by rw [xup_ne _ _ (by omega)]; exact sC2 h c V, by rw [xup_ne _ _ (by omega)]; exact sC3 h c V⟩ (fun i q => by rw [xup_ne _ _ (by omega)]; exact sCo h V q)
theorem sC_tr (h : XH) (c : Nat) (V : Ch) (f : Nat → Int32) : xup (setC h c V) (c + 2) (IA 4 f) = setC h c (Ch.mk V.wo f V.pl V.most) := sC_eq ⟨by rw [xup_ne _ _ (by omega)]; exact sC0 h c V, by rw [xup_ne _ _ (by omega)]; exact sC1 h c V, xup_eq _ _ _, by rw [xup_ne _ _ (by omega)]; exact sC3 h c V⟩ (fun i q => by rw [xup_ne _ _ (by omega)]; exact sCo h V q)
theorem sC_pl (h : XH) (c : Nat) (V : Ch) (f : Nat → Int32) : xup (setC h c V) (c + 3) (IA 6 f) = setC h c (Ch.mk V.wo V.tr f V.most) := sC_eq ⟨by rw [xup_ne _ _ (by omega)]; exact sC0 h c V, by rw [xup_ne _ _ (by omega)]; exact sC1 h c V, by rw [xup_ne _ _ (by omega)]; exact sC2 h c V, xup_eq _ _ _⟩ (fun i q => by rw [xup_ne _ _ (by omega)]; exact sCo h V q)
theorem sC_mo (h : XH) (c : Nat) (V : Ch) (x : Int32) : xup (setC h c V) c (.inr (0, (chS c V).set 3 (.int x))) = setC h c (Ch.mk V.wo V.tr V.pl x) := sC_eq ⟨xup_eq _ _ _, by rw [xup_ne _ _ (by omega)]; exact sC1 h c V, by rw [xup_ne _ _ (by omega)]; exact sC2 h c V, by rw [xup_ne _ _ (by omega)]; exact sC3 h c V⟩ (fun i q => by rw [xup_ne _ _ (by omega)]; exact sCo h V q)
/-- the trees of a way, place by place -/
def sdg (T : Nat) : Nat → (Nat → Int32) → Nat → (Nat → Int32)
  | 0, f, _ => f
  | k + 1, f, left => sdg T k (upd f k (nI (left % T))) (left / T)
theorem c_X0_spread {d c w T P : Nat} {h : XH} {V : Ch} (h0 : 0 < T) (hT : T ≤ 6) (hP : P ≤ 4) (hw : w < 2 ^ 31) : MetV mX0_spread (d, 0, 0) [.ref c, .int (nI w), .int (nI T), .int (nI P)] (setC h c V) (setC h c (Ch.mk V.wo (sdg T P V.tr w) V.pl V.most)) := by
  have L : ∀ k left f, k ≤ P → left < 2 ^ 31 → sdg T k f left = sdg T P V.tr w → X xT mX0_spread (xR (d, 0, 0)) (0, 0) 8 [some (.ref c), some (.int (nI w)), some (.int (nI T)), some (.int (nI P)), some (.int (nI left)), some (.int (nI k - nI 1))] [] (setC h c (Ch.mk V.wo f V.pl V.most)) (fun v h' => v = none ∧ h' = setC h c (Ch.mk V.wo (sdg T P V.tr w) V.pl V.most)) := by
    intro k
    induction k with
    | zero =>
      intro left f hk hl e
      rw [← e]
      refine X.iload iX0_spread_8 rfl ?_
      refine X.iflt iX0_spread_10 (fun c10 => ?_) (fun c10 => ?_)
      · exact X.vret iX0_spread_36 ⟨rfl, rfl⟩
      · exact absurd (by decide) c10
    | succ k ih =>
      intro left f hk hl e
      rw [nI_pred1]
      refine X.iload iX0_spread_8 rfl ?_
      refine X.iflt iX0_spread_10 (fun c10 => ?_) (fun c10 => ?_)
      · exact absurd c10 (nI_pos (by omega))
      · refine X.aload iX0_spread_13 rfl ?_
        refine X.getf iX0_spread_14 (by first | assumption | exact sC0 _ _ _ | exact sC1 _ _ _ | exact sC2 _ _ _ | exact sC3 _ _ _ | rfl) rfl ?_
        refine X.iload iX0_spread_17 rfl ?_
        refine X.iload iX0_spread_19 rfl ?_
        refine X.iload iX0_spread_21 rfl ?_
        refine X.irem iX0_spread_22 (nI_ne0 h0 (by omega)) ?_
        rw [pk_rem hl h0 (by omega)]
        refine X.iastE iX0_spread_23 (by first | assumption | exact sC0 _ _ _ | exact sC1 _ _ _ | exact sC2 _ _ _ | exact sC3 _ _ _ | rfl) rfl (by omega) (by decide) ?_
        rw [sC_tr]
        refine X.iload iX0_spread_24 rfl ?_
        refine X.iload iX0_spread_26 rfl ?_
        refine X.idiv iX0_spread_27 (nI_ne0 h0 (by omega)) ?_
        rw [pk_div hl h0 (by omega)]
        refine X.istore iX0_spread_28 rfl rfl ?_
        refine X.iinc iX0_spread_30 rfl rfl rfl ?_
        refine X.goto iX0_spread_33 ?_
        rw [im1]
        exact ih (left / T) _ (by omega) (Nat.lt_of_le_of_lt (Nat.div_le_self _ _) hl) e
  refine MetX.of (by decide) rfl (Nat.le_of_ble_eq_true rfl) ?_
  refine X.iload iX0_spread_0 rfl ?_
  refine X.istore iX0_spread_1 rfl rfl ?_
  refine X.iload iX0_spread_3 rfl ?_
  refine X.pushi (v := nI 1) iX0_spread_4 ?_
  refine X.isub iX0_spread_5 ?_
  refine X.istore iX0_spread_6 rfl rfl ?_
  exact L P w V.tr (Nat.le_refl _) hw rfl
/-- the places of a way, tree by tree -/
def pdg (T : Nat) : Nat → (Nat → Int32) → Nat → (Nat → Int32)
  | 0, f, _ => f
  | k + 1, f, left => pdg T k (upd f (left % T) (f (left % T) ||| bitI k)) (left / T)
def lo16 (f : Nat → Int32) (T : Nat) : Prop := ∀ t, t < T → ∃ j, j < 16 ∧ f t = nI j
theorem or16 : ∀ (j : Fin 16) (k : Fin 4), ∃ i : Fin 16, nI j.1 ||| bitI k.1 = nI i.1 := by decide
theorem lo16_or {f : Nat → Int32} {T s k : Nat} (h : lo16 f T) (hs : s < T) (hk : k < 4) : lo16 (upd f s (f s ||| bitI k)) T := by
  intro t ht
  by_cases q : t = s
  · rw [q, upd_eq]
    obtain ⟨j, h1, h2⟩ := h s hs
    rw [h2]
    obtain ⟨i, hi⟩ := or16 ⟨j, h1⟩ ⟨k, hk⟩
    exact ⟨i.1, i.2, hi⟩
  · rw [upd_ne _ _ q]
    exact h t ht
theorem pdg_lo {T : Nat} (h0 : 0 < T) : ∀ k f left, k ≤ 4 → lo16 f T → lo16 (pdg T k f left) T
  | 0, _, _, _, h => h
  | k + 1, f, left, hk, h => pdg_lo h0 k _ _ (by omega) (lo16_or h (Nat.mod_lt _ h0) (by omega))
theorem pdg_cong {T : Nat} (h0 : 0 < T) : ∀ k (f g : Nat → Int32) left, (∀ t, t < T → f t = g t) → ∀ t, t < T → pdg T k f left t = pdg T k g left t
  | 0, _, _, _, h => h
  | k + 1, f, g, left, h => pdg_cong h0 k _ _ _ (fun t ht => by
    by_cases q : t = left % T
    · rw [q, upd_eq, upd_eq, h _ (Nat.mod_lt _ h0)]
    · rw [upd_ne _ _ q, upd_ne _ _ q]
      exact h t ht)
def wsum (wo pl : Nat → Int32) : Nat → Int32
  | 0 => nI 0
  | t + 1 => wsum wo pl t + wo (16 * t + (pl t).toNatClampNeg)
theorem wsum_cong (wo f g : Nat → Int32) : ∀ T, (∀ t, t < T → f t = g t) → wsum wo f T = wsum wo g T
  | 0, _ => rfl
  | T + 1, h => by rw [wsum, wsum, wsum_cong wo f g T (fun t ht => h t (by omega)), h T (by omega)]
def wOwn (wo : Nat → Int32) (T P w : Nat) : Int32 := wsum wo (pdg T P (fun _ => nI 0) w) T
def wPl (pl : Nat → Int32) (T P w : Nat) : Nat → Int32 := pdg T P (cp (fun _ => nI 0) pl T) w
theorem wOwn_eq (wo pl : Nat → Int32) {T P w : Nat} (h0 : 0 < T) : wsum wo (wPl pl T P w) T = wOwn wo T P w := wsum_cong wo _ _ T (pdg_cong h0 P _ _ w (fun t ht => by rw [cp, if_pos ht]))
theorem wPl_lo (pl : Nat → Int32) {T P w : Nat} (h0 : 0 < T) (hP : P ≤ 4) : lo16 (wPl pl T P w) T := pdg_lo h0 P _ w hP (fun t ht => ⟨0, by decide, by rw [cp, if_pos ht]⟩)
theorem c_X0_worthOf {d c w T P : Nat} {h : XH} {V : Ch} (h0 : 0 < T) (hT : T ≤ 6) (hP : P ≤ 4) (hw : w < 2 ^ 31) : MetH mX0_worthOf (d, 0, 0) [.ref c, .int (nI w), .int (nI T), .int (nI P)] (setC h c V) (wOwn V.wo T P w) (setC h c (Ch.mk V.wo V.tr (wPl V.pl T P w) V.most)) := by
  have lo := wPl_lo V.pl (w := w) h0 hP
  have L3 : ∀ k, k ≤ T → X xT mX0_worthOf (xR (d, 0, 0)) (0, 0) 70 [some (.ref c), some (.int (nI w)), some (.int (nI T)), some (.int (nI P)), none, some (.int (wsum V.wo (wPl V.pl T P w) k)), some (.int (nI k))] [] (setC h c (Ch.mk V.wo V.tr (wPl V.pl T P w) V.most)) (fun v h' => v = some (.int (wOwn V.wo T P w)) ∧ h' = setC h c (Ch.mk V.wo V.tr (wPl V.pl T P w) V.most)) := by
    refine xloop T ?_ ?_
    · rw [wOwn_eq _ _ h0]
      refine X.iload iX0_worthOf_70 rfl ?_
      refine X.iload iX0_worthOf_72 rfl ?_
      refine X.cmge iX0_worthOf_73 (fun c73 => ?_) (fun c73 => ?_)
      · refine X.iload iX0_worthOf_105 rfl ?_
        exact X.iret iX0_worthOf_107 ⟨rfl, rfl⟩
      · exact absurd (Int32.le_refl _) c73
    · intro k hk ih
      obtain ⟨j, hj, ej⟩ := lo k hk
      rw [wsum, ej, nI_clamp (by omega)] at ih
      refine X.iload iX0_worthOf_70 rfl ?_
      refine X.iload iX0_worthOf_72 rfl ?_
      refine X.cmge iX0_worthOf_73 (fun c73 => ?_) (fun c73 => ?_)
      · exact absurd c73 (nI_ge hk (by omega))
      · refine X.iload iX0_worthOf_76 rfl ?_
        refine X.aload iX0_worthOf_78 rfl ?_
        refine X.getf iX0_worthOf_79 (by first | assumption | exact sC0 _ _ _ | exact sC1 _ _ _ | exact sC2 _ _ _ | exact sC3 _ _ _ | rfl) rfl ?_
        refine X.iload iX0_worthOf_82 rfl ?_
        refine X.pushi (v := nI 16) iX0_worthOf_84 ?_
        refine X.imul iX0_worthOf_86 ?_
        refine X.aload iX0_worthOf_87 rfl ?_
        refine X.getf iX0_worthOf_88 (by first | assumption | exact sC0 _ _ _ | exact sC1 _ _ _ | exact sC2 _ _ _ | exact sC3 _ _ _ | rfl) rfl ?_
        refine X.iload iX0_worthOf_91 rfl ?_
        refine X.ialdE iX0_worthOf_93 (by first | assumption | exact sC0 _ _ _ | exact sC1 _ _ _ | exact sC2 _ _ _ | exact sC3 _ _ _ | rfl) rfl (by omega) (by decide) ?_
        refine (show X xT mX0_worthOf (xR (d, 0, 0)) (0, 0) 94 [some (.ref c), some (.int (nI w)), some (.int (nI T)), some (.int (nI P)), none, some (.int (wsum V.wo (wPl V.pl T P w) k)), some (.int (nI k))] [.int (wPl V.pl T P w k), .int (nI k * nI 16), .ref (c + 1), .int (wsum V.wo (wPl V.pl T P w) k)] (setC h c (Ch.mk V.wo V.tr (wPl V.pl T P w) V.most)) _ from ?_)
        rw [ej, pk_mul]
        refine X.iadd iX0_worthOf_94 ?_
        refine X.ialdE iX0_worthOf_95 (by first | assumption | exact sC0 _ _ _ | exact sC1 _ _ _ | exact sC2 _ _ _ | exact sC3 _ _ _ | rfl) (by rw [nI_add, Nat.mul_comm k 16]) (by omega) (by decide) ?_
        refine X.iadd iX0_worthOf_96 ?_
        refine X.istore iX0_worthOf_97 rfl rfl ?_
        refine X.iinc iX0_worthOf_99 rfl rfl rfl ?_
        refine X.goto iX0_worthOf_102 ?_
        rw [nI_1]
        exact ih
  have L2 : ∀ k left f, k ≤ P → left < 2 ^ 31 → lo16 f T → pdg T k f left = wPl V.pl T P w → X xT mX0_worthOf (xR (d, 0, 0)) (0, 0) 31 [some (.ref c), some (.int (nI w)), some (.int (nI T)), some (.int (nI P)), some (.int (nI left)), some (.int (nI k - nI 1)), none] [] (setC h c (Ch.mk V.wo V.tr f V.most)) (fun v h' => v = some (.int (wOwn V.wo T P w)) ∧ h' = setC h c (Ch.mk V.wo V.tr (wPl V.pl T P w) V.most)) := by
    intro k
    induction k with
    | zero =>
      intro left f hk hl lf e
      have e : f = wPl V.pl T P w := e
      rw [e]
      refine X.iload iX0_worthOf_31 rfl ?_
      refine X.iflt iX0_worthOf_33 (fun c33 => ?_) (fun c33 => ?_)
      · refine X.pushi (v := nI 0) iX0_worthOf_64 ?_
        refine X.istore iX0_worthOf_65 rfl rfl ?_
        refine X.pushi (v := nI 0) iX0_worthOf_67 ?_
        refine X.istore iX0_worthOf_68 rfl rfl ?_
        exact X.unset 4 rfl (L3 0 (Nat.zero_le _))
      · exact absurd (by decide) c33
    | succ k ih =>
      intro left f hk hl lf e
      rw [nI_pred1]
      have hm := Nat.mod_lt left h0
      refine X.iload iX0_worthOf_31 rfl ?_
      refine X.iflt iX0_worthOf_33 (fun c33 => ?_) (fun c33 => ?_)
      · exact absurd c33 (nI_pos (by omega))
      · refine X.aload iX0_worthOf_36 rfl ?_
        refine X.getf iX0_worthOf_37 (by first | assumption | exact sC0 _ _ _ | exact sC1 _ _ _ | exact sC2 _ _ _ | exact sC3 _ _ _ | rfl) rfl ?_
        refine X.iload iX0_worthOf_40 rfl ?_
        refine X.iload iX0_worthOf_42 rfl ?_
        refine X.irem iX0_worthOf_43 (nI_ne0 h0 (by omega)) ?_
        rw [pk_rem hl h0 (by omega)]
        refine X.dup2 iX0_worthOf_44 ?_
        refine X.ialdE iX0_worthOf_45 (by first | assumption | exact sC0 _ _ _ | exact sC1 _ _ _ | exact sC2 _ _ _ | exact sC3 _ _ _ | rfl) rfl (by omega) (by decide) ?_
        refine X.pushi (v := nI 1) iX0_worthOf_46 ?_
        refine X.iload iX0_worthOf_47 rfl ?_
        refine X.ishl iX0_worthOf_49 ?_
        refine X.ior iX0_worthOf_50 ?_
        refine X.iastE iX0_worthOf_51 (by first | assumption | exact sC0 _ _ _ | exact sC1 _ _ _ | exact sC2 _ _ _ | exact sC3 _ _ _ | rfl) rfl (by omega) (by decide) ?_
        rw [sC_pl]
        refine X.iload iX0_worthOf_52 rfl ?_
        refine X.iload iX0_worthOf_54 rfl ?_
        refine X.idiv iX0_worthOf_55 (nI_ne0 h0 (by omega)) ?_
        rw [pk_div hl h0 (by omega)]
        refine X.istore iX0_worthOf_56 rfl rfl ?_
        refine X.iinc iX0_worthOf_58 rfl rfl rfl ?_
        refine X.goto iX0_worthOf_61 ?_
        rw [im1]
        exact ih (left / T) _ (by omega) (Nat.lt_of_le_of_lt (Nat.div_le_self _ _) hl) (lo16_or lf hm (by omega)) e
  have L1 : ∀ k, k ≤ T → X xT mX0_worthOf (xR (d, 0, 0)) (0, 0) 3 [some (.ref c), some (.int (nI w)), some (.int (nI T)), some (.int (nI P)), some (.int (nI k)), none, none] [] (setC h c (Ch.mk V.wo V.tr (cp (fun _ => nI 0) V.pl k) V.most)) (fun v h' => v = some (.int (wOwn V.wo T P w)) ∧ h' = setC h c (Ch.mk V.wo V.tr (wPl V.pl T P w) V.most)) := by
    refine xloop T ?_ ?_
    · refine X.iload iX0_worthOf_3 rfl ?_
      refine X.iload iX0_worthOf_5 rfl ?_
      refine X.cmge iX0_worthOf_6 (fun c6 => ?_) (fun c6 => ?_)
      · refine X.iload iX0_worthOf_23 rfl ?_
        refine X.istore iX0_worthOf_24 rfl rfl ?_
        refine X.iload iX0_worthOf_26 rfl ?_
        refine X.pushi (v := nI 1) iX0_worthOf_27 ?_
        refine X.isub iX0_worthOf_28 ?_
        refine X.istore iX0_worthOf_29 rfl rfl ?_
        exact L2 P w _ (Nat.le_refl _) hw (fun t ht => ⟨0, by decide, by rw [cp, if_pos ht]⟩) rfl
      · exact absurd (Int32.le_refl _) c6
    · intro k hk ih
      rw [← cp_s (fun _ => nI 0)] at ih
      refine X.iload iX0_worthOf_3 rfl ?_
      refine X.iload iX0_worthOf_5 rfl ?_
      refine X.cmge iX0_worthOf_6 (fun c6 => ?_) (fun c6 => ?_)
      · exact absurd c6 (nI_ge hk (by omega))
      · refine X.aload iX0_worthOf_9 rfl ?_
        refine X.getf iX0_worthOf_10 (by first | assumption | exact sC0 _ _ _ | exact sC1 _ _ _ | exact sC2 _ _ _ | exact sC3 _ _ _ | rfl) rfl ?_
        refine X.iload iX0_worthOf_13 rfl ?_
        refine X.pushi (v := nI 0) iX0_worthOf_15 ?_
        refine X.iastE iX0_worthOf_16 (by first | assumption | exact sC0 _ _ _ | exact sC1 _ _ _ | exact sC2 _ _ _ | exact sC3 _ _ _ | rfl) rfl (by omega) (by decide) ?_
        rw [sC_pl]
        refine X.iinc iX0_worthOf_17 rfl rfl rfl ?_
        refine X.goto iX0_worthOf_20 ?_
        rw [nI_1]
        exact ih
  refine MetX.of (by decide) rfl (Nat.le_of_ble_eq_true rfl) ?_
  refine X.pushi (v := nI 0) iX0_worthOf_0 ?_
  refine X.istore iX0_worthOf_1 rfl rfl ?_
  have p0 := L1 0 (Nat.zero_le _)
  rw [cp_0] at p0
  exact p0
def plsF (pl : Nat → Int32) (T P : Nat) : Nat → (Nat → Int32)
  | 0 => pl
  | w + 1 => wPl (plsF pl T P w) T P w
def seekF (V : Ch) (T P : Nat) : Ch := (Ch.mk V.wo (sdg T P V.tr (bm (wOwn V.wo T P) (T ^ P)).1) (plsF V.pl T P (T ^ P)) ((bm (wOwn V.wo T P) (T ^ P)).2))
theorem c_X0_seek {d c T P : Nat} {h : XH} {V : Ch} (h0 : 0 < T) (hT : T ≤ 6) (h1 : 0 < P) (hP : P ≤ 4) : MetV mX0_seek (d + 1, 0, 0) [.ref c, .int (nI T), .int (nI P)] (setC h c V) (setC h c (seekF V T P)) := by
  have hpw := pw_le hT hP
  have L2 : ∀ k, k ≤ T ^ P → X xT mX0_seek (xR (d + 1, 0, 0)) (0, 0) 54 [some (.ref c), some (.int (nI T)), some (.int (nI P)), some (.int (nI (T ^ P))), some (.int (nI (bm (wOwn V.wo T P) k).1)), some (.int (nI k)), none] [] (setC h c (Ch.mk V.wo V.tr (plsF V.pl T P k) ((bm (wOwn V.wo T P) k).2))) (fun v h' => v = none ∧ h' = setC h c (seekF V T P)) := by
    refine xloop (T ^ P) ?_ ?_
    · have hb := bm_le (wOwn V.wo T P) (T ^ P)
      refine X.iload iX0_seek_54 rfl ?_
      refine X.iload iX0_seek_56 rfl ?_
      refine X.cmge iX0_seek_57 (fun c57 => ?_) (fun c57 => ?_)
      · refine X.aload iX0_seek_95 rfl ?_
        refine X.iload iX0_seek_96 rfl ?_
        refine X.iload iX0_seek_98 rfl ?_
        refine X.iload iX0_seek_99 rfl ?_
        refine X.callVv iX0_seek_100 (c_X0_spread (d := d) h0 hT hP (by omega)) (by first | assumption | exact sC0 _ _ _ | exact sC1 _ _ _ | exact sC2 _ _ _ | exact sC3 _ _ _ | rfl) rfl rfl (xfit _ _ _) (Nat.le_of_ble_eq_true rfl) ?_
        exact X.vret iX0_seek_103 ⟨rfl, rfl⟩
      · exact absurd (Int32.le_refl _) c57
    · intro k hk ih
      have eb : bm (wOwn V.wo T P) (k + 1) = if (bm (wOwn V.wo T P) k).2 < wOwn V.wo T P k then (k, wOwn V.wo T P k) else bm (wOwn V.wo T P) k := rfl
      rw [eb] at ih
      refine X.iload iX0_seek_54 rfl ?_
      refine X.iload iX0_seek_56 rfl ?_
      refine X.cmge iX0_seek_57 (fun c57 => ?_) (fun c57 => ?_)
      · exact absurd c57 (nI_ge hk (by omega))
      · refine X.aload iX0_seek_60 rfl ?_
        refine X.iload iX0_seek_61 rfl ?_
        refine X.iload iX0_seek_63 rfl ?_
        refine X.iload iX0_seek_64 rfl ?_
        refine X.callVi iX0_seek_65 (c_X0_worthOf (d := d) h0 hT hP (by omega)) (by first | assumption | exact sC0 _ _ _ | exact sC1 _ _ _ | exact sC2 _ _ _ | exact sC3 _ _ _ | rfl) rfl rfl (xfit _ _ _) (Nat.le_of_ble_eq_true rfl) ?_
        refine X.istore iX0_seek_68 rfl rfl ?_
        refine X.iload iX0_seek_70 rfl ?_
        refine X.aload iX0_seek_72 rfl ?_
        refine X.getf iX0_seek_73 (by first | assumption | exact sC0 _ _ _ | exact sC1 _ _ _ | exact sC2 _ _ _ | exact sC3 _ _ _ | rfl) rfl ?_
        refine X.cmle iX0_seek_76 (fun c76 => ?_) (fun c76 => ?_)
        · refine X.iinc iX0_seek_89 rfl rfl rfl ?_
          refine X.goto iX0_seek_92 ?_
          rw [nI_1]
          first
          | (rw [if_neg (Int32.not_lt.mpr c76)] at ih; exact X.unset 6 rfl ih)
          | (rw [if_pos (Int32.not_le.mp c76)] at ih; rw [sC_mo]; exact X.unset 6 rfl ih)
        · refine X.aload iX0_seek_79 rfl ?_
          refine X.iload iX0_seek_80 rfl ?_
          refine X.puti iX0_seek_82 (by first | assumption | exact sC0 _ _ _ | exact sC1 _ _ _ | exact sC2 _ _ _ | exact sC3 _ _ _ | rfl) (Nat.le_of_ble_eq_true rfl) ?_
          refine X.iload iX0_seek_85 rfl ?_
          refine X.istore iX0_seek_87 rfl rfl ?_
          refine X.iinc iX0_seek_89 rfl rfl rfl ?_
          refine X.goto iX0_seek_92 ?_
          rw [nI_1]
          first
          | (rw [if_neg (Int32.not_lt.mpr c76)] at ih; exact X.unset 6 rfl ih)
          | (rw [if_pos (Int32.not_le.mp c76)] at ih; rw [sC_mo]; exact X.unset 6 rfl ih)
  have L1 : ∀ k, k ≤ P → X xT mX0_seek (xR (d + 1, 0, 0)) (0, 0) 27 [some (.ref c), some (.int (nI T)), some (.int (nI P)), some (.int (nI (T ^ k))), some (.int (nI k)), none, none] [] (setC h c V) (fun v h' => v = none ∧ h' = setC h c (seekF V T P)) := by
    refine xloop P ?_ ?_
    · refine X.iload iX0_seek_27 rfl ?_
      refine X.iload iX0_seek_29 rfl ?_
      refine X.cmge iX0_seek_30 (fun c30 => ?_) (fun c30 => ?_)
      · refine X.aload iX0_seek_43 rfl ?_
        refine X.pushi iX0_seek_44 ?_
        refine X.puti iX0_seek_45 (by first | assumption | exact sC0 _ _ _ | exact sC1 _ _ _ | exact sC2 _ _ _ | exact sC3 _ _ _ | rfl) (Nat.le_of_ble_eq_true rfl) ?_
        rw [sC_mo]
        refine X.pushi (v := nI 0) iX0_seek_48 ?_
        refine X.istore iX0_seek_49 rfl rfl ?_
        refine X.pushi (v := nI 0) iX0_seek_51 ?_
        refine X.istore iX0_seek_52 rfl rfl ?_
        exact L2 0 (Nat.zero_le _)
      · exact absurd (Int32.le_refl _) c30
    · intro k hk ih
      rw [Nat.pow_succ] at ih
      refine X.iload iX0_seek_27 rfl ?_
      refine X.iload iX0_seek_29 rfl ?_
      refine X.cmge iX0_seek_30 (fun c30 => ?_) (fun c30 => ?_)
      · exact absurd c30 (nI_ge hk (by omega))
      · refine X.iload iX0_seek_33 rfl ?_
        refine X.iload iX0_seek_34 rfl ?_
        refine X.imul iX0_seek_35 ?_
        rw [pk_mul]
        refine X.istore iX0_seek_36 rfl rfl ?_
        refine X.iinc iX0_seek_37 rfl rfl rfl ?_
        refine X.goto iX0_seek_40 ?_
        rw [nI_1]
        exact ih
  refine MetX.of (by decide) rfl (Nat.le_of_ble_eq_true rfl) ?_
  refine X.iload iX0_seek_0 rfl ?_
  refine X.pushi (v := nI 1) iX0_seek_1 ?_
  refine X.cmlt iX0_seek_2 (fun c2 => ?_) (fun c2 => ?_)
  · exact absurd c2 (nI_nlt (by omega) (by omega))
  · refine X.iload iX0_seek_5 rfl ?_
    refine X.pushi (v := nI 6) iX0_seek_6 ?_
    refine X.cmgt iX0_seek_8 (fun c8 => ?_) (fun c8 => ?_)
    · exact absurd c8 (nI_nlt (by omega) (by omega))
    · refine X.iload iX0_seek_11 rfl ?_
      refine X.pushi (v := nI 1) iX0_seek_12 ?_
      refine X.cmlt iX0_seek_13 (fun c13 => ?_) (fun c13 => ?_)
      · exact absurd c13 (nI_nlt (by omega) (by omega))
      · refine X.iload iX0_seek_16 rfl ?_
        refine X.pushi (v := nI 4) iX0_seek_17 ?_
        refine X.cmle iX0_seek_18 (fun c18 => ?_) (fun c18 => ?_)
        · refine X.pushi (v := nI 1) iX0_seek_22 ?_
          refine X.istore iX0_seek_23 rfl rfl ?_
          refine X.pushi (v := nI 0) iX0_seek_24 ?_
          refine X.istore iX0_seek_25 rfl rfl ?_
          exact L1 0 (Nat.zero_le _)
        · exact absurd (nI_le hP (by omega)) c18
