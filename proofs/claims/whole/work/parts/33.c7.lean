/-! the class: a Sheet -/
abbrev Sh : Type := (Nat → Int64) × Int32 × Int32
abbrev Sh.mk (it : Nat → Int64) (la : Int32) (sz : Int32) : Sh := (it, la, sz)
abbrev Sh.it (Z : Sh) : Nat → Int64 := Z.1
abbrev Sh.la (Z : Sh) : Int32 := Z.2.1
abbrev Sh.sz (Z : Sh) : Int32 := Z.2.2
abbrev shS (s : Nat) (V : Sh) : List Value := [.ref (s + 1), .int V.la, .int V.sz]
def IsS (h : XH) (s : Nat) (V : Sh) : Prop := h s = some (.inr (4, shS s V)) ∧ h (s + 1) = some (LA 24 V.it)
def setS (h : XH) (s : Nat) (V : Sh) : XH := fun i => if i = s then some (.inr (4, shS s V)) else if i = s + 1 then some (LA 24 V.it) else h i
theorem sS0 (h : XH) (s : Nat) (V : Sh) : setS h s V s = some (.inr (4, shS s V)) := if_pos rfl
theorem sS1 (h : XH) (s : Nat) (V : Sh) : setS h s V (s + 1) = some (LA 24 V.it) := by rw [setS, if_neg (by omega), if_pos rfl]
theorem sSo (h : XH) {s i : Nat} (V : Sh) (q : i < s ∨ s + 1 < i) : setS h s V i = h i := by rw [setS, if_neg (by omega), if_neg (by omega)]
theorem sS_is (h : XH) (s : Nat) (V : Sh) : IsS (setS h s V) s V := ⟨sS0 h s V, sS1 h s V⟩
theorem sS_eq {h p : XH} {s : Nat} {V : Sh} (a : IsS p s V) (o : ∀ i, i < s ∨ s + 1 < i → p i = h i) : p = setS h s V := by
  funext i
  by_cases q0 : i = s
  · rw [q0, sS0, a.1]
  by_cases q1 : i = s + 1
  · rw [q1, sS1, a.2]
  rw [sSo _ _ (by omega)]
  exact o i (by omega)
theorem IsS.set {h : XH} {s : Nat} {V : Sh} (a : IsS h s V) : setS h s V = h := (sS_eq a (fun _ _ => rfl)).symm
theorem sS_it (h : XH) (s : Nat) (V : Sh) (f : Nat → Int64) : xup (setS h s V) (s + 1) (LA 24 f) = setS h s (Sh.mk f V.la V.sz) := sS_eq ⟨by rw [xup_ne _ _ (by omega)]; exact sS0 h s V, xup_eq _ _ _⟩ (fun i q => by rw [xup_ne _ _ (by omega)]; exact sSo h V q)
theorem sS_ob (h : XH) (s : Nat) (V : Sh) (a b : Int32) : xup (setS h s V) s (.inr (4, [.ref (s + 1), .int a, .int b])) = setS h s (Sh.mk V.it a b) := sS_eq ⟨xup_eq _ _ _, by rw [xup_ne _ _ (by omega)]; exact sS1 h s V⟩ (fun i q => by rw [xup_ne _ _ (by omega)]; exact sSo h V q)
theorem sS_la (h : XH) (s : Nat) (V : Sh) (a : Int32) : xup (setS h s V) s (.inr (4, (shS s V).set 1 (.int a))) = setS h s (Sh.mk V.it a V.sz) := sS_ob h s V a V.sz
theorem sS_sz (h : XH) (s : Nat) (V : Sh) (a : Int32) : xup (setS h s V) s (.inr (4, (shS s V).set 2 (.int a))) = setS h s (Sh.mk V.it V.la a) := sS_ob h s V V.la a
theorem c_X4_begin {d s : Nat} {h : XH} {V : Sh} {l n : Int32} : MetV mX4_begin (d, 0, 0) [.ref s, .int l, .int n] (setS h s V) (setS h s (Sh.mk (cp (fun _ => 0) V.it 24) l n)) := by
  have P : ∀ k, k ≤ 24 → X xT mX4_begin (xR (d, 0, 0)) (0, 0) 12 [some (.ref s), some (.int l), some (.int n), some (.int (nI k))] [] (setS h s (Sh.mk (cp (fun _ => 0) V.it k) l n)) (fun v h' => v = none ∧ h' = setS h s (Sh.mk (cp (fun _ => 0) V.it 24) l n)) := by
    refine xloop 24 ?_ ?_
    · refine X.iload iX4_begin_12 rfl ?_
      refine X.pushi (v := nI 24) iX4_begin_13 ?_
      refine X.cmge iX4_begin_15 (fun c15 => ?_) (fun c15 => ?_)
      · exact X.vret iX4_begin_31 ⟨rfl, rfl⟩
      · exact absurd (Int32.le_refl _) c15
    · intro k hk ih
      rw [← cp_sL (fun _ => 0)] at ih
      refine X.iload iX4_begin_12 rfl ?_
      refine X.pushi (v := nI 24) iX4_begin_13 ?_
      refine X.cmge iX4_begin_15 (fun c15 => ?_) (fun c15 => ?_)
      · exact absurd c15 (nI_ge hk (by omega))
      · refine X.aload iX4_begin_18 rfl ?_
        refine X.getf iX4_begin_19 (by first | assumption | exact sS0 _ _ _ | exact sS1 _ _ _ | rfl) rfl ?_
        refine X.iload iX4_begin_22 rfl ?_
        refine X.pushl iX4_begin_23 ?_
        refine X.lastE iX4_begin_24 (by first | assumption | exact sS0 _ _ _ | exact sS1 _ _ _ | rfl) rfl hk (by decide) ?_
        rw [sS_it]
        refine X.iinc iX4_begin_25 rfl rfl rfl ?_
        refine X.goto iX4_begin_28 ?_
        rw [nI_1]
        exact ih
  refine MetX.of (by decide) rfl (Nat.le_of_ble_eq_true rfl) ?_
  refine X.aload iX4_begin_0 rfl ?_
  refine X.iload iX4_begin_1 rfl ?_
  refine X.puti iX4_begin_2 (by first | assumption | exact sS0 _ _ _ | exact sS1 _ _ _ | rfl) (Nat.le_of_ble_eq_true rfl) ?_
  rw [sS_la]
  refine X.aload iX4_begin_5 rfl ?_
  refine X.iload iX4_begin_6 rfl ?_
  refine X.puti iX4_begin_7 (by first | assumption | exact sS0 _ _ _ | exact sS1 _ _ _ | rfl) (Nat.le_of_ble_eq_true rfl) ?_
  rw [sS_sz]
  refine X.pushi (v := nI 0) iX4_begin_10 ?_
  refine X.istore iX4_begin_11 rfl rfl ?_
  have p0 := P 0 (Nat.zero_le _)
  rw [cp_0] at p0
  exact p0
def hldI (sz i n : Int32) : Bool := decide (¬ i < 0 ∧ ¬ n < 0 ∧ i ≤ sz - n)
theorem hld_t {sz i n : Int32} (a : ¬ i < 0) (b : ¬ n < 0) (c : ¬ sz - n < i) : hldI sz i n = true := decide_eq_true ⟨a, b, Int32.not_lt.mp c⟩
theorem hld_1 {sz i n : Int32} (a : i < 0) : hldI sz i n = false := decide_eq_false (fun q => q.1 a)
theorem hld_2 {sz i n : Int32} (a : n < 0) : hldI sz i n = false := decide_eq_false (fun q => q.2.1 a)
theorem hld_3 {sz i n : Int32} (a : sz - n < i) : hldI sz i n = false := decide_eq_false (fun q => Int32.not_lt.mpr q.2.2 a)
theorem c_X4_holds {d s : Nat} {h : XH} {V : Sh} {i n : Int32} (H : IsS h s V) : MetI mX4_holds (d, 0, 0) [.ref s, .int i, .int n] h (bI (hldI V.sz i n)) := by
  obtain ⟨h0, h1⟩ := H
  refine MetX.of (by decide) rfl (Nat.le_of_ble_eq_true rfl) ?_
  refine X.iload iX4_holds_0 rfl ?_
  refine X.iflt iX4_holds_1 (fun c1 => ?_) (fun c1 => ?_)
  · refine X.pushi (v := nI 0) iX4_holds_22 ?_
    first
    | (refine X.zret (x := true) iX4_holds_23 ⟨?_, rfl⟩; rw [hld_t c1 c5 c15])
    | (refine X.zret (x := false) iX4_holds_23 ⟨?_, rfl⟩; rw [hld_1 c1])
    | (refine X.zret (x := false) iX4_holds_23 ⟨?_, rfl⟩; rw [hld_2 c5])
    | (refine X.zret (x := false) iX4_holds_23 ⟨?_, rfl⟩; rw [hld_3 c15])
  · refine X.iload iX4_holds_4 rfl ?_
    refine X.iflt iX4_holds_5 (fun c5 => ?_) (fun c5 => ?_)
    · refine X.pushi (v := nI 0) iX4_holds_22 ?_
      first
      | (refine X.zret (x := true) iX4_holds_23 ⟨?_, rfl⟩; rw [hld_t c1 c5 c15])
      | (refine X.zret (x := false) iX4_holds_23 ⟨?_, rfl⟩; rw [hld_1 c1])
      | (refine X.zret (x := false) iX4_holds_23 ⟨?_, rfl⟩; rw [hld_2 c5])
      | (refine X.zret (x := false) iX4_holds_23 ⟨?_, rfl⟩; rw [hld_3 c15])
    · refine X.iload iX4_holds_8 rfl ?_
      refine X.aload iX4_holds_9 rfl ?_
      refine X.getf iX4_holds_10 (by first | assumption | exact sS0 _ _ _ | exact sS1 _ _ _ | rfl) rfl ?_
      refine X.iload iX4_holds_13 rfl ?_
      refine X.isub iX4_holds_14 ?_
      refine X.cmgt iX4_holds_15 (fun c15 => ?_) (fun c15 => ?_)
      · refine X.pushi (v := nI 0) iX4_holds_22 ?_
        first
        | (refine X.zret (x := true) iX4_holds_23 ⟨?_, rfl⟩; rw [hld_t c1 c5 c15])
        | (refine X.zret (x := false) iX4_holds_23 ⟨?_, rfl⟩; rw [hld_1 c1])
        | (refine X.zret (x := false) iX4_holds_23 ⟨?_, rfl⟩; rw [hld_2 c5])
        | (refine X.zret (x := false) iX4_holds_23 ⟨?_, rfl⟩; rw [hld_3 c15])
      · refine X.pushi (v := nI 1) iX4_holds_18 ?_
        refine X.goto iX4_holds_19 ?_
        first
        | (refine X.zret (x := true) iX4_holds_23 ⟨?_, rfl⟩; rw [hld_t c1 c5 c15])
        | (refine X.zret (x := false) iX4_holds_23 ⟨?_, rfl⟩; rw [hld_1 c1])
        | (refine X.zret (x := false) iX4_holds_23 ⟨?_, rfl⟩; rw [hld_2 c5])
        | (refine X.zret (x := false) iX4_holds_23 ⟨?_, rfl⟩; rw [hld_3 c15])
def fndI (V : Sh) (l i n : Int32) : Int32 := if V.la = -1 then -11 else if V.la = l then (if hldI V.sz i n = true then 0 else -13) else -12
theorem c_X4_find {d s : Nat} {h : XH} {V : Sh} {l i n : Int32} (H : IsS h s V) : MetI mX4_find (d + 1, 0, 0) [.ref s, .int l, .int i, .int n] h (fndI V l i n) := by
  obtain ⟨h0, h1⟩ := id H
  refine MetX.of (by decide) rfl (Nat.le_of_ble_eq_true rfl) ?_
  unfold fndI
  refine X.aload iX4_find_0 rfl ?_
  refine X.getf iX4_find_1 (by first | assumption | exact sS0 _ _ _ | exact sS1 _ _ _ | rfl) rfl ?_
  refine X.pushi iX4_find_4 ?_
  refine X.cmne iX4_find_5 (fun c5 => ?_) (fun c5 => ?_)
  · refine X.aload iX4_find_11 rfl ?_
    refine X.getf iX4_find_12 (by first | assumption | exact sS0 _ _ _ | exact sS1 _ _ _ | rfl) rfl ?_
    refine X.iload iX4_find_15 rfl ?_
    refine X.cmeq iX4_find_16 (fun c16 => ?_) (fun c16 => ?_)
    · refine X.aload iX4_find_22 rfl ?_
      refine X.iload iX4_find_23 rfl ?_
      refine X.iload iX4_find_24 rfl ?_
      refine X.callVi iX4_find_25 (c_X4_holds (d := d) H) (by first | assumption | exact sS0 _ _ _ | exact sS1 _ _ _ | rfl) rfl rfl (xfit _ _ _) (Nat.le_of_ble_eq_true rfl) ?_
      refine X.ifeqB iX4_find_28 (fun c28 => ?_) (fun c28 => ?_)
      · refine X.pushi iX4_find_35 ?_
        first
        | (refine X.iret iX4_find_37 ⟨?_, rfl⟩; rw [if_neg c5, if_pos c16, if_pos c28]; rfl)
        | (refine X.iret iX4_find_37 ⟨?_, rfl⟩; rw [if_neg c5, if_pos c16, if_neg (fun q => Bool.noConfusion (c28.symm.trans q))])
      · refine X.pushi (v := nI 0) iX4_find_31 ?_
        refine X.goto iX4_find_32 ?_
        first
        | (refine X.iret iX4_find_37 ⟨?_, rfl⟩; rw [if_neg c5, if_pos c16, if_pos c28]; rfl)
        | (refine X.iret iX4_find_37 ⟨?_, rfl⟩; rw [if_neg c5, if_pos c16, if_neg (fun q => Bool.noConfusion (c28.symm.trans q))])
    · refine X.pushi iX4_find_19 ?_
      exact X.iret iX4_find_21 ⟨by rw [if_neg c5, if_neg c16], rfl⟩
  · refine X.pushi iX4_find_8 ?_
    exact X.iret iX4_find_10 ⟨by rw [if_pos c5], rfl⟩
theorem c_X4_put {d s i l : Nat} {h : XH} {V : Sh} {v : Int64} (hl : V.la = nI l) (hl4 : l < 4) (hi : i < 24) : MetV mX4_put (d, 0, 0) [.ref s, .int (nI i), .long v] (setS h s V) (setS h s (Sh.mk (vp_updL V.it i (itmV V.la v)) V.la V.sz)) := by
  obtain ⟨it, la, sz⟩ := V
  have hl : la = nI l := hl
  subst hl
  refine MetX.of (by decide) rfl (Nat.le_of_ble_eq_true rfl) ?_
  refine X.aload iX4_put_0 rfl ?_
  refine X.getf iX4_put_1 (sS0 _ _ _) rfl ?_
  match l, hl4 with
  | 0, _ =>
    refine X.tabIn iX4_put_4 0 rfl (show (nI 0).toInt = 0 + ((0 : Nat) : Int) by decide) ?_
    refine X.aload iX4_put_32 rfl ?_
    refine X.getf iX4_put_33 (by first | assumption | exact sS0 _ _ _ | exact sS1 _ _ _ | rfl) rfl ?_
    refine X.iload iX4_put_36 rfl ?_
    refine X.lload iX4_put_37 rfl ?_
    refine X.l2i iX4_put_38 ?_
    refine X.i2b iX4_put_39 ?_
    refine X.i2l iX4_put_40 ?_
    refine X.lastE iX4_put_41 (by first | assumption | exact sS0 _ _ _ | exact sS1 _ _ _ | rfl) rfl hi (by decide) ?_
    refine X.goto iX4_put_42 ?_
    rw [sS_it]
    exact X.vret iX4_put_77 ⟨rfl, rfl⟩
  | 1, _ =>
    refine X.tabIn iX4_put_4 1 rfl (show (nI 1).toInt = 0 + ((1 : Nat) : Int) by decide) ?_
    refine X.aload iX4_put_45 rfl ?_
    refine X.getf iX4_put_46 (by first | assumption | exact sS0 _ _ _ | exact sS1 _ _ _ | rfl) rfl ?_
    refine X.iload iX4_put_49 rfl ?_
    refine X.lload iX4_put_50 rfl ?_
    refine X.l2i iX4_put_51 ?_
    refine X.i2s iX4_put_52 ?_
    refine X.i2l iX4_put_53 ?_
    refine X.lastE iX4_put_54 (by first | assumption | exact sS0 _ _ _ | exact sS1 _ _ _ | rfl) rfl hi (by decide) ?_
    refine X.goto iX4_put_55 ?_
    rw [sS_it]
    exact X.vret iX4_put_77 ⟨rfl, rfl⟩
  | 2, _ =>
    refine X.tabIn iX4_put_4 2 rfl (show (nI 2).toInt = 0 + ((2 : Nat) : Int) by decide) ?_
    refine X.aload iX4_put_58 rfl ?_
    refine X.getf iX4_put_59 (by first | assumption | exact sS0 _ _ _ | exact sS1 _ _ _ | rfl) rfl ?_
    refine X.iload iX4_put_62 rfl ?_
    refine X.lload iX4_put_63 rfl ?_
    refine X.l2i iX4_put_64 ?_
    refine X.i2l iX4_put_65 ?_
    refine X.lastE iX4_put_66 (by first | assumption | exact sS0 _ _ _ | exact sS1 _ _ _ | rfl) rfl hi (by decide) ?_
    refine X.goto iX4_put_67 ?_
    rw [sS_it]
    exact X.vret iX4_put_77 ⟨rfl, rfl⟩
  | 3, _ =>
    refine X.tabOut iX4_put_4 (show (nI 3).toInt < 0 ∨ 0 + (([32, 45, 58] : List Nat).length : Int) ≤ (nI 3).toInt by decide) ?_
    refine X.aload iX4_put_70 rfl ?_
    refine X.getf iX4_put_71 (by first | assumption | exact sS0 _ _ _ | exact sS1 _ _ _ | rfl) rfl ?_
    refine X.iload iX4_put_74 rfl ?_
    refine X.lload iX4_put_75 rfl ?_
    refine X.lastE iX4_put_76 (by first | assumption | exact sS0 _ _ _ | exact sS1 _ _ _ | rfl) rfl hi (by decide) ?_
    rw [sS_it]
    exact X.vret iX4_put_77 ⟨rfl, rfl⟩
