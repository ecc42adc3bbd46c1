/-! the class: a Tape -/
abbrev Ta : Type := (Nat → Int32) × Nat × Nat × Int32
abbrev Ta.mk (cl : Nat → Int32) (n : Nat) (p : Nat) (f : Int32) : Ta := (cl, n, p, f)
abbrev Ta.cl (Z : Ta) : Nat → Int32 := Z.1
abbrev Ta.n (Z : Ta) : Nat := Z.2.1
abbrev Ta.p (Z : Ta) : Nat := Z.2.2.1
abbrev Ta.f (Z : Ta) : Int32 := Z.2.2.2
abbrev taS (s : Nat) (V : Ta) : List Value := [.ref (s + 1), .int (nI V.n), .int (nI V.p), .int V.f]
abbrev CA (f : Nat → Int32) : XC := .inl (.char, 90, .inl f)
def IsT (h : XH) (s : Nat) (V : Ta) : Prop := h s = some (.inr (5, taS s V)) ∧ h (s + 1) = some (CA V.cl)
def setT (h : XH) (s : Nat) (V : Ta) : XH := fun i => if i = s then some (.inr (5, taS s V)) else if i = s + 1 then some (CA V.cl) else h i
theorem sT0 (h : XH) (s : Nat) (V : Ta) : setT h s V s = some (.inr (5, taS s V)) := if_pos rfl
theorem sT1 (h : XH) (s : Nat) (V : Ta) : setT h s V (s + 1) = some (CA V.cl) := by rw [setT, if_neg (by omega), if_pos rfl]
theorem sTo (h : XH) {s i : Nat} (V : Ta) (q : i < s ∨ s + 1 < i) : setT h s V i = h i := by rw [setT, if_neg (by omega), if_neg (by omega)]
theorem sT_is (h : XH) (s : Nat) (V : Ta) : IsT (setT h s V) s V := ⟨sT0 h s V, sT1 h s V⟩
theorem sT_eq {h q : XH} {s : Nat} {V : Ta} (a : IsT q s V) (o : ∀ i, i < s ∨ s + 1 < i → q i = h i) : q = setT h s V := by
  funext i
  by_cases q0 : i = s
  · rw [q0, sT0, a.1]
  by_cases q1 : i = s + 1
  · rw [q1, sT1, a.2]
  rw [sTo _ _ (by omega)]
  exact o i (by omega)
theorem IsT.set {h : XH} {s : Nat} {V : Ta} (a : IsT h s V) : setT h s V = h := (sT_eq a (fun _ _ => rfl)).symm
theorem sT_cl (h : XH) (s : Nat) (V : Ta) (f : Nat → Int32) : xup (setT h s V) (s + 1) (CA f) = setT h s (Ta.mk f V.n V.p V.f) := sT_eq ⟨by rw [xup_ne _ _ (by omega)]; exact sT0 h s V, xup_eq _ _ _⟩ (fun i q => by rw [xup_ne _ _ (by omega)]; exact sTo h V q)
theorem sT_ob (h : XH) (s : Nat) (V : Ta) (a b : Nat) (c : Int32) : xup (setT h s V) s (.inr (5, [.ref (s + 1), .int (nI a), .int (nI b), .int c])) = setT h s (Ta.mk V.cl a b c) := sT_eq ⟨xup_eq _ _ _, by rw [xup_ne _ _ (by omega)]; exact sT1 h s V⟩ (fun i q => by rw [xup_ne _ _ (by omega)]; exact sTo h V q)
theorem sT_n (h : XH) (s : Nat) (V : Ta) (a : Nat) : xup (setT h s V) s (.inr (5, (taS s V).set 1 (.int (nI a)))) = setT h s (Ta.mk V.cl a V.p V.f) := sT_ob h s V a V.p V.f
theorem sT_p (h : XH) (s : Nat) (V : Ta) (a : Nat) : xup (setT h s V) s (.inr (5, (taS s V).set 2 (.int (nI a)))) = setT h s (Ta.mk V.cl V.n a V.f) := sT_ob h s V V.n a V.f
theorem sT_f (h : XH) (s : Nat) (V : Ta) (a : Int32) : xup (setT h s V) s (.inr (5, (taS s V).set 3 (.int a))) = setT h s (Ta.mk V.cl V.n V.p a) := sT_ob h s V V.n V.p a
theorem nar_c {k : Nat} (hk : k < 65536) : narrow .char (.int (nI k)) = .int (nI k) := by
  refine congrArg Value.int ?_
  apply Int32.toBitVec_inj.1
  apply BitVec.eq_of_toNat_eq
  show (((BitVec.ofNat 32 k).setWidth 16).setWidth 32).toNat = (BitVec.ofNat 32 k).toNat
  simp only [BitVec.toNat_setWidth, BitVec.toNat_ofNat]
  omega
theorem c_X5_append {d s c : Nat} {h : XH} {V : Ta} (hn : V.n ≤ 90) (hc : c < 65536) : MetH mX5_append (d, 0, 0) [.ref s, .int (nI c)] (setT h s V) (if V.n = 90 then -3 else nI (V.n + 1)) (if V.n = 90 then setT h s V else setT h s (Ta.mk (upd V.cl V.n (nI c)) (V.n + 1) V.p V.f)) := by
  obtain ⟨cl, n, p, f⟩ := V
  have hn : n ≤ 90 := hn
  refine MetX.of (by decide) rfl (Nat.le_of_ble_eq_true rfl) ?_
  by_cases q : n = 90
  · rw [if_pos q, if_pos q]
    refine X.aload iX5_append_0 rfl ?_
    refine X.getf iX5_append_1 (by first | assumption | exact sT0 _ _ _ | exact sT1 _ _ _ | rfl) rfl ?_
    refine X.pushi (v := nI 90) iX5_append_4 ?_
    refine X.cmlt iX5_append_6 (fun c6 => ?_) (fun c6 => ?_)
    · exact absurd c6 (show ¬ nI n < nI 90 by rw [q]; decide)
    · refine X.pushi iX5_append_9 ?_
      exact X.iret iX5_append_11 ⟨rfl, rfl⟩
  · rw [if_neg q, if_neg q]
    refine X.aload iX5_append_0 rfl ?_
    refine X.getf iX5_append_1 (by first | assumption | exact sT0 _ _ _ | exact sT1 _ _ _ | rfl) rfl ?_
    refine X.pushi (v := nI 90) iX5_append_4 ?_
    refine X.cmlt iX5_append_6 (fun c6 => ?_) (fun c6 => ?_)
    · refine X.aload iX5_append_12 rfl ?_
      refine X.getf iX5_append_13 (by first | assumption | exact sT0 _ _ _ | exact sT1 _ _ _ | rfl) rfl ?_
      refine X.aload iX5_append_16 rfl ?_
      refine X.getf iX5_append_17 (by first | assumption | exact sT0 _ _ _ | exact sT1 _ _ _ | rfl) rfl ?_
      refine X.iload iX5_append_20 rfl ?_
      refine X.cast iX5_append_21 (sT1 _ _ _) (vp_inN (show n < 90 by omega) (by decide)) (nar_c hc) ?_
      refine X.heap (h' := setT h s (Ta.mk (upd cl n (nI c)) n p f)) ((congrArg (fun j => xup (setT h s (Ta.mk cl n p f)) (s + 1) (CA (upd cl j (nI c)))) (nI_clamp (show n < 2 ^ 31 by omega))).trans (sT_cl h s (Ta.mk cl n p f) _)) ?_
      refine X.aload iX5_append_22 rfl ?_
      refine X.dupa iX5_append_23 ?_
      refine X.getf iX5_append_24 (by first | assumption | exact sT0 _ _ _ | exact sT1 _ _ _ | rfl) rfl ?_
      refine X.pushi (v := nI 1) iX5_append_27 ?_
      refine X.iadd iX5_append_28 ?_
      refine X.puti iX5_append_29 (by first | assumption | exact sT0 _ _ _ | exact sT1 _ _ _ | rfl) (Nat.le_of_ble_eq_true rfl) ?_
      rw [nI_add, sT_n]
      refine X.aload iX5_append_32 rfl ?_
      refine X.getf iX5_append_33 (by first | assumption | exact sT0 _ _ _ | exact sT1 _ _ _ | rfl) rfl ?_
      exact X.iret iX5_append_36 ⟨rfl, rfl⟩
    · exact absurd (nI_lt' (show n < 90 by omega) (by decide)) c6
theorem c_X5_fail {d s w : Nat} {h : XH} {V : Ta} : MetV mX5_fail (d, 0, 0) [.ref s, .int (nI w)] (setT h s V) (setT h s (Ta.mk V.cl V.n V.p (if V.f = 0 then -20 - nI w else V.f))) := by
  obtain ⟨cl, n, p, f⟩ := V
  refine MetX.of (by decide) rfl (Nat.le_of_ble_eq_true rfl) ?_
  refine X.aload iX5_fail_0 rfl ?_
  refine X.getf iX5_fail_1 (by first | assumption | exact sT0 _ _ _ | exact sT1 _ _ _ | rfl) rfl ?_
  refine X.ifne iX5_fail_4 (fun c4 => ?_) (fun c4 => ?_)
  · first
    | (refine X.vret iX5_fail_15 ⟨rfl, ?_⟩; rw [if_neg c4])
    | (refine X.vret iX5_fail_15 ⟨rfl, ?_⟩; rw [if_pos c4, sT_f])
  · refine X.aload iX5_fail_7 rfl ?_
    refine X.pushi iX5_fail_8 ?_
    refine X.iload iX5_fail_10 rfl ?_
    refine X.isub iX5_fail_11 ?_
    refine X.puti iX5_fail_12 (by first | assumption | exact sT0 _ _ _ | exact sT1 _ _ _ | rfl) (Nat.le_of_ble_eq_true rfl) ?_
    first
    | (refine X.vret iX5_fail_15 ⟨rfl, ?_⟩; rw [if_neg c4])
    | (refine X.vret iX5_fail_15 ⟨rfl, ?_⟩; rw [if_pos c4, sT_f])
theorem c_X5_fail0 {d s w n p : Nat} {h : XH} {cl : Nat → Int32} : MetV mX5_fail (d, 0, 0) [.ref s, .int (nI w)] (setT h s (Ta.mk cl n p 0)) (setT h s (Ta.mk cl n p (-20 - nI w))) := by
  have := c_X5_fail (d := d) (s := s) (w := w) (h := h) (V := Ta.mk cl n p 0)
  rw [show (Ta.mk cl n p 0).f = 0 from rfl, if_pos rfl] at this
  exact this
theorem c_X5_isDigit (d : Nat) (h : XH) (x : Int32) : MetI mX5_isDigit (d + 1, 0, 0) [.int x] h (bI (isD x)) := by
  refine MetX.of (by decide) rfl (Nat.le_of_ble_eq_true rfl) ?_
  refine X.iload iX5_isDigit_0 rfl ?_
  refine X.pushi (v := nI 48) iX5_isDigit_1 ?_
  refine X.pushi (v := nI 57) iX5_isDigit_3 ?_
  refine X.callSi iX5_isDigit_5 (c_X6_within d h x (nI 48) (nI 57)) rfl rfl (xfit _ _ _) (Nat.le_of_ble_eq_true rfl) ?_
  exact X.zret iX5_isDigit_8 ⟨rfl, rfl⟩
def nxt (cl : Nat → Int32) (n p : Nat) : Int32 := if sk cl n p < n then cl (sk cl n p) else -1
theorem next_loop {d s n : Nat} {h : XH} {cl : Nat → Int32} {f : Int32} (hn : n ≤ 90) : ∀ g p, p + g = n → X xT mX5_next (xR (d, 0, 0)) (0, 0) 0 [some (.ref s)] [] (setT h s (Ta.mk cl n p f)) (fun v h' => v = some (.int (if skF cl g p < n then cl (skF cl g p) else -1)) ∧ h' = setT h s (Ta.mk cl n (skF cl g p) f)) := by
  intro g
  induction g with
  | zero =>
    intro p hp
    have hp : p = n := by omega
    subst hp
    rw [skF, if_neg (Nat.lt_irrefl _)]
    refine X.aload iX5_next_0 rfl ?_
    refine X.getf iX5_next_1 (by first | assumption | exact sT0 _ _ _ | exact sT1 _ _ _ | rfl) rfl ?_
    refine X.aload iX5_next_4 rfl ?_
    refine X.getf iX5_next_5 (by first | assumption | exact sT0 _ _ _ | exact sT1 _ _ _ | rfl) rfl ?_
    refine X.cmge iX5_next_8 (fun c8 => ?_) (fun c8 => ?_)
    · refine X.aload iX5_next_38 rfl ?_
      refine X.getf iX5_next_39 (by first | assumption | exact sT0 _ _ _ | exact sT1 _ _ _ | rfl) rfl ?_
      refine X.aload iX5_next_42 rfl ?_
      refine X.getf iX5_next_43 (by first | assumption | exact sT0 _ _ _ | exact sT1 _ _ _ | rfl) rfl ?_
      refine X.cmge iX5_next_46 (fun c46 => ?_) (fun c46 => ?_)
      · refine X.pushi iX5_next_61 ?_
        exact X.iret iX5_next_62 ⟨rfl, rfl⟩
      · exact absurd (Int32.le_refl _) c46
    · exact absurd (Int32.le_refl _) c8
  | succ g ih =>
    intro p hp
    rw [skF]
    by_cases q : cl p = nI 32
    · rw [if_pos q]
      refine X.aload iX5_next_0 rfl ?_
      refine X.getf iX5_next_1 (by first | assumption | exact sT0 _ _ _ | exact sT1 _ _ _ | rfl) rfl ?_
      refine X.aload iX5_next_4 rfl ?_
      refine X.getf iX5_next_5 (by first | assumption | exact sT0 _ _ _ | exact sT1 _ _ _ | rfl) rfl ?_
      refine X.cmge iX5_next_8 (fun c8 => ?_) (fun c8 => ?_)
      · exact absurd c8 (nI_ge (show p < n by omega) (show n < 2 ^ 31 by omega))
      · refine X.aload iX5_next_11 rfl ?_
        refine X.getf iX5_next_12 (by first | assumption | exact sT0 _ _ _ | exact sT1 _ _ _ | rfl) rfl ?_
        refine X.aload iX5_next_15 rfl ?_
        refine X.getf iX5_next_16 (by first | assumption | exact sT0 _ _ _ | exact sT1 _ _ _ | rfl) rfl ?_
        refine X.caldE iX5_next_19 (by first | assumption | exact sT0 _ _ _ | exact sT1 _ _ _ | rfl) rfl (show p < 90 by omega) (by decide) ?_
        refine X.pushi (v := nI 32) iX5_next_20 ?_
        refine X.cmne iX5_next_22 (fun c22 => ?_) (fun c22 => ?_)
        · exact absurd q c22
        · refine X.aload iX5_next_25 rfl ?_
          refine X.dupa iX5_next_26 ?_
          refine X.getf iX5_next_27 (by first | assumption | exact sT0 _ _ _ | exact sT1 _ _ _ | rfl) rfl ?_
          refine X.pushi (v := nI 1) iX5_next_30 ?_
          refine X.iadd iX5_next_31 ?_
          refine X.puti iX5_next_32 (by first | assumption | exact sT0 _ _ _ | exact sT1 _ _ _ | rfl) (Nat.le_of_ble_eq_true rfl) ?_
          refine X.goto iX5_next_35 ?_
          rw [nI_add, sT_p]
          exact ih (p + 1) (by omega)
    · rw [if_neg q, if_pos (show p < n by omega)]
      refine X.aload iX5_next_0 rfl ?_
      refine X.getf iX5_next_1 (by first | assumption | exact sT0 _ _ _ | exact sT1 _ _ _ | rfl) rfl ?_
      refine X.aload iX5_next_4 rfl ?_
      refine X.getf iX5_next_5 (by first | assumption | exact sT0 _ _ _ | exact sT1 _ _ _ | rfl) rfl ?_
      refine X.cmge iX5_next_8 (fun c8 => ?_) (fun c8 => ?_)
      · exact absurd c8 (nI_ge (show p < n by omega) (show n < 2 ^ 31 by omega))
      · refine X.aload iX5_next_11 rfl ?_
        refine X.getf iX5_next_12 (by first | assumption | exact sT0 _ _ _ | exact sT1 _ _ _ | rfl) rfl ?_
        refine X.aload iX5_next_15 rfl ?_
        refine X.getf iX5_next_16 (by first | assumption | exact sT0 _ _ _ | exact sT1 _ _ _ | rfl) rfl ?_
        refine X.caldE iX5_next_19 (by first | assumption | exact sT0 _ _ _ | exact sT1 _ _ _ | rfl) rfl (show p < 90 by omega) (by decide) ?_
        refine X.pushi (v := nI 32) iX5_next_20 ?_
        refine X.cmne iX5_next_22 (fun c22 => ?_) (fun c22 => ?_)
        · refine X.aload iX5_next_38 rfl ?_
          refine X.getf iX5_next_39 (by first | assumption | exact sT0 _ _ _ | exact sT1 _ _ _ | rfl) rfl ?_
          refine X.aload iX5_next_42 rfl ?_
          refine X.getf iX5_next_43 (by first | assumption | exact sT0 _ _ _ | exact sT1 _ _ _ | rfl) rfl ?_
          refine X.cmge iX5_next_46 (fun c46 => ?_) (fun c46 => ?_)
          · exact absurd c46 (nI_ge (show p < n by omega) (show n < 2 ^ 31 by omega))
          · refine X.aload iX5_next_49 rfl ?_
            refine X.getf iX5_next_50 (by first | assumption | exact sT0 _ _ _ | exact sT1 _ _ _ | rfl) rfl ?_
            refine X.aload iX5_next_53 rfl ?_
            refine X.getf iX5_next_54 (by first | assumption | exact sT0 _ _ _ | exact sT1 _ _ _ | rfl) rfl ?_
            refine X.caldE iX5_next_57 (by first | assumption | exact sT0 _ _ _ | exact sT1 _ _ _ | rfl) rfl (show p < 90 by omega) (by decide) ?_
            refine X.goto iX5_next_58 ?_
            exact X.iret iX5_next_62 ⟨rfl, rfl⟩
        · exact absurd c22 q
theorem c_X5_next {d s : Nat} {h : XH} {V : Ta} (hn : V.n ≤ 90) (hp : V.p ≤ V.n) : MetH mX5_next (d, 0, 0) [.ref s] (setT h s V) (nxt V.cl V.n V.p) (setT h s (Ta.mk V.cl V.n (sk V.cl V.n V.p) V.f)) := by
  refine MetX.of (by decide) rfl (Nat.le_of_ble_eq_true rfl) ?_
  exact next_loop hn (V.n - V.p) V.p (by omega)
theorem nxt_1 {cl : Nat → Int32} {n p : Nat} (h : sk cl n p < n) : nxt cl n p = cl (sk cl n p) := if_pos h
theorem nxt_in {cl : Nat → Int32} {n p : Nat} {c : Int32} (hc : ¬ -1 = c) (h : nxt cl n p = c) : sk cl n p < n := by
  by_cases q : sk cl n p < n
  · exact q
  · rw [nxt, if_neg q] at h
    exact absurd h hc
def psB (cl : Nat → Int32) (n p : Nat) (c : Int32) : Bool := decide (nxt cl n p = c)
def psP (cl : Nat → Int32) (n p : Nat) (c : Int32) : Nat := if nxt cl n p = c then sk cl n p + 1 else sk cl n p
theorem c_X5_passes {d s : Nat} {h : XH} {V : Ta} {c : Int32} (hn : V.n ≤ 90) (hp : V.p ≤ V.n) : MetH mX5_passes (d + 1, 0, 0) [.ref s, .int c] (setT h s V) (bI (psB V.cl V.n V.p c)) (setT h s (Ta.mk V.cl V.n (psP V.cl V.n V.p c) V.f)) := by
  refine MetX.of (by decide) rfl (Nat.le_of_ble_eq_true rfl) ?_
  unfold psB psP
  refine X.aload iX5_passes_0 rfl ?_
  refine X.callVi iX5_passes_1 (c_X5_next (d := d) hn hp) (by first | assumption | exact sT0 _ _ _ | exact sT1 _ _ _ | rfl) rfl rfl (xfit _ _ _) (Nat.le_of_ble_eq_true rfl) ?_
  refine X.iload iX5_passes_4 rfl ?_
  refine X.cmeq iX5_passes_5 (fun c5 => ?_) (fun c5 => ?_)
  · refine X.aload iX5_passes_10 rfl ?_
    refine X.dupa iX5_passes_11 ?_
    refine X.getf iX5_passes_12 (by first | assumption | exact sT0 _ _ _ | exact sT1 _ _ _ | rfl) rfl ?_
    refine X.pushi (v := nI 1) iX5_passes_15 ?_
    refine X.iadd iX5_passes_16 ?_
    refine X.puti iX5_passes_17 (by first | assumption | exact sT0 _ _ _ | exact sT1 _ _ _ | rfl) (Nat.le_of_ble_eq_true rfl) ?_
    refine X.pushi (v := nI 1) iX5_passes_20 ?_
    (refine X.zret (x := true) iX5_passes_21 ⟨?_, ?_⟩; rw [decide_eq_true c5]; rw [if_pos c5, nI_add, sT_p])
  · refine X.pushi (v := nI 0) iX5_passes_8 ?_
    (refine X.zret (x := false) iX5_passes_9 ⟨?_, ?_⟩; rw [decide_eq_false c5]; rw [if_neg c5])
/-- one letter is demanded: the place, the fault -/
def dmP (cl : Nat → Int32) (n : Nat) (c : Int32) (p : Nat) (f : Int32) : Nat := if f = 0 then psP cl n p c else p
def dmF (cl : Nat → Int32) (n : Nat) (c : Int32) (p : Nat) (f : Int32) : Int32 := if f = 0 then (if nxt cl n p = c then 0 else -20 - nI (sk cl n p)) else f
theorem c_X5_demand {d s n p : Nat} {h : XH} {cl : Nat → Int32} {f c : Int32} (hn : n ≤ 90) (hp : p ≤ n) : MetV mX5_demand (d + 2, 0, 0) [.ref s, .int c] (setT h s (Ta.mk cl n p f)) (setT h s (Ta.mk cl n (dmP cl n c p f) (dmF cl n c p f))) := by
  refine MetX.of (by decide) rfl (Nat.le_of_ble_eq_true rfl) ?_
  by_cases e : f = 0
  · subst e
    rw [dmP, dmF, if_pos rfl, if_pos rfl]
    refine X.aload iX5_demand_0 rfl ?_
    refine X.getf iX5_demand_1 (by first | assumption | exact sT0 _ _ _ | exact sT1 _ _ _ | rfl) rfl ?_
    refine X.ifne iX5_demand_4 (fun c4 => ?_) (fun c4 => ?_)
    · exact absurd rfl c4
    · refine X.aload iX5_demand_7 rfl ?_
      refine X.iload iX5_demand_8 rfl ?_
      refine X.callVi iX5_demand_9 (c_X5_passes (d := d) (c := c) hn hp) (by first | assumption | exact sT0 _ _ _ | exact sT1 _ _ _ | rfl) rfl rfl (xfit _ _ _) (Nat.le_of_ble_eq_true rfl) ?_
      refine X.ifneB iX5_demand_12 (fun c12 => ?_) (fun c12 => ?_)
      · first
        | (refine X.vret iX5_demand_23 ⟨rfl, ?_⟩; rw [if_pos (of_decide_eq_true c12)])
        | (refine X.vret iX5_demand_23 ⟨rfl, ?_⟩; rw [if_neg (of_decide_eq_false c12)])
      · refine X.aload iX5_demand_15 rfl ?_
        refine X.aload iX5_demand_16 rfl ?_
        refine X.getf iX5_demand_17 (by first | assumption | exact sT0 _ _ _ | exact sT1 _ _ _ | rfl) rfl ?_
        rw [show psP cl n p c = sk cl n p from if_neg (of_decide_eq_false c12)]
        refine X.callVv iX5_demand_20 (c_X5_fail0 (d := d + 1)) (by first | assumption | exact sT0 _ _ _ | exact sT1 _ _ _ | rfl) rfl rfl (xfit _ _ _) (Nat.le_of_ble_eq_true rfl) ?_
        first
        | (refine X.vret iX5_demand_23 ⟨rfl, ?_⟩; rw [if_pos (of_decide_eq_true c12)])
        | (refine X.vret iX5_demand_23 ⟨rfl, ?_⟩; rw [if_neg (of_decide_eq_false c12)])
  · rw [dmP, dmF, if_neg e, if_neg e]
    refine X.aload iX5_demand_0 rfl ?_
    refine X.getf iX5_demand_1 (by first | assumption | exact sT0 _ _ _ | exact sT1 _ _ _ | rfl) rfl ?_
    refine X.ifne iX5_demand_4 (fun c4 => ?_) (fun c4 => ?_)
    · exact X.vret iX5_demand_23 ⟨rfl, rfl⟩
    · exact absurd c4 e
/-- one digit: what it is, the place, the fault -/
def dgB (cl : Nat → Int32) (n : Nat) (lo hi : Int32) (p : Nat) : Bool := isD (nxt cl n p) && inI (nxt cl n p - nI 48) lo hi
def dgV (cl : Nat → Int32) (n : Nat) (lo hi : Int32) (p : Nat) (f : Int32) : Int32 := if f = 0 then (if dgB cl n lo hi p = true then nxt cl n p - nI 48 else nI 0) else nI 0
def dgP (cl : Nat → Int32) (n : Nat) (lo hi : Int32) (p : Nat) (f : Int32) : Nat := if f = 0 then (if dgB cl n lo hi p = true then sk cl n p + 1 else sk cl n p) else p
def dgF (cl : Nat → Int32) (n : Nat) (lo hi : Int32) (p : Nat) (f : Int32) : Int32 := if f = 0 then (if dgB cl n lo hi p = true then 0 else -20 - nI (sk cl n p)) else f
theorem dg_1 {cl : Nat → Int32} {n p : Nat} {lo hi : Int32} (c : isD (nxt cl n p) = false) : dgB cl n lo hi p = false := by rw [dgB, c, Bool.false_and]
theorem dg_2 {cl : Nat → Int32} {n p : Nat} {lo hi : Int32} (c : inI (nxt cl n p - nI 48) lo hi = false) : dgB cl n lo hi p = false := by rw [dgB, c, Bool.and_false]
theorem dg_3 {cl : Nat → Int32} {n p : Nat} {lo hi : Int32} (c : isD (nxt cl n p) = true) (c' : inI (nxt cl n p - nI 48) lo hi = true) : dgB cl n lo hi p = true := by rw [dgB, c, c', Bool.and_true]
theorem c_X5_digit {d s n p : Nat} {h : XH} {cl : Nat → Int32} {f lo hi : Int32} (hn : n ≤ 90) (hp : p ≤ n) : MetH mX5_digit (d + 2, 0, 0) [.ref s, .int lo, .int hi] (setT h s (Ta.mk cl n p f)) (dgV cl n lo hi p f) (setT h s (Ta.mk cl n (dgP cl n lo hi p f) (dgF cl n lo hi p f))) := by
  refine MetX.of (by decide) rfl (Nat.le_of_ble_eq_true rfl) ?_
  by_cases e : f = 0
  · subst e
    rw [dgP, dgF, dgV, if_pos rfl, if_pos rfl, if_pos rfl]
    refine X.aload iX5_digit_0 rfl ?_
    refine X.getf iX5_digit_1 (by first | assumption | exact sT0 _ _ _ | exact sT1 _ _ _ | rfl) rfl ?_
    refine X.ifeq iX5_digit_4 (fun c4 => ?_) (fun c4 => ?_)
    · refine X.aload iX5_digit_9 rfl ?_
      refine X.callVi iX5_digit_10 (c_X5_next (d := d + 1) (V := Ta.mk cl n p 0) hn hp) (by first | assumption | exact sT0 _ _ _ | exact sT1 _ _ _ | rfl) rfl rfl (xfit _ _ _) (Nat.le_of_ble_eq_true rfl) ?_
      refine X.istore iX5_digit_13 rfl rfl ?_
      refine X.iload iX5_digit_14 rfl ?_
      refine X.callSi iX5_digit_15 (c_X5_isDigit d _ (nxt cl n p)) rfl rfl (xfit _ _ _) (Nat.le_of_ble_eq_true rfl) ?_
      refine X.ifeqB iX5_digit_18 (fun c18 => ?_) (fun c18 => ?_)
      · refine X.aload iX5_digit_33 rfl ?_
        refine X.aload iX5_digit_34 rfl ?_
        refine X.getf iX5_digit_35 (by first | assumption | exact sT0 _ _ _ | exact sT1 _ _ _ | rfl) rfl ?_
        refine X.callVv iX5_digit_38 (c_X5_fail0 (d := d + 1)) (by first | assumption | exact sT0 _ _ _ | exact sT1 _ _ _ | rfl) rfl rfl (xfit _ _ _) (Nat.le_of_ble_eq_true rfl) ?_
        refine X.pushi (v := nI 0) iX5_digit_41 ?_
        first
        | exact X.iret iX5_digit_42 ⟨by rw [dg_1 c18, if_neg Bool.false_ne_true], by rw [dg_1 c18, if_neg Bool.false_ne_true, if_neg Bool.false_ne_true]⟩
        | exact X.iret iX5_digit_42 ⟨by rw [dg_2 c30, if_neg Bool.false_ne_true], by rw [dg_2 c30, if_neg Bool.false_ne_true, if_neg Bool.false_ne_true]⟩
      · refine X.iload iX5_digit_21 rfl ?_
        refine X.pushi (v := nI 48) iX5_digit_22 ?_
        refine X.isub iX5_digit_24 ?_
        refine X.iload iX5_digit_25 rfl ?_
        refine X.iload iX5_digit_26 rfl ?_
        refine X.callSi iX5_digit_27 (c_X6_within (d + 1) _ (nxt cl n p - nI 48) lo hi) rfl rfl (xfit _ _ _) (Nat.le_of_ble_eq_true rfl) ?_
        refine X.ifneB iX5_digit_30 (fun c30 => ?_) (fun c30 => ?_)
        · refine X.aload iX5_digit_43 rfl ?_
          refine X.dupa iX5_digit_44 ?_
          refine X.getf iX5_digit_45 (by first | assumption | exact sT0 _ _ _ | exact sT1 _ _ _ | rfl) rfl ?_
          refine X.pushi (v := nI 1) iX5_digit_48 ?_
          refine X.iadd iX5_digit_49 ?_
          refine X.puti iX5_digit_50 (by first | assumption | exact sT0 _ _ _ | exact sT1 _ _ _ | rfl) (Nat.le_of_ble_eq_true rfl) ?_
          refine X.iload iX5_digit_53 rfl ?_
          refine X.pushi (v := nI 48) iX5_digit_54 ?_
          refine X.isub iX5_digit_56 ?_
          exact X.iret iX5_digit_57 ⟨by rw [dg_3 c18 c30, if_pos rfl], by rw [dg_3 c18 c30, if_pos rfl, if_pos rfl, nI_add, sT_p]⟩
        · refine X.aload iX5_digit_33 rfl ?_
          refine X.aload iX5_digit_34 rfl ?_
          refine X.getf iX5_digit_35 (by first | assumption | exact sT0 _ _ _ | exact sT1 _ _ _ | rfl) rfl ?_
          refine X.callVv iX5_digit_38 (c_X5_fail0 (d := d + 1)) (by first | assumption | exact sT0 _ _ _ | exact sT1 _ _ _ | rfl) rfl rfl (xfit _ _ _) (Nat.le_of_ble_eq_true rfl) ?_
          refine X.pushi (v := nI 0) iX5_digit_41 ?_
          first
          | exact X.iret iX5_digit_42 ⟨by rw [dg_1 c18, if_neg Bool.false_ne_true], by rw [dg_1 c18, if_neg Bool.false_ne_true, if_neg Bool.false_ne_true]⟩
          | exact X.iret iX5_digit_42 ⟨by rw [dg_2 c30, if_neg Bool.false_ne_true], by rw [dg_2 c30, if_neg Bool.false_ne_true, if_neg Bool.false_ne_true]⟩
    · exact absurd rfl c4
  · rw [dgP, dgF, dgV, if_neg e, if_neg e, if_neg e]
    refine X.aload iX5_digit_0 rfl ?_
    refine X.getf iX5_digit_1 (by first | assumption | exact sT0 _ _ _ | exact sT1 _ _ _ | rfl) rfl ?_
    refine X.ifeq iX5_digit_4 (fun c4 => ?_) (fun c4 => ?_)
    · exact absurd c4 e
    · refine X.pushi (v := nI 0) iX5_digit_7 ?_
      exact X.iret iX5_digit_8 ⟨rfl, rfl⟩
