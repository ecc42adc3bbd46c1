/-! class and reference: the relation; a day -/
def RO (O : Oc) (nw : Nat → Int32) : Prop := nw 0 = nI O.nT ∧ nw 1 = nI O.nL ∧ O.nT ≤ 6 ∧ O.nL ≤ 4 ∧ O.ba = nw 6 ∧ O.wa = nw 7 ∧ (∃ b, 1 ≤ b ∧ b ≤ 30 ∧ nw 6 = nI b) ∧ (∃ w, w ≤ 9 ∧ nw 7 = nI w) ∧
  (∀ t, t < O.nT → O.hi t = nw (9 + 3 * t) ∧ O.ri t = nw (11 + 3 * t)) ∧
  (∀ l, l < O.nL → O.ki l = nw (27 + 4 * l) ∧ O.le l = nw (28 + 4 * l) ∧ O.pr l = nw (27 + 4 * l + 2) ∧ (∃ k, k < 5 ∧ nw (27 + 4 * l) = nI k) ∧ ∃ e, 1 ≤ e ∧ e ≤ 9 ∧ nw (28 + 4 * l) = nI e)
def RM (nT nL : Nat) (M : Mo) (nw : Nat → Int32) : Prop := M.day = nw 2 ∧ M.got = nw 3 ∧ M.paid = nw 4 ∧ M.lost = nw 5 ∧ M.draw = nw 8 ∧
  (∀ t, t < nT → M.fr t = nw (9 + 3 * t + 1) ∧ ∃ a, a ≤ 99 ∧ nw (9 + 3 * t + 1) = nI a) ∧
  (∀ l, l < nL → M.ln l = nw (30 + 4 * l) ∧ (nw (30 + 4 * l) = -4 ∨ ∃ t, t < nT ∧ nw (30 + 4 * l) = nI t)) ∧ ∀ l, nL ≤ l → l < 4 → M.ln l = -4
theorem RM.wf {O : Oc} {M : Mo} {nw : Nat → Int32} (h : RO O nw) (h2 : RM O.nT O.nL M nw) : WF nw O.nT O.nL :=
  ⟨h.1, h.2.1, h.2.2.1, h.2.2.2.1, fun l hl => (h2.2.2.2.2.2.2.1 l hl).2⟩
theorem RM.nat {nT nL : Nat} {M : Mo} {nw : Nat → Int32} (h2 : RM nT nL M nw) : ∃ a : Nat → Nat, ∀ t, t < nT → nw (9 + 3 * t + 1) = nI (a t) ∧ a t ≤ 99 := by
  refine ⟨fun t => (nw (9 + 3 * t + 1)).toNatClampNeg, fun t ht => ?_⟩
  obtain ⟨-, x, hx, e⟩ := h2.2.2.2.2.2.1 t ht
  have : (nw (9 + 3 * t + 1)).toNatClampNeg = x := by rw [e]; exact nI_clamp (by omega)
  show nw (9 + 3 * t + 1) = nI (nw (9 + 3 * t + 1)).toNatClampNeg ∧ (nw (9 + 3 * t + 1)).toNatClampNeg ≤ 99
  rw [this]
  exact ⟨e, hx⟩
theorem RO.ki {O : Oc} {nw : Nat → Int32} (h : RO O nw) : KI O.ki O.nL := fun l hl => by
  obtain ⟨h1, -, -, ⟨k, hk, e⟩, -⟩ := h.2.2.2.2.2.2.2.2.2 l hl
  exact ⟨k, hk, h1.trans e⟩
theorem cnt_le (b : Nat → Bool) : ∀ n, cnt b n ≤ n
  | 0 => Nat.le_refl _
  | n + 1 => by
    have := cnt_le b n
    rw [cnt]
    split <;> omega
theorem tkI_N {hi ri ki le : Nat → Int32} {t nL a b : Nat} {day s : Int32} (ha : a ≤ 99) (hb : b ≤ 30) (hL : nL ≤ 4) : tkI hi ri ki le t nL day s (nI a) (nI b) = nI (if decide (ri t ≤ day) = true then min a (b * cnt (rsB hi ki le t day s) nL) else 0) := by
  have hc : b * cnt (rsB hi ki le t day s) nL ≤ 30 * 4 := Nat.mul_le_mul hb (Nat.le_trans (cnt_le _ _) hL)
  unfold tkI tkB
  by_cases q : day < ri t
  · rw [if_pos q, decide_eq_false (Int32.not_le.mpr q), if_neg Bool.false_ne_true]
  · rw [if_neg q, decide_eq_true (Int32.not_lt.mp q), if_pos rfl, bcI_bits _ hL, pk_mul, minI_N (by omega) (by omega), Nat.min_comm]
theorem stI_N {ri : Nat → Int32} {t a w : Nat} {day : Int32} (ha : a ≤ 99) (hw : w ≤ 9) : stI ri t day (nI a) (nI w) = nI (if decide (ri t ≤ day) = true then min w a else 0) := by
  unfold stI
  by_cases q : day < ri t
  · rw [if_pos q, decide_eq_false (Int32.not_le.mpr q), if_neg Bool.false_ne_true]
  · rw [if_neg q, decide_eq_true (Int32.not_lt.mp q), if_pos rfl, minI_N (by omega) (by omega)]
theorem rs_tc {O : Oc} {M : Mo} {nw : Nat → Int32} {t : Nat} {s away : Int32} (h : RO O nw) (h2 : RM O.nT O.nL M nw) (ht : t < O.nT) (hs : ∀ l, l < O.nL → tst s l = (decide (M.ln l = nI t) && decide (awayB away l))) : ∀ l, l < O.nL → rsB O.hi O.ki O.le t M.day s l = tcB nw away t l := by
  intro l hl
  obtain ⟨k1, k2, -⟩ := h.2.2.2.2.2.2.2.2.2 l hl
  rw [rsB, tcB, hs l hl, (h.2.2.2.2.2.2.2.2.1 t ht).1, k1, k2, h2.1, (h2.2.2.2.2.2.2.1 l hl).1, Bool.decide_and, Bool.decide_and, Bool.and_assoc]
  congr 2
  unfold rcI
  rw [Bool.decide_eq_true]
theorem away0 : ∀ l, l < 4 → awayB (nI 0) l := fun l hl => (by decide : ∀ l : Fin 4, awayB (nI 0) l.1) ⟨l, hl⟩
theorem at_tst {M : Mo} {t l : Nat} (hl : l < 4) : tst (atM M t) l = decide (M.ln l = nI t) := tst_bits _ (Nat.le_refl _) hl
theorem rip_eq {O : Oc} {M : Mo} {nw : Nat → Int32} {nT nL t : Nat} (h : RO O nw) (h2 : RM nT nL M nw) (ht : t < O.nT) : decide (O.ri t ≤ M.day) = ripI nw t := by
  rw [ripI, (h.2.2.2.2.2.2.2.2.1 t ht).2, h2.1]
/-- what is taken at a tree, by those that are not away -/
theorem tk_same {O : Oc} {M : Mo} {nw : Nat → Int32} {t b : Nat} {a : Nat → Nat} {s away : Int32} (h : RO O nw) (h2 : RM O.nT O.nL M nw) (ht : t < O.nT) (ha : a t ≤ 99) (hb : b ≤ 30) (hs : ∀ l, l < O.nL → tst s l = (decide (M.ln l = nI t) && decide (awayB away l))) : tkI O.hi O.ri O.ki O.le t O.nL M.day s (nI (a t)) (nI b) = nI (tkN nw away a b t O.nL) := by
  rw [tkI_N ha hb h.2.2.2.1, rip_eq h h2 ht, cnt_cong _ (rs_tc h h2 ht hs), tkN]
theorem payM_o (O : Oc) (M : Mo) : ∀ k, (payM O M k).fr = M.fr ∧ (payM O M k).got = M.got ∧ (payM O M k).lost = M.lost ∧ (payM O M k).day = M.day ∧ (payM O M k).draw = M.draw
  | 0 => ⟨rfl, rfl, rfl, rfl, rfl⟩
  | k + 1 => by
    unfold payM
    split
    · exact payM_o O M k
    · exact payM_o O M k
theorem payM_p {O : Oc} {M : Mo} {nw : Nat → Int32} (h : RO O nw) (h2 : RM O.nT O.nL M nw) : ∀ k, k ≤ O.nL → (payM O M k).paid = nw 4 + payS nw k
  | 0, _ => by rw [payS, nI_sub0]; exact h2.2.2.1
  | k + 1, hk => by
    have ih := payM_p h h2 k (by omega)
    obtain ⟨e1, -⟩ := h2.2.2.2.2.2.2.1 k (by omega)
    obtain ⟨-, -, e2, -⟩ := h.2.2.2.2.2.2.2.2.2 k (by omega)
    rw [payS, payM, ← e1]
    by_cases q : M.ln k = -4
    · rw [if_pos q, if_pos q]
      exact ih
    · rw [if_neg q, if_neg q]
      show (payM O M k).paid + O.pr k = _
      rw [ih, e2, Int32.add_assoc]
/-- the class's Moment behind k trees -/
def P1 (nw : Nat → Int32) (N : Mo) (nT nL : Nat) (a : Nat → Nat) (b w k : Nat) (M : Mo) : Prop :=
  M.ln = N.ln ∧ M.day = N.day ∧ M.draw = N.draw ∧ M.paid = N.paid ∧
  (∀ t, t < k → M.fr t = nI (a t - tkN nw (nI 0) a b t nL - lsN nw (fun t => a t - tkN nw (nI 0) a b t nL) w t)) ∧ (∀ t, k ≤ t → M.fr t = N.fr t) ∧
  M.got = N.got + nI (sumN (fun t => tkN nw (nI 0) a b t nL) k) ∧ M.lost = N.lost + nI (sumN (lsN nw (fun t => a t - tkN nw (nI 0) a b t nL) w) k)
theorem tkN_le (nw : Nat → Int32) (away : Int32) (a : Nat → Nat) (b t k : Nat) : tkN nw away a b t k ≤ a t := by
  unfold tkN
  split <;> omega
theorem lsN_le (nw : Nat → Int32) (x : Nat → Nat) (w t : Nat) : lsN nw x w t ≤ x t := by
  unfold lsN
  split <;> omega
theorem trs_P {O : Oc} {N : Mo} {nw : Nat → Int32} {a : Nat → Nat} {b w : Nat} (h : RO O nw) (hd : N.day = nw 2) (hln : ∀ l, l < O.nL → N.ln l = nw (30 + 4 * l) ∧ (nw (30 + 4 * l) = -4 ∨ ∃ t, t < O.nT ∧ nw (30 + 4 * l) = nI t)) (ha : ∀ t, t < O.nT → N.fr t = nI (a t) ∧ a t ≤ 99) (hb : O.ba = nI b ∧ b ≤ 30) (hw : O.wa = nI w ∧ w ≤ 9) : ∀ k, k ≤ O.nT → P1 nw N O.nT O.nL a b w k (trsM O N k) := by
  intro k
  induction k with
  | zero =>
    intro _
    exact ⟨rfl, rfl, rfl, rfl, fun t ht => absurd ht (Nat.not_lt_zero _), fun t _ => rfl, by rw [sumN, nI_sub0]; rfl, by rw [sumN, nI_sub0]; rfl⟩
  | succ k ih =>
    intro hk
    obtain ⟨i1, i2, i3, i4, i5, i6, i7, i8⟩ := ih (by omega)
    rw [show trsM O N (k + 1) = trM O (trsM O N k) k from rfl]
    generalize trsM O N k = M at i1 i2 i3 i4 i5 i6 i7 i8
    have hL := h.2.2.2.1
    have h99 := (ha k (by omega)).2
    have fk : M.fr k = nI (a k) := (i6 k (Nat.le_refl _)).trans (ha k (by omega)).1
    have er : decide (O.ri k ≤ M.day) = ripI nw k := by
      rw [ripI, (h.2.2.2.2.2.2.2.2.1 k (by omega)).2, i2, hd]
    have et : tkM O M k = nI (tkN nw (nI 0) a b k O.nL) := by
      unfold tkM
      rw [fk, hb.1, tkI_N h99 hb.2 hL, er, tkN]
      congr 3
      congr 1
      refine cnt_cong _ (fun l hl => ?_)
      obtain ⟨k1, k2, -⟩ := h.2.2.2.2.2.2.2.2.2 l hl
      rw [rsB, tcB, at_tst (by omega), (h.2.2.2.2.2.2.2.2.1 k (by omega)).1, k1, k2, i2, hd, i1, (hln l hl).1, Bool.decide_and, Bool.decide_and, decide_eq_true (away0 l (by omega)), Bool.true_and]
      congr 1
      unfold rcI
      rw [Bool.decide_eq_true]
    have le1 := tkN_le nw (nI 0) a b k O.nL
    have es : stM O M k = nI (lsN nw (fun t => a t - tkN nw (nI 0) a b t O.nL) w k) := by
      unfold stM
      rw [et, fk, pk_sub le1, hw.1, stI_N (by omega) hw.2, er, lsN]
    have le2 := lsN_le nw (fun t => a t - tkN nw (nI 0) a b t O.nL) w k
    have le2 : lsN nw (fun t => a t - tkN nw (nI 0) a b t O.nL) w k ≤ a k - tkN nw (nI 0) a b k O.nL := le2
    refine ⟨i1, i2, i3, i4, fun t ht => ?_, fun t ht => ?_, ?_, ?_⟩
    · show upd M.fr k (M.fr k - (tkM O M k + stM O M k)) t = _
      by_cases q : t = k
      · subst q
        rw [upd_eq, et, es, fk, nI_add, pk_sub (by omega), Nat.sub_sub]
      · rw [upd_ne _ _ q]
        exact i5 t (by omega)
    · show upd M.fr k (M.fr k - (tkM O M k + stM O M k)) t = _
      rw [upd_ne _ _ (by omega)]
      exact i6 t (by omega)
    · show M.got + tkM O M k = _
      rw [i7, et, Int32.add_assoc, nI_add]
      rfl
    · show M.lost + stM O M k = _
      rw [i8, es, Int32.add_assoc, nI_add]
      rfl
theorem day_rel {O : Oc} {M : Mo} {nw : Nat → Int32} (h : RO O nw) (h2 : RM O.nT O.nL M nw) : RO O (gb nw O.nT O.nL (nI 0)) ∧ RM O.nT O.nL (passM O M) (gb nw O.nT O.nL (nI 0)) := by
  have wf := RM.wf h h2
  obtain ⟨b, hb1, hb2, hb⟩ := h.2.2.2.2.2.2.1
  obtain ⟨w, hw1, hw⟩ := h.2.2.2.2.2.2.2.1
  have hT := h.2.2.1
  have hL := h.2.2.2.1
  obtain ⟨a, ha⟩ := h2.nat
  obtain ⟨s1, s2, s3, s4, s5, s6⟩ := gb_spec (away := nI 0) wf ha ⟨hb, hb2⟩ ⟨hw, hw1⟩
  have po := payM_o O M O.nL
  have pl := payM_ln O M O.nL
  have pp := payM_p h h2 O.nL (Nat.le_refl _)
  have T := trs_P (N := payM O M O.nL) (a := a) (b := b) (w := w) h (po.2.2.2.1.trans h2.1) (fun l hl => by rw [pl]; exact h2.2.2.2.2.2.2.1 l hl) (fun t ht => ⟨by rw [po.1, (h2.2.2.2.2.2.1 t ht).1]; exact (ha t ht).1, (ha t ht).2⟩) ⟨h.2.2.2.2.1.trans hb, hb2⟩ ⟨h.2.2.2.2.2.1.trans hw, hw1⟩ O.nT (Nat.le_refl _)
  unfold passM
  generalize payM O M O.nL = N at po pl pp T
  generalize trsM O N O.nT = K at T
  obtain ⟨t1, t2, t3, t4, t5, -, t7, t8⟩ := T
  obtain ⟨p1, p2, p3, p4, p5⟩ := po
  generalize gb nw O.nT O.nL (nI 0) = g at s1 s2 s3 s4 s5 s6
  have far : ∀ j, 26 ≤ j → g j = nw j := fun j hj => s1 j (by omega) (by omega) (by omega) (by omega) (fun t ht => by omega)
  constructor
  · refine ⟨?_, ?_, hT, hL, ?_, ?_, ⟨b, hb1, hb2, ?_⟩, ⟨w, hw1, ?_⟩, fun t ht => ?_, fun l hl => ?_⟩
    · rw [s1 0 (by omega) (by omega) (by omega) (by omega) (fun t ht => by omega)]; exact h.1
    · rw [s1 1 (by omega) (by omega) (by omega) (by omega) (fun t ht => by omega)]; exact h.2.1
    · rw [s1 6 (by omega) (by omega) (by omega) (by omega) (fun t ht => by omega)]; exact h.2.2.2.2.1
    · rw [s1 7 (by omega) (by omega) (by omega) (by omega) (fun t ht => by omega)]; exact h.2.2.2.2.2.1
    · rw [s1 6 (by omega) (by omega) (by omega) (by omega) (fun t ht => by omega)]; exact hb
    · rw [s1 7 (by omega) (by omega) (by omega) (by omega) (fun t ht => by omega)]; exact hw
    · rw [s1 (9 + 3 * t) (by omega) (by omega) (by omega) (by omega) (fun t ht => by omega), s1 (11 + 3 * t) (by omega) (by omega) (by omega) (by omega) (fun t ht => by omega)]
      exact h.2.2.2.2.2.2.2.2.1 t ht
    · rw [far (27 + 4 * l) (by omega), far (28 + 4 * l) (by omega), far (27 + 4 * l + 2) (by omega)]
      exact h.2.2.2.2.2.2.2.2.2 l hl
  · refine ⟨?_, ?_, ?_, ?_, ?_, fun t ht => ?_, fun l hl => ?_, fun l h1 h3 => ?_⟩
    · show K.day + nI 1 = _
      rw [t2, p4, h2.1, s3]
    · show K.got = _
      rw [t7, p2, h2.2.1, s4]
    · show K.paid = _
      rw [t4, pp, s5]
    · show K.lost = _
      rw [t8, p3, h2.2.2.2.1, s6]
    · show K.draw = _
      rw [t3, p5, h2.2.2.2.2.1, s1 8 (by omega) (by omega) (by omega) (by omega) (fun t ht => by omega)]
    · refine ⟨(t5 t ht).trans (s2 t ht).symm, _, ?_, s2 t ht⟩
      have := (ha t ht).2
      omega
    · show K.ln l = _ ∧ _
      rw [far _ (by omega), t1, pl]
      exact h2.2.2.2.2.2.2.1 l hl
    · show K.ln l = _
      rw [t1, pl]
      exact h2.2.2.2.2.2.2.2 l h1 h3
