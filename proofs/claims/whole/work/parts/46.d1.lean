/-! a day of the reference, in natural numbers -/
def sumN (f : Nat → Nat) : Nat → Nat
  | 0 => 0
  | k + 1 => sumN f k + f k
theorem sumN_cong {f g : Nat → Nat} : ∀ n, (∀ t, t < n → f t = g t) → sumN f n = sumN g n
  | 0, _ => rfl
  | n + 1, h => by rw [sumN, sumN, sumN_cong n (fun t ht => h t (by omega)), h n (by omega)]
theorem sumN_add1 {f g : Nat → Nat} {t0 x : Nat} : ∀ n, t0 < n → (∀ t, t < n → t ≠ t0 → g t = f t) → g t0 = f t0 + x → sumN g n = sumN f n + x
  | 0, h, _, _ => absurd h (Nat.not_lt_zero _)
  | n + 1, h, hc, e => by
    rw [sumN, sumN]
    by_cases q : t0 = n
    · subst q
      rw [e, sumN_cong t0 (fun t ht => hc t (by omega) (by omega))]
      omega
    · rw [sumN_add1 n (by omega) (fun t ht => hc t (by omega)) e, hc n (by omega) (fun z => q z.symm)]
      omega
theorem minI_N {a b : Nat} (ha : a < 2 ^ 31) (hb : b < 2 ^ 31) : minI (nI a) (nI b) = nI (min a b) := by
  unfold minI
  by_cases q : a < b
  · rw [if_pos ((nI_ltI ha hb).mpr q), Nat.min_eq_left (by omega)]
  · rw [if_neg (fun z => q ((nI_ltI ha hb).mp z)), Nat.min_eq_right (by omega)]
def tcB (nw : Nat → Int32) (away : Int32) (t l : Nat) : Bool := decide (nw (30 + 4 * l) = nI t ∧ awayB away l ∧ rcI nw l t (nw 2) = true)
def tkN (nw : Nat → Int32) (away : Int32) (a : Nat → Nat) (b t k : Nat) : Nat := if ripI nw t = true then min (a t) (b * cnt (tcB nw away t) k) else 0
def payS (nw : Nat → Int32) : Nat → Int32
  | 0 => nI 0
  | k + 1 => if nw (30 + 4 * k) = -4 then payS nw k else payS nw k + nw (27 + 4 * k + 2)
/-- the rows behind k ladders -/
def G1 (nw : Nat → Int32) (away : Int32) (nT : Nat) (a : Nat → Nat) (b k : Nat) (f : Nat → Int32) : Prop :=
  (∀ j, j ≠ 3 → j ≠ 4 → (∀ t, t < nT → j ≠ 9 + 3 * t + 1) → f j = nw j) ∧ (∀ t, t < nT → f (9 + 3 * t + 1) = nI (a t - tkN nw away a b t k)) ∧ f 3 = nw 3 + nI (sumN (fun t => tkN nw away a b t k) nT) ∧ f 4 = nw 4 + payS nw k
theorem tkN_0 (nw : Nat → Int32) (away : Int32) (a : Nat → Nat) (b t : Nat) : tkN nw away a b t 0 = 0 := by
  unfold tkN cnt
  split
  · rw [Nat.mul_zero]
    omega
  · rfl
theorem tkN_f {nw : Nat → Int32} {away : Int32} {a : Nat → Nat} {b t k : Nat} (h : tcB nw away t k = false) : tkN nw away a b t (k + 1) = tkN nw away a b t k := by
  unfold tkN
  rw [cnt, h, if_neg Bool.false_ne_true, Nat.add_zero]
theorem tkN_r {nw : Nat → Int32} {away : Int32} {a : Nat → Nat} {b t k : Nat} (h : ripI nw t = false) : tkN nw away a b t k = 0 := by
  unfold tkN
  rw [h, if_neg Bool.false_ne_true]
theorem tkN_t {nw : Nat → Int32} {away : Int32} {a : Nat → Nat} {b t k : Nat} (h : tcB nw away t k = true) (hr : ripI nw t = true) : tkN nw away a b t (k + 1) = tkN nw away a b t k + min b (a t - tkN nw away a b t k) := by
  unfold tkN
  rw [cnt, h, if_pos rfl, if_pos hr, if_pos hr, Nat.mul_add, Nat.mul_one]
  generalize b * cnt (tcB nw away t) k = x
  omega
theorem nI_n4' {t : Nat} (ht : t < 2 ^ 31) : ¬ nI t = -4 := nI_n4 ht
theorem nI_sub0 (x : Int32) : x + nI 0 = x := Int32.add_zero x
theorem gb1_G {nw : Nat → Int32} {nT nL b : Nat} {a : Nat → Nat} {away : Int32} (wf : WF nw nT nL) (ha : ∀ t, t < nT → nw (9 + 3 * t + 1) = nI (a t) ∧ a t ≤ 99) (hb : nw 6 = nI b ∧ b ≤ 30) : ∀ k, k ≤ nL → G1 nw away nT a b k (gb1 nw away k) := by
  intro k
  induction k with
  | zero =>
    intro _
    refine ⟨fun j _ _ _ => rfl, fun t ht => ?_, ?_, ?_⟩
    · rw [tkN_0]
      exact (ha t ht).1
    · have z : sumN (fun t => tkN nw away a b t 0) nT = sumN (fun _ => 0) nT := sumN_cong _ (fun t _ => tkN_0 _ _ _ _ _)
      have z2 : ∀ n, sumN (fun _ => 0) n = 0 := fun n => by
        induction n with
        | zero => rfl
        | succ n ih => rw [sumN, ih]
      rw [z, z2, nI_sub0]
      rfl
    · rw [payS, nI_sub0]
      rfl
  | succ k ih =>
    intro hk
    obtain ⟨i1, i2, i3, i4⟩ := ih (by omega)
    have hT := wf.2.2.1
    have hL := wf.2.2.2.1
    rw [show gb1 nw away (k + 1) = gbL (gb1 nw away k) away k from rfl]
    generalize gb1 nw away k = f at i1 i2 i3 i4
    have same : ∀ j, 27 ≤ j → f j = nw j := fun j hj => i1 j (by omega) (by omega) (fun t ht => by omega)
    have f2 : f 2 = nw 2 := i1 2 (by omega) (by omega) (fun t ht => by omega)
    have f6 : f 6 = nw 6 := i1 6 (by omega) (by omega) (fun t ht => by omega)
    have eln : f (30 + 4 * k) = nw (30 + 4 * k) := same _ (by omega)
    unfold gbL
    rw [eln]
    by_cases c4 : nw (30 + 4 * k) = -4
    · rw [if_pos c4]
      have tf : ∀ t, t < nT → tcB nw away t k = false := fun t ht => decide_eq_false (fun q => nI_n4 (show t < 2 ^ 31 by omega) (q.1.symm.trans c4))
      refine ⟨i1, fun t ht => by rw [tkN_f (tf t ht)]; exact i2 t ht, ?_, by rw [payS, if_pos c4]; exact i4⟩
      rw [i3, sumN_cong nT (fun t ht => (tkN_f (tf t ht)).symm)]
    · rw [if_neg c4]
      obtain ⟨t0, ht0, e0⟩ := (wf.2.2.2.2 k (by omega)).resolve_left c4
      rw [e0, nI_clamp (by omega)]
      have pay : f 4 + f (27 + 4 * k + 2) = nw 4 + payS nw (k + 1) := by
        rw [payS, if_neg c4, i4, same _ (by omega), Int32.add_assoc]
      have g4 : ∀ j, j ≠ 4 → gbPay f k j = f j := fun j hj => upd_ne _ _ hj
      have g44 : gbPay f k 4 = nw 4 + payS nw (k + 1) := (upd_eq _ _ _).trans pay
      have er : ripI (gbPay f k) t0 = ripI nw t0 := by
        unfold ripI
        rw [g4 _ (by omega), g4 _ (by omega), f2, i1 _ (by omega) (by omega) (fun t ht => by omega)]
      have ec : rcI (gbPay f k) k t0 (gbPay f k 2) = rcI nw k t0 (nw 2) := by
        unfold rcI
        rw [g4 _ (by omega), g4 _ (by omega), g4 _ (by omega), g4 _ (by omega), f2, i1 (9 + 3 * t0) (by omega) (by omega) (fun t ht => by omega), same _ (by omega), same _ (by omega)]
      rw [er, ec]
      generalize gbPay f k = g at g4 g44
      have other : ∀ t, t < nT → t ≠ t0 → tcB nw away t k = false := fun t ht hne => decide_eq_false (fun q => hne ((nI_eq (by omega) (by omega)).mp (q.1.symm.trans e0)))
      by_cases cc : awayB away k ∧ ripI nw t0 = true ∧ rcI nw k t0 (nw 2) = true
      · rw [if_pos cc]
        have tt : tcB nw away t0 k = true := decide_eq_true ⟨e0, cc.1, cc.2.2⟩
        have step := tkN_t (a := a) (b := b) tt cc.2.1
        have gf : g (9 + 3 * t0 + 1) = nI (a t0 - tkN nw away a b t0 k) := (g4 _ (by omega)).trans (i2 t0 ht0)
        have h99 := (ha t0 ht0).2
        have em : minI (g 6) (g (9 + 3 * t0 + 1)) = nI (min b (a t0 - tkN nw away a b t0 k)) := by
          rw [gf, g4 _ (by omega), f6, hb.1, minI_N (by omega) (by omega)]
        unfold gbTake
        rw [em, gf]
        generalize hx : min b (a t0 - tkN nw away a b t0 k) = x at step
        have xle : x ≤ a t0 - tkN nw away a b t0 k := by omega
        rw [pk_sub xle]
        refine ⟨fun j h3 h4 hj => ?_, fun t ht => ?_, ?_, ?_⟩
        · rw [upd_ne _ _ h3, upd_ne _ _ (hj t0 ht0), g4 _ h4]
          exact i1 j h3 h4 hj
        · rw [upd_ne _ _ (by omega)]
          by_cases q : t = t0
          · subst q
            rw [upd_eq, step]
            congr 1
            omega
          · rw [upd_ne _ _ (by omega), g4 _ (by omega), tkN_f (other t ht q)]
            exact i2 t ht
        · rw [upd_eq, upd_ne _ _ (by omega), g4 _ (by omega), i3, Int32.add_assoc, nI_add]
          congr 2
          exact (sumN_add1 nT ht0 (fun t ht hne => tkN_f (other t ht hne)) step).symm
        · rw [upd_ne _ _ (by omega), upd_ne _ _ (by omega)]
          exact g44
      · rw [if_neg cc]
        have keep : ∀ t, t < nT → tkN nw away a b t (k + 1) = tkN nw away a b t k := fun t ht => by
          by_cases q : t = t0
          · subst q
            by_cases r : ripI nw t = true
            · exact tkN_f (decide_eq_false (fun z => cc ⟨z.2.1, r, z.2.2⟩))
            · rw [Bool.not_eq_true] at r
              rw [tkN_r r, tkN_r r]
          · exact tkN_f (other t ht q)
        refine ⟨fun j h3 h4 hj => (g4 _ h4).trans (i1 j h3 h4 hj), fun t ht => ?_, ?_, g44⟩
        · rw [g4 _ (by omega), keep t ht]
          exact i2 t ht
        · rw [g4 _ (by omega), i3, sumN_cong nT (fun t ht => (keep t ht).symm)]
def lsN (nw : Nat → Int32) (x : Nat → Nat) (w t : Nat) : Nat := if ripI nw t = true then min w (x t) else 0
/-- the rows behind the wasps at k trees -/
def G2 (nw g : Nat → Int32) (nT : Nat) (x : Nat → Nat) (w k : Nat) (f : Nat → Int32) : Prop :=
  (∀ j, j ≠ 5 → (∀ t, t < nT → j ≠ 9 + 3 * t + 1) → f j = g j) ∧ (∀ t, t < k → f (9 + 3 * t + 1) = nI (x t - lsN nw x w t)) ∧ (∀ t, k ≤ t → t < nT → f (9 + 3 * t + 1) = nI (x t)) ∧ f 5 = g 5 + nI (sumN (lsN nw x w) k)
theorem gb2_G {nw g : Nat → Int32} {nT w : Nat} {x : Nat → Nat} (hT : nT ≤ 6) (hx : ∀ t, t < nT → g (9 + 3 * t + 1) = nI (x t) ∧ x t ≤ 99) (hw : g 7 = nI w ∧ w ≤ 9) (hr : ∀ t, t < nT → g (11 + 3 * t) = nw (11 + 3 * t)) (h2 : g 2 = nw 2) : ∀ k, k ≤ nT → G2 nw g nT x w k (gb2 g k) := by
  intro k
  induction k with
  | zero =>
    intro _
    exact ⟨fun j _ _ => rfl, fun t ht => absurd ht (Nat.not_lt_zero _), fun t _ ht => (hx t ht).1, by rw [sumN, nI_sub0]; rfl⟩
  | succ k ih =>
    intro hk
    obtain ⟨i1, i2, i3, i4⟩ := ih (by omega)
    rw [show gb2 g (k + 1) = gbT (gb2 g k) k from rfl]
    generalize gb2 g k = f at i1 i2 i3 i4
    have er : ripI f k = ripI nw k := by
      unfold ripI
      rw [i1 _ (by omega) (fun t ht => by omega), i1 2 (by omega) (fun t ht => by omega), hr k (by omega), h2]
    have f7 : f 7 = nI w := (i1 7 (by omega) (fun t ht => by omega)).trans hw.1
    have fk := i3 k (Nat.le_refl _) (by omega)
    have h99 := (hx k (by omega)).2
    have el : (if ripI f k = true then minI (f 7) (f (9 + 3 * k + 1)) else nI 0) = nI (lsN nw x w k) := by
      rw [er, f7, fk, minI_N (by omega) (by omega), lsN]
      split <;> rfl
    unfold gbT gbLose
    rw [el, fk]
    have le : lsN nw x w k ≤ x k := by
      unfold lsN
      split <;> omega
    rw [pk_sub le]
    refine ⟨fun j h5 hj => ?_, fun t ht => ?_, fun t h1 ht => ?_, ?_⟩
    · rw [upd_ne _ _ h5, upd_ne _ _ (hj k (by omega))]
      exact i1 j h5 hj
    · rw [upd_ne _ _ (by omega)]
      by_cases q : t = k
      · subst q
        rw [upd_eq]
      · rw [upd_ne _ _ (by omega)]
        exact i2 t (by omega)
    · rw [upd_ne _ _ (by omega), upd_ne _ _ (by omega)]
      exact i3 t (by omega) ht
    · rw [upd_eq, upd_ne _ _ (by omega), i4, Int32.add_assoc, nI_add]
      rfl
/-- a day -/
theorem gb_spec {nw : Nat → Int32} {nT nL b w : Nat} {a : Nat → Nat} {away : Int32} (wf : WF nw nT nL) (ha : ∀ t, t < nT → nw (9 + 3 * t + 1) = nI (a t) ∧ a t ≤ 99) (hb : nw 6 = nI b ∧ b ≤ 30) (hw : nw 7 = nI w ∧ w ≤ 9) :
    (∀ j, j ≠ 2 → j ≠ 3 → j ≠ 4 → j ≠ 5 → (∀ t, t < nT → j ≠ 9 + 3 * t + 1) → gb nw nT nL away j = nw j) ∧
    (∀ t, t < nT → gb nw nT nL away (9 + 3 * t + 1) = nI (a t - tkN nw away a b t nL - lsN nw (fun t => a t - tkN nw away a b t nL) w t)) ∧
    gb nw nT nL away 2 = nw 2 + nI 1 ∧ gb nw nT nL away 3 = nw 3 + nI (sumN (fun t => tkN nw away a b t nL) nT) ∧ gb nw nT nL away 4 = nw 4 + payS nw nL ∧ gb nw nT nL away 5 = nw 5 + nI (sumN (lsN nw (fun t => a t - tkN nw away a b t nL) w) nT) := by
  have hT := wf.2.2.1
  obtain ⟨i1, i2, i3, i4⟩ := gb1_G (away := away) wf ha hb nL (Nat.le_refl _)
  have B := gb2_G (nw := nw) (g := gb1 nw away nL) (w := w) (x := fun t => a t - tkN nw away a b t nL) hT (fun t ht => ⟨i2 t ht, by have := (ha t ht).2; show a t - _ ≤ 99; omega⟩) ⟨(i1 7 (by omega) (by omega) (fun t ht => by omega)).trans hw.1, hw.2⟩ (fun t ht => i1 _ (by omega) (by omega) (fun t ht => by omega)) (i1 2 (by omega) (by omega) (fun t ht => by omega)) nT (Nat.le_refl _)
  obtain ⟨j1, j2, -, j4⟩ := B
  rw [show gb nw nT nL away = gbDay (gb2 (gb1 nw away nL) nT) from rfl]
  generalize gb2 (gb1 nw away nL) nT = g at j1 j2 j4
  unfold gbDay
  refine ⟨fun j h2 h3 h4 h5 hj => ?_, fun t ht => ?_, ?_, ?_, ?_, ?_⟩
  · rw [upd_ne _ _ h2, j1 j h5 hj]
    exact i1 j h3 h4 hj
  · rw [upd_ne _ _ (by omega)]
    exact j2 t ht
  · rw [upd_eq, j1 2 (by omega) (fun t ht => by omega), i1 2 (by omega) (by omega) (fun t ht => by omega)]
  · rw [upd_ne _ _ (by omega), j1 3 (by omega) (fun t ht => by omega)]
    exact i3
  · rw [upd_ne _ _ (by omega), j1 4 (by omega) (fun t ht => by omega)]
    exact i4
  · rw [upd_ne _ _ (by omega), j4, i1 5 (by omega) (by omega) (fun t ht => by omega)]
