/-! ways as digits; sets as bits -/
theorem digE (w T k l : Nat) (h : l < k) : w / T / T ^ (k - 1 - l) = w / T ^ (k - l) := by
  rw [Nat.div_div_eq_div_mul, ← Nat.pow_succ', show (k - 1 - l).succ = k - l by omega]
theorem dig_row {nT : Nat} : ∀ k (f : Nat → Int32) left, (∀ l, l < k → dig nT k f left (30 + 4 * l) = nI (left / nT ^ (k - 1 - l) % nT)) ∧ (∀ j, (∀ l, l < k → j ≠ 30 + 4 * l) → dig nT k f left j = f j) := by
  intro k
  induction k with
  | zero => exact fun f left => ⟨fun l hl => absurd hl (Nat.not_lt_zero _), fun j _ => rfl⟩
  | succ k ih =>
    intro f left
    obtain ⟨i1, i2⟩ := ih (upd f (27 + 4 * k + 3) (nI (left % nT))) (left / nT)
    rw [show dig nT (k + 1) f left = dig nT k (upd f (27 + 4 * k + 3) (nI (left % nT))) (left / nT) from rfl]
    refine ⟨fun l hl => ?_, fun j hj => ?_⟩
    · by_cases q : l = k
      · subst q
        rw [i2 _ (fun l hl => by omega), show 27 + 4 * l + 3 = 30 + 4 * l by omega, upd_eq, show l + 1 - 1 - l = 0 by omega, Nat.pow_zero, Nat.div_one]
      · rw [i1 l (by omega), digE _ _ _ _ (by omega), show k + 1 - 1 - l = k - l by omega]
    · rw [i2 j (fun l hl => hj l (by omega)), upd_ne _ _ (by have := hj k (by omega); omega)]
theorem sdg_row {T : Nat} : ∀ k (f : Nat → Int32) left, (∀ l, l < k → sdg T k f left l = nI (left / T ^ (k - 1 - l) % T)) ∧ (∀ j, k ≤ j → sdg T k f left j = f j) := by
  intro k
  induction k with
  | zero => exact fun f left => ⟨fun l hl => absurd hl (Nat.not_lt_zero _), fun j _ => rfl⟩
  | succ k ih =>
    intro f left
    obtain ⟨i1, i2⟩ := ih (upd f k (nI (left % T))) (left / T)
    rw [show sdg T (k + 1) f left = sdg T k (upd f k (nI (left % T))) (left / T) from rfl]
    refine ⟨fun l hl => ?_, fun j hj => ?_⟩
    · by_cases q : l = k
      · subst q
        rw [i2 _ (Nat.le_refl _), upd_eq, show l + 1 - 1 - l = 0 by omega, Nat.pow_zero, Nat.div_one]
      · rw [i1 l (by omega), digE _ _ _ _ (by omega), show k + 1 - 1 - l = k - l by omega]
    · rw [i2 j (by omega), upd_ne _ _ (by omega)]
theorem tst_or (j k p : Nat) (hj : j < 16) (hk : k < 4) (hp : p < 4) : tst (nI j ||| bitI k) p = (tst (nI j) p || decide (p = k)) :=
  (by decide +kernel : ∀ (j : Fin 16) (k p : Fin 4), tst (nI j.1 ||| bitI k.1) p.1 = (tst (nI j.1) p.1 || decide (p.1 = k.1))) ⟨j, hj⟩ ⟨k, hk⟩ ⟨p, hp⟩
theorem tst_0 (p : Nat) (hp : p < 64) : tst (nI 0) p = false := (by decide +kernel : ∀ p : Fin 64, tst (nI 0) p.1 = false) ⟨p, hp⟩
theorem tst_bit (k p : Nat) (hk : k < 4) (hp : p < 4) : tst (bitI k) p = decide (p = k) :=
  (by decide +kernel : ∀ (k p : Fin 4), tst (bitI k.1) p.1 = decide (p.1 = k.1)) ⟨k, hk⟩ ⟨p, hp⟩
theorem tst_lt (j P : Nat) (hj : j < 16) (hP : P ≤ 4) (h : ∀ p, P ≤ p → p < 4 → tst (nI j) p = false) : j < 2 ^ P :=
  (by decide +kernel : ∀ (j : Fin 16) (P : Fin 5), (∀ p : Fin 4, P.1 ≤ p.1 → tst (nI j.1) p.1 = false) → j.1 < 2 ^ P.1) ⟨j, hj⟩ ⟨P, by omega⟩ (fun p hp => h p.1 hp p.2)
theorem tst_oth (a k l : Nat) (ha : a < 16) (hk : k < 4) (hl : l < 4) : tst (nI a &&& (bitI k ^^^ -1)) l = (tst (nI a) l && !decide (l = k)) ∧ tst (nI a &&& (bitI k ^^^ -1) ||| bitI k) l = (tst (nI a) l || decide (l = k)) :=
  (by decide +kernel : ∀ (a : Fin 16) (k l : Fin 4), tst (nI a.1 &&& (bitI k.1 ^^^ -1)) l.1 = (tst (nI a.1) l.1 && !decide (l.1 = k.1)) ∧ tst (nI a.1 &&& (bitI k.1 ^^^ -1) ||| bitI k.1) l.1 = (tst (nI a.1) l.1 || decide (l.1 = k.1))) ⟨a, ha⟩ ⟨k, hk⟩ ⟨l, hl⟩
theorem bits_lo (b : Nat → Bool) : ∀ n, n ≤ 4 → ∃ a, a < 16 ∧ bits b n = nI a
  | 0, _ => ⟨0, by decide, rfl⟩
  | n + 1, hn => by
    obtain ⟨a, ha, e⟩ := bits_lo b n (by omega)
    rw [bits, e]
    split
    · obtain ⟨i, ei⟩ := or16 ⟨a, ha⟩ ⟨n, by omega⟩
      exact ⟨i.1, i.2, ei⟩
    · exact ⟨a, ha, (by decide +kernel : ∀ a : Fin 16, nI a.1 ||| nI 0 = nI a.1) ⟨a, ha⟩⟩
theorem pdg_tst {T : Nat} (h0 : 0 < T) : ∀ k (f : Nat → Int32) left, k ≤ 4 → lo16 f T → ∀ t, t < T → ∀ p, p < 4 → tst (pdg T k f left t) p = (tst (f t) p || decide (p < k ∧ left / T ^ (k - 1 - p) % T = t)) := by
  intro k
  induction k with
  | zero =>
    intro f left _ _ t _ p _
    rw [decide_eq_false (fun q => absurd q.1 (Nat.not_lt_zero _)), Bool.or_false]
    rfl
  | succ k ih =>
    intro f left hk hf t ht p hp
    have hs := Nat.mod_lt left h0
    rw [show pdg T (k + 1) f left = pdg T k (upd f (left % T) (f (left % T) ||| bitI k)) (left / T) from rfl, ih _ _ (by omega) (lo16_or hf hs (by omega)) t ht p hp]
    have eq1 : tst (upd f (left % T) (f (left % T) ||| bitI k) t) p = (tst (f t) p || decide (p = k ∧ left % T = t)) := by
      by_cases q : t = left % T
      · subst q
        obtain ⟨j, hj, ej⟩ := hf _ hs
        rw [upd_eq, ej, tst_or j k p hj (by omega) hp]
        congr 1
        by_cases r : p = k
        · rw [decide_eq_true r, decide_eq_true ⟨r, rfl⟩]
        · rw [decide_eq_false r, decide_eq_false (fun z => r z.1)]
      · rw [upd_ne _ _ q, decide_eq_false (fun z => q z.2.symm), Bool.or_false]
    rw [eq1, Bool.or_assoc]
    congr 1
    by_cases r : p = k
    · subst r
      rw [decide_eq_false (show ¬ (p < p ∧ left / T / T ^ (p - 1 - p) % T = t) from fun z => absurd z.1 (Nat.lt_irrefl _)), Bool.or_false, show p + 1 - 1 - p = 0 by omega, Nat.pow_zero, Nat.div_one]
      by_cases z : left % T = t
      · rw [decide_eq_true ⟨rfl, z⟩, decide_eq_true ⟨by omega, z⟩]
      · rw [decide_eq_false (fun y => z y.2), decide_eq_false (fun y => z y.2)]
    · rw [decide_eq_false (fun z => r z.1), Bool.false_or]
      by_cases pk : p < k
      · rw [digE _ _ _ _ pk, show k + 1 - 1 - p = k - p by omega]
        by_cases z : left / T ^ (k - p) % T = t
        · rw [decide_eq_true ⟨pk, z⟩, decide_eq_true ⟨by omega, z⟩]
        · rw [decide_eq_false (fun y => z y.2), decide_eq_false (fun y => z y.2)]
      · rw [decide_eq_false (fun z => pk z.1), decide_eq_false (fun z => absurd z.1 (by omega))]
theorem lo0 (T : Nat) : lo16 (fun _ => nI 0) T := fun t ht => ⟨0, by decide, rfl⟩
/-- the places of a tree in a way: a number below 2 ^ P, and its bits -/
theorem plc {T P w t : Nat} (h0 : 0 < T) (hP : P ≤ 4) (ht : t < T) : ∃ j, j < 2 ^ P ∧ j < 16 ∧ pdg T P (fun _ => nI 0) w t = nI j ∧ ∀ p, p < 4 → tst (nI j) p = decide (p < P ∧ w / T ^ (P - 1 - p) % T = t) := by
  obtain ⟨j, hj, ej⟩ := pdg_lo h0 P _ w hP (lo0 T) t ht
  have tt : ∀ p, p < 4 → tst (nI j) p = decide (p < P ∧ w / T ^ (P - 1 - p) % T = t) := fun p hp => by
    rw [← ej, pdg_tst h0 P _ w hP (lo0 T) t ht p hp, tst_0 p (by omega), Bool.false_or]
  exact ⟨j, tst_lt j P hj hP (fun p h1 h2 => by rw [tt p h2]; exact decide_eq_false (fun q => absurd q.1 (by omega))), hj, ej, tt⟩
theorem wsum_I (wo pl : Nat → Int32) : ∀ T, wsum wo pl T = sumI (fun t => wo (16 * t + (pl t).toNatClampNeg)) T
  | 0 => rfl
  | T + 1 => by rw [wsum, sumI, wsum_I wo pl T]
theorem bm_cong {f g : Nat → Int32} : ∀ n, (∀ w, w < n → f w = g w) → bm f n = bm g n
  | 0, _ => rfl
  | n + 1, h => by rw [bm, bm, bm_cong n (fun w hw => h w (by omega)), h n (by omega)]
/-- rows with other leans -/
theorem RO.lean {O : Oc} {nw g : Nat → Int32} (h : RO O nw) (hg : ∀ j, (∀ l, l < O.nL → j ≠ 30 + 4 * l) → g j = nw j) : RO O g := by
  obtain ⟨h1, h2, hT, hL, h5, h6, h7, h8, h9, h10⟩ := h
  have e : ∀ j, j < 30 → g j = nw j := fun j hj => hg j (fun l hl => by omega)
  refine ⟨by rw [e 0 (by omega)]; exact h1, by rw [e 1 (by omega)]; exact h2, hT, hL, by rw [e 6 (by omega)]; exact h5, by rw [e 7 (by omega)]; exact h6, by rw [e 6 (by omega)]; exact h7, by rw [e 7 (by omega)]; exact h8, fun t ht => ?_, fun l hl => ?_⟩
  · rw [e (9 + 3 * t) (by omega), e (11 + 3 * t) (by omega)]
    exact h9 t ht
  · rw [hg (27 + 4 * l) (fun l hl => by omega), hg (28 + 4 * l) (fun l hl => by omega), hg (27 + 4 * l + 2) (fun l hl => by omega)]
    exact h10 l hl
theorem RM.lean {nT nL : Nat} {M : Mo} {nw g ln : Nat → Int32} (hT : nT ≤ 6) (h : RM nT nL M nw) (hg : ∀ j, (∀ l, l < nL → j ≠ 30 + 4 * l) → g j = nw j) (hl : ∀ l, l < nL → ln l = g (30 + 4 * l) ∧ (g (30 + 4 * l) = -4 ∨ ∃ t, t < nT ∧ g (30 + 4 * l) = nI t)) (hz : ∀ l, nL ≤ l → l < 4 → ln l = -4) : RM nT nL (Mo.mk M.fr ln M.got M.paid M.lost M.day M.draw) g := by
  obtain ⟨h1, h2, h3, h4, h5, h6, h7, h8⟩ := h
  have e : ∀ j, j < 30 → g j = nw j := fun j hj => hg j (fun l hl => by omega)
  refine ⟨by rw [e 2 (by omega)]; exact h1, by rw [e 3 (by omega)]; exact h2, by rw [e 4 (by omega)]; exact h3, by rw [e 5 (by omega)]; exact h4, by rw [e 8 (by omega)]; exact h5, fun t ht => ?_, hl, hz⟩
  rw [e _ (by omega)]
  exact h6 t ht
