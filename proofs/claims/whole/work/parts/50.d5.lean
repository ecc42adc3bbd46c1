/-! what is foretold: class and reference -/
theorem tree_law {O : Oc} {M : Mo} {nw : Nat → Int32} (h : RO O nw) (h2 : RM O.nT O.nL M nw) (n : Nat) : (∀ t, t < O.nT → gbN nw O.nT O.nL n (9 + 3 * t + 1) = (gS O (M.fr t) M.day t (fun _ => atL M.ln t) O.ba n).1) ∧ gbN nw O.nT O.nL n 3 - nw 3 = sumI (fun t => (gS O (M.fr t) M.day t (fun _ => atL M.ln t) O.ba n).2) O.nT := by
  obtain ⟨-, r2⟩ := days_rel h h2 n
  obtain ⟨-, o2, o3⟩ := run_o O (fun _ => M.ln) M n
  rw [passN_run] at o2 o3
  refine ⟨fun t ht => ?_, ?_⟩
  · rw [← (r2.2.2.2.2.2.1 t ht).1]
    exact o2 t ht
  · rw [← r2.2.1, o3, h2.2.1]
    exact addsub _ _
theorem RO.nums {O : Oc} {nw : Nat → Int32} (h : RO O nw) : ∃ b w, b ≤ 30 ∧ O.ba = nI b ∧ w ≤ 9 ∧ O.wa = nI w := by
  obtain ⟨b, -, hb, eb⟩ := h.2.2.2.2.2.2.1
  obtain ⟨w, hw, ew⟩ := h.2.2.2.2.2.2.2.1
  exact ⟨b, w, hb, h.2.2.2.2.1.trans eb, hw, h.2.2.2.2.2.1.trans ew⟩
theorem RM.fn {nT nL : Nat} {M : Mo} {nw : Nat → Int32} (h2 : RM nT nL M nw) {t : Nat} (ht : t < nT) : ∃ a, M.fr t = nI a ∧ a ≤ 99 := by
  obtain ⟨e, a, ha, ea⟩ := h2.2.2.2.2.2.1 t ht
  exact ⟨a, e.trans ea, ha⟩
theorem gw_at {O : Oc} {M : Mo} {nw : Nat → Int32} {t n b : Nat} {s : Int32} (h : RO O nw) (h2 : RM O.nT O.nL M nw) (ht : t < O.nT) (hb : b ≤ 30) (hn : n ≤ 60) : gwF O M t s (nI 0) (nI 0) n (nI b) = (gS O (M.fr t) M.day t (fun _ => s) (nI b) n).2 := by
  obtain ⟨-, w, -, -, hw, ew⟩ := h.nums
  obtain ⟨a, ea, ha⟩ := h2.fn ht
  rw [gwF_eq h.2.2.2.1 ⟨ea, ha⟩ hb ⟨ew, hw⟩]
  congr 1
  refine gS_cong n (fun k hk l hl => ?_)
  rw [tst_0 k (by omega), if_neg Bool.false_ne_true]
/-- PLAN: what a way is worth -/
theorem plan_own {O : Oc} {M : Mo} {nw wo : Nat → Int32} {n w : Nat} (h : RO O nw) (h2 : RM O.nT O.nL M nw) (h0 : 0 < O.nT) (hn : n ≤ 14) (tb : ∀ t j, t < O.nT → j < 2 ^ O.nL → wo (16 * t + j) = gwF O M t (nI j) (nI 0) (nI 0) n O.ba) : plOwn nw O.nT O.nL n w = wOwn wo O.nT O.nL w := by
  obtain ⟨d1, d2⟩ := dig_row (nT := O.nT) O.nL nw w
  have hT := h.2.2.1
  have hL := h.2.2.2.1
  obtain ⟨b, wv, hb, eb, -, -⟩ := h.nums
  have A := h.lean d2
  have B := h2.lean (ln := fun l => if l < O.nL then dig O.nT O.nL nw w (30 + 4 * l) else -4) hT d2 (fun l hl => ⟨if_pos hl, Or.inr ⟨_, Nat.mod_lt _ h0, d1 l hl⟩⟩) (fun l h1 _ => if_neg (by omega))
  obtain ⟨-, L⟩ := tree_law A B n
  rw [plOwn, ← d2 3 (fun l hl => by omega), L, wOwn, wsum_I]
  refine sumI_cong _ (fun t ht => ?_)
  obtain ⟨j, j1, j2, ej, tj⟩ := plc (w := w) h0 hL ht
  rw [ej, nI_clamp (by omega), tb t j ht j1, eb, gw_at h h2 ht hb (by omega)]
  show (gS O (M.fr t) M.day t _ (nI b) n).2 = _
  congr 1
  refine gS_cong n (fun k hk l hl => ?_)
  rw [atL_tst (by omega), tj l (by omega)]
  show decide ((if l < O.nL then dig O.nT O.nL nw w (30 + 4 * l) else -4) = nI t) = _
  have hm := Nat.mod_lt (w / O.nT ^ (O.nL - 1 - l)) h0
  rw [if_pos hl, d1 l hl]
  by_cases q : w / O.nT ^ (O.nL - 1 - l) % O.nT = t
  · rw [decide_eq_true (by rw [q]), decide_eq_true ⟨hl, q⟩]
  · rw [decide_eq_false (fun z => q ((nI_eq (by omega) (by omega)).mp z)), decide_eq_false (fun z => q z.2)]
/-- LARGER: what is got with another basket -/
theorem gS_ba {O : Oc} {fr day size x : Int32} {t : Nat} {S : Nat → Int32} : ∀ n, gS (Oc.mk O.nT O.nL x O.wa O.hi O.ri O.ki O.le O.pr) fr day t S size n = gS O fr day t S size n
  | 0 => rfl
  | n + 1 => by
    rw [gS, gS, gS_ba n]
    rfl
theorem RO.bas {O : Oc} {nw : Nat → Int32} (h : RO O nw) {b : Nat} (hb : 1 ≤ b ∧ b ≤ 30) : RO (Oc.mk O.nT O.nL (nI b) O.wa O.hi O.ri O.ki O.le O.pr) (upd nw 6 (nI b)) := by
  obtain ⟨h1, h2, hT, hL, h5, h6, h7, h8, h9, h10⟩ := h
  refine ⟨by rw [upd_ne _ _ (by omega)]; exact h1, by rw [upd_ne _ _ (by omega)]; exact h2, hT, hL, (upd_eq _ _ _).symm, by rw [upd_ne _ _ (by omega)]; exact h6, ⟨b, hb.1, hb.2, upd_eq _ _ _⟩, by rw [upd_ne _ _ (by omega)]; exact h8, fun t ht => ?_, fun l hl => ?_⟩
  · rw [upd_ne _ _ (by omega), upd_ne _ _ (by omega)]
    exact h9 t ht
  · rw [upd_ne _ _ (by omega), upd_ne _ _ (by omega), upd_ne _ _ (by omega)]
    exact h10 l hl
theorem RO.was {O : Oc} {nw : Nat → Int32} (h : RO O nw) {w : Nat} (hw : w ≤ 9) : RO (Oc.mk O.nT O.nL O.ba (nI w) O.hi O.ri O.ki O.le O.pr) (upd nw 7 (nI w)) := by
  obtain ⟨h1, h2, hT, hL, h5, h6, h7, h8, h9, h10⟩ := h
  refine ⟨by rw [upd_ne _ _ (by omega)]; exact h1, by rw [upd_ne _ _ (by omega)]; exact h2, hT, hL, by rw [upd_ne _ _ (by omega)]; exact h5, (upd_eq _ _ _).symm, by rw [upd_ne _ _ (by omega)]; exact h7, ⟨w, hw, upd_eq _ _ _⟩, fun t ht => ?_, fun l hl => ?_⟩
  · rw [upd_ne _ _ (by omega), upd_ne _ _ (by omega)]
    exact h9 t ht
  · rw [upd_ne _ _ (by omega), upd_ne _ _ (by omega), upd_ne _ _ (by omega)]
    exact h10 l hl
theorem RM.rule {nT nL : Nat} {M : Mo} {nw : Nat → Int32} (h : RM nT nL M nw) {k : Nat} (x : Int32) (hk : k = 6 ∨ k = 7) : RM nT nL M (upd nw k x) := by
  obtain ⟨h1, h2, h3, h4, h5, h6, h7, h8⟩ := h
  refine ⟨by rw [upd_ne _ _ (by omega)]; exact h1, by rw [upd_ne _ _ (by omega)]; exact h2, by rw [upd_ne _ _ (by omega)]; exact h3, by rw [upd_ne _ _ (by omega)]; exact h4, by rw [upd_ne _ _ (by omega)]; exact h5, fun t ht => ?_, fun l hl => ?_, h8⟩
  · rw [upd_ne _ _ (by omega)]
    exact h6 t ht
  · rw [upd_ne _ _ (by omega)]
    exact h7 l hl
theorem larger_own {O : Oc} {M : Mo} {nw : Nat → Int32} {n b : Nat} (h : RO O nw) (h2 : RM O.nT O.nL M nw) (hn : n ≤ 60) (hb : 1 ≤ b ∧ b ≤ 30) : lgT nw O.nT O.nL n b = sumI (fun t => gwF O M t (atM M t) (nI 0) (nI 0) n (nI b)) O.nT := by
  obtain ⟨-, L⟩ := tree_law (h.bas hb) (h2.rule (nI b) (Or.inl rfl)) n
  rw [lgT, ← upd_ne nw (k := 6) (nI b) (show 3 ≠ 6 by omega)]
  refine L.trans (sumI_cong _ (fun t ht => ?_))
  rw [gw_at h h2 ht hb.2 hn, gS_ba]
  rfl
/-- ROUND: what a way is worth -/
theorem rd_rows {nT n j : Nat} (h0 : 0 < nT) (hj : j < n) : nT ^ n / nT ^ (j + 1) = nT ^ (n - 1 - j) := by
  rw [Nat.pow_div (by omega) h0, show n - (j + 1) = n - 1 - j by omega]
theorem round_run {O : Oc} {M : Mo} {nw : Nat → Int32} {lad n w : Nat} (h : RO O nw) (h2 : RM O.nT O.nL M nw) (h0 : 0 < O.nT) (hl : lad < O.nL) : ∀ j, j ≤ n →
    RO O (rdN nw O.nT O.nL lad w n j) ∧ RM O.nT O.nL (runM O (fun k => upd M.ln lad (nI (w / O.nT ^ (n - 1 - k) % O.nT))) M j) (rdN nw O.nT O.nL lad w n j) ∧ ∀ l, l ≠ lad → (runM O (fun k => upd M.ln lad (nI (w / O.nT ^ (n - 1 - k) % O.nT))) M j).ln l = M.ln l := by
  intro j
  induction j with
  | zero => exact fun _ => ⟨h, h2, fun _ _ => rfl⟩
  | succ j ih =>
    intro hj
    obtain ⟨i1, i2, i3⟩ := ih (by omega)
    have hT := h.2.2.1
    have hL := h.2.2.2.1
    rw [show rdN nw O.nT O.nL lad w n (j + 1) = gb (upd (rdN nw O.nT O.nL lad w n j) (27 + 4 * lad + 3) (nI (w / (O.nT ^ n / O.nT ^ (j + 1)) % O.nT))) O.nT O.nL (nI 0) from rfl, rd_rows h0 (show j < n by omega)]
    rw [show runM O (fun k => upd M.ln lad (nI (w / O.nT ^ (n - 1 - k) % O.nT))) M (j + 1) = passM O (Mo.mk (runM O (fun k => upd M.ln lad (nI (w / O.nT ^ (n - 1 - k) % O.nT))) M j).fr (upd M.ln lad (nI (w / O.nT ^ (n - 1 - j) % O.nT))) (runM O (fun k => upd M.ln lad (nI (w / O.nT ^ (n - 1 - k) % O.nT))) M j).got (runM O (fun k => upd M.ln lad (nI (w / O.nT ^ (n - 1 - k) % O.nT))) M j).paid (runM O (fun k => upd M.ln lad (nI (w / O.nT ^ (n - 1 - k) % O.nT))) M j).lost (runM O (fun k => upd M.ln lad (nI (w / O.nT ^ (n - 1 - k) % O.nT))) M j).day (runM O (fun k => upd M.ln lad (nI (w / O.nT ^ (n - 1 - k) % O.nT))) M j).draw) from rfl]
    generalize rdN nw O.nT O.nL lad w n j = f at i1 i2
    generalize runM O (fun k => upd M.ln lad (nI (w / O.nT ^ (n - 1 - k) % O.nT))) M j = N at i2 i3
    have hm := Nat.mod_lt (w / O.nT ^ (n - 1 - j)) h0
    generalize w / O.nT ^ (n - 1 - j) % O.nT = x at hm
    have d2 : ∀ i, (∀ l, l < O.nL → i ≠ 30 + 4 * l) → upd f (27 + 4 * lad + 3) (nI x) i = f i := fun i hi => upd_ne _ _ (by have := hi lad hl; omega)
    have A := i1.lean d2
    have B := i2.lean (ln := upd M.ln lad (nI x)) hT d2 (fun l hl => by
      by_cases q : l = lad
      · subst q
        rw [upd_eq, show 27 + 4 * l + 3 = 30 + 4 * l by omega, upd_eq]
        exact ⟨rfl, Or.inr ⟨x, hm, rfl⟩⟩
      · rw [upd_ne _ _ q, upd_ne _ _ (by omega), ← i3 l q]
        exact i2.2.2.2.2.2.2.1 l hl) (fun l h1 h3 => by
      rw [upd_ne _ _ (by omega), ← i3 l (by omega)]
      exact i2.2.2.2.2.2.2.2 l h1 h3)
    obtain ⟨r1, r2⟩ := day_rel A B
    refine ⟨r1, r2, fun l hl => ?_⟩
    rw [(passM_o O _).1]
    exact upd_ne _ _ hl
theorem round_own {O : Oc} {M : Mo} {nw wo : Nat → Int32} {lad n w : Nat} (h : RO O nw) (h2 : RM O.nT O.nL M nw) (h0 : 0 < O.nT) (hl : lad < O.nL) (hn : n ≤ 4) (tb : ∀ t j, t < O.nT → j < 2 ^ n → wo (16 * t + j) = gwF O M t (atM M t &&& (bitI lad ^^^ -1)) (bitI lad) (nI j) n O.ba) : rdOwn nw O.nT O.nL lad n w = wOwn wo O.nT n w := by
  have hT := h.2.2.1
  have hL := h.2.2.2.1
  obtain ⟨b, wv, hb, eb, hw, ew⟩ := h.nums
  obtain ⟨-, r2, -⟩ := round_run (w := w) h h2 h0 hl n (Nat.le_refl _)
  obtain ⟨-, -, o3⟩ := run_o O (fun k => upd M.ln lad (nI (w / O.nT ^ (n - 1 - k) % O.nT))) M n
  rw [rdOwn, ← r2.2.1, o3, h2.2.1, addsub, wOwn, wsum_I]
  refine sumI_cong _ (fun t ht => ?_)
  obtain ⟨j, j1, j2, ej, tj⟩ := plc (w := w) h0 hn ht
  obtain ⟨a, ea, ha⟩ := h2.fn ht
  rw [ej, nI_clamp (by omega), tb t j ht j1, eb, gwF_eq hL ⟨ea, ha⟩ hb ⟨ew, hw⟩]
  congr 1
  refine gS_cong n (fun k hk l hlL => ?_)
  obtain ⟨c, hc, ec⟩ := bits_lo (fun l => decide (M.ln l = nI t)) 4 (Nat.le_refl _)
  have ec : atM M t = nI c := ec
  have tc : tst (nI c) l = decide (M.ln l = nI t) := by rw [← ec]; exact at_tst (by omega)
  obtain ⟨t1, t2⟩ := tst_oth c lad l hc (by omega) (by omega)
  have hm := Nat.mod_lt (w / O.nT ^ (n - 1 - k)) h0
  rw [atL_tst (by omega), tj k (by omega), ec]
  by_cases q : w / O.nT ^ (n - 1 - k) % O.nT = t
  · rw [decide_eq_true (show k < n ∧ w / O.nT ^ (n - 1 - k) % O.nT = t from ⟨hk, q⟩), if_pos rfl, t2, tc]
    by_cases r : l = lad
    · subst r
      rw [upd_eq, q, decide_eq_true (show l = l from rfl), Bool.or_true, decide_eq_true rfl]
    · rw [upd_ne _ _ r, decide_eq_false r, Bool.or_false]
  · rw [decide_eq_false (show ¬ (k < n ∧ w / O.nT ^ (n - 1 - k) % O.nT = t) from fun z => q z.2), if_neg Bool.false_ne_true, t1, tc]
    by_cases r : l = lad
    · subst r
      rw [upd_eq, decide_eq_true (show l = l from rfl), Bool.not_true, Bool.and_false, decide_eq_false (fun z => q ((nI_eq (by omega) (by omega)).mp z))]
    · rw [upd_ne _ _ r, decide_eq_false r, Bool.not_false, Bool.and_true]
/-- LEFT: the rows with one ladder at a tree, or none -/
theorem lfL_row {nw : Nat → Int32} {t l : Nat} : ∀ k, (∀ j, j < k → lfL nw t l k (30 + 4 * j) = (if j = l then nI t else if nw (30 + 4 * j) = nI t then -4 else nw (30 + 4 * j))) ∧ (∀ i, (∀ j, j < k → i ≠ 30 + 4 * j) → lfL nw t l k i = nw i) := by
  intro k
  induction k with
  | zero => exact ⟨fun j hj => absurd hj (Nat.not_lt_zero _), fun i _ => rfl⟩
  | succ k ih =>
    obtain ⟨i1, i2⟩ := ih
    rw [show lfL nw t l (k + 1) = upd (lfL nw t l k) (27 + 4 * k + 3) (if k = l then nI t else if lfL nw t l k (30 + 4 * k) = nI t then -4 else lfL nw t l k (30 + 4 * k)) from rfl, i2 (30 + 4 * k) (fun j hj => by omega)]
    refine ⟨fun j hj => ?_, fun i hi => ?_⟩
    · by_cases q : j = k
      · subst q
        rw [show 27 + 4 * j + 3 = 30 + 4 * j by omega, upd_eq]
      · rw [upd_ne _ _ (by omega)]
        exact i1 j (by omega)
    · rw [upd_ne _ _ (by have := hi k (by omega); omega)]
      exact i2 i (fun j hj => hi j (by omega))
def lvB (O : Oc) (M : Mo) (t : Nat) (s : Int32) (it : Nat → Int64) (a : Nat) : Nat → Bool
  | 0 => true
  | k + 1 => lvB O M t s it a k && decide ((gS O (M.fr t) M.day t (fun _ => s) O.ba (k + 1)).1.toInt64 = it (a + k))
def lfS (nL l : Nat) : Int32 := if l < nL then bitI l else nI 0
theorem left_own {O : Oc} {M : Mo} {nw : Nat → Int32} {t l a : Nat} {it : Nat → Int64} (h : RO O nw) (h2 : RM O.nT O.nL M nw) (ht : t < O.nT) : ∀ n, isF (lfL nw t l O.nL) O.nT O.nL t it a n = lvB O M t (lfS O.nL l) it a n := by
  obtain ⟨d1, d2⟩ := lfL_row (nw := nw) (t := t) (l := l) O.nL
  have hT := h.2.2.1
  have hL := h.2.2.2.1
  have A := h.lean d2
  have B := h2.lean (ln := fun j => if j < O.nL then lfL nw t l O.nL (30 + 4 * j) else -4) hT d2 (fun j hj => ⟨if_pos hj, by
    rw [d1 j hj]
    split
    · exact Or.inr ⟨t, ht, rfl⟩
    · split
      · exact Or.inl rfl
      · exact (h2.2.2.2.2.2.2.1 j hj).2⟩) (fun j h1 _ => if_neg (by omega))
  have key : ∀ n, gbN (lfL nw t l O.nL) O.nT O.nL n (9 + 3 * t + 1) = (gS O (M.fr t) M.day t (fun _ => lfS O.nL l) O.ba n).1 := fun n => by
    rw [(tree_law A B n).1 t ht]
    show (gS O (M.fr t) M.day t _ O.ba n).1 = _
    congr 1
    refine gS_cong n (fun k hk j hj => ?_)
    rw [atL_tst (by omega)]
    show decide ((if j < O.nL then lfL nw t l O.nL (30 + 4 * j) else -4) = nI t) = _
    rw [if_pos hj, d1 j hj, lfS]
    by_cases q : j = l
    · rw [if_pos q, if_pos (by omega), tst_bit l j (by omega) (by omega), decide_eq_true rfl, decide_eq_true q]
    · have e1 : decide ((if nw (30 + 4 * j) = nI t then -4 else nw (30 + 4 * j)) = nI t) = false := by
        refine decide_eq_false (fun z => ?_)
        by_cases r : nw (30 + 4 * j) = nI t
        · rw [if_pos r] at z
          exact nI_n4 (show t < 2 ^ 31 by omega) z.symm
        · rw [if_neg r] at z
          exact r z
      rw [if_neg q, e1]
      by_cases r : l < O.nL
      · rw [if_pos r, tst_bit l j (by omega) (by omega), decide_eq_false q]
      · rw [if_neg r, tst_0 j (by omega)]
  intro n
  induction n with
  | zero => rfl
  | succ n ih => rw [isF, lvB, ih, key]
