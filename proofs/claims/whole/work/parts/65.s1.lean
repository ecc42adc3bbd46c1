/-! the relation: what a call does to both -/
theorem RM.cg {nT nL : Nat} {M : Mo} {f g : Nat → Int32} (h : RM nT nL M f) (e : ∀ j, 2 ≤ j → j ≠ 6 → j ≠ 7 → (j < 9 ∨ (∃ t, t < nT ∧ j = 9 + 3 * t + 1) ∨ ∃ l, l < nL ∧ j = 30 + 4 * l) → g j = f j) : RM nT nL M g := by
  obtain ⟨h1, h2, h3, h4, h5, h6, h7, h8⟩ := h
  refine ⟨by rw [e 2 (by omega) (by omega) (by omega) (by omega)]; exact h1, by rw [e 3 (by omega) (by omega) (by omega) (by omega)]; exact h2, by rw [e 4 (by omega) (by omega) (by omega) (by omega)]; exact h3, by rw [e 5 (by omega) (by omega) (by omega) (by omega)]; exact h4, by rw [e 8 (by omega) (by omega) (by omega) (by omega)]; exact h5, fun t ht => ?_, fun l hl => ?_, h8⟩
  · rw [e (9 + 3 * t + 1) (by omega) (by omega) (by omega) (Or.inr (Or.inl ⟨t, ht, rfl⟩))]
    exact h6 t ht
  · rw [e (30 + 4 * l) (by omega) (by omega) (by omega) (Or.inr (Or.inr ⟨l, hl, rfl⟩))]
    exact h7 l hl
theorem RO.cg {O : Oc} {f g : Nat → Int32} (h : RO O f) (e : ∀ j, (j < 2 ∨ j = 6 ∨ j = 7 ∨ (∃ t, t < O.nT ∧ (j = 9 + 3 * t ∨ j = 11 + 3 * t)) ∨ ∃ l, l < O.nL ∧ (j = 27 + 4 * l ∨ j = 28 + 4 * l ∨ j = 27 + 4 * l + 2)) → g j = f j) : RO O g := by
  obtain ⟨h1, h2, hT, hL, h5, h6, h7, h8, h9, h10⟩ := h
  refine ⟨by rw [e 0 (by omega)]; exact h1, by rw [e 1 (by omega)]; exact h2, hT, hL, by rw [e 6 (by omega)]; exact h5, by rw [e 7 (by omega)]; exact h6, by rw [e 6 (by omega)]; exact h7, by rw [e 7 (by omega)]; exact h8, fun t ht => ?_, fun l hl => ?_⟩
  · rw [e (9 + 3 * t) (Or.inr (Or.inr (Or.inr (Or.inl ⟨t, ht, Or.inl rfl⟩)))), e (11 + 3 * t) (Or.inr (Or.inr (Or.inr (Or.inl ⟨t, ht, Or.inr rfl⟩))))]
    exact h9 t ht
  · rw [e (27 + 4 * l) (Or.inr (Or.inr (Or.inr (Or.inr ⟨l, hl, Or.inl rfl⟩)))), e (28 + 4 * l) (Or.inr (Or.inr (Or.inr (Or.inr ⟨l, hl, Or.inr (Or.inl rfl)⟩)))), e (27 + 4 * l + 2) (Or.inr (Or.inr (Or.inr (Or.inr ⟨l, hl, Or.inr (Or.inr rfl)⟩))))]
    exact h10 l hl
theorem tcF_o {nw : Nat → Int32} {n j : Nat} {a b c : Int32} (h : j ≠ 0) (h2 : j < 9 + 3 * n ∨ 9 + 3 * n + 2 < j) : tcF nw n a b c j = nw j := by
  rw [tcF, upd_ne _ _ h, upd_ne _ _ (by omega), upd_ne _ _ (by omega), upd_ne _ _ (by omega)]
theorem tcF_r (nw : Nat → Int32) (n : Nat) (a b c : Int32) : tcF nw n a b c 0 = nI (n + 1) ∧ tcF nw n a b c (9 + 3 * n) = a ∧ tcF nw n a b c (9 + 3 * n + 1) = b ∧ tcF nw n a b c (11 + 3 * n) = c := by
  refine ⟨upd_eq _ _ _, ?_, ?_, ?_⟩
  · rw [tcF, upd_ne _ _ (by omega), upd_ne _ _ (by omega), upd_ne _ _ (by omega), upd_eq]
  · rw [tcF, upd_ne _ _ (by omega), upd_ne _ _ (by omega), upd_eq]
  · rw [tcF, upd_ne _ _ (by omega), show 11 + 3 * n = 9 + 3 * n + 2 by omega, upd_eq]
theorem lcF_o {nw : Nat → Int32} {n j : Nat} {a b c e : Int32} (h : j ≠ 1) (h2 : j < 27 + 4 * n ∨ 27 + 4 * n + 3 < j) : lcF nw n a b c e j = nw j := by
  rw [lcF, upd_ne _ _ h, upd_ne _ _ (by omega), upd_ne _ _ (by omega), upd_ne _ _ (by omega), upd_ne _ _ (by omega)]
theorem lcF_r (nw : Nat → Int32) (n : Nat) (a b c e : Int32) : lcF nw n a b c e 1 = nI (n + 1) ∧ lcF nw n a b c e (27 + 4 * n) = a ∧ lcF nw n a b c e (28 + 4 * n) = b ∧ lcF nw n a b c e (27 + 4 * n + 2) = c ∧ lcF nw n a b c e (30 + 4 * n) = e := by
  refine ⟨upd_eq _ _ _, ?_, ?_, ?_, ?_⟩
  · rw [lcF, upd_ne _ _ (by omega), upd_ne _ _ (by omega), upd_ne _ _ (by omega), upd_ne _ _ (by omega), upd_eq]
  · rw [lcF, upd_ne _ _ (by omega), upd_ne _ _ (by omega), upd_ne _ _ (by omega), show 28 + 4 * n = 27 + 4 * n + 1 by omega, upd_eq]
  · rw [lcF, upd_ne _ _ (by omega), upd_ne _ _ (by omega), upd_eq]
  · rw [lcF, upd_ne _ _ (by omega), show 30 + 4 * n = 27 + 4 * n + 3 by omega, upd_eq]
theorem tree_rel {O : Oc} {M : Mo} {nw : Nat → Int32} {a b c : Int32} (h : RO O nw) (h2 : RM O.nT O.nL M nw) (hT : O.nT < 6) (hb : treeOk a b c = true) : RO (plO O a c) (tcF nw O.nT a b c) ∧ RM (plO O a c).nT (plO O a c).nL (plM O M b) (tcF nw O.nT a b c) := by
  obtain ⟨b1, b2, b3⟩ := treeOk_3 hb
  obtain ⟨r0, r1, r2, r3⟩ := tcF_r nw O.nT a b c
  constructor
  · obtain ⟨g1, g2, gT, gL, g5, g6, g7, g8, g9, g10⟩ := h
    refine ⟨r0, by rw [tcF_o (by omega) (by omega)]; exact g2, hT, gL, by rw [tcF_o (by omega) (by omega)]; exact g5, by rw [tcF_o (by omega) (by omega)]; exact g6, by rw [tcF_o (by omega) (by omega)]; exact g7, by rw [tcF_o (by omega) (by omega)]; exact g8, fun t ht => ?_, fun l hl => ?_⟩
    · show upd O.hi O.nT a t = _ ∧ upd O.ri O.nT c t = _
      have ht : t < O.nT + 1 := ht
      by_cases q : t = O.nT
      · subst q
        rw [upd_eq, upd_eq, r1, r3]
        exact ⟨rfl, rfl⟩
      · rw [upd_ne _ _ q, upd_ne _ _ q, tcF_o (by omega) (by omega), tcF_o (by omega) (by omega)]
        exact g9 t (by omega)
    · rw [tcF_o (by omega) (by omega), tcF_o (by omega) (by omega), tcF_o (by omega) (by omega)]
      exact g10 l hl
  · obtain ⟨g1, g2, g3, g4, g5, g6, g7, g8⟩ := h2
    refine ⟨by rw [tcF_o (by omega) (by omega)]; exact g1, by rw [tcF_o (by omega) (by omega)]; exact g2, by rw [tcF_o (by omega) (by omega)]; exact g3, by rw [tcF_o (by omega) (by omega)]; exact g4, by rw [tcF_o (by omega) (by omega)]; exact g5, fun t ht => ?_, fun l hl => ?_, g8⟩
    · show upd M.fr O.nT b t = _ ∧ _
      have ht : t < O.nT + 1 := ht
      by_cases q : t = O.nT
      · subst q
        rw [upd_eq, r2]
        obtain ⟨x, -, hx, ex⟩ := inI_nat (by decide) (by decide) b2
        exact ⟨rfl, x, hx, ex⟩
      · rw [upd_ne _ _ q, tcF_o (by omega) (by omega)]
        exact g6 t (by omega)
    · rw [tcF_o (by omega) (by omega)]
      obtain ⟨e1, e2⟩ := g7 l hl
      refine ⟨e1, e2.imp id (fun z => ?_)⟩
      obtain ⟨t, ht, e⟩ := z
      exact ⟨t, Nat.lt_succ_of_lt ht, e⟩
theorem lad_rel {O : Oc} {M : Mo} {nw : Nat → Int32} {a b c : Int32} (h : RO O nw) (h2 : RM O.nT O.nL M nw) (hL : O.nL < 4) (hb : ladOk a b c = true) : RO (brO O a b c) (lcF nw O.nL a b c (-4)) ∧ RM (brO O a b c).nT (brO O a b c).nL (brM O M) (lcF nw O.nL a b c (-4)) := by
  obtain ⟨b1, b2, b3⟩ := ladOk_3 hb
  obtain ⟨r0, r1, r2, r3, r4⟩ := lcF_r nw O.nL a b c (-4)
  have hT := h.2.2.1
  constructor
  · obtain ⟨g1, g2, gT, gL, g5, g6, g7, g8, g9, g10⟩ := h
    refine ⟨by rw [lcF_o (by omega) (by omega)]; exact g1, r0, gT, hL, by rw [lcF_o (by omega) (by omega)]; exact g5, by rw [lcF_o (by omega) (by omega)]; exact g6, by rw [lcF_o (by omega) (by omega)]; exact g7, by rw [lcF_o (by omega) (by omega)]; exact g8, fun t ht => ?_, fun l hl => ?_⟩
    · have ht : t < O.nT := ht
      rw [lcF_o (by omega) (by omega), lcF_o (by omega) (by omega)]
      exact g9 t ht
    · show upd O.ki O.nL a l = _ ∧ upd O.le O.nL b l = _ ∧ upd O.pr O.nL c l = _ ∧ _
      have hl : l < O.nL + 1 := hl
      by_cases q : l = O.nL
      · subst q
        rw [upd_eq, upd_eq, upd_eq, r1, r2, r3]
        obtain ⟨x, -, hx, ex⟩ := inI_nat (by decide) (by decide) b1
        obtain ⟨y, hy1, hy, ey⟩ := inI_nat (by decide) (by decide) b2
        exact ⟨rfl, rfl, rfl, ⟨x, by omega, ex⟩, y, hy1, hy, ey⟩
      · rw [upd_ne _ _ q, upd_ne _ _ q, upd_ne _ _ q, lcF_o (by omega) (by omega), lcF_o (by omega) (by omega), lcF_o (by omega) (by omega)]
        exact g10 l (by omega)
  · obtain ⟨g1, g2, g3, g4, g5, g6, g7, g8⟩ := h2
    refine ⟨by rw [lcF_o (by omega) (by omega)]; exact g1, by rw [lcF_o (by omega) (by omega)]; exact g2, by rw [lcF_o (by omega) (by omega)]; exact g3, by rw [lcF_o (by omega) (by omega)]; exact g4, by rw [lcF_o (by omega) (by omega)]; exact g5, fun t ht => ?_, fun l hl => ?_, fun l hl h4 => ?_⟩
    · have ht : t < O.nT := ht
      rw [lcF_o (by omega) (by omega)]
      exact g6 t ht
    · show upd M.ln O.nL (-4) l = _ ∧ _
      have hl : l < O.nL + 1 := hl
      by_cases q : l = O.nL
      · subst q
        rw [upd_eq, r4]
        exact ⟨rfl, Or.inl rfl⟩
      · rw [upd_ne _ _ q, lcF_o (by omega) (by omega)]
        exact g7 l (by omega)
    · show upd M.ln O.nL (-4) l = _
      have hl : O.nL + 1 ≤ l := hl
      rw [upd_ne _ _ (by omega)]
      exact g8 l (by omega) h4
theorem seed_rel {O : Oc} {M : Mo} {nw : Nat → Int32} (v : Int32) (h : RO O nw) (h2 : RM O.nT O.nL M nw) : RO O (upd nw 8 v) ∧ RM O.nT O.nL (Mo.mk M.fr M.ln M.got M.paid M.lost M.day v) (upd nw 8 v) := by
  have hT := h.2.2.1
  refine ⟨h.cg (fun j hj => upd_ne _ _ (by omega)), ?_⟩
  obtain ⟨h1, h2, h3, h4, h5, h6, h7, h8⟩ := h2
  refine ⟨by rw [upd_ne _ _ (by omega)]; exact h1, by rw [upd_ne _ _ (by omega)]; exact h2, by rw [upd_ne _ _ (by omega)]; exact h3, by rw [upd_ne _ _ (by omega)]; exact h4, (upd_eq _ _ _).symm, fun t ht => ?_, fun l hl => ?_, h8⟩
  · rw [upd_ne _ _ (by omega)]
    exact h6 t ht
  · rw [upd_ne _ _ (by omega)]
    exact h7 l hl
theorem lean_rel {O : Oc} {M : Mo} {nw : Nat → Int32} {l : Nat} {t : Int32} (h : RO O nw) (h2 : RM O.nT O.nL M nw) (hl : l < O.nL) (ht : t = -4 ∨ isT nw t = true) : RO O (upd nw (27 + 4 * l + 3) t) ∧ RM O.nT O.nL (Mo.mk M.fr (upd M.ln l t) M.got M.paid M.lost M.day M.draw) (upd nw (27 + 4 * l + 3) t) := by
  have hT := h.2.2.1
  have d2 : ∀ i, (∀ l, l < O.nL → i ≠ 30 + 4 * l) → upd nw (27 + 4 * l + 3) t i = nw i := fun i hi => upd_ne _ _ (by have := hi l hl; omega)
  refine ⟨h.lean d2, h2.lean hT d2 (fun j hj => ?_) (fun j h3 h4 => ?_)⟩
  · by_cases q : j = l
    · subst q
      rw [upd_eq, show 27 + 4 * j + 3 = 30 + 4 * j by omega, upd_eq]
      exact ⟨rfl, ht.imp id (fun z => isT_nat (RM.wf h h2) z)⟩
    · rw [upd_ne _ _ q, upd_ne _ _ (by omega)]
      exact h2.2.2.2.2.2.2.1 j hj
  · rw [upd_ne _ _ (by omega)]
    exact h2.2.2.2.2.2.2.2 j h3 h4
theorem shake_rel {O : Oc} {M : Mo} {nw : Nat → Int32} {t : Nat} (h : RO O nw) (h2 : RM O.nT O.nL M nw) (ht : t < O.nT) : RO O (shkN nw t) ∧ RM O.nT O.nL (shM M t) (shkN nw t) := by
  have hT := h.2.2.1
  obtain ⟨e0, a, ha, ea⟩ := h2.2.2.2.2.2.1 t ht
  have eo : ∀ j, j ≠ 5 → j ≠ 9 + 3 * t + 1 → shkN nw t j = nw j := fun j h5 hj => by
    unfold shkN gbLose
    rw [upd_ne _ _ h5, upd_ne _ _ hj]
  have e5 : shkN nw t 5 = nw 5 + nw (9 + 3 * t + 1) / nI 2 := by
    unfold shkN gbLose
    rw [upd_eq, upd_ne _ _ (by omega)]
  have ef : shkN nw t (9 + 3 * t + 1) = nw (9 + 3 * t + 1) - nw (9 + 3 * t + 1) / nI 2 := by
    unfold shkN gbLose
    rw [upd_ne _ _ (by omega), upd_eq]
  refine ⟨h.cg (fun j hj => eo j (by omega) (by omega)), ?_⟩
  obtain ⟨h1, h2, h3, h4, h5, h6, h7, h8⟩ := h2
  refine ⟨by rw [eo 2 (by omega) (by omega)]; exact h1, by rw [eo 3 (by omega) (by omega)]; exact h2, by rw [eo 4 (by omega) (by omega)]; exact h3, ?_, by rw [eo 8 (by omega) (by omega)]; exact h5, fun j hj => ?_, fun l hl => ?_, h8⟩
  · show M.lost + M.fr t / nI 2 = _
    rw [e5, h4, e0]
  · show upd M.fr t (M.fr t - M.fr t / nI 2) j = _ ∧ _
    by_cases q : j = t
    · subst q
      rw [upd_eq, ef, e0]
      refine ⟨rfl, a - a / 2, by omega, ?_⟩
      rw [ea, pk_div (by omega) (by decide) (by decide), pk_sub (by omega)]
    · rw [upd_ne _ _ q, eo _ (by omega) (by omega)]
      exact h6 j hj
  · rw [eo _ (by omega) (by omega)]
    exact h7 l hl
theorem gust_rel {O : Oc} {M : Mo} {nw : Nat → Int32} (h : RO O nw) (h2 : RM O.nT O.nL M nw) : RO O (gustN nw O.nT) ∧ RM O.nT O.nL (gustM O M) (gustN nw O.nT) := by
  obtain ⟨s1, s2⟩ := seed_rel (drw (nw 8)) h h2
  unfold gustM gustN
  rw [h2.2.2.2.2.1, show drw (nw 8) / nI 65536 = gustH nw from rfl]
  have e : drM M = (Mo.mk M.fr M.ln M.got M.paid M.lost M.day (drw (nw 8))) := by rw [drM, h2.2.2.2.2.1]
  by_cases q : gustH nw - gustH nw / nI 4 * nI 4 = 0 ∧ 0 < O.nT
  · rw [if_pos q, if_pos q, e]
    exact shake_rel s1 s2 (Nat.mod_lt _ q.2)
  · rw [if_neg q, if_neg q, e]
    exact ⟨s1, s2⟩
theorem drift_rel {O : Oc} {M : Mo} {nw : Nat → Int32} (h : RO O nw) (h2 : RM O.nT O.nL M nw) : ∀ k, RO O (drN nw O.nT O.nL k) ∧ RM O.nT O.nL (drnM O M k) (drN nw O.nT O.nL k)
  | 0 => ⟨h, h2⟩
  | k + 1 => by
    obtain ⟨i1, i2⟩ := drift_rel h h2 k
    obtain ⟨j1, j2⟩ := gust_rel i1 i2
    exact day_rel j1 j2
