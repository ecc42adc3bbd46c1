/-! the relation: what may be undone, images, texts -/
def RU (nT nL : Nat) (M : Mo) (ud : Nat → Int32) (to : Nat) : Prop := M.day = ud to ∧ M.got = ud (to + 1) ∧ M.paid = ud (to + 2) ∧ M.lost = ud (to + 3) ∧ M.draw = ud (to + 4) ∧
  (∀ t, t < nT → M.fr t = ud (to + 5 + t) ∧ ∃ a, a ≤ 99 ∧ ud (to + 5 + t) = nI a) ∧ (∀ l, l < nL → M.ln l = ud (to + 11 + l) ∧ (ud (to + 11 + l) = -4 ∨ ∃ t, t < nT ∧ ud (to + 11 + l) = nI t)) ∧ (∀ l, nL ≤ l → l < 4 → M.ln l = -4) ∧ ∃ dy, dy ≤ 9999 ∧ ud to = nI dy
theorem RU.cg {nT nL : Nat} {M : Mo} {f g : Nat → Int32} {a b : Nat} (hT : nT ≤ 6) (hL : nL ≤ 4) (h : RU nT nL M f a) (e : ∀ k, k < 15 → g (b + k) = f (a + k)) : RU nT nL M g b := by
  obtain ⟨h1, h2, h3, h4, h5, h6, h7, h8, h9⟩ := h
  have e0 : g b = f a := e 0 (by omega)
  refine ⟨by rw [e0]; exact h1, by rw [e 1 (by omega)]; exact h2, by rw [e 2 (by omega)]; exact h3, by rw [e 3 (by omega)]; exact h4, by rw [e 4 (by omega)]; exact h5, fun t ht => ?_, fun l hl => ?_, h8, by rw [e0]; exact h9⟩
  · rw [Nat.add_assoc b, e (5 + t) (by omega), ← Nat.add_assoc a]
    exact h6 t ht
  · rw [Nat.add_assoc b, e (11 + l) (by omega), ← Nat.add_assoc a]
    exact h7 l hl
theorem RU.cpm {nT nL : Nat} {M N : Mo} {f : Nat → Int32} {a : Nat} (hT : nT ≤ 6) (hL : nL ≤ 4) (h : RU nT nL M f a) : RU nT nL (cpM M N) f a := by
  obtain ⟨h1, h2, h3, h4, h5, h6, h7, h8, h9⟩ := h
  refine ⟨h1, h2, h3, h4, h5, fun t ht => ?_, fun l hl => ?_, fun l h10 h11 => ?_, h9⟩
  · show cp M.fr N.fr 6 t = _ ∧ _
    rw [cp, if_pos (by omega)]
    exact h6 t ht
  · show cp M.ln N.ln 4 l = _ ∧ _
    rw [cp, if_pos (by omega)]
    exact h7 l hl
  · show cp M.ln N.ln 4 l = _
    rw [cp, if_pos h11]
    exact h8 l h10 h11
theorem put_in {f g : Nat → Int32} {a n k : Nat} (h : k < n) : put f g a n (a + k) = g k := by
  rw [put, if_pos ⟨by omega, by omega⟩, show a + k - a = k by omega]
theorem put_out {f g : Nat → Int32} {a n j : Nat} (h : j < a ∨ a + n ≤ j) : put f g a n j = f j := by
  rw [put, if_neg (by omega)]
theorem note_out {ud nw : Nat → Int32} {to j : Nat} (h : j < to ∨ to + 15 ≤ j) : noteAt ud nw to j = ud j := by
  rw [noteAt, put_out (by omega), note2, put_out (by omega), note1, upd_ne _ _ (by omega), put_out (by omega)]
theorem note_in (ud nw : Nat → Int32) (to : Nat) : (∀ k, k < 4 → noteAt ud nw to (to + k) = nw (2 + k)) ∧ noteAt ud nw to (to + 4) = nw 8 ∧ (∀ t, t < 6 → noteAt ud nw to (to + 5 + t) = nw (9 + 3 * t + 1)) ∧ ∀ l, l < 4 → noteAt ud nw to (to + 11 + l) = nw (30 + 4 * l) := by
  refine ⟨fun k hk => ?_, ?_, fun t ht => ?_, fun l hl => ?_⟩
  · rw [noteAt, put_out (by omega), note2, put_out (by omega), note1, upd_ne _ _ (by omega), put_in hk]
  · rw [noteAt, put_out (by omega), note2, put_out (by omega), note1, upd_eq]
  · rw [noteAt, put_out (by omega), note2, put_in ht]
  · rw [noteAt, put_in hl]
theorem note_rel {nT nL to : Nat} {M N : Mo} {nw ud : Nat → Int32} (hT : nT ≤ 6) (hL : nL ≤ 4) (h : RM nT nL M nw) (hd : ∃ dy, dy ≤ 9999 ∧ nw 2 = nI dy) : RU nT nL (cpM M N) (noteAt ud nw to) to := by
  obtain ⟨n1, n2, n3, n4⟩ := note_in ud nw to
  have n0 : noteAt ud nw to to = nw 2 := n1 0 (by omega)
  obtain ⟨h1, h2, h3, h4, h5, h6, h7, h8⟩ := h
  refine RU.cpm hT hL ⟨by rw [n0]; exact h1, by rw [n1 1 (by omega)]; exact h2, by rw [n1 2 (by omega)]; exact h3, by rw [n1 3 (by omega)]; exact h4, by rw [n2]; exact h5, fun t ht => ?_, fun l hl => ?_, h8, by rw [n0]; exact hd⟩
  · rw [n3 t (by omega)]
    exact h6 t ht
  · rw [n4 l (by omega)]
    exact h7 l hl
def RH (nT nL : Nat) (V : Hi) (ud : Nat → Int32) (un : Int32) : Prop := V.known ≤ 8 ∧ un = nI V.known ∧ ∀ k, k < V.known → RU nT nL (V.Ms k) ud (15 * k)
theorem rem_rel {nT nL : Nat} {M : Mo} {V : Hi} {nw ud : Nat → Int32} {un : Int32} (hT : nT ≤ 6) (hL : nL ≤ 4) (h : RH nT nL V ud un) (h2 : RM nT nL M nw) (hd : ∃ dy, dy ≤ 9999 ∧ nw 2 = nI dy) : RH nT nL (remF V M) (noteF ud nw V.known) (nI (noteN V.known)) ∧ (remF V M).known = noteN V.known := by
  obtain ⟨k8, -, hu⟩ := h
  unfold remF noteF noteN
  by_cases q : V.known = 8
  · rw [if_pos q, if_pos q, if_pos q]
    refine ⟨⟨Nat.le_refl 8, rfl, fun k hk => ?_⟩, rfl⟩
    have hk : k < 8 := hk
    show RU nT nL (upM (rotM V.Ms) 7 (cpM M (rotM V.Ms 7)) k) _ _
    by_cases e : k = 7
    · subst e
      rw [upM, if_pos rfl]
      exact note_rel hT hL h2 hd
    · rw [upM, if_neg e, rotM, if_pos (by omega)]
      refine RU.cg hT hL (hu (k + 1) (by omega)) (fun j hj => ?_)
      rw [note_out (by omega), shF, if_pos (by omega), show 15 * k + j + 15 = 15 * (k + 1) + j by omega]
  · rw [if_neg q, if_neg q, if_neg q]
    refine ⟨⟨show V.known + 1 ≤ 8 by omega, rfl, fun k hk => ?_⟩, rfl⟩
    have hk : k < V.known + 1 := hk
    show RU nT nL (upM V.Ms V.known (cpM M (V.Ms V.known)) k) _ _
    by_cases e : k = V.known
    · subst e
      rw [upM, if_pos rfl]
      exact note_rel hT hL h2 hd
    · rw [upM, if_neg e]
      exact RU.cg hT hL (hu k (by omega)) (fun j hj => note_out (by omega))
/-- undone -/
theorem st3_row (f g : Nat → Int32) : ∀ k, (∀ t, t < k → st3 f g k (9 + 3 * t + 1) = g t) ∧ ∀ j, (∀ t, t < k → j ≠ 9 + 3 * t + 1) → st3 f g k j = f j
  | 0 => ⟨fun t ht => absurd ht (Nat.not_lt_zero _), fun j _ => rfl⟩
  | k + 1 => by
    obtain ⟨i1, i2⟩ := st3_row f g k
    refine ⟨fun t ht => ?_, fun j hj => ?_⟩
    · rw [st3]
      by_cases e : t = k
      · subst e
        exact upd_eq _ _ _
      · rw [upd_ne _ _ (by omega)]
        exact i1 t (by omega)
    · rw [st3, upd_ne _ _ (hj k (by omega))]
      exact i2 j (fun t ht => hj t (by omega))
theorem st4_row (f g : Nat → Int32) : ∀ k, (∀ l, l < k → st4 f g k (30 + 4 * l) = g l) ∧ ∀ j, (∀ l, l < k → j ≠ 30 + 4 * l) → st4 f g k j = f j
  | 0 => ⟨fun t ht => absurd ht (Nat.not_lt_zero _), fun j _ => rfl⟩
  | k + 1 => by
    obtain ⟨i1, i2⟩ := st4_row f g k
    refine ⟨fun t ht => ?_, fun j hj => ?_⟩
    · rw [st4]
      by_cases e : t = k
      · subst e
        rw [show 27 + 4 * t + 3 = 30 + 4 * t by omega]
        exact upd_eq _ _ _
      · rw [upd_ne _ _ (by omega)]
        exact i1 t (by omega)
    · rw [st4, upd_ne _ _ (by have := hj k (by omega); omega)]
      exact i2 j (fun t ht => hj t (by omega))
theorem undoN_row (nw ud : Nat → Int32) (to : Nat) : (∀ k, k < 4 → undoN nw ud to (2 + k) = ud (to + k)) ∧ undoN nw ud to 8 = ud (to + 4) ∧ (∀ t, t < 6 → undoN nw ud to (9 + 3 * t + 1) = ud (to + 5 + t)) ∧ (∀ l, l < 4 → undoN nw ud to (30 + 4 * l) = ud (to + 11 + l)) ∧ ∀ j, (j < 2 ∨ 5 < j) → j ≠ 8 → (∀ t, t < 6 → j ≠ 9 + 3 * t + 1) → (∀ l, l < 4 → j ≠ 30 + 4 * l) → undoN nw ud to j = nw j := by
  obtain ⟨a1, a2⟩ := st4_row (undo2 nw ud to) (fun l => ud (to + 11 + l)) 4
  obtain ⟨b1, b2⟩ := st3_row (undo1 nw ud to) (fun t => ud (to + 5 + t)) 6
  refine ⟨fun k hk => ?_, ?_, fun t ht => ?_, a1, fun j h1 h8 h3 h4 => ?_⟩
  · rw [undoN, a2 _ (fun l hl => by omega), undo2, b2 _ (fun t ht => by omega), undo1, upd_ne _ _ (by omega), put_in hk]
  · rw [undoN, a2 _ (fun l hl => by omega), undo2, b2 _ (fun t ht => by omega), undo1, upd_eq]
  · rw [undoN, a2 _ (fun l hl => by omega), undo2]
    exact b1 t ht
  · rw [undoN, a2 _ h4, undo2, b2 _ h3, undo1, upd_ne _ _ h8, put_out (by omega)]
theorem undo_rel {O : Oc} {M N : Mo} {nw ud : Nat → Int32} {to : Nat} (h : RO O nw) (hu : RU O.nT O.nL N ud to) : RO O (undoN nw ud to) ∧ RM O.nT O.nL (cpM N M) (undoN nw ud to) ∧ ∃ dy, dy ≤ 9999 ∧ undoN nw ud to 2 = nI dy := by
  have hT := h.2.2.1
  have hL := h.2.2.2.1
  obtain ⟨r1, r2, r3, r4, r5⟩ := undoN_row nw ud to
  have r0 : undoN nw ud to 2 = ud to := r1 0 (by omega)
  obtain ⟨u1, u2, u3, u4, u5, u6, u7, u8, u9⟩ := RU.cpm (N := M) hT hL hu
  refine ⟨h.cg (fun j hj => r5 j (by omega) (by omega) (fun t ht => by omega) (fun l hl => by omega)), ⟨by rw [r0]; exact u1, by rw [r1 1 (by omega)]; exact u2, by rw [r1 2 (by omega)]; exact u3, by rw [r1 3 (by omega)]; exact u4, by rw [r2]; exact u5, fun t ht => ?_, fun l hl => ?_, u8⟩, by rw [r0]; exact u9⟩
  · rw [r3 t (by omega)]
    exact u6 t ht
  · rw [r4 l (by omega)]
    exact u7 l hl
/-- orchard, moment, history and the rows -/
def RelO (O : Oc) (M : Mo) (V : Hi) (nw ud : Nat → Int32) (un : Int32) : Prop := RO O nw ∧ RM O.nT O.nL M nw ∧ (∃ dy, dy ≤ 9999 ∧ nw 2 = nI dy) ∧ RH O.nT O.nL V ud un
theorem RelO.new {O : Oc} {M : Mo} {nw ud : Nat → Int32} {V : Hi} (h : RO O nw) (h2 : RM O.nT O.nL M nw) (hd : ∃ dy, dy ≤ 9999 ∧ nw 2 = nI dy) : RelO O M (fgH V) nw ud (nI 0) := ⟨h, h2, hd, Nat.zero_le _, rfl, fun k hk => absurd hk (Nat.not_lt_zero _)⟩
theorem imO_rel {O P : Oc} {f g : Nat → Int32} (h : RO O f) (e : ∀ j, j < 43 → g j = f j) : RO (imO O P) g := by
  obtain ⟨g1, g2, gT, gL, g5, g6, g7, g8, g9, g10⟩ := h
  refine ⟨by rw [e 0 (by omega)]; exact g1, by rw [e 1 (by omega)]; exact g2, gT, gL, by rw [e 6 (by omega)]; exact g5, by rw [e 7 (by omega)]; exact g6, by rw [e 6 (by omega)]; exact g7, by rw [e 7 (by omega)]; exact g8, fun t ht => ?_, fun l hl => ?_⟩
  · have ht : t < O.nT := ht
    show cp O.hi P.hi 6 t = _ ∧ cp O.ri P.ri 6 t = _
    rw [cp, if_pos (by omega), cp, if_pos (by omega), e _ (by omega), e _ (by omega)]
    exact g9 t ht
  · have hl : l < O.nL := hl
    show cp O.ki P.ki 4 l = _ ∧ cp O.le P.le 4 l = _ ∧ cp O.pr P.pr 4 l = _ ∧ _
    rw [cp, if_pos (by omega), cp, if_pos (by omega), cp, if_pos (by omega), e _ (by omega), e _ (by omega), e _ (by omega)]
    exact g10 l hl
theorem bcM_lt (A B : Hi) : ∀ n k, k < n → bcM A B n k = cpM (B.Ms k) (A.Ms k)
  | 0, k, h => absurd h (Nat.not_lt_zero _)
  | n + 1, k, h => by
    rw [bcM, upM]
    by_cases e : k = n
    · rw [if_pos e, e]
    · rw [if_neg e]
      exact bcM_lt A B n k (by omega)
theorem im_rel {O P : Oc} {M N : Mo} {V W : Hi} {nw ud f g : Nat → Int32} {un : Int32} (h : RelO O M V nw ud un) (e : ∀ j, j < 43 → f j = nw j) (e2 : ∀ j, j < 120 → g j = ud j) : RelO (imO O P) (cpM M N) (bcH W V V.known) f g un := by
  obtain ⟨h1, h2, h3, h4, h5, h6⟩ := h
  have hT := h1.2.2.1
  have hL := h1.2.2.2.1
  refine ⟨imO_rel h1 e, (cpM_rel hT hL h2).cg (fun j a b c q => e j ?_), by rw [e 2 (by omega)]; exact h3, h4, h5, fun k hk => ?_⟩
  · rcases q with q | ⟨t, ht, rfl⟩ | ⟨l, hl, rfl⟩
    · omega
    · have ht : t < O.nT := ht
      omega
    · have hl : l < O.nL := hl
      omega
  · have hk : k < V.known := hk
    show RU O.nT O.nL (bcM W V V.known k) g (15 * k)
    rw [bcM_lt W V V.known k hk]
    exact RU.cg hT hL (RU.cpm hT hL (h6 k hk)) (fun j hj => e2 _ (by omega))
/-- a text's rows -/
theorem orT_row (nw ro : Nat → Int32) : ∀ k, (∀ t, t < k → orT nw ro k (9 + 3 * t) = ro (3 * t) ∧ orT nw ro k (9 + 3 * t + 1) = ro (3 * t + 1) ∧ orT nw ro k (11 + 3 * t) = ro (3 * t + 2)) ∧ (∀ j, 2 ≤ j → j < 6 → orT nw ro k j = nI 0) ∧ ∀ j, 6 ≤ j → j < 9 → orT nw ro k j = nw j
  | 0 => ⟨fun t ht => absurd ht (Nat.not_lt_zero _), fun j h1 h2 => by rw [orT, cp, if_pos h2], fun j h1 h2 => by rw [orT, cp, if_neg (by omega)]⟩
  | k + 1 => by
    obtain ⟨i1, i2, i3⟩ := orT_row nw ro k
    obtain ⟨-, r1, r2, r3⟩ := tcF_r (orT nw ro k) k (ro (3 * k)) (ro (3 * k + 1)) (ro (3 * k + 2))
    refine ⟨fun t ht => ?_, fun j h1 h2 => ?_, fun j h1 h2 => ?_⟩
    · rw [orT]
      by_cases e : t = k
      · subst e
        exact ⟨r1, r2, r3⟩
      · rw [tcF_o (by omega) (by omega), tcF_o (by omega) (by omega), tcF_o (by omega) (by omega)]
        exact i1 t (by omega)
    · rw [orT, tcF_o (by omega) (by omega)]
      exact i2 j h1 h2
    · rw [orT, tcF_o (by omega) (by omega)]
      exact i3 j h1 h2
theorem orL_row (nw ro rd : Nat → Int32) (nT : Nat) : ∀ k, (∀ l, l < k → orL nw ro rd nT k (27 + 4 * l) = rd (4 * l) ∧ orL nw ro rd nT k (28 + 4 * l) = rd (4 * l + 1) ∧ orL nw ro rd nT k (27 + 4 * l + 2) = rd (4 * l + 2) ∧ orL nw ro rd nT k (30 + 4 * l) = rd (4 * l + 3)) ∧ ∀ j, j ≠ 1 → j < 27 → orL nw ro rd nT k j = orT nw ro nT j
  | 0 => ⟨fun t ht => absurd ht (Nat.not_lt_zero _), fun j _ _ => rfl⟩
  | k + 1 => by
    obtain ⟨i1, i2⟩ := orL_row nw ro rd nT k
    obtain ⟨-, r1, r2, r3, r4⟩ := lcF_r (orL nw ro rd nT k) k (rd (4 * k)) (rd (4 * k + 1)) (rd (4 * k + 2)) (rd (4 * k + 3))
    refine ⟨fun t ht => ?_, fun j h1 h2 => ?_⟩
    · rw [orL]
      by_cases e : t = k
      · subst e
        exact ⟨r1, r2, r3, r4⟩
      · rw [lcF_o (by omega) (by omega), lcF_o (by omega) (by omega), lcF_o (by omega) (by omega), lcF_o (by omega) (by omega)]
        exact i1 t (by omega)
    · rw [orL, lcF_o h1 (by omega)]
      exact i2 j h1 h2
theorem or_rel {O P : Oc} {M N : Mo} {nw ro rd : Nat → Int32} {nT nL : Nat} (h : RO O nw) (h2 : RM O.nT O.nL M nw) (z : N.got = 0 ∧ N.paid = 0 ∧ N.lost = 0 ∧ N.day = 0) (eT : P.nT = nT) (hT : nT ≤ 6) (eL : P.nL = nL) (hL : nL ≤ 4) (tr : TRW P N ro nT) (lr : LRW P N rd nT nL) :
    RO (cpO P O) (orL nw ro rd nT nL) ∧ RM (cpO P O).nT (cpO P O).nL (toM N M) (orL nw ro rd nT nL) ∧ orL nw ro rd nT nL 2 = nI 0 := by
  subst eT eL
  obtain ⟨a1, a2⟩ := orL_row nw ro rd P.nT P.nL
  obtain ⟨b1, b2, b3⟩ := orT_row nw ro P.nT
  have e0 : orL nw ro rd P.nT P.nL 0 = nI P.nT := by rw [a2 0 (by omega) (by omega), orT_0]
  have e1 : orL nw ro rd P.nT P.nL 1 = nI P.nL := orL_1 nw ro rd P.nT P.nL
  have z4 : ∀ j, 2 ≤ j → j < 6 → orL nw ro rd P.nT P.nL j = nI 0 := fun j h1 h3 => by rw [a2 j (by omega) (by omega), b2 j h1 h3]
  have k3 : ∀ j, 6 ≤ j → j < 9 → orL nw ro rd P.nT P.nL j = nw j := fun j h1 h3 => by rw [a2 j (by omega) (by omega), b3 j h1 h3]
  refine ⟨⟨e0, e1, hT, hL, by rw [k3 6 (by omega) (by omega)]; exact h.2.2.2.2.1, by rw [k3 7 (by omega) (by omega)]; exact h.2.2.2.2.2.1, by rw [k3 6 (by omega) (by omega)]; exact h.2.2.2.2.2.2.1, by rw [k3 7 (by omega) (by omega)]; exact h.2.2.2.2.2.2.2.1, fun t ht => ?_, fun l hl => ?_⟩, ⟨by rw [z4 2 (by omega) (by omega)]; exact z.2.2.2, by rw [z4 3 (by omega) (by omega)]; exact z.1, by rw [z4 4 (by omega) (by omega)]; exact z.2.1, by rw [z4 5 (by omega) (by omega)]; exact z.2.2.1, by rw [k3 8 (by omega) (by omega)]; exact h2.2.2.2.2.1, fun t ht => ?_, fun l hl => ?_, fun l h3 h4 => ?_⟩, z4 2 (by omega) (by omega)⟩
  · have ht : t < P.nT := ht
    obtain ⟨t1, t2, t3, -⟩ := tr t ht
    obtain ⟨c1, c2, c3⟩ := b1 t ht
    show cp P.hi O.hi 6 t = _ ∧ cp P.ri O.ri 6 t = _
    rw [cp, if_pos (by omega), cp, if_pos (by omega), a2 _ (by omega) (by omega), a2 _ (by omega) (by omega), c1, c3]
    exact ⟨t1, t3⟩
  · have hl : l < P.nL := hl
    obtain ⟨l1, l2, l3, -, l5, l6, -⟩ := lr.1 l hl
    obtain ⟨c1, c2, c3, -⟩ := a1 l hl
    show cp P.ki O.ki 4 l = _ ∧ cp P.le O.le 4 l = _ ∧ cp P.pr O.pr 4 l = _ ∧ _
    rw [cp, if_pos (by omega), cp, if_pos (by omega), cp, if_pos (by omega), c1, c2, c3]
    obtain ⟨y, hy1, hy, ey⟩ := inI_nat (by decide) (by decide) l6
    exact ⟨l1, l2, l3, l5, y, hy1, hy, ey⟩
  · have ht : t < P.nT := ht
    obtain ⟨-, t2, -, -, t5, -⟩ := tr t ht
    obtain ⟨-, c2, -⟩ := b1 t ht
    show cp N.fr M.fr 6 t = _ ∧ _
    rw [cp, if_pos (by omega), a2 _ (by omega) (by omega), c2]
    obtain ⟨y, -, hy, ey⟩ := inI_nat (by decide) (by decide) t5
    exact ⟨t2, y, hy, ey⟩
  · have hl : l < P.nL := hl
    obtain ⟨-, -, -, l4, -, -, -, l8⟩ := lr.1 l hl
    obtain ⟨-, -, -, c4⟩ := a1 l hl
    show cp N.ln M.ln 4 l = _ ∧ _
    rw [cp, if_pos (by omega), c4]
    exact ⟨l4, l8⟩
  · have h3 : P.nL ≤ l := h3
    show cp N.ln M.ln 4 l = _
    rw [cp, if_pos h4]
    exact lr.2 l h3 h4
/-- days and drifts -/
theorem passN_day (O : Oc) (M : Mo) : ∀ k, (passN O M k).day = M.day + nI k
  | 0 => by rw [nI_sub0]; rfl
  | k + 1 => by rw [passN, (passM_o O _).2.1, passN_day O M k, Int32.add_assoc, nI_add]
theorem mk_day (a b : Nat → Int32) (c d e f g : Int32) : (Mo.mk a b c d e f g).day = f := rfl
theorem drM_eq (M : Mo) : drM M = Mo.mk M.fr M.ln M.got M.paid M.lost M.day (drw M.draw) := rfl
theorem shM_eq (M : Mo) (t : Nat) : shM M t = Mo.mk (upd M.fr t (M.fr t - M.fr t / nI 2)) M.ln M.got M.paid (M.lost + M.fr t / nI 2) M.day M.draw := rfl
theorem shM_day (M : Mo) (t : Nat) : (shM M t).day = M.day := (congrArg Mo.day (shM_eq M t)).trans (mk_day _ _ _ _ _ _ _)
theorem drM_day (M : Mo) : (drM M).day = M.day := (congrArg Mo.day (drM_eq M)).trans (mk_day _ _ _ _ _ _ _)
theorem gustM_day (O : Oc) (M : Mo) : (gustM O M).day = M.day := by
  unfold gustM
  generalize (drw M.draw / nI 65536).toNatClampNeg % O.nT = x
  by_cases q : drw M.draw / nI 65536 - drw M.draw / nI 65536 / nI 4 * nI 4 = 0 ∧ 0 < O.nT
  · rw [if_pos q, shM_day, drM_day]
  · rw [if_neg q, drM_day]
theorem drnM_day (O : Oc) (M : Mo) : ∀ k, (drnM O M k).day = M.day + nI k
  | 0 => by rw [nI_sub0]; rfl
  | k + 1 => by rw [drnM, (passM_o O _).2.1, gustM_day, drnM_day O M k, Int32.add_assoc, nI_add]
theorem days_all {O : Oc} {M : Mo} {V : Hi} {nw ud : Nat → Int32} {un : Int32} {dy : Nat} (h : RelO O M V nw ud un) (hd : nw 2 = nI dy) : ∀ k, dy + k ≤ 9999 → RelO O (passN O M k) (dyV O M V k) (gbN nw O.nT O.nL k) (nsU nw ud O.nT O.nL V.known k).1 (nI (nsU nw ud O.nT O.nL V.known k).2) ∧ (dyV O M V k).known = (nsU nw ud O.nT O.nL V.known k).2
  | 0, hk => by
    obtain ⟨h1, h2, h3, h4, h5, h6⟩ := h
    exact ⟨⟨h1, h2, h3, h4, rfl, h6⟩, rfl⟩
  | k + 1, hk => by
    obtain ⟨⟨i1, i2, i3, i4⟩, i5⟩ := days_all h hd k (by omega)
    obtain ⟨r1, r2⟩ := rem_rel i1.2.2.1 i1.2.2.2.1 i4 i2 i3
    obtain ⟨j1, j2⟩ := day_rel i1 i2
    rw [i5] at r1 r2
    refine ⟨⟨j1, j2, ⟨dy + (k + 1), hk, ?_⟩, r1⟩, r2⟩
    have := passN_day O M (k + 1)
    rw [show gbN nw O.nT O.nL (k + 1) 2 = (passN O M (k + 1)).day from j2.1.symm, this, h.2.1.1, hd, nI_add]
theorem drift_all {O : Oc} {M : Mo} {V : Hi} {nw ud : Nat → Int32} {un : Int32} {dy : Nat} (h : RelO O M V nw ud un) (hd : nw 2 = nI dy) : ∀ k, dy + k ≤ 9999 → RelO O (drnM O M k) (drnV O M V k) (drN nw O.nT O.nL k) (drU nw ud O.nT O.nL V.known k).1 (nI (drU nw ud O.nT O.nL V.known k).2) ∧ (drnV O M V k).known = (drU nw ud O.nT O.nL V.known k).2
  | 0, hk => by
    obtain ⟨h1, h2, h3, h4, h5, h6⟩ := h
    exact ⟨⟨h1, h2, h3, h4, rfl, h6⟩, rfl⟩
  | k + 1, hk => by
    obtain ⟨⟨i1, i2, i3, i4⟩, i5⟩ := drift_all h hd k (by omega)
    obtain ⟨r1, r2⟩ := rem_rel i1.2.2.1 i1.2.2.2.1 i4 i2 i3
    obtain ⟨g1, g2⟩ := gust_rel i1 i2
    obtain ⟨j1, j2⟩ := day_rel g1 g2
    rw [i5] at r1 r2
    refine ⟨⟨j1, j2, ⟨dy + (k + 1), hk, ?_⟩, r1⟩, r2⟩
    have := drnM_day O M (k + 1)
    rw [show drN nw O.nT O.nL (k + 1) 2 = (drnM O M (k + 1)).day from j2.1.symm, this, h.2.1.1, hd, nI_add]
