/-! the class: what may be undone -/
abbrev QA (ps : Nat → Nat) : XC := .inl (.object RX2, 8, .inr (.inr (.inr (.inr (fun i => some (ps i))))))
abbrev Hi : Type := (Nat → Nat) × (Nat → Mo) × Nat
abbrev Hi.mk (ps : Nat → Nat) (Ms : Nat → Mo) (known : Nat) : Hi := (ps, Ms, known)
abbrev Hi.ps (Z : Hi) : Nat → Nat := Z.1
abbrev Hi.Ms (Z : Hi) : Nat → Mo := Z.2.1
abbrev Hi.known (Z : Hi) : Nat := Z.2.2
def PS (H : Nat) (ps : Nat → Nat) : Prop := (∀ k, k < 8 → ∃ j, j < 8 ∧ ps k = H + 2 + 3 * j) ∧ (∀ j, j < 8 → ∃ k, k < 8 ∧ ps k = H + 2 + 3 * j) ∧ ∀ i k, i < 8 → k < 8 → ps i = ps k → i = k
def IsH (h : XH) (H : Nat) (V : Hi) : Prop := h H = some (.inr (1, [.ref (H + 1), .int (nI V.known)])) ∧ h (H + 1) = some (QA V.ps) ∧ ∀ k, k < 8 → IsM h (V.ps k) (V.Ms k)
def setMs (h : XH) (ps : Nat → Nat) (Ms : Nat → Mo) : Nat → XH
  | 0 => h
  | n + 1 => setM (setMs h ps Ms n) (ps n) (Ms n)
def setH (h : XH) (H : Nat) (V : Hi) : XH := xup (xup (setMs h V.ps V.Ms 8) (H + 1) (QA V.ps)) H (.inr (1, [.ref (H + 1), .int (nI V.known)]))
theorem PS.far {H : Nat} {ps : Nat → Nat} (P : PS H ps) {i k : Nat} (hi : i < 8) (hk : k < 8) (ne : i ≠ k) : ps i + 2 < ps k ∨ ps k + 2 < ps i := by
  obtain ⟨p1, p2, p3⟩ := P
  obtain ⟨a, ha, ea⟩ := p1 i hi
  obtain ⟨b, hb, eb⟩ := p1 k hk
  have : a ≠ b := fun q => ne (p3 i k hi hk (by rw [ea, eb, q]))
  omega
theorem PS.rng {H : Nat} {ps : Nat → Nat} (P : PS H ps) {k : Nat} (hk : k < 8) : H + 2 ≤ ps k ∧ ps k + 2 < H + 26 := by
  obtain ⟨a, ha, ea⟩ := P.1 k hk
  omega
theorem sMs_is {H : Nat} {ps : Nat → Nat} (P : PS H ps) (h : XH) (Ms : Nat → Mo) : ∀ n, n ≤ 8 → ∀ k, k < n → IsM (setMs h ps Ms n) (ps k) (Ms k)
  | 0, _, k, hk => by omega
  | n + 1, hn, k, hk => by
    by_cases q : k = n
    · rw [q]
      exact sM_is _ _ _
    · exact (sMs_is P h Ms n (by omega) k (by omega)).off _ (P.far (by omega) (by omega) q)
theorem sMs_o {H : Nat} {ps : Nat → Nat} (P : PS H ps) (h : XH) (Ms : Nat → Mo) : ∀ n, n ≤ 8 → ∀ i, i < H + 2 ∨ H + 25 < i → setMs h ps Ms n i = h i
  | 0, _, i, _ => rfl
  | n + 1, hn, i, hi => by
    have := P.rng (show n < 8 by omega)
    rw [setMs, sMo _ _ (by omega)]
    exact sMs_o P h Ms n (by omega) i hi
theorem sH_is {h : XH} {H : Nat} {V : Hi} (P : PS H V.ps) : IsH (setH h H V) H V := by
  refine ⟨xup_eq _ _ _, by rw [setH, xup_ne _ _ (by omega)]; exact xup_eq _ _ _, fun k hk => ?_⟩
  have r := P.rng hk
  obtain ⟨a, b, c⟩ := sMs_is P h V.Ms 8 (Nat.le_refl _) k hk
  exact ⟨by rw [setH, xup_ne _ _ (by omega), xup_ne _ _ (by omega)]; exact a, by rw [setH, xup_ne _ _ (by omega), xup_ne _ _ (by omega)]; exact b, by rw [setH, xup_ne _ _ (by omega), xup_ne _ _ (by omega)]; exact c⟩
theorem sHo {h : XH} {H i : Nat} {V : Hi} (P : PS H V.ps) (hi : i < H ∨ H + 25 < i) : setH h H V i = h i := by
  rw [setH, xup_ne _ _ (by omega), xup_ne _ _ (by omega)]
  exact sMs_o P h V.Ms 8 (Nat.le_refl _) i (by omega)
theorem IsH.ext {p q : XH} {H : Nat} {V : Hi} (P : PS H V.ps) (a : IsH p H V) (b : IsH q H V) (o : ∀ i, i < H ∨ H + 25 < i → p i = q i) : p = q := by
  funext i
  by_cases r : i < H ∨ H + 25 < i
  · exact o i r
  by_cases r0 : i = H
  · rw [r0, a.1, b.1]
  by_cases r1 : i = H + 1
  · rw [r1, a.2.1, b.2.1]
  obtain ⟨k, hk, ek⟩ := P.2.1 ((i - H - 2) / 3) (by omega)
  obtain ⟨a0, a1, a2⟩ := a.2.2 k hk
  obtain ⟨b0, b1, b2⟩ := b.2.2 k hk
  have : i = V.ps k ∨ i = V.ps k + 1 ∨ i = V.ps k + 2 := by omega
  rcases this with e | e | e
  · rw [e, a0, b0]
  · rw [e, a1, b1]
  · rw [e, a2, b2]
theorem sH_eq {h p : XH} {H : Nat} {V : Hi} (P : PS H V.ps) (a : IsH p H V) (o : ∀ i, i < H ∨ H + 25 < i → p i = h i) : p = setH h H V := IsH.ext P a (sH_is P) (fun i q => by rw [o i q, sHo P q])
theorem IsH.set {h : XH} {H : Nat} {V : Hi} (P : PS H V.ps) (a : IsH h H V) : setH h H V = h := (sH_eq P a (fun _ _ => rfl)).symm
theorem sH_sH {h : XH} {H : Nat} {V W : Hi} (P : PS H V.ps) (P' : PS H W.ps) : setH (setH h H V) H W = setH h H W := sH_eq P' (sH_is P') (fun i q => by rw [sHo P' q, sHo P q])
theorem sH_k {h : XH} {H : Nat} {V : Hi} (P : PS H V.ps) (x : Nat) : xup (setH h H V) H (.inr (1, [.ref (H + 1), .int (nI x)])) = setH h H (Hi.mk V.ps V.Ms x) := by
  rw [setH, setH, xup_xup]
def upM (f : Nat → Mo) (k : Nat) (M : Mo) : Nat → Mo := fun i => if i = k then M else f i
theorem sH_M {h : XH} {H k : Nat} {V : Hi} (P : PS H V.ps) (hk : k < 8) (M : Mo) : setM (setH h H V) (V.ps k) M = setH h H (Hi.mk V.ps (upM V.Ms k M) V.known) := by
  have r := P.rng hk
  obtain ⟨a, b, c⟩ := sH_is (h := h) P
  refine sH_eq (V := (Hi.mk V.ps (upM V.Ms k M) V.known)) P ⟨by rw [sMo _ _ (by omega)]; exact a, by rw [sMo _ _ (by omega)]; exact b, fun j hj => ?_⟩ (fun i q => by rw [sMo _ _ (by omega), sHo P q])
  show IsM _ (V.ps j) (upM V.Ms k M j)
  by_cases q : j = k
  · rw [q, upM, if_pos rfl]
    exact sM_is _ _ _
  · rw [upM, if_neg q]
    exact (c j hj).off _ (P.far hj hk q)
theorem c_X1_forgetUnlessFull {d H : Nat} {h : XH} {V : Hi} {x : Int32} (P : PS H V.ps) : MetV mX1_forgetUnlessFull (d, 0, 0) [.ref H, .int x] (setH h H V) (if x = -3 then setH h H V else setH h H (Hi.mk V.ps V.Ms 0)) := by
  have z0 := (sH_is (h := h) P).1
  refine MetX.of (by decide) rfl (Nat.le_of_ble_eq_true rfl) ?_
  refine X.iload iX1_forgetUnlessFull_0 rfl ?_
  refine X.pushi iX1_forgetUnlessFull_1 ?_
  refine X.cmeq iX1_forgetUnlessFull_3 (fun c3 => ?_) (fun c3 => ?_)
  · first
    | (refine X.vret iX1_forgetUnlessFull_11 ⟨rfl, ?_⟩; rw [if_pos c3])
    | (refine X.vret iX1_forgetUnlessFull_11 ⟨rfl, ?_⟩; rw [if_neg c3]; exact sH_k P 0)
  · refine X.aload iX1_forgetUnlessFull_6 rfl ?_
    refine X.pushi (v := nI 0) iX1_forgetUnlessFull_7 ?_
    refine X.puti iX1_forgetUnlessFull_8 (by first | rfl | repeat (first | assumption | exact xup_eq _ _ _ | rw [xup_ne _ _ (by first | decide | omega | assumption)])) (Nat.le_of_ble_eq_true rfl) ?_
    first
    | (refine X.vret iX1_forgetUnlessFull_11 ⟨rfl, ?_⟩; rw [if_pos c3])
    | (refine X.vret iX1_forgetUnlessFull_11 ⟨rfl, ?_⟩; rw [if_neg c3]; exact sH_k P 0)
def shP (ps : Nat → Nat) (k : Nat) : Nat → Nat := fun i => if i + 1 < k then ps (i + 1) else ps i
def rotP (ps : Nat → Nat) : Nat → Nat := fun i => if i = 7 then ps 0 else shP ps 8 i
theorem rotP_a (ps : Nat → Nat) {i : Nat} (h : i < 7) : rotP ps i = ps (i + 1) := by rw [rotP, if_neg (by omega), shP, if_pos (by omega)]
theorem rotP_b (ps : Nat → Nat) : rotP ps 7 = ps 0 := if_pos rfl
def rotM (Ms : Nat → Mo) : Nat → Mo := fun i => if i < 7 then Ms (i + 1) else Ms 0
def rotH (V : Hi) : Hi := (Hi.mk (rotP V.ps) (rotM V.Ms) 7)
theorem rotP_ok {H : Nat} {ps : Nat → Nat} (P : PS H ps) : PS H (rotP ps) := by
  obtain ⟨p1, p2, p3⟩ := P
  have r : ∀ k, k < 8 → ∃ k', k' < 8 ∧ rotP ps k = ps k' ∧ ((k < 7 ∧ k' = k + 1) ∨ (k = 7 ∧ k' = 0)) := by
    intro k hk
    by_cases q : k < 7
    · exact ⟨k + 1, by omega, rotP_a ps q, Or.inl ⟨q, rfl⟩⟩
    · have e : k = 7 := by omega
      subst e
      exact ⟨0, by omega, rotP_b ps, Or.inr ⟨rfl, rfl⟩⟩
  refine ⟨fun k hk => ?_, fun j hj => ?_, fun i k hi hk q => ?_⟩
  · obtain ⟨k', h1, h2, h3⟩ := r k hk
    rw [h2]
    exact p1 k' h1
  · obtain ⟨k, hk, ek⟩ := p2 j hj
    by_cases q : k = 0
    · exact ⟨7, by omega, by rw [rotP_b, ← q]; exact ek⟩
    · exact ⟨k - 1, by omega, by rw [rotP_a ps (by omega), show k - 1 + 1 = k by omega]; exact ek⟩
  · obtain ⟨k', h1, h2, h3⟩ := r k hk
    obtain ⟨i', g1, g2, g3⟩ := r i hi
    rw [h2, g2] at q
    have := p3 _ _ g1 h1 q
    omega
theorem shP_1 (ps : Nat → Nat) : shP ps 1 = ps := by
  funext i
  rw [shP, if_neg (by omega)]
theorem va_upQ (ps : Nat → Nat) (i v : Nat) : va_up (fun i => some (ps i)) i (some v) = fun j => some (if j = i then v else ps j) := by
  funext j
  unfold va_up
  by_cases q : j = i
  · simp [q]
  · simp [q]
theorem shP_s (ps : Nat → Nat) (k : Nat) : (fun j => if j = k then ps (k + 1) else shP ps (k + 1) j) = shP ps (k + 2) := by
  funext j
  by_cases q : j = k
  · rw [if_pos q, shP, if_pos (by omega), q]
  · rw [if_neg q, shP, shP]
    by_cases r : j + 1 < k + 1
    · rw [if_pos r, if_pos (by omega)]
    · rw [if_neg r, if_neg (by omega)]
theorem sH_rot {h : XH} {H : Nat} {V : Hi} (P : PS H V.ps) : xup (xup (setH h H V) (H + 1) (QA (fun j => if j = 7 then V.ps 0 else shP V.ps 8 j))) H (.inr (1, [.ref (H + 1), .int (nI 7)])) = setH h H (rotH V) := by
  obtain ⟨a, b, c⟩ := sH_is (h := h) P
  have P' : PS H (rotH V).ps := rotP_ok P
  refine sH_eq P' ⟨xup_eq _ _ _, ?_, fun k hk => ?_⟩ (fun i q => by rw [xup_ne _ _ (by omega), xup_ne _ _ (by omega), sHo P q])
  · rw [xup_ne _ _ (by omega), xup_eq]
    rfl
  · have r := P'.rng hk
    have e : IsM (setH h H V) ((rotH V).ps k) ((rotH V).Ms k) := by
      show IsM (setH h H V) (rotP V.ps k) (rotM V.Ms k)
      unfold rotM
      by_cases q : k < 7
      · rw [if_pos q, rotP_a V.ps q]
        exact c (k + 1) (by omega)
      · have e : k = 7 := by omega
        subst e
        rw [if_neg q, rotP_b]
        exact c 0 (by omega)
    obtain ⟨e0, e1, e2⟩ := e
    exact ⟨by rw [xup_ne _ _ (by omega), xup_ne _ _ (by omega)]; exact e0, by rw [xup_ne _ _ (by omega), xup_ne _ _ (by omega)]; exact e1, by rw [xup_ne _ _ (by omega), xup_ne _ _ (by omega)]; exact e2⟩
theorem vp_inN {k n : Nat} (h : k < n) (hn : n < 2 ^ 31) : vp_in (nI k) n := by
  intro q
  rcases q with q | q
  · rw [Int32.lt_iff_toInt_lt, nI_toInt (by omega)] at q
    exact absurd q (by show ¬ ((k : Int) < 0); omega)
  · rw [nI_clamp (by omega)] at q
    omega
theorem c_X1_forgetOldest {d H : Nat} {h : XH} {V : Hi} (P : PS H V.ps) : MetV mX1_forgetOldest (d, 0, 0) [.ref H] (setH h H V) (setH h H (rotH V)) := by
  obtain ⟨z0, z1, z2⟩ := sH_is (h := h) P
  have zH : ∀ f, xup (setH h H V) (H + 1) (QA f) H = some (.inr (1, [.ref (H + 1), .int (nI V.known)])) := fun f => by rw [xup_ne _ _ (by omega)]; exact z0
  have zM : ∀ f k, k < 8 → xup (setH h H V) (H + 1) (QA f) (V.ps k) = some (.inr (2, moS (V.ps k) (V.Ms k))) := fun f k hk => by
    have := P.rng hk
    rw [xup_ne _ _ (by omega)]
    exact (z2 k hk).1
  have L : ∀ k, k ≤ 7 → X xT mX1_forgetOldest (xR (d, 0, 0)) (0, 0) 9 [some (.ref H), some (.ref (V.ps 0)), some (.int (nI (k + 1)))] [] (xup (setH h H V) (H + 1) (QA (shP V.ps (k + 1)))) (fun v h' => v = none ∧ h' = setH h H (rotH V)) := by
    refine xloop 7 ?_ ?_
    · refine X.iload iX1_forgetOldest_9 rfl ?_
      refine X.pushi (v := nI 8) iX1_forgetOldest_10 ?_
      refine X.cmge iX1_forgetOldest_12 (fun c12 => ?_) (fun c12 => ?_)
      · refine X.aload iX1_forgetOldest_35 rfl ?_
        refine X.getf iX1_forgetOldest_36 (zH _) rfl ?_
        refine X.pushi (v := nI 7) iX1_forgetOldest_39 ?_
        refine X.aload iX1_forgetOldest_41 rfl ?_
        refine X.aast iX1_forgetOldest_42 (Or.inl rfl) rfl (xup_eq _ _ _) (zM _ 0 (by omega)) (vp_inN (by decide) (by decide)) ?_
        refine X.heap (h' := xup (setH h H V) (H + 1) (QA (rotP V.ps))) (by rw [xup_xup]; exact congrArg (fun f => xup (setH h H V) (H + 1) (.inl (.object RX2, 8, .inr (.inr (.inr (.inr f)))))) (va_upQ _ _ _)) ?_
        refine X.aload iX1_forgetOldest_43 rfl ?_
        refine X.pushi (v := nI 7) iX1_forgetOldest_44 ?_
        refine X.puti iX1_forgetOldest_46 (zH _) (Nat.le_of_ble_eq_true rfl) ?_
        exact X.vret iX1_forgetOldest_49 ⟨rfl, sH_rot P⟩
      · exact absurd (Int32.le_refl _) c12
    · intro k hk ih
      refine X.iload iX1_forgetOldest_9 rfl ?_
      refine X.pushi (v := nI 8) iX1_forgetOldest_10 ?_
      refine X.cmge iX1_forgetOldest_12 (fun c12 => ?_) (fun c12 => ?_)
      · exact absurd c12 (nI_ge (show k + 1 < 8 by omega) (by omega))
      · refine X.aload iX1_forgetOldest_15 rfl ?_
        refine X.getf iX1_forgetOldest_16 (zH _) rfl ?_
        refine X.iload iX1_forgetOldest_19 rfl ?_
        refine X.pushi (v := nI 1) iX1_forgetOldest_20 ?_
        refine X.isub iX1_forgetOldest_21 ?_
        rw [nI_pred1]
        refine X.aload iX1_forgetOldest_22 rfl ?_
        refine X.getf iX1_forgetOldest_23 (zH _) rfl ?_
        refine X.iload iX1_forgetOldest_26 rfl ?_
        refine X.aald (q := V.ps (k + 1)) iX1_forgetOldest_27 (Or.inl rfl) (xup_eq _ _ _) (vp_inN (show k + 1 < 8 by omega) (by decide)) (by rw [nI_clamp (by omega), shP, if_neg (by omega)]) ?_
        refine X.aast iX1_forgetOldest_28 (Or.inl rfl) rfl (xup_eq _ _ _) (zM _ (k + 1) (by omega)) (vp_inN (show k < 8 by omega) (by decide)) ?_
        refine X.heap (h' := xup (setH h H V) (H + 1) (QA (shP V.ps (k + 2)))) (by rw [xup_xup, nI_clamp (by omega), ← shP_s]; exact congrArg (fun f => xup (setH h H V) (H + 1) (.inl (.object RX2, 8, .inr (.inr (.inr (.inr f)))))) (va_upQ _ _ _)) ?_
        refine X.iinc iX1_forgetOldest_29 rfl rfl rfl ?_
        refine X.goto iX1_forgetOldest_32 ?_
        rw [nI_1]
        exact ih
  refine MetX.of (by decide) rfl (Nat.le_of_ble_eq_true rfl) ?_
  refine X.aload iX1_forgetOldest_0 rfl ?_
  refine X.getf iX1_forgetOldest_1 z0 rfl ?_
  refine X.pushi (v := nI 0) iX1_forgetOldest_4 ?_
  refine X.aald (q := V.ps 0) iX1_forgetOldest_5 (Or.inl rfl) z1 (vp_inN (by decide) (by decide)) rfl ?_
  refine X.astore iX1_forgetOldest_6 rfl rfl ?_
  refine X.pushi (v := nI 1) iX1_forgetOldest_7 ?_
  refine X.istore iX1_forgetOldest_8 rfl rfl ?_
  have p0 := L 0 (Nat.zero_le _)
  rw [shP_1, xup_self _ z1] at p0
  exact p0
theorem IsM.offH {h : XH} {m H : Nat} {N : Mo} {V : Hi} (HN : IsM h m N) (P : PS H V.ps) (q : m + 2 < H ∨ H + 25 < m) : IsM (setH h H V) m N := by
  obtain ⟨a, b, c⟩ := HN
  exact ⟨by rw [sHo P (by omega)]; exact a, by rw [sHo P (by omega)]; exact b, by rw [sHo P (by omega)]; exact c⟩
theorem IsO.offH {h : XH} {o H : Nat} {O : Oc} {V : Hi} (HO : IsO h o O) (P : PS H V.ps) (q : o + 5 < H ∨ H + 25 < o) : IsO (setH h H V) o O := by
  obtain ⟨a, b, c, d, e, f⟩ := HO
  exact ⟨by rw [sHo P (by omega)]; exact a, by rw [sHo P (by omega)]; exact b, by rw [sHo P (by omega)]; exact c, by rw [sHo P (by omega)]; exact d, by rw [sHo P (by omega)]; exact e, by rw [sHo P (by omega)]; exact f⟩
/-- a moment is remembered -/
def remH (V : Hi) (N : Mo) : Hi := (Hi.mk V.ps (upM V.Ms V.known (cpM N (V.Ms V.known))) (V.known + 1))
def remF (V : Hi) (N : Mo) : Hi := if V.known = 8 then remH (rotH V) N else remH V N
theorem remF_ps {H : Nat} {V : Hi} {N : Mo} (P : PS H V.ps) : PS H (remF V N).ps := by
  unfold remF
  split
  · exact rotP_ok P
  · exact P
theorem remF_le {V : Hi} {N : Mo} (hk : V.known ≤ 8) : (remF V N).known ≤ 8 := by
  unfold remF
  split
  · exact Nat.le_refl 8
  · show V.known + 1 ≤ 8
    omega
theorem rem_tail {d H m : Nat} {h : XH} {V : Hi} {N : Mo} (P : PS H V.ps) (hk : V.known < 8) (HN : IsM h m N) (q : m + 2 < H ∨ H + 25 < m) : X xT mX1_remember (xR (d + 2, 0, 0)) (0, 0) 13 [some (.ref H), some (.ref m)] [] (setH h H V) (fun v h' => v = none ∧ h' = setH h H (remH V N)) := by
  obtain ⟨z0, z1, z2⟩ := sH_is (h := h) P
  have r := P.rng hk
  have HN' := HN.offH P q
  have B := c_X2_become (d := d) (m := V.ps V.known) (M := V.Ms V.known) HN' (by omega)
  rw [(z2 _ hk).set, sH_M P hk] at B
  have y0 := (sH_is (h := h) (V := (Hi.mk V.ps (upM V.Ms V.known (cpM N (V.Ms V.known))) V.known)) P).1
  refine X.aload iX1_remember_13 rfl ?_
  refine X.getf iX1_remember_14 (by first | rfl | repeat (first | assumption | exact xup_eq _ _ _ | rw [xup_ne _ _ (by first | decide | omega | assumption)])) rfl ?_
  refine X.aload iX1_remember_17 rfl ?_
  refine X.getf iX1_remember_18 (by first | rfl | repeat (first | assumption | exact xup_eq _ _ _ | rw [xup_ne _ _ (by first | decide | omega | assumption)])) rfl ?_
  refine X.aald (q := V.ps V.known) iX1_remember_21 (Or.inl rfl) z1 (vp_inN hk (by decide)) (by rw [nI_clamp (by omega)]) ?_
  refine X.aload iX1_remember_22 rfl ?_
  refine X.callVv iX1_remember_23 B (z2 _ hk).1 rfl rfl (xfit _ _ _) (Nat.le_of_ble_eq_true rfl) ?_
  refine X.aload iX1_remember_26 rfl ?_
  refine X.dupa iX1_remember_27 ?_
  refine X.getf iX1_remember_28 (by first | rfl | repeat (first | assumption | exact xup_eq _ _ _ | rw [xup_ne _ _ (by first | decide | omega | assumption)])) rfl ?_
  refine X.pushi (v := nI 1) iX1_remember_31 ?_
  refine X.iadd iX1_remember_32 ?_
  refine X.puti iX1_remember_33 (by first | rfl | repeat (first | assumption | exact xup_eq _ _ _ | rw [xup_ne _ _ (by first | decide | omega | assumption)])) (Nat.le_of_ble_eq_true rfl) ?_
  rw [nI_add]
  exact X.vret iX1_remember_36 ⟨rfl, sH_k (V := (Hi.mk V.ps (upM V.Ms V.known (cpM N (V.Ms V.known))) V.known)) P _⟩
theorem c_X1_remember {d H m : Nat} {h : XH} {V : Hi} {N : Mo} (P : PS H V.ps) (hk : V.known ≤ 8) (HN : IsM h m N) (q : m + 2 < H ∨ H + 25 < m) : MetV mX1_remember (d + 2, 0, 0) [.ref H, .ref m] (setH h H V) (setH h H (remF V N)) := by
  obtain ⟨z0, z1, z2⟩ := sH_is (h := h) P
  refine MetX.of (by decide) rfl (Nat.le_of_ble_eq_true rfl) ?_
  unfold remF
  by_cases e : V.known = 8
  · rw [if_pos e]
    refine X.aload iX1_remember_0 rfl ?_
    refine X.getf iX1_remember_1 (by first | rfl | repeat (first | assumption | exact xup_eq _ _ _ | rw [xup_ne _ _ (by first | decide | omega | assumption)])) rfl ?_
    refine X.pushi (v := nI 8) iX1_remember_4 ?_
    refine X.cmlt iX1_remember_6 (fun c6 => ?_) (fun c6 => ?_)
    · exact absurd c6 (by rw [e]; decide)
    · refine X.aload iX1_remember_9 rfl ?_
      refine X.callVv iX1_remember_10 (c_X1_forgetOldest (d := d + 1) P) (by first | rfl | repeat (first | assumption | exact xup_eq _ _ _ | rw [xup_ne _ _ (by first | decide | omega | assumption)])) rfl rfl (xfit _ _ _) (Nat.le_of_ble_eq_true rfl) ?_
      exact rem_tail (V := rotH V) (rotP_ok P) (show 7 < 8 by omega) HN q
  · rw [if_neg e]
    refine X.aload iX1_remember_0 rfl ?_
    refine X.getf iX1_remember_1 (by first | rfl | repeat (first | assumption | exact xup_eq _ _ _ | rw [xup_ne _ _ (by first | decide | omega | assumption)])) rfl ?_
    refine X.pushi (v := nI 8) iX1_remember_4 ?_
    refine X.cmlt iX1_remember_6 (fun c6 => ?_) (fun c6 => ?_)
    · exact rem_tail P (by omega) HN q
    · exact absurd (nI_lt' (show V.known < 8 by omega) (by decide)) c6
def popH (V : Hi) : Hi := (Hi.mk V.ps V.Ms (V.known - 1))
theorem c_X1_putBack {d H m : Nat} {h : XH} {V : Hi} {N : Mo} (P : PS H V.ps) (hk : V.known ≤ 8) (HN : IsM h m N) (q : m + 2 < H ∨ H + 25 < m) : MetH mX1_putBack (d + 2, 0, 0) [.ref H, .ref m] (setH h H V) (if V.known = 0 then -4 else nI (V.known - 1)) (if V.known = 0 then setH h H V else setM (setH h H (popH V)) m (cpM (V.Ms (V.known - 1)) N)) := by
  obtain ⟨z0, z1, z2⟩ := sH_is (h := h) P
  refine MetX.of (by decide) rfl (Nat.le_of_ble_eq_true rfl) ?_
  by_cases e : V.known = 0
  · rw [if_pos e, if_pos e]
    refine X.aload iX1_putBack_0 rfl ?_
    refine X.getf iX1_putBack_1 (by first | rfl | repeat (first | assumption | exact xup_eq _ _ _ | rw [xup_ne _ _ (by first | decide | omega | assumption)])) rfl ?_
    refine X.ifgt iX1_putBack_4 (fun c4 => ?_) (fun c4 => ?_)
    · exact absurd c4 (by rw [e]; decide)
    · refine X.pushi iX1_putBack_7 ?_
      exact X.iret iX1_putBack_9 ⟨rfl, rfl⟩
  · rw [if_neg e, if_neg e]
    have hk' : V.known - 1 < 8 := by omega
    have r := P.rng hk'
    obtain ⟨y0, y1, y2⟩ := sH_is (h := h) (V := popH V) P
    have HN' : IsM (setH h H (popH V)) m N := HN.offH (V := popH V) P q
    have ep : (popH V).ps = V.ps := rfl
    have B := c_X2_become (d := d) (m := m) (M := N) (y2 _ hk') (by rw [ep]; omega)
    rw [HN'.set] at B
    have e1 : nI V.known - nI 1 = nI (V.known - 1) := by
      have := nI_pred1 (V.known - 1)
      rw [show V.known - 1 + 1 = V.known by omega] at this
      exact this
    refine X.aload iX1_putBack_0 rfl ?_
    refine X.getf iX1_putBack_1 (by first | rfl | repeat (first | assumption | exact xup_eq _ _ _ | rw [xup_ne _ _ (by first | decide | omega | assumption)])) rfl ?_
    refine X.ifgt iX1_putBack_4 (fun c4 => ?_) (fun c4 => ?_)
    · refine X.aload iX1_putBack_10 rfl ?_
      refine X.dupa iX1_putBack_11 ?_
      refine X.getf iX1_putBack_12 (by first | rfl | repeat (first | assumption | exact xup_eq _ _ _ | rw [xup_ne _ _ (by first | decide | omega | assumption)])) rfl ?_
      refine X.pushi (v := nI 1) iX1_putBack_15 ?_
      refine X.isub iX1_putBack_16 ?_
      refine X.puti iX1_putBack_17 (by first | rfl | repeat (first | assumption | exact xup_eq _ _ _ | rw [xup_ne _ _ (by first | decide | omega | assumption)])) (Nat.le_of_ble_eq_true rfl) ?_
      rw [e1]
      refine X.heap (h' := setH h H (popH V)) (sH_k P _) ?_
      refine X.aload iX1_putBack_20 rfl ?_
      refine X.aload iX1_putBack_21 rfl ?_
      refine X.getf iX1_putBack_22 (by first | rfl | repeat (first | assumption | exact xup_eq _ _ _ | rw [xup_ne _ _ (by first | decide | omega | assumption)])) rfl ?_
      refine X.aload iX1_putBack_25 rfl ?_
      refine X.getf iX1_putBack_26 (by first | rfl | repeat (first | assumption | exact xup_eq _ _ _ | rw [xup_ne _ _ (by first | decide | omega | assumption)])) rfl ?_
      refine X.aald (q := V.ps (V.known - 1)) iX1_putBack_29 (Or.inl rfl) y1 (vp_inN hk' (by decide)) (congrArg (fun i => some (V.ps i)) (nI_clamp (show V.known - 1 < 2 ^ 31 by omega))) ?_
      refine X.callVv iX1_putBack_30 B HN'.1 rfl rfl (xfit _ _ _) (Nat.le_of_ble_eq_true rfl) ?_
      refine X.aload iX1_putBack_33 rfl ?_
      refine X.getf iX1_putBack_34 (by rw [sMo _ _ (by omega)]; exact y0) rfl ?_
      exact X.iret iX1_putBack_37 ⟨rfl, rfl⟩
    · exact absurd (nI_lt' (show 0 < V.known by omega) (by omega)) c4
/-- one history becomes another -/
def bcM (A B : Hi) : Nat → Nat → Mo
  | 0 => A.Ms
  | k + 1 => upM (bcM A B k) k (cpM (B.Ms k) (A.Ms k))
theorem bcM_ge (A B : Hi) : ∀ k i, k ≤ i → bcM A B k i = A.Ms i
  | 0, _, _ => rfl
  | k + 1, i, h => by
    rw [bcM, upM, if_neg (by omega)]
    exact bcM_ge A B k i (by omega)
def bcH (A B : Hi) (k : Nat) : Hi := (Hi.mk A.ps (bcM A B k) B.known)
theorem c_X1_become {d H G : Nat} {h : XH} {A B : Hi} (P : PS H A.ps) (P' : PS G B.ps) (HB : IsH h G B) (hk : B.known ≤ 8) (q : G + 25 < H ∨ H + 25 < G) : MetV mX1_become (d + 2, 0, 0) [.ref H, .ref G] (setH h H A) (setH h H (bcH A B B.known)) := by
  have zG : ∀ V : Hi, PS H V.ps → IsH (setH h H V) G B := fun V PV => by
    obtain ⟨a, b, c⟩ := HB
    refine ⟨by rw [sHo PV (by omega)]; exact a, by rw [sHo PV (by omega)]; exact b, fun k hk => ?_⟩
    have r := P'.rng hk
    obtain ⟨c0, c1, c2⟩ := c k hk
    exact ⟨by rw [sHo PV (by omega)]; exact c0, by rw [sHo PV (by omega)]; exact c1, by rw [sHo PV (by omega)]; exact c2⟩
  have L : ∀ k, k ≤ B.known → X xT mX1_become (xR (d + 2, 0, 0)) (0, 0) 10 [some (.ref H), some (.ref G), some (.int (nI k))] [] (setH h H (bcH A B k)) (fun v h' => v = none ∧ h' = setH h H (bcH A B B.known)) := by
    refine xloop B.known ?_ ?_
    · obtain ⟨y0, y1, y2⟩ := sH_is (h := h) (V := bcH A B B.known) P
      refine X.iload iX1_become_10 rfl ?_
      refine X.aload iX1_become_11 rfl ?_
      refine X.getf iX1_become_12 (by first | rfl | repeat (first | assumption | exact xup_eq _ _ _ | rw [xup_ne _ _ (by first | decide | omega | assumption)])) rfl ?_
      refine X.cmge iX1_become_15 (fun c15 => ?_) (fun c15 => ?_)
      · exact X.vret iX1_become_39 ⟨rfl, rfl⟩
      · exact absurd (Int32.le_refl _) c15
    · intro k hk' ih
      have P1 : PS H (bcH A B k).ps := P
      obtain ⟨y0, y1, y2⟩ := sH_is (h := h) (V := bcH A B k) P
      obtain ⟨g0, g1, g2⟩ := zG (bcH A B k) P1
      have r := P1.rng (show k < 8 by omega)
      have r' := P'.rng (show k < 8 by omega)
      have C := c_X2_become (d := d) (m := (bcH A B k).ps k) (M := (bcH A B k).Ms k) (g2 k (by omega)) (by omega)
      rw [(y2 k (by omega)).set] at C
      have e := sH_M (h := h) P1 (show k < 8 by omega) (cpM (B.Ms k) ((bcH A B k).Ms k))
      have em : (bcH A B k).Ms k = A.Ms k := bcM_ge A B k k (Nat.le_refl _)
      rw [show setM (setH h H (bcH A B k)) ((bcH A B k).ps k) (cpM (B.Ms k) ((bcH A B k).Ms k)) = setH h H (bcH A B (k + 1)) from by rw [e, em]; rfl] at C
      refine X.iload iX1_become_10 rfl ?_
      refine X.aload iX1_become_11 rfl ?_
      refine X.getf iX1_become_12 (by first | rfl | repeat (first | assumption | exact xup_eq _ _ _ | rw [xup_ne _ _ (by first | decide | omega | assumption)])) rfl ?_
      refine X.cmge iX1_become_15 (fun c15 => ?_) (fun c15 => ?_)
      · exact absurd c15 (nI_ge hk' (show B.known < 2 ^ 31 by omega))
      · refine X.aload iX1_become_18 rfl ?_
        refine X.getf iX1_become_19 (by first | rfl | repeat (first | assumption | exact xup_eq _ _ _ | rw [xup_ne _ _ (by first | decide | omega | assumption)])) rfl ?_
        refine X.iload iX1_become_22 rfl ?_
        refine X.aald (q := A.ps k) iX1_become_23 (Or.inl rfl) y1 (vp_inN (show k < 8 by omega) (by decide)) (by rw [nI_clamp (by omega)]; rfl) ?_
        refine X.aload iX1_become_24 rfl ?_
        refine X.getf iX1_become_25 (by first | rfl | repeat (first | assumption | exact xup_eq _ _ _ | rw [xup_ne _ _ (by first | decide | omega | assumption)])) rfl ?_
        refine X.iload iX1_become_28 rfl ?_
        refine X.aald (q := B.ps k) iX1_become_29 (Or.inl rfl) g1 (vp_inN (show k < 8 by omega) (by decide)) (by rw [nI_clamp (by omega)]) ?_
        refine X.callVv iX1_become_30 C (y2 k (by omega)).1 rfl rfl (xfit _ _ _) (Nat.le_of_ble_eq_true rfl) ?_
        refine X.iinc iX1_become_33 rfl rfl rfl ?_
        refine X.goto iX1_become_36 ?_
        rw [nI_1]
        exact ih
  obtain ⟨z0, z1, z2⟩ := sH_is (h := h) P
  obtain ⟨g0, g1, g2⟩ := zG A P
  refine MetX.of (by decide) rfl (Nat.le_of_ble_eq_true rfl) ?_
  refine X.aload iX1_become_0 rfl ?_
  refine X.aload iX1_become_1 rfl ?_
  refine X.getf iX1_become_2 (by first | rfl | repeat (first | assumption | exact xup_eq _ _ _ | rw [xup_ne _ _ (by first | decide | omega | assumption)])) rfl ?_
  refine X.puti iX1_become_5 (by first | rfl | repeat (first | assumption | exact xup_eq _ _ _ | rw [xup_ne _ _ (by first | decide | omega | assumption)])) (Nat.le_of_ble_eq_true rfl) ?_
  refine X.heap (h' := setH h H (bcH A B 0)) (sH_k P _) ?_
  refine X.pushi (v := nI 0) iX1_become_8 ?_
  refine X.istore iX1_become_9 rfl rfl ?_
  exact L 0 (Nat.zero_le _)
