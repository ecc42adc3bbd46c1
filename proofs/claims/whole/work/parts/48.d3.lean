/-! the class: days one after another, tree by tree -/
def sumI (f : Nat → Int32) : Nat → Int32
  | 0 => nI 0
  | k + 1 => sumI f k + f k
theorem sumI_cong {f g : Nat → Int32} : ∀ n, (∀ t, t < n → f t = g t) → sumI f n = sumI g n
  | 0, _ => rfl
  | n + 1, h => by rw [sumI, sumI, sumI_cong n (fun t ht => h t (by omega)), h n (by omega)]
theorem add4 (a b c d : Int32) : a + b + (c + d) = a + c + (b + d) := by
  rw [Int32.add_assoc, Int32.add_assoc, ← Int32.add_assoc b c d, Int32.add_comm b c, Int32.add_assoc c b d]
theorem sumI_add (f g : Nat → Int32) : ∀ n, sumI (fun t => f t + g t) n = sumI f n + sumI g n
  | 0 => rfl
  | n + 1 => by rw [sumI, sumI, sumI, sumI_add f g n, add4]
theorem addsub (a b : Int32) : a + b - a = b := by rw [Int32.add_comm, Int32.add_sub_cancel]
def atL (ln : Nat → Int32) (t : Nat) : Int32 := bits (fun l => decide (ln l = nI t)) 4
theorem atM_L (M : Mo) (t : Nat) : atM M t = atL M.ln t := rfl
theorem atL_tst {ln : Nat → Int32} {t l : Nat} (hl : l < 4) : tst (atL ln t) l = decide (ln l = nI t) := tst_bits _ (Nat.le_refl _) hl
theorem tkM_c {O : Oc} {M N : Mo} {t : Nat} (h1 : N.ln = M.ln) (h2 : N.day = M.day) (h3 : N.fr t = M.fr t) : tkM O N t = tkM O M t := by
  unfold tkM
  rw [h2, h3, atM_L, atM_L, h1]
theorem stM_c {O : Oc} {M N : Mo} {t : Nat} (h1 : N.ln = M.ln) (h2 : N.day = M.day) (h3 : N.fr t = M.fr t) : stM O N t = stM O M t := by
  unfold stM
  rw [tkM_c h1 h2 h3, h2, h3]
theorem trsM_o (O : Oc) (M : Mo) : ∀ k, (trsM O M k).ln = M.ln ∧ (trsM O M k).day = M.day ∧ (∀ t, k ≤ t → (trsM O M k).fr t = M.fr t) ∧ (∀ t, t < k → (trsM O M k).fr t = M.fr t - (tkM O M t + stM O M t)) ∧ (trsM O M k).got = M.got + sumI (tkM O M) k := by
  intro k
  induction k with
  | zero => exact ⟨rfl, rfl, fun _ _ => rfl, fun t ht => absurd ht (Nat.not_lt_zero _), by rw [sumI, nI_sub0]; rfl⟩
  | succ k ih =>
    obtain ⟨i1, i2, i3, i4, i5⟩ := ih
    rw [show trsM O M (k + 1) = trM O (trsM O M k) k from rfl]
    generalize trsM O M k = N at i1 i2 i3 i4 i5
    have et := tkM_c (O := O) i1 i2 (i3 k (Nat.le_refl _))
    have es := stM_c (O := O) i1 i2 (i3 k (Nat.le_refl _))
    refine ⟨i1, i2, fun t ht => ?_, fun t ht => ?_, ?_⟩
    · show upd N.fr k (N.fr k - (tkM O N k + stM O N k)) t = _
      rw [upd_ne _ _ (by omega)]
      exact i3 t (by omega)
    · show upd N.fr k (N.fr k - (tkM O N k + stM O N k)) t = _
      by_cases q : t = k
      · subst q
        rw [upd_eq, et, es, i3 t (Nat.le_refl _)]
      · rw [upd_ne _ _ q]
        exact i4 t (by omega)
    · show N.got + tkM O N k = _
      rw [i5, et, Int32.add_assoc]
      rfl
theorem passM_o (O : Oc) (M : Mo) : (passM O M).ln = M.ln ∧ (passM O M).day = M.day + nI 1 ∧ (∀ t, t < O.nT → (passM O M).fr t = M.fr t - (tkM O M t + stM O M t)) ∧ (passM O M).got = M.got + sumI (tkM O M) O.nT := by
  unfold passM
  have po := payM_o O M O.nL
  have pl := payM_ln O M O.nL
  generalize payM O M O.nL = N at po pl
  obtain ⟨p1, p2, p3, p4, p5⟩ := po
  obtain ⟨i1, i2, i3, i4, i5⟩ := trsM_o O N O.nT
  generalize trsM O N O.nT = K at i1 i2 i3 i4 i5
  refine ⟨i1.trans pl, ?_, fun t ht => ?_, ?_⟩
  · show K.day + nI 1 = _
    rw [i2, p4]
  · show K.fr t = _
    rw [i4 t ht, tkM_c pl p4 (by rw [p1]), stM_c pl p4 (by rw [p1]), p1]
  · show K.got = _
    rw [i5, p2, sumI_cong O.nT (fun t _ => tkM_c pl p4 (by rw [p1]))]
def tk1 (O : Oc) (t : Nat) (day s fr size : Int32) : Int32 := tkI O.hi O.ri O.ki O.le t O.nL day s fr size
/-- a tree's fruit, and what is got there, when the set S k of ladders is there on the k-th day -/
def gS (O : Oc) (fr day : Int32) (t : Nat) (S : Nat → Int32) (size : Int32) : Nat → Int32 × Int32
  | 0 => (fr, nI 0)
  | k + 1 => ((gS O fr day t S size k).1 - tk1 O t (day + nI k) (S k) (gS O fr day t S size k).1 size - stI O.ri t (day + nI k) ((gS O fr day t S size k).1 - tk1 O t (day + nI k) (S k) (gS O fr day t S size k).1 size) O.wa, (gS O fr day t S size k).2 + tk1 O t (day + nI k) (S k) (gS O fr day t S size k).1 size)
theorem gwS_eq (O : Oc) (fr day : Int32) (t : Nat) (s guest visits size : Int32) : ∀ k, gwS O fr day t s guest visits size k = gS O fr day t (fun k => if tst visits k = true then s ||| guest else s) size k
  | 0 => rfl
  | k + 1 => by
    rw [gwS, gS, gwS_eq O fr day t s guest visits size k]
    rfl
theorem tkI_cong {hi ri ki le : Nat → Int32} {t nL : Nat} {day s s' fr size : Int32} (h : ∀ l, l < nL → tst s l = tst s' l) : tkI hi ri ki le t nL day s fr size = tkI hi ri ki le t nL day s' fr size := by
  unfold tkI tkB
  rw [bits_cong (b := rsB hi ki le t day s) (c := rsB hi ki le t day s') nL (fun l hl => by rw [rsB, rsB, h l hl])]
theorem gS_cong {O : Oc} {fr day size : Int32} {t : Nat} {S S' : Nat → Int32} : ∀ n, (∀ k, k < n → ∀ l, l < O.nL → tst (S k) l = tst (S' k) l) → gS O fr day t S size n = gS O fr day t S' size n
  | 0, _ => rfl
  | n + 1, h => by
    have e : tk1 O t (day + nI n) (S n) (gS O fr day t S' size n).1 size = tk1 O t (day + nI n) (S' n) (gS O fr day t S' size n).1 size := tkI_cong (h n (by omega))
    rw [gS, gS, gS_cong n (fun k hk => h k (by omega)), e]
/-- days, each begun with other leans -/
def runM (O : Oc) (L : Nat → Nat → Int32) (M : Mo) : Nat → Mo
  | 0 => M
  | k + 1 => passM O (Mo.mk (runM O L M k).fr (L k) (runM O L M k).got (runM O L M k).paid (runM O L M k).lost (runM O L M k).day (runM O L M k).draw)
theorem run_o (O : Oc) (L : Nat → Nat → Int32) (M : Mo) : ∀ k, (runM O L M k).day = M.day + nI k ∧ (∀ t, t < O.nT → (runM O L M k).fr t = (gS O (M.fr t) M.day t (fun j => atL (L j) t) O.ba k).1) ∧ (runM O L M k).got = M.got + sumI (fun t => (gS O (M.fr t) M.day t (fun j => atL (L j) t) O.ba k).2) O.nT := by
  intro k
  induction k with
  | zero =>
    refine ⟨by rw [nI_sub0]; rfl, fun _ _ => rfl, ?_⟩
    have z : ∀ n, sumI (fun t => (gS O (M.fr t) M.day t (fun j => atL (L j) t) O.ba 0).2) n = nI 0 := fun n => by
      induction n with
      | zero => rfl
      | succ n ih =>
        rw [sumI, ih]
        rfl
    rw [z, nI_sub0]
    rfl
  | succ k ih =>
    obtain ⟨i1, i2, i3⟩ := ih
    rw [show runM O L M (k + 1) = passM O (Mo.mk (runM O L M k).fr (L k) (runM O L M k).got (runM O L M k).paid (runM O L M k).lost (runM O L M k).day (runM O L M k).draw) from rfl]
    generalize runM O L M k = N at i1 i2 i3
    obtain ⟨-, p2, p3, p4⟩ := passM_o O (Mo.mk N.fr (L k) N.got N.paid N.lost N.day N.draw)
    have et : ∀ t, t < O.nT → tkM O (Mo.mk N.fr (L k) N.got N.paid N.lost N.day N.draw) t = tk1 O t (M.day + nI k) (atL (L k) t) (gS O (M.fr t) M.day t (fun j => atL (L j) t) O.ba k).1 O.ba := fun t ht => by
      unfold tkM
      rw [tk1, ← i2 t ht, ← i1]
      rfl
    have es : ∀ t, t < O.nT → stM O (Mo.mk N.fr (L k) N.got N.paid N.lost N.day N.draw) t = stI O.ri t (M.day + nI k) ((gS O (M.fr t) M.day t (fun j => atL (L j) t) O.ba k).1 - tk1 O t (M.day + nI k) (atL (L k) t) (gS O (M.fr t) M.day t (fun j => atL (L j) t) O.ba k).1 O.ba) O.wa := fun t ht => by
      unfold stM
      rw [et t ht, ← i2 t ht, ← i1]
    refine ⟨?_, fun t ht => ?_, ?_⟩
    · rw [p2]
      show N.day + nI 1 = _
      rw [i1, Int32.add_assoc, nI_add]
    · rw [p3 t ht, et t ht, es t ht, gS]
      show N.fr t - _ = _
      rw [i2 t ht, Int32.sub_sub]
    · rw [p4, sumI_cong O.nT et]
      show N.got + _ = _
      rw [i3, Int32.add_assoc, ← sumI_add]
      rfl
def passN (O : Oc) (M : Mo) : Nat → Mo
  | 0 => M
  | k + 1 => passM O (passN O M k)
theorem passN_ln (O : Oc) (M : Mo) : ∀ k, (passN O M k).ln = M.ln
  | 0 => rfl
  | k + 1 => by rw [passN, (passM_o O _).1, passN_ln O M k]
theorem passN_run (O : Oc) (M : Mo) : ∀ k, runM O (fun _ => M.ln) M k = passN O M k
  | 0 => rfl
  | k + 1 => by
    rw [runM, passN, passN_run O M k]
    congr 1
    rw [← passN_ln O M k]
theorem days_rel {O : Oc} {M : Mo} {nw : Nat → Int32} (h : RO O nw) (h2 : RM O.nT O.nL M nw) : ∀ k, RO O (gbN nw O.nT O.nL k) ∧ RM O.nT O.nL (passN O M k) (gbN nw O.nT O.nL k)
  | 0 => ⟨h, h2⟩
  | k + 1 => by
    obtain ⟨i1, i2⟩ := days_rel h h2 k
    exact day_rel i1 i2
/-- fruit and what is got, in numbers -/
theorem gS_N {O : Oc} {fr day : Int32} {t a b w : Nat} {S : Nat → Int32} (hL : O.nL ≤ 4) (ha : fr = nI a ∧ a ≤ 99) (hb : b ≤ 30) (hw : O.wa = nI w ∧ w ≤ 9) : ∀ k, ∃ x, x ≤ 99 ∧ (gS O fr day t S (nI b) k).1 = nI x ∧ (x = 0 → tk1 O t (day + nI k) (S k) (gS O fr day t S (nI b) k).1 (nI b) = nI 0 ∧ (gS O fr day t S (nI b) (k + 1)).1 = nI 0) := by
  have key : ∀ k x, x ≤ 99 → (gS O fr day t S (nI b) k).1 = nI x → ∃ y, y ≤ x ∧ tk1 O t (day + nI k) (S k) (gS O fr day t S (nI b) k).1 (nI b) = nI y ∧ ∃ z, z ≤ 99 ∧ z ≤ x ∧ (gS O fr day t S (nI b) (k + 1)).1 = nI z := by
    intro k x hx e
    have e1 : tk1 O t (day + nI k) (S k) (gS O fr day t S (nI b) k).1 (nI b) = nI (if decide (O.ri t ≤ day + nI k) = true then min x (b * cnt (rsB O.hi O.ki O.le t (day + nI k) (S k)) O.nL) else 0) := by
      rw [e, tk1, tkI_N hx hb hL]
    generalize hy : (if decide (O.ri t ≤ day + nI k) = true then min x (b * cnt (rsB O.hi O.ki O.le t (day + nI k) (S k)) O.nL) else 0) = y at e1
    have yx : y ≤ x := by
      rw [← hy]
      split <;> omega
    refine ⟨y, yx, e1, ?_⟩
    rw [gS, e1, e, pk_sub yx, hw.1, stI_N (by omega) hw.2]
    generalize hz : (if decide (O.ri t ≤ day + nI k) = true then min w (x - y) else 0) = z
    have zx : z ≤ x - y := by
      rw [← hz]
      split <;> omega
    exact ⟨x - y - z, by omega, by omega, pk_sub zx⟩
  have all : ∀ k, ∃ x, x ≤ 99 ∧ (gS O fr day t S (nI b) k).1 = nI x := by
    intro k
    induction k with
    | zero => exact ⟨a, ha.2, ha.1⟩
    | succ k ih =>
      obtain ⟨x, hx, e⟩ := ih
      obtain ⟨-, -, -, z, hz, -, ez⟩ := key k x hx e
      exact ⟨z, hz, ez⟩
  intro k
  obtain ⟨x, hx, e⟩ := all k
  refine ⟨x, hx, e, fun x0 => ?_⟩
  obtain ⟨y, hy, e1, z, -, hz, ez⟩ := key k x hx e
  have y0 : y = 0 := by omega
  have z0 : z = 0 := by omega
  exact ⟨by rw [e1, y0], by rw [ez, z0]⟩
theorem gS_stop {O : Oc} {fr day : Int32} {t a b w : Nat} {S : Nat → Int32} (hL : O.nL ≤ 4) (ha : fr = nI a ∧ a ≤ 99) (hb : b ≤ 30) (hw : O.wa = nI w ∧ w ≤ 9) {k : Nat} (h0 : (gS O fr day t S (nI b) k).1 = nI 0) : ∀ j, (gS O fr day t S (nI b) (k + j)).1 = nI 0 ∧ (gS O fr day t S (nI b) (k + j)).2 = (gS O fr day t S (nI b) k).2 := by
  intro j
  induction j with
  | zero => exact ⟨h0, rfl⟩
  | succ j ih =>
    obtain ⟨x, hx, e, f⟩ := gS_N (day := day) (t := t) (S := S) hL ha hb hw (k + j)
    have x0 : x = 0 := (nI_eq (by omega) (by decide)).mp (e.symm.trans ih.1)
    obtain ⟨f1, f2⟩ := f x0
    refine ⟨f2, ?_⟩
    rw [← Nat.add_assoc, gS, f1, ih.2]
    exact nI_sub0 _
theorem gwN_eq {O : Oc} {fr day s guest visits : Int32} {t a b w n : Nat} (hL : O.nL ≤ 4) (ha : fr = nI a ∧ a ≤ 99) (hb : b ≤ 30) (hw : O.wa = nI w ∧ w ≤ 9) : ∀ f k, k + f = n → gwN O fr day t s guest visits (nI b) n f k = (gS O fr day t (fun k => if tst visits k = true then s ||| guest else s) (nI b) n).2
  | 0, k, e => by
    rw [gwN, gwS_eq, show k = n by omega]
  | f + 1, k, e => by
    rw [gwN, if_pos (by omega), gwS_eq]
    by_cases q : 0 < (gS O fr day t (fun k => if tst visits k = true then s ||| guest else s) (nI b) k).1
    · rw [if_pos q]
      exact gwN_eq hL ha hb hw f (k + 1) (by omega)
    · rw [if_neg q]
      obtain ⟨x, hx, ex, -⟩ := gS_N (day := day) (t := t) (S := fun k => if tst visits k = true then s ||| guest else s) hL ha hb hw k
      have x0 : x = 0 := by
        by_cases z : x = 0
        · exact z
        · exact absurd (by rw [ex]; exact (nI_ltI (a := 0) (by decide) (by omega)).mpr (by omega)) q
      have st := gS_stop (day := day) (t := t) (S := fun k => if tst visits k = true then s ||| guest else s) hL ha hb hw (ex.trans (by rw [x0])) (n - k)
      rw [show k + (n - k) = n by omega] at st
      exact st.2.symm
theorem gwF_eq {O : Oc} {M : Mo} {s guest visits : Int32} {t a b w n : Nat} (hL : O.nL ≤ 4) (ha : M.fr t = nI a ∧ a ≤ 99) (hb : b ≤ 30) (hw : O.wa = nI w ∧ w ≤ 9) : gwF O M t s guest visits n (nI b) = (gS O (M.fr t) M.day t (fun k => if tst visits k = true then s ||| guest else s) (nI b) n).2 := gwN_eq hL ha hb hw n 0 (by omega)
