/-! the calls, one by one -/
theorem st_rule {a b : Int32} {h : XH} {O : Oc} {M : Mo} {V : Hi} {KO : Oc} {KM : Mo} {KV : Hi} {kb : Bool} {T : Ta} {S : Nat → Sh} {nw tp ro rd ud as kp la sz : Nat → Int32} {it mv : Nat → Int64} {ty pl : Int32} {fa : Bool} {un ku : Int32} {ik : Bool} (A : ALL h O M V KO KM KV kb T S nw tp ro rd ud as kp la sz it mv ty pl fa un ku ik) : STEP mX6_rule mX7_rule [.int a, .int b] h := by
  obtain ⟨H, E, ⟨o1, o2, o3, o4⟩, rK, rT, rS⟩ := id A
  rcases bcase (ruleOk a b) with hb | hb
  · have R : ∀ g : XH, MetH mX7_rule (6, 0, 0) [.ref 98, .int a, .int b] (mh g nw tp ro rd ud as kp la sz it mv ty pl fa un ku ik) (nw (6 + a.toNatClampNeg)) (mh g (upd nw (6 + a.toNatClampNeg) b) tp ro rd ud as kp la sz it mv ty pl fa un ku ik) := fun g => by
      have := c_X7_rule (d := 5) (h := g) (w := a) (v := b) (nw := nw) (tp := tp) (ro := ro) (rd := rd) (ud := ud) (as := as) (kp := kp) (la := la) (sz := sz) (it := it) (mv := mv) (ty := ty) (pl := pl) (fa := fa) (un := un) (ku := ku) (ik := ik)
      rw [ruleF, ruleN, if_pos hb, if_pos hb] at this
      exact this
    have hb2 := hb
    unfold ruleOk at hb2
    rw [Bool.or_eq_true_iff] at hb2
    rcases hb2 with q | q
    · obtain ⟨q1, q2⟩ := Bool.and_eq_true_iff.mp q
      obtain ⟨x, x1, x2, rfl⟩ := inI_nat (by decide) (by decide) q2
      obtain rfl : a = nI 0 := beq_iff_eq.mp q1
      rw [nI_clamp (by decide)] at R
      rw [show nw (6 + 0) = O.ba from o1.2.2.2.2.1.symm] at R
      refine step_C A (c_X6_rule0 (d := 5) H ⟨x1, x2⟩) R ⟨⟨o1.bas ⟨x1, x2⟩, o2.rule _ (Or.inl rfl), ?_, o4⟩, rK, rT, rS⟩
      rw [upd_ne _ _ (by decide)]
      exact o3
    · obtain ⟨q1, q2⟩ := Bool.and_eq_true_iff.mp q
      obtain ⟨x, x1, x2, rfl⟩ := inI_nat (by decide) (by decide) q2
      obtain rfl : a = nI 1 := beq_iff_eq.mp q1
      rw [nI_clamp (by decide)] at R
      rw [show nw (6 + 1) = O.wa from o1.2.2.2.2.2.1.symm] at R
      refine step_C A (c_X6_rule1 (d := 5) H x2) R ⟨⟨o1.was x2, o2.rule _ (Or.inr rfl), ?_, o4⟩, rK, rT, rS⟩
      rw [upd_ne _ _ (by decide)]
      exact o3
  · refine step_S (as2 := as) A (c_X6_rule_bad (d := 5) hb) (fun g => ?_)
    have := c_X7_rule (d := 5) (h := g) (w := a) (v := b) (nw := nw) (tp := tp) (ro := ro) (rd := rd) (ud := ud) (as := as) (kp := kp) (la := la) (sz := sz) (it := it) (mv := mv) (ty := ty) (pl := pl) (fa := fa) (un := un) (ku := ku) (ik := ik)
    rw [ruleF, ruleN, hb, if_neg Bool.false_ne_true, if_neg Bool.false_ne_true] at this
    exact this
theorem st_type {a : Int32} {h : XH} {O : Oc} {M : Mo} {V : Hi} {KO : Oc} {KM : Mo} {KV : Hi} {kb : Bool} {T : Ta} {S : Nat → Sh} {nw tp ro rd ud as kp la sz : Nat → Int32} {it mv : Nat → Int64} {ty pl : Int32} {fa : Bool} {un ku : Int32} {ik : Bool} (A : ALL h O M V KO KM KV kb T S nw tp ro rd ud as kp la sz it mv ty pl fa un ku ik) : STEP mX6_type mX7_type [.int a] h := by
  obtain ⟨H, E, rO, rK, ⟨t1, t2, t3, t4⟩, rS⟩ := id A
  rcases bcase (inI a (nI 32) (nI 126)) with hb | hb
  · obtain ⟨c, c1, c2, rfl⟩ := inI_nat (by decide) (by decide) hb
    by_cases q : T.n = 90
    · refine step_S (as2 := as) A (c_X6_type_full (d := 5) H ⟨c1, c2⟩ q) (fun g => ?_)
      have := c_X7_type (d := 5) (h := g) (n := T.n) (nw := nw) (tp := tp) (ro := ro) (rd := rd) (ud := ud) (as := as) (kp := kp) (la := la) (sz := sz) (it := it) (mv := mv) (pl := pl) (fa := fa) (un := un) (ku := ku) (ik := ik) hb t2 t3
      rw [if_pos q, if_pos q] at this
      exact this
    · have R : ∀ g : XH, MetH mX7_type (6, 0, 0) [.ref 98, .int (nI c)] (mh g nw tp ro rd ud as kp la sz it mv ty pl fa un ku ik) (nI (T.n + 1)) (mh g nw (upd tp T.n (nI c)) ro rd ud as kp la sz it mv (nI (T.n + 1)) pl fa un ku ik) := fun g => by
        have := c_X7_type (d := 5) (h := g) (n := T.n) (nw := nw) (tp := tp) (ro := ro) (rd := rd) (ud := ud) (as := as) (kp := kp) (la := la) (sz := sz) (it := it) (mv := mv) (pl := pl) (fa := fa) (un := un) (ku := ku) (ik := ik) hb t2 t3
        rw [if_neg q, if_neg q] at this
        exact this
      refine step_C A (c_X6_type (d := 5) H ⟨c1, c2⟩ (by omega)) R ⟨rO, rK, ⟨?_, ?_, rfl, ?_⟩, rS⟩
      · show upd T.cl T.n (nI c) = _
        rw [t1]
      · show T.n + 1 ≤ 90
        omega
      · intro i hi
        have hi : i < T.n + 1 := hi
        by_cases e : i = T.n
        · rw [e, upd_eq]
          exact ⟨c, c1, c2, rfl⟩
        · rw [upd_ne _ _ e]
          exact t4 i (by omega)
  · exact step_S (as2 := as) A (c_X6_type_bad (d := 5) hb) (fun g => c_X7_type_bad (d := 5) hb)
theorem st_seed {a : Int32} {h : XH} {O : Oc} {M : Mo} {V : Hi} {KO : Oc} {KM : Mo} {KV : Hi} {kb : Bool} {T : Ta} {S : Nat → Sh} {nw tp ro rd ud as kp la sz : Nat → Int32} {it mv : Nat → Int64} {ty pl : Int32} {fa : Bool} {un ku : Int32} {ik : Bool} (A : ALL h O M V KO KM KV kb T S nw tp ro rd ud as kp la sz it mv ty pl fa un ku ik) : STEP mX6_seed mX7_seed [.int a] h := by
  obtain ⟨H, E, ⟨o1, o2, o3, o4⟩, rK, rT, rS⟩ := id A
  by_cases q : 0 ≤ a
  · have R : ∀ g : XH, MetH mX7_seed (6, 0, 0) [.ref 98, .int a] (mh g nw tp ro rd ud as kp la sz it mv ty pl fa un ku ik) M.draw (mh g (upd nw 8 a) tp ro rd ud as kp la sz it mv ty pl fa un ku ik) := fun g => by
      have := c_X7_seed (d := 6) (h := g) (v := a) (nw := nw) (tp := tp) (ro := ro) (rd := rd) (ud := ud) (as := as) (kp := kp) (la := la) (sz := sz) (it := it) (mv := mv) (ty := ty) (pl := pl) (fa := fa) (un := un) (ku := ku) (ik := ik)
      rw [if_pos q, if_pos q, ← o2.2.2.2.2.1] at this
      exact this
    obtain ⟨r1, r2⟩ := seed_rel a o1 o2
    refine step_C A (c_X6_seed (d := 6) H q) R ⟨⟨r1, r2, ?_, o4⟩, rK, rT, rS⟩
    rw [upd_ne _ _ (by decide)]
    exact o3
  · refine step_S (as2 := as) A (c_X6_seed_bad (d := 6) q) (fun g => ?_)
    have := c_X7_seed (d := 6) (h := g) (v := a) (nw := nw) (tp := tp) (ro := ro) (rd := rd) (ud := ud) (as := as) (kp := kp) (la := la) (sz := sz) (it := it) (mv := mv) (ty := ty) (pl := pl) (fa := fa) (un := un) (ku := ku) (ik := ik)
    rw [if_neg q, if_neg q] at this
    exact this
theorem nat_no {x : Int32} {a b : Nat} : inI x (nI a) (nI b) = true ∨ inI x (nI a) (nI b) = false := bcase _
theorem st_days {a : Int32} {h : XH} {O : Oc} {M : Mo} {V : Hi} {KO : Oc} {KM : Mo} {KV : Hi} {kb : Bool} {T : Ta} {S : Nat → Sh} {nw tp ro rd ud as kp la sz : Nat → Int32} {it mv : Nat → Int64} {ty pl : Int32} {fa : Bool} {un ku : Int32} {ik : Bool} (A : ALL h O M V KO KM KV kb T S nw tp ro rd ud as kp la sz it mv ty pl fa un ku ik) : STEP mX6_days mX7_days [.int a] h := by
  obtain ⟨H, E, rO, rK, rT, rS⟩ := id A
  obtain ⟨o1, o2, ⟨dy, hdy, ed⟩, o4⟩ := id rO
  rcases bcase (inI a (nI 1) (nI 40)) with hb | hb
  · obtain ⟨n, n1, n2, rfl⟩ := inI_nat (by decide) (by decide) hb
    have eM : M.day = nI dy := o2.1.trans ed
    by_cases q : 9999 < dy + n
    · refine step_S (as2 := as) A (c_X6_days_full (d := 5) H n1 n2 eM (by omega) q) (fun g => ?_)
      have := c_X7_days (d := 3) (h := g) (n := n) (dy := dy) (u := V.known) (nw := nw) (tp := tp) (ro := ro) (rd := rd) (ud := ud) (as := as) (kp := kp) (la := la) (sz := sz) (it := it) (mv := mv) (ty := ty) (pl := pl) (fa := fa) (ku := ku) (ik := ik) (RM.wf o1 o2) n1 n2 ed (by omega) o4.1 o4.2.1
      rw [if_pos q, if_pos q] at this
      exact this
    · obtain ⟨D, -⟩ := days_all rO ed n (by omega)
      have R : ∀ g : XH, MetH mX7_days (6, 0, 0) [.ref 98, .int (nI n)] (mh g nw tp ro rd ud as kp la sz it mv ty pl fa un ku ik) ((passN O M n).got - M.got) (mh g (gbN nw O.nT O.nL n) tp ro rd ((nsU nw ud O.nT O.nL V.known n).1) as kp la sz it mv ty pl fa (nI (nsU nw ud O.nT O.nL V.known n).2) ku ik) := fun g => by
        have := c_X7_days (d := 3) (h := g) (n := n) (dy := dy) (u := V.known) (nw := nw) (tp := tp) (ro := ro) (rd := rd) (ud := ud) (as := as) (kp := kp) (la := la) (sz := sz) (it := it) (mv := mv) (ty := ty) (pl := pl) (fa := fa) (ku := ku) (ik := ik) (RM.wf o1 o2) n1 n2 ed (by omega) o4.1 o4.2.1
        rw [if_neg q, if_neg q, ← D.2.1.2.1, ← o2.2.1] at this
        exact this
      exact step_C A (c_X6_days (d := 1) H o1.ki o1.2.2.2.1 o1.2.2.1 o4.1 n1 n2 eM q) R ⟨D, rK, rT, rS⟩
  · exact step_S (as2 := as) A (c_X6_days_bad (d := 5) hb) (fun g => c_X7_days_bad (d := 5) hb)
theorem st_drift {a : Int32} {h : XH} {O : Oc} {M : Mo} {V : Hi} {KO : Oc} {KM : Mo} {KV : Hi} {kb : Bool} {T : Ta} {S : Nat → Sh} {nw tp ro rd ud as kp la sz : Nat → Int32} {it mv : Nat → Int64} {ty pl : Int32} {fa : Bool} {un ku : Int32} {ik : Bool} (A : ALL h O M V KO KM KV kb T S nw tp ro rd ud as kp la sz it mv ty pl fa un ku ik) : STEP mX6_drift mX7_drift [.int a] h := by
  obtain ⟨H, E, rO, rK, rT, rS⟩ := id A
  obtain ⟨o1, o2, ⟨dy, hdy, ed⟩, o4⟩ := id rO
  rcases bcase (inI a (nI 1) (nI 40)) with hb | hb
  · obtain ⟨n, n1, n2, rfl⟩ := inI_nat (by decide) (by decide) hb
    have eM : M.day = nI dy := o2.1.trans ed
    by_cases q : 9999 < dy + n
    · refine step_S (as2 := as) A (c_X6_drift_full (d := 5) H n1 n2 eM (by omega) q) (fun g => ?_)
      have := c_X7_drift (d := 3) (h := g) (n := n) (dy := dy) (u := V.known) (nw := nw) (tp := tp) (ro := ro) (rd := rd) (ud := ud) (as := as) (kp := kp) (la := la) (sz := sz) (it := it) (mv := mv) (ty := ty) (pl := pl) (fa := fa) (ku := ku) (ik := ik) (RM.wf o1 o2) n1 n2 ed (by omega) o4.1 o4.2.1
      rw [if_pos q, if_pos q] at this
      exact this
    · obtain ⟨D, -⟩ := drift_all rO ed n (by omega)
      have R : ∀ g : XH, MetH mX7_drift (6, 0, 0) [.ref 98, .int (nI n)] (mh g nw tp ro rd ud as kp la sz it mv ty pl fa un ku ik) ((drnM O M n).lost - M.lost) (mh g (drN nw O.nT O.nL n) tp ro rd ((drU nw ud O.nT O.nL V.known n).1) as kp la sz it mv ty pl fa (nI (drU nw ud O.nT O.nL V.known n).2) ku ik) := fun g => by
        have := c_X7_drift (d := 3) (h := g) (n := n) (dy := dy) (u := V.known) (nw := nw) (tp := tp) (ro := ro) (rd := rd) (ud := ud) (as := as) (kp := kp) (la := la) (sz := sz) (it := it) (mv := mv) (ty := ty) (pl := pl) (fa := fa) (ku := ku) (ik := ik) (RM.wf o1 o2) n1 n2 ed (by omega) o4.1 o4.2.1
        rw [if_neg q, if_neg q, ← D.2.1.2.2.2.1, ← o2.2.2.2.1] at this
        exact this
      exact step_C A (c_X6_drift (d := 1) H o1.ki o1.2.2.2.1 o1.2.2.1 o4.1 n1 n2 eM q) R ⟨D, rK, rT, rS⟩
  · exact step_S (as2 := as) A (c_X6_drift_bad (d := 5) hb) (fun g => c_X7_drift_bad (d := 5) hb)
theorem st_lean {a b : Int32} {h : XH} {O : Oc} {M : Mo} {V : Hi} {KO : Oc} {KM : Mo} {KV : Hi} {kb : Bool} {T : Ta} {S : Nat → Sh} {nw tp ro rd ud as kp la sz : Nat → Int32} {it mv : Nat → Int64} {ty pl : Int32} {fa : Bool} {un ku : Int32} {ik : Bool} (A : ALL h O M V KO KM KV kb T S nw tp ro rd ud as kp la sz it mv ty pl fa un ku ik) : STEP mX6_lean mX7_lean [.int a, .int b] h := by
  obtain ⟨H, E, rO, rK, rT, rS⟩ := id A
  obtain ⟨o1, o2, o3, o4⟩ := id rO
  have wf := RM.wf o1 o2
  by_cases hb : isL nw a = false ∨ (¬ b = -4 ∧ isT nw b = false)
  · exact step_S (as2 := as) A (c_X6_lean_bad (d := 5) H o1 hb) (fun g => c_X7_lean_bad (d := 4) wf hb)
  · have hl : isL nw a = true := by
      rcases bcase (isL nw a) with z | z
      · exact z
      · exact absurd (Or.inl z) hb
    have ht : b = -4 ∨ isT nw b = true := by
      by_cases z : b = -4
      · exact Or.inl z
      · rcases bcase (isT nw b) with y | y
        · exact Or.inr y
        · exact absurd (Or.inr ⟨z, y⟩) hb
    obtain ⟨l, hlt, rfl⟩ := isL_nat wf hl
    have el := (o2.2.2.2.2.2.2.1 l hlt).1
    by_cases q : M.ln l = b
    · refine step_S (as2 := as) A (c_X6_lean_not (d := 3) H o1 o2 hlt ht q) (fun g => ?_)
      have := c_X7_lean (d := 3) (h := g) (l := l) (t := b) (u := V.known) (nw := nw) (tp := tp) (ro := ro) (rd := rd) (ud := ud) (as := as) (kp := kp) (la := la) (sz := sz) (it := it) (mv := mv) (ty := ty) (pl := pl) (fa := fa) (ku := ku) (ik := ik) wf hlt ht o4.1 o4.2.1
      rw [if_pos (el.symm.trans q), if_pos (el.symm.trans q)] at this
      exact this
    · have q2 : ¬ nw (30 + 4 * l) = b := fun z => q (el.trans z)
      have R : ∀ g : XH, MetH mX7_lean (6, 0, 0) [.ref 98, .int (nI l), .int b] (mh g nw tp ro rd ud as kp la sz it mv ty pl fa un ku ik) (M.ln l) (mh g (upd nw (27 + 4 * l + 3) b) tp ro rd (noteF ud nw V.known) as kp la sz it mv ty pl fa (nI (noteN V.known)) ku ik) := fun g => by
        have := c_X7_lean (d := 3) (h := g) (l := l) (t := b) (u := V.known) (nw := nw) (tp := tp) (ro := ro) (rd := rd) (ud := ud) (as := as) (kp := kp) (la := la) (sz := sz) (it := it) (mv := mv) (ty := ty) (pl := pl) (fa := fa) (ku := ku) (ik := ik) wf hlt ht o4.1 o4.2.1
        rw [if_neg q2, if_neg q2, ← el] at this
        exact this
      obtain ⟨r1, r2⟩ := lean_rel o1 o2 hlt ht
      obtain ⟨m1, -⟩ := rem_rel o1.2.2.1 o1.2.2.2.1 o4 o2 o3
      refine step_C A (c_X6_lean (d := 3) H o1 o2 o4.1 hlt ht q) R ⟨⟨r1, r2, ?_, m1⟩, rK, rT, rS⟩
      rw [upd_ne _ _ (by omega)]
      exact o3
theorem st_shake {a : Int32} {h : XH} {O : Oc} {M : Mo} {V : Hi} {KO : Oc} {KM : Mo} {KV : Hi} {kb : Bool} {T : Ta} {S : Nat → Sh} {nw tp ro rd ud as kp la sz : Nat → Int32} {it mv : Nat → Int64} {ty pl : Int32} {fa : Bool} {un ku : Int32} {ik : Bool} (A : ALL h O M V KO KM KV kb T S nw tp ro rd ud as kp la sz it mv ty pl fa un ku ik) : STEP mX6_shake mX7_shake [.int a] h := by
  obtain ⟨H, E, rO, rK, rT, rS⟩ := id A
  obtain ⟨o1, o2, o3, o4⟩ := id rO
  have wf := RM.wf o1 o2
  rcases bcase (isT nw a) with hb | hb
  · obtain ⟨t, ht, rfl⟩ := isT_nat wf hb
    have ef := (o2.2.2.2.2.2.1 t ht).1
    by_cases q : M.fr t = 0
    · refine step_S (as2 := as) A (c_X6_shake_not (d := 5) H o1 o2 ht q) (fun g => ?_)
      have := c_X7_shake (d := 3) (h := g) (t := t) (u := V.known) (nw := nw) (tp := tp) (ro := ro) (rd := rd) (ud := ud) (as := as) (kp := kp) (la := la) (sz := sz) (it := it) (mv := mv) (ty := ty) (pl := pl) (fa := fa) (ku := ku) (ik := ik) wf ht o4.1 o4.2.1
      rw [if_pos (ef.symm.trans q), if_pos (ef.symm.trans q)] at this
      exact this
    · have q2 : ¬ nw (9 + 3 * t + 1) = 0 := fun z => q (ef.trans z)
      have R : ∀ g : XH, MetH mX7_shake (6, 0, 0) [.ref 98, .int (nI t)] (mh g nw tp ro rd ud as kp la sz it mv ty pl fa un ku ik) (M.fr t / nI 2) (mh g (shkN nw t) tp ro rd (noteF ud nw V.known) as kp la sz it mv ty pl fa (nI (noteN V.known)) ku ik) := fun g => by
        have := c_X7_shake (d := 3) (h := g) (t := t) (u := V.known) (nw := nw) (tp := tp) (ro := ro) (rd := rd) (ud := ud) (as := as) (kp := kp) (la := la) (sz := sz) (it := it) (mv := mv) (ty := ty) (pl := pl) (fa := fa) (ku := ku) (ik := ik) wf ht o4.1 o4.2.1
        rw [if_neg q2, if_neg q2, ← ef] at this
        exact this
      obtain ⟨r1, r2⟩ := shake_rel o1 o2 ht
      obtain ⟨m1, -⟩ := rem_rel o1.2.2.1 o1.2.2.2.1 o4 o2 o3
      refine step_C A (c_X6_shake (d := 3) H o1 o2 o4.1 ht q) R ⟨⟨r1, r2, ?_, m1⟩, rK, rT, rS⟩
      obtain ⟨dy, hdy, ed⟩ := o3
      exact ⟨dy, hdy, by rw [← r2.1, shM_day, o2.1, ed]⟩
  · exact step_S (as2 := as) A (c_X6_shake_bad (d := 5) H o1 hb) (fun g => c_X7_shake_bad (d := 4) hb)
theorem st_undo {h : XH} {O : Oc} {M : Mo} {V : Hi} {KO : Oc} {KM : Mo} {KV : Hi} {kb : Bool} {T : Ta} {S : Nat → Sh} {nw tp ro rd ud as kp la sz : Nat → Int32} {it mv : Nat → Int64} {ty pl : Int32} {fa : Bool} {un ku : Int32} {ik : Bool} (A : ALL h O M V KO KM KV kb T S nw tp ro rd ud as kp la sz it mv ty pl fa un ku ik) : STEP mX6_undo mX7_undo [] h := by
  obtain ⟨H, E, rO, rK, rT, rS⟩ := id A
  obtain ⟨o1, o2, o3, o4⟩ := id rO
  by_cases q : V.known = 0
  · exact step_S (as2 := as) A (c_X6_undo_none (d := 3) H q) (fun g => c_X7_undo_none (d := 6) (by rw [o4.2.1, q]))
  · obtain ⟨u, eu⟩ : ∃ u, V.known = u + 1 := ⟨V.known - 1, by omega⟩
    obtain ⟨k8, un', hu⟩ := id o4
    obtain ⟨r1, r2, r3⟩ := undo_rel (M := M) o1 (hu u (by omega))
    have C := c_X6_undo (d := 3) H k8 q
    rw [show V.known - 1 = u by omega] at C
    refine step_C A C (fun g => c_X7_undo (d := 6) (u := u) (by omega) (by rw [un', eu])) ⟨⟨r1, r2, r3, ?_, ?_, fun k hk => ?_⟩, rK, rT, rS⟩
    · show V.known - 1 ≤ 8
      omega
    · show nI u = nI (V.known - 1)
      rw [show V.known - 1 = u by omega]
    · have hk : k < V.known - 1 := hk
      exact hu k (by omega)
