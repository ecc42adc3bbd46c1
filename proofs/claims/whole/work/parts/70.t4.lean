/-! the calls, one by one: sheets -/
theorem hld_why {z : Nat} (hz : z ≤ 24) (i n : Int32) : hldI (nI z) i n = decide (¬ (i < 0 ∨ n < 0 ∨ (nI z).toInt < i.toInt + n.toInt)) := by
  by_cases a : i < 0
  · rw [hld_1 a, decide_eq_false (fun q => q (Or.inl a))]
  by_cases b : n < 0
  · rw [hld_2 b, decide_eq_false (fun q => q (Or.inr (Or.inl b)))]
  have rn := rng n
  have b0 : 0 ≤ n.toInt := by
    have := Int32.le_iff_toInt_le.mp (Int32.not_lt.mp b)
    have c0 : (0 : Int32).toInt = 0 := by decide
    rw [c0] at this
    exact this
  have ez : (nI z).toInt = (z : Int) := nI_toInt (by omega)
  have es : (nI z - n).toInt = (z : Int) - n.toInt := by
    rw [Int32.toInt_sub, ez, Int.bmod_eq_of_le (by omega) (by omega)]
  by_cases c : nI z - n < i
  · rw [hld_3 c, decide_eq_false]
    intro q
    have c1 := Int32.lt_iff_toInt_lt.mp c
    rw [es] at c1
    exact q (Or.inr (Or.inr (by rw [ez]; omega)))
  · rw [hld_t a b c, decide_eq_true]
    intro q
    have c1 := Int32.le_iff_toInt_le.mp (Int32.not_lt.mp c)
    rw [es] at c1
    rcases q with q | q | q
    · exact a q
    · exact b q
    · rw [ez] at q
      omega
theorem fnd_why {Z : Sh} {la sz : Nat → Int32} {s : Nat} (e1 : Z.la = la s) (e2 : Z.sz = sz s) (hl : la s = -1 ∨ ∃ l, l < 4 ∧ la s = nI l) (hz : ∃ z, z ≤ 24 ∧ sz s = nI z) (lane i n : Int32) : fndI Z lane i n = whyF la sz s lane i n := by
  obtain ⟨z, hz, ez⟩ := hz
  rw [fndI, whyF, e1, e2]
  rcases hl with q | ⟨l, hl, q⟩
  · rw [if_pos q, if_neg (by rw [q]; decide)]
  · have n1 : ¬ la s = -1 := fun y => by
      rw [q] at y
      have := congrArg Int32.toInt y
      rw [nI_toInt (by omega)] at this
      exact absurd this (by show ¬ (l : Int) = -1; omega)
    have p0 : 0 ≤ la s := by rw [q]; exact nI_pos' (by omega)
    rw [if_neg n1, if_pos p0]
    by_cases c : la s = lane
    · rw [if_pos c, if_pos c, ez, hld_why hz]
      by_cases d : i < 0 ∨ n < 0 ∨ (nI z).toInt < i.toInt + n.toInt
      · rw [if_pos d, decide_eq_false (fun y => y d), if_neg Bool.false_ne_true]
      · rw [if_neg d, decide_eq_true d, if_pos rfl]
        rfl
    · rw [if_neg c, if_neg c]
theorem why_no {la sz : Nat → Int32} {s : Nat} {lane i n : Int32} (h : ¬ 0 ≤ whyF la sz s lane i n) : ¬ whyF la sz s lane i n = 0 := fun q => h (by rw [q]; decide)
theorem RelS.up {S : Nat → Sh} {la sz la2 sz2 : Nat → Int32} {it it2 : Nat → Int64} {s : Nat} {Z : Sh} (h : RelS S la sz it) (hla : ∀ j, j ≠ s → la2 j = la j) (hsz : ∀ j, j ≠ s → sz2 j = sz j) (hit : ∀ j, j < 4 → j ≠ s → ∀ i, i < 24 → it2 (24 * j + i) = it (24 * j + i)) (hs : Z.la = la2 s ∧ Z.sz = sz2 s ∧ (la2 s = -1 ∨ ∃ l, l < 4 ∧ la2 s = nI l) ∧ (∃ z, z ≤ 24 ∧ sz2 s = nI z) ∧ ∀ i, i < 24 → Z.it i = it2 (24 * s + i)) : RelS (upS S s Z) la2 sz2 it2 := by
  intro j hj
  by_cases e : j = s
  · subst e
    rw [show upS S j Z j = Z from if_pos rfl]
    exact hs
  · rw [show upS S s Z j = S j from if_neg e, hla j e, hsz j e]
    obtain ⟨h1, h2, h3, h4, h5⟩ := h j hj
    exact ⟨h1, h2, h3, h4, fun i hi => by rw [hit j hj e i hi]; exact h5 i hi⟩
theorem zrI_row (it : Nat → Int64) (s : Nat) : ∀ k, (∀ i, i < k → zrI it s k (24 * s + i) = 0) ∧ ∀ j, (j < 24 * s ∨ 24 * s + k ≤ j) → zrI it s k j = it j
  | 0 => ⟨fun i hi => absurd hi (Nat.not_lt_zero _), fun j _ => rfl⟩
  | k + 1 => by
    obtain ⟨i1, i2⟩ := zrI_row it s k
    refine ⟨fun i hi => ?_, fun j hj => ?_⟩
    · rw [zrI]
      by_cases e : i = k
      · subst e
        exact pk_uLs
      · rw [pk_uLn (by omega)]
        exact i1 i (by omega)
    · rw [zrI, pk_uLn (by omega)]
      exact i2 j (by omega)
theorem st_sheet {a b c : Int32} {h : XH} {O : Oc} {M : Mo} {V : Hi} {KO : Oc} {KM : Mo} {KV : Hi} {kb : Bool} {T : Ta} {S : Nat → Sh} {nw tp ro rd ud as kp la sz : Nat → Int32} {it mv : Nat → Int64} {ty pl : Int32} {fa : Bool} {un ku : Int32} {ik : Bool} (A : ALL h O M V KO KM KV kb T S nw tp ro rd ud as kp la sz it mv ty pl fa un ku ik) : STEP mX6_sheet mX7_sheet [.int a, .int b, .int c] h := by
  obtain ⟨H, E, rO, rK, rT, rS⟩ := id A
  rcases bcase (shOk a b c) with hb | hb
  · obtain ⟨b1, b2, b3⟩ := shOk_3 hb
    obtain ⟨s, -, s2, rfl⟩ := inI_nat (by decide) (by decide) b1
    obtain ⟨l, -, l2, rfl⟩ := inI_nat (by decide) (by decide) b2
    by_cases q : 0 ≤ c
    · have R : ∀ g : XH, MetH mX7_sheet (6, 0, 0) [.ref 98, .int (nI s), .int (nI l), .int c] (mh g nw tp ro rd ud as kp la sz it mv ty pl fa un ku ik) c (mh g nw tp ro rd ud as kp (upd la s (nI l)) (upd sz s c) (zrI it s 24) mv ty pl fa un ku ik) := fun g => by
        have := c_X7_sheet (d := 4) (h := g) (s := s) (l := nI l) (n := c) (nw := nw) (tp := tp) (ro := ro) (rd := rd) (ud := ud) (as := as) (kp := kp) (la := la) (sz := sz) (it := it) (mv := mv) (ty := ty) (pl := pl) (fa := fa) (un := un) (ku := ku) (ik := ik) (by omega) hb
        rw [if_pos q, if_pos q] at this
        exact this
      obtain ⟨j, hj, ej⟩ := nI_of (Int32.not_lt.mpr q)
      have j24 : j ≤ 24 := (nI_leI hj (by decide)).mp (by rw [← ej]; exact b3)
      obtain ⟨z1, z2⟩ := zrI_row it s 24
      refine step_C A (c_X6_sheet (d := 4) H (by omega) hb q) R ⟨rO, rK, rT, rS.up (fun j hj => upd_ne _ _ hj) (fun j hj => upd_ne _ _ hj) (fun j hj4 hj i hi => z2 _ (by omega)) ⟨(upd_eq _ _ _).symm, (upd_eq _ _ _).symm, Or.inr ⟨l, by omega, upd_eq _ _ _⟩, ⟨j, j24, (upd_eq _ _ _).trans ej⟩, fun i hi => ?_⟩⟩
      show cp (fun _ => 0) (S s).it 24 i = _
      rw [cp, if_pos hi, z1 i hi]
    · refine step_S (as2 := as) A (c_X6_sheet_size (d := 4) hb q) (fun g => ?_)
      have := c_X7_sheet (d := 4) (h := g) (s := s) (l := nI l) (n := c) (nw := nw) (tp := tp) (ro := ro) (rd := rd) (ud := ud) (as := as) (kp := kp) (la := la) (sz := sz) (it := it) (mv := mv) (ty := ty) (pl := pl) (fa := fa) (un := un) (ku := ku) (ik := ik) (by omega) hb
      rw [if_neg q, if_neg q] at this
      exact this
  · exact step_S (as2 := as) A (c_X6_sheet_bad (d := 4) hb) (fun g => c_X7_sheet_bad (d := 4) hb)
theorem la_pos {x : Int32} (h : x = -1 ∨ ∃ l, l < 4 ∧ x = nI l) : 0 ≤ x ↔ ¬ x = -1 := by
  rcases h with q | ⟨l, hl, q⟩
  · rw [q]
    decide
  · rw [q]
    exact ⟨fun _ y => by
      have := congrArg Int32.toInt y
      rw [nI_toInt (by omega)] at this
      exact absurd this (by show ¬ (l : Int) = -1; omega), fun _ => nI_pos' (by omega)⟩
theorem st_drop {a : Int32} {h : XH} {O : Oc} {M : Mo} {V : Hi} {KO : Oc} {KM : Mo} {KV : Hi} {kb : Bool} {T : Ta} {S : Nat → Sh} {nw tp ro rd ud as kp la sz : Nat → Int32} {it mv : Nat → Int64} {ty pl : Int32} {fa : Bool} {un ku : Int32} {ik : Bool} (A : ALL h O M V KO KM KV kb T S nw tp ro rd ud as kp la sz it mv ty pl fa un ku ik) : STEP mX6_drop mX7_drop [.int a] h := by
  obtain ⟨H, E, rO, rK, rT, rS⟩ := id A
  rcases bcase (inI a (nI 0) (nI 3)) with hb | hb
  · obtain ⟨s, -, s2, rfl⟩ := inI_nat (by decide) (by decide) hb
    obtain ⟨e1, e2, e3, e4, e5⟩ := rS s (by omega)
    by_cases q : la s = -1
    · refine step_S (as2 := as) A (c_X6_drop_null (d := 4) H (by omega) (e1.trans q)) (fun g => ?_)
      have := c_X7_drop (d := 4) (h := g) (s := s) (nw := nw) (tp := tp) (ro := ro) (rd := rd) (ud := ud) (as := as) (kp := kp) (la := la) (sz := sz) (it := it) (mv := mv) (ty := ty) (pl := pl) (fa := fa) (un := un) (ku := ku) (ik := ik) (by omega)
      have q2 : ¬ 0 ≤ la s := fun z => (la_pos e3).mp z q
      rw [if_neg q2, if_neg q2] at this
      exact this
    · have R : ∀ g : XH, MetH mX7_drop (6, 0, 0) [.ref 98, .int (nI s)] (mh g nw tp ro rd ud as kp la sz it mv ty pl fa un ku ik) (S s).sz (mh g nw tp ro rd ud as kp (upd la s (-1)) sz it mv ty pl fa un ku ik) := fun g => by
        have := c_X7_drop (d := 4) (h := g) (s := s) (nw := nw) (tp := tp) (ro := ro) (rd := rd) (ud := ud) (as := as) (kp := kp) (la := la) (sz := sz) (it := it) (mv := mv) (ty := ty) (pl := pl) (fa := fa) (un := un) (ku := ku) (ik := ik) (by omega)
        have q2 : 0 ≤ la s := (la_pos e3).mpr q
        rw [if_pos q2, if_pos q2, ← e2] at this
        exact this
      exact step_C A (c_X6_drop (d := 4) H (by omega) (fun z => q (e1.symm.trans z))) R ⟨rO, rK, rT, rS.up (fun j hj => upd_ne _ _ hj) (fun _ _ => rfl) (fun _ _ _ _ _ => rfl) ⟨(upd_eq _ _ _).symm, e2, Or.inl (upd_eq _ _ _), e4, e5⟩⟩
  · exact step_S (as2 := as) A (c_X6_drop_bad (d := 4) hb) (fun g => c_X7_drop_bad (d := 4) hb)
theorem st_item {a b c : Int32} {v : Int64} {h : XH} {O : Oc} {M : Mo} {V : Hi} {KO : Oc} {KM : Mo} {KV : Hi} {kb : Bool} {T : Ta} {S : Nat → Sh} {nw tp ro rd ud as kp la sz : Nat → Int32} {it mv : Nat → Int64} {ty pl : Int32} {fa : Bool} {un ku : Int32} {ik : Bool} (A : ALL h O M V KO KM KV kb T S nw tp ro rd ud as kp la sz it mv ty pl fa un ku ik) : STEP mX6_item mX7_item [.int a, .int b, .int c, .long v] h := by
  obtain ⟨H, E, rO, rK, rT, rS⟩ := id A
  rcases bcase (inI a (nI 0) (nI 3)) with hb | hb
  · rcases bcase (inI b (nI 0) (nI 3)) with hl | hl
    · obtain ⟨s, -, s2, rfl⟩ := inI_nat (by decide) (by decide) hb
      obtain ⟨e1, e2, e3, e4, e5⟩ := rS s (by omega)
      obtain ⟨z, hz, ez⟩ := id e4
      have fw := fnd_why e1 e2 e3 e4 b c (nI 1)
      by_cases q : 0 ≤ whyF la sz s b c (nI 1)
      · obtain ⟨w1, w2, i, m, rfl, em, him, ew⟩ := whyF_0 ez hz q
        have m1 : 1 = m := (nI_eq (by decide) (by
          obtain ⟨x, hx⟩ : ∃ x, x = m := ⟨m, rfl⟩
          omega)).mp em
        obtain ⟨l, hl4, rfl⟩ : ∃ l, l < 4 ∧ b = nI l := by
          obtain ⟨l, -, l2, el⟩ := inI_nat (by decide) (by decide) hl
          exact ⟨l, by omega, el⟩
        have R : ∀ g : XH, MetH mX7_item (6, 0, 0) [.ref 98, .int (nI s), .int (nI l), .int (nI i), .long v] (mh g nw tp ro rd ud as kp la sz it mv ty pl fa un ku ik) (nI 1) (mh g nw tp ro rd ud as kp la sz (vp_updL it (24 * s + i) (itmV (nI l) v)) mv ty pl fa un ku ik) := fun g => by
          have := c_X7_item (d := 4) (h := g) (s := s) (l := nI l) (i := nI i) (v := v) (nw := nw) (tp := tp) (ro := ro) (rd := rd) (ud := ud) (as := as) (kp := kp) (la := la) (sz := sz) (it := it) (mv := mv) (ty := ty) (pl := pl) (fa := fa) (un := un) (ku := ku) (ik := ik) (by omega) hl ez hz
          rw [if_pos q, if_pos q, nI_clamp (by omega)] at this
          exact this
        refine step_C A (c_X6_item (d := 4) (i := i) (l := l) H (by omega) hl4 (by omega) (e1.trans w2) (by rw [fw, ew]; rfl)) R ⟨rO, rK, rT, rS.up (fun _ _ => rfl) (fun _ _ => rfl) (fun j hj4 hj k hk => pk_uLn (by omega)) ⟨e1, e2, e3, e4, fun k hk => ?_⟩⟩
        show vp_updL (S s).it i (itmV (S s).la v) k = _
        rw [e1, w2]
        by_cases e : k = i
        · subst e
          rw [pk_uLs, pk_uLs]
        · rw [pk_uLn e, pk_uLn (by omega)]
          exact e5 k hk
      · have C := c_X6_item_no (d := 4) (s := s) (l := b) (i := c) (v := v) H (by omega) hl (by rw [fw]; exact why_no q)
        rw [fw] at C
        refine step_S (as2 := as) A C (fun g => ?_)
        have := c_X7_item (d := 4) (h := g) (s := s) (l := b) (i := c) (v := v) (nw := nw) (tp := tp) (ro := ro) (rd := rd) (ud := ud) (as := as) (kp := kp) (la := la) (sz := sz) (it := it) (mv := mv) (ty := ty) (pl := pl) (fa := fa) (un := un) (ku := ku) (ik := ik) (by omega) hl ez hz
        rw [if_neg q, if_neg q] at this
        exact this
    · exact step_S (as2 := as) A (c_X6_item_bad (d := 4) (Or.inr hl)) (fun g => c_X7_item_bad (d := 4) (Or.inr hl))
  · exact step_S (as2 := as) A (c_X6_item_bad (d := 4) (Or.inl hb)) (fun g => c_X7_item_bad (d := 4) (Or.inl hb))
theorem st_left {a b c i n : Int32} {h : XH} {O : Oc} {M : Mo} {V : Hi} {KO : Oc} {KM : Mo} {KV : Hi} {kb : Bool} {T : Ta} {S : Nat → Sh} {nw tp ro rd ud as kp la sz : Nat → Int32} {it mv : Nat → Int64} {ty pl : Int32} {fa : Bool} {un ku : Int32} {ik : Bool} (A : ALL h O M V KO KM KV kb T S nw tp ro rd ud as kp la sz it mv ty pl fa un ku ik) : STEP mX6_left mX7_left [.int a, .int b, .int c, .int i, .int n] h := by
  obtain ⟨H, E, rO, rK, rT, rS⟩ := id A
  obtain ⟨o1, o2, o3, o4⟩ := id rO
  have wf := RM.wf o1 o2
  by_cases hb : isT nw a = false ∨ inI b (nI 0) (nI 3) = false ∨ inI c (nI 0) (nI 3) = false ∨ inI n (nI 1) (nI 8) = false
  · exact step_S (as2 := as) A (c_X6_left_bad (d := 4) H o1 hb) (fun g => c_X7_left_bad (d := 4) hb)
  · have b1 : isT nw a = true := (bcase _).resolve_right (fun z => hb (Or.inl z))
    have b2 : inI b (nI 0) (nI 3) = true := (bcase _).resolve_right (fun z => hb (Or.inr (Or.inl z)))
    have b3 : inI c (nI 0) (nI 3) = true := (bcase _).resolve_right (fun z => hb (Or.inr (Or.inr (Or.inl z))))
    have b4 : inI n (nI 1) (nI 8) = true := (bcase _).resolve_right (fun z => hb (Or.inr (Or.inr (Or.inr z))))
    obtain ⟨t, ht, rfl⟩ := isT_nat wf b1
    obtain ⟨s, -, s2, rfl⟩ := inI_nat (by decide) (by decide) b2
    obtain ⟨n, n1, n2, rfl⟩ := inI_nat (by decide) (by decide) b4
    obtain ⟨e1, e2, e3, e4, e5⟩ := rS s (by omega)
    obtain ⟨z, hz, ez⟩ := id e4
    have fw := fnd_why e1 e2 e3 e4 c i (nI n)
    have R := fun g : XH => c_X7_left (d := 2) (h := g) (t := t) (n := n) (s := s) (l := c) (i := i) (nw := nw) (tp := tp) (ro := ro) (rd := rd) (ud := ud) (as := as) (kp := kp) (la := la) (sz := sz) (it := it) (mv := mv) (ty := ty) (pl := pl) (fa := fa) (un := un) (ku := ku) (ik := ik) wf ht n1 n2 (by omega) b3 ez hz
    by_cases q : 0 ≤ whyF la sz s c i (nI n)
    · obtain ⟨w1, w2, j, m, rfl, em, him, ew⟩ := whyF_0 ez hz q
      have m1 : n = m := by
        have hm : m ≤ 24 := by omega
        exact (nI_eq (by omega) (by omega)).mp em
      subst m1
      have C := c_X6_left (d := 0) (t := t) (i := j) H o1 o2 ht (show s < 4 by omega) b3 ⟨n1, n2⟩ (by omega) (by rw [fw, ew]; rfl)
      rw [← left_ans (a := 24 * s + j) (it := it) o1 o2 ht (fun k hk => by rw [Nat.add_assoc, e5 (j + k) (by omega)])] at C
      refine step_S (as2 := cp nw as 43) A C (fun g => ?_)
      have := R g
      rw [if_pos q, if_pos q, nI_clamp (by omega)] at this
      exact this
    · have C := c_X6_left_no (d := 4) (s := s) (i := i) H o1 o2 ht (by omega) b3 ⟨n1, n2⟩ (by rw [fw]; exact why_no q)
      rw [fw] at C
      refine step_S (as2 := as) A C (fun g => ?_)
      have := R g
      rw [if_neg q, if_neg q] at this
      exact this
theorem st_film {a n b c i : Int32} {h : XH} {O : Oc} {M : Mo} {V : Hi} {KO : Oc} {KM : Mo} {KV : Hi} {kb : Bool} {T : Ta} {S : Nat → Sh} {nw tp ro rd ud as kp la sz : Nat → Int32} {it mv : Nat → Int64} {ty pl : Int32} {fa : Bool} {un ku : Int32} {ik : Bool} (A : ALL h O M V KO KM KV kb T S nw tp ro rd ud as kp la sz it mv ty pl fa un ku ik) : STEP mX6_film mX7_film [.int a, .int n, .int b, .int c, .int i] h := by
  obtain ⟨H, E, rO, rK, rT, rS⟩ := id A
  obtain ⟨o1, o2, o3, o4⟩ := id rO
  have wf := RM.wf o1 o2
  by_cases hb : isT nw a = false ∨ inI n (nI 1) (nI 24) = false ∨ inI b (nI 0) (nI 3) = false ∨ inI c (nI 0) (nI 3) = false
  · exact step_S (as2 := as) A (c_X6_film_bad (d := 4) H o1 hb) (fun g => c_X7_film_bad (d := 4) hb)
  · have b1 : isT nw a = true := (bcase _).resolve_right (fun z => hb (Or.inl z))
    have b4 : inI n (nI 1) (nI 24) = true := (bcase _).resolve_right (fun z => hb (Or.inr (Or.inl z)))
    have b2 : inI b (nI 0) (nI 3) = true := (bcase _).resolve_right (fun z => hb (Or.inr (Or.inr (Or.inl z))))
    have b3 : inI c (nI 0) (nI 3) = true := (bcase _).resolve_right (fun z => hb (Or.inr (Or.inr (Or.inr z))))
    obtain ⟨t, ht, rfl⟩ := isT_nat wf b1
    obtain ⟨s, -, s2, rfl⟩ := inI_nat (by decide) (by decide) b2
    obtain ⟨n, n1, n2, rfl⟩ := inI_nat (by decide) (by decide) b4
    obtain ⟨l, -, l2, rfl⟩ := inI_nat (by decide) (by decide) b3
    obtain ⟨e1, e2, e3, e4, e5⟩ := rS s (by omega)
    obtain ⟨z, hz, ez⟩ := id e4
    have fw := fnd_why e1 e2 e3 e4 (nI l) i (nI n)
    have R := fun g : XH => c_X7_film (d := 3) (h := g) (t := t) (n := n) (s := s) (l := nI l) (i := i) (nw := nw) (tp := tp) (ro := ro) (rd := rd) (ud := ud) (as := as) (kp := kp) (la := la) (sz := sz) (it := it) (mv := mv) (ty := ty) (pl := pl) (fa := fa) (un := un) (ku := ku) (ik := ik) wf ht n1 n2 (by omega) b3 ez hz
    by_cases q : 0 ≤ whyF la sz s (nI l) i (nI n)
    · obtain ⟨w1, w2, j, m, rfl, em, him, ew⟩ := whyF_0 ez hz q
      have m1 : n = m := by
        have hm : m ≤ 24 := by omega
        exact (nI_eq (by omega) (by omega)).mp em
      subst m1
      have C := c_X6_film (d := 1) (t := t) (i := j) (l := l) H o1 o2 ht (show s < 4 by omega) (by omega) (e1.trans w2) ⟨n1, n2⟩ (by omega) (by rw [fw, ew]; rfl)
      have R2 : ∀ g : XH, MetH mX7_film (6, 0, 0) [.ref 98, .int (nI t), .int (nI n), .int (nI s), .int (nI l), .int (nI j)] (mh g nw tp ro rd ud as kp la sz it mv ty pl fa un ku ik) (nI n) (mh g nw tp ro rd ud (cp nw as 43) kp la sz (putL it (flG O M t) (24 * s + j) n) mv ty pl fa un ku ik) := fun g => by
        have := R g
        rw [if_pos q, if_pos q, nI_clamp (by omega), film_G o1 o2 ht] at this
        exact this
      refine step_C A C R2 ⟨rO, rK, rT, rS.up (fun _ _ => rfl) (fun _ _ => rfl) (fun k hk4 hk x hx => ?_) ⟨e1, e2, e3, e4, fun x hx => ?_⟩⟩
      · rw [putL, if_neg (by omega)]
      · show putL (S s).it (flG O M t) j n x = _
        unfold putL
        by_cases y : j ≤ x ∧ x < j + n
        · rw [if_pos y, if_pos (by omega), show 24 * s + x - (24 * s + j) = x - j by omega]
        · rw [if_neg y, if_neg (by omega)]
          exact e5 x hx
    · have C := c_X6_film_no (d := 4) (s := s) (i := i) H o1 o2 ht (by omega) b3 ⟨n1, n2⟩ (by rw [fw]; exact why_no q)
      rw [fw] at C
      refine step_S (as2 := as) A C (fun g => ?_)
      have := R g
      rw [if_neg q, if_neg q] at this
      exact this
theorem cpy_why {A B : Sh} {la sz : Nat → Int32} {f t : Nat} (a1 : A.la = la f) (a2 : A.sz = sz f) (a3 : la f = -1 ∨ ∃ l, l < 4 ∧ la f = nI l) (a4 : ∃ z, z ≤ 24 ∧ sz f = nI z) (b1 : B.la = la t) (b2 : B.sz = sz t) (b3 : la t = -1 ∨ ∃ l, l < 4 ∧ la t = nI l) (b4 : ∃ z, z ≤ 24 ∧ sz t = nI z) (i j n : Int32) : cpyC A B i j n = cpyF la sz f t i j n := by
  rw [cpyC, cpyF, ← fnd_why b1 b2 b3 b4, ← fnd_why a1 a2 a3 a4, fndI, fndI, a1, b1]
  have pa := la_pos a3
  have pb := la_pos b3
  by_cases c1 : la f = -1
  · rw [if_pos (Or.inl c1), if_neg (fun z => pa.mp z.1 c1)]
  by_cases c2 : la t = -1
  · rw [if_pos (Or.inr c2), if_neg (fun z => pb.mp z.2 c2)]
  have pp : 0 ≤ la f ∧ 0 ≤ la t := ⟨pa.mpr c1, pb.mpr c2⟩
  rw [if_neg (show ¬ (la f = -1 ∨ la t = -1) from fun z => z.elim c1 c2), if_pos pp, if_neg c2, if_neg c1, if_pos (show la f = la f from rfl)]
  by_cases c3 : la f = la t
  · rw [if_pos c3, if_pos c3.symm]
    rcases bcase (hldI B.sz j n) with x | x
    · rw [x, if_pos rfl, if_pos rfl]
      rcases bcase (hldI A.sz i n) with y | y
      · rw [y, if_pos ⟨rfl, rfl⟩, if_pos rfl]
      · rw [y, if_neg (fun z => Bool.noConfusion z.1), if_neg Bool.false_ne_true]
    · rw [x, if_neg (fun z => Bool.noConfusion z.2), if_neg Bool.false_ne_true, if_neg (by decide)]
  · rw [if_neg c3, if_neg (show ¬ la t = la f from fun z => c3 z.symm), if_neg (show ¬ (-12 : Int32) = 0 by decide)]
theorem st_copy {a i b j n : Int32} {h : XH} {O : Oc} {M : Mo} {V : Hi} {KO : Oc} {KM : Mo} {KV : Hi} {kb : Bool} {T : Ta} {S : Nat → Sh} {nw tp ro rd ud as kp la sz : Nat → Int32} {it mv : Nat → Int64} {ty pl : Int32} {fa : Bool} {un ku : Int32} {ik : Bool} (A : ALL h O M V KO KM KV kb T S nw tp ro rd ud as kp la sz it mv ty pl fa un ku ik) : STEP mX6_copy mX7_copy [.int a, .int i, .int b, .int j, .int n] h := by
  obtain ⟨H, E, rO, rK, rT, rS⟩ := id A
  by_cases hb : inI a (nI 0) (nI 3) = false ∨ inI b (nI 0) (nI 3) = false
  · exact step_S (as2 := as) A (c_X6_copy_bad (d := 4) hb) (fun g => c_X7_copy_bad (d := 4) hb)
  · have b1 : inI a (nI 0) (nI 3) = true := (bcase _).resolve_right (fun z => hb (Or.inl z))
    have b2 : inI b (nI 0) (nI 3) = true := (bcase _).resolve_right (fun z => hb (Or.inr z))
    obtain ⟨f, -, f2, rfl⟩ := inI_nat (by decide) (by decide) b1
    obtain ⟨t, -, t2, rfl⟩ := inI_nat (by decide) (by decide) b2
    obtain ⟨e1, e2, e3, e4, e5⟩ := rS f (by omega)
    obtain ⟨d1, d2, d3, d4, d5⟩ := rS t (by omega)
    obtain ⟨zf, hzf, ezf⟩ := id e4
    obtain ⟨zt, hzt, ezt⟩ := id d4
    have fw := cpy_why e1 e2 e3 e4 d1 d2 d3 d4 i j n
    have R := fun g : XH => c_X7_copy (d := 4) (h := g) (f := f) (t := t) (i := i) (j := j) (n := n) (nw := nw) (tp := tp) (ro := ro) (rd := rd) (ud := ud) (as := as) (kp := kp) (la := la) (sz := sz) (it := it) (mv := mv) (ty := ty) (pl := pl) (fa := fa) (un := un) (ku := ku) (ik := ik) (by omega) (by omega) ezf ezt hzf hzt
    by_cases q : 0 ≤ cpyF la sz f t i j n
    · have ez0 : cpyF la sz f t i j n = 0 ∧ 0 ≤ whyF la sz t (la f) j n ∧ 0 ≤ whyF la sz f (la f) i n := by
        unfold cpyF at q ⊢
        by_cases c1 : 0 ≤ la f ∧ 0 ≤ la t
        · rw [if_pos c1] at q ⊢
          by_cases c2 : whyF la sz t (la f) j n = 0
          · rw [if_pos c2] at q ⊢
            obtain ⟨-, -, -, -, -, -, -, ew⟩ := whyF_0 ezf hzf q
            exact ⟨ew, by rw [c2]; decide, q⟩
          · rw [if_neg c2] at q
            obtain ⟨-, -, -, -, -, -, -, ew⟩ := whyF_0 ezt hzt q
            exact absurd ew c2
        · rw [if_neg c1] at q
          exact absurd q (by decide)
      obtain ⟨-, -, j', m, rfl, em, hjm, -⟩ := whyF_0 ezt hzt ez0.2.1
      obtain ⟨-, -, i', m', rfl, em', him, -⟩ := whyF_0 ezf hzf ez0.2.2
      subst em
      have mm : m = m' := (nI_eq (by omega) (by omega)).mp em'
      subst mm
      have R2 : ∀ g : XH, MetH mX7_copy (6, 0, 0) [.ref 98, .int (nI f), .int (nI i'), .int (nI t), .int (nI j'), .int (nI m)] (mh g nw tp ro rd ud as kp la sz it mv ty pl fa un ku ik) (nI m) (mh g nw tp ro rd ud as kp la sz (putL it (cp (fun k => it (24 * f + i' + k)) mv m) (24 * t + j') m) (cp (fun k => it (24 * f + i' + k)) mv m) ty pl fa un ku ik) := fun g => by
        have := R g
        rw [if_pos q, if_pos q, nI_clamp (show i' < 2 ^ 31 by omega), nI_clamp (show j' < 2 ^ 31 by omega), nI_clamp (show m < 2 ^ 31 by omega)] at this
        exact this
      refine step_C A (c_X6_copy (d := 4) (f := f) (t := t) H (by omega) (by omega) (by omega) (by omega) (by rw [fw]; exact ez0.1)) R2 ⟨rO, rK, rT, rS.up (fun _ _ => rfl) (fun _ _ => rfl) (fun k hk4 hk x hx => ?_) ⟨d1, d2, d3, d4, fun x hx => ?_⟩⟩
      · rw [putL, if_neg (by omega)]
      · show va_cpy (S f).it (S t).it i' j' m x = _
        unfold putL
        by_cases y : j' ≤ x ∧ x < j' + m
        · rw [pk_cpy_in y.1 y.2, if_pos (by omega), cp, if_pos (by omega), e5 _ (by omega)]
          congr 1
          omega
        · rw [pk_cpy_out (by omega), if_neg (by omega)]
          exact d5 x hx
    · have C := c_X6_copy_no (d := 4) (f := f) (t := t) (i := i) (j := j) (n := n) H (by omega) (by omega) (by rw [fw]; exact fun z => q (by rw [z]; decide))
      rw [fw] at C
      refine step_S (as2 := as) A C (fun g => ?_)
      have := R g
      rw [if_neg q, if_neg q] at this
      exact this
