/-! the calls, one by one: foretold, images, texts -/
theorem st_ahead {a b : Int32} {h : XH} {O : Oc} {M : Mo} {V : Hi} {KO : Oc} {KM : Mo} {KV : Hi} {kb : Bool} {T : Ta} {S : Nat → Sh} {nw tp ro rd ud as kp la sz : Nat → Int32} {it mv : Nat → Int64} {ty pl : Int32} {fa : Bool} {un ku : Int32} {ik : Bool} (A : ALL h O M V KO KM KV kb T S nw tp ro rd ud as kp la sz it mv ty pl fa un ku ik) : STEP mX6_ahead mX7_ahead [.int a, .int b] h := by
  obtain ⟨H, E, ⟨o1, o2, o3, o4⟩, rK, rT, rS⟩ := id A
  rcases bcase (inI a (nI 0) (nI 60)) with ha | ha
  · rcases bcase (inI b (nI 0) (nI 2)) with hb | hb
    · obtain ⟨n, -, n2, rfl⟩ := inI_nat (by decide) (by decide) ha
      obtain ⟨w, -, w2, rfl⟩ := inI_nat (by decide) (by decide) hb
      exact step_N A (c_X6_ahead (d := 1) H o1 o2 n2 w2) (fun g => c_X7_ahead (d := 2) (RM.wf o1 o2) n2 w2)
    · exact step_S (as2 := as) A (c_X6_ahead_bad (d := 5) (Or.inr hb)) (fun g => c_X7_ahead_bad (d := 5) (Or.inr hb))
  · exact step_S (as2 := as) A (c_X6_ahead_bad (d := 5) (Or.inl ha)) (fun g => c_X7_ahead_bad (d := 5) (Or.inl ha))
theorem st_fruit {a b : Int32} {h : XH} {O : Oc} {M : Mo} {V : Hi} {KO : Oc} {KM : Mo} {KV : Hi} {kb : Bool} {T : Ta} {S : Nat → Sh} {nw tp ro rd ud as kp la sz : Nat → Int32} {it mv : Nat → Int64} {ty pl : Int32} {fa : Bool} {un ku : Int32} {ik : Bool} (A : ALL h O M V KO KM KV kb T S nw tp ro rd ud as kp la sz it mv ty pl fa un ku ik) : STEP mX6_fruit mX7_fruit [.int a, .int b] h := by
  obtain ⟨H, E, ⟨o1, o2, o3, o4⟩, rK, rT, rS⟩ := id A
  have wf := RM.wf o1 o2
  rcases bcase (isT nw a) with ha | ha
  · rcases bcase (inI b (nI 0) (nI 60)) with hb | hb
    · obtain ⟨t, ht, rfl⟩ := isT_nat wf ha
      obtain ⟨n, -, n2, rfl⟩ := inI_nat (by decide) (by decide) hb
      exact step_S A (c_X6_fruit (d := 1) H o1 o2 ht n2) (fun g => c_X7_fruit (d := 2) wf ht n2)
    · exact step_S (as2 := as) A (c_X6_fruit_bad (d := 5) H o1 (Or.inr hb)) (fun g => c_X7_fruit_bad (d := 4) (Or.inr hb))
  · exact step_S (as2 := as) A (c_X6_fruit_bad (d := 5) H o1 (Or.inl ha)) (fun g => c_X7_fruit_bad (d := 4) (Or.inl ha))
theorem st_gathered {h : XH} {O : Oc} {M : Mo} {V : Hi} {KO : Oc} {KM : Mo} {KV : Hi} {kb : Bool} {T : Ta} {S : Nat → Sh} {nw tp ro rd ud as kp la sz : Nat → Int32} {it mv : Nat → Int64} {ty pl : Int32} {fa : Bool} {un ku : Int32} {ik : Bool} (A : ALL h O M V KO KM KV kb T S nw tp ro rd ud as kp la sz it mv ty pl fa un ku ik) : STEP mX6_gathered mX7_gathered [] h := by
  obtain ⟨H, E, ⟨o1, o2, o3, o4⟩, rK, rT, rS⟩ := id A
  exact step_N A (c_X6_gathered (d := 1) H o1 o2) (fun g => c_X7_gathered (d := 3) (RM.wf o1 o2))
theorem st_plan {a b : Int32} {h : XH} {O : Oc} {M : Mo} {V : Hi} {KO : Oc} {KM : Mo} {KV : Hi} {kb : Bool} {T : Ta} {S : Nat → Sh} {nw tp ro rd ud as kp la sz : Nat → Int32} {it mv : Nat → Int64} {ty pl : Int32} {fa : Bool} {un ku : Int32} {ik : Bool} (A : ALL h O M V KO KM KV kb T S nw tp ro rd ud as kp la sz it mv ty pl fa un ku ik) : STEP mX6_plan mX7_plan [.int a, .int b] h := by
  obtain ⟨H, E, ⟨o1, o2, o3, o4⟩, rK, rT, rS⟩ := id A
  have wf := RM.wf o1 o2
  by_cases hb : inI a (nI 1) (nI 14) = false ∨ (¬ b = -4 ∧ isL nw b = false)
  · exact step_S (as2 := as) A (c_X6_plan_bad (d := 5) H o1 hb) (fun g => c_X7_plan_bad (d := 4) wf hb)
  · have ha : inI a (nI 1) (nI 14) = true := by
      rcases bcase (inI a (nI 1) (nI 14)) with z | z
      · exact z
      · exact absurd (Or.inl z) hb
    have hl : b = -4 ∨ isL nw b = true := by
      by_cases z : b = -4
      · exact Or.inl z
      · rcases bcase (isL nw b) with y | y
        · exact Or.inr y
        · exact absurd (Or.inr ⟨z, y⟩) hb
    by_cases hz : O.nT = 0 ∨ O.nL = 0
    · exact step_S (as2 := as) A (c_X6_plan_none (d := 5) H o1 ha hl hz) (fun g => c_X7_plan_none (d := 4) wf ha hl hz)
    · obtain ⟨n, n1, n2, rfl⟩ := inI_nat (by decide) (by decide) ha
      exact step_N A (c_X6_plan (d := 0) H o1 o2 (by omega) (by omega) n1 n2 hl) (fun g => c_X7_plan (d := 2) wf (by omega) (by omega) n1 n2 hl)
theorem st_round {a b c : Int32} {h : XH} {O : Oc} {M : Mo} {V : Hi} {KO : Oc} {KM : Mo} {KV : Hi} {kb : Bool} {T : Ta} {S : Nat → Sh} {nw tp ro rd ud as kp la sz : Nat → Int32} {it mv : Nat → Int64} {ty pl : Int32} {fa : Bool} {un ku : Int32} {ik : Bool} (A : ALL h O M V KO KM KV kb T S nw tp ro rd ud as kp la sz it mv ty pl fa un ku ik) : STEP mX6_round mX7_round [.int a, .int b, .int c] h := by
  obtain ⟨H, E, ⟨o1, o2, o3, o4⟩, rK, rT, rS⟩ := id A
  have wf := RM.wf o1 o2
  by_cases hb : isL nw a = false ∨ inI b (nI 1) (nI 4) = false ∨ c < -1
  · exact step_S (as2 := as) A (c_X6_round_bad (d := 5) H o1 hb) (fun g => c_X7_round_bad (d := 4) wf hb)
  · have hl : isL nw a = true := by
      rcases bcase (isL nw a) with z | z
      · exact z
      · exact absurd (Or.inl z) hb
    have hn : inI b (nI 1) (nI 4) = true := by
      rcases bcase (inI b (nI 1) (nI 4)) with z | z
      · exact z
      · exact absurd (Or.inr (Or.inl z)) hb
    have hk : ¬ c < -1 := fun z => hb (Or.inr (Or.inr z))
    by_cases hz : O.nT = 0
    · exact step_S (as2 := as) A (c_X6_round_none (d := 5) H o1 hl hn hk (Or.inl hz)) (fun g => c_X7_round_none (d := 4) wf hl hn hk hz)
    · obtain ⟨l, hlt, rfl⟩ := isL_nat wf hl
      obtain ⟨n, n1, n2, rfl⟩ := inI_nat (by decide) (by decide) hn
      by_cases q : c < nI n
      · exact step_N A (c_X6_round (d := 1) H o1 o2 (by omega) hlt n1 n2 hk q) (fun g => c_X7_round (d := 2) wf (by omega) hlt n1 n2 hk)
      · refine step_S (as2 := cp nw as 43) A (c_X6_round_none (d := 5) H o1 hl hn hk (Or.inr (Int32.not_lt.mp q))) (fun g => ?_)
        have R := c_X7_round (d := 2) (h := g) (l := l) (n := n) (k := c) (nw := nw) (tp := tp) (ro := ro) (rd := rd) (ud := ud) (as := as) (kp := kp) (la := la) (sz := sz) (it := it) (mv := mv) (ty := ty) (pl := pl) (fa := fa) (un := un) (ku := ku) (ik := ik) wf (by omega) hlt n1 n2 hk
        have e : roundF nw O.nT O.nL l n c = -4 := by
          rw [roundF, if_pos (Int32.le_trans (nI_pos' (show n < 2 ^ 31 by omega)) (Int32.not_lt.mp q)), if_neg q]
        rw [e] at R
        exact R
theorem st_longer {a b : Int32} {h : XH} {O : Oc} {M : Mo} {V : Hi} {KO : Oc} {KM : Mo} {KV : Hi} {kb : Bool} {T : Ta} {S : Nat → Sh} {nw tp ro rd ud as kp la sz : Nat → Int32} {it mv : Nat → Int64} {ty pl : Int32} {fa : Bool} {un ku : Int32} {ik : Bool} (A : ALL h O M V KO KM KV kb T S nw tp ro rd ud as kp la sz it mv ty pl fa un ku ik) : STEP mX6_longer mX7_longer [.int a, .int b] h := by
  obtain ⟨H, E, ⟨o1, o2, o3, o4⟩, rK, rT, rS⟩ := id A
  have wf := RM.wf o1 o2
  rcases bcase (isL nw a) with ha | ha
  · rcases bcase (isT nw b) with hb | hb
    · obtain ⟨l, hl, rfl⟩ := isL_nat wf ha
      obtain ⟨t, ht, rfl⟩ := isT_nat wf hb
      obtain ⟨-, -, -, -, le, -, hle, ele⟩ := o1.2.2.2.2.2.2.2.2.2 l hl
      have el : nw (27 + 4 * l + 1) = nI le := by rw [show 27 + 4 * l + 1 = 28 + 4 * l by omega]; exact ele
      exact step_S (as2 := as) A (c_X6_longer (d := 4) H o1 o2 hl ht hle el) (fun g => c_X7_longer (d := 4) wf hl ht hle el)
    · exact step_S (as2 := as) A (c_X6_longer_bad (d := 5) H o1 (Or.inr hb)) (fun g => c_X7_longer_bad (d := 4) wf (Or.inr hb))
  · exact step_S (as2 := as) A (c_X6_longer_bad (d := 5) H o1 (Or.inl ha)) (fun g => c_X7_longer_bad (d := 4) wf (Or.inl ha))
theorem st_larger {a b : Int32} {h : XH} {O : Oc} {M : Mo} {V : Hi} {KO : Oc} {KM : Mo} {KV : Hi} {kb : Bool} {T : Ta} {S : Nat → Sh} {nw tp ro rd ud as kp la sz : Nat → Int32} {it mv : Nat → Int64} {ty pl : Int32} {fa : Bool} {un ku : Int32} {ik : Bool} (A : ALL h O M V KO KM KV kb T S nw tp ro rd ud as kp la sz it mv ty pl fa un ku ik) : STEP mX6_larger mX7_larger [.int a, .int b] h := by
  obtain ⟨H, E, ⟨o1, o2, o3, o4⟩, rK, rT, rS⟩ := id A
  rcases bcase (inI a (nI 1) (nI 60)) with ha | ha
  · rcases bcase (inI b (nI 1) (nI 999)) with hb | hb
    · obtain ⟨n, n1, n2, rfl⟩ := inI_nat (by decide) (by decide) ha
      exact step_S A (c_X6_larger (d := 0) H o1 o2 n1 n2 hb) (fun g => c_X7_larger (d := 2) (RM.wf o1 o2) n1 n2 hb)
    · exact step_S (as2 := as) A (c_X6_larger_bad (d := 5) (Or.inr hb)) (fun g => c_X7_larger_bad (d := 5) (Or.inr hb))
  · exact step_S (as2 := as) A (c_X6_larger_bad (d := 5) (Or.inl ha)) (fun g => c_X7_larger_bad (d := 5) (Or.inl ha))
theorem st_luck {a b c : Int32} {h : XH} {O : Oc} {M : Mo} {V : Hi} {KO : Oc} {KM : Mo} {KV : Hi} {kb : Bool} {T : Ta} {S : Nat → Sh} {nw tp ro rd ud as kp la sz : Nat → Int32} {it mv : Nat → Int64} {ty pl : Int32} {fa : Bool} {un ku : Int32} {ik : Bool} (A : ALL h O M V KO KM KV kb T S nw tp ro rd ud as kp la sz it mv ty pl fa un ku ik) : STEP mX6_luck mX7_luck [.int a, .int b, .int c] h := by
  obtain ⟨H, E, ⟨o1, o2, o3, o4⟩, rK, rT, rS⟩ := id A
  rcases bcase (inI a (nI 0) (nI 150)) with ha | ha
  · rcases bcase (inI b (nI 0) (nI 10)) with hb | hb
    · rcases bcase (inI c (nI 0) (nI 1)) with hc | hc
      · obtain ⟨x, -, x2, rfl⟩ := inI_nat (by decide) (by decide) hb
        obtain ⟨w, -, w2, rfl⟩ := inI_nat (by decide) (by decide) hc
        obtain ⟨C, pos⟩ := c_X6_luck (d := 1) H o1 o2 ha x2 w2
        exact step_S A C (fun g => c_X7_luck (d := 2) (RM.wf o1 o2) ha x2 w2 pos)
      · exact step_S (as2 := as) A (c_X6_luck_bad (d := 5) (Or.inr (Or.inr hc))) (fun g => c_X7_luck_bad (d := 5) (Or.inr (Or.inr hc)))
    · exact step_S (as2 := as) A (c_X6_luck_bad (d := 5) (Or.inr (Or.inl hb))) (fun g => c_X7_luck_bad (d := 5) (Or.inr (Or.inl hb)))
  · exact step_S (as2 := as) A (c_X6_luck_bad (d := 5) (Or.inl ha)) (fun g => c_X7_luck_bad (d := 5) (Or.inl ha))
theorem st_image {h : XH} {O : Oc} {M : Mo} {V : Hi} {KO : Oc} {KM : Mo} {KV : Hi} {kb : Bool} {T : Ta} {S : Nat → Sh} {nw tp ro rd ud as kp la sz : Nat → Int32} {it mv : Nat → Int64} {ty pl : Int32} {fa : Bool} {un ku : Int32} {ik : Bool} (A : ALL h O M V KO KM KV kb T S nw tp ro rd ud as kp la sz it mv ty pl fa un ku ik) : STEP mX6_image mX7_image [] h := by
  obtain ⟨H, E, rO, rK, rT, rS⟩ := id A
  refine step_C A (c_X6_image (d := 3) H rO.2.2.2.1) (fun g => c_X7_image (d := 6)) ⟨rO, ⟨rfl, fun _ => ?_⟩, rT, rS⟩
  exact im_rel rO (fun j hj => by rw [put_out (by omega), cp, if_pos hj]) (fun j hj => put_in hj)
theorem st_restore {h : XH} {O : Oc} {M : Mo} {V : Hi} {KO : Oc} {KM : Mo} {KV : Hi} {kb : Bool} {T : Ta} {S : Nat → Sh} {nw tp ro rd ud as kp la sz : Nat → Int32} {it mv : Nat → Int64} {ty pl : Int32} {fa : Bool} {un ku : Int32} {ik : Bool} (A : ALL h O M V KO KM KV kb T S nw tp ro rd ud as kp la sz it mv ty pl fa un ku ik) : STEP mX6_restore mX7_restore [] h := by
  obtain ⟨H, E, rO, rK, rT, rS⟩ := id A
  obtain ⟨ek, rk⟩ := id rK
  rcases bcase ik with q | q
  · have r := rk q
    refine step_C A (c_X6_restore (d := 3) H r.2.2.2.1 (ek.trans q)) (fun g => c_X7_restore (d := 6) q) ⟨?_, rK, rT, rS⟩
    exact im_rel r (fun j hj => by rw [cp, if_pos hj]) (fun j hj => by rw [cp, if_pos hj])
  · exact step_S (as2 := as) A (c_X6_restore_none (d := 6) H (ek.trans q)) (fun g => c_X7_restore_none (d := 6) q)
theorem st_orchard {h : XH} {O : Oc} {M : Mo} {V : Hi} {KO : Oc} {KM : Mo} {KV : Hi} {kb : Bool} {T : Ta} {S : Nat → Sh} {nw tp ro rd ud as kp la sz : Nat → Int32} {it mv : Nat → Int64} {ty pl : Int32} {fa : Bool} {un ku : Int32} {ik : Bool} (A : ALL h O M V KO KM KV kb T S nw tp ro rd ud as kp la sz it mv ty pl fa un ku ik) : STEP mX6_orchard mX7_orchard [] h := by
  obtain ⟨H, E, rO, rK, ⟨t1, t2, t3, t4⟩, rS⟩ := id A
  obtain ⟨o1, o2, o3, o4⟩ := id rO
  refine ⟨orF tp T.n ro rd, _, c_X6_orchard (d := 1) H t2, fun v h1 hq => ?_⟩
  obtain ⟨PO, PM, z, rfl, ag, cs⟩ := hq
  rw [t1] at cs ⊢
  have eV := rdV_same (O := PO) (M := PM) (ro := ro) (rd := rd) t2 t4
  have E1 := mh_re E ag
  refine ⟨by rw [eV], ⟨_, by rw [E1]; rfl⟩, _, by rw [E1]; exact c_X7_orchard (d := 3) t2 t3, fun v2 h2 hq2 => ?_⟩
  obtain ⟨rfl, pl2, fa2, rfl⟩ := hq2
  refine ⟨rfl, ?_⟩
  have neg := orF_neg (tp := tp) (n := T.n) (ro := ro) (rd := rd) t2
  have RS0 := read_same (tp := tp) (O := PO) (M := PM) (ro := ro) (rd := rd) t2
  rw [eV] at cs
  rcases bcase (orC tp T.n ro rd).2 with q | q
  · rw [if_pos q]
    rcases cs with ⟨-, p, f, C1⟩ | ⟨c1, -⟩
    · exact INV.mk2 C1 ⟨rO, rK, ⟨rfl, Nat.zero_le _, rfl, fun i hi => absurd hi (Nat.not_lt_zero _)⟩, rS⟩
    · exact absurd (neg.1 q) c1
  · obtain ⟨n1, n2⟩ := neg.2 q
    obtain ⟨-, mk, ok⟩ := RS0
    obtain ⟨a1, a2, a3, a4, a5, a6⟩ := ok n1
    rw [q, if_neg Bool.false_ne_true]
    rcases cs with ⟨c1, -⟩ | ⟨-, p, f, C1⟩
    · rw [n2] at c1
      exact absurd c1 (nI_pos (by omega))
    · obtain ⟨r1, r2, r3⟩ := or_rel o1 o2 ⟨mk.1.trans z.1, mk.2.1.trans z.2.1, mk.2.2.1.trans z.2.2.1, mk.2.2.2.trans z.2.2.2⟩ a1 a2.2 a3 a4 a5 a6
      exact INV.mk2 C1 ⟨RelO.new r1 r2 ⟨0, by omega, r3⟩, rK, ⟨rfl, Nat.zero_le _, rfl, fun i hi => absurd hi (Nat.not_lt_zero _)⟩, rS⟩
