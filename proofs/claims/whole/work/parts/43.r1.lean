/-! a text: class and reference read alike, the pieces -/
def TL (tp : Nat → Int32) (n : Nat) : Prop := ∀ i, i < n → ∃ c, 32 ≤ c ∧ c ≤ 126 ∧ tp i = nI c
theorem nl_cases (tp : Nat → Int32) (n p : Nat) : (sk tp n p < n ∧ nxt tp n p = tp (sk tp n p) ∧ ltr tp n (sk tp n p) = tp (sk tp n p)) ∨ (¬ sk tp n p < n ∧ nxt tp n p = -1 ∧ ltr tp n (sk tp n p) = nI 0) := by
  by_cases q : sk tp n p < n
  · exact Or.inl ⟨q, if_pos q, if_pos q⟩
  · exact Or.inr ⟨q, if_neg q, if_neg q⟩
theorem nl_eq {tp : Nat → Int32} {n p : Nat} {c : Int32} (c0 : ¬ nI 0 = c) (c1 : ¬ -1 = c) : nxt tp n p = c ↔ ltr tp n (sk tp n p) = c := by
  rcases nl_cases tp n p with ⟨-, a, b⟩ | ⟨-, a, b⟩
  · rw [a, b]
  · rw [a, b]
    exact ⟨fun q => absurd q c1, fun q => absurd q c0⟩
theorem isD_nl (tp : Nat → Int32) (n p : Nat) : isD (nxt tp n p) = isD (ltr tp n (sk tp n p)) := by
  rcases nl_cases tp n p with ⟨-, a, b⟩ | ⟨-, a, b⟩
  · rw [a, b]
  · rw [a, b]
    decide
theorem skF_stop (tp : Nat → Int32) : ∀ f p, skF tp f p < p + f → ¬ tp (skF tp f p) = nI 32
  | 0, p, h => absurd h (Nat.lt_irrefl _)
  | f + 1, p, h => by
    unfold skF at h ⊢
    by_cases c : tp p = nI 32
    · rw [if_pos c] at h ⊢
      exact skF_stop tp f (p + 1) (by omega)
    · rw [if_neg c]
      exact c
theorem sk_sk {tp : Nat → Int32} {n p : Nat} (hp : p ≤ n) : sk tp n (sk tp n p) = sk tp n p := by
  have h1 := sk_le (tp := tp) hp
  have h2 : sk tp n p < n → ¬ tp (sk tp n p) = nI 32 := fun q => skF_stop tp (n - p) p (by show sk tp n p < _; omega)
  generalize sk tp n p = r at h1 h2
  unfold sk
  by_cases q : r < n
  · rw [show n - r = (n - r - 1) + 1 by omega, skF, if_neg (h2 q)]
  · rw [show n - r = 0 by omega, skF]
theorem nxt_sk {tp : Nat → Int32} {n p : Nat} (hp : p ≤ n) : nxt tp n (sk tp n p) = nxt tp n p := by
  unfold nxt
  rw [sk_sk hp]
/-- the class's place and fault, the reference's -/
def FR (n p : Nat) (f : Int32) (p' : Nat) (fa : Bool) : Prop := (fa = false ∧ f = 0 ∧ p = p') ∨ (fa = true ∧ f = -20 - nI p' ∧ p' ≤ n)
theorem nb_same {tp : Nat → Int32} {n p p' : Nat} {lo hi f : Int32} {fa : Bool} (hn : n ≤ 90) (hp : p' ≤ n) (H : FR n p f p' fa) : FR n (nbP tp n lo hi p f) (nbF tp n lo hi p f) (nbr tp n lo hi p' fa).2.1 (nbr tp n lo hi p' fa).2.2 ∧ ((nbr tp n lo hi p' fa).2.2 = false → fa = false ∧ nbW tp n lo hi p f = (nbr tp n lo hi p' fa).1 ∧ inI (nbr tp n lo hi p' fa).1 lo hi = true) := by
  rcases H with ⟨rfl, rfl, rfl⟩ | ⟨rfl, rfl, h⟩
  · rw [nbP, if_pos rfl, nbF, if_pos rfl, nbW, if_pos rfl, nbr, if_neg Bool.false_ne_true, isD_nl]
    by_cases c : isD (ltr tp n (sk tp n p)) = true
    · rw [if_pos c, if_pos c, if_pos c, if_pos c]
      by_cases c2 : inI (nbrV tp n (sk tp n p)) lo hi = true
      · rw [if_pos c2, if_pos c2]
        exact ⟨Or.inl ⟨rfl, rfl, rfl⟩, fun _ => ⟨rfl, rfl, c2⟩⟩
      · rw [if_neg c2, if_neg c2]
        exact ⟨Or.inr ⟨rfl, rfl, (sk_le hp).2⟩, fun q => Bool.noConfusion q⟩
    · rw [if_neg c, if_neg c, if_neg c, if_neg c]
      exact ⟨Or.inr ⟨rfl, rfl, (sk_le hp).2⟩, fun q => Bool.noConfusion q⟩
  · have z := nz20 (show p' ≤ 90 by omega)
    rw [nbP, if_neg z, nbF, if_neg z, nbr, if_pos rfl]
    exact ⟨Or.inr ⟨rfl, rfl, h⟩, fun q => Bool.noConfusion q⟩
theorem dm_same {tp : Nat → Int32} {n p p' : Nat} {c f : Int32} {fa : Bool} (c0 : ¬ nI 0 = c) (c1 : ¬ -1 = c) (hn : n ≤ 90) (hp : p' ≤ n) (H : FR n p f p' fa) : FR n (dmP tp n c p f) (dmF tp n c p f) (sgn tp n c p' fa).1 (sgn tp n c p' fa).2 ∧ ((sgn tp n c p' fa).2 = false → fa = false) := by
  rcases H with ⟨rfl, rfl, rfl⟩ | ⟨rfl, rfl, h⟩
  · rw [dmP, if_pos rfl, dmF, if_pos rfl, psP, sgn, if_neg Bool.false_ne_true]
    by_cases e : nxt tp n p = c
    · rw [if_pos e, if_pos e, if_pos ((nl_eq c0 c1).mp e)]
      exact ⟨Or.inl ⟨rfl, rfl, rfl⟩, fun _ => rfl⟩
    · rw [if_neg e, if_neg e, if_neg (fun q => e ((nl_eq c0 c1).mpr q))]
      exact ⟨Or.inr ⟨rfl, rfl, (sk_le hp).2⟩, fun q => Bool.noConfusion q⟩
  · have z := nz20 (show p' ≤ 90 by omega)
    rw [dmP, if_neg z, dmF, if_neg z, sgn, if_pos rfl]
    exact ⟨Or.inr ⟨rfl, rfl, h⟩, fun q => Bool.noConfusion q⟩
theorem dgB_eq {tp : Nat → Int32} {n p : Nat} {lo hi : Int32} (hin : ∀ x, inI (x - nI 48) lo hi = true → isD x = true) : dgB tp n lo hi p = inI (ltr tp n (sk tp n p) - nI 48) lo hi := by
  rw [dgB]
  rcases nl_cases tp n p with ⟨-, a, b⟩ | ⟨-, a, b⟩
  · rw [a, b]
    by_cases c : inI (tp (sk tp n p) - nI 48) lo hi = true
    · rw [c, hin _ c]
      rfl
    · rw [Bool.not_eq_true] at c
      rw [c, Bool.and_false]
  · rw [a, b]
    have h1 : isD (-1) = false := by decide
    have h2 : inI (nI 0 - nI 48) lo hi = false := by
      by_cases c : inI (nI 0 - nI 48) lo hi = true
      · exact absurd (hin _ c) (by decide)
      · rwa [Bool.not_eq_true] at c
    rw [h1, h2, Bool.false_and]
theorem dgB_nl {tp : Nat → Int32} {n p : Nat} {lo hi : Int32} (h : dgB tp n lo hi p = true) : nxt tp n p = ltr tp n (sk tp n p) := by
  have := dgB_in h
  rw [nxt, if_pos this, ltr, if_pos this]
theorem dg_same {tp : Nat → Int32} {n p p' : Nat} {lo hi f : Int32} {fa : Bool} (hin : ∀ x, inI (x - nI 48) lo hi = true → isD x = true) (hn : n ≤ 90) (hp : p' ≤ n) (H : FR n p f p' fa) : FR n (dgP tp n lo hi p f) (dgF tp n lo hi p f) (dgt tp n lo hi p' fa).2.1 (dgt tp n lo hi p' fa).2.2 ∧ ((dgt tp n lo hi p' fa).2.2 = false → fa = false ∧ dgV tp n lo hi p f = (dgt tp n lo hi p' fa).1 ∧ inI (dgt tp n lo hi p' fa).1 lo hi = true) := by
  rcases H with ⟨rfl, rfl, rfl⟩ | ⟨rfl, rfl, h⟩
  · have eB := dgB_eq (tp := tp) (n := n) (p := p) hin
    rw [dgP, if_pos rfl, dgF, if_pos rfl, dgV, if_pos rfl, dgt, if_neg Bool.false_ne_true]
    by_cases c : dgB tp n lo hi p = true
    · have en := dgB_nl c
      rw [if_pos c, if_pos c, if_pos c, if_pos (eB.symm.trans c), en]
      exact ⟨Or.inl ⟨rfl, rfl, rfl⟩, fun _ => ⟨rfl, rfl, eB.symm.trans c⟩⟩
    · rw [if_neg c, if_neg c, if_neg c, if_neg (fun q => c (eB.trans q))]
      exact ⟨Or.inr ⟨rfl, rfl, (sk_le hp).2⟩, fun q => Bool.noConfusion q⟩
  · have z := nz20 (show p' ≤ 90 by omega)
    rw [dgP, if_neg z, dgF, if_neg z, dgt, if_pos rfl]
    exact ⟨Or.inr ⟨rfl, rfl, h⟩, fun q => Bool.noConfusion q⟩
theorem isD_of {lo hi : Nat} (h1 : hi ≤ 9 ∧ lo ≤ 9) (x : Int32) (h : inI (x - nI 48) (nI lo) (nI hi) = true) : isD x = true := by
  by_cases hl : lo ≤ hi
  · obtain ⟨m, a, b, e⟩ := inI_nat (by omega) (by omega) h
    have ex : x = nI (m + 48) := by
      rw [← nI_add, ← e]
      exact (Int32.sub_add_cancel x (nI 48)).symm
    rw [ex]
    exact inI_of (by omega) (by omega) (by decide)
  · have q := of_decide_eq_true h
    exact absurd (Int32.le_trans q.1 q.2) (nI_ge (by omega) (by omega))
theorem kd_1 (x : Int32) : kdB x = decide (0 ≤ kndF x) ∧ (kdB x = true → kdV x = kndF x ∧ ∃ j, j < 5 ∧ kndF x = nI j) := by
  unfold kdB kdV kndF
  by_cases k0 : x = nI 112
  · rw [if_pos k0, if_pos k0]
    exact ⟨by rw [decide_eq_true (Or.inl k0)]; decide, fun _ => ⟨rfl, 0, by decide, rfl⟩⟩
  rw [if_neg k0, if_neg k0]
  by_cases k1 : x = nI 100
  · rw [if_pos k1, if_pos k1]
    exact ⟨by rw [decide_eq_true (Or.inr (Or.inl k1))]; decide, fun _ => ⟨rfl, 1, by decide, rfl⟩⟩
  rw [if_neg k1, if_neg k1]
  by_cases k2 : x = nI 116
  · rw [if_pos k2, if_pos k2]
    exact ⟨by rw [decide_eq_true (Or.inr (Or.inr (Or.inl k2)))]; decide, fun _ => ⟨rfl, 2, by decide, rfl⟩⟩
  rw [if_neg k2, if_neg k2]
  by_cases k3 : x = nI 119
  · rw [if_pos k3, if_pos k3]
    exact ⟨by rw [decide_eq_true (Or.inr (Or.inr (Or.inr (Or.inl k3))))]; decide, fun _ => ⟨rfl, 3, by decide, rfl⟩⟩
  rw [if_neg k3, if_neg k3]
  by_cases k4 : x = nI 108
  · rw [if_pos k4, if_pos k4]
    exact ⟨by rw [decide_eq_true (Or.inr (Or.inr (Or.inr (Or.inr k4))))]; decide, fun _ => ⟨rfl, 4, by decide, rfl⟩⟩
  rw [if_neg k4, if_neg k4]
  have no : ¬ (x = nI 112 ∨ x = nI 100 ∨ x = nI 116 ∨ x = nI 119 ∨ x = nI 108) := by
    rintro (q | q | q | q | q)
    · exact k0 q
    · exact k1 q
    · exact k2 q
    · exact k3 q
    · exact k4 q
  rw [decide_eq_false no]
  exact ⟨by decide, fun q => Bool.noConfusion q⟩
theorem kd_same {tp : Nat → Int32} {n p : Nat} (hp : p ≤ n) : FR n (kdP tp n p) (kdF tp n p) (knd tp n p false).2.1 (knd tp n p false).2.2 ∧ ((knd tp n p false).2.2 = false → kdV (nxt tp n p) = (knd tp n p false).1 ∧ ∃ j, j < 5 ∧ (knd tp n p false).1 = nI j) := by
  rw [kdP, kdF, knd, if_neg Bool.false_ne_true]
  rcases nl_cases tp n p with ⟨-, a, b⟩ | ⟨-, a, b⟩
  · rw [a, b]
    generalize tp (sk tp n p) = x
    obtain ⟨k1, k2⟩ := kd_1 x
    by_cases c : kdB x = true
    · have c' : 0 ≤ kndF x := of_decide_eq_true (k1.symm.trans c)
      rw [if_pos c, if_pos c, if_pos c']
      exact ⟨Or.inl ⟨rfl, rfl, rfl⟩, fun _ => k2 c⟩
    · have c' : ¬ 0 ≤ kndF x := fun q => c (k1.trans (decide_eq_true q))
      rw [if_neg c, if_neg c, if_neg c']
      exact ⟨Or.inr ⟨rfl, rfl, (sk_le hp).2⟩, fun q => Bool.noConfusion q⟩
  · rw [a, b]
    have c : ¬ kdB (-1) = true := by decide
    have c' : ¬ 0 ≤ kndF (nI 0) := by decide
    rw [if_neg c, if_neg c, if_neg c']
    exact ⟨Or.inr ⟨rfl, rfl, (sk_le hp).2⟩, fun q => Bool.noConfusion q⟩
/-- perhaps a tree -/
theorem at_same {tp : Nat → Int32} {n nT p p' : Nat} {f : Int32} {fa : Bool} (hT : 1 ≤ nT ∧ nT ≤ 6) (hn : n ≤ 90) (hp : p' ≤ n) (H : FR n p f p' fa) : FR n (ctP tp n nT p f) (ctF tp n nT p f) (atT tp n nT p' fa).2.1 (atT tp n nT p' fa).2.2 ∧ ((atT tp n nT p' fa).2.2 = false → fa = false ∧ ctV tp n nT p f = (atT tp n nT p' fa).1 ∧ ((atT tp n nT p' fa).1 = -4 ∨ ∃ t, t < nT ∧ (atT tp n nT p' fa).1 = nI t)) := by
  rcases H with ⟨rfl, rfl, rfl⟩ | ⟨rfl, rfl, h⟩
  · rw [ctP, if_pos rfl, ctF, if_pos rfl, ctV, if_pos rfl, atT, if_neg Bool.false_ne_true]
    by_cases e : nxt tp n p = nI 61
    · have e' := (nl_eq (by decide) (by decide)).mp e
      have hs : sk tp n p < n := nxt_in (by decide) e
      rw [if_pos e, if_pos e, if_pos e, if_pos e', psP, if_pos e, pk_sub hT.1]
      have D := dg_same (tp := tp) (lo := nI 0) (hi := nI (nT - 1)) (f := 0) (fa := false) (p := sk tp n p + 1) (p' := sk tp n p + 1) (fun x hx => isD_of ⟨by omega, by omega⟩ x hx) hn (by omega) (Or.inl ⟨rfl, rfl, rfl⟩)
      refine ⟨D.1, fun q => ⟨rfl, (D.2 q).2.1, Or.inr ?_⟩⟩
      obtain ⟨t, -, h2, h3⟩ := inI_nat (by decide) (by omega) (D.2 q).2.2
      exact ⟨t, by omega, h3⟩
    · have e' : ¬ ltr tp n (sk tp n p) = nI 61 := fun q => e ((nl_eq (by decide) (by decide)).mpr q)
      rw [if_neg e, if_neg e, if_neg e, if_neg e', psP, if_neg e]
      exact ⟨Or.inl ⟨rfl, rfl, rfl⟩, fun _ => ⟨rfl, rfl, Or.inl rfl⟩⟩
  · have z := nz20 (show p' ≤ 90 by omega)
    rw [ctP, if_neg z, ctF, if_neg z, atT, if_pos rfl]
    exact ⟨Or.inr ⟨rfl, rfl, h⟩, fun q => Bool.noConfusion q⟩
/-- a tree -/
theorem tree_same {tp : Nat → Int32} {n p : Nat} (hn : n ≤ 90) (hp : p ≤ n) : FR n (cT5 tp n p).2.1 (cT5 tp n p).2.2 (rT5 tp n p false).2.1 (rT5 tp n p false).2.2 ∧ ((rT5 tp n p false).2.2 = false → (cT1 tp n p).1 = (rT1 tp n p false).1 ∧ (cT3 tp n p).1 = (rT3 tp n p false).1 ∧ (cT5 tp n p).1 = (rT5 tp n p false).1 ∧ inI (rT1 tp n p false).1 (nI 1) (nI 20) = true ∧ inI (rT3 tp n p false).1 (nI 0) (nI 99) = true ∧ inI (rT5 tp n p false).1 (nI 0) (nI 99) = true) := by
  have a1 := nb_same (tp := tp) (lo := nI 1) (hi := nI 20) (f := 0) (fa := false) hn hp (Or.inl ⟨rfl, rfl, rfl⟩)
  rw [e1b, e1g, e1a, show nbr tp n (nI 1) (nI 20) p false = rT1 tp n p false from rfl] at a1
  have a2 := dm_same (tp := tp) (c := nI 58) (by decide) (by decide) hn (rT1_le hp) a1.1
  rw [e2b, e2g, show sgn tp n (nI 58) (rT1 tp n p false).2.1 (rT1 tp n p false).2.2 = rT2 tp n p false from rfl] at a2
  have a3 := nb_same (tp := tp) (lo := nI 0) (hi := nI 99) hn (rT2_le hp) a2.1
  rw [e3b, e3g, e3a, show nbr tp n (nI 0) (nI 99) (rT2 tp n p false).1 (rT2 tp n p false).2 = rT3 tp n p false from rfl] at a3
  have a4 := dm_same (tp := tp) (c := nI 64) (by decide) (by decide) hn (rT3_le hp) a3.1
  rw [e4b, e4g, show sgn tp n (nI 64) (rT3 tp n p false).2.1 (rT3 tp n p false).2.2 = rT4 tp n p false from rfl] at a4
  have a5 := nb_same (tp := tp) (lo := nI 0) (hi := nI 99) hn (rT4_le hp) a4.1
  rw [e5b, e5g, e5a, show nbr tp n (nI 0) (nI 99) (rT4 tp n p false).1 (rT4 tp n p false).2 = rT5 tp n p false from rfl] at a5
  refine ⟨a5.1, fun q => ?_⟩
  obtain ⟨q4, v5, i5⟩ := a5.2 q
  obtain ⟨q2, v3, i3⟩ := a3.2 (a4.2 q4)
  obtain ⟨-, v1, i1⟩ := a1.2 (a2.2 q2)
  exact ⟨v1, v3, v5, i1, i3, i5⟩
/-- a ladder -/
theorem lad_same {tp : Nat → Int32} {n nT p : Nat} (hT : 1 ≤ nT ∧ nT ≤ 6) (hn : n ≤ 90) (hp : p ≤ n) : FR n (cL4 tp n nT p).2.1 (cL4 tp n nT p).2.2 (rL4 tp n nT p false).2.1 (rL4 tp n nT p false).2.2 ∧ ((rL4 tp n nT p false).2.2 = false → (cL1 tp n p).1 = (knd tp n p false).1 ∧ (cL2 tp n p).1 = (rL2 tp n p false).1 ∧ (cL3 tp n p).1 = (rL3 tp n p false).1 ∧ (cL4 tp n nT p).1 = (rL4 tp n nT p false).1 ∧ (∃ j, j < 5 ∧ (knd tp n p false).1 = nI j) ∧ inI (rL2 tp n p false).1 (nI 1) (nI 9) = true ∧ inI (rL3 tp n p false).1 (nI 0) (nI 9) = true ∧ ((rL4 tp n nT p false).1 = -4 ∨ ∃ t, t < nT ∧ (rL4 tp n nT p false).1 = nI t)) := by
  have a1 := kd_same (tp := tp) hp
  rw [u1a, u1b, u1g] at a1
  have a2 := dg_same (tp := tp) (lo := nI 1) (hi := nI 9) (fun x hx => isD_of ⟨by omega, by omega⟩ x hx) hn (knd_le hp) a1.1
  rw [u2b, u2g, u2a, show dgt tp n (nI 1) (nI 9) (knd tp n p false).2.1 (knd tp n p false).2.2 = rL2 tp n p false from rfl] at a2
  have a3 := dg_same (tp := tp) (lo := nI 0) (hi := nI 9) (fun x hx => isD_of ⟨by omega, by omega⟩ x hx) hn (rL2_le hp) a2.1
  rw [u3b, u3g, u3a, show dgt tp n (nI 0) (nI 9) (rL2 tp n p false).2.1 (rL2 tp n p false).2.2 = rL3 tp n p false from rfl] at a3
  have a4 := at_same (tp := tp) hT hn (rL3_le hp) a3.1
  rw [u4b, u4g, u4a, show atT tp n nT (rL3 tp n p false).2.1 (rL3 tp n p false).2.2 = rL4 tp n nT p false from rfl] at a4
  refine ⟨a4.1, fun q => ?_⟩
  obtain ⟨q3, v4, i4⟩ := a4.2 q
  obtain ⟨q2, v3, i3⟩ := a3.2 q3
  obtain ⟨q1, v2, i2⟩ := a2.2 q2
  obtain ⟨v1, i1⟩ := a1.2 q1
  exact ⟨v1, v2, v3, v4, i1, i2, i3, i4⟩
