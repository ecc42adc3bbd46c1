/-! LUCK: away, or present -/
theorem s16 {m : Nat} (hm : m < 16) (f : Nat → Nat) (hz : ∀ s, s < 16 → s &&& m ≠ s → f s = 0) : sumN f 16 = sumN (fun p => if p &&& m = p then f (m - p) else 0) 16 := by
  have : m = 0 ∨ m = 1 ∨ m = 2 ∨ m = 3 ∨ m = 4 ∨ m = 5 ∨ m = 6 ∨ m = 7 ∨ m = 8 ∨ m = 9 ∨ m = 10 ∨ m = 11 ∨ m = 12 ∨ m = 13 ∨ m = 14 ∨ m = 15 := by omega
  rcases this with rfl | rfl | rfl | rfl | rfl | rfl | rfl | rfl | rfl | rfl | rfl | rfl | rfl | rfl | rfl | rfl
  · have z1 := hz 1 (by decide) (by decide)
    have z2 := hz 2 (by decide) (by decide)
    have z3 := hz 3 (by decide) (by decide)
    have z4 := hz 4 (by decide) (by decide)
    have z5 := hz 5 (by decide) (by decide)
    have z6 := hz 6 (by decide) (by decide)
    have z7 := hz 7 (by decide) (by decide)
    have z8 := hz 8 (by decide) (by decide)
    have z9 := hz 9 (by decide) (by decide)
    have z10 := hz 10 (by decide) (by decide)
    have z11 := hz 11 (by decide) (by decide)
    have z12 := hz 12 (by decide) (by decide)
    have z13 := hz 13 (by decide) (by decide)
    have z14 := hz 14 (by decide) (by decide)
    have z15 := hz 15 (by decide) (by decide)
    show 0 + f 0 + f 1 + f 2 + f 3 + f 4 + f 5 + f 6 + f 7 + f 8 + f 9 + f 10 + f 11 + f 12 + f 13 + f 14 + f 15 = 0 + f 0 + 0 + 0 + 0 + 0 + 0 + 0 + 0 + 0 + 0 + 0 + 0 + 0 + 0 + 0 + 0
    omega
  · have z2 := hz 2 (by decide) (by decide)
    have z3 := hz 3 (by decide) (by decide)
    have z4 := hz 4 (by decide) (by decide)
    have z5 := hz 5 (by decide) (by decide)
    have z6 := hz 6 (by decide) (by decide)
    have z7 := hz 7 (by decide) (by decide)
    have z8 := hz 8 (by decide) (by decide)
    have z9 := hz 9 (by decide) (by decide)
    have z10 := hz 10 (by decide) (by decide)
    have z11 := hz 11 (by decide) (by decide)
    have z12 := hz 12 (by decide) (by decide)
    have z13 := hz 13 (by decide) (by decide)
    have z14 := hz 14 (by decide) (by decide)
    have z15 := hz 15 (by decide) (by decide)
    show 0 + f 0 + f 1 + f 2 + f 3 + f 4 + f 5 + f 6 + f 7 + f 8 + f 9 + f 10 + f 11 + f 12 + f 13 + f 14 + f 15 = 0 + f 1 + f 0 + 0 + 0 + 0 + 0 + 0 + 0 + 0 + 0 + 0 + 0 + 0 + 0 + 0 + 0
    omega
  · have z1 := hz 1 (by decide) (by decide)
    have z3 := hz 3 (by decide) (by decide)
    have z4 := hz 4 (by decide) (by decide)
    have z5 := hz 5 (by decide) (by decide)
    have z6 := hz 6 (by decide) (by decide)
    have z7 := hz 7 (by decide) (by decide)
    have z8 := hz 8 (by decide) (by decide)
    have z9 := hz 9 (by decide) (by decide)
    have z10 := hz 10 (by decide) (by decide)
    have z11 := hz 11 (by decide) (by decide)
    have z12 := hz 12 (by decide) (by decide)
    have z13 := hz 13 (by decide) (by decide)
    have z14 := hz 14 (by decide) (by decide)
    have z15 := hz 15 (by decide) (by decide)
    show 0 + f 0 + f 1 + f 2 + f 3 + f 4 + f 5 + f 6 + f 7 + f 8 + f 9 + f 10 + f 11 + f 12 + f 13 + f 14 + f 15 = 0 + f 2 + 0 + f 0 + 0 + 0 + 0 + 0 + 0 + 0 + 0 + 0 + 0 + 0 + 0 + 0 + 0
    omega
  · have z4 := hz 4 (by decide) (by decide)
    have z5 := hz 5 (by decide) (by decide)
    have z6 := hz 6 (by decide) (by decide)
    have z7 := hz 7 (by decide) (by decide)
    have z8 := hz 8 (by decide) (by decide)
    have z9 := hz 9 (by decide) (by decide)
    have z10 := hz 10 (by decide) (by decide)
    have z11 := hz 11 (by decide) (by decide)
    have z12 := hz 12 (by decide) (by decide)
    have z13 := hz 13 (by decide) (by decide)
    have z14 := hz 14 (by decide) (by decide)
    have z15 := hz 15 (by decide) (by decide)
    show 0 + f 0 + f 1 + f 2 + f 3 + f 4 + f 5 + f 6 + f 7 + f 8 + f 9 + f 10 + f 11 + f 12 + f 13 + f 14 + f 15 = 0 + f 3 + f 2 + f 1 + f 0 + 0 + 0 + 0 + 0 + 0 + 0 + 0 + 0 + 0 + 0 + 0 + 0
    omega
  · have z1 := hz 1 (by decide) (by decide)
    have z2 := hz 2 (by decide) (by decide)
    have z3 := hz 3 (by decide) (by decide)
    have z5 := hz 5 (by decide) (by decide)
    have z6 := hz 6 (by decide) (by decide)
    have z7 := hz 7 (by decide) (by decide)
    have z8 := hz 8 (by decide) (by decide)
    have z9 := hz 9 (by decide) (by decide)
    have z10 := hz 10 (by decide) (by decide)
    have z11 := hz 11 (by decide) (by decide)
    have z12 := hz 12 (by decide) (by decide)
    have z13 := hz 13 (by decide) (by decide)
    have z14 := hz 14 (by decide) (by decide)
    have z15 := hz 15 (by decide) (by decide)
    show 0 + f 0 + f 1 + f 2 + f 3 + f 4 + f 5 + f 6 + f 7 + f 8 + f 9 + f 10 + f 11 + f 12 + f 13 + f 14 + f 15 = 0 + f 4 + 0 + 0 + 0 + f 0 + 0 + 0 + 0 + 0 + 0 + 0 + 0 + 0 + 0 + 0 + 0
    omega
  · have z2 := hz 2 (by decide) (by decide)
    have z3 := hz 3 (by decide) (by decide)
    have z6 := hz 6 (by decide) (by decide)
    have z7 := hz 7 (by decide) (by decide)
    have z8 := hz 8 (by decide) (by decide)
    have z9 := hz 9 (by decide) (by decide)
    have z10 := hz 10 (by decide) (by decide)
    have z11 := hz 11 (by decide) (by decide)
    have z12 := hz 12 (by decide) (by decide)
    have z13 := hz 13 (by decide) (by decide)
    have z14 := hz 14 (by decide) (by decide)
    have z15 := hz 15 (by decide) (by decide)
    show 0 + f 0 + f 1 + f 2 + f 3 + f 4 + f 5 + f 6 + f 7 + f 8 + f 9 + f 10 + f 11 + f 12 + f 13 + f 14 + f 15 = 0 + f 5 + f 4 + 0 + 0 + f 1 + f 0 + 0 + 0 + 0 + 0 + 0 + 0 + 0 + 0 + 0 + 0
    omega
  · have z1 := hz 1 (by decide) (by decide)
    have z3 := hz 3 (by decide) (by decide)
    have z5 := hz 5 (by decide) (by decide)
    have z7 := hz 7 (by decide) (by decide)
    have z8 := hz 8 (by decide) (by decide)
    have z9 := hz 9 (by decide) (by decide)
    have z10 := hz 10 (by decide) (by decide)
    have z11 := hz 11 (by decide) (by decide)
    have z12 := hz 12 (by decide) (by decide)
    have z13 := hz 13 (by decide) (by decide)
    have z14 := hz 14 (by decide) (by decide)
    have z15 := hz 15 (by decide) (by decide)
    show 0 + f 0 + f 1 + f 2 + f 3 + f 4 + f 5 + f 6 + f 7 + f 8 + f 9 + f 10 + f 11 + f 12 + f 13 + f 14 + f 15 = 0 + f 6 + 0 + f 4 + 0 + f 2 + 0 + f 0 + 0 + 0 + 0 + 0 + 0 + 0 + 0 + 0 + 0
    omega
  · have z8 := hz 8 (by decide) (by decide)
    have z9 := hz 9 (by decide) (by decide)
    have z10 := hz 10 (by decide) (by decide)
    have z11 := hz 11 (by decide) (by decide)
    have z12 := hz 12 (by decide) (by decide)
    have z13 := hz 13 (by decide) (by decide)
    have z14 := hz 14 (by decide) (by decide)
    have z15 := hz 15 (by decide) (by decide)
    show 0 + f 0 + f 1 + f 2 + f 3 + f 4 + f 5 + f 6 + f 7 + f 8 + f 9 + f 10 + f 11 + f 12 + f 13 + f 14 + f 15 = 0 + f 7 + f 6 + f 5 + f 4 + f 3 + f 2 + f 1 + f 0 + 0 + 0 + 0 + 0 + 0 + 0 + 0 + 0
    omega
  · have z1 := hz 1 (by decide) (by decide)
    have z2 := hz 2 (by decide) (by decide)
    have z3 := hz 3 (by decide) (by decide)
    have z4 := hz 4 (by decide) (by decide)
    have z5 := hz 5 (by decide) (by decide)
    have z6 := hz 6 (by decide) (by decide)
    have z7 := hz 7 (by decide) (by decide)
    have z9 := hz 9 (by decide) (by decide)
    have z10 := hz 10 (by decide) (by decide)
    have z11 := hz 11 (by decide) (by decide)
    have z12 := hz 12 (by decide) (by decide)
    have z13 := hz 13 (by decide) (by decide)
    have z14 := hz 14 (by decide) (by decide)
    have z15 := hz 15 (by decide) (by decide)
    show 0 + f 0 + f 1 + f 2 + f 3 + f 4 + f 5 + f 6 + f 7 + f 8 + f 9 + f 10 + f 11 + f 12 + f 13 + f 14 + f 15 = 0 + f 8 + 0 + 0 + 0 + 0 + 0 + 0 + 0 + f 0 + 0 + 0 + 0 + 0 + 0 + 0 + 0
    omega
  · have z2 := hz 2 (by decide) (by decide)
    have z3 := hz 3 (by decide) (by decide)
    have z4 := hz 4 (by decide) (by decide)
    have z5 := hz 5 (by decide) (by decide)
    have z6 := hz 6 (by decide) (by decide)
    have z7 := hz 7 (by decide) (by decide)
    have z10 := hz 10 (by decide) (by decide)
    have z11 := hz 11 (by decide) (by decide)
    have z12 := hz 12 (by decide) (by decide)
    have z13 := hz 13 (by decide) (by decide)
    have z14 := hz 14 (by decide) (by decide)
    have z15 := hz 15 (by decide) (by decide)
    show 0 + f 0 + f 1 + f 2 + f 3 + f 4 + f 5 + f 6 + f 7 + f 8 + f 9 + f 10 + f 11 + f 12 + f 13 + f 14 + f 15 = 0 + f 9 + f 8 + 0 + 0 + 0 + 0 + 0 + 0 + f 1 + f 0 + 0 + 0 + 0 + 0 + 0 + 0
    omega
  · have z1 := hz 1 (by decide) (by decide)
    have z3 := hz 3 (by decide) (by decide)
    have z4 := hz 4 (by decide) (by decide)
    have z5 := hz 5 (by decide) (by decide)
    have z6 := hz 6 (by decide) (by decide)
    have z7 := hz 7 (by decide) (by decide)
    have z9 := hz 9 (by decide) (by decide)
    have z11 := hz 11 (by decide) (by decide)
    have z12 := hz 12 (by decide) (by decide)
    have z13 := hz 13 (by decide) (by decide)
    have z14 := hz 14 (by decide) (by decide)
    have z15 := hz 15 (by decide) (by decide)
    show 0 + f 0 + f 1 + f 2 + f 3 + f 4 + f 5 + f 6 + f 7 + f 8 + f 9 + f 10 + f 11 + f 12 + f 13 + f 14 + f 15 = 0 + f 10 + 0 + f 8 + 0 + 0 + 0 + 0 + 0 + f 2 + 0 + f 0 + 0 + 0 + 0 + 0 + 0
    omega
  · have z4 := hz 4 (by decide) (by decide)
    have z5 := hz 5 (by decide) (by decide)
    have z6 := hz 6 (by decide) (by decide)
    have z7 := hz 7 (by decide) (by decide)
    have z12 := hz 12 (by decide) (by decide)
    have z13 := hz 13 (by decide) (by decide)
    have z14 := hz 14 (by decide) (by decide)
    have z15 := hz 15 (by decide) (by decide)
    show 0 + f 0 + f 1 + f 2 + f 3 + f 4 + f 5 + f 6 + f 7 + f 8 + f 9 + f 10 + f 11 + f 12 + f 13 + f 14 + f 15 = 0 + f 11 + f 10 + f 9 + f 8 + 0 + 0 + 0 + 0 + f 3 + f 2 + f 1 + f 0 + 0 + 0 + 0 + 0
    omega
  · have z1 := hz 1 (by decide) (by decide)
    have z2 := hz 2 (by decide) (by decide)
    have z3 := hz 3 (by decide) (by decide)
    have z5 := hz 5 (by decide) (by decide)
    have z6 := hz 6 (by decide) (by decide)
    have z7 := hz 7 (by decide) (by decide)
    have z9 := hz 9 (by decide) (by decide)
    have z10 := hz 10 (by decide) (by decide)
    have z11 := hz 11 (by decide) (by decide)
    have z13 := hz 13 (by decide) (by decide)
    have z14 := hz 14 (by decide) (by decide)
    have z15 := hz 15 (by decide) (by decide)
    show 0 + f 0 + f 1 + f 2 + f 3 + f 4 + f 5 + f 6 + f 7 + f 8 + f 9 + f 10 + f 11 + f 12 + f 13 + f 14 + f 15 = 0 + f 12 + 0 + 0 + 0 + f 8 + 0 + 0 + 0 + f 4 + 0 + 0 + 0 + f 0 + 0 + 0 + 0
    omega
  · have z2 := hz 2 (by decide) (by decide)
    have z3 := hz 3 (by decide) (by decide)
    have z6 := hz 6 (by decide) (by decide)
    have z7 := hz 7 (by decide) (by decide)
    have z10 := hz 10 (by decide) (by decide)
    have z11 := hz 11 (by decide) (by decide)
    have z14 := hz 14 (by decide) (by decide)
    have z15 := hz 15 (by decide) (by decide)
    show 0 + f 0 + f 1 + f 2 + f 3 + f 4 + f 5 + f 6 + f 7 + f 8 + f 9 + f 10 + f 11 + f 12 + f 13 + f 14 + f 15 = 0 + f 13 + f 12 + 0 + 0 + f 9 + f 8 + 0 + 0 + f 5 + f 4 + 0 + 0 + f 1 + f 0 + 0 + 0
    omega
  · have z1 := hz 1 (by decide) (by decide)
    have z3 := hz 3 (by decide) (by decide)
    have z5 := hz 5 (by decide) (by decide)
    have z7 := hz 7 (by decide) (by decide)
    have z9 := hz 9 (by decide) (by decide)
    have z11 := hz 11 (by decide) (by decide)
    have z13 := hz 13 (by decide) (by decide)
    have z15 := hz 15 (by decide) (by decide)
    show 0 + f 0 + f 1 + f 2 + f 3 + f 4 + f 5 + f 6 + f 7 + f 8 + f 9 + f 10 + f 11 + f 12 + f 13 + f 14 + f 15 = 0 + f 14 + 0 + f 12 + 0 + f 10 + 0 + f 8 + 0 + f 6 + 0 + f 4 + 0 + f 2 + 0 + f 0 + 0
    omega
  · show 0 + f 0 + f 1 + f 2 + f 3 + f 4 + f 5 + f 6 + f 7 + f 8 + f 9 + f 10 + f 11 + f 12 + f 13 + f 14 + f 15 = 0 + f 15 + f 14 + f 13 + f 12 + f 11 + f 10 + f 9 + f 8 + f 7 + f 6 + f 5 + f 4 + f 3 + f 2 + f 1 + f 0
    omega
theorem sumN_ext {f : Nat → Nat} {n : Nat} : ∀ N, n ≤ N → sumN f n = sumN (fun s => if s < n then f s else 0) N
  | 0, h => by rw [show n = 0 by omega]; rfl
  | N + 1, h => by
    by_cases q : n = N + 1
    · subst q
      exact sumN_cong _ (fun t ht => (if_pos ht).symm)
    · rw [sumN, ← sumN_ext N (by omega), if_neg (by omega), Nat.add_zero]
def lkM (m c s : Nat) : Nat → Nat
  | 0 => 1
  | l + 1 => lkM m c s l * (if m / 2 ^ l % 2 = 1 then (if s / 2 ^ l % 2 = 1 then c else 10 - c) else (if s / 2 ^ l % 2 = 1 then 0 else 1))
def wyN (m p c : Nat) : Nat → Nat
  | 0 => 1
  | l + 1 => if m / 2 ^ l % 2 = 1 then wyN m p c l * (if p / 2 ^ l % 2 = 1 then 10 - c else c) else wyN m p c l
theorem lkM_0 {nL m c s : Nat} (hL : nL ≤ 4) (hm : m < 16) (hs : s < 2 ^ nL) (hc : c ≤ 10) (h : s &&& m ≠ s) : lkM m c s nL = 0 := by
  have hs16 : s < 16 := Nat.lt_of_lt_of_le hs (Nat.pow_le_pow_right (by decide) hL)
  exact (by decide +kernel : ∀ (nL : Fin 5) (m s : Fin 16) (c : Fin 11), s.1 < 2 ^ nL.1 → s.1 &&& m.1 ≠ s.1 → lkM m.1 c.1 s.1 nL.1 = 0) ⟨nL, by omega⟩ ⟨m, hm⟩ ⟨s, hs16⟩ ⟨c, by omega⟩ hs h
theorem lkM_w {nL m c p : Nat} (hL : nL ≤ 4) (hm : m < 2 ^ nL) (hc : c ≤ 10) (hp : p < 16) (h : p &&& m = p) : lkM m c (m - p) nL = wyN m p c 4 := by
  have hm16 : m < 16 := Nat.lt_of_lt_of_le hm (Nat.pow_le_pow_right (by decide) hL)
  exact (by decide +kernel : ∀ (nL : Fin 5) (m p : Fin 16) (c : Fin 11), m.1 < 2 ^ nL.1 → p.1 &&& m.1 = p.1 → lkM m.1 c.1 (m.1 - p.1) nL.1 = wyN m.1 p.1 c.1 4) ⟨nL, by omega⟩ ⟨m, hm16⟩ ⟨p, hp⟩ ⟨c, by omega⟩ hm h
theorem lkM_pos {nL m c : Nat} (hL : nL ≤ 4) (hm : m < 2 ^ nL) (hc : c ≤ 10) : 0 < sumN (fun s => lkM m c s nL) (2 ^ nL) := by
  have hm16 : m < 16 := Nat.lt_of_lt_of_le hm (Nat.pow_le_pow_right (by decide) hL)
  exact (by decide +kernel : ∀ (nL : Fin 5) (m : Fin 16) (c : Fin 11), m.1 < 2 ^ nL.1 → 0 < sumN (fun s => lkM m.1 c.1 s nL.1) (2 ^ nL.1)) ⟨nL, by omega⟩ ⟨m, hm16⟩ ⟨c, by omega⟩ hm
theorem lkP_M {nw : Nat → Int32} {nL m c s : Nat} (hm : ∀ l, l < nL → (nw (30 + 4 * l) = -4 ↔ ¬ m / 2 ^ l % 2 = 1)) : ∀ k, k ≤ nL → lkP nw c s k = lkM m c s k
  | 0, _ => rfl
  | k + 1, hk => by
    rw [lkP, lkM, lkP_M hm k (by omega), lkB]
    by_cases q : nw (30 + 4 * k) = -4
    · rw [if_pos q, if_neg ((hm k (by omega)).mp q)]
    · have z1 : m / 2 ^ k % 2 = 1 := by
        by_cases z : m / 2 ^ k % 2 = 1
        · exact z
        · exact absurd ((hm k (by omega)).mpr z) q
      rw [if_neg q, if_pos z1]
theorem lkS_1 (nw : Nat → Int32) (nT nL c : Nat) (g : Int32) : ∀ n, (lkS nw nT nL c g n).1 = sumN (fun s => if g ≤ lkO nw nT nL s then lkP nw c s nL else 0) n ∧ (lkS nw nT nL c g n).2 = sumN (fun s => lkP nw c s nL) n
  | 0 => ⟨rfl, rfl⟩
  | n + 1 => by
    obtain ⟨h1, h2⟩ := lkS_1 nw nT nL c g n
    rw [lkS, sumN, sumN, ← h1, ← h2]
    exact ⟨rfl, rfl⟩
/-- above, below, of those present among m -/
def luA (got : Nat → Int32) (g : Int32) (m c : Nat) : Nat → Nat × Nat
  | 0 => (0, 0)
  | p + 1 => if p &&& m = p then ((luA got g m c p).1 + (if g ≤ got p then wyN m p c 4 else 0), (luA got g m c p).2 + wyN m p c 4) else luA got g m c p
theorem luA_s (got : Nat → Int32) (g : Int32) (m c : Nat) : ∀ n, (luA got g m c n).1 = sumN (fun p => if p &&& m = p then (if g ≤ got p then wyN m p c 4 else 0) else 0) n ∧ (luA got g m c n).2 = sumN (fun p => if p &&& m = p then wyN m p c 4 else 0) n
  | 0 => ⟨rfl, rfl⟩
  | n + 1 => by
    obtain ⟨h1, h2⟩ := luA_s got g m c n
    rw [luA, sumN, sumN]
    by_cases q : n &&& m = n
    · rw [if_pos q, if_pos q, if_pos q, ← h1, ← h2]
      exact ⟨rfl, rfl⟩
    · rw [if_neg q, if_neg q, if_neg q, ← h1, ← h2]
      exact ⟨rfl, rfl⟩
theorem luck_sum {nw got : Nat → Int32} {nT nL m c : Nat} {g : Int32} (hL : nL ≤ 4) (hm : m < 2 ^ nL) (hc : c ≤ 10) (hlean : ∀ l, l < nL → (nw (30 + 4 * l) = -4 ↔ ¬ m / 2 ^ l % 2 = 1)) (hg : ∀ p, p < 16 → p &&& m = p → got p = lkO nw nT nL (m - p)) :
    lkS nw nT nL c g (2 ^ nL) = luA got g m c 16 ∧ 0 < (lkS nw nT nL c g (2 ^ nL)).2 := by
  have h16 : 2 ^ nL ≤ 16 := Nat.pow_le_pow_right (by decide) hL
  have e : ∀ s, lkP nw c s nL = lkM m c s nL := fun s => lkP_M hlean nL (Nat.le_refl _)
  obtain ⟨a1, a2⟩ := lkS_1 nw nT nL c g (2 ^ nL)
  obtain ⟨b1, b2⟩ := luA_s got g m c 16
  have sub : ∀ F : Nat → Nat, (∀ s, s < 2 ^ nL → s &&& m ≠ s → F s = 0) → sumN F (2 ^ nL) = sumN (fun p => if p &&& m = p then F (m - p) else 0) 16 := by
    intro F hF
    rw [sumN_ext 16 h16, s16 (m := m) (by omega) _ (fun s hs h => by
      by_cases q : s < 2 ^ nL
      · rw [if_pos q]
        exact hF s q h
      · exact if_neg q)]
    refine sumN_cong _ (fun p hp => ?_)
    by_cases q : p &&& m = p
    · rw [if_pos q, if_pos q, if_pos (by omega)]
    · rw [if_neg q, if_neg q]
  have z : ∀ s, s < 2 ^ nL → s &&& m ≠ s → lkP nw c s nL = 0 := fun s hs h => by rw [e s]; exact lkM_0 hL (by omega) hs hc h
  have w : ∀ p, p < 16 → p &&& m = p → lkP nw c (m - p) nL = wyN m p c 4 := fun p hp h => by rw [e]; exact lkM_w hL hm hc hp h
  constructor
  · apply Prod.ext
    · rw [a1, b1, sub _ (fun s hs h => by rw [z s hs h]; split <;> rfl)]
      refine sumN_cong _ (fun p hp => ?_)
      by_cases q : p &&& m = p
      · rw [if_pos q, if_pos q, hg p hp q, w p hp q]
      · rw [if_neg q, if_neg q]
    · rw [a2, b2, sub _ (fun s hs h => z s hs h)]
      refine sumN_cong _ (fun p hp => ?_)
      by_cases q : p &&& m = p
      · rw [if_pos q, if_pos q, w p hp q]
      · rw [if_neg q, if_neg q]
  · rw [a2, sumN_cong _ (fun s _ => e s)]
    exact lkM_pos hL hm hc
/-- the ladders that lean, as a number -/
theorem bits_ext (b : Nat → Bool) {n : Nat} : ∀ k, n + k ≤ 4 → bits (fun l => decide (l < n) && b l) (n + k) = bits b n
  | 0, _ => bits_cong n (fun l hl => by rw [decide_eq_true hl, Bool.true_and])
  | k + 1, h => by
    rw [show n + (k + 1) = (n + k) + 1 by omega, bits_f (by rw [decide_eq_false (by omega), Bool.false_and])]
    exact bits_ext b k (by omega)
theorem tst_N (m l : Nat) (hm : m < 16) (hl : l < 4) : tst (nI m) l = decide (m / 2 ^ l % 2 = 1) :=
  (by decide +kernel : ∀ (m : Fin 16) (l : Fin 4), tst (nI m.1) l.1 = decide (m.1 / 2 ^ l.1 % 2 = 1)) ⟨m, hm⟩ ⟨l, hl⟩
theorem bits_num (b : Nat → Bool) {n : Nat} (hn : n ≤ 4) : ∃ m, m < 2 ^ n ∧ m < 16 ∧ bits b n = nI m ∧ ∀ l, l < n → (b l = true ↔ m / 2 ^ l % 2 = 1) := by
  obtain ⟨m, hm, e⟩ := bits_lo b n hn
  have ex : bits (fun l => decide (l < n) && b l) 4 = nI m := by
    have := bits_ext b (n := n) (4 - n) (by omega)
    rw [show n + (4 - n) = 4 by omega] at this
    rw [this, e]
  have tt : ∀ l, l < 4 → tst (nI m) l = (decide (l < n) && b l) := fun l hl => by
    rw [← ex]
    exact tst_bits _ (Nat.le_refl _) hl
  refine ⟨m, tst_lt m n hm hn (fun p h1 h2 => by rw [tt p h2, decide_eq_false (by omega), Bool.false_and]), hm, e, fun l hl => ?_⟩
  have := tt l (by omega)
  rw [tst_N m l hm (by omega), decide_eq_true hl, Bool.true_and] at this
  rw [← this]
  exact decide_eq_true_iff
theorem tst_and (a p l : Nat) (ha : a < 16) (hp : p < 16) (hl : l < 4) : tst (nI a &&& nI p) l = (tst (nI a) l && tst (nI p) l) :=
  (by decide +kernel : ∀ (a p : Fin 16) (l : Fin 4), tst (nI a.1 &&& nI p.1) l.1 = (tst (nI a.1) l.1 && tst (nI p.1) l.1)) ⟨a, ha⟩ ⟨p, hp⟩ ⟨l, hl⟩
theorem away_sub (m p l : Nat) (hm : m < 16) (hp : p < 16) (hl : l < 4) (h : p &&& m = p) (hb : m / 2 ^ l % 2 = 1) : decide (awayB (nI (m - p)) l) = tst (nI p) l :=
  (by decide +kernel : ∀ (m p : Fin 16) (l : Fin 4), p.1 &&& m.1 = p.1 → m.1 / 2 ^ l.1 % 2 = 1 → decide (awayB (nI (m.1 - p.1)) l.1) = tst (nI p.1) l.1) ⟨m, hm⟩ ⟨p, hp⟩ ⟨l, hl⟩ h hb
theorem sub0 (m p : Nat) (hm : m < 16) (hp : p < 16) : nI p &&& (nI m ^^^ -1) = 0 ↔ p &&& m = p :=
  (by decide +kernel : ∀ (m p : Fin 16), nI p.1 &&& (nI m.1 ^^^ -1) = 0 ↔ p.1 &&& m.1 = p.1) ⟨m, hm⟩ ⟨p, hp⟩
theorem gtS_I (O : Oc) (M : Mo) (p : Int32) : ∀ n, gtS O M p n = sumI (fun t => tkI O.hi O.ri O.ki O.le t O.nL M.day (atM M t &&& p) (M.fr t) O.ba) n
  | 0 => rfl
  | n + 1 => by rw [gtS, sumI, gtS_I O M p n]
theorem sumI_N (f : Nat → Nat) : ∀ n, sumI (fun t => nI (f t)) n = nI (sumN f n)
  | 0 => rfl
  | n + 1 => by rw [sumI, sumN, sumI_N f n, nI_add]
theorem luck_own {O : Oc} {M : Mo} {nw : Nat → Int32} {m p : Nat} (h : RO O nw) (h2 : RM O.nT O.nL M nw) (hm : m < 16) (hl : ∀ l, l < O.nL → (awB M.ln l = true ↔ m / 2 ^ l % 2 = 1)) (hp : p < 16) (hs : p &&& m = p) : gtS O M (nI p) O.nT = lkO nw O.nT O.nL (m - p) := by
  have hT := h.2.2.1
  have hL := h.2.2.2.1
  obtain ⟨a, ha⟩ := h2.nat
  obtain ⟨b, -, hb, eb⟩ := h.2.2.2.2.2.2.1
  obtain ⟨w, hw, ew⟩ := h.2.2.2.2.2.2.2.1
  obtain ⟨-, -, -, s4, -, -⟩ := gb_spec (away := nI (m - p)) (RM.wf h h2) ha ⟨eb, hb⟩ ⟨ew, hw⟩
  rw [lkO, s4, addsub, gtS_I, ← sumI_N]
  refine sumI_cong _ (fun t ht => ?_)
  obtain ⟨c, hc, ec⟩ := bits_lo (fun l => decide (M.ln l = nI t)) 4 (Nat.le_refl _)
  have ec : atM M t = nI c := ec
  rw [(h2.2.2.2.2.2.1 t ht).1, (ha t ht).1, h.2.2.2.2.1, eb]
  refine tk_same h h2 ht (ha t ht).2 hb (fun l hlL => ?_)
  have tc : tst (nI c) l = decide (M.ln l = nI t) := by rw [← ec]; exact at_tst (by omega)
  rw [ec, tst_and c p l hc hp (by omega), tc]
  by_cases q : M.ln l = nI t
  · have aw : awB M.ln l = true := decide_eq_true (fun z => nI_n4 (show t < 2 ^ 31 by omega) (q.symm.trans z))
    rw [away_sub m p l hm hp (by omega) hs ((hl l hlL).mp aw)]
  · rw [decide_eq_false q, Bool.false_and, Bool.false_and]
