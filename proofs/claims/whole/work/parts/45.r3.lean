/-! a text: class and reference read alike, the end -/
def ocF (tp : Nat → Int32) (n p : Nat) (fa : Bool) : Nat × Bool := if fa = true then (p, true) else (sk tp n p, decide (¬ ltr tp n (sk tp n p) = 0))
theorem orC_oc (tp : Nat → Int32) (n : Nat) (ro rd : Nat → Int32) : orC tp n ro rd = ocF tp n (orB tp n ro rd).2.1 (orB tp n ro rd).2.2.1 := by
  rw [orC, ocF]
theorem end_nl {tp : Nat → Int32} {n p : Nat} (tl : TL tp n) : nxt tp n p = -1 ↔ ltr tp n (sk tp n p) = 0 := by
  rcases nl_cases tp n p with ⟨h, a, b⟩ | ⟨-, a, b⟩
  · obtain ⟨c, h1, h2, e⟩ := tl _ h
    rw [a, b, e]
    constructor
    · intro q
      have := congrArg Int32.toInt q
      rw [nI_toInt (by omega)] at this
      exact absurd this (by show ¬ (c : Int) = -1; omega)
    · intro q
      exact absurd q (nI_ne0 (by omega) (by omega))
  · rw [a, b]
    exact ⟨fun _ => rfl, fun _ => rfl⟩
theorem fin_same {tp : Nat → Int32} {n p p' nT : Nat} {f : Int32} {fa : Bool} (hn : n ≤ 90) (tl : TL tp n) (H : ER tp n p f p' fa) : rdR tp n p f nT = if (ocF tp n p' fa).2 = true then -20 - nI (ocF tp n p' fa).1 else nI nT := by
  rcases H with ⟨rfl, h1, h⟩ | ⟨rfl, rfl, h1, rfl⟩
  · rw [ocF, if_pos rfl, if_pos rfl]
    rcases h with rfl | ⟨rfl, h2, h3, rfl⟩
    · rw [rdR, if_neg (nz20 (by omega))]
    · rw [rdR, if_pos rfl, if_neg (by rw [h3]; decide)]
  · rw [ocF, if_neg Bool.false_ne_true, sk_sk h1, rdR, if_pos rfl]
    by_cases e : nxt tp n p = -1
    · rw [if_pos e, decide_eq_false (fun q => q ((end_nl tl).mp e)), if_neg Bool.false_ne_true]
    · rw [if_neg e, decide_eq_true (show ¬ ltr tp n (sk tp n p) = 0 from fun q => e ((end_nl tl).mpr q)), if_pos rfl]
def RS (tp : Nat → Int32) (n : Nat) (A : Nat × Int32 × Oc × Mo) (a : Nat × Nat × Bool × (Nat → Int32)) (b : Nat × Nat × Bool × (Nat → Int32)) (M : Mo) : Prop :=
  ER tp n A.1 A.2.1 b.2.1 b.2.2.1 ∧ MK A.2.2.2 M ∧ (b.2.2.1 = false → A.2.2.1.nT = a.1 ∧ (1 ≤ a.1 ∧ a.1 ≤ 6) ∧ A.2.2.1.nL = b.1 ∧ b.1 ≤ 4 ∧ TRW A.2.2.1 A.2.2.2 a.2.2.2 a.1 ∧ LRW A.2.2.1 A.2.2.2 b.2.2.2 a.1 b.1)
theorem mid_same {tp : Nat → Int32} {n : Nat} {A : Nat × Int32 × Oc × Mo} {a : Nat × Nat × Bool × (Nat → Int32)} {M : Mo} {rd : Nat → Int32} (hn : n ≤ 90) (C : CS tp n A a M) (ha : a.2.2.1 = false → 1 ≤ a.1 ∧ a.1 ≤ 6) (hL : A.2.2.1.nL = 0) (hM : ∀ l, l < 4 → M.ln l = -4) :
    RS tp n (rdM tp n A.1 A.2.1 A.2.2.1 A.2.2.2) a (if a.2.2.1 = true then (0, a.2.1, true, rd) else if ltr tp n (sk tp n a.2.1) = nI 59 then rlL tp n a.1 5 0 (sk tp n a.2.1 + 1) rd else (0, sk tp n a.2.1, false, rd)) M := by
  obtain ⟨p, f, O, N⟩ := A
  obtain ⟨k, p', fa, ro⟩ := a
  obtain ⟨c1, c2, c3, c4⟩ := C
  have c1 : ER tp n p f p' fa := c1
  have c2 : MK N M := c2
  have c3 : N.ln = M.ln := c3
  have c4 : fa = false → O.nT = k ∧ TRW O N ro k := c4
  have ha : fa = false → 1 ≤ k ∧ k ≤ 6 := ha
  have hL : O.nL = 0 := hL
  show RS tp n (rdM tp n p f O N) (k, p', fa, ro) (if fa = true then (0, p', true, rd) else if ltr tp n (sk tp n p') = nI 59 then rlL tp n k 5 0 (sk tp n p' + 1) rd else (0, sk tp n p', false, rd)) M
  have lr0 : LRW O N rd k 0 := ⟨fun l hl => absurd hl (Nat.not_lt_zero _), fun l _ hl => by rw [c3]; exact hM l hl⟩
  rcases c1 with ⟨rfl, h1, h⟩ | ⟨rfl, rfl, h1, rfl⟩
  · rw [if_pos rfl]
    rcases h with rfl | ⟨rfl, h2, h3, rfl⟩
    · rw [rdM, if_neg (nz20 (by omega))]
      exact ⟨Or.inl ⟨rfl, h1, Or.inl rfl⟩, c2, fun q => Bool.noConfusion q⟩
    · have h4 : ¬ nxt tp n p = nI 59 := by rw [h3]; decide
      rw [rdM, if_pos rfl, if_neg h4, psP, if_neg h4]
      exact ⟨Or.inl ⟨rfl, h1, Or.inr ⟨rfl, h1, by rw [nxt_sk h2]; exact h3, sk_sk h2⟩⟩, c2, fun q => Bool.noConfusion q⟩
  · obtain ⟨eT, hT⟩ := c4 rfl
    have hk := ha rfl
    rw [if_neg Bool.false_ne_true, sk_sk h1, rdM, if_pos rfl]
    by_cases e : nxt tp n p = nI 59
    · have hs := nxt_in (cl := tp) (n := n) (p := p) (by decide) e
      rw [if_pos e, if_pos ((nl_eq (by decide) (by decide)).mp e), psP, if_pos e, rlL_B (by decide) (Or.inl rfl), rlP, if_pos rfl]
      have D := cl_same (tp := tp) hn hk 4 0 (sk tp n p + 1) O N rd rfl (by decide) (by omega) hL eT lr0
      have ok := fun f2 => rlL_ok (tp := tp) (n := n) (nT := k) 5 0 (sk tp n p + 1) rd rfl f2
      rw [rlL_B (by decide) (Or.inl rfl), rlP, if_pos rfl] at ok
      generalize clL tp n 4 0 (sk tp n p + 1) O N = A at D ⊢
      generalize rlB tp n k 4 0 (sk tp n p + 1) rd = B at D ok ⊢
      obtain ⟨d1, ⟨d2, d3, d4, d5, d6, d7, d8, d9⟩, d10⟩ := D
      refine ⟨d1, ⟨d6.trans c2.1, d7.trans c2.2.1, d8.trans c2.2.2.1, d9.trans c2.2.2.2⟩, fun q => ?_⟩
      obtain ⟨l1, l2⟩ := d10 q
      refine ⟨d2.trans eT, hk, l1, (ok q).2, fun t ht => ?_, l2⟩
      obtain ⟨t1, t2, t3, t4⟩ := hT t ht
      exact ⟨by rw [d3]; exact t1, by rw [d5]; exact t2, by rw [d4]; exact t3, t4⟩
    · rw [if_neg e, if_neg (fun q => e ((nl_eq (by decide) (by decide)).mpr q)), psP, if_neg e]
      exact ⟨Or.inr ⟨rfl, rfl, (sk_le h1).2, sk_sk h1⟩, c2, fun _ => ⟨eT, hk, hL, Nat.zero_le _, hT, lr0⟩⟩
theorem read_same {tp : Nat → Int32} {n : Nat} {O : Oc} {M : Mo} {ro rd : Nat → Int32} (hn : n ≤ 90) : RS tp n (rdB tp n O M) (orA tp n ro) (orB tp n ro rd) M := by
  have C := ct_same (tp := tp) hn 6 0 0 (rdO O) (rdN0 M) ro rfl (by decide) (Nat.zero_le _) rfl (fun t ht => absurd ht (Nat.not_lt_zero _))
  have ok := fun f2 => rtL_ok (tp := tp) (n := n) 7 0 0 ro rfl f2
  have eL := ctL_nL (cl := tp) (n := n) 6 0 0 (rdO O) (rdN0 M)
  have eA : rtB tp n 6 0 0 ro = orA tp n ro := by
    rw [orA, rtL_B (by decide) (Or.inl rfl), rtP, if_pos rfl]
  rw [eA] at C
  rw [show rtL tp n 7 0 0 ro = orA tp n ro by rw [orA]] at ok
  rw [rdB, orB]
  rw [show ctL tp n 6 0 0 (rdO O) (rdN0 M) = rdA tp n O M by rw [rdA]] at C eL
  generalize orA tp n ro = a at C ok ⊢
  generalize rdA tp n O M = A at C eL ⊢
  have R := mid_same (rd := rd) hn C ok eL (fun l hl => if_pos hl)
  generalize rdM tp n A.1 A.2.1 A.2.2.1 A.2.2.2 = Z at R ⊢
  obtain ⟨r1, ⟨r2, r3, r4, r5⟩, r6⟩ := R
  exact ⟨r1, ⟨r2, r3, r4, r5⟩, r6⟩
theorem rdV_same {tp : Nat → Int32} {n : Nat} {O : Oc} {M : Mo} {ro rd : Nat → Int32} (hn : n ≤ 90) (tl : TL tp n) : rdV tp n O M = orF tp n ro rd := by
  have R := read_same (tp := tp) (O := O) (M := M) (ro := ro) (rd := rd) hn
  rw [rdV, orF, orC_oc]
  by_cases e : (orB tp n ro rd).2.2.1 = true
  · have := fin_same (nT := (rdB tp n O M).2.2.1.nT) hn tl R.1
    rw [this, e, ocF, if_pos rfl, if_pos rfl, if_pos rfl]
  · have e' : (orB tp n ro rd).2.2.1 = false := by rwa [Bool.not_eq_true] at e
    rw [fin_same hn tl R.1, (R.2.2 e').1]
theorem orF_neg {tp : Nat → Int32} {n : Nat} {ro rd : Nat → Int32} (hn : n ≤ 90) : ((orC tp n ro rd).2 = true → orF tp n ro rd < 0) ∧ ((orC tp n ro rd).2 = false → (orB tp n ro rd).2.2.1 = false ∧ orF tp n ro rd = nI (orA tp n ro).1) := by
  have hB := orB_le tp n ro rd
  have hC : (orC tp n ro rd).1 ≤ n := by
    rw [orC_oc, ocF]
    split
    · exact hB
    · exact (sk_le hB).2
  constructor
  · intro e
    rw [orF, if_pos e]
    have := (by decide +kernel : ∀ k : Fin 91, (-20 - nI k.1 : Int32) < 0) ⟨(orC tp n ro rd).1, by omega⟩
    exact this
  · intro e
    refine ⟨?_, by rw [orF, e, if_neg Bool.false_ne_true]⟩
    by_cases q : (orB tp n ro rd).2.2.1 = true
    · rw [orC_oc, ocF, if_pos q] at e
      exact Bool.noConfusion e
    · rwa [Bool.not_eq_true] at q
