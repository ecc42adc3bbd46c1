/-! a text: class and reference read alike, the whole -/
theorem upd3_n {f : Nat → Int32} {a b c : Int32} {k j : Nat} (h : j < 3 * k) : ro3 f k a b c j = f j := by
  rw [ro3, upd_ne _ _ (by omega), upd_ne _ _ (by omega), upd_ne _ _ (by omega)]
theorem upd3_0 (f : Nat → Int32) (a b c : Int32) (k : Nat) : ro3 f k a b c (3 * k) = a := by
  rw [ro3, upd_ne _ _ (by omega), upd_ne _ _ (by omega), upd_eq]
theorem upd3_1 (f : Nat → Int32) (a b c : Int32) (k : Nat) : ro3 f k a b c (3 * k + 1) = b := by
  rw [ro3, upd_ne _ _ (by omega), upd_eq]
theorem upd3_2 (f : Nat → Int32) (a b c : Int32) (k : Nat) : ro3 f k a b c (3 * k + 2) = c := by
  rw [ro3, upd_eq]
theorem upd4_n {f : Nat → Int32} {a b c e : Int32} {k j : Nat} (h : j < 4 * k) : rd4 f k a b c e j = f j := by
  rw [rd4, upd_ne _ _ (by omega), upd_ne _ _ (by omega), upd_ne _ _ (by omega), upd_ne _ _ (by omega)]
theorem upd4_0 (f : Nat → Int32) (a b c e : Int32) (k : Nat) : rd4 f k a b c e (4 * k) = a := by
  rw [rd4, upd_ne _ _ (by omega), upd_ne _ _ (by omega), upd_ne _ _ (by omega), upd_eq]
theorem upd4_1 (f : Nat → Int32) (a b c e : Int32) (k : Nat) : rd4 f k a b c e (4 * k + 1) = b := by
  rw [rd4, upd_ne _ _ (by omega), upd_ne _ _ (by omega), upd_eq]
theorem upd4_2 (f : Nat → Int32) (a b c e : Int32) (k : Nat) : rd4 f k a b c e (4 * k + 2) = c := by
  rw [rd4, upd_ne _ _ (by omega), upd_eq]
theorem upd4_3 (f : Nat → Int32) (a b c e : Int32) (k : Nat) : rd4 f k a b c e (4 * k + 3) = e := by
  rw [rd4, upd_eq]
/-- one tree of the rows read -/
def TR1 (O : Oc) (M : Mo) (ro : Nat → Int32) (t : Nat) : Prop := O.hi t = ro (3 * t) ∧ M.fr t = ro (3 * t + 1) ∧ O.ri t = ro (3 * t + 2) ∧ inI (ro (3 * t)) (nI 1) (nI 20) = true ∧ inI (ro (3 * t + 1)) (nI 0) (nI 99) = true ∧ inI (ro (3 * t + 2)) (nI 0) (nI 99) = true
def TRW (O : Oc) (M : Mo) (ro : Nat → Int32) (k : Nat) : Prop := ∀ t, t < k → TR1 O M ro t
def LR1 (O : Oc) (M : Mo) (rd : Nat → Int32) (nT l : Nat) : Prop := O.ki l = rd (4 * l) ∧ O.le l = rd (4 * l + 1) ∧ O.pr l = rd (4 * l + 2) ∧ M.ln l = rd (4 * l + 3) ∧ (∃ j, j < 5 ∧ rd (4 * l) = nI j) ∧ inI (rd (4 * l + 1)) (nI 1) (nI 9) = true ∧ inI (rd (4 * l + 2)) (nI 0) (nI 9) = true ∧ (rd (4 * l + 3) = -4 ∨ ∃ t, t < nT ∧ rd (4 * l + 3) = nI t)
def LRW (O : Oc) (M : Mo) (rd : Nat → Int32) (nT k : Nat) : Prop := (∀ l, l < k → LR1 O M rd nT l) ∧ ∀ l, k ≤ l → l < 4 → M.ln l = -4
theorem TRW.more {O : Oc} {M : Mo} {ro : Nat → Int32} {a b c : Int32} (H : TRW O M ro O.nT) (ia : inI a (nI 1) (nI 20) = true) (ib : inI b (nI 0) (nI 99) = true) (ic : inI c (nI 0) (nI 99) = true) : TRW (plO O a c) (plM O M b) (ro3 ro O.nT a b c) (O.nT + 1) := by
  intro t ht
  by_cases e : t = O.nT
  · subst e
    refine ⟨?_, ?_, ?_, ?_, ?_, ?_⟩
    · rw [upd3_0]
      exact upd_eq _ _ _
    · rw [upd3_1]
      exact upd_eq _ _ _
    · rw [upd3_2]
      exact upd_eq _ _ _
    · rw [upd3_0]; exact ia
    · rw [upd3_1]; exact ib
    · rw [upd3_2]; exact ic
  · obtain ⟨h1, h2, h3, h4, h5, h6⟩ := H t (by omega)
    refine ⟨?_, ?_, ?_, ?_, ?_, ?_⟩
    · rw [upd3_n (by omega), ← h1]
      exact upd_ne _ _ e
    · rw [upd3_n (by omega), ← h2]
      exact upd_ne _ _ e
    · rw [upd3_n (by omega), ← h3]
      exact upd_ne _ _ e
    · rw [upd3_n (by omega)]; exact h4
    · rw [upd3_n (by omega)]; exact h5
    · rw [upd3_n (by omega)]; exact h6
theorem LRW.more {O : Oc} {M : Mo} {rd : Nat → Int32} {nT : Nat} {a b c e : Int32} (hk : O.nL < 4) (H : LRW O M rd nT O.nL) (ia : ∃ j, j < 5 ∧ a = nI j) (ib : inI b (nI 1) (nI 9) = true) (ic : inI c (nI 0) (nI 9) = true) (ie : e = -4 ∨ ∃ t, t < nT ∧ e = nI t) : LRW (brO O a b c) (blM O M O.nL e) (rd4 rd O.nL a b c e) nT (O.nL + 1) := by
  have ln : ∀ l, l ≠ O.nL → (blM O M O.nL e).ln l = M.ln l := fun l hl => by
    show upd (upd M.ln O.nL (-4)) O.nL e l = _
    rw [upd_ne _ _ hl, upd_ne _ _ hl]
  refine ⟨fun l hl => ?_, fun l h1 h2 => by rw [ln l (by omega)]; exact H.2 l (by omega) h2⟩
  by_cases q : l = O.nL
  · subst q
    refine ⟨?_, ?_, ?_, ?_, ?_, ?_, ?_, ?_⟩
    · rw [upd4_0]
      exact upd_eq _ _ _
    · rw [upd4_1]
      exact upd_eq _ _ _
    · rw [upd4_2]
      exact upd_eq _ _ _
    · rw [upd4_3]
      exact upd_eq _ _ _
    · rw [upd4_0]; exact ia
    · rw [upd4_1]; exact ib
    · rw [upd4_2]; exact ic
    · rw [upd4_3]; exact ie
  · obtain ⟨h1, h2, h3, h4, h5, h6, h7, h8⟩ := H.1 l (by omega)
    refine ⟨?_, ?_, ?_, ?_, ?_, ?_, ?_, ?_⟩
    · rw [upd4_n (by omega), ← h1]
      exact upd_ne _ _ q
    · rw [upd4_n (by omega), ← h2]
      exact upd_ne _ _ q
    · rw [upd4_n (by omega), ← h3]
      exact upd_ne _ _ q
    · rw [upd4_n (by omega), ← h4]
      exact ln l q
    · rw [upd4_n (by omega)]; exact h5
    · rw [upd4_n (by omega)]; exact h6
    · rw [upd4_n (by omega)]; exact h7
    · rw [upd4_n (by omega)]; exact h8
/-- what the draft keeps -/
def MK (M N : Mo) : Prop := M.got = N.got ∧ M.paid = N.paid ∧ M.lost = N.lost ∧ M.day = N.day
/-- the end of a list: the class's place and fault, the reference's -/
def ER (tp : Nat → Int32) (n p : Nat) (f : Int32) (p' : Nat) (fa : Bool) : Prop := (fa = true ∧ p' ≤ n ∧ (f = -20 - nI p' ∨ (f = 0 ∧ p ≤ n ∧ nxt tp n p = nI 44 ∧ sk tp n p = p'))) ∨ (fa = false ∧ f = 0 ∧ p ≤ n ∧ sk tp n p = p')
def rtB (tp : Nat → Int32) (n f k p : Nat) (ro : Nat → Int32) : Nat × Nat × Bool × (Nat → Int32) :=
  if (rT5 tp n p false).2.2 = true then (k + 1, (rT5 tp n p false).2.1, true, ro) else rtL tp n f (k + 1) (rT5 tp n p false).2.1 (ro3 ro k (rT1 tp n p false).1 (rT3 tp n p false).1 (rT5 tp n p false).1)
theorem rtL_B {tp : Nat → Int32} {n f k p : Nat} {ro : Nat → Int32} (hk : k < 6) (hc : k = 0 ∨ ltr tp n (sk tp n p) = nI 44) : rtL tp n (f + 1) k p ro = rtB tp n f k (rtP tp n k p) ro := by
  rw [rtL, if_pos hc, decide_eq_false (show ¬ 6 ≤ k by omega), rtB]
theorem rtL_7 {tp : Nat → Int32} {n f k p : Nat} {ro : Nat → Int32} (hk : 6 ≤ k) (hc : ltr tp n (sk tp n p) = nI 44) : rtL tp n (f + 1) k p ro = (k + 1, sk tp n p, true, ro) := by
  have hP : rtP tp n k p = sk tp n p := by rw [rtP, if_neg (by omega), if_neg (by omega)]
  have h5 := rT5_true tp n (sk tp n p)
  rw [rtL, if_pos (Or.inr hc), hP, decide_eq_true hk, if_pos (by rw [h5]), h5]
def CS (tp : Nat → Int32) (n : Nat) (A : Nat × Int32 × Oc × Mo) (B : Nat × Nat × Bool × (Nat → Int32)) (M : Mo) : Prop := ER tp n A.1 A.2.1 B.2.1 B.2.2.1 ∧ MK A.2.2.2 M ∧ A.2.2.2.ln = M.ln ∧ (B.2.2.1 = false → A.2.2.1.nT = B.1 ∧ TRW A.2.2.1 A.2.2.2 B.2.2.2 B.1)
theorem CS.weak {tp : Nat → Int32} {n : Nat} {A : Nat × Int32 × Oc × Mo} {B : Nat × Nat × Bool × (Nat → Int32)} {M N : Mo} (H : CS tp n A B N) (h : MK N M) (h2 : N.ln = M.ln) : CS tp n A B M :=
  ⟨H.1, ⟨H.2.1.1.trans h.1, H.2.1.2.1.trans h.2.1, H.2.1.2.2.1.trans h.2.2.1, H.2.1.2.2.2.trans h.2.2.2⟩, H.2.2.1.trans h2, H.2.2.2⟩
theorem ct_same {tp : Nat → Int32} {n : Nat} (hn : n ≤ 90) : ∀ g k p O M ro, g + k = 6 → 0 < g → p ≤ n → Oc.nT O = k → TRW O M ro k → CS tp n (ctL tp n g k p O M) (rtB tp n g k p ro) M := by
  intro g
  induction g with
  | zero =>
    intro k p O M ro hk h0
    omega
  | succ g ih =>
    intro k p O M ro hk h0 hp ek hT
    have l5 := rT5_le (tp := tp) (fa := false) hp
    have cl5 := cT5_le (cl := tp) hp
    obtain ⟨s1, s2⟩ := tree_same (tp := tp) hn hp
    rw [ctL, rtB]
    generalize (cT1 tp n p).1 = v1 at s2 ⊢
    generalize (cT3 tp n p).1 = v3 at s2 ⊢
    generalize (rT1 tp n p false).1 = w1 at s2 ⊢
    generalize (rT3 tp n p false).1 = w3 at s2 ⊢
    generalize cT5 tp n p = z at s1 s2 cl5 ⊢
    generalize rT5 tp n p false = y at s1 s2 l5 ⊢
    obtain ⟨v5, p5, f5⟩ := z
    obtain ⟨w5, q5, a5⟩ := y
    have l5 : q5 ≤ n := l5
    have cl5 : p5 ≤ n := cl5
    rcases s1 with ⟨e1, e2, e3⟩ | ⟨e1, e2, e3⟩
    · have e1 : a5 = false := e1
      have e2 : f5 = 0 := e2
      have e3 : p5 = q5 := e3
      subst e1 e2 e3
      obtain ⟨r1, r2, r3, i1, i3, i5⟩ := s2 rfl
      have r3 : v5 = w5 := r3
      have i5 : inI w5 (nI 0) (nI 99) = true := i5
      subst r1 r2 r3
      rw [if_pos rfl, if_neg Bool.false_ne_true]
      subst ek
      have hT' := hT.more i1 i3 i5
      by_cases k6 : O.nT + 1 < 6
      · rw [if_pos k6]
        obtain ⟨g', rfl⟩ : ∃ g', g = g' + 1 := ⟨g - 1, by omega⟩
        by_cases e : nxt tp n p5 = nI 44
        · have e' := (nl_eq (tp := tp) (n := n) (p := p5) (by decide) (by decide)).mp e
          rw [if_pos e, rtL_B k6 (Or.inr e'), rtP, if_neg (by omega), if_pos k6, psP, if_pos e]
          have hs := nxt_in (cl := tp) (n := n) (p := p5) (by decide) e
          exact (ih (O.nT + 1) (sk tp n p5 + 1) (plO O v1 v5) (plM O M v3) (ro3 ro O.nT v1 v3 v5) (by omega) (by omega) (by omega) rfl hT').weak ⟨rfl, rfl, rfl, rfl⟩ rfl
        · have e' : ¬ ltr tp n (sk tp n p5) = nI 44 := fun q => e ((nl_eq (by decide) (by decide)).mpr q)
          rw [if_neg e, rtL, if_neg (fun q => q.elim (fun z => absurd z (by omega)) e'), psP, if_neg e]
          exact ⟨Or.inr ⟨rfl, rfl, (sk_le cl5).2, sk_sk cl5⟩, ⟨rfl, rfl, rfl, rfl⟩, rfl, fun _ => ⟨rfl, hT'⟩⟩
      · rw [if_neg k6]
        obtain rfl : g = 0 := by omega
        by_cases e : nxt tp n p5 = nI 44
        · have e' := (nl_eq (tp := tp) (n := n) (p := p5) (by decide) (by decide)).mp e
          rw [rtL_7 (by omega) e']
          exact ⟨Or.inl ⟨rfl, (sk_le cl5).2, Or.inr ⟨rfl, cl5, e, rfl⟩⟩, ⟨rfl, rfl, rfl, rfl⟩, rfl, fun q => Bool.noConfusion q⟩
        · have e' : ¬ ltr tp n (sk tp n p5) = nI 44 := fun q => e ((nl_eq (by decide) (by decide)).mpr q)
          rw [rtL, if_neg (fun q => q.elim (fun z => absurd z (by omega)) e')]
          exact ⟨Or.inr ⟨rfl, rfl, cl5, rfl⟩, ⟨rfl, rfl, rfl, rfl⟩, rfl, fun _ => ⟨rfl, hT'⟩⟩
    · have e1 : a5 = true := e1
      have e2 : f5 = -20 - nI q5 := e2
      subst e1 e2
      rw [if_neg (nz20 (show q5 ≤ 90 by omega)), if_pos rfl]
      exact ⟨Or.inl ⟨rfl, l5, Or.inl rfl⟩, ⟨rfl, rfl, rfl, rfl⟩, rfl, fun q => Bool.noConfusion q⟩
def rlB (tp : Nat → Int32) (n nT f k p : Nat) (rd : Nat → Int32) : Nat × Nat × Bool × (Nat → Int32) :=
  if (rL4 tp n nT p false).2.2 = true then (k + 1, (rL4 tp n nT p false).2.1, true, rd) else rlL tp n nT f (k + 1) (rL4 tp n nT p false).2.1 (rd4 rd k (knd tp n p false).1 (rL2 tp n p false).1 (rL3 tp n p false).1 (rL4 tp n nT p false).1)
theorem rlL_B {tp : Nat → Int32} {n nT f k p : Nat} {rd : Nat → Int32} (hk : k < 4) (hc : k = 0 ∨ ltr tp n (sk tp n p) = nI 44) : rlL tp n nT (f + 1) k p rd = rlB tp n nT f k (rlP tp n k p) rd := by
  rw [rlL, if_pos hc, decide_eq_false (show ¬ 4 ≤ k by omega), rlB]
/-- ladders leave the trees as they are -/
def OK (O P : Oc) (M N : Mo) : Prop := O.nT = P.nT ∧ O.hi = P.hi ∧ O.ri = P.ri ∧ M.fr = N.fr ∧ MK M N
theorem rlL_5 {tp : Nat → Int32} {n nT f k p : Nat} {rd : Nat → Int32} (hk : 4 ≤ k) (hc : ltr tp n (sk tp n p) = nI 44) : rlL tp n nT (f + 1) k p rd = (k + 1, sk tp n p, true, rd) := by
  have hP : rlP tp n k p = sk tp n p := by rw [rlP, if_neg (by omega), if_neg (by omega)]
  have h5 := rL4_true tp n nT (sk tp n p)
  rw [rlL, if_pos (Or.inr hc), hP, decide_eq_true hk, if_pos (by rw [h5]), h5]
def DS (tp : Nat → Int32) (n nT : Nat) (A : Nat × Int32 × Oc × Mo) (B : Nat × Nat × Bool × (Nat → Int32)) (O : Oc) (M : Mo) : Prop := ER tp n A.1 A.2.1 B.2.1 B.2.2.1 ∧ OK A.2.2.1 O A.2.2.2 M ∧ (B.2.2.1 = false → A.2.2.1.nL = B.1 ∧ LRW A.2.2.1 A.2.2.2 B.2.2.2 nT B.1)
theorem DS.weak {tp : Nat → Int32} {n nT : Nat} {A : Nat × Int32 × Oc × Mo} {B : Nat × Nat × Bool × (Nat → Int32)} {O P : Oc} {M N : Mo} (H : DS tp n nT A B P N) (h : OK P O N M) : DS tp n nT A B O M := by
  obtain ⟨j1, j2, j3⟩ := H
  obtain ⟨o1, o2, o3, o4, o5, o6, o7, o8⟩ := h
  obtain ⟨m1, m2, m3, m4, m5, m6, m7, m8⟩ := j2
  exact ⟨j1, ⟨m1.trans o1, m2.trans o2, m3.trans o3, m4.trans o4, m5.trans o5, m6.trans o6, m7.trans o7, m8.trans o8⟩, j3⟩
theorem cl_same {tp : Nat → Int32} {n nT : Nat} (hn : n ≤ 90) (hT : 1 ≤ nT ∧ nT ≤ 6) : ∀ g k p O M rd, g + k = 4 → 0 < g → p ≤ n → Oc.nL O = k → Oc.nT O = nT → LRW O M rd nT k → DS tp n nT (clL tp n g k p O M) (rlB tp n nT g k p rd) O M := by
  intro g
  induction g with
  | zero =>
    intro k p O M rd hk h0
    omega
  | succ g ih =>
    intro k p O M rd hk h0 hp ek eT hL
    have l5 := rL4_le (tp := tp) (nT := nT) (fa := false) hp
    have cl5 := cL4_le (cl := tp) (nT := nT) hp
    obtain ⟨s1, s2⟩ := lad_same (tp := tp) hT hn hp
    rw [clL, rlB, eT]
    generalize (cL1 tp n p).1 = v1 at s2 ⊢
    generalize (cL2 tp n p).1 = v2 at s2 ⊢
    generalize (cL3 tp n p).1 = v3 at s2 ⊢
    generalize (knd tp n p false).1 = w1 at s2 ⊢
    generalize (rL2 tp n p false).1 = w2 at s2 ⊢
    generalize (rL3 tp n p false).1 = w3 at s2 ⊢
    generalize cL4 tp n nT p = z at s1 s2 cl5 ⊢
    generalize rL4 tp n nT p false = y at s1 s2 l5 ⊢
    obtain ⟨v4, p5, f5⟩ := z
    obtain ⟨w4, q5, a5⟩ := y
    have l5 : q5 ≤ n := l5
    have cl5 : p5 ≤ n := cl5
    have ok : ∀ x y z, OK (brO O x y z) O (blM O M k v4) M := fun _ _ _ => ⟨rfl, rfl, rfl, rfl, rfl, rfl, rfl, rfl⟩
    rcases s1 with ⟨e1, e2, e3⟩ | ⟨e1, e2, e3⟩
    · have e1 : a5 = false := e1
      have e2 : f5 = 0 := e2
      have e3 : p5 = q5 := e3
      subst e1 e2 e3
      obtain ⟨r1, r2, r3, r4, i1, i2, i3, i4⟩ := s2 rfl
      have r4 : v4 = w4 := r4
      have i4 : w4 = -4 ∨ ∃ t, t < nT ∧ w4 = nI t := i4
      subst r1 r2 r3 r4
      rw [if_pos rfl, if_neg Bool.false_ne_true]
      subst ek
      have hL' := hL.more (by omega) i1 i2 i3 i4
      by_cases k6 : O.nL + 1 < 4
      · rw [if_pos k6]
        obtain ⟨g', rfl⟩ : ∃ g', g = g' + 1 := ⟨g - 1, by omega⟩
        by_cases e : nxt tp n p5 = nI 44
        · have e' := (nl_eq (tp := tp) (n := n) (p := p5) (by decide) (by decide)).mp e
          rw [if_pos e, rlL_B k6 (Or.inr e'), rlP, if_neg (by omega), if_pos k6, psP, if_pos e]
          have hs := nxt_in (cl := tp) (n := n) (p := p5) (by decide) e
          exact (ih (O.nL + 1) (sk tp n p5 + 1) (brO O v1 v2 v3) (blM O M O.nL v4) (rd4 rd O.nL v1 v2 v3 v4) (by omega) (by omega) (by omega) rfl eT hL').weak (ok v1 v2 v3)
        · have e' : ¬ ltr tp n (sk tp n p5) = nI 44 := fun q => e ((nl_eq (by decide) (by decide)).mpr q)
          rw [if_neg e, rlL, if_neg (fun q => q.elim (fun z => absurd z (by omega)) e'), psP, if_neg e]
          exact ⟨Or.inr ⟨rfl, rfl, (sk_le cl5).2, sk_sk cl5⟩, ok v1 v2 v3, fun _ => ⟨rfl, hL'⟩⟩
      · rw [if_neg k6]
        obtain rfl : g = 0 := by omega
        by_cases e : nxt tp n p5 = nI 44
        · have e' := (nl_eq (tp := tp) (n := n) (p := p5) (by decide) (by decide)).mp e
          rw [rlL_5 (by omega) e']
          exact ⟨Or.inl ⟨rfl, (sk_le cl5).2, Or.inr ⟨rfl, cl5, e, rfl⟩⟩, ok v1 v2 v3, fun q => Bool.noConfusion q⟩
        · have e' : ¬ ltr tp n (sk tp n p5) = nI 44 := fun q => e ((nl_eq (by decide) (by decide)).mpr q)
          rw [rlL, if_neg (fun q => q.elim (fun z => absurd z (by omega)) e')]
          exact ⟨Or.inr ⟨rfl, rfl, cl5, rfl⟩, ok v1 v2 v3, fun _ => ⟨rfl, hL'⟩⟩
    · have e1 : a5 = true := e1
      have e2 : f5 = -20 - nI q5 := e2
      subst e1 e2
      rw [if_neg (nz20 (show q5 ≤ 90 by omega)), if_pos rfl]
      exact ⟨Or.inl ⟨rfl, l5, Or.inl rfl⟩, ⟨rfl, rfl, rfl, rfl, rfl, rfl, rfl, rfl⟩, fun q => Bool.noConfusion q⟩
