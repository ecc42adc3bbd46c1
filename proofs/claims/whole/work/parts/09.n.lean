/-! rows with a known index; numbers -/
section XK
variable {Γ : State → Nat → Nat → Prop} {μ : MI} {R : Room} {κ : Nat × Nat} {pc pc' tgt : Nat} {L L' : List (Option Value)} {S S' : List Value} {h : XH} {Q : Option Value → XH → Prop}
theorem X.ialdE {a n j : Nat} {f : Nat → Int32} {i : Int32} (I : D1 μ pc .iaload 1 pc') (ha : h a = some (.inl (.int, n, .inl f))) (e : i = nI j) (hj : j < n) (hn : n < 2 ^ 31) (kk : X Γ μ R κ pc' L (.int (f j) :: S) h Q) : X Γ μ R κ pc L (.int i :: .ref a :: S) h Q := by
  subst e
  refine X.iald I ha (vp_in_nI hj hn) ?_
  rw [nI_clamp (by omega)]
  exact kk
theorem X.ialdN {a n j : Nat} {f : Nat → Int32} (I : D1 μ pc .iaload 1 pc') (ha : h a = some (.inl (.int, n, .inl f))) (hj : j < n) (hn : n < 2 ^ 31) (kk : X Γ μ R κ pc' L (.int (f j) :: S) h Q) : X Γ μ R κ pc L (.int (nI j) :: .ref a :: S) h Q := X.ialdE I ha rfl hj hn kk
theorem X.laldE {a n j : Nat} {f : Nat → Int64} {i : Int32} (I : D1 μ pc .laload 1 pc') (ha : h a = some (.inl (.long, n, .inr (.inl f)))) (e : i = nI j) (hj : j < n) (hn : n < 2 ^ 31) (kk : X Γ μ R κ pc' L (.long (f j) :: S) h Q) : X Γ μ R κ pc L (.int i :: .ref a :: S) h Q := by
  subst e
  refine X.lald I ha (vp_in_nI hj hn) ?_
  rw [nI_clamp (by omega)]
  exact kk
theorem X.laldN {a n j : Nat} {f : Nat → Int64} (I : D1 μ pc .laload 1 pc') (ha : h a = some (.inl (.long, n, .inr (.inl f)))) (hj : j < n) (hn : n < 2 ^ 31) (kk : X Γ μ R κ pc' L (.long (f j) :: S) h Q) : X Γ μ R κ pc L (.int (nI j) :: .ref a :: S) h Q := X.laldE I ha rfl hj hn kk
theorem X.caldE {a n j : Nat} {f : Nat → Int32} {i : Int32} (I : D1 μ pc .caload 1 pc') (ha : h a = some (.inl (.char, n, .inl f))) (e : i = nI j) (hj : j < n) (hn : n < 2 ^ 31) (kk : X Γ μ R κ pc' L (.int (f j) :: S) h Q) : X Γ μ R κ pc L (.int i :: .ref a :: S) h Q := by
  subst e
  refine X.cald I ha (vp_in_nI hj hn) ?_
  rw [nI_clamp (by omega)]
  exact kk
theorem X.caldN {a n j : Nat} {f : Nat → Int32} (I : D1 μ pc .caload 1 pc') (ha : h a = some (.inl (.char, n, .inl f))) (hj : j < n) (hn : n < 2 ^ 31) (kk : X Γ μ R κ pc' L (.int (f j) :: S) h Q) : X Γ μ R κ pc L (.int (nI j) :: .ref a :: S) h Q := X.caldE I ha rfl hj hn kk
theorem X.iastE {a n j : Nat} {f : Nat → Int32} {i x : Int32} (I : D1 μ pc .iastore 1 pc') (ha : h a = some (.inl (.int, n, .inl f))) (e : i = nI j) (hj : j < n) (hn : n < 2 ^ 31) (kk : X Γ μ R κ pc' L S (xup h a (.inl (.int, n, .inl (upd f j x)))) Q) : X Γ μ R κ pc L (.int x :: .int i :: .ref a :: S) h Q := by
  subst e
  refine X.iast I ha (vp_in_nI hj hn) ?_
  rw [nI_clamp (by omega)]
  exact kk
theorem X.iastN {a n j : Nat} {f : Nat → Int32} {x : Int32} (I : D1 μ pc .iastore 1 pc') (ha : h a = some (.inl (.int, n, .inl f))) (hj : j < n) (hn : n < 2 ^ 31) (kk : X Γ μ R κ pc' L S (xup h a (.inl (.int, n, .inl (upd f j x)))) Q) : X Γ μ R κ pc L (.int x :: .int (nI j) :: .ref a :: S) h Q := X.iastE I ha rfl hj hn kk
theorem X.lastE {a n j : Nat} {f : Nat → Int64} {i : Int32} {x : Int64} (I : D1 μ pc .lastore 1 pc') (ha : h a = some (.inl (.long, n, .inr (.inl f)))) (e : i = nI j) (hj : j < n) (hn : n < 2 ^ 31) (kk : X Γ μ R κ pc' L S (xup h a (.inl (.long, n, .inr (.inl (vp_updL f j x))))) Q) : X Γ μ R κ pc L (.long x :: .int i :: .ref a :: S) h Q := by
  subst e
  refine X.last I ha (vp_in_nI hj hn) ?_
  rw [nI_clamp (by omega)]
  exact kk
theorem X.lastN {a n j : Nat} {f : Nat → Int64} {x : Int64} (I : D1 μ pc .lastore 1 pc') (ha : h a = some (.inl (.long, n, .inr (.inl f)))) (hj : j < n) (hn : n < 2 ^ 31) (kk : X Γ μ R κ pc' L S (xup h a (.inl (.long, n, .inr (.inl (vp_updL f j x))))) Q) : X Γ μ R κ pc L (.long x :: .int (nI j) :: .ref a :: S) h Q := X.lastE I ha rfl hj hn kk
end XK
/-- an int array of n with f -/
abbrev IA (n : Nat) (f : Nat → Int32) : XC := .inl (.int, n, .inl f)
abbrev LA (n : Nat) (f : Nat → Int64) : XC := .inl (.long, n, .inr (.inl f))
theorem xup_self (h : XH) {a : Nat} {c : XC} (ha : h a = some c) : xup h a c = h := by
  funext i
  by_cases hi : i = a
  · subst hi; rw [xup_eq, ha]
  · rw [xup_ne _ _ hi]
theorem xup_xup (h : XH) (a : Nat) (c c' : XC) : xup (xup h a c) a c' = xup h a c' := by
  funext i
  by_cases hi : i = a
  · subst hi; rw [xup_eq, xup_eq]
  · rw [xup_ne _ _ hi, xup_ne _ _ hi, xup_ne _ _ hi]
theorem xup_comm (h : XH) {a b : Nat} (c c' : XC) (hab : a ≠ b) : xup (xup h a c) b c' = xup (xup h b c') a c := by
  funext i
  by_cases hi : i = a
  · subst hi; rw [xup_ne _ _ hab, xup_eq, xup_eq]
  · by_cases hj : i = b
    · subst hj; rw [xup_eq, xup_ne _ _ hi, xup_eq]
    · rw [xup_ne _ _ hj, xup_ne _ _ hi, xup_ne _ _ hi, xup_ne _ _ hj]
theorem nlit (n : Nat) : (OfNat.ofNat n : Int32) = nI n := rfl
theorem llit (n : Nat) : (OfNat.ofNat n : Int64) = lN n := rfl
theorem wle (a b : Int32) : a.toInt64 ≤ b.toInt64 ↔ a ≤ b := by
  rw [Int64.le_iff_toInt_le, Int32.le_iff_toInt_le, Int32.toInt_toInt64, Int32.toInt_toInt64]
theorem bI_if (c : Prop) [Decidable c] : bI (decide c) = if c then 1 else 0 := by
  by_cases h : c <;> simp [bI, h]
