/-! X, fourth part: arraycopy, the law's script, short forms -/
def DCopy (μ : MI) (pc pc' : Nat) : Prop := ∃ idx : Nat, decode μ.2.1 pc = .ok (.invokestatic idx, 3) ∧ pc + 3 = pc' ∧ Cond.methodLink μ.1.cls idx arraycopyName ∈ bigW ∧ Cond.native arraycopyName ∈ bigW ∧ Cond.static arraycopyName ∈ bigW ∧ Cond.initialized "java/lang/System" ∈ bigW
theorem xnn (z : Int32) (hz : ¬ z < 0) : z.toInt = (z.toNatClampNeg : Int) := by
  have hz0 : (0 : Int) ≤ z.toInt := by
    have := Int32.not_lt.mp hz
    simpa using Int32.le_iff_toInt_le.mp this
  show z.toInt = ((z.toInt.toNat : Nat) : Int)
  omega
theorem xnative : nativeFrameWords "java/lang/System" "arraycopy" 5 ≤ 19 := by decide
section XS
variable {Γ : State → Nat → Nat → Prop} {μ : MI} {R : Room} {κ : Nat × Nat} {pc pc' tgt : Nat} {L L' : List (Option Value)} {S S' : List Value} {h : XH} {Q : Option Value → XH → Prop}
set_option maxHeartbeats 2000000 in
theorem X.copyi {a0 a1 n0 n1 : Nat} {f g : Nat → Int32} {sp dp n : Int32} (I : DCopy μ pc pc') (h0 : h a0 = some (.inl (.int, n0, .inl f))) (h1 : h a1 = some (.inl (.int, n1, .inl g))) (hr : XFit R 0) (hcat : (S.map fun v => v.category).sum ≤ 8) (q1 : ¬ sp < 0) (q2 : ¬ dp < 0) (q3 : ¬ n < 0) (q4 : sp.toNatClampNeg + n.toNatClampNeg ≤ n0) (q5 : dp.toNatClampNeg + n.toNatClampNeg ≤ n1) (kk : X Γ μ R κ pc' L S (xup h a1 (.inl (.int, n1, .inl (va_cpy f g sp.toNatClampNeg dp.toNatClampNeg n.toNatClampNeg)))) Q) : X Γ μ R κ pc L (.int n :: .int dp :: .ref a1 :: .int sp :: .ref a0 :: S) h Q := by
  obtain ⟨idx, hd, rfl, l1, l2, l3, l4⟩ := I
  intro p l e s m args below meth c B b D dA C Z E hκ H locs ls hR hS hl T hT Y
  have hts := C.2.2.2.2.2.2.1
  have hK := C.2.2.2.2.2.2.2.1.1
  have hc0 : H[xphi B b a0]? = some (vp_cell (dA .int) (n0, .inl f)) := hR.at h0
  have hc1 : H[xphi B b a1]? = some (vp_cell (dA .int) (n1, .inl g)) := hR.at h1
  obtain ⟨-, k0, hk0, cm0, hkk0⟩ := (hK.2 0 _ rfl).1 n0 (fun j => .int (f j))
  obtain ⟨-, k1, hk1, cm1, hkk1⟩ := (hK.2 0 _ rfl).1 n1 (fun j => .int (g j))
  obtain ⟨vm', X', step⟩ := Y.arraycopy C.1 C.2.2.2.2.2.1 (hts _ l1) (hts _ l2) (hts _ l3) (hts _ l4) (src := xphi B b a0) (dst := xphi B b a1) (cs := vp_cell (dA .int) (n0, .inl f)) (cd := vp_cell (dA .int) (n1, .inl g)) (srcPos := sp) (destPos := dp) (n := n) (by rw [hT]; exact hc0) (by rw [hT]; exact hc1)
    (fun _ h => by cases h) (fun _ h => by cases h) (fun h => by cases h) (fun h => by cases h) hk0 hk1 hkk0 hkk1 (by simp [refKind]) q1 q2 q3
    (by rw [xnn sp q1, xnn n q3]; show ¬ _ > ((arrV (dA .int) n0 (fun j => .int (f j))).slots.size : Int); rw [arrV_size]; omega)
    (by rw [xnn dp q2, xnn n q3]; show ¬ _ > ((arrV (dA .int) n1 (fun j => .int (g j))).slots.size : Int); rw [arrV_size]; omega)
    (fun vm₁ _ i hi => by
      have e : (vp_cell (dA .int) (n0, .inl f)).slots.getD (sp.toNatClampNeg + i) .null = .int (f (sp.toNatClampNeg + i)) := by
        show (arrV (dA .int) n0 (fun j => .int (f j))).slots.getD _ _ = _
        rw [Array.getD_eq_getD_getElem?, arrV_read _ _ (by omega)]
        rfl
      refine ⟨?_, ?_⟩
      · rw [e]
        rfl
      · rw [e]
        exact trivial)
    (g := F0 m pc ls (.int n :: .int dp :: .ref (xphi B b a1) :: .int sp :: .ref (xphi B b a0) :: S.map (xv B b))) rfl (by rw [C.2.2.1]; exact hl.1) (rest := S.map (xv B b)) rfl (by rw [C.2.1]; exact hd) hr.1 (by
      show 2 * 0 + _ + _ ≤ _
      rw [xcat]
      have := hr.2
      have := xnative
      omega)
  have e1 : copied (vp_cell (dA .int) (n0, .inl f)) (vp_cell (dA .int) (n1, .inl g)) sp dp n = vp_cell (dA .int) (n1, .inl (va_cpy f g sp.toNatClampNeg dp.toNatClampNeg n.toNatClampNeg)) := va_copied (fun z => .int z) (dA .int) (dA .int) f g q4
  rw [e1] at X' step
  have hlt : xphi B b a1 < H.size := (Array.getElem?_eq_some_iff.mp hc1).1
  have hheap : ((T.setVm vm').setCell (xphi B b a1) (vp_cell (dA .int) (n1, .inl (va_cpy f g sp.toNatClampNeg dp.toNatClampNeg n.toNatClampNeg)))).heap = H.setIfInBounds (xphi B b a1) (vp_cell (dA .int) (n1, .inl (va_cpy f g sp.toNatClampNeg dp.toNatClampNeg n.toNatClampNeg))) := by rw [← hT]; rfl
  have oq : ∀ q : Nat, q ≠ xphi B b a1 → (H.setIfInBounds (xphi B b a1) (vp_cell (dA .int) (n1, .inl (va_cpy f g sp.toNatClampNeg dp.toNatClampNeg n.toNatClampNeg))))[q]? = H[q]? := fun q hq => by simp [Array.getElem?_setIfInBounds, Ne.symm hq]
  obtain ⟨t, a1', b1⟩ := kk p l e s m args below meth c B b D dA C Z E hκ _ _ ls (hR.put h1 (by simp) (show (H.setIfInBounds (xphi B b a1) _)[xphi B b a1]? = some _ by simp [Array.getElem?_setIfInBounds, hlt]; rfl) oq) ⟨by simp; exact hS.1, fun q g1 g2 => by
      rw [oq q (fun e => g2 (by rw [e]; exact hR.ge h1))]
      exact hS.2.1 q g1 g2, fun q hq => by
      rcases List.mem_append.mp hq with h | h
      · exact hS.2.2 q h
      · obtain ⟨z, -, hz⟩ := List.mem_map.mp h
        rw [← hz]
        exact hR.ge h1⟩ hl _ hheap X'
  exact ⟨t, step t a1', b1⟩
set_option maxHeartbeats 2000000 in
theorem X.copyl {a0 a1 n0 n1 : Nat} {f g : Nat → Int64} {sp dp n : Int32} (I : DCopy μ pc pc') (h0 : h a0 = some (.inl (.long, n0, .inr (.inl f)))) (h1 : h a1 = some (.inl (.long, n1, .inr (.inl g)))) (hr : XFit R 0) (hcat : (S.map fun v => v.category).sum ≤ 8) (q1 : ¬ sp < 0) (q2 : ¬ dp < 0) (q3 : ¬ n < 0) (q4 : sp.toNatClampNeg + n.toNatClampNeg ≤ n0) (q5 : dp.toNatClampNeg + n.toNatClampNeg ≤ n1) (kk : X Γ μ R κ pc' L S (xup h a1 (.inl (.long, n1, .inr (.inl (va_cpy f g sp.toNatClampNeg dp.toNatClampNeg n.toNatClampNeg))))) Q) : X Γ μ R κ pc L (.int n :: .int dp :: .ref a1 :: .int sp :: .ref a0 :: S) h Q := by
  obtain ⟨idx, hd, rfl, l1, l2, l3, l4⟩ := I
  intro p l e s m args below meth c B b D dA C Z E hκ H locs ls hR hS hl T hT Y
  have hts := C.2.2.2.2.2.2.1
  have hK := C.2.2.2.2.2.2.2.1.1
  have hc0 : H[xphi B b a0]? = some (vp_cell (dA .long) (n0, .inr (.inl f))) := hR.at h0
  have hc1 : H[xphi B b a1]? = some (vp_cell (dA .long) (n1, .inr (.inl g))) := hR.at h1
  obtain ⟨-, k0, hk0, cm0, hkk0⟩ := (hK.2 1 _ rfl).1 n0 (fun j => .long (f j))
  obtain ⟨-, k1, hk1, cm1, hkk1⟩ := (hK.2 1 _ rfl).1 n1 (fun j => .long (g j))
  obtain ⟨vm', X', step⟩ := Y.arraycopy C.1 C.2.2.2.2.2.1 (hts _ l1) (hts _ l2) (hts _ l3) (hts _ l4) (src := xphi B b a0) (dst := xphi B b a1) (cs := vp_cell (dA .long) (n0, .inr (.inl f))) (cd := vp_cell (dA .long) (n1, .inr (.inl g))) (srcPos := sp) (destPos := dp) (n := n) (by rw [hT]; exact hc0) (by rw [hT]; exact hc1)
    (fun _ h => by cases h) (fun _ h => by cases h) (fun h => by cases h) (fun h => by cases h) hk0 hk1 hkk0 hkk1 (by simp [refKind]) q1 q2 q3
    (by rw [xnn sp q1, xnn n q3]; show ¬ _ > ((arrV (dA .long) n0 (fun j => .long (f j))).slots.size : Int); rw [arrV_size]; omega)
    (by rw [xnn dp q2, xnn n q3]; show ¬ _ > ((arrV (dA .long) n1 (fun j => .long (g j))).slots.size : Int); rw [arrV_size]; omega)
    (fun vm₁ _ i hi => by
      have e : (vp_cell (dA .long) (n0, .inr (.inl f))).slots.getD (sp.toNatClampNeg + i) .null = .long (f (sp.toNatClampNeg + i)) := by
        show (arrV (dA .long) n0 (fun j => .long (f j))).slots.getD _ _ = _
        rw [Array.getD_eq_getD_getElem?, arrV_read _ _ (by omega)]
        rfl
      refine ⟨?_, ?_⟩
      · rw [e]
        rfl
      · rw [e]
        exact trivial)
    (g := F0 m pc ls (.int n :: .int dp :: .ref (xphi B b a1) :: .int sp :: .ref (xphi B b a0) :: S.map (xv B b))) rfl (by rw [C.2.2.1]; exact hl.1) (rest := S.map (xv B b)) rfl (by rw [C.2.1]; exact hd) hr.1 (by
      show 2 * 0 + _ + _ ≤ _
      rw [xcat]
      have := hr.2
      have := xnative
      omega)
  have e1 : copied (vp_cell (dA .long) (n0, .inr (.inl f))) (vp_cell (dA .long) (n1, .inr (.inl g))) sp dp n = vp_cell (dA .long) (n1, .inr (.inl (va_cpy f g sp.toNatClampNeg dp.toNatClampNeg n.toNatClampNeg))) := va_copied (fun z => .long z) (dA .long) (dA .long) f g q4
  rw [e1] at X' step
  have hlt : xphi B b a1 < H.size := (Array.getElem?_eq_some_iff.mp hc1).1
  have hheap : ((T.setVm vm').setCell (xphi B b a1) (vp_cell (dA .long) (n1, .inr (.inl (va_cpy f g sp.toNatClampNeg dp.toNatClampNeg n.toNatClampNeg))))).heap = H.setIfInBounds (xphi B b a1) (vp_cell (dA .long) (n1, .inr (.inl (va_cpy f g sp.toNatClampNeg dp.toNatClampNeg n.toNatClampNeg)))) := by rw [← hT]; rfl
  have oq : ∀ q : Nat, q ≠ xphi B b a1 → (H.setIfInBounds (xphi B b a1) (vp_cell (dA .long) (n1, .inr (.inl (va_cpy f g sp.toNatClampNeg dp.toNatClampNeg n.toNatClampNeg)))))[q]? = H[q]? := fun q hq => by simp [Array.getElem?_setIfInBounds, Ne.symm hq]
  obtain ⟨t, a1', b1⟩ := kk p l e s m args below meth c B b D dA C Z E hκ _ _ ls (hR.put h1 (by simp) (show (H.setIfInBounds (xphi B b a1) _)[xphi B b a1]? = some _ by simp [Array.getElem?_setIfInBounds, hlt]; rfl) oq) ⟨by simp; exact hS.1, fun q g1 g2 => by
      rw [oq q (fun e => g2 (by rw [e]; exact hR.ge h1))]
      exact hS.2.1 q g1 g2, fun q hq => by
      rcases List.mem_append.mp hq with h | h
      · exact hS.2.2 q h
      · obtain ⟨z, -, hz⟩ := List.mem_map.mp h
        rw [← hz]
        exact hR.ge h1⟩ hl _ hheap X'
  exact ⟨t, step t a1', b1⟩
/-- the script: cell number 1000000, at b, below all cells of ours -/
def xScr (xs : Nat → Int32) (N : Nat) : State → Nat → Nat → Prop := fun s B b => va_X b N xs s s.heap ∧ b < s.heap.size ∧ B = s.heap.size
theorem X.sld {xs : Nat → Int32} {N : Nat} {i : Int32} (I : D1 μ pc .iaload 1 pc') (hin : vp_in i N) (kk : X (xScr xs N) μ R κ pc' L (.int (xs i.toNatClampNeg) :: S) h Q) : X (xScr xs N) μ R κ pc L (.int i :: .ref 1000000 :: S) h Q := by
  obtain ⟨hd, rfl⟩ := I
  intro p l e s m args below meth c B b D dA C Z E hκ H locs ls hR hS hl
  obtain ⟨g1, g2, g3⟩ := C.2.2.2.2.2.2.2.2.2.2
  exact va_sld C.1 C.2.1 g1 g2 (by show ¬ B ≤ b; omega) hS hin hd (kk p l e s m args below meth c B b D dA C Z E hκ H locs ls hR hS hl)
theorem X.slen {xs : Nat → Int32} {N : Nat} (I : D1 μ pc .arraylength 1 pc') (kk : X (xScr xs N) μ R κ pc' L (.int (nI N) :: S) h Q) : X (xScr xs N) μ R κ pc L (.ref 1000000 :: S) h Q := by
  obtain ⟨hd, rfl⟩ := I
  intro p l e s m args below meth c B b D dA C Z E hκ H locs ls hR hS hl
  obtain ⟨g1, g2, g3⟩ := C.2.2.2.2.2.2.2.2.2.2
  exact va_slen C.1 C.2.1 g1 g2 (by show ¬ B ≤ b; omega) hS hd (kk p l e s m args below meth c B b D dA C Z E hκ H locs ls hR hS hl)
theorem X.imp {Q1 : Option Value → XH → Prop} (k : X Γ μ R κ pc L S h Q1) (hq : ∀ v h', Q1 v h' → Q v h') : X Γ μ R κ pc L S h Q := by
  intro p l e s m args below meth c B b D dA C Z E hκ H locs ls hR hS hl
  exact k p l e s m args below meth c B b D dA C Z (fun v h' H locs ls pc hv => E v h' H locs ls pc (hq v h' hv)) hκ H locs ls hR hS hl
end XS
/-- a method that reads: the answer r, nothing changed -/
abbrev MetI (μ : MI) (ρ : Nat × Nat × Nat) (av : List Value) (h : XH) (r : Int32) : Prop := MetX μ ρ av h (fun v h' => v = some (.int r) ∧ h' = h)
/-- a method with an answer and a new picture -/
abbrev MetH (μ : MI) (ρ : Nat × Nat × Nat) (av : List Value) (h : XH) (r : Int32) (h2 : XH) : Prop := MetX μ ρ av h (fun v h' => v = some (.int r) ∧ h' = h2)
/-- a void method with a new picture -/
abbrev MetV (μ : MI) (ρ : Nat × Nat × Nat) (av : List Value) (h : XH) (h2 : XH) : Prop := MetX μ ρ av h (fun v h' => v = none ∧ h' = h2)
section XZ
variable {Γ : State → Nat → Nat → Prop} {μ : MI} {R : Room} {κ : Nat × Nat} {pc pc' tgt : Nat} {L L' : List (Option Value)} {S S' : List Value} {h : XH} {Q : Option Value → XH → Prop}
theorem xcap {κ : Nat × Nat} {R : Room} (hκ : κ.1 ≤ R.cells ∧ κ.2 ≤ R.slots) : κ.1 + 0 ≤ R.cells ∧ κ.2 + 0 ≤ R.slots := hκ
theorem X.cap (k : κ.1 ≤ R.cells ∧ κ.2 ≤ R.slots → X Γ μ R κ pc L S h Q) : X Γ μ R κ pc L S h Q := by
  intro p l e s m args below meth c B b D dA C Z E hκ
  exact k hκ p l e s m args below meth c B b D dA C Z E hκ
theorem X.callVi {μ' : MI} {d ci n a : Nat} {fs As : List Value} {S0 : List Value} {r : Int32} {h2 : XH} (I : DInvV μ pc μ' ci n pc') (hM : MetH μ' (d, 0, 0) (.ref a :: As) h r h2) (ha : h a = some (.inr (ci, fs))) (hS : S = As.reverse ++ .ref a :: S0) (hn : As.length = n) (hf : XFit R d) (hcat : (S0.map fun v => v.category).sum ≤ 8) (kk : X Γ μ R κ pc' L (.int r :: S0) h2 Q) : X Γ μ R κ pc L S h Q :=
  X.cap (fun hκ => X.callV I hM ha hS hn hf hcat hκ (fun v h' hq => by obtain ⟨rfl, rfl⟩ := hq; exact kk))
theorem X.callVv {μ' : MI} {d ci n a : Nat} {fs As : List Value} {S0 : List Value} {h2 : XH} (I : DInvV μ pc μ' ci n pc') (hM : MetV μ' (d, 0, 0) (.ref a :: As) h h2) (ha : h a = some (.inr (ci, fs))) (hS : S = As.reverse ++ .ref a :: S0) (hn : As.length = n) (hf : XFit R d) (hcat : (S0.map fun v => v.category).sum ≤ 8) (kk : X Γ μ R κ pc' L S0 h2 Q) : X Γ μ R κ pc L S h Q :=
  X.cap (fun hκ => X.callV I hM ha hS hn hf hcat hκ (fun v h' hq => by obtain ⟨rfl, rfl⟩ := hq; exact kk))
theorem X.callSi {μ' : MI} {d n : Nat} {As : List Value} {S0 : List Value} {r : Int32} {h2 : XH} (I : DInvS μ pc μ' n pc') (hM : MetH μ' (d, 0, 0) As h r h2) (hS : S = As.reverse ++ S0) (hn : As.length = n) (hf : XFit R d) (hcat : (S0.map fun v => v.category).sum ≤ 8) (kk : X Γ μ R κ pc' L (.int r :: S0) h2 Q) : X Γ μ R κ pc L S h Q :=
  X.cap (fun hκ => X.callS I hM hS hn hf hcat hκ (fun v h' hq => by obtain ⟨rfl, rfl⟩ := hq; exact kk))
end XZ
/-- a loop that counts: from behind its last round back to its first -/
theorem xloop {P : Nat → Prop} (n : Nat) (hn : P n) (hs : ∀ k, k < n → P (k + 1) → P k) : ∀ k, k ≤ n → P k := by
  intro k hk
  obtain ⟨j, rfl⟩ : ∃ j, n = k + j := ⟨n - k, by omega⟩
  clear hk
  induction j generalizing k with
  | zero => exact hn
  | succ j ih => exact hs k (by omega) (ih (k + 1) (by rw [show k + 1 + j = k + (j + 1) by omega]; exact hn) (fun i hi => hs i (by omega)))
