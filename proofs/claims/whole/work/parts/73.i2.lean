/-! makings, in one row each -/
section MK
variable {Γ : State → Nat → Nat → Prop} {μ : MI} {R : Room} {κ κ' : Nat × Nat} {pc pc1 pc2 pc3 pc4 : Nat} {L : List (Option Value)} {S : List Value} {h : XH} {Q : Option Value → XH → Prop}
theorem X.kap (e : κ = κ') (k : X Γ μ R κ' pc L S h Q) : X Γ μ R κ pc L S h Q := e ▸ k
theorem mkI {a N ci k : Nat} {fs : List Value} {x : Int32} (Ip : DPut μ pc ci k .int pc1) (hN : XDom h N) (ha : h a = some (.inr (ci, fs))) (hk : k < fs.length) (kk : ∀ g : XH, g a = some (.inr (ci, fs.set k (.int x))) → XDom g N → (∀ i, i ≠ a → g i = h i) → X Γ μ R κ pc1 L S g Q) : X Γ μ R κ pc L (.int x :: .ref a :: S) h Q :=
  X.puti Ip ha hk (kk _ (xup_eq _ _ _) (hN.put ha) (fun i hi => xup_ne _ _ hi))
theorem mkA {a N M ci k : Nat} {fs : List Value} {n : Int32} {ty : FieldType} (Ia : DNewA μ pc .int pc1) (Ip : DPut μ pc1 ci k (.array ty) pc2) (hn : ¬ n < 0) (hM : n.toNatClampNeg = M) (hb : M ≤ 1000) (hN : XDom h N) (hlt : N < 1000000) (ha : h a = some (.inr (ci, fs))) (hk : k < fs.length) (hc : κ.1 + 1 ≤ R.cells ∧ κ.2 + M ≤ R.slots) (kk : ∀ g : XH, g a = some (.inr (ci, fs.set k (.ref N))) → g N = some (IA M (fun _ => 0)) → XDom g (N + 1) → (∀ i, i ≠ a → i ≠ N → g i = h i) → X Γ μ R (κ.1 + 1, κ.2 + M) pc2 L S g Q) : X Γ μ R κ pc L (.int n :: .ref a :: S) h Q := by
  have haN := hN.lt ha
  have e1 : xup h N (IA M (fun _ => 0)) a = some (.inr (ci, fs)) := by rw [xup_ne _ _ (by omega)]; exact ha
  refine X.newi Ia hn hM hb hN hlt hc ?_
  refine X.putr Ip e1 hk (kk _ (xup_eq _ _ _) (by rw [xup_ne _ _ (by omega), xup_eq]) (hN.push.put e1) (fun i h1 h2 => by rw [xup_ne _ _ h1, xup_ne _ _ h2]))
theorem mkL {a N M ci k : Nat} {fs : List Value} {n : Int32} {ty : FieldType} (Ia : DNewA μ pc .long pc1) (Ip : DPut μ pc1 ci k (.array ty) pc2) (hn : ¬ n < 0) (hM : n.toNatClampNeg = M) (hb : M ≤ 1000) (hN : XDom h N) (hlt : N < 1000000) (ha : h a = some (.inr (ci, fs))) (hk : k < fs.length) (hc : κ.1 + 1 ≤ R.cells ∧ κ.2 + M ≤ R.slots) (kk : ∀ g : XH, g a = some (.inr (ci, fs.set k (.ref N))) → g N = some (LA M (fun _ => 0)) → XDom g (N + 1) → (∀ i, i ≠ a → i ≠ N → g i = h i) → X Γ μ R (κ.1 + 1, κ.2 + M) pc2 L S g Q) : X Γ μ R κ pc L (.int n :: .ref a :: S) h Q := by
  have haN := hN.lt ha
  have e1 : xup h N (LA M (fun _ => 0)) a = some (.inr (ci, fs)) := by rw [xup_ne _ _ (by omega)]; exact ha
  refine X.newl Ia hn hM hb hN hlt hc ?_
  refine X.putr Ip e1 hk (kk _ (xup_eq _ _ _) (by rw [xup_ne _ _ (by omega), xup_eq]) (hN.push.put e1) (fun i h1 h2 => by rw [xup_ne _ _ h1, xup_ne _ _ h2]))
theorem mkC {a N ci k : Nat} {fs : List Value} {n : Int32} {ty : FieldType} (Ia : DNewA μ pc .char pc1) (Ip : DPut μ pc1 ci k (.array ty) pc2) (hn : ¬ n < 0) (hM : n.toNatClampNeg = 90) (hN : XDom h N) (hlt : N < 1000000) (ha : h a = some (.inr (ci, fs))) (hk : k < fs.length) (hc : κ.1 + 1 ≤ R.cells ∧ κ.2 + 90 ≤ R.slots) (kk : ∀ g : XH, g a = some (.inr (ci, fs.set k (.ref N))) → g N = some (CA (fun _ => 0)) → XDom g (N + 1) → (∀ i, i ≠ a → i ≠ N → g i = h i) → X Γ μ R (κ.1 + 1, κ.2 + 90) pc2 L S g Q) : X Γ μ R κ pc L (.int n :: .ref a :: S) h Q := by
  have haN := hN.lt ha
  have e1 : xup h N (CA (fun _ => 0)) a = some (.inr (ci, fs)) := by rw [xup_ne _ _ (by omega)]; exact ha
  refine X.newc Ia hn hM (by decide) hN hlt hc ?_
  refine X.putr Ip e1 hk (kk _ (xup_eq _ _ _) (by rw [xup_ne _ _ (by omega), xup_eq]) (hN.push.put e1) (fun i h1 h2 => by rw [xup_ne _ _ h1, xup_ne _ _ h2]))
theorem mkQ {a N M ci k : Nat} {fs : List Value} {n : Int32} {Cn : String} {ty : FieldType} (Ia : DNewQ μ pc Cn pc1) (Ip : DPut μ pc1 ci k (.array ty) pc2) (hn : ¬ n < 0) (hM : n.toNatClampNeg = M) (hb : M ≤ 1000) (hN : XDom h N) (hlt : N < 1000000) (ha : h a = some (.inr (ci, fs))) (hk : k < fs.length) (hc : κ.1 + 1 ≤ R.cells ∧ κ.2 + M ≤ R.slots) (kk : ∀ g : XH, g a = some (.inr (ci, fs.set k (.ref N))) → g N = some (.inl (.object Cn, M, .inr (.inr (.inr (.inr (fun _ => none)))))) → XDom g (N + 1) → (∀ i, i ≠ a → i ≠ N → g i = h i) → X Γ μ R (κ.1 + 1, κ.2 + M) pc2 L S g Q) : X Γ μ R κ pc L (.int n :: .ref a :: S) h Q := by
  have haN := hN.lt ha
  have e1 : xup h N (.inl (.object Cn, M, .inr (.inr (.inr (.inr (fun _ => none)))))) a = some (.inr (ci, fs)) := by rw [xup_ne _ _ (by omega)]; exact ha
  refine X.newq Ia hn hM hb hN hlt hc ?_
  refine X.putr Ip e1 hk (kk _ (xup_eq _ _ _) (by rw [xup_ne _ _ (by omega), xup_eq]) (hN.push.put e1) (fun i h1 h2 => by rw [xup_ne _ _ h1, xup_ne _ _ h2]))
/-- an object is made, its constructor runs, a field keeps it -/
theorem mkO {a N N2 ci ci2 k dd c1 s1 Mx : Nat} {fs bl : List Value} {y' : MethodName} {bc : ByteArray} {Cn : String} {P : XH → Prop} (In : DNew μ pc ci2 bl pc1) (Id : D1 μ pc1 .dup 1 pc2) (Ic : DInvI μ pc2 (y', bc, Mx, none) 0 pc3) (Ip : DPut μ pc3 ci k (.object Cn) pc4) (hN : XDom h N) (hlt : N < 1000000) (ha : h a = some (.inr (ci, fs))) (hk : k < fs.length) (hc : κ.1 + 1 ≤ R.cells ∧ κ.2 + bl.length ≤ R.slots)
    (C : ∀ g : XH, XDom g (N + 1) → g N = some (.inr (ci2, bl)) → MetX (y', bc, Mx, none) (dd, c1, s1) [.ref N] g (fun v g' => v = none ∧ P g' ∧ XDom g' N2 ∧ ∀ i, i < N → g' i = g i)) (hf : XFit R dd) (hcat : ((Value.ref N :: Value.ref a :: S).map fun v => v.category).sum ≤ 8) (hc2 : κ.1 + 1 + c1 ≤ R.cells ∧ κ.2 + bl.length + s1 ≤ R.slots) (Pf : ∀ g g' : XH, P g → (∀ i, i ≠ a → g' i = g i) → P g')
    (kk : ∀ g : XH, g a = some (.inr (ci, fs.set k (.ref N))) → P g → XDom g N2 → (∀ i, i < N → i ≠ a → g i = h i) → X Γ μ R (κ.1 + 1 + c1, κ.2 + bl.length + s1) pc4 L S g Q) : X Γ μ R κ pc L (.ref a :: S) h Q := by
  have haN := hN.lt ha
  refine X.new In hN hlt hc ?_
  refine X.dupa Id ?_
  refine X.callI (S0 := .ref N :: .ref a :: S) Ic (C _ hN.push (xup_eq _ _ _)) rfl rfl hf hcat hc2 ?_
  intro v g hq
  obtain ⟨rfl, p, d, s⟩ := hq
  have e1 : g a = some (.inr (ci, fs)) := by rw [s a haN, xup_ne _ _ (by omega)]; exact ha
  exact X.puta Ip e1 hk (kk _ (xup_eq _ _ _) (Pf _ _ p (fun i hi => xup_ne _ _ hi)) (d.put e1) (fun i h1 h2 => by rw [xup_ne _ _ h2, s i h1, xup_ne _ _ (by omega)]))
end MK
