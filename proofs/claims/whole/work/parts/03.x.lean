/-! ===== X: a walk over a PICTURE of the heap. Cells have numbers 0, 1, 2 .. in the order in which they were made; cell i lies at address B + i (the script, number 1000000, at b).
A method is walked over the picture alone (X, one row an instruction), its contract is MetX; what the kit wants (words, world, frame) is paid once, here. ===== -/
abbrev XC : Type := (FieldType × vp_A) ⊕ (Nat × List Value)
abbrev XH : Type := Nat → Option XC
def xphi (B b i : Nat) : Nat := if i = 1000000 then b else B + i
def xv (B b : Nat) (v : Value) : Value := match v with
  | .ref a => .ref (xphi B b a)
  | w => w
def xa (B b : Nat) (x : vp_A) : vp_A := match x with
  | (n, .inr (.inr (.inr (.inr f)))) => (n, .inr (.inr (.inr (.inr (fun j => (f j).map (xphi B b))))))
  | y => y
def xe (B b : Nat) (dA : FieldType → ClassId) (c : XC) : va_E := match c with
  | .inl (ty, x) => .inl (dA ty, xa B b x)
  | .inr (ci, fs) => .inr (ci, fs.map (xv B b))
def xup (h : XH) (a : Nat) (c : XC) : XH := fun i => if i = a then some c else h i
theorem xup_eq (h : XH) (a : Nat) (c : XC) : xup h a c a = some c := if_pos rfl
theorem xup_ne (h : XH) {a i : Nat} (c : XC) (hi : i ≠ a) : xup h a c i = h i := if_neg hi
theorem xv_cat (B b : Nat) (v : Value) : (xv B b v).category = v.category := by cases v <;> rfl
def XDom (h : XH) (N : Nat) : Prop := ∀ i, (h i).isSome = true ↔ i < N
def XRel (B b : Nat) (D : va_G) (dA : FieldType → ClassId) (h : XH) (H : Heap) : Prop :=
  ∃ N, N ≤ 1000000 ∧ XDom h N ∧ H.size = B + N ∧ ∀ i c, h i = some c → va_at D vwCl (B + i, xe B b dA c) H
theorem XDom.lt {h : XH} {N i : Nat} {c : XC} (hd : XDom h N) (hi : h i = some c) : i < N := (hd i).mp (by rw [hi]; rfl)
theorem XDom.uniq {h : XH} {N M : Nat} (h1 : XDom h N) (h2 : XDom h M) : N = M := by
  have a : ∀ i, i < N ↔ i < M := fun i => (h1 i).symm.trans (h2 i)
  have b1 := a N
  have b2 := a M
  omega
theorem XDom.put {h : XH} {N a : Nat} {c0 c : XC} (hd : XDom h N) (ha : h a = some c0) : XDom (xup h a c) N := by
  intro i
  by_cases hi : i = a
  · subst hi
    rw [xup_eq]
    exact ⟨fun _ => hd.lt ha, fun _ => rfl⟩
  · rw [xup_ne _ _ hi]
    exact hd i
theorem XDom.push {h : XH} {N : Nat} {c : XC} (hd : XDom h N) : XDom (xup h N c) (N + 1) := by
  intro i
  by_cases hi : i = N
  · subst hi
    rw [xup_eq]
    exact ⟨fun _ => Nat.lt_succ_self _, fun _ => rfl⟩
  · rw [xup_ne _ _ hi, hd i]
    omega
theorem xphi_lt {B b i : Nat} (h : i < 1000000) : xphi B b i = B + i := if_neg (by omega)
theorem XRel.phi {B b : Nat} {D : va_G} {dA : FieldType → ClassId} {h : XH} {H : Heap} (hR : XRel B b D dA h H) {i : Nat} {c : XC} (hi : h i = some c) : xphi B b i = B + i := by
  obtain ⟨N, h1, h2, -, -⟩ := hR
  exact xphi_lt (Nat.lt_of_lt_of_le (h2.lt hi) h1)
theorem XRel.at {B b : Nat} {D : va_G} {dA : FieldType → ClassId} {h : XH} {H : Heap} (hR : XRel B b D dA h H) {i : Nat} {c : XC} (hi : h i = some c) : va_at D vwCl (xphi B b i, xe B b dA c) H := by
  rw [hR.phi hi]
  obtain ⟨N, -, -, -, h4⟩ := hR
  exact h4 i c hi
theorem XRel.put {B b : Nat} {D : va_G} {dA : FieldType → ClassId} {h : XH} {H H1 : Heap} (hR : XRel B b D dA h H) {a : Nat} {c0 c : XC} (ha : h a = some c0) (z : H1.size = H.size) (he : va_at D vwCl (xphi B b a, xe B b dA c) H1) (oq : ∀ q : Nat, q ≠ xphi B b a → H1[q]? = H[q]?) : XRel B b D dA (xup h a c) H1 := by
  rw [hR.phi ha] at he oq
  obtain ⟨N, h1, h2, h3, h4⟩ := hR
  refine ⟨N, h1, h2.put ha, z.trans h3, fun i x hx => ?_⟩
  by_cases hi : i = a
  · subst hi
    rw [xup_eq] at hx
    cases hx
    exact he
  · rw [xup_ne _ _ hi] at hx
    exact (h4 i x hx).kept (oq (B + i) (by omega))
theorem XRel.push {B b : Nat} {D : va_G} {dA : FieldType → ClassId} {h : XH} {H H1 : Heap} {N : Nat} (hR : XRel B b D dA h H) (hN : XDom h N) (hlt : N < 1000000) {c : XC} (z : H1.size = H.size + 1) (he : va_at D vwCl (H.size, xe B b dA c) H1) (oq : ∀ q : Nat, q < H.size → H1[q]? = H[q]?) : XRel B b D dA (xup h N c) H1 ∧ H.size = xphi B b N := by
  obtain ⟨M, h1, h2, h3, h4⟩ := hR
  have e : M = N := h2.uniq hN
  subst e
  refine ⟨⟨M + 1, hlt, h2.push, by omega, fun i x hx => ?_⟩, by rw [xphi_lt hlt]; exact h3⟩
  by_cases hi : i = M
  · subst hi
    rw [xup_eq] at hx
    cases hx
    rw [← h3]
    exact he
  · rw [xup_ne _ _ hi] at hx
    have := h2.lt hx
    exact (h4 i x hx).kept (oq (B + i) (by omega))
def xtys (dA : FieldType → ClassId) : List (ClassId × FieldType) := [(dA .int, .int), (dA .long, .long), (dA .char, .char), (dA (.object RX2), .object RX2), (dA (.object RX4), .object RX4)]
def XWorld (D : va_G) (dA : FieldType → ClassId) (U : State) : Prop := va_K D vwCl (xtys dA) U ∧ (∀ q ∈ nestL, va_Nw (.methodLinkNest q.1 q.2.1 q.2.2.1 q.2.2.2) U) ∧ va_AO RX2 U ∧ va_AO RX4 U
theorem XWorld.warm {D : va_G} {dA : FieldType → ClassId} {s U : State} (hW : s.WarmedH U.vm) (h : XWorld D dA s) : XWorld D dA U :=
  ⟨va_K.moved hW.alike h.1, fun q hq => va_Nw.warmM hW (h.2.1 q hq), h.2.2.1.moved hW.alike, h.2.2.2.moved hW.alike⟩
theorem XWorld.same {D : va_G} {dA : FieldType → ClassId} {s U : State} (e : s.vm = U.vm) (h : XWorld D dA s) : XWorld D dA U :=
  ⟨va_K.moved (by rw [e]; exact Vm.Alike.refl _) h.1, fun q hq => va_Nw.same rfl e (h.2.1 q hq), h.2.2.1.moved (by rw [e]; exact Vm.Alike.refl _), h.2.2.2.moved (by rw [e]; exact Vm.Alike.refl _)⟩
/-- the locals -/
def xlv (B b nL : Nat) (L : List (Option Value)) (ls : Array Slot) : Prop := ls.size = nL ∧ lv_wf ls ∧ ∀ (i : Nat) (v : Value), L[i]? = some (some v) → ls[i]? = some (.val (xv B b v))
def xsl (v : Value) : List (Option Value) := if v.category = 2 then [some v, none] else [some v]
def xargs (av : List Value) : List (Option Value) := av.flatMap xsl
def xlocs (n : Nat) (av : List Value) : List (Option Value) := xargs av ++ List.replicate (n - (xargs av).length) none
theorem xargs_in (B b : Nat) : ∀ (av : List Value) (k i : Nat) (v : Value), (xargs av)[i]? = some (some v) → (k + i, xv B b v) ∈ lv_args k (av.map (xv B b))
  | [], k, i, v, h => by simp [xargs] at h
  | w :: av, k, i, v, h => by
    have e : xargs (w :: av) = xsl w ++ xargs av := by simp [xargs]
    rw [e] at h
    rw [List.map_cons]
    by_cases hc : w.category = 2
    · have hs : xsl w = [some w, none] := by simp [xsl, hc]
      rw [hs] at h
      simp only [lv_args, xv_cat, hc, if_true]
      match i, h with
      | 0, h =>
        simp at h
        subst h
        exact List.mem_cons_self
      | 1, h => simp at h
      | i + 2, h =>
        have h2 : (xargs av)[i]? = some (some v) := by simpa using h
        have := xargs_in B b av (k + 2) i v h2
        rw [show k + (i + 2) = k + 2 + i by omega]
        exact List.mem_cons_of_mem _ this
    · have hs : xsl w = [some w] := by simp [xsl, hc]
      rw [hs] at h
      simp only [lv_args, xv_cat, hc, if_false]
      match i, h with
      | 0, h =>
        simp at h
        subst h
        exact List.mem_cons_self
      | i + 1, h =>
        have h2 : (xargs av)[i]? = some (some v) := by simpa using h
        have := xargs_in B b av (k + 1) i v h2
        rw [show k + (i + 1) = k + 1 + i by omega]
        exact List.mem_cons_of_mem _ this
theorem xlocs_in (B b n : Nat) (av : List Value) (i : Nat) (v : Value) (h : (xlocs n av)[i]? = some (some v)) : (i, xv B b v) ∈ lv_args 0 (av.map (xv B b)) := by
  unfold xlocs at h
  by_cases hi : i < (xargs av).length
  · rw [List.getElem?_append_left hi] at h
    have := xargs_in B b av 0 i v h
    rwa [Nat.zero_add] at this
  · rw [List.getElem?_append_right (by omega)] at h
    have := List.eq_of_mem_replicate (List.mem_of_getElem? h)
    cases this
theorem xsl_len (B b : Nat) (av : List Value) : (lg_sl (av.map (xv B b))).length = (xargs av).length := by
  induction av with
  | nil => rfl
  | cons v av ih =>
    have e : xargs (v :: av) = xsl v ++ xargs av := by simp [xargs]
    rw [e, List.length_append, ← ih]
    simp only [lg_sl, List.map_cons, List.flatMap_cons, List.length_append]
    congr 1
    cases v <;> rfl
/-- what holds all through a method's body -/
def XCtx (Γ : State → Nat → Nat → Prop) (μ : MI) (p : Program) (s : State) (m : MethodId) (args : Array Value) (meth : Method) (c : Code) (B b : Nat) (D : va_G) (dA : FieldType → ClassId) : Prop :=
  p.tables.exec = Jvm.exec ∧ c.code = μ.2.1 ∧ c.maxLocals = μ.2.2.1 ∧ meth.sig.returnType = μ.2.2.2 ∧ meth.locks = false ∧ s.vm.findClass μ.1.cls = some m.cls ∧ (∀ w ∈ bigW, w.before args s = true) ∧ XWorld D dA s ∧ B ≤ s.heap.size ∧ meth.name = μ.1.name ∧ Γ s B b
def xT : State → Nat → Nat → Prop := fun _ _ _ => True
/-- a return instruction at pc, with this answer -/
def XRet (μ : MI) (pc : Nat) (v : Option Value) : Prop := (v = none ∧ μ.2.2.2 = none ∧ decode μ.2.1 pc = .ok (.return_, 1)) ∨ ∃ (x : Int32) (ty : FieldType), v = some (.int x) ∧ μ.2.2.2 = some ty ∧ narrow ty (.int x) = .int x ∧ decode μ.2.1 pc = .ok (.ireturn, 1)
/-- from the picture h, at pc, with locals L and operand stack S, the method comes to its end with Q -/
def X (Γ : State → Nat → Nat → Prop) (μ : MI) (R : Room) (κ : Nat × Nat) (pc : Nat) (L : List (Option Value)) (S : List Value) (h : XH) (Q : Option Value → XH → Prop) : Prop :=
  ∀ (p : Program) (l : Launch) (e : Env) (s : State) (m : MethodId) (args : Array Value) (below : List Frame) (meth : Method) (c : Code) (B b : Nat) (D : va_G) (dA : FieldType → ClassId), XCtx Γ μ p s m args meth c B b D dA →
  ∀ (Z : State → Prop), (∀ (v : Option Value) (h' : XH) (H : Heap) (locs : List Loc) (ls : Array Slot) (pc : Nat), Q v h' → XRel B b D dA h' H → va_S (fun q => B ≤ q) s.heap H locs → XRet μ pc v → W p l e R s m args below meth c H locs R.cells R.slots Z (F0 m pc ls ((v.toList).map (xv B b)))) →
  κ.1 ≤ R.cells ∧ κ.2 ≤ R.slots →
  ∀ (H : Heap) (locs : List Loc) (ls : Array Slot), XRel B b D dA h H → va_S (fun q => B ≤ q) s.heap H locs → xlv B b μ.2.2.1 L ls → W p l e R s m args below meth c H locs κ.1 κ.2 Z (F0 m pc ls (S.map (xv B b)))
def xR (ρ : Nat × Nat × Nat) : Room := { frames := ρ.1, cells := ρ.2.1, slots := ρ.2.2, locals := 39 * ρ.1 }
def xws (μ : MI) : List Cond := .code μ.1 μ.2.1 μ.2.2.1 μ.2.2.2 :: bigW
def XPre (B b : Nat) (D : va_G) (dA : FieldType → ClassId) (av : List Value) (h : XH) : Array Value → State → Prop := fun v U => v = (av.map (xv B b)).toArray ∧ B ≤ U.heap.size ∧ XRel B b D dA h U.heap ∧ XWorld D dA U
def XPost (B b : Nat) (D : va_G) (dA : FieldType → ClassId) (Q : Option Value → XH → Prop) : Array Value → State → Outcome → State → Prop := fun _ st o t => (∃ (v : Option Value) (h' : XH), o = .returned (v.map (xv B b)) ∧ Q v h' ∧ XRel B b D dA h' t.heap) ∧ va_F (fun q => B ≤ q) st t
/-- the contract: from the picture h, with the arguments av, the method returns with Q -/
def MetX (μ : MI) (ρ : Nat × Nat × Nat) (av : List Value) (h : XH) (Q : Option Value → XH → Prop) : Prop :=
  ∀ (l : Launch) (B b : Nat) (D : va_G) (dA : FieldType → ClassId), Met l μ.1 (xws μ) (xR ρ) (XPre B b D dA av h) (XPost B b D dA Q) ρ.2.1 ρ.2.2 (fun q => B ≤ q)
theorem XPre.blind {B b : Nat} {D : va_G} {dA : FieldType → ClassId} {av : List Value} {h : XH} : FrameBlind (XPre B b D dA av h) := by
  intro a U g mk q
  obtain ⟨q1, q2, q3, q4⟩ := q
  exact ⟨q1, q2, q3, q4.same rfl⟩
set_option maxHeartbeats 1000000 in
theorem MetX.of {μ : MI} {ρ : Nat × Nat × Nat} {av : List Value} {h : XH} {Q : Option Value → XH → Prop} {L : List (Option Value)} (hp : plainName μ.1.cls = true) (hl : xlocs μ.2.2.1 av = L) (hn : (xargs av).length ≤ μ.2.2.1) (k : X xT μ (xR ρ) (0, 0) 0 L [] h Q) : MetX μ ρ av h Q := by
  intro l B b D dA
  refine Met.ofW (cc := μ.2.1) (maxL := μ.2.2.1) (ret := μ.2.2.2) hp rfl ?_
  intro p e s m args below meth c s₁ Bd hml hv
  obtain ⟨rfl, hB, hR, hw⟩ := hv
  have hts := atoms_spec (ws := xws μ) Bd.pre
  have hown : s.vm.findClass μ.1.cls = some m.cls := findClass_of_methodNamed Bd.named
  have hlocks := Bd.notSynchronized
  have hret : meth.sig.returnType = μ.2.2.2 := Bd.returns
  have hlv := lv_entry (av.map (xv B b)) (n := μ.2.2.1) (by rw [xsl_len]; exact hn)
  rw [lg_entry_eq]
  generalize (lg_sl (av.map (xv B b)) ++ List.replicate (μ.2.2.1 - (lg_sl (av.map (xv B b))).length) Slot.unset).toArray = ls at hlv ⊢
  refine k p l e s m (av.map (xv B b)).toArray below meth c B b D dA ⟨Bd.exec, Bd.bytes, hml, hret, hlocks, hown, fun w hw => hts w (List.mem_cons_of_mem _ hw), hw, hB, (name_of_methodNamed Bd.named Bd.method).1, trivial⟩ _ ?_ ⟨Nat.zero_le _, Nat.zero_le _⟩ s.heap [] ls hR va_S.rf ?_
  · intro v h' H locs ls' pc hq hR' hS hret'
    rcases hret' with ⟨rfl, h1, h2⟩ | ⟨x, ty, rfl, h1, h2, h3⟩
    · exact W.vret (Qc := XPost B b D dA Q) (free := fun q => B ≤ q) Bd.exec Bd.bytes (hret.trans h1) (fun t ht hW => ⟨⟨none, h', rfl, hq, by rw [ht]; exact hR'⟩, hS.F ht⟩) hS.2.2 h2 hlocks
    · exact W.zret (Qc := XPost B b D dA Q) (free := fun q => B ≤ q) Bd.exec Bd.bytes (hret.trans h1) h2 (fun t ht hW => ⟨⟨some (.int x), h', rfl, hq, by rw [ht]; exact hR'⟩, hS.F ht⟩) hS.2.2 h3 hlocks
  · refine ⟨hlv.1, hlv.2.1, fun i v hv => ?_⟩
    exact hlv.2.2 (i, xv B b v) (xlocs_in B b μ.2.2.1 av i v (by rw [hl]; exact hv))
/-! the instructions of a frame alone -/
abbrev D1 (μ : MI) (pc : Nat) (i : Instr) (n pc' : Nat) : Prop := decode μ.2.1 pc = .ok (i, n) ∧ pc + n = pc'
section XI
variable {Γ : State → Nat → Nat → Prop} {μ : MI} {R : Room} {κ : Nat × Nat} {pc pc' tgt : Nat} {L L' : List (Option Value)} {S S' : List Value} {h : XH} {Q : Option Value → XH → Prop}
theorem X.frame (st : ∀ {p : Program} {l : Launch} {e : Env} {s : State} {m : MethodId} {args : Array Value} {below : List Frame} {meth : Method} {c : Code} {H : Heap} {locs : List Loc} {cells slots : Nat} {Z : State → Prop} {B b : Nat} {ls : Array Slot} {D : va_G} {dA : FieldType → ClassId}, XCtx Γ μ p s m args meth c B b D dA → xlv B b μ.2.2.1 L ls → (∀ ls' : Array Slot, xlv B b μ.2.2.1 L' ls' → W p l e R s m args below meth c H locs cells slots Z (F0 m pc' ls' (S'.map (xv B b)))) → W p l e R s m args below meth c H locs cells slots Z (F0 m pc ls (S.map (xv B b)))) (k : X Γ μ R κ pc' L' S' h Q) : X Γ μ R κ pc L S h Q := by
  intro p l e s m args below meth c B b D dA C Z E hκ H locs ls hR hS hl
  exact st C hl (fun ls' hl' => k p l e s m args below meth c B b D dA C Z E hκ H locs ls' hR hS hl')
def DPushI (μ : MI) (pc : Nat) (v : Int32) (pc' : Nat) : Prop := (∃ n : Int, decode μ.2.1 pc = .ok (.iconst n, 1) ∧ Int32.ofInt n = v ∧ pc + 1 = pc') ∨ (∃ n : Int, decode μ.2.1 pc = .ok (.bipush n, 2) ∧ (Int8.ofInt n).toInt32 = v ∧ pc + 2 = pc') ∨ (∃ n : Int, decode μ.2.1 pc = .ok (.sipush n, 3) ∧ (Int16.ofInt n).toInt32 = v ∧ pc + 3 = pc') ∨ (∃ n : Nat, decode μ.2.1 pc = .ok (.ldc n, 2) ∧ Cond.constant μ.1.cls n v ∈ bigW ∧ pc + 2 = pc') ∨ (∃ n : Nat, decode μ.2.1 pc = .ok (.ldc_w n, 3) ∧ Cond.constant μ.1.cls n v ∈ bigW ∧ pc + 3 = pc')
theorem X.pushi {v : Int32} (I : DPushI μ pc v pc') (k : X Γ μ R κ pc' L (.int v :: S) h Q) : X Γ μ R κ pc L S h Q := by
  refine X.frame (fun {p l e s m args below meth c H locs cells slots Z B b ls D dA} C hl kk => ?_) k
  rcases I with ⟨n, h1, h2, rfl⟩ | ⟨n, h1, h2, rfl⟩ | ⟨n, h1, h2, rfl⟩ | ⟨n, h1, h2, rfl⟩ | ⟨n, h1, h2, rfl⟩
  · exact lv_iconst C.1 C.2.1 h1 h2 (kk ls hl)
  · exact lv_bipush C.1 C.2.1 h1 h2 (kk ls hl)
  · exact lv_sipush C.1 C.2.1 h1 h2 (kk ls hl)
  · exact lv_ldc C.1 C.2.1 C.2.2.2.2.2.1 (C.2.2.2.2.2.2.1 _ h2) h1 (kk ls hl)
  · exact lv_ldcw C.1 C.2.1 C.2.2.2.2.2.1 (C.2.2.2.2.2.2.1 _ h2) h1 (kk ls hl)
def DPushL (μ : MI) (pc : Nat) (v : Int64) (pc' : Nat) : Prop := (∃ n : Fin 2, decode μ.2.1 pc = .ok (.lconst n, 1) ∧ Int64.ofNat (n : Nat) = v ∧ pc + 1 = pc') ∨ (∃ n : Nat, decode μ.2.1 pc = .ok (.ldc2_w n, 3) ∧ Cond.constantLong μ.1.cls n v ∈ bigW ∧ pc + 3 = pc')
theorem X.pushl {v : Int64} (I : DPushL μ pc v pc') (k : X Γ μ R κ pc' L (.long v :: S) h Q) : X Γ μ R κ pc L S h Q := by
  refine X.frame (fun {p l e s m args below meth c H locs cells slots Z B b ls D dA} C hl kk => ?_) k
  rcases I with ⟨n, h1, h2, rfl⟩ | ⟨n, h1, h2, rfl⟩
  · exact lv_lconst C.1 C.2.1 h1 h2 (kk ls hl)
  · exact lv_ldc2 C.1 C.2.1 C.2.2.2.2.2.1 (C.2.2.2.2.2.2.1 _ h2) h1 (kk ls hl)
def DLdI (μ : MI) (pc i pc' : Nat) : Prop := (∃ k : Fin 4, decode μ.2.1 pc = .ok (.iload_n k, 1) ∧ (k : Nat) = i ∧ pc + 1 = pc') ∨ (decode μ.2.1 pc = .ok (.iload i, 2) ∧ pc + 2 = pc')
theorem X.iload {i : Nat} {x : Int32} (I : DLdI μ pc i pc') (hi : L[i]? = some (some (.int x))) (k : X Γ μ R κ pc' L (.int x :: S) h Q) : X Γ μ R κ pc L S h Q := by
  refine X.frame (fun {p l e s m args below meth c H locs cells slots Z B b ls D dA} C hl kk => ?_) k
  rcases I with ⟨n, h1, h2, rfl⟩ | ⟨h1, rfl⟩
  · exact lv_iload_n C.1 C.2.1 h1 h2 (hl.2.2 i _ hi) (kk ls hl)
  · exact lv_iload C.1 C.2.1 h1 (hl.2.2 i _ hi) (kk ls hl)
def DLdL (μ : MI) (pc i pc' : Nat) : Prop := (∃ k : Fin 4, decode μ.2.1 pc = .ok (.lload_n k, 1) ∧ (k : Nat) = i ∧ pc + 1 = pc') ∨ (decode μ.2.1 pc = .ok (.lload i, 2) ∧ pc + 2 = pc')
theorem X.lload {i : Nat} {x : Int64} (I : DLdL μ pc i pc') (hi : L[i]? = some (some (.long x))) (k : X Γ μ R κ pc' L (.long x :: S) h Q) : X Γ μ R κ pc L S h Q := by
  refine X.frame (fun {p l e s m args below meth c H locs cells slots Z B b ls D dA} C hl kk => ?_) k
  rcases I with ⟨n, h1, h2, rfl⟩ | ⟨h1, rfl⟩
  · exact lv_lload_n C.1 C.2.1 h1 h2 (hl.2.2 i _ hi) (kk ls hl)
  · exact lv_lload C.1 C.2.1 h1 (hl.2.2 i _ hi) (kk ls hl)
def DLdA (μ : MI) (pc i pc' : Nat) : Prop := (∃ k : Fin 4, decode μ.2.1 pc = .ok (.aload_n k, 1) ∧ (k : Nat) = i ∧ pc + 1 = pc') ∨ (decode μ.2.1 pc = .ok (.aload i, 2) ∧ pc + 2 = pc')
theorem X.aload {i a : Nat} (I : DLdA μ pc i pc') (hi : L[i]? = some (some (.ref a))) (k : X Γ μ R κ pc' L (.ref a :: S) h Q) : X Γ μ R κ pc L S h Q := by
  refine X.frame (fun {p l e s m args below meth c H locs cells slots Z B b ls D dA} C hl kk => ?_) k
  rcases I with ⟨n, h1, h2, rfl⟩ | ⟨h1, rfl⟩
  · exact lv_aload_n C.1 C.2.1 h1 h2 (hl.2.2 i _ hi) (kk ls hl)
  · exact lv_aload C.1 C.2.1 h1 (hl.2.2 i _ hi) (kk ls hl)
/-- a store into i leaves what L says, if no long stands right before it -/
def xok (L : List (Option Value)) (i : Nat) : Bool := match i with
  | 0 => true
  | j + 1 => match L[j]? with
    | some (some v) => v.category == 1
    | _ => true
def xlist (B b : Nat) (L : List (Option Value)) : List (Nat × Value) := L.zipIdx.filterMap (fun q => q.1.map (fun v => (q.2, xv B b v)))
theorem xlist_in {B b : Nat} {L : List (Option Value)} {i : Nat} {v : Value} (hv : L[i]? = some (some v)) : (i, xv B b v) ∈ xlist B b L := by
  refine List.mem_filterMap.mpr ⟨(some v, i), ?_, rfl⟩
  exact List.mem_zipIdx_iff_getElem?.mpr hv
theorem xlist_of {B b : Nat} {L : List (Option Value)} {q : Nat × Value} (hq : q ∈ xlist B b L) : ∃ v, L[q.1]? = some (some v) ∧ q.2 = xv B b v := by
  obtain ⟨⟨o, i⟩, h1, h2⟩ := List.mem_filterMap.mp hq
  have h3 := List.mem_zipIdx_iff_getElem?.mp h1
  cases o with
  | none => cases h2
  | some v =>
    cases h2
    exact ⟨v, h3, rfl⟩
theorem xlv_has {B b nL : Nat} {L : List (Option Value)} {ls : Array Slot} (hl : xlv B b nL L ls) : lv_has ls nL (xlist B b L) :=
  ⟨hl.1, hl.2.1, fun q hq => by
    obtain ⟨v, h1, h2⟩ := xlist_of hq
    rw [hl.2.2 q.1 v h1, h2]⟩
theorem xlv_store {B b nL : Nat} {L : List (Option Value)} {ls' : Array Slot} {i : Nat} {v : Value} (hk : xok L i = true) (h' : lv_has ls' nL ((i, xv B b v) :: (xlist B b L).filter (fun q => !(q.1 == i) && !(q.1 + 1 == i && q.2.category == 2)))) : xlv B b nL (L.set i (some v)) ls' := by
  refine ⟨h'.1, h'.2.1, fun j w hw => ?_⟩
  by_cases hj : j = i
  · subst hj
    have hlt : j < (L.set j (some v)).length := (List.getElem?_eq_some_iff.mp hw).1
    rw [List.length_set] at hlt
    rw [List.getElem?_set_self hlt] at hw
    cases hw
    exact h'.2.2 (j, xv B b v) List.mem_cons_self
  · rw [List.getElem?_set_ne (fun e => hj e.symm)] at hw
    refine h'.2.2 (j, xv B b w) (List.mem_cons_of_mem _ (List.mem_filter.mpr ⟨xlist_in hw, ?_⟩))
    have h1 : (j == i) = false := by simpa using hj
    simp only [h1, Bool.not_false, Bool.true_and, xv_cat]
    by_cases hj1 : j + 1 = i
    · subst hj1
      simp only [xok, hw] at hk
      have : w.category = 1 := by simpa using hk
      simp [this]
    · have : (j + 1 == i) = false := by simpa using hj1
      simp [this]
def DStI (μ : MI) (pc i pc' : Nat) : Prop := i < μ.2.2.1 ∧ ((∃ k : Fin 4, decode μ.2.1 pc = .ok (.istore_n k, 1) ∧ (k : Nat) = i ∧ pc + 1 = pc') ∨ (decode μ.2.1 pc = .ok (.istore i, 2) ∧ pc + 2 = pc'))
theorem X.istore {i : Nat} {x : Int32} (I : DStI μ pc i pc') (hk : xok L i = true) (hL : L.set i (some (.int x)) = L') (k : X Γ μ R κ pc' L' S h Q) : X Γ μ R κ pc L (.int x :: S) h Q := by
  subst hL
  refine X.frame (fun {p l e s m args below meth c H locs cells slots Z B b ls D dA} C hl kk => ?_) k
  obtain ⟨hi, ⟨n, h1, h2, rfl⟩ | ⟨h1, rfl⟩⟩ := I
  · exact lv_istore_n C.1 C.2.1 h1 h2 (xlv_has hl) hi rfl (fun ls' h' => kk ls' (xlv_store (v := .int x) hk h'))
  · exact lv_istore C.1 C.2.1 h1 (xlv_has hl) hi rfl (fun ls' h' => kk ls' (xlv_store (v := .int x) hk h'))
def DStA (μ : MI) (pc i pc' : Nat) : Prop := i < μ.2.2.1 ∧ ((∃ k : Fin 4, decode μ.2.1 pc = .ok (.astore_n k, 1) ∧ (k : Nat) = i ∧ pc + 1 = pc') ∨ (decode μ.2.1 pc = .ok (.astore i, 2) ∧ pc + 2 = pc'))
theorem X.astore {i a : Nat} (I : DStA μ pc i pc') (hk : xok L i = true) (hL : L.set i (some (.ref a)) = L') (k : X Γ μ R κ pc' L' S h Q) : X Γ μ R κ pc L (.ref a :: S) h Q := by
  subst hL
  refine X.frame (fun {p l e s m args below meth c H locs cells slots Z B b ls D dA} C hl kk => ?_) k
  obtain ⟨hi, ⟨n, h1, h2, rfl⟩ | ⟨h1, rfl⟩⟩ := I
  · exact lv_astore_n C.1 C.2.1 h1 h2 (xlv_has hl) hi rfl (fun ls' h' => kk ls' (xlv_store (v := .ref a) hk h'))
  · exact lv_astore C.1 C.2.1 h1 (xlv_has hl) hi rfl (fun ls' h' => kk ls' (xlv_store (v := .ref a) hk h'))
def DInc (μ : MI) (pc i : Nat) (v : Int32) (pc' : Nat) : Prop := i < μ.2.2.1 ∧ ∃ n : Int, decode μ.2.1 pc = .ok (.iinc i n, 3) ∧ Int32.ofInt n = v ∧ pc + 3 = pc'
theorem X.iinc {i : Nat} {x v : Int32} (I : DInc μ pc i v pc') (hi : L[i]? = some (some (.int x))) (hk : xok L i = true) (hL : L.set i (some (.int (x + v))) = L') (k : X Γ μ R κ pc' L' S h Q) : X Γ μ R κ pc L S h Q := by
  subst hL
  refine X.frame (fun {p l e s m args below meth c H locs cells slots Z B b ls D dA} C hl kk => ?_) k
  obtain ⟨hn, n, h1, rfl, rfl⟩ := I
  obtain ⟨j, hj⟩ := List.getElem?_of_mem (xlist_in (B := B) (b := b) hi)
  exact lv_iinc C.1 C.2.1 h1 (xlv_has hl) hj rfl hn rfl (fun ls' h' => kk ls' (xlv_store (v := .int (x + Int32.ofInt n)) hk h'))
theorem X.iadd {x y : Int32} (I : D1 μ pc .iadd 1 pc') (k : X Γ μ R κ pc' L (.int (x + y) :: S) h Q) : X Γ μ R κ pc L (.int y :: .int x :: S) h Q := by
  obtain ⟨hd, rfl⟩ := I
  exact X.frame (fun C hl kk => lv_iadd C.1 C.2.1 hd (kk _ hl)) k
theorem X.isub {x y : Int32} (I : D1 μ pc .isub 1 pc') (k : X Γ μ R κ pc' L (.int (x - y) :: S) h Q) : X Γ μ R κ pc L (.int y :: .int x :: S) h Q := by
  obtain ⟨hd, rfl⟩ := I
  exact X.frame (fun C hl kk => lv_isub C.1 C.2.1 hd (kk _ hl)) k
theorem X.imul {x y : Int32} (I : D1 μ pc .imul 1 pc') (k : X Γ μ R κ pc' L (.int (x * y) :: S) h Q) : X Γ μ R κ pc L (.int y :: .int x :: S) h Q := by
  obtain ⟨hd, rfl⟩ := I
  exact X.frame (fun C hl kk => lv_imul C.1 C.2.1 hd (kk _ hl)) k
theorem X.iand {x y : Int32} (I : D1 μ pc .iand 1 pc') (k : X Γ μ R κ pc' L (.int (x &&& y) :: S) h Q) : X Γ μ R κ pc L (.int y :: .int x :: S) h Q := by
  obtain ⟨hd, rfl⟩ := I
  exact X.frame (fun C hl kk => lv_iand C.1 C.2.1 hd (kk _ hl)) k
theorem X.ior {x y : Int32} (I : D1 μ pc .ior 1 pc') (k : X Γ μ R κ pc' L (.int (x ||| y) :: S) h Q) : X Γ μ R κ pc L (.int y :: .int x :: S) h Q := by
  obtain ⟨hd, rfl⟩ := I
  exact X.frame (fun C hl kk => lv_ior C.1 C.2.1 hd (kk _ hl)) k
theorem X.ixor {x y : Int32} (I : D1 μ pc .ixor 1 pc') (k : X Γ μ R κ pc' L (.int (x ^^^ y) :: S) h Q) : X Γ μ R κ pc L (.int y :: .int x :: S) h Q := by
  obtain ⟨hd, rfl⟩ := I
  exact X.frame (fun C hl kk => lv_ixor C.1 C.2.1 hd (kk _ hl)) k
theorem X.ishl {x y : Int32} (I : D1 μ pc .ishl 1 pc') (k : X Γ μ R κ pc' L (.int (x <<< (y &&& 31)) :: S) h Q) : X Γ μ R κ pc L (.int y :: .int x :: S) h Q := by
  obtain ⟨hd, rfl⟩ := I
  exact X.frame (fun C hl kk => lv_ishl C.1 C.2.1 hd (kk _ hl)) k
theorem X.ishr {x y : Int32} (I : D1 μ pc .ishr 1 pc') (k : X Γ μ R κ pc' L (.int (x >>> (y &&& 31)) :: S) h Q) : X Γ μ R κ pc L (.int y :: .int x :: S) h Q := by
  obtain ⟨hd, rfl⟩ := I
  exact X.frame (fun C hl kk => lv_ishr C.1 C.2.1 hd (kk _ hl)) k
theorem X.iushr {x y : Int32} (I : D1 μ pc .iushr 1 pc') (k : X Γ μ R κ pc' L (.int (x.toUInt32 >>> (y.toUInt32 &&& Int32.toUInt32 31)).toInt32 :: S) h Q) : X Γ μ R κ pc L (.int y :: .int x :: S) h Q := by
  obtain ⟨hd, rfl⟩ := I
  exact X.frame (fun C hl kk => lv_iushr C.1 C.2.1 hd rfl (kk _ hl)) k
theorem X.idiv {x y : Int32} (I : D1 μ pc .idiv 1 pc') (hy : ¬ y = 0) (k : X Γ μ R κ pc' L (.int (x / y) :: S) h Q) : X Γ μ R κ pc L (.int y :: .int x :: S) h Q := by
  obtain ⟨hd, rfl⟩ := I
  exact X.frame (fun C hl kk => lv_idiv C.1 C.2.1 hd hy (kk _ hl)) k
theorem X.irem {x y : Int32} (I : D1 μ pc .irem 1 pc') (hy : ¬ y = 0) (k : X Γ μ R κ pc' L (.int (x - x / y * y) :: S) h Q) : X Γ μ R κ pc L (.int y :: .int x :: S) h Q := by
  obtain ⟨hd, rfl⟩ := I
  exact X.frame (fun C hl kk => lv_irem C.1 C.2.1 hd hy (kk _ hl)) k
theorem X.i2l {x : Int32} (I : D1 μ pc .i2l 1 pc') (k : X Γ μ R κ pc' L (.long x.toInt64 :: S) h Q) : X Γ μ R κ pc L (.int x :: S) h Q := by
  obtain ⟨hd, rfl⟩ := I
  exact X.frame (fun C hl kk => lv_i2l C.1 C.2.1 hd rfl (kk _ hl)) k
theorem X.l2i {x : Int64} (I : D1 μ pc .l2i 1 pc') (k : X Γ μ R κ pc' L (.int x.toInt32 :: S) h Q) : X Γ μ R κ pc L (.long x :: S) h Q := by
  obtain ⟨hd, rfl⟩ := I
  exact X.frame (fun C hl kk => lv_l2i C.1 C.2.1 hd rfl (kk _ hl)) k
theorem X.i2b {x : Int32} (I : D1 μ pc .i2b 1 pc') (k : X Γ μ R κ pc' L (.int x.toInt8.toInt32 :: S) h Q) : X Γ μ R κ pc L (.int x :: S) h Q := by
  obtain ⟨hd, rfl⟩ := I
  exact X.frame (fun C hl kk => lv_i2b C.1 C.2.1 hd rfl (kk _ hl)) k
theorem X.i2s {x : Int32} (I : D1 μ pc .i2s 1 pc') (k : X Γ μ R κ pc' L (.int x.toInt16.toInt32 :: S) h Q) : X Γ μ R κ pc L (.int x :: S) h Q := by
  obtain ⟨hd, rfl⟩ := I
  exact X.frame (fun C hl kk => lv_i2s C.1 C.2.1 hd rfl (kk _ hl)) k
theorem X.i2c {x : Int32} (I : D1 μ pc .i2c 1 pc') (k : X Γ μ R κ pc' L (.int (x.toUInt32 % 65536).toInt32 :: S) h Q) : X Γ μ R κ pc L (.int x :: S) h Q := by
  obtain ⟨hd, rfl⟩ := I
  exact X.frame (fun C hl kk => lv_i2c C.1 C.2.1 hd rfl (kk _ hl)) k
theorem X.ladd {x y : Int64} (I : D1 μ pc .ladd 1 pc') (k : X Γ μ R κ pc' L (.long (x + y) :: S) h Q) : X Γ μ R κ pc L (.long y :: .long x :: S) h Q := by
  obtain ⟨hd, rfl⟩ := I
  exact X.frame (fun C hl kk => lv_ladd C.1 C.2.1 hd (kk _ hl)) k
theorem X.lmul {x y : Int64} (I : D1 μ pc .lmul 1 pc') (k : X Γ μ R κ pc' L (.long (x * y) :: S) h Q) : X Γ μ R κ pc L (.long y :: .long x :: S) h Q := by
  obtain ⟨hd, rfl⟩ := I
  exact X.frame (fun C hl kk => lv_lmul C.1 C.2.1 hd (kk _ hl)) k
theorem X.land {x y : Int64} (I : D1 μ pc .land 1 pc') (k : X Γ μ R κ pc' L (.long (x &&& y) :: S) h Q) : X Γ μ R κ pc L (.long y :: .long x :: S) h Q := by
  obtain ⟨hd, rfl⟩ := I
  exact X.frame (fun C hl kk => lv_land C.1 C.2.1 hd (kk _ hl)) k
theorem X.lor {x y : Int64} (I : D1 μ pc .lor 1 pc') (k : X Γ μ R κ pc' L (.long (x ||| y) :: S) h Q) : X Γ μ R κ pc L (.long y :: .long x :: S) h Q := by
  obtain ⟨hd, rfl⟩ := I
  exact X.frame (fun C hl kk => lv_lor C.1 C.2.1 hd (kk _ hl)) k
theorem X.lshl {x : Int64} {y : Int32} (I : D1 μ pc .lshl 1 pc') (k : X Γ μ R κ pc' L (.long (x <<< (y.toInt64 &&& 63)) :: S) h Q) : X Γ μ R κ pc L (.int y :: .long x :: S) h Q := by
  obtain ⟨hd, rfl⟩ := I
  exact X.frame (fun C hl kk => lv_lshl C.1 C.2.1 hd rfl (kk _ hl)) k
theorem X.lcmp {x y : Int64} (I : D1 μ pc .lcmp 1 pc') (k : X Γ μ R κ pc' L (.int (lg_cmp x y) :: S) h Q) : X Γ μ R κ pc L (.long y :: .long x :: S) h Q := by
  obtain ⟨hd, rfl⟩ := I
  exact X.frame (fun C hl kk => W.lcmp C.1 C.2.1 hd (kk _ hl)) k
theorem X.dupi {x : Int32} (I : D1 μ pc .dup 1 pc') (k : X Γ μ R κ pc' L (.int x :: .int x :: S) h Q) : X Γ μ R κ pc L (.int x :: S) h Q := by
  obtain ⟨hd, rfl⟩ := I
  exact X.frame (fun C hl kk => lv_dup C.1 C.2.1 hd rfl (kk _ hl)) k
theorem X.dupa {a : Nat} (I : D1 μ pc .dup 1 pc') (k : X Γ μ R κ pc' L (.ref a :: .ref a :: S) h Q) : X Γ μ R κ pc L (.ref a :: S) h Q := by
  obtain ⟨hd, rfl⟩ := I
  exact X.frame (fun C hl kk => lv_dup C.1 C.2.1 hd rfl (kk _ hl)) k
theorem X.popi {x : Int32} (I : D1 μ pc .pop 1 pc') (k : X Γ μ R κ pc' L S h Q) : X Γ μ R κ pc L (.int x :: S) h Q := by
  obtain ⟨hd, rfl⟩ := I
  exact X.frame (fun C hl kk => lv_pop C.1 C.2.1 hd rfl (kk _ hl)) k
theorem X.dup2 {x : Int32} {a : Nat} (I : D1 μ pc .dup2 1 pc') (k : X Γ μ R κ pc' L (.int x :: .ref a :: .int x :: .ref a :: S) h Q) : X Γ μ R κ pc L (.int x :: .ref a :: S) h Q := by
  obtain ⟨hd, rfl⟩ := I
  exact X.frame (fun C hl kk => lv_dup2_11 C.1 C.2.1 hd rfl rfl (kk _ hl)) k
/-! branches -/
theorem X.split {c : Prop} (L1 : List (Option Value)) (S1 : List Value) (st : ∀ {p : Program} {l : Launch} {e : Env} {s : State} {m : MethodId} {args : Array Value} {below : List Frame} {meth : Method} {c0 : Code} {H : Heap} {locs : List Loc} {cells slots : Nat} {Z : State → Prop} {B b : Nat} {ls : Array Slot} {D : va_G} {dA : FieldType → ClassId}, XCtx Γ μ p s m args meth c0 B b D dA → (c → W p l e R s m args below meth c0 H locs cells slots Z (F0 m tgt ls (S1.map (xv B b)))) → (¬ c → W p l e R s m args below meth c0 H locs cells slots Z (F0 m pc' ls (S1.map (xv B b)))) → W p l e R s m args below meth c0 H locs cells slots Z (F0 m pc ls (S.map (xv B b)))) (kt : c → X Γ μ R κ tgt L S1 h Q) (kf : ¬ c → X Γ μ R κ pc' L S1 h Q) : X Γ μ R κ pc L S h Q := by
  intro p l e s m args below meth c B b D dA C Z E hκ H locs ls hR hS hl
  exact st C (fun hc => kt hc p l e s m args below meth c B b D dA C Z E hκ H locs ls hR hS hl) (fun hc => kf hc p l e s m args below meth c B b D dA C Z E hκ H locs ls hR hS hl)
abbrev DIf (μ : MI) (pc : Nat) (op : Jvm.ClassFile.Cond) (tgt pc' : Nat) : Prop := ∃ off : Int, decode μ.2.1 pc = .ok (.ifCond op off, 3) ∧ (pc : Int) + off = (tgt : Int) ∧ pc + 3 = pc'
abbrev DCm (μ : MI) (pc : Nat) (op : Jvm.ClassFile.Cond) (tgt pc' : Nat) : Prop := ∃ off : Int, decode μ.2.1 pc = .ok (.if_icmp op off, 3) ∧ (pc : Int) + off = (tgt : Int) ∧ pc + 3 = pc'
abbrev DGo (μ : MI) (pc tgt : Nat) : Prop := ∃ off : Int, decode μ.2.1 pc = .ok (.goto off, 3) ∧ (pc : Int) + off = (tgt : Int)
theorem X.goto (I : DGo μ pc tgt) (k : X Γ μ R κ tgt L S h Q) : X Γ μ R κ pc L S h Q := by
  obtain ⟨off, hd, ht⟩ := I
  exact X.frame (fun C hl kk => lv_goto C.1 C.2.1 hd ht (kk _ hl)) k
end XI
