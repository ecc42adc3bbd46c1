/-! X, third part: makings, copies, calls, ends -/
theorem xpushed {B : Nat} {H0 H H1 : Heap} {locs : List Loc} (hS : va_S (fun q => B ≤ q) H0 H locs) (z : H1.size = H.size + 1) (oq : ∀ q : Nat, q < H.size → H1[q]? = H[q]?) : va_S (fun q => B ≤ q) H0 H1 locs := ⟨Nat.le_trans hS.1 (by omega), fun x h1 h2 => (oq x (Nat.lt_of_lt_of_le h1 hS.1)).trans (hS.2.1 x h1 h2), hS.2.2⟩
def DNew (μ : MI) (pc ci : Nat) (fs : List Value) (pc' : Nat) : Prop := ∃ (idx : Nat) (C : String) (T : u_T) (N : Nat) (ty0 : Nat → FieldType), decode μ.2.1 pc = .ok (.new idx, 3) ∧ pc + 3 = pc' ∧ vwCl[ci]? = some (C, T, N) ∧ Cond.classLink μ.1.cls idx C ∈ bigW ∧ Cond.instantiable C N ∈ bigW ∧ Cond.initialized C ∈ bigW ∧ (∀ w ∈ u_ws C T N, w ∈ bigW) ∧ (∀ k, k < N → parseFieldDescriptor (T k).2.2.1 = some (ty0 k)) ∧ fs.length = N ∧ (∀ j, j < N → defaultValue (ty0 j) = vp_V fs j) ∧ ∀ B b, fs.map (xv B b) = fs
def DNewA (μ : MI) (pc : Nat) (ty : FieldType) (pc' : Nat) : Prop := ∃ atype : ArrayType, decode μ.2.1 pc = .ok (.newarray atype, 2) ∧ newarray.typeOf atype = ty ∧ Cond.arrayClass ty ∈ bigW ∧ pc + 2 = pc'
def DNewQ (μ : MI) (pc : Nat) (C : String) (pc' : Nat) : Prop := ∃ idx : Nat, decode μ.2.1 pc = .ok (.anewarray idx, 3) ∧ Cond.classLink μ.1.cls idx C ∈ bigW ∧ (C = RX2 ∨ C = RX4) ∧ pc + 3 = pc'
def DObj (μ : MI) (pc pc' : Nat) : Prop := ∃ idx : Nat, decode μ.2.1 pc = .ok (.invokespecial idx, 3) ∧ pc + 3 = pc' ∧ Cond.methodLink μ.1.cls idx objectInit ∈ bigW ∧ Cond.instanceMethod objectInit ∈ bigW ∧ Cond.code objectInit ⟨#[0xb1]⟩ 1 none ∈ bigW
/-- a room under this one: d frames below, of 39 words each -/
def XFit (R : Room) (d : Nat) : Prop := d + 1 ≤ R.frames ∧ 39 * d + 39 ≤ R.locals
theorem xfit (d c s : Nat) : XFit (xR (d + 1, c, s)) d := ⟨Nat.le_refl _, by show 39 * d + 39 ≤ 39 * (d + 1); omega⟩
section XN
variable {Γ : State → Nat → Nat → Prop} {μ : MI} {R : Room} {κ : Nat × Nat} {pc pc' tgt : Nat} {L L' : List (Option Value)} {S S' : List Value} {h : XH} {Q : Option Value → XH → Prop}
theorem X.new {ci N : Nat} {fs : List Value} (I : DNew μ pc ci fs pc') (hN : XDom h N) (hlt : N < 1000000) (hc : κ.1 + 1 ≤ R.cells ∧ κ.2 + fs.length ≤ R.slots) (kk : X Γ μ R (κ.1 + 1, κ.2 + fs.length) pc' L (.ref N :: S) (xup h N (.inr (ci, fs))) Q) : X Γ μ R κ pc L S h Q := by
  intro p l e s m args below meth c B b D dA C Z E hκ H locs ls hR hS hl
  obtain ⟨idx, Cn, T, n, ty0, hd, rfl, h1, h2, h3, h4, h5, h6, rfl, h7, h8⟩ := I
  have hts := C.2.2.2.2.2.2.1
  have hKn := C.2.2.2.2.2.2.2.1.1.1 ci _ h1
  refine W.newcK C.1 C.2.1 C.2.2.2.2.2.1 (hts _ h2) (hts _ h3) (hts _ h4) rfl hd hc.1 hc.2 hKn.2.1 rfl fun H1 kC hkC e1 z1 o1 => ?_
  have ob := (u_born ty0 hts h5 hKn hkC e1 h6).to h7
  obtain ⟨hR1, hp⟩ := hR.push (c := .inr (ci, fs)) hN hlt z1 ⟨_, h1, by show t_OB _ _ _ _ _ (vp_V (fs.map (xv B b))); rw [h8]; exact ob⟩ o1
  have := kk p l e s m args below meth c B b D dA C Z E hc H1 locs ls hR1 (xpushed hS z1 o1) hl
  rw [hp]
  exact this
theorem X.newi {n : Int32} {M N : Nat} (I : DNewA μ pc .int pc') (hn : ¬ n < 0) (hM : n.toNatClampNeg = M) (hb : M ≤ 1000) (hN : XDom h N) (hlt : N < 1000000) (hc : κ.1 + 1 ≤ R.cells ∧ κ.2 + M ≤ R.slots) (kk : X Γ μ R (κ.1 + 1, κ.2 + M) pc' L (.ref N :: S) (xup h N (.inl (.int, M, .inl (fun _ => 0)))) Q) : X Γ μ R κ pc L (.int n :: S) h Q := by
  intro p l e s m args below meth c B b D dA C Z E hκ H locs ls hR hS hl
  obtain ⟨atype, hd, hty, h1, rfl⟩ := I
  have hts := C.2.2.2.2.2.2.1
  have hRA : s.vm.findClass ("[" ++ (FieldType.int).toString) = some (dA .int) := (C.2.2.2.2.2.2.2.1.1.2 0 _ rfl).2
  have cb : componentBytes FieldType.int ≤ 8 := by decide
  refine va_newaK C.1 C.2.1 (by rw [hty]; exact hts _ h1) rfl hd rfl hn hM (by rw [hty]; exact Nat.le_trans (Nat.mul_le_mul hb cb) (by decide)) hc.1 hc.2 rfl fun H1 cA e1 z1 o1 _ hNm => ?_
  rw [hty] at e1 hNm
  have hcA : cA = dA .int := Option.some.inj (hNm.symm.trans hRA)
  subst hcA
  obtain ⟨hR1, hp⟩ := hR.push (c := .inl (.int, M, .inl (fun _ => 0))) hN hlt z1 (by show H1[_]? = some (vp_cell _ _); exact e1) o1
  have := kk p l e s m args below meth c B b D dA C Z E hc H1 locs ls hR1 (xpushed hS z1 o1) hl
  rw [hp]
  exact this
theorem X.newl {n : Int32} {M N : Nat} (I : DNewA μ pc .long pc') (hn : ¬ n < 0) (hM : n.toNatClampNeg = M) (hb : M ≤ 1000) (hN : XDom h N) (hlt : N < 1000000) (hc : κ.1 + 1 ≤ R.cells ∧ κ.2 + M ≤ R.slots) (kk : X Γ μ R (κ.1 + 1, κ.2 + M) pc' L (.ref N :: S) (xup h N (.inl (.long, M, .inr (.inl (fun _ => 0))))) Q) : X Γ μ R κ pc L (.int n :: S) h Q := by
  intro p l e s m args below meth c B b D dA C Z E hκ H locs ls hR hS hl
  obtain ⟨atype, hd, hty, h1, rfl⟩ := I
  have hts := C.2.2.2.2.2.2.1
  have hRA : s.vm.findClass ("[" ++ (FieldType.long).toString) = some (dA .long) := (C.2.2.2.2.2.2.2.1.1.2 1 _ rfl).2
  have cb : componentBytes FieldType.long ≤ 8 := by decide
  refine va_newaK C.1 C.2.1 (by rw [hty]; exact hts _ h1) rfl hd rfl hn hM (by rw [hty]; exact Nat.le_trans (Nat.mul_le_mul hb cb) (by decide)) hc.1 hc.2 rfl fun H1 cA e1 z1 o1 _ hNm => ?_
  rw [hty] at e1 hNm
  have hcA : cA = dA .long := Option.some.inj (hNm.symm.trans hRA)
  subst hcA
  obtain ⟨hR1, hp⟩ := hR.push (c := .inl (.long, M, .inr (.inl (fun _ => 0)))) hN hlt z1 (by show H1[_]? = some (vp_cell _ _); exact e1) o1
  have := kk p l e s m args below meth c B b D dA C Z E hc H1 locs ls hR1 (xpushed hS z1 o1) hl
  rw [hp]
  exact this
theorem X.newc {n : Int32} {M N : Nat} (I : DNewA μ pc .char pc') (hn : ¬ n < 0) (hM : n.toNatClampNeg = M) (hb : M ≤ 1000) (hN : XDom h N) (hlt : N < 1000000) (hc : κ.1 + 1 ≤ R.cells ∧ κ.2 + M ≤ R.slots) (kk : X Γ μ R (κ.1 + 1, κ.2 + M) pc' L (.ref N :: S) (xup h N (.inl (.char, M, .inl (fun _ => 0)))) Q) : X Γ μ R κ pc L (.int n :: S) h Q := by
  intro p l e s m args below meth c B b D dA C Z E hκ H locs ls hR hS hl
  obtain ⟨atype, hd, hty, h1, rfl⟩ := I
  have hts := C.2.2.2.2.2.2.1
  have hRA : s.vm.findClass ("[" ++ (FieldType.char).toString) = some (dA .char) := (C.2.2.2.2.2.2.2.1.1.2 2 _ rfl).2
  have cb : componentBytes FieldType.char ≤ 8 := by decide
  refine va_newaK C.1 C.2.1 (by rw [hty]; exact hts _ h1) rfl hd rfl hn hM (by rw [hty]; exact Nat.le_trans (Nat.mul_le_mul hb cb) (by decide)) hc.1 hc.2 rfl fun H1 cA e1 z1 o1 _ hNm => ?_
  rw [hty] at e1 hNm
  have hcA : cA = dA .char := Option.some.inj (hNm.symm.trans hRA)
  subst hcA
  obtain ⟨hR1, hp⟩ := hR.push (c := .inl (.char, M, .inl (fun _ => 0))) hN hlt z1 (by show H1[_]? = some (vp_cell _ _); exact e1) o1
  have := kk p l e s m args below meth c B b D dA C Z E hc H1 locs ls hR1 (xpushed hS z1 o1) hl
  rw [hp]
  exact this
theorem X.newq {n : Int32} {M N : Nat} {Cn : String} (I : DNewQ μ pc Cn pc') (hn : ¬ n < 0) (hM : n.toNatClampNeg = M) (hb : M ≤ 1000) (hN : XDom h N) (hlt : N < 1000000) (hc : κ.1 + 1 ≤ R.cells ∧ κ.2 + M ≤ R.slots) (kk : X Γ μ R (κ.1 + 1, κ.2 + M) pc' L (.ref N :: S) (xup h N (.inl (.object Cn, M, .inr (.inr (.inr (.inr (fun _ => none))))))) Q) : X Γ μ R κ pc L (.int n :: S) h Q := by
  intro p l e s m args below meth c B b D dA C Z E hκ H locs ls hR hS hl
  obtain ⟨idx, hd, h1, hty, rfl⟩ := I
  have hts := C.2.2.2.2.2.2.1
  have hw := C.2.2.2.2.2.2.2.1
  have hAO : va_AO Cn s := by
    rcases hty with rfl | rfl
    · exact hw.2.2.1
    · exact hw.2.2.2
  have hRA : va_RA s (dA (.object Cn)) (.object Cn) := by
    rcases hty with rfl | rfl
    · exact (hw.1.2 3 _ rfl).2
    · exact (hw.1.2 4 _ rfl).2
  obtain ⟨kA0, comp0, -, -, -, hnm⟩ := hRA
  subst hM
  refine W.anew C.1 C.2.1 C.2.2.2.2.2.1 (hts _ h1) (va_AO.use hAO) rfl hd rfl hn (Nat.le_trans (Nat.mul_le_mul_right 4 hb) (by decide)) hc.1 hc.2 fun cA kA comp f1 f2 f3 f4 => ?_
  have hcA : cA = dA (.object Cn) := Option.some.inj (f1.symm.trans hnm)
  subst hcA
  generalize hH1 : H.push ({ cls := dA (.object Cn), slots := Array.replicate n.toNatClampNeg .null, vm := .none } : Cell) = H1
  have z1 : H1.size = H.size + 1 := by rw [← hH1, Array.size_push]
  have e1 : H1[H.size]? = some (arrV (dA (.object Cn)) n.toNatClampNeg (fun _ => .null)) := by rw [← hH1, Array.getElem?_push_size, ← arrV_new]
  have o1 : ∀ q : Nat, q < H.size → H1[q]? = H[q]? := fun q hq => by rw [← hH1, Array.getElem?_push, if_neg (Nat.ne_of_lt hq)]
  obtain ⟨hR1, hp⟩ := hR.push (c := .inl (.object Cn, n.toNatClampNeg, .inr (.inr (.inr (.inr (fun _ => none)))))) hN hlt z1 (by show H1[_]? = some (vp_cell _ _); exact e1) o1
  have := kk p l e s m args below meth c B b D dA C Z E hc H1 locs ls hR1 (xpushed hS z1 o1) hl
  show W p l e R s m args below meth c H1 locs (κ.1 + 1) (κ.2 + n.toNatClampNeg) Z (F0 m (pc + 3) ls (.ref H.size :: S.map (xv B b)))
  rw [hp]
  exact this
theorem xcat (B b : Nat) (S : List Value) : ((S.map (xv B b)).map fun v => v.category).sum = (S.map fun v => v.category).sum := by
  rw [List.map_map]
  congr 1
  exact List.map_congr_left (fun v _ => xv_cat B b v)
theorem X.objInit {a : Nat} (I : DObj μ pc pc') (hr : XFit R 0) (hS : (S.map fun v => v.category).sum ≤ 8) (kk : X Γ μ R κ pc' L S h Q) : X Γ μ R κ pc L (.ref a :: S) h Q := by
  obtain ⟨idx, hd, rfl, h1, h2, h3⟩ := I
  refine X.frame (fun {p l e s m args below meth c H locs cells slots Z B b ls D dA} C hl k2 => ?_) kk
  have hts := C.2.2.2.2.2.2.1
  exact W.objInit C.1 C.2.1 C.2.2.2.2.2.1 (hts _ h1) (hts _ h2) (hts _ h3) rfl (by rw [C.2.2.1]; exact hl.1) rfl hd hr.1 (by
    show 2 * 0 + ((S.map (xv B b)).map fun v => v.category).sum + 12 ≤ _
    rw [xcat]
    have := hr.2
    omega) (k2 ls hl)
/-! Math -/
def DMin (μ : MI) (pc pc' : Nat) : Prop := ∃ idx : Nat, decode μ.2.1 pc = .ok (.invokestatic idx, 3) ∧ pc + 3 = pc' ∧ Cond.methodLink μ.1.cls idx Lib.Math.min.name ∈ bigW ∧ Cond.static Lib.Math.min.name ∈ bigW ∧ Cond.initialized "java/lang/Math" ∈ bigW ∧ Cond.code Lib.Math.min.name Lib.Math.min.code 2 (some .int) ∈ bigW
def DMax (μ : MI) (pc pc' : Nat) : Prop := ∃ idx : Nat, decode μ.2.1 pc = .ok (.invokestatic idx, 3) ∧ pc + 3 = pc' ∧ Cond.methodLink μ.1.cls idx Lib.Math.max.name ∈ bigW ∧ Cond.static Lib.Math.max.name ∈ bigW ∧ Cond.initialized "java/lang/Math" ∈ bigW ∧ Cond.code Lib.Math.max.name Lib.Math.max.code 2 (some .int) ∈ bigW
theorem X.mmin {x y : Int32} (I : DMin μ pc pc') (hr : XFit R 0) (hS : (S.map fun v => v.category).sum ≤ 8) (kk : X Γ μ R κ pc' L (.int (if y < x then y else x) :: S) h Q) : X Γ μ R κ pc L (.int y :: .int x :: S) h Q := by
  obtain ⟨idx, hd, rfl, h1, h2, h3, h4⟩ := I
  intro p l e s m args below meth c B b D dA C Z E hκ H locs ls hR hS' hl
  have hts := C.2.2.2.2.2.2.1
  exact va_mmin C.1 C.2.1 (by rw [C.2.2.1]; exact hl.1.symm) C.2.2.2.2.2.1 (hts _ h1) (hts _ h2) (hts _ h3) (hts _ h4) hr.1 (by
    rw [xcat]
    have := hr.2
    omega) hκ.1 hκ.2 hd (kk p l e s m args below meth c B b D dA C Z E hκ H locs ls hR hS' hl)
theorem X.mmax {x y : Int32} (I : DMax μ pc pc') (hr : XFit R 0) (hS : (S.map fun v => v.category).sum ≤ 8) (kk : X Γ μ R κ pc' L (.int (if x < y then y else x) :: S) h Q) : X Γ μ R κ pc L (.int y :: .int x :: S) h Q := by
  obtain ⟨idx, hd, rfl, h1, h2, h3, h4⟩ := I
  intro p l e s m args below meth c B b D dA C Z E hκ H locs ls hR hS' hl
  have hts := C.2.2.2.2.2.2.1
  exact va_mmax C.1 C.2.1 (by rw [C.2.2.1]; exact hl.1.symm) C.2.2.2.2.2.1 (hts _ h1) (hts _ h2) (hts _ h3) (hts _ h4) hr.1 (by
    rw [xcat]
    have := hr.2
    omega) hκ.1 hκ.2 hd (kk p l e s m args below meth c B b D dA C Z E hκ H locs ls hR hS' hl)
/-! ends -/
theorem X.iret {x : Int32} (I : μ.2.2.2 = some .int ∧ decode μ.2.1 pc = .ok (.ireturn, 1)) (hq : Q (some (.int x)) h) : X Γ μ R κ pc L [.int x] h Q := by
  intro p l e s m args below meth c B b D dA C Z E hκ H locs ls hR hS hl
  exact W.widen hκ.1 hκ.2 (E (some (.int x)) h H locs ls pc hq hR hS (Or.inr ⟨x, .int, rfl, I.1, vp_nar_int x, I.2⟩))
theorem X.zret {x : Bool} (I : μ.2.2.2 = some .boolean ∧ decode μ.2.1 pc = .ok (.ireturn, 1)) (hq : Q (some (.int (bI x))) h) : X Γ μ R κ pc L [.int (bI x)] h Q := by
  intro p l e s m args below meth c B b D dA C Z E hκ H locs ls hR hS hl
  exact W.widen hκ.1 hκ.2 (E (some (.int (bI x))) h H locs ls pc hq hR hS (Or.inr ⟨bI x, .boolean, rfl, I.1, bI_nar x, I.2⟩))
theorem X.vret (I : μ.2.2.2 = none ∧ decode μ.2.1 pc = .ok (.return_, 1)) (hq : Q none h) : X Γ μ R κ pc L [] h Q := by
  intro p l e s m args below meth c B b D dA C Z E hκ H locs ls hR hS hl
  exact W.widen hκ.1 hκ.2 (E none h H locs ls pc hq hR hS (Or.inl ⟨rfl, I.1, I.2⟩))
/-! calls -/
def XM (μ' : MI) (n : Nat) : Prop := Cond.code μ'.1 μ'.2.1 μ'.2.2.1 μ'.2.2.2 ∈ bigW ∧ Cond.initialized μ'.1.cls ∈ bigW ∧ (μ'.1.cls ≠ "java/lang/invoke/MethodHandle" ∧ μ'.1.cls ≠ "java/lang/invoke/VarHandle" ∧ (parseMethodDescriptor μ'.1.desc).map (fun d => d.parameters.length) = some n) ∧ μ'.2.2.1 ≤ 20
theorem xgood {μ' : MI} (hc : Cond.code μ'.1 μ'.2.1 μ'.2.2.1 μ'.2.2.2 ∈ bigW) : GoodIn bigW (xws μ') := by
  intro w hw
  have : w ∈ bigW := by
    rcases List.mem_cons.mp hw with rfl | h1
    · exact hc
    · exact h1
  exact ⟨this, good_of_word (List.mem_filter.mp this).2⟩
theorem xroom {R : Room} {ρ : Nat × Nat × Nat} {M : Nat} (hf : XFit R ρ.1) (hM : M ≤ 20) : (xR ρ).frames + 1 ≤ R.frames ∧ 8 + (M + 11) + (xR ρ).locals ≤ R.locals := by
  obtain ⟨h1, h2⟩ := hf
  exact ⟨h1, by show 8 + (M + 11) + 39 * ρ.1 ≤ _; omega⟩
def DInvV (μ : MI) (pc : Nat) (μ' : MI) (ci n pc' : Nat) : Prop := ∃ (idx : Nat) (T : u_T) (N : Nat), decode μ.2.1 pc = .ok (.invokevirtual idx, 3) ∧ pc + 3 = pc' ∧ vwCl[ci]? = some (μ'.1.cls, T, N) ∧ Cond.methodLink μ.1.cls idx μ'.1 ∈ bigW ∧ Cond.instanceMethod μ'.1 ∈ bigW ∧ Cond.selects μ'.1.cls μ'.1 μ'.1 ∈ bigW ∧ XM μ' n
def DInvS (μ : MI) (pc : Nat) (μ' : MI) (n pc' : Nat) : Prop := ∃ (idx : Nat), decode μ.2.1 pc = .ok (.invokestatic idx, 3) ∧ pc + 3 = pc' ∧ (Cond.methodLink μ.1.cls idx μ'.1 ∈ bigW ∨ ∃ host, (μ.1.cls, idx, μ'.1, host) ∈ nestL) ∧ Cond.static μ'.1 ∈ bigW ∧ XM μ' n
def DInvI (μ : MI) (pc : Nat) (μ' : MI) (n pc' : Nat) : Prop := ∃ (idx : Nat), decode μ.2.1 pc = .ok (.invokespecial idx, 3) ∧ pc + 3 = pc' ∧ (Cond.methodLink μ.1.cls idx μ'.1 ∈ bigW ∨ ∃ host, (μ.1.cls, idx, μ'.1, host) ∈ nestL) ∧ Cond.instanceMethod μ'.1 ∈ bigW ∧ μ'.1.name = "<init>" ∧ μ'.2.2.2 = none ∧ XM μ' n
set_option maxHeartbeats 1000000 in
theorem xcall {p : Program} {l : Launch} {e : Env} {s : State} {m : MethodId} {args : Array Value} {below : List Frame} {meth : Method} {c : Code} {H : Heap} {locs : List Loc} {cells slots mc ms : Nat} {Z : State → Prop} {B b : Nat} {ls : Array Slot} {D : va_G} {dA : FieldType → ClassId} {Q' : Option Value → XH → Prop} {a : Array Value} {st0 : List Value} (S0 : List Value)
    (hr : va_Run p l e R s m args below meth c H locs cells slots mc ms (F0 m pc ls st0) (S0.map (xv B b)) (XPost B b D dA Q' a) (fun q => B ≤ q)) (hS : va_S (fun q => B ≤ q) s.heap H locs)
    (kk : ∀ (v : Option Value) (h' : XH) (H1 : Heap) (locs1 : List Loc), Q' v h' → XRel B b D dA h' H1 → va_S (fun q => B ≤ q) s.heap H1 locs1 → W p l e R s m args below meth c H1 locs1 (cells + mc) (slots + ms) Z (F0 m (pc + 3) ls ((v.toList ++ S0).map (xv B b)))) : W p l e R s m args below meth c H locs cells slots Z (F0 m pc ls st0) := by
  intro T hT X
  obtain ⟨v, st₀, t, T', L, h0, X', hL, e1, e2, ⟨⟨v', h', hv, hq, hR'⟩, hz, hk⟩, st⟩ := hr T hT X
  have hv' : v = v'.map (xv B b) := by cases hv; rfl
  subst hv'
  rw [h0] at hz hk
  obtain ⟨t2, a1, b1⟩ := kk v' h' T'.heap (locs ++ L) hq (by rw [e1]; exact hR') ⟨Nat.le_trans hS.1 (by rw [e1]; exact hz), fun q h1 h2 => by rw [e1, hk q (Nat.lt_of_lt_of_le h1 hS.1) h2]; exact hS.2.1 q h1 h2, fun q hq => by
      rcases List.mem_append.mp hq with h | h
      · exact hS.2.2 q h
      · exact hL q h⟩ T' rfl X'
  refine ⟨t2, st t2 ?_, b1⟩
  have : (v'.map (xv B b)).toList ++ S0.map (xv B b) = (v'.toList ++ S0).map (xv B b) := by cases v' <;> rfl
  rw [this]
  exact a1
theorem XPre.here {B b : Nat} {D : va_G} {dA : FieldType → ClassId} {av : List Value} {s U : State} {H : Heap} {locs : List Loc} (hU : U.heap = H) (hW : s.WarmedH U.vm) (hB : B ≤ s.heap.size) (hS : va_S (fun q => B ≤ q) s.heap H locs) (hR : XRel B b D dA h H) (hw : XWorld D dA s) : XPre B b D dA av h (av.map (xv B b)).toArray U :=
  ⟨rfl, by rw [hU]; exact Nat.le_trans hB hS.1, by rw [hU]; exact hR, hw.warm hW⟩
set_option maxHeartbeats 2000000 in
theorem X.callV {μ' : MI} {ρ : Nat × Nat × Nat} {ci n a : Nat} {fs As : List Value} {S0 : List Value} {Q' : Option Value → XH → Prop} (I : DInvV μ pc μ' ci n pc') (hM : MetX μ' ρ (.ref a :: As) h Q') (ha : h a = some (.inr (ci, fs))) (hS : S = As.reverse ++ .ref a :: S0) (hn : As.length = n) (hf : XFit R ρ.1) (hcat : (S0.map fun v => v.category).sum ≤ 8) (hcp : κ.1 + ρ.2.1 ≤ R.cells ∧ κ.2 + ρ.2.2 ≤ R.slots) (kk : ∀ (v : Option Value) (h' : XH), Q' v h' → X Γ μ R (κ.1 + ρ.2.1, κ.2 + ρ.2.2) pc' L (v.toList ++ S0) h' Q) : X Γ μ R κ pc L S h Q := by
  intro p l e s m args below meth c B b D dA C Z E hκ H locs ls hR hSv hl
  obtain ⟨idx, T, N, hd, rfl, hc, h1, h2, h3, h4, h5, h6, h7⟩ := I
  have hts := C.2.2.2.2.2.2.1
  have hw := C.2.2.2.2.2.2.2.1
  subst hS
  refine xcall S0 (va_runV (Ts := bigW) (As := As.map (xv B b)) (b := xphi B b a) (C := μ'.1.cls) ⟨C.1, C.2.1, C.2.2.1, C.2.2.2.2.2.1, hts⟩ (hM l B b D dA) ⟨callB_of n hts (xgood h4) rfl rfl rfl (hts _ h5) (hts _ h1) h6 (xroom hf h7), hts _ h2, hts _ h3⟩ ⟨XPre.blind, va_recv hw.1 (xone (hR.at ha)) hc (q0 := 0) rfl, fun U hU hW => XPre.here hU hW C.2.2.2.2.2.2.2.2.1 hSv hR hw⟩ rfl (by rw [List.length_map]; exact hn) hl.1 (by show List.map _ _ = _; rw [List.map_append, List.map_reverse]; rfl) (lv_room (by rw [xcat]; exact hcat)) hd hcp) hSv (fun v h' H1 locs1 hq hR1 hS1 => kk v h' hq p l e s m args below meth c B b D dA C Z E hcp H1 locs1 ls hR1 hS1 hl)
set_option maxHeartbeats 2000000 in
theorem X.callS {μ' : MI} {ρ : Nat × Nat × Nat} {n : Nat} {As : List Value} {S0 : List Value} {Q' : Option Value → XH → Prop} (I : DInvS μ pc μ' n pc') (hM : MetX μ' ρ As h Q') (hS : S = As.reverse ++ S0) (hn : As.length = n) (hf : XFit R ρ.1) (hcat : (S0.map fun v => v.category).sum ≤ 8) (hcp : κ.1 + ρ.2.1 ≤ R.cells ∧ κ.2 + ρ.2.2 ≤ R.slots) (kk : ∀ (v : Option Value) (h' : XH), Q' v h' → X Γ μ R (κ.1 + ρ.2.1, κ.2 + ρ.2.2) pc' L (v.toList ++ S0) h' Q) : X Γ μ R κ pc L S h Q := by
  intro p l e s m args below meth c B b D dA C Z E hκ H locs ls hR hSv hl
  obtain ⟨idx, hd, rfl, h1, h2, h4, h5, h6, h7⟩ := I
  have hts := C.2.2.2.2.2.2.1
  have hw := C.2.2.2.2.2.2.2.1
  subst hS
  have kk2 := fun v h' H1 locs1 (hq : Q' v h') hR1 hS1 => kk v h' hq p l e s m args below meth c B b D dA C Z E hcp H1 locs1 ls hR1 hS1 hl
  have hst : List.map (xv B b) (As.reverse ++ S0) = (As.map (xv B b)).reverse ++ S0.map (xv B b) := by rw [List.map_append, List.map_reverse]
  rcases h1 with h1 | ⟨host, h1⟩
  · exact xcall S0 (va_runS (Ts := bigW) (As := As.map (xv B b)) ⟨C.1, C.2.1, C.2.2.1, C.2.2.2.2.2.1, hts⟩ (hM l B b D dA) ⟨callB_of n hts (xgood h4) rfl rfl rfl (hts _ h5) (hts _ h1) h6 (xroom hf h7), hts _ h2⟩ ⟨XPre.blind, fun U hU hW => XPre.here hU hW C.2.2.2.2.2.2.2.2.1 hSv hR hw⟩ rfl (by rw [List.length_map]; exact hn) hl.1 hst (lv_room (by rw [xcat]; exact hcat)) hd hcp) hSv kk2
  · exact xcall S0 (va_runSN (Ts := bigW) (As := As.map (xv B b)) ⟨C.1, C.2.1, C.2.2.1, C.2.2.2.2.2.1, hts⟩ (hM l B b D dA) ⟨va_cnB n hts (xgood h4) rfl rfl rfl (hw.2.1 _ h1) (hts _ h5) h6 (xroom hf h7), hts _ h2, trivial⟩ ⟨XPre.blind, fun U hU hW => XPre.here hU hW C.2.2.2.2.2.2.2.2.1 hSv hR hw⟩ rfl (by rw [List.length_map]; exact hn) hl.1 hst (lv_room (by rw [xcat]; exact hcat)) hd hcp) hSv kk2
set_option maxHeartbeats 2000000 in
theorem X.callI {y' : MethodName} {bc : ByteArray} {M : Nat} {ρ : Nat × Nat × Nat} {n a : Nat} {As : List Value} {S0 : List Value} {Q' : Option Value → XH → Prop} (I : DInvI μ pc (y', bc, M, none) n pc') (hM : MetX (y', bc, M, none) ρ (.ref a :: As) h Q') (hS : S = As.reverse ++ .ref a :: S0) (hn : As.length = n) (hf : XFit R ρ.1) (hcat : (S0.map fun v => v.category).sum ≤ 8) (hcp : κ.1 + ρ.2.1 ≤ R.cells ∧ κ.2 + ρ.2.2 ≤ R.slots) (kk : ∀ (v : Option Value) (h' : XH), Q' v h' → X Γ μ R (κ.1 + ρ.2.1, κ.2 + ρ.2.2) pc' L (v.toList ++ S0) h' Q) : X Γ μ R κ pc L S h Q := by
  intro p l e s m args below meth c B b D dA C Z E hκ H locs ls hR hSv hl
  obtain ⟨idx, hd, rfl, h1, h2, hnm, -, h4, h5, h6, h7⟩ := I
  have hts := C.2.2.2.2.2.2.1
  have hw := C.2.2.2.2.2.2.2.1
  subst hS
  have kk2 := fun v h' H1 locs1 (hq : Q' v h') hR1 hS1 => kk v h' hq p l e s m args below meth c B b D dA C Z E hcp H1 locs1 ls hR1 hS1 hl
  have hst : List.map (xv B b) (As.reverse ++ .ref a :: S0) = (As.map (xv B b)).reverse ++ .ref (xphi B b a) :: S0.map (xv B b) := by rw [List.map_append, List.map_reverse]; rfl
  rcases h1 with h1 | ⟨host, h1⟩
  · exact xcall S0 (va_runI (Ts := bigW) (As := As.map (xv B b)) (b := xphi B b a) ⟨C.1, C.2.1, C.2.2.1, C.2.2.2.2.2.1, hts⟩ (hM l B b D dA) ⟨callB_of n hts (xgood h4) rfl rfl rfl (hts _ h5) (hts _ h1) h6 (xroom hf h7), hnm, hts _ h2⟩ ⟨XPre.blind, fun U hU hW => XPre.here (av := .ref a :: As) hU hW C.2.2.2.2.2.2.2.2.1 hSv hR hw⟩ rfl (by rw [List.length_map]; exact hn) hl.1 hst (lv_room (by rw [xcat]; exact hcat)) hd hcp) hSv kk2
  · exact xcall S0 (va_runIN (Ts := bigW) (As := As.map (xv B b)) (b := xphi B b a) ⟨C.1, C.2.1, C.2.2.1, C.2.2.2.2.2.1, hts⟩ (hM l B b D dA) ⟨va_cnB n hts (xgood h4) rfl rfl rfl (hw.2.1 _ h1) (hts _ h5) h6 (xroom hf h7), hnm, hts _ h2⟩ ⟨XPre.blind, fun U hU hW => XPre.here (av := .ref a :: As) hU hW C.2.2.2.2.2.2.2.2.1 hSv hR hw⟩ rfl (by rw [List.length_map]; exact hn) hl.1 hst (lv_room (by rw [xcat]; exact hcat)) hd hcp) hSv kk2
end XN
