/-! X, second half: branches, fields, arrays, makings, calls, ends -/
section XB
variable {Γ : State → Nat → Nat → Prop} {μ : MI} {R : Room} {κ : Nat × Nat} {pc pc' tgt : Nat} {L L' : List (Option Value)} {S S' : List Value} {h : XH} {Q : Option Value → XH → Prop}
theorem X.fork {c d : Prop} (S1 : List Value) (st : ∀ {p : Program} {l : Launch} {e : Env} {s : State} {m : MethodId} {args : Array Value} {below : List Frame} {meth : Method} {c0 : Code} {H : Heap} {locs : List Loc} {cells slots : Nat} {Z : State → Prop} {B b : Nat} {ls : Array Slot} {D : va_G} {dA : FieldType → ClassId}, XCtx Γ μ p s m args meth c0 B b D dA → (c → W p l e R s m args below meth c0 H locs cells slots Z (F0 m tgt ls (S1.map (xv B b)))) → (d → W p l e R s m args below meth c0 H locs cells slots Z (F0 m pc' ls (S1.map (xv B b)))) → W p l e R s m args below meth c0 H locs cells slots Z (F0 m pc ls (S.map (xv B b)))) (kt : c → X Γ μ R κ tgt L S1 h Q) (kf : d → X Γ μ R κ pc' L S1 h Q) : X Γ μ R κ pc L S h Q := by
  intro p l e s m args below meth c B b D dA C Z E hκ H locs ls hR hS hl
  exact st C (fun hc => kt hc p l e s m args below meth c B b D dA C Z E hκ H locs ls hR hS hl) (fun hc => kf hc p l e s m args below meth c B b D dA C Z E hκ H locs ls hR hS hl)
theorem X.ifeq {x : Int32} (I : DIf μ pc .eq tgt pc') (kt : x = 0 → X Γ μ R κ tgt L S h Q) (kf : ¬ x = 0 → X Γ μ R κ pc' L S h Q) : X Γ μ R κ pc L (.int x :: S) h Q := by
  obtain ⟨off, hd, ht, rfl⟩ := I
  exact X.fork S (fun C a b => lv_if_eq C.1 C.2.1 hd ht a b) kt kf
theorem X.ifne {x : Int32} (I : DIf μ pc .ne tgt pc') (kt : ¬ x = 0 → X Γ μ R κ tgt L S h Q) (kf : x = 0 → X Γ μ R κ pc' L S h Q) : X Γ μ R κ pc L (.int x :: S) h Q := by
  obtain ⟨off, hd, ht, rfl⟩ := I
  exact X.fork S (fun C a b => lv_if_ne C.1 C.2.1 hd ht a b) kt kf
theorem X.iflt {x : Int32} (I : DIf μ pc .lt tgt pc') (kt : x < 0 → X Γ μ R κ tgt L S h Q) (kf : ¬ x < 0 → X Γ μ R κ pc' L S h Q) : X Γ μ R κ pc L (.int x :: S) h Q := by
  obtain ⟨off, hd, ht, rfl⟩ := I
  exact X.fork S (fun C a b => lv_if_lt C.1 C.2.1 hd ht a b) kt kf
theorem X.ifge {x : Int32} (I : DIf μ pc .ge tgt pc') (kt : 0 ≤ x → X Γ μ R κ tgt L S h Q) (kf : ¬ 0 ≤ x → X Γ μ R κ pc' L S h Q) : X Γ μ R κ pc L (.int x :: S) h Q := by
  obtain ⟨off, hd, ht, rfl⟩ := I
  exact X.fork S (fun C a b => lv_if_ge C.1 C.2.1 hd ht a b) kt kf
theorem X.ifgt {x : Int32} (I : DIf μ pc .gt tgt pc') (kt : 0 < x → X Γ μ R κ tgt L S h Q) (kf : ¬ 0 < x → X Γ μ R κ pc' L S h Q) : X Γ μ R κ pc L (.int x :: S) h Q := by
  obtain ⟨off, hd, ht, rfl⟩ := I
  exact X.fork S (fun C a b => lv_if_gt C.1 C.2.1 hd ht a b) kt kf
theorem X.ifle {x : Int32} (I : DIf μ pc .le tgt pc') (kt : x ≤ 0 → X Γ μ R κ tgt L S h Q) (kf : ¬ x ≤ 0 → X Γ μ R κ pc' L S h Q) : X Γ μ R κ pc L (.int x :: S) h Q := by
  obtain ⟨off, hd, ht, rfl⟩ := I
  exact X.fork S (fun C a b => lv_if_le C.1 C.2.1 hd ht a b) kt kf
theorem X.cmeq {x y : Int32} (I : DCm μ pc .eq tgt pc') (kt : x = y → X Γ μ R κ tgt L S h Q) (kf : ¬ x = y → X Γ μ R κ pc' L S h Q) : X Γ μ R κ pc L (.int y :: .int x :: S) h Q := by
  obtain ⟨off, hd, ht, rfl⟩ := I
  exact X.fork S (fun C a b => lv_icmp_eq C.1 C.2.1 hd ht a b) kt kf
theorem X.cmne {x y : Int32} (I : DCm μ pc .ne tgt pc') (kt : ¬ x = y → X Γ μ R κ tgt L S h Q) (kf : x = y → X Γ μ R κ pc' L S h Q) : X Γ μ R κ pc L (.int y :: .int x :: S) h Q := by
  obtain ⟨off, hd, ht, rfl⟩ := I
  exact X.fork S (fun C a b => lv_icmp_ne C.1 C.2.1 hd ht a b) kt kf
theorem X.cmlt {x y : Int32} (I : DCm μ pc .lt tgt pc') (kt : x < y → X Γ μ R κ tgt L S h Q) (kf : ¬ x < y → X Γ μ R κ pc' L S h Q) : X Γ μ R κ pc L (.int y :: .int x :: S) h Q := by
  obtain ⟨off, hd, ht, rfl⟩ := I
  exact X.fork S (fun C a b => lv_icmp_lt C.1 C.2.1 hd ht a b) kt kf
theorem X.cmge {x y : Int32} (I : DCm μ pc .ge tgt pc') (kt : y ≤ x → X Γ μ R κ tgt L S h Q) (kf : ¬ y ≤ x → X Γ μ R κ pc' L S h Q) : X Γ μ R κ pc L (.int y :: .int x :: S) h Q := by
  obtain ⟨off, hd, ht, rfl⟩ := I
  exact X.fork S (fun C a b => lv_icmp_ge C.1 C.2.1 hd ht a b) kt kf
theorem X.cmgt {x y : Int32} (I : DCm μ pc .gt tgt pc') (kt : y < x → X Γ μ R κ tgt L S h Q) (kf : ¬ y < x → X Γ μ R κ pc' L S h Q) : X Γ μ R κ pc L (.int y :: .int x :: S) h Q := by
  obtain ⟨off, hd, ht, rfl⟩ := I
  exact X.fork S (fun C a b => lv_icmp_gt C.1 C.2.1 hd ht a b) kt kf
theorem X.cmle {x y : Int32} (I : DCm μ pc .le tgt pc') (kt : x ≤ y → X Γ μ R κ tgt L S h Q) (kf : ¬ x ≤ y → X Γ μ R κ pc' L S h Q) : X Γ μ R κ pc L (.int y :: .int x :: S) h Q := by
  obtain ⟨off, hd, ht, rfl⟩ := I
  exact X.fork S (fun C a b => lv_icmp_le C.1 C.2.1 hd ht a b) kt kf
/-- truth values as ints -/
def bI (b : Bool) : Int32 := if b then 1 else 0
theorem bI_0 {b : Bool} (h : bI b = 0) : b = false := by cases b <;> first | rfl | exact absurd h (by decide)
theorem bI_1 {b : Bool} (h : ¬ bI b = 0) : b = true := by cases b <;> first | rfl | exact absurd rfl h
theorem bI_nar : ∀ b : Bool, narrow .boolean (.int (bI b)) = .int (bI b) := by decide
theorem bI_fit : ∀ b : Bool, fits .boolean (.int (bI b)) = true := by decide
theorem X.ifeqB {b : Bool} (I : DIf μ pc .eq tgt pc') (kt : b = false → X Γ μ R κ tgt L S h Q) (kf : b = true → X Γ μ R κ pc' L S h Q) : X Γ μ R κ pc L (.int (bI b) :: S) h Q := X.ifeq I (fun e => kt (bI_0 e)) (fun e => kf (bI_1 e))
theorem X.ifneB {b : Bool} (I : DIf μ pc .ne tgt pc') (kt : b = true → X Γ μ R κ tgt L S h Q) (kf : b = false → X Γ μ R κ pc' L S h Q) : X Γ μ R κ pc L (.int (bI b) :: S) h Q := X.ifne I (fun e => kt (bI_1 e)) (fun e => kf (bI_0 e))
/-! switches: the targets in order from lo on, then the default -/
def DTab (μ : MI) (pc : Nat) (lo : Int) (tgts : List Nat) (d : Nat) : Prop := ∃ (dflt hi : Int) (offs : Array Int) (len : Nat), decode μ.2.1 pc = .ok (.tableswitch dflt lo hi offs, len) ∧ hi = lo + (tgts.length : Int) - 1 ∧ (pc : Int) + dflt = (d : Int) ∧ offs.toList = tgts.map (fun (t : Nat) => ((t : Nat) : Int) - (pc : Int))
theorem X.tabIn {x : Int32} {lo : Int} {tgts : List Nat} {d : Nat} (I : DTab μ pc lo tgts d) (j : Nat) (hj : tgts[j]? = some tgt) (hx : x.toInt = lo + (j : Int)) (k : X Γ μ R κ tgt L S h Q) : X Γ μ R κ pc L (.int x :: S) h Q := by
  obtain ⟨dflt, hi, offs, len, hd, rfl, h2, h3⟩ := I
  have hlt : j < tgts.length := (List.getElem?_eq_some_iff.mp hj).1
  refine X.frame (fun C hl kk => lv_tableIn (off := (tgt : Int) - (pc : Int)) C.1 C.2.1 hd (by omega) (by omega) ?_ (by omega) (kk _ hl)) k
  have e : (x.toInt - lo).toNat = j := by omega
  rw [e, ← Array.getElem?_toList, h3, List.getElem?_map, hj]
  rfl
theorem X.tabOut {x : Int32} {lo : Int} {tgts : List Nat} {d : Nat} (I : DTab μ pc lo tgts d) (hx : x.toInt < lo ∨ lo + (tgts.length : Int) ≤ x.toInt) (k : X Γ μ R κ d L S h Q) : X Γ μ R κ pc L (.int x :: S) h Q := by
  obtain ⟨dflt, hi, offs, len, hd, rfl, h2, h3⟩ := I
  exact X.frame (fun C hl kk => lv_tableOut C.1 C.2.1 hd (by omega) h2 (kk _ hl)) k
def DLook (μ : MI) (pc : Nat) (ps : List (Int × Int)) (d : Int) : Prop := ∃ (pa : Array (Int × Int)) (len : Nat), decode μ.2.1 pc = .ok (.lookupswitch d pa, len) ∧ pa.toList = ps ∧ (pa.toList.zip (pa.toList.drop 1)).all (fun (a, next) => a.1 < next.1) = true
theorem X.look {x : Int32} {ps : List (Int × Int)} {d : Int} (I : DLook μ pc ps d) (ht : (pc : Int) + Op.lookupswitch.offset ps d x.toInt = (tgt : Int)) (k : X Γ μ R κ tgt L S h Q) : X Γ μ R κ pc L (.int x :: S) h Q := by
  obtain ⟨pa, len, hd, rfl, hp⟩ := I
  exact X.frame (fun C hl kk => lv_lookup C.1 C.2.1 hd hp rfl ht (kk _ hl)) k
end XB
/-! fields -/
theorem xone {D : va_G} {cl : List vw_C} {q : Nat × va_E} {H : Heap} (hq : va_at D cl q H) : va_P D cl [q] H := by
  intro k x hx
  match k, hx with
  | 0, hx => cases hx; exact hq
  | k + 1, hx => simp at hx
def XFld (own : String) (idx ci k : Nat) : Prop := ∃ (C : String) (T : u_T) (N : Nat), vwCl[ci]? = some (C, T, N) ∧ k < N ∧ Cond.fieldLink own idx (T k).1 (T k).2.1 (T k).2.2.1 ∈ bigW ∧ ∀ w ∈ u_ws C T N, w ∈ bigW
def XFldP (y : MethodName) (idx ci k : Nat) (ty : FieldType) : Prop := ∃ (C : String) (T : u_T) (N : Nat) (ty0 : Nat → FieldType), vwCl[ci]? = some (C, T, N) ∧ k < N ∧ Cond.fieldLink y.cls idx (T k).1 (T k).2.1 (T k).2.2.1 ∈ bigW ∧ (∀ w ∈ u_ws C T N, w ∈ bigW) ∧ (∀ k, k < N → parseFieldDescriptor (T k).2.2.1 = some (ty0 k)) ∧ (∀ a, a < N → ∀ b, b < N → a ≠ b → (T a).2.1 ≠ (T b).2.1) ∧ ty0 k = ty ∧ ((T k).2.2.2 = false ∨ ((T k).2.2.2 = true ∧ y.name = "<init>" ∧ (T k).1 = y.cls))
def DGet (μ : MI) (pc ci k pc' : Nat) : Prop := ∃ idx, decode μ.2.1 pc = .ok (.getfield idx, 3) ∧ pc + 3 = pc' ∧ XFld μ.1.cls idx ci k
def DPut (μ : MI) (pc ci k : Nat) (ty : FieldType) (pc' : Nat) : Prop := ∃ idx, decode μ.2.1 pc = .ok (.putfield idx, 3) ∧ pc + 3 = pc' ∧ XFldP μ.1 idx ci k ty
section XF
variable {Γ : State → Nat → Nat → Prop} {μ : MI} {R : Room} {κ : Nat × Nat} {pc pc' tgt : Nat} {L L' : List (Option Value)} {S S' : List Value} {h : XH} {Q : Option Value → XH → Prop}
theorem X.getf {ci k a : Nat} {fs : List Value} {v : Value} (I : DGet μ pc ci k pc') (ha : h a = some (.inr (ci, fs))) (hv : fs[k]? = some v) (kk : X Γ μ R κ pc' L (v :: S) h Q) : X Γ μ R κ pc L (.ref a :: S) h Q := by
  intro p l e s m args below meth c B b D dA C Z E hκ H locs ls hR hS hl
  obtain ⟨idx, hd, rfl, Cn, T, N, h1, h2, h3, h4⟩ := I
  have hts := C.2.2.2.2.2.2.1
  exact va_get (v := xv B b v) C.1 C.2.1 hts h4 C.2.2.2.2.2.1 C.2.2.2.2.2.2.2.1.1 (xone (hR.at ha)) 0 rfl h1 k h2 (hts _ h3) (fun _ h9 => h9) (by rw [List.getElem?_map, hv]; rfl) hd (kk p l e s m args below meth c B b D dA C Z E hκ H locs ls hR hS hl)
theorem xset_map (B b : Nat) (fs : List Value) (k : Nat) (v : Value) : (fs.map (xv B b)).set k (xv B b v) = (fs.set k v).map (xv B b) := by rw [List.map_set]
theorem xwrote {B a k : Nat} {H0 H H1 : Heap} {locs : List Loc} (hS : va_S (fun q => B ≤ q) H0 H locs) (z : H1.size = H.size) (oq : ∀ q : Nat, q ≠ a → H1[q]? = H[q]?) (ha : B ≤ a) : va_S (fun q => B ≤ q) H0 H1 (locs ++ [⟨a, k⟩]) := hS.put z oq ha
theorem XRel.ge {B b : Nat} {D : va_G} {dA : FieldType → ClassId} {h : XH} {H : Heap} (hR : XRel B b D dA h H) {i : Nat} {c : XC} (hi : h i = some c) : B ≤ xphi B b i := by rw [hR.phi hi]; omega
set_option maxHeartbeats 1000000 in
theorem X.putf {ci k a : Nat} {fs : List Value} {v : Value} {ty : FieldType} (I : DPut μ pc ci k ty pc') (ha : h a = some (.inr (ci, fs))) (hl : k < fs.length) (hn : ∀ B b, narrow ty (xv B b v) = xv B b v) (hf : ∀ B b, fits ty (xv B b v) = true) (kk : X Γ μ R κ pc' L S (xup h a (.inr (ci, fs.set k v))) Q) : X Γ μ R κ pc L (v :: .ref a :: S) h Q := by
  intro p l e s m args below meth c B b D dA C Z E hκ H locs ls hR hS hls
  obtain ⟨idx, hd, rfl, Cn, T, N, ty0, hc, hk, hlink, hin, hty, hnm, htk, hfin⟩ := I
  have hts := C.2.2.2.2.2.2.1
  have hown := C.2.2.2.2.2.1
  have hK := C.2.2.2.2.2.2.2.1.1
  have hap := va_apart (own := μ.1.cls) hts hin ty0 hty hnm hK hc
  obtain ⟨r, h1, cell, q1, q2, q3, q4⟩ := hR.at ha
  have hr : r = (Cn, T, N) := Option.some.inj (h1.symm.trans hc)
  subst hr
  obtain ⟨hSl, hfc, kC, hkC, hkind⟩ := hK.1 ci _ hc
  obtain ⟨cf, kf, fi, f, hi, hsl⟩ := hSl k hk
  have hlay := hts _ (hin _ (u_in_lay hk))
  unfold u_lay at hlay
  have hst := (u_facts hfc hkC (u_lays hts hin hk) hi).1
  have hpd : parseFieldDescriptor (T k).2.2.1 = some ty := by rw [hty k hk, htk]
  have fin : ∀ H' : Heap, H'[xphi B b a]? = some (cell.setSlot f.slot (xv B b v)) → H'.size = H.size → (∀ q, q ≠ xphi B b a → H'[q]? = H[q]?) → W p l e R s m args below meth c H' (locs ++ [⟨xphi B b a, f.slot⟩]) κ.1 κ.2 Z (F0 m (pc + 3) ls (S.map (xv B b))) := by
    intro H' e1 e2 e3
    rw [hsl] at e1 ⊢
    refine kk p l e s m args below meth c B b D dA C Z E hκ H' _ ls (hR.put ha e2 ?_ e3) (xwrote hS e2 e3 (hR.ge ha)) hls
    refine ⟨_, hc, ?_⟩
    show t_OB (xphi B b a) (D.1 ci) N (D.2 ci) H' (vp_V ((fs.set k v).map (xv B b)))
    rw [← xset_map]
    exact t_OB.to (V := updV (vp_V (fs.map (xv B b))) k (xv B b v)) ⟨_, e1, q2, q3, t_set q4 hap hk _⟩ (fun j _ => vp_updV_set (by rw [List.length_map]; exact hl) _ j)
  rcases hfin with hfin | ⟨hfin, hinit, hdecl⟩
  · rw [if_neg (by rw [hfin]; decide)] at hlay
    have h6 := u_store hfc hkC hkind hlay hi hpd (hn B b) (hf B b)
    exact W.putK C.1 C.2.1 (f := f) ⟨hown, hts _ hlink, ⟨_, _, _, hi⟩, hst⟩ (by rw [q2]; exact h6) q1 q3 (by rw [hsl]; exact k2_hasslot (q4 k hk)) rfl rfl hd fin
  · rw [if_pos hfin] at hlay
    have hcf : m.cls = cf := by
      obtain ⟨_, _, c', _, _, _, -, -, hf', -, -, -, hown2, -⟩ := Cond.laysFinal_spec hlay
      have e1 : c' = cf := by have := hi.symm.trans hf'; simp at this; exact this.1.symm
      rw [hdecl] at hown2
      rw [← e1]; exact Option.some.inj (hown.symm.trans hown2)
    have h6 := u_fits hfc hkC hkind (Or.inr hlay) hi hpd (hn B b) (hf B b)
    exact W.putFinK C.1 C.2.1 hown (hts _ hlink) hi hst hcf (by rw [C.2.2.2.2.2.2.2.2.2.1]; exact hinit) (by rw [q2]; exact h6) q1 q3 (by rw [hsl]; exact k2_hasslot (q4 k hk)) rfl rfl hd fin
theorem X.puti {ci k a : Nat} {fs : List Value} {x : Int32} (I : DPut μ pc ci k .int pc') (ha : h a = some (.inr (ci, fs))) (hl : k < fs.length) (kk : X Γ μ R κ pc' L S (xup h a (.inr (ci, fs.set k (.int x)))) Q) : X Γ μ R κ pc L (.int x :: .ref a :: S) h Q := X.putf I ha hl (fun _ _ => vp_nar_int x) (fun _ _ => rfl) kk
theorem X.putz {ci k a : Nat} {fs : List Value} {x : Bool} (I : DPut μ pc ci k .boolean pc') (ha : h a = some (.inr (ci, fs))) (hl : k < fs.length) (kk : X Γ μ R κ pc' L S (xup h a (.inr (ci, fs.set k (.int (bI x))))) Q) : X Γ μ R κ pc L (.int (bI x) :: .ref a :: S) h Q := X.putf I ha hl (fun _ _ => bI_nar x) (fun _ _ => bI_fit x) kk
theorem X.puta {ci k a v : Nat} {fs : List Value} {C : String} (I : DPut μ pc ci k (.object C) pc') (ha : h a = some (.inr (ci, fs))) (hl : k < fs.length) (kk : X Γ μ R κ pc' L S (xup h a (.inr (ci, fs.set k (.ref v)))) Q) : X Γ μ R κ pc L (.ref v :: .ref a :: S) h Q := X.putf I ha hl (fun _ _ => rfl) (fun _ _ => rfl) kk
theorem X.putr {ci k a v : Nat} {fs : List Value} {ty : FieldType} (I : DPut μ pc ci k (.array ty) pc') (ha : h a = some (.inr (ci, fs))) (hl : k < fs.length) (kk : X Γ μ R κ pc' L S (xup h a (.inr (ci, fs.set k (.ref v)))) Q) : X Γ μ R κ pc L (.ref v :: .ref a :: S) h Q := X.putf I ha hl (fun _ _ => rfl) (fun _ _ => rfl) kk
/-! arrays -/
theorem X.iald {a n : Nat} {f : Nat → Int32} {i : Int32} (I : D1 μ pc .iaload 1 pc') (ha : h a = some (.inl (.int, n, .inl f))) (hin : vp_in i n) (kk : X Γ μ R κ pc' L (.int (f i.toNatClampNeg) :: S) h Q) : X Γ μ R κ pc L (.int i :: .ref a :: S) h Q := by
  intro p l e s m args below meth c B b D dA C Z E hκ H locs ls hR hS hl
  obtain ⟨hd, rfl⟩ := I
  exact va_iald C.1 C.2.1 C.2.2.2.2.2.2.2.1.1 (xone (hR.at ha)) 0 0 rfl rfl hin hd (kk p l e s m args below meth c B b D dA C Z E hκ H locs ls hR hS hl)
theorem X.lald {a n : Nat} {f : Nat → Int64} {i : Int32} (I : D1 μ pc .laload 1 pc') (ha : h a = some (.inl (.long, n, .inr (.inl f)))) (hin : vp_in i n) (kk : X Γ μ R κ pc' L (.long (f i.toNatClampNeg) :: S) h Q) : X Γ μ R κ pc L (.int i :: .ref a :: S) h Q := by
  intro p l e s m args below meth c B b D dA C Z E hκ H locs ls hR hS hl
  obtain ⟨hd, rfl⟩ := I
  exact va_lald C.1 C.2.1 C.2.2.2.2.2.2.2.1.1 (xone (hR.at ha)) 0 1 rfl rfl hin hd (kk p l e s m args below meth c B b D dA C Z E hκ H locs ls hR hS hl)
theorem X.cald {a n : Nat} {f : Nat → Int32} {i : Int32} (I : D1 μ pc .caload 1 pc') (ha : h a = some (.inl (.char, n, .inl f))) (hin : vp_in i n) (kk : X Γ μ R κ pc' L (.int (f i.toNatClampNeg) :: S) h Q) : X Γ μ R κ pc L (.int i :: .ref a :: S) h Q := by
  intro p l e s m args below meth c B b D dA C Z E hκ H locs ls hR hS hl
  obtain ⟨hd, rfl⟩ := I
  exact va_cald C.1 C.2.1 C.2.2.2.2.2.2.2.1.1 (xone (hR.at ha)) 0 2 rfl rfl hin hd (kk p l e s m args below meth c B b D dA C Z E hκ H locs ls hR hS hl)
theorem X.aald {a n q : Nat} {ty : FieldType} {f : Nat → Option Nat} {i : Int32} (I : D1 μ pc .aaload 1 pc') (hty : ty = .object RX2 ∨ ty = .object RX4) (ha : h a = some (.inl (ty, n, .inr (.inr (.inr (.inr f)))))) (hin : vp_in i n) (hq : f i.toNatClampNeg = some q) (kk : X Γ μ R κ pc' L (.ref q :: S) h Q) : X Γ μ R κ pc L (.int i :: .ref a :: S) h Q := by
  intro p l e s m args below meth c B b D dA C Z E hκ H locs ls hR hS hl
  obtain ⟨hd, rfl⟩ := I
  have k2 := kk p l e s m args below meth c B b D dA C Z E hκ H locs ls hR hS hl
  have e2 : Option.map (xphi B b) (f i.toNatClampNeg) = some (xphi B b q) := by rw [hq]; rfl
  rcases hty with rfl | rfl
  · refine va_aldq C.1 C.2.1 C.2.2.2.2.2.2.2.1.1 (xone (hR.at ha)) 0 3 rfl rfl hin hd ?_
    rw [e2]
    exact k2
  · refine va_aldq C.1 C.2.1 C.2.2.2.2.2.2.2.1.1 (xone (hR.at ha)) 0 4 rfl rfl hin hd ?_
    rw [e2]
    exact k2
theorem xst {α : Type} (mk : α → Value) (cA : ClassId) (n j : Nat) (f g : Nat → α) (v : α) (hg : ∀ q, g q = if q = j then v else f q) : (arrV cA n (fun q => mk (f q))).setSlot j (mk v) = arrV cA n (fun q => mk (g q)) := by
  rw [arrV_store]
  congr 1
  funext q
  rw [hg q]
  by_cases hq : q = j
  · simp [updV, hq]
  · simp [updV, hq]
theorem X.iast {a n : Nat} {f : Nat → Int32} {i x : Int32} (I : D1 μ pc .iastore 1 pc') (ha : h a = some (.inl (.int, n, .inl f))) (hin : vp_in i n) (kk : X Γ μ R κ pc' L S (xup h a (.inl (.int, n, .inl (upd f i.toNatClampNeg x)))) Q) : X Γ μ R κ pc L (.int x :: .int i :: .ref a :: S) h Q := by
  intro p l e s m args below meth c B b D dA C Z E hκ H locs ls hR hS hl
  obtain ⟨hd, rfl⟩ := I
  refine W.iast C.1 C.2.1 (hR.at ha) ((C.2.2.2.2.2.2.2.1.1.2 0 _ rfl).1 n (fun j => .int (f j))) (fun q => by cases q) (by show ¬ (i < 0 ∨ (arrV _ _ _).slots.size ≤ _); rw [arrV_size]; exact hin) rfl rfl hd fun H1 e1 z oq => ?_
  refine kk p l e s m args below meth c B b D dA C Z E hκ H1 _ ls (hR.put ha z ?_ oq) (xwrote hS z oq (hR.ge ha)) hl
  show H1[xphi B b a]? = some (vp_cell _ _)
  rw [e1]
  exact congrArg some (xst Value.int _ n _ f _ x (fun q => rfl))
theorem X.last {a n : Nat} {f : Nat → Int64} {i : Int32} {x : Int64} (I : D1 μ pc .lastore 1 pc') (ha : h a = some (.inl (.long, n, .inr (.inl f)))) (hin : vp_in i n) (kk : X Γ μ R κ pc' L S (xup h a (.inl (.long, n, .inr (.inl (vp_updL f i.toNatClampNeg x))))) Q) : X Γ μ R κ pc L (.long x :: .int i :: .ref a :: S) h Q := by
  intro p l e s m args below meth c B b D dA C Z E hκ H locs ls hR hS hl
  obtain ⟨hd, rfl⟩ := I
  refine W.last C.1 C.2.1 (hR.at ha) ((C.2.2.2.2.2.2.2.1.1.2 1 _ rfl).1 n (fun j => .long (f j))) (fun q => by cases q) (by show ¬ (i < 0 ∨ (arrV _ _ _).slots.size ≤ _); rw [arrV_size]; exact hin) rfl rfl hd fun H1 e1 z oq => ?_
  refine kk p l e s m args below meth c B b D dA C Z E hκ H1 _ ls (hR.put ha z ?_ oq) (xwrote hS z oq (hR.ge ha)) hl
  show H1[xphi B b a]? = some (vp_cell _ _)
  rw [e1]
  exact congrArg some (xst Value.long _ n _ f _ x (fun q => rfl))
theorem X.cast {a n : Nat} {f : Nat → Int32} {i x : Int32} (I : D1 μ pc .castore 1 pc') (ha : h a = some (.inl (.char, n, .inl f))) (hin : vp_in i n) (hx : narrow .char (.int x) = .int x) (kk : X Γ μ R κ pc' L S (xup h a (.inl (.char, n, .inl (upd f i.toNatClampNeg x)))) Q) : X Γ μ R κ pc L (.int x :: .int i :: .ref a :: S) h Q := by
  intro p l e s m args below meth c B b D dA C Z E hκ H locs ls hR hS hl
  obtain ⟨hd, rfl⟩ := I
  refine W.cast C.1 C.2.1 (hR.at ha) ((C.2.2.2.2.2.2.2.1.1.2 2 _ rfl).1 n (fun j => .int (f j))) (fun q => by cases q) (by show ¬ (i < 0 ∨ (arrV _ _ _).slots.size ≤ _); rw [arrV_size]; exact hin) rfl rfl hd fun H1 e1 z oq => ?_
  refine kk p l e s m args below meth c B b D dA C Z E hκ H1 _ ls (hR.put ha z ?_ oq) (xwrote hS z oq (hR.ge ha)) hl
  show H1[xphi B b a]? = some (vp_cell _ _)
  rw [e1, hx]
  exact congrArg some (xst Value.int _ n _ f _ x (fun q => rfl))
set_option maxHeartbeats 1000000 in
theorem X.aast {a n v ci : Nat} {r : vw_C} {vs : List Value} {f : Nat → Option Nat} {i : Int32} (I : D1 μ pc .aastore 1 pc') (hty : r.1 = RX2 ∨ r.1 = RX4) (hc : vwCl[ci]? = some r) (ha : h a = some (.inl (.object r.1, n, .inr (.inr (.inr (.inr f)))))) (hv : h v = some (.inr (ci, vs))) (hin : vp_in i n) (kk : X Γ μ R κ pc' L S (xup h a (.inl (.object r.1, n, .inr (.inr (.inr (.inr (va_up f i.toNatClampNeg (some v)))))))) Q) : X Γ μ R κ pc L (.ref v :: .int i :: .ref a :: S) h Q := by
  intro p l e s m args below meth c B b D dA C Z E hκ H locs ls hR hS hl
  obtain ⟨hd, rfl⟩ := I
  have hlt : i.toNatClampNeg < n := Nat.not_le.mp fun q => hin (Or.inr q)
  have h0 : ¬ i < 0 := fun q => hin (Or.inl q)
  have hK := C.2.2.2.2.2.2.2.1.1
  obtain ⟨r', hr', cellV, g1, g2, g3, -⟩ := hR.at hv
  have hcls := (hK.1 ci r hc).2
  have hra : va_RA s (dA (.object r.1)) (.object r.1) := by
    rcases hty with hty | hty
    · rw [hty]; exact (hK.2 3 _ rfl).2
    · rw [hty]; exact (hK.2 4 _ rfl).2
  obtain ⟨kA, comp, k1, k2, k3, -⟩ := hra
  have hcomp : comp = D.1 ci := Option.some.inj (k3.symm.trans hcls.1)
  subst hcomp
  obtain ⟨kC, hkC, -⟩ := hcls.2
  refine W.aast C.1 C.2.1 (hR.at ha) (fun q h => by cases h) (fun h => by cases h) k1 k2 rfl hkC ⟨h0, by show _ < (arrV _ _ _).slots.size; rw [arrV_size]; exact hlt⟩ g1 (fun q h => by rw [g3] at h; cases h) (by rw [g2]; exact hkC) (by rw [g2]; exact va_assign hcls) rfl rfl hd fun H1 e1 z oq => ?_
  refine kk p l e s m args below meth c B b D dA C Z E hκ H1 _ ls (hR.put ha z ?_ oq) (xwrote hS z oq (hR.ge ha)) hl
  show H1[xphi B b a]? = some (vp_cell _ _)
  rw [e1]
  have key := xst va_rf (dA (.object r.1)) n i.toNatClampNeg (fun j => (f j).map (xphi B b)) (fun j => (va_up f i.toNatClampNeg (some v) j).map (xphi B b)) (some (xphi B b v)) (fun q => by
    show (va_up f i.toNatClampNeg (some v) q).map (xphi B b) = if q = i.toNatClampNeg then some (xphi B b v) else (f q).map (xphi B b)
    unfold va_up
    split <;> rfl)
  exact congrArg some key
end XF
