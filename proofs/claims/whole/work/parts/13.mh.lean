/-! the reference's cells, all of them: h elsewhere -/
def mh (h : XH) (nw tp ro rd ud as kp la sz : Nat → Int32) (it mv : Nat → Int64) (ty pl : Int32) (fa : Bool) (un ku : Int32) (ik : Bool) : XH := fun i => match i with
  | 98 => some (.inr (7, mfs ty pl fa un ku ik))
  | 99 => some (IA 43 nw)
  | 100 => some (IA 90 tp)
  | 101 => some (IA 18 ro)
  | 102 => some (IA 16 rd)
  | 103 => some (IA 120 ud)
  | 104 => some (IA 43 as)
  | 105 => some (IA 163 kp)
  | 106 => some (IA 4 la)
  | 107 => some (IA 4 sz)
  | 108 => some (LA 96 it)
  | 109 => some (LA 24 mv)
  | i => h i
theorem mh_lo (h : XH) (nw tp ro rd ud as kp la sz : Nat → Int32) (it mv : Nat → Int64) (ty pl : Int32) (fa : Bool) (un ku : Int32) (ik : Bool) {i : Nat} (hi : i < 98) : mh h nw tp ro rd ud as kp la sz it mv ty pl fa un ku ik i = h i := by
  unfold mh
  split <;> first | rfl | omega
theorem mh_hi (h : XH) (nw tp ro rd ud as kp la sz : Nat → Int32) (it mv : Nat → Int64) (ty pl : Int32) (fa : Bool) (un ku : Int32) (ik : Bool) {i : Nat} (hi : 110 ≤ i) : mh h nw tp ro rd ud as kp la sz it mv ty pl fa un ku ik i = h i := by
  unfold mh
  split <;> first | rfl | omega
theorem mh_ext {f g : XH} (h98 : f 98 = g 98) (h99 : f 99 = g 99) (h100 : f 100 = g 100) (h101 : f 101 = g 101) (h102 : f 102 = g 102) (h103 : f 103 = g 103) (h104 : f 104 = g 104) (h105 : f 105 = g 105) (h106 : f 106 = g 106) (h107 : f 107 = g 107) (h108 : f 108 = g 108) (h109 : f 109 = g 109) (hlo : ∀ i, i < 98 → f i = g i) (hhi : ∀ i, 110 ≤ i → f i = g i) : f = g := by
  funext i
  by_cases c1 : i < 98
  · exact hlo i c1
  by_cases c2 : 110 ≤ i
  · exact hhi i c2
  have : i = 98 ∨ i = 99 ∨ i = 100 ∨ i = 101 ∨ i = 102 ∨ i = 103 ∨ i = 104 ∨ i = 105 ∨ i = 106 ∨ i = 107 ∨ i = 108 ∨ i = 109 := by omega
  rcases this with rfl | rfl | rfl | rfl | rfl | rfl | rfl | rfl | rfl | rfl | rfl | rfl <;> assumption
theorem mh99 (h : XH) (nw tp ro rd ud as kp la sz : Nat → Int32) (it mv : Nat → Int64) (ty pl : Int32) (fa : Bool) (un ku : Int32) (ik : Bool) (f : Nat → Int32) : xup (mh h nw tp ro rd ud as kp la sz it mv ty pl fa un ku ik) 99 (IA 43 f) = mh h f tp ro rd ud as kp la sz it mv ty pl fa un ku ik := by
  refine mh_ext rfl rfl rfl rfl rfl rfl rfl rfl rfl rfl rfl rfl (fun i hi => ?_) (fun i hi => ?_)
  · rw [xup_ne _ _ (by omega), mh_lo _ _ _ _ _ _ _ _ _ _ _ _ _ _ _ _ _ _ hi, mh_lo _ _ _ _ _ _ _ _ _ _ _ _ _ _ _ _ _ _ hi]
  · rw [xup_ne _ _ (by omega), mh_hi _ _ _ _ _ _ _ _ _ _ _ _ _ _ _ _ _ _ hi, mh_hi _ _ _ _ _ _ _ _ _ _ _ _ _ _ _ _ _ _ hi]
theorem mh100 (h : XH) (nw tp ro rd ud as kp la sz : Nat → Int32) (it mv : Nat → Int64) (ty pl : Int32) (fa : Bool) (un ku : Int32) (ik : Bool) (f : Nat → Int32) : xup (mh h nw tp ro rd ud as kp la sz it mv ty pl fa un ku ik) 100 (IA 90 f) = mh h nw f ro rd ud as kp la sz it mv ty pl fa un ku ik := by
  refine mh_ext rfl rfl rfl rfl rfl rfl rfl rfl rfl rfl rfl rfl (fun i hi => ?_) (fun i hi => ?_)
  · rw [xup_ne _ _ (by omega), mh_lo _ _ _ _ _ _ _ _ _ _ _ _ _ _ _ _ _ _ hi, mh_lo _ _ _ _ _ _ _ _ _ _ _ _ _ _ _ _ _ _ hi]
  · rw [xup_ne _ _ (by omega), mh_hi _ _ _ _ _ _ _ _ _ _ _ _ _ _ _ _ _ _ hi, mh_hi _ _ _ _ _ _ _ _ _ _ _ _ _ _ _ _ _ _ hi]
theorem mh101 (h : XH) (nw tp ro rd ud as kp la sz : Nat → Int32) (it mv : Nat → Int64) (ty pl : Int32) (fa : Bool) (un ku : Int32) (ik : Bool) (f : Nat → Int32) : xup (mh h nw tp ro rd ud as kp la sz it mv ty pl fa un ku ik) 101 (IA 18 f) = mh h nw tp f rd ud as kp la sz it mv ty pl fa un ku ik := by
  refine mh_ext rfl rfl rfl rfl rfl rfl rfl rfl rfl rfl rfl rfl (fun i hi => ?_) (fun i hi => ?_)
  · rw [xup_ne _ _ (by omega), mh_lo _ _ _ _ _ _ _ _ _ _ _ _ _ _ _ _ _ _ hi, mh_lo _ _ _ _ _ _ _ _ _ _ _ _ _ _ _ _ _ _ hi]
  · rw [xup_ne _ _ (by omega), mh_hi _ _ _ _ _ _ _ _ _ _ _ _ _ _ _ _ _ _ hi, mh_hi _ _ _ _ _ _ _ _ _ _ _ _ _ _ _ _ _ _ hi]
theorem mh102 (h : XH) (nw tp ro rd ud as kp la sz : Nat → Int32) (it mv : Nat → Int64) (ty pl : Int32) (fa : Bool) (un ku : Int32) (ik : Bool) (f : Nat → Int32) : xup (mh h nw tp ro rd ud as kp la sz it mv ty pl fa un ku ik) 102 (IA 16 f) = mh h nw tp ro f ud as kp la sz it mv ty pl fa un ku ik := by
  refine mh_ext rfl rfl rfl rfl rfl rfl rfl rfl rfl rfl rfl rfl (fun i hi => ?_) (fun i hi => ?_)
  · rw [xup_ne _ _ (by omega), mh_lo _ _ _ _ _ _ _ _ _ _ _ _ _ _ _ _ _ _ hi, mh_lo _ _ _ _ _ _ _ _ _ _ _ _ _ _ _ _ _ _ hi]
  · rw [xup_ne _ _ (by omega), mh_hi _ _ _ _ _ _ _ _ _ _ _ _ _ _ _ _ _ _ hi, mh_hi _ _ _ _ _ _ _ _ _ _ _ _ _ _ _ _ _ _ hi]
theorem mh103 (h : XH) (nw tp ro rd ud as kp la sz : Nat → Int32) (it mv : Nat → Int64) (ty pl : Int32) (fa : Bool) (un ku : Int32) (ik : Bool) (f : Nat → Int32) : xup (mh h nw tp ro rd ud as kp la sz it mv ty pl fa un ku ik) 103 (IA 120 f) = mh h nw tp ro rd f as kp la sz it mv ty pl fa un ku ik := by
  refine mh_ext rfl rfl rfl rfl rfl rfl rfl rfl rfl rfl rfl rfl (fun i hi => ?_) (fun i hi => ?_)
  · rw [xup_ne _ _ (by omega), mh_lo _ _ _ _ _ _ _ _ _ _ _ _ _ _ _ _ _ _ hi, mh_lo _ _ _ _ _ _ _ _ _ _ _ _ _ _ _ _ _ _ hi]
  · rw [xup_ne _ _ (by omega), mh_hi _ _ _ _ _ _ _ _ _ _ _ _ _ _ _ _ _ _ hi, mh_hi _ _ _ _ _ _ _ _ _ _ _ _ _ _ _ _ _ _ hi]
theorem mh104 (h : XH) (nw tp ro rd ud as kp la sz : Nat → Int32) (it mv : Nat → Int64) (ty pl : Int32) (fa : Bool) (un ku : Int32) (ik : Bool) (f : Nat → Int32) : xup (mh h nw tp ro rd ud as kp la sz it mv ty pl fa un ku ik) 104 (IA 43 f) = mh h nw tp ro rd ud f kp la sz it mv ty pl fa un ku ik := by
  refine mh_ext rfl rfl rfl rfl rfl rfl rfl rfl rfl rfl rfl rfl (fun i hi => ?_) (fun i hi => ?_)
  · rw [xup_ne _ _ (by omega), mh_lo _ _ _ _ _ _ _ _ _ _ _ _ _ _ _ _ _ _ hi, mh_lo _ _ _ _ _ _ _ _ _ _ _ _ _ _ _ _ _ _ hi]
  · rw [xup_ne _ _ (by omega), mh_hi _ _ _ _ _ _ _ _ _ _ _ _ _ _ _ _ _ _ hi, mh_hi _ _ _ _ _ _ _ _ _ _ _ _ _ _ _ _ _ _ hi]
theorem mh105 (h : XH) (nw tp ro rd ud as kp la sz : Nat → Int32) (it mv : Nat → Int64) (ty pl : Int32) (fa : Bool) (un ku : Int32) (ik : Bool) (f : Nat → Int32) : xup (mh h nw tp ro rd ud as kp la sz it mv ty pl fa un ku ik) 105 (IA 163 f) = mh h nw tp ro rd ud as f la sz it mv ty pl fa un ku ik := by
  refine mh_ext rfl rfl rfl rfl rfl rfl rfl rfl rfl rfl rfl rfl (fun i hi => ?_) (fun i hi => ?_)
  · rw [xup_ne _ _ (by omega), mh_lo _ _ _ _ _ _ _ _ _ _ _ _ _ _ _ _ _ _ hi, mh_lo _ _ _ _ _ _ _ _ _ _ _ _ _ _ _ _ _ _ hi]
  · rw [xup_ne _ _ (by omega), mh_hi _ _ _ _ _ _ _ _ _ _ _ _ _ _ _ _ _ _ hi, mh_hi _ _ _ _ _ _ _ _ _ _ _ _ _ _ _ _ _ _ hi]
theorem mh106 (h : XH) (nw tp ro rd ud as kp la sz : Nat → Int32) (it mv : Nat → Int64) (ty pl : Int32) (fa : Bool) (un ku : Int32) (ik : Bool) (f : Nat → Int32) : xup (mh h nw tp ro rd ud as kp la sz it mv ty pl fa un ku ik) 106 (IA 4 f) = mh h nw tp ro rd ud as kp f sz it mv ty pl fa un ku ik := by
  refine mh_ext rfl rfl rfl rfl rfl rfl rfl rfl rfl rfl rfl rfl (fun i hi => ?_) (fun i hi => ?_)
  · rw [xup_ne _ _ (by omega), mh_lo _ _ _ _ _ _ _ _ _ _ _ _ _ _ _ _ _ _ hi, mh_lo _ _ _ _ _ _ _ _ _ _ _ _ _ _ _ _ _ _ hi]
  · rw [xup_ne _ _ (by omega), mh_hi _ _ _ _ _ _ _ _ _ _ _ _ _ _ _ _ _ _ hi, mh_hi _ _ _ _ _ _ _ _ _ _ _ _ _ _ _ _ _ _ hi]
theorem mh107 (h : XH) (nw tp ro rd ud as kp la sz : Nat → Int32) (it mv : Nat → Int64) (ty pl : Int32) (fa : Bool) (un ku : Int32) (ik : Bool) (f : Nat → Int32) : xup (mh h nw tp ro rd ud as kp la sz it mv ty pl fa un ku ik) 107 (IA 4 f) = mh h nw tp ro rd ud as kp la f it mv ty pl fa un ku ik := by
  refine mh_ext rfl rfl rfl rfl rfl rfl rfl rfl rfl rfl rfl rfl (fun i hi => ?_) (fun i hi => ?_)
  · rw [xup_ne _ _ (by omega), mh_lo _ _ _ _ _ _ _ _ _ _ _ _ _ _ _ _ _ _ hi, mh_lo _ _ _ _ _ _ _ _ _ _ _ _ _ _ _ _ _ _ hi]
  · rw [xup_ne _ _ (by omega), mh_hi _ _ _ _ _ _ _ _ _ _ _ _ _ _ _ _ _ _ hi, mh_hi _ _ _ _ _ _ _ _ _ _ _ _ _ _ _ _ _ _ hi]
theorem mh108 (h : XH) (nw tp ro rd ud as kp la sz : Nat → Int32) (it mv : Nat → Int64) (ty pl : Int32) (fa : Bool) (un ku : Int32) (ik : Bool) (f : Nat → Int64) : xup (mh h nw tp ro rd ud as kp la sz it mv ty pl fa un ku ik) 108 (LA 96 f) = mh h nw tp ro rd ud as kp la sz f mv ty pl fa un ku ik := by
  refine mh_ext rfl rfl rfl rfl rfl rfl rfl rfl rfl rfl rfl rfl (fun i hi => ?_) (fun i hi => ?_)
  · rw [xup_ne _ _ (by omega), mh_lo _ _ _ _ _ _ _ _ _ _ _ _ _ _ _ _ _ _ hi, mh_lo _ _ _ _ _ _ _ _ _ _ _ _ _ _ _ _ _ _ hi]
  · rw [xup_ne _ _ (by omega), mh_hi _ _ _ _ _ _ _ _ _ _ _ _ _ _ _ _ _ _ hi, mh_hi _ _ _ _ _ _ _ _ _ _ _ _ _ _ _ _ _ _ hi]
theorem mh109 (h : XH) (nw tp ro rd ud as kp la sz : Nat → Int32) (it mv : Nat → Int64) (ty pl : Int32) (fa : Bool) (un ku : Int32) (ik : Bool) (f : Nat → Int64) : xup (mh h nw tp ro rd ud as kp la sz it mv ty pl fa un ku ik) 109 (LA 24 f) = mh h nw tp ro rd ud as kp la sz it f ty pl fa un ku ik := by
  refine mh_ext rfl rfl rfl rfl rfl rfl rfl rfl rfl rfl rfl rfl (fun i hi => ?_) (fun i hi => ?_)
  · rw [xup_ne _ _ (by omega), mh_lo _ _ _ _ _ _ _ _ _ _ _ _ _ _ _ _ _ _ hi, mh_lo _ _ _ _ _ _ _ _ _ _ _ _ _ _ _ _ _ _ hi]
  · rw [xup_ne _ _ (by omega), mh_hi _ _ _ _ _ _ _ _ _ _ _ _ _ _ _ _ _ _ hi, mh_hi _ _ _ _ _ _ _ _ _ _ _ _ _ _ _ _ _ _ hi]
theorem mh98_2 (h : XH) (nw tp ro rd ud as kp la sz : Nat → Int32) (it mv : Nat → Int64) (ty pl : Int32) (fa : Bool) (un ku : Int32) (ik : Bool) (f : Int32) : xup (mh h nw tp ro rd ud as kp la sz it mv ty pl fa un ku ik) 98 (.inr (7, (mfs ty pl fa un ku ik).set 2 (.int f))) = mh h nw tp ro rd ud as kp la sz it mv f pl fa un ku ik := by
  refine mh_ext rfl rfl rfl rfl rfl rfl rfl rfl rfl rfl rfl rfl (fun i hi => ?_) (fun i hi => ?_)
  · rw [xup_ne _ _ (by omega), mh_lo _ _ _ _ _ _ _ _ _ _ _ _ _ _ _ _ _ _ hi, mh_lo _ _ _ _ _ _ _ _ _ _ _ _ _ _ _ _ _ _ hi]
  · rw [xup_ne _ _ (by omega), mh_hi _ _ _ _ _ _ _ _ _ _ _ _ _ _ _ _ _ _ hi, mh_hi _ _ _ _ _ _ _ _ _ _ _ _ _ _ _ _ _ _ hi]
theorem mh98_3 (h : XH) (nw tp ro rd ud as kp la sz : Nat → Int32) (it mv : Nat → Int64) (ty pl : Int32) (fa : Bool) (un ku : Int32) (ik : Bool) (f : Int32) : xup (mh h nw tp ro rd ud as kp la sz it mv ty pl fa un ku ik) 98 (.inr (7, (mfs ty pl fa un ku ik).set 3 (.int f))) = mh h nw tp ro rd ud as kp la sz it mv ty f fa un ku ik := by
  refine mh_ext rfl rfl rfl rfl rfl rfl rfl rfl rfl rfl rfl rfl (fun i hi => ?_) (fun i hi => ?_)
  · rw [xup_ne _ _ (by omega), mh_lo _ _ _ _ _ _ _ _ _ _ _ _ _ _ _ _ _ _ hi, mh_lo _ _ _ _ _ _ _ _ _ _ _ _ _ _ _ _ _ _ hi]
  · rw [xup_ne _ _ (by omega), mh_hi _ _ _ _ _ _ _ _ _ _ _ _ _ _ _ _ _ _ hi, mh_hi _ _ _ _ _ _ _ _ _ _ _ _ _ _ _ _ _ _ hi]
theorem mh98_4 (h : XH) (nw tp ro rd ud as kp la sz : Nat → Int32) (it mv : Nat → Int64) (ty pl : Int32) (fa : Bool) (un ku : Int32) (ik : Bool) (f : Bool) : xup (mh h nw tp ro rd ud as kp la sz it mv ty pl fa un ku ik) 98 (.inr (7, (mfs ty pl fa un ku ik).set 4 (.int (bI f)))) = mh h nw tp ro rd ud as kp la sz it mv ty pl f un ku ik := by
  refine mh_ext rfl rfl rfl rfl rfl rfl rfl rfl rfl rfl rfl rfl (fun i hi => ?_) (fun i hi => ?_)
  · rw [xup_ne _ _ (by omega), mh_lo _ _ _ _ _ _ _ _ _ _ _ _ _ _ _ _ _ _ hi, mh_lo _ _ _ _ _ _ _ _ _ _ _ _ _ _ _ _ _ _ hi]
  · rw [xup_ne _ _ (by omega), mh_hi _ _ _ _ _ _ _ _ _ _ _ _ _ _ _ _ _ _ hi, mh_hi _ _ _ _ _ _ _ _ _ _ _ _ _ _ _ _ _ _ hi]
theorem mh98_8 (h : XH) (nw tp ro rd ud as kp la sz : Nat → Int32) (it mv : Nat → Int64) (ty pl : Int32) (fa : Bool) (un ku : Int32) (ik : Bool) (f : Int32) : xup (mh h nw tp ro rd ud as kp la sz it mv ty pl fa un ku ik) 98 (.inr (7, (mfs ty pl fa un ku ik).set 8 (.int f))) = mh h nw tp ro rd ud as kp la sz it mv ty pl fa f ku ik := by
  refine mh_ext rfl rfl rfl rfl rfl rfl rfl rfl rfl rfl rfl rfl (fun i hi => ?_) (fun i hi => ?_)
  · rw [xup_ne _ _ (by omega), mh_lo _ _ _ _ _ _ _ _ _ _ _ _ _ _ _ _ _ _ hi, mh_lo _ _ _ _ _ _ _ _ _ _ _ _ _ _ _ _ _ _ hi]
  · rw [xup_ne _ _ (by omega), mh_hi _ _ _ _ _ _ _ _ _ _ _ _ _ _ _ _ _ _ hi, mh_hi _ _ _ _ _ _ _ _ _ _ _ _ _ _ _ _ _ _ hi]
theorem mh98_11 (h : XH) (nw tp ro rd ud as kp la sz : Nat → Int32) (it mv : Nat → Int64) (ty pl : Int32) (fa : Bool) (un ku : Int32) (ik : Bool) (f : Int32) : xup (mh h nw tp ro rd ud as kp la sz it mv ty pl fa un ku ik) 98 (.inr (7, (mfs ty pl fa un ku ik).set 11 (.int f))) = mh h nw tp ro rd ud as kp la sz it mv ty pl fa un f ik := by
  refine mh_ext rfl rfl rfl rfl rfl rfl rfl rfl rfl rfl rfl rfl (fun i hi => ?_) (fun i hi => ?_)
  · rw [xup_ne _ _ (by omega), mh_lo _ _ _ _ _ _ _ _ _ _ _ _ _ _ _ _ _ _ hi, mh_lo _ _ _ _ _ _ _ _ _ _ _ _ _ _ _ _ _ _ hi]
  · rw [xup_ne _ _ (by omega), mh_hi _ _ _ _ _ _ _ _ _ _ _ _ _ _ _ _ _ _ hi, mh_hi _ _ _ _ _ _ _ _ _ _ _ _ _ _ _ _ _ _ hi]
theorem mh98_12 (h : XH) (nw tp ro rd ud as kp la sz : Nat → Int32) (it mv : Nat → Int64) (ty pl : Int32) (fa : Bool) (un ku : Int32) (ik : Bool) (f : Bool) : xup (mh h nw tp ro rd ud as kp la sz it mv ty pl fa un ku ik) 98 (.inr (7, (mfs ty pl fa un ku ik).set 12 (.int (bI f)))) = mh h nw tp ro rd ud as kp la sz it mv ty pl fa un ku f := by
  refine mh_ext rfl rfl rfl rfl rfl rfl rfl rfl rfl rfl rfl rfl (fun i hi => ?_) (fun i hi => ?_)
  · rw [xup_ne _ _ (by omega), mh_lo _ _ _ _ _ _ _ _ _ _ _ _ _ _ _ _ _ _ hi, mh_lo _ _ _ _ _ _ _ _ _ _ _ _ _ _ _ _ _ _ hi]
  · rw [xup_ne _ _ (by omega), mh_hi _ _ _ _ _ _ _ _ _ _ _ _ _ _ _ _ _ _ hi, mh_hi _ _ _ _ _ _ _ _ _ _ _ _ _ _ _ _ _ _ hi]
theorem mh_low (h : XH) (nw tp ro rd ud as kp la sz : Nat → Int32) (it mv : Nat → Int64) (ty pl : Int32) (fa : Bool) (un ku : Int32) (ik : Bool) {a : Nat} (ha : a < 98) (c : XC) : xup (mh h nw tp ro rd ud as kp la sz it mv ty pl fa un ku ik) a c = mh (xup h a c) nw tp ro rd ud as kp la sz it mv ty pl fa un ku ik := by
  refine mh_ext (by rw [xup_ne _ _ (by omega)]; rfl) (by rw [xup_ne _ _ (by omega)]; rfl) (by rw [xup_ne _ _ (by omega)]; rfl) (by rw [xup_ne _ _ (by omega)]; rfl) (by rw [xup_ne _ _ (by omega)]; rfl) (by rw [xup_ne _ _ (by omega)]; rfl) (by rw [xup_ne _ _ (by omega)]; rfl) (by rw [xup_ne _ _ (by omega)]; rfl) (by rw [xup_ne _ _ (by omega)]; rfl) (by rw [xup_ne _ _ (by omega)]; rfl) (by rw [xup_ne _ _ (by omega)]; rfl) (by rw [xup_ne _ _ (by omega)]; rfl) (fun i hi => ?_) (fun i hi => ?_)
  · rw [mh_lo _ _ _ _ _ _ _ _ _ _ _ _ _ _ _ _ _ _ hi]
    by_cases hia : i = a
    · subst hia; rw [xup_eq, xup_eq]
    · rw [xup_ne _ _ hia, xup_ne _ _ hia, mh_lo _ _ _ _ _ _ _ _ _ _ _ _ _ _ _ _ _ _ hi]
  · rw [mh_hi _ _ _ _ _ _ _ _ _ _ _ _ _ _ _ _ _ _ hi, xup_ne _ _ (by omega), xup_ne _ _ (by omega), mh_hi _ _ _ _ _ _ _ _ _ _ _ _ _ _ _ _ _ _ hi]
theorem mh_MO {h : XH} {nw tp ro rd ud as kp la sz : Nat → Int32} {it mv : Nat → Int64} {ty pl : Int32} {fa : Bool} {un ku : Int32} {ik : Bool} : MO (mh h nw tp ro rd ud as kp la sz it mv ty pl fa un ku ik) nw := ⟨⟨ty, pl, fa, un, ku, ik, rfl⟩, rfl⟩
