/-! the class: its small methods -/
theorem xfit0 (d c s : Nat) : XFit (xR (d + 1, c, s)) 0 := ⟨by show 0 + 1 ≤ d + 1; omega, by show 39 * 0 + 39 ≤ 39 * (d + 1); omega⟩
theorem c_X6_within (d : Nat) (h : XH) (x a b : Int32) : MetI mX6_within (d, 0, 0) [.int x, .int a, .int b] h (bI (inI x a b)) := by
  refine MetX.of (by decide) rfl (Nat.le_of_ble_eq_true rfl) ?_
  refine X.iload iX6_within_0 rfl ?_
  refine X.iload iX6_within_1 rfl ?_
  refine X.cmlt iX6_within_2 (fun c2 => ?_) (fun c2 => ?_)
  · refine X.pushi (v := nI 0) iX6_within_14 ?_
    first
    | (refine X.zret (x := true) iX6_within_15 ⟨?_, rfl⟩; rw [inI, decide_eq_true (And.intro (Int32.not_lt.mp c2) (Int32.not_lt.mp c7))])
    | (refine X.zret (x := false) iX6_within_15 ⟨?_, rfl⟩; rw [inI, decide_eq_false (fun q => Int32.not_lt.mpr q.2 c7)])
    | (refine X.zret (x := false) iX6_within_15 ⟨?_, rfl⟩; rw [inI, decide_eq_false (fun q => Int32.not_lt.mpr q.1 c2)])
  · refine X.iload iX6_within_5 rfl ?_
    refine X.iload iX6_within_6 rfl ?_
    refine X.cmgt iX6_within_7 (fun c7 => ?_) (fun c7 => ?_)
    · refine X.pushi (v := nI 0) iX6_within_14 ?_
      first
      | (refine X.zret (x := true) iX6_within_15 ⟨?_, rfl⟩; rw [inI, decide_eq_true (And.intro (Int32.not_lt.mp c2) (Int32.not_lt.mp c7))])
      | (refine X.zret (x := false) iX6_within_15 ⟨?_, rfl⟩; rw [inI, decide_eq_false (fun q => Int32.not_lt.mpr q.2 c7)])
      | (refine X.zret (x := false) iX6_within_15 ⟨?_, rfl⟩; rw [inI, decide_eq_false (fun q => Int32.not_lt.mpr q.1 c2)])
    · refine X.pushi (v := nI 1) iX6_within_10 ?_
      refine X.goto iX6_within_11 ?_
      first
      | (refine X.zret (x := true) iX6_within_15 ⟨?_, rfl⟩; rw [inI, decide_eq_true (And.intro (Int32.not_lt.mp c2) (Int32.not_lt.mp c7))])
      | (refine X.zret (x := false) iX6_within_15 ⟨?_, rfl⟩; rw [inI, decide_eq_false (fun q => Int32.not_lt.mpr q.2 c7)])
      | (refine X.zret (x := false) iX6_within_15 ⟨?_, rfl⟩; rw [inI, decide_eq_false (fun q => Int32.not_lt.mpr q.1 c2)])
theorem c_X6_reachOfDewy (d : Nat) (h : XH) (l day : Int32) : MetI mX6_reachOfDewy (d, 0, 0) [.int l, .int day] h (dewyI l day) := by
  refine MetX.of (by decide) rfl (Nat.le_of_ble_eq_true rfl) ?_
  refine X.iload iX6_reachOfDewy_0 rfl ?_
  refine X.pushi (v := nI 3) iX6_reachOfDewy_1 ?_
  refine X.irem iX6_reachOfDewy_2 (by decide) ?_
  refine X.ifne iX6_reachOfDewy_3 (fun c3 => ?_) (fun c3 => ?_)
  · refine X.iload iX6_reachOfDewy_15 rfl ?_
    first
    | (refine X.iret iX6_reachOfDewy_16 ⟨?_, rfl⟩; rw [dewyI, if_pos (And.intro c3 (Int32.not_le.mp c8))])
    | (refine X.iret iX6_reachOfDewy_16 ⟨?_, rfl⟩; rw [dewyI, if_neg (fun q => Int32.not_le.mpr q.2 c8)])
    | (refine X.iret iX6_reachOfDewy_16 ⟨?_, rfl⟩; rw [dewyI, if_neg (fun q => c3 q.1)])
  · refine X.iload iX6_reachOfDewy_6 rfl ?_
    refine X.pushi (v := nI 2) iX6_reachOfDewy_7 ?_
    refine X.cmle iX6_reachOfDewy_8 (fun c8 => ?_) (fun c8 => ?_)
    · refine X.iload iX6_reachOfDewy_15 rfl ?_
      first
      | (refine X.iret iX6_reachOfDewy_16 ⟨?_, rfl⟩; rw [dewyI, if_pos (And.intro c3 (Int32.not_le.mp c8))])
      | (refine X.iret iX6_reachOfDewy_16 ⟨?_, rfl⟩; rw [dewyI, if_neg (fun q => Int32.not_le.mpr q.2 c8)])
      | (refine X.iret iX6_reachOfDewy_16 ⟨?_, rfl⟩; rw [dewyI, if_neg (fun q => c3 q.1)])
    · refine X.pushi (v := nI 2) iX6_reachOfDewy_11 ?_
      refine X.goto iX6_reachOfDewy_12 ?_
      first
      | (refine X.iret iX6_reachOfDewy_16 ⟨?_, rfl⟩; rw [dewyI, if_pos (And.intro c3 (Int32.not_le.mp c8))])
      | (refine X.iret iX6_reachOfDewy_16 ⟨?_, rfl⟩; rw [dewyI, if_neg (fun q => Int32.not_le.mpr q.2 c8)])
      | (refine X.iret iX6_reachOfDewy_16 ⟨?_, rfl⟩; rw [dewyI, if_neg (fun q => c3 q.1)])
theorem c_X6_reachOfTied (d : Nat) (h : XH) (l : Int32) : MetI mX6_reachOfTied (d, 0, 0) [.int l] h (nI 2 * l) := by
  refine MetX.of (by decide) rfl (Nat.le_of_ble_eq_true rfl) ?_
  refine X.pushi (v := nI 2) iX6_reachOfTied_0 ?_
  refine X.iload iX6_reachOfTied_1 rfl ?_
  refine X.imul iX6_reachOfTied_2 ?_
  exact X.iret iX6_reachOfTied_3 ⟨rfl, rfl⟩
theorem i34 {l : Int32} (h : ¬ l < nI 4) : nI 3 < l := by
  have h1 := Int32.not_lt.mp h
  rw [Int32.le_iff_toInt_le, nI_toInt (by decide)] at h1
  rw [Int32.lt_iff_toInt_lt, nI_toInt (by decide)]
  omega
theorem i43 {l : Int32} (h : l < nI 4) : ¬ nI 3 < l := by
  rw [Int32.lt_iff_toInt_lt, nI_toInt (by decide)] at h
  rw [Int32.lt_iff_toInt_lt, nI_toInt (by decide)]
  omega
theorem c_X6_reachOfKind {d k : Nat} {h : XH} (l day : Int32) (hk : k < 5) : MetI mX6_reachOfKind (d + 1, 0, 0) [.int (nI k), .int l, .int day] h (reachI (nI k) l day) := by
  refine MetX.of (by decide) rfl (Nat.le_of_ble_eq_true rfl) ?_
  refine X.iload iX6_reachOfKind_0 rfl ?_
  match k, hk with
  | 0, _ =>
    refine X.tabOut iX6_reachOfKind_1 (by decide) ?_
    refine X.iload iX6_reachOfKind_82 rfl ?_
    exact X.iret iX6_reachOfKind_83 ⟨rfl, rfl⟩
  | 1, _ =>
    refine X.tabIn iX6_reachOfKind_1 0 rfl (by decide) ?_
    refine X.iload iX6_reachOfKind_32 rfl ?_
    refine X.iload iX6_reachOfKind_33 rfl ?_
    refine X.callSi iX6_reachOfKind_34 (c_X6_reachOfDewy d h l day) rfl rfl (xfit _ _ _) (Nat.le_of_ble_eq_true rfl) ?_
    exact X.iret iX6_reachOfKind_37 ⟨rfl, rfl⟩
  | 2, _ =>
    refine X.tabIn iX6_reachOfKind_1 1 rfl (by decide) ?_
    refine X.iload iX6_reachOfKind_38 rfl ?_
    refine X.callSi iX6_reachOfKind_39 (c_X6_reachOfTied d h l) rfl rfl (xfit _ _ _) (Nat.le_of_ble_eq_true rfl) ?_
    exact X.iret iX6_reachOfKind_42 ⟨rfl, rfl⟩
  | 3, _ =>
    refine X.tabIn iX6_reachOfKind_1 2 rfl (by decide) ?_
    have e : reachI (nI 3) l day = if nI 3 < l ∧ nI 3 < dewyI l day then nI 3 else dewyI l day := rfl
    rw [e]
    refine X.iload iX6_reachOfKind_43 rfl ?_
    refine X.pushi (v := nI 4) iX6_reachOfKind_44 ?_
    refine X.cmlt iX6_reachOfKind_45 (fun c45 => ?_) (fun c45 => ?_)
    · refine X.iload iX6_reachOfKind_60 rfl ?_
      refine X.iload iX6_reachOfKind_61 rfl ?_
      refine X.callSi iX6_reachOfKind_62 (c_X6_reachOfDewy d h l day) rfl rfl (xfit _ _ _) (Nat.le_of_ble_eq_true rfl) ?_
      first
      | (refine X.iret iX6_reachOfKind_65 ⟨?_, rfl⟩; rw [if_neg (fun q => i43 c45 q.1)])
      | (by_cases q : nI 3 < dewyI l day; refine X.iret iX6_reachOfKind_65 ⟨?_, rfl⟩; rw [if_pos q, if_pos (And.intro (i34 c45) q)]; refine X.iret iX6_reachOfKind_65 ⟨?_, rfl⟩; rw [if_neg q, if_neg (fun z => q z.2)])
    · refine X.iload iX6_reachOfKind_48 rfl ?_
      refine X.iload iX6_reachOfKind_49 rfl ?_
      refine X.callSi iX6_reachOfKind_50 (c_X6_reachOfDewy d h l day) rfl rfl (xfit _ _ _) (Nat.le_of_ble_eq_true rfl) ?_
      refine X.pushi (v := nI 3) iX6_reachOfKind_53 ?_
      refine X.mmin iX6_reachOfKind_54 (xfit0 _ _ _) (Nat.le_of_ble_eq_true rfl) ?_
      refine X.goto iX6_reachOfKind_57 ?_
      first
      | (refine X.iret iX6_reachOfKind_65 ⟨?_, rfl⟩; rw [if_neg (fun q => i43 c45 q.1)])
      | (by_cases q : nI 3 < dewyI l day; refine X.iret iX6_reachOfKind_65 ⟨?_, rfl⟩; rw [if_pos q, if_pos (And.intro (i34 c45) q)]; refine X.iret iX6_reachOfKind_65 ⟨?_, rfl⟩; rw [if_neg q, if_neg (fun z => q z.2)])
  | 4, _ =>
    refine X.tabIn iX6_reachOfKind_1 3 rfl (by decide) ?_
    have e : reachI (nI 4) l day = if day - day / nI 7 * nI 7 = 0 then nI 0 else nI 2 * l := rfl
    rw [e]
    refine X.iload iX6_reachOfKind_66 rfl ?_
    refine X.pushi (v := nI 7) iX6_reachOfKind_67 ?_
    refine X.irem iX6_reachOfKind_69 (by decide) ?_
    refine X.ifne iX6_reachOfKind_70 (fun c70 => ?_) (fun c70 => ?_)
    · refine X.iload iX6_reachOfKind_77 rfl ?_
      refine X.callSi iX6_reachOfKind_78 (c_X6_reachOfTied d h l) rfl rfl (xfit _ _ _) (Nat.le_of_ble_eq_true rfl) ?_
      first
      | (refine X.iret iX6_reachOfKind_81 ⟨?_, rfl⟩; rw [if_pos c70])
      | (refine X.iret iX6_reachOfKind_81 ⟨?_, rfl⟩; rw [if_neg c70])
    · refine X.pushi (v := nI 0) iX6_reachOfKind_73 ?_
      refine X.goto iX6_reachOfKind_74 ?_
      first
      | (refine X.iret iX6_reachOfKind_81 ⟨?_, rfl⟩; rw [if_pos c70])
      | (refine X.iret iX6_reachOfKind_81 ⟨?_, rfl⟩; rw [if_neg c70])
  | k + 5, hk => omega
/-- how many bits, as the library counts them -/
def ush (x y : Int32) : Int32 := (x.toUInt32 >>> (y.toUInt32 &&& Int32.toUInt32 31)).toInt32
def bc1 (x : Int32) : Int32 := x - (ush x (nI 1) &&& 1431655765)
def bc2 (a : Int32) : Int32 := (a &&& 858993459) + (ush a (nI 2) &&& 858993459)
def bc3 (a : Int32) : Int32 := (a + ush a (nI 4)) &&& 252645135
def bc4 (a : Int32) : Int32 := a + ush a 8
def bc5 (a : Int32) : Int32 := a + ush a 16
def bcI (x : Int32) : Int32 := bc5 (bc4 (bc3 (bc2 (bc1 x)))) &&& 63
theorem c_bitCount (d : Nat) (h : XH) (x : Int32) : MetI mJ6_bitCount_0f7a4 (d, 0, 0) [.int x] h (bcI x) := by
  refine MetX.of (by decide) rfl (Nat.le_of_ble_eq_true rfl) ?_
  refine X.iload iJ6_bitCount_0f7a4_0 rfl ?_
  refine X.iload iJ6_bitCount_0f7a4_1 rfl ?_
  refine X.pushi (v := nI 1) iJ6_bitCount_0f7a4_2 ?_
  refine X.iushr iJ6_bitCount_0f7a4_3 ?_
  refine X.pushi (v := nI 1431655765) iJ6_bitCount_0f7a4_4 ?_
  refine X.iand iJ6_bitCount_0f7a4_7 ?_
  refine X.isub iJ6_bitCount_0f7a4_8 ?_
  refine X.istore iJ6_bitCount_0f7a4_9 rfl rfl ?_
  refine X.iload iJ6_bitCount_0f7a4_10 rfl ?_
  refine X.pushi (v := nI 858993459) iJ6_bitCount_0f7a4_11 ?_
  refine X.iand iJ6_bitCount_0f7a4_14 ?_
  refine X.iload iJ6_bitCount_0f7a4_15 rfl ?_
  refine X.pushi (v := nI 2) iJ6_bitCount_0f7a4_16 ?_
  refine X.iushr iJ6_bitCount_0f7a4_17 ?_
  refine X.pushi (v := nI 858993459) iJ6_bitCount_0f7a4_18 ?_
  refine X.iand iJ6_bitCount_0f7a4_21 ?_
  refine X.iadd iJ6_bitCount_0f7a4_22 ?_
  refine X.istore iJ6_bitCount_0f7a4_23 rfl rfl ?_
  refine X.iload iJ6_bitCount_0f7a4_24 rfl ?_
  refine X.iload iJ6_bitCount_0f7a4_25 rfl ?_
  refine X.pushi (v := nI 4) iJ6_bitCount_0f7a4_26 ?_
  refine X.iushr iJ6_bitCount_0f7a4_27 ?_
  refine X.iadd iJ6_bitCount_0f7a4_28 ?_
  refine X.pushi (v := nI 252645135) iJ6_bitCount_0f7a4_29 ?_
  refine X.iand iJ6_bitCount_0f7a4_32 ?_
  refine X.istore iJ6_bitCount_0f7a4_33 rfl rfl ?_
  refine X.iload iJ6_bitCount_0f7a4_34 rfl ?_
  refine X.iload iJ6_bitCount_0f7a4_35 rfl ?_
  refine X.pushi (v := nI 8) iJ6_bitCount_0f7a4_36 ?_
  refine X.iushr iJ6_bitCount_0f7a4_38 ?_
  refine X.iadd iJ6_bitCount_0f7a4_39 ?_
  refine X.istore iJ6_bitCount_0f7a4_40 rfl rfl ?_
  refine X.iload iJ6_bitCount_0f7a4_41 rfl ?_
  refine X.iload iJ6_bitCount_0f7a4_42 rfl ?_
  refine X.pushi (v := nI 16) iJ6_bitCount_0f7a4_43 ?_
  refine X.iushr iJ6_bitCount_0f7a4_45 ?_
  refine X.iadd iJ6_bitCount_0f7a4_46 ?_
  refine X.istore iJ6_bitCount_0f7a4_47 rfl rfl ?_
  refine X.iload iJ6_bitCount_0f7a4_48 rfl ?_
  refine X.pushi (v := nI 63) iJ6_bitCount_0f7a4_49 ?_
  refine X.iand iJ6_bitCount_0f7a4_51 ?_
  exact X.iret iJ6_bitCount_0f7a4_52 ⟨rfl, rfl⟩
/-- a set of places, by its bits -/
def bits (b : Nat → Bool) : Nat → Int32
  | 0 => nI 0
  | k + 1 => bits b k ||| (if b k = true then bitI k else nI 0)
def cnt (b : Nat → Bool) : Nat → Nat
  | 0 => 0
  | k + 1 => cnt b k + (if b k = true then 1 else 0)
theorem bits_t {b : Nat → Bool} {k : Nat} (h : b k = true) : bits b (k + 1) = bits b k ||| bitI k := by rw [bits, if_pos h]
theorem bits_f {b : Nat → Bool} {k : Nat} (h : b k = false) : bits b (k + 1) = bits b k := by
  rw [bits, if_neg (fun q => Bool.noConfusion (h.symm.trans q))]
  exact Int32.or_zero
def tst (s : Int32) (l : Nat) : Bool := decide (¬ s >>> (nI l &&& 31) &&& nI 1 = 0)
theorem bcI_bits (b : Nat → Bool) {n : Nat} (hn : n ≤ 4) : bcI (bits b n) = nI (cnt b n) := by
  match n, hn with
  | 0, _ => simp only [bits, cnt]; decide
  | 1, _ => simp only [bits, cnt]; cases b 0 <;> decide
  | 2, _ => simp only [bits, cnt]; cases b 0 <;> cases b 1 <;> decide
  | 3, _ => simp only [bits, cnt]; cases b 0 <;> cases b 1 <;> cases b 2 <;> decide
  | 4, _ => simp only [bits, cnt]; cases b 0 <;> cases b 1 <;> cases b 2 <;> cases b 3 <;> decide
theorem tst_bits (b : Nat → Bool) {n l : Nat} (hn : n ≤ 4) (hl : l < n) : tst (bits b n) l = b l := by
  match n, hn, l, hl with
  | 1, _, 0, _ => simp only [bits]; cases b 0 <;> decide
  | 2, _, 0, _ => simp only [bits]; cases b 0 <;> cases b 1 <;> decide
  | 2, _, 1, _ => simp only [bits]; cases b 0 <;> cases b 1 <;> decide
  | 3, _, 0, _ => simp only [bits]; cases b 0 <;> cases b 1 <;> cases b 2 <;> decide
  | 3, _, 1, _ => simp only [bits]; cases b 0 <;> cases b 1 <;> cases b 2 <;> decide
  | 3, _, 2, _ => simp only [bits]; cases b 0 <;> cases b 1 <;> cases b 2 <;> decide
  | 4, _, 0, _ => simp only [bits]; cases b 0 <;> cases b 1 <;> cases b 2 <;> cases b 3 <;> decide
  | 4, _, 1, _ => simp only [bits]; cases b 0 <;> cases b 1 <;> cases b 2 <;> cases b 3 <;> decide
  | 4, _, 2, _ => simp only [bits]; cases b 0 <;> cases b 1 <;> cases b 2 <;> cases b 3 <;> decide
  | 4, _, 3, _ => simp only [bits]; cases b 0 <;> cases b 1 <;> cases b 2 <;> cases b 3 <;> decide
theorem cnt_cong {b c : Nat → Bool} : ∀ n, (∀ l, l < n → b l = c l) → cnt b n = cnt c n
  | 0, _ => rfl
  | k + 1, h => by rw [cnt, cnt, h k (by omega), cnt_cong k (fun l hl => h l (by omega))]
theorem bits_cong {b c : Nat → Bool} : ∀ n, (∀ l, l < n → b l = c l) → bits b n = bits c n
  | 0, _ => rfl
  | k + 1, h => by rw [bits, bits, h k (by omega), bits_cong k (fun l hl => h l (by omega))]
/-- an Orchard's cells; a Moment's -/
abbrev ofs (o : Nat) (nT nL ba wa : Int32) : List Value := [.int nT, .int nL, .int ba, .int wa, .ref (o + 1), .ref (o + 2), .ref (o + 3), .ref (o + 4), .ref (o + 5), .ref (o + 6)]
abbrev mofs (m : Nat) (got paid lost day draw : Int32) : List Value := [.ref (m + 1), .ref (m + 2), .int got, .int paid, .int lost, .int day, .int draw]
def OR (h : XH) (o : Nat) (nT nL ba wa : Int32) (hi ri ki le pr : Nat → Int32) : Prop := h o = some (.inr (3, ofs o nT nL ba wa)) ∧ h (o + 1) = some (IA 6 hi) ∧ h (o + 2) = some (IA 6 ri) ∧ h (o + 3) = some (IA 4 ki) ∧ h (o + 4) = some (IA 4 le) ∧ h (o + 5) = some (IA 4 pr)
def MM (h : XH) (m : Nat) (fr ln : Nat → Int32) (got paid lost day draw : Int32) : Prop := h m = some (.inr (2, mofs m got paid lost day draw)) ∧ h (m + 1) = some (IA 6 fr) ∧ h (m + 2) = some (IA 4 ln)
def hasI (n x : Int32) : Bool := decide (¬ x < 0 ∧ x < n)
theorem c_X3_hasTree {d o : Nat} {h : XH} {nT nL ba wa t : Int32} {hi ri ki le pr : Nat → Int32} (H : OR h o nT nL ba wa hi ri ki le pr) : MetI mX3_hasTree (d, 0, 0) [.ref o, .int t] h (bI (hasI nT t)) := by
  obtain ⟨h0, h1, h2, h3, h4, h5⟩ := H
  refine MetX.of (by decide) rfl (Nat.le_of_ble_eq_true rfl) ?_
  refine X.iload iX3_hasTree_0 rfl ?_
  refine X.iflt iX3_hasTree_1 (fun c1 => ?_) (fun c1 => ?_)
  · refine X.pushi (v := nI 0) iX3_hasTree_16 ?_
    first
    | (refine X.zret (x := true) iX3_hasTree_17 ⟨?_, rfl⟩; rw [hasI, decide_eq_true (And.intro c1 (Int32.not_le.mp c9))])
    | (refine X.zret (x := false) iX3_hasTree_17 ⟨?_, rfl⟩; rw [hasI, decide_eq_false (fun q => Int32.not_le.mpr q.2 c9)])
    | (refine X.zret (x := false) iX3_hasTree_17 ⟨?_, rfl⟩; rw [hasI, decide_eq_false (fun q => q.1 c1)])
  · refine X.iload iX3_hasTree_4 rfl ?_
    refine X.aload iX3_hasTree_5 rfl ?_
    refine X.getf iX3_hasTree_6 (by first | rfl | repeat (first | assumption | exact xup_eq _ _ _ | rw [xup_ne _ _ (by first | decide | omega | assumption)])) rfl ?_
    refine X.cmge iX3_hasTree_9 (fun c9 => ?_) (fun c9 => ?_)
    · refine X.pushi (v := nI 0) iX3_hasTree_16 ?_
      first
      | (refine X.zret (x := true) iX3_hasTree_17 ⟨?_, rfl⟩; rw [hasI, decide_eq_true (And.intro c1 (Int32.not_le.mp c9))])
      | (refine X.zret (x := false) iX3_hasTree_17 ⟨?_, rfl⟩; rw [hasI, decide_eq_false (fun q => Int32.not_le.mpr q.2 c9)])
      | (refine X.zret (x := false) iX3_hasTree_17 ⟨?_, rfl⟩; rw [hasI, decide_eq_false (fun q => q.1 c1)])
    · refine X.pushi (v := nI 1) iX3_hasTree_12 ?_
      refine X.goto iX3_hasTree_13 ?_
      first
      | (refine X.zret (x := true) iX3_hasTree_17 ⟨?_, rfl⟩; rw [hasI, decide_eq_true (And.intro c1 (Int32.not_le.mp c9))])
      | (refine X.zret (x := false) iX3_hasTree_17 ⟨?_, rfl⟩; rw [hasI, decide_eq_false (fun q => Int32.not_le.mpr q.2 c9)])
      | (refine X.zret (x := false) iX3_hasTree_17 ⟨?_, rfl⟩; rw [hasI, decide_eq_false (fun q => q.1 c1)])
theorem c_X3_hasLadder {d o : Nat} {h : XH} {nT nL ba wa t : Int32} {hi ri ki le pr : Nat → Int32} (H : OR h o nT nL ba wa hi ri ki le pr) : MetI mX3_hasLadder (d, 0, 0) [.ref o, .int t] h (bI (hasI nL t)) := by
  obtain ⟨h0, h1, h2, h3, h4, h5⟩ := H
  refine MetX.of (by decide) rfl (Nat.le_of_ble_eq_true rfl) ?_
  refine X.iload iX3_hasLadder_0 rfl ?_
  refine X.iflt iX3_hasLadder_1 (fun c1 => ?_) (fun c1 => ?_)
  · refine X.pushi (v := nI 0) iX3_hasLadder_16 ?_
    first
    | (refine X.zret (x := true) iX3_hasLadder_17 ⟨?_, rfl⟩; rw [hasI, decide_eq_true (And.intro c1 (Int32.not_le.mp c9))])
    | (refine X.zret (x := false) iX3_hasLadder_17 ⟨?_, rfl⟩; rw [hasI, decide_eq_false (fun q => Int32.not_le.mpr q.2 c9)])
    | (refine X.zret (x := false) iX3_hasLadder_17 ⟨?_, rfl⟩; rw [hasI, decide_eq_false (fun q => q.1 c1)])
  · refine X.iload iX3_hasLadder_4 rfl ?_
    refine X.aload iX3_hasLadder_5 rfl ?_
    refine X.getf iX3_hasLadder_6 (by first | rfl | repeat (first | assumption | exact xup_eq _ _ _ | rw [xup_ne _ _ (by first | decide | omega | assumption)])) rfl ?_
    refine X.cmge iX3_hasLadder_9 (fun c9 => ?_) (fun c9 => ?_)
    · refine X.pushi (v := nI 0) iX3_hasLadder_16 ?_
      first
      | (refine X.zret (x := true) iX3_hasLadder_17 ⟨?_, rfl⟩; rw [hasI, decide_eq_true (And.intro c1 (Int32.not_le.mp c9))])
      | (refine X.zret (x := false) iX3_hasLadder_17 ⟨?_, rfl⟩; rw [hasI, decide_eq_false (fun q => Int32.not_le.mpr q.2 c9)])
      | (refine X.zret (x := false) iX3_hasLadder_17 ⟨?_, rfl⟩; rw [hasI, decide_eq_false (fun q => q.1 c1)])
    · refine X.pushi (v := nI 1) iX3_hasLadder_12 ?_
      refine X.goto iX3_hasLadder_13 ?_
      first
      | (refine X.zret (x := true) iX3_hasLadder_17 ⟨?_, rfl⟩; rw [hasI, decide_eq_true (And.intro c1 (Int32.not_le.mp c9))])
      | (refine X.zret (x := false) iX3_hasLadder_17 ⟨?_, rfl⟩; rw [hasI, decide_eq_false (fun q => Int32.not_le.mpr q.2 c9)])
      | (refine X.zret (x := false) iX3_hasLadder_17 ⟨?_, rfl⟩; rw [hasI, decide_eq_false (fun q => q.1 c1)])
def KI (ki : Nat → Int32) (nL : Nat) : Prop := ∀ l, l < nL → ∃ k, k < 5 ∧ ki l = nI k
theorem c_X6_reachOfK {d l nL : Nat} {h : XH} {ki : Nat → Int32} (x day : Int32) (hk : KI ki nL) (hl : l < nL) : MetI mX6_reachOfKind (d + 1, 0, 0) [.int (ki l), .int x, .int day] h (reachI (ki l) x day) := by
  obtain ⟨k, h1, h2⟩ := hk l hl
  rw [h2]
  exact c_X6_reachOfKind x day h1
theorem c_X3_reach {d o l nL : Nat} {h : XH} {nT mL ba wa day : Int32} {hi ri ki le pr : Nat → Int32} (H : OR h o nT mL ba wa hi ri ki le pr) (hk : KI ki nL) (hl : l < nL) (hL : nL ≤ 4) : MetI mX3_reach (d + 2, 0, 0) [.ref o, .int (nI l), .int day] h (reachI (ki l) (le l) day) := by
  obtain ⟨h0, h1, h2, h3, h4, h5⟩ := H
  refine MetX.of (by decide) rfl (Nat.le_of_ble_eq_true rfl) ?_
  refine X.aload iX3_reach_0 rfl ?_
  refine X.getf iX3_reach_1 (by first | rfl | repeat (first | assumption | exact xup_eq _ _ _ | rw [xup_ne _ _ (by first | decide | omega | assumption)])) rfl ?_
  refine X.iload iX3_reach_4 rfl ?_
  refine X.ialdE iX3_reach_5 (by first | rfl | repeat (first | assumption | exact xup_eq _ _ _ | rw [xup_ne _ _ (by first | decide | omega | assumption)])) rfl (by omega) (by decide) ?_
  refine X.aload iX3_reach_6 rfl ?_
  refine X.getf iX3_reach_7 (by first | rfl | repeat (first | assumption | exact xup_eq _ _ _ | rw [xup_ne _ _ (by first | decide | omega | assumption)])) rfl ?_
  refine X.iload iX3_reach_10 rfl ?_
  refine X.ialdE iX3_reach_11 (by first | rfl | repeat (first | assumption | exact xup_eq _ _ _ | rw [xup_ne _ _ (by first | decide | omega | assumption)])) rfl (by omega) (by decide) ?_
  refine X.iload iX3_reach_12 rfl ?_
  refine X.callSi iX3_reach_13 (c_X6_reachOfK (d := d) (le l) day hk hl) rfl rfl (xfit _ _ _) (Nat.le_of_ble_eq_true rfl) ?_
  exact X.iret iX3_reach_16 ⟨rfl, rfl⟩
/-- those of a set that reach -/
def rsB (hi ki le : Nat → Int32) (t : Nat) (day s : Int32) (l : Nat) : Bool := tst s l && decide (hi t ≤ reachI (ki l) (le l) day)
theorem rsB_f1 {hi ki le : Nat → Int32} {t l : Nat} {day s : Int32} (c : s >>> (nI l &&& 31) &&& nI 1 = 0) : rsB hi ki le t day s l = false := by rw [rsB, tst, decide_eq_false (fun q => q c), Bool.false_and]
theorem rsB_f2 {hi ki le : Nat → Int32} {t l : Nat} {day s : Int32} (c : reachI (ki l) (le l) day < hi t) : rsB hi ki le t day s l = false := by rw [rsB, decide_eq_false (Int32.not_le.mpr c), Bool.and_false]
theorem rsB_t {hi ki le : Nat → Int32} {t l : Nat} {day s : Int32} (c : ¬ s >>> (nI l &&& 31) &&& nI 1 = 0) (c' : ¬ reachI (ki l) (le l) day < hi t) : rsB hi ki le t day s l = true := by rw [rsB, tst, decide_eq_true c, decide_eq_true (Int32.not_lt.mp c'), Bool.and_true]
theorem c_X3_reaching {d o t nL : Nat} {h : XH} {nT ba wa day s : Int32} {hi ri ki le pr : Nat → Int32} (H : OR h o nT (nI nL) ba wa hi ri ki le pr) (hk : KI ki nL) (hL : nL ≤ 4) (ht : t < 6) : MetI mX3_reaching (d + 2, 0, 0) [.ref o, .int (nI t), .int day, .int s] h (bits (rsB hi ki le t day s) nL) := by
  obtain ⟨h0, h1, h2, h3, h4, h5⟩ := H
  have P : ∀ k, k ≤ nL → X xT mX3_reaching (xR (d + 2, 0, 0)) (0, 0) 6 [some (.ref o), some (.int (nI t)), some (.int day), some (.int s), some (.int (bits (rsB hi ki le t day s) k)), some (.int (nI k))] [] h (fun v h' => v = some (.int (bits (rsB hi ki le t day s) nL)) ∧ h' = h) := by
    refine xloop nL ?_ ?_
    · refine X.iload iX3_reaching_6 rfl ?_
      refine X.aload iX3_reaching_8 rfl ?_
      refine X.getf iX3_reaching_9 (by first | rfl | repeat (first | assumption | exact xup_eq _ _ _ | rw [xup_ne _ _ (by first | decide | omega | assumption)])) rfl ?_
      refine X.cmge iX3_reaching_12 (fun c12 => ?_) (fun c12 => ?_)
      · refine X.iload iX3_reaching_66 rfl ?_
        exact X.iret iX3_reaching_68 ⟨rfl, rfl⟩
      · exact absurd (Int32.le_refl _) c12
    · intro k hk' ih
      refine X.iload iX3_reaching_6 rfl ?_
      refine X.aload iX3_reaching_8 rfl ?_
      refine X.getf iX3_reaching_9 (by first | rfl | repeat (first | assumption | exact xup_eq _ _ _ | rw [xup_ne _ _ (by first | decide | omega | assumption)])) rfl ?_
      refine X.cmge iX3_reaching_12 (fun c12 => ?_) (fun c12 => ?_)
      · exact absurd c12 (nI_ge hk' (by omega))
      · refine X.iload iX3_reaching_15 rfl ?_
        refine X.iload iX3_reaching_16 rfl ?_
        refine X.ishr iX3_reaching_18 ?_
        refine X.pushi (v := nI 1) iX3_reaching_19 ?_
        refine X.iand iX3_reaching_20 ?_
        refine X.ifeq iX3_reaching_21 (fun c21 => ?_) (fun c21 => ?_)
        · refine X.iinc iX3_reaching_60 rfl rfl rfl ?_
          refine X.goto iX3_reaching_63 ?_
          rw [nI_1]
          first
          | (rw [bits_f (rsB_f1 c21)] at ih; exact ih)
          | (rw [bits_f (rsB_f2 c48)] at ih; exact ih)
          | (rw [bits_t (rsB_t c21 c48)] at ih; exact ih)
        · refine X.aload iX3_reaching_24 rfl ?_
          refine X.getf iX3_reaching_25 (by first | rfl | repeat (first | assumption | exact xup_eq _ _ _ | rw [xup_ne _ _ (by first | decide | omega | assumption)])) rfl ?_
          refine X.iload iX3_reaching_28 rfl ?_
          refine X.ialdE iX3_reaching_30 (by first | rfl | repeat (first | assumption | exact xup_eq _ _ _ | rw [xup_ne _ _ (by first | decide | omega | assumption)])) rfl (by omega) (by decide) ?_
          refine X.aload iX3_reaching_31 rfl ?_
          refine X.getf iX3_reaching_32 (by first | rfl | repeat (first | assumption | exact xup_eq _ _ _ | rw [xup_ne _ _ (by first | decide | omega | assumption)])) rfl ?_
          refine X.iload iX3_reaching_35 rfl ?_
          refine X.ialdE iX3_reaching_37 (by first | rfl | repeat (first | assumption | exact xup_eq _ _ _ | rw [xup_ne _ _ (by first | decide | omega | assumption)])) rfl (by omega) (by decide) ?_
          refine X.iload iX3_reaching_38 rfl ?_
          refine X.callSi iX3_reaching_39 (c_X6_reachOfK (d := d) (le k) day hk hk') rfl rfl (xfit _ _ _) (Nat.le_of_ble_eq_true rfl) ?_
          refine X.aload iX3_reaching_42 rfl ?_
          refine X.getf iX3_reaching_43 (by first | rfl | repeat (first | assumption | exact xup_eq _ _ _ | rw [xup_ne _ _ (by first | decide | omega | assumption)])) rfl ?_
          refine X.iload iX3_reaching_46 rfl ?_
          refine X.ialdE iX3_reaching_47 (by first | rfl | repeat (first | assumption | exact xup_eq _ _ _ | rw [xup_ne _ _ (by first | decide | omega | assumption)])) rfl (by omega) (by decide) ?_
          refine X.cmlt iX3_reaching_48 (fun c48 => ?_) (fun c48 => ?_)
          · refine X.iinc iX3_reaching_60 rfl rfl rfl ?_
            refine X.goto iX3_reaching_63 ?_
            rw [nI_1]
            first
            | (rw [bits_f (rsB_f1 c21)] at ih; exact ih)
            | (rw [bits_f (rsB_f2 c48)] at ih; exact ih)
            | (rw [bits_t (rsB_t c21 c48)] at ih; exact ih)
          · refine X.iload iX3_reaching_51 rfl ?_
            refine X.pushi (v := nI 1) iX3_reaching_53 ?_
            refine X.iload iX3_reaching_54 rfl ?_
            refine X.ishl iX3_reaching_56 ?_
            refine X.ior iX3_reaching_57 ?_
            refine X.istore iX3_reaching_58 rfl rfl ?_
            refine X.iinc iX3_reaching_60 rfl rfl rfl ?_
            refine X.goto iX3_reaching_63 ?_
            rw [nI_1]
            first
            | (rw [bits_f (rsB_f1 c21)] at ih; exact ih)
            | (rw [bits_f (rsB_f2 c48)] at ih; exact ih)
            | (rw [bits_t (rsB_t c21 c48)] at ih; exact ih)
  refine MetX.of (by decide) rfl (Nat.le_of_ble_eq_true rfl) ?_
  refine X.pushi (v := nI 0) iX3_reaching_0 ?_
  refine X.istore iX3_reaching_1 rfl rfl ?_
  refine X.pushi (v := nI 0) iX3_reaching_3 ?_
  refine X.istore iX3_reaching_4 rfl rfl ?_
  exact P 0 (Nat.zero_le _)
theorem c_X2_leaningAt {d m : Nat} {h : XH} {got paid lost day draw x : Int32} {fr ln : Nat → Int32} (H : MM h m fr ln got paid lost day draw) : MetI mX2_leaningAt (d, 0, 0) [.ref m, .int x] h (bits (fun l => decide (ln l = x)) 4) := by
  obtain ⟨h0, h1, h2⟩ := H
  have P : ∀ k, k ≤ 4 → X xT mX2_leaningAt (xR (d, 0, 0)) (0, 0) 4 [some (.ref m), some (.int x), some (.int (bits (fun l => decide (ln l = x)) k)), some (.int (nI k))] [] h (fun v h' => v = some (.int (bits (fun l => decide (ln l = x)) 4)) ∧ h' = h) := by
    refine xloop 4 ?_ ?_
    · refine X.iload iX2_leaningAt_4 rfl ?_
      refine X.pushi (v := nI 4) iX2_leaningAt_5 ?_
      refine X.cmge iX2_leaningAt_6 (fun c6 => ?_) (fun c6 => ?_)
      · refine X.iload iX2_leaningAt_31 rfl ?_
        exact X.iret iX2_leaningAt_32 ⟨rfl, rfl⟩
      · exact absurd (Int32.le_refl _) c6
    · intro k hk ih
      refine X.iload iX2_leaningAt_4 rfl ?_
      refine X.pushi (v := nI 4) iX2_leaningAt_5 ?_
      refine X.cmge iX2_leaningAt_6 (fun c6 => ?_) (fun c6 => ?_)
      · exact absurd c6 (nI_ge hk (by omega))
      · refine X.aload iX2_leaningAt_9 rfl ?_
        refine X.getf iX2_leaningAt_10 (by first | rfl | repeat (first | assumption | exact xup_eq _ _ _ | rw [xup_ne _ _ (by first | decide | omega | assumption)])) rfl ?_
        refine X.iload iX2_leaningAt_13 rfl ?_
        refine X.ialdE iX2_leaningAt_14 (by first | rfl | repeat (first | assumption | exact xup_eq _ _ _ | rw [xup_ne _ _ (by first | decide | omega | assumption)])) rfl (by omega) (by decide) ?_
        refine X.iload iX2_leaningAt_15 rfl ?_
        refine X.cmne iX2_leaningAt_16 (fun c16 => ?_) (fun c16 => ?_)
        · refine X.iinc iX2_leaningAt_25 rfl rfl rfl ?_
          refine X.goto iX2_leaningAt_28 ?_
          rw [nI_1]
          first
          | (rw [bits_t (b := fun l => decide (ln l = x)) (decide_eq_true c16)] at ih; exact ih)
          | (rw [bits_f (b := fun l => decide (ln l = x)) (decide_eq_false c16)] at ih; exact ih)
        · refine X.iload iX2_leaningAt_19 rfl ?_
          refine X.pushi (v := nI 1) iX2_leaningAt_20 ?_
          refine X.iload iX2_leaningAt_21 rfl ?_
          refine X.ishl iX2_leaningAt_22 ?_
          refine X.ior iX2_leaningAt_23 ?_
          refine X.istore iX2_leaningAt_24 rfl rfl ?_
          refine X.iinc iX2_leaningAt_25 rfl rfl rfl ?_
          refine X.goto iX2_leaningAt_28 ?_
          rw [nI_1]
          first
          | (rw [bits_t (b := fun l => decide (ln l = x)) (decide_eq_true c16)] at ih; exact ih)
          | (rw [bits_f (b := fun l => decide (ln l = x)) (decide_eq_false c16)] at ih; exact ih)
  refine MetX.of (by decide) rfl (Nat.le_of_ble_eq_true rfl) ?_
  refine X.pushi (v := nI 0) iX2_leaningAt_0 ?_
  refine X.istore iX2_leaningAt_1 rfl rfl ?_
  refine X.pushi (v := nI 0) iX2_leaningAt_2 ?_
  refine X.istore iX2_leaningAt_3 rfl rfl ?_
  exact P 0 (Nat.zero_le _)
def tkB (hi ki le : Nat → Int32) (t nL : Nat) (day s size : Int32) : Int32 := size * bcI (bits (rsB hi ki le t day s) nL)
def tkI (hi ri ki le : Nat → Int32) (t nL : Nat) (day s fruit size : Int32) : Int32 := if day < ri t then nI 0 else minI (tkB hi ki le t nL day s size) fruit
theorem c_X3_taken {d o t nL : Nat} {h : XH} {nT ba wa day s fruit size : Int32} {hi ri ki le pr : Nat → Int32} (H : OR h o nT (nI nL) ba wa hi ri ki le pr) (hk : KI ki nL) (hL : nL ≤ 4) (ht : t < 6) : MetI mX3_taken (d + 3, 0, 0) [.ref o, .int (nI t), .int day, .int s, .int fruit, .int size] h (tkI hi ri ki le t nL day s fruit size) := by
  obtain ⟨h0, h1, h2, h3, h4, h5⟩ := id H
  refine MetX.of (by decide) rfl (Nat.le_of_ble_eq_true rfl) ?_
  refine X.iload iX3_taken_0 rfl ?_
  refine X.aload iX3_taken_1 rfl ?_
  refine X.getf iX3_taken_2 (by first | rfl | repeat (first | assumption | exact xup_eq _ _ _ | rw [xup_ne _ _ (by first | decide | omega | assumption)])) rfl ?_
  refine X.iload iX3_taken_5 rfl ?_
  refine X.ialdE iX3_taken_6 (by first | rfl | repeat (first | assumption | exact xup_eq _ _ _ | rw [xup_ne _ _ (by first | decide | omega | assumption)])) rfl (by omega) (by decide) ?_
  refine X.cmge iX3_taken_7 (fun c7 => ?_) (fun c7 => ?_)
  · refine X.iload iX3_taken_12 rfl ?_
    refine X.iload iX3_taken_14 rfl ?_
    refine X.aload iX3_taken_16 rfl ?_
    refine X.iload iX3_taken_17 rfl ?_
    refine X.iload iX3_taken_18 rfl ?_
    refine X.iload iX3_taken_19 rfl ?_
    refine X.callVi iX3_taken_20 (c_X3_reaching (d := d) H hk hL ht) (by first | rfl | repeat (first | assumption | exact xup_eq _ _ _ | rw [xup_ne _ _ (by first | decide | omega | assumption)])) rfl rfl (xfit _ _ _) (Nat.le_of_ble_eq_true rfl) ?_
    refine X.callSi iX3_taken_23 (c_bitCount (d + 2) h _) rfl rfl (xfit _ _ _) (Nat.le_of_ble_eq_true rfl) ?_
    refine X.imul iX3_taken_26 ?_
    refine X.mmin iX3_taken_27 (xfit0 _ _ _) (Nat.le_of_ble_eq_true rfl) ?_
    exact X.iret iX3_taken_30 ⟨(by rw [tkI, if_neg (Int32.not_lt.mpr c7)]; rfl), rfl⟩
  · refine X.pushi (v := nI 0) iX3_taken_10 ?_
    exact X.iret iX3_taken_11 ⟨(by rw [tkI, if_pos (Int32.not_le.mp c7)]), rfl⟩
def stI (ri : Nat → Int32) (t : Nat) (day fruit wa : Int32) : Int32 := if day < ri t then nI 0 else minI wa fruit
theorem c_X3_stung {d o t : Nat} {h : XH} {nT nL ba wa day fruit : Int32} {hi ri ki le pr : Nat → Int32} (H : OR h o nT nL ba wa hi ri ki le pr) (ht : t < 6) : MetI mX3_stung (d + 1, 0, 0) [.ref o, .int (nI t), .int day, .int fruit] h (stI ri t day fruit wa) := by
  obtain ⟨h0, h1, h2, h3, h4, h5⟩ := id H
  refine MetX.of (by decide) rfl (Nat.le_of_ble_eq_true rfl) ?_
  refine X.iload iX3_stung_0 rfl ?_
  refine X.aload iX3_stung_1 rfl ?_
  refine X.getf iX3_stung_2 (by first | rfl | repeat (first | assumption | exact xup_eq _ _ _ | rw [xup_ne _ _ (by first | decide | omega | assumption)])) rfl ?_
  refine X.iload iX3_stung_5 rfl ?_
  refine X.ialdE iX3_stung_6 (by first | rfl | repeat (first | assumption | exact xup_eq _ _ _ | rw [xup_ne _ _ (by first | decide | omega | assumption)])) rfl (by omega) (by decide) ?_
  refine X.cmge iX3_stung_7 (fun c7 => ?_) (fun c7 => ?_)
  · refine X.iload iX3_stung_14 rfl ?_
    refine X.aload iX3_stung_15 rfl ?_
    refine X.getf iX3_stung_16 (by first | rfl | repeat (first | assumption | exact xup_eq _ _ _ | rw [xup_ne _ _ (by first | decide | omega | assumption)])) rfl ?_
    refine X.mmin iX3_stung_19 (xfit0 _ _ _) (Nat.le_of_ble_eq_true rfl) ?_
    first
    | (refine X.iret iX3_stung_22 ⟨?_, rfl⟩; rw [stI, if_pos (Int32.not_le.mp c7)])
    | (refine X.iret iX3_stung_22 ⟨?_, rfl⟩; rw [stI, if_neg (Int32.not_lt.mpr c7)]; rfl)
  · refine X.pushi (v := nI 0) iX3_stung_10 ?_
    refine X.goto iX3_stung_11 ?_
    first
    | (refine X.iret iX3_stung_22 ⟨?_, rfl⟩; rw [stI, if_pos (Int32.not_le.mp c7)])
    | (refine X.iret iX3_stung_22 ⟨?_, rfl⟩; rw [stI, if_neg (Int32.not_lt.mpr c7)]; rfl)
def lbI (hi ri ki le : Nat → Int32) (t nL : Nat) (day s fruit ba wa : Int32) : Int32 := (fruit - tkI hi ri ki le t nL day s fruit ba) - stI ri t day (fruit - tkI hi ri ki le t nL day s fruit ba) wa
theorem c_X3_leftBehind {d o t nL : Nat} {h : XH} {nT ba wa day s fruit : Int32} {hi ri ki le pr : Nat → Int32} (H : OR h o nT (nI nL) ba wa hi ri ki le pr) (hk : KI ki nL) (hL : nL ≤ 4) (ht : t < 6) : MetI mX3_leftBehind (d + 4, 0, 0) [.ref o, .int (nI t), .int day, .int s, .int fruit] h (lbI hi ri ki le t nL day s fruit ba wa) := by
  obtain ⟨h0, h1, h2, h3, h4, h5⟩ := id H
  refine MetX.of (by decide) rfl (Nat.le_of_ble_eq_true rfl) ?_
  refine X.iload iX3_leftBehind_0 rfl ?_
  refine X.aload iX3_leftBehind_2 rfl ?_
  refine X.iload iX3_leftBehind_3 rfl ?_
  refine X.iload iX3_leftBehind_4 rfl ?_
  refine X.iload iX3_leftBehind_5 rfl ?_
  refine X.iload iX3_leftBehind_6 rfl ?_
  refine X.aload iX3_leftBehind_8 rfl ?_
  refine X.getf iX3_leftBehind_9 (by first | rfl | repeat (first | assumption | exact xup_eq _ _ _ | rw [xup_ne _ _ (by first | decide | omega | assumption)])) rfl ?_
  refine X.callVi iX3_leftBehind_12 (c_X3_taken (d := d) H hk hL ht) (by first | rfl | repeat (first | assumption | exact xup_eq _ _ _ | rw [xup_ne _ _ (by first | decide | omega | assumption)])) rfl rfl (xfit _ _ _) (Nat.le_of_ble_eq_true rfl) ?_
  refine X.isub iX3_leftBehind_15 ?_
  refine X.istore iX3_leftBehind_16 rfl rfl ?_
  refine X.iload iX3_leftBehind_18 rfl ?_
  refine X.aload iX3_leftBehind_20 rfl ?_
  refine X.iload iX3_leftBehind_21 rfl ?_
  refine X.iload iX3_leftBehind_22 rfl ?_
  refine X.iload iX3_leftBehind_23 rfl ?_
  refine X.callVi iX3_leftBehind_25 (c_X3_stung (d := d + 2) H ht) (by first | rfl | repeat (first | assumption | exact xup_eq _ _ _ | rw [xup_ne _ _ (by first | decide | omega | assumption)])) rfl rfl (xfit _ _ _) (Nat.le_of_ble_eq_true rfl) ?_
  refine X.isub iX3_leftBehind_28 ?_
  exact X.iret iX3_leftBehind_29 ⟨rfl, rfl⟩
theorem c_X3_treesInReach {d o l nT nL : Nat} {h : XH} {mL ba wa day : Int32} {hi ri ki le pr : Nat → Int32} (H : OR h o (nI nT) mL ba wa hi ri ki le pr) (hk : KI ki nL) (hl : l < nL) (hL : nL ≤ 4) (hT : nT ≤ 6) : MetI mX3_treesInReach (d + 3, 0, 0) [.ref o, .int (nI l), .int day] h (bits (fun t => decide (hi t ≤ reachI (ki l) (le l) day)) nT) := by
  obtain ⟨h0, h1, h2, h3, h4, h5⟩ := id H
  have P : ∀ k, k ≤ nT → X xT mX3_treesInReach (xR (d + 3, 0, 0)) (0, 0) 13 [some (.ref o), some (.int (nI l)), some (.int day), some (.int (reachI (ki l) (le l) day)), some (.int (bits (fun t => decide (hi t ≤ reachI (ki l) (le l) day)) k)), some (.int (nI k))] [] h (fun v h' => v = some (.int (bits (fun t => decide (hi t ≤ reachI (ki l) (le l) day)) nT)) ∧ h' = h) := by
    refine xloop nT ?_ ?_
    · refine X.iload iX3_treesInReach_13 rfl ?_
      refine X.aload iX3_treesInReach_15 rfl ?_
      refine X.getf iX3_treesInReach_16 (by first | rfl | repeat (first | assumption | exact xup_eq _ _ _ | rw [xup_ne _ _ (by first | decide | omega | assumption)])) rfl ?_
      refine X.cmge iX3_treesInReach_19 (fun c19 => ?_) (fun c19 => ?_)
      · refine X.iload iX3_treesInReach_48 rfl ?_
        exact X.iret iX3_treesInReach_50 ⟨rfl, rfl⟩
      · exact absurd (Int32.le_refl _) c19
    · intro k hk' ih
      refine X.iload iX3_treesInReach_13 rfl ?_
      refine X.aload iX3_treesInReach_15 rfl ?_
      refine X.getf iX3_treesInReach_16 (by first | rfl | repeat (first | assumption | exact xup_eq _ _ _ | rw [xup_ne _ _ (by first | decide | omega | assumption)])) rfl ?_
      refine X.cmge iX3_treesInReach_19 (fun c19 => ?_) (fun c19 => ?_)
      · exact absurd c19 (nI_ge hk' (by omega))
      · refine X.iload iX3_treesInReach_22 rfl ?_
        refine X.aload iX3_treesInReach_23 rfl ?_
        refine X.getf iX3_treesInReach_24 (by first | rfl | repeat (first | assumption | exact xup_eq _ _ _ | rw [xup_ne _ _ (by first | decide | omega | assumption)])) rfl ?_
        refine X.iload iX3_treesInReach_27 rfl ?_
        refine X.ialdE iX3_treesInReach_29 (by first | rfl | repeat (first | assumption | exact xup_eq _ _ _ | rw [xup_ne _ _ (by first | decide | omega | assumption)])) rfl (by omega) (by decide) ?_
        refine X.cmlt iX3_treesInReach_30 (fun c30 => ?_) (fun c30 => ?_)
        · refine X.iinc iX3_treesInReach_42 rfl rfl rfl ?_
          refine X.goto iX3_treesInReach_45 ?_
          rw [nI_1]
          first
          | (rw [bits_t (b := fun t => decide (hi t ≤ reachI (ki l) (le l) day)) (decide_eq_true (Int32.not_lt.mp c30))] at ih; exact ih)
          | (rw [bits_f (b := fun t => decide (hi t ≤ reachI (ki l) (le l) day)) (decide_eq_false (Int32.not_le.mpr c30))] at ih; exact ih)
        · refine X.iload iX3_treesInReach_33 rfl ?_
          refine X.pushi (v := nI 1) iX3_treesInReach_35 ?_
          refine X.iload iX3_treesInReach_36 rfl ?_
          refine X.ishl iX3_treesInReach_38 ?_
          refine X.ior iX3_treesInReach_39 ?_
          refine X.istore iX3_treesInReach_40 rfl rfl ?_
          refine X.iinc iX3_treesInReach_42 rfl rfl rfl ?_
          refine X.goto iX3_treesInReach_45 ?_
          rw [nI_1]
          first
          | (rw [bits_t (b := fun t => decide (hi t ≤ reachI (ki l) (le l) day)) (decide_eq_true (Int32.not_lt.mp c30))] at ih; exact ih)
          | (rw [bits_f (b := fun t => decide (hi t ≤ reachI (ki l) (le l) day)) (decide_eq_false (Int32.not_le.mpr c30))] at ih; exact ih)
  refine MetX.of (by decide) rfl (Nat.le_of_ble_eq_true rfl) ?_
  refine X.aload iX3_treesInReach_0 rfl ?_
  refine X.iload iX3_treesInReach_1 rfl ?_
  refine X.iload iX3_treesInReach_2 rfl ?_
  refine X.callVi iX3_treesInReach_3 (c_X3_reach (d := d) H hk hl hL) (by first | rfl | repeat (first | assumption | exact xup_eq _ _ _ | rw [xup_ne _ _ (by first | decide | omega | assumption)])) rfl rfl (xfit _ _ _) (Nat.le_of_ble_eq_true rfl) ?_
  refine X.istore iX3_treesInReach_6 rfl rfl ?_
  refine X.pushi (v := nI 0) iX3_treesInReach_7 ?_
  refine X.istore iX3_treesInReach_8 rfl rfl ?_
  refine X.pushi (v := nI 0) iX3_treesInReach_10 ?_
  refine X.istore iX3_treesInReach_11 rfl rfl ?_
  exact P 0 (Nat.zero_le _)
def fsum (fr : Nat → Int32) : Nat → Int32
  | 0 => nI 0
  | k + 1 => fsum fr k + fr k
theorem c_X3_fruitOfAll {d o m nT : Nat} {h : XH} {nL ba wa got paid lost day draw : Int32} {hi ri ki le pr fr ln : Nat → Int32} (H : OR h o (nI nT) nL ba wa hi ri ki le pr) (M : MM h m fr ln got paid lost day draw) (hT : nT ≤ 6) : MetI mX3_fruitOfAll (d, 0, 0) [.ref o, .ref m] h (fsum fr nT) := by
  obtain ⟨h0, h1, h2, h3, h4, h5⟩ := H
  obtain ⟨m0, m1, m2⟩ := M
  have P : ∀ k, k ≤ nT → X xT mX3_fruitOfAll (xR (d, 0, 0)) (0, 0) 4 [some (.ref o), some (.ref m), some (.int (fsum fr k)), some (.int (nI k))] [] h (fun v h' => v = some (.int (fsum fr nT)) ∧ h' = h) := by
    refine xloop nT ?_ ?_
    · refine X.iload iX3_fruitOfAll_4 rfl ?_
      refine X.aload iX3_fruitOfAll_5 rfl ?_
      refine X.getf iX3_fruitOfAll_6 (by first | rfl | repeat (first | assumption | exact xup_eq _ _ _ | rw [xup_ne _ _ (by first | decide | omega | assumption)])) rfl ?_
      refine X.cmge iX3_fruitOfAll_9 (fun c9 => ?_) (fun c9 => ?_)
      · refine X.iload iX3_fruitOfAll_27 rfl ?_
        exact X.iret iX3_fruitOfAll_28 ⟨rfl, rfl⟩
      · exact absurd (Int32.le_refl _) c9
    · intro k hk' ih
      refine X.iload iX3_fruitOfAll_4 rfl ?_
      refine X.aload iX3_fruitOfAll_5 rfl ?_
      refine X.getf iX3_fruitOfAll_6 (by first | rfl | repeat (first | assumption | exact xup_eq _ _ _ | rw [xup_ne _ _ (by first | decide | omega | assumption)])) rfl ?_
      refine X.cmge iX3_fruitOfAll_9 (fun c9 => ?_) (fun c9 => ?_)
      · exact absurd c9 (nI_ge hk' (by omega))
      · refine X.iload iX3_fruitOfAll_12 rfl ?_
        refine X.aload iX3_fruitOfAll_13 rfl ?_
        refine X.getf iX3_fruitOfAll_14 (by first | rfl | repeat (first | assumption | exact xup_eq _ _ _ | rw [xup_ne _ _ (by first | decide | omega | assumption)])) rfl ?_
        refine X.iload iX3_fruitOfAll_17 rfl ?_
        refine X.ialdE iX3_fruitOfAll_18 (by first | rfl | repeat (first | assumption | exact xup_eq _ _ _ | rw [xup_ne _ _ (by first | decide | omega | assumption)])) rfl (by omega) (by decide) ?_
        refine X.iadd iX3_fruitOfAll_19 ?_
        refine X.istore iX3_fruitOfAll_20 rfl rfl ?_
        refine X.iinc iX3_fruitOfAll_21 rfl rfl rfl ?_
        refine X.goto iX3_fruitOfAll_24 ?_
        rw [nI_1]
        exact ih
  refine MetX.of (by decide) rfl (Nat.le_of_ble_eq_true rfl) ?_
  refine X.pushi (v := nI 0) iX3_fruitOfAll_0 ?_
  refine X.istore iX3_fruitOfAll_1 rfl rfl ?_
  refine X.pushi (v := nI 0) iX3_fruitOfAll_2 ?_
  refine X.istore iX3_fruitOfAll_3 rfl rfl ?_
  exact P 0 (Nat.zero_le _)
def awB (ln : Nat → Int32) (l : Nat) : Bool := decide (¬ ln l = -4)
theorem c_X3_leaningAnywhere {d o nL : Nat} {h : XH} {nT ba wa got paid lost day draw : Int32} {hi ri ki le pr fr ln : Nat → Int32} (H : OR h o nT (nI nL) ba wa hi ri ki le pr) (M : MM h (o + 6) fr ln got paid lost day draw) (hL : nL ≤ 4) : MetI mX3_leaningAnywhere (d, 0, 0) [.ref o] h (bits (awB ln) nL) := by
  obtain ⟨h0, h1, h2, h3, h4, h5⟩ := H
  obtain ⟨m0, m1, m2⟩ := M
  have P : ∀ k, k ≤ nL → X xT mX3_leaningAnywhere (xR (d, 0, 0)) (0, 0) 4 [some (.ref o), some (.int (bits (awB ln) k)), some (.int (nI k))] [] h (fun v h' => v = some (.int (bits (awB ln) nL)) ∧ h' = h) := by
    refine xloop nL ?_ ?_
    · refine X.iload iX3_leaningAnywhere_4 rfl ?_
      refine X.aload iX3_leaningAnywhere_5 rfl ?_
      refine X.getf iX3_leaningAnywhere_6 (by first | rfl | repeat (first | assumption | exact xup_eq _ _ _ | rw [xup_ne _ _ (by first | decide | omega | assumption)])) rfl ?_
      refine X.cmge iX3_leaningAnywhere_9 (fun c9 => ?_) (fun c9 => ?_)
      · refine X.iload iX3_leaningAnywhere_38 rfl ?_
        exact X.iret iX3_leaningAnywhere_39 ⟨rfl, rfl⟩
      · exact absurd (Int32.le_refl _) c9
    · intro k hk' ih
      refine X.iload iX3_leaningAnywhere_4 rfl ?_
      refine X.aload iX3_leaningAnywhere_5 rfl ?_
      refine X.getf iX3_leaningAnywhere_6 (by first | rfl | repeat (first | assumption | exact xup_eq _ _ _ | rw [xup_ne _ _ (by first | decide | omega | assumption)])) rfl ?_
      refine X.cmge iX3_leaningAnywhere_9 (fun c9 => ?_) (fun c9 => ?_)
      · exact absurd c9 (nI_ge hk' (by omega))
      · refine X.aload iX3_leaningAnywhere_12 rfl ?_
        refine X.getf iX3_leaningAnywhere_13 (by first | rfl | repeat (first | assumption | exact xup_eq _ _ _ | rw [xup_ne _ _ (by first | decide | omega | assumption)])) rfl ?_
        refine X.getf iX3_leaningAnywhere_16 (by first | rfl | repeat (first | assumption | exact xup_eq _ _ _ | rw [xup_ne _ _ (by first | decide | omega | assumption)])) rfl ?_
        refine X.iload iX3_leaningAnywhere_19 rfl ?_
        refine X.ialdE iX3_leaningAnywhere_20 (by first | rfl | repeat (first | assumption | exact xup_eq _ _ _ | rw [xup_ne _ _ (by first | decide | omega | assumption)])) rfl (by omega) (by decide) ?_
        refine X.pushi iX3_leaningAnywhere_21 ?_
        refine X.cmeq iX3_leaningAnywhere_23 (fun c23 => ?_) (fun c23 => ?_)
        · refine X.iinc iX3_leaningAnywhere_32 rfl rfl rfl ?_
          refine X.goto iX3_leaningAnywhere_35 ?_
          rw [nI_1]
          first
          | (rw [bits_t (b := awB ln) (decide_eq_true c23)] at ih; exact ih)
          | (rw [bits_f (b := awB ln) (decide_eq_false (fun q => q c23))] at ih; exact ih)
        · refine X.iload iX3_leaningAnywhere_26 rfl ?_
          refine X.pushi (v := nI 1) iX3_leaningAnywhere_27 ?_
          refine X.iload iX3_leaningAnywhere_28 rfl ?_
          refine X.ishl iX3_leaningAnywhere_29 ?_
          refine X.ior iX3_leaningAnywhere_30 ?_
          refine X.istore iX3_leaningAnywhere_31 rfl rfl ?_
          refine X.iinc iX3_leaningAnywhere_32 rfl rfl rfl ?_
          refine X.goto iX3_leaningAnywhere_35 ?_
          rw [nI_1]
          first
          | (rw [bits_t (b := awB ln) (decide_eq_true c23)] at ih; exact ih)
          | (rw [bits_f (b := awB ln) (decide_eq_false (fun q => q c23))] at ih; exact ih)
  refine MetX.of (by decide) rfl (Nat.le_of_ble_eq_true rfl) ?_
  refine X.pushi (v := nI 0) iX3_leaningAnywhere_0 ?_
  refine X.istore iX3_leaningAnywhere_1 rfl rfl ?_
  refine X.pushi (v := nI 0) iX3_leaningAnywhere_2 ?_
  refine X.istore iX3_leaningAnywhere_3 rfl rfl ?_
  exact P 0 (Nat.zero_le _)
