/-! class and reference side by side -/
def RelK (KO : Oc) (KM : Mo) (KV : Hi) (kb : Bool) (kp : Nat → Int32) (ku : Int32) (ik : Bool) : Prop := kb = ik ∧ (ik = true → RelO KO KM KV kp (fun k => kp (43 + k)) ku)
def RelT (T : Ta) (tp : Nat → Int32) (ty : Int32) : Prop := T.cl = tp ∧ T.n ≤ 90 ∧ ty = nI T.n ∧ TL tp T.n
def RelS (S : Nat → Sh) (la sz : Nat → Int32) (it : Nat → Int64) : Prop := ∀ s, s < 4 → (S s).la = la s ∧ (S s).sz = sz s ∧ (la s = -1 ∨ ∃ l, l < 4 ∧ la s = nI l) ∧ (∃ z, z ≤ 24 ∧ sz s = nI z) ∧ ∀ i, i < 24 → (S s).it i = it (24 * s + i)
def ALL (h : XH) (O : Oc) (M : Mo) (V : Hi) (KO : Oc) (KM : Mo) (KV : Hi) (kb : Bool) (T : Ta) (S : Nat → Sh) (nw tp ro rd ud as kp la sz : Nat → Int32) (it mv : Nat → Int64) (ty pl : Int32) (fa : Bool) (un ku : Int32) (ik : Bool) : Prop :=
  CI h O M V KO KM KV kb T S ∧ h = (mh h nw tp ro rd ud as kp la sz it mv ty pl fa un ku ik) ∧ RelO O M V nw ud un ∧ RelK KO KM KV kb kp ku ik ∧ RelT T tp ty ∧ RelS S la sz it
def INV (h : XH) : Prop := ∃ O M V KO KM KV kb T S nw tp ro rd ud as kp la sz it mv ty pl fa un ku ik, ALL h O M V KO KM KV kb T S nw tp ro rd ud as kp la sz it mv ty pl fa un ku ik
def STEP (μ1 μ2 : MI) (av : List Value) (h : XH) : Prop := ∃ (r : Int32) (Q1 : Option Value → XH → Prop), MetX μ1 (6, 0, 0) (.ref 0 :: av) h Q1 ∧ ∀ v h1, Q1 v h1 → v = some (.int r) ∧ (∃ fs, h1 98 = some (.inr (7, fs))) ∧ ∃ Q2, MetX μ2 (6, 0, 0) (.ref 98 :: av) h1 Q2 ∧ ∀ v2 h2, Q2 v2 h2 → v2 = some (.int r) ∧ INV h2
theorem mh_re {h : XH} {nw tp ro rd ud as kp la sz : Nat → Int32} {it mv : Nat → Int64} {ty pl : Int32} {fa : Bool} {un ku : Int32} {ik : Bool} {g : XH} (E : h = (mh h nw tp ro rd ud as kp la sz it mv ty pl fa un ku ik)) (ag : ∀ i, 98 ≤ i → g i = h i) : g = (mh g nw tp ro rd ud as kp la sz it mv ty pl fa un ku ik) := by
  refine mh_ext ?_ ?_ ?_ ?_ ?_ ?_ ?_ ?_ ?_ ?_ ?_ ?_ (fun i hi => (mh_lo _ _ _ _ _ _ _ _ _ _ _ _ _ _ _ _ _ _ hi).symm) (fun i hi => (mh_hi _ _ _ _ _ _ _ _ _ _ _ _ _ _ _ _ _ _ hi).symm)
  all_goals (rw [ag _ (by omega), E]; rfl)
theorem mh_idem (h : XH) (nw tp ro rd ud as kp la sz : Nat → Int32) (it mv : Nat → Int64) (ty pl : Int32) (fa : Bool) (un ku : Int32) (ik : Bool) : (mh h nw tp ro rd ud as kp la sz it mv ty pl fa un ku ik) = mh (mh h nw tp ro rd ud as kp la sz it mv ty pl fa un ku ik) nw tp ro rd ud as kp la sz it mv ty pl fa un ku ik := by
  refine mh_ext rfl rfl rfl rfl rfl rfl rfl rfl rfl rfl rfl rfl (fun i hi => ?_) (fun i hi => ?_)
  · exact (mh_lo (mh h nw tp ro rd ud as kp la sz it mv ty pl fa un ku ik) _ _ _ _ _ _ _ _ _ _ _ _ _ _ _ _ _ hi).symm
  · exact (mh_hi (mh h nw tp ro rd ud as kp la sz it mv ty pl fa un ku ik) _ _ _ _ _ _ _ _ _ _ _ _ _ _ _ _ _ hi).symm
theorem INV.mk2 {g : XH} {O2 : Oc} {M2 : Mo} {V2 : Hi} {KO2 : Oc} {KM2 : Mo} {KV2 : Hi} {kb2 : Bool} {T2 : Ta} {S2 : Nat → Sh} {nw2 tp2 ro2 rd2 ud2 as2 kp2 la2 sz2 : Nat → Int32} {it2 mv2 : Nat → Int64} {ty2 pl2 : Int32} {fa2 : Bool} {un2 ku2 : Int32} {ik2 : Bool} (C : CI g O2 M2 V2 KO2 KM2 KV2 kb2 T2 S2) (rel : RelO O2 M2 V2 nw2 ud2 un2 ∧ RelK KO2 KM2 KV2 kb2 kp2 ku2 ik2 ∧ RelT T2 tp2 ty2 ∧ RelS S2 la2 sz2 it2) : INV (mh g nw2 tp2 ro2 rd2 ud2 as2 kp2 la2 sz2 it2 mv2 ty2 pl2 fa2 un2 ku2 ik2) := by
  refine ⟨O2, M2, V2, KO2, KM2, KV2, kb2, T2, S2, nw2, tp2, ro2, rd2, ud2, as2, kp2, la2, sz2, it2, mv2, ty2, pl2, fa2, un2, ku2, ik2, ?_, mh_idem _ _ _ _ _ _ _ _ _ _ _ _ _ _ _ _ _ _, rel⟩
  exact C.low (fun i q => mh_lo _ _ _ _ _ _ _ _ _ _ _ _ _ _ _ _ _ _ q.2)
theorem step_C {μ1 μ2 : MI} {av : List Value} {r : Int32} {h : XH} {O : Oc} {M : Mo} {V : Hi} {KO : Oc} {KM : Mo} {KV : Hi} {kb : Bool} {T : Ta} {S : Nat → Sh} {nw tp ro rd ud as kp la sz : Nat → Int32} {it mv : Nat → Int64} {ty pl : Int32} {fa : Bool} {un ku : Int32} {ik : Bool} {O2 : Oc} {M2 : Mo} {V2 : Hi} {KO2 : Oc} {KM2 : Mo} {KV2 : Hi} {kb2 : Bool} {T2 : Ta} {S2 : Nat → Sh} {nw2 tp2 ro2 rd2 ud2 as2 kp2 la2 sz2 : Nat → Int32} {it2 mv2 : Nat → Int64} {ty2 pl2 : Int32} {fa2 : Bool} {un2 ku2 : Int32} {ik2 : Bool} (A : ALL h O M V KO KM KV kb T S nw tp ro rd ud as kp la sz it mv ty pl fa un ku ik) (C : MetC μ1 6 (.ref 0 :: av) h r O2 M2 V2 KO2 KM2 KV2 kb2 T2 S2) (R : ∀ g : XH, MetH μ2 (6, 0, 0) (.ref 98 :: av) (mh g nw tp ro rd ud as kp la sz it mv ty pl fa un ku ik) r (mh g nw2 tp2 ro2 rd2 ud2 as2 kp2 la2 sz2 it2 mv2 ty2 pl2 fa2 un2 ku2 ik2)) (rel : RelO O2 M2 V2 nw2 ud2 un2 ∧ RelK KO2 KM2 KV2 kb2 kp2 ku2 ik2 ∧ RelT T2 tp2 ty2 ∧ RelS S2 la2 sz2 it2) : STEP μ1 μ2 av h := by
  obtain ⟨-, E, -⟩ := A
  refine ⟨r, _, C, fun v g hq => ?_⟩
  obtain ⟨rfl, C1, ag⟩ := hq
  have E1 := mh_re E ag
  refine ⟨rfl, ⟨_, by rw [E1]; rfl⟩, _, by rw [E1]; exact R g, fun v2 h2 hq2 => ?_⟩
  obtain ⟨rfl, rfl⟩ := hq2
  exact ⟨rfl, INV.mk2 C1 rel⟩
theorem step_I {μ1 μ2 : MI} {av : List Value} {r : Int32} {h : XH} {O : Oc} {M : Mo} {V : Hi} {KO : Oc} {KM : Mo} {KV : Hi} {kb : Bool} {T : Ta} {S : Nat → Sh} {nw tp ro rd ud as kp la sz : Nat → Int32} {it mv : Nat → Int64} {ty pl : Int32} {fa : Bool} {un ku : Int32} {ik : Bool} {nw2 tp2 ro2 rd2 ud2 as2 kp2 la2 sz2 : Nat → Int32} {it2 mv2 : Nat → Int64} {ty2 pl2 : Int32} {fa2 : Bool} {un2 ku2 : Int32} {ik2 : Bool} (A : ALL h O M V KO KM KV kb T S nw tp ro rd ud as kp la sz it mv ty pl fa un ku ik) (C : MetI μ1 (6, 0, 0) (.ref 0 :: av) h r) (R : ∀ g : XH, MetH μ2 (6, 0, 0) (.ref 98 :: av) (mh g nw tp ro rd ud as kp la sz it mv ty pl fa un ku ik) r (mh g nw2 tp2 ro2 rd2 ud2 as2 kp2 la2 sz2 it2 mv2 ty2 pl2 fa2 un2 ku2 ik2)) (rel : RelO O M V nw2 ud2 un2 ∧ RelK KO KM KV kb kp2 ku2 ik2 ∧ RelT T tp2 ty2 ∧ RelS S la2 sz2 it2) : STEP μ1 μ2 av h := by
  obtain ⟨C1, E, -⟩ := A
  refine ⟨r, _, C, fun v g hq => ?_⟩
  obtain ⟨rfl, rfl⟩ := hq
  refine ⟨rfl, ⟨_, by rw [E]; rfl⟩, _, by rw [E]; exact R g, fun v2 h2 hq2 => ?_⟩
  obtain ⟨rfl, rfl⟩ := hq2
  exact ⟨rfl, INV.mk2 C1 rel⟩
/-- nothing is changed but what the reference lays aside -/
theorem step_S {μ1 μ2 : MI} {av : List Value} {r : Int32} {h : XH} {O : Oc} {M : Mo} {V : Hi} {KO : Oc} {KM : Mo} {KV : Hi} {kb : Bool} {T : Ta} {S : Nat → Sh} {nw tp ro rd ud as kp la sz : Nat → Int32} {it mv : Nat → Int64} {ty pl : Int32} {fa : Bool} {un ku : Int32} {ik : Bool} {as2 : Nat → Int32} (A : ALL h O M V KO KM KV kb T S nw tp ro rd ud as kp la sz it mv ty pl fa un ku ik) (C : MetI μ1 (6, 0, 0) (.ref 0 :: av) h r) (R : ∀ g : XH, MetH μ2 (6, 0, 0) (.ref 98 :: av) (mh g nw tp ro rd ud as kp la sz it mv ty pl fa un ku ik) r (mh g nw tp ro rd ud as2 kp la sz it mv ty pl fa un ku ik)) : STEP μ1 μ2 av h := step_I A C R A.2.2
theorem step_N {μ1 μ2 : MI} {av : List Value} {r : Int32} {h : XH} {O : Oc} {M : Mo} {V : Hi} {KO : Oc} {KM : Mo} {KV : Hi} {kb : Bool} {T : Ta} {S : Nat → Sh} {nw tp ro rd ud as kp la sz : Nat → Int32} {it mv : Nat → Int64} {ty pl : Int32} {fa : Bool} {un ku : Int32} {ik : Bool} {as2 : Nat → Int32} (A : ALL h O M V KO KM KV kb T S nw tp ro rd ud as kp la sz it mv ty pl fa un ku ik) (C : MetC μ1 6 (.ref 0 :: av) h r O M V KO KM KV kb T S) (R : ∀ g : XH, MetH μ2 (6, 0, 0) (.ref 98 :: av) (mh g nw tp ro rd ud as kp la sz it mv ty pl fa un ku ik) r (mh g nw tp ro rd ud as2 kp la sz it mv ty pl fa un ku ik)) : STEP μ1 μ2 av h := step_C A C R A.2.2
/-! the calls -/
theorem bcase (b : Bool) : b = true ∨ b = false := by cases b <;> simp
theorem g_tree {d nT : Nat} {a b c : Int32} {h : XH} {nw tp ro rd ud as kp la sz : Nat → Int32} {it mv : Nat → Int64} {ty pl : Int32} {fa : Bool} {un ku : Int32} {ik : Bool} (h0 : nw 0 = nI nT) (hT : nT < 6) (hb : treeOk a b c = true) : MetH mX7_tree (d + 1, 0, 0) [.ref 98, .int a, .int b, .int c] (mh h nw tp ro rd ud as kp la sz it mv ty pl fa un ku ik) (nI nT) (mh h (tcF nw nT a b c) tp ro rd ud as kp la sz it mv ty pl fa (nI 0) ku ik) := by
  have := c_X7_tree (d := d) (h := (mh h nw tp ro rd ud as kp la sz it mv ty pl fa un ku ik)) rfl rfl h0 (by omega) hb
  rw [if_neg (by omega), if_neg (by omega), mh99] at this
  have e : xup (mh h (tcF nw nT a b c) tp ro rd ud as kp la sz it mv ty pl fa un ku ik) 98 (.inr (7, mfs ty pl fa (nI 0) ku ik)) = (mh h (tcF nw nT a b c) tp ro rd ud as kp la sz it mv ty pl fa (nI 0) ku ik) := mh98_8 _ _ _ _ _ _ _ _ _ _ _ _ _ _ _ _ _ _ _
  rw [e] at this
  exact this
theorem g_ladder {d nL : Nat} {a b c : Int32} {h : XH} {nw tp ro rd ud as kp la sz : Nat → Int32} {it mv : Nat → Int64} {ty pl : Int32} {fa : Bool} {un ku : Int32} {ik : Bool} (h0 : nw 1 = nI nL) (hL : nL < 4) (hb : ladOk a b c = true) : MetH mX7_ladder (d + 1, 0, 0) [.ref 98, .int a, .int b, .int c] (mh h nw tp ro rd ud as kp la sz it mv ty pl fa un ku ik) (nI nL) (mh h (lcF nw nL a b c (-4)) tp ro rd ud as kp la sz it mv ty pl fa (nI 0) ku ik) := by
  have := c_X7_ladder (d := d) (h := (mh h nw tp ro rd ud as kp la sz it mv ty pl fa un ku ik)) rfl rfl h0 (by omega) hb
  rw [if_neg (by omega), if_neg (by omega), mh99] at this
  have e : xup (mh h (lcF nw nL a b c (-4)) tp ro rd ud as kp la sz it mv ty pl fa un ku ik) 98 (.inr (7, mfs ty pl fa (nI 0) ku ik)) = (mh h (lcF nw nL a b c (-4)) tp ro rd ud as kp la sz it mv ty pl fa (nI 0) ku ik) := mh98_8 _ _ _ _ _ _ _ _ _ _ _ _ _ _ _ _ _ _ _
  rw [e] at this
  exact this
theorem st_tree {a b c : Int32} {h : XH} {O : Oc} {M : Mo} {V : Hi} {KO : Oc} {KM : Mo} {KV : Hi} {kb : Bool} {T : Ta} {S : Nat → Sh} {nw tp ro rd ud as kp la sz : Nat → Int32} {it mv : Nat → Int64} {ty pl : Int32} {fa : Bool} {un ku : Int32} {ik : Bool} (A : ALL h O M V KO KM KV kb T S nw tp ro rd ud as kp la sz it mv ty pl fa un ku ik) : STEP mX6_tree mX7_tree [.int a, .int b, .int c] h := by
  obtain ⟨H, E, ⟨o1, o2, o3, o4⟩, rK, rT, rS⟩ := id A
  have hT := o1.2.2.1
  rcases bcase (treeOk a b c) with hb | hb
  · by_cases q : O.nT = 6
    · refine step_S (as2 := as) A (c_X6_tree_full (d := 5) H q hb) (fun g => ?_)
      have := c_X7_tree (d := 5) (h := (mh g nw tp ro rd ud as kp la sz it mv ty pl fa un ku ik)) rfl rfl o1.1 hT hb
      rw [if_pos q, if_pos q] at this
      exact this
    · obtain ⟨r1, r2⟩ := tree_rel o1 o2 (by omega) hb
      refine step_C A (c_X6_tree (d := 5) H (by omega) hb) (fun g => g_tree (d := 5) o1.1 (by omega) hb) ⟨RelO.new r1 r2 ?_, rK, rT, rS⟩
      rw [tcF_o (by omega) (by omega)]
      exact o3
  · exact step_S (as2 := as) A (c_X6_tree_bad (d := 5) hb) (fun g => c_X7_tree_bad (d := 5) hb)
theorem st_ladder {a b c : Int32} {h : XH} {O : Oc} {M : Mo} {V : Hi} {KO : Oc} {KM : Mo} {KV : Hi} {kb : Bool} {T : Ta} {S : Nat → Sh} {nw tp ro rd ud as kp la sz : Nat → Int32} {it mv : Nat → Int64} {ty pl : Int32} {fa : Bool} {un ku : Int32} {ik : Bool} (A : ALL h O M V KO KM KV kb T S nw tp ro rd ud as kp la sz it mv ty pl fa un ku ik) : STEP mX6_ladder mX7_ladder [.int a, .int b, .int c] h := by
  obtain ⟨H, E, ⟨o1, o2, o3, o4⟩, rK, rT, rS⟩ := id A
  have hL := o1.2.2.2.1
  rcases bcase (ladOk a b c) with hb | hb
  · by_cases q : O.nL = 4
    · refine step_S (as2 := as) A (c_X6_ladder_full (d := 5) H q hb) (fun g => ?_)
      have := c_X7_ladder (d := 5) (h := (mh g nw tp ro rd ud as kp la sz it mv ty pl fa un ku ik)) rfl rfl o1.2.1 hL hb
      rw [if_pos q, if_pos q] at this
      exact this
    · obtain ⟨r1, r2⟩ := lad_rel o1 o2 (by omega) hb
      refine step_C A (c_X6_ladder (d := 5) H (by omega) hb) (fun g => g_ladder (d := 5) o1.2.1 (by omega) hb) ⟨RelO.new r1 r2 ?_, rK, rT, rS⟩
      rw [lcF_o (by omega) (by omega)]
      exact o3
  · exact step_S (as2 := as) A (c_X6_ladder_bad (d := 5) hb) (fun g => c_X7_ladder_bad (d := 5) hb)
theorem st_of {a b : Int32} {h : XH} {O : Oc} {M : Mo} {V : Hi} {KO : Oc} {KM : Mo} {KV : Hi} {kb : Bool} {T : Ta} {S : Nat → Sh} {nw tp ro rd ud as kp la sz : Nat → Int32} {it mv : Nat → Int64} {ty pl : Int32} {fa : Bool} {un ku : Int32} {ik : Bool} (A : ALL h O M V KO KM KV kb T S nw tp ro rd ud as kp la sz it mv ty pl fa un ku ik) : STEP mX6_of mX7_of [.int a, .int b] h := by
  obtain ⟨H, E, ⟨o1, o2, o3, o4⟩, rK, rT, rS⟩ := id A
  exact step_S (as2 := as) A (c_X6_of (d := 3) H o1 o2) (fun g => c_X7_of (d := 3) (RM.wf o1 o2))
theorem st_at {a b : Int32} {h : XH} {O : Oc} {M : Mo} {V : Hi} {KO : Oc} {KM : Mo} {KV : Hi} {kb : Bool} {T : Ta} {S : Nat → Sh} {nw tp ro rd ud as kp la sz : Nat → Int32} {it mv : Nat → Int64} {ty pl : Int32} {fa : Bool} {un ku : Int32} {ik : Bool} (A : ALL h O M V KO KM KV kb T S nw tp ro rd ud as kp la sz it mv ty pl fa un ku ik) : STEP mX6_at mX7_at [.int a, .int b] h := by
  obtain ⟨H, E, ⟨o1, o2, o3, o4⟩, rK, rT, rS⟩ := id A
  exact step_S (as2 := as) A (c_X6_at (d := 2) H o1 o2) (fun g => c_X7_at (d := 4) (RM.wf o1 o2))
theorem st_count {a : Int32} {h : XH} {O : Oc} {M : Mo} {V : Hi} {KO : Oc} {KM : Mo} {KV : Hi} {kb : Bool} {T : Ta} {S : Nat → Sh} {nw tp ro rd ud as kp la sz : Nat → Int32} {it mv : Nat → Int64} {ty pl : Int32} {fa : Bool} {un ku : Int32} {ik : Bool} (A : ALL h O M V KO KM KV kb T S nw tp ro rd ud as kp la sz it mv ty pl fa un ku ik) : STEP mX6_count mX7_count [.int a] h := by
  obtain ⟨H, E, ⟨o1, o2, o3, o4⟩, rK, rT, rS⟩ := id A
  exact step_S (as2 := as) A (c_X6_count (d := 5) H o1 o2 o4.2.1) (fun g => c_X7_count (d := 4) (RM.wf o1 o2))
theorem st_reached {a b : Int32} {h : XH} {O : Oc} {M : Mo} {V : Hi} {KO : Oc} {KM : Mo} {KV : Hi} {kb : Bool} {T : Ta} {S : Nat → Sh} {nw tp ro rd ud as kp la sz : Nat → Int32} {it mv : Nat → Int64} {ty pl : Int32} {fa : Bool} {un ku : Int32} {ik : Bool} (A : ALL h O M V KO KM KV kb T S nw tp ro rd ud as kp la sz it mv ty pl fa un ku ik) : STEP mX6_reached mX7_reached [.int a, .int b] h := by
  obtain ⟨H, E, ⟨o1, o2, o3, o4⟩, rK, rT, rS⟩ := id A
  exact step_S (as2 := as) A (c_X6_reached (d := 3) H o1 o2) (fun g => c_X7_reached (d := 3) (RM.wf o1 o2))
