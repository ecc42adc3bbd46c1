/-! the class's own methods: a text, images -/
theorem CI.KA {h : XH} {O : Oc} {M : Mo} {V : Hi} {KO : Oc} {KM : Mo} {KV : Hi} {kp : Bool} {T : Ta} {S : Nat → Sh} (H : CI h O M V KO KM KV kp T S) : setA h 36 KO KM = h := by
  unfold setA
  rw [IsO.set H.cKO]
  exact IsM.set H.cKM
def imO (P O : Oc) : Oc := (Oc.mk (cpO P O).nT (cpO P O).nL P.ba P.wa (cpO P O).hi (cpO P O).ri (cpO P O).ki (cpO P O).le (cpO P O).pr)
theorem bcH_ps (A B : Hi) (k : Nat) : (bcH A B k).ps = A.ps := rfl
theorem c_X6_image {d : Nat} {h : XH} {O : Oc} {M : Mo} {V : Hi} {KO : Oc} {KM : Mo} {KV : Hi} {kp : Bool} {T : Ta} {S : Nat → Sh} (H : CI h O M V KO KM KV kp T S) (hk : V.known ≤ 8) : MetC mX6_image (d + 3) [.ref 0] h (nI 1) O M V (imO O KO) (cpM M KM) (bcH KV V V.known) true T S := by
  have B1 := c_X3_become (d := d) (o := 36) (p := 1) (h := h) (O := KO) (M := KM) H.cO H.cM (by omega)
  rw [H.KA] at B1
  have H1 : CI (setA h 36 (imO O KO) (cpM M KM)) O M V (imO O KO) (cpM M KM) KV kp T S := H.kor (sA_O _ _ _ _) (sA_M _ _ _ _) (fun i q => sAo _ _ _ (by omega))
  have B2 := c_X1_become (d := d) (H := 45) (G := 10) (h := setA h 36 (imO O KO) (cpM M KM)) H1.p2 H1.p1 H1.cV hk (by omega)
  rw [IsH.set H1.p2 H1.cKV] at B2
  have H2 : CI (setH (setA h 36 (imO O KO) (cpM M KM)) 45 (bcH KV V V.known)) O M V (imO O KO) (cpM M KM) (bcH KV V V.known) kp T S := H1.khi (sH_is H1.p2) H1.p2 (fun i q => sHo (V := bcH KV V V.known) H1.p2 (by omega))
  refine MetX.of (by decide) rfl (Nat.le_of_ble_eq_true rfl) ?_
  refine X.aload iX6_image_0 rfl ?_
  refine X.getf iX6_image_1 (by first | exact H.c0 | exact H.cO.1 | exact H.cM.1 | exact H.cV.1 | exact H.cT.1 | exact H.cT.2 | exact H.cKO.1 | exact H.cKV.1 | exact H1.c0 | exact H1.cO.1 | exact H1.cM.1 | exact H1.cV.1 | exact H1.cT.1 | exact H1.cKV.1 | exact H1.cKO.1 | exact H2.c0 | exact H2.cO.1 | exact H2.cM.1 | exact H2.cV.1 | assumption) rfl ?_
  refine X.aload iX6_image_4 rfl ?_
  refine X.getf iX6_image_5 (by first | exact H.c0 | exact H.cO.1 | exact H.cM.1 | exact H.cV.1 | exact H.cT.1 | exact H.cT.2 | exact H.cKO.1 | exact H.cKV.1 | exact H1.c0 | exact H1.cO.1 | exact H1.cM.1 | exact H1.cV.1 | exact H1.cT.1 | exact H1.cKV.1 | exact H1.cKO.1 | exact H2.c0 | exact H2.cO.1 | exact H2.cM.1 | exact H2.cV.1 | assumption) rfl ?_
  refine X.callVv iX6_image_8 (B1) (by first | exact H.c0 | exact H.cO.1 | exact H.cM.1 | exact H.cV.1 | exact H.cT.1 | exact H.cT.2 | exact H.cKO.1 | exact H.cKV.1 | exact H1.c0 | exact H1.cO.1 | exact H1.cM.1 | exact H1.cV.1 | exact H1.cT.1 | exact H1.cKV.1 | exact H1.cKO.1 | exact H2.c0 | exact H2.cO.1 | exact H2.cM.1 | exact H2.cV.1 | assumption) rfl rfl (xfit _ _ _) (Nat.le_of_ble_eq_true rfl) ?_
  refine X.aload iX6_image_11 rfl ?_
  refine X.getf iX6_image_12 H1.c0 rfl ?_
  refine X.aload iX6_image_15 rfl ?_
  refine X.getf iX6_image_16 H1.c0 rfl ?_
  refine X.callVv iX6_image_19 (B2) (by first | exact H.c0 | exact H.cO.1 | exact H.cM.1 | exact H.cV.1 | exact H.cT.1 | exact H.cT.2 | exact H.cKO.1 | exact H.cKV.1 | exact H1.c0 | exact H1.cO.1 | exact H1.cM.1 | exact H1.cV.1 | exact H1.cT.1 | exact H1.cKV.1 | exact H1.cKO.1 | exact H2.c0 | exact H2.cO.1 | exact H2.cM.1 | exact H2.cV.1 | assumption) rfl rfl (xfit _ _ _) (Nat.le_of_ble_eq_true rfl) ?_
  refine X.aload iX6_image_22 rfl ?_
  refine X.pushi (v := bI true) iX6_image_23 ?_
  refine X.putz iX6_image_24 H2.c0 (Nat.le_of_ble_eq_true rfl) ?_
  refine X.pushi (v := nI 1) iX6_image_27 ?_
  exact X.iret iX6_image_28 ⟨rfl, H2.kfl (k2 := true) (xup_eq _ _ _) (fun i q => xup_ne _ _ (by omega)), fun i hi => (xup_ne _ _ (by omega)).trans ((sHo (V := bcH KV V V.known) H1.p2 (by omega)).trans (sAo _ _ _ (by omega)))⟩
theorem c_X6_restore_none {d : Nat} {h : XH} {O : Oc} {M : Mo} {V : Hi} {KO : Oc} {KM : Mo} {KV : Hi} {kp : Bool} {T : Ta} {S : Nat → Sh} (H : CI h O M V KO KM KV kp T S) (e : kp = false) : MetI mX6_restore (d, 0, 0) [.ref 0] h (-4) := by
  subst e
  refine MetX.of (by decide) rfl (Nat.le_of_ble_eq_true rfl) ?_
  refine X.aload iX6_restore_0 rfl ?_
  refine X.getf iX6_restore_1 (by first | exact H.c0 | exact H.cO.1 | exact H.cM.1 | exact H.cV.1 | exact H.cT.1 | exact H.cT.2 | exact H.cKO.1 | exact H.cKV.1 | exact H1.c0 | exact H1.cO.1 | exact H1.cM.1 | exact H1.cV.1 | exact H1.cT.1 | exact H1.cKV.1 | exact H1.cKO.1 | exact H2.c0 | exact H2.cO.1 | exact H2.cM.1 | exact H2.cV.1 | assumption) rfl ?_
  refine X.ifneB iX6_restore_4 (fun c4 => ?_) (fun c4 => ?_)
  · exact absurd c4 (by decide)
  · refine X.pushi iX6_restore_7 ?_
    exact X.iret iX6_restore_9 ⟨rfl, rfl⟩
theorem c_X6_restore {d : Nat} {h : XH} {O : Oc} {M : Mo} {V : Hi} {KO : Oc} {KM : Mo} {KV : Hi} {kp : Bool} {T : Ta} {S : Nat → Sh} (H : CI h O M V KO KM KV kp T S) (hk : KV.known ≤ 8) (e : kp = true) : MetC mX6_restore (d + 3) [.ref 0] h (nI 1) (imO KO O) (cpM KM M) (bcH V KV KV.known) KO KM KV kp T S := by
  subst e
  have B1 := c_X3_become (d := d) (o := 1) (p := 36) (h := h) (O := O) (M := M) H.cKO H.cKM (by omega)
  rw [H.A] at B1
  have H1 : CI (setA h 1 (imO KO O) (cpM KM M)) (imO KO O) (cpM KM M) V KO KM KV true T S := H.aft _ _
  have B2 := c_X1_become (d := d) (H := 10) (G := 45) (h := setA h 1 (imO KO O) (cpM KM M)) H1.p1 H1.p2 H1.cKV hk (by omega)
  rw [IsH.set H1.p1 H1.cV] at B2
  have H2 := H1.afh (V2 := bcH V KV KV.known) H1.p1
  refine MetX.of (by decide) rfl (Nat.le_of_ble_eq_true rfl) ?_
  refine X.aload iX6_restore_0 rfl ?_
  refine X.getf iX6_restore_1 (by first | exact H.c0 | exact H.cO.1 | exact H.cM.1 | exact H.cV.1 | exact H.cT.1 | exact H.cT.2 | exact H.cKO.1 | exact H.cKV.1 | exact H1.c0 | exact H1.cO.1 | exact H1.cM.1 | exact H1.cV.1 | exact H1.cT.1 | exact H1.cKV.1 | exact H1.cKO.1 | exact H2.c0 | exact H2.cO.1 | exact H2.cM.1 | exact H2.cV.1 | assumption) rfl ?_
  refine X.ifneB iX6_restore_4 (fun c4 => ?_) (fun c4 => ?_)
  · refine X.aload iX6_restore_10 rfl ?_
    refine X.getf iX6_restore_11 (by first | exact H.c0 | exact H.cO.1 | exact H.cM.1 | exact H.cV.1 | exact H.cT.1 | exact H.cT.2 | exact H.cKO.1 | exact H.cKV.1 | exact H1.c0 | exact H1.cO.1 | exact H1.cM.1 | exact H1.cV.1 | exact H1.cT.1 | exact H1.cKV.1 | exact H1.cKO.1 | exact H2.c0 | exact H2.cO.1 | exact H2.cM.1 | exact H2.cV.1 | assumption) rfl ?_
    refine X.aload iX6_restore_14 rfl ?_
    refine X.getf iX6_restore_15 (by first | exact H.c0 | exact H.cO.1 | exact H.cM.1 | exact H.cV.1 | exact H.cT.1 | exact H.cT.2 | exact H.cKO.1 | exact H.cKV.1 | exact H1.c0 | exact H1.cO.1 | exact H1.cM.1 | exact H1.cV.1 | exact H1.cT.1 | exact H1.cKV.1 | exact H1.cKO.1 | exact H2.c0 | exact H2.cO.1 | exact H2.cM.1 | exact H2.cV.1 | assumption) rfl ?_
    refine X.callVv iX6_restore_18 (B1) (by first | exact H.c0 | exact H.cO.1 | exact H.cM.1 | exact H.cV.1 | exact H.cT.1 | exact H.cT.2 | exact H.cKO.1 | exact H.cKV.1 | exact H1.c0 | exact H1.cO.1 | exact H1.cM.1 | exact H1.cV.1 | exact H1.cT.1 | exact H1.cKV.1 | exact H1.cKO.1 | exact H2.c0 | exact H2.cO.1 | exact H2.cM.1 | exact H2.cV.1 | assumption) rfl rfl (xfit _ _ _) (Nat.le_of_ble_eq_true rfl) ?_
    refine X.aload iX6_restore_21 rfl ?_
    refine X.getf iX6_restore_22 H1.c0 rfl ?_
    refine X.aload iX6_restore_25 rfl ?_
    refine X.getf iX6_restore_26 H1.c0 rfl ?_
    refine X.callVv iX6_restore_29 (B2) (by first | exact H.c0 | exact H.cO.1 | exact H.cM.1 | exact H.cV.1 | exact H.cT.1 | exact H.cT.2 | exact H.cKO.1 | exact H.cKV.1 | exact H1.c0 | exact H1.cO.1 | exact H1.cM.1 | exact H1.cV.1 | exact H1.cT.1 | exact H1.cKV.1 | exact H1.cKO.1 | exact H2.c0 | exact H2.cO.1 | exact H2.cM.1 | exact H2.cV.1 | assumption) rfl rfl (xfit _ _ _) (Nat.le_of_ble_eq_true rfl) ?_
    refine X.pushi (v := nI 1) iX6_restore_32 ?_
    exact X.iret iX6_restore_33 ⟨rfl, H2, fun i hi => (sHo (V := bcH V KV KV.known) H1.p1 (by omega)).trans (sAo _ _ _ (by omega))⟩
  · exact absurd c4 (by decide)
def toM (N M : Mo) : Mo := (Mo.mk (cpM N M).fr (cpM N M).ln (cpM N M).got (cpM N M).paid (cpM N M).lost (cpM N M).day M.draw)
theorem c_X6_orchard {d : Nat} {h : XH} {O : Oc} {M : Mo} {V : Hi} {KO : Oc} {KM : Mo} {KV : Hi} {kp : Bool} {T : Ta} {S : Nat → Sh} (H : CI h O M V KO KM KV kp T S) (hn : T.n ≤ 90) : MetX mX6_orchard (d + 5, 0, 0) [.ref 0] h (fun v h' => ∃ (PO : Oc) (PM : Mo), (PM.got = 0 ∧ PM.paid = 0 ∧ PM.lost = 0 ∧ PM.day = 0) ∧ v = some (.int (rdV T.cl T.n PO PM)) ∧ (∀ i, 98 ≤ i → h' i = h i) ∧
    ((rdV T.cl T.n PO PM < 0 ∧ ∃ p f, CI h' O M V KO KM KV kp (Ta.mk T.cl 0 p f) S) ∨ (¬ rdV T.cl T.n PO PM < 0 ∧ ∃ p f, CI h' (cpO (rdB T.cl T.n PO PM).2.2.1 O) (toM (rdB T.cl T.n PO PM).2.2.2 M) (fgH V) KO KM KV kp (Ta.mk T.cl 0 p f) S))) := by
  obtain ⟨PO, iO⟩ := H.cDO
  obtain ⟨PM, iM, z⟩ := H.cDM
  have eh : tpic h 71 73 T PO PM = h := by
    show setT (setM (setO h 73 PO) 79 PM) 71 T = h
    rw [IsO.set iO, IsM.set iM, IsT.set H.cT]
  have RD := c_X5_read (d := d) (s := 71) (o := 73) (h := h) (cl := T.cl) (n := T.n) (p := T.p) (f := T.f) (O := PO) (M := PM) hn (by omega)
  rw [show tpic h 71 73 (Ta.mk T.cl T.n T.p T.f) PO PM = h from eh] at RD
  have mk := (read_same (tp := T.cl) (O := PO) (M := PM) (ro := fun _ => 0) (rd := fun _ => 0) hn).2.1
  refine MetX.of (by decide) rfl (Nat.le_of_ble_eq_true rfl) ?_
  generalize hr : rdV T.cl T.n PO PM = r at RD
  generalize hA : rdB T.cl T.n PO PM = A at RD mk
  refine X.aload iX6_orchard_0 rfl ?_
  refine X.getf iX6_orchard_1 H.c0 rfl ?_
  refine X.aload iX6_orchard_4 rfl ?_
  refine X.getf iX6_orchard_5 H.c0 rfl ?_
  refine X.callV iX6_orchard_8 RD H.cT.1 rfl rfl (xfit _ _ _) (Nat.le_of_ble_eq_true rfl) ⟨Nat.le_refl _, Nat.le_refl _⟩ ?_
  intro v g hv
  obtain ⟨rfl, p, f, rfl⟩ := hv
  have fr : ∀ (V2 : Ta) i, i < 71 ∨ 81 < i → tpic h 71 73 V2 A.2.2.1 A.2.2.2 i = h i := fun V2 i hi => by
    show setT (setA h 73 A.2.2.1 A.2.2.2) 71 V2 i = h i
    rw [sTo _ _ (by omega), sAo _ _ _ (by omega)]
  have G : ∀ V2 : Ta, CI (tpic h 71 73 V2 A.2.2.1 A.2.2.2) O M V KO KM KV kp V2 S := fun V2 => by
    refine H.rea (T2 := V2) (O2 := A.2.2.1) (M2 := A.2.2.2) (sT_is _ _ _) ?_ ?_ ⟨mk.1.trans z.1, mk.2.1.trans z.2.1, mk.2.2.1.trans z.2.2.1, mk.2.2.2.trans z.2.2.2⟩ (fun i q => fr V2 i q.1)
    · rw [show tpic h 71 73 V2 A.2.2.1 A.2.2.2 = setA (setT h 71 V2) 73 A.2.2.1 A.2.2.2 from sTA _ _ _ _ (by omega)]
      exact sA_O _ _ _ _
    · rw [show tpic h 71 73 V2 A.2.2.1 A.2.2.2 = setA (setT h 71 V2) 73 A.2.2.1 A.2.2.2 from sTA _ _ _ _ (by omega)]
      exact sA_M _ _ _ _
  have H1 := G (Ta.mk T.cl T.n p f)
  have H2 := G (Ta.mk T.cl 0 p f)
  have TO := c_X3_takeOver (d := d + 2) (o := 1) (p := 73) (h := tpic h 71 73 (Ta.mk T.cl 0 p f) A.2.2.1 A.2.2.2) (O := O) (M := M) (P := A.2.2.1) (N := A.2.2.2) (by rw [show tpic h 71 73 (Ta.mk T.cl 0 p f) A.2.2.1 A.2.2.2 = setA (setT h 71 (Ta.mk T.cl 0 p f)) 73 A.2.2.1 A.2.2.2 from sTA _ _ _ _ (by omega)]; exact sA_O _ _ _ _) (by rw [show tpic h 71 73 (Ta.mk T.cl 0 p f) A.2.2.1 A.2.2.2 = setA (setT h 71 (Ta.mk T.cl 0 p f)) 73 A.2.2.1 A.2.2.2 from sTA _ _ _ _ (by omega)]; exact sA_M _ _ _ _) (by omega)
  rw [H2.A] at TO
  have H3 := H2.aft (cpO A.2.2.1 O) (toM A.2.2.2 M)
  have e3 : setH (setA (tpic h 71 73 (Ta.mk T.cl 0 p f) A.2.2.1 A.2.2.2) 1 (cpO A.2.2.1 O) (toM A.2.2.2 M)) 10 V = setA (tpic h 71 73 (Ta.mk T.cl 0 p f) A.2.2.1 A.2.2.2) 1 (cpO A.2.2.1 O) (toM A.2.2.2 M) := IsH.set H3.p1 H3.cV
  refine X.istore iX6_orchard_11 rfl rfl ?_
  refine X.aload iX6_orchard_12 rfl ?_
  refine X.getf iX6_orchard_13 H1.c0 rfl ?_
  refine X.pushi (v := nI 0) iX6_orchard_16 ?_
  refine X.puti iX6_orchard_17 H1.cT.1 (Nat.le_of_ble_eq_true rfl) ?_
  refine X.heap (h' := tpic h 71 73 (Ta.mk T.cl 0 p f) A.2.2.1 A.2.2.2) (sT_n _ _ _ 0) ?_
  refine X.iload iX6_orchard_20 rfl ?_
  refine X.ifge iX6_orchard_21 (fun c21 => ?_) (fun c21 => ?_)
  · refine X.aload iX6_orchard_26 rfl ?_
    refine X.getf iX6_orchard_27 H2.c0 rfl ?_
    refine X.aload iX6_orchard_30 rfl ?_
    refine X.getf iX6_orchard_31 H2.c0 rfl ?_
    refine X.callVv iX6_orchard_34 (TO) (by first | exact H.c0 | exact H.cO.1 | exact H.cM.1 | exact H.cV.1 | exact H.cT.1 | exact H.cT.2 | exact H.cKO.1 | exact H.cKV.1 | exact H1.c0 | exact H1.cO.1 | exact H1.cM.1 | exact H1.cV.1 | exact H1.cT.1 | exact H1.cKV.1 | exact H1.cKO.1 | exact H2.c0 | exact H2.cO.1 | exact H2.cM.1 | exact H2.cV.1 | assumption) rfl rfl (xfit _ _ _) (Nat.le_of_ble_eq_true rfl) ?_
    refine X.aload iX6_orchard_37 rfl ?_
    refine X.getf iX6_orchard_38 H3.c0 rfl ?_
    refine X.pushi (v := nI 0) iX6_orchard_41 ?_
    refine X.puti iX6_orchard_42 H3.cV.1 (Nat.le_of_ble_eq_true rfl) ?_
    refine X.heap (h' := setH (setA (tpic h 71 73 (Ta.mk T.cl 0 p f) A.2.2.1 A.2.2.2) 1 (cpO A.2.2.1 O) (toM A.2.2.2 M)) 10 (fgH V)) (by rw [fgH, ← sH_k H3.p1, e3]; rfl) ?_
    refine X.iload iX6_orchard_45 rfl ?_
    exact X.iret iX6_orchard_46 ⟨PO, PM, z, by rw [hr], fun i hi => (sHo (V := fgH V) H3.p1 (by omega)).trans ((sAo _ _ _ (by omega)).trans (fr _ i (by omega))), Or.inr ⟨by rw [hr]; exact Int32.not_lt.mpr c21, p, f, by rw [hA]; exact H3.afh (V2 := fgH V) H3.p1⟩⟩
  · refine X.iload iX6_orchard_24 rfl ?_
    exact X.iret iX6_orchard_25 ⟨PO, PM, z, by rw [hr], fun i hi => fr _ i (by omega), Or.inl ⟨by rw [hr]; exact Int32.not_le.mp c21, p, f, H2⟩⟩
