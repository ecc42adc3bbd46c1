/-! the class: shaking, gusts, what is got -/
def shM (M : Mo) (t : Nat) : Mo := (Mo.mk (upd M.fr t (M.fr t - M.fr t / nI 2)) M.ln M.got M.paid (M.lost + M.fr t / nI 2) M.day M.draw)
theorem c_X2_shakeOff {d m t : Nat} {h : XH} {M : Mo} (ht : t < 6) : MetH mX2_shakeOff (d, 0, 0) [.ref m, .int (nI t)] (setM h m M) (M.fr t / nI 2) (setM h m (shM M t)) := by
  refine MetX.of (by decide) rfl (Nat.le_of_ble_eq_true rfl) ?_
  refine X.aload iX2_shakeOff_0 rfl ?_
  refine X.getf iX2_shakeOff_1 (by first | assumption | exact sM0 _ _ _ | exact sM1 _ _ _ | exact sM2 _ _ _ | rfl | repeat (first | assumption | exact xup_eq _ _ _ | exact sM0 _ _ _ | exact sM1 _ _ _ | exact sM2 _ _ _ | rw [xup_ne _ _ (by first | decide | omega | assumption)] | rw [sMo _ _ (by omega)])) rfl ?_
  refine X.iload iX2_shakeOff_4 rfl ?_
  refine X.ialdE iX2_shakeOff_5 (by first | assumption | exact sM0 _ _ _ | exact sM1 _ _ _ | exact sM2 _ _ _ | rfl | repeat (first | assumption | exact xup_eq _ _ _ | exact sM0 _ _ _ | exact sM1 _ _ _ | exact sM2 _ _ _ | rw [xup_ne _ _ (by first | decide | omega | assumption)] | rw [sMo _ _ (by omega)])) rfl ht (by decide) ?_
  refine X.pushi (v := nI 2) iX2_shakeOff_6 ?_
  refine X.idiv iX2_shakeOff_7 (by decide) ?_
  refine X.istore iX2_shakeOff_8 rfl rfl ?_
  refine X.aload iX2_shakeOff_9 rfl ?_
  refine X.getf iX2_shakeOff_10 (by first | assumption | exact sM0 _ _ _ | exact sM1 _ _ _ | exact sM2 _ _ _ | rfl | repeat (first | assumption | exact xup_eq _ _ _ | exact sM0 _ _ _ | exact sM1 _ _ _ | exact sM2 _ _ _ | rw [xup_ne _ _ (by first | decide | omega | assumption)] | rw [sMo _ _ (by omega)])) rfl ?_
  refine X.iload iX2_shakeOff_13 rfl ?_
  refine X.dup2 iX2_shakeOff_14 ?_
  refine X.ialdE iX2_shakeOff_15 (by first | assumption | exact sM0 _ _ _ | exact sM1 _ _ _ | exact sM2 _ _ _ | rfl | repeat (first | assumption | exact xup_eq _ _ _ | exact sM0 _ _ _ | exact sM1 _ _ _ | exact sM2 _ _ _ | rw [xup_ne _ _ (by first | decide | omega | assumption)] | rw [sMo _ _ (by omega)])) rfl ht (by decide) ?_
  refine X.iload iX2_shakeOff_16 rfl ?_
  refine X.isub iX2_shakeOff_17 ?_
  refine X.iastE iX2_shakeOff_18 (by first | assumption | exact sM0 _ _ _ | exact sM1 _ _ _ | exact sM2 _ _ _ | rfl | repeat (first | assumption | exact xup_eq _ _ _ | exact sM0 _ _ _ | exact sM1 _ _ _ | exact sM2 _ _ _ | rw [xup_ne _ _ (by first | decide | omega | assumption)] | rw [sMo _ _ (by omega)])) rfl ht (by decide) ?_
  rw [sM_fr]
  refine X.aload iX2_shakeOff_19 rfl ?_
  refine X.dupa iX2_shakeOff_20 ?_
  refine X.getf iX2_shakeOff_21 (by first | assumption | exact sM0 _ _ _ | exact sM1 _ _ _ | exact sM2 _ _ _ | rfl | repeat (first | assumption | exact xup_eq _ _ _ | exact sM0 _ _ _ | exact sM1 _ _ _ | exact sM2 _ _ _ | rw [xup_ne _ _ (by first | decide | omega | assumption)] | rw [sMo _ _ (by omega)])) rfl ?_
  refine X.iload iX2_shakeOff_24 rfl ?_
  refine X.iadd iX2_shakeOff_25 ?_
  refine X.puti iX2_shakeOff_26 (by first | assumption | exact sM0 _ _ _ | exact sM1 _ _ _ | exact sM2 _ _ _ | rfl | repeat (first | assumption | exact xup_eq _ _ _ | exact sM0 _ _ _ | exact sM1 _ _ _ | exact sM2 _ _ _ | rw [xup_ne _ _ (by first | decide | omega | assumption)] | rw [sMo _ _ (by omega)])) (Nat.le_of_ble_eq_true rfl) ?_
  rw [sM_lost]
  refine X.iload iX2_shakeOff_29 rfl ?_
  exact X.iret iX2_shakeOff_30 ⟨rfl, rfl⟩
theorem drw_eq (x : Int32) : drw x = (x * nI 1103515245 + nI 12345) &&& nI 2147483647 := by
  rw [drw, Int64.toInt32_and, Int64.toInt32_add, Int64.toInt32_mul, Int32.toInt32_toInt64]
  rfl
def drM (M : Mo) : Mo := (Mo.mk M.fr M.ln M.got M.paid M.lost M.day (drw M.draw))
def gustM (O : Oc) (M : Mo) : Mo :=
  if drw M.draw / nI 65536 - drw M.draw / nI 65536 / nI 4 * nI 4 = 0 ∧ 0 < O.nT then shM (drM M) ((drw M.draw / nI 65536).toNatClampNeg % O.nT) else drM M
theorem c_X3_gust {d o : Nat} {h : XH} {O : Oc} {M : Mo} (H : IsO h o O) (hT : O.nT ≤ 6) : MetV mX3_gust (d + 1, 0, 0) [.ref o] (setM h (o + 6) M) (setM h (o + 6) (gustM O M)) := by
  obtain ⟨h0, h1, h2, h3, h4, h5⟩ := id H
  obtain ⟨a, ha, ea⟩ := drw_nat M.draw
  have eg : drw M.draw / nI 65536 = nI (a / 65536) := by rw [ea, pk_div ha (by decide) (by decide)]
  have hlt : a / 65536 < 2 ^ 31 := Nat.lt_of_le_of_lt (Nat.div_le_self _ _) ha
  have ed := drw_eq M.draw
  refine MetX.of (by decide) rfl (Nat.le_of_ble_eq_true rfl) ?_
  unfold gustM
  refine X.aload iX3_gust_0 rfl ?_
  refine X.getf iX3_gust_1 (by first | assumption | exact sM0 _ _ _ | exact sM1 _ _ _ | exact sM2 _ _ _ | rfl | repeat (first | assumption | exact xup_eq _ _ _ | exact sM0 _ _ _ | exact sM1 _ _ _ | exact sM2 _ _ _ | rw [xup_ne _ _ (by first | decide | omega | assumption)] | rw [sMo _ _ (by omega)])) rfl ?_
  refine X.aload iX3_gust_4 rfl ?_
  refine X.getf iX3_gust_5 (by first | assumption | exact sM0 _ _ _ | exact sM1 _ _ _ | exact sM2 _ _ _ | rfl | repeat (first | assumption | exact xup_eq _ _ _ | exact sM0 _ _ _ | exact sM1 _ _ _ | exact sM2 _ _ _ | rw [xup_ne _ _ (by first | decide | omega | assumption)] | rw [sMo _ _ (by omega)])) rfl ?_
  refine X.getf iX3_gust_8 (by first | assumption | exact sM0 _ _ _ | exact sM1 _ _ _ | exact sM2 _ _ _ | rfl | repeat (first | assumption | exact xup_eq _ _ _ | exact sM0 _ _ _ | exact sM1 _ _ _ | exact sM2 _ _ _ | rw [xup_ne _ _ (by first | decide | omega | assumption)] | rw [sMo _ _ (by omega)])) rfl ?_
  refine X.pushi (v := nI 1103515245) iX3_gust_11 ?_
  refine X.imul iX3_gust_13 ?_
  refine X.pushi (v := nI 12345) iX3_gust_14 ?_
  refine X.iadd iX3_gust_17 ?_
  refine X.pushi (v := nI 2147483647) iX3_gust_18 ?_
  refine X.iand iX3_gust_20 ?_
  refine X.puti iX3_gust_21 (by first | assumption | exact sM0 _ _ _ | exact sM1 _ _ _ | exact sM2 _ _ _ | rfl | repeat (first | assumption | exact xup_eq _ _ _ | exact sM0 _ _ _ | exact sM1 _ _ _ | exact sM2 _ _ _ | rw [xup_ne _ _ (by first | decide | omega | assumption)] | rw [sMo _ _ (by omega)])) (Nat.le_of_ble_eq_true rfl) ?_
  rw [sM_draw, ← ed]
  refine (show X xT mX3_gust (xR (d + 1, 0, 0)) (0, 0) 24 [some (.ref o), none] [] (setM h (o + 6) (drM M)) _ from ?_)
  refine X.aload iX3_gust_24 rfl ?_
  refine X.getf iX3_gust_25 (by first | assumption | exact sM0 _ _ _ | exact sM1 _ _ _ | exact sM2 _ _ _ | rfl | repeat (first | assumption | exact xup_eq _ _ _ | exact sM0 _ _ _ | exact sM1 _ _ _ | exact sM2 _ _ _ | rw [xup_ne _ _ (by first | decide | omega | assumption)] | rw [sMo _ _ (by omega)])) rfl ?_
  refine X.getf iX3_gust_28 (by first | assumption | exact sM0 _ _ _ | exact sM1 _ _ _ | exact sM2 _ _ _ | rfl | repeat (first | assumption | exact xup_eq _ _ _ | exact sM0 _ _ _ | exact sM1 _ _ _ | exact sM2 _ _ _ | rw [xup_ne _ _ (by first | decide | omega | assumption)] | rw [sMo _ _ (by omega)])) rfl ?_
  refine X.pushi (v := nI 65536) iX3_gust_31 ?_
  refine X.idiv iX3_gust_33 (by decide) ?_
  refine X.istore iX3_gust_34 rfl rfl ?_
  refine X.iload iX3_gust_35 rfl ?_
  refine X.pushi (v := nI 4) iX3_gust_36 ?_
  refine X.irem iX3_gust_37 (by decide) ?_
  refine X.ifne iX3_gust_38 (fun c38 => ?_) (fun c38 => ?_)
  · first
    | (refine X.vret iX3_gust_62 ⟨rfl, ?_⟩; rw [if_neg (fun q => c38 q.1)])
    | (refine X.vret iX3_gust_62 ⟨rfl, ?_⟩; rw [if_neg (fun q => nI_nle q.2 (by omega) c45)])
  · refine X.aload iX3_gust_41 rfl ?_
    refine X.getf iX3_gust_42 (by first | assumption | exact sM0 _ _ _ | exact sM1 _ _ _ | exact sM2 _ _ _ | rfl | repeat (first | assumption | exact xup_eq _ _ _ | exact sM0 _ _ _ | exact sM1 _ _ _ | exact sM2 _ _ _ | rw [xup_ne _ _ (by first | decide | omega | assumption)] | rw [sMo _ _ (by omega)])) rfl ?_
    refine X.ifle iX3_gust_45 (fun c45 => ?_) (fun c45 => ?_)
    · first
      | (refine X.vret iX3_gust_62 ⟨rfl, ?_⟩; rw [if_neg (fun q => c38 q.1)])
      | (refine X.vret iX3_gust_62 ⟨rfl, ?_⟩; rw [if_neg (fun q => nI_nle q.2 (by omega) c45)])
    · have h0 : 0 < O.nT := by
        rcases Nat.eq_zero_or_pos O.nT with q | q
        · rw [q] at c45; exact absurd (Int32.le_refl _) c45
        · exact q
      have hm := Nat.mod_lt (a / 65536) h0
      refine X.aload iX3_gust_48 rfl ?_
      refine X.getf iX3_gust_49 (by first | assumption | exact sM0 _ _ _ | exact sM1 _ _ _ | exact sM2 _ _ _ | rfl | repeat (first | assumption | exact xup_eq _ _ _ | exact sM0 _ _ _ | exact sM1 _ _ _ | exact sM2 _ _ _ | rw [xup_ne _ _ (by first | decide | omega | assumption)] | rw [sMo _ _ (by omega)])) rfl ?_
      refine X.iload iX3_gust_52 rfl ?_
      refine X.aload iX3_gust_53 rfl ?_
      refine X.getf iX3_gust_54 (by first | assumption | exact sM0 _ _ _ | exact sM1 _ _ _ | exact sM2 _ _ _ | rfl | repeat (first | assumption | exact xup_eq _ _ _ | exact sM0 _ _ _ | exact sM1 _ _ _ | exact sM2 _ _ _ | rw [xup_ne _ _ (by first | decide | omega | assumption)] | rw [sMo _ _ (by omega)])) rfl ?_
      refine X.irem iX3_gust_57 (nI_ne0 h0 (by omega)) ?_
      refine (show X xT mX3_gust (xR (d + 1, 0, 0)) (0, 0) 58 [some (.ref o), some (.int (drw M.draw / nI 65536))] [.int (drw M.draw / nI 65536 - drw M.draw / nI 65536 / nI O.nT * nI O.nT), .ref (o + 6)] (setM h (o + 6) (drM M)) _ from ?_)
      have c38' : drw M.draw / nI 65536 - drw M.draw / nI 65536 / nI 4 * nI 4 = 0 := c38
      rw [if_pos (And.intro c38' h0), eg, nI_clamp hlt, pk_rem hlt h0 (by omega)]
      refine X.callVi iX3_gust_58 (c_X2_shakeOff (d := d) (by omega)) (sM0 _ _ _) rfl rfl (xfit _ _ _) (Nat.le_of_ble_eq_true rfl) ?_
      refine X.popi iX3_gust_61 ?_
      exact X.vret iX3_gust_62 ⟨rfl, rfl⟩
/-- what is got at a tree, day by day: what is left, and what is got -/
def gwS (O : Oc) (fr day : Int32) (t : Nat) (s guest visits size : Int32) : Nat → Int32 × Int32
  | 0 => (fr, nI 0)
  | k + 1 =>
    let p := gwS O fr day t s guest visits size k
    let a := tkI O.hi O.ri O.ki O.le t O.nL (day + nI k) (if tst visits k = true then s ||| guest else s) p.1 size
    (p.1 - a - stI O.ri t (day + nI k) (p.1 - a) O.wa, p.2 + a)
/-- the loop ends where nothing is left -/
def gwN (O : Oc) (fr day : Int32) (t : Nat) (s guest visits size : Int32) (n : Nat) : Nat → Nat → Int32
  | 0, k => (gwS O fr day t s guest visits size k).2
  | f + 1, k => if k < n then (if 0 < (gwS O fr day t s guest visits size k).1 then gwN O fr day t s guest visits size n f (k + 1) else (gwS O fr day t s guest visits size k).2) else (gwS O fr day t s guest visits size k).2
def gwF (O : Oc) (M : Mo) (t : Nat) (s guest visits : Int32) (n : Nat) (size : Int32) : Int32 := gwN O (M.fr t) M.day t s guest visits size n n 0
theorem c_X3_gotWithGuest {d o t n : Nat} {h : XH} {O : Oc} {M : Mo} {s guest visits size : Int32} (H : IsO h o O) (HM : IsM h (o + 6) M) (hk : KI O.ki O.nL) (hL : O.nL ≤ 4) (ht : t < 6) (hn : n ≤ 100) : MetI mX3_gotWithGuest (d + 4, 0, 0) [.ref o, .int (nI t), .int s, .int guest, .int visits, .int (nI n), .int size] h (gwF O M t s guest visits n size) := by
  obtain ⟨h0, h1, h2, h3, h4, h5⟩ := id H
  obtain ⟨m0, m1, m2⟩ := id HM
  have P : ∀ f k, f + k = n → X xT mX3_gotWithGuest (xR (d + 4, 0, 0)) (0, 0) 17 [some (.ref o), some (.int (nI t)), some (.int s), some (.int guest), some (.int visits), some (.int (nI n)), some (.int size), some (.int (gwS O (M.fr t) M.day t s guest visits size k).1), some (.int (gwS O (M.fr t) M.day t s guest visits size k).2), some (.int (nI k)), none, none] [] h (fun v h' => v = some (.int (gwN O (M.fr t) M.day t s guest visits size n f k)) ∧ h' = h) := by
    intro f
    induction f with
    | zero =>
      intro k hk'
      have : k = n := by omega
      subst this
      refine X.iload iX3_gotWithGuest_17 rfl ?_
      refine X.iload iX3_gotWithGuest_19 rfl ?_
      refine X.cmge iX3_gotWithGuest_21 (fun c21 => ?_) (fun c21 => ?_)
      · refine X.iload iX3_gotWithGuest_113 rfl ?_
        exact X.iret iX3_gotWithGuest_115 ⟨rfl, rfl⟩
      · exact absurd (Int32.le_refl _) c21
    | succ f ih =>
      intro k hk'
      have hlt : k < n := by omega
      have ih := ih (k + 1) (by omega)
      have e1 : gwN O (M.fr t) M.day t s guest visits size n (f + 1) k = if 0 < (gwS O (M.fr t) M.day t s guest visits size k).1 then gwN O (M.fr t) M.day t s guest visits size n f (k + 1) else (gwS O (M.fr t) M.day t s guest visits size k).2 := by rw [gwN, if_pos hlt]
      rw [e1]
      rw [gwS] at ih
      generalize gwS O (M.fr t) M.day t s guest visits size k = p at ih ⊢
      by_cases hp : 0 < p.1
      · rw [if_pos hp]
        have J : ∀ w, w = (if tst visits k = true then s ||| guest else s) → X xT mX3_gotWithGuest (xR (d + 4, 0, 0)) (0, 0) 46 [some (.ref o), some (.int (nI t)), some (.int s), some (.int guest), some (.int visits), some (.int (nI n)), some (.int size), some (.int p.1), some (.int p.2), some (.int (nI k)), none, none] [.int w] h (fun v h' => v = some (.int (gwN O (M.fr t) M.day t s guest visits size n f (k + 1))) ∧ h' = h) := by
          intro w ew
          rw [← ew] at ih
          refine X.istore iX3_gotWithGuest_46 rfl rfl ?_
          refine X.aload iX3_gotWithGuest_48 rfl ?_
          refine X.iload iX3_gotWithGuest_49 rfl ?_
          refine X.aload iX3_gotWithGuest_50 rfl ?_
          refine X.getf iX3_gotWithGuest_51 (by first | assumption | exact sM0 _ _ _ | exact sM1 _ _ _ | exact sM2 _ _ _ | rfl | repeat (first | assumption | exact xup_eq _ _ _ | exact sM0 _ _ _ | exact sM1 _ _ _ | exact sM2 _ _ _ | rw [xup_ne _ _ (by first | decide | omega | assumption)] | rw [sMo _ _ (by omega)])) rfl ?_
          refine X.getf iX3_gotWithGuest_54 (by first | assumption | exact sM0 _ _ _ | exact sM1 _ _ _ | exact sM2 _ _ _ | rfl | repeat (first | assumption | exact xup_eq _ _ _ | exact sM0 _ _ _ | exact sM1 _ _ _ | exact sM2 _ _ _ | rw [xup_ne _ _ (by first | decide | omega | assumption)] | rw [sMo _ _ (by omega)])) rfl ?_
          refine X.iload iX3_gotWithGuest_57 rfl ?_
          refine X.iadd iX3_gotWithGuest_59 ?_
          refine X.iload iX3_gotWithGuest_60 rfl ?_
          refine X.iload iX3_gotWithGuest_62 rfl ?_
          refine X.iload iX3_gotWithGuest_64 rfl ?_
          refine X.callVi iX3_gotWithGuest_66 (c_X3_taken (d := d) H hk hL ht) (by first | assumption | exact sM0 _ _ _ | exact sM1 _ _ _ | exact sM2 _ _ _ | rfl | repeat (first | assumption | exact xup_eq _ _ _ | exact sM0 _ _ _ | exact sM1 _ _ _ | exact sM2 _ _ _ | rw [xup_ne _ _ (by first | decide | omega | assumption)] | rw [sMo _ _ (by omega)])) rfl rfl (xfit _ _ _) (Nat.le_of_ble_eq_true rfl) ?_
          refine X.istore iX3_gotWithGuest_69 rfl rfl ?_
          refine X.iload iX3_gotWithGuest_71 rfl ?_
          refine X.iload iX3_gotWithGuest_73 rfl ?_
          refine X.iadd iX3_gotWithGuest_75 ?_
          refine X.istore iX3_gotWithGuest_76 rfl rfl ?_
          refine X.iload iX3_gotWithGuest_78 rfl ?_
          refine X.iload iX3_gotWithGuest_80 rfl ?_
          refine X.isub iX3_gotWithGuest_82 ?_
          refine X.istore iX3_gotWithGuest_83 rfl rfl ?_
          refine X.iload iX3_gotWithGuest_85 rfl ?_
          refine X.aload iX3_gotWithGuest_87 rfl ?_
          refine X.iload iX3_gotWithGuest_88 rfl ?_
          refine X.aload iX3_gotWithGuest_89 rfl ?_
          refine X.getf iX3_gotWithGuest_90 (by first | assumption | exact sM0 _ _ _ | exact sM1 _ _ _ | exact sM2 _ _ _ | rfl | repeat (first | assumption | exact xup_eq _ _ _ | exact sM0 _ _ _ | exact sM1 _ _ _ | exact sM2 _ _ _ | rw [xup_ne _ _ (by first | decide | omega | assumption)] | rw [sMo _ _ (by omega)])) rfl ?_
          refine X.getf iX3_gotWithGuest_93 (by first | assumption | exact sM0 _ _ _ | exact sM1 _ _ _ | exact sM2 _ _ _ | rfl | repeat (first | assumption | exact xup_eq _ _ _ | exact sM0 _ _ _ | exact sM1 _ _ _ | exact sM2 _ _ _ | rw [xup_ne _ _ (by first | decide | omega | assumption)] | rw [sMo _ _ (by omega)])) rfl ?_
          refine X.iload iX3_gotWithGuest_96 rfl ?_
          refine X.iadd iX3_gotWithGuest_98 ?_
          refine X.iload iX3_gotWithGuest_99 rfl ?_
          refine X.callVi iX3_gotWithGuest_101 (c_X3_stung (d := d + 2) H ht) (by first | assumption | exact sM0 _ _ _ | exact sM1 _ _ _ | exact sM2 _ _ _ | rfl | repeat (first | assumption | exact xup_eq _ _ _ | exact sM0 _ _ _ | exact sM1 _ _ _ | exact sM2 _ _ _ | rw [xup_ne _ _ (by first | decide | omega | assumption)] | rw [sMo _ _ (by omega)])) rfl rfl (xfit _ _ _) (Nat.le_of_ble_eq_true rfl) ?_
          refine X.isub iX3_gotWithGuest_104 ?_
          refine X.istore iX3_gotWithGuest_105 rfl rfl ?_
          refine X.iinc iX3_gotWithGuest_107 rfl rfl rfl ?_
          refine X.goto iX3_gotWithGuest_110 ?_
          rw [nI_1]
          exact X.unset 10 rfl (X.unset 11 rfl ih)
        refine X.iload iX3_gotWithGuest_17 rfl ?_
        refine X.iload iX3_gotWithGuest_19 rfl ?_
        refine X.cmge iX3_gotWithGuest_21 (fun c21 => ?_) (fun c21 => ?_)
        · exact absurd c21 (nI_ge hlt (by omega))
        · refine X.iload iX3_gotWithGuest_24 rfl ?_
          refine X.ifle iX3_gotWithGuest_26 (fun c26 => ?_) (fun c26 => ?_)
          · exact absurd c26 (Int32.not_le.mpr hp)
          · refine X.iload iX3_gotWithGuest_29 rfl ?_
            refine X.iload iX3_gotWithGuest_31 rfl ?_
            refine X.ishr iX3_gotWithGuest_33 ?_
            refine X.pushi (v := nI 1) iX3_gotWithGuest_34 ?_
            refine X.iand iX3_gotWithGuest_35 ?_
            refine X.ifeq iX3_gotWithGuest_36 (fun c36 => ?_) (fun c36 => ?_)
            · refine X.iload iX3_gotWithGuest_45 rfl ?_
              first
              | (refine J _ ?_; rw [tst, decide_eq_true c36, if_pos rfl])
              | (refine J _ ?_; rw [tst, decide_eq_false (fun q => q c36), if_neg Bool.false_ne_true])
            · refine X.iload iX3_gotWithGuest_39 rfl ?_
              refine X.iload iX3_gotWithGuest_40 rfl ?_
              refine X.ior iX3_gotWithGuest_41 ?_
              refine X.goto iX3_gotWithGuest_42 ?_
              first
              | (refine J _ ?_; rw [tst, decide_eq_true c36, if_pos rfl])
              | (refine J _ ?_; rw [tst, decide_eq_false (fun q => q c36), if_neg Bool.false_ne_true])
      · rw [if_neg hp]
        refine X.iload iX3_gotWithGuest_17 rfl ?_
        refine X.iload iX3_gotWithGuest_19 rfl ?_
        refine X.cmge iX3_gotWithGuest_21 (fun c21 => ?_) (fun c21 => ?_)
        · exact absurd c21 (nI_ge hlt (by omega))
        · refine X.iload iX3_gotWithGuest_24 rfl ?_
          refine X.ifle iX3_gotWithGuest_26 (fun c26 => ?_) (fun c26 => ?_)
          · refine X.iload iX3_gotWithGuest_113 rfl ?_
            exact X.iret iX3_gotWithGuest_115 ⟨rfl, rfl⟩
          · exact absurd (Int32.not_lt.mp hp) c26
  refine MetX.of (by decide) rfl (Nat.le_of_ble_eq_true rfl) ?_
  refine X.aload iX3_gotWithGuest_0 rfl ?_
  refine X.getf iX3_gotWithGuest_1 (by first | assumption | exact sM0 _ _ _ | exact sM1 _ _ _ | exact sM2 _ _ _ | rfl | repeat (first | assumption | exact xup_eq _ _ _ | exact sM0 _ _ _ | exact sM1 _ _ _ | exact sM2 _ _ _ | rw [xup_ne _ _ (by first | decide | omega | assumption)] | rw [sMo _ _ (by omega)])) rfl ?_
  refine X.getf iX3_gotWithGuest_4 (by first | assumption | exact sM0 _ _ _ | exact sM1 _ _ _ | exact sM2 _ _ _ | rfl | repeat (first | assumption | exact xup_eq _ _ _ | exact sM0 _ _ _ | exact sM1 _ _ _ | exact sM2 _ _ _ | rw [xup_ne _ _ (by first | decide | omega | assumption)] | rw [sMo _ _ (by omega)])) rfl ?_
  refine X.iload iX3_gotWithGuest_7 rfl ?_
  refine X.ialdE iX3_gotWithGuest_8 (by first | assumption | exact sM0 _ _ _ | exact sM1 _ _ _ | exact sM2 _ _ _ | rfl | repeat (first | assumption | exact xup_eq _ _ _ | exact sM0 _ _ _ | exact sM1 _ _ _ | exact sM2 _ _ _ | rw [xup_ne _ _ (by first | decide | omega | assumption)] | rw [sMo _ _ (by omega)])) rfl ht (by decide) ?_
  refine X.istore iX3_gotWithGuest_9 rfl rfl ?_
  refine X.pushi (v := nI 0) iX3_gotWithGuest_11 ?_
  refine X.istore iX3_gotWithGuest_12 rfl rfl ?_
  refine X.pushi (v := nI 0) iX3_gotWithGuest_14 ?_
  refine X.istore iX3_gotWithGuest_15 rfl rfl ?_
  exact P n 0 (by omega)
theorem c_X3_gotAt {d o t n : Nat} {h : XH} {O : Oc} {M : Mo} {s size : Int32} (H : IsO h o O) (HM : IsM h (o + 6) M) (hk : KI O.ki O.nL) (hL : O.nL ≤ 4) (ht : t < 6) (hn : n ≤ 100) : MetI mX3_gotAt (d + 5, 0, 0) [.ref o, .int (nI t), .int s, .int (nI n), .int size] h (gwF O M t s (nI 0) (nI 0) n size) := by
  obtain ⟨h0, h1, h2, h3, h4, h5⟩ := id H
  refine MetX.of (by decide) rfl (Nat.le_of_ble_eq_true rfl) ?_
  refine X.aload iX3_gotAt_0 rfl ?_
  refine X.iload iX3_gotAt_1 rfl ?_
  refine X.iload iX3_gotAt_2 rfl ?_
  refine X.pushi (v := nI 0) iX3_gotAt_3 ?_
  refine X.pushi (v := nI 0) iX3_gotAt_4 ?_
  refine X.iload iX3_gotAt_5 rfl ?_
  refine X.iload iX3_gotAt_6 rfl ?_
  refine X.callVi iX3_gotAt_8 (c_X3_gotWithGuest (d := d) H HM hk hL ht hn) (by first | assumption | exact sM0 _ _ _ | exact sM1 _ _ _ | exact sM2 _ _ _ | rfl | repeat (first | assumption | exact xup_eq _ _ _ | exact sM0 _ _ _ | exact sM1 _ _ _ | exact sM2 _ _ _ | rw [xup_ne _ _ (by first | decide | omega | assumption)] | rw [sMo _ _ (by omega)])) rfl rfl (xfit _ _ _) (Nat.le_of_ble_eq_true rfl) ?_
  exact X.iret iX3_gotAt_11 ⟨rfl, rfl⟩
def gtS (O : Oc) (M : Mo) (present : Int32) : Nat → Int32
  | 0 => nI 0
  | t + 1 => gtS O M present t + tkI O.hi O.ri O.ki O.le t O.nL M.day (atM M t &&& present) (M.fr t) O.ba
theorem c_X3_gotToday {d o : Nat} {h : XH} {O : Oc} {M : Mo} {present : Int32} (H : IsO h o O) (HM : IsM h (o + 6) M) (hk : KI O.ki O.nL) (hL : O.nL ≤ 4) (hT : O.nT ≤ 6) : MetI mX3_gotToday (d + 4, 0, 0) [.ref o, .int present] h (gtS O M present O.nT) := by
  obtain ⟨h0, h1, h2, h3, h4, h5⟩ := id H
  obtain ⟨m0, m1, m2⟩ := id HM
  have P : ∀ k, k ≤ O.nT → X xT mX3_gotToday (xR (d + 4, 0, 0)) (0, 0) 4 [some (.ref o), some (.int present), some (.int (gtS O M present k)), some (.int (nI k))] [] h (fun v h' => v = some (.int (gtS O M present O.nT)) ∧ h' = h) := by
    refine xloop O.nT ?_ ?_
    · refine X.iload iX3_gotToday_4 rfl ?_
      refine X.aload iX3_gotToday_5 rfl ?_
      refine X.getf iX3_gotToday_6 (by first | assumption | exact sM0 _ _ _ | exact sM1 _ _ _ | exact sM2 _ _ _ | rfl | repeat (first | assumption | exact xup_eq _ _ _ | exact sM0 _ _ _ | exact sM1 _ _ _ | exact sM2 _ _ _ | rw [xup_ne _ _ (by first | decide | omega | assumption)] | rw [sMo _ _ (by omega)])) rfl ?_
      refine X.cmge iX3_gotToday_9 (fun c9 => ?_) (fun c9 => ?_)
      · refine X.iload iX3_gotToday_56 rfl ?_
        exact X.iret iX3_gotToday_57 ⟨rfl, rfl⟩
      · exact absurd (Int32.le_refl _) c9
    · intro k hk' ih
      refine X.iload iX3_gotToday_4 rfl ?_
      refine X.aload iX3_gotToday_5 rfl ?_
      refine X.getf iX3_gotToday_6 (by first | assumption | exact sM0 _ _ _ | exact sM1 _ _ _ | exact sM2 _ _ _ | rfl | repeat (first | assumption | exact xup_eq _ _ _ | exact sM0 _ _ _ | exact sM1 _ _ _ | exact sM2 _ _ _ | rw [xup_ne _ _ (by first | decide | omega | assumption)] | rw [sMo _ _ (by omega)])) rfl ?_
      refine X.cmge iX3_gotToday_9 (fun c9 => ?_) (fun c9 => ?_)
      · exact absurd c9 (nI_ge hk' (by omega))
      · refine X.iload iX3_gotToday_12 rfl ?_
        refine X.aload iX3_gotToday_13 rfl ?_
        refine X.iload iX3_gotToday_14 rfl ?_
        refine X.aload iX3_gotToday_15 rfl ?_
        refine X.getf iX3_gotToday_16 (by first | assumption | exact sM0 _ _ _ | exact sM1 _ _ _ | exact sM2 _ _ _ | rfl | repeat (first | assumption | exact xup_eq _ _ _ | exact sM0 _ _ _ | exact sM1 _ _ _ | exact sM2 _ _ _ | rw [xup_ne _ _ (by first | decide | omega | assumption)] | rw [sMo _ _ (by omega)])) rfl ?_
        refine X.getf iX3_gotToday_19 (by first | assumption | exact sM0 _ _ _ | exact sM1 _ _ _ | exact sM2 _ _ _ | rfl | repeat (first | assumption | exact xup_eq _ _ _ | exact sM0 _ _ _ | exact sM1 _ _ _ | exact sM2 _ _ _ | rw [xup_ne _ _ (by first | decide | omega | assumption)] | rw [sMo _ _ (by omega)])) rfl ?_
        refine X.aload iX3_gotToday_22 rfl ?_
        refine X.getf iX3_gotToday_23 (by first | assumption | exact sM0 _ _ _ | exact sM1 _ _ _ | exact sM2 _ _ _ | rfl | repeat (first | assumption | exact xup_eq _ _ _ | exact sM0 _ _ _ | exact sM1 _ _ _ | exact sM2 _ _ _ | rw [xup_ne _ _ (by first | decide | omega | assumption)] | rw [sMo _ _ (by omega)])) rfl ?_
        refine X.iload iX3_gotToday_26 rfl ?_
        refine X.callVi iX3_gotToday_27 (c_X2_leaningAt (d := d + 3) HM) (by first | assumption | exact sM0 _ _ _ | exact sM1 _ _ _ | exact sM2 _ _ _ | rfl | repeat (first | assumption | exact xup_eq _ _ _ | exact sM0 _ _ _ | exact sM1 _ _ _ | exact sM2 _ _ _ | rw [xup_ne _ _ (by first | decide | omega | assumption)] | rw [sMo _ _ (by omega)])) rfl rfl (xfit _ _ _) (Nat.le_of_ble_eq_true rfl) ?_
        refine X.iload iX3_gotToday_30 rfl ?_
        refine X.iand iX3_gotToday_31 ?_
        refine X.aload iX3_gotToday_32 rfl ?_
        refine X.getf iX3_gotToday_33 (by first | assumption | exact sM0 _ _ _ | exact sM1 _ _ _ | exact sM2 _ _ _ | rfl | repeat (first | assumption | exact xup_eq _ _ _ | exact sM0 _ _ _ | exact sM1 _ _ _ | exact sM2 _ _ _ | rw [xup_ne _ _ (by first | decide | omega | assumption)] | rw [sMo _ _ (by omega)])) rfl ?_
        refine X.getf iX3_gotToday_36 (by first | assumption | exact sM0 _ _ _ | exact sM1 _ _ _ | exact sM2 _ _ _ | rfl | repeat (first | assumption | exact xup_eq _ _ _ | exact sM0 _ _ _ | exact sM1 _ _ _ | exact sM2 _ _ _ | rw [xup_ne _ _ (by first | decide | omega | assumption)] | rw [sMo _ _ (by omega)])) rfl ?_
        refine X.iload iX3_gotToday_39 rfl ?_
        refine X.ialdE iX3_gotToday_40 (by first | assumption | exact sM0 _ _ _ | exact sM1 _ _ _ | exact sM2 _ _ _ | rfl | repeat (first | assumption | exact xup_eq _ _ _ | exact sM0 _ _ _ | exact sM1 _ _ _ | exact sM2 _ _ _ | rw [xup_ne _ _ (by first | decide | omega | assumption)] | rw [sMo _ _ (by omega)])) rfl (by omega) (by decide) ?_
        refine X.aload iX3_gotToday_41 rfl ?_
        refine X.getf iX3_gotToday_42 (by first | assumption | exact sM0 _ _ _ | exact sM1 _ _ _ | exact sM2 _ _ _ | rfl | repeat (first | assumption | exact xup_eq _ _ _ | exact sM0 _ _ _ | exact sM1 _ _ _ | exact sM2 _ _ _ | rw [xup_ne _ _ (by first | decide | omega | assumption)] | rw [sMo _ _ (by omega)])) rfl ?_
        refine X.callVi iX3_gotToday_45 (c_X3_taken (d := d) H hk hL (by omega)) (by first | assumption | exact sM0 _ _ _ | exact sM1 _ _ _ | exact sM2 _ _ _ | rfl | repeat (first | assumption | exact xup_eq _ _ _ | exact sM0 _ _ _ | exact sM1 _ _ _ | exact sM2 _ _ _ | rw [xup_ne _ _ (by first | decide | omega | assumption)] | rw [sMo _ _ (by omega)])) rfl rfl (xfit _ _ _) (Nat.le_of_ble_eq_true rfl) ?_
        refine X.iadd iX3_gotToday_48 ?_
        refine X.istore iX3_gotToday_49 rfl rfl ?_
        refine X.iinc iX3_gotToday_50 rfl rfl rfl ?_
        refine X.goto iX3_gotToday_53 ?_
        rw [nI_1]
        exact ih
  refine MetX.of (by decide) rfl (Nat.le_of_ble_eq_true rfl) ?_
  refine X.pushi (v := nI 0) iX3_gotToday_0 ?_
  refine X.istore iX3_gotToday_1 rfl rfl ?_
  refine X.pushi (v := nI 0) iX3_gotToday_2 ?_
  refine X.istore iX3_gotToday_3 rfl rfl ?_
  exact P 0 (Nat.zero_le _)
