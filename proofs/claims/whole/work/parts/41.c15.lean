/-! the class: ladders of a text, the loop -/
theorem tp_o (h : XH) {s o : Nat} (V : Ta) (O : Oc) (M : Mo) (q : s + 1 < o ∨ o + 8 < s) : tpic h s o V O M o = some (.inr (3, ocS o O)) := by
  show setT (setA h o O M) s _ o = _
  rw [sTA _ _ _ _ q]
  exact (sA_O _ o O M).1
theorem tp_m (h : XH) {s o : Nat} (V : Ta) (O : Oc) (M : Mo) (q : s + 1 < o ∨ o + 8 < s) : tpic h s o V O M (o + 6) = some (.inr (2, moS (o + 6) M)) := by
  show setT (setA h o O M) s _ (o + 6) = _
  rw [sTA _ _ _ _ q]
  exact (sA_M _ o O M).1
theorem tp_l (h : XH) {s o : Nat} (V : Ta) (O : Oc) (M : Mo) (q : s + 1 < o ∨ o + 8 < s) : tpic h s o V O M (o + 6 + 2) = some (IA 4 M.ln) := by
  show setT (setA h o O M) s _ (o + 6 + 2) = _
  rw [sTA _ _ _ _ q]
  exact (sA_M _ o O M).2.2
theorem tp_ln (h : XH) {s o : Nat} (V : Ta) (O : Oc) (M : Mo) (q : s + 1 < o ∨ o + 8 < s) (f : Nat → Int32) : xup (tpic h s o V O M) (o + 6 + 2) (IA 4 f) = tpic h s o V O (Mo.mk M.fr f M.got M.paid M.lost M.day M.draw) := by
  show xup (setT (setA h o O M) s V) (o + 6 + 2) (IA 4 f) = setT (setA h o O (Mo.mk M.fr f M.got M.paid M.lost M.day M.draw)) s V
  rw [sTA _ _ _ _ q, sTA _ _ _ _ q, eA_ln]
def blM (O : Oc) (M : Mo) (k : Nat) (t : Int32) : Mo := (Mo.mk (brM O M).fr (upd (brM O M).ln k t) (brM O M).got (brM O M).paid (brM O M).lost (brM O M).day (brM O M).draw)
def clL (cl : Nat → Int32) (n : Nat) : Nat → Nat → Nat → Oc → Mo → Nat × Int32 × Oc × Mo
  | 0, _, p, O, M => (p, 0, O, M)
  | g + 1, k, p, O, M =>
    if (cL4 cl n O.nT p).2.2 = 0 then
      (if k + 1 < 4 then
        (if nxt cl n (cL4 cl n O.nT p).2.1 = nI 44 then clL cl n g (k + 1) (psP cl n (cL4 cl n O.nT p).2.1 (nI 44)) (brO O (cL1 cl n p).1 (cL2 cl n p).1 (cL3 cl n p).1) (blM O M k (cL4 cl n O.nT p).1)
        else (psP cl n (cL4 cl n O.nT p).2.1 (nI 44), 0, brO O (cL1 cl n p).1 (cL2 cl n p).1 (cL3 cl n p).1, blM O M k (cL4 cl n O.nT p).1))
      else ((cL4 cl n O.nT p).2.1, 0, brO O (cL1 cl n p).1 (cL2 cl n p).1 (cL3 cl n p).1, blM O M k (cL4 cl n O.nT p).1))
    else ((cL4 cl n O.nT p).2.1, (cL4 cl n O.nT p).2.2, O, M)
theorem cl_end {d s o n j p : Nat} {h : XH} {cl : Nat → Int32} {O : Oc} {M : Mo} {f : Int32} (hj : j ≤ 4) : X xT mX5_readLadders (xR (d + 3, 0, 0)) (0, 0) 4 [some (.ref s), some (.ref o), some (.int (nI 0)), some (.int (nI j)), none, none, none, none, none] [] (tpic h s o (Ta.mk cl n p f) O M) (fun v h' => v = none ∧ h' = tpic h s o (Ta.mk cl n p f) O M) := by
  refine X.iload iX5_readLadders_4 rfl ?_
  refine X.pushi (v := nI 4) iX5_readLadders_5 ?_
  refine X.cmge iX5_readLadders_6 (fun c6 => ?_) (fun c6 => ?_)
  · exact X.vret iX5_readLadders_147 ⟨rfl, rfl⟩
  · refine X.iload iX5_readLadders_9 rfl ?_
    refine X.ifeq iX5_readLadders_10 (fun c10 => ?_) (fun c10 => ?_)
    · exact X.vret iX5_readLadders_147 ⟨rfl, rfl⟩
    · exact absurd rfl c10
theorem u1a (cl : Nat → Int32) (n p : Nat) : kdV (nxt cl n p) = (cL1 cl n p).1 := by rw [cL1]
theorem u1b (cl : Nat → Int32) (n p : Nat) : kdP cl n p = (cL1 cl n p).2.1 := by rw [cL1]
theorem u1g (cl : Nat → Int32) (n p : Nat) : kdF cl n p = (cL1 cl n p).2.2 := by rw [cL1]
theorem u2a (cl : Nat → Int32) (n p : Nat) : dgV cl n (nI 1) (nI 9) (cL1 cl n p).2.1 (cL1 cl n p).2.2 = (cL2 cl n p).1 := by rw [cL2]
theorem u2b (cl : Nat → Int32) (n p : Nat) : dgP cl n (nI 1) (nI 9) (cL1 cl n p).2.1 (cL1 cl n p).2.2 = (cL2 cl n p).2.1 := by rw [cL2]
theorem u2g (cl : Nat → Int32) (n p : Nat) : dgF cl n (nI 1) (nI 9) (cL1 cl n p).2.1 (cL1 cl n p).2.2 = (cL2 cl n p).2.2 := by rw [cL2]
theorem u3a (cl : Nat → Int32) (n p : Nat) : dgV cl n (nI 0) (nI 9) (cL2 cl n p).2.1 (cL2 cl n p).2.2 = (cL3 cl n p).1 := by rw [cL3]
theorem u3b (cl : Nat → Int32) (n p : Nat) : dgP cl n (nI 0) (nI 9) (cL2 cl n p).2.1 (cL2 cl n p).2.2 = (cL3 cl n p).2.1 := by rw [cL3]
theorem u3g (cl : Nat → Int32) (n p : Nat) : dgF cl n (nI 0) (nI 9) (cL2 cl n p).2.1 (cL2 cl n p).2.2 = (cL3 cl n p).2.2 := by rw [cL3]
theorem u4a (cl : Nat → Int32) (n nT p : Nat) : ctV cl n nT (cL3 cl n p).2.1 (cL3 cl n p).2.2 = (cL4 cl n nT p).1 := by rw [cL4]
theorem u4b (cl : Nat → Int32) (n nT p : Nat) : ctP cl n nT (cL3 cl n p).2.1 (cL3 cl n p).2.2 = (cL4 cl n nT p).2.1 := by rw [cL4]
theorem u4g (cl : Nat → Int32) (n nT p : Nat) : ctF cl n nT (cL3 cl n p).2.1 (cL3 cl n p).2.2 = (cL4 cl n nT p).2.2 := by rw [cL4]
theorem cl_all {d s o n k p : Nat} {h : XH} {cl : Nat → Int32} {O : Oc} {M : Mo} {Q : Option Value → XH → Prop} (hn : n ≤ 90) (hp : p ≤ n) (q : s + 1 < o ∨ o + 8 < s)
    (K : ∀ x7, X xT mX5_readLadders (xR (d + 3, 0, 0)) (0, 0) 83 [some (.ref s), some (.ref o), some (.int (nI 1)), some (.int (nI k)), some (.int (cL1 cl n p).1), some (.int (cL2 cl n p).1), some (.int (cL3 cl n p).1), some (.int x7), some (.int (cL4 cl n O.nT p).1)] [] (tpic h s o (Ta.mk cl n (cL4 cl n O.nT p).2.1 (cL4 cl n O.nT p).2.2) O M) Q) :
    X xT mX5_readLadders (xR (d + 3, 0, 0)) (0, 0) 13 [some (.ref s), some (.ref o), some (.int (nI 1)), some (.int (nI k)), none, none, none, none, none] [] (tpic h s o (Ta.mk cl n p 0) O M) Q := by
  refine cl_body hn hp (u1a cl n p) (u1b cl n p) (u1g cl n p) (cL1_le hp) (u2a cl n p) (u2b cl n p) (u2g cl n p) (cL2_le hp) (u3a cl n p) (u3b cl n p) (u3g cl n p) ?_
  refine cl_tree hn (cL3_le hp) q (fun x7 => ?_)
  rw [u4a, u4b, u4g]
  exact K x7
theorem cl_loop {d s o n : Nat} {h : XH} {cl : Nat → Int32} (hn : n ≤ 90) (q : s + 1 < o ∨ o + 8 < s) : ∀ g k p O M, g + k = 4 → 0 < g → p ≤ n → Oc.nL O = k → X xT mX5_readLadders (xR (d + 3, 0, 0)) (0, 0) 4 [some (.ref s), some (.ref o), some (.int (nI 1)), some (.int (nI k)), none, none, none, none, none] [] (tpic h s o (Ta.mk cl n p 0) O M) (fun v h' => v = none ∧ h' = tpic h s o (Ta.mk cl n (clL cl n g k p O M).1 (clL cl n g k p O M).2.1) (clL cl n g k p O M).2.2.1 (clL cl n g k p O M).2.2.2) := by
  intro g
  induction g with
  | zero =>
    intro k p O M hk h0
    omega
  | succ g ih =>
    intro k p O M hk h0 hp ek
    rw [clL]
    have l5 := cL4_le (cl := cl) (nT := O.nT) hp
    have B := fun Q => cl_all (d := d) (k := k) (h := h) (cl := cl) (O := O) (M := M) (Q := Q) hn hp q
    generalize (cL1 cl n p).1 = v1 at B ⊢
    generalize (cL2 cl n p).1 = v2 at B ⊢
    generalize (cL3 cl n p).1 = v3 at B ⊢
    generalize cL4 cl n O.nT p = z at B l5 ⊢
    obtain ⟨v4, p5, f5⟩ := z
    have l5 : p5 ≤ n := l5
    have GP : MetH mX3_bring (d + 2, 0, 0) [.ref o, .int v1, .int v2, .int v3] (tpic h s o (Ta.mk cl n p5 0) O M) (nI k) (tpic h s o (Ta.mk cl n p5 0) (brO O v1 v2 v3) (brM O M)) := by
      have g0 := g_bring (d := d + 2) (h := h) (V := Ta.mk cl n p5 0) (O := O) (M := M) (ki := v1) (le := v2) (pr := v3) q (by omega)
      rw [if_neg (show ¬ O.nL = 4 by omega), if_neg (show ¬ O.nL = 4 by omega), ek] at g0
      exact g0
    have J1 : ∀ (x7 : Int32) (W : Nat × Int32 × Oc × Mo), ¬ f5 = 0 → W = (p5, f5, O, M) → X xT mX5_readLadders (xR (d + 3, 0, 0)) (0, 0) 83 [some (.ref s), some (.ref o), some (.int (nI 1)), some (.int (nI k)), some (.int v1), some (.int v2), some (.int v3), some (.int x7), some (.int v4)] [] (tpic h s o (Ta.mk cl n p5 f5) O M) (fun v h' => v = none ∧ h' = tpic h s o (Ta.mk cl n W.1 W.2.1) W.2.2.1 W.2.2.2) := by
      intro x7 W e w
      subst w
      refine X.aload iX5_readLadders_83 rfl ?_
      refine X.getf iX5_readLadders_84 (by first | assumption | exact sT0 _ _ _ | exact sT1 _ _ _ | rfl) rfl ?_
      refine X.ifne iX5_readLadders_87 (fun c87 => ?_) (fun c87 => ?_)
      · refine X.aload iX5_readLadders_112 rfl ?_
        refine X.getf iX5_readLadders_113 (by first | assumption | exact sT0 _ _ _ | exact sT1 _ _ _ | rfl) rfl ?_
        refine X.ifne iX5_readLadders_116 (fun c116 => ?_) (fun c116 => ?_)
        · refine X.pushi (v := nI 0) iX5_readLadders_139 ?_
          refine X.istore iX5_readLadders_140 rfl rfl ?_
          refine X.iinc iX5_readLadders_141 rfl rfl rfl ?_
          refine X.goto iX5_readLadders_144 ?_
          rw [nI_1]
          exact X.unset 4 rfl (X.unset 5 rfl (X.unset 6 rfl (X.unset 7 rfl (X.unset 8 rfl (cl_end (by omega))))))
        · exact absurd c116 e
      · exact absurd c87 e
    have J0 : ∀ (x7 : Int32) (Q : Option Value → XH → Prop), f5 = 0 → X xT mX5_readLadders (xR (d + 3, 0, 0)) (0, 0) 112 [some (.ref s), some (.ref o), some (.int (nI 1)), some (.int (nI k)), some (.int v1), some (.int v2), some (.int v3), some (.int x7), some (.int v4)] [] (tpic h s o (Ta.mk cl n p5 0) (brO O v1 v2 v3) (blM O M k v4)) Q → X xT mX5_readLadders (xR (d + 3, 0, 0)) (0, 0) 83 [some (.ref s), some (.ref o), some (.int (nI 1)), some (.int (nI k)), some (.int v1), some (.int v2), some (.int v3), some (.int x7), some (.int v4)] [] (tpic h s o (Ta.mk cl n p5 f5) O M) Q := by
      intro x7 Q e K
      subst e
      refine X.aload iX5_readLadders_83 rfl ?_
      refine X.getf iX5_readLadders_84 (by first | assumption | exact sT0 _ _ _ | exact sT1 _ _ _ | rfl) rfl ?_
      refine X.ifne iX5_readLadders_87 (fun c87 => ?_) (fun c87 => ?_)
      · exact absurd rfl c87
      · refine X.aload iX5_readLadders_90 rfl ?_
        refine X.iload iX5_readLadders_91 rfl ?_
        refine X.iload iX5_readLadders_93 rfl ?_
        refine X.iload iX5_readLadders_95 rfl ?_
        refine X.callVi iX5_readLadders_97 GP (tp_o h _ _ _ q) rfl rfl (xfit _ _ _) (Nat.le_of_ble_eq_true rfl) ?_
        refine X.popi iX5_readLadders_100 ?_
        refine X.aload iX5_readLadders_101 rfl ?_
        refine X.getf iX5_readLadders_102 (tp_o h _ _ _ q) rfl ?_
        refine X.getf iX5_readLadders_105 (tp_m h _ _ _ q) rfl ?_
        refine X.iload iX5_readLadders_108 rfl ?_
        refine X.iload iX5_readLadders_109 rfl ?_
        refine X.iastN iX5_readLadders_111 (tp_l h _ _ _ q) (show k < 4 by omega) (by decide) ?_
        rw [tp_ln h _ _ _ q]
        exact K
    have J2 : ∀ (x7 : Int32) (W : Nat × Int32 × Oc × Mo), ¬ k + 1 < 4 → W = (p5, 0, brO O v1 v2 v3, blM O M k v4) → X xT mX5_readLadders (xR (d + 3, 0, 0)) (0, 0) 112 [some (.ref s), some (.ref o), some (.int (nI 1)), some (.int (nI k)), some (.int v1), some (.int v2), some (.int v3), some (.int x7), some (.int v4)] [] (tpic h s o (Ta.mk cl n p5 0) (brO O v1 v2 v3) (blM O M k v4)) (fun v h' => v = none ∧ h' = tpic h s o (Ta.mk cl n W.1 W.2.1) W.2.2.1 W.2.2.2) := by
      intro x7 W hk6 w
      subst w
      refine X.aload iX5_readLadders_112 rfl ?_
      refine X.getf iX5_readLadders_113 (by first | assumption | exact sT0 _ _ _ | exact sT1 _ _ _ | rfl) rfl ?_
      refine X.ifne iX5_readLadders_116 (fun c116 => ?_) (fun c116 => ?_)
      · exact absurd rfl c116
      · refine X.iload iX5_readLadders_119 rfl ?_
        refine X.pushi (v := nI 1) iX5_readLadders_120 ?_
        refine X.iadd iX5_readLadders_121 ?_
        refine X.pushi (v := nI 4) iX5_readLadders_122 ?_
        rw [nI_add]
        refine X.cmge iX5_readLadders_123 (fun c123 => ?_) (fun c123 => ?_)
        · refine X.pushi (v := nI 0) iX5_readLadders_139 ?_
          refine X.istore iX5_readLadders_140 rfl rfl ?_
          refine X.iinc iX5_readLadders_141 rfl rfl rfl ?_
          refine X.goto iX5_readLadders_144 ?_
          rw [nI_1]
          exact X.unset 4 rfl (X.unset 5 rfl (X.unset 6 rfl (X.unset 7 rfl (X.unset 8 rfl (cl_end (by omega))))))
        · exact absurd (nI_le (show 4 ≤ k + 1 by omega) (show k + 1 < 2 ^ 31 by omega)) c123
    have J3 : ∀ (x7 : Int32) (W : Nat × Int32 × Oc × Mo), k + 1 < 4 → W = (if nxt cl n p5 = nI 44 then clL cl n g (k + 1) (psP cl n p5 (nI 44)) (brO O v1 v2 v3) (blM O M k v4) else (psP cl n p5 (nI 44), 0, brO O v1 v2 v3, blM O M k v4)) → X xT mX5_readLadders (xR (d + 3, 0, 0)) (0, 0) 112 [some (.ref s), some (.ref o), some (.int (nI 1)), some (.int (nI k)), some (.int v1), some (.int v2), some (.int v3), some (.int x7), some (.int v4)] [] (tpic h s o (Ta.mk cl n p5 0) (brO O v1 v2 v3) (blM O M k v4)) (fun v h' => v = none ∧ h' = tpic h s o (Ta.mk cl n W.1 W.2.1) W.2.2.1 W.2.2.2) := by
      intro x7 W hk6 w
      have ih := ih (k + 1) (psP cl n p5 (nI 44)) (brO O v1 v2 v3) (blM O M k v4) (by omega) (by omega) (psP_le (by decide) l5) (show O.nL + 1 = k + 1 by omega)
      refine X.aload iX5_readLadders_112 rfl ?_
      refine X.getf iX5_readLadders_113 (by first | assumption | exact sT0 _ _ _ | exact sT1 _ _ _ | rfl) rfl ?_
      refine X.ifne iX5_readLadders_116 (fun c116 => ?_) (fun c116 => ?_)
      · exact absurd rfl c116
      · refine X.iload iX5_readLadders_119 rfl ?_
        refine X.pushi (v := nI 1) iX5_readLadders_120 ?_
        refine X.iadd iX5_readLadders_121 ?_
        refine X.pushi (v := nI 4) iX5_readLadders_122 ?_
        rw [nI_add]
        refine X.cmge iX5_readLadders_123 (fun c123 => ?_) (fun c123 => ?_)
        · exact absurd c123 (nI_ge hk6 (by decide))
        · refine X.aload iX5_readLadders_126 rfl ?_
          refine X.pushi (v := nI 44) iX5_readLadders_127 ?_
          refine X.callVi iX5_readLadders_129 (c_X5_passes (d := d + 1) (V := Ta.mk cl n p5 0) (c := nI 44) hn l5) (by first | assumption | exact sT0 _ _ _ | exact sT1 _ _ _ | rfl) rfl rfl (xfit _ _ _) (Nat.le_of_ble_eq_true rfl) ?_
          refine X.ifeqB iX5_readLadders_132 (fun c132 => ?_) (fun c132 => ?_)
          · refine X.pushi (v := nI 0) iX5_readLadders_139 ?_
            refine X.istore iX5_readLadders_140 rfl rfl ?_
            refine X.iinc iX5_readLadders_141 rfl rfl rfl ?_
            refine X.goto iX5_readLadders_144 ?_
            rw [nI_1]
            first
            | (rw [if_pos (of_decide_eq_true c132)] at w; subst w; exact X.unset 4 rfl (X.unset 5 rfl (X.unset 6 rfl (X.unset 7 rfl (X.unset 8 rfl (ih))))))
            | (rw [if_neg (of_decide_eq_false c132)] at w; subst w; exact X.unset 4 rfl (X.unset 5 rfl (X.unset 6 rfl (X.unset 7 rfl (X.unset 8 rfl (cl_end (by omega)))))))
          · refine X.pushi (v := nI 1) iX5_readLadders_135 ?_
            refine X.goto iX5_readLadders_136 ?_
            refine X.istore iX5_readLadders_140 rfl rfl ?_
            refine X.iinc iX5_readLadders_141 rfl rfl rfl ?_
            refine X.goto iX5_readLadders_144 ?_
            rw [nI_1]
            first
            | (rw [if_pos (of_decide_eq_true c132)] at w; subst w; exact X.unset 4 rfl (X.unset 5 rfl (X.unset 6 rfl (X.unset 7 rfl (X.unset 8 rfl (ih))))))
            | (rw [if_neg (of_decide_eq_false c132)] at w; subst w; exact X.unset 4 rfl (X.unset 5 rfl (X.unset 6 rfl (X.unset 7 rfl (X.unset 8 rfl (cl_end (by omega)))))))
    refine X.iload iX5_readLadders_4 rfl ?_
    refine X.pushi (v := nI 4) iX5_readLadders_5 ?_
    refine X.cmge iX5_readLadders_6 (fun c6 => ?_) (fun c6 => ?_)
    · exact absurd c6 (nI_ge (show k < 4 by omega) (by decide))
    · refine X.iload iX5_readLadders_9 rfl ?_
      refine X.ifeq iX5_readLadders_10 (fun c10 => ?_) (fun c10 => ?_)
      · exact absurd c10 (by decide)
      · refine B _ (fun x7 => ?_)
        by_cases e : f5 = 0
        · refine J0 x7 _ e ?_
          by_cases e6 : k + 1 < 4
          · exact J3 x7 _ e6 (by rw [if_pos e, if_pos e6])
          · exact J2 x7 _ e6 (by rw [if_pos e, if_neg e6])
        · exact J1 x7 _ e (by rw [if_neg e])
theorem c_X5_readLadders {d s o n p : Nat} {h : XH} {cl : Nat → Int32} {O : Oc} {M : Mo} (hn : n ≤ 90) (hp : p ≤ n) (q : s + 1 < o ∨ o + 8 < s) (e0 : O.nL = 0) : MetV mX5_readLadders (d + 3, 0, 0) [.ref s, .ref o] (tpic h s o (Ta.mk cl n p 0) O M) (tpic h s o (Ta.mk cl n (clL cl n 4 0 p O M).1 (clL cl n 4 0 p O M).2.1) (clL cl n 4 0 p O M).2.2.1 (clL cl n 4 0 p O M).2.2.2) := by
  refine MetX.of (by decide) rfl (Nat.le_of_ble_eq_true rfl) ?_
  refine X.pushi (v := nI 1) iX5_readLadders_0 ?_
  refine X.istore iX5_readLadders_1 rfl rfl ?_
  refine X.pushi (v := nI 0) iX5_readLadders_2 ?_
  refine X.istore iX5_readLadders_3 rfl rfl ?_
  exact cl_loop hn q 4 0 p O M rfl (by decide) hp e0
