/-! the class: ladders of a text, the loop -/
theorem tp_o (h : XH) {s o : Nat} (V : Ta) (O : Oc) (M : Mo) (q : s + 1 < o ∨ o + 8 < s) : tpic h s o V O M o = some (.inr (3, ocS o O)) := by
  show setT (setA h o O M) s _ o = _
  rw [sTA _ _ _ _ q]
  exact (sA_O _ o O M).1
theorem tp_m (h : XH) {s o : Nat} (V : Ta) (O : Oc) (M : Mo) (q : s + 1 < o ∨ o + 8 < s) : tpic h s o V O M (o + 6) = some (.inr (2, moS (o + 6) M)) := by
  show setT (setA h o O M) s _ (o + 6) = _
  rw [sTA _ _ _ _ q]
  exact (sA_M _ o O M).1
theorem tp_l (h : XH) {s o : Nat} (V : Ta) (O : Oc) (M : Mo) (q : s + 1 < o ∨ o + 8 < s) : tpic h s o V O M (o + 6 + 2) = some (IA 4 M.ln) := by
  show setT (setA h o O M) s _ (o + 6 + 2) = _
  rw [sTA _ _ _ _ q]
  exact (sA_M _ o O M).2.2
theorem tp_ln (h : XH) {s o : Nat} (V : Ta) (O : Oc) (M : Mo) (q : s + 1 < o ∨ o + 8 < s) (f : Nat → Int32) : xup (tpic h s o V O M) (o + 6 + 2) (IA 4 f) = tpic h s o V O (Mo.mk M.fr f M.got M.paid M.lost M.day M.draw) := by
  show xup (setT (setA h o O M) s V) (o + 6 + 2) (IA 4 f) = setT (setA h o O (Mo.mk M.fr f M.got M.paid M.lost M.day M.draw)) s V
  rw [sTA _ _ _ _ q, sTA _ _ _ _ q, eA_ln]
def blM (O : Oc) (M : Mo) (k : Nat) (t : Int32) : Mo := (Mo.mk (brM O M).fr (upd (brM O M).ln k t) (brM O M).got (brM O M).paid (brM O M).lost (brM O M).day (brM O M).draw)
def clL (cl : Nat → Int32) (n : Nat) : Nat → Nat → Nat → Oc → Mo → Nat × Int32 × Oc × Mo
  | 0, _, p, O, M => (p, 0, O, M)
  | g + 1, k, p, O, M =>
    if (cL4 cl n O.nT p).2.2 = 0 then
      (if k + 1 < 4 then
        (if nxt cl n (cL4 cl n O.nT p).2.1 = nI 44 then clL cl n g (k + 1) (psP cl n (cL4 cl n O.nT p).2.1 (nI 44)) (brO O (cL1 cl n p).1 (cL2 cl n p).1 (cL3 cl n p).1) (blM O M k (cL4 cl n O.nT p).1)
        else (psP cl n (cL4 cl n O.nT p).2.1 (nI 44), 0, brO O (cL1 cl n p).1 (cL2 cl n p).1 (cL3 cl n p).1, blM O M k (cL4 cl n O.nT p).1))
      else ((cL4 cl n O.nT p).2.1, 0, brO O (cL1 cl n p).1 (cL2 cl n p).1 (cL3 cl n p).1, blM O M k (cL4 cl n O.nT p).1))
    else ((cL4 cl n O.nT p).2.1, (cL4 cl n O.nT p).2.2, O, M)
theorem cl_end {d s o n j p : Nat} {h : XH} {cl : Nat → Int32} {O : Oc} {M : Mo} {f : Int32} (hj : j ≤ 4) : X xT mX5_readLadders (xR (d + 3, 0, 0)) (0, 0) 4 [some (.ref s), some (.ref o), some (.int (nI 0)), some (.int (nI j)), none, none, none, none, none] [] (tpic h s o (Ta.mk cl n p f) O M) (fun v h' => v = none ∧ h' = tpic h s o (Ta.mk cl n p f) O M) := by
  refine X.iload iX5_readLadders_4 rfl ?_
  refine X.pushi (v := nI 4) iX5_readLadders_5 ?_
  refine X.cmge iX5_readLadders_6 (fun c6 => ?_) (fun c6 => ?_)
  · exact X.vret iX5_readLadders_147 ⟨rfl, rfl⟩
  · refine X.iload iX5_readLadders_9 rfl ?_
    refine X.ifeq iX5_readLadders_10 (fun c10 => ?_) (fun c10 => ?_)
    · exact X.vret iX5_readLadders_147 ⟨rfl, rfl⟩
    · exact absurd rfl c10
theorem u1a (cl : Nat → Int32) (n p : Nat) : kdV (nxt cl n p) = (cL1 cl n p).1 := by rw [cL1]
theorem u1b (cl : Nat → Int32) (n p : Nat) : kdP cl n p = (cL1 cl n p).2.1 := by rw [cL1]
theorem u1g (cl : Nat → Int32) (n p : Nat) : kdF cl n p = (cL1 cl n p).2.2 := by rw [cL1]
theorem u2a (cl : Nat → Int32) (n p : Nat) : dgV cl n (nI 1) (nI 9) (cL1 cl n p).2.1 (cL1 cl n p).2.2 = (cL2 cl n p).1 := by rw [cL2]
theorem u2b (cl : Nat → Int32) (n p : Nat) : dgP cl n (nI 1) (nI 9) (cL1 cl n p).2.1 (cL1 cl n p).2.2 = (cL2 cl n p).2.1 := by rw [cL2]
theorem u2g (cl : Nat → Int32) (n p : Nat) : dgF cl n (nI 1) (nI 9) (cL1 cl n p).2.1 (cL1 cl n p).2.2 = (cL2 cl n p).2.2 := by rw [cL2]
theorem u3a (cl : Nat → Int32) (n p : Nat) : dgV cl n (nI 0) (nI 9) (cL2 cl n p).2.1 (cL2 cl n p).2.2 = (cL3 cl n p).1 := by rw [cL3]
theorem u3b (cl : Nat → Int32) (n p : Nat) : dgP cl n (nI 0) (nI 9) (cL2 cl n p).2.1 (cL2 cl n p).2.2 = (cL3 cl n p).2.1 := by rw [cL3]
theorem u3g (cl : Nat → Int32) (n p : Nat) : dgF cl n (nI 0) (nI 9) (cL2 cl n p).2.1 (cL2 cl n p).2.2 = (cL3 cl n p).2.2 := by rw [cL3]
theorem u4a (cl : Nat → Int32) (n nT p : Nat) : ctV cl n nT (cL3 cl n p).2.1 (cL3 cl n p).2.2 = (cL4 cl n nT p).1 := by rw [cL4]
theorem u4b (cl : Nat → Int32) (n nT p : Nat) : ctP cl n nT (cL3 cl n p).2.1 (cL3 cl n p).2.2 = (cL4 cl n nT p).2.1 := by rw [cL4]
theorem u4g (cl : Nat → Int32) (n nT p : Nat) : ctF cl n nT (cL3 cl n p).2.1 (cL3 cl n p).2.2 = (cL4 cl n nT p).2.2 := by rw [cL4]
theorem cl_all {d s o n k p : Nat} {h : XH} {cl : Nat → Int32} {O : Oc} {M : Mo} {Q : Option Value → XH → Prop} (hn : n ≤ 90) (hp : p ≤ n) (q : s + 1 < o ∨ o + 8 < s)
    (K : ∀ x7, X xT mX5_readLadders (xR (d + 3, 0, 0)) (0, 0) 83 [some (.ref s), some (.ref o), some (.int (nI 1)), some (.int (nI k)), some (.int (cL1 cl n p).1), some (.int (cL2 cl n p).1), some (.int (cL3 cl n p).1), some (.int x7), some (.int (cL4 cl n O.nT p).1)] [] (tpic h s o (Ta.mk cl n (cL4 cl n O.nT p).2.1 (cL4 cl n O.nT p).2.2) O M) Q) :
    X xT mX5_readLadders (xR (d + 3, 0, 0)) (0, 0) 13 [some (.ref s), some (.ref o), some (.int (nI 1)), some (.int (nI k)), none, none, none, none, none] [] (tpic h s o (Ta.mk cl n p 0) O M) Q := by
  refine cl_body hn hp (u1a cl n p) (u1b cl n p) (u1g cl n p) (cL1_le hp) (u2a cl n p) (u2b cl n p) (u2g cl n p) (cL2_le hp) (u3a cl n p) (u3b cl n p) (u3g cl n p) ?_
  refine cl_tree hn (cL3_le hp) q (fun x7 => ?_)
  rw [u4a, u4b, u4g]
  exact K x7
