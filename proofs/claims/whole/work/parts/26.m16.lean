/-! the reference: ladders of a text, AN ORCHARD -/
def kndF (c : Int32) : Int32 := if c = nI 112 then nI 0 else if c = nI 100 then nI 1 else if c = nI 116 then nI 2 else if c = nI 119 then nI 3 else if c = nI 108 then nI 4 else -1
/-- a kind: which, the place, whether there is a fault -/
def knd (tp : Nat → Int32) (n p : Nat) (fa : Bool) : Int32 × Nat × Bool :=
  if fa = true then (-1, p, true) else if 0 ≤ kndF (ltr tp n (sk tp n p)) then (kndF (ltr tp n (sk tp n p)), sk tp n p + 1, false) else (kndF (ltr tp n (sk tp n p)), sk tp n p, true)
theorem knd_le {tp : Nat → Int32} {n p : Nat} {fa : Bool} (hp : p ≤ n) : (knd tp n p fa).2.1 ≤ n := by
  have h1 := sk_le (tp := tp) hp
  unfold knd
  split
  · exact hp
  · split
    · rename_i q
      show sk tp n p + 1 ≤ n
      rcases Nat.lt_or_ge (sk tp n p) n with z | z
      · exact z
      · rw [ltr, if_neg (by omega)] at q
        exact absurd q (by decide)
    · exact h1.2
def rL2 (tp : Nat → Int32) (n p : Nat) (fa : Bool) : Int32 × Nat × Bool := dgt tp n (nI 1) (nI 9) (knd tp n p fa).2.1 (knd tp n p fa).2.2
def rL3 (tp : Nat → Int32) (n p : Nat) (fa : Bool) : Int32 × Nat × Bool := dgt tp n (nI 0) (nI 9) (rL2 tp n p fa).2.1 (rL2 tp n p fa).2.2
/-- perhaps a tree -/
def atT (tp : Nat → Int32) (n nT p : Nat) (fa : Bool) : Int32 × Nat × Bool :=
  if fa = true then (-4, p, true) else if ltr tp n (sk tp n p) = nI 61 then dgt tp n (nI 0) (nI nT - nI 1) (sk tp n p + 1) false else (-4, sk tp n p, false)
def rL4 (tp : Nat → Int32) (n nT p : Nat) (fa : Bool) : Int32 × Nat × Bool := atT tp n nT (rL3 tp n p fa).2.1 (rL3 tp n p fa).2.2
theorem rL2_le {tp : Nat → Int32} {n p : Nat} {fa : Bool} (hp : p ≤ n) : (rL2 tp n p fa).2.1 ≤ n := dgt_le (by decide) (knd_le hp)
theorem rL3_le {tp : Nat → Int32} {n p : Nat} {fa : Bool} (hp : p ≤ n) : (rL3 tp n p fa).2.1 ≤ n := dgt_le (by decide) (rL2_le hp)
theorem atT_le {tp : Nat → Int32} {n nT p : Nat} {fa : Bool} (hp : p ≤ n) : (atT tp n nT p fa).2.1 ≤ n := by
  have h1 := sk_le (tp := tp) hp
  unfold atT
  split
  · exact hp
  · split
    · rename_i q
      exact dgt_le (by decide) (ltr_end (by decide) q)
    · exact h1.2
theorem rL4_le {tp : Nat → Int32} {n nT p : Nat} {fa : Bool} (hp : p ≤ n) : (rL4 tp n nT p fa).2.1 ≤ n := atT_le (rL3_le hp)
theorem rL4_true (tp : Nat → Int32) (n nT p : Nat) : (rL4 tp n nT p true).2 = (p, true) := rfl
def rd4 (rd : Nat → Int32) (k : Nat) (a b c e : Int32) : Nat → Int32 := upd (upd (upd (upd rd (4 * k) a) (4 * k + 1) b) (4 * k + 2) c) (4 * k + 3) e
theorem rl_store {d k : Nat} {x3 x4 x5 x6 x7 : Int32} {L1 : Option Value} {Q : Option Value → XH → Prop} {h : XH} {nw tp ro rd ud as kp la sz : Nat → Int32} {it mv : Nat → Int64} {ty pl : Int32} {fa : Bool} {un ku : Int32} {ik : Bool} (hk : k < 4 ∨ fa = true) (K : X xT mX7_readLadders (xR (d + 2, 0, 0)) (0, 0) 234 [some (.ref 98), L1, some (.int (nI k)), none, none, none, none, none] [] (mh h nw tp ro (if fa = true then rd else rd4 rd k x4 x5 x6 x7) ud as kp la sz it mv ty pl fa un ku ik) Q) : X xT mX7_readLadders (xR (d + 2, 0, 0)) (0, 0) 181 [some (.ref 98), L1, some (.int (nI k)), some (.int x3), some (.int x4), some (.int x5), some (.int x6), some (.int x7)] [] (mh h nw tp ro rd ud as kp la sz it mv ty pl fa un ku ik) Q := by
  refine X.aload iX7_readLadders_181 rfl ?_
  refine X.getf iX7_readLadders_182 (by first | rfl | repeat (first | assumption | exact xup_eq _ _ _ | rw [xup_ne _ _ (by first | decide | omega | assumption)])) rfl ?_
  refine X.ifneB iX7_readLadders_185 (fun c185 => ?_) (fun c185 => ?_)
  · first
    | (rw [if_pos c185] at K; exact X.unset 3 rfl (X.unset 4 rfl (X.unset 5 rfl (X.unset 6 rfl (X.unset 7 rfl K)))))
    | (rw [if_neg (fun q => Bool.noConfusion (c185.symm.trans q))] at K; exact X.unset 3 rfl (X.unset 4 rfl (X.unset 5 rfl (X.unset 6 rfl (X.unset 7 rfl K)))))
  · have k4 : k < 4 := hk.resolve_right (fun q => Bool.noConfusion (q.symm.trans c185))
    refine X.aload iX7_readLadders_188 rfl ?_
    refine X.getf iX7_readLadders_189 (by first | rfl | repeat (first | assumption | exact xup_eq _ _ _ | rw [xup_ne _ _ (by first | decide | omega | assumption)])) rfl ?_
    refine X.pushi (v := nI 4) iX7_readLadders_192 ?_
    refine X.iload iX7_readLadders_193 rfl ?_
    refine X.imul iX7_readLadders_194 ?_
    refine X.iload iX7_readLadders_195 rfl ?_
    refine X.iastE iX7_readLadders_197 (by first | rfl | repeat (first | assumption | exact xup_eq _ _ _ | rw [xup_ne _ _ (by first | decide | omega | assumption)])) (pk_mul 4 k) (by omega) (by decide) ?_
    rw [mh102]
    refine X.aload iX7_readLadders_198 rfl ?_
    refine X.getf iX7_readLadders_199 (by first | rfl | repeat (first | assumption | exact xup_eq _ _ _ | rw [xup_ne _ _ (by first | decide | omega | assumption)])) rfl ?_
    refine X.pushi (v := nI 4) iX7_readLadders_202 ?_
    refine X.iload iX7_readLadders_203 rfl ?_
    refine X.imul iX7_readLadders_204 ?_
    refine X.pushi (v := nI 1) iX7_readLadders_205 ?_
    refine X.iadd iX7_readLadders_206 ?_
    refine X.iload iX7_readLadders_207 rfl ?_
    refine X.iastE iX7_readLadders_209 (by first | rfl | repeat (first | assumption | exact xup_eq _ _ _ | rw [xup_ne _ _ (by first | decide | omega | assumption)])) (ix41 k 1) (by omega) (by decide) ?_
    rw [mh102]
    refine X.aload iX7_readLadders_210 rfl ?_
    refine X.getf iX7_readLadders_211 (by first | rfl | repeat (first | assumption | exact xup_eq _ _ _ | rw [xup_ne _ _ (by first | decide | omega | assumption)])) rfl ?_
    refine X.pushi (v := nI 4) iX7_readLadders_214 ?_
    refine X.iload iX7_readLadders_215 rfl ?_
    refine X.imul iX7_readLadders_216 ?_
    refine X.pushi (v := nI 2) iX7_readLadders_217 ?_
    refine X.iadd iX7_readLadders_218 ?_
    refine X.iload iX7_readLadders_219 rfl ?_
    refine X.iastE iX7_readLadders_221 (by first | rfl | repeat (first | assumption | exact xup_eq _ _ _ | rw [xup_ne _ _ (by first | decide | omega | assumption)])) (ix41 k 2) (by omega) (by decide) ?_
    rw [mh102]
    refine X.aload iX7_readLadders_222 rfl ?_
    refine X.getf iX7_readLadders_223 (by first | rfl | repeat (first | assumption | exact xup_eq _ _ _ | rw [xup_ne _ _ (by first | decide | omega | assumption)])) rfl ?_
    refine X.pushi (v := nI 4) iX7_readLadders_226 ?_
    refine X.iload iX7_readLadders_227 rfl ?_
    refine X.imul iX7_readLadders_228 ?_
    refine X.pushi (v := nI 3) iX7_readLadders_229 ?_
    refine X.iadd iX7_readLadders_230 ?_
    refine X.iload iX7_readLadders_231 rfl ?_
    refine X.iastE iX7_readLadders_233 (by first | rfl | repeat (first | assumption | exact xup_eq _ _ _ | rw [xup_ne _ _ (by first | decide | omega | assumption)])) (ix41 k 3) (by omega) (by decide) ?_
    rw [mh102]
    first
    | (rw [if_pos c185] at K; exact X.unset 3 rfl (X.unset 4 rfl (X.unset 5 rfl (X.unset 6 rfl (X.unset 7 rfl K)))))
    | (rw [if_neg (fun q => Bool.noConfusion (c185.symm.trans q))] at K; exact X.unset 3 rfl (X.unset 4 rfl (X.unset 5 rfl (X.unset 6 rfl (X.unset 7 rfl K)))))
theorem rl_tree {d n nT p k : Nat} {x3 x4 x5 x6 : Int32} {Q : Option Value → XH → Prop} {h : XH} {nw tp ro rd ud as kp la sz : Nat → Int32} {it mv : Nat → Int64} {ty pl : Int32} {fa : Bool} {un ku : Int32} {ik : Bool} (hn : n ≤ 90) (hp : p ≤ n) (ep : pl = nI p) (et : ty = nI n) (hk : k < 4 ∨ fa = true) (K : X xT mX7_readLadders (xR (d + 2, 0, 0)) (0, 0) 234 [some (.ref 98), some (.int (nI nT)), some (.int (nI k)), none, none, none, none, none] [] (mh h nw tp ro (if (atT tp n nT p fa).2.2 = true then rd else rd4 rd k x4 x5 x6 (atT tp n nT p fa).1) ud as kp la sz it mv ty (nI (atT tp n nT p fa).2.1) ((atT tp n nT p fa).2.2) un ku ik) Q) : X xT mX7_readLadders (xR (d + 2, 0, 0)) (0, 0) 141 [some (.ref 98), some (.int (nI nT)), some (.int (nI k)), some (.int x3), some (.int x4), some (.int x5), some (.int x6), none] [] (mh h nw tp ro rd ud as kp la sz it mv ty pl fa un ku ik) Q := by
  subst ep
  subst et
  have h1 := sk_le (tp := tp) hp
  refine X.pushi iX7_readLadders_141 ?_
  refine X.istore iX7_readLadders_143 rfl rfl ?_
  refine X.aload iX7_readLadders_145 rfl ?_
  refine X.getf iX7_readLadders_146 (by first | rfl | repeat (first | assumption | exact xup_eq _ _ _ | rw [xup_ne _ _ (by first | decide | omega | assumption)])) rfl ?_
  refine X.ifneB iX7_readLadders_149 (fun c149 => ?_) (fun c149 => ?_)
  · first
    | (rw [atT, if_pos c149] at K; subst c149; exact rl_store (Or.inr rfl) K)
    | skip
    all_goals rw [atT, if_neg (fun q => Bool.noConfusion (c149.symm.trans q))] at K
    all_goals have k4 : k < 4 := hk.resolve_right (fun q => Bool.noConfusion (q.symm.trans c149))
    all_goals first
    | (rw [if_neg c158] at K; rw [c149]; exact rl_store (Or.inl k4) K)
    | (rw [if_pos c158] at K; rw [c149]; exact rl_store (Or.inl k4) K)
  · refine X.aload iX7_readLadders_152 rfl ?_
    refine X.callVi iX7_readLadders_153 (c_X7_here (d := d + 1) hn hp rfl rfl) (by first | rfl | repeat (first | assumption | exact xup_eq _ _ _ | rw [xup_ne _ _ (by first | decide | omega | assumption)])) rfl rfl (xfit _ _ _) (Nat.le_of_ble_eq_true rfl) ?_
    refine X.pushi (v := nI 61) iX7_readLadders_156 ?_
    refine X.cmne iX7_readLadders_158 (fun c158 => ?_) (fun c158 => ?_)
    · first
      | (rw [atT, if_pos c149] at K; subst c149; exact rl_store (Or.inr rfl) K)
      | skip
      all_goals rw [atT, if_neg (fun q => Bool.noConfusion (c149.symm.trans q))] at K
      all_goals have k4 : k < 4 := hk.resolve_right (fun q => Bool.noConfusion (q.symm.trans c149))
      all_goals first
      | (rw [if_neg c158] at K; rw [c149]; exact rl_store (Or.inl k4) K)
      | (rw [if_pos c158] at K; rw [c149]; exact rl_store (Or.inl k4) K)
    · refine X.aload iX7_readLadders_161 rfl ?_
      refine X.dupa iX7_readLadders_162 ?_
      refine X.getf iX7_readLadders_163 (by first | rfl | repeat (first | assumption | exact xup_eq _ _ _ | rw [xup_ne _ _ (by first | decide | omega | assumption)])) rfl ?_
      refine X.pushi (v := nI 1) iX7_readLadders_166 ?_
      refine X.iadd iX7_readLadders_167 ?_
      rw [nI_add]
      refine X.puti iX7_readLadders_168 (by first | rfl | repeat (first | assumption | exact xup_eq _ _ _ | rw [xup_ne _ _ (by first | decide | omega | assumption)])) (Nat.le_of_ble_eq_true rfl) ?_
      rw [mh98_3]
      refine X.aload iX7_readLadders_171 rfl ?_
      refine X.pushi (v := nI 0) iX7_readLadders_172 ?_
      refine X.iload iX7_readLadders_173 rfl ?_
      refine X.pushi (v := nI 1) iX7_readLadders_174 ?_
      refine X.isub iX7_readLadders_175 ?_
      refine X.callVi iX7_readLadders_176 (c_X7_digit (d := d) (lo := nI 0) (hi := nI nT - nI 1) (p := sk tp n p + 1) hn (ltr_end (by decide) c158) (by decide) rfl rfl) (by first | rfl | repeat (first | assumption | exact xup_eq _ _ _ | rw [xup_ne _ _ (by first | decide | omega | assumption)])) rfl rfl (xfit _ _ _) (Nat.le_of_ble_eq_true rfl) ?_
      refine X.istore iX7_readLadders_179 rfl rfl ?_
      first
      | (rw [atT, if_pos c149] at K; subst c149; exact rl_store (Or.inr rfl) K)
      | skip
      all_goals rw [atT, if_neg (fun q => Bool.noConfusion (c149.symm.trans q))] at K
      all_goals have k4 : k < 4 := hk.resolve_right (fun q => Bool.noConfusion (q.symm.trans c149))
      all_goals first
      | (rw [if_neg c158] at K; rw [c149]; exact rl_store (Or.inl k4) K)
      | (rw [if_pos c158] at K; rw [c149]; exact rl_store (Or.inl k4) K)
set_option maxHeartbeats 1000000 in
theorem rl_body {d n nT p k : Nat} {Q : Option Value → XH → Prop} {h : XH} {nw tp ro rd ud as kp la sz : Nat → Int32} {it mv : Nat → Int64} {ty pl : Int32} {fa : Bool} {un ku : Int32} {ik : Bool} (hn : n ≤ 90) (hp : p ≤ n) (hk : k < 4 ∨ fa = true) (ep : pl = nI p) (et : ty = nI n) (K : X xT mX7_readLadders (xR (d + 2, 0, 0)) (0, 0) 234 [some (.ref 98), some (.int (nI nT)), some (.int (nI k)), none, none, none, none, none] [] (mh h nw tp ro (if (rL4 tp n nT p fa).2.2 = true then rd else rd4 rd k (knd tp n p fa).1 (rL2 tp n p fa).1 (rL3 tp n p fa).1 (rL4 tp n nT p fa).1) ud as kp la sz it mv ty (nI (rL4 tp n nT p fa).2.1) ((rL4 tp n nT p fa).2.2) un ku ik) Q) : X xT mX7_readLadders (xR (d + 2, 0, 0)) (0, 0) 40 [some (.ref 98), some (.int (nI nT)), some (.int (nI k)), none, none, none, none, none] [] (mh h nw tp ro rd ud as kp la sz it mv ty pl fa un ku ik) Q := by
  subst ep
  subst et
  have h1 := sk_le (tp := tp) hp
  have tail : ∀ x3 : Int32, X xT mX7_readLadders (xR (d + 2, 0, 0)) (0, 0) 123 [some (.ref 98), some (.int (nI nT)), some (.int (nI k)), some (.int x3), some (.int (knd tp n p fa).1), none, none, none] [] (mh h nw tp ro rd ud as kp la sz it mv (nI n) (nI (knd tp n p fa).2.1) ((knd tp n p fa).2.2) un ku ik) Q := by
    intro x3
    refine X.aload iX7_readLadders_123 rfl ?_
    refine X.pushi (v := nI 1) iX7_readLadders_124 ?_
    refine X.pushi (v := nI 9) iX7_readLadders_125 ?_
    refine X.callVi iX7_readLadders_127 (c_X7_digit (d := d) (lo := nI 1) (hi := nI 9) hn (knd_le hp) (by decide) rfl rfl) (by first | rfl | repeat (first | assumption | exact xup_eq _ _ _ | rw [xup_ne _ _ (by first | decide | omega | assumption)])) rfl rfl (xfit _ _ _) (Nat.le_of_ble_eq_true rfl) ?_
    refine X.istore iX7_readLadders_130 rfl rfl ?_
    refine X.aload iX7_readLadders_132 rfl ?_
    refine X.pushi (v := nI 0) iX7_readLadders_133 ?_
    refine X.pushi (v := nI 9) iX7_readLadders_134 ?_
    refine X.callVi iX7_readLadders_136 (c_X7_digit (d := d) (lo := nI 0) (hi := nI 9) (fa := (rL2 tp n p fa).2.2) hn (rL2_le hp) (by decide) rfl rfl) (by first | rfl | repeat (first | assumption | exact xup_eq _ _ _ | rw [xup_ne _ _ (by first | decide | omega | assumption)])) rfl rfl (xfit _ _ _) (Nat.le_of_ble_eq_true rfl) ?_
    refine X.istore iX7_readLadders_139 rfl rfl ?_
    refine rl_tree (p := (rL3 tp n p fa).2.1) (fa := (rL3 tp n p fa).2.2) hn (rL3_le hp) rfl rfl ?_ K
    rcases hk with q | q
    · exact Or.inl q
    · exact Or.inr (by rw [q]; rfl)
  have mid : ∀ c : Int32, (fa = true ∧ kndF c = -1) ∨ (fa = false ∧ c = ltr tp n (sk tp n p)) → X xT mX7_readLadders (xR (d + 2, 0, 0)) (0, 0) 109 [some (.ref 98), some (.int (nI nT)), some (.int (nI k)), some (.int c), some (.int (kndF c)), none, none, none] [] (mh h nw tp ro rd ud as kp la sz it mv (nI n) (nI (if fa = true then p else sk tp n p)) fa un ku ik) Q := by
    intro c hc
    have t := tail c
    refine X.aload iX7_readLadders_109 rfl ?_
    refine X.iload iX7_readLadders_110 rfl ?_
    refine X.iflt iX7_readLadders_112 (fun c112 => ?_) (fun c112 => ?_)
    · refine X.pushi (v := bI false) iX7_readLadders_119 ?_
      first
      | (refine X.callVv iX7_readLadders_120 (c_X7_must (d := d + 1) (is := true) rfl) rfl rfl rfl (xfit _ _ _) (Nat.le_of_ble_eq_true rfl) ?_; rcases hc with ⟨h2, h3⟩ | ⟨h2, h3⟩; exact absurd (show kndF c < 0 by rw [h3]; decide) c112; rw [knd, if_neg (fun q => Bool.noConfusion (h2.symm.trans q)), ← h3, if_pos (Int32.not_lt.mp c112)] at t; rw [h2]; exact t)
      | (refine X.callVv iX7_readLadders_120 (c_X7_must (d := d + 1) (is := false) rfl) rfl rfl rfl (xfit _ _ _) (Nat.le_of_ble_eq_true rfl) ?_; rcases hc with ⟨h2, h3⟩ | ⟨h2, h3⟩; rw [knd, if_pos h2] at t; rw [h3]; rw [h2]; exact t; rw [knd, if_neg (fun q => Bool.noConfusion (h2.symm.trans q)), ← h3, if_neg (Int32.not_le.mpr c112)] at t; rw [h2]; exact t)
    · refine X.pushi (v := bI true) iX7_readLadders_115 ?_
      refine X.goto iX7_readLadders_116 ?_
      first
      | (refine X.callVv iX7_readLadders_120 (c_X7_must (d := d + 1) (is := true) rfl) rfl rfl rfl (xfit _ _ _) (Nat.le_of_ble_eq_true rfl) ?_; rcases hc with ⟨h2, h3⟩ | ⟨h2, h3⟩; exact absurd (show kndF c < 0 by rw [h3]; decide) c112; rw [knd, if_neg (fun q => Bool.noConfusion (h2.symm.trans q)), ← h3, if_pos (Int32.not_lt.mp c112)] at t; rw [h2]; exact t)
      | (refine X.callVv iX7_readLadders_120 (c_X7_must (d := d + 1) (is := false) rfl) rfl rfl rfl (xfit _ _ _) (Nat.le_of_ble_eq_true rfl) ?_; rcases hc with ⟨h2, h3⟩ | ⟨h2, h3⟩; rw [knd, if_pos h2] at t; rw [h3]; rw [h2]; exact t; rw [knd, if_neg (fun q => Bool.noConfusion (h2.symm.trans q)), ← h3, if_neg (Int32.not_le.mpr c112)] at t; rw [h2]; exact t)
  have kd : ∀ c : Int32, X xT mX7_readLadders (xR (d + 2, 0, 0)) (0, 0) 109 [some (.ref 98), some (.int (nI nT)), some (.int (nI k)), some (.int c), some (.int (kndF c)), none, none, none] [] (mh h nw tp ro rd ud as kp la sz it mv (nI n) (nI (if fa = true then p else sk tp n p)) fa un ku ik) Q → X xT mX7_readLadders (xR (d + 2, 0, 0)) (0, 0) 55 [some (.ref 98), some (.int (nI nT)), some (.int (nI k)), none, none, none, none, none] [.int c] (mh h nw tp ro rd ud as kp la sz it mv (nI n) (nI (if fa = true then p else sk tp n p)) fa un ku ik) Q := by
    intro c m
    unfold kndF at m
    refine X.istore iX7_readLadders_55 rfl rfl ?_
    refine X.iload iX7_readLadders_56 rfl ?_
    refine X.pushi (v := nI 112) iX7_readLadders_57 ?_
    refine X.cmne iX7_readLadders_59 (fun c59 => ?_) (fun c59 => ?_)
    · refine X.iload iX7_readLadders_66 rfl ?_
      refine X.pushi (v := nI 100) iX7_readLadders_67 ?_
      refine X.cmne iX7_readLadders_69 (fun c69 => ?_) (fun c69 => ?_)
      · refine X.iload iX7_readLadders_76 rfl ?_
        refine X.pushi (v := nI 116) iX7_readLadders_77 ?_
        refine X.cmne iX7_readLadders_79 (fun c79 => ?_) (fun c79 => ?_)
        · refine X.iload iX7_readLadders_86 rfl ?_
          refine X.pushi (v := nI 119) iX7_readLadders_87 ?_
          refine X.cmne iX7_readLadders_89 (fun c89 => ?_) (fun c89 => ?_)
          · refine X.iload iX7_readLadders_96 rfl ?_
            refine X.pushi (v := nI 108) iX7_readLadders_97 ?_
            refine X.cmne iX7_readLadders_99 (fun c99 => ?_) (fun c99 => ?_)
            · refine X.pushi iX7_readLadders_106 ?_
              refine X.istore iX7_readLadders_107 rfl rfl ?_
              first
              | (rw [if_pos c59] at m; exact m)
              | (rw [if_neg c59, if_pos c69] at m; exact m)
              | (rw [if_neg c59, if_neg c69, if_pos c79] at m; exact m)
              | (rw [if_neg c59, if_neg c69, if_neg c79, if_pos c89] at m; exact m)
              | (rw [if_neg c59, if_neg c69, if_neg c79, if_neg c89, if_pos c99] at m; exact m)
              | (rw [if_neg c59, if_neg c69, if_neg c79, if_neg c89, if_neg c99] at m; exact m)
            · refine X.pushi (v := nI 4) iX7_readLadders_102 ?_
              refine X.goto iX7_readLadders_103 ?_
              refine X.istore iX7_readLadders_107 rfl rfl ?_
              first
              | (rw [if_pos c59] at m; exact m)
              | (rw [if_neg c59, if_pos c69] at m; exact m)
              | (rw [if_neg c59, if_neg c69, if_pos c79] at m; exact m)
              | (rw [if_neg c59, if_neg c69, if_neg c79, if_pos c89] at m; exact m)
              | (rw [if_neg c59, if_neg c69, if_neg c79, if_neg c89, if_pos c99] at m; exact m)
              | (rw [if_neg c59, if_neg c69, if_neg c79, if_neg c89, if_neg c99] at m; exact m)
          · refine X.pushi (v := nI 3) iX7_readLadders_92 ?_
            refine X.goto iX7_readLadders_93 ?_
            refine X.istore iX7_readLadders_107 rfl rfl ?_
            first
            | (rw [if_pos c59] at m; exact m)
            | (rw [if_neg c59, if_pos c69] at m; exact m)
            | (rw [if_neg c59, if_neg c69, if_pos c79] at m; exact m)
            | (rw [if_neg c59, if_neg c69, if_neg c79, if_pos c89] at m; exact m)
            | (rw [if_neg c59, if_neg c69, if_neg c79, if_neg c89, if_pos c99] at m; exact m)
            | (rw [if_neg c59, if_neg c69, if_neg c79, if_neg c89, if_neg c99] at m; exact m)
        · refine X.pushi (v := nI 2) iX7_readLadders_82 ?_
          refine X.goto iX7_readLadders_83 ?_
          refine X.istore iX7_readLadders_107 rfl rfl ?_
          first
          | (rw [if_pos c59] at m; exact m)
          | (rw [if_neg c59, if_pos c69] at m; exact m)
          | (rw [if_neg c59, if_neg c69, if_pos c79] at m; exact m)
          | (rw [if_neg c59, if_neg c69, if_neg c79, if_pos c89] at m; exact m)
          | (rw [if_neg c59, if_neg c69, if_neg c79, if_neg c89, if_pos c99] at m; exact m)
          | (rw [if_neg c59, if_neg c69, if_neg c79, if_neg c89, if_neg c99] at m; exact m)
      · refine X.pushi (v := nI 1) iX7_readLadders_72 ?_
        refine X.goto iX7_readLadders_73 ?_
        refine X.istore iX7_readLadders_107 rfl rfl ?_
        first
        | (rw [if_pos c59] at m; exact m)
        | (rw [if_neg c59, if_pos c69] at m; exact m)
        | (rw [if_neg c59, if_neg c69, if_pos c79] at m; exact m)
        | (rw [if_neg c59, if_neg c69, if_neg c79, if_pos c89] at m; exact m)
        | (rw [if_neg c59, if_neg c69, if_neg c79, if_neg c89, if_pos c99] at m; exact m)
        | (rw [if_neg c59, if_neg c69, if_neg c79, if_neg c89, if_neg c99] at m; exact m)
    · refine X.pushi (v := nI 0) iX7_readLadders_62 ?_
      refine X.goto iX7_readLadders_63 ?_
      refine X.istore iX7_readLadders_107 rfl rfl ?_
      first
      | (rw [if_pos c59] at m; exact m)
      | (rw [if_neg c59, if_pos c69] at m; exact m)
      | (rw [if_neg c59, if_neg c69, if_pos c79] at m; exact m)
      | (rw [if_neg c59, if_neg c69, if_neg c79, if_pos c89] at m; exact m)
      | (rw [if_neg c59, if_neg c69, if_neg c79, if_neg c89, if_pos c99] at m; exact m)
      | (rw [if_neg c59, if_neg c69, if_neg c79, if_neg c89, if_neg c99] at m; exact m)
  refine X.aload iX7_readLadders_40 rfl ?_
  refine X.getf iX7_readLadders_41 (by first | rfl | repeat (first | assumption | exact xup_eq _ _ _ | rw [xup_ne _ _ (by first | decide | omega | assumption)])) rfl ?_
  refine X.ifeqB iX7_readLadders_44 (fun c44 => ?_) (fun c44 => ?_)
  · refine X.aload iX7_readLadders_51 rfl ?_
    refine X.callVi iX7_readLadders_52 (c_X7_here (d := d + 1) hn hp rfl rfl) (by first | rfl | repeat (first | assumption | exact xup_eq _ _ _ | rw [xup_ne _ _ (by first | decide | omega | assumption)])) rfl rfl (xfit _ _ _) (Nat.le_of_ble_eq_true rfl) ?_
    first
    | (have q := kd (nI 0) (mid (nI 0) (Or.inl ⟨c44, by decide⟩)); rw [if_pos c44] at q; exact q)
    | (have q := kd _ (mid _ (Or.inr ⟨c44, rfl⟩)); rw [if_neg (fun q => Bool.noConfusion (c44.symm.trans q))] at q; exact q)
  · refine X.pushi (v := nI 0) iX7_readLadders_47 ?_
    refine X.goto iX7_readLadders_48 ?_
    first
    | (have q := kd (nI 0) (mid (nI 0) (Or.inl ⟨c44, by decide⟩)); rw [if_pos c44] at q; exact q)
    | (have q := kd _ (mid _ (Or.inr ⟨c44, rfl⟩)); rw [if_neg (fun q => Bool.noConfusion (c44.symm.trans q))] at q; exact q)
def rlP (tp : Nat → Int32) (n k p : Nat) : Nat := if k = 0 then p else if k < 4 then sk tp n p + 1 else sk tp n p
def rlL (tp : Nat → Int32) (n nT : Nat) : Nat → Nat → Nat → (Nat → Int32) → Nat × Nat × Bool × (Nat → Int32)
  | 0, k, p, rd => (k, p, true, rd)
  | f + 1, k, p, rd =>
    if k = 0 ∨ ltr tp n (sk tp n p) = nI 44 then
      (if (rL4 tp n nT (rlP tp n k p) (decide (4 ≤ k))).2.2 = true then (k + 1, (rL4 tp n nT (rlP tp n k p) (decide (4 ≤ k))).2.1, true, rd)
      else rlL tp n nT f (k + 1) (rL4 tp n nT (rlP tp n k p) (decide (4 ≤ k))).2.1 (rd4 rd k (knd tp n (rlP tp n k p) (decide (4 ≤ k))).1 (rL2 tp n (rlP tp n k p) (decide (4 ≤ k))).1 (rL3 tp n (rlP tp n k p) (decide (4 ≤ k))).1 (rL4 tp n nT (rlP tp n k p) (decide (4 ≤ k))).1))
    else (k, sk tp n p, false, rd)
theorem rlP_le {tp : Nat → Int32} {n k p : Nat} (hp : p ≤ n) (h : k = 0 ∨ ltr tp n (sk tp n p) = nI 44) : rlP tp n k p ≤ n := by
  have h1 := sk_le (tp := tp) hp
  unfold rlP
  split
  · exact hp
  · rename_i q
    have := ltr_end (by decide) (h.resolve_left q)
    split <;> omega
set_option maxHeartbeats 1000000 in
theorem ladders_loop {d n nT : Nat} {h : XH} {nw tp ro rd ud as kp la sz : Nat → Int32} {it mv : Nat → Int64} {ty pl : Int32} {fa : Bool} {un ku : Int32} {ik : Bool} (hn : n ≤ 90) (et : ty = nI n) : ∀ f k p (rd : Nat → Int32), k + f = 5 → p ≤ n → X xT mX7_readLadders (xR (d + 2, 0, 0)) (0, 0) 2 [some (.ref 98), some (.int (nI nT)), some (.int (nI k)), none, none, none, none, none] [] (mh h nw tp ro rd ud as kp la sz it mv ty (nI p) false un ku ik) (fun v h' => v = some (.int (nI (rlL tp n nT f k p rd).1)) ∧ h' = (mh h nw tp ro ((rlL tp n nT f k p rd).2.2.2) ud as kp la sz it mv ty (nI (rlL tp n nT f k p rd).2.1) ((rlL tp n nT f k p rd).2.2.1) un ku ik)) ∨ k = 5 := by
  subst et
  intro f
  induction f with
  | zero => intro k p rd hk hp; exact Or.inr (by omega)
  | succ f ih =>
    intro k p rd hk hp
    left
    have e : rlL tp n nT (f + 1) k p rd = if k = 0 ∨ ltr tp n (sk tp n p) = nI 44 then
      (if (rL4 tp n nT (rlP tp n k p) (decide (4 ≤ k))).2.2 = true then (k + 1, (rL4 tp n nT (rlP tp n k p) (decide (4 ≤ k))).2.1, true, rd)
      else rlL tp n nT f (k + 1) (rL4 tp n nT (rlP tp n k p) (decide (4 ≤ k))).2.1 (rd4 rd k (knd tp n (rlP tp n k p) (decide (4 ≤ k))).1 (rL2 tp n (rlP tp n k p) (decide (4 ≤ k))).1 (rL3 tp n (rlP tp n k p) (decide (4 ≤ k))).1 (rL4 tp n nT (rlP tp n k p) (decide (4 ≤ k))).1))
    else (k, sk tp n p, false, rd) := rfl
    have h1 := sk_le (tp := tp) hp
    have body : k = 0 ∨ ltr tp n (sk tp n p) = nI 44 → X xT mX7_readLadders (xR (d + 2, 0, 0)) (0, 0) 40 [some (.ref 98), some (.int (nI nT)), some (.int (nI k)), none, none, none, none, none] [] (mh h nw tp ro rd ud as kp la sz it mv (nI n) (nI (rlP tp n k p)) (decide (4 ≤ k)) un ku ik) (fun v h' => v = some (.int (nI (rlL tp n nT (f + 1) k p rd).1)) ∧ h' = (mh h nw tp ro ((rlL tp n nT (f + 1) k p rd).2.2.2) ud as kp la sz it mv (nI n) (nI (rlL tp n nT (f + 1) k p rd).2.1) ((rlL tp n nT (f + 1) k p rd).2.2.1) un ku ik)) := by
      intro hc
      rw [e, if_pos hc]
      have hP := rlP_le hp hc
      refine rl_body (pl := nI (rlP tp n k p)) (ty := nI n) hn hP (by
        rcases Nat.lt_or_ge k 4 with q | q
        · exact Or.inl q
        · exact Or.inr (decide_eq_true q)) rfl rfl ?_
      refine X.iinc iX7_readLadders_234 rfl rfl rfl ?_
      refine X.goto iX7_readLadders_237 ?_
      rw [nI_1]
      cases hz : (rL4 tp n nT (rlP tp n k p) (decide (4 ≤ k))).2.2
      · have k6 : ¬ 4 ≤ k := fun q => by
          rw [decide_eq_true q, rL4_true] at hz
          exact Bool.noConfusion (show true = false from hz)
        exact (ih (k + 1) _ _ (by omega) (rL4_le hP)).resolve_right (by omega)
      · refine X.aload iX7_readLadders_2 rfl ?_
        refine X.getf iX7_readLadders_3 (by first | rfl | repeat (first | assumption | exact xup_eq _ _ _ | rw [xup_ne _ _ (by first | decide | omega | assumption)])) rfl ?_
        refine X.ifneB iX7_readLadders_6 (fun c6 => ?_) (fun c6 => ?_)
        · refine X.iload iX7_readLadders_240 rfl ?_
          exact X.iret iX7_readLadders_241 ⟨rfl, rfl⟩
        · exact absurd c6 (by decide)
    refine X.aload iX7_readLadders_2 rfl ?_
    refine X.getf iX7_readLadders_3 (by first | rfl | repeat (first | assumption | exact xup_eq _ _ _ | rw [xup_ne _ _ (by first | decide | omega | assumption)])) rfl ?_
    refine X.ifneB iX7_readLadders_6 (fun c6 => ?_) (fun c6 => ?_)
    · exact absurd c6 (by decide)
    · refine X.iload iX7_readLadders_9 rfl ?_
      refine X.ifeq iX7_readLadders_10 (fun c10 => ?_) (fun c10 => ?_)
      · have k0 : k = 0 := (nI_eq (show k < 2 ^ 31 by omega) (show 0 < 2 ^ 31 by decide)).mp c10
        subst k0
        refine X.iload iX7_readLadders_22 rfl ?_
        refine X.ifle iX7_readLadders_23 (fun _ => ?_) (fun q => absurd (Int32.le_refl _) q)
        exact body (Or.inl rfl)
      · refine X.aload iX7_readLadders_13 rfl ?_
        refine X.callVi iX7_readLadders_14 (c_X7_here (d := d + 1) hn hp rfl rfl) (by first | rfl | repeat (first | assumption | exact xup_eq _ _ _ | rw [xup_ne _ _ (by first | decide | omega | assumption)])) rfl rfl (xfit _ _ _) (Nat.le_of_ble_eq_true rfl) ?_
        refine X.pushi (v := nI 44) iX7_readLadders_17 ?_
        refine X.cmne iX7_readLadders_19 (fun c19 => ?_) (fun c19 => ?_)
        · have k0 : ¬ k = 0 := fun q => c10 (by rw [q]; rfl)
          rw [e, if_neg (fun q => q.elim k0 c19)]
          refine X.iload iX7_readLadders_240 rfl ?_
          exact X.iret iX7_readLadders_241 ⟨rfl, rfl⟩
        · have k0 : ¬ k = 0 := fun q => c10 (by rw [q]; rfl)
          refine X.iload iX7_readLadders_22 rfl ?_
          refine X.ifle iX7_readLadders_23 (fun c23 => ?_) (fun c23 => ?_)
          · exact absurd c23 (nI_nle (by omega) (by omega))
          · refine X.aload iX7_readLadders_26 rfl ?_
            refine X.iload iX7_readLadders_27 rfl ?_
            refine X.pushi (v := nI 4) iX7_readLadders_28 ?_
            refine X.cmge iX7_readLadders_29 (fun c29 => ?_) (fun c29 => ?_)
            · refine X.pushi (v := bI false) iX7_readLadders_36 ?_
              first
              | (have k6 : 4 ≤ k := (nI_leI (by decide) (by omega)).mp c29; have b := body (Or.inr c19); rw [show rlP tp n k p = sk tp n p by rw [rlP, if_neg k0, if_neg (by omega)], decide_eq_true k6] at b; refine X.callVv iX7_readLadders_37 (c_X7_must (d := d + 1) (is := false) rfl) rfl rfl rfl (xfit _ _ _) (Nat.le_of_ble_eq_true rfl) ?_; exact b)
              | (have k6 : ¬ 4 ≤ k := fun q => c29 (nI_le q (by omega)); have b := body (Or.inr c19); rw [show rlP tp n k p = sk tp n p + 1 by rw [rlP, if_neg k0, if_pos (by omega)], decide_eq_false k6] at b; refine X.callVv iX7_readLadders_37 (c_X7_must (d := d + 1) (is := true) rfl) rfl rfl rfl (xfit _ _ _) (Nat.le_of_ble_eq_true rfl) ?_; exact b)
            · refine X.pushi (v := bI true) iX7_readLadders_32 ?_
              refine X.goto iX7_readLadders_33 ?_
              first
              | (have k6 : 4 ≤ k := (nI_leI (by decide) (by omega)).mp c29; have b := body (Or.inr c19); rw [show rlP tp n k p = sk tp n p by rw [rlP, if_neg k0, if_neg (by omega)], decide_eq_true k6] at b; refine X.callVv iX7_readLadders_37 (c_X7_must (d := d + 1) (is := false) rfl) rfl rfl rfl (xfit _ _ _) (Nat.le_of_ble_eq_true rfl) ?_; exact b)
              | (have k6 : ¬ 4 ≤ k := fun q => c29 (nI_le q (by omega)); have b := body (Or.inr c19); rw [show rlP tp n k p = sk tp n p + 1 by rw [rlP, if_neg k0, if_pos (by omega)], decide_eq_false k6] at b; refine X.callVv iX7_readLadders_37 (c_X7_must (d := d + 1) (is := true) rfl) rfl rfl rfl (xfit _ _ _) (Nat.le_of_ble_eq_true rfl) ?_; exact b)
theorem c_X7_readLadders {d n nT p : Nat} {h : XH} {nw tp ro rd ud as kp la sz : Nat → Int32} {it mv : Nat → Int64} {ty pl : Int32} {fa : Bool} {un ku : Int32} {ik : Bool} (hn : n ≤ 90) (hp : p ≤ n) (ef : fa = false) (ep : pl = nI p) (et : ty = nI n) : MetH mX7_readLadders (d + 2, 0, 0) [.ref 98, .int (nI nT)] (mh h nw tp ro rd ud as kp la sz it mv ty pl fa un ku ik) (nI (rlL tp n nT 5 0 p rd).1) (mh h nw tp ro ((rlL tp n nT 5 0 p rd).2.2.2) ud as kp la sz it mv ty (nI (rlL tp n nT 5 0 p rd).2.1) ((rlL tp n nT 5 0 p rd).2.2.1) un ku ik) := by
  subst ep
  subst ef
  refine MetX.of (by decide) rfl (Nat.le_of_ble_eq_true rfl) ?_
  refine X.pushi (v := nI 0) iX7_readLadders_0 ?_
  refine X.istore iX7_readLadders_1 rfl rfl ?_
  exact (ladders_loop (pl := nI p) (fa := false) (rd := rd) hn et 5 0 p rd rfl hp).resolve_right (by decide)
theorem rlL_le {tp : Nat → Int32} {n nT : Nat} : ∀ f k p (rd : Nat → Int32), p ≤ n → (rlL tp n nT f k p rd).2.1 ≤ n
  | 0, k, p, rd, hp => hp
  | f + 1, k, p, rd, hp => by
    unfold rlL
    split
    · rename_i hc
      have hP := rL4_le (tp := tp) (nT := nT) (fa := decide (4 ≤ k)) (rlP_le hp hc)
      split
      · exact hP
      · exact rlL_le f _ _ _ hP
    · exact (sk_le hp).2
theorem rlL_ok {tp : Nat → Int32} {n nT : Nat} : ∀ f k p (rd : Nat → Int32), k + f = 5 → (rlL tp n nT f k p rd).2.2.1 = false → 1 ≤ (rlL tp n nT f k p rd).1 ∧ (rlL tp n nT f k p rd).1 ≤ 4
  | 0, k, p, rd, _, h => Bool.noConfusion (show true = false from h)
  | f + 1, k, p, rd, hk, h => by
    unfold rlL at h ⊢
    split
    · rename_i hc
      rw [if_pos hc] at h
      split
      · rename_i h2
        rw [if_pos h2] at h
        exact Bool.noConfusion (show true = false from h)
      · rename_i h2
        rw [if_neg h2] at h
        exact rlL_ok f _ _ _ (by omega) h
    · rename_i hc
      have : ¬ k = 0 := fun q => hc (Or.inl q)
      show 1 ≤ k ∧ k ≤ 4
      omega
