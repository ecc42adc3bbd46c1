/-! the class: a Tape beside a draft -/
theorem sTA (h : XH) {s o : Nat} (V : Ta) (O : Oc) (M : Mo) (q : s + 1 < o ∨ o + 8 < s) : setT (setA h o O M) s V = setA (setT h s V) o O M := by
  refine (sT_eq (h := setA h o O M) ⟨?_, ?_⟩ ?_).symm
  · rw [sAo _ _ _ (by omega), sT0]
  · rw [sAo _ _ _ (by omega), sT1]
  · intro i qi
    by_cases r : i < o ∨ o + 8 < i
    · rw [sAo _ _ _ r, sAo _ _ _ r, sTo _ _ qi]
    · unfold setA setM setO
      by_cases a : i = o + 6
      · rw [if_pos a, if_pos a]
      rw [if_neg a, if_neg a]
      by_cases b : i = o + 6 + 1
      · rw [if_pos b, if_pos b]
      rw [if_neg b, if_neg b]
      by_cases c : i = o + 6 + 2
      · rw [if_pos c, if_pos c]
      rw [if_neg c, if_neg c]
      by_cases d0 : i = o
      · rw [if_pos d0, if_pos d0]
      rw [if_neg d0, if_neg d0]
      by_cases d1 : i = o + 1
      · rw [if_pos d1, if_pos d1]
      rw [if_neg d1, if_neg d1]
      by_cases d2 : i = o + 2
      · rw [if_pos d2, if_pos d2]
      rw [if_neg d2, if_neg d2]
      by_cases d3 : i = o + 3
      · rw [if_pos d3, if_pos d3]
      rw [if_neg d3, if_neg d3]
      by_cases d4 : i = o + 4
      · rw [if_pos d4, if_pos d4]
      rw [if_neg d4, if_neg d4]
      by_cases d5 : i = o + 5
      · rw [if_pos d5, if_pos d5]
      exact absurd r (by omega)
/-- the picture: the tape at s, the draft at o -/
abbrev tpic (h : XH) (s o : Nat) (V : Ta) (O : Oc) (M : Mo) : XH := setT (setA h o O M) s V
theorem g_plant {d s o : Nat} {h : XH} {V : Ta} {O : Oc} {M : Mo} {hi fr ri : Int32} (q : s + 1 < o ∨ o + 8 < s) (hT : O.nT ≤ 6) : MetH mX3_plant (d, 0, 0) [.ref o, .int hi, .int fr, .int ri] (tpic h s o V O M) (if O.nT = 6 then -3 else nI O.nT) (if O.nT = 6 then tpic h s o V O M else tpic h s o V (plO O hi ri) (plM O M fr)) := by
  have := c_X3_plant (d := d) (h := setT h s V) (o := o) (M := M) (hi := hi) (fr := fr) (ri := ri) hT
  unfold tpic
  rw [sTA _ _ _ _ q, sTA _ _ _ _ q]
  exact this
theorem g_bring {d s o : Nat} {h : XH} {V : Ta} {O : Oc} {M : Mo} {ki le pr : Int32} (q : s + 1 < o ∨ o + 8 < s) (hL : O.nL ≤ 4) : MetH mX3_bring (d, 0, 0) [.ref o, .int ki, .int le, .int pr] (tpic h s o V O M) (if O.nL = 4 then -3 else nI O.nL) (if O.nL = 4 then tpic h s o V O M else tpic h s o V (brO O ki le pr) (brM O M)) := by
  have := c_X3_bring (d := d) (h := setT h s V) (o := o) (M := M) (ki := ki) (le := le) (pr := pr) hL
  unfold tpic
  rw [sTA _ _ _ _ q, sTA _ _ _ _ q]
  exact this
theorem g_clear {d s o : Nat} {h : XH} {V : Ta} {O : Oc} {M : Mo} (q : s + 1 < o ∨ o + 8 < s) : MetV mX3_clear (d + 1, 0, 0) [.ref o] (tpic h s o V O M) (tpic h s o V (Oc.mk 0 0 O.ba O.wa O.hi O.ri O.ki O.le O.pr) (Mo.mk M.fr (cp (fun _ => -4) M.ln 4) M.got M.paid M.lost M.day M.draw)) := by
  have := c_X3_clear (d := d) (h := setT h s V) (o := o) (O := O) (M := M)
  unfold tpic
  rw [sTA _ _ _ _ q, sTA _ _ _ _ q]
  exact this
