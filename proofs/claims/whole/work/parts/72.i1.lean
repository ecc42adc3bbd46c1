/-! what is made: constructors -/
theorem arrV_cg {cI : ClassId} {N : Nat} {f g : Nat → Value} (h : ∀ j, j < N → f j = g j) : arrV cI N f = arrV cI N g := by
  have e : (fun j : Fin N => f j.val) = fun j : Fin N => g j.val := funext fun j => h j.1 j.2
  unfold arrV
  rw [e]
theorem X.aext {Γ : State → Nat → Nat → Prop} {μ : MI} {R : Room} {κ : Nat × Nat} {pc : Nat} {L : List (Option Value)} {S : List Value} {h : XH} {Q : Option Value → XH → Prop} {a n : Nat} {ty : FieldType} {f g : Nat → Option Nat} (ha : h a = some (.inl (ty, n, .inr (.inr (.inr (.inr f)))))) (e : ∀ i, i < n → f i = g i) (k : X Γ μ R κ pc L S (xup h a (.inl (ty, n, .inr (.inr (.inr (.inr g)))))) Q) : X Γ μ R κ pc L S h Q := by
  intro p l ev s m args below meth c B b D dA C Z E hκ H locs ls hR hS hl
  refine k p l ev s m args below meth c B b D dA C Z E hκ H locs ls (hR.put ha rfl ?_ (fun q _ => rfl)) hS hl
  have := hR.at ha
  show H[xphi B b a]? = some (arrV (dA ty) n (fun j => va_rf ((g j).map (xphi B b))))
  rw [← arrV_cg (f := fun j => va_rf ((f j).map (xphi B b))) (fun j hj => by rw [e j hj])]
  exact this
theorem XDom.cg {h g : XH} {N M : Nat} (hd : XDom h N) (hm : N ≤ M) (h1 : ∀ i, i < N → (g i).isSome = true) (h2 : ∀ i, N ≤ i → i < M → (g i).isSome = true) (h3 : ∀ i, M ≤ i → g i = h i) : XDom g M := by
  intro i
  by_cases q : i < N
  · exact ⟨fun _ => by omega, fun _ => h1 i q⟩
  by_cases r : i < M
  · exact ⟨fun _ => r, fun _ => h2 i (by omega) r⟩
  · rw [h3 i (by omega), hd i]
    omega
theorem XDom.some {h : XH} {N i : Nat} (hd : XDom h N) (hi : i < N) : (h i).isSome = true := (hd i).mpr hi
theorem XDom.sM {h : XH} {m : Nat} (hd : XDom h (m + 1)) (M : Mo) : XDom (setM h m M) (m + 3) := by
  refine hd.cg (by omega) (fun i hi => ?_) (fun i h1 h2 => ?_) (fun i hi => sMo _ _ (by omega))
  · by_cases q : i = m
    · rw [q, sM0]
      rfl
    · rw [sMo _ _ (by omega)]
      exact hd.some hi
  · by_cases q : i = m + 1
    · rw [q, sM1]
      rfl
    · rw [show i = m + 2 by omega, sM2]
      rfl
abbrev bl2 : List Value := [.null, .null, .int 0, .int 0, .int 0, .int 0, .int 0]
abbrev bl3 : List Value := [.int 0, .int 0, .int 0, .int 0, .null, .null, .null, .null, .null, .null]
/-- a new Moment -/
def M0 : Mo := (Mo.mk (fun _ => 0) (cp (fun _ => -4) (fun _ => 0) 4) 0 0 0 0 (nI 1))
def M00 : Mo := (Mo.mk (fun _ => 0) (fun _ => 0) 0 0 0 0 (nI 1))
theorem c_X2_init {d m : Nat} {h : XH} (hd : XDom h (m + 1)) (hm : h m = some (.inr (2, bl2))) (hlt : m < 1000) : MetX mX2_init (d + 1, 2, 10) [.ref m] h (fun v h' => v = none ∧ IsM h' m M0 ∧ XDom h' (m + 3) ∧ ∀ i, i < m → h' i = h i) := by
  have e1 : xup h (m + 1) (IA 6 (fun _ => 0)) m = some (.inr (2, bl2)) := by rw [xup_ne _ _ (by omega)]; exact hm
  have d1 : XDom (xup (xup h (m + 1) (IA 6 (fun _ => 0))) m (.inr (2, [.ref (m + 1), .null, .int 0, .int 0, .int 0, .int 0, .int 0]))) (m + 2) := (hd.push (c := IA 6 (fun _ => 0))).put e1
  refine MetX.of (by decide) rfl (Nat.le_of_ble_eq_true rfl) ?_
  refine X.aload iX2_init_0 rfl ?_
  refine X.objInit iX2_init_1 (xfit0 _ _ _) (Nat.le_of_ble_eq_true rfl) ?_
  refine X.aload iX2_init_4 rfl ?_
  refine X.pushi (v := nI 6) iX2_init_5 ?_
  refine X.newi (M := 6) iX2_init_7 (by decide) (by decide) (by decide) hd (by omega) ⟨Nat.le_of_ble_eq_true rfl, Nat.le_of_ble_eq_true rfl⟩ ?_
  refine X.putr iX2_init_9 e1 (Nat.le_of_ble_eq_true rfl) ?_
  refine X.aload iX2_init_12 rfl ?_
  refine X.pushi (v := nI 4) iX2_init_13 ?_
  refine X.newi (M := 4) iX2_init_14 (by decide) (by decide) (by decide) d1 (by omega) ⟨Nat.le_of_ble_eq_true rfl, Nat.le_of_ble_eq_true rfl⟩ ?_
  refine X.putr (fs := [.ref (m + 1), .null, .int 0, .int 0, .int 0, .int 0, .int 0]) iX2_init_16 (by rw [xup_ne _ _ (by omega), xup_eq]; rfl) (Nat.le_of_ble_eq_true rfl) ?_
  refine X.aload iX2_init_19 rfl ?_
  refine X.pushi (v := nI 1) iX2_init_20 ?_
  refine X.puti (fs := [.ref (m + 1), .ref (m + 2), .int 0, .int 0, .int 0, .int 0, .int 0]) iX2_init_21 (xup_eq _ _ _) (Nat.le_of_ble_eq_true rfl) ?_
  refine X.heap (h' := setM h m M00) (sM_eq (M := M00) (xup_eq _ _ _) (by rw [xup_ne _ _ (by omega), xup_ne _ _ (by omega), xup_ne _ _ (by omega), xup_ne _ _ (by omega), xup_eq]; rfl) (by rw [xup_ne _ _ (by omega), xup_ne _ _ (by omega), xup_eq]; rfl) (fun i q => by rw [xup_ne _ _ (by omega), xup_ne _ _ (by omega), xup_ne _ _ (by omega), xup_ne _ _ (by omega), xup_ne _ _ (by omega)])) ?_
  refine X.aload iX2_init_24 rfl ?_
  refine X.callVv iX2_init_25 (c_X2_leanNowhere (d := d)) (sM0 _ _ _) rfl rfl (xfit _ _ _) (Nat.le_of_ble_eq_true rfl) ?_
  exact X.vret iX2_init_28 ⟨rfl, sM_is _ _ M0, hd.sM M0, fun i hi => sMo _ _ (by omega)⟩
