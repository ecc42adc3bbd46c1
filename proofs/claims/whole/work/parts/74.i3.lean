/-! constructors of the class's parts -/
def O0 : Oc := (Oc.mk 0 0 (nI 5) (nI 1) (fun _ => 0) (fun _ => 0) (fun _ => 0) (fun _ => 0) (fun _ => 0))
theorem c_X3_init {d o : Nat} {h : XH} (hd : XDom h (o + 1)) (ho : h o = some (.inr (3, bl3))) (hlt : o < 900) : MetX mX3_init (d + 2, 8, 41) [.ref o] h (fun v h' => v = none ∧ (IsO h' o O0 ∧ IsM h' (o + 6) M0) ∧ XDom h' (o + 9) ∧ ∀ i, i < o → h' i = h i) := by
  refine MetX.of (by decide) rfl (Nat.le_of_ble_eq_true rfl) ?_
  refine X.aload iX3_init_0 rfl ?_
  refine X.objInit iX3_init_1 (xfit0 _ _ _) (Nat.le_of_ble_eq_true rfl) ?_
  refine X.aload iX3_init_4 rfl ?_
  refine X.pushi (v := nI 5) iX3_init_5 ?_
  refine mkI iX3_init_6 hd ho (Nat.le_of_ble_eq_true rfl) (fun g1 z1 d1 s1 => ?_)
  refine X.aload iX3_init_9 rfl ?_
  refine X.pushi (v := nI 1) iX3_init_10 ?_
  refine mkI iX3_init_11 d1 z1 (Nat.le_of_ble_eq_true rfl) (fun g2 z2 d2 s2 => ?_)
  refine X.aload iX3_init_14 rfl ?_
  refine X.pushi (v := nI 6) iX3_init_15 ?_
  refine mkA (M := 6) iX3_init_17 iX3_init_19 (by decide) (by decide) (by decide) d2 (by omega) z2 (Nat.le_of_ble_eq_true rfl) ⟨Nat.le_of_ble_eq_true rfl, Nat.le_of_ble_eq_true rfl⟩ (fun g3 z3 a3 d3 s3 => ?_)
  refine X.aload iX3_init_22 rfl ?_
  refine X.pushi (v := nI 6) iX3_init_23 ?_
  refine mkA (M := 6) iX3_init_25 iX3_init_27 (by decide) (by decide) (by decide) d3 (by omega) z3 (Nat.le_of_ble_eq_true rfl) ⟨Nat.le_of_ble_eq_true rfl, Nat.le_of_ble_eq_true rfl⟩ (fun g4 z4 a4 d4 s4 => ?_)
  refine X.aload iX3_init_30 rfl ?_
  refine X.pushi (v := nI 4) iX3_init_31 ?_
  refine mkA (M := 4) iX3_init_32 iX3_init_34 (by decide) (by decide) (by decide) d4 (by omega) z4 (Nat.le_of_ble_eq_true rfl) ⟨Nat.le_of_ble_eq_true rfl, Nat.le_of_ble_eq_true rfl⟩ (fun g5 z5 a5 d5 s5 => ?_)
  refine X.aload iX3_init_37 rfl ?_
  refine X.pushi (v := nI 4) iX3_init_38 ?_
  refine mkA (M := 4) iX3_init_39 iX3_init_41 (by decide) (by decide) (by decide) d5 (by omega) z5 (Nat.le_of_ble_eq_true rfl) ⟨Nat.le_of_ble_eq_true rfl, Nat.le_of_ble_eq_true rfl⟩ (fun g6 z6 a6 d6 s6 => ?_)
  refine X.aload iX3_init_44 rfl ?_
  refine X.pushi (v := nI 4) iX3_init_45 ?_
  refine mkA (M := 4) iX3_init_46 iX3_init_48 (by decide) (by decide) (by decide) d6 (by omega) z6 (Nat.le_of_ble_eq_true rfl) ⟨Nat.le_of_ble_eq_true rfl, Nat.le_of_ble_eq_true rfl⟩ (fun g7 z7 a7 d7 s7 => ?_)
  refine X.aload iX3_init_51 rfl ?_
  refine mkO (P := fun g => IsM g (o + 6) M0) iX3_init_52 iX3_init_55 iX3_init_56 iX3_init_59 d7 (by omega) z7 (Nat.le_of_ble_eq_true rfl) ⟨Nat.le_of_ble_eq_true rfl, Nat.le_of_ble_eq_true rfl⟩ (fun g hg hn => c_X2_init (d := d) hg hn (by omega)) (xfit _ _ _) (Nat.le_of_ble_eq_true rfl) ⟨Nat.le_of_ble_eq_true rfl, Nat.le_of_ble_eq_true rfl⟩ (fun g g' p q => IsM.fr p (fun i x y => q i (by omega))) (fun g8 z8 p8 d8 s8 => ?_)
  refine X.vret iX3_init_62 ⟨rfl, ⟨⟨z8, ?_, ?_, ?_, ?_, ?_⟩, p8⟩, d8, fun i hi => ?_⟩
  · rw [s8 _ (by omega) (by omega), s7 _ (by omega) (by omega), s6 _ (by omega) (by omega), s5 _ (by omega) (by omega), s4 _ (by omega) (by omega)]
    exact a3
  · rw [s8 _ (by omega) (by omega), s7 _ (by omega) (by omega), s6 _ (by omega) (by omega), s5 _ (by omega) (by omega)]
    exact a4
  · rw [s8 _ (by omega) (by omega), s7 _ (by omega) (by omega), s6 _ (by omega) (by omega)]
    exact a5
  · rw [s8 _ (by omega) (by omega), s7 _ (by omega) (by omega)]
    exact a6
  · rw [s8 _ (by omega) (by omega)]
    exact a7
  · rw [s8 _ (by omega) (by omega), s7 _ (by omega) (by omega), s6 _ (by omega) (by omega), s5 _ (by omega) (by omega), s4 _ (by omega) (by omega), s3 _ (by omega) (by omega), s2 _ (by omega), s1 _ (by omega)]
def T0 : Ta := (Ta.mk (fun _ => 0) 0 0 0)
theorem c_X5_init {d s : Nat} {h : XH} (hd : XDom h (s + 1)) (ho : h s = some (.inr (5, [.null, .int 0, .int 0, .int 0]))) (hlt : s < 1000) : MetX mX5_init (d + 1, 1, 90) [.ref s] h (fun v h' => v = none ∧ IsT h' s T0 ∧ XDom h' (s + 2) ∧ ∀ i, i < s → h' i = h i) := by
  refine MetX.of (by decide) rfl (Nat.le_of_ble_eq_true rfl) ?_
  refine X.aload iX5_init_0 rfl ?_
  refine X.objInit iX5_init_1 (xfit0 _ _ _) (Nat.le_of_ble_eq_true rfl) ?_
  refine X.aload iX5_init_4 rfl ?_
  refine X.pushi (v := nI 90) iX5_init_5 ?_
  refine mkC iX5_init_7 iX5_init_9 (by decide) (by decide) hd (by omega) ho (Nat.le_of_ble_eq_true rfl) ⟨Nat.le_of_ble_eq_true rfl, Nat.le_of_ble_eq_true rfl⟩ (fun g1 z1 a1 d1 s1 => ?_)
  exact X.vret iX5_init_12 ⟨rfl, ⟨z1, a1⟩, d1, fun i hi => s1 i (by omega) (by omega)⟩
def C0 : Ch := (Ch.mk (fun _ => 0) (fun _ => 0) (fun _ => 0) 0)
theorem c_X0_init {d c : Nat} {h : XH} (hd : XDom h (c + 1)) (ho : h c = some (.inr (0, [.null, .null, .null, .int 0]))) (hlt : c < 1000) : MetX mX0_init (d + 1, 3, 106) [.ref c] h (fun v h' => v = none ∧ IsC h' c C0 ∧ XDom h' (c + 4) ∧ ∀ i, i < c → h' i = h i) := by
  refine MetX.of (by decide) rfl (Nat.le_of_ble_eq_true rfl) ?_
  refine X.aload iX0_init_0 rfl ?_
  refine X.objInit iX0_init_1 (xfit0 _ _ _) (Nat.le_of_ble_eq_true rfl) ?_
  refine X.aload iX0_init_4 rfl ?_
  refine X.pushi (v := nI 96) iX0_init_5 ?_
  refine mkA (M := 96) iX0_init_7 iX0_init_9 (by decide) (by decide) (by decide) hd (by omega) ho (Nat.le_of_ble_eq_true rfl) ⟨Nat.le_of_ble_eq_true rfl, Nat.le_of_ble_eq_true rfl⟩ (fun g1 z1 a1 d1 s1 => ?_)
  refine X.aload iX0_init_12 rfl ?_
  refine X.pushi (v := nI 4) iX0_init_13 ?_
  refine mkA (M := 4) iX0_init_14 iX0_init_16 (by decide) (by decide) (by decide) d1 (by omega) z1 (Nat.le_of_ble_eq_true rfl) ⟨Nat.le_of_ble_eq_true rfl, Nat.le_of_ble_eq_true rfl⟩ (fun g2 z2 a2 d2 s2 => ?_)
  refine X.aload iX0_init_19 rfl ?_
  refine X.pushi (v := nI 6) iX0_init_20 ?_
  refine mkA (M := 6) iX0_init_22 iX0_init_24 (by decide) (by decide) (by decide) d2 (by omega) z2 (Nat.le_of_ble_eq_true rfl) ⟨Nat.le_of_ble_eq_true rfl, Nat.le_of_ble_eq_true rfl⟩ (fun g3 z3 a3 d3 s3 => ?_)
  refine X.vret iX0_init_27 ⟨rfl, ⟨z3, ?_, ?_, a3⟩, d3, fun i hi => ?_⟩
  · rw [s3 _ (by omega) (by omega), s2 _ (by omega) (by omega)]
    exact a1
  · rw [s3 _ (by omega) (by omega)]
    exact a2
  · rw [s3 _ (by omega) (by omega), s2 _ (by omega) (by omega), s1 _ (by omega) (by omega)]
def S0s : Sh := (Sh.mk (fun _ => 0) (-1) 0)
theorem c_X4_init {d s : Nat} {h : XH} (hd : XDom h (s + 1)) (ho : h s = some (.inr (4, [.null, .int 0, .int 0]))) (hlt : s < 1000) : MetX mX4_init (d + 1, 1, 24) [.ref s] h (fun v h' => v = none ∧ IsS h' s S0s ∧ XDom h' (s + 2) ∧ ∀ i, i < s → h' i = h i) := by
  refine MetX.of (by decide) rfl (Nat.le_of_ble_eq_true rfl) ?_
  refine X.aload iX4_init_0 rfl ?_
  refine X.objInit iX4_init_1 (xfit0 _ _ _) (Nat.le_of_ble_eq_true rfl) ?_
  refine X.aload iX4_init_4 rfl ?_
  refine X.pushi (v := nI 24) iX4_init_5 ?_
  refine mkL (M := 24) iX4_init_7 iX4_init_9 (by decide) (by decide) (by decide) hd (by omega) ho (Nat.le_of_ble_eq_true rfl) ⟨Nat.le_of_ble_eq_true rfl, Nat.le_of_ble_eq_true rfl⟩ (fun g1 z1 a1 d1 s1 => ?_)
  refine X.aload iX4_init_12 rfl ?_
  refine X.pushi iX4_init_13 ?_
  refine mkI iX4_init_14 d1 z1 (Nat.le_of_ble_eq_true rfl) (fun g2 z2 d2 s2 => ?_)
  exact X.vret iX4_init_17 ⟨rfl, ⟨z2, by rw [s2 _ (by omega)]; exact a1⟩, d2, fun i hi => by rw [s2 _ (by omega), s1 _ (by omega) (by omega)]⟩
def V0 (H : Nat) : Hi := (Hi.mk (fun k => H + 2 + 3 * k) (fun _ => M0) 0)
theorem V0_ps (H : Nat) : PS H (V0 H).ps := by
  refine ⟨fun k hk => ⟨k, hk, rfl⟩, fun j hj => ⟨j, hj, rfl⟩, fun i k _ _ e => ?_⟩
  have e : H + 2 + 3 * i = H + 2 + 3 * k := e
  omega
theorem c_X1_init {d H : Nat} {h : XH} (hd : XDom h (H + 1)) (ho : h H = some (.inr (1, [.null, .int 0]))) (hlt : H < 900) : MetX mX1_init (d + 2, 25, 144) [.ref H] h (fun v h' => v = none ∧ IsH h' H (V0 H) ∧ XDom h' (H + 26) ∧ ∀ i, i < H → h' i = h i) := by
  have P : ∀ k, k ≤ 8 → ∀ (g : XH) (f : Nat → Option Nat), g H = some (.inr (1, [.ref (H + 1), .int 0])) → g (H + 1) = some (.inl (.object RX2, 8, .inr (.inr (.inr (.inr f))))) → (∀ i, i < k → f i = some (H + 2 + 3 * i)) → (∀ i, i < k → IsM g (H + 2 + 3 * i) M0) → XDom g (H + 2 + 3 * k) → (∀ i, i < H → g i = h i) → X xT mX1_init (xR (d + 2, 25, 144)) (1 + 3 * k, 8 + 17 * k) 15 [some (.ref H), some (.int (nI k))] [] g (fun v h' => v = none ∧ IsH h' H (V0 H) ∧ XDom h' (H + 26) ∧ ∀ i, i < H → h' i = h i) := by
    refine xloop 8 ?_ ?_
    · intro g f z0 z1 hf hm dg sg
      refine X.iload iX1_init_15 rfl ?_
      refine X.pushi (v := nI 8) iX1_init_16 ?_
      refine X.cmge iX1_init_18 (fun c => ?_) (fun c => absurd (Int32.le_refl _) c)
      refine X.aext (g := fun i => some (H + 2 + 3 * i)) z1 (fun i hi => hf i hi) ?_
      refine X.vret iX1_init_40 ⟨rfl, ⟨?_, ?_, fun k hk => ?_⟩, dg.put z1, fun i hi => ?_⟩
      · rw [xup_ne _ _ (by omega)]
        exact z0
      · exact xup_eq _ _ _
      · exact IsM.fr (hm k hk) (fun i a b => xup_ne _ _ (by have : H + 2 + 3 * k ≤ i := a; omega))
      · rw [xup_ne _ _ (by omega)]
        exact sg i hi
    · intro k hk ih g f z0 z1 hf hm dg sg
      refine X.iload iX1_init_15 rfl ?_
      refine X.pushi (v := nI 8) iX1_init_16 ?_
      refine X.cmge iX1_init_18 (fun c => absurd c (nI_ge hk (by decide))) (fun c => ?_)
      refine X.aload iX1_init_21 rfl ?_
      refine X.getf iX1_init_22 z0 rfl ?_
      refine X.iload iX1_init_25 rfl ?_
      refine X.new iX1_init_26 dg (by omega) ⟨by show 1 + 3 * k + 1 ≤ 25; omega, by show 8 + 17 * k + 7 ≤ 144; omega⟩ ?_
      refine X.dupa iX1_init_29 ?_
      refine X.callI (S0 := [.ref (H + 2 + 3 * k), .int (nI k), .ref (H + 1)]) iX1_init_30 (c_X2_init (d := d) dg.push (xup_eq _ _ _) (by omega)) rfl rfl (xfit _ _ _) (Nat.le_of_ble_eq_true rfl) ⟨by show 1 + 3 * k + 1 + 2 ≤ 25; omega, by show 8 + 17 * k + 7 + 10 ≤ 144; omega⟩ ?_
      intro v g1 hq
      obtain ⟨rfl, p1, d1, s1⟩ := hq
      have y0 : g1 H = some (.inr (1, [.ref (H + 1), .int 0])) := by rw [s1 _ (by omega), xup_ne _ _ (by omega)]; exact z0
      have y1 : g1 (H + 1) = some (.inl (.object RX2, 8, .inr (.inr (.inr (.inr f))))) := by rw [s1 _ (by omega), xup_ne _ _ (by omega)]; exact z1
      refine X.aast (ci := 2) (r := (RX2, TX2, 7)) iX1_init_33 (Or.inl rfl) rfl y1 p1.1 (vp_inN hk (by decide)) ?_
      refine X.iinc iX1_init_34 rfl rfl rfl ?_
      refine X.goto iX1_init_37 ?_
      refine X.kap (κ' := (1 + 3 * (k + 1), 8 + 17 * (k + 1))) (Prod.ext (by show 1 + 3 * k + 1 + 2 = 1 + 3 * (k + 1); omega) (by show 8 + 17 * k + 7 + 10 = 8 + 17 * (k + 1); omega)) ?_
      rw [nI_clamp (show k < 2 ^ 31 by omega), show nI k + 1 = nI (k + 1) from nI_1 k]
      refine ih _ _ ?_ (xup_eq _ _ _) (fun i hi => ?_) (fun i hi => ?_) ?_ (fun i hi => ?_)
      · rw [xup_ne _ _ (by omega)]
        exact y0
      · unfold va_up
        by_cases e : i = k
        · rw [if_pos e, e]
        · rw [if_neg e]
          exact hf i (by omega)
      · by_cases e : i = k
        · rw [e]
          exact IsM.fr p1 (fun i a b => xup_ne _ _ (by omega))
        · exact IsM.fr (hm i (by omega)) (fun j a b => by rw [xup_ne _ _ (by omega), s1 _ (by omega), xup_ne _ _ (by omega)])
      · rw [show H + 2 + 3 * (k + 1) = H + 2 + 3 * k + 3 by omega]
        exact d1.put y1
      · rw [xup_ne _ _ (by omega), s1 _ (by omega), xup_ne _ _ (by omega)]
        exact sg i hi
  refine MetX.of (by decide) rfl (Nat.le_of_ble_eq_true rfl) ?_
  refine X.aload iX1_init_0 rfl ?_
  refine X.objInit iX1_init_1 (xfit0 _ _ _) (Nat.le_of_ble_eq_true rfl) ?_
  refine X.aload iX1_init_4 rfl ?_
  refine X.pushi (v := nI 8) iX1_init_5 ?_
  refine mkQ (M := 8) iX1_init_7 iX1_init_10 (by decide) (by decide) (by decide) hd (by omega) ho (Nat.le_of_ble_eq_true rfl) ⟨Nat.le_of_ble_eq_true rfl, Nat.le_of_ble_eq_true rfl⟩ (fun g1 z1 a1 d1 s1 => ?_)
  refine X.pushi (v := nI 0) iX1_init_13 ?_
  refine X.istore iX1_init_14 rfl rfl ?_
  exact P 0 (Nat.zero_le _) g1 _ z1 a1 (fun i hi => absurd hi (Nat.not_lt_zero _)) (fun i hi => absurd hi (Nat.not_lt_zero _)) d1 (fun i hi => s1 i (by omega) (by omega))
