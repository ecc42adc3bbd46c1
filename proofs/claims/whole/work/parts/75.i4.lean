/-! constructors of the class and of the reference -/
abbrev bl6 : List Value := [.null, .null, .null, .null, .int 0, .null, .null, .null, .null, .null]
theorem c_X6_init {d : Nat} {h : XH} (hd : XDom h 1) (ho : h 0 = some (.inr (6, bl6))) : MetX mX6_init (d + 3, 97, 778) [.ref 0] h (fun v h' => v = none ∧ CI h' O0 M0 (V0 10) O0 M0 (V0 45) false T0 (fun _ => S0s) ∧ XDom h' 98) := by
  refine MetX.of (by decide) rfl (Nat.le_of_ble_eq_true rfl) ?_
  refine X.aload iX6_init_0 rfl ?_
  refine X.objInit iX6_init_1 (xfit0 _ _ _) (Nat.le_of_ble_eq_true rfl) ?_
  refine X.aload iX6_init_4 rfl ?_
  refine mkO (P := (fun g => IsO g 1 O0 ∧ IsM g (1 + 6) M0)) iX6_init_5 iX6_init_8 iX6_init_9 iX6_init_12 hd (by decide) ho (Nat.le_of_ble_eq_true rfl) ⟨Nat.le_of_ble_eq_true rfl, Nat.le_of_ble_eq_true rfl⟩ (fun g hg hn => c_X3_init (d := d) hg hn (by decide)) (xfit _ _ _) (Nat.le_of_ble_eq_true rfl) ⟨Nat.le_of_ble_eq_true rfl, Nat.le_of_ble_eq_true rfl⟩ (fun g g' p q => ⟨IsO.fr p.1 (fun i x y => q i (by omega)), IsM.fr p.2 (fun i x y => q i (by omega))⟩) (fun g1 z1 p1 d1 s1 => ?_)
  refine X.aload iX6_init_15 rfl ?_
  refine mkO (P := (fun g => IsH g 10 (V0 10))) iX6_init_16 iX6_init_19 iX6_init_20 iX6_init_23 d1 (by decide) z1 (Nat.le_of_ble_eq_true rfl) ⟨Nat.le_of_ble_eq_true rfl, Nat.le_of_ble_eq_true rfl⟩ (fun g hg hn => c_X1_init (d := d) hg hn (by decide)) (xfit _ _ _) (Nat.le_of_ble_eq_true rfl) ⟨Nat.le_of_ble_eq_true rfl, Nat.le_of_ble_eq_true rfl⟩ (fun g g' p q => IsH.fr p (V0_ps 10) (fun i x y => q i (by omega))) (fun g2 z2 p2 d2 s2 => ?_)
  refine X.aload iX6_init_26 rfl ?_
  refine mkO (P := (fun g => IsO g 36 O0 ∧ IsM g (36 + 6) M0)) iX6_init_27 iX6_init_30 iX6_init_31 iX6_init_34 d2 (by decide) z2 (Nat.le_of_ble_eq_true rfl) ⟨Nat.le_of_ble_eq_true rfl, Nat.le_of_ble_eq_true rfl⟩ (fun g hg hn => c_X3_init (d := d) hg hn (by decide)) (xfit _ _ _) (Nat.le_of_ble_eq_true rfl) ⟨Nat.le_of_ble_eq_true rfl, Nat.le_of_ble_eq_true rfl⟩ (fun g g' p q => ⟨IsO.fr p.1 (fun i x y => q i (by omega)), IsM.fr p.2 (fun i x y => q i (by omega))⟩) (fun g3 z3 p3 d3 s3 => ?_)
  refine X.aload iX6_init_37 rfl ?_
  refine mkO (P := (fun g => IsH g 45 (V0 45))) iX6_init_38 iX6_init_41 iX6_init_42 iX6_init_45 d3 (by decide) z3 (Nat.le_of_ble_eq_true rfl) ⟨Nat.le_of_ble_eq_true rfl, Nat.le_of_ble_eq_true rfl⟩ (fun g hg hn => c_X1_init (d := d) hg hn (by decide)) (xfit _ _ _) (Nat.le_of_ble_eq_true rfl) ⟨Nat.le_of_ble_eq_true rfl, Nat.le_of_ble_eq_true rfl⟩ (fun g g' p q => IsH.fr p (V0_ps 45) (fun i x y => q i (by omega))) (fun g4 z4 p4 d4 s4 => ?_)
  refine X.aload iX6_init_48 rfl ?_
  refine mkO (P := (fun g => IsT g 71 T0)) iX6_init_49 iX6_init_52 iX6_init_53 iX6_init_56 d4 (by decide) z4 (Nat.le_of_ble_eq_true rfl) ⟨Nat.le_of_ble_eq_true rfl, Nat.le_of_ble_eq_true rfl⟩ (fun g hg hn => c_X5_init (d := d + 1) hg hn (by decide)) (xfit _ _ _) (Nat.le_of_ble_eq_true rfl) ⟨Nat.le_of_ble_eq_true rfl, Nat.le_of_ble_eq_true rfl⟩ (fun g g' p q => IsT.fr p (fun i x y => q i (by omega))) (fun g5 z5 p5 d5 s5 => ?_)
  refine X.aload iX6_init_59 rfl ?_
  refine mkO (P := (fun g => IsO g 73 O0 ∧ IsM g (73 + 6) M0)) iX6_init_60 iX6_init_63 iX6_init_64 iX6_init_67 d5 (by decide) z5 (Nat.le_of_ble_eq_true rfl) ⟨Nat.le_of_ble_eq_true rfl, Nat.le_of_ble_eq_true rfl⟩ (fun g hg hn => c_X3_init (d := d) hg hn (by decide)) (xfit _ _ _) (Nat.le_of_ble_eq_true rfl) ⟨Nat.le_of_ble_eq_true rfl, Nat.le_of_ble_eq_true rfl⟩ (fun g g' p q => ⟨IsO.fr p.1 (fun i x y => q i (by omega)), IsM.fr p.2 (fun i x y => q i (by omega))⟩) (fun g6 z6 p6 d6 s6 => ?_)
  refine X.aload iX6_init_70 rfl ?_
  refine mkO (P := (fun g => IsM g 82 M0)) iX6_init_71 iX6_init_74 iX6_init_75 iX6_init_78 d6 (by decide) z6 (Nat.le_of_ble_eq_true rfl) ⟨Nat.le_of_ble_eq_true rfl, Nat.le_of_ble_eq_true rfl⟩ (fun g hg hn => c_X2_init (d := d + 1) hg hn (by decide)) (xfit _ _ _) (Nat.le_of_ble_eq_true rfl) ⟨Nat.le_of_ble_eq_true rfl, Nat.le_of_ble_eq_true rfl⟩ (fun g g' p q => IsM.fr p (fun i x y => q i (by omega))) (fun g7 z7 p7 d7 s7 => ?_)
  refine X.aload iX6_init_81 rfl ?_
  refine mkO (P := (fun g => IsC g 85 C0)) iX6_init_82 iX6_init_85 iX6_init_86 iX6_init_89 d7 (by decide) z7 (Nat.le_of_ble_eq_true rfl) ⟨Nat.le_of_ble_eq_true rfl, Nat.le_of_ble_eq_true rfl⟩ (fun g hg hn => c_X0_init (d := d + 1) hg hn (by decide)) (xfit _ _ _) (Nat.le_of_ble_eq_true rfl) ⟨Nat.le_of_ble_eq_true rfl, Nat.le_of_ble_eq_true rfl⟩ (fun g g' p q => IsC.fr p (fun i x y => q i (by omega))) (fun g8 z8 p8 d8 s8 => ?_)
  refine X.aload iX6_init_92 rfl ?_
  refine X.pushi (v := nI 4) iX6_init_93 ?_
  refine mkQ (M := 4) iX6_init_94 iX6_init_97 (by decide) (by decide) (by decide) d8 (by decide) z8 (Nat.le_of_ble_eq_true rfl) ⟨Nat.le_of_ble_eq_true rfl, Nat.le_of_ble_eq_true rfl⟩ (fun g9 z9 a9 d9 s9 => ?_)
  have P : ∀ k, k ≤ 4 → ∀ (g : XH) (f : Nat → Option Nat), g 0 = some (.inr (6, xfs false)) → g 89 = some (.inl (.object RX4, 4, .inr (.inr (.inr (.inr f))))) → (∀ i, i < k → f i = some (90 + 2 * i)) → (∀ i, i < k → IsS g (90 + 2 * i) S0s) → XDom g (90 + 2 * k) → (∀ i, 0 < i → i < 89 → g i = g9 i) → X xT mX6_init (xR (d + 3, 97, 778)) (89 + 2 * k, 670 + 27 * k) 102 [some (.ref 0), some (.int (nI k))] [] g (fun v h' => v = none ∧ CI h' O0 M0 (V0 10) O0 M0 (V0 45) false T0 (fun _ => S0s) ∧ XDom h' 98) := by
    refine xloop 4 ?_ ?_
    · intro g f y0 y1 hf hm dg sg
      have e8 : ∀ i, 0 < i → i < 89 → g i = g8 i := fun i h1 h2 => (sg i h1 h2).trans (s9 i (by omega) (by omega))
      have e7 : ∀ i, 0 < i → i < 85 → g i = g7 i := fun i h1 h2 => (e8 i h1 (by omega)).trans (s8 i h2 (by omega))
      have e6 : ∀ i, 0 < i → i < 82 → g i = g6 i := fun i h1 h2 => (e7 i h1 (by omega)).trans (s7 i h2 (by omega))
      have e5 : ∀ i, 0 < i → i < 73 → g i = g5 i := fun i h1 h2 => (e6 i h1 (by omega)).trans (s6 i h2 (by omega))
      have e4 : ∀ i, 0 < i → i < 71 → g i = g4 i := fun i h1 h2 => (e5 i h1 (by omega)).trans (s5 i h2 (by omega))
      have e3 : ∀ i, 0 < i → i < 45 → g i = g3 i := fun i h1 h2 => (e4 i h1 (by omega)).trans (s4 i h2 (by omega))
      have e2 : ∀ i, 0 < i → i < 36 → g i = g2 i := fun i h1 h2 => (e3 i h1 (by omega)).trans (s3 i h2 (by omega))
      have e1 : ∀ i, 0 < i → i < 10 → g i = g1 i := fun i h1 h2 => (e2 i h1 (by omega)).trans (s2 i h2 (by omega))
      refine X.iload iX6_init_102 rfl ?_
      refine X.pushi (v := nI 4) iX6_init_103 ?_
      refine X.cmge iX6_init_104 (fun c => ?_) (fun c => absurd (Int32.le_refl _) c)
      exact X.vret iX6_init_126 ⟨rfl, ⟨y0, IsO.fr p1.1 (fun i a b => e1 i (by omega) (by omega)), IsM.fr p1.2 (fun i a b => e1 i (by omega) (by omega)), IsH.fr p2 (V0_ps 10) (fun i a b => e2 i (by omega) (by omega)), IsO.fr p3.1 (fun i a b => e3 i (by omega) (by omega)), IsM.fr p3.2 (fun i a b => e3 i (by omega) (by omega)), IsH.fr p4 (V0_ps 45) (fun i a b => e4 i (by omega) (by omega)), IsT.fr p5 (fun i a b => e5 i (by omega) (by omega)), ⟨O0, IsO.fr p6.1 (fun i a b => e6 i (by omega) (by omega))⟩, ⟨M0, IsM.fr p6.2 (fun i a b => e6 i (by omega) (by omega)), rfl, rfl, rfl, rfl⟩, ⟨M0, IsM.fr p7 (fun i a b => e7 i (by omega) (by omega))⟩, ⟨C0, IsC.fr p8 (fun i a b => e8 i (by omega) (by omega))⟩, ⟨f, y1, hf⟩, hm, V0_ps 10, V0_ps 45⟩, dg⟩
    · intro k hk ih g f y0 y1 hf hm dg sg
      refine X.iload iX6_init_102 rfl ?_
      refine X.pushi (v := nI 4) iX6_init_103 ?_
      refine X.cmge iX6_init_104 (fun c => absurd c (nI_ge hk (by decide))) (fun c => ?_)
      refine X.aload iX6_init_107 rfl ?_
      refine X.getf iX6_init_108 y0 rfl ?_
      refine X.iload iX6_init_111 rfl ?_
      refine X.new iX6_init_112 dg (by omega) ⟨by show 89 + 2 * k + 1 ≤ 97; omega, by show 670 + 27 * k + 3 ≤ 778; omega⟩ ?_
      refine X.dupa iX6_init_115 ?_
      refine X.callI (S0 := [.ref (90 + 2 * k), .int (nI k), .ref 89]) iX6_init_116 (c_X4_init (d := d + 1) dg.push (xup_eq _ _ _) (by omega)) rfl rfl (xfit _ _ _) (Nat.le_of_ble_eq_true rfl) ⟨by show 89 + 2 * k + 1 + 1 ≤ 97; omega, by show 670 + 27 * k + 3 + 24 ≤ 778; omega⟩ ?_
      intro v g1 hq
      obtain ⟨rfl, q1, f1, t1⟩ := hq
      have x0 : g1 0 = some (.inr (6, xfs false)) := by rw [t1 _ (by omega), xup_ne _ _ (by omega)]; exact y0
      have x1 : g1 89 = some (.inl (.object RX4, 4, .inr (.inr (.inr (.inr f))))) := by rw [t1 _ (by omega), xup_ne _ _ (by omega)]; exact y1
      refine X.aast (ci := 4) (r := (RX4, TX4, 3)) iX6_init_119 (Or.inr rfl) rfl x1 q1.1 (vp_inN hk (by decide)) ?_
      refine X.iinc iX6_init_120 rfl rfl rfl ?_
      refine X.goto iX6_init_123 ?_
      refine X.kap (κ' := (89 + 2 * (k + 1), 670 + 27 * (k + 1))) (Prod.ext (by show 89 + 2 * k + 1 + 1 = 89 + 2 * (k + 1); omega) (by show 670 + 27 * k + 3 + 24 = 670 + 27 * (k + 1); omega)) ?_
      rw [nI_clamp (show k < 2 ^ 31 by omega), show nI k + 1 = nI (k + 1) from nI_1 k]
      refine ih _ _ ?_ (xup_eq _ _ _) (fun i hi => ?_) (fun i hi => ?_) ?_ (fun i h1 h2 => ?_)
      · rw [xup_ne _ _ (by omega)]
        exact x0
      · unfold va_up
        by_cases e : i = k
        · rw [if_pos e, e]
        · rw [if_neg e]
          exact hf i (by omega)
      · by_cases e : i = k
        · rw [e]
          exact IsS.fr q1 (fun i a b => xup_ne _ _ (by omega))
        · exact IsS.fr (hm i (by omega)) (fun j a b => by rw [xup_ne _ _ (by omega), t1 _ (by omega), xup_ne _ _ (by omega)])
      · rw [show 90 + 2 * (k + 1) = 90 + 2 * k + 2 by omega]
        exact f1.put x1
      · rw [xup_ne _ _ (by omega), t1 _ (by omega), xup_ne _ _ (by omega)]
        exact sg i h1 h2
  refine X.pushi (v := nI 0) iX6_init_100 ?_
  refine X.istore iX6_init_101 rfl rfl ?_
  exact P 0 (Nat.zero_le _) g9 _ z9 a9 (fun i hi => absurd hi (Nat.not_lt_zero _)) (fun i hi => absurd hi (Nat.not_lt_zero _)) d9 (fun i _ _ => rfl)
abbrev bl7 : List Value := [.null, .null, .int 0, .int 0, .int 0, .null, .null, .null, .int 0, .null, .null, .int 0, .int 0, .null, .null, .null, .null]
def nw0 : Nat → Int32 := upd (upd (upd (fun _ => 0) 6 (nI 5)) 7 (nI 1)) 8 (nI 1)
theorem c_X7_init {d : Nat} {h : XH} (hd : XDom h 99) (ho : h 98 = some (.inr (7, bl7))) : MetX mX7_init (d + 1, 11, 621) [.ref 98] h (fun v h' => v = none ∧ h' = mh h' nw0 (fun _ => 0) (fun _ => 0) (fun _ => 0) (fun _ => 0) (fun _ => 0) (fun _ => 0) (cp (fun _ => -1) (fun _ => 0) 4) (fun _ => 0) (fun _ => 0) (fun _ => 0) 0 0 false 0 0 false ∧ ∀ i, i < 98 → h' i = h i) := by
  refine MetX.of (by decide) rfl (Nat.le_of_ble_eq_true rfl) ?_
  refine X.aload iX7_init_0 rfl ?_
  refine X.objInit iX7_init_1 (xfit0 _ _ _) (Nat.le_of_ble_eq_true rfl) ?_
  refine X.aload iX7_init_4 rfl ?_
  refine X.pushi (v := nI 43) iX7_init_5 ?_
  refine mkA (M := 43) iX7_init_7 iX7_init_9 (by decide) (by decide) (by decide) hd (by decide) ho (Nat.le_of_ble_eq_true rfl) ⟨Nat.le_of_ble_eq_true rfl, Nat.le_of_ble_eq_true rfl⟩ (fun g1 z1 a1 d1 s1 => ?_)
  refine X.aload iX7_init_12 rfl ?_
  refine X.pushi (v := nI 90) iX7_init_13 ?_
  refine mkA (M := 90) iX7_init_15 iX7_init_17 (by decide) (by decide) (by decide) d1 (by decide) z1 (Nat.le_of_ble_eq_true rfl) ⟨Nat.le_of_ble_eq_true rfl, Nat.le_of_ble_eq_true rfl⟩ (fun g2 z2 a2 d2 s2 => ?_)
  refine X.aload iX7_init_20 rfl ?_
  refine X.pushi (v := nI 18) iX7_init_21 ?_
  refine mkA (M := 18) iX7_init_23 iX7_init_25 (by decide) (by decide) (by decide) d2 (by decide) z2 (Nat.le_of_ble_eq_true rfl) ⟨Nat.le_of_ble_eq_true rfl, Nat.le_of_ble_eq_true rfl⟩ (fun g3 z3 a3 d3 s3 => ?_)
  refine X.aload iX7_init_28 rfl ?_
  refine X.pushi (v := nI 16) iX7_init_29 ?_
  refine mkA (M := 16) iX7_init_31 iX7_init_33 (by decide) (by decide) (by decide) d3 (by decide) z3 (Nat.le_of_ble_eq_true rfl) ⟨Nat.le_of_ble_eq_true rfl, Nat.le_of_ble_eq_true rfl⟩ (fun g4 z4 a4 d4 s4 => ?_)
  refine X.aload iX7_init_36 rfl ?_
  refine X.pushi (v := nI 120) iX7_init_37 ?_
  refine mkA (M := 120) iX7_init_39 iX7_init_41 (by decide) (by decide) (by decide) d4 (by decide) z4 (Nat.le_of_ble_eq_true rfl) ⟨Nat.le_of_ble_eq_true rfl, Nat.le_of_ble_eq_true rfl⟩ (fun g5 z5 a5 d5 s5 => ?_)
  refine X.aload iX7_init_44 rfl ?_
  refine X.pushi (v := nI 43) iX7_init_45 ?_
  refine mkA (M := 43) iX7_init_47 iX7_init_49 (by decide) (by decide) (by decide) d5 (by decide) z5 (Nat.le_of_ble_eq_true rfl) ⟨Nat.le_of_ble_eq_true rfl, Nat.le_of_ble_eq_true rfl⟩ (fun g6 z6 a6 d6 s6 => ?_)
  refine X.aload iX7_init_52 rfl ?_
  refine X.pushi (v := nI 163) iX7_init_53 ?_
  refine mkA (M := 163) iX7_init_56 iX7_init_58 (by decide) (by decide) (by decide) d6 (by decide) z6 (Nat.le_of_ble_eq_true rfl) ⟨Nat.le_of_ble_eq_true rfl, Nat.le_of_ble_eq_true rfl⟩ (fun g7 z7 a7 d7 s7 => ?_)
  refine X.aload iX7_init_61 rfl ?_
  refine X.pushi (v := nI 4) iX7_init_62 ?_
  refine mkA (M := 4) iX7_init_63 iX7_init_65 (by decide) (by decide) (by decide) d7 (by decide) z7 (Nat.le_of_ble_eq_true rfl) ⟨Nat.le_of_ble_eq_true rfl, Nat.le_of_ble_eq_true rfl⟩ (fun g8 z8 a8 d8 s8 => ?_)
  refine X.aload iX7_init_68 rfl ?_
  refine X.pushi (v := nI 4) iX7_init_69 ?_
  refine mkA (M := 4) iX7_init_70 iX7_init_72 (by decide) (by decide) (by decide) d8 (by decide) z8 (Nat.le_of_ble_eq_true rfl) ⟨Nat.le_of_ble_eq_true rfl, Nat.le_of_ble_eq_true rfl⟩ (fun g9 z9 a9 d9 s9 => ?_)
  refine X.aload iX7_init_75 rfl ?_
  refine X.pushi (v := nI 96) iX7_init_76 ?_
  refine mkL (M := 96) iX7_init_78 iX7_init_80 (by decide) (by decide) (by decide) d9 (by decide) z9 (Nat.le_of_ble_eq_true rfl) ⟨Nat.le_of_ble_eq_true rfl, Nat.le_of_ble_eq_true rfl⟩ (fun g10 z10 a10 d10 s10 => ?_)
  refine X.aload iX7_init_83 rfl ?_
  refine X.pushi (v := nI 24) iX7_init_84 ?_
  refine mkL (M := 24) iX7_init_86 iX7_init_88 (by decide) (by decide) (by decide) d10 (by decide) z10 (Nat.le_of_ble_eq_true rfl) ⟨Nat.le_of_ble_eq_true rfl, Nat.le_of_ble_eq_true rfl⟩ (fun g11 z11 a11 d11 s11 => ?_)
  have b1 : g11 99 = some (IA 43 (fun _ => 0)) := by rw [s11 _ (by omega) (by omega), s10 _ (by omega) (by omega), s9 _ (by omega) (by omega), s8 _ (by omega) (by omega), s7 _ (by omega) (by omega), s6 _ (by omega) (by omega), s5 _ (by omega) (by omega), s4 _ (by omega) (by omega), s3 _ (by omega) (by omega), s2 _ (by omega) (by omega)]; exact a1
  have b2 : g11 100 = some (IA 90 (fun _ => 0)) := by rw [s11 _ (by omega) (by omega), s10 _ (by omega) (by omega), s9 _ (by omega) (by omega), s8 _ (by omega) (by omega), s7 _ (by omega) (by omega), s6 _ (by omega) (by omega), s5 _ (by omega) (by omega), s4 _ (by omega) (by omega), s3 _ (by omega) (by omega)]; exact a2
  have b3 : g11 101 = some (IA 18 (fun _ => 0)) := by rw [s11 _ (by omega) (by omega), s10 _ (by omega) (by omega), s9 _ (by omega) (by omega), s8 _ (by omega) (by omega), s7 _ (by omega) (by omega), s6 _ (by omega) (by omega), s5 _ (by omega) (by omega), s4 _ (by omega) (by omega)]; exact a3
  have b4 : g11 102 = some (IA 16 (fun _ => 0)) := by rw [s11 _ (by omega) (by omega), s10 _ (by omega) (by omega), s9 _ (by omega) (by omega), s8 _ (by omega) (by omega), s7 _ (by omega) (by omega), s6 _ (by omega) (by omega), s5 _ (by omega) (by omega)]; exact a4
  have b5 : g11 103 = some (IA 120 (fun _ => 0)) := by rw [s11 _ (by omega) (by omega), s10 _ (by omega) (by omega), s9 _ (by omega) (by omega), s8 _ (by omega) (by omega), s7 _ (by omega) (by omega), s6 _ (by omega) (by omega)]; exact a5
  have b6 : g11 104 = some (IA 43 (fun _ => 0)) := by rw [s11 _ (by omega) (by omega), s10 _ (by omega) (by omega), s9 _ (by omega) (by omega), s8 _ (by omega) (by omega), s7 _ (by omega) (by omega)]; exact a6
  have b7 : g11 105 = some (IA 163 (fun _ => 0)) := by rw [s11 _ (by omega) (by omega), s10 _ (by omega) (by omega), s9 _ (by omega) (by omega), s8 _ (by omega) (by omega)]; exact a7
  have b8 : g11 106 = some (IA 4 (fun _ => 0)) := by rw [s11 _ (by omega) (by omega), s10 _ (by omega) (by omega), s9 _ (by omega) (by omega)]; exact a8
  have b9 : g11 107 = some (IA 4 (fun _ => 0)) := by rw [s11 _ (by omega) (by omega), s10 _ (by omega) (by omega)]; exact a9
  have b10 : g11 108 = some (LA 96 (fun _ => 0)) := by rw [s11 _ (by omega) (by omega)]; exact a10
  have b11 : g11 109 = some (LA 24 (fun _ => 0)) := a11
  have b0 : ∀ i, i < 98 → g11 i = h i := fun i hi => by rw [s11 _ (by omega) (by omega), s10 _ (by omega) (by omega), s9 _ (by omega) (by omega), s8 _ (by omega) (by omega), s7 _ (by omega) (by omega), s6 _ (by omega) (by omega), s5 _ (by omega) (by omega), s4 _ (by omega) (by omega), s3 _ (by omega) (by omega), s2 _ (by omega) (by omega), s1 _ (by omega) (by omega)]
  refine X.aload iX7_init_91 rfl ?_
  refine X.getf iX7_init_92 z11 rfl ?_
  refine X.pushi (v := nI 6) iX7_init_95 ?_
  refine X.pushi (v := nI 5) iX7_init_97 ?_
  refine X.iastN iX7_init_98 b1 (by decide) (by decide) ?_
  refine X.aload iX7_init_99 rfl ?_
  refine X.getf (fs := mfs 0 0 false 0 0 false) iX7_init_100 (by rw [xup_ne _ _ (by decide)]; exact z11) rfl ?_
  refine X.pushi (v := nI 7) iX7_init_103 ?_
  refine X.pushi (v := nI 1) iX7_init_105 ?_
  refine X.iastN iX7_init_106 (xup_eq _ _ _) (by decide) (by decide) ?_
  refine X.aload iX7_init_107 rfl ?_
  refine X.getf (fs := mfs 0 0 false 0 0 false) iX7_init_108 (by rw [xup_xup, xup_ne _ _ (by decide)]; exact z11) rfl ?_
  refine X.pushi (v := nI 8) iX7_init_111 ?_
  refine X.pushi (v := nI 1) iX7_init_113 ?_
  refine X.iastN iX7_init_114 (xup_eq _ _ _) (by decide) (by decide) ?_
  refine X.heap (h' := xup g11 99 (IA 43 nw0)) (by rw [xup_xup, xup_xup]; rfl) ?_
  refine X.pushi (v := nI 0) iX7_init_115 ?_
  refine X.istore iX7_init_116 rfl rfl ?_
  have P : ∀ k, k ≤ 4 → X xT mX7_init (xR (d + 1, 11, 621)) (11, 621) 117 [some (.ref 98), some (.int (nI k))] [] (xup (xup g11 99 (IA 43 nw0)) 106 (IA 4 (cp (fun _ => -1) (fun _ => 0) k))) (fun v h' => v = none ∧ h' = mh h' nw0 (fun _ => 0) (fun _ => 0) (fun _ => 0) (fun _ => 0) (fun _ => 0) (fun _ => 0) (cp (fun _ => -1) (fun _ => 0) 4) (fun _ => 0) (fun _ => 0) (fun _ => 0) 0 0 false 0 0 false ∧ ∀ i, i < 98 → h' i = h i) := by
    refine xloop 4 ?_ ?_
    · refine X.iload iX7_init_117 rfl ?_
      refine X.pushi (v := nI 4) iX7_init_118 ?_
      refine X.cmge iX7_init_119 (fun c => ?_) (fun c => absurd (Int32.le_refl _) c)
      refine X.vret iX7_init_135 ⟨rfl, mh_ext ?_ ?_ ?_ ?_ ?_ ?_ ?_ ?_ ?_ ?_ ?_ ?_ (fun i hi => (mh_lo _ _ _ _ _ _ _ _ _ _ _ _ _ _ _ _ _ _ hi).symm) (fun i hi => (mh_hi _ _ _ _ _ _ _ _ _ _ _ _ _ _ _ _ _ _ hi).symm), fun i hi => ?_⟩
      · rw [xup_ne _ _ (by decide), xup_ne _ _ (by decide)]
        exact z11
      · rw [xup_ne _ _ (by decide), xup_eq]
        rfl
      · rw [xup_ne _ _ (by decide), xup_ne _ _ (by decide)]
        exact b2
      · rw [xup_ne _ _ (by decide), xup_ne _ _ (by decide)]
        exact b3
      · rw [xup_ne _ _ (by decide), xup_ne _ _ (by decide)]
        exact b4
      · rw [xup_ne _ _ (by decide), xup_ne _ _ (by decide)]
        exact b5
      · rw [xup_ne _ _ (by decide), xup_ne _ _ (by decide)]
        exact b6
      · rw [xup_ne _ _ (by decide), xup_ne _ _ (by decide)]
        exact b7
      · rw [xup_eq]
        rfl
      · rw [xup_ne _ _ (by decide), xup_ne _ _ (by decide)]
        exact b9
      · rw [xup_ne _ _ (by decide), xup_ne _ _ (by decide)]
        exact b10
      · rw [xup_ne _ _ (by decide), xup_ne _ _ (by decide)]
        exact b11
      · rw [xup_ne _ _ (by omega), xup_ne _ _ (by omega)]
        exact b0 i hi
    · intro k hk ih
      refine X.iload iX7_init_117 rfl ?_
      refine X.pushi (v := nI 4) iX7_init_118 ?_
      refine X.cmge iX7_init_119 (fun c => absurd c (nI_ge hk (by decide))) (fun c => ?_)
      refine X.aload iX7_init_122 rfl ?_
      refine X.getf (fs := mfs 0 0 false 0 0 false) iX7_init_123 (by rw [xup_ne _ _ (by decide), xup_ne _ _ (by decide)]; exact z11) rfl ?_
      refine X.iload iX7_init_126 rfl ?_
      refine X.pushi iX7_init_127 ?_
      refine X.iastN iX7_init_128 (xup_eq _ _ _) (by omega) (by decide) ?_
      refine X.iinc iX7_init_129 rfl rfl rfl ?_
      refine X.goto iX7_init_132 ?_
      rw [show nI k + 1 = nI (k + 1) from nI_1 k, xup_xup]
      refine X.heap ?_ ih
      rw [← cp_s (fun _ => -1)]
  have p0 := P 0 (Nat.zero_le _)
  rw [cp_0, xup_self (xup g11 99 (IA 43 nw0)) (by rw [xup_ne _ _ (by decide)]; exact b8)] at p0
  exact p0
