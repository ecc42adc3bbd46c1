section
-- ===== PART A: goes FIRST, ahead of the names: the tables' words, and 'selects' of the private methods out of them =====
/-- a private method of a class that the tables say can be made, by its rows of tables_1 -/
def lw_okq (q : MethodName × Nat) : Prop := (q.1.cls ≠ "java/lang/invoke/MethodHandle" ∧ q.1.cls ≠ "java/lang/invoke/VarHandle") ∧ Cond.instantiable q.1.cls q.2 ∈ tables_1 ∧ Cond.privateMethod q.1 ∈ tables_1 ∧ Cond.instanceMethod q.1 ∈ tables_1
theorem lw_p0 : lw_okq (⟨"OrchardLadders", "leavesSo", "(IILOrchardLadders$Sheet;II)Z"⟩, 10) := ⟨⟨by decide +kernel, by decide +kernel⟩, List.mem_of_getElem? (i := 13) (by decide +kernel), List.mem_of_getElem? (i := 575) (by decide +kernel), List.mem_of_getElem? (i := 576) (by decide +kernel)⟩
theorem lw_p1 : lw_okq (⟨"OrchardLaddersModel", "treeComes", "(III)V"⟩, 17) := ⟨⟨by decide +kernel, by decide +kernel⟩, List.mem_of_getElem? (i := 609) (by decide +kernel), List.mem_of_getElem? (i := 676) (by decide +kernel), List.mem_of_getElem? (i := 677) (by decide +kernel)⟩
theorem lw_p2 : lw_okq (⟨"OrchardLaddersModel", "ladderComes", "(IIII)V"⟩, 17) := ⟨⟨by decide +kernel, by decide +kernel⟩, List.mem_of_getElem? (i := 609) (by decide +kernel), List.mem_of_getElem? (i := 686) (by decide +kernel), List.mem_of_getElem? (i := 687) (by decide +kernel)⟩
theorem lw_p3 : lw_okq (⟨"OrchardLaddersModel", "isTree", "(I)Z"⟩, 17) := ⟨⟨by decide +kernel, by decide +kernel⟩, List.mem_of_getElem? (i := 609) (by decide +kernel), List.mem_of_getElem? (i := 694) (by decide +kernel), List.mem_of_getElem? (i := 695) (by decide +kernel)⟩
theorem lw_p4 : lw_okq (⟨"OrchardLaddersModel", "ofTree", "(II)I"⟩, 17) := ⟨⟨by decide +kernel, by decide +kernel⟩, List.mem_of_getElem? (i := 609) (by decide +kernel), List.mem_of_getElem? (i := 698) (by decide +kernel), List.mem_of_getElem? (i := 699) (by decide +kernel)⟩
theorem lw_p5 : lw_okq (⟨"OrchardLaddersModel", "leaners", "(I)I"⟩, 17) := ⟨⟨by decide +kernel, by decide +kernel⟩, List.mem_of_getElem? (i := 609) (by decide +kernel), List.mem_of_getElem? (i := 702) (by decide +kernel), List.mem_of_getElem? (i := 703) (by decide +kernel)⟩
theorem lw_p6 : lw_okq (⟨"OrchardLaddersModel", "leansAt", "(I)I"⟩, 17) := ⟨⟨by decide +kernel, by decide +kernel⟩, List.mem_of_getElem? (i := 609) (by decide +kernel), List.mem_of_getElem? (i := 706) (by decide +kernel), List.mem_of_getElem? (i := 707) (by decide +kernel)⟩
theorem lw_p7 : lw_okq (⟨"OrchardLaddersModel", "ofLadder", "(II)I"⟩, 17) := ⟨⟨by decide +kernel, by decide +kernel⟩, List.mem_of_getElem? (i := 609) (by decide +kernel), List.mem_of_getElem? (i := 710) (by decide +kernel), List.mem_of_getElem? (i := 711) (by decide +kernel)⟩
theorem lw_p8 : lw_okq (⟨"OrchardLaddersModel", "reachers", "(IIZ)I"⟩, 17) := ⟨⟨by decide +kernel, by decide +kernel⟩, List.mem_of_getElem? (i := 609) (by decide +kernel), List.mem_of_getElem? (i := 714) (by decide +kernel), List.mem_of_getElem? (i := 715) (by decide +kernel)⟩
theorem lw_p9 : lw_okq (⟨"OrchardLaddersModel", "isReached", "(III)Z"⟩, 17) := ⟨⟨by decide +kernel, by decide +kernel⟩, List.mem_of_getElem? (i := 609) (by decide +kernel), List.mem_of_getElem? (i := 718) (by decide +kernel), List.mem_of_getElem? (i := 719) (by decide +kernel)⟩
theorem lw_p10 : lw_okq (⟨"OrchardLaddersModel", "isLadder", "(I)Z"⟩, 17) := ⟨⟨by decide +kernel, by decide +kernel⟩, List.mem_of_getElem? (i := 609) (by decide +kernel), List.mem_of_getElem? (i := 729) (by decide +kernel), List.mem_of_getElem? (i := 730) (by decide +kernel)⟩
theorem lw_p11 : lw_okq (⟨"OrchardLaddersModel", "allFruit", "()I"⟩, 17) := ⟨⟨by decide +kernel, by decide +kernel⟩, List.mem_of_getElem? (i := 609) (by decide +kernel), List.mem_of_getElem? (i := 743) (by decide +kernel), List.mem_of_getElem? (i := 744) (by decide +kernel)⟩
theorem lw_p12 : lw_okq (⟨"OrchardLaddersModel", "readTrees", "()I"⟩, 17) := ⟨⟨by decide +kernel, by decide +kernel⟩, List.mem_of_getElem? (i := 609) (by decide +kernel), List.mem_of_getElem? (i := 757) (by decide +kernel), List.mem_of_getElem? (i := 758) (by decide +kernel)⟩
theorem lw_p13 : lw_okq (⟨"OrchardLaddersModel", "here", "()I"⟩, 17) := ⟨⟨by decide +kernel, by decide +kernel⟩, List.mem_of_getElem? (i := 609) (by decide +kernel), List.mem_of_getElem? (i := 761) (by decide +kernel), List.mem_of_getElem? (i := 762) (by decide +kernel)⟩
theorem lw_p14 : lw_okq (⟨"OrchardLaddersModel", "must", "(Z)V"⟩, 17) := ⟨⟨by decide +kernel, by decide +kernel⟩, List.mem_of_getElem? (i := 609) (by decide +kernel), List.mem_of_getElem? (i := 765) (by decide +kernel), List.mem_of_getElem? (i := 766) (by decide +kernel)⟩
theorem lw_p15 : lw_okq (⟨"OrchardLaddersModel", "number", "(II)I"⟩, 17) := ⟨⟨by decide +kernel, by decide +kernel⟩, List.mem_of_getElem? (i := 609) (by decide +kernel), List.mem_of_getElem? (i := 769) (by decide +kernel), List.mem_of_getElem? (i := 770) (by decide +kernel)⟩
def lw_privs_1 : List (MethodName × Nat) := [(⟨"OrchardLadders", "leavesSo", "(IILOrchardLadders$Sheet;II)Z"⟩, 10), (⟨"OrchardLaddersModel", "treeComes", "(III)V"⟩, 17), (⟨"OrchardLaddersModel", "ladderComes", "(IIII)V"⟩, 17), (⟨"OrchardLaddersModel", "isTree", "(I)Z"⟩, 17), (⟨"OrchardLaddersModel", "ofTree", "(II)I"⟩, 17), (⟨"OrchardLaddersModel", "leaners", "(I)I"⟩, 17), (⟨"OrchardLaddersModel", "leansAt", "(I)I"⟩, 17), (⟨"OrchardLaddersModel", "ofLadder", "(II)I"⟩, 17), (⟨"OrchardLaddersModel", "reachers", "(IIZ)I"⟩, 17), (⟨"OrchardLaddersModel", "isReached", "(III)Z"⟩, 17), (⟨"OrchardLaddersModel", "isLadder", "(I)Z"⟩, 17), (⟨"OrchardLaddersModel", "allFruit", "()I"⟩, 17), (⟨"OrchardLaddersModel", "readTrees", "()I"⟩, 17), (⟨"OrchardLaddersModel", "here", "()I"⟩, 17), (⟨"OrchardLaddersModel", "must", "(Z)V"⟩, 17), (⟨"OrchardLaddersModel", "number", "(II)I"⟩, 17)]
theorem lw_r1 : ∀ q ∈ lw_privs_1, lw_okq q := List.forall_mem_cons.mpr ⟨lw_p0, List.forall_mem_cons.mpr ⟨lw_p1, List.forall_mem_cons.mpr ⟨lw_p2, List.forall_mem_cons.mpr ⟨lw_p3, List.forall_mem_cons.mpr ⟨lw_p4, List.forall_mem_cons.mpr ⟨lw_p5, List.forall_mem_cons.mpr ⟨lw_p6, List.forall_mem_cons.mpr ⟨lw_p7, List.forall_mem_cons.mpr ⟨lw_p8, List.forall_mem_cons.mpr ⟨lw_p9, List.forall_mem_cons.mpr ⟨lw_p10, List.forall_mem_cons.mpr ⟨lw_p11, List.forall_mem_cons.mpr ⟨lw_p12, List.forall_mem_cons.mpr ⟨lw_p13, List.forall_mem_cons.mpr ⟨lw_p14, List.forall_mem_cons.mpr ⟨lw_p15, fun _ h => absurd h List.not_mem_nil⟩⟩⟩⟩⟩⟩⟩⟩⟩⟩⟩⟩⟩⟩⟩⟩
theorem lw_p16 : lw_okq (⟨"OrchardLaddersModel", "sign", "(I)V"⟩, 17) := ⟨⟨by decide +kernel, by decide +kernel⟩, List.mem_of_getElem? (i := 609) (by decide +kernel), List.mem_of_getElem? (i := 775) (by decide +kernel), List.mem_of_getElem? (i := 776) (by decide +kernel)⟩
theorem lw_p17 : lw_okq (⟨"OrchardLaddersModel", "readLadders", "(I)I"⟩, 17) := ⟨⟨by decide +kernel, by decide +kernel⟩, List.mem_of_getElem? (i := 609) (by decide +kernel), List.mem_of_getElem? (i := 779) (by decide +kernel), List.mem_of_getElem? (i := 780) (by decide +kernel)⟩
theorem lw_p18 : lw_okq (⟨"OrchardLaddersModel", "digit", "(II)I"⟩, 17) := ⟨⟨by decide +kernel, by decide +kernel⟩, List.mem_of_getElem? (i := 609) (by decide +kernel), List.mem_of_getElem? (i := 783) (by decide +kernel), List.mem_of_getElem? (i := 784) (by decide +kernel)⟩
theorem lw_p19 : lw_okq (⟨"OrchardLaddersModel", "notes", "()V"⟩, 17) := ⟨⟨by decide +kernel, by decide +kernel⟩, List.mem_of_getElem? (i := 609) (by decide +kernel), List.mem_of_getElem? (i := 792) (by decide +kernel), List.mem_of_getElem? (i := 793) (by decide +kernel)⟩
theorem lw_p20 : lw_okq (⟨"OrchardLaddersModel", "goesBy", "(I)V"⟩, 17) := ⟨⟨by decide +kernel, by decide +kernel⟩, List.mem_of_getElem? (i := 609) (by decide +kernel), List.mem_of_getElem? (i := 796) (by decide +kernel), List.mem_of_getElem? (i := 797) (by decide +kernel)⟩
theorem lw_p21 : lw_okq (⟨"OrchardLaddersModel", "isRipe", "(I)Z"⟩, 17) := ⟨⟨by decide +kernel, by decide +kernel⟩, List.mem_of_getElem? (i := 609) (by decide +kernel), List.mem_of_getElem? (i := 800) (by decide +kernel), List.mem_of_getElem? (i := 801) (by decide +kernel)⟩
theorem lw_p22 : lw_okq (⟨"OrchardLaddersModel", "takes", "(II)V"⟩, 17) := ⟨⟨by decide +kernel, by decide +kernel⟩, List.mem_of_getElem? (i := 609) (by decide +kernel), List.mem_of_getElem? (i := 807) (by decide +kernel), List.mem_of_getElem? (i := 808) (by decide +kernel)⟩
theorem lw_p23 : lw_okq (⟨"OrchardLaddersModel", "shakes", "(I)I"⟩, 17) := ⟨⟨by decide +kernel, by decide +kernel⟩, List.mem_of_getElem? (i := 609) (by decide +kernel), List.mem_of_getElem? (i := 819) (by decide +kernel), List.mem_of_getElem? (i := 820) (by decide +kernel)⟩
theorem lw_p24 : lw_okq (⟨"OrchardLaddersModel", "asides", "()V"⟩, 17) := ⟨⟨by decide +kernel, by decide +kernel⟩, List.mem_of_getElem? (i := 609) (by decide +kernel), List.mem_of_getElem? (i := 845) (by decide +kernel), List.mem_of_getElem? (i := 846) (by decide +kernel)⟩
theorem lw_p25 : lw_okq (⟨"OrchardLaddersModel", "goesOn", "(I)V"⟩, 17) := ⟨⟨by decide +kernel, by decide +kernel⟩, List.mem_of_getElem? (i := 609) (by decide +kernel), List.mem_of_getElem? (i := 849) (by decide +kernel), List.mem_of_getElem? (i := 850) (by decide +kernel)⟩
theorem lw_p26 : lw_okq (⟨"OrchardLaddersModel", "backs", "()V"⟩, 17) := ⟨⟨by decide +kernel, by decide +kernel⟩, List.mem_of_getElem? (i := 609) (by decide +kernel), List.mem_of_getElem? (i := 853) (by decide +kernel), List.mem_of_getElem? (i := 854) (by decide +kernel)⟩
theorem lw_p27 : lw_okq (⟨"OrchardLaddersModel", "why", "(IIII)I"⟩, 17) := ⟨⟨by decide +kernel, by decide +kernel⟩, List.mem_of_getElem? (i := 609) (by decide +kernel), List.mem_of_getElem? (i := 916) (by decide +kernel), List.mem_of_getElem? (i := 917) (by decide +kernel)⟩
def lw_privs_2 : List (MethodName × Nat) := [(⟨"OrchardLaddersModel", "sign", "(I)V"⟩, 17), (⟨"OrchardLaddersModel", "readLadders", "(I)I"⟩, 17), (⟨"OrchardLaddersModel", "digit", "(II)I"⟩, 17), (⟨"OrchardLaddersModel", "notes", "()V"⟩, 17), (⟨"OrchardLaddersModel", "goesBy", "(I)V"⟩, 17), (⟨"OrchardLaddersModel", "isRipe", "(I)Z"⟩, 17), (⟨"OrchardLaddersModel", "takes", "(II)V"⟩, 17), (⟨"OrchardLaddersModel", "shakes", "(I)I"⟩, 17), (⟨"OrchardLaddersModel", "asides", "()V"⟩, 17), (⟨"OrchardLaddersModel", "goesOn", "(I)V"⟩, 17), (⟨"OrchardLaddersModel", "backs", "()V"⟩, 17), (⟨"OrchardLaddersModel", "why", "(IIII)I"⟩, 17)]
theorem lw_r2 : ∀ q ∈ lw_privs_2, lw_okq q := List.forall_mem_cons.mpr ⟨lw_p16, List.forall_mem_cons.mpr ⟨lw_p17, List.forall_mem_cons.mpr ⟨lw_p18, List.forall_mem_cons.mpr ⟨lw_p19, List.forall_mem_cons.mpr ⟨lw_p20, List.forall_mem_cons.mpr ⟨lw_p21, List.forall_mem_cons.mpr ⟨lw_p22, List.forall_mem_cons.mpr ⟨lw_p23, List.forall_mem_cons.mpr ⟨lw_p24, List.forall_mem_cons.mpr ⟨lw_p25, List.forall_mem_cons.mpr ⟨lw_p26, List.forall_mem_cons.mpr ⟨lw_p27, fun _ h => absurd h List.not_mem_nil⟩⟩⟩⟩⟩⟩⟩⟩⟩⟩⟩⟩
def lw_privs : List (MethodName × Nat) := lw_privs_1 ++ (lw_privs_2)
def lw_tbl : List Cond := k2_sels lw_privs ++ tables_1
theorem lw_privs_ok : ∀ q ∈ lw_privs, lw_okq q := by
  show ∀ q ∈ lw_privs_1 ++ (lw_privs_2), lw_okq q
  exact List.forall_mem_append.mpr ⟨lw_r1, lw_r2⟩
-- ===== end of PART A =====
end
section
/-! ===== BEGIN words of one list among another's, by their places ===== -/
theorem goodIn_r {big : List Cond} (ws : List Cond) (ps : List Nat) (hp : ws = ps.filterMap (fun i => big[i]?)) (h : ws.all goodWord = true) : GoodIn big ws := by
  intro w hw
  have h1 := List.all_eq_true.mp h w hw
  rw [hp] at hw
  obtain ⟨i, -, hi⟩ := List.mem_filterMap.mp hw
  have hm : w ∈ big := by first | exact List.mem_of_getElem? hi | exact List.getElem?_mem hi
  exact ⟨hm, good_of_word h1⟩
theorem goodIn_app {big a b : List Cond} (ha : GoodIn big a) (hb : GoodIn big b) : GoodIn big (a ++ b) := fun w h => (List.mem_append.mp h).elim (ha w) (hb w)
theorem goodIn_ca {big a b : List Cond} {c : Cond} (ha : GoodIn big (c :: a)) (hb : GoodIn big b) : GoodIn big (c :: (a ++ b)) := fun w h => (List.mem_cons.mp h).elim (fun e => ha w (List.mem_cons.mpr (Or.inl e))) (fun h => (List.mem_append.mp h).elim (fun h => ha w (List.mem_cons.mpr (Or.inr h))) (hb w))
theorem goodIn_sub {big ws : List Cond} (hm : ∀ w ∈ ws, w ∈ big) (h : ws.all goodWord = true) : GoodIn big ws := fun w hw => ⟨hm w hw, good_of_word (List.all_eq_true.mp h w hw)⟩
/-! ===== END ===== -/

/-! ===== BEGIN printed: names, fields, word lists, decode rows ===== -/
def RX0 : String := "OrchardLadders$Choice"
def TX0 : u_T := fun k => match k with
  | 0 => ("OrchardLadders$Choice", "worth", "[I", true)
  | 1 => ("OrchardLadders$Choice", "trees", "[I", true)
  | 2 => ("OrchardLadders$Choice", "places", "[I", true)
  | _ => ("OrchardLadders$Choice", "most", "I", false)
def tyX0 : Nat → FieldType := fun k => match k with
  | 0 => .array .int
  | 1 => .array .int
  | 2 => .array .int
  | _ => .int
abbrev wsX00 : List Cond := u_ws RX0 TX0 4
theorem nmX0 : ∀ a, a < 4 → ∀ b, b < 4 → a ≠ b → (TX0 a).2.1 ≠ (TX0 b).2.1 := by decide +kernel
theorem tyX0_ok : ∀ k, k < 4 → parseFieldDescriptor (TX0 k).2.2.1 = some (tyX0 k) := by decide +kernel
abbrev cX0_init : ByteArray := prog_2_method_1_code
def yX0_init : MethodName := ⟨RX0, "<init>", "()V"⟩
abbrev cX0_seek : ByteArray := prog_2_method_2_code
def yX0_seek : MethodName := ⟨RX0, "seek", "(II)V"⟩
abbrev cX0_worthOf : ByteArray := prog_2_method_3_code
def yX0_worthOf : MethodName := ⟨RX0, "worthOf", "(III)I"⟩
abbrev cX0_spread : ByteArray := prog_2_method_4_code
def yX0_spread : MethodName := ⟨RX0, "spread", "(III)V"⟩
def RX1 : String := "OrchardLadders$History"
def TX1 : u_T := fun k => match k with
  | 0 => ("OrchardLadders$History", "past", "[LOrchardLadders$Moment;", true)
  | _ => ("OrchardLadders$History", "known", "I", false)
def tyX1 : Nat → FieldType := fun k => match k with
  | 0 => .array (.object "OrchardLadders$Moment")
  | _ => .int
abbrev wsX10 : List Cond := u_ws RX1 TX1 2
theorem nmX1 : ∀ a, a < 2 → ∀ b, b < 2 → a ≠ b → (TX1 a).2.1 ≠ (TX1 b).2.1 := by decide +kernel
theorem tyX1_ok : ∀ k, k < 2 → parseFieldDescriptor (TX1 k).2.2.1 = some (tyX1 k) := by decide +kernel
abbrev cX1_init : ByteArray := prog_3_method_1_code
def yX1_init : MethodName := ⟨RX1, "<init>", "()V"⟩
abbrev cX1_become : ByteArray := prog_3_method_2_code
def yX1_become : MethodName := ⟨RX1, "become", "(LOrchardLadders$History;)V"⟩
abbrev cX1_forgetUnlessFull : ByteArray := prog_3_method_3_code
def yX1_forgetUnlessFull : MethodName := ⟨RX1, "forgetUnlessFull", "(I)V"⟩
abbrev cX1_remember : ByteArray := prog_3_method_4_code
def yX1_remember : MethodName := ⟨RX1, "remember", "(LOrchardLadders$Moment;)V"⟩
abbrev cX1_forgetOldest : ByteArray := prog_3_method_5_code
def yX1_forgetOldest : MethodName := ⟨RX1, "forgetOldest", "()V"⟩
abbrev cX1_putBack : ByteArray := prog_3_method_6_code
def yX1_putBack : MethodName := ⟨RX1, "putBack", "(LOrchardLadders$Moment;)I"⟩
def RX2 : String := "OrchardLadders$Moment"
def TX2 : u_T := fun k => match k with
  | 0 => ("OrchardLadders$Moment", "fruit", "[I", true)
  | 1 => ("OrchardLadders$Moment", "leans", "[I", true)
  | 2 => ("OrchardLadders$Moment", "got", "I", false)
  | 3 => ("OrchardLadders$Moment", "paid", "I", false)
  | 4 => ("OrchardLadders$Moment", "lost", "I", false)
  | 5 => ("OrchardLadders$Moment", "day", "I", false)
  | _ => ("OrchardLadders$Moment", "draw", "I", false)
def tyX2 : Nat → FieldType := fun k => match k with
  | 0 => .array .int
  | 1 => .array .int
  | 2 => .int
  | 3 => .int
  | 4 => .int
  | 5 => .int
  | _ => .int
abbrev wsX20 : List Cond := u_ws RX2 TX2 7
theorem nmX2 : ∀ a, a < 7 → ∀ b, b < 7 → a ≠ b → (TX2 a).2.1 ≠ (TX2 b).2.1 := by decide +kernel
theorem tyX2_ok : ∀ k, k < 7 → parseFieldDescriptor (TX2 k).2.2.1 = some (tyX2 k) := by decide +kernel
abbrev cX2_init : ByteArray := prog_4_method_1_code
def yX2_init : MethodName := ⟨RX2, "<init>", "()V"⟩
abbrev cX2_leanNowhere : ByteArray := prog_4_method_2_code
def yX2_leanNowhere : MethodName := ⟨RX2, "leanNowhere", "()V"⟩
abbrev cX2_become : ByteArray := prog_4_method_3_code
def yX2_become : MethodName := ⟨RX2, "become", "(LOrchardLadders$Moment;)V"⟩
abbrev cX2_leaningAt : ByteArray := prog_4_method_4_code
def yX2_leaningAt : MethodName := ⟨RX2, "leaningAt", "(I)I"⟩
abbrev cX2_shakeOff : ByteArray := prog_4_method_5_code
def yX2_shakeOff : MethodName := ⟨RX2, "shakeOff", "(I)I"⟩
def RX3 : String := "OrchardLadders$Orchard"
def TX3 : u_T := fun k => match k with
  | 0 => ("OrchardLadders$Orchard", "trees", "I", false)
  | 1 => ("OrchardLadders$Orchard", "ladders", "I", false)
  | 2 => ("OrchardLadders$Orchard", "basket", "I", false)
  | 3 => ("OrchardLadders$Orchard", "wasps", "I", false)
  | 4 => ("OrchardLadders$Orchard", "high", "[I", true)
  | 5 => ("OrchardLadders$Orchard", "ripe", "[I", true)
  | 6 => ("OrchardLadders$Orchard", "kind", "[I", true)
  | 7 => ("OrchardLadders$Orchard", "length", "[I", true)
  | 8 => ("OrchardLadders$Orchard", "price", "[I", true)
  | _ => ("OrchardLadders$Orchard", "now", "LOrchardLadders$Moment;", true)
def tyX3 : Nat → FieldType := fun k => match k with
  | 0 => .int
  | 1 => .int
  | 2 => .int
  | 3 => .int
  | 4 => .array .int
  | 5 => .array .int
  | 6 => .array .int
  | 7 => .array .int
  | 8 => .array .int
  | _ => .object "OrchardLadders$Moment"
abbrev wsX30 : List Cond := u_ws RX3 TX3 10
theorem nmX3 : ∀ a, a < 10 → ∀ b, b < 10 → a ≠ b → (TX3 a).2.1 ≠ (TX3 b).2.1 := by decide +kernel
theorem tyX3_ok : ∀ k, k < 10 → parseFieldDescriptor (TX3 k).2.2.1 = some (tyX3 k) := by decide +kernel
abbrev cX3_init : ByteArray := prog_5_method_1_code
def yX3_init : MethodName := ⟨RX3, "<init>", "()V"⟩
abbrev cX3_become : ByteArray := prog_5_method_2_code
def yX3_become : MethodName := ⟨RX3, "become", "(LOrchardLadders$Orchard;)V"⟩
abbrev cX3_takeOver : ByteArray := prog_5_method_3_code
def yX3_takeOver : MethodName := ⟨RX3, "takeOver", "(LOrchardLadders$Orchard;)V"⟩
abbrev cX3_becomeTreesAndLadders : ByteArray := prog_5_method_4_code
def yX3_becomeTreesAndLadders : MethodName := ⟨RX3, "becomeTreesAndLadders", "(LOrchardLadders$Orchard;)V"⟩
abbrev cX3_clear : ByteArray := prog_5_method_5_code
def yX3_clear : MethodName := ⟨RX3, "clear", "()V"⟩
abbrev cX3_plant : ByteArray := prog_5_method_6_code
def yX3_plant : MethodName := ⟨RX3, "plant", "(III)I"⟩
abbrev cX3_bring : ByteArray := prog_5_method_7_code
def yX3_bring : MethodName := ⟨RX3, "bring", "(III)I"⟩
abbrev cX3_hasTree : ByteArray := prog_5_method_8_code
def yX3_hasTree : MethodName := ⟨RX3, "hasTree", "(I)Z"⟩
abbrev cX3_hasLadder : ByteArray := prog_5_method_9_code
def yX3_hasLadder : MethodName := ⟨RX3, "hasLadder", "(I)Z"⟩
abbrev cX3_fruitOfAll : ByteArray := prog_5_method_10_code
def yX3_fruitOfAll : MethodName := ⟨RX3, "fruitOfAll", "(LOrchardLadders$Moment;)I"⟩
abbrev cX3_leaningAnywhere : ByteArray := prog_5_method_11_code
def yX3_leaningAnywhere : MethodName := ⟨RX3, "leaningAnywhere", "()I"⟩
abbrev cX3_reach : ByteArray := prog_5_method_12_code
def yX3_reach : MethodName := ⟨RX3, "reach", "(II)I"⟩
abbrev cX3_reaching : ByteArray := prog_5_method_13_code
def yX3_reaching : MethodName := ⟨RX3, "reaching", "(III)I"⟩
abbrev cX3_treesInReach : ByteArray := prog_5_method_14_code
def yX3_treesInReach : MethodName := ⟨RX3, "treesInReach", "(II)I"⟩
abbrev cX3_taken : ByteArray := prog_5_method_15_code
def yX3_taken : MethodName := ⟨RX3, "taken", "(IIIII)I"⟩
abbrev cX3_stung : ByteArray := prog_5_method_16_code
def yX3_stung : MethodName := ⟨RX3, "stung", "(III)I"⟩
abbrev cX3_leftBehind : ByteArray := prog_5_method_17_code
def yX3_leftBehind : MethodName := ⟨RX3, "leftBehind", "(IIII)I"⟩
abbrev cX3_pass : ByteArray := prog_5_method_18_code
def yX3_pass : MethodName := ⟨RX3, "pass", "(LOrchardLadders$Moment;)V"⟩
abbrev cX3_gust : ByteArray := prog_5_method_19_code
def yX3_gust : MethodName := ⟨RX3, "gust", "()V"⟩
abbrev cX3_gotAt : ByteArray := prog_5_method_20_code
def yX3_gotAt : MethodName := ⟨RX3, "gotAt", "(IIII)I"⟩
abbrev cX3_gotWithGuest : ByteArray := prog_5_method_21_code
def yX3_gotWithGuest : MethodName := ⟨RX3, "gotWithGuest", "(IIIIII)I"⟩
abbrev cX3_gotToday : ByteArray := prog_5_method_22_code
def yX3_gotToday : MethodName := ⟨RX3, "gotToday", "(I)I"⟩
def RX4 : String := "OrchardLadders$Sheet"
def TX4 : u_T := fun k => match k with
  | 0 => ("OrchardLadders$Sheet", "items", "[J", true)
  | 1 => ("OrchardLadders$Sheet", "lane", "I", false)
  | _ => ("OrchardLadders$Sheet", "length", "I", false)
def tyX4 : Nat → FieldType := fun k => match k with
  | 0 => .array .long
  | 1 => .int
  | _ => .int
abbrev wsX40 : List Cond := u_ws RX4 TX4 3
theorem nmX4 : ∀ a, a < 3 → ∀ b, b < 3 → a ≠ b → (TX4 a).2.1 ≠ (TX4 b).2.1 := by decide +kernel
theorem tyX4_ok : ∀ k, k < 3 → parseFieldDescriptor (TX4 k).2.2.1 = some (tyX4 k) := by decide +kernel
abbrev cX4_init : ByteArray := prog_6_method_1_code
def yX4_init : MethodName := ⟨RX4, "<init>", "()V"⟩
abbrev cX4_begin : ByteArray := prog_6_method_2_code
def yX4_begin : MethodName := ⟨RX4, "begin", "(II)V"⟩
abbrev cX4_holds : ByteArray := prog_6_method_3_code
def yX4_holds : MethodName := ⟨RX4, "holds", "(II)Z"⟩
abbrev cX4_find : ByteArray := prog_6_method_4_code
def yX4_find : MethodName := ⟨RX4, "find", "(III)I"⟩
abbrev cX4_put : ByteArray := prog_6_method_5_code
def yX4_put : MethodName := ⟨RX4, "put", "(IJ)V"⟩
def RX5 : String := "OrchardLadders$Tape"
def TX5 : u_T := fun k => match k with
  | 0 => ("OrchardLadders$Tape", "letters", "[C", true)
  | 1 => ("OrchardLadders$Tape", "length", "I", false)
  | 2 => ("OrchardLadders$Tape", "place", "I", false)
  | _ => ("OrchardLadders$Tape", "fault", "I", false)
def tyX5 : Nat → FieldType := fun k => match k with
  | 0 => .array .char
  | 1 => .int
  | 2 => .int
  | _ => .int
abbrev wsX50 : List Cond := u_ws RX5 TX5 4
theorem nmX5 : ∀ a, a < 4 → ∀ b, b < 4 → a ≠ b → (TX5 a).2.1 ≠ (TX5 b).2.1 := by decide +kernel
theorem tyX5_ok : ∀ k, k < 4 → parseFieldDescriptor (TX5 k).2.2.1 = some (tyX5 k) := by decide +kernel
abbrev cX5_init : ByteArray := prog_7_method_1_code
def yX5_init : MethodName := ⟨RX5, "<init>", "()V"⟩
abbrev cX5_append : ByteArray := prog_7_method_2_code
def yX5_append : MethodName := ⟨RX5, "append", "(C)I"⟩
abbrev cX5_read : ByteArray := prog_7_method_3_code
def yX5_read : MethodName := ⟨RX5, "read", "(LOrchardLadders$Orchard;)I"⟩
abbrev cX5_readTrees : ByteArray := prog_7_method_4_code
def yX5_readTrees : MethodName := ⟨RX5, "readTrees", "(LOrchardLadders$Orchard;)V"⟩
abbrev cX5_readLadders : ByteArray := prog_7_method_5_code
def yX5_readLadders : MethodName := ⟨RX5, "readLadders", "(LOrchardLadders$Orchard;)V"⟩
abbrev cX5_next : ByteArray := prog_7_method_6_code
def yX5_next : MethodName := ⟨RX5, "next", "()I"⟩
abbrev cX5_fail : ByteArray := prog_7_method_7_code
def yX5_fail : MethodName := ⟨RX5, "fail", "(I)V"⟩
abbrev cX5_passes : ByteArray := prog_7_method_8_code
def yX5_passes : MethodName := ⟨RX5, "passes", "(C)Z"⟩
abbrev cX5_demand : ByteArray := prog_7_method_9_code
def yX5_demand : MethodName := ⟨RX5, "demand", "(C)V"⟩
abbrev cX5_number : ByteArray := prog_7_method_10_code
def yX5_number : MethodName := ⟨RX5, "number", "(II)I"⟩
abbrev cX5_digit : ByteArray := prog_7_method_11_code
def yX5_digit : MethodName := ⟨RX5, "digit", "(II)I"⟩
abbrev cX5_kindLetter : ByteArray := prog_7_method_12_code
def yX5_kindLetter : MethodName := ⟨RX5, "kindLetter", "()I"⟩
abbrev cX5_isDigit : ByteArray := prog_7_method_13_code
def yX5_isDigit : MethodName := ⟨RX5, "isDigit", "(I)Z"⟩
def RX6 : String := "OrchardLadders"
def TX6 : u_T := fun k => match k with
  | 0 => ("OrchardLadders", "orchard", "LOrchardLadders$Orchard;", true)
  | 1 => ("OrchardLadders", "history", "LOrchardLadders$History;", true)
  | 2 => ("OrchardLadders", "keptOrchard", "LOrchardLadders$Orchard;", true)
  | 3 => ("OrchardLadders", "keptHistory", "LOrchardLadders$History;", true)
  | 4 => ("OrchardLadders", "kept", "Z", false)
  | 5 => ("OrchardLadders", "tape", "LOrchardLadders$Tape;", true)
  | 6 => ("OrchardLadders", "draft", "LOrchardLadders$Orchard;", true)
  | 7 => ("OrchardLadders", "later", "LOrchardLadders$Moment;", true)
  | 8 => ("OrchardLadders", "choice", "LOrchardLadders$Choice;", true)
  | _ => ("OrchardLadders", "sheets", "[LOrchardLadders$Sheet;", true)
def tyX6 : Nat → FieldType := fun k => match k with
  | 0 => .object "OrchardLadders$Orchard"
  | 1 => .object "OrchardLadders$History"
  | 2 => .object "OrchardLadders$Orchard"
  | 3 => .object "OrchardLadders$History"
  | 4 => .boolean
  | 5 => .object "OrchardLadders$Tape"
  | 6 => .object "OrchardLadders$Orchard"
  | 7 => .object "OrchardLadders$Moment"
  | 8 => .object "OrchardLadders$Choice"
  | _ => .array (.object "OrchardLadders$Sheet")
abbrev wsX60 : List Cond := u_ws RX6 TX6 10
theorem nmX6 : ∀ a, a < 10 → ∀ b, b < 10 → a ≠ b → (TX6 a).2.1 ≠ (TX6 b).2.1 := by decide +kernel
theorem tyX6_ok : ∀ k, k < 10 → parseFieldDescriptor (TX6 k).2.2.1 = some (tyX6 k) := by decide +kernel
abbrev cX6_init : ByteArray := prog_1_method_1_code
def yX6_init : MethodName := ⟨RX6, "<init>", "()V"⟩
abbrev cX6_tree : ByteArray := prog_1_method_2_code
def yX6_tree : MethodName := ⟨RX6, "tree", "(III)I"⟩
abbrev cX6_ladder : ByteArray := prog_1_method_3_code
def yX6_ladder : MethodName := ⟨RX6, "ladder", "(III)I"⟩
abbrev cX6_of : ByteArray := prog_1_method_4_code
def yX6_of : MethodName := ⟨RX6, "of", "(II)I"⟩
abbrev cX6_at : ByteArray := prog_1_method_5_code
def yX6_at : MethodName := ⟨RX6, "at", "(II)I"⟩
abbrev cX6_rule : ByteArray := prog_1_method_6_code
def yX6_rule : MethodName := ⟨RX6, "rule", "(II)I"⟩
abbrev cX6_type : ByteArray := prog_1_method_7_code
def yX6_type : MethodName := ⟨RX6, "type", "(I)I"⟩
abbrev cX6_orchard : ByteArray := prog_1_method_8_code
def yX6_orchard : MethodName := ⟨RX6, "orchard", "()I"⟩
abbrev cX6_count : ByteArray := prog_1_method_9_code
def yX6_count : MethodName := ⟨RX6, "count", "(I)I"⟩
abbrev cX6_days : ByteArray := prog_1_method_10_code
def yX6_days : MethodName := ⟨RX6, "days", "(I)I"⟩
abbrev cX6_lean : ByteArray := prog_1_method_11_code
def yX6_lean : MethodName := ⟨RX6, "lean", "(II)I"⟩
abbrev cX6_shake : ByteArray := prog_1_method_12_code
def yX6_shake : MethodName := ⟨RX6, "shake", "(I)I"⟩
abbrev cX6_drift : ByteArray := prog_1_method_13_code
def yX6_drift : MethodName := ⟨RX6, "drift", "(I)I"⟩
abbrev cX6_undo : ByteArray := prog_1_method_14_code
def yX6_undo : MethodName := ⟨RX6, "undo", "()I"⟩
abbrev cX6_seed : ByteArray := prog_1_method_15_code
def yX6_seed : MethodName := ⟨RX6, "seed", "(I)I"⟩
abbrev cX6_ahead : ByteArray := prog_1_method_16_code
def yX6_ahead : MethodName := ⟨RX6, "ahead", "(II)I"⟩
abbrev cX6_fruit : ByteArray := prog_1_method_17_code
def yX6_fruit : MethodName := ⟨RX6, "fruit", "(II)I"⟩
abbrev cX6_reached : ByteArray := prog_1_method_18_code
def yX6_reached : MethodName := ⟨RX6, "reached", "(II)I"⟩
abbrev cX6_gathered : ByteArray := prog_1_method_19_code
def yX6_gathered : MethodName := ⟨RX6, "gathered", "()I"⟩
abbrev cX6_plan : ByteArray := prog_1_method_20_code
def yX6_plan : MethodName := ⟨RX6, "plan", "(II)I"⟩
abbrev cX6_round : ByteArray := prog_1_method_21_code
def yX6_round : MethodName := ⟨RX6, "round", "(III)I"⟩
abbrev cX6_longer : ByteArray := prog_1_method_22_code
def yX6_longer : MethodName := ⟨RX6, "longer", "(II)I"⟩
abbrev cX6_larger : ByteArray := prog_1_method_23_code
def yX6_larger : MethodName := ⟨RX6, "larger", "(II)I"⟩
abbrev cX6_luck : ByteArray := prog_1_method_24_code
def yX6_luck : MethodName := ⟨RX6, "luck", "(III)I"⟩
abbrev cX6_image : ByteArray := prog_1_method_25_code
def yX6_image : MethodName := ⟨RX6, "image", "()I"⟩
abbrev cX6_restore : ByteArray := prog_1_method_26_code
def yX6_restore : MethodName := ⟨RX6, "restore", "()I"⟩
abbrev cX6_left : ByteArray := prog_1_method_27_code
def yX6_left : MethodName := ⟨RX6, "left", "(IIIII)I"⟩
abbrev cX6_film : ByteArray := prog_1_method_28_code
def yX6_film : MethodName := ⟨RX6, "film", "(IIIII)I"⟩
abbrev cX6_sheet : ByteArray := prog_1_method_29_code
def yX6_sheet : MethodName := ⟨RX6, "sheet", "(III)I"⟩
abbrev cX6_drop : ByteArray := prog_1_method_30_code
def yX6_drop : MethodName := ⟨RX6, "drop", "(I)I"⟩
abbrev cX6_item : ByteArray := prog_1_method_31_code
def yX6_item : MethodName := ⟨RX6, "item", "(IIIJ)I"⟩
abbrev cX6_copy : ByteArray := prog_1_method_32_code
def yX6_copy : MethodName := ⟨RX6, "copy", "(IIIII)I"⟩
abbrev cX6_within : ByteArray := prog_1_method_33_code
def yX6_within : MethodName := ⟨RX6, "within", "(III)Z"⟩
abbrev cX6_isSheet : ByteArray := prog_1_method_34_code
def yX6_isSheet : MethodName := ⟨RX6, "isSheet", "(I)Z"⟩
abbrev cX6_isLane : ByteArray := prog_1_method_35_code
def yX6_isLane : MethodName := ⟨RX6, "isLane", "(I)Z"⟩
abbrev cX6_reachOfKind : ByteArray := prog_1_method_36_code
def yX6_reachOfKind : MethodName := ⟨RX6, "reachOfKind", "(III)I"⟩
abbrev cX6_reachOfDewy : ByteArray := prog_1_method_37_code
def yX6_reachOfDewy : MethodName := ⟨RX6, "reachOfDewy", "(II)I"⟩
abbrev cX6_reachOfTied : ByteArray := prog_1_method_38_code
def yX6_reachOfTied : MethodName := ⟨RX6, "reachOfTied", "(I)I"⟩
abbrev cX6_waysToBe : ByteArray := prog_1_method_39_code
def yX6_waysToBe : MethodName := ⟨RX6, "waysToBe", "(III)I"⟩
abbrev cX6_commonDivisor : ByteArray := prog_1_method_40_code
def yX6_commonDivisor : MethodName := ⟨RX6, "commonDivisor", "(II)I"⟩
abbrev cX6_leavesSo : ByteArray := prog_1_method_41_code
def yX6_leavesSo : MethodName := ⟨RX6, "leavesSo", "(IILOrchardLadders$Sheet;II)Z"⟩
def RX7 : String := "OrchardLaddersModel"
def TX7 : u_T := fun k => match k with
  | 0 => ("OrchardLaddersModel", "now", "[I", true)
  | 1 => ("OrchardLaddersModel", "tape", "[I", true)
  | 2 => ("OrchardLaddersModel", "typed", "I", false)
  | 3 => ("OrchardLaddersModel", "place", "I", false)
  | 4 => ("OrchardLaddersModel", "isFault", "Z", false)
  | 5 => ("OrchardLaddersModel", "readOnes", "[I", true)
  | 6 => ("OrchardLaddersModel", "read", "[I", true)
  | 7 => ("OrchardLaddersModel", "undone", "[I", true)
  | 8 => ("OrchardLaddersModel", "undos", "I", false)
  | 9 => ("OrchardLaddersModel", "aside", "[I", true)
  | 10 => ("OrchardLaddersModel", "kept", "[I", true)
  | 11 => ("OrchardLaddersModel", "keptUndos", "I", false)
  | 12 => ("OrchardLaddersModel", "isKept", "Z", false)
  | 13 => ("OrchardLaddersModel", "lanes", "[I", true)
  | 14 => ("OrchardLaddersModel", "sizes", "[I", true)
  | 15 => ("OrchardLaddersModel", "items", "[J", true)
  | _ => ("OrchardLaddersModel", "moved", "[J", true)
def tyX7 : Nat → FieldType := fun k => match k with
  | 0 => .array .int
  | 1 => .array .int
  | 2 => .int
  | 3 => .int
  | 4 => .boolean
  | 5 => .array .int
  | 6 => .array .int
  | 7 => .array .int
  | 8 => .int
  | 9 => .array .int
  | 10 => .array .int
  | 11 => .int
  | 12 => .boolean
  | 13 => .array .int
  | 14 => .array .int
  | 15 => .array .long
  | _ => .array .long
abbrev wsX70 : List Cond := u_ws RX7 TX7 17
theorem nmX7 : ∀ a, a < 17 → ∀ b, b < 17 → a ≠ b → (TX7 a).2.1 ≠ (TX7 b).2.1 := by decide +kernel
theorem tyX7_ok : ∀ k, k < 17 → parseFieldDescriptor (TX7 k).2.2.1 = some (tyX7 k) := by decide +kernel
abbrev cX7_in : ByteArray := prog_9_method_2_code
def yX7_in : MethodName := ⟨RX7, "in", "(JJJ)Z"⟩
abbrev cX7_init : ByteArray := prog_9_method_3_code
def yX7_init : MethodName := ⟨RX7, "<init>", "()V"⟩
abbrev cX7_isTree : ByteArray := prog_9_method_4_code
def yX7_isTree : MethodName := ⟨RX7, "isTree", "(I)Z"⟩
abbrev cX7_isLadder : ByteArray := prog_9_method_5_code
def yX7_isLadder : MethodName := ⟨RX7, "isLadder", "(I)Z"⟩
abbrev cX7_ofTree : ByteArray := prog_9_method_6_code
def yX7_ofTree : MethodName := ⟨RX7, "ofTree", "(II)I"⟩
abbrev cX7_ofLadder : ByteArray := prog_9_method_7_code
def yX7_ofLadder : MethodName := ⟨RX7, "ofLadder", "(II)I"⟩
abbrev cX7_leansAt : ByteArray := prog_9_method_8_code
def yX7_leansAt : MethodName := ⟨RX7, "leansAt", "(I)I"⟩
abbrev cX7_reaches : ByteArray := prog_9_method_9_code
def yX7_reaches : MethodName := ⟨RX7, "reaches", "(III)I"⟩
abbrev cX7_isReached : ByteArray := prog_9_method_10_code
def yX7_isReached : MethodName := ⟨RX7, "isReached", "(III)Z"⟩
abbrev cX7_isRipe : ByteArray := prog_9_method_11_code
def yX7_isRipe : MethodName := ⟨RX7, "isRipe", "(I)Z"⟩
abbrev cX7_less : ByteArray := prog_9_method_12_code
def yX7_less : MethodName := ⟨RX7, "less", "(II)I"⟩
abbrev cX7_takes : ByteArray := prog_9_method_13_code
def yX7_takes : MethodName := ⟨RX7, "takes", "(II)V"⟩
abbrev cX7_goesBy : ByteArray := prog_9_method_14_code
def yX7_goesBy : MethodName := ⟨RX7, "goesBy", "(I)V"⟩
abbrev cX7_goesOn : ByteArray := prog_9_method_15_code
def yX7_goesOn : MethodName := ⟨RX7, "goesOn", "(I)V"⟩
abbrev cX7_allFruit : ByteArray := prog_9_method_16_code
def yX7_allFruit : MethodName := ⟨RX7, "allFruit", "()I"⟩
abbrev cX7_treeComes : ByteArray := prog_9_method_17_code
def yX7_treeComes : MethodName := ⟨RX7, "treeComes", "(III)V"⟩
abbrev cX7_ladderComes : ByteArray := prog_9_method_18_code
def yX7_ladderComes : MethodName := ⟨RX7, "ladderComes", "(IIII)V"⟩
abbrev cX7_tree : ByteArray := prog_9_method_19_code
def yX7_tree : MethodName := ⟨RX7, "tree", "(III)I"⟩
abbrev cX7_ladder : ByteArray := prog_9_method_20_code
def yX7_ladder : MethodName := ⟨RX7, "ladder", "(III)I"⟩
abbrev cX7_reachers : ByteArray := prog_9_method_21_code
def yX7_reachers : MethodName := ⟨RX7, "reachers", "(IIZ)I"⟩
abbrev cX7_leaners : ByteArray := prog_9_method_22_code
def yX7_leaners : MethodName := ⟨RX7, "leaners", "(I)I"⟩
abbrev cX7_of : ByteArray := prog_9_method_23_code
def yX7_of : MethodName := ⟨RX7, "of", "(II)I"⟩
abbrev cX7_at : ByteArray := prog_9_method_24_code
def yX7_at : MethodName := ⟨RX7, "at", "(II)I"⟩
abbrev cX7_rule : ByteArray := prog_9_method_25_code
def yX7_rule : MethodName := ⟨RX7, "rule", "(II)I"⟩
abbrev cX7_count : ByteArray := prog_9_method_26_code
def yX7_count : MethodName := ⟨RX7, "count", "(I)I"⟩
abbrev cX7_type : ByteArray := prog_9_method_27_code
def yX7_type : MethodName := ⟨RX7, "type", "(I)I"⟩
abbrev cX7_here : ByteArray := prog_9_method_28_code
def yX7_here : MethodName := ⟨RX7, "here", "()I"⟩
abbrev cX7_must : ByteArray := prog_9_method_29_code
def yX7_must : MethodName := ⟨RX7, "must", "(Z)V"⟩
abbrev cX7_sign : ByteArray := prog_9_method_30_code
def yX7_sign : MethodName := ⟨RX7, "sign", "(I)V"⟩
abbrev cX7_digit : ByteArray := prog_9_method_31_code
def yX7_digit : MethodName := ⟨RX7, "digit", "(II)I"⟩
abbrev cX7_number : ByteArray := prog_9_method_32_code
def yX7_number : MethodName := ⟨RX7, "number", "(II)I"⟩
abbrev cX7_readTrees : ByteArray := prog_9_method_33_code
def yX7_readTrees : MethodName := ⟨RX7, "readTrees", "()I"⟩
abbrev cX7_readLadders : ByteArray := prog_9_method_34_code
def yX7_readLadders : MethodName := ⟨RX7, "readLadders", "(I)I"⟩
abbrev cX7_orchard : ByteArray := prog_9_method_35_code
def yX7_orchard : MethodName := ⟨RX7, "orchard", "()I"⟩
abbrev cX7_notes : ByteArray := prog_9_method_36_code
def yX7_notes : MethodName := ⟨RX7, "notes", "()V"⟩
abbrev cX7_days : ByteArray := prog_9_method_37_code
def yX7_days : MethodName := ⟨RX7, "days", "(I)I"⟩
abbrev cX7_lean : ByteArray := prog_9_method_38_code
def yX7_lean : MethodName := ⟨RX7, "lean", "(II)I"⟩
abbrev cX7_shakes : ByteArray := prog_9_method_39_code
def yX7_shakes : MethodName := ⟨RX7, "shakes", "(I)I"⟩
abbrev cX7_shake : ByteArray := prog_9_method_40_code
def yX7_shake : MethodName := ⟨RX7, "shake", "(I)I"⟩
abbrev cX7_drift : ByteArray := prog_9_method_41_code
def yX7_drift : MethodName := ⟨RX7, "drift", "(I)I"⟩
abbrev cX7_undo : ByteArray := prog_9_method_42_code
def yX7_undo : MethodName := ⟨RX7, "undo", "()I"⟩
abbrev cX7_seed : ByteArray := prog_9_method_43_code
def yX7_seed : MethodName := ⟨RX7, "seed", "(I)I"⟩
abbrev cX7_asides : ByteArray := prog_9_method_44_code
def yX7_asides : MethodName := ⟨RX7, "asides", "()V"⟩
abbrev cX7_backs : ByteArray := prog_9_method_45_code
def yX7_backs : MethodName := ⟨RX7, "backs", "()V"⟩
abbrev cX7_ahead : ByteArray := prog_9_method_46_code
def yX7_ahead : MethodName := ⟨RX7, "ahead", "(II)I"⟩
abbrev cX7_fruit : ByteArray := prog_9_method_47_code
def yX7_fruit : MethodName := ⟨RX7, "fruit", "(II)I"⟩
abbrev cX7_reached : ByteArray := prog_9_method_48_code
def yX7_reached : MethodName := ⟨RX7, "reached", "(II)I"⟩
abbrev cX7_gathered : ByteArray := prog_9_method_49_code
def yX7_gathered : MethodName := ⟨RX7, "gathered", "()I"⟩
abbrev cX7_power : ByteArray := prog_9_method_50_code
def yX7_power : MethodName := ⟨RX7, "power", "(II)I"⟩
abbrev cX7_plan : ByteArray := prog_9_method_51_code
def yX7_plan : MethodName := ⟨RX7, "plan", "(II)I"⟩
abbrev cX7_round : ByteArray := prog_9_method_52_code
def yX7_round : MethodName := ⟨RX7, "round", "(III)I"⟩
abbrev cX7_longer : ByteArray := prog_9_method_53_code
def yX7_longer : MethodName := ⟨RX7, "longer", "(II)I"⟩
abbrev cX7_larger : ByteArray := prog_9_method_54_code
def yX7_larger : MethodName := ⟨RX7, "larger", "(II)I"⟩
abbrev cX7_luck : ByteArray := prog_9_method_55_code
def yX7_luck : MethodName := ⟨RX7, "luck", "(III)I"⟩
abbrev cX7_image : ByteArray := prog_9_method_56_code
def yX7_image : MethodName := ⟨RX7, "image", "()I"⟩
abbrev cX7_restore : ByteArray := prog_9_method_57_code
def yX7_restore : MethodName := ⟨RX7, "restore", "()I"⟩
abbrev cX7_isSheet : ByteArray := prog_9_method_58_code
def yX7_isSheet : MethodName := ⟨RX7, "isSheet", "(I)Z"⟩
abbrev cX7_isLane : ByteArray := prog_9_method_59_code
def yX7_isLane : MethodName := ⟨RX7, "isLane", "(I)Z"⟩
abbrev cX7_why : ByteArray := prog_9_method_60_code
def yX7_why : MethodName := ⟨RX7, "why", "(IIII)I"⟩
abbrev cX7_left : ByteArray := prog_9_method_61_code
def yX7_left : MethodName := ⟨RX7, "left", "(IIIII)I"⟩
abbrev cX7_film : ByteArray := prog_9_method_62_code
def yX7_film : MethodName := ⟨RX7, "film", "(IIIII)I"⟩
abbrev cX7_sheet : ByteArray := prog_9_method_63_code
def yX7_sheet : MethodName := ⟨RX7, "sheet", "(III)I"⟩
abbrev cX7_drop : ByteArray := prog_9_method_64_code
def yX7_drop : MethodName := ⟨RX7, "drop", "(I)I"⟩
abbrev cX7_item : ByteArray := prog_9_method_65_code
def yX7_item : MethodName := ⟨RX7, "item", "(IIIJ)I"⟩
abbrev cX7_copy : ByteArray := prog_9_method_66_code
def yX7_copy : MethodName := ⟨RX7, "copy", "(IIIII)I"⟩
def RJ6 : String := "java/lang/Integer"
def TJ6 : u_T := fun k => match k with
  | _ => ("", "", "", false)
def tyJ6 : Nat → FieldType := fun k => match k with
  | _ => .int
abbrev wsJ60 : List Cond := u_ws RJ6 TJ6 0
theorem nmJ6 : ∀ a, a < 0 → ∀ b, b < 0 → a ≠ b → (TJ6 a).2.1 ≠ (TJ6 b).2.1 := by decide +kernel
theorem tyJ6_ok : ∀ k, k < 0 → parseFieldDescriptor (TJ6 k).2.2.1 = some (tyJ6 k) := by decide +kernel
abbrev cJ6_bitCount_0f7a4 : ByteArray := prog_10_method_49_code
def yJ6_bitCount_0f7a4 : MethodName := ⟨RJ6, "bitCount", "(I)I"⟩
def RJ9 : String := "java/lang/Math"
def TJ9 : u_T := fun k => match k with
  | _ => ("", "", "", false)
def tyJ9 : Nat → FieldType := fun k => match k with
  | _ => .int
abbrev wsJ90 : List Cond := u_ws RJ9 TJ9 0
theorem nmJ9 : ∀ a, a < 0 → ∀ b, b < 0 → a ≠ b → (TJ9 a).2.1 ≠ (TJ9 b).2.1 := by decide +kernel
theorem tyJ9_ok : ∀ k, k < 0 → parseFieldDescriptor (TJ9 k).2.2.1 = some (tyJ9 k) := by decide +kernel
abbrev cJ9_max_7cf53 : ByteArray := prog_11_method_65_code
def yJ9_max_7cf53 : MethodName := ⟨RJ9, "max", "(II)I"⟩
abbrev cJ9_min_7cf53 : ByteArray := prog_11_method_69_code
def yJ9_min_7cf53 : MethodName := ⟨RJ9, "min", "(II)I"⟩
def RJ10 : String := "java/lang/System"
def TJ10 : u_T := fun k => match k with
  | _ => ("", "", "", false)
def tyJ10 : Nat → FieldType := fun k => match k with
  | _ => .int
abbrev wsJ100 : List Cond := u_ws RJ10 TJ10 0
theorem nmJ10 : ∀ a, a < 0 → ∀ b, b < 0 → a ≠ b → (TJ10 a).2.1 ≠ (TJ10 b).2.1 := by decide +kernel
theorem tyJ10_ok : ∀ k, k < 0 → parseFieldDescriptor (TJ10 k).2.2.1 = some (tyJ10 k) := by decide +kernel
def RL : String := "OrchardLaddersLaw"
abbrev cL_law : ByteArray := code
def yL_law : MethodName := ⟨RL, "law", "([I)Z"⟩
abbrev vwCl : List vw_C := [(RX0, TX0, 4), (RX1, TX1, 2), (RX2, TX2, 7), (RX3, TX3, 10), (RX4, TX4, 3), (RX5, TX5, 4), (RX6, TX6, 10), (RX7, TX7, 17)]

def bigW : List Cond := lw_tbl.filter goodWord
theorem bigW_at {w : Cond} (i : Nat) (h : lw_tbl[i]? = some w) (hg : goodWord w = true) : w ∈ bigW := List.mem_filter.mpr ⟨List.mem_of_getElem? h, hg⟩
theorem bigW_of {ws : List Cond} (ps : List Nat) (hp : ws = ps.filterMap (fun i => lw_tbl[i]?)) (h : ws.all goodWord = true) : ∀ w ∈ ws, w ∈ bigW := by
  intro w hw
  have h1 := List.all_eq_true.mp h w hw
  rw [hp] at hw
  obtain ⟨i, -, hi⟩ := List.mem_filterMap.mp hw
  exact bigW_at i hi h1
abbrev MI : Type := MethodName × ByteArray × Nat × Option FieldType
def mJ6_bitCount_0f7a4 : MI := (yJ6_bitCount_0f7a4, cJ6_bitCount_0f7a4, 1, (some .int))
def mJ9_max_7cf53 : MI := (yJ9_max_7cf53, cJ9_max_7cf53, 2, (some .int))
def mJ9_min_7cf53 : MI := (yJ9_min_7cf53, cJ9_min_7cf53, 2, (some .int))
def mX0_init : MI := (yX0_init, cX0_init, 1, none)
def mX0_seek : MI := (yX0_seek, cX0_seek, 7, none)
def mX0_spread : MI := (yX0_spread, cX0_spread, 6, none)
def mX0_worthOf : MI := (yX0_worthOf, cX0_worthOf, 7, (some .int))
def mX1_become : MI := (yX1_become, cX1_become, 3, none)
def mX1_forgetOldest : MI := (yX1_forgetOldest, cX1_forgetOldest, 3, none)
def mX1_forgetUnlessFull : MI := (yX1_forgetUnlessFull, cX1_forgetUnlessFull, 2, none)
def mX1_init : MI := (yX1_init, cX1_init, 2, none)
def mX1_putBack : MI := (yX1_putBack, cX1_putBack, 2, (some .int))
def mX1_remember : MI := (yX1_remember, cX1_remember, 2, none)
def mX2_become : MI := (yX2_become, cX2_become, 2, none)
def mX2_init : MI := (yX2_init, cX2_init, 1, none)
def mX2_leanNowhere : MI := (yX2_leanNowhere, cX2_leanNowhere, 2, none)
def mX2_leaningAt : MI := (yX2_leaningAt, cX2_leaningAt, 4, (some .int))
def mX2_shakeOff : MI := (yX2_shakeOff, cX2_shakeOff, 3, (some .int))
def mX3_become : MI := (yX3_become, cX3_become, 2, none)
def mX3_becomeTreesAndLadders : MI := (yX3_becomeTreesAndLadders, cX3_becomeTreesAndLadders, 2, none)
def mX3_bring : MI := (yX3_bring, cX3_bring, 4, (some .int))
def mX3_clear : MI := (yX3_clear, cX3_clear, 1, none)
def mX3_fruitOfAll : MI := (yX3_fruitOfAll, cX3_fruitOfAll, 4, (some .int))
def mX3_gotAt : MI := (yX3_gotAt, cX3_gotAt, 5, (some .int))
def mX3_gotToday : MI := (yX3_gotToday, cX3_gotToday, 4, (some .int))
def mX3_gotWithGuest : MI := (yX3_gotWithGuest, cX3_gotWithGuest, 12, (some .int))
def mX3_gust : MI := (yX3_gust, cX3_gust, 2, none)
def mX3_hasLadder : MI := (yX3_hasLadder, cX3_hasLadder, 2, (some .boolean))
def mX3_hasTree : MI := (yX3_hasTree, cX3_hasTree, 2, (some .boolean))
def mX3_init : MI := (yX3_init, cX3_init, 1, none)
def mX3_leaningAnywhere : MI := (yX3_leaningAnywhere, cX3_leaningAnywhere, 3, (some .int))
def mX3_leftBehind : MI := (yX3_leftBehind, cX3_leftBehind, 6, (some .int))
def mX3_pass : MI := (yX3_pass, cX3_pass, 5, none)
def mX3_plant : MI := (yX3_plant, cX3_plant, 4, (some .int))
def mX3_reach : MI := (yX3_reach, cX3_reach, 3, (some .int))
def mX3_reaching : MI := (yX3_reaching, cX3_reaching, 6, (some .int))
def mX3_stung : MI := (yX3_stung, cX3_stung, 4, (some .int))
def mX3_takeOver : MI := (yX3_takeOver, cX3_takeOver, 3, none)
def mX3_taken : MI := (yX3_taken, cX3_taken, 6, (some .int))
def mX3_treesInReach : MI := (yX3_treesInReach, cX3_treesInReach, 6, (some .int))
def mX4_begin : MI := (yX4_begin, cX4_begin, 4, none)
def mX4_find : MI := (yX4_find, cX4_find, 4, (some .int))
def mX4_holds : MI := (yX4_holds, cX4_holds, 3, (some .boolean))
def mX4_init : MI := (yX4_init, cX4_init, 1, none)
def mX4_put : MI := (yX4_put, cX4_put, 4, none)
def mX5_append : MI := (yX5_append, cX5_append, 2, (some .int))
def mX5_demand : MI := (yX5_demand, cX5_demand, 2, none)
def mX5_digit : MI := (yX5_digit, cX5_digit, 4, (some .int))
def mX5_fail : MI := (yX5_fail, cX5_fail, 2, none)
def mX5_init : MI := (yX5_init, cX5_init, 1, none)
def mX5_isDigit : MI := (yX5_isDigit, cX5_isDigit, 1, (some .boolean))
def mX5_kindLetter : MI := (yX5_kindLetter, cX5_kindLetter, 1, (some .int))
def mX5_next : MI := (yX5_next, cX5_next, 1, (some .int))
def mX5_number : MI := (yX5_number, cX5_number, 5, (some .int))
def mX5_passes : MI := (yX5_passes, cX5_passes, 2, (some .boolean))
def mX5_read : MI := (yX5_read, cX5_read, 2, (some .int))
def mX5_readLadders : MI := (yX5_readLadders, cX5_readLadders, 9, none)
def mX5_readTrees : MI := (yX5_readTrees, cX5_readTrees, 7, none)
def mX6_ahead : MI := (yX6_ahead, cX6_ahead, 4, (some .int))
def mX6_at : MI := (yX6_at, cX6_at, 3, (some .int))
def mX6_commonDivisor : MI := (yX6_commonDivisor, cX6_commonDivisor, 6, (some .int))
def mX6_copy : MI := (yX6_copy, cX6_copy, 8, (some .int))
def mX6_count : MI := (yX6_count, cX6_count, 2, (some .int))
def mX6_days : MI := (yX6_days, cX6_days, 4, (some .int))
def mX6_drift : MI := (yX6_drift, cX6_drift, 4, (some .int))
def mX6_drop : MI := (yX6_drop, cX6_drop, 2, (some .int))
def mX6_film : MI := (yX6_film, cX6_film, 10, (some .int))
def mX6_fruit : MI := (yX6_fruit, cX6_fruit, 6, (some .int))
def mX6_gathered : MI := (yX6_gathered, cX6_gathered, 2, (some .int))
def mX6_image : MI := (yX6_image, cX6_image, 1, (some .int))
def mX6_init : MI := (yX6_init, cX6_init, 2, none)
def mX6_isLane : MI := (yX6_isLane, cX6_isLane, 1, (some .boolean))
def mX6_isSheet : MI := (yX6_isSheet, cX6_isSheet, 1, (some .boolean))
def mX6_item : MI := (yX6_item, cX6_item, 7, (some .int))
def mX6_ladder : MI := (yX6_ladder, cX6_ladder, 5, (some .int))
def mX6_larger : MI := (yX6_larger, cX6_larger, 6, (some .int))
def mX6_lean : MI := (yX6_lean, cX6_lean, 4, (some .int))
def mX6_leavesSo : MI := (yX6_leavesSo, cX6_leavesSo, 8, (some .boolean))
def mX6_left : MI := (yX6_left, cX6_left, 9, (some .int))
def mX6_longer : MI := (yX6_longer, cX6_longer, 6, (some .int))
def mX6_luck : MI := (yX6_luck, cX6_luck, 9, (some .int))
def mX6_of : MI := (yX6_of, cX6_of, 3, (some .int))
def mX6_orchard : MI := (yX6_orchard, cX6_orchard, 2, (some .int))
def mX6_plan : MI := (yX6_plan, cX6_plan, 5, (some .int))
def mX6_reachOfDewy : MI := (yX6_reachOfDewy, cX6_reachOfDewy, 2, (some .int))
def mX6_reachOfKind : MI := (yX6_reachOfKind, cX6_reachOfKind, 3, (some .int))
def mX6_reachOfTied : MI := (yX6_reachOfTied, cX6_reachOfTied, 1, (some .int))
def mX6_reached : MI := (yX6_reached, cX6_reached, 3, (some .int))
def mX6_restore : MI := (yX6_restore, cX6_restore, 1, (some .int))
def mX6_round : MI := (yX6_round, cX6_round, 7, (some .int))
def mX6_rule : MI := (yX6_rule, cX6_rule, 4, (some .int))
def mX6_seed : MI := (yX6_seed, cX6_seed, 3, (some .int))
def mX6_shake : MI := (yX6_shake, cX6_shake, 2, (some .int))
def mX6_sheet : MI := (yX6_sheet, cX6_sheet, 4, (some .int))
def mX6_tree : MI := (yX6_tree, cX6_tree, 5, (some .int))
def mX6_type : MI := (yX6_type, cX6_type, 2, (some .int))
def mX6_undo : MI := (yX6_undo, cX6_undo, 1, (some .int))
def mX6_waysToBe : MI := (yX6_waysToBe, cX6_waysToBe, 5, (some .int))
def mX6_within : MI := (yX6_within, cX6_within, 3, (some .boolean))
def mX7_ahead : MI := (yX7_ahead, cX7_ahead, 4, (some .int))
def mX7_allFruit : MI := (yX7_allFruit, cX7_allFruit, 3, (some .int))
def mX7_asides : MI := (yX7_asides, cX7_asides, 2, none)
def mX7_at : MI := (yX7_at, cX7_at, 5, (some .int))
def mX7_backs : MI := (yX7_backs, cX7_backs, 2, none)
def mX7_copy : MI := (yX7_copy, cX7_copy, 8, (some .int))
def mX7_count : MI := (yX7_count, cX7_count, 2, (some .int))
def mX7_days : MI := (yX7_days, cX7_days, 4, (some .int))
def mX7_digit : MI := (yX7_digit, cX7_digit, 4, (some .int))
def mX7_drift : MI := (yX7_drift, cX7_drift, 5, (some .int))
def mX7_drop : MI := (yX7_drop, cX7_drop, 2, (some .int))
def mX7_film : MI := (yX7_film, cX7_film, 8, (some .int))
def mX7_fruit : MI := (yX7_fruit, cX7_fruit, 4, (some .int))
def mX7_gathered : MI := (yX7_gathered, cX7_gathered, 2, (some .int))
def mX7_goesBy : MI := (yX7_goesBy, cX7_goesBy, 5, none)
def mX7_goesOn : MI := (yX7_goesOn, cX7_goesOn, 3, none)
def mX7_here : MI := (yX7_here, cX7_here, 1, (some .int))
def mX7_image : MI := (yX7_image, cX7_image, 2, (some .int))
def mX7_in : MI := (yX7_in, cX7_in, 6, (some .boolean))
def mX7_init : MI := (yX7_init, cX7_init, 2, none)
def mX7_isLadder : MI := (yX7_isLadder, cX7_isLadder, 2, (some .boolean))
def mX7_isLane : MI := (yX7_isLane, cX7_isLane, 1, (some .boolean))
def mX7_isReached : MI := (yX7_isReached, cX7_isReached, 4, (some .boolean))
def mX7_isRipe : MI := (yX7_isRipe, cX7_isRipe, 2, (some .boolean))
def mX7_isSheet : MI := (yX7_isSheet, cX7_isSheet, 1, (some .boolean))
def mX7_isTree : MI := (yX7_isTree, cX7_isTree, 2, (some .boolean))
def mX7_item : MI := (yX7_item, cX7_item, 7, (some .int))
def mX7_ladder : MI := (yX7_ladder, cX7_ladder, 4, (some .int))
def mX7_ladderComes : MI := (yX7_ladderComes, cX7_ladderComes, 6, none)
def mX7_larger : MI := (yX7_larger, cX7_larger, 5, (some .int))
def mX7_lean : MI := (yX7_lean, cX7_lean, 4, (some .int))
def mX7_leaners : MI := (yX7_leaners, cX7_leaners, 4, (some .int))
def mX7_leansAt : MI := (yX7_leansAt, cX7_leansAt, 2, (some .int))
def mX7_left : MI := (yX7_left, cX7_left, 11, (some .int))
def mX7_less : MI := (yX7_less, cX7_less, 2, (some .int))
def mX7_longer : MI := (yX7_longer, cX7_longer, 5, (some .int))
def mX7_luck : MI := (yX7_luck, cX7_luck, 11, (some .int))
def mX7_must : MI := (yX7_must, cX7_must, 2, none)
def mX7_notes : MI := (yX7_notes, cX7_notes, 3, none)
def mX7_number : MI := (yX7_number, cX7_number, 6, (some .int))
def mX7_of : MI := (yX7_of, cX7_of, 3, (some .int))
def mX7_ofLadder : MI := (yX7_ofLadder, cX7_ofLadder, 3, (some .int))
def mX7_ofTree : MI := (yX7_ofTree, cX7_ofTree, 3, (some .int))
def mX7_orchard : MI := (yX7_orchard, cX7_orchard, 4, (some .int))
def mX7_plan : MI := (yX7_plan, cX7_plan, 9, (some .int))
def mX7_power : MI := (yX7_power, cX7_power, 4, (some .int))
def mX7_reached : MI := (yX7_reached, cX7_reached, 3, (some .int))
def mX7_reachers : MI := (yX7_reachers, cX7_reachers, 6, (some .int))
def mX7_reaches : MI := (yX7_reaches, cX7_reaches, 4, (some .int))
def mX7_readLadders : MI := (yX7_readLadders, cX7_readLadders, 8, (some .int))
def mX7_readTrees : MI := (yX7_readTrees, cX7_readTrees, 5, (some .int))
def mX7_restore : MI := (yX7_restore, cX7_restore, 2, (some .int))
def mX7_round : MI := (yX7_round, cX7_round, 10, (some .int))
def mX7_rule : MI := (yX7_rule, cX7_rule, 4, (some .int))
def mX7_seed : MI := (yX7_seed, cX7_seed, 3, (some .int))
def mX7_shake : MI := (yX7_shake, cX7_shake, 2, (some .int))
def mX7_shakes : MI := (yX7_shakes, cX7_shakes, 3, (some .int))
def mX7_sheet : MI := (yX7_sheet, cX7_sheet, 5, (some .int))
def mX7_sign : MI := (yX7_sign, cX7_sign, 2, none)
def mX7_takes : MI := (yX7_takes, cX7_takes, 3, none)
def mX7_tree : MI := (yX7_tree, cX7_tree, 4, (some .int))
def mX7_treeComes : MI := (yX7_treeComes, cX7_treeComes, 5, none)
def mX7_type : MI := (yX7_type, cX7_type, 2, (some .int))
def mX7_undo : MI := (yX7_undo, cX7_undo, 3, (some .int))
def mX7_why : MI := (yX7_why, cX7_why, 5, (some .int))
def mL_law : MI := (yL_law, cL_law, maxLocals, ret)
theorem xw0 : ∀ w ∈ u_ws RX0 TX0 4, w ∈ bigW := bigW_of [198, 200, 202, 204] (by decide +kernel) (by decide +kernel)
theorem xw1 : ∀ w ∈ u_ws RX1 TX1 2, w ∈ bigW := bigW_of [157, 159] (by decide +kernel) (by decide +kernel)
theorem xw2 : ∀ w ∈ u_ws RX2 TX2 7, w ∈ bigW := bigW_of [86, 88, 90, 92, 94, 96, 98] (by decide +kernel) (by decide +kernel)
theorem xw3 : ∀ w ∈ u_ws RX3 TX3 10, w ∈ bigW := bigW_of [124, 126, 128, 130, 132, 134, 136, 138, 140, 142] (by decide +kernel) (by decide +kernel)
theorem xw4 : ∀ w ∈ u_ws RX4 TX4 3, w ∈ bigW := bigW_of [220, 222, 224] (by decide +kernel) (by decide +kernel)
theorem xw5 : ∀ w ∈ u_ws RX5 TX5 4, w ∈ bigW := bigW_of [173, 175, 177, 179] (by decide +kernel) (by decide +kernel)
theorem xw6 : ∀ w ∈ u_ws RX6 TX6 10, w ∈ bigW := bigW_of [238, 240, 242, 244, 246, 248, 250, 252, 254, 256] (by decide +kernel) (by decide +kernel)
theorem xw7 : ∀ w ∈ u_ws RX7 TX7 17, w ∈ bigW := bigW_of [659, 661, 663, 665, 667, 669, 671, 673, 675, 677, 679, 681, 683, 685, 687, 689, 691] (by decide +kernel) (by decide +kernel)
def nestL : List (String × Nat × MethodName × String) := [("OrchardLadders", 9, yX3_init, "OrchardLadders"), ("OrchardLadders", 31, yX5_init, "OrchardLadders"), ("OrchardLadders", 48, yX0_init, "OrchardLadders"), ("OrchardLadders", 59, yX4_init, "OrchardLadders"), ("OrchardLadders$Orchard", 73, yX6_reachOfKind, "OrchardLadders"), ("OrchardLadders$Tape", 87, yX6_within, "OrchardLadders")]
theorem nestL_in : ∀ q ∈ nestL, Cond.methodLinkNest q.1 q.2.1 q.2.2.1 q.2.2.2 ∈ lw_tbl := by
  intro q hq
  simp only [nestL, List.mem_cons, List.not_mem_nil, or_false] at hq
  rcases hq with rfl | rfl | rfl | rfl | rfl | rfl
  · exact List.mem_of_getElem? (i := 50) (by decide +kernel)
  · exact List.mem_of_getElem? (i := 164) (by decide +kernel)
  · exact List.mem_of_getElem? (i := 187) (by decide +kernel)
  · exact List.mem_of_getElem? (i := 210) (by decide +kernel)
  · exact List.mem_of_getElem? (i := 298) (by decide +kernel)
  · exact List.mem_of_getElem? (i := 367) (by decide +kernel)
end
