section
-- ===== PART A: goes FIRST, ahead of the names: the tables' words, and 'selects' of the private methods out of them =====
/-- a private method of a class that the tables say can be made, by its rows of tables_1 -/
def lw_okq (q : MethodName × Nat) : Prop := (q.1.cls ≠ "java/lang/invoke/MethodHandle" ∧ q.1.cls ≠ "java/lang/invoke/VarHandle") ∧ Cond.instantiable q.1.cls q.2 ∈ tables_1 ∧ Cond.privateMethod q.1 ∈ tables_1 ∧ Cond.instanceMethod q.1 ∈ tables_1
theorem lw_p0 : lw_okq (⟨"OrchardLadders", "leavesSo", "(IILOrchardLadders$Sheet;II)Z"⟩, 10) := ⟨⟨by decide +kernel, by decide +kernel⟩, List.mem_of_getElem? (i := 13) (by decide +kernel), List.mem_of_getElem? (i := 575) (by decide +kernel), List.mem_of_getElem? (i := 576) (by decide +kernel)⟩
theorem lw_p1 : lw_okq (⟨"OrchardLaddersModel", "treeComes", "(III)V"⟩, 17) := ⟨⟨by decide +kernel, by decide +kernel⟩, List.mem_of_getElem? (i := 609) (by decide +kernel), List.mem_of_getElem? (i := 676) (by decide +kernel), List.mem_of_getElem? (i := 677) (by decide +kernel)⟩
theorem lw_p2 : lw_okq (⟨"OrchardLaddersModel", "ladderComes", "(IIII)V"⟩, 17) := ⟨⟨by decide +kernel, by decide +kernel⟩, List.mem_of_getElem? (i := 609) (by decide +kernel), List.mem_of_getElem? (i := 686) (by decide +kernel), List.mem_of_getElem? (i := 687) (by decide +kernel)⟩
theorem lw_p3 : lw_okq (⟨"OrchardLaddersModel", "isTree", "(I)Z"⟩, 17) := ⟨⟨by decide +kernel, by decide +kernel⟩, List.mem_of_getElem? (i := 609) (by decide +kernel), List.mem_of_getElem? (i := 694) (by decide +kernel), List.mem_of_getElem? (i := 695) (by decide +kernel)⟩
theorem lw_p4 : lw_okq (⟨"OrchardLaddersModel", "ofTree", "(II)I"⟩, 17) := ⟨⟨by decide +kernel, by decide +kernel⟩, List.mem_of_getElem? (i := 609) (by decide +kernel), List.mem_of_getElem? (i := 698) (by decide +kernel), List.mem_of_getElem? (i := 699) (by decide +kernel)⟩
theorem lw_p5 : lw_okq (⟨"OrchardLaddersModel", "leaners", "(I)I"⟩, 17) := ⟨⟨by decide +kernel, by decide +kernel⟩, List.mem_of_getElem? (i := 609) (by decide +kernel), List.mem_of_getElem? (i := 702) (by decide +kernel), List.mem_of_getElem? (i := 703) (by decide +kernel)⟩
theorem lw_p6 : lw_okq (⟨"OrchardLaddersModel", "leansAt", "(I)I"⟩, 17) := ⟨⟨by decide +kernel, by decide +kernel⟩, List.mem_of_getElem? (i := 609) (by decide +kernel), List.mem_of_getElem? (i := 706) (by decide +kernel), List.mem_of_getElem? (i := 707) (by decide +kernel)⟩
theorem lw_p7 : lw_okq (⟨"OrchardLaddersModel", "ofLadder", "(II)I"⟩, 17) := ⟨⟨by decide +kernel, by decide +kernel⟩, List.mem_of_getElem? (i := 609) (by decide +kernel), List.mem_of_getElem? (i := 710) (by decide +kernel), List.mem_of_getElem? (i := 711) (by decide +kernel)⟩
theorem lw_p8 : lw_okq (⟨"OrchardLaddersModel", "reachers", "(IIZ)I"⟩, 17) := ⟨⟨by decide +kernel, by decide +kernel⟩, List.mem_of_getElem? (i := 609) (by decide +kernel), List.mem_of_getElem? (i := 714) (by decide +kernel), List.mem_of_getElem? (i := 715) (by decide +kernel)⟩
theorem lw_p9 : lw_okq (⟨"OrchardLaddersModel", "isReached", "(III)Z"⟩, 17) := ⟨⟨by decide +kernel, by decide +kernel⟩, List.mem_of_getElem? (i := 609) (by decide +kernel), List.mem_of_getElem? (i := 718) (by decide +kernel), List.mem_of_getElem? (i := 719) (by decide +kernel)⟩
theorem lw_p10 : lw_okq (⟨"OrchardLaddersModel", "isLadder", "(I)Z"⟩, 17) := ⟨⟨by decide +kernel, by decide +kernel⟩, List.mem_of_getElem? (i := 609) (by decide +kernel), List.mem_of_getElem? (i := 729) (by decide +kernel), List.mem_of_getElem? (i := 730) (by decide +kernel)⟩
theorem lw_p11 : lw_okq (⟨"OrchardLaddersModel", "allFruit", "()I"⟩, 17) := ⟨⟨by decide +kernel, by decide +kernel⟩, List.mem_of_getElem? (i := 609) (by decide +kernel), List.mem_of_getElem? (i := 743) (by decide +kernel), List.mem_of_getElem? (i := 744) (by decide +kernel)⟩
theorem lw_p12 : lw_okq (⟨"OrchardLaddersModel", "readTrees", "()I"⟩, 17) := ⟨⟨by decide +kernel, by decide +kernel⟩, List.mem_of_getElem? (i := 609) (by decide +kernel), List.mem_of_getElem? (i := 757) (by decide +kernel), List.mem_of_getElem? (i := 758) (by decide +kernel)⟩
theorem lw_p13 : lw_okq (⟨"OrchardLaddersModel", "here", "()I"⟩, 17) := ⟨⟨by decide +kernel, by decide +kernel⟩, List.mem_of_getElem? (i := 609) (by decide +kernel), List.mem_of_getElem? (i := 761) (by decide +kernel), List.mem_of_getElem? (i := 762) (by decide +kernel)⟩
theorem lw_p14 : lw_okq (⟨"OrchardLaddersModel", "must", "(Z)V"⟩, 17) := ⟨⟨by decide +kernel, by decide +kernel⟩, List.mem_of_getElem? (i := 609) (by decide +kernel), List.mem_of_getElem? (i := 765) (by decide +kernel), List.mem_of_getElem? (i := 766) (by decide +kernel)⟩
theorem lw_p15 : lw_okq (⟨"OrchardLaddersModel", "number", "(II)I"⟩, 17) := ⟨⟨by decide +kernel, by decide +kernel⟩, List.mem_of_getElem? (i := 609) (by decide +kernel), List.mem_of_getElem? (i := 769) (by decide +kernel), List.mem_of_getElem? (i := 770) (by decide +kernel)⟩
def lw_privs_1 : List (MethodName × Nat) := [(⟨"OrchardLadders", "leavesSo", "(IILOrchardLadders$Sheet;II)Z"⟩, 10), (⟨"OrchardLaddersModel", "treeComes", "(III)V"⟩, 17), (⟨"OrchardLaddersModel", "ladderComes", "(IIII)V"⟩, 17), (⟨"OrchardLaddersModel", "isTree", "(I)Z"⟩, 17), (⟨"OrchardLaddersModel", "ofTree", "(II)I"⟩, 17), (⟨"OrchardLaddersModel", "leaners", "(I)I"⟩, 17), (⟨"OrchardLaddersModel", "leansAt", "(I)I"⟩, 17), (⟨"OrchardLaddersModel", "ofLadder", "(II)I"⟩, 17), (⟨"OrchardLaddersModel", "reachers", "(IIZ)I"⟩, 17), (⟨"OrchardLaddersModel", "isReached", "(III)Z"⟩, 17), (⟨"OrchardLaddersModel", "isLadder", "(I)Z"⟩, 17), (⟨"OrchardLaddersModel", "allFruit", "()I"⟩, 17), (⟨"OrchardLaddersModel", "readTrees", "()I"⟩, 17), (⟨"OrchardLaddersModel", "here", "()I"⟩, 17), (⟨"OrchardLaddersModel", "must", "(Z)V"⟩, 17), (⟨"OrchardLaddersModel", "number", "(II)I"⟩, 17)]
theorem lw_r1 : ∀ q ∈ lw_privs_1, lw_okq q := List.forall_mem_cons.mpr ⟨lw_p0, List.forall_mem_cons.mpr ⟨lw_p1, List.forall_mem_cons.mpr ⟨lw_p2, List.forall_mem_cons.mpr ⟨lw_p3, List.forall_mem_cons.mpr ⟨lw_p4, List.forall_mem_cons.mpr ⟨lw_p5, List.forall_mem_cons.mpr ⟨lw_p6, List.forall_mem_cons.mpr ⟨lw_p7, List.forall_mem_cons.mpr ⟨lw_p8, List.forall_mem_cons.mpr ⟨lw_p9, List.forall_mem_cons.mpr ⟨lw_p10, List.forall_mem_cons.mpr ⟨lw_p11, List.forall_mem_cons.mpr ⟨lw_p12, List.forall_mem_cons.mpr ⟨lw_p13, List.forall_mem_cons.mpr ⟨lw_p14, List.forall_mem_cons.mpr ⟨lw_p15, fun _ h => absurd h List.not_mem_nil⟩⟩⟩⟩⟩⟩⟩⟩⟩⟩⟩⟩⟩⟩⟩⟩
theorem lw_p16 : lw_okq (⟨"OrchardLaddersModel", "sign", "(I)V"⟩, 17) := ⟨⟨by decide +kernel, by decide +kernel⟩, List.mem_of_getElem? (i := 609) (by decide +kernel), List.mem_of_getElem? (i := 775) (by decide +kernel), List.mem_of_getElem? (i := 776) (by decide +kernel)⟩
theorem lw_p17 : lw_okq (⟨"OrchardLaddersModel", "readLadders", "(I)I"⟩, 17) := ⟨⟨by decide +kernel, by decide +kernel⟩, List.mem_of_getElem? (i := 609) (by decide +kernel), List.mem_of_getElem? (i := 779) (by decide +kernel), List.mem_of_getElem? (i := 780) (by decide +kernel)⟩
theorem lw_p18 : lw_okq (⟨"OrchardLaddersModel", "digit", "(II)I"⟩, 17) := ⟨⟨by decide +kernel, by decide +kernel⟩, List.mem_of_getElem? (i := 609) (by decide +kernel), List.mem_of_getElem? (i := 783) (by decide +kernel), List.mem_of_getElem? (i := 784) (by decide +kernel)⟩
theorem lw_p19 : lw_okq (⟨"OrchardLaddersModel", "notes", "()V"⟩, 17) := ⟨⟨by decide +kernel, by decide +kernel⟩, List.mem_of_getElem? (i := 609) (by decide +kernel), List.mem_of_getElem? (i := 792) (by decide +kernel), List.mem_of_getElem? (i := 793) (by decide +kernel)⟩
theorem lw_p20 : lw_okq (⟨"OrchardLaddersModel", "goesBy", "(I)V"⟩, 17) := ⟨⟨by decide +kernel, by decide +kernel⟩, List.mem_of_getElem? (i := 609) (by decide +kernel), List.mem_of_getElem? (i := 796) (by decide +kernel), List.mem_of_getElem? (i := 797) (by decide +kernel)⟩
theorem lw_p21 : lw_okq (⟨"OrchardLaddersModel", "isRipe", "(I)Z"⟩, 17) := ⟨⟨by decide +kernel, by decide +kernel⟩, List.mem_of_getElem? (i := 609) (by decide +kernel), List.mem_of_getElem? (i := 800) (by decide +kernel), List.mem_of_getElem? (i := 801) (by decide +kernel)⟩
theorem lw_p22 : lw_okq (⟨"OrchardLaddersModel", "takes", "(II)V"⟩, 17) := ⟨⟨by decide +kernel, by decide +kernel⟩, List.mem_of_getElem? (i := 609) (by decide +kernel), List.mem_of_getElem? (i := 807) (by decide +kernel), List.mem_of_getElem? (i := 808) (by decide +kernel)⟩
theorem lw_p23 : lw_okq (⟨"OrchardLaddersModel", "shakes", "(I)I"⟩, 17) := ⟨⟨by decide +kernel, by decide +kernel⟩, List.mem_of_getElem? (i := 609) (by decide +kernel), List.mem_of_getElem? (i := 819) (by decide +kernel), List.mem_of_getElem? (i := 820) (by decide +kernel)⟩
theorem lw_p24 : lw_okq (⟨"OrchardLaddersModel", "asides", "()V"⟩, 17) := ⟨⟨by decide +kernel, by decide +kernel⟩, List.mem_of_getElem? (i := 609) (by decide +kernel), List.mem_of_getElem? (i := 845) (by decide +kernel), List.mem_of_getElem? (i := 846) (by decide +kernel)⟩
theorem lw_p25 : lw_okq (⟨"OrchardLaddersModel", "goesOn", "(I)V"⟩, 17) := ⟨⟨by decide +kernel, by decide +kernel⟩, List.mem_of_getElem? (i := 609) (by decide +kernel), List.mem_of_getElem? (i := 849) (by decide +kernel), List.mem_of_getElem? (i := 850) (by decide +kernel)⟩
theorem lw_p26 : lw_okq (⟨"OrchardLaddersModel", "backs", "()V"⟩, 17) := ⟨⟨by decide +kernel, by decide +kernel⟩, List.mem_of_getElem? (i := 609) (by decide +kernel), List.mem_of_getElem? (i := 853) (by decide +kernel), List.mem_of_getElem? (i := 854) (by decide +kernel)⟩
theorem lw_p27 : lw_okq (⟨"OrchardLaddersModel", "why", "(IIII)I"⟩, 17) := ⟨⟨by decide +kernel, by decide +kernel⟩, List.mem_of_getElem? (i := 609) (by decide +kernel), List.mem_of_getElem? (i := 916) (by decide +kernel), List.mem_of_getElem? (i := 917) (by decide +kernel)⟩
def lw_privs_2 : List (MethodName × Nat) := [(⟨"OrchardLaddersModel", "sign", "(I)V"⟩, 17), (⟨"OrchardLaddersModel", "readLadders", "(I)I"⟩, 17), (⟨"OrchardLaddersModel", "digit", "(II)I"⟩, 17), (⟨"OrchardLaddersModel", "notes", "()V"⟩, 17), (⟨"OrchardLaddersModel", "goesBy", "(I)V"⟩, 17), (⟨"OrchardLaddersModel", "isRipe", "(I)Z"⟩, 17), (⟨"OrchardLaddersModel", "takes", "(II)V"⟩, 17), (⟨"OrchardLaddersModel", "shakes", "(I)I"⟩, 17), (⟨"OrchardLaddersModel", "asides", "()V"⟩, 17), (⟨"OrchardLaddersModel", "goesOn", "(I)V"⟩, 17), (⟨"OrchardLaddersModel", "backs", "()V"⟩, 17), (⟨"OrchardLaddersModel", "why", "(IIII)I"⟩, 17)]
theorem lw_r2 : ∀ q ∈ lw_privs_2, lw_okq q := List.forall_mem_cons.mpr ⟨lw_p16, List.forall_mem_cons.mpr ⟨lw_p17, List.forall_mem_cons.mpr ⟨lw_p18, List.forall_mem_cons.mpr ⟨lw_p19, List.forall_mem_cons.mpr ⟨lw_p20, List.forall_mem_cons.mpr ⟨lw_p21, List.forall_mem_cons.mpr ⟨lw_p22, List.forall_mem_cons.mpr ⟨lw_p23, List.forall_mem_cons.mpr ⟨lw_p24, List.forall_mem_cons.mpr ⟨lw_p25, List.forall_mem_cons.mpr ⟨lw_p26, List.forall_mem_cons.mpr ⟨lw_p27, fun _ h => absurd h List.not_mem_nil⟩⟩⟩⟩⟩⟩⟩⟩⟩⟩⟩⟩
def lw_privs : List (MethodName × Nat) := lw_privs_1 ++ (lw_privs_2)
def lw_tbl : List Cond := k2_sels lw_privs ++ tables_1
theorem lw_privs_ok : ∀ q ∈ lw_privs, lw_okq q := by
  show ∀ q ∈ lw_privs_1 ++ (lw_privs_2), lw_okq q
  exact List.forall_mem_append.mpr ⟨lw_r1, lw_r2⟩
-- ===== end of PART A =====
end
section
/-! ===== BEGIN words of one list among another's, by their places ===== -/
theorem goodIn_r {big : List Cond} (ws : List Cond) (ps : List Nat) (hp : ws = ps.filterMap (fun i => big[i]?)) (h : ws.all goodWord = true) : GoodIn big ws := by
  intro w hw
  have h1 := List.all_eq_true.mp h w hw
  rw [hp] at hw
  obtain ⟨i, -, hi⟩ := List.mem_filterMap.mp hw
  have hm : w ∈ big := by first | exact List.mem_of_getElem? hi | exact List.getElem?_mem hi
  exact ⟨hm, good_of_word h1⟩
theorem goodIn_app {big a b : List Cond} (ha : GoodIn big a) (hb : GoodIn big b) : GoodIn big (a ++ b) := fun w h => (List.mem_append.mp h).elim (ha w) (hb w)
theorem goodIn_ca {big a b : List Cond} {c : Cond} (ha : GoodIn big (c :: a)) (hb : GoodIn big b) : GoodIn big (c :: (a ++ b)) := fun w h => (List.mem_cons.mp h).elim (fun e => ha w (List.mem_cons.mpr (Or.inl e))) (fun h => (List.mem_append.mp h).elim (fun h => ha w (List.mem_cons.mpr (Or.inr h))) (hb w))
theorem goodIn_sub {big ws : List Cond} (hm : ∀ w ∈ ws, w ∈ big) (h : ws.all goodWord = true) : GoodIn big ws := fun w hw => ⟨hm w hw, good_of_word (List.all_eq_true.mp h w hw)⟩
/-! ===== END ===== -/

/-! ===== BEGIN printed: names, fields, word lists, decode rows ===== -/
def RX0 : String := "OrchardLadders$Choice"
def TX0 : u_T := fun k => match k with
  | 0 => ("OrchardLadders$Choice", "worth", "[I", true)
  | 1 => ("OrchardLadders$Choice", "trees", "[I", true)
  | 2 => ("OrchardLadders$Choice", "places", "[I", true)
  | _ => ("OrchardLadders$Choice", "most", "I", false)
def tyX0 : Nat → FieldType := fun k => match k with
  | 0 => .array .int
  | 1 => .array .int
  | 2 => .array .int
  | _ => .int
abbrev wsX00 : List Cond := u_ws RX0 TX0 4
theorem nmX0 : ∀ a, a < 4 → ∀ b, b < 4 → a ≠ b → (TX0 a).2.1 ≠ (TX0 b).2.1 := by decide +kernel
theorem tyX0_ok : ∀ k, k < 4 → parseFieldDescriptor (TX0 k).2.2.1 = some (tyX0 k) := by decide +kernel
abbrev cX0_init : ByteArray := prog_2_method_1_code
def yX0_init : MethodName := ⟨RX0, "<init>", "()V"⟩
abbrev cX0_seek : ByteArray := prog_2_method_2_code
def yX0_seek : MethodName := ⟨RX0, "seek", "(II)V"⟩
abbrev cX0_worthOf : ByteArray := prog_2_method_3_code
def yX0_worthOf : MethodName := ⟨RX0, "worthOf", "(III)I"⟩
abbrev cX0_spread : ByteArray := prog_2_method_4_code
def yX0_spread : MethodName := ⟨RX0, "spread", "(III)V"⟩
def RX1 : String := "OrchardLadders$History"
def TX1 : u_T := fun k => match k with
  | 0 => ("OrchardLadders$History", "past", "[LOrchardLadders$Moment;", true)
  | _ => ("OrchardLadders$History", "known", "I", false)
def tyX1 : Nat → FieldType := fun k => match k with
  | 0 => .array (.object "OrchardLadders$Moment")
  | _ => .int
abbrev wsX10 : List Cond := u_ws RX1 TX1 2
theorem nmX1 : ∀ a, a < 2 → ∀ b, b < 2 → a ≠ b → (TX1 a).2.1 ≠ (TX1 b).2.1 := by decide +kernel
theorem tyX1_ok : ∀ k, k < 2 → parseFieldDescriptor (TX1 k).2.2.1 = some (tyX1 k) := by decide +kernel
abbrev cX1_init : ByteArray := prog_3_method_1_code
def yX1_init : MethodName := ⟨RX1, "<init>", "()V"⟩
abbrev cX1_become : ByteArray := prog_3_method_2_code
def yX1_become : MethodName := ⟨RX1, "become", "(LOrchardLadders$History;)V"⟩
abbrev cX1_forgetUnlessFull : ByteArray := prog_3_method_3_code
def yX1_forgetUnlessFull : MethodName := ⟨RX1, "forgetUnlessFull", "(I)V"⟩
abbrev cX1_remember : ByteArray := prog_3_method_4_code
def yX1_remember : MethodName := ⟨RX1, "remember", "(LOrchardLadders$Moment;)V"⟩
abbrev cX1_forgetOldest : ByteArray := prog_3_method_5_code
def yX1_forgetOldest : MethodName := ⟨RX1, "forgetOldest", "()V"⟩
abbrev cX1_putBack : ByteArray := prog_3_method_6_code
def yX1_putBack : MethodName := ⟨RX1, "putBack", "(LOrchardLadders$Moment;)I"⟩
def RX2 : String := "OrchardLadders$Moment"
def TX2 : u_T := fun k => match k with
  | 0 => ("OrchardLadders$Moment", "fruit", "[I", true)
  | 1 => ("OrchardLadders$Moment", "leans", "[I", true)
  | 2 => ("OrchardLadders$Moment", "got", "I", false)
  | 3 => ("OrchardLadders$Moment", "paid", "I", false)
  | 4 => ("OrchardLadders$Moment", "lost", "I", false)
  | 5 => ("OrchardLadders$Moment", "day", "I", false)
  | _ => ("OrchardLadders$Moment", "draw", "I", false)
def tyX2 : Nat → FieldType := fun k => match k with
  | 0 => .array .int
  | 1 => .array .int
  | 2 => .int
  | 3 => .int
  | 4 => .int
  | 5 => .int
  | _ => .int
abbrev wsX20 : List Cond := u_ws RX2 TX2 7
theorem nmX2 : ∀ a, a < 7 → ∀ b, b < 7 → a ≠ b → (TX2 a).2.1 ≠ (TX2 b).2.1 := by decide +kernel
theorem tyX2_ok : ∀ k, k < 7 → parseFieldDescriptor (TX2 k).2.2.1 = some (tyX2 k) := by decide +kernel
abbrev cX2_init : ByteArray := prog_4_method_1_code
def yX2_init : MethodName := ⟨RX2, "<init>", "()V"⟩
abbrev cX2_leanNowhere : ByteArray := prog_4_method_2_code
def yX2_leanNowhere : MethodName := ⟨RX2, "leanNowhere", "()V"⟩
abbrev cX2_become : ByteArray := prog_4_method_3_code
def yX2_become : MethodName := ⟨RX2, "become", "(LOrchardLadders$Moment;)V"⟩
abbrev cX2_leaningAt : ByteArray := prog_4_method_4_code
def yX2_leaningAt : MethodName := ⟨RX2, "leaningAt", "(I)I"⟩
abbrev cX2_shakeOff : ByteArray := prog_4_method_5_code
def yX2_shakeOff : MethodName := ⟨RX2, "shakeOff", "(I)I"⟩
def RX3 : String := "OrchardLadders$Orchard"
def TX3 : u_T := fun k => match k with
  | 0 => ("OrchardLadders$Orchard", "trees", "I", false)
  | 1 => ("OrchardLadders$Orchard", "ladders", "I", false)
  | 2 => ("OrchardLadders$Orchard", "basket", "I", false)
  | 3 => ("OrchardLadders$Orchard", "wasps", "I", false)
  | 4 => ("OrchardLadders$Orchard", "high", "[I", true)
  | 5 => ("OrchardLadders$Orchard", "ripe", "[I", true)
  | 6 => ("OrchardLadders$Orchard", "kind", "[I", true)
  | 7 => ("OrchardLadders$Orchard", "length", "[I", true)
  | 8 => ("OrchardLadders$Orchard", "price", "[I", true)
  | _ => ("OrchardLadders$Orchard", "now", "LOrchardLadders$Moment;", true)
def tyX3 : Nat → FieldType := fun k => match k with
  | 0 => .int
  | 1 => .int
  | 2 => .int
  | 3 => .int
  | 4 => .array .int
  | 5 => .array .int
  | 6 => .array .int
  | 7 => .array .int
  | 8 => .array .int
  | _ => .object "OrchardLadders$Moment"
abbrev wsX30 : List Cond := u_ws RX3 TX3 10
theorem nmX3 : ∀ a, a < 10 → ∀ b, b < 10 → a ≠ b → (TX3 a).2.1 ≠ (TX3 b).2.1 := by decide +kernel
theorem tyX3_ok : ∀ k, k < 10 → parseFieldDescriptor (TX3 k).2.2.1 = some (tyX3 k) := by decide +kernel
abbrev cX3_init : ByteArray := prog_5_method_1_code
def yX3_init : MethodName := ⟨RX3, "<init>", "()V"⟩
abbrev cX3_become : ByteArray := prog_5_method_2_code
def yX3_become : MethodName := ⟨RX3, "become", "(LOrchardLadders$Orchard;)V"⟩
abbrev cX3_takeOver : ByteArray := prog_5_method_3_code
def yX3_takeOver : MethodName := ⟨RX3, "takeOver", "(LOrchardLadders$Orchard;)V"⟩
abbrev cX3_becomeTreesAndLadders : ByteArray := prog_5_method_4_code
def yX3_becomeTreesAndLadders : MethodName := ⟨RX3, "becomeTreesAndLadders", "(LOrchardLadders$Orchard;)V"⟩
abbrev cX3_clear : ByteArray := prog_5_method_5_code
def yX3_clear : MethodName := ⟨RX3, "clear", "()V"⟩
abbrev cX3_plant : ByteArray := prog_5_method_6_code
def yX3_plant : MethodName := ⟨RX3, "plant", "(III)I"⟩
abbrev cX3_bring : ByteArray := prog_5_method_7_code
def yX3_bring : MethodName := ⟨RX3, "bring", "(III)I"⟩
abbrev cX3_hasTree : ByteArray := prog_5_method_8_code
def yX3_hasTree : MethodName := ⟨RX3, "hasTree", "(I)Z"⟩
abbrev cX3_hasLadder : ByteArray := prog_5_method_9_code
def yX3_hasLadder : MethodName := ⟨RX3, "hasLadder", "(I)Z"⟩
abbrev cX3_fruitOfAll : ByteArray := prog_5_method_10_code
def yX3_fruitOfAll : MethodName := ⟨RX3, "fruitOfAll", "(LOrchardLadders$Moment;)I"⟩
abbrev cX3_leaningAnywhere : ByteArray := prog_5_method_11_code
def yX3_leaningAnywhere : MethodName := ⟨RX3, "leaningAnywhere", "()I"⟩
abbrev cX3_reach : ByteArray := prog_5_method_12_code
def yX3_reach : MethodName := ⟨RX3, "reach", "(II)I"⟩
abbrev cX3_reaching : ByteArray := prog_5_method_13_code
def yX3_reaching : MethodName := ⟨RX3, "reaching", "(III)I"⟩
abbrev cX3_treesInReach : ByteArray := prog_5_method_14_code
def yX3_treesInReach : MethodName := ⟨RX3, "treesInReach", "(II)I"⟩
abbrev cX3_taken : ByteArray := prog_5_method_15_code
def yX3_taken : MethodName := ⟨RX3, "taken", "(IIIII)I"⟩
abbrev cX3_stung : ByteArray := prog_5_method_16_code
def yX3_stung : MethodName := ⟨RX3, "stung", "(III)I"⟩
abbrev cX3_leftBehind : ByteArray := prog_5_method_17_code
def yX3_leftBehind : MethodName := ⟨RX3, "leftBehind", "(IIII)I"⟩
abbrev cX3_pass : ByteArray := prog_5_method_18_code
def yX3_pass : MethodName := ⟨RX3, "pass", "(LOrchardLadders$Moment;)V"⟩
abbrev cX3_gust : ByteArray := prog_5_method_19_code
def yX3_gust : MethodName := ⟨RX3, "gust", "()V"⟩
abbrev cX3_gotAt : ByteArray := prog_5_method_20_code
def yX3_gotAt : MethodName := ⟨RX3, "gotAt", "(IIII)I"⟩
abbrev cX3_gotWithGuest : ByteArray := prog_5_method_21_code
def yX3_gotWithGuest : MethodName := ⟨RX3, "gotWithGuest", "(IIIIII)I"⟩
abbrev cX3_gotToday : ByteArray := prog_5_method_22_code
def yX3_gotToday : MethodName := ⟨RX3, "gotToday", "(I)I"⟩
def RX4 : String := "OrchardLadders$Sheet"
def TX4 : u_T := fun k => match k with
  | 0 => ("OrchardLadders$Sheet", "items", "[J", true)
  | 1 => ("OrchardLadders$Sheet", "lane", "I", false)
  | _ => ("OrchardLadders$Sheet", "length", "I", false)
def tyX4 : Nat → FieldType := fun k => match k with
  | 0 => .array .long
  | 1 => .int
  | _ => .int
abbrev wsX40 : List Cond := u_ws RX4 TX4 3
theorem nmX4 : ∀ a, a < 3 → ∀ b, b < 3 → a ≠ b → (TX4 a).2.1 ≠ (TX4 b).2.1 := by decide +kernel
theorem tyX4_ok : ∀ k, k < 3 → parseFieldDescriptor (TX4 k).2.2.1 = some (tyX4 k) := by decide +kernel
abbrev cX4_init : ByteArray := prog_6_method_1_code
def yX4_init : MethodName := ⟨RX4, "<init>", "()V"⟩
abbrev cX4_begin : ByteArray := prog_6_method_2_code
def yX4_begin : MethodName := ⟨RX4, "begin", "(II)V"⟩
abbrev cX4_holds : ByteArray := prog_6_method_3_code
def yX4_holds : MethodName := ⟨RX4, "holds", "(II)Z"⟩
abbrev cX4_find : ByteArray := prog_6_method_4_code
def yX4_find : MethodName := ⟨RX4, "find", "(III)I"⟩
abbrev cX4_put : ByteArray := prog_6_method_5_code
def yX4_put : MethodName := ⟨RX4, "put", "(IJ)V"⟩
def RX5 : String := "OrchardLadders$Tape"
def TX5 : u_T := fun k => match k with
  | 0 => ("OrchardLadders$Tape", "letters", "[C", true)
  | 1 => ("OrchardLadders$Tape", "length", "I", false)
  | 2 => ("OrchardLadders$Tape", "place", "I", false)
  | _ => ("OrchardLadders$Tape", "fault", "I", false)
def tyX5 : Nat → FieldType := fun k => match k with
  | 0 => .array .char
  | 1 => .int
  | 2 => .int
  | _ => .int
abbrev wsX50 : List Cond := u_ws RX5 TX5 4
theorem nmX5 : ∀ a, a < 4 → ∀ b, b < 4 → a ≠ b → (TX5 a).2.1 ≠ (TX5 b).2.1 := by decide +kernel
theorem tyX5_ok : ∀ k, k < 4 → parseFieldDescriptor (TX5 k).2.2.1 = some (tyX5 k) := by decide +kernel
abbrev cX5_init : ByteArray := prog_7_method_1_code
def yX5_init : MethodName := ⟨RX5, "<init>", "()V"⟩
abbrev cX5_append : ByteArray := prog_7_method_2_code
def yX5_append : MethodName := ⟨RX5, "append", "(C)I"⟩
abbrev cX5_read : ByteArray := prog_7_method_3_code
def yX5_read : MethodName := ⟨RX5, "read", "(LOrchardLadders$Orchard;)I"⟩
abbrev cX5_readTrees : ByteArray := prog_7_method_4_code
def yX5_readTrees : MethodName := ⟨RX5, "readTrees", "(LOrchardLadders$Orchard;)V"⟩
abbrev cX5_readLadders : ByteArray := prog_7_method_5_code
def yX5_readLadders : MethodName := ⟨RX5, "readLadders", "(LOrchardLadders$Orchard;)V"⟩
abbrev cX5_next : ByteArray := prog_7_method_6_code
def yX5_next : MethodName := ⟨RX5, "next", "()I"⟩
abbrev cX5_fail : ByteArray := prog_7_method_7_code
def yX5_fail : MethodName := ⟨RX5, "fail", "(I)V"⟩
abbrev cX5_passes : ByteArray := prog_7_method_8_code
def yX5_passes : MethodName := ⟨RX5, "passes", "(C)Z"⟩
abbrev cX5_demand : ByteArray := prog_7_method_9_code
def yX5_demand : MethodName := ⟨RX5, "demand", "(C)V"⟩
abbrev cX5_number : ByteArray := prog_7_method_10_code
def yX5_number : MethodName := ⟨RX5, "number", "(II)I"⟩
abbrev cX5_digit : ByteArray := prog_7_method_11_code
def yX5_digit : MethodName := ⟨RX5, "digit", "(II)I"⟩
abbrev cX5_kindLetter : ByteArray := prog_7_method_12_code
def yX5_kindLetter : MethodName := ⟨RX5, "kindLetter", "()I"⟩
abbrev cX5_isDigit : ByteArray := prog_7_method_13_code
def yX5_isDigit : MethodName := ⟨RX5, "isDigit", "(I)Z"⟩
def RX6 : String := "OrchardLadders"
def TX6 : u_T := fun k => match k with
  | 0 => ("OrchardLadders", "orchard", "LOrchardLadders$Orchard;", true)
  | 1 => ("OrchardLadders", "history", "LOrchardLadders$History;", true)
  | 2 => ("OrchardLadders", "keptOrchard", "LOrchardLadders$Orchard;", true)
  | 3 => ("OrchardLadders", "keptHistory", "LOrchardLadders$History;", true)
  | 4 => ("OrchardLadders", "kept", "Z", false)
  | 5 => ("OrchardLadders", "tape", "LOrchardLadders$Tape;", true)
  | 6 => ("OrchardLadders", "draft", "LOrchardLadders$Orchard;", true)
  | 7 => ("OrchardLadders", "later", "LOrchardLadders$Moment;", true)
  | 8 => ("OrchardLadders", "choice", "LOrchardLadders$Choice;", true)
  | _ => ("OrchardLadders", "sheets", "[LOrchardLadders$Sheet;", true)
def tyX6 : Nat → FieldType := fun k => match k with
  | 0 => .object "OrchardLadders$Orchard"
  | 1 => .object "OrchardLadders$History"
  | 2 => .object "OrchardLadders$Orchard"
  | 3 => .object "OrchardLadders$History"
  | 4 => .boolean
  | 5 => .object "OrchardLadders$Tape"
  | 6 => .object "OrchardLadders$Orchard"
  | 7 => .object "OrchardLadders$Moment"
  | 8 => .object "OrchardLadders$Choice"
  | _ => .array (.object "OrchardLadders$Sheet")
abbrev wsX60 : List Cond := u_ws RX6 TX6 10
theorem nmX6 : ∀ a, a < 10 → ∀ b, b < 10 → a ≠ b → (TX6 a).2.1 ≠ (TX6 b).2.1 := by decide +kernel
theorem tyX6_ok : ∀ k, k < 10 → parseFieldDescriptor (TX6 k).2.2.1 = some (tyX6 k) := by decide +kernel
abbrev cX6_init : ByteArray := prog_1_method_1_code
def yX6_init : MethodName := ⟨RX6, "<init>", "()V"⟩
abbrev cX6_tree : ByteArray := prog_1_method_2_code
def yX6_tree : MethodName := ⟨RX6, "tree", "(III)I"⟩
abbrev cX6_ladder : ByteArray := prog_1_method_3_code
def yX6_ladder : MethodName := ⟨RX6, "ladder", "(III)I"⟩
abbrev cX6_of : ByteArray := prog_1_method_4_code
def yX6_of : MethodName := ⟨RX6, "of", "(II)I"⟩
abbrev cX6_at : ByteArray := prog_1_method_5_code
def yX6_at : MethodName := ⟨RX6, "at", "(II)I"⟩
abbrev cX6_rule : ByteArray := prog_1_method_6_code
def yX6_rule : MethodName := ⟨RX6, "rule", "(II)I"⟩
abbrev cX6_type : ByteArray := prog_1_method_7_code
def yX6_type : MethodName := ⟨RX6, "type", "(I)I"⟩
abbrev cX6_orchard : ByteArray := prog_1_method_8_code
def yX6_orchard : MethodName := ⟨RX6, "orchard", "()I"⟩
abbrev cX6_count : ByteArray := prog_1_method_9_code
def yX6_count : MethodName := ⟨RX6, "count", "(I)I"⟩
abbrev cX6_days : ByteArray := prog_1_method_10_code
def yX6_days : MethodName := ⟨RX6, "days", "(I)I"⟩
abbrev cX6_lean : ByteArray := prog_1_method_11_code
def yX6_lean : MethodName := ⟨RX6, "lean", "(II)I"⟩
abbrev cX6_shake : ByteArray := prog_1_method_12_code
def yX6_shake : MethodName := ⟨RX6, "shake", "(I)I"⟩
abbrev cX6_drift : ByteArray := prog_1_method_13_code
def yX6_drift : MethodName := ⟨RX6, "drift", "(I)I"⟩
abbrev cX6_undo : ByteArray := prog_1_method_14_code
def yX6_undo : MethodName := ⟨RX6, "undo", "()I"⟩
abbrev cX6_seed : ByteArray := prog_1_method_15_code
def yX6_seed : MethodName := ⟨RX6, "seed", "(I)I"⟩
abbrev cX6_ahead : ByteArray := prog_1_method_16_code
def yX6_ahead : MethodName := ⟨RX6, "ahead", "(II)I"⟩
abbrev cX6_fruit : ByteArray := prog_1_method_17_code
def yX6_fruit : MethodName := ⟨RX6, "fruit", "(II)I"⟩
abbrev cX6_reached : ByteArray := prog_1_method_18_code
def yX6_reached : MethodName := ⟨RX6, "reached", "(II)I"⟩
abbrev cX6_gathered : ByteArray := prog_1_method_19_code
def yX6_gathered : MethodName := ⟨RX6, "gathered", "()I"⟩
abbrev cX6_plan : ByteArray := prog_1_method_20_code
def yX6_plan : MethodName := ⟨RX6, "plan", "(II)I"⟩
abbrev cX6_round : ByteArray := prog_1_method_21_code
def yX6_round : MethodName := ⟨RX6, "round", "(III)I"⟩
abbrev cX6_longer : ByteArray := prog_1_method_22_code
def yX6_longer : MethodName := ⟨RX6, "longer", "(II)I"⟩
abbrev cX6_larger : ByteArray := prog_1_method_23_code
def yX6_larger : MethodName := ⟨RX6, "larger", "(II)I"⟩
abbrev cX6_luck : ByteArray := prog_1_method_24_code
def yX6_luck : MethodName := ⟨RX6, "luck", "(III)I"⟩
abbrev cX6_image : ByteArray := prog_1_method_25_code
def yX6_image : MethodName := ⟨RX6, "image", "()I"⟩
abbrev cX6_restore : ByteArray := prog_1_method_26_code
def yX6_restore : MethodName := ⟨RX6, "restore", "()I"⟩
abbrev cX6_left : ByteArray := prog_1_method_27_code
def yX6_left : MethodName := ⟨RX6, "left", "(IIIII)I"⟩
abbrev cX6_film : ByteArray := prog_1_method_28_code
def yX6_film : MethodName := ⟨RX6, "film", "(IIIII)I"⟩
abbrev cX6_sheet : ByteArray := prog_1_method_29_code
def yX6_sheet : MethodName := ⟨RX6, "sheet", "(III)I"⟩
abbrev cX6_drop : ByteArray := prog_1_method_30_code
def yX6_drop : MethodName := ⟨RX6, "drop", "(I)I"⟩
abbrev cX6_item : ByteArray := prog_1_method_31_code
def yX6_item : MethodName := ⟨RX6, "item", "(IIIJ)I"⟩
abbrev cX6_copy : ByteArray := prog_1_method_32_code
def yX6_copy : MethodName := ⟨RX6, "copy", "(IIIII)I"⟩
abbrev cX6_within : ByteArray := prog_1_method_33_code
def yX6_within : MethodName := ⟨RX6, "within", "(III)Z"⟩
abbrev cX6_isSheet : ByteArray := prog_1_method_34_code
def yX6_isSheet : MethodName := ⟨RX6, "isSheet", "(I)Z"⟩
abbrev cX6_isLane : ByteArray := prog_1_method_35_code
def yX6_isLane : MethodName := ⟨RX6, "isLane", "(I)Z"⟩
abbrev cX6_reachOfKind : ByteArray := prog_1_method_36_code
def yX6_reachOfKind : MethodName := ⟨RX6, "reachOfKind", "(III)I"⟩
abbrev cX6_reachOfDewy : ByteArray := prog_1_method_37_code
def yX6_reachOfDewy : MethodName := ⟨RX6, "reachOfDewy", "(II)I"⟩
abbrev cX6_reachOfTied : ByteArray := prog_1_method_38_code
def yX6_reachOfTied : MethodName := ⟨RX6, "reachOfTied", "(I)I"⟩
abbrev cX6_waysToBe : ByteArray := prog_1_method_39_code
def yX6_waysToBe : MethodName := ⟨RX6, "waysToBe", "(III)I"⟩
abbrev cX6_commonDivisor : ByteArray := prog_1_method_40_code
def yX6_commonDivisor : MethodName := ⟨RX6, "commonDivisor", "(II)I"⟩
abbrev cX6_leavesSo : ByteArray := prog_1_method_41_code
def yX6_leavesSo : MethodName := ⟨RX6, "leavesSo", "(IILOrchardLadders$Sheet;II)Z"⟩
def RX7 : String := "OrchardLaddersModel"
def TX7 : u_T := fun k => match k with
  | 0 => ("OrchardLaddersModel", "now", "[I", true)
  | 1 => ("OrchardLaddersModel", "tape", "[I", true)
  | 2 => ("OrchardLaddersModel", "typed", "I", false)
  | 3 => ("OrchardLaddersModel", "place", "I", false)
  | 4 => ("OrchardLaddersModel", "isFault", "Z", false)
  | 5 => ("OrchardLaddersModel", "readOnes", "[I", true)
  | 6 => ("OrchardLaddersModel", "read", "[I", true)
  | 7 => ("OrchardLaddersModel", "undone", "[I", true)
  | 8 => ("OrchardLaddersModel", "undos", "I", false)
  | 9 => ("OrchardLaddersModel", "aside", "[I", true)
  | 10 => ("OrchardLaddersModel", "kept", "[I", true)
  | 11 => ("OrchardLaddersModel", "keptUndos", "I", false)
  | 12 => ("OrchardLaddersModel", "isKept", "Z", false)
  | 13 => ("OrchardLaddersModel", "lanes", "[I", true)
  | 14 => ("OrchardLaddersModel", "sizes", "[I", true)
  | 15 => ("OrchardLaddersModel", "items", "[J", true)
  | _ => ("OrchardLaddersModel", "moved", "[J", true)
def tyX7 : Nat → FieldType := fun k => match k with
  | 0 => .array .int
  | 1 => .array .int
  | 2 => .int
  | 3 => .int
  | 4 => .boolean
  | 5 => .array .int
  | 6 => .array .int
  | 7 => .array .int
  | 8 => .int
  | 9 => .array .int
  | 10 => .array .int
  | 11 => .int
  | 12 => .boolean
  | 13 => .array .int
  | 14 => .array .int
  | 15 => .array .long
  | _ => .array .long
abbrev wsX70 : List Cond := u_ws RX7 TX7 17
theorem nmX7 : ∀ a, a < 17 → ∀ b, b < 17 → a ≠ b → (TX7 a).2.1 ≠ (TX7 b).2.1 := by decide +kernel
theorem tyX7_ok : ∀ k, k < 17 → parseFieldDescriptor (TX7 k).2.2.1 = some (tyX7 k) := by decide +kernel
abbrev cX7_in : ByteArray := prog_9_method_2_code
def yX7_in : MethodName := ⟨RX7, "in", "(JJJ)Z"⟩
abbrev cX7_init : ByteArray := prog_9_method_3_code
def yX7_init : MethodName := ⟨RX7, "<init>", "()V"⟩
abbrev cX7_isTree : ByteArray := prog_9_method_4_code
def yX7_isTree : MethodName := ⟨RX7, "isTree", "(I)Z"⟩
abbrev cX7_isLadder : ByteArray := prog_9_method_5_code
def yX7_isLadder : MethodName := ⟨RX7, "isLadder", "(I)Z"⟩
abbrev cX7_ofTree : ByteArray := prog_9_method_6_code
def yX7_ofTree : MethodName := ⟨RX7, "ofTree", "(II)I"⟩
abbrev cX7_ofLadder : ByteArray := prog_9_method_7_code
def yX7_ofLadder : MethodName := ⟨RX7, "ofLadder", "(II)I"⟩
abbrev cX7_leansAt : ByteArray := prog_9_method_8_code
def yX7_leansAt : MethodName := ⟨RX7, "leansAt", "(I)I"⟩
abbrev cX7_reaches : ByteArray := prog_9_method_9_code
def yX7_reaches : MethodName := ⟨RX7, "reaches", "(III)I"⟩
abbrev cX7_isReached : ByteArray := prog_9_method_10_code
def yX7_isReached : MethodName := ⟨RX7, "isReached", "(III)Z"⟩
abbrev cX7_isRipe : ByteArray := prog_9_method_11_code
def yX7_isRipe : MethodName := ⟨RX7, "isRipe", "(I)Z"⟩
abbrev cX7_less : ByteArray := prog_9_method_12_code
def yX7_less : MethodName := ⟨RX7, "less", "(II)I"⟩
abbrev cX7_takes : ByteArray := prog_9_method_13_code
def yX7_takes : MethodName := ⟨RX7, "takes", "(II)V"⟩
abbrev cX7_goesBy : ByteArray := prog_9_method_14_code
def yX7_goesBy : MethodName := ⟨RX7, "goesBy", "(I)V"⟩
abbrev cX7_goesOn : ByteArray := prog_9_method_15_code
def yX7_goesOn : MethodName := ⟨RX7, "goesOn", "(I)V"⟩
abbrev cX7_allFruit : ByteArray := prog_9_method_16_code
def yX7_allFruit : MethodName := ⟨RX7, "allFruit", "()I"⟩
abbrev cX7_treeComes : ByteArray := prog_9_method_17_code
def yX7_treeComes : MethodName := ⟨RX7, "treeComes", "(III)V"⟩
abbrev cX7_ladderComes : ByteArray := prog_9_method_18_code
def yX7_ladderComes : MethodName := ⟨RX7, "ladderComes", "(IIII)V"⟩
abbrev cX7_tree : ByteArray := prog_9_method_19_code
def yX7_tree : MethodName := ⟨RX7, "tree", "(III)I"⟩
abbrev cX7_ladder : ByteArray := prog_9_method_20_code
def yX7_ladder : MethodName := ⟨RX7, "ladder", "(III)I"⟩
abbrev cX7_reachers : ByteArray := prog_9_method_21_code
def yX7_reachers : MethodName := ⟨RX7, "reachers", "(IIZ)I"⟩
abbrev cX7_leaners : ByteArray := prog_9_method_22_code
def yX7_leaners : MethodName := ⟨RX7, "leaners", "(I)I"⟩
abbrev cX7_of : ByteArray := prog_9_method_23_code
def yX7_of : MethodName := ⟨RX7, "of", "(II)I"⟩
abbrev cX7_at : ByteArray := prog_9_method_24_code
def yX7_at : MethodName := ⟨RX7, "at", "(II)I"⟩
abbrev cX7_rule : ByteArray := prog_9_method_25_code
def yX7_rule : MethodName := ⟨RX7, "rule", "(II)I"⟩
abbrev cX7_count : ByteArray := prog_9_method_26_code
def yX7_count : MethodName := ⟨RX7, "count", "(I)I"⟩
abbrev cX7_type : ByteArray := prog_9_method_27_code
def yX7_type : MethodName := ⟨RX7, "type", "(I)I"⟩
abbrev cX7_here : ByteArray := prog_9_method_28_code
def yX7_here : MethodName := ⟨RX7, "here", "()I"⟩
abbrev cX7_must : ByteArray := prog_9_method_29_code
def yX7_must : MethodName := ⟨RX7, "must", "(Z)V"⟩
abbrev cX7_sign : ByteArray := prog_9_method_30_code
def yX7_sign : MethodName := ⟨RX7, "sign", "(I)V"⟩
abbrev cX7_digit : ByteArray := prog_9_method_31_code
def yX7_digit : MethodName := ⟨RX7, "digit", "(II)I"⟩
abbrev cX7_number : ByteArray := prog_9_method_32_code
def yX7_number : MethodName := ⟨RX7, "number", "(II)I"⟩
abbrev cX7_readTrees : ByteArray := prog_9_method_33_code
def yX7_readTrees : MethodName := ⟨RX7, "readTrees", "()I"⟩
abbrev cX7_readLadders : ByteArray := prog_9_method_34_code
def yX7_readLadders : MethodName := ⟨RX7, "readLadders", "(I)I"⟩
abbrev cX7_orchard : ByteArray := prog_9_method_35_code
def yX7_orchard : MethodName := ⟨RX7, "orchard", "()I"⟩
abbrev cX7_notes : ByteArray := prog_9_method_36_code
def yX7_notes : MethodName := ⟨RX7, "notes", "()V"⟩
abbrev cX7_days : ByteArray := prog_9_method_37_code
def yX7_days : MethodName := ⟨RX7, "days", "(I)I"⟩
abbrev cX7_lean : ByteArray := prog_9_method_38_code
def yX7_lean : MethodName := ⟨RX7, "lean", "(II)I"⟩
abbrev cX7_shakes : ByteArray := prog_9_method_39_code
def yX7_shakes : MethodName := ⟨RX7, "shakes", "(I)I"⟩
abbrev cX7_shake : ByteArray := prog_9_method_40_code
def yX7_shake : MethodName := ⟨RX7, "shake", "(I)I"⟩
abbrev cX7_drift : ByteArray := prog_9_method_41_code
def yX7_drift : MethodName := ⟨RX7, "drift", "(I)I"⟩
abbrev cX7_undo : ByteArray := prog_9_method_42_code
def yX7_undo : MethodName := ⟨RX7, "undo", "()I"⟩
abbrev cX7_seed : ByteArray := prog_9_method_43_code
def yX7_seed : MethodName := ⟨RX7, "seed", "(I)I"⟩
abbrev cX7_asides : ByteArray := prog_9_method_44_code
def yX7_asides : MethodName := ⟨RX7, "asides", "()V"⟩
abbrev cX7_backs : ByteArray := prog_9_method_45_code
def yX7_backs : MethodName := ⟨RX7, "backs", "()V"⟩
abbrev cX7_ahead : ByteArray := prog_9_method_46_code
def yX7_ahead : MethodName := ⟨RX7, "ahead", "(II)I"⟩
abbrev cX7_fruit : ByteArray := prog_9_method_47_code
def yX7_fruit : MethodName := ⟨RX7, "fruit", "(II)I"⟩
abbrev cX7_reached : ByteArray := prog_9_method_48_code
def yX7_reached : MethodName := ⟨RX7, "reached", "(II)I"⟩
abbrev cX7_gathered : ByteArray := prog_9_method_49_code
def yX7_gathered : MethodName := ⟨RX7, "gathered", "()I"⟩
abbrev cX7_power : ByteArray := prog_9_method_50_code
def yX7_power : MethodName := ⟨RX7, "power", "(II)I"⟩
abbrev cX7_plan : ByteArray := prog_9_method_51_code
def yX7_plan : MethodName := ⟨RX7, "plan", "(II)I"⟩
abbrev cX7_round : ByteArray := prog_9_method_52_code
def yX7_round : MethodName := ⟨RX7, "round", "(III)I"⟩
abbrev cX7_longer : ByteArray := prog_9_method_53_code
def yX7_longer : MethodName := ⟨RX7, "longer", "(II)I"⟩
abbrev cX7_larger : ByteArray := prog_9_method_54_code
def yX7_larger : MethodName := ⟨RX7, "larger", "(II)I"⟩
abbrev cX7_luck : ByteArray := prog_9_method_55_code
def yX7_luck : MethodName := ⟨RX7, "luck", "(III)I"⟩
abbrev cX7_image : ByteArray := prog_9_method_56_code
def yX7_image : MethodName := ⟨RX7, "image", "()I"⟩
abbrev cX7_restore : ByteArray := prog_9_method_57_code
def yX7_restore : MethodName := ⟨RX7, "restore", "()I"⟩
abbrev cX7_isSheet : ByteArray := prog_9_method_58_code
def yX7_isSheet : MethodName := ⟨RX7, "isSheet", "(I)Z"⟩
abbrev cX7_isLane : ByteArray := prog_9_method_59_code
def yX7_isLane : MethodName := ⟨RX7, "isLane", "(I)Z"⟩
abbrev cX7_why : ByteArray := prog_9_method_60_code
def yX7_why : MethodName := ⟨RX7, "why", "(IIII)I"⟩
abbrev cX7_left : ByteArray := prog_9_method_61_code
def yX7_left : MethodName := ⟨RX7, "left", "(IIIII)I"⟩
abbrev cX7_film : ByteArray := prog_9_method_62_code
def yX7_film : MethodName := ⟨RX7, "film", "(IIIII)I"⟩
abbrev cX7_sheet : ByteArray := prog_9_method_63_code
def yX7_sheet : MethodName := ⟨RX7, "sheet", "(III)I"⟩
abbrev cX7_drop : ByteArray := prog_9_method_64_code
def yX7_drop : MethodName := ⟨RX7, "drop", "(I)I"⟩
abbrev cX7_item : ByteArray := prog_9_method_65_code
def yX7_item : MethodName := ⟨RX7, "item", "(IIIJ)I"⟩
abbrev cX7_copy : ByteArray := prog_9_method_66_code
def yX7_copy : MethodName := ⟨RX7, "copy", "(IIIII)I"⟩
def RJ6 : String := "java/lang/Integer"
def TJ6 : u_T := fun k => match k with
  | _ => ("", "", "", false)
def tyJ6 : Nat → FieldType := fun k => match k with
  | _ => .int
abbrev wsJ60 : List Cond := u_ws RJ6 TJ6 0
theorem nmJ6 : ∀ a, a < 0 → ∀ b, b < 0 → a ≠ b → (TJ6 a).2.1 ≠ (TJ6 b).2.1 := by decide +kernel
theorem tyJ6_ok : ∀ k, k < 0 → parseFieldDescriptor (TJ6 k).2.2.1 = some (tyJ6 k) := by decide +kernel
abbrev cJ6_bitCount_0f7a4 : ByteArray := prog_10_method_49_code
def yJ6_bitCount_0f7a4 : MethodName := ⟨RJ6, "bitCount", "(I)I"⟩
def RJ9 : String := "java/lang/Math"
def TJ9 : u_T := fun k => match k with
  | _ => ("", "", "", false)
def tyJ9 : Nat → FieldType := fun k => match k with
  | _ => .int
abbrev wsJ90 : List Cond := u_ws RJ9 TJ9 0
theorem nmJ9 : ∀ a, a < 0 → ∀ b, b < 0 → a ≠ b → (TJ9 a).2.1 ≠ (TJ9 b).2.1 := by decide +kernel
theorem tyJ9_ok : ∀ k, k < 0 → parseFieldDescriptor (TJ9 k).2.2.1 = some (tyJ9 k) := by decide +kernel
abbrev cJ9_max_7cf53 : ByteArray := prog_11_method_65_code
def yJ9_max_7cf53 : MethodName := ⟨RJ9, "max", "(II)I"⟩
abbrev cJ9_min_7cf53 : ByteArray := prog_11_method_69_code
def yJ9_min_7cf53 : MethodName := ⟨RJ9, "min", "(II)I"⟩
def RJ10 : String := "java/lang/System"
def TJ10 : u_T := fun k => match k with
  | _ => ("", "", "", false)
def tyJ10 : Nat → FieldType := fun k => match k with
  | _ => .int
abbrev wsJ100 : List Cond := u_ws RJ10 TJ10 0
theorem nmJ10 : ∀ a, a < 0 → ∀ b, b < 0 → a ≠ b → (TJ10 a).2.1 ≠ (TJ10 b).2.1 := by decide +kernel
theorem tyJ10_ok : ∀ k, k < 0 → parseFieldDescriptor (TJ10 k).2.2.1 = some (tyJ10 k) := by decide +kernel
def RL : String := "OrchardLaddersLaw"
abbrev cL_law : ByteArray := code
def yL_law : MethodName := ⟨RL, "law", "([I)Z"⟩
abbrev vwCl : List vw_C := [(RX0, TX0, 4), (RX1, TX1, 2), (RX2, TX2, 7), (RX3, TX3, 10), (RX4, TX4, 3), (RX5, TX5, 4), (RX6, TX6, 10), (RX7, TX7, 17)]

def bigW : List Cond := lw_tbl.filter goodWord
theorem bigW_at {w : Cond} (i : Nat) (h : lw_tbl[i]? = some w) (hg : goodWord w = true) : w ∈ bigW := List.mem_filter.mpr ⟨List.mem_of_getElem? h, hg⟩
theorem bigW_of {ws : List Cond} (ps : List Nat) (hp : ws = ps.filterMap (fun i => lw_tbl[i]?)) (h : ws.all goodWord = true) : ∀ w ∈ ws, w ∈ bigW := by
  intro w hw
  have h1 := List.all_eq_true.mp h w hw
  rw [hp] at hw
  obtain ⟨i, -, hi⟩ := List.mem_filterMap.mp hw
  exact bigW_at i hi h1
abbrev MI : Type := MethodName × ByteArray × Nat × Option FieldType
def mJ6_bitCount_0f7a4 : MI := (yJ6_bitCount_0f7a4, cJ6_bitCount_0f7a4, 1, (some .int))
def mJ9_max_7cf53 : MI := (yJ9_max_7cf53, cJ9_max_7cf53, 2, (some .int))
def mJ9_min_7cf53 : MI := (yJ9_min_7cf53, cJ9_min_7cf53, 2, (some .int))
def mX0_init : MI := (yX0_init, cX0_init, 1, none)
def mX0_seek : MI := (yX0_seek, cX0_seek, 7, none)
def mX0_spread : MI := (yX0_spread, cX0_spread, 6, none)
def mX0_worthOf : MI := (yX0_worthOf, cX0_worthOf, 7, (some .int))
def mX1_become : MI := (yX1_become, cX1_become, 3, none)
def mX1_forgetOldest : MI := (yX1_forgetOldest, cX1_forgetOldest, 3, none)
def mX1_forgetUnlessFull : MI := (yX1_forgetUnlessFull, cX1_forgetUnlessFull, 2, none)
def mX1_init : MI := (yX1_init, cX1_init, 2, none)
def mX1_putBack : MI := (yX1_putBack, cX1_putBack, 2, (some .int))
def mX1_remember : MI := (yX1_remember, cX1_remember, 2, none)
def mX2_become : MI := (yX2_become, cX2_become, 2, none)
def mX2_init : MI := (yX2_init, cX2_init, 1, none)
def mX2_leanNowhere : MI := (yX2_leanNowhere, cX2_leanNowhere, 2, none)
def mX2_leaningAt : MI := (yX2_leaningAt, cX2_leaningAt, 4, (some .int))
def mX2_shakeOff : MI := (yX2_shakeOff, cX2_shakeOff, 3, (some .int))
def mX3_become : MI := (yX3_become, cX3_become, 2, none)
def mX3_becomeTreesAndLadders : MI := (yX3_becomeTreesAndLadders, cX3_becomeTreesAndLadders, 2, none)
def mX3_bring : MI := (yX3_bring, cX3_bring, 4, (some .int))
def mX3_clear : MI := (yX3_clear, cX3_clear, 1, none)
def mX3_fruitOfAll : MI := (yX3_fruitOfAll, cX3_fruitOfAll, 4, (some .int))
def mX3_gotAt : MI := (yX3_gotAt, cX3_gotAt, 5, (some .int))
def mX3_gotToday : MI := (yX3_gotToday, cX3_gotToday, 4, (some .int))
def mX3_gotWithGuest : MI := (yX3_gotWithGuest, cX3_gotWithGuest, 12, (some .int))
def mX3_gust : MI := (yX3_gust, cX3_gust, 2, none)
def mX3_hasLadder : MI := (yX3_hasLadder, cX3_hasLadder, 2, (some .boolean))
def mX3_hasTree : MI := (yX3_hasTree, cX3_hasTree, 2, (some .boolean))
def mX3_init : MI := (yX3_init, cX3_init, 1, none)
def mX3_leaningAnywhere : MI := (yX3_leaningAnywhere, cX3_leaningAnywhere, 3, (some .int))
def mX3_leftBehind : MI := (yX3_leftBehind, cX3_leftBehind, 6, (some .int))
def mX3_pass : MI := (yX3_pass, cX3_pass, 5, none)
def mX3_plant : MI := (yX3_plant, cX3_plant, 4, (some .int))
def mX3_reach : MI := (yX3_reach, cX3_reach, 3, (some .int))
def mX3_reaching : MI := (yX3_reaching, cX3_reaching, 6, (some .int))
def mX3_stung : MI := (yX3_stung, cX3_stung, 4, (some .int))
def mX3_takeOver : MI := (yX3_takeOver, cX3_takeOver, 3, none)
def mX3_taken : MI := (yX3_taken, cX3_taken, 6, (some .int))
def mX3_treesInReach : MI := (yX3_treesInReach, cX3_treesInReach, 6, (some .int))
def mX4_begin : MI := (yX4_begin, cX4_begin, 4, none)
def mX4_find : MI := (yX4_find, cX4_find, 4, (some .int))
def mX4_holds : MI := (yX4_holds, cX4_holds, 3, (some .boolean))
def mX4_init : MI := (yX4_init, cX4_init, 1, none)
def mX4_put : MI := (yX4_put, cX4_put, 4, none)
def mX5_append : MI := (yX5_append, cX5_append, 2, (some .int))
def mX5_demand : MI := (yX5_demand, cX5_demand, 2, none)
def mX5_digit : MI := (yX5_digit, cX5_digit, 4, (some .int))
def mX5_fail : MI := (yX5_fail, cX5_fail, 2, none)
def mX5_init : MI := (yX5_init, cX5_init, 1, none)
def mX5_isDigit : MI := (yX5_isDigit, cX5_isDigit, 1, (some .boolean))
def mX5_kindLetter : MI := (yX5_kindLetter, cX5_kindLetter, 1, (some .int))
def mX5_next : MI := (yX5_next, cX5_next, 1, (some .int))
def mX5_number : MI := (yX5_number, cX5_number, 5, (some .int))
def mX5_passes : MI := (yX5_passes, cX5_passes, 2, (some .boolean))
def mX5_read : MI := (yX5_read, cX5_read, 2, (some .int))
def mX5_readLadders : MI := (yX5_readLadders, cX5_readLadders, 9, none)
def mX5_readTrees : MI := (yX5_readTrees, cX5_readTrees, 7, none)
def mX6_ahead : MI := (yX6_ahead, cX6_ahead, 4, (some .int))
def mX6_at : MI := (yX6_at, cX6_at, 3, (some .int))
def mX6_commonDivisor : MI := (yX6_commonDivisor, cX6_commonDivisor, 6, (some .int))
def mX6_copy : MI := (yX6_copy, cX6_copy, 8, (some .int))
def mX6_count : MI := (yX6_count, cX6_count, 2, (some .int))
def mX6_days : MI := (yX6_days, cX6_days, 4, (some .int))
def mX6_drift : MI := (yX6_drift, cX6_drift, 4, (some .int))
def mX6_drop : MI := (yX6_drop, cX6_drop, 2, (some .int))
def mX6_film : MI := (yX6_film, cX6_film, 10, (some .int))
def mX6_fruit : MI := (yX6_fruit, cX6_fruit, 6, (some .int))
def mX6_gathered : MI := (yX6_gathered, cX6_gathered, 2, (some .int))
def mX6_image : MI := (yX6_image, cX6_image, 1, (some .int))
def mX6_init : MI := (yX6_init, cX6_init, 2, none)
def mX6_isLane : MI := (yX6_isLane, cX6_isLane, 1, (some .boolean))
def mX6_isSheet : MI := (yX6_isSheet, cX6_isSheet, 1, (some .boolean))
def mX6_item : MI := (yX6_item, cX6_item, 7, (some .int))
def mX6_ladder : MI := (yX6_ladder, cX6_ladder, 5, (some .int))
def mX6_larger : MI := (yX6_larger, cX6_larger, 6, (some .int))
def mX6_lean : MI := (yX6_lean, cX6_lean, 4, (some .int))
def mX6_leavesSo : MI := (yX6_leavesSo, cX6_leavesSo, 8, (some .boolean))
def mX6_left : MI := (yX6_left, cX6_left, 9, (some .int))
def mX6_longer : MI := (yX6_longer, cX6_longer, 6, (some .int))
def mX6_luck : MI := (yX6_luck, cX6_luck, 9, (some .int))
def mX6_of : MI := (yX6_of, cX6_of, 3, (some .int))
def mX6_orchard : MI := (yX6_orchard, cX6_orchard, 2, (some .int))
def mX6_plan : MI := (yX6_plan, cX6_plan, 5, (some .int))
def mX6_reachOfDewy : MI := (yX6_reachOfDewy, cX6_reachOfDewy, 2, (some .int))
def mX6_reachOfKind : MI := (yX6_reachOfKind, cX6_reachOfKind, 3, (some .int))
def mX6_reachOfTied : MI := (yX6_reachOfTied, cX6_reachOfTied, 1, (some .int))
def mX6_reached : MI := (yX6_reached, cX6_reached, 3, (some .int))
def mX6_restore : MI := (yX6_restore, cX6_restore, 1, (some .int))
def mX6_round : MI := (yX6_round, cX6_round, 7, (some .int))
def mX6_rule : MI := (yX6_rule, cX6_rule, 4, (some .int))
def mX6_seed : MI := (yX6_seed, cX6_seed, 3, (some .int))
def mX6_shake : MI := (yX6_shake, cX6_shake, 2, (some .int))
def mX6_sheet : MI := (yX6_sheet, cX6_sheet, 4, (some .int))
def mX6_tree : MI := (yX6_tree, cX6_tree, 5, (some .int))
def mX6_type : MI := (yX6_type, cX6_type, 2, (some .int))
def mX6_undo : MI := (yX6_undo, cX6_undo, 1, (some .int))
def mX6_waysToBe : MI := (yX6_waysToBe, cX6_waysToBe, 5, (some .int))
def mX6_within : MI := (yX6_within, cX6_within, 3, (some .boolean))
def mX7_ahead : MI := (yX7_ahead, cX7_ahead, 4, (some .int))
def mX7_allFruit : MI := (yX7_allFruit, cX7_allFruit, 3, (some .int))
def mX7_asides : MI := (yX7_asides, cX7_asides, 2, none)
def mX7_at : MI := (yX7_at, cX7_at, 5, (some .int))
def mX7_backs : MI := (yX7_backs, cX7_backs, 2, none)
def mX7_copy : MI := (yX7_copy, cX7_copy, 8, (some .int))
def mX7_count : MI := (yX7_count, cX7_count, 2, (some .int))
def mX7_days : MI := (yX7_days, cX7_days, 4, (some .int))
def mX7_digit : MI := (yX7_digit, cX7_digit, 4, (some .int))
def mX7_drift : MI := (yX7_drift, cX7_drift, 5, (some .int))
def mX7_drop : MI := (yX7_drop, cX7_drop, 2, (some .int))
def mX7_film : MI := (yX7_film, cX7_film, 8, (some .int))
def mX7_fruit : MI := (yX7_fruit, cX7_fruit, 4, (some .int))
def mX7_gathered : MI := (yX7_gathered, cX7_gathered, 2, (some .int))
def mX7_goesBy : MI := (yX7_goesBy, cX7_goesBy, 5, none)
def mX7_goesOn : MI := (yX7_goesOn, cX7_goesOn, 3, none)
def mX7_here : MI := (yX7_here, cX7_here, 1, (some .int))
def mX7_image : MI := (yX7_image, cX7_image, 2, (some .int))
def mX7_in : MI := (yX7_in, cX7_in, 6, (some .boolean))
def mX7_init : MI := (yX7_init, cX7_init, 2, none)
def mX7_isLadder : MI := (yX7_isLadder, cX7_isLadder, 2, (some .boolean))
def mX7_isLane : MI := (yX7_isLane, cX7_isLane, 1, (some .boolean))
def mX7_isReached : MI := (yX7_isReached, cX7_isReached, 4, (some .boolean))
def mX7_isRipe : MI := (yX7_isRipe, cX7_isRipe, 2, (some .boolean))
def mX7_isSheet : MI := (yX7_isSheet, cX7_isSheet, 1, (some .boolean))
def mX7_isTree : MI := (yX7_isTree, cX7_isTree, 2, (some .boolean))
def mX7_item : MI := (yX7_item, cX7_item, 7, (some .int))
def mX7_ladder : MI := (yX7_ladder, cX7_ladder, 4, (some .int))
def mX7_ladderComes : MI := (yX7_ladderComes, cX7_ladderComes, 6, none)
def mX7_larger : MI := (yX7_larger, cX7_larger, 5, (some .int))
def mX7_lean : MI := (yX7_lean, cX7_lean, 4, (some .int))
def mX7_leaners : MI := (yX7_leaners, cX7_leaners, 4, (some .int))
def mX7_leansAt : MI := (yX7_leansAt, cX7_leansAt, 2, (some .int))
def mX7_left : MI := (yX7_left, cX7_left, 11, (some .int))
def mX7_less : MI := (yX7_less, cX7_less, 2, (some .int))
def mX7_longer : MI := (yX7_longer, cX7_longer, 5, (some .int))
def mX7_luck : MI := (yX7_luck, cX7_luck, 11, (some .int))
def mX7_must : MI := (yX7_must, cX7_must, 2, none)
def mX7_notes : MI := (yX7_notes, cX7_notes, 3, none)
def mX7_number : MI := (yX7_number, cX7_number, 6, (some .int))
def mX7_of : MI := (yX7_of, cX7_of, 3, (some .int))
def mX7_ofLadder : MI := (yX7_ofLadder, cX7_ofLadder, 3, (some .int))
def mX7_ofTree : MI := (yX7_ofTree, cX7_ofTree, 3, (some .int))
def mX7_orchard : MI := (yX7_orchard, cX7_orchard, 4, (some .int))
def mX7_plan : MI := (yX7_plan, cX7_plan, 9, (some .int))
def mX7_power : MI := (yX7_power, cX7_power, 4, (some .int))
def mX7_reached : MI := (yX7_reached, cX7_reached, 3, (some .int))
def mX7_reachers : MI := (yX7_reachers, cX7_reachers, 6, (some .int))
def mX7_reaches : MI := (yX7_reaches, cX7_reaches, 4, (some .int))
def mX7_readLadders : MI := (yX7_readLadders, cX7_readLadders, 8, (some .int))
def mX7_readTrees : MI := (yX7_readTrees, cX7_readTrees, 5, (some .int))
def mX7_restore : MI := (yX7_restore, cX7_restore, 2, (some .int))
def mX7_round : MI := (yX7_round, cX7_round, 10, (some .int))
def mX7_rule : MI := (yX7_rule, cX7_rule, 4, (some .int))
def mX7_seed : MI := (yX7_seed, cX7_seed, 3, (some .int))
def mX7_shake : MI := (yX7_shake, cX7_shake, 2, (some .int))
def mX7_shakes : MI := (yX7_shakes, cX7_shakes, 3, (some .int))
def mX7_sheet : MI := (yX7_sheet, cX7_sheet, 5, (some .int))
def mX7_sign : MI := (yX7_sign, cX7_sign, 2, none)
def mX7_takes : MI := (yX7_takes, cX7_takes, 3, none)
def mX7_tree : MI := (yX7_tree, cX7_tree, 4, (some .int))
def mX7_treeComes : MI := (yX7_treeComes, cX7_treeComes, 5, none)
def mX7_type : MI := (yX7_type, cX7_type, 2, (some .int))
def mX7_undo : MI := (yX7_undo, cX7_undo, 3, (some .int))
def mX7_why : MI := (yX7_why, cX7_why, 5, (some .int))
def mL_law : MI := (yL_law, cL_law, maxLocals, ret)
theorem xw0 : ∀ w ∈ u_ws RX0 TX0 4, w ∈ bigW := bigW_of [198, 200, 202, 204] (by decide +kernel) (by decide +kernel)
theorem xw1 : ∀ w ∈ u_ws RX1 TX1 2, w ∈ bigW := bigW_of [157, 159] (by decide +kernel) (by decide +kernel)
theorem xw2 : ∀ w ∈ u_ws RX2 TX2 7, w ∈ bigW := bigW_of [86, 88, 90, 92, 94, 96, 98] (by decide +kernel) (by decide +kernel)
theorem xw3 : ∀ w ∈ u_ws RX3 TX3 10, w ∈ bigW := bigW_of [124, 126, 128, 130, 132, 134, 136, 138, 140, 142] (by decide +kernel) (by decide +kernel)
theorem xw4 : ∀ w ∈ u_ws RX4 TX4 3, w ∈ bigW := bigW_of [220, 222, 224] (by decide +kernel) (by decide +kernel)
theorem xw5 : ∀ w ∈ u_ws RX5 TX5 4, w ∈ bigW := bigW_of [173, 175, 177, 179] (by decide +kernel) (by decide +kernel)
theorem xw6 : ∀ w ∈ u_ws RX6 TX6 10, w ∈ bigW := bigW_of [238, 240, 242, 244, 246, 248, 250, 252, 254, 256] (by decide +kernel) (by decide +kernel)
theorem xw7 : ∀ w ∈ u_ws RX7 TX7 17, w ∈ bigW := bigW_of [659, 661, 663, 665, 667, 669, 671, 673, 675, 677, 679, 681, 683, 685, 687, 689, 691] (by decide +kernel) (by decide +kernel)
def nestL : List (String × Nat × MethodName × String) := [("OrchardLadders", 9, yX3_init, "OrchardLadders"), ("OrchardLadders", 31, yX5_init, "OrchardLadders"), ("OrchardLadders", 48, yX0_init, "OrchardLadders"), ("OrchardLadders", 59, yX4_init, "OrchardLadders"), ("OrchardLadders$Orchard", 73, yX6_reachOfKind, "OrchardLadders"), ("OrchardLadders$Tape", 87, yX6_within, "OrchardLadders")]
theorem nestL_in : ∀ q ∈ nestL, Cond.methodLinkNest q.1 q.2.1 q.2.2.1 q.2.2.2 ∈ lw_tbl := by
  intro q hq
  simp only [nestL, List.mem_cons, List.not_mem_nil, or_false] at hq
  rcases hq with rfl | rfl | rfl | rfl | rfl | rfl
  · exact List.mem_of_getElem? (i := 50) (by decide +kernel)
  · exact List.mem_of_getElem? (i := 164) (by decide +kernel)
  · exact List.mem_of_getElem? (i := 187) (by decide +kernel)
  · exact List.mem_of_getElem? (i := 210) (by decide +kernel)
  · exact List.mem_of_getElem? (i := 298) (by decide +kernel)
  · exact List.mem_of_getElem? (i := 367) (by decide +kernel)
end
section
/-! ===== X: a walk over a PICTURE of the heap. Cells have numbers 0, 1, 2 .. in the order in which they were made; cell i lies at address B + i (the script, number 1000000, at b).
A method is walked over the picture alone (X, one row an instruction), its contract is MetX; what the kit wants (words, world, frame) is paid once, here. ===== -/
abbrev XC : Type := (FieldType × vp_A) ⊕ (Nat × List Value)
abbrev XH : Type := Nat → Option XC
def xphi (B b i : Nat) : Nat := if i = 1000000 then b else B + i
def xv (B b : Nat) (v : Value) : Value := match v with
  | .ref a => .ref (xphi B b a)
  | w => w
def xa (B b : Nat) (x : vp_A) : vp_A := match x with
  | (n, .inr (.inr (.inr (.inr f)))) => (n, .inr (.inr (.inr (.inr (fun j => (f j).map (xphi B b))))))
  | y => y
def xe (B b : Nat) (dA : FieldType → ClassId) (c : XC) : va_E := match c with
  | .inl (ty, x) => .inl (dA ty, xa B b x)
  | .inr (ci, fs) => .inr (ci, fs.map (xv B b))
def xup (h : XH) (a : Nat) (c : XC) : XH := fun i => if i = a then some c else h i
theorem xup_eq (h : XH) (a : Nat) (c : XC) : xup h a c a = some c := if_pos rfl
theorem xup_ne (h : XH) {a i : Nat} (c : XC) (hi : i ≠ a) : xup h a c i = h i := if_neg hi
theorem xv_cat (B b : Nat) (v : Value) : (xv B b v).category = v.category := by cases v <;> rfl
def XDom (h : XH) (N : Nat) : Prop := ∀ i, (h i).isSome = true ↔ i < N
def XRel (B b : Nat) (D : va_G) (dA : FieldType → ClassId) (h : XH) (H : Heap) : Prop :=
  ∃ N, N ≤ 1000000 ∧ XDom h N ∧ H.size = B + N ∧ ∀ i c, h i = some c → va_at D vwCl (B + i, xe B b dA c) H
theorem XDom.lt {h : XH} {N i : Nat} {c : XC} (hd : XDom h N) (hi : h i = some c) : i < N := (hd i).mp (by rw [hi]; rfl)
theorem XDom.uniq {h : XH} {N M : Nat} (h1 : XDom h N) (h2 : XDom h M) : N = M := by
  have a : ∀ i, i < N ↔ i < M := fun i => (h1 i).symm.trans (h2 i)
  have b1 := a N
  have b2 := a M
  omega
theorem XDom.put {h : XH} {N a : Nat} {c0 c : XC} (hd : XDom h N) (ha : h a = some c0) : XDom (xup h a c) N := by
  intro i
  by_cases hi : i = a
  · subst hi
    rw [xup_eq]
    exact ⟨fun _ => hd.lt ha, fun _ => rfl⟩
  · rw [xup_ne _ _ hi]
    exact hd i
theorem XDom.push {h : XH} {N : Nat} {c : XC} (hd : XDom h N) : XDom (xup h N c) (N + 1) := by
  intro i
  by_cases hi : i = N
  · subst hi
    rw [xup_eq]
    exact ⟨fun _ => Nat.lt_succ_self _, fun _ => rfl⟩
  · rw [xup_ne _ _ hi, hd i]
    omega
theorem xphi_lt {B b i : Nat} (h : i < 1000000) : xphi B b i = B + i := if_neg (by omega)
theorem XRel.phi {B b : Nat} {D : va_G} {dA : FieldType → ClassId} {h : XH} {H : Heap} (hR : XRel B b D dA h H) {i : Nat} {c : XC} (hi : h i = some c) : xphi B b i = B + i := by
  obtain ⟨N, h1, h2, -, -⟩ := hR
  exact xphi_lt (Nat.lt_of_lt_of_le (h2.lt hi) h1)
theorem XRel.at {B b : Nat} {D : va_G} {dA : FieldType → ClassId} {h : XH} {H : Heap} (hR : XRel B b D dA h H) {i : Nat} {c : XC} (hi : h i = some c) : va_at D vwCl (xphi B b i, xe B b dA c) H := by
  rw [hR.phi hi]
  obtain ⟨N, -, -, -, h4⟩ := hR
  exact h4 i c hi
theorem XRel.put {B b : Nat} {D : va_G} {dA : FieldType → ClassId} {h : XH} {H H1 : Heap} (hR : XRel B b D dA h H) {a : Nat} {c0 c : XC} (ha : h a = some c0) (z : H1.size = H.size) (he : va_at D vwCl (xphi B b a, xe B b dA c) H1) (oq : ∀ q : Nat, q ≠ xphi B b a → H1[q]? = H[q]?) : XRel B b D dA (xup h a c) H1 := by
  rw [hR.phi ha] at he oq
  obtain ⟨N, h1, h2, h3, h4⟩ := hR
  refine ⟨N, h1, h2.put ha, z.trans h3, fun i x hx => ?_⟩
  by_cases hi : i = a
  · subst hi
    rw [xup_eq] at hx
    cases hx
    exact he
  · rw [xup_ne _ _ hi] at hx
    exact (h4 i x hx).kept (oq (B + i) (by omega))
theorem XRel.push {B b : Nat} {D : va_G} {dA : FieldType → ClassId} {h : XH} {H H1 : Heap} {N : Nat} (hR : XRel B b D dA h H) (hN : XDom h N) (hlt : N < 1000000) {c : XC} (z : H1.size = H.size + 1) (he : va_at D vwCl (H.size, xe B b dA c) H1) (oq : ∀ q : Nat, q < H.size → H1[q]? = H[q]?) : XRel B b D dA (xup h N c) H1 ∧ H.size = xphi B b N := by
  obtain ⟨M, h1, h2, h3, h4⟩ := hR
  have e : M = N := h2.uniq hN
  subst e
  refine ⟨⟨M + 1, hlt, h2.push, by omega, fun i x hx => ?_⟩, by rw [xphi_lt hlt]; exact h3⟩
  by_cases hi : i = M
  · subst hi
    rw [xup_eq] at hx
    cases hx
    rw [← h3]
    exact he
  · rw [xup_ne _ _ hi] at hx
    have := h2.lt hx
    exact (h4 i x hx).kept (oq (B + i) (by omega))
def xtys (dA : FieldType → ClassId) : List (ClassId × FieldType) := [(dA .int, .int), (dA .long, .long), (dA .char, .char), (dA (.object RX2), .object RX2), (dA (.object RX4), .object RX4)]
def XWorld (D : va_G) (dA : FieldType → ClassId) (U : State) : Prop := va_K D vwCl (xtys dA) U ∧ (∀ q ∈ nestL, va_Nw (.methodLinkNest q.1 q.2.1 q.2.2.1 q.2.2.2) U) ∧ va_AO RX2 U ∧ va_AO RX4 U
theorem XWorld.warm {D : va_G} {dA : FieldType → ClassId} {s U : State} (hW : s.WarmedH U.vm) (h : XWorld D dA s) : XWorld D dA U :=
  ⟨va_K.moved hW.alike h.1, fun q hq => va_Nw.warmM hW (h.2.1 q hq), h.2.2.1.moved hW.alike, h.2.2.2.moved hW.alike⟩
theorem XWorld.same {D : va_G} {dA : FieldType → ClassId} {s U : State} (e : s.vm = U.vm) (h : XWorld D dA s) : XWorld D dA U :=
  ⟨va_K.moved (by rw [e]; exact Vm.Alike.refl _) h.1, fun q hq => va_Nw.same rfl e (h.2.1 q hq), h.2.2.1.moved (by rw [e]; exact Vm.Alike.refl _), h.2.2.2.moved (by rw [e]; exact Vm.Alike.refl _)⟩
/-- the locals -/
def xlv (B b nL : Nat) (L : List (Option Value)) (ls : Array Slot) : Prop := ls.size = nL ∧ lv_wf ls ∧ ∀ (i : Nat) (v : Value), L[i]? = some (some v) → ls[i]? = some (.val (xv B b v))
def xsl (v : Value) : List (Option Value) := if v.category = 2 then [some v, none] else [some v]
def xargs (av : List Value) : List (Option Value) := av.flatMap xsl
def xlocs (n : Nat) (av : List Value) : List (Option Value) := xargs av ++ List.replicate (n - (xargs av).length) none
theorem xargs_in (B b : Nat) : ∀ (av : List Value) (k i : Nat) (v : Value), (xargs av)[i]? = some (some v) → (k + i, xv B b v) ∈ lv_args k (av.map (xv B b))
  | [], k, i, v, h => by simp [xargs] at h
  | w :: av, k, i, v, h => by
    have e : xargs (w :: av) = xsl w ++ xargs av := by simp [xargs]
    rw [e] at h
    rw [List.map_cons]
    by_cases hc : w.category = 2
    · have hs : xsl w = [some w, none] := by simp [xsl, hc]
      rw [hs] at h
      simp only [lv_args, xv_cat, hc, if_true]
      match i, h with
      | 0, h =>
        simp at h
        subst h
        exact List.mem_cons_self
      | 1, h => simp at h
      | i + 2, h =>
        have h2 : (xargs av)[i]? = some (some v) := by simpa using h
        have := xargs_in B b av (k + 2) i v h2
        rw [show k + (i + 2) = k + 2 + i by omega]
        exact List.mem_cons_of_mem _ this
    · have hs : xsl w = [some w] := by simp [xsl, hc]
      rw [hs] at h
      simp only [lv_args, xv_cat, hc, if_false]
      match i, h with
      | 0, h =>
        simp at h
        subst h
        exact List.mem_cons_self
      | i + 1, h =>
        have h2 : (xargs av)[i]? = some (some v) := by simpa using h
        have := xargs_in B b av (k + 1) i v h2
        rw [show k + (i + 1) = k + 1 + i by omega]
        exact List.mem_cons_of_mem _ this
theorem xlocs_in (B b n : Nat) (av : List Value) (i : Nat) (v : Value) (h : (xlocs n av)[i]? = some (some v)) : (i, xv B b v) ∈ lv_args 0 (av.map (xv B b)) := by
  unfold xlocs at h
  by_cases hi : i < (xargs av).length
  · rw [List.getElem?_append_left hi] at h
    have := xargs_in B b av 0 i v h
    rwa [Nat.zero_add] at this
  · rw [List.getElem?_append_right (by omega)] at h
    have := List.eq_of_mem_replicate (List.mem_of_getElem? h)
    cases this
theorem xsl_len (B b : Nat) (av : List Value) : (lg_sl (av.map (xv B b))).length = (xargs av).length := by
  induction av with
  | nil => rfl
  | cons v av ih =>
    have e : xargs (v :: av) = xsl v ++ xargs av := by simp [xargs]
    rw [e, List.length_append, ← ih]
    simp only [lg_sl, List.map_cons, List.flatMap_cons, List.length_append]
    congr 1
    cases v <;> rfl
/-- what holds all through a method's body -/
def XCtx (Γ : State → Nat → Nat → Prop) (μ : MI) (p : Program) (s : State) (m : MethodId) (args : Array Value) (meth : Method) (c : Code) (B b : Nat) (D : va_G) (dA : FieldType → ClassId) : Prop :=
  p.tables.exec = Jvm.exec ∧ c.code = μ.2.1 ∧ c.maxLocals = μ.2.2.1 ∧ meth.sig.returnType = μ.2.2.2 ∧ meth.locks = false ∧ s.vm.findClass μ.1.cls = some m.cls ∧ (∀ w ∈ bigW, w.before args s = true) ∧ XWorld D dA s ∧ B ≤ s.heap.size ∧ meth.name = μ.1.name ∧ Γ s B b
def xT : State → Nat → Nat → Prop := fun _ _ _ => True
/-- a return instruction at pc, with this answer -/
def XRet (μ : MI) (pc : Nat) (v : Option Value) : Prop := (v = none ∧ μ.2.2.2 = none ∧ decode μ.2.1 pc = .ok (.return_, 1)) ∨ ∃ (x : Int32) (ty : FieldType), v = some (.int x) ∧ μ.2.2.2 = some ty ∧ narrow ty (.int x) = .int x ∧ decode μ.2.1 pc = .ok (.ireturn, 1)
/-- from the picture h, at pc, with locals L and operand stack S, the method comes to its end with Q -/
def X (Γ : State → Nat → Nat → Prop) (μ : MI) (R : Room) (κ : Nat × Nat) (pc : Nat) (L : List (Option Value)) (S : List Value) (h : XH) (Q : Option Value → XH → Prop) : Prop :=
  ∀ (p : Program) (l : Launch) (e : Env) (s : State) (m : MethodId) (args : Array Value) (below : List Frame) (meth : Method) (c : Code) (B b : Nat) (D : va_G) (dA : FieldType → ClassId), XCtx Γ μ p s m args meth c B b D dA →
  ∀ (Z : State → Prop), (∀ (v : Option Value) (h' : XH) (H : Heap) (locs : List Loc) (ls : Array Slot) (pc : Nat), Q v h' → XRel B b D dA h' H → va_S (fun q => B ≤ q) s.heap H locs → XRet μ pc v → W p l e R s m args below meth c H locs R.cells R.slots Z (F0 m pc ls ((v.toList).map (xv B b)))) →
  κ.1 ≤ R.cells ∧ κ.2 ≤ R.slots →
  ∀ (H : Heap) (locs : List Loc) (ls : Array Slot), XRel B b D dA h H → va_S (fun q => B ≤ q) s.heap H locs → xlv B b μ.2.2.1 L ls → W p l e R s m args below meth c H locs κ.1 κ.2 Z (F0 m pc ls (S.map (xv B b)))
def xR (ρ : Nat × Nat × Nat) : Room := { frames := ρ.1, cells := ρ.2.1, slots := ρ.2.2, locals := 39 * ρ.1 }
def xws (μ : MI) : List Cond := .code μ.1 μ.2.1 μ.2.2.1 μ.2.2.2 :: bigW
def XPre (B b : Nat) (D : va_G) (dA : FieldType → ClassId) (av : List Value) (h : XH) : Array Value → State → Prop := fun v U => v = (av.map (xv B b)).toArray ∧ B ≤ U.heap.size ∧ XRel B b D dA h U.heap ∧ XWorld D dA U
def XPost (B b : Nat) (D : va_G) (dA : FieldType → ClassId) (Q : Option Value → XH → Prop) : Array Value → State → Outcome → State → Prop := fun _ st o t => (∃ (v : Option Value) (h' : XH), o = .returned (v.map (xv B b)) ∧ Q v h' ∧ XRel B b D dA h' t.heap) ∧ va_F (fun q => B ≤ q) st t
/-- the contract: from the picture h, with the arguments av, the method returns with Q -/
def MetX (μ : MI) (ρ : Nat × Nat × Nat) (av : List Value) (h : XH) (Q : Option Value → XH → Prop) : Prop :=
  ∀ (l : Launch) (B b : Nat) (D : va_G) (dA : FieldType → ClassId), Met l μ.1 (xws μ) (xR ρ) (XPre B b D dA av h) (XPost B b D dA Q) ρ.2.1 ρ.2.2 (fun q => B ≤ q)
theorem XPre.blind {B b : Nat} {D : va_G} {dA : FieldType → ClassId} {av : List Value} {h : XH} : FrameBlind (XPre B b D dA av h) := by
  intro a U g mk q
  obtain ⟨q1, q2, q3, q4⟩ := q
  exact ⟨q1, q2, q3, q4.same rfl⟩
set_option maxHeartbeats 1000000 in
theorem MetX.of {μ : MI} {ρ : Nat × Nat × Nat} {av : List Value} {h : XH} {Q : Option Value → XH → Prop} {L : List (Option Value)} (hp : plainName μ.1.cls = true) (hl : xlocs μ.2.2.1 av = L) (hn : (xargs av).length ≤ μ.2.2.1) (k : X xT μ (xR ρ) (0, 0) 0 L [] h Q) : MetX μ ρ av h Q := by
  intro l B b D dA
  refine Met.ofW (cc := μ.2.1) (maxL := μ.2.2.1) (ret := μ.2.2.2) hp rfl ?_
  intro p e s m args below meth c s₁ Bd hml hv
  obtain ⟨rfl, hB, hR, hw⟩ := hv
  have hts := atoms_spec (ws := xws μ) Bd.pre
  have hown : s.vm.findClass μ.1.cls = some m.cls := findClass_of_methodNamed Bd.named
  have hlocks := Bd.notSynchronized
  have hret : meth.sig.returnType = μ.2.2.2 := Bd.returns
  have hlv := lv_entry (av.map (xv B b)) (n := μ.2.2.1) (by rw [xsl_len]; exact hn)
  rw [lg_entry_eq]
  generalize (lg_sl (av.map (xv B b)) ++ List.replicate (μ.2.2.1 - (lg_sl (av.map (xv B b))).length) Slot.unset).toArray = ls at hlv ⊢
  refine k p l e s m (av.map (xv B b)).toArray below meth c B b D dA ⟨Bd.exec, Bd.bytes, hml, hret, hlocks, hown, fun w hw => hts w (List.mem_cons_of_mem _ hw), hw, hB, (name_of_methodNamed Bd.named Bd.method).1, trivial⟩ _ ?_ ⟨Nat.zero_le _, Nat.zero_le _⟩ s.heap [] ls hR va_S.rf ?_
  · intro v h' H locs ls' pc hq hR' hS hret'
    rcases hret' with ⟨rfl, h1, h2⟩ | ⟨x, ty, rfl, h1, h2, h3⟩
    · exact W.vret (Qc := XPost B b D dA Q) (free := fun q => B ≤ q) Bd.exec Bd.bytes (hret.trans h1) (fun t ht hW => ⟨⟨none, h', rfl, hq, by rw [ht]; exact hR'⟩, hS.F ht⟩) hS.2.2 h2 hlocks
    · exact W.zret (Qc := XPost B b D dA Q) (free := fun q => B ≤ q) Bd.exec Bd.bytes (hret.trans h1) h2 (fun t ht hW => ⟨⟨some (.int x), h', rfl, hq, by rw [ht]; exact hR'⟩, hS.F ht⟩) hS.2.2 h3 hlocks
  · refine ⟨hlv.1, hlv.2.1, fun i v hv => ?_⟩
    exact hlv.2.2 (i, xv B b v) (xlocs_in B b μ.2.2.1 av i v (by rw [hl]; exact hv))
/-! the instructions of a frame alone -/
abbrev D1 (μ : MI) (pc : Nat) (i : Instr) (n pc' : Nat) : Prop := decode μ.2.1 pc = .ok (i, n) ∧ pc + n = pc'
section XI
variable {Γ : State → Nat → Nat → Prop} {μ : MI} {R : Room} {κ : Nat × Nat} {pc pc' tgt : Nat} {L L' : List (Option Value)} {S S' : List Value} {h : XH} {Q : Option Value → XH → Prop}
theorem X.frame (st : ∀ {p : Program} {l : Launch} {e : Env} {s : State} {m : MethodId} {args : Array Value} {below : List Frame} {meth : Method} {c : Code} {H : Heap} {locs : List Loc} {cells slots : Nat} {Z : State → Prop} {B b : Nat} {ls : Array Slot} {D : va_G} {dA : FieldType → ClassId}, XCtx Γ μ p s m args meth c B b D dA → xlv B b μ.2.2.1 L ls → (∀ ls' : Array Slot, xlv B b μ.2.2.1 L' ls' → W p l e R s m args below meth c H locs cells slots Z (F0 m pc' ls' (S'.map (xv B b)))) → W p l e R s m args below meth c H locs cells slots Z (F0 m pc ls (S.map (xv B b)))) (k : X Γ μ R κ pc' L' S' h Q) : X Γ μ R κ pc L S h Q := by
  intro p l e s m args below meth c B b D dA C Z E hκ H locs ls hR hS hl
  exact st C hl (fun ls' hl' => k p l e s m args below meth c B b D dA C Z E hκ H locs ls' hR hS hl')
def DPushI (μ : MI) (pc : Nat) (v : Int32) (pc' : Nat) : Prop := (∃ n : Int, decode μ.2.1 pc = .ok (.iconst n, 1) ∧ Int32.ofInt n = v ∧ pc + 1 = pc') ∨ (∃ n : Int, decode μ.2.1 pc = .ok (.bipush n, 2) ∧ (Int8.ofInt n).toInt32 = v ∧ pc + 2 = pc') ∨ (∃ n : Int, decode μ.2.1 pc = .ok (.sipush n, 3) ∧ (Int16.ofInt n).toInt32 = v ∧ pc + 3 = pc') ∨ (∃ n : Nat, decode μ.2.1 pc = .ok (.ldc n, 2) ∧ Cond.constant μ.1.cls n v ∈ bigW ∧ pc + 2 = pc') ∨ (∃ n : Nat, decode μ.2.1 pc = .ok (.ldc_w n, 3) ∧ Cond.constant μ.1.cls n v ∈ bigW ∧ pc + 3 = pc')
theorem X.pushi {v : Int32} (I : DPushI μ pc v pc') (k : X Γ μ R κ pc' L (.int v :: S) h Q) : X Γ μ R κ pc L S h Q := by
  refine X.frame (fun {p l e s m args below meth c H locs cells slots Z B b ls D dA} C hl kk => ?_) k
  rcases I with ⟨n, h1, h2, rfl⟩ | ⟨n, h1, h2, rfl⟩ | ⟨n, h1, h2, rfl⟩ | ⟨n, h1, h2, rfl⟩ | ⟨n, h1, h2, rfl⟩
  · exact lv_iconst C.1 C.2.1 h1 h2 (kk ls hl)
  · exact lv_bipush C.1 C.2.1 h1 h2 (kk ls hl)
  · exact lv_sipush C.1 C.2.1 h1 h2 (kk ls hl)
  · exact lv_ldc C.1 C.2.1 C.2.2.2.2.2.1 (C.2.2.2.2.2.2.1 _ h2) h1 (kk ls hl)
  · exact lv_ldcw C.1 C.2.1 C.2.2.2.2.2.1 (C.2.2.2.2.2.2.1 _ h2) h1 (kk ls hl)
def DPushL (μ : MI) (pc : Nat) (v : Int64) (pc' : Nat) : Prop := (∃ n : Fin 2, decode μ.2.1 pc = .ok (.lconst n, 1) ∧ Int64.ofNat (n : Nat) = v ∧ pc + 1 = pc') ∨ (∃ n : Nat, decode μ.2.1 pc = .ok (.ldc2_w n, 3) ∧ Cond.constantLong μ.1.cls n v ∈ bigW ∧ pc + 3 = pc')
theorem X.pushl {v : Int64} (I : DPushL μ pc v pc') (k : X Γ μ R κ pc' L (.long v :: S) h Q) : X Γ μ R κ pc L S h Q := by
  refine X.frame (fun {p l e s m args below meth c H locs cells slots Z B b ls D dA} C hl kk => ?_) k
  rcases I with ⟨n, h1, h2, rfl⟩ | ⟨n, h1, h2, rfl⟩
  · exact lv_lconst C.1 C.2.1 h1 h2 (kk ls hl)
  · exact lv_ldc2 C.1 C.2.1 C.2.2.2.2.2.1 (C.2.2.2.2.2.2.1 _ h2) h1 (kk ls hl)
def DLdI (μ : MI) (pc i pc' : Nat) : Prop := (∃ k : Fin 4, decode μ.2.1 pc = .ok (.iload_n k, 1) ∧ (k : Nat) = i ∧ pc + 1 = pc') ∨ (decode μ.2.1 pc = .ok (.iload i, 2) ∧ pc + 2 = pc')
theorem X.iload {i : Nat} {x : Int32} (I : DLdI μ pc i pc') (hi : L[i]? = some (some (.int x))) (k : X Γ μ R κ pc' L (.int x :: S) h Q) : X Γ μ R κ pc L S h Q := by
  refine X.frame (fun {p l e s m args below meth c H locs cells slots Z B b ls D dA} C hl kk => ?_) k
  rcases I with ⟨n, h1, h2, rfl⟩ | ⟨h1, rfl⟩
  · exact lv_iload_n C.1 C.2.1 h1 h2 (hl.2.2 i _ hi) (kk ls hl)
  · exact lv_iload C.1 C.2.1 h1 (hl.2.2 i _ hi) (kk ls hl)
def DLdL (μ : MI) (pc i pc' : Nat) : Prop := (∃ k : Fin 4, decode μ.2.1 pc = .ok (.lload_n k, 1) ∧ (k : Nat) = i ∧ pc + 1 = pc') ∨ (decode μ.2.1 pc = .ok (.lload i, 2) ∧ pc + 2 = pc')
theorem X.lload {i : Nat} {x : Int64} (I : DLdL μ pc i pc') (hi : L[i]? = some (some (.long x))) (k : X Γ μ R κ pc' L (.long x :: S) h Q) : X Γ μ R κ pc L S h Q := by
  refine X.frame (fun {p l e s m args below meth c H locs cells slots Z B b ls D dA} C hl kk => ?_) k
  rcases I with ⟨n, h1, h2, rfl⟩ | ⟨h1, rfl⟩
  · exact lv_lload_n C.1 C.2.1 h1 h2 (hl.2.2 i _ hi) (kk ls hl)
  · exact lv_lload C.1 C.2.1 h1 (hl.2.2 i _ hi) (kk ls hl)
def DLdA (μ : MI) (pc i pc' : Nat) : Prop := (∃ k : Fin 4, decode μ.2.1 pc = .ok (.aload_n k, 1) ∧ (k : Nat) = i ∧ pc + 1 = pc') ∨ (decode μ.2.1 pc = .ok (.aload i, 2) ∧ pc + 2 = pc')
theorem X.aload {i a : Nat} (I : DLdA μ pc i pc') (hi : L[i]? = some (some (.ref a))) (k : X Γ μ R κ pc' L (.ref a :: S) h Q) : X Γ μ R κ pc L S h Q := by
  refine X.frame (fun {p l e s m args below meth c H locs cells slots Z B b ls D dA} C hl kk => ?_) k
  rcases I with ⟨n, h1, h2, rfl⟩ | ⟨h1, rfl⟩
  · exact lv_aload_n C.1 C.2.1 h1 h2 (hl.2.2 i _ hi) (kk ls hl)
  · exact lv_aload C.1 C.2.1 h1 (hl.2.2 i _ hi) (kk ls hl)
/-- a store into i leaves what L says, if no long stands right before it -/
def xok (L : List (Option Value)) (i : Nat) : Bool := match i with
  | 0 => true
  | j + 1 => match L[j]? with
    | some (some v) => v.category == 1
    | _ => true
def xlist (B b : Nat) (L : List (Option Value)) : List (Nat × Value) := L.zipIdx.filterMap (fun q => q.1.map (fun v => (q.2, xv B b v)))
theorem xlist_in {B b : Nat} {L : List (Option Value)} {i : Nat} {v : Value} (hv : L[i]? = some (some v)) : (i, xv B b v) ∈ xlist B b L := by
  refine List.mem_filterMap.mpr ⟨(some v, i), ?_, rfl⟩
  exact List.mem_zipIdx_iff_getElem?.mpr hv
theorem xlist_of {B b : Nat} {L : List (Option Value)} {q : Nat × Value} (hq : q ∈ xlist B b L) : ∃ v, L[q.1]? = some (some v) ∧ q.2 = xv B b v := by
  obtain ⟨⟨o, i⟩, h1, h2⟩ := List.mem_filterMap.mp hq
  have h3 := List.mem_zipIdx_iff_getElem?.mp h1
  cases o with
  | none => cases h2
  | some v =>
    cases h2
    exact ⟨v, h3, rfl⟩
theorem xlv_has {B b nL : Nat} {L : List (Option Value)} {ls : Array Slot} (hl : xlv B b nL L ls) : lv_has ls nL (xlist B b L) :=
  ⟨hl.1, hl.2.1, fun q hq => by
    obtain ⟨v, h1, h2⟩ := xlist_of hq
    rw [hl.2.2 q.1 v h1, h2]⟩
theorem xlv_store {B b nL : Nat} {L : List (Option Value)} {ls' : Array Slot} {i : Nat} {v : Value} (hk : xok L i = true) (h' : lv_has ls' nL ((i, xv B b v) :: (xlist B b L).filter (fun q => !(q.1 == i) && !(q.1 + 1 == i && q.2.category == 2)))) : xlv B b nL (L.set i (some v)) ls' := by
  refine ⟨h'.1, h'.2.1, fun j w hw => ?_⟩
  by_cases hj : j = i
  · subst hj
    have hlt : j < (L.set j (some v)).length := (List.getElem?_eq_some_iff.mp hw).1
    rw [List.length_set] at hlt
    rw [List.getElem?_set_self hlt] at hw
    cases hw
    exact h'.2.2 (j, xv B b v) List.mem_cons_self
  · rw [List.getElem?_set_ne (fun e => hj e.symm)] at hw
    refine h'.2.2 (j, xv B b w) (List.mem_cons_of_mem _ (List.mem_filter.mpr ⟨xlist_in hw, ?_⟩))
    have h1 : (j == i) = false := by simpa using hj
    simp only [h1, Bool.not_false, Bool.true_and, xv_cat]
    by_cases hj1 : j + 1 = i
    · subst hj1
      simp only [xok, hw] at hk
      have : w.category = 1 := by simpa using hk
      simp [this]
    · have : (j + 1 == i) = false := by simpa using hj1
      simp [this]
def DStI (μ : MI) (pc i pc' : Nat) : Prop := i < μ.2.2.1 ∧ ((∃ k : Fin 4, decode μ.2.1 pc = .ok (.istore_n k, 1) ∧ (k : Nat) = i ∧ pc + 1 = pc') ∨ (decode μ.2.1 pc = .ok (.istore i, 2) ∧ pc + 2 = pc'))
theorem X.istore {i : Nat} {x : Int32} (I : DStI μ pc i pc') (hk : xok L i = true) (hL : L.set i (some (.int x)) = L') (k : X Γ μ R κ pc' L' S h Q) : X Γ μ R κ pc L (.int x :: S) h Q := by
  subst hL
  refine X.frame (fun {p l e s m args below meth c H locs cells slots Z B b ls D dA} C hl kk => ?_) k
  obtain ⟨hi, ⟨n, h1, h2, rfl⟩ | ⟨h1, rfl⟩⟩ := I
  · exact lv_istore_n C.1 C.2.1 h1 h2 (xlv_has hl) hi rfl (fun ls' h' => kk ls' (xlv_store (v := .int x) hk h'))
  · exact lv_istore C.1 C.2.1 h1 (xlv_has hl) hi rfl (fun ls' h' => kk ls' (xlv_store (v := .int x) hk h'))
def DStA (μ : MI) (pc i pc' : Nat) : Prop := i < μ.2.2.1 ∧ ((∃ k : Fin 4, decode μ.2.1 pc = .ok (.astore_n k, 1) ∧ (k : Nat) = i ∧ pc + 1 = pc') ∨ (decode μ.2.1 pc = .ok (.astore i, 2) ∧ pc + 2 = pc'))
theorem X.astore {i a : Nat} (I : DStA μ pc i pc') (hk : xok L i = true) (hL : L.set i (some (.ref a)) = L') (k : X Γ μ R κ pc' L' S h Q) : X Γ μ R κ pc L (.ref a :: S) h Q := by
  subst hL
  refine X.frame (fun {p l e s m args below meth c H locs cells slots Z B b ls D dA} C hl kk => ?_) k
  obtain ⟨hi, ⟨n, h1, h2, rfl⟩ | ⟨h1, rfl⟩⟩ := I
  · exact lv_astore_n C.1 C.2.1 h1 h2 (xlv_has hl) hi rfl (fun ls' h' => kk ls' (xlv_store (v := .ref a) hk h'))
  · exact lv_astore C.1 C.2.1 h1 (xlv_has hl) hi rfl (fun ls' h' => kk ls' (xlv_store (v := .ref a) hk h'))
def DInc (μ : MI) (pc i : Nat) (v : Int32) (pc' : Nat) : Prop := i < μ.2.2.1 ∧ ∃ n : Int, decode μ.2.1 pc = .ok (.iinc i n, 3) ∧ Int32.ofInt n = v ∧ pc + 3 = pc'
theorem X.iinc {i : Nat} {x v : Int32} (I : DInc μ pc i v pc') (hi : L[i]? = some (some (.int x))) (hk : xok L i = true) (hL : L.set i (some (.int (x + v))) = L') (k : X Γ μ R κ pc' L' S h Q) : X Γ μ R κ pc L S h Q := by
  subst hL
  refine X.frame (fun {p l e s m args below meth c H locs cells slots Z B b ls D dA} C hl kk => ?_) k
  obtain ⟨hn, n, h1, rfl, rfl⟩ := I
  obtain ⟨j, hj⟩ := List.getElem?_of_mem (xlist_in (B := B) (b := b) hi)
  exact lv_iinc C.1 C.2.1 h1 (xlv_has hl) hj rfl hn rfl (fun ls' h' => kk ls' (xlv_store (v := .int (x + Int32.ofInt n)) hk h'))
theorem X.iadd {x y : Int32} (I : D1 μ pc .iadd 1 pc') (k : X Γ μ R κ pc' L (.int (x + y) :: S) h Q) : X Γ μ R κ pc L (.int y :: .int x :: S) h Q := by
  obtain ⟨hd, rfl⟩ := I
  exact X.frame (fun C hl kk => lv_iadd C.1 C.2.1 hd (kk _ hl)) k
theorem X.isub {x y : Int32} (I : D1 μ pc .isub 1 pc') (k : X Γ μ R κ pc' L (.int (x - y) :: S) h Q) : X Γ μ R κ pc L (.int y :: .int x :: S) h Q := by
  obtain ⟨hd, rfl⟩ := I
  exact X.frame (fun C hl kk => lv_isub C.1 C.2.1 hd (kk _ hl)) k
theorem X.imul {x y : Int32} (I : D1 μ pc .imul 1 pc') (k : X Γ μ R κ pc' L (.int (x * y) :: S) h Q) : X Γ μ R κ pc L (.int y :: .int x :: S) h Q := by
  obtain ⟨hd, rfl⟩ := I
  exact X.frame (fun C hl kk => lv_imul C.1 C.2.1 hd (kk _ hl)) k
theorem X.iand {x y : Int32} (I : D1 μ pc .iand 1 pc') (k : X Γ μ R κ pc' L (.int (x &&& y) :: S) h Q) : X Γ μ R κ pc L (.int y :: .int x :: S) h Q := by
  obtain ⟨hd, rfl⟩ := I
  exact X.frame (fun C hl kk => lv_iand C.1 C.2.1 hd (kk _ hl)) k
theorem X.ior {x y : Int32} (I : D1 μ pc .ior 1 pc') (k : X Γ μ R κ pc' L (.int (x ||| y) :: S) h Q) : X Γ μ R κ pc L (.int y :: .int x :: S) h Q := by
  obtain ⟨hd, rfl⟩ := I
  exact X.frame (fun C hl kk => lv_ior C.1 C.2.1 hd (kk _ hl)) k
theorem X.ixor {x y : Int32} (I : D1 μ pc .ixor 1 pc') (k : X Γ μ R κ pc' L (.int (x ^^^ y) :: S) h Q) : X Γ μ R κ pc L (.int y :: .int x :: S) h Q := by
  obtain ⟨hd, rfl⟩ := I
  exact X.frame (fun C hl kk => lv_ixor C.1 C.2.1 hd (kk _ hl)) k
theorem X.ishl {x y : Int32} (I : D1 μ pc .ishl 1 pc') (k : X Γ μ R κ pc' L (.int (x <<< (y &&& 31)) :: S) h Q) : X Γ μ R κ pc L (.int y :: .int x :: S) h Q := by
  obtain ⟨hd, rfl⟩ := I
  exact X.frame (fun C hl kk => lv_ishl C.1 C.2.1 hd (kk _ hl)) k
theorem X.ishr {x y : Int32} (I : D1 μ pc .ishr 1 pc') (k : X Γ μ R κ pc' L (.int (x >>> (y &&& 31)) :: S) h Q) : X Γ μ R κ pc L (.int y :: .int x :: S) h Q := by
  obtain ⟨hd, rfl⟩ := I
  exact X.frame (fun C hl kk => lv_ishr C.1 C.2.1 hd (kk _ hl)) k
theorem X.iushr {x y : Int32} (I : D1 μ pc .iushr 1 pc') (k : X Γ μ R κ pc' L (.int (x.toUInt32 >>> (y.toUInt32 &&& Int32.toUInt32 31)).toInt32 :: S) h Q) : X Γ μ R κ pc L (.int y :: .int x :: S) h Q := by
  obtain ⟨hd, rfl⟩ := I
  exact X.frame (fun C hl kk => lv_iushr C.1 C.2.1 hd rfl (kk _ hl)) k
theorem X.idiv {x y : Int32} (I : D1 μ pc .idiv 1 pc') (hy : ¬ y = 0) (k : X Γ μ R κ pc' L (.int (x / y) :: S) h Q) : X Γ μ R κ pc L (.int y :: .int x :: S) h Q := by
  obtain ⟨hd, rfl⟩ := I
  exact X.frame (fun C hl kk => lv_idiv C.1 C.2.1 hd hy (kk _ hl)) k
theorem X.irem {x y : Int32} (I : D1 μ pc .irem 1 pc') (hy : ¬ y = 0) (k : X Γ μ R κ pc' L (.int (x - x / y * y) :: S) h Q) : X Γ μ R κ pc L (.int y :: .int x :: S) h Q := by
  obtain ⟨hd, rfl⟩ := I
  exact X.frame (fun C hl kk => lv_irem C.1 C.2.1 hd hy (kk _ hl)) k
theorem X.i2l {x : Int32} (I : D1 μ pc .i2l 1 pc') (k : X Γ μ R κ pc' L (.long x.toInt64 :: S) h Q) : X Γ μ R κ pc L (.int x :: S) h Q := by
  obtain ⟨hd, rfl⟩ := I
  exact X.frame (fun C hl kk => lv_i2l C.1 C.2.1 hd rfl (kk _ hl)) k
theorem X.l2i {x : Int64} (I : D1 μ pc .l2i 1 pc') (k : X Γ μ R κ pc' L (.int x.toInt32 :: S) h Q) : X Γ μ R κ pc L (.long x :: S) h Q := by
  obtain ⟨hd, rfl⟩ := I
  exact X.frame (fun C hl kk => lv_l2i C.1 C.2.1 hd rfl (kk _ hl)) k
theorem X.i2b {x : Int32} (I : D1 μ pc .i2b 1 pc') (k : X Γ μ R κ pc' L (.int x.toInt8.toInt32 :: S) h Q) : X Γ μ R κ pc L (.int x :: S) h Q := by
  obtain ⟨hd, rfl⟩ := I
  exact X.frame (fun C hl kk => lv_i2b C.1 C.2.1 hd rfl (kk _ hl)) k
theorem X.i2s {x : Int32} (I : D1 μ pc .i2s 1 pc') (k : X Γ μ R κ pc' L (.int x.toInt16.toInt32 :: S) h Q) : X Γ μ R κ pc L (.int x :: S) h Q := by
  obtain ⟨hd, rfl⟩ := I
  exact X.frame (fun C hl kk => lv_i2s C.1 C.2.1 hd rfl (kk _ hl)) k
theorem X.i2c {x : Int32} (I : D1 μ pc .i2c 1 pc') (k : X Γ μ R κ pc' L (.int (x.toUInt32 % 65536).toInt32 :: S) h Q) : X Γ μ R κ pc L (.int x :: S) h Q := by
  obtain ⟨hd, rfl⟩ := I
  exact X.frame (fun C hl kk => lv_i2c C.1 C.2.1 hd rfl (kk _ hl)) k
theorem X.ladd {x y : Int64} (I : D1 μ pc .ladd 1 pc') (k : X Γ μ R κ pc' L (.long (x + y) :: S) h Q) : X Γ μ R κ pc L (.long y :: .long x :: S) h Q := by
  obtain ⟨hd, rfl⟩ := I
  exact X.frame (fun C hl kk => lv_ladd C.1 C.2.1 hd (kk _ hl)) k
theorem X.lmul {x y : Int64} (I : D1 μ pc .lmul 1 pc') (k : X Γ μ R κ pc' L (.long (x * y) :: S) h Q) : X Γ μ R κ pc L (.long y :: .long x :: S) h Q := by
  obtain ⟨hd, rfl⟩ := I
  exact X.frame (fun C hl kk => lv_lmul C.1 C.2.1 hd (kk _ hl)) k
theorem X.land {x y : Int64} (I : D1 μ pc .land 1 pc') (k : X Γ μ R κ pc' L (.long (x &&& y) :: S) h Q) : X Γ μ R κ pc L (.long y :: .long x :: S) h Q := by
  obtain ⟨hd, rfl⟩ := I
  exact X.frame (fun C hl kk => lv_land C.1 C.2.1 hd (kk _ hl)) k
theorem X.lor {x y : Int64} (I : D1 μ pc .lor 1 pc') (k : X Γ μ R κ pc' L (.long (x ||| y) :: S) h Q) : X Γ μ R κ pc L (.long y :: .long x :: S) h Q := by
  obtain ⟨hd, rfl⟩ := I
  exact X.frame (fun C hl kk => lv_lor C.1 C.2.1 hd (kk _ hl)) k
theorem X.lshl {x : Int64} {y : Int32} (I : D1 μ pc .lshl 1 pc') (k : X Γ μ R κ pc' L (.long (x <<< (y.toInt64 &&& 63)) :: S) h Q) : X Γ μ R κ pc L (.int y :: .long x :: S) h Q := by
  obtain ⟨hd, rfl⟩ := I
  exact X.frame (fun C hl kk => lv_lshl C.1 C.2.1 hd rfl (kk _ hl)) k
theorem X.lcmp {x y : Int64} (I : D1 μ pc .lcmp 1 pc') (k : X Γ μ R κ pc' L (.int (lg_cmp x y) :: S) h Q) : X Γ μ R κ pc L (.long y :: .long x :: S) h Q := by
  obtain ⟨hd, rfl⟩ := I
  exact X.frame (fun C hl kk => W.lcmp C.1 C.2.1 hd (kk _ hl)) k
theorem X.dupi {x : Int32} (I : D1 μ pc .dup 1 pc') (k : X Γ μ R κ pc' L (.int x :: .int x :: S) h Q) : X Γ μ R κ pc L (.int x :: S) h Q := by
  obtain ⟨hd, rfl⟩ := I
  exact X.frame (fun C hl kk => lv_dup C.1 C.2.1 hd rfl (kk _ hl)) k
theorem X.dupa {a : Nat} (I : D1 μ pc .dup 1 pc') (k : X Γ μ R κ pc' L (.ref a :: .ref a :: S) h Q) : X Γ μ R κ pc L (.ref a :: S) h Q := by
  obtain ⟨hd, rfl⟩ := I
  exact X.frame (fun C hl kk => lv_dup C.1 C.2.1 hd rfl (kk _ hl)) k
theorem X.popi {x : Int32} (I : D1 μ pc .pop 1 pc') (k : X Γ μ R κ pc' L S h Q) : X Γ μ R κ pc L (.int x :: S) h Q := by
  obtain ⟨hd, rfl⟩ := I
  exact X.frame (fun C hl kk => lv_pop C.1 C.2.1 hd rfl (kk _ hl)) k
theorem X.dup2 {x : Int32} {a : Nat} (I : D1 μ pc .dup2 1 pc') (k : X Γ μ R κ pc' L (.int x :: .ref a :: .int x :: .ref a :: S) h Q) : X Γ μ R κ pc L (.int x :: .ref a :: S) h Q := by
  obtain ⟨hd, rfl⟩ := I
  exact X.frame (fun C hl kk => lv_dup2_11 C.1 C.2.1 hd rfl rfl (kk _ hl)) k
/-! branches -/
theorem X.split {c : Prop} (L1 : List (Option Value)) (S1 : List Value) (st : ∀ {p : Program} {l : Launch} {e : Env} {s : State} {m : MethodId} {args : Array Value} {below : List Frame} {meth : Method} {c0 : Code} {H : Heap} {locs : List Loc} {cells slots : Nat} {Z : State → Prop} {B b : Nat} {ls : Array Slot} {D : va_G} {dA : FieldType → ClassId}, XCtx Γ μ p s m args meth c0 B b D dA → (c → W p l e R s m args below meth c0 H locs cells slots Z (F0 m tgt ls (S1.map (xv B b)))) → (¬ c → W p l e R s m args below meth c0 H locs cells slots Z (F0 m pc' ls (S1.map (xv B b)))) → W p l e R s m args below meth c0 H locs cells slots Z (F0 m pc ls (S.map (xv B b)))) (kt : c → X Γ μ R κ tgt L S1 h Q) (kf : ¬ c → X Γ μ R κ pc' L S1 h Q) : X Γ μ R κ pc L S h Q := by
  intro p l e s m args below meth c B b D dA C Z E hκ H locs ls hR hS hl
  exact st C (fun hc => kt hc p l e s m args below meth c B b D dA C Z E hκ H locs ls hR hS hl) (fun hc => kf hc p l e s m args below meth c B b D dA C Z E hκ H locs ls hR hS hl)
abbrev DIf (μ : MI) (pc : Nat) (op : Jvm.ClassFile.Cond) (tgt pc' : Nat) : Prop := ∃ off : Int, decode μ.2.1 pc = .ok (.ifCond op off, 3) ∧ (pc : Int) + off = (tgt : Int) ∧ pc + 3 = pc'
abbrev DCm (μ : MI) (pc : Nat) (op : Jvm.ClassFile.Cond) (tgt pc' : Nat) : Prop := ∃ off : Int, decode μ.2.1 pc = .ok (.if_icmp op off, 3) ∧ (pc : Int) + off = (tgt : Int) ∧ pc + 3 = pc'
abbrev DGo (μ : MI) (pc tgt : Nat) : Prop := ∃ off : Int, decode μ.2.1 pc = .ok (.goto off, 3) ∧ (pc : Int) + off = (tgt : Int)
theorem X.goto (I : DGo μ pc tgt) (k : X Γ μ R κ tgt L S h Q) : X Γ μ R κ pc L S h Q := by
  obtain ⟨off, hd, ht⟩ := I
  exact X.frame (fun C hl kk => lv_goto C.1 C.2.1 hd ht (kk _ hl)) k
end XI
end
section
/-! X, second half: branches, fields, arrays, makings, calls, ends -/
section XB
variable {Γ : State → Nat → Nat → Prop} {μ : MI} {R : Room} {κ : Nat × Nat} {pc pc' tgt : Nat} {L L' : List (Option Value)} {S S' : List Value} {h : XH} {Q : Option Value → XH → Prop}
theorem X.fork {c d : Prop} (S1 : List Value) (st : ∀ {p : Program} {l : Launch} {e : Env} {s : State} {m : MethodId} {args : Array Value} {below : List Frame} {meth : Method} {c0 : Code} {H : Heap} {locs : List Loc} {cells slots : Nat} {Z : State → Prop} {B b : Nat} {ls : Array Slot} {D : va_G} {dA : FieldType → ClassId}, XCtx Γ μ p s m args meth c0 B b D dA → (c → W p l e R s m args below meth c0 H locs cells slots Z (F0 m tgt ls (S1.map (xv B b)))) → (d → W p l e R s m args below meth c0 H locs cells slots Z (F0 m pc' ls (S1.map (xv B b)))) → W p l e R s m args below meth c0 H locs cells slots Z (F0 m pc ls (S.map (xv B b)))) (kt : c → X Γ μ R κ tgt L S1 h Q) (kf : d → X Γ μ R κ pc' L S1 h Q) : X Γ μ R κ pc L S h Q := by
  intro p l e s m args below meth c B b D dA C Z E hκ H locs ls hR hS hl
  exact st C (fun hc => kt hc p l e s m args below meth c B b D dA C Z E hκ H locs ls hR hS hl) (fun hc => kf hc p l e s m args below meth c B b D dA C Z E hκ H locs ls hR hS hl)
theorem X.ifeq {x : Int32} (I : DIf μ pc .eq tgt pc') (kt : x = 0 → X Γ μ R κ tgt L S h Q) (kf : ¬ x = 0 → X Γ μ R κ pc' L S h Q) : X Γ μ R κ pc L (.int x :: S) h Q := by
  obtain ⟨off, hd, ht, rfl⟩ := I
  exact X.fork S (fun C a b => lv_if_eq C.1 C.2.1 hd ht a b) kt kf
theorem X.ifne {x : Int32} (I : DIf μ pc .ne tgt pc') (kt : ¬ x = 0 → X Γ μ R κ tgt L S h Q) (kf : x = 0 → X Γ μ R κ pc' L S h Q) : X Γ μ R κ pc L (.int x :: S) h Q := by
  obtain ⟨off, hd, ht, rfl⟩ := I
  exact X.fork S (fun C a b => lv_if_ne C.1 C.2.1 hd ht a b) kt kf
theorem X.iflt {x : Int32} (I : DIf μ pc .lt tgt pc') (kt : x < 0 → X Γ μ R κ tgt L S h Q) (kf : ¬ x < 0 → X Γ μ R κ pc' L S h Q) : X Γ μ R κ pc L (.int x :: S) h Q := by
  obtain ⟨off, hd, ht, rfl⟩ := I
  exact X.fork S (fun C a b => lv_if_lt C.1 C.2.1 hd ht a b) kt kf
theorem X.ifge {x : Int32} (I : DIf μ pc .ge tgt pc') (kt : 0 ≤ x → X Γ μ R κ tgt L S h Q) (kf : ¬ 0 ≤ x → X Γ μ R κ pc' L S h Q) : X Γ μ R κ pc L (.int x :: S) h Q := by
  obtain ⟨off, hd, ht, rfl⟩ := I
  exact X.fork S (fun C a b => lv_if_ge C.1 C.2.1 hd ht a b) kt kf
theorem X.ifgt {x : Int32} (I : DIf μ pc .gt tgt pc') (kt : 0 < x → X Γ μ R κ tgt L S h Q) (kf : ¬ 0 < x → X Γ μ R κ pc' L S h Q) : X Γ μ R κ pc L (.int x :: S) h Q := by
  obtain ⟨off, hd, ht, rfl⟩ := I
  exact X.fork S (fun C a b => lv_if_gt C.1 C.2.1 hd ht a b) kt kf
theorem X.ifle {x : Int32} (I : DIf μ pc .le tgt pc') (kt : x ≤ 0 → X Γ μ R κ tgt L S h Q) (kf : ¬ x ≤ 0 → X Γ μ R κ pc' L S h Q) : X Γ μ R κ pc L (.int x :: S) h Q := by
  obtain ⟨off, hd, ht, rfl⟩ := I
  exact X.fork S (fun C a b => lv_if_le C.1 C.2.1 hd ht a b) kt kf
theorem X.cmeq {x y : Int32} (I : DCm μ pc .eq tgt pc') (kt : x = y → X Γ μ R κ tgt L S h Q) (kf : ¬ x = y → X Γ μ R κ pc' L S h Q) : X Γ μ R κ pc L (.int y :: .int x :: S) h Q := by
  obtain ⟨off, hd, ht, rfl⟩ := I
  exact X.fork S (fun C a b => lv_icmp_eq C.1 C.2.1 hd ht a b) kt kf
theorem X.cmne {x y : Int32} (I : DCm μ pc .ne tgt pc') (kt : ¬ x = y → X Γ μ R κ tgt L S h Q) (kf : x = y → X Γ μ R κ pc' L S h Q) : X Γ μ R κ pc L (.int y :: .int x :: S) h Q := by
  obtain ⟨off, hd, ht, rfl⟩ := I
  exact X.fork S (fun C a b => lv_icmp_ne C.1 C.2.1 hd ht a b) kt kf
theorem X.cmlt {x y : Int32} (I : DCm μ pc .lt tgt pc') (kt : x < y → X Γ μ R κ tgt L S h Q) (kf : ¬ x < y → X Γ μ R κ pc' L S h Q) : X Γ μ R κ pc L (.int y :: .int x :: S) h Q := by
  obtain ⟨off, hd, ht, rfl⟩ := I
  exact X.fork S (fun C a b => lv_icmp_lt C.1 C.2.1 hd ht a b) kt kf
theorem X.cmge {x y : Int32} (I : DCm μ pc .ge tgt pc') (kt : y ≤ x → X Γ μ R κ tgt L S h Q) (kf : ¬ y ≤ x → X Γ μ R κ pc' L S h Q) : X Γ μ R κ pc L (.int y :: .int x :: S) h Q := by
  obtain ⟨off, hd, ht, rfl⟩ := I
  exact X.fork S (fun C a b => lv_icmp_ge C.1 C.2.1 hd ht a b) kt kf
theorem X.cmgt {x y : Int32} (I : DCm μ pc .gt tgt pc') (kt : y < x → X Γ μ R κ tgt L S h Q) (kf : ¬ y < x → X Γ μ R κ pc' L S h Q) : X Γ μ R κ pc L (.int y :: .int x :: S) h Q := by
  obtain ⟨off, hd, ht, rfl⟩ := I
  exact X.fork S (fun C a b => lv_icmp_gt C.1 C.2.1 hd ht a b) kt kf
theorem X.cmle {x y : Int32} (I : DCm μ pc .le tgt pc') (kt : x ≤ y → X Γ μ R κ tgt L S h Q) (kf : ¬ x ≤ y → X Γ μ R κ pc' L S h Q) : X Γ μ R κ pc L (.int y :: .int x :: S) h Q := by
  obtain ⟨off, hd, ht, rfl⟩ := I
  exact X.fork S (fun C a b => lv_icmp_le C.1 C.2.1 hd ht a b) kt kf
/-- truth values as ints -/
def bI (b : Bool) : Int32 := if b then 1 else 0
theorem bI_0 {b : Bool} (h : bI b = 0) : b = false := by cases b <;> first | rfl | exact absurd h (by decide)
theorem bI_1 {b : Bool} (h : ¬ bI b = 0) : b = true := by cases b <;> first | rfl | exact absurd rfl h
theorem bI_nar : ∀ b : Bool, narrow .boolean (.int (bI b)) = .int (bI b) := by decide
theorem bI_fit : ∀ b : Bool, fits .boolean (.int (bI b)) = true := by decide
theorem X.ifeqB {b : Bool} (I : DIf μ pc .eq tgt pc') (kt : b = false → X Γ μ R κ tgt L S h Q) (kf : b = true → X Γ μ R κ pc' L S h Q) : X Γ μ R κ pc L (.int (bI b) :: S) h Q := X.ifeq I (fun e => kt (bI_0 e)) (fun e => kf (bI_1 e))
theorem X.ifneB {b : Bool} (I : DIf μ pc .ne tgt pc') (kt : b = true → X Γ μ R κ tgt L S h Q) (kf : b = false → X Γ μ R κ pc' L S h Q) : X Γ μ R κ pc L (.int (bI b) :: S) h Q := X.ifne I (fun e => kt (bI_1 e)) (fun e => kf (bI_0 e))
/-! switches: the targets in order from lo on, then the default -/
def DTab (μ : MI) (pc : Nat) (lo : Int) (tgts : List Nat) (d : Nat) : Prop := ∃ (dflt hi : Int) (offs : Array Int) (len : Nat), decode μ.2.1 pc = .ok (.tableswitch dflt lo hi offs, len) ∧ hi = lo + (tgts.length : Int) - 1 ∧ (pc : Int) + dflt = (d : Int) ∧ offs.toList = tgts.map (fun (t : Nat) => ((t : Nat) : Int) - (pc : Int))
theorem X.tabIn {x : Int32} {lo : Int} {tgts : List Nat} {d : Nat} (I : DTab μ pc lo tgts d) (j : Nat) (hj : tgts[j]? = some tgt) (hx : x.toInt = lo + (j : Int)) (k : X Γ μ R κ tgt L S h Q) : X Γ μ R κ pc L (.int x :: S) h Q := by
  obtain ⟨dflt, hi, offs, len, hd, rfl, h2, h3⟩ := I
  have hlt : j < tgts.length := (List.getElem?_eq_some_iff.mp hj).1
  refine X.frame (fun C hl kk => lv_tableIn (off := (tgt : Int) - (pc : Int)) C.1 C.2.1 hd (by omega) (by omega) ?_ (by omega) (kk _ hl)) k
  have e : (x.toInt - lo).toNat = j := by omega
  rw [e, ← Array.getElem?_toList, h3, List.getElem?_map, hj]
  rfl
theorem X.tabOut {x : Int32} {lo : Int} {tgts : List Nat} {d : Nat} (I : DTab μ pc lo tgts d) (hx : x.toInt < lo ∨ lo + (tgts.length : Int) ≤ x.toInt) (k : X Γ μ R κ d L S h Q) : X Γ μ R κ pc L (.int x :: S) h Q := by
  obtain ⟨dflt, hi, offs, len, hd, rfl, h2, h3⟩ := I
  exact X.frame (fun C hl kk => lv_tableOut C.1 C.2.1 hd (by omega) h2 (kk _ hl)) k
def DLook (μ : MI) (pc : Nat) (ps : List (Int × Int)) (d : Int) : Prop := ∃ (pa : Array (Int × Int)) (len : Nat), decode μ.2.1 pc = .ok (.lookupswitch d pa, len) ∧ pa.toList = ps ∧ (pa.toList.zip (pa.toList.drop 1)).all (fun (a, next) => a.1 < next.1) = true
theorem X.look {x : Int32} {ps : List (Int × Int)} {d : Int} (I : DLook μ pc ps d) (ht : (pc : Int) + Op.lookupswitch.offset ps d x.toInt = (tgt : Int)) (k : X Γ μ R κ tgt L S h Q) : X Γ μ R κ pc L (.int x :: S) h Q := by
  obtain ⟨pa, len, hd, rfl, hp⟩ := I
  exact X.frame (fun C hl kk => lv_lookup C.1 C.2.1 hd hp rfl ht (kk _ hl)) k
end XB
/-! fields -/
theorem xone {D : va_G} {cl : List vw_C} {q : Nat × va_E} {H : Heap} (hq : va_at D cl q H) : va_P D cl [q] H := by
  intro k x hx
  match k, hx with
  | 0, hx => cases hx; exact hq
  | k + 1, hx => simp at hx
def XFld (own : String) (idx ci k : Nat) : Prop := ∃ (C : String) (T : u_T) (N : Nat), vwCl[ci]? = some (C, T, N) ∧ k < N ∧ Cond.fieldLink own idx (T k).1 (T k).2.1 (T k).2.2.1 ∈ bigW ∧ ∀ w ∈ u_ws C T N, w ∈ bigW
def XFldP (y : MethodName) (idx ci k : Nat) (ty : FieldType) : Prop := ∃ (C : String) (T : u_T) (N : Nat) (ty0 : Nat → FieldType), vwCl[ci]? = some (C, T, N) ∧ k < N ∧ Cond.fieldLink y.cls idx (T k).1 (T k).2.1 (T k).2.2.1 ∈ bigW ∧ (∀ w ∈ u_ws C T N, w ∈ bigW) ∧ (∀ k, k < N → parseFieldDescriptor (T k).2.2.1 = some (ty0 k)) ∧ (∀ a, a < N → ∀ b, b < N → a ≠ b → (T a).2.1 ≠ (T b).2.1) ∧ ty0 k = ty ∧ ((T k).2.2.2 = false ∨ ((T k).2.2.2 = true ∧ y.name = "<init>" ∧ (T k).1 = y.cls))
def DGet (μ : MI) (pc ci k pc' : Nat) : Prop := ∃ idx, decode μ.2.1 pc = .ok (.getfield idx, 3) ∧ pc + 3 = pc' ∧ XFld μ.1.cls idx ci k
def DPut (μ : MI) (pc ci k : Nat) (ty : FieldType) (pc' : Nat) : Prop := ∃ idx, decode μ.2.1 pc = .ok (.putfield idx, 3) ∧ pc + 3 = pc' ∧ XFldP μ.1 idx ci k ty
section XF
variable {Γ : State → Nat → Nat → Prop} {μ : MI} {R : Room} {κ : Nat × Nat} {pc pc' tgt : Nat} {L L' : List (Option Value)} {S S' : List Value} {h : XH} {Q : Option Value → XH → Prop}
theorem X.getf {ci k a : Nat} {fs : List Value} {v : Value} (I : DGet μ pc ci k pc') (ha : h a = some (.inr (ci, fs))) (hv : fs[k]? = some v) (kk : X Γ μ R κ pc' L (v :: S) h Q) : X Γ μ R κ pc L (.ref a :: S) h Q := by
  intro p l e s m args below meth c B b D dA C Z E hκ H locs ls hR hS hl
  obtain ⟨idx, hd, rfl, Cn, T, N, h1, h2, h3, h4⟩ := I
  have hts := C.2.2.2.2.2.2.1
  exact va_get (v := xv B b v) C.1 C.2.1 hts h4 C.2.2.2.2.2.1 C.2.2.2.2.2.2.2.1.1 (xone (hR.at ha)) 0 rfl h1 k h2 (hts _ h3) (fun _ h9 => h9) (by rw [List.getElem?_map, hv]; rfl) hd (kk p l e s m args below meth c B b D dA C Z E hκ H locs ls hR hS hl)
theorem xset_map (B b : Nat) (fs : List Value) (k : Nat) (v : Value) : (fs.map (xv B b)).set k (xv B b v) = (fs.set k v).map (xv B b) := by rw [List.map_set]
theorem xwrote {B a k : Nat} {H0 H H1 : Heap} {locs : List Loc} (hS : va_S (fun q => B ≤ q) H0 H locs) (z : H1.size = H.size) (oq : ∀ q : Nat, q ≠ a → H1[q]? = H[q]?) (ha : B ≤ a) : va_S (fun q => B ≤ q) H0 H1 (locs ++ [⟨a, k⟩]) := hS.put z oq ha
theorem XRel.ge {B b : Nat} {D : va_G} {dA : FieldType → ClassId} {h : XH} {H : Heap} (hR : XRel B b D dA h H) {i : Nat} {c : XC} (hi : h i = some c) : B ≤ xphi B b i := by rw [hR.phi hi]; omega
set_option maxHeartbeats 1000000 in
theorem X.putf {ci k a : Nat} {fs : List Value} {v : Value} {ty : FieldType} (I : DPut μ pc ci k ty pc') (ha : h a = some (.inr (ci, fs))) (hl : k < fs.length) (hn : ∀ B b, narrow ty (xv B b v) = xv B b v) (hf : ∀ B b, fits ty (xv B b v) = true) (kk : X Γ μ R κ pc' L S (xup h a (.inr (ci, fs.set k v))) Q) : X Γ μ R κ pc L (v :: .ref a :: S) h Q := by
  intro p l e s m args below meth c B b D dA C Z E hκ H locs ls hR hS hls
  obtain ⟨idx, hd, rfl, Cn, T, N, ty0, hc, hk, hlink, hin, hty, hnm, htk, hfin⟩ := I
  have hts := C.2.2.2.2.2.2.1
  have hown := C.2.2.2.2.2.1
  have hK := C.2.2.2.2.2.2.2.1.1
  have hap := va_apart (own := μ.1.cls) hts hin ty0 hty hnm hK hc
  obtain ⟨r, h1, cell, q1, q2, q3, q4⟩ := hR.at ha
  have hr : r = (Cn, T, N) := Option.some.inj (h1.symm.trans hc)
  subst hr
  obtain ⟨hSl, hfc, kC, hkC, hkind⟩ := hK.1 ci _ hc
  obtain ⟨cf, kf, fi, f, hi, hsl⟩ := hSl k hk
  have hlay := hts _ (hin _ (u_in_lay hk))
  unfold u_lay at hlay
  have hst := (u_facts hfc hkC (u_lays hts hin hk) hi).1
  have hpd : parseFieldDescriptor (T k).2.2.1 = some ty := by rw [hty k hk, htk]
  have fin : ∀ H' : Heap, H'[xphi B b a]? = some (cell.setSlot f.slot (xv B b v)) → H'.size = H.size → (∀ q, q ≠ xphi B b a → H'[q]? = H[q]?) → W p l e R s m args below meth c H' (locs ++ [⟨xphi B b a, f.slot⟩]) κ.1 κ.2 Z (F0 m (pc + 3) ls (S.map (xv B b))) := by
    intro H' e1 e2 e3
    rw [hsl] at e1 ⊢
    refine kk p l e s m args below meth c B b D dA C Z E hκ H' _ ls (hR.put ha e2 ?_ e3) (xwrote hS e2 e3 (hR.ge ha)) hls
    refine ⟨_, hc, ?_⟩
    show t_OB (xphi B b a) (D.1 ci) N (D.2 ci) H' (vp_V ((fs.set k v).map (xv B b)))
    rw [← xset_map]
    exact t_OB.to (V := updV (vp_V (fs.map (xv B b))) k (xv B b v)) ⟨_, e1, q2, q3, t_set q4 hap hk _⟩ (fun j _ => vp_updV_set (by rw [List.length_map]; exact hl) _ j)
  rcases hfin with hfin | ⟨hfin, hinit, hdecl⟩
  · rw [if_neg (by rw [hfin]; decide)] at hlay
    have h6 := u_store hfc hkC hkind hlay hi hpd (hn B b) (hf B b)
    exact W.putK C.1 C.2.1 (f := f) ⟨hown, hts _ hlink, ⟨_, _, _, hi⟩, hst⟩ (by rw [q2]; exact h6) q1 q3 (by rw [hsl]; exact k2_hasslot (q4 k hk)) rfl rfl hd fin
  · rw [if_pos hfin] at hlay
    have hcf : m.cls = cf := by
      obtain ⟨_, _, c', _, _, _, -, -, hf', -, -, -, hown2, -⟩ := Cond.laysFinal_spec hlay
      have e1 : c' = cf := by have := hi.symm.trans hf'; simp at this; exact this.1.symm
      rw [hdecl] at hown2
      rw [← e1]; exact Option.some.inj (hown.symm.trans hown2)
    have h6 := u_fits hfc hkC hkind (Or.inr hlay) hi hpd (hn B b) (hf B b)
    exact W.putFinK C.1 C.2.1 hown (hts _ hlink) hi hst hcf (by rw [C.2.2.2.2.2.2.2.2.2.1]; exact hinit) (by rw [q2]; exact h6) q1 q3 (by rw [hsl]; exact k2_hasslot (q4 k hk)) rfl rfl hd fin
theorem X.puti {ci k a : Nat} {fs : List Value} {x : Int32} (I : DPut μ pc ci k .int pc') (ha : h a = some (.inr (ci, fs))) (hl : k < fs.length) (kk : X Γ μ R κ pc' L S (xup h a (.inr (ci, fs.set k (.int x)))) Q) : X Γ μ R κ pc L (.int x :: .ref a :: S) h Q := X.putf I ha hl (fun _ _ => vp_nar_int x) (fun _ _ => rfl) kk
theorem X.putz {ci k a : Nat} {fs : List Value} {x : Bool} (I : DPut μ pc ci k .boolean pc') (ha : h a = some (.inr (ci, fs))) (hl : k < fs.length) (kk : X Γ μ R κ pc' L S (xup h a (.inr (ci, fs.set k (.int (bI x))))) Q) : X Γ μ R κ pc L (.int (bI x) :: .ref a :: S) h Q := X.putf I ha hl (fun _ _ => bI_nar x) (fun _ _ => bI_fit x) kk
theorem X.puta {ci k a v : Nat} {fs : List Value} {C : String} (I : DPut μ pc ci k (.object C) pc') (ha : h a = some (.inr (ci, fs))) (hl : k < fs.length) (kk : X Γ μ R κ pc' L S (xup h a (.inr (ci, fs.set k (.ref v)))) Q) : X Γ μ R κ pc L (.ref v :: .ref a :: S) h Q := X.putf I ha hl (fun _ _ => rfl) (fun _ _ => rfl) kk
theorem X.putr {ci k a v : Nat} {fs : List Value} {ty : FieldType} (I : DPut μ pc ci k (.array ty) pc') (ha : h a = some (.inr (ci, fs))) (hl : k < fs.length) (kk : X Γ μ R κ pc' L S (xup h a (.inr (ci, fs.set k (.ref v)))) Q) : X Γ μ R κ pc L (.ref v :: .ref a :: S) h Q := X.putf I ha hl (fun _ _ => rfl) (fun _ _ => rfl) kk
/-! arrays -/
theorem X.iald {a n : Nat} {f : Nat → Int32} {i : Int32} (I : D1 μ pc .iaload 1 pc') (ha : h a = some (.inl (.int, n, .inl f))) (hin : vp_in i n) (kk : X Γ μ R κ pc' L (.int (f i.toNatClampNeg) :: S) h Q) : X Γ μ R κ pc L (.int i :: .ref a :: S) h Q := by
  intro p l e s m args below meth c B b D dA C Z E hκ H locs ls hR hS hl
  obtain ⟨hd, rfl⟩ := I
  exact va_iald C.1 C.2.1 C.2.2.2.2.2.2.2.1.1 (xone (hR.at ha)) 0 0 rfl rfl hin hd (kk p l e s m args below meth c B b D dA C Z E hκ H locs ls hR hS hl)
theorem X.lald {a n : Nat} {f : Nat → Int64} {i : Int32} (I : D1 μ pc .laload 1 pc') (ha : h a = some (.inl (.long, n, .inr (.inl f)))) (hin : vp_in i n) (kk : X Γ μ R κ pc' L (.long (f i.toNatClampNeg) :: S) h Q) : X Γ μ R κ pc L (.int i :: .ref a :: S) h Q := by
  intro p l e s m args below meth c B b D dA C Z E hκ H locs ls hR hS hl
  obtain ⟨hd, rfl⟩ := I
  exact va_lald C.1 C.2.1 C.2.2.2.2.2.2.2.1.1 (xone (hR.at ha)) 0 1 rfl rfl hin hd (kk p l e s m args below meth c B b D dA C Z E hκ H locs ls hR hS hl)
theorem X.cald {a n : Nat} {f : Nat → Int32} {i : Int32} (I : D1 μ pc .caload 1 pc') (ha : h a = some (.inl (.char, n, .inl f))) (hin : vp_in i n) (kk : X Γ μ R κ pc' L (.int (f i.toNatClampNeg) :: S) h Q) : X Γ μ R κ pc L (.int i :: .ref a :: S) h Q := by
  intro p l e s m args below meth c B b D dA C Z E hκ H locs ls hR hS hl
  obtain ⟨hd, rfl⟩ := I
  exact va_cald C.1 C.2.1 C.2.2.2.2.2.2.2.1.1 (xone (hR.at ha)) 0 2 rfl rfl hin hd (kk p l e s m args below meth c B b D dA C Z E hκ H locs ls hR hS hl)
theorem X.aald {a n q : Nat} {ty : FieldType} {f : Nat → Option Nat} {i : Int32} (I : D1 μ pc .aaload 1 pc') (hty : ty = .object RX2 ∨ ty = .object RX4) (ha : h a = some (.inl (ty, n, .inr (.inr (.inr (.inr f)))))) (hin : vp_in i n) (hq : f i.toNatClampNeg = some q) (kk : X Γ μ R κ pc' L (.ref q :: S) h Q) : X Γ μ R κ pc L (.int i :: .ref a :: S) h Q := by
  intro p l e s m args below meth c B b D dA C Z E hκ H locs ls hR hS hl
  obtain ⟨hd, rfl⟩ := I
  have k2 := kk p l e s m args below meth c B b D dA C Z E hκ H locs ls hR hS hl
  have e2 : Option.map (xphi B b) (f i.toNatClampNeg) = some (xphi B b q) := by rw [hq]; rfl
  rcases hty with rfl | rfl
  · refine va_aldq C.1 C.2.1 C.2.2.2.2.2.2.2.1.1 (xone (hR.at ha)) 0 3 rfl rfl hin hd ?_
    rw [e2]
    exact k2
  · refine va_aldq C.1 C.2.1 C.2.2.2.2.2.2.2.1.1 (xone (hR.at ha)) 0 4 rfl rfl hin hd ?_
    rw [e2]
    exact k2
theorem xst {α : Type} (mk : α → Value) (cA : ClassId) (n j : Nat) (f g : Nat → α) (v : α) (hg : ∀ q, g q = if q = j then v else f q) : (arrV cA n (fun q => mk (f q))).setSlot j (mk v) = arrV cA n (fun q => mk (g q)) := by
  rw [arrV_store]
  congr 1
  funext q
  rw [hg q]
  by_cases hq : q = j
  · simp [updV, hq]
  · simp [updV, hq]
theorem X.iast {a n : Nat} {f : Nat → Int32} {i x : Int32} (I : D1 μ pc .iastore 1 pc') (ha : h a = some (.inl (.int, n, .inl f))) (hin : vp_in i n) (kk : X Γ μ R κ pc' L S (xup h a (.inl (.int, n, .inl (upd f i.toNatClampNeg x)))) Q) : X Γ μ R κ pc L (.int x :: .int i :: .ref a :: S) h Q := by
  intro p l e s m args below meth c B b D dA C Z E hκ H locs ls hR hS hl
  obtain ⟨hd, rfl⟩ := I
  refine W.iast C.1 C.2.1 (hR.at ha) ((C.2.2.2.2.2.2.2.1.1.2 0 _ rfl).1 n (fun j => .int (f j))) (fun q => by cases q) (by show ¬ (i < 0 ∨ (arrV _ _ _).slots.size ≤ _); rw [arrV_size]; exact hin) rfl rfl hd fun H1 e1 z oq => ?_
  refine kk p l e s m args below meth c B b D dA C Z E hκ H1 _ ls (hR.put ha z ?_ oq) (xwrote hS z oq (hR.ge ha)) hl
  show H1[xphi B b a]? = some (vp_cell _ _)
  rw [e1]
  exact congrArg some (xst Value.int _ n _ f _ x (fun q => rfl))
theorem X.last {a n : Nat} {f : Nat → Int64} {i : Int32} {x : Int64} (I : D1 μ pc .lastore 1 pc') (ha : h a = some (.inl (.long, n, .inr (.inl f)))) (hin : vp_in i n) (kk : X Γ μ R κ pc' L S (xup h a (.inl (.long, n, .inr (.inl (vp_updL f i.toNatClampNeg x))))) Q) : X Γ μ R κ pc L (.long x :: .int i :: .ref a :: S) h Q := by
  intro p l e s m args below meth c B b D dA C Z E hκ H locs ls hR hS hl
  obtain ⟨hd, rfl⟩ := I
  refine W.last C.1 C.2.1 (hR.at ha) ((C.2.2.2.2.2.2.2.1.1.2 1 _ rfl).1 n (fun j => .long (f j))) (fun q => by cases q) (by show ¬ (i < 0 ∨ (arrV _ _ _).slots.size ≤ _); rw [arrV_size]; exact hin) rfl rfl hd fun H1 e1 z oq => ?_
  refine kk p l e s m args below meth c B b D dA C Z E hκ H1 _ ls (hR.put ha z ?_ oq) (xwrote hS z oq (hR.ge ha)) hl
  show H1[xphi B b a]? = some (vp_cell _ _)
  rw [e1]
  exact congrArg some (xst Value.long _ n _ f _ x (fun q => rfl))
theorem X.cast {a n : Nat} {f : Nat → Int32} {i x : Int32} (I : D1 μ pc .castore 1 pc') (ha : h a = some (.inl (.char, n, .inl f))) (hin : vp_in i n) (hx : narrow .char (.int x) = .int x) (kk : X Γ μ R κ pc' L S (xup h a (.inl (.char, n, .inl (upd f i.toNatClampNeg x)))) Q) : X Γ μ R κ pc L (.int x :: .int i :: .ref a :: S) h Q := by
  intro p l e s m args below meth c B b D dA C Z E hκ H locs ls hR hS hl
  obtain ⟨hd, rfl⟩ := I
  refine W.cast C.1 C.2.1 (hR.at ha) ((C.2.2.2.2.2.2.2.1.1.2 2 _ rfl).1 n (fun j => .int (f j))) (fun q => by cases q) (by show ¬ (i < 0 ∨ (arrV _ _ _).slots.size ≤ _); rw [arrV_size]; exact hin) rfl rfl hd fun H1 e1 z oq => ?_
  refine kk p l e s m args below meth c B b D dA C Z E hκ H1 _ ls (hR.put ha z ?_ oq) (xwrote hS z oq (hR.ge ha)) hl
  show H1[xphi B b a]? = some (vp_cell _ _)
  rw [e1, hx]
  exact congrArg some (xst Value.int _ n _ f _ x (fun q => rfl))
set_option maxHeartbeats 1000000 in
theorem X.aast {a n v ci : Nat} {r : vw_C} {vs : List Value} {f : Nat → Option Nat} {i : Int32} (I : D1 μ pc .aastore 1 pc') (hty : r.1 = RX2 ∨ r.1 = RX4) (hc : vwCl[ci]? = some r) (ha : h a = some (.inl (.object r.1, n, .inr (.inr (.inr (.inr f)))))) (hv : h v = some (.inr (ci, vs))) (hin : vp_in i n) (kk : X Γ μ R κ pc' L S (xup h a (.inl (.object r.1, n, .inr (.inr (.inr (.inr (va_up f i.toNatClampNeg (some v)))))))) Q) : X Γ μ R κ pc L (.ref v :: .int i :: .ref a :: S) h Q := by
  intro p l e s m args below meth c B b D dA C Z E hκ H locs ls hR hS hl
  obtain ⟨hd, rfl⟩ := I
  have hlt : i.toNatClampNeg < n := Nat.not_le.mp fun q => hin (Or.inr q)
  have h0 : ¬ i < 0 := fun q => hin (Or.inl q)
  have hK := C.2.2.2.2.2.2.2.1.1
  obtain ⟨r', hr', cellV, g1, g2, g3, -⟩ := hR.at hv
  have hcls := (hK.1 ci r hc).2
  have hra : va_RA s (dA (.object r.1)) (.object r.1) := by
    rcases hty with hty | hty
    · rw [hty]; exact (hK.2 3 _ rfl).2
    · rw [hty]; exact (hK.2 4 _ rfl).2
  obtain ⟨kA, comp, k1, k2, k3, -⟩ := hra
  have hcomp : comp = D.1 ci := Option.some.inj (k3.symm.trans hcls.1)
  subst hcomp
  obtain ⟨kC, hkC, -⟩ := hcls.2
  refine W.aast C.1 C.2.1 (hR.at ha) (fun q h => by cases h) (fun h => by cases h) k1 k2 rfl hkC ⟨h0, by show _ < (arrV _ _ _).slots.size; rw [arrV_size]; exact hlt⟩ g1 (fun q h => by rw [g3] at h; cases h) (by rw [g2]; exact hkC) (by rw [g2]; exact va_assign hcls) rfl rfl hd fun H1 e1 z oq => ?_
  refine kk p l e s m args below meth c B b D dA C Z E hκ H1 _ ls (hR.put ha z ?_ oq) (xwrote hS z oq (hR.ge ha)) hl
  show H1[xphi B b a]? = some (vp_cell _ _)
  rw [e1]
  have key := xst va_rf (dA (.object r.1)) n i.toNatClampNeg (fun j => (f j).map (xphi B b)) (fun j => (va_up f i.toNatClampNeg (some v) j).map (xphi B b)) (some (xphi B b v)) (fun q => by
    show (va_up f i.toNatClampNeg (some v) q).map (xphi B b) = if q = i.toNatClampNeg then some (xphi B b v) else (f q).map (xphi B b)
    unfold va_up
    split <;> rfl)
  exact congrArg some key
end XF
end
section
/-! X, third part: makings, copies, calls, ends -/
theorem xpushed {B : Nat} {H0 H H1 : Heap} {locs : List Loc} (hS : va_S (fun q => B ≤ q) H0 H locs) (z : H1.size = H.size + 1) (oq : ∀ q : Nat, q < H.size → H1[q]? = H[q]?) : va_S (fun q => B ≤ q) H0 H1 locs := ⟨Nat.le_trans hS.1 (by omega), fun x h1 h2 => (oq x (Nat.lt_of_lt_of_le h1 hS.1)).trans (hS.2.1 x h1 h2), hS.2.2⟩
def DNew (μ : MI) (pc ci : Nat) (fs : List Value) (pc' : Nat) : Prop := ∃ (idx : Nat) (C : String) (T : u_T) (N : Nat) (ty0 : Nat → FieldType), decode μ.2.1 pc = .ok (.new idx, 3) ∧ pc + 3 = pc' ∧ vwCl[ci]? = some (C, T, N) ∧ Cond.classLink μ.1.cls idx C ∈ bigW ∧ Cond.instantiable C N ∈ bigW ∧ Cond.initialized C ∈ bigW ∧ (∀ w ∈ u_ws C T N, w ∈ bigW) ∧ (∀ k, k < N → parseFieldDescriptor (T k).2.2.1 = some (ty0 k)) ∧ fs.length = N ∧ (∀ j, j < N → defaultValue (ty0 j) = vp_V fs j) ∧ ∀ B b, fs.map (xv B b) = fs
def DNewA (μ : MI) (pc : Nat) (ty : FieldType) (pc' : Nat) : Prop := ∃ atype : ArrayType, decode μ.2.1 pc = .ok (.newarray atype, 2) ∧ newarray.typeOf atype = ty ∧ Cond.arrayClass ty ∈ bigW ∧ pc + 2 = pc'
def DNewQ (μ : MI) (pc : Nat) (C : String) (pc' : Nat) : Prop := ∃ idx : Nat, decode μ.2.1 pc = .ok (.anewarray idx, 3) ∧ Cond.classLink μ.1.cls idx C ∈ bigW ∧ (C = RX2 ∨ C = RX4) ∧ pc + 3 = pc'
def DObj (μ : MI) (pc pc' : Nat) : Prop := ∃ idx : Nat, decode μ.2.1 pc = .ok (.invokespecial idx, 3) ∧ pc + 3 = pc' ∧ Cond.methodLink μ.1.cls idx objectInit ∈ bigW ∧ Cond.instanceMethod objectInit ∈ bigW ∧ Cond.code objectInit ⟨#[0xb1]⟩ 1 none ∈ bigW
/-- a room under this one: d frames below, of 39 words each -/
def XFit (R : Room) (d : Nat) : Prop := d + 1 ≤ R.frames ∧ 39 * d + 39 ≤ R.locals
theorem xfit (d c s : Nat) : XFit (xR (d + 1, c, s)) d := ⟨Nat.le_refl _, by show 39 * d + 39 ≤ 39 * (d + 1); omega⟩
section XN
variable {Γ : State → Nat → Nat → Prop} {μ : MI} {R : Room} {κ : Nat × Nat} {pc pc' tgt : Nat} {L L' : List (Option Value)} {S S' : List Value} {h : XH} {Q : Option Value → XH → Prop}
theorem X.new {ci N : Nat} {fs : List Value} (I : DNew μ pc ci fs pc') (hN : XDom h N) (hlt : N < 1000000) (hc : κ.1 + 1 ≤ R.cells ∧ κ.2 + fs.length ≤ R.slots) (kk : X Γ μ R (κ.1 + 1, κ.2 + fs.length) pc' L (.ref N :: S) (xup h N (.inr (ci, fs))) Q) : X Γ μ R κ pc L S h Q := by
  intro p l e s m args below meth c B b D dA C Z E hκ H locs ls hR hS hl
  obtain ⟨idx, Cn, T, n, ty0, hd, rfl, h1, h2, h3, h4, h5, h6, rfl, h7, h8⟩ := I
  have hts := C.2.2.2.2.2.2.1
  have hKn := C.2.2.2.2.2.2.2.1.1.1 ci _ h1
  refine W.newcK C.1 C.2.1 C.2.2.2.2.2.1 (hts _ h2) (hts _ h3) (hts _ h4) rfl hd hc.1 hc.2 hKn.2.1 rfl fun H1 kC hkC e1 z1 o1 => ?_
  have ob := (u_born ty0 hts h5 hKn hkC e1 h6).to h7
  obtain ⟨hR1, hp⟩ := hR.push (c := .inr (ci, fs)) hN hlt z1 ⟨_, h1, by show t_OB _ _ _ _ _ (vp_V (fs.map (xv B b))); rw [h8]; exact ob⟩ o1
  have := kk p l e s m args below meth c B b D dA C Z E hc H1 locs ls hR1 (xpushed hS z1 o1) hl
  rw [hp]
  exact this
theorem X.newi {n : Int32} {M N : Nat} (I : DNewA μ pc .int pc') (hn : ¬ n < 0) (hM : n.toNatClampNeg = M) (hb : M ≤ 1000) (hN : XDom h N) (hlt : N < 1000000) (hc : κ.1 + 1 ≤ R.cells ∧ κ.2 + M ≤ R.slots) (kk : X Γ μ R (κ.1 + 1, κ.2 + M) pc' L (.ref N :: S) (xup h N (.inl (.int, M, .inl (fun _ => 0)))) Q) : X Γ μ R κ pc L (.int n :: S) h Q := by
  intro p l e s m args below meth c B b D dA C Z E hκ H locs ls hR hS hl
  obtain ⟨atype, hd, hty, h1, rfl⟩ := I
  have hts := C.2.2.2.2.2.2.1
  have hRA : s.vm.findClass ("[" ++ (FieldType.int).toString) = some (dA .int) := (C.2.2.2.2.2.2.2.1.1.2 0 _ rfl).2
  have cb : componentBytes FieldType.int ≤ 8 := by decide
  refine va_newaK C.1 C.2.1 (by rw [hty]; exact hts _ h1) rfl hd rfl hn hM (by rw [hty]; exact Nat.le_trans (Nat.mul_le_mul hb cb) (by decide)) hc.1 hc.2 rfl fun H1 cA e1 z1 o1 _ hNm => ?_
  rw [hty] at e1 hNm
  have hcA : cA = dA .int := Option.some.inj (hNm.symm.trans hRA)
  subst hcA
  obtain ⟨hR1, hp⟩ := hR.push (c := .inl (.int, M, .inl (fun _ => 0))) hN hlt z1 (by show H1[_]? = some (vp_cell _ _); exact e1) o1
  have := kk p l e s m args below meth c B b D dA C Z E hc H1 locs ls hR1 (xpushed hS z1 o1) hl
  rw [hp]
  exact this
theorem X.newl {n : Int32} {M N : Nat} (I : DNewA μ pc .long pc') (hn : ¬ n < 0) (hM : n.toNatClampNeg = M) (hb : M ≤ 1000) (hN : XDom h N) (hlt : N < 1000000) (hc : κ.1 + 1 ≤ R.cells ∧ κ.2 + M ≤ R.slots) (kk : X Γ μ R (κ.1 + 1, κ.2 + M) pc' L (.ref N :: S) (xup h N (.inl (.long, M, .inr (.inl (fun _ => 0))))) Q) : X Γ μ R κ pc L (.int n :: S) h Q := by
  intro p l e s m args below meth c B b D dA C Z E hκ H locs ls hR hS hl
  obtain ⟨atype, hd, hty, h1, rfl⟩ := I
  have hts := C.2.2.2.2.2.2.1
  have hRA : s.vm.findClass ("[" ++ (FieldType.long).toString) = some (dA .long) := (C.2.2.2.2.2.2.2.1.1.2 1 _ rfl).2
  have cb : componentBytes FieldType.long ≤ 8 := by decide
  refine va_newaK C.1 C.2.1 (by rw [hty]; exact hts _ h1) rfl hd rfl hn hM (by rw [hty]; exact Nat.le_trans (Nat.mul_le_mul hb cb) (by decide)) hc.1 hc.2 rfl fun H1 cA e1 z1 o1 _ hNm => ?_
  rw [hty] at e1 hNm
  have hcA : cA = dA .long := Option.some.inj (hNm.symm.trans hRA)
  subst hcA
  obtain ⟨hR1, hp⟩ := hR.push (c := .inl (.long, M, .inr (.inl (fun _ => 0)))) hN hlt z1 (by show H1[_]? = some (vp_cell _ _); exact e1) o1
  have := kk p l e s m args below meth c B b D dA C Z E hc H1 locs ls hR1 (xpushed hS z1 o1) hl
  rw [hp]
  exact this
theorem X.newc {n : Int32} {M N : Nat} (I : DNewA μ pc .char pc') (hn : ¬ n < 0) (hM : n.toNatClampNeg = M) (hb : M ≤ 1000) (hN : XDom h N) (hlt : N < 1000000) (hc : κ.1 + 1 ≤ R.cells ∧ κ.2 + M ≤ R.slots) (kk : X Γ μ R (κ.1 + 1, κ.2 + M) pc' L (.ref N :: S) (xup h N (.inl (.char, M, .inl (fun _ => 0)))) Q) : X Γ μ R κ pc L (.int n :: S) h Q := by
  intro p l e s m args below meth c B b D dA C Z E hκ H locs ls hR hS hl
  obtain ⟨atype, hd, hty, h1, rfl⟩ := I
  have hts := C.2.2.2.2.2.2.1
  have hRA : s.vm.findClass ("[" ++ (FieldType.char).toString) = some (dA .char) := (C.2.2.2.2.2.2.2.1.1.2 2 _ rfl).2
  have cb : componentBytes FieldType.char ≤ 8 := by decide
  refine va_newaK C.1 C.2.1 (by rw [hty]; exact hts _ h1) rfl hd rfl hn hM (by rw [hty]; exact Nat.le_trans (Nat.mul_le_mul hb cb) (by decide)) hc.1 hc.2 rfl fun H1 cA e1 z1 o1 _ hNm => ?_
  rw [hty] at e1 hNm
  have hcA : cA = dA .char := Option.some.inj (hNm.symm.trans hRA)
  subst hcA
  obtain ⟨hR1, hp⟩ := hR.push (c := .inl (.char, M, .inl (fun _ => 0))) hN hlt z1 (by show H1[_]? = some (vp_cell _ _); exact e1) o1
  have := kk p l e s m args below meth c B b D dA C Z E hc H1 locs ls hR1 (xpushed hS z1 o1) hl
  rw [hp]
  exact this
theorem X.newq {n : Int32} {M N : Nat} {Cn : String} (I : DNewQ μ pc Cn pc') (hn : ¬ n < 0) (hM : n.toNatClampNeg = M) (hb : M ≤ 1000) (hN : XDom h N) (hlt : N < 1000000) (hc : κ.1 + 1 ≤ R.cells ∧ κ.2 + M ≤ R.slots) (kk : X Γ μ R (κ.1 + 1, κ.2 + M) pc' L (.ref N :: S) (xup h N (.inl (.object Cn, M, .inr (.inr (.inr (.inr (fun _ => none))))))) Q) : X Γ μ R κ pc L (.int n :: S) h Q := by
  intro p l e s m args below meth c B b D dA C Z E hκ H locs ls hR hS hl
  obtain ⟨idx, hd, h1, hty, rfl⟩ := I
  have hts := C.2.2.2.2.2.2.1
  have hw := C.2.2.2.2.2.2.2.1
  have hAO : va_AO Cn s := by
    rcases hty with rfl | rfl
    · exact hw.2.2.1
    · exact hw.2.2.2
  have hRA : va_RA s (dA (.object Cn)) (.object Cn) := by
    rcases hty with rfl | rfl
    · exact (hw.1.2 3 _ rfl).2
    · exact (hw.1.2 4 _ rfl).2
  obtain ⟨kA0, comp0, -, -, -, hnm⟩ := hRA
  subst hM
  refine W.anew C.1 C.2.1 C.2.2.2.2.2.1 (hts _ h1) (va_AO.use hAO) rfl hd rfl hn (Nat.le_trans (Nat.mul_le_mul_right 4 hb) (by decide)) hc.1 hc.2 fun cA kA comp f1 f2 f3 f4 => ?_
  have hcA : cA = dA (.object Cn) := Option.some.inj (f1.symm.trans hnm)
  subst hcA
  generalize hH1 : H.push ({ cls := dA (.object Cn), slots := Array.replicate n.toNatClampNeg .null, vm := .none } : Cell) = H1
  have z1 : H1.size = H.size + 1 := by rw [← hH1, Array.size_push]
  have e1 : H1[H.size]? = some (arrV (dA (.object Cn)) n.toNatClampNeg (fun _ => .null)) := by rw [← hH1, Array.getElem?_push_size, ← arrV_new]
  have o1 : ∀ q : Nat, q < H.size → H1[q]? = H[q]? := fun q hq => by rw [← hH1, Array.getElem?_push, if_neg (Nat.ne_of_lt hq)]
  obtain ⟨hR1, hp⟩ := hR.push (c := .inl (.object Cn, n.toNatClampNeg, .inr (.inr (.inr (.inr (fun _ => none)))))) hN hlt z1 (by show H1[_]? = some (vp_cell _ _); exact e1) o1
  have := kk p l e s m args below meth c B b D dA C Z E hc H1 locs ls hR1 (xpushed hS z1 o1) hl
  show W p l e R s m args below meth c H1 locs (κ.1 + 1) (κ.2 + n.toNatClampNeg) Z (F0 m (pc + 3) ls (.ref H.size :: S.map (xv B b)))
  rw [hp]
  exact this
theorem xcat (B b : Nat) (S : List Value) : ((S.map (xv B b)).map fun v => v.category).sum = (S.map fun v => v.category).sum := by
  rw [List.map_map]
  congr 1
  exact List.map_congr_left (fun v _ => xv_cat B b v)
theorem X.objInit {a : Nat} (I : DObj μ pc pc') (hr : XFit R 0) (hS : (S.map fun v => v.category).sum ≤ 8) (kk : X Γ μ R κ pc' L S h Q) : X Γ μ R κ pc L (.ref a :: S) h Q := by
  obtain ⟨idx, hd, rfl, h1, h2, h3⟩ := I
  refine X.frame (fun {p l e s m args below meth c H locs cells slots Z B b ls D dA} C hl k2 => ?_) kk
  have hts := C.2.2.2.2.2.2.1
  exact W.objInit C.1 C.2.1 C.2.2.2.2.2.1 (hts _ h1) (hts _ h2) (hts _ h3) rfl (by rw [C.2.2.1]; exact hl.1) rfl hd hr.1 (by
    show 2 * 0 + ((S.map (xv B b)).map fun v => v.category).sum + 12 ≤ _
    rw [xcat]
    have := hr.2
    omega) (k2 ls hl)
/-! Math -/
def DMin (μ : MI) (pc pc' : Nat) : Prop := ∃ idx : Nat, decode μ.2.1 pc = .ok (.invokestatic idx, 3) ∧ pc + 3 = pc' ∧ Cond.methodLink μ.1.cls idx Lib.Math.min.name ∈ bigW ∧ Cond.static Lib.Math.min.name ∈ bigW ∧ Cond.initialized "java/lang/Math" ∈ bigW ∧ Cond.code Lib.Math.min.name Lib.Math.min.code 2 (some .int) ∈ bigW
def DMax (μ : MI) (pc pc' : Nat) : Prop := ∃ idx : Nat, decode μ.2.1 pc = .ok (.invokestatic idx, 3) ∧ pc + 3 = pc' ∧ Cond.methodLink μ.1.cls idx Lib.Math.max.name ∈ bigW ∧ Cond.static Lib.Math.max.name ∈ bigW ∧ Cond.initialized "java/lang/Math" ∈ bigW ∧ Cond.code Lib.Math.max.name Lib.Math.max.code 2 (some .int) ∈ bigW
theorem X.mmin {x y : Int32} (I : DMin μ pc pc') (hr : XFit R 0) (hS : (S.map fun v => v.category).sum ≤ 8) (kk : X Γ μ R κ pc' L (.int (if y < x then y else x) :: S) h Q) : X Γ μ R κ pc L (.int y :: .int x :: S) h Q := by
  obtain ⟨idx, hd, rfl, h1, h2, h3, h4⟩ := I
  intro p l e s m args below meth c B b D dA C Z E hκ H locs ls hR hS' hl
  have hts := C.2.2.2.2.2.2.1
  exact va_mmin C.1 C.2.1 (by rw [C.2.2.1]; exact hl.1.symm) C.2.2.2.2.2.1 (hts _ h1) (hts _ h2) (hts _ h3) (hts _ h4) hr.1 (by
    rw [xcat]
    have := hr.2
    omega) hκ.1 hκ.2 hd (kk p l e s m args below meth c B b D dA C Z E hκ H locs ls hR hS' hl)
theorem X.mmax {x y : Int32} (I : DMax μ pc pc') (hr : XFit R 0) (hS : (S.map fun v => v.category).sum ≤ 8) (kk : X Γ μ R κ pc' L (.int (if x < y then y else x) :: S) h Q) : X Γ μ R κ pc L (.int y :: .int x :: S) h Q := by
  obtain ⟨idx, hd, rfl, h1, h2, h3, h4⟩ := I
  intro p l e s m args below meth c B b D dA C Z E hκ H locs ls hR hS' hl
  have hts := C.2.2.2.2.2.2.1
  exact va_mmax C.1 C.2.1 (by rw [C.2.2.1]; exact hl.1.symm) C.2.2.2.2.2.1 (hts _ h1) (hts _ h2) (hts _ h3) (hts _ h4) hr.1 (by
    rw [xcat]
    have := hr.2
    omega) hκ.1 hκ.2 hd (kk p l e s m args below meth c B b D dA C Z E hκ H locs ls hR hS' hl)
/-! ends -/
theorem X.iret {x : Int32} (I : μ.2.2.2 = some .int ∧ decode μ.2.1 pc = .ok (.ireturn, 1)) (hq : Q (some (.int x)) h) : X Γ μ R κ pc L [.int x] h Q := by
  intro p l e s m args below meth c B b D dA C Z E hκ H locs ls hR hS hl
  exact W.widen hκ.1 hκ.2 (E (some (.int x)) h H locs ls pc hq hR hS (Or.inr ⟨x, .int, rfl, I.1, vp_nar_int x, I.2⟩))
theorem X.zret {x : Bool} (I : μ.2.2.2 = some .boolean ∧ decode μ.2.1 pc = .ok (.ireturn, 1)) (hq : Q (some (.int (bI x))) h) : X Γ μ R κ pc L [.int (bI x)] h Q := by
  intro p l e s m args below meth c B b D dA C Z E hκ H locs ls hR hS hl
  exact W.widen hκ.1 hκ.2 (E (some (.int (bI x))) h H locs ls pc hq hR hS (Or.inr ⟨bI x, .boolean, rfl, I.1, bI_nar x, I.2⟩))
theorem X.vret (I : μ.2.2.2 = none ∧ decode μ.2.1 pc = .ok (.return_, 1)) (hq : Q none h) : X Γ μ R κ pc L [] h Q := by
  intro p l e s m args below meth c B b D dA C Z E hκ H locs ls hR hS hl
  exact W.widen hκ.1 hκ.2 (E none h H locs ls pc hq hR hS (Or.inl ⟨rfl, I.1, I.2⟩))
/-! calls -/
def XM (μ' : MI) (n : Nat) : Prop := Cond.code μ'.1 μ'.2.1 μ'.2.2.1 μ'.2.2.2 ∈ bigW ∧ Cond.initialized μ'.1.cls ∈ bigW ∧ (μ'.1.cls ≠ "java/lang/invoke/MethodHandle" ∧ μ'.1.cls ≠ "java/lang/invoke/VarHandle" ∧ (parseMethodDescriptor μ'.1.desc).map (fun d => d.parameters.length) = some n) ∧ μ'.2.2.1 ≤ 20
theorem xgood {μ' : MI} (hc : Cond.code μ'.1 μ'.2.1 μ'.2.2.1 μ'.2.2.2 ∈ bigW) : GoodIn bigW (xws μ') := by
  intro w hw
  have : w ∈ bigW := by
    rcases List.mem_cons.mp hw with rfl | h1
    · exact hc
    · exact h1
  exact ⟨this, good_of_word (List.mem_filter.mp this).2⟩
theorem xroom {R : Room} {ρ : Nat × Nat × Nat} {M : Nat} (hf : XFit R ρ.1) (hM : M ≤ 20) : (xR ρ).frames + 1 ≤ R.frames ∧ 8 + (M + 11) + (xR ρ).locals ≤ R.locals := by
  obtain ⟨h1, h2⟩ := hf
  exact ⟨h1, by show 8 + (M + 11) + 39 * ρ.1 ≤ _; omega⟩
def DInvV (μ : MI) (pc : Nat) (μ' : MI) (ci n pc' : Nat) : Prop := ∃ (idx : Nat) (T : u_T) (N : Nat), decode μ.2.1 pc = .ok (.invokevirtual idx, 3) ∧ pc + 3 = pc' ∧ vwCl[ci]? = some (μ'.1.cls, T, N) ∧ Cond.methodLink μ.1.cls idx μ'.1 ∈ bigW ∧ Cond.instanceMethod μ'.1 ∈ bigW ∧ Cond.selects μ'.1.cls μ'.1 μ'.1 ∈ bigW ∧ XM μ' n
def DInvS (μ : MI) (pc : Nat) (μ' : MI) (n pc' : Nat) : Prop := ∃ (idx : Nat), decode μ.2.1 pc = .ok (.invokestatic idx, 3) ∧ pc + 3 = pc' ∧ (Cond.methodLink μ.1.cls idx μ'.1 ∈ bigW ∨ ∃ host, (μ.1.cls, idx, μ'.1, host) ∈ nestL) ∧ Cond.static μ'.1 ∈ bigW ∧ XM μ' n
def DInvI (μ : MI) (pc : Nat) (μ' : MI) (n pc' : Nat) : Prop := ∃ (idx : Nat), decode μ.2.1 pc = .ok (.invokespecial idx, 3) ∧ pc + 3 = pc' ∧ (Cond.methodLink μ.1.cls idx μ'.1 ∈ bigW ∨ ∃ host, (μ.1.cls, idx, μ'.1, host) ∈ nestL) ∧ Cond.instanceMethod μ'.1 ∈ bigW ∧ μ'.1.name = "<init>" ∧ μ'.2.2.2 = none ∧ XM μ' n
set_option maxHeartbeats 1000000 in
theorem xcall {p : Program} {l : Launch} {e : Env} {s : State} {m : MethodId} {args : Array Value} {below : List Frame} {meth : Method} {c : Code} {H : Heap} {locs : List Loc} {cells slots mc ms : Nat} {Z : State → Prop} {B b : Nat} {ls : Array Slot} {D : va_G} {dA : FieldType → ClassId} {Q' : Option Value → XH → Prop} {a : Array Value} {st0 : List Value} (S0 : List Value)
    (hr : va_Run p l e R s m args below meth c H locs cells slots mc ms (F0 m pc ls st0) (S0.map (xv B b)) (XPost B b D dA Q' a) (fun q => B ≤ q)) (hS : va_S (fun q => B ≤ q) s.heap H locs)
    (kk : ∀ (v : Option Value) (h' : XH) (H1 : Heap) (locs1 : List Loc), Q' v h' → XRel B b D dA h' H1 → va_S (fun q => B ≤ q) s.heap H1 locs1 → W p l e R s m args below meth c H1 locs1 (cells + mc) (slots + ms) Z (F0 m (pc + 3) ls ((v.toList ++ S0).map (xv B b)))) : W p l e R s m args below meth c H locs cells slots Z (F0 m pc ls st0) := by
  intro T hT X
  obtain ⟨v, st₀, t, T', L, h0, X', hL, e1, e2, ⟨⟨v', h', hv, hq, hR'⟩, hz, hk⟩, st⟩ := hr T hT X
  have hv' : v = v'.map (xv B b) := by cases hv; rfl
  subst hv'
  rw [h0] at hz hk
  obtain ⟨t2, a1, b1⟩ := kk v' h' T'.heap (locs ++ L) hq (by rw [e1]; exact hR') ⟨Nat.le_trans hS.1 (by rw [e1]; exact hz), fun q h1 h2 => by rw [e1, hk q (Nat.lt_of_lt_of_le h1 hS.1) h2]; exact hS.2.1 q h1 h2, fun q hq => by
      rcases List.mem_append.mp hq with h | h
      · exact hS.2.2 q h
      · exact hL q h⟩ T' rfl X'
  refine ⟨t2, st t2 ?_, b1⟩
  have : (v'.map (xv B b)).toList ++ S0.map (xv B b) = (v'.toList ++ S0).map (xv B b) := by cases v' <;> rfl
  rw [this]
  exact a1
theorem XPre.here {B b : Nat} {D : va_G} {dA : FieldType → ClassId} {av : List Value} {s U : State} {H : Heap} {locs : List Loc} (hU : U.heap = H) (hW : s.WarmedH U.vm) (hB : B ≤ s.heap.size) (hS : va_S (fun q => B ≤ q) s.heap H locs) (hR : XRel B b D dA h H) (hw : XWorld D dA s) : XPre B b D dA av h (av.map (xv B b)).toArray U :=
  ⟨rfl, by rw [hU]; exact Nat.le_trans hB hS.1, by rw [hU]; exact hR, hw.warm hW⟩
set_option maxHeartbeats 2000000 in
theorem X.callV {μ' : MI} {ρ : Nat × Nat × Nat} {ci n a : Nat} {fs As : List Value} {S0 : List Value} {Q' : Option Value → XH → Prop} (I : DInvV μ pc μ' ci n pc') (hM : MetX μ' ρ (.ref a :: As) h Q') (ha : h a = some (.inr (ci, fs))) (hS : S = As.reverse ++ .ref a :: S0) (hn : As.length = n) (hf : XFit R ρ.1) (hcat : (S0.map fun v => v.category).sum ≤ 8) (hcp : κ.1 + ρ.2.1 ≤ R.cells ∧ κ.2 + ρ.2.2 ≤ R.slots) (kk : ∀ (v : Option Value) (h' : XH), Q' v h' → X Γ μ R (κ.1 + ρ.2.1, κ.2 + ρ.2.2) pc' L (v.toList ++ S0) h' Q) : X Γ μ R κ pc L S h Q := by
  intro p l e s m args below meth c B b D dA C Z E hκ H locs ls hR hSv hl
  obtain ⟨idx, T, N, hd, rfl, hc, h1, h2, h3, h4, h5, h6, h7⟩ := I
  have hts := C.2.2.2.2.2.2.1
  have hw := C.2.2.2.2.2.2.2.1
  subst hS
  refine xcall S0 (va_runV (Ts := bigW) (As := As.map (xv B b)) (b := xphi B b a) (C := μ'.1.cls) ⟨C.1, C.2.1, C.2.2.1, C.2.2.2.2.2.1, hts⟩ (hM l B b D dA) ⟨callB_of n hts (xgood h4) rfl rfl rfl (hts _ h5) (hts _ h1) h6 (xroom hf h7), hts _ h2, hts _ h3⟩ ⟨XPre.blind, va_recv hw.1 (xone (hR.at ha)) hc (q0 := 0) rfl, fun U hU hW => XPre.here hU hW C.2.2.2.2.2.2.2.2.1 hSv hR hw⟩ rfl (by rw [List.length_map]; exact hn) hl.1 (by show List.map _ _ = _; rw [List.map_append, List.map_reverse]; rfl) (lv_room (by rw [xcat]; exact hcat)) hd hcp) hSv (fun v h' H1 locs1 hq hR1 hS1 => kk v h' hq p l e s m args below meth c B b D dA C Z E hcp H1 locs1 ls hR1 hS1 hl)
set_option maxHeartbeats 2000000 in
theorem X.callS {μ' : MI} {ρ : Nat × Nat × Nat} {n : Nat} {As : List Value} {S0 : List Value} {Q' : Option Value → XH → Prop} (I : DInvS μ pc μ' n pc') (hM : MetX μ' ρ As h Q') (hS : S = As.reverse ++ S0) (hn : As.length = n) (hf : XFit R ρ.1) (hcat : (S0.map fun v => v.category).sum ≤ 8) (hcp : κ.1 + ρ.2.1 ≤ R.cells ∧ κ.2 + ρ.2.2 ≤ R.slots) (kk : ∀ (v : Option Value) (h' : XH), Q' v h' → X Γ μ R (κ.1 + ρ.2.1, κ.2 + ρ.2.2) pc' L (v.toList ++ S0) h' Q) : X Γ μ R κ pc L S h Q := by
  intro p l e s m args below meth c B b D dA C Z E hκ H locs ls hR hSv hl
  obtain ⟨idx, hd, rfl, h1, h2, h4, h5, h6, h7⟩ := I
  have hts := C.2.2.2.2.2.2.1
  have hw := C.2.2.2.2.2.2.2.1
  subst hS
  have kk2 := fun v h' H1 locs1 (hq : Q' v h') hR1 hS1 => kk v h' hq p l e s m args below meth c B b D dA C Z E hcp H1 locs1 ls hR1 hS1 hl
  have hst : List.map (xv B b) (As.reverse ++ S0) = (As.map (xv B b)).reverse ++ S0.map (xv B b) := by rw [List.map_append, List.map_reverse]
  rcases h1 with h1 | ⟨host, h1⟩
  · exact xcall S0 (va_runS (Ts := bigW) (As := As.map (xv B b)) ⟨C.1, C.2.1, C.2.2.1, C.2.2.2.2.2.1, hts⟩ (hM l B b D dA) ⟨callB_of n hts (xgood h4) rfl rfl rfl (hts _ h5) (hts _ h1) h6 (xroom hf h7), hts _ h2⟩ ⟨XPre.blind, fun U hU hW => XPre.here hU hW C.2.2.2.2.2.2.2.2.1 hSv hR hw⟩ rfl (by rw [List.length_map]; exact hn) hl.1 hst (lv_room (by rw [xcat]; exact hcat)) hd hcp) hSv kk2
  · exact xcall S0 (va_runSN (Ts := bigW) (As := As.map (xv B b)) ⟨C.1, C.2.1, C.2.2.1, C.2.2.2.2.2.1, hts⟩ (hM l B b D dA) ⟨va_cnB n hts (xgood h4) rfl rfl rfl (hw.2.1 _ h1) (hts _ h5) h6 (xroom hf h7), hts _ h2, trivial⟩ ⟨XPre.blind, fun U hU hW => XPre.here hU hW C.2.2.2.2.2.2.2.2.1 hSv hR hw⟩ rfl (by rw [List.length_map]; exact hn) hl.1 hst (lv_room (by rw [xcat]; exact hcat)) hd hcp) hSv kk2
set_option maxHeartbeats 2000000 in
theorem X.callI {y' : MethodName} {bc : ByteArray} {M : Nat} {ρ : Nat × Nat × Nat} {n a : Nat} {As : List Value} {S0 : List Value} {Q' : Option Value → XH → Prop} (I : DInvI μ pc (y', bc, M, none) n pc') (hM : MetX (y', bc, M, none) ρ (.ref a :: As) h Q') (hS : S = As.reverse ++ .ref a :: S0) (hn : As.length = n) (hf : XFit R ρ.1) (hcat : (S0.map fun v => v.category).sum ≤ 8) (hcp : κ.1 + ρ.2.1 ≤ R.cells ∧ κ.2 + ρ.2.2 ≤ R.slots) (kk : ∀ (v : Option Value) (h' : XH), Q' v h' → X Γ μ R (κ.1 + ρ.2.1, κ.2 + ρ.2.2) pc' L (v.toList ++ S0) h' Q) : X Γ μ R κ pc L S h Q := by
  intro p l e s m args below meth c B b D dA C Z E hκ H locs ls hR hSv hl
  obtain ⟨idx, hd, rfl, h1, h2, hnm, -, h4, h5, h6, h7⟩ := I
  have hts := C.2.2.2.2.2.2.1
  have hw := C.2.2.2.2.2.2.2.1
  subst hS
  have kk2 := fun v h' H1 locs1 (hq : Q' v h') hR1 hS1 => kk v h' hq p l e s m args below meth c B b D dA C Z E hcp H1 locs1 ls hR1 hS1 hl
  have hst : List.map (xv B b) (As.reverse ++ .ref a :: S0) = (As.map (xv B b)).reverse ++ .ref (xphi B b a) :: S0.map (xv B b) := by rw [List.map_append, List.map_reverse]; rfl
  rcases h1 with h1 | ⟨host, h1⟩
  · exact xcall S0 (va_runI (Ts := bigW) (As := As.map (xv B b)) (b := xphi B b a) ⟨C.1, C.2.1, C.2.2.1, C.2.2.2.2.2.1, hts⟩ (hM l B b D dA) ⟨callB_of n hts (xgood h4) rfl rfl rfl (hts _ h5) (hts _ h1) h6 (xroom hf h7), hnm, hts _ h2⟩ ⟨XPre.blind, fun U hU hW => XPre.here (av := .ref a :: As) hU hW C.2.2.2.2.2.2.2.2.1 hSv hR hw⟩ rfl (by rw [List.length_map]; exact hn) hl.1 hst (lv_room (by rw [xcat]; exact hcat)) hd hcp) hSv kk2
  · exact xcall S0 (va_runIN (Ts := bigW) (As := As.map (xv B b)) (b := xphi B b a) ⟨C.1, C.2.1, C.2.2.1, C.2.2.2.2.2.1, hts⟩ (hM l B b D dA) ⟨va_cnB n hts (xgood h4) rfl rfl rfl (hw.2.1 _ h1) (hts _ h5) h6 (xroom hf h7), hnm, hts _ h2⟩ ⟨XPre.blind, fun U hU hW => XPre.here (av := .ref a :: As) hU hW C.2.2.2.2.2.2.2.2.1 hSv hR hw⟩ rfl (by rw [List.length_map]; exact hn) hl.1 hst (lv_room (by rw [xcat]; exact hcat)) hd hcp) hSv kk2
end XN
end
section
/-! X, fourth part: arraycopy, the law's script, short forms -/
def DCopy (μ : MI) (pc pc' : Nat) : Prop := ∃ idx : Nat, decode μ.2.1 pc = .ok (.invokestatic idx, 3) ∧ pc + 3 = pc' ∧ Cond.methodLink μ.1.cls idx arraycopyName ∈ bigW ∧ Cond.native arraycopyName ∈ bigW ∧ Cond.static arraycopyName ∈ bigW ∧ Cond.initialized "java/lang/System" ∈ bigW
theorem xnn (z : Int32) (hz : ¬ z < 0) : z.toInt = (z.toNatClampNeg : Int) := by
  have hz0 : (0 : Int) ≤ z.toInt := by
    have := Int32.not_lt.mp hz
    simpa using Int32.le_iff_toInt_le.mp this
  show z.toInt = ((z.toInt.toNat : Nat) : Int)
  omega
theorem xnative : nativeFrameWords "java/lang/System" "arraycopy" 5 ≤ 19 := by decide
section XS
variable {Γ : State → Nat → Nat → Prop} {μ : MI} {R : Room} {κ : Nat × Nat} {pc pc' tgt : Nat} {L L' : List (Option Value)} {S S' : List Value} {h : XH} {Q : Option Value → XH → Prop}
set_option maxHeartbeats 2000000 in
theorem X.copyi {a0 a1 n0 n1 : Nat} {f g : Nat → Int32} {sp dp n : Int32} (I : DCopy μ pc pc') (h0 : h a0 = some (.inl (.int, n0, .inl f))) (h1 : h a1 = some (.inl (.int, n1, .inl g))) (hr : XFit R 0) (hcat : (S.map fun v => v.category).sum ≤ 8) (q1 : ¬ sp < 0) (q2 : ¬ dp < 0) (q3 : ¬ n < 0) (q4 : sp.toNatClampNeg + n.toNatClampNeg ≤ n0) (q5 : dp.toNatClampNeg + n.toNatClampNeg ≤ n1) (kk : X Γ μ R κ pc' L S (xup h a1 (.inl (.int, n1, .inl (va_cpy f g sp.toNatClampNeg dp.toNatClampNeg n.toNatClampNeg)))) Q) : X Γ μ R κ pc L (.int n :: .int dp :: .ref a1 :: .int sp :: .ref a0 :: S) h Q := by
  obtain ⟨idx, hd, rfl, l1, l2, l3, l4⟩ := I
  intro p l e s m args below meth c B b D dA C Z E hκ H locs ls hR hS hl T hT Y
  have hts := C.2.2.2.2.2.2.1
  have hK := C.2.2.2.2.2.2.2.1.1
  have hc0 : H[xphi B b a0]? = some (vp_cell (dA .int) (n0, .inl f)) := hR.at h0
  have hc1 : H[xphi B b a1]? = some (vp_cell (dA .int) (n1, .inl g)) := hR.at h1
  obtain ⟨-, k0, hk0, cm0, hkk0⟩ := (hK.2 0 _ rfl).1 n0 (fun j => .int (f j))
  obtain ⟨-, k1, hk1, cm1, hkk1⟩ := (hK.2 0 _ rfl).1 n1 (fun j => .int (g j))
  obtain ⟨vm', X', step⟩ := Y.arraycopy C.1 C.2.2.2.2.2.1 (hts _ l1) (hts _ l2) (hts _ l3) (hts _ l4) (src := xphi B b a0) (dst := xphi B b a1) (cs := vp_cell (dA .int) (n0, .inl f)) (cd := vp_cell (dA .int) (n1, .inl g)) (srcPos := sp) (destPos := dp) (n := n) (by rw [hT]; exact hc0) (by rw [hT]; exact hc1)
    (fun _ h => by cases h) (fun _ h => by cases h) (fun h => by cases h) (fun h => by cases h) hk0 hk1 hkk0 hkk1 (by simp [refKind]) q1 q2 q3
    (by rw [xnn sp q1, xnn n q3]; show ¬ _ > ((arrV (dA .int) n0 (fun j => .int (f j))).slots.size : Int); rw [arrV_size]; omega)
    (by rw [xnn dp q2, xnn n q3]; show ¬ _ > ((arrV (dA .int) n1 (fun j => .int (g j))).slots.size : Int); rw [arrV_size]; omega)
    (fun vm₁ _ i hi => by
      have e : (vp_cell (dA .int) (n0, .inl f)).slots.getD (sp.toNatClampNeg + i) .null = .int (f (sp.toNatClampNeg + i)) := by
        show (arrV (dA .int) n0 (fun j => .int (f j))).slots.getD _ _ = _
        rw [Array.getD_eq_getD_getElem?, arrV_read _ _ (by omega)]
        rfl
      refine ⟨?_, ?_⟩
      · rw [e]
        rfl
      · rw [e]
        exact trivial)
    (g := F0 m pc ls (.int n :: .int dp :: .ref (xphi B b a1) :: .int sp :: .ref (xphi B b a0) :: S.map (xv B b))) rfl (by rw [C.2.2.1]; exact hl.1) (rest := S.map (xv B b)) rfl (by rw [C.2.1]; exact hd) hr.1 (by
      show 2 * 0 + _ + _ ≤ _
      rw [xcat]
      have := hr.2
      have := xnative
      omega)
  have e1 : copied (vp_cell (dA .int) (n0, .inl f)) (vp_cell (dA .int) (n1, .inl g)) sp dp n = vp_cell (dA .int) (n1, .inl (va_cpy f g sp.toNatClampNeg dp.toNatClampNeg n.toNatClampNeg)) := va_copied (fun z => .int z) (dA .int) (dA .int) f g q4
  rw [e1] at X' step
  have hlt : xphi B b a1 < H.size := (Array.getElem?_eq_some_iff.mp hc1).1
  have hheap : ((T.setVm vm').setCell (xphi B b a1) (vp_cell (dA .int) (n1, .inl (va_cpy f g sp.toNatClampNeg dp.toNatClampNeg n.toNatClampNeg)))).heap = H.setIfInBounds (xphi B b a1) (vp_cell (dA .int) (n1, .inl (va_cpy f g sp.toNatClampNeg dp.toNatClampNeg n.toNatClampNeg))) := by rw [← hT]; rfl
  have oq : ∀ q : Nat, q ≠ xphi B b a1 → (H.setIfInBounds (xphi B b a1) (vp_cell (dA .int) (n1, .inl (va_cpy f g sp.toNatClampNeg dp.toNatClampNeg n.toNatClampNeg))))[q]? = H[q]? := fun q hq => by simp [Array.getElem?_setIfInBounds, Ne.symm hq]
  obtain ⟨t, a1', b1⟩ := kk p l e s m args below meth c B b D dA C Z E hκ _ _ ls (hR.put h1 (by simp) (show (H.setIfInBounds (xphi B b a1) _)[xphi B b a1]? = some _ by simp [Array.getElem?_setIfInBounds, hlt]; rfl) oq) ⟨by simp; exact hS.1, fun q g1 g2 => by
      rw [oq q (fun e => g2 (by rw [e]; exact hR.ge h1))]
      exact hS.2.1 q g1 g2, fun q hq => by
      rcases List.mem_append.mp hq with h | h
      · exact hS.2.2 q h
      · obtain ⟨z, -, hz⟩ := List.mem_map.mp h
        rw [← hz]
        exact hR.ge h1⟩ hl _ hheap X'
  exact ⟨t, step t a1', b1⟩
set_option maxHeartbeats 2000000 in
theorem X.copyl {a0 a1 n0 n1 : Nat} {f g : Nat → Int64} {sp dp n : Int32} (I : DCopy μ pc pc') (h0 : h a0 = some (.inl (.long, n0, .inr (.inl f)))) (h1 : h a1 = some (.inl (.long, n1, .inr (.inl g)))) (hr : XFit R 0) (hcat : (S.map fun v => v.category).sum ≤ 8) (q1 : ¬ sp < 0) (q2 : ¬ dp < 0) (q3 : ¬ n < 0) (q4 : sp.toNatClampNeg + n.toNatClampNeg ≤ n0) (q5 : dp.toNatClampNeg + n.toNatClampNeg ≤ n1) (kk : X Γ μ R κ pc' L S (xup h a1 (.inl (.long, n1, .inr (.inl (va_cpy f g sp.toNatClampNeg dp.toNatClampNeg n.toNatClampNeg))))) Q) : X Γ μ R κ pc L (.int n :: .int dp :: .ref a1 :: .int sp :: .ref a0 :: S) h Q := by
  obtain ⟨idx, hd, rfl, l1, l2, l3, l4⟩ := I
  intro p l e s m args below meth c B b D dA C Z E hκ H locs ls hR hS hl T hT Y
  have hts := C.2.2.2.2.2.2.1
  have hK := C.2.2.2.2.2.2.2.1.1
  have hc0 : H[xphi B b a0]? = some (vp_cell (dA .long) (n0, .inr (.inl f))) := hR.at h0
  have hc1 : H[xphi B b a1]? = some (vp_cell (dA .long) (n1, .inr (.inl g))) := hR.at h1
  obtain ⟨-, k0, hk0, cm0, hkk0⟩ := (hK.2 1 _ rfl).1 n0 (fun j => .long (f j))
  obtain ⟨-, k1, hk1, cm1, hkk1⟩ := (hK.2 1 _ rfl).1 n1 (fun j => .long (g j))
  obtain ⟨vm', X', step⟩ := Y.arraycopy C.1 C.2.2.2.2.2.1 (hts _ l1) (hts _ l2) (hts _ l3) (hts _ l4) (src := xphi B b a0) (dst := xphi B b a1) (cs := vp_cell (dA .long) (n0, .inr (.inl f))) (cd := vp_cell (dA .long) (n1, .inr (.inl g))) (srcPos := sp) (destPos := dp) (n := n) (by rw [hT]; exact hc0) (by rw [hT]; exact hc1)
    (fun _ h => by cases h) (fun _ h => by cases h) (fun h => by cases h) (fun h => by cases h) hk0 hk1 hkk0 hkk1 (by simp [refKind]) q1 q2 q3
    (by rw [xnn sp q1, xnn n q3]; show ¬ _ > ((arrV (dA .long) n0 (fun j => .long (f j))).slots.size : Int); rw [arrV_size]; omega)
    (by rw [xnn dp q2, xnn n q3]; show ¬ _ > ((arrV (dA .long) n1 (fun j => .long (g j))).slots.size : Int); rw [arrV_size]; omega)
    (fun vm₁ _ i hi => by
      have e : (vp_cell (dA .long) (n0, .inr (.inl f))).slots.getD (sp.toNatClampNeg + i) .null = .long (f (sp.toNatClampNeg + i)) := by
        show (arrV (dA .long) n0 (fun j => .long (f j))).slots.getD _ _ = _
        rw [Array.getD_eq_getD_getElem?, arrV_read _ _ (by omega)]
        rfl
      refine ⟨?_, ?_⟩
      · rw [e]
        rfl
      · rw [e]
        exact trivial)
    (g := F0 m pc ls (.int n :: .int dp :: .ref (xphi B b a1) :: .int sp :: .ref (xphi B b a0) :: S.map (xv B b))) rfl (by rw [C.2.2.1]; exact hl.1) (rest := S.map (xv B b)) rfl (by rw [C.2.1]; exact hd) hr.1 (by
      show 2 * 0 + _ + _ ≤ _
      rw [xcat]
      have := hr.2
      have := xnative
      omega)
  have e1 : copied (vp_cell (dA .long) (n0, .inr (.inl f))) (vp_cell (dA .long) (n1, .inr (.inl g))) sp dp n = vp_cell (dA .long) (n1, .inr (.inl (va_cpy f g sp.toNatClampNeg dp.toNatClampNeg n.toNatClampNeg))) := va_copied (fun z => .long z) (dA .long) (dA .long) f g q4
  rw [e1] at X' step
  have hlt : xphi B b a1 < H.size := (Array.getElem?_eq_some_iff.mp hc1).1
  have hheap : ((T.setVm vm').setCell (xphi B b a1) (vp_cell (dA .long) (n1, .inr (.inl (va_cpy f g sp.toNatClampNeg dp.toNatClampNeg n.toNatClampNeg))))).heap = H.setIfInBounds (xphi B b a1) (vp_cell (dA .long) (n1, .inr (.inl (va_cpy f g sp.toNatClampNeg dp.toNatClampNeg n.toNatClampNeg)))) := by rw [← hT]; rfl
  have oq : ∀ q : Nat, q ≠ xphi B b a1 → (H.setIfInBounds (xphi B b a1) (vp_cell (dA .long) (n1, .inr (.inl (va_cpy f g sp.toNatClampNeg dp.toNatClampNeg n.toNatClampNeg)))))[q]? = H[q]? := fun q hq => by simp [Array.getElem?_setIfInBounds, Ne.symm hq]
  obtain ⟨t, a1', b1⟩ := kk p l e s m args below meth c B b D dA C Z E hκ _ _ ls (hR.put h1 (by simp) (show (H.setIfInBounds (xphi B b a1) _)[xphi B b a1]? = some _ by simp [Array.getElem?_setIfInBounds, hlt]; rfl) oq) ⟨by simp; exact hS.1, fun q g1 g2 => by
      rw [oq q (fun e => g2 (by rw [e]; exact hR.ge h1))]
      exact hS.2.1 q g1 g2, fun q hq => by
      rcases List.mem_append.mp hq with h | h
      · exact hS.2.2 q h
      · obtain ⟨z, -, hz⟩ := List.mem_map.mp h
        rw [← hz]
        exact hR.ge h1⟩ hl _ hheap X'
  exact ⟨t, step t a1', b1⟩
/-- the script: cell number 1000000, at b, below all cells of ours -/
def xScr (xs : Nat → Int32) (N : Nat) : State → Nat → Nat → Prop := fun s B b => va_X b N xs s s.heap ∧ b < s.heap.size ∧ B = s.heap.size
theorem X.sld {xs : Nat → Int32} {N : Nat} {i : Int32} (I : D1 μ pc .iaload 1 pc') (hin : vp_in i N) (kk : X (xScr xs N) μ R κ pc' L (.int (xs i.toNatClampNeg) :: S) h Q) : X (xScr xs N) μ R κ pc L (.int i :: .ref 1000000 :: S) h Q := by
  obtain ⟨hd, rfl⟩ := I
  intro p l e s m args below meth c B b D dA C Z E hκ H locs ls hR hS hl
  obtain ⟨g1, g2, g3⟩ := C.2.2.2.2.2.2.2.2.2.2
  exact va_sld C.1 C.2.1 g1 g2 (by show ¬ B ≤ b; omega) hS hin hd (kk p l e s m args below meth c B b D dA C Z E hκ H locs ls hR hS hl)
theorem X.slen {xs : Nat → Int32} {N : Nat} (I : D1 μ pc .arraylength 1 pc') (kk : X (xScr xs N) μ R κ pc' L (.int (nI N) :: S) h Q) : X (xScr xs N) μ R κ pc L (.ref 1000000 :: S) h Q := by
  obtain ⟨hd, rfl⟩ := I
  intro p l e s m args below meth c B b D dA C Z E hκ H locs ls hR hS hl
  obtain ⟨g1, g2, g3⟩ := C.2.2.2.2.2.2.2.2.2.2
  exact va_slen C.1 C.2.1 g1 g2 (by show ¬ B ≤ b; omega) hS hd (kk p l e s m args below meth c B b D dA C Z E hκ H locs ls hR hS hl)
theorem X.imp {Q1 : Option Value → XH → Prop} (k : X Γ μ R κ pc L S h Q1) (hq : ∀ v h', Q1 v h' → Q v h') : X Γ μ R κ pc L S h Q := by
  intro p l e s m args below meth c B b D dA C Z E hκ H locs ls hR hS hl
  exact k p l e s m args below meth c B b D dA C Z (fun v h' H locs ls pc hv => E v h' H locs ls pc (hq v h' hv)) hκ H locs ls hR hS hl
end XS
/-- a method that reads: the answer r, nothing changed -/
abbrev MetI (μ : MI) (ρ : Nat × Nat × Nat) (av : List Value) (h : XH) (r : Int32) : Prop := MetX μ ρ av h (fun v h' => v = some (.int r) ∧ h' = h)
/-- a method with an answer and a new picture -/
abbrev MetH (μ : MI) (ρ : Nat × Nat × Nat) (av : List Value) (h : XH) (r : Int32) (h2 : XH) : Prop := MetX μ ρ av h (fun v h' => v = some (.int r) ∧ h' = h2)
/-- a void method with a new picture -/
abbrev MetV (μ : MI) (ρ : Nat × Nat × Nat) (av : List Value) (h : XH) (h2 : XH) : Prop := MetX μ ρ av h (fun v h' => v = none ∧ h' = h2)
section XZ
variable {Γ : State → Nat → Nat → Prop} {μ : MI} {R : Room} {κ : Nat × Nat} {pc pc' tgt : Nat} {L L' : List (Option Value)} {S S' : List Value} {h : XH} {Q : Option Value → XH → Prop}
theorem xcap {κ : Nat × Nat} {R : Room} (hκ : κ.1 ≤ R.cells ∧ κ.2 ≤ R.slots) : κ.1 + 0 ≤ R.cells ∧ κ.2 + 0 ≤ R.slots := hκ
theorem X.cap (k : κ.1 ≤ R.cells ∧ κ.2 ≤ R.slots → X Γ μ R κ pc L S h Q) : X Γ μ R κ pc L S h Q := by
  intro p l e s m args below meth c B b D dA C Z E hκ
  exact k hκ p l e s m args below meth c B b D dA C Z E hκ
theorem X.callVi {μ' : MI} {d ci n a : Nat} {fs As : List Value} {S0 : List Value} {r : Int32} {h2 : XH} (I : DInvV μ pc μ' ci n pc') (hM : MetH μ' (d, 0, 0) (.ref a :: As) h r h2) (ha : h a = some (.inr (ci, fs))) (hS : S = As.reverse ++ .ref a :: S0) (hn : As.length = n) (hf : XFit R d) (hcat : (S0.map fun v => v.category).sum ≤ 8) (kk : X Γ μ R κ pc' L (.int r :: S0) h2 Q) : X Γ μ R κ pc L S h Q :=
  X.cap (fun hκ => X.callV I hM ha hS hn hf hcat hκ (fun v h' hq => by obtain ⟨rfl, rfl⟩ := hq; exact kk))
theorem X.callVv {μ' : MI} {d ci n a : Nat} {fs As : List Value} {S0 : List Value} {h2 : XH} (I : DInvV μ pc μ' ci n pc') (hM : MetV μ' (d, 0, 0) (.ref a :: As) h h2) (ha : h a = some (.inr (ci, fs))) (hS : S = As.reverse ++ .ref a :: S0) (hn : As.length = n) (hf : XFit R d) (hcat : (S0.map fun v => v.category).sum ≤ 8) (kk : X Γ μ R κ pc' L S0 h2 Q) : X Γ μ R κ pc L S h Q :=
  X.cap (fun hκ => X.callV I hM ha hS hn hf hcat hκ (fun v h' hq => by obtain ⟨rfl, rfl⟩ := hq; exact kk))
theorem X.callSi {μ' : MI} {d n : Nat} {As : List Value} {S0 : List Value} {r : Int32} {h2 : XH} (I : DInvS μ pc μ' n pc') (hM : MetH μ' (d, 0, 0) As h r h2) (hS : S = As.reverse ++ S0) (hn : As.length = n) (hf : XFit R d) (hcat : (S0.map fun v => v.category).sum ≤ 8) (kk : X Γ μ R κ pc' L (.int r :: S0) h2 Q) : X Γ μ R κ pc L S h Q :=
  X.cap (fun hκ => X.callS I hM hS hn hf hcat hκ (fun v h' hq => by obtain ⟨rfl, rfl⟩ := hq; exact kk))
end XZ
/-- a loop that counts: from behind its last round back to its first -/
theorem xloop {P : Nat → Prop} (n : Nat) (hn : P n) (hs : ∀ k, k < n → P (k + 1) → P k) : ∀ k, k ≤ n → P k := by
  intro k hk
  obtain ⟨j, rfl⟩ : ∃ j, n = k + j := ⟨n - k, by omega⟩
  clear hk
  induction j generalizing k with
  | zero => exact hn
  | succ j ih => exact hs k (by omega) (ih (k + 1) (by rw [show k + 1 + j = k + (j + 1) by omega]; exact hn) (fun i hi => hs i (by omega)))
end
