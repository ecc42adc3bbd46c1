section
-- ===== PART A: goes FIRST, ahead of the names: the tables' words, and 'selects' of the private methods out of them =====
/-- a private method of a class that the tables say can be made, by its rows of tables_1 -/
def lw_okq (q : MethodName × Nat) : Prop := (q.1.cls ≠ "java/lang/invoke/MethodHandle" ∧ q.1.cls ≠ "java/lang/invoke/VarHandle") ∧ Cond.instantiable q.1.cls q.2 ∈ tables_1 ∧ Cond.privateMethod q.1 ∈ tables_1 ∧ Cond.instanceMethod q.1 ∈ tables_1
theorem lw_p0 : lw_okq (⟨"OrchardLadders", "leavesSo", "(IILOrchardLadders$Sheet;II)Z"⟩, 10) := ⟨⟨by decide +kernel, by decide +kernel⟩, List.mem_of_getElem? (i := 13) (by decide +kernel), List.mem_of_getElem? (i := 575) (by decide +kernel), List.mem_of_getElem? (i := 576) (by decide +kernel)⟩
theorem lw_p1 : lw_okq (⟨"OrchardLaddersModel", "treeComes", "(III)V"⟩, 17) := ⟨⟨by decide +kernel, by decide +kernel⟩, List.mem_of_getElem? (i := 609) (by decide +kernel), List.mem_of_getElem? (i := 676) (by decide +kernel), List.mem_of_getElem? (i := 677) (by decide +kernel)⟩
theorem lw_p2 : lw_okq (⟨"OrchardLaddersModel", "ladderComes", "(IIII)V"⟩, 17) := ⟨⟨by decide +kernel, by decide +kernel⟩, List.mem_of_getElem? (i := 609) (by decide +kernel), List.mem_of_getElem? (i := 686) (by decide +kernel), List.mem_of_getElem? (i := 687) (by decide +kernel)⟩
theorem lw_p3 : lw_okq (⟨"OrchardLaddersModel", "isTree", "(I)Z"⟩, 17) := ⟨⟨by decide +kernel, by decide +kernel⟩, List.mem_of_getElem? (i := 609) (by decide +kernel), List.mem_of_getElem? (i := 694) (by decide +kernel), List.mem_of_getElem? (i := 695) (by decide +kernel)⟩
theorem lw_p4 : lw_okq (⟨"OrchardLaddersModel", "ofTree", "(II)I"⟩, 17) := ⟨⟨by decide +kernel, by decide +kernel⟩, List.mem_of_getElem? (i := 609) (by decide +kernel), List.mem_of_getElem? (i := 698) (by decide +kernel), List.mem_of_getElem? (i := 699) (by decide +kernel)⟩
theorem lw_p5 : lw_okq (⟨"OrchardLaddersModel", "leaners", "(I)I"⟩, 17) := ⟨⟨by decide +kernel, by decide +kernel⟩, List.mem_of_getElem? (i := 609) (by decide +kernel), List.mem_of_getElem? (i := 702) (by decide +kernel), List.mem_of_getElem? (i := 703) (by decide +kernel)⟩
theorem lw_p6 : lw_okq (⟨"OrchardLaddersModel", "leansAt", "(I)I"⟩, 17) := ⟨⟨by decide +kernel, by decide +kernel⟩, List.mem_of_getElem? (i := 609) (by decide +kernel), List.mem_of_getElem? (i := 706) (by decide +kernel), List.mem_of_getElem? (i := 707) (by decide +kernel)⟩
theorem lw_p7 : lw_okq (⟨"OrchardLaddersModel", "ofLadder", "(II)I"⟩, 17) := ⟨⟨by decide +kernel, by decide +kernel⟩, List.mem_of_getElem? (i := 609) (by decide +kernel), List.mem_of_getElem? (i := 710) (by decide +kernel), List.mem_of_getElem? (i := 711) (by decide +kernel)⟩
theorem lw_p8 : lw_okq (⟨"OrchardLaddersModel", "reachers", "(IIZ)I"⟩, 17) := ⟨⟨by decide +kernel, by decide +kernel⟩, List.mem_of_getElem? (i := 609) (by decide +kernel), List.mem_of_getElem? (i := 714) (by decide +kernel), List.mem_of_getElem? (i := 715) (by decide +kernel)⟩
theorem lw_p9 : lw_okq (⟨"OrchardLaddersModel", "isReached", "(III)Z"⟩, 17) := ⟨⟨by decide +kernel, by decide +kernel⟩, List.mem_of_getElem? (i := 609) (by decide +kernel), List.mem_of_getElem? (i := 718) (by decide +kernel), List.mem_of_getElem? (i := 719) (by decide +kernel)⟩
theorem lw_p10 : lw_okq (⟨"OrchardLaddersModel", "isLadder", "(I)Z"⟩, 17) := ⟨⟨by decide +kernel, by decide +kernel⟩, List.mem_of_getElem? (i := 609) (by decide +kernel), List.mem_of_getElem? (i := 729) (by decide +kernel), List.mem_of_getElem? (i := 730) (by decide +kernel)⟩
theorem lw_p11 : lw_okq (⟨"OrchardLaddersModel", "allFruit", "()I"⟩, 17) := ⟨⟨by decide +kernel, by decide +kernel⟩, List.mem_of_getElem? (i := 609) (by decide +kernel), List.mem_of_getElem? (i := 743) (by decide +kernel), List.mem_of_getElem? (i := 744) (by decide +kernel)⟩
theorem lw_p12 : lw_okq (⟨"OrchardLaddersModel", "readTrees", "()I"⟩, 17) := ⟨⟨by decide +kernel, by decide +kernel⟩, List.mem_of_getElem? (i := 609) (by decide +kernel), List.mem_of_getElem? (i := 757) (by decide +kernel), List.mem_of_getElem? (i := 758) (by decide +kernel)⟩
theorem lw_p13 : lw_okq (⟨"OrchardLaddersModel", "here", "()I"⟩, 17) := ⟨⟨by decide +kernel, by decide +kernel⟩, List.mem_of_getElem? (i := 609) (by decide +kernel), List.mem_of_getElem? (i := 761) (by decide +kernel), List.mem_of_getElem? (i := 762) (by decide +kernel)⟩
theorem lw_p14 : lw_okq (⟨"OrchardLaddersModel", "must", "(Z)V"⟩, 17) := ⟨⟨by decide +kernel, by decide +kernel⟩, List.mem_of_getElem? (i := 609) (by decide +kernel), List.mem_of_getElem? (i := 765) (by decide +kernel), List.mem_of_getElem? (i := 766) (by decide +kernel)⟩
theorem lw_p15 : lw_okq (⟨"OrchardLaddersModel", "number", "(II)I"⟩, 17) := ⟨⟨by decide +kernel, by decide +kernel⟩, List.mem_of_getElem? (i := 609) (by decide +kernel), List.mem_of_getElem? (i := 769) (by decide +kernel), List.mem_of_getElem? (i := 770) (by decide +kernel)⟩
def lw_privs_1 : List (MethodName × Nat) := [(⟨"OrchardLadders", "leavesSo", "(IILOrchardLadders$Sheet;II)Z"⟩, 10), (⟨"OrchardLaddersModel", "treeComes", "(III)V"⟩, 17), (⟨"OrchardLaddersModel", "ladderComes", "(IIII)V"⟩, 17), (⟨"OrchardLaddersModel", "isTree", "(I)Z"⟩, 17), (⟨"OrchardLaddersModel", "ofTree", "(II)I"⟩, 17), (⟨"OrchardLaddersModel", "leaners", "(I)I"⟩, 17), (⟨"OrchardLaddersModel", "leansAt", "(I)I"⟩, 17), (⟨"OrchardLaddersModel", "ofLadder", "(II)I"⟩, 17), (⟨"OrchardLaddersModel", "reachers", "(IIZ)I"⟩, 17), (⟨"OrchardLaddersModel", "isReached", "(III)Z"⟩, 17), (⟨"OrchardLaddersModel", "isLadder", "(I)Z"⟩, 17), (⟨"OrchardLaddersModel", "allFruit", "()I"⟩, 17), (⟨"OrchardLaddersModel", "readTrees", "()I"⟩, 17), (⟨"OrchardLaddersModel", "here", "()I"⟩, 17), (⟨"OrchardLaddersModel", "must", "(Z)V"⟩, 17), (⟨"OrchardLaddersModel", "number", "(II)I"⟩, 17)]
theorem lw_r1 : ∀ q ∈ lw_privs_1, lw_okq q := List.forall_mem_cons.mpr ⟨lw_p0, List.forall_mem_cons.mpr ⟨lw_p1, List.forall_mem_cons.mpr ⟨lw_p2, List.forall_mem_cons.mpr ⟨lw_p3, List.forall_mem_cons.mpr ⟨lw_p4, List.forall_mem_cons.mpr ⟨lw_p5, List.forall_mem_cons.mpr ⟨lw_p6, List.forall_mem_cons.mpr ⟨lw_p7, List.forall_mem_cons.mpr ⟨lw_p8, List.forall_mem_cons.mpr ⟨lw_p9, List.forall_mem_cons.mpr ⟨lw_p10, List.forall_mem_cons.mpr ⟨lw_p11, List.forall_mem_cons.mpr ⟨lw_p12, List.forall_mem_cons.mpr ⟨lw_p13, List.forall_mem_cons.mpr ⟨lw_p14, List.forall_mem_cons.mpr ⟨lw_p15, fun _ h => absurd h List.not_mem_nil⟩⟩⟩⟩⟩⟩⟩⟩⟩⟩⟩⟩⟩⟩⟩⟩
theorem lw_p16 : lw_okq (⟨"OrchardLaddersModel", "sign", "(I)V"⟩, 17) := ⟨⟨by decide +kernel, by decide +kernel⟩, List.mem_of_getElem? (i := 609) (by decide +kernel), List.mem_of_getElem? (i := 775) (by decide +kernel), List.mem_of_getElem? (i := 776) (by decide +kernel)⟩
theorem lw_p17 : lw_okq (⟨"OrchardLaddersModel", "readLadders", "(I)I"⟩, 17) := ⟨⟨by decide +kernel, by decide +kernel⟩, List.mem_of_getElem? (i := 609) (by decide +kernel), List.mem_of_getElem? (i := 779) (by decide +kernel), List.mem_of_getElem? (i := 780) (by decide +kernel)⟩
theorem lw_p18 : lw_okq (⟨"OrchardLaddersModel", "digit", "(II)I"⟩, 17) := ⟨⟨by decide +kernel, by decide +kernel⟩, List.mem_of_getElem? (i := 609) (by decide +kernel), List.mem_of_getElem? (i := 783) (by decide +kernel), List.mem_of_getElem? (i := 784) (by decide +kernel)⟩
theorem lw_p19 : lw_okq (⟨"OrchardLaddersModel", "notes", "()V"⟩, 17) := ⟨⟨by decide +kernel, by decide +kernel⟩, List.mem_of_getElem? (i := 609) (by decide +kernel), List.mem_of_getElem? (i := 792) (by decide +kernel), List.mem_of_getElem? (i := 793) (by decide +kernel)⟩
theorem lw_p20 : lw_okq (⟨"OrchardLaddersModel", "goesBy", "(I)V"⟩, 17) := ⟨⟨by decide +kernel, by decide +kernel⟩, List.mem_of_getElem? (i := 609) (by decide +kernel), List.mem_of_getElem? (i := 796) (by decide +kernel), List.mem_of_getElem? (i := 797) (by decide +kernel)⟩
theorem lw_p21 : lw_okq (⟨"OrchardLaddersModel", "isRipe", "(I)Z"⟩, 17) := ⟨⟨by decide +kernel, by decide +kernel⟩, List.mem_of_getElem? (i := 609) (by decide +kernel), List.mem_of_getElem? (i := 800) (by decide +kernel), List.mem_of_getElem? (i := 801) (by decide +kernel)⟩
theorem lw_p22 : lw_okq (⟨"OrchardLaddersModel", "takes", "(II)V"⟩, 17) := ⟨⟨by decide +kernel, by decide +kernel⟩, List.mem_of_getElem? (i := 609) (by decide +kernel), List.mem_of_getElem? (i := 807) (by decide +kernel), List.mem_of_getElem? (i := 808) (by decide +kernel)⟩
theorem lw_p23 : lw_okq (⟨"OrchardLaddersModel", "shakes", "(I)I"⟩, 17) := ⟨⟨by decide +kernel, by decide +kernel⟩, List.mem_of_getElem? (i := 609) (by decide +kernel), List.mem_of_getElem? (i := 819) (by decide +kernel), List.mem_of_getElem? (i := 820) (by decide +kernel)⟩
theorem lw_p24 : lw_okq (⟨"OrchardLaddersModel", "asides", "()V"⟩, 17) := ⟨⟨by decide +kernel, by decide +kernel⟩, List.mem_of_getElem? (i := 609) (by decide +kernel), List.mem_of_getElem? (i := 845) (by decide +kernel), List.mem_of_getElem? (i := 846) (by decide +kernel)⟩
theorem lw_p25 : lw_okq (⟨"OrchardLaddersModel", "goesOn", "(I)V"⟩, 17) := ⟨⟨by decide +kernel, by decide +kernel⟩, List.mem_of_getElem? (i := 609) (by decide +kernel), List.mem_of_getElem? (i := 849) (by decide +kernel), List.mem_of_getElem? (i := 850) (by decide +kernel)⟩
theorem lw_p26 : lw_okq (⟨"OrchardLaddersModel", "backs", "()V"⟩, 17) := ⟨⟨by decide +kernel, by decide +kernel⟩, List.mem_of_getElem? (i := 609) (by decide +kernel), List.mem_of_getElem? (i := 853) (by decide +kernel), List.mem_of_getElem? (i := 854) (by decide +kernel)⟩
theorem lw_p27 : lw_okq (⟨"OrchardLaddersModel", "why", "(IIII)I"⟩, 17) := ⟨⟨by decide +kernel, by decide +kernel⟩, List.mem_of_getElem? (i := 609) (by decide +kernel), List.mem_of_getElem? (i := 916) (by decide +kernel), List.mem_of_getElem? (i := 917) (by decide +kernel)⟩
def lw_privs_2 : List (MethodName × Nat) := [(⟨"OrchardLaddersModel", "sign", "(I)V"⟩, 17), (⟨"OrchardLaddersModel", "readLadders", "(I)I"⟩, 17), (⟨"OrchardLaddersModel", "digit", "(II)I"⟩, 17), (⟨"OrchardLaddersModel", "notes", "()V"⟩, 17), (⟨"OrchardLaddersModel", "goesBy", "(I)V"⟩, 17), (⟨"OrchardLaddersModel", "isRipe", "(I)Z"⟩, 17), (⟨"OrchardLaddersModel", "takes", "(II)V"⟩, 17), (⟨"OrchardLaddersModel", "shakes", "(I)I"⟩, 17), (⟨"OrchardLaddersModel", "asides", "()V"⟩, 17), (⟨"OrchardLaddersModel", "goesOn", "(I)V"⟩, 17), (⟨"OrchardLaddersModel", "backs", "()V"⟩, 17), (⟨"OrchardLaddersModel", "why", "(IIII)I"⟩, 17)]
theorem lw_r2 : ∀ q ∈ lw_privs_2, lw_okq q := List.forall_mem_cons.mpr ⟨lw_p16, List.forall_mem_cons.mpr ⟨lw_p17, List.forall_mem_cons.mpr ⟨lw_p18, List.forall_mem_cons.mpr ⟨lw_p19, List.forall_mem_cons.mpr ⟨lw_p20, List.forall_mem_cons.mpr ⟨lw_p21, List.forall_mem_cons.mpr ⟨lw_p22, List.forall_mem_cons.mpr ⟨lw_p23, List.forall_mem_cons.mpr ⟨lw_p24, List.forall_mem_cons.mpr ⟨lw_p25, List.forall_mem_cons.mpr ⟨lw_p26, List.forall_mem_cons.mpr ⟨lw_p27, fun _ h => absurd h List.not_mem_nil⟩⟩⟩⟩⟩⟩⟩⟩⟩⟩⟩⟩
def lw_privs : List (MethodName × Nat) := lw_privs_1 ++ (lw_privs_2)
def lw_tbl : List Cond := k2_sels lw_privs ++ tables_1
theorem lw_privs_ok : ∀ q ∈ lw_privs, lw_okq q := by
  show ∀ q ∈ lw_privs_1 ++ (lw_privs_2), lw_okq q
  exact List.forall_mem_append.mpr ⟨lw_r1, lw_r2⟩
-- ===== end of PART A =====
end
section
/-! ===== BEGIN words of one list among another's, by their places ===== -/
theorem goodIn_r {big : List Cond} (ws : List Cond) (ps : List Nat) (hp : ws = ps.filterMap (fun i => big[i]?)) (h : ws.all goodWord = true) : GoodIn big ws := by
  intro w hw
  have h1 := List.all_eq_true.mp h w hw
  rw [hp] at hw
  obtain ⟨i, -, hi⟩ := List.mem_filterMap.mp hw
  have hm : w ∈ big := by first | exact List.mem_of_getElem? hi | exact List.getElem?_mem hi
  exact ⟨hm, good_of_word h1⟩
theorem goodIn_app {big a b : List Cond} (ha : GoodIn big a) (hb : GoodIn big b) : GoodIn big (a ++ b) := fun w h => (List.mem_append.mp h).elim (ha w) (hb w)
theorem goodIn_ca {big a b : List Cond} {c : Cond} (ha : GoodIn big (c :: a)) (hb : GoodIn big b) : GoodIn big (c :: (a ++ b)) := fun w h => (List.mem_cons.mp h).elim (fun e => ha w (List.mem_cons.mpr (Or.inl e))) (fun h => (List.mem_append.mp h).elim (fun h => ha w (List.mem_cons.mpr (Or.inr h))) (hb w))
theorem goodIn_sub {big ws : List Cond} (hm : ∀ w ∈ ws, w ∈ big) (h : ws.all goodWord = true) : GoodIn big ws := fun w hw => ⟨hm w hw, good_of_word (List.all_eq_true.mp h w hw)⟩
/-! ===== END ===== -/

/-! ===== BEGIN printed: names, fields, word lists, decode rows ===== -/
def RX0 : String := "OrchardLadders$Choice"
def TX0 : u_T := fun k => match k with
  | 0 => ("OrchardLadders$Choice", "worth", "[I", true)
  | 1 => ("OrchardLadders$Choice", "trees", "[I", true)
  | 2 => ("OrchardLadders$Choice", "places", "[I", true)
  | _ => ("OrchardLadders$Choice", "most", "I", false)
def tyX0 : Nat → FieldType := fun k => match k with
  | 0 => .array .int
  | 1 => .array .int
  | 2 => .array .int
  | _ => .int
abbrev wsX00 : List Cond := u_ws RX0 TX0 4
theorem nmX0 : ∀ a, a < 4 → ∀ b, b < 4 → a ≠ b → (TX0 a).2.1 ≠ (TX0 b).2.1 := by decide +kernel
theorem tyX0_ok : ∀ k, k < 4 → parseFieldDescriptor (TX0 k).2.2.1 = some (tyX0 k) := by decide +kernel
abbrev cX0_init : ByteArray := prog_2_method_1_code
def yX0_init : MethodName := ⟨RX0, "<init>", "()V"⟩
abbrev cX0_seek : ByteArray := prog_2_method_2_code
def yX0_seek : MethodName := ⟨RX0, "seek", "(II)V"⟩
abbrev cX0_worthOf : ByteArray := prog_2_method_3_code
def yX0_worthOf : MethodName := ⟨RX0, "worthOf", "(III)I"⟩
abbrev cX0_spread : ByteArray := prog_2_method_4_code
def yX0_spread : MethodName := ⟨RX0, "spread", "(III)V"⟩
def RX1 : String := "OrchardLadders$History"
def TX1 : u_T := fun k => match k with
  | 0 => ("OrchardLadders$History", "past", "[LOrchardLadders$Moment;", true)
  | _ => ("OrchardLadders$History", "known", "I", false)
def tyX1 : Nat → FieldType := fun k => match k with
  | 0 => .array (.object "OrchardLadders$Moment")
  | _ => .int
abbrev wsX10 : List Cond := u_ws RX1 TX1 2
theorem nmX1 : ∀ a, a < 2 → ∀ b, b < 2 → a ≠ b → (TX1 a).2.1 ≠ (TX1 b).2.1 := by decide +kernel
theorem tyX1_ok : ∀ k, k < 2 → parseFieldDescriptor (TX1 k).2.2.1 = some (tyX1 k) := by decide +kernel
abbrev cX1_init : ByteArray := prog_3_method_1_code
def yX1_init : MethodName := ⟨RX1, "<init>", "()V"⟩
abbrev cX1_become : ByteArray := prog_3_method_2_code
def yX1_become : MethodName := ⟨RX1, "become", "(LOrchardLadders$History;)V"⟩
abbrev cX1_forgetUnlessFull : ByteArray := prog_3_method_3_code
def yX1_forgetUnlessFull : MethodName := ⟨RX1, "forgetUnlessFull", "(I)V"⟩
abbrev cX1_remember : ByteArray := prog_3_method_4_code
def yX1_remember : MethodName := ⟨RX1, "remember", "(LOrchardLadders$Moment;)V"⟩
abbrev cX1_forgetOldest : ByteArray := prog_3_method_5_code
def yX1_forgetOldest : MethodName := ⟨RX1, "forgetOldest", "()V"⟩
abbrev cX1_putBack : ByteArray := prog_3_method_6_code
def yX1_putBack : MethodName := ⟨RX1, "putBack", "(LOrchardLadders$Moment;)I"⟩
def RX2 : String := "OrchardLadders$Moment"
def TX2 : u_T := fun k => match k with
  | 0 => ("OrchardLadders$Moment", "fruit", "[I", true)
  | 1 => ("OrchardLadders$Moment", "leans", "[I", true)
  | 2 => ("OrchardLadders$Moment", "got", "I", false)
  | 3 => ("OrchardLadders$Moment", "paid", "I", false)
  | 4 => ("OrchardLadders$Moment", "lost", "I", false)
  | 5 => ("OrchardLadders$Moment", "day", "I", false)
  | _ => ("OrchardLadders$Moment", "draw", "I", false)
def tyX2 : Nat → FieldType := fun k => match k with
  | 0 => .array .int
  | 1 => .array .int
  | 2 => .int
  | 3 => .int
  | 4 => .int
  | 5 => .int
  | _ => .int
abbrev wsX20 : List Cond := u_ws RX2 TX2 7
theorem nmX2 : ∀ a, a < 7 → ∀ b, b < 7 → a ≠ b → (TX2 a).2.1 ≠ (TX2 b).2.1 := by decide +kernel
theorem tyX2_ok : ∀ k, k < 7 → parseFieldDescriptor (TX2 k).2.2.1 = some (tyX2 k) := by decide +kernel
abbrev cX2_init : ByteArray := prog_4_method_1_code
def yX2_init : MethodName := ⟨RX2, "<init>", "()V"⟩
abbrev cX2_leanNowhere : ByteArray := prog_4_method_2_code
def yX2_leanNowhere : MethodName := ⟨RX2, "leanNowhere", "()V"⟩
abbrev cX2_become : ByteArray := prog_4_method_3_code
def yX2_become : MethodName := ⟨RX2, "become", "(LOrchardLadders$Moment;)V"⟩
abbrev cX2_leaningAt : ByteArray := prog_4_method_4_code
def yX2_leaningAt : MethodName := ⟨RX2, "leaningAt", "(I)I"⟩
abbrev cX2_shakeOff : ByteArray := prog_4_method_5_code
def yX2_shakeOff : MethodName := ⟨RX2, "shakeOff", "(I)I"⟩
def RX3 : String := "OrchardLadders$Orchard"
def TX3 : u_T := fun k => match k with
  | 0 => ("OrchardLadders$Orchard", "trees", "I", false)
  | 1 => ("OrchardLadders$Orchard", "ladders", "I", false)
  | 2 => ("OrchardLadders$Orchard", "basket", "I", false)
  | 3 => ("OrchardLadders$Orchard", "wasps", "I", false)
  | 4 => ("OrchardLadders$Orchard", "high", "[I", true)
  | 5 => ("OrchardLadders$Orchard", "ripe", "[I", true)
  | 6 => ("OrchardLadders$Orchard", "kind", "[I", true)
  | 7 => ("OrchardLadders$Orchard", "length", "[I", true)
  | 8 => ("OrchardLadders$Orchard", "price", "[I", true)
  | _ => ("OrchardLadders$Orchard", "now", "LOrchardLadders$Moment;", true)
def tyX3 : Nat → FieldType := fun k => match k with
  | 0 => .int
  | 1 => .int
  | 2 => .int
  | 3 => .int
  | 4 => .array .int
  | 5 => .array .int
  | 6 => .array .int
  | 7 => .array .int
  | 8 => .array .int
  | _ => .object "OrchardLadders$Moment"
abbrev wsX30 : List Cond := u_ws RX3 TX3 10
theorem nmX3 : ∀ a, a < 10 → ∀ b, b < 10 → a ≠ b → (TX3 a).2.1 ≠ (TX3 b).2.1 := by decide +kernel
theorem tyX3_ok : ∀ k, k < 10 → parseFieldDescriptor (TX3 k).2.2.1 = some (tyX3 k) := by decide +kernel
abbrev cX3_init : ByteArray := prog_5_method_1_code
def yX3_init : MethodName := ⟨RX3, "<init>", "()V"⟩
abbrev cX3_become : ByteArray := prog_5_method_2_code
def yX3_become : MethodName := ⟨RX3, "become", "(LOrchardLadders$Orchard;)V"⟩
abbrev cX3_takeOver : ByteArray := prog_5_method_3_code
def yX3_takeOver : MethodName := ⟨RX3, "takeOver", "(LOrchardLadders$Orchard;)V"⟩
abbrev cX3_becomeTreesAndLadders : ByteArray := prog_5_method_4_code
def yX3_becomeTreesAndLadders : MethodName := ⟨RX3, "becomeTreesAndLadders", "(LOrchardLadders$Orchard;)V"⟩
abbrev cX3_clear : ByteArray := prog_5_method_5_code
def yX3_clear : MethodName := ⟨RX3, "clear", "()V"⟩
abbrev cX3_plant : ByteArray := prog_5_method_6_code
def yX3_plant : MethodName := ⟨RX3, "plant", "(III)I"⟩
abbrev cX3_bring : ByteArray := prog_5_method_7_code
def yX3_bring : MethodName := ⟨RX3, "bring", "(III)I"⟩
abbrev cX3_hasTree : ByteArray := prog_5_method_8_code
def yX3_hasTree : MethodName := ⟨RX3, "hasTree", "(I)Z"⟩
abbrev cX3_hasLadder : ByteArray := prog_5_method_9_code
def yX3_hasLadder : MethodName := ⟨RX3, "hasLadder", "(I)Z"⟩
abbrev cX3_fruitOfAll : ByteArray := prog_5_method_10_code
def yX3_fruitOfAll : MethodName := ⟨RX3, "fruitOfAll", "(LOrchardLadders$Moment;)I"⟩
abbrev cX3_leaningAnywhere : ByteArray := prog_5_method_11_code
def yX3_leaningAnywhere : MethodName := ⟨RX3, "leaningAnywhere", "()I"⟩
abbrev cX3_reach : ByteArray := prog_5_method_12_code
def yX3_reach : MethodName := ⟨RX3, "reach", "(II)I"⟩
abbrev cX3_reaching : ByteArray := prog_5_method_13_code
def yX3_reaching : MethodName := ⟨RX3, "reaching", "(III)I"⟩
abbrev cX3_treesInReach : ByteArray := prog_5_method_14_code
def yX3_treesInReach : MethodName := ⟨RX3, "treesInReach", "(II)I"⟩
abbrev cX3_taken : ByteArray := prog_5_method_15_code
def yX3_taken : MethodName := ⟨RX3, "taken", "(IIIII)I"⟩
abbrev cX3_stung : ByteArray := prog_5_method_16_code
def yX3_stung : MethodName := ⟨RX3, "stung", "(III)I"⟩
abbrev cX3_leftBehind : ByteArray := prog_5_method_17_code
def yX3_leftBehind : MethodName := ⟨RX3, "leftBehind", "(IIII)I"⟩
abbrev cX3_pass : ByteArray := prog_5_method_18_code
def yX3_pass : MethodName := ⟨RX3, "pass", "(LOrchardLadders$Moment;)V"⟩
abbrev cX3_gust : ByteArray := prog_5_method_19_code
def yX3_gust : MethodName := ⟨RX3, "gust", "()V"⟩
abbrev cX3_gotAt : ByteArray := prog_5_method_20_code
def yX3_gotAt : MethodName := ⟨RX3, "gotAt", "(IIII)I"⟩
abbrev cX3_gotWithGuest : ByteArray := prog_5_method_21_code
def yX3_gotWithGuest : MethodName := ⟨RX3, "gotWithGuest", "(IIIIII)I"⟩
abbrev cX3_gotToday : ByteArray := prog_5_method_22_code
def yX3_gotToday : MethodName := ⟨RX3, "gotToday", "(I)I"⟩
def RX4 : String := "OrchardLadders$Sheet"
def TX4 : u_T := fun k => match k with
  | 0 => ("OrchardLadders$Sheet", "items", "[J", true)
  | 1 => ("OrchardLadders$Sheet", "lane", "I", false)
  | _ => ("OrchardLadders$Sheet", "length", "I", false)
def tyX4 : Nat → FieldType := fun k => match k with
  | 0 => .array .long
  | 1 => .int
  | _ => .int
abbrev wsX40 : List Cond := u_ws RX4 TX4 3
theorem nmX4 : ∀ a, a < 3 → ∀ b, b < 3 → a ≠ b → (TX4 a).2.1 ≠ (TX4 b).2.1 := by decide +kernel
theorem tyX4_ok : ∀ k, k < 3 → parseFieldDescriptor (TX4 k).2.2.1 = some (tyX4 k) := by decide +kernel
abbrev cX4_init : ByteArray := prog_6_method_1_code
def yX4_init : MethodName := ⟨RX4, "<init>", "()V"⟩
abbrev cX4_begin : ByteArray := prog_6_method_2_code
def yX4_begin : MethodName := ⟨RX4, "begin", "(II)V"⟩
abbrev cX4_holds : ByteArray := prog_6_method_3_code
def yX4_holds : MethodName := ⟨RX4, "holds", "(II)Z"⟩
abbrev cX4_find : ByteArray := prog_6_method_4_code
def yX4_find : MethodName := ⟨RX4, "find", "(III)I"⟩
abbrev cX4_put : ByteArray := prog_6_method_5_code
def yX4_put : MethodName := ⟨RX4, "put", "(IJ)V"⟩
def RX5 : String := "OrchardLadders$Tape"
def TX5 : u_T := fun k => match k with
  | 0 => ("OrchardLadders$Tape", "letters", "[C", true)
  | 1 => ("OrchardLadders$Tape", "length", "I", false)
  | 2 => ("OrchardLadders$Tape", "place", "I", false)
  | _ => ("OrchardLadders$Tape", "fault", "I", false)
def tyX5 : Nat → FieldType := fun k => match k with
  | 0 => .array .char
  | 1 => .int
  | 2 => .int
  | _ => .int
abbrev wsX50 : List Cond := u_ws RX5 TX5 4
theorem nmX5 : ∀ a, a < 4 → ∀ b, b < 4 → a ≠ b → (TX5 a).2.1 ≠ (TX5 b).2.1 := by decide +kernel
theorem tyX5_ok : ∀ k, k < 4 → parseFieldDescriptor (TX5 k).2.2.1 = some (tyX5 k) := by decide +kernel
abbrev cX5_init : ByteArray := prog_7_method_1_code
def yX5_init : MethodName := ⟨RX5, "<init>", "()V"⟩
abbrev cX5_append : ByteArray := prog_7_method_2_code
def yX5_append : MethodName := ⟨RX5, "append", "(C)I"⟩
abbrev cX5_read : ByteArray := prog_7_method_3_code
def yX5_read : MethodName := ⟨RX5, "read", "(LOrchardLadders$Orchard;)I"⟩
abbrev cX5_readTrees : ByteArray := prog_7_method_4_code
def yX5_readTrees : MethodName := ⟨RX5, "readTrees", "(LOrchardLadders$Orchard;)V"⟩
abbrev cX5_readLadders : ByteArray := prog_7_method_5_code
def yX5_readLadders : MethodName := ⟨RX5, "readLadders", "(LOrchardLadders$Orchard;)V"⟩
abbrev cX5_next : ByteArray := prog_7_method_6_code
def yX5_next : MethodName := ⟨RX5, "next", "()I"⟩
abbrev cX5_fail : ByteArray := prog_7_method_7_code
def yX5_fail : MethodName := ⟨RX5, "fail", "(I)V"⟩
abbrev cX5_passes : ByteArray := prog_7_method_8_code
def yX5_passes : MethodName := ⟨RX5, "passes", "(C)Z"⟩
abbrev cX5_demand : ByteArray := prog_7_method_9_code
def yX5_demand : MethodName := ⟨RX5, "demand", "(C)V"⟩
abbrev cX5_number : ByteArray := prog_7_method_10_code
def yX5_number : MethodName := ⟨RX5, "number", "(II)I"⟩
abbrev cX5_digit : ByteArray := prog_7_method_11_code
def yX5_digit : MethodName := ⟨RX5, "digit", "(II)I"⟩
abbrev cX5_kindLetter : ByteArray := prog_7_method_12_code
def yX5_kindLetter : MethodName := ⟨RX5, "kindLetter", "()I"⟩
abbrev cX5_isDigit : ByteArray := prog_7_method_13_code
def yX5_isDigit : MethodName := ⟨RX5, "isDigit", "(I)Z"⟩
def RX6 : String := "OrchardLadders"
def TX6 : u_T := fun k => match k with
  | 0 => ("OrchardLadders", "orchard", "LOrchardLadders$Orchard;", true)
  | 1 => ("OrchardLadders", "history", "LOrchardLadders$History;", true)
  | 2 => ("OrchardLadders", "keptOrchard", "LOrchardLadders$Orchard;", true)
  | 3 => ("OrchardLadders", "keptHistory", "LOrchardLadders$History;", true)
  | 4 => ("OrchardLadders", "kept", "Z", false)
  | 5 => ("OrchardLadders", "tape", "LOrchardLadders$Tape;", true)
  | 6 => ("OrchardLadders", "draft", "LOrchardLadders$Orchard;", true)
  | 7 => ("OrchardLadders", "later", "LOrchardLadders$Moment;", true)
  | 8 => ("OrchardLadders", "choice", "LOrchardLadders$Choice;", true)
  | _ => ("OrchardLadders", "sheets", "[LOrchardLadders$Sheet;", true)
def tyX6 : Nat → FieldType := fun k => match k with
  | 0 => .object "OrchardLadders$Orchard"
  | 1 => .object "OrchardLadders$History"
  | 2 => .object "OrchardLadders$Orchard"
  | 3 => .object "OrchardLadders$History"
  | 4 => .boolean
  | 5 => .object "OrchardLadders$Tape"
  | 6 => .object "OrchardLadders$Orchard"
  | 7 => .object "OrchardLadders$Moment"
  | 8 => .object "OrchardLadders$Choice"
  | _ => .array (.object "OrchardLadders$Sheet")
abbrev wsX60 : List Cond := u_ws RX6 TX6 10
theorem nmX6 : ∀ a, a < 10 → ∀ b, b < 10 → a ≠ b → (TX6 a).2.1 ≠ (TX6 b).2.1 := by decide +kernel
theorem tyX6_ok : ∀ k, k < 10 → parseFieldDescriptor (TX6 k).2.2.1 = some (tyX6 k) := by decide +kernel
abbrev cX6_init : ByteArray := prog_1_method_1_code
def yX6_init : MethodName := ⟨RX6, "<init>", "()V"⟩
abbrev cX6_tree : ByteArray := prog_1_method_2_code
def yX6_tree : MethodName := ⟨RX6, "tree", "(III)I"⟩
abbrev cX6_ladder : ByteArray := prog_1_method_3_code
def yX6_ladder : MethodName := ⟨RX6, "ladder", "(III)I"⟩
abbrev cX6_of : ByteArray := prog_1_method_4_code
def yX6_of : MethodName := ⟨RX6, "of", "(II)I"⟩
abbrev cX6_at : ByteArray := prog_1_method_5_code
def yX6_at : MethodName := ⟨RX6, "at", "(II)I"⟩
abbrev cX6_rule : ByteArray := prog_1_method_6_code
def yX6_rule : MethodName := ⟨RX6, "rule", "(II)I"⟩
abbrev cX6_type : ByteArray := prog_1_method_7_code
def yX6_type : MethodName := ⟨RX6, "type", "(I)I"⟩
abbrev cX6_orchard : ByteArray := prog_1_method_8_code
def yX6_orchard : MethodName := ⟨RX6, "orchard", "()I"⟩
abbrev cX6_count : ByteArray := prog_1_method_9_code
def yX6_count : MethodName := ⟨RX6, "count", "(I)I"⟩
abbrev cX6_days : ByteArray := prog_1_method_10_code
def yX6_days : MethodName := ⟨RX6, "days", "(I)I"⟩
abbrev cX6_lean : ByteArray := prog_1_method_11_code
def yX6_lean : MethodName := ⟨RX6, "lean", "(II)I"⟩
abbrev cX6_shake : ByteArray := prog_1_method_12_code
def yX6_shake : MethodName := ⟨RX6, "shake", "(I)I"⟩
abbrev cX6_drift : ByteArray := prog_1_method_13_code
def yX6_drift : MethodName := ⟨RX6, "drift", "(I)I"⟩
abbrev cX6_undo : ByteArray := prog_1_method_14_code
def yX6_undo : MethodName := ⟨RX6, "undo", "()I"⟩
abbrev cX6_seed : ByteArray := prog_1_method_15_code
def yX6_seed : MethodName := ⟨RX6, "seed", "(I)I"⟩
abbrev cX6_ahead : ByteArray := prog_1_method_16_code
def yX6_ahead : MethodName := ⟨RX6, "ahead", "(II)I"⟩
abbrev cX6_fruit : ByteArray := prog_1_method_17_code
def yX6_fruit : MethodName := ⟨RX6, "fruit", "(II)I"⟩
abbrev cX6_reached : ByteArray := prog_1_method_18_code
def yX6_reached : MethodName := ⟨RX6, "reached", "(II)I"⟩
abbrev cX6_gathered : ByteArray := prog_1_method_19_code
def yX6_gathered : MethodName := ⟨RX6, "gathered", "()I"⟩
abbrev cX6_plan : ByteArray := prog_1_method_20_code
def yX6_plan : MethodName := ⟨RX6, "plan", "(II)I"⟩
abbrev cX6_round : ByteArray := prog_1_method_21_code
def yX6_round : MethodName := ⟨RX6, "round", "(III)I"⟩
abbrev cX6_longer : ByteArray := prog_1_method_22_code
def yX6_longer : MethodName := ⟨RX6, "longer", "(II)I"⟩
abbrev cX6_larger : ByteArray := prog_1_method_23_code
def yX6_larger : MethodName := ⟨RX6, "larger", "(II)I"⟩
abbrev cX6_luck : ByteArray := prog_1_method_24_code
def yX6_luck : MethodName := ⟨RX6, "luck", "(III)I"⟩
abbrev cX6_image : ByteArray := prog_1_method_25_code
def yX6_image : MethodName := ⟨RX6, "image", "()I"⟩
abbrev cX6_restore : ByteArray := prog_1_method_26_code
def yX6_restore : MethodName := ⟨RX6, "restore", "()I"⟩
abbrev cX6_left : ByteArray := prog_1_method_27_code
def yX6_left : MethodName := ⟨RX6, "left", "(IIIII)I"⟩
abbrev cX6_film : ByteArray := prog_1_method_28_code
def yX6_film : MethodName := ⟨RX6, "film", "(IIIII)I"⟩
abbrev cX6_sheet : ByteArray := prog_1_method_29_code
def yX6_sheet : MethodName := ⟨RX6, "sheet", "(III)I"⟩
abbrev cX6_drop : ByteArray := prog_1_method_30_code
def yX6_drop : MethodName := ⟨RX6, "drop", "(I)I"⟩
abbrev cX6_item : ByteArray := prog_1_method_31_code
def yX6_item : MethodName := ⟨RX6, "item", "(IIIJ)I"⟩
abbrev cX6_copy : ByteArray := prog_1_method_32_code
def yX6_copy : MethodName := ⟨RX6, "copy", "(IIIII)I"⟩
abbrev cX6_within : ByteArray := prog_1_method_33_code
def yX6_within : MethodName := ⟨RX6, "within", "(III)Z"⟩
abbrev cX6_isSheet : ByteArray := prog_1_method_34_code
def yX6_isSheet : MethodName := ⟨RX6, "isSheet", "(I)Z"⟩
abbrev cX6_isLane : ByteArray := prog_1_method_35_code
def yX6_isLane : MethodName := ⟨RX6, "isLane", "(I)Z"⟩
abbrev cX6_reachOfKind : ByteArray := prog_1_method_36_code
def yX6_reachOfKind : MethodName := ⟨RX6, "reachOfKind", "(III)I"⟩
abbrev cX6_reachOfDewy : ByteArray := prog_1_method_37_code
def yX6_reachOfDewy : MethodName := ⟨RX6, "reachOfDewy", "(II)I"⟩
abbrev cX6_reachOfTied : ByteArray := prog_1_method_38_code
def yX6_reachOfTied : MethodName := ⟨RX6, "reachOfTied", "(I)I"⟩
abbrev cX6_waysToBe : ByteArray := prog_1_method_39_code
def yX6_waysToBe : MethodName := ⟨RX6, "waysToBe", "(III)I"⟩
abbrev cX6_commonDivisor : ByteArray := prog_1_method_40_code
def yX6_commonDivisor : MethodName := ⟨RX6, "commonDivisor", "(II)I"⟩
abbrev cX6_leavesSo : ByteArray := prog_1_method_41_code
def yX6_leavesSo : MethodName := ⟨RX6, "leavesSo", "(IILOrchardLadders$Sheet;II)Z"⟩
def RX7 : String := "OrchardLaddersModel"
def TX7 : u_T := fun k => match k with
  | 0 => ("OrchardLaddersModel", "now", "[I", true)
  | 1 => ("OrchardLaddersModel", "tape", "[I", true)
  | 2 => ("OrchardLaddersModel", "typed", "I", false)
  | 3 => ("OrchardLaddersModel", "place", "I", false)
  | 4 => ("OrchardLaddersModel", "isFault", "Z", false)
  | 5 => ("OrchardLaddersModel", "readOnes", "[I", true)
  | 6 => ("OrchardLaddersModel", "read", "[I", true)
  | 7 => ("OrchardLaddersModel", "undone", "[I", true)
  | 8 => ("OrchardLaddersModel", "undos", "I", false)
  | 9 => ("OrchardLaddersModel", "aside", "[I", true)
  | 10 => ("OrchardLaddersModel", "kept", "[I", true)
  | 11 => ("OrchardLaddersModel", "keptUndos", "I", false)
  | 12 => ("OrchardLaddersModel", "isKept", "Z", false)
  | 13 => ("OrchardLaddersModel", "lanes", "[I", true)
  | 14 => ("OrchardLaddersModel", "sizes", "[I", true)
  | 15 => ("OrchardLaddersModel", "items", "[J", true)
  | _ => ("OrchardLaddersModel", "moved", "[J", true)
def tyX7 : Nat → FieldType := fun k => match k with
  | 0 => .array .int
  | 1 => .array .int
  | 2 => .int
  | 3 => .int
  | 4 => .boolean
  | 5 => .array .int
  | 6 => .array .int
  | 7 => .array .int
  | 8 => .int
  | 9 => .array .int
  | 10 => .array .int
  | 11 => .int
  | 12 => .boolean
  | 13 => .array .int
  | 14 => .array .int
  | 15 => .array .long
  | _ => .array .long
abbrev wsX70 : List Cond := u_ws RX7 TX7 17
theorem nmX7 : ∀ a, a < 17 → ∀ b, b < 17 → a ≠ b → (TX7 a).2.1 ≠ (TX7 b).2.1 := by decide +kernel
theorem tyX7_ok : ∀ k, k < 17 → parseFieldDescriptor (TX7 k).2.2.1 = some (tyX7 k) := by decide +kernel
abbrev cX7_in : ByteArray := prog_9_method_2_code
def yX7_in : MethodName := ⟨RX7, "in", "(JJJ)Z"⟩
abbrev cX7_init : ByteArray := prog_9_method_3_code
def yX7_init : MethodName := ⟨RX7, "<init>", "()V"⟩
abbrev cX7_isTree : ByteArray := prog_9_method_4_code
def yX7_isTree : MethodName := ⟨RX7, "isTree", "(I)Z"⟩
abbrev cX7_isLadder : ByteArray := prog_9_method_5_code
def yX7_isLadder : MethodName := ⟨RX7, "isLadder", "(I)Z"⟩
abbrev cX7_ofTree : ByteArray := prog_9_method_6_code
def yX7_ofTree : MethodName := ⟨RX7, "ofTree", "(II)I"⟩
abbrev cX7_ofLadder : ByteArray := prog_9_method_7_code
def yX7_ofLadder : MethodName := ⟨RX7, "ofLadder", "(II)I"⟩
abbrev cX7_leansAt : ByteArray := prog_9_method_8_code
def yX7_leansAt : MethodName := ⟨RX7, "leansAt", "(I)I"⟩
abbrev cX7_reaches : ByteArray := prog_9_method_9_code
def yX7_reaches : MethodName := ⟨RX7, "reaches", "(III)I"⟩
abbrev cX7_isReached : ByteArray := prog_9_method_10_code
def yX7_isReached : MethodName := ⟨RX7, "isReached", "(III)Z"⟩
abbrev cX7_isRipe : ByteArray := prog_9_method_11_code
def yX7_isRipe : MethodName := ⟨RX7, "isRipe", "(I)Z"⟩
abbrev cX7_less : ByteArray := prog_9_method_12_code
def yX7_less : MethodName := ⟨RX7, "less", "(II)I"⟩
abbrev cX7_takes : ByteArray := prog_9_method_13_code
def yX7_takes : MethodName := ⟨RX7, "takes", "(II)V"⟩
abbrev cX7_goesBy : ByteArray := prog_9_method_14_code
def yX7_goesBy : MethodName := ⟨RX7, "goesBy", "(I)V"⟩
abbrev cX7_goesOn : ByteArray := prog_9_method_15_code
def yX7_goesOn : MethodName := ⟨RX7, "goesOn", "(I)V"⟩
abbrev cX7_allFruit : ByteArray := prog_9_method_16_code
def yX7_allFruit : MethodName := ⟨RX7, "allFruit", "()I"⟩
abbrev cX7_treeComes : ByteArray := prog_9_method_17_code
def yX7_treeComes : MethodName := ⟨RX7, "treeComes", "(III)V"⟩
abbrev cX7_ladderComes : ByteArray := prog_9_method_18_code
def yX7_ladderComes : MethodName := ⟨RX7, "ladderComes", "(IIII)V"⟩
abbrev cX7_tree : ByteArray := prog_9_method_19_code
def yX7_tree : MethodName := ⟨RX7, "tree", "(III)I"⟩
abbrev cX7_ladder : ByteArray := prog_9_method_20_code
def yX7_ladder : MethodName := ⟨RX7, "ladder", "(III)I"⟩
abbrev cX7_reachers : ByteArray := prog_9_method_21_code
def yX7_reachers : MethodName := ⟨RX7, "reachers", "(IIZ)I"⟩
abbrev cX7_leaners : ByteArray := prog_9_method_22_code
def yX7_leaners : MethodName := ⟨RX7, "leaners", "(I)I"⟩
abbrev cX7_of : ByteArray := prog_9_method_23_code
def yX7_of : MethodName := ⟨RX7, "of", "(II)I"⟩
abbrev cX7_at : ByteArray := prog_9_method_24_code
def yX7_at : MethodName := ⟨RX7, "at", "(II)I"⟩
abbrev cX7_rule : ByteArray := prog_9_method_25_code
def yX7_rule : MethodName := ⟨RX7, "rule", "(II)I"⟩
abbrev cX7_count : ByteArray := prog_9_method_26_code
def yX7_count : MethodName := ⟨RX7, "count", "(I)I"⟩
abbrev cX7_type : ByteArray := prog_9_method_27_code
def yX7_type : MethodName := ⟨RX7, "type", "(I)I"⟩
abbrev cX7_here : ByteArray := prog_9_method_28_code
def yX7_here : MethodName := ⟨RX7, "here", "()I"⟩
abbrev cX7_must : ByteArray := prog_9_method_29_code
def yX7_must : MethodName := ⟨RX7, "must", "(Z)V"⟩
abbrev cX7_sign : ByteArray := prog_9_method_30_code
def yX7_sign : MethodName := ⟨RX7, "sign", "(I)V"⟩
abbrev cX7_digit : ByteArray := prog_9_method_31_code
def yX7_digit : MethodName := ⟨RX7, "digit", "(II)I"⟩
abbrev cX7_number : ByteArray := prog_9_method_32_code
def yX7_number : MethodName := ⟨RX7, "number", "(II)I"⟩
abbrev cX7_readTrees : ByteArray := prog_9_method_33_code
def yX7_readTrees : MethodName := ⟨RX7, "readTrees", "()I"⟩
abbrev cX7_readLadders : ByteArray := prog_9_method_34_code
def yX7_readLadders : MethodName := ⟨RX7, "readLadders", "(I)I"⟩
abbrev cX7_orchard : ByteArray := prog_9_method_35_code
def yX7_orchard : MethodName := ⟨RX7, "orchard", "()I"⟩
abbrev cX7_notes : ByteArray := prog_9_method_36_code
def yX7_notes : MethodName := ⟨RX7, "notes", "()V"⟩
abbrev cX7_days : ByteArray := prog_9_method_37_code
def yX7_days : MethodName := ⟨RX7, "days", "(I)I"⟩
abbrev cX7_lean : ByteArray := prog_9_method_38_code
def yX7_lean : MethodName := ⟨RX7, "lean", "(II)I"⟩
abbrev cX7_shakes : ByteArray := prog_9_method_39_code
def yX7_shakes : MethodName := ⟨RX7, "shakes", "(I)I"⟩
abbrev cX7_shake : ByteArray := prog_9_method_40_code
def yX7_shake : MethodName := ⟨RX7, "shake", "(I)I"⟩
abbrev cX7_drift : ByteArray := prog_9_method_41_code
def yX7_drift : MethodName := ⟨RX7, "drift", "(I)I"⟩
abbrev cX7_undo : ByteArray := prog_9_method_42_code
def yX7_undo : MethodName := ⟨RX7, "undo", "()I"⟩
abbrev cX7_seed : ByteArray := prog_9_method_43_code
def yX7_seed : MethodName := ⟨RX7, "seed", "(I)I"⟩
abbrev cX7_asides : ByteArray := prog_9_method_44_code
def yX7_asides : MethodName := ⟨RX7, "asides", "()V"⟩
abbrev cX7_backs : ByteArray := prog_9_method_45_code
def yX7_backs : MethodName := ⟨RX7, "backs", "()V"⟩
abbrev cX7_ahead : ByteArray := prog_9_method_46_code
def yX7_ahead : MethodName := ⟨RX7, "ahead", "(II)I"⟩
abbrev cX7_fruit : ByteArray := prog_9_method_47_code
def yX7_fruit : MethodName := ⟨RX7, "fruit", "(II)I"⟩
abbrev cX7_reached : ByteArray := prog_9_method_48_code
def yX7_reached : MethodName := ⟨RX7, "reached", "(II)I"⟩
abbrev cX7_gathered : ByteArray := prog_9_method_49_code
def yX7_gathered : MethodName := ⟨RX7, "gathered", "()I"⟩
abbrev cX7_power : ByteArray := prog_9_method_50_code
def yX7_power : MethodName := ⟨RX7, "power", "(II)I"⟩
abbrev cX7_plan : ByteArray := prog_9_method_51_code
def yX7_plan : MethodName := ⟨RX7, "plan", "(II)I"⟩
abbrev cX7_round : ByteArray := prog_9_method_52_code
def yX7_round : MethodName := ⟨RX7, "round", "(III)I"⟩
abbrev cX7_longer : ByteArray := prog_9_method_53_code
def yX7_longer : MethodName := ⟨RX7, "longer", "(II)I"⟩
abbrev cX7_larger : ByteArray := prog_9_method_54_code
def yX7_larger : MethodName := ⟨RX7, "larger", "(II)I"⟩
abbrev cX7_luck : ByteArray := prog_9_method_55_code
def yX7_luck : MethodName := ⟨RX7, "luck", "(III)I"⟩
abbrev cX7_image : ByteArray := prog_9_method_56_code
def yX7_image : MethodName := ⟨RX7, "image", "()I"⟩
abbrev cX7_restore : ByteArray := prog_9_method_57_code
def yX7_restore : MethodName := ⟨RX7, "restore", "()I"⟩
abbrev cX7_isSheet : ByteArray := prog_9_method_58_code
def yX7_isSheet : MethodName := ⟨RX7, "isSheet", "(I)Z"⟩
abbrev cX7_isLane : ByteArray := prog_9_method_59_code
def yX7_isLane : MethodName := ⟨RX7, "isLane", "(I)Z"⟩
abbrev cX7_why : ByteArray := prog_9_method_60_code
def yX7_why : MethodName := ⟨RX7, "why", "(IIII)I"⟩
abbrev cX7_left : ByteArray := prog_9_method_61_code
def yX7_left : MethodName := ⟨RX7, "left", "(IIIII)I"⟩
abbrev cX7_film : ByteArray := prog_9_method_62_code
def yX7_film : MethodName := ⟨RX7, "film", "(IIIII)I"⟩
abbrev cX7_sheet : ByteArray := prog_9_method_63_code
def yX7_sheet : MethodName := ⟨RX7, "sheet", "(III)I"⟩
abbrev cX7_drop : ByteArray := prog_9_method_64_code
def yX7_drop : MethodName := ⟨RX7, "drop", "(I)I"⟩
abbrev cX7_item : ByteArray := prog_9_method_65_code
def yX7_item : MethodName := ⟨RX7, "item", "(IIIJ)I"⟩
abbrev cX7_copy : ByteArray := prog_9_method_66_code
def yX7_copy : MethodName := ⟨RX7, "copy", "(IIIII)I"⟩
def RJ6 : String := "java/lang/Integer"
def TJ6 : u_T := fun k => match k with
  | _ => ("", "", "", false)
def tyJ6 : Nat → FieldType := fun k => match k with
  | _ => .int
abbrev wsJ60 : List Cond := u_ws RJ6 TJ6 0
theorem nmJ6 : ∀ a, a < 0 → ∀ b, b < 0 → a ≠ b → (TJ6 a).2.1 ≠ (TJ6 b).2.1 := by decide +kernel
theorem tyJ6_ok : ∀ k, k < 0 → parseFieldDescriptor (TJ6 k).2.2.1 = some (tyJ6 k) := by decide +kernel
abbrev cJ6_bitCount_0f7a4 : ByteArray := prog_10_method_49_code
def yJ6_bitCount_0f7a4 : MethodName := ⟨RJ6, "bitCount", "(I)I"⟩
def RJ9 : String := "java/lang/Math"
def TJ9 : u_T := fun k => match k with
  | _ => ("", "", "", false)
def tyJ9 : Nat → FieldType := fun k => match k with
  | _ => .int
abbrev wsJ90 : List Cond := u_ws RJ9 TJ9 0
theorem nmJ9 : ∀ a, a < 0 → ∀ b, b < 0 → a ≠ b → (TJ9 a).2.1 ≠ (TJ9 b).2.1 := by decide +kernel
theorem tyJ9_ok : ∀ k, k < 0 → parseFieldDescriptor (TJ9 k).2.2.1 = some (tyJ9 k) := by decide +kernel
abbrev cJ9_max_7cf53 : ByteArray := prog_11_method_65_code
def yJ9_max_7cf53 : MethodName := ⟨RJ9, "max", "(II)I"⟩
abbrev cJ9_min_7cf53 : ByteArray := prog_11_method_69_code
def yJ9_min_7cf53 : MethodName := ⟨RJ9, "min", "(II)I"⟩
def RJ10 : String := "java/lang/System"
def TJ10 : u_T := fun k => match k with
  | _ => ("", "", "", false)
def tyJ10 : Nat → FieldType := fun k => match k with
  | _ => .int
abbrev wsJ100 : List Cond := u_ws RJ10 TJ10 0
theorem nmJ10 : ∀ a, a < 0 → ∀ b, b < 0 → a ≠ b → (TJ10 a).2.1 ≠ (TJ10 b).2.1 := by decide +kernel
theorem tyJ10_ok : ∀ k, k < 0 → parseFieldDescriptor (TJ10 k).2.2.1 = some (tyJ10 k) := by decide +kernel
def RL : String := "OrchardLaddersLaw"
abbrev cL_law : ByteArray := code
def yL_law : MethodName := ⟨RL, "law", "([I)Z"⟩
abbrev vwCl : List vw_C := [(RX0, TX0, 4), (RX1, TX1, 2), (RX2, TX2, 7), (RX3, TX3, 10), (RX4, TX4, 3), (RX5, TX5, 4), (RX6, TX6, 10), (RX7, TX7, 17)]

def bigW : List Cond := lw_tbl.filter goodWord
theorem bigW_at {w : Cond} (i : Nat) (h : lw_tbl[i]? = some w) (hg : goodWord w = true) : w ∈ bigW := List.mem_filter.mpr ⟨List.mem_of_getElem? h, hg⟩
theorem bigW_of {ws : List Cond} (ps : List Nat) (hp : ws = ps.filterMap (fun i => lw_tbl[i]?)) (h : ws.all goodWord = true) : ∀ w ∈ ws, w ∈ bigW := by
  intro w hw
  have h1 := List.all_eq_true.mp h w hw
  rw [hp] at hw
  obtain ⟨i, -, hi⟩ := List.mem_filterMap.mp hw
  exact bigW_at i hi h1
abbrev MI : Type := MethodName × ByteArray × Nat × Option FieldType
def mJ6_bitCount_0f7a4 : MI := (yJ6_bitCount_0f7a4, cJ6_bitCount_0f7a4, 1, (some .int))
def mJ9_max_7cf53 : MI := (yJ9_max_7cf53, cJ9_max_7cf53, 2, (some .int))
def mJ9_min_7cf53 : MI := (yJ9_min_7cf53, cJ9_min_7cf53, 2, (some .int))
def mX0_init : MI := (yX0_init, cX0_init, 1, none)
def mX0_seek : MI := (yX0_seek, cX0_seek, 7, none)
def mX0_spread : MI := (yX0_spread, cX0_spread, 6, none)
def mX0_worthOf : MI := (yX0_worthOf, cX0_worthOf, 7, (some .int))
def mX1_become : MI := (yX1_become, cX1_become, 3, none)
def mX1_forgetOldest : MI := (yX1_forgetOldest, cX1_forgetOldest, 3, none)
def mX1_forgetUnlessFull : MI := (yX1_forgetUnlessFull, cX1_forgetUnlessFull, 2, none)
def mX1_init : MI := (yX1_init, cX1_init, 2, none)
def mX1_putBack : MI := (yX1_putBack, cX1_putBack, 2, (some .int))
def mX1_remember : MI := (yX1_remember, cX1_remember, 2, none)
def mX2_become : MI := (yX2_become, cX2_become, 2, none)
def mX2_init : MI := (yX2_init, cX2_init, 1, none)
def mX2_leanNowhere : MI := (yX2_leanNowhere, cX2_leanNowhere, 2, none)
def mX2_leaningAt : MI := (yX2_leaningAt, cX2_leaningAt, 4, (some .int))
def mX2_shakeOff : MI := (yX2_shakeOff, cX2_shakeOff, 3, (some .int))
def mX3_become : MI := (yX3_become, cX3_become, 2, none)
def mX3_becomeTreesAndLadders : MI := (yX3_becomeTreesAndLadders, cX3_becomeTreesAndLadders, 2, none)
def mX3_bring : MI := (yX3_bring, cX3_bring, 4, (some .int))
def mX3_clear : MI := (yX3_clear, cX3_clear, 1, none)
def mX3_fruitOfAll : MI := (yX3_fruitOfAll, cX3_fruitOfAll, 4, (some .int))
def mX3_gotAt : MI := (yX3_gotAt, cX3_gotAt, 5, (some .int))
def mX3_gotToday : MI := (yX3_gotToday, cX3_gotToday, 4, (some .int))
def mX3_gotWithGuest : MI := (yX3_gotWithGuest, cX3_gotWithGuest, 12, (some .int))
def mX3_gust : MI := (yX3_gust, cX3_gust, 2, none)
def mX3_hasLadder : MI := (yX3_hasLadder, cX3_hasLadder, 2, (some .boolean))
def mX3_hasTree : MI := (yX3_hasTree, cX3_hasTree, 2, (some .boolean))
def mX3_init : MI := (yX3_init, cX3_init, 1, none)
def mX3_leaningAnywhere : MI := (yX3_leaningAnywhere, cX3_leaningAnywhere, 3, (some .int))
def mX3_leftBehind : MI := (yX3_leftBehind, cX3_leftBehind, 6, (some .int))
def mX3_pass : MI := (yX3_pass, cX3_pass, 5, none)
def mX3_plant : MI := (yX3_plant, cX3_plant, 4, (some .int))
def mX3_reach : MI := (yX3_reach, cX3_reach, 3, (some .int))
def mX3_reaching : MI := (yX3_reaching, cX3_reaching, 6, (some .int))
def mX3_stung : MI := (yX3_stung, cX3_stung, 4, (some .int))
def mX3_takeOver : MI := (yX3_takeOver, cX3_takeOver, 3, none)
def mX3_taken : MI := (yX3_taken, cX3_taken, 6, (some .int))
def mX3_treesInReach : MI := (yX3_treesInReach, cX3_treesInReach, 6, (some .int))
def mX4_begin : MI := (yX4_begin, cX4_begin, 4, none)
def mX4_find : MI := (yX4_find, cX4_find, 4, (some .int))
def mX4_holds : MI := (yX4_holds, cX4_holds, 3, (some .boolean))
def mX4_init : MI := (yX4_init, cX4_init, 1, none)
def mX4_put : MI := (yX4_put, cX4_put, 4, none)
def mX5_append : MI := (yX5_append, cX5_append, 2, (some .int))
def mX5_demand : MI := (yX5_demand, cX5_demand, 2, none)
def mX5_digit : MI := (yX5_digit, cX5_digit, 4, (some .int))
def mX5_fail : MI := (yX5_fail, cX5_fail, 2, none)
def mX5_init : MI := (yX5_init, cX5_init, 1, none)
def mX5_isDigit : MI := (yX5_isDigit, cX5_isDigit, 1, (some .boolean))
def mX5_kindLetter : MI := (yX5_kindLetter, cX5_kindLetter, 1, (some .int))
def mX5_next : MI := (yX5_next, cX5_next, 1, (some .int))
def mX5_number : MI := (yX5_number, cX5_number, 5, (some .int))
def mX5_passes : MI := (yX5_passes, cX5_passes, 2, (some .boolean))
def mX5_read : MI := (yX5_read, cX5_read, 2, (some .int))
def mX5_readLadders : MI := (yX5_readLadders, cX5_readLadders, 9, none)
def mX5_readTrees : MI := (yX5_readTrees, cX5_readTrees, 7, none)
def mX6_ahead : MI := (yX6_ahead, cX6_ahead, 4, (some .int))
def mX6_at : MI := (yX6_at, cX6_at, 3, (some .int))
def mX6_commonDivisor : MI := (yX6_commonDivisor, cX6_commonDivisor, 6, (some .int))
def mX6_copy : MI := (yX6_copy, cX6_copy, 8, (some .int))
def mX6_count : MI := (yX6_count, cX6_count, 2, (some .int))
def mX6_days : MI := (yX6_days, cX6_days, 4, (some .int))
def mX6_drift : MI := (yX6_drift, cX6_drift, 4, (some .int))
def mX6_drop : MI := (yX6_drop, cX6_drop, 2, (some .int))
def mX6_film : MI := (yX6_film, cX6_film, 10, (some .int))
def mX6_fruit : MI := (yX6_fruit, cX6_fruit, 6, (some .int))
def mX6_gathered : MI := (yX6_gathered, cX6_gathered, 2, (some .int))
def mX6_image : MI := (yX6_image, cX6_image, 1, (some .int))
def mX6_init : MI := (yX6_init, cX6_init, 2, none)
def mX6_isLane : MI := (yX6_isLane, cX6_isLane, 1, (some .boolean))
def mX6_isSheet : MI := (yX6_isSheet, cX6_isSheet, 1, (some .boolean))
def mX6_item : MI := (yX6_item, cX6_item, 7, (some .int))
def mX6_ladder : MI := (yX6_ladder, cX6_ladder, 5, (some .int))
def mX6_larger : MI := (yX6_larger, cX6_larger, 6, (some .int))
def mX6_lean : MI := (yX6_lean, cX6_lean, 4, (some .int))
def mX6_leavesSo : MI := (yX6_leavesSo, cX6_leavesSo, 8, (some .boolean))
def mX6_left : MI := (yX6_left, cX6_left, 9, (some .int))
def mX6_longer : MI := (yX6_longer, cX6_longer, 6, (some .int))
def mX6_luck : MI := (yX6_luck, cX6_luck, 9, (some .int))
def mX6_of : MI := (yX6_of, cX6_of, 3, (some .int))
def mX6_orchard : MI := (yX6_orchard, cX6_orchard, 2, (some .int))
def mX6_plan : MI := (yX6_plan, cX6_plan, 5, (some .int))
def mX6_reachOfDewy : MI := (yX6_reachOfDewy, cX6_reachOfDewy, 2, (some .int))
def mX6_reachOfKind : MI := (yX6_reachOfKind, cX6_reachOfKind, 3, (some .int))
def mX6_reachOfTied : MI := (yX6_reachOfTied, cX6_reachOfTied, 1, (some .int))
def mX6_reached : MI := (yX6_reached, cX6_reached, 3, (some .int))
def mX6_restore : MI := (yX6_restore, cX6_restore, 1, (some .int))
def mX6_round : MI := (yX6_round, cX6_round, 7, (some .int))
def mX6_rule : MI := (yX6_rule, cX6_rule, 4, (some .int))
def mX6_seed : MI := (yX6_seed, cX6_seed, 3, (some .int))
def mX6_shake : MI := (yX6_shake, cX6_shake, 2, (some .int))
def mX6_sheet : MI := (yX6_sheet, cX6_sheet, 4, (some .int))
def mX6_tree : MI := (yX6_tree, cX6_tree, 5, (some .int))
def mX6_type : MI := (yX6_type, cX6_type, 2, (some .int))
def mX6_undo : MI := (yX6_undo, cX6_undo, 1, (some .int))
def mX6_waysToBe : MI := (yX6_waysToBe, cX6_waysToBe, 5, (some .int))
def mX6_within : MI := (yX6_within, cX6_within, 3, (some .boolean))
def mX7_ahead : MI := (yX7_ahead, cX7_ahead, 4, (some .int))
def mX7_allFruit : MI := (yX7_allFruit, cX7_allFruit, 3, (some .int))
def mX7_asides : MI := (yX7_asides, cX7_asides, 2, none)
def mX7_at : MI := (yX7_at, cX7_at, 5, (some .int))
def mX7_backs : MI := (yX7_backs, cX7_backs, 2, none)
def mX7_copy : MI := (yX7_copy, cX7_copy, 8, (some .int))
def mX7_count : MI := (yX7_count, cX7_count, 2, (some .int))
def mX7_days : MI := (yX7_days, cX7_days, 4, (some .int))
def mX7_digit : MI := (yX7_digit, cX7_digit, 4, (some .int))
def mX7_drift : MI := (yX7_drift, cX7_drift, 5, (some .int))
def mX7_drop : MI := (yX7_drop, cX7_drop, 2, (some .int))
def mX7_film : MI := (yX7_film, cX7_film, 8, (some .int))
def mX7_fruit : MI := (yX7_fruit, cX7_fruit, 4, (some .int))
def mX7_gathered : MI := (yX7_gathered, cX7_gathered, 2, (some .int))
def mX7_goesBy : MI := (yX7_goesBy, cX7_goesBy, 5, none)
def mX7_goesOn : MI := (yX7_goesOn, cX7_goesOn, 3, none)
def mX7_here : MI := (yX7_here, cX7_here, 1, (some .int))
def mX7_image : MI := (yX7_image, cX7_image, 2, (some .int))
def mX7_in : MI := (yX7_in, cX7_in, 6, (some .boolean))
def mX7_init : MI := (yX7_init, cX7_init, 2, none)
def mX7_isLadder : MI := (yX7_isLadder, cX7_isLadder, 2, (some .boolean))
def mX7_isLane : MI := (yX7_isLane, cX7_isLane, 1, (some .boolean))
def mX7_isReached : MI := (yX7_isReached, cX7_isReached, 4, (some .boolean))
def mX7_isRipe : MI := (yX7_isRipe, cX7_isRipe, 2, (some .boolean))
def mX7_isSheet : MI := (yX7_isSheet, cX7_isSheet, 1, (some .boolean))
def mX7_isTree : MI := (yX7_isTree, cX7_isTree, 2, (some .boolean))
def mX7_item : MI := (yX7_item, cX7_item, 7, (some .int))
def mX7_ladder : MI := (yX7_ladder, cX7_ladder, 4, (some .int))
def mX7_ladderComes : MI := (yX7_ladderComes, cX7_ladderComes, 6, none)
def mX7_larger : MI := (yX7_larger, cX7_larger, 5, (some .int))
def mX7_lean : MI := (yX7_lean, cX7_lean, 4, (some .int))
def mX7_leaners : MI := (yX7_leaners, cX7_leaners, 4, (some .int))
def mX7_leansAt : MI := (yX7_leansAt, cX7_leansAt, 2, (some .int))
def mX7_left : MI := (yX7_left, cX7_left, 11, (some .int))
def mX7_less : MI := (yX7_less, cX7_less, 2, (some .int))
def mX7_longer : MI := (yX7_longer, cX7_longer, 5, (some .int))
def mX7_luck : MI := (yX7_luck, cX7_luck, 11, (some .int))
def mX7_must : MI := (yX7_must, cX7_must, 2, none)
def mX7_notes : MI := (yX7_notes, cX7_notes, 3, none)
def mX7_number : MI := (yX7_number, cX7_number, 6, (some .int))
def mX7_of : MI := (yX7_of, cX7_of, 3, (some .int))
def mX7_ofLadder : MI := (yX7_ofLadder, cX7_ofLadder, 3, (some .int))
def mX7_ofTree : MI := (yX7_ofTree, cX7_ofTree, 3, (some .int))
def mX7_orchard : MI := (yX7_orchard, cX7_orchard, 4, (some .int))
def mX7_plan : MI := (yX7_plan, cX7_plan, 9, (some .int))
def mX7_power : MI := (yX7_power, cX7_power, 4, (some .int))
def mX7_reached : MI := (yX7_reached, cX7_reached, 3, (some .int))
def mX7_reachers : MI := (yX7_reachers, cX7_reachers, 6, (some .int))
def mX7_reaches : MI := (yX7_reaches, cX7_reaches, 4, (some .int))
def mX7_readLadders : MI := (yX7_readLadders, cX7_readLadders, 8, (some .int))
def mX7_readTrees : MI := (yX7_readTrees, cX7_readTrees, 5, (some .int))
def mX7_restore : MI := (yX7_restore, cX7_restore, 2, (some .int))
def mX7_round : MI := (yX7_round, cX7_round, 10, (some .int))
def mX7_rule : MI := (yX7_rule, cX7_rule, 4, (some .int))
def mX7_seed : MI := (yX7_seed, cX7_seed, 3, (some .int))
def mX7_shake : MI := (yX7_shake, cX7_shake, 2, (some .int))
def mX7_shakes : MI := (yX7_shakes, cX7_shakes, 3, (some .int))
def mX7_sheet : MI := (yX7_sheet, cX7_sheet, 5, (some .int))
def mX7_sign : MI := (yX7_sign, cX7_sign, 2, none)
def mX7_takes : MI := (yX7_takes, cX7_takes, 3, none)
def mX7_tree : MI := (yX7_tree, cX7_tree, 4, (some .int))
def mX7_treeComes : MI := (yX7_treeComes, cX7_treeComes, 5, none)
def mX7_type : MI := (yX7_type, cX7_type, 2, (some .int))
def mX7_undo : MI := (yX7_undo, cX7_undo, 3, (some .int))
def mX7_why : MI := (yX7_why, cX7_why, 5, (some .int))
def mL_law : MI := (yL_law, cL_law, maxLocals, ret)
theorem xw0 : ∀ w ∈ u_ws RX0 TX0 4, w ∈ bigW := bigW_of [198, 200, 202, 204] (by decide +kernel) (by decide +kernel)
theorem xw1 : ∀ w ∈ u_ws RX1 TX1 2, w ∈ bigW := bigW_of [157, 159] (by decide +kernel) (by decide +kernel)
theorem xw2 : ∀ w ∈ u_ws RX2 TX2 7, w ∈ bigW := bigW_of [86, 88, 90, 92, 94, 96, 98] (by decide +kernel) (by decide +kernel)
theorem xw3 : ∀ w ∈ u_ws RX3 TX3 10, w ∈ bigW := bigW_of [124, 126, 128, 130, 132, 134, 136, 138, 140, 142] (by decide +kernel) (by decide +kernel)
theorem xw4 : ∀ w ∈ u_ws RX4 TX4 3, w ∈ bigW := bigW_of [220, 222, 224] (by decide +kernel) (by decide +kernel)
theorem xw5 : ∀ w ∈ u_ws RX5 TX5 4, w ∈ bigW := bigW_of [173, 175, 177, 179] (by decide +kernel) (by decide +kernel)
theorem xw6 : ∀ w ∈ u_ws RX6 TX6 10, w ∈ bigW := bigW_of [238, 240, 242, 244, 246, 248, 250, 252, 254, 256] (by decide +kernel) (by decide +kernel)
theorem xw7 : ∀ w ∈ u_ws RX7 TX7 17, w ∈ bigW := bigW_of [659, 661, 663, 665, 667, 669, 671, 673, 675, 677, 679, 681, 683, 685, 687, 689, 691] (by decide +kernel) (by decide +kernel)
def nestL : List (String × Nat × MethodName × String) := [("OrchardLadders", 9, yX3_init, "OrchardLadders"), ("OrchardLadders", 31, yX5_init, "OrchardLadders"), ("OrchardLadders", 48, yX0_init, "OrchardLadders"), ("OrchardLadders", 59, yX4_init, "OrchardLadders"), ("OrchardLadders$Orchard", 73, yX6_reachOfKind, "OrchardLadders"), ("OrchardLadders$Tape", 87, yX6_within, "OrchardLadders")]
theorem nestL_in : ∀ q ∈ nestL, Cond.methodLinkNest q.1 q.2.1 q.2.2.1 q.2.2.2 ∈ lw_tbl := by
  intro q hq
  simp only [nestL, List.mem_cons, List.not_mem_nil, or_false] at hq
  rcases hq with rfl | rfl | rfl | rfl | rfl | rfl
  · exact List.mem_of_getElem? (i := 50) (by decide +kernel)
  · exact List.mem_of_getElem? (i := 164) (by decide +kernel)
  · exact List.mem_of_getElem? (i := 187) (by decide +kernel)
  · exact List.mem_of_getElem? (i := 210) (by decide +kernel)
  · exact List.mem_of_getElem? (i := 298) (by decide +kernel)
  · exact List.mem_of_getElem? (i := 367) (by decide +kernel)
end
section
/-! ===== X: a walk over a PICTURE of the heap. Cells have numbers 0, 1, 2 .. in the order in which they were made; cell i lies at address B + i (the script, number 1000000, at b).
A method is walked over the picture alone (X, one row an instruction), its contract is MetX; what the kit wants (words, world, frame) is paid once, here. ===== -/
abbrev XC : Type := (FieldType × vp_A) ⊕ (Nat × List Value)
abbrev XH : Type := Nat → Option XC
def xphi (B b i : Nat) : Nat := if i = 1000000 then b else B + i
def xv (B b : Nat) (v : Value) : Value := match v with
  | .ref a => .ref (xphi B b a)
  | w => w
def xa (B b : Nat) (x : vp_A) : vp_A := match x with
  | (n, .inr (.inr (.inr (.inr f)))) => (n, .inr (.inr (.inr (.inr (fun j => (f j).map (xphi B b))))))
  | y => y
def xe (B b : Nat) (dA : FieldType → ClassId) (c : XC) : va_E := match c with
  | .inl (ty, x) => .inl (dA ty, xa B b x)
  | .inr (ci, fs) => .inr (ci, fs.map (xv B b))
def xup (h : XH) (a : Nat) (c : XC) : XH := fun i => if i = a then some c else h i
theorem xup_eq (h : XH) (a : Nat) (c : XC) : xup h a c a = some c := if_pos rfl
theorem xup_ne (h : XH) {a i : Nat} (c : XC) (hi : i ≠ a) : xup h a c i = h i := if_neg hi
theorem xv_cat (B b : Nat) (v : Value) : (xv B b v).category = v.category := by cases v <;> rfl
def XDom (h : XH) (N : Nat) : Prop := ∀ i, (h i).isSome = true ↔ i < N
def XRel (B b : Nat) (D : va_G) (dA : FieldType → ClassId) (h : XH) (H : Heap) : Prop :=
  ∃ N, N ≤ 1000000 ∧ XDom h N ∧ H.size = B + N ∧ ∀ i c, h i = some c → va_at D vwCl (B + i, xe B b dA c) H
theorem XDom.lt {h : XH} {N i : Nat} {c : XC} (hd : XDom h N) (hi : h i = some c) : i < N := (hd i).mp (by rw [hi]; rfl)
theorem XDom.uniq {h : XH} {N M : Nat} (h1 : XDom h N) (h2 : XDom h M) : N = M := by
  have a : ∀ i, i < N ↔ i < M := fun i => (h1 i).symm.trans (h2 i)
  have b1 := a N
  have b2 := a M
  omega
theorem XDom.put {h : XH} {N a : Nat} {c0 c : XC} (hd : XDom h N) (ha : h a = some c0) : XDom (xup h a c) N := by
  intro i
  by_cases hi : i = a
  · subst hi
    rw [xup_eq]
    exact ⟨fun _ => hd.lt ha, fun _ => rfl⟩
  · rw [xup_ne _ _ hi]
    exact hd i
theorem XDom.push {h : XH} {N : Nat} {c : XC} (hd : XDom h N) : XDom (xup h N c) (N + 1) := by
  intro i
  by_cases hi : i = N
  · subst hi
    rw [xup_eq]
    exact ⟨fun _ => Nat.lt_succ_self _, fun _ => rfl⟩
  · rw [xup_ne _ _ hi, hd i]
    omega
theorem xphi_lt {B b i : Nat} (h : i < 1000000) : xphi B b i = B + i := if_neg (by omega)
theorem XRel.phi {B b : Nat} {D : va_G} {dA : FieldType → ClassId} {h : XH} {H : Heap} (hR : XRel B b D dA h H) {i : Nat} {c : XC} (hi : h i = some c) : xphi B b i = B + i := by
  obtain ⟨N, h1, h2, -, -⟩ := hR
  exact xphi_lt (Nat.lt_of_lt_of_le (h2.lt hi) h1)
theorem XRel.at {B b : Nat} {D : va_G} {dA : FieldType → ClassId} {h : XH} {H : Heap} (hR : XRel B b D dA h H) {i : Nat} {c : XC} (hi : h i = some c) : va_at D vwCl (xphi B b i, xe B b dA c) H := by
  rw [hR.phi hi]
  obtain ⟨N, -, -, -, h4⟩ := hR
  exact h4 i c hi
theorem XRel.put {B b : Nat} {D : va_G} {dA : FieldType → ClassId} {h : XH} {H H1 : Heap} (hR : XRel B b D dA h H) {a : Nat} {c0 c : XC} (ha : h a = some c0) (z : H1.size = H.size) (he : va_at D vwCl (xphi B b a, xe B b dA c) H1) (oq : ∀ q : Nat, q ≠ xphi B b a → H1[q]? = H[q]?) : XRel B b D dA (xup h a c) H1 := by
  rw [hR.phi ha] at he oq
  obtain ⟨N, h1, h2, h3, h4⟩ := hR
  refine ⟨N, h1, h2.put ha, z.trans h3, fun i x hx => ?_⟩
  by_cases hi : i = a
  · subst hi
    rw [xup_eq] at hx
    cases hx
    exact he
  · rw [xup_ne _ _ hi] at hx
    exact (h4 i x hx).kept (oq (B + i) (by omega))
theorem XRel.push {B b : Nat} {D : va_G} {dA : FieldType → ClassId} {h : XH} {H H1 : Heap} {N : Nat} (hR : XRel B b D dA h H) (hN : XDom h N) (hlt : N < 1000000) {c : XC} (z : H1.size = H.size + 1) (he : va_at D vwCl (H.size, xe B b dA c) H1) (oq : ∀ q : Nat, q < H.size → H1[q]? = H[q]?) : XRel B b D dA (xup h N c) H1 ∧ H.size = xphi B b N := by
  obtain ⟨M, h1, h2, h3, h4⟩ := hR
  have e : M = N := h2.uniq hN
  subst e
  refine ⟨⟨M + 1, hlt, h2.push, by omega, fun i x hx => ?_⟩, by rw [xphi_lt hlt]; exact h3⟩
  by_cases hi : i = M
  · subst hi
    rw [xup_eq] at hx
    cases hx
    rw [← h3]
    exact he
  · rw [xup_ne _ _ hi] at hx
    have := h2.lt hx
    exact (h4 i x hx).kept (oq (B + i) (by omega))
def xtys (dA : FieldType → ClassId) : List (ClassId × FieldType) := [(dA .int, .int), (dA .long, .long), (dA .char, .char), (dA (.object RX2), .object RX2), (dA (.object RX4), .object RX4)]
def XWorld (D : va_G) (dA : FieldType → ClassId) (U : State) : Prop := va_K D vwCl (xtys dA) U ∧ (∀ q ∈ nestL, va_Nw (.methodLinkNest q.1 q.2.1 q.2.2.1 q.2.2.2) U) ∧ va_AO RX2 U ∧ va_AO RX4 U
theorem XWorld.warm {D : va_G} {dA : FieldType → ClassId} {s U : State} (hW : s.WarmedH U.vm) (h : XWorld D dA s) : XWorld D dA U :=
  ⟨va_K.moved hW.alike h.1, fun q hq => va_Nw.warmM hW (h.2.1 q hq), h.2.2.1.moved hW.alike, h.2.2.2.moved hW.alike⟩
theorem XWorld.same {D : va_G} {dA : FieldType → ClassId} {s U : State} (e : s.vm = U.vm) (h : XWorld D dA s) : XWorld D dA U :=
  ⟨va_K.moved (by rw [e]; exact Vm.Alike.refl _) h.1, fun q hq => va_Nw.same rfl e (h.2.1 q hq), h.2.2.1.moved (by rw [e]; exact Vm.Alike.refl _), h.2.2.2.moved (by rw [e]; exact Vm.Alike.refl _)⟩
/-- the locals -/
def xlv (B b nL : Nat) (L : List (Option Value)) (ls : Array Slot) : Prop := ls.size = nL ∧ lv_wf ls ∧ ∀ (i : Nat) (v : Value), L[i]? = some (some v) → ls[i]? = some (.val (xv B b v))
def xsl (v : Value) : List (Option Value) := if v.category = 2 then [some v, none] else [some v]
def xargs (av : List Value) : List (Option Value) := av.flatMap xsl
def xlocs (n : Nat) (av : List Value) : List (Option Value) := xargs av ++ List.replicate (n - (xargs av).length) none
theorem xargs_in (B b : Nat) : ∀ (av : List Value) (k i : Nat) (v : Value), (xargs av)[i]? = some (some v) → (k + i, xv B b v) ∈ lv_args k (av.map (xv B b))
  | [], k, i, v, h => by simp [xargs] at h
  | w :: av, k, i, v, h => by
    have e : xargs (w :: av) = xsl w ++ xargs av := by simp [xargs]
    rw [e] at h
    rw [List.map_cons]
    by_cases hc : w.category = 2
    · have hs : xsl w = [some w, none] := by simp [xsl, hc]
      rw [hs] at h
      simp only [lv_args, xv_cat, hc, if_true]
      match i, h with
      | 0, h =>
        simp at h
        subst h
        exact List.mem_cons_self
      | 1, h => simp at h
      | i + 2, h =>
        have h2 : (xargs av)[i]? = some (some v) := by simpa using h
        have := xargs_in B b av (k + 2) i v h2
        rw [show k + (i + 2) = k + 2 + i by omega]
        exact List.mem_cons_of_mem _ this
    · have hs : xsl w = [some w] := by simp [xsl, hc]
      rw [hs] at h
      simp only [lv_args, xv_cat, hc, if_false]
      match i, h with
      | 0, h =>
        simp at h
        subst h
        exact List.mem_cons_self
      | i + 1, h =>
        have h2 : (xargs av)[i]? = some (some v) := by simpa using h
        have := xargs_in B b av (k + 1) i v h2
        rw [show k + (i + 1) = k + 1 + i by omega]
        exact List.mem_cons_of_mem _ this
theorem xlocs_in (B b n : Nat) (av : List Value) (i : Nat) (v : Value) (h : (xlocs n av)[i]? = some (some v)) : (i, xv B b v) ∈ lv_args 0 (av.map (xv B b)) := by
  unfold xlocs at h
  by_cases hi : i < (xargs av).length
  · rw [List.getElem?_append_left hi] at h
    have := xargs_in B b av 0 i v h
    rwa [Nat.zero_add] at this
  · rw [List.getElem?_append_right (by omega)] at h
    have := List.eq_of_mem_replicate (List.mem_of_getElem? h)
    cases this
theorem xsl_len (B b : Nat) (av : List Value) : (lg_sl (av.map (xv B b))).length = (xargs av).length := by
  induction av with
  | nil => rfl
  | cons v av ih =>
    have e : xargs (v :: av) = xsl v ++ xargs av := by simp [xargs]
    rw [e, List.length_append, ← ih]
    simp only [lg_sl, List.map_cons, List.flatMap_cons, List.length_append]
    congr 1
    cases v <;> rfl
/-- what holds all through a method's body -/
def XCtx (Γ : State → Nat → Nat → Prop) (μ : MI) (p : Program) (s : State) (m : MethodId) (args : Array Value) (meth : Method) (c : Code) (B b : Nat) (D : va_G) (dA : FieldType → ClassId) : Prop :=
  p.tables.exec = Jvm.exec ∧ c.code = μ.2.1 ∧ c.maxLocals = μ.2.2.1 ∧ meth.sig.returnType = μ.2.2.2 ∧ meth.locks = false ∧ s.vm.findClass μ.1.cls = some m.cls ∧ (∀ w ∈ bigW, w.before args s = true) ∧ XWorld D dA s ∧ B ≤ s.heap.size ∧ meth.name = μ.1.name ∧ Γ s B b
def xT : State → Nat → Nat → Prop := fun _ _ _ => True
/-- a return instruction at pc, with this answer -/
def XRet (μ : MI) (pc : Nat) (v : Option Value) : Prop := (v = none ∧ μ.2.2.2 = none ∧ decode μ.2.1 pc = .ok (.return_, 1)) ∨ ∃ (x : Int32) (ty : FieldType), v = some (.int x) ∧ μ.2.2.2 = some ty ∧ narrow ty (.int x) = .int x ∧ decode μ.2.1 pc = .ok (.ireturn, 1)
/-- from the picture h, at pc, with locals L and operand stack S, the method comes to its end with Q -/
def X (Γ : State → Nat → Nat → Prop) (μ : MI) (R : Room) (κ : Nat × Nat) (pc : Nat) (L : List (Option Value)) (S : List Value) (h : XH) (Q : Option Value → XH → Prop) : Prop :=
  ∀ (p : Program) (l : Launch) (e : Env) (s : State) (m : MethodId) (args : Array Value) (below : List Frame) (meth : Method) (c : Code) (B b : Nat) (D : va_G) (dA : FieldType → ClassId), XCtx Γ μ p s m args meth c B b D dA →
  ∀ (Z : State → Prop), (∀ (v : Option Value) (h' : XH) (H : Heap) (locs : List Loc) (ls : Array Slot) (pc : Nat), Q v h' → XRel B b D dA h' H → va_S (fun q => B ≤ q) s.heap H locs → XRet μ pc v → W p l e R s m args below meth c H locs R.cells R.slots Z (F0 m pc ls ((v.toList).map (xv B b)))) →
  κ.1 ≤ R.cells ∧ κ.2 ≤ R.slots →
  ∀ (H : Heap) (locs : List Loc) (ls : Array Slot), XRel B b D dA h H → va_S (fun q => B ≤ q) s.heap H locs → xlv B b μ.2.2.1 L ls → W p l e R s m args below meth c H locs κ.1 κ.2 Z (F0 m pc ls (S.map (xv B b)))
def xR (ρ : Nat × Nat × Nat) : Room := { frames := ρ.1, cells := ρ.2.1, slots := ρ.2.2, locals := 39 * ρ.1 }
def xws (μ : MI) : List Cond := .code μ.1 μ.2.1 μ.2.2.1 μ.2.2.2 :: bigW
def XPre (B b : Nat) (D : va_G) (dA : FieldType → ClassId) (av : List Value) (h : XH) : Array Value → State → Prop := fun v U => v = (av.map (xv B b)).toArray ∧ B ≤ U.heap.size ∧ XRel B b D dA h U.heap ∧ XWorld D dA U
def XPost (B b : Nat) (D : va_G) (dA : FieldType → ClassId) (Q : Option Value → XH → Prop) : Array Value → State → Outcome → State → Prop := fun _ st o t => (∃ (v : Option Value) (h' : XH), o = .returned (v.map (xv B b)) ∧ Q v h' ∧ XRel B b D dA h' t.heap) ∧ va_F (fun q => B ≤ q) st t
/-- the contract: from the picture h, with the arguments av, the method returns with Q -/
def MetX (μ : MI) (ρ : Nat × Nat × Nat) (av : List Value) (h : XH) (Q : Option Value → XH → Prop) : Prop :=
  ∀ (l : Launch) (B b : Nat) (D : va_G) (dA : FieldType → ClassId), Met l μ.1 (xws μ) (xR ρ) (XPre B b D dA av h) (XPost B b D dA Q) ρ.2.1 ρ.2.2 (fun q => B ≤ q)
theorem XPre.blind {B b : Nat} {D : va_G} {dA : FieldType → ClassId} {av : List Value} {h : XH} : FrameBlind (XPre B b D dA av h) := by
  intro a U g mk q
  obtain ⟨q1, q2, q3, q4⟩ := q
  exact ⟨q1, q2, q3, q4.same rfl⟩
set_option maxHeartbeats 1000000 in
theorem MetX.of {μ : MI} {ρ : Nat × Nat × Nat} {av : List Value} {h : XH} {Q : Option Value → XH → Prop} {L : List (Option Value)} (hp : plainName μ.1.cls = true) (hl : xlocs μ.2.2.1 av = L) (hn : (xargs av).length ≤ μ.2.2.1) (k : X xT μ (xR ρ) (0, 0) 0 L [] h Q) : MetX μ ρ av h Q := by
  intro l B b D dA
  refine Met.ofW (cc := μ.2.1) (maxL := μ.2.2.1) (ret := μ.2.2.2) hp rfl ?_
  intro p e s m args below meth c s₁ Bd hml hv
  obtain ⟨rfl, hB, hR, hw⟩ := hv
  have hts := atoms_spec (ws := xws μ) Bd.pre
  have hown : s.vm.findClass μ.1.cls = some m.cls := findClass_of_methodNamed Bd.named
  have hlocks := Bd.notSynchronized
  have hret : meth.sig.returnType = μ.2.2.2 := Bd.returns
  have hlv := lv_entry (av.map (xv B b)) (n := μ.2.2.1) (by rw [xsl_len]; exact hn)
  rw [lg_entry_eq]
  generalize (lg_sl (av.map (xv B b)) ++ List.replicate (μ.2.2.1 - (lg_sl (av.map (xv B b))).length) Slot.unset).toArray = ls at hlv ⊢
  refine k p l e s m (av.map (xv B b)).toArray below meth c B b D dA ⟨Bd.exec, Bd.bytes, hml, hret, hlocks, hown, fun w hw => hts w (List.mem_cons_of_mem _ hw), hw, hB, (name_of_methodNamed Bd.named Bd.method).1, trivial⟩ _ ?_ ⟨Nat.zero_le _, Nat.zero_le _⟩ s.heap [] ls hR va_S.rf ?_
  · intro v h' H locs ls' pc hq hR' hS hret'
    rcases hret' with ⟨rfl, h1, h2⟩ | ⟨x, ty, rfl, h1, h2, h3⟩
    · exact W.vret (Qc := XPost B b D dA Q) (free := fun q => B ≤ q) Bd.exec Bd.bytes (hret.trans h1) (fun t ht hW => ⟨⟨none, h', rfl, hq, by rw [ht]; exact hR'⟩, hS.F ht⟩) hS.2.2 h2 hlocks
    · exact W.zret (Qc := XPost B b D dA Q) (free := fun q => B ≤ q) Bd.exec Bd.bytes (hret.trans h1) h2 (fun t ht hW => ⟨⟨some (.int x), h', rfl, hq, by rw [ht]; exact hR'⟩, hS.F ht⟩) hS.2.2 h3 hlocks
  · refine ⟨hlv.1, hlv.2.1, fun i v hv => ?_⟩
    exact hlv.2.2 (i, xv B b v) (xlocs_in B b μ.2.2.1 av i v (by rw [hl]; exact hv))
/-! the instructions of a frame alone -/
abbrev D1 (μ : MI) (pc : Nat) (i : Instr) (n pc' : Nat) : Prop := decode μ.2.1 pc = .ok (i, n) ∧ pc + n = pc'
section XI
variable {Γ : State → Nat → Nat → Prop} {μ : MI} {R : Room} {κ : Nat × Nat} {pc pc' tgt : Nat} {L L' : List (Option Value)} {S S' : List Value} {h : XH} {Q : Option Value → XH → Prop}
theorem X.frame (st : ∀ {p : Program} {l : Launch} {e : Env} {s : State} {m : MethodId} {args : Array Value} {below : List Frame} {meth : Method} {c : Code} {H : Heap} {locs : List Loc} {cells slots : Nat} {Z : State → Prop} {B b : Nat} {ls : Array Slot} {D : va_G} {dA : FieldType → ClassId}, XCtx Γ μ p s m args meth c B b D dA → xlv B b μ.2.2.1 L ls → (∀ ls' : Array Slot, xlv B b μ.2.2.1 L' ls' → W p l e R s m args below meth c H locs cells slots Z (F0 m pc' ls' (S'.map (xv B b)))) → W p l e R s m args below meth c H locs cells slots Z (F0 m pc ls (S.map (xv B b)))) (k : X Γ μ R κ pc' L' S' h Q) : X Γ μ R κ pc L S h Q := by
  intro p l e s m args below meth c B b D dA C Z E hκ H locs ls hR hS hl
  exact st C hl (fun ls' hl' => k p l e s m args below meth c B b D dA C Z E hκ H locs ls' hR hS hl')
def DPushI (μ : MI) (pc : Nat) (v : Int32) (pc' : Nat) : Prop := (∃ n : Int, decode μ.2.1 pc = .ok (.iconst n, 1) ∧ Int32.ofInt n = v ∧ pc + 1 = pc') ∨ (∃ n : Int, decode μ.2.1 pc = .ok (.bipush n, 2) ∧ (Int8.ofInt n).toInt32 = v ∧ pc + 2 = pc') ∨ (∃ n : Int, decode μ.2.1 pc = .ok (.sipush n, 3) ∧ (Int16.ofInt n).toInt32 = v ∧ pc + 3 = pc') ∨ (∃ n : Nat, decode μ.2.1 pc = .ok (.ldc n, 2) ∧ Cond.constant μ.1.cls n v ∈ bigW ∧ pc + 2 = pc') ∨ (∃ n : Nat, decode μ.2.1 pc = .ok (.ldc_w n, 3) ∧ Cond.constant μ.1.cls n v ∈ bigW ∧ pc + 3 = pc')
theorem X.pushi {v : Int32} (I : DPushI μ pc v pc') (k : X Γ μ R κ pc' L (.int v :: S) h Q) : X Γ μ R κ pc L S h Q := by
  refine X.frame (fun {p l e s m args below meth c H locs cells slots Z B b ls D dA} C hl kk => ?_) k
  rcases I with ⟨n, h1, h2, rfl⟩ | ⟨n, h1, h2, rfl⟩ | ⟨n, h1, h2, rfl⟩ | ⟨n, h1, h2, rfl⟩ | ⟨n, h1, h2, rfl⟩
  · exact lv_iconst C.1 C.2.1 h1 h2 (kk ls hl)
  · exact lv_bipush C.1 C.2.1 h1 h2 (kk ls hl)
  · exact lv_sipush C.1 C.2.1 h1 h2 (kk ls hl)
  · exact lv_ldc C.1 C.2.1 C.2.2.2.2.2.1 (C.2.2.2.2.2.2.1 _ h2) h1 (kk ls hl)
  · exact lv_ldcw C.1 C.2.1 C.2.2.2.2.2.1 (C.2.2.2.2.2.2.1 _ h2) h1 (kk ls hl)
def DPushL (μ : MI) (pc : Nat) (v : Int64) (pc' : Nat) : Prop := (∃ n : Fin 2, decode μ.2.1 pc = .ok (.lconst n, 1) ∧ Int64.ofNat (n : Nat) = v ∧ pc + 1 = pc') ∨ (∃ n : Nat, decode μ.2.1 pc = .ok (.ldc2_w n, 3) ∧ Cond.constantLong μ.1.cls n v ∈ bigW ∧ pc + 3 = pc')
theorem X.pushl {v : Int64} (I : DPushL μ pc v pc') (k : X Γ μ R κ pc' L (.long v :: S) h Q) : X Γ μ R κ pc L S h Q := by
  refine X.frame (fun {p l e s m args below meth c H locs cells slots Z B b ls D dA} C hl kk => ?_) k
  rcases I with ⟨n, h1, h2, rfl⟩ | ⟨n, h1, h2, rfl⟩
  · exact lv_lconst C.1 C.2.1 h1 h2 (kk ls hl)
  · exact lv_ldc2 C.1 C.2.1 C.2.2.2.2.2.1 (C.2.2.2.2.2.2.1 _ h2) h1 (kk ls hl)
def DLdI (μ : MI) (pc i pc' : Nat) : Prop := (∃ k : Fin 4, decode μ.2.1 pc = .ok (.iload_n k, 1) ∧ (k : Nat) = i ∧ pc + 1 = pc') ∨ (decode μ.2.1 pc = .ok (.iload i, 2) ∧ pc + 2 = pc')
theorem X.iload {i : Nat} {x : Int32} (I : DLdI μ pc i pc') (hi : L[i]? = some (some (.int x))) (k : X Γ μ R κ pc' L (.int x :: S) h Q) : X Γ μ R κ pc L S h Q := by
  refine X.frame (fun {p l e s m args below meth c H locs cells slots Z B b ls D dA} C hl kk => ?_) k
  rcases I with ⟨n, h1, h2, rfl⟩ | ⟨h1, rfl⟩
  · exact lv_iload_n C.1 C.2.1 h1 h2 (hl.2.2 i _ hi) (kk ls hl)
  · exact lv_iload C.1 C.2.1 h1 (hl.2.2 i _ hi) (kk ls hl)
def DLdL (μ : MI) (pc i pc' : Nat) : Prop := (∃ k : Fin 4, decode μ.2.1 pc = .ok (.lload_n k, 1) ∧ (k : Nat) = i ∧ pc + 1 = pc') ∨ (decode μ.2.1 pc = .ok (.lload i, 2) ∧ pc + 2 = pc')
theorem X.lload {i : Nat} {x : Int64} (I : DLdL μ pc i pc') (hi : L[i]? = some (some (.long x))) (k : X Γ μ R κ pc' L (.long x :: S) h Q) : X Γ μ R κ pc L S h Q := by
  refine X.frame (fun {p l e s m args below meth c H locs cells slots Z B b ls D dA} C hl kk => ?_) k
  rcases I with ⟨n, h1, h2, rfl⟩ | ⟨h1, rfl⟩
  · exact lv_lload_n C.1 C.2.1 h1 h2 (hl.2.2 i _ hi) (kk ls hl)
  · exact lv_lload C.1 C.2.1 h1 (hl.2.2 i _ hi) (kk ls hl)
def DLdA (μ : MI) (pc i pc' : Nat) : Prop := (∃ k : Fin 4, decode μ.2.1 pc = .ok (.aload_n k, 1) ∧ (k : Nat) = i ∧ pc + 1 = pc') ∨ (decode μ.2.1 pc = .ok (.aload i, 2) ∧ pc + 2 = pc')
theorem X.aload {i a : Nat} (I : DLdA μ pc i pc') (hi : L[i]? = some (some (.ref a))) (k : X Γ μ R κ pc' L (.ref a :: S) h Q) : X Γ μ R κ pc L S h Q := by
  refine X.frame (fun {p l e s m args below meth c H locs cells slots Z B b ls D dA} C hl kk => ?_) k
  rcases I with ⟨n, h1, h2, rfl⟩ | ⟨h1, rfl⟩
  · exact lv_aload_n C.1 C.2.1 h1 h2 (hl.2.2 i _ hi) (kk ls hl)
  · exact lv_aload C.1 C.2.1 h1 (hl.2.2 i _ hi) (kk ls hl)
/-- a store into i leaves what L says, if no long stands right before it -/
def xok (L : List (Option Value)) (i : Nat) : Bool := match i with
  | 0 => true
  | j + 1 => match L[j]? with
    | some (some v) => v.category == 1
    | _ => true
def xlist (B b : Nat) (L : List (Option Value)) : List (Nat × Value) := L.zipIdx.filterMap (fun q => q.1.map (fun v => (q.2, xv B b v)))
theorem xlist_in {B b : Nat} {L : List (Option Value)} {i : Nat} {v : Value} (hv : L[i]? = some (some v)) : (i, xv B b v) ∈ xlist B b L := by
  refine List.mem_filterMap.mpr ⟨(some v, i), ?_, rfl⟩
  exact List.mem_zipIdx_iff_getElem?.mpr hv
theorem xlist_of {B b : Nat} {L : List (Option Value)} {q : Nat × Value} (hq : q ∈ xlist B b L) : ∃ v, L[q.1]? = some (some v) ∧ q.2 = xv B b v := by
  obtain ⟨⟨o, i⟩, h1, h2⟩ := List.mem_filterMap.mp hq
  have h3 := List.mem_zipIdx_iff_getElem?.mp h1
  cases o with
  | none => cases h2
  | some v =>
    cases h2
    exact ⟨v, h3, rfl⟩
theorem xlv_has {B b nL : Nat} {L : List (Option Value)} {ls : Array Slot} (hl : xlv B b nL L ls) : lv_has ls nL (xlist B b L) :=
  ⟨hl.1, hl.2.1, fun q hq => by
    obtain ⟨v, h1, h2⟩ := xlist_of hq
    rw [hl.2.2 q.1 v h1, h2]⟩
theorem xlv_store {B b nL : Nat} {L : List (Option Value)} {ls' : Array Slot} {i : Nat} {v : Value} (hk : xok L i = true) (h' : lv_has ls' nL ((i, xv B b v) :: (xlist B b L).filter (fun q => !(q.1 == i) && !(q.1 + 1 == i && q.2.category == 2)))) : xlv B b nL (L.set i (some v)) ls' := by
  refine ⟨h'.1, h'.2.1, fun j w hw => ?_⟩
  by_cases hj : j = i
  · subst hj
    have hlt : j < (L.set j (some v)).length := (List.getElem?_eq_some_iff.mp hw).1
    rw [List.length_set] at hlt
    rw [List.getElem?_set_self hlt] at hw
    cases hw
    exact h'.2.2 (j, xv B b v) List.mem_cons_self
  · rw [List.getElem?_set_ne (fun e => hj e.symm)] at hw
    refine h'.2.2 (j, xv B b w) (List.mem_cons_of_mem _ (List.mem_filter.mpr ⟨xlist_in hw, ?_⟩))
    have h1 : (j == i) = false := by simpa using hj
    simp only [h1, Bool.not_false, Bool.true_and, xv_cat]
    by_cases hj1 : j + 1 = i
    · subst hj1
      simp only [xok, hw] at hk
      have : w.category = 1 := by simpa using hk
      simp [this]
    · have : (j + 1 == i) = false := by simpa using hj1
      simp [this]
def DStI (μ : MI) (pc i pc' : Nat) : Prop := i < μ.2.2.1 ∧ ((∃ k : Fin 4, decode μ.2.1 pc = .ok (.istore_n k, 1) ∧ (k : Nat) = i ∧ pc + 1 = pc') ∨ (decode μ.2.1 pc = .ok (.istore i, 2) ∧ pc + 2 = pc'))
theorem X.istore {i : Nat} {x : Int32} (I : DStI μ pc i pc') (hk : xok L i = true) (hL : L.set i (some (.int x)) = L') (k : X Γ μ R κ pc' L' S h Q) : X Γ μ R κ pc L (.int x :: S) h Q := by
  subst hL
  refine X.frame (fun {p l e s m args below meth c H locs cells slots Z B b ls D dA} C hl kk => ?_) k
  obtain ⟨hi, ⟨n, h1, h2, rfl⟩ | ⟨h1, rfl⟩⟩ := I
  · exact lv_istore_n C.1 C.2.1 h1 h2 (xlv_has hl) hi rfl (fun ls' h' => kk ls' (xlv_store (v := .int x) hk h'))
  · exact lv_istore C.1 C.2.1 h1 (xlv_has hl) hi rfl (fun ls' h' => kk ls' (xlv_store (v := .int x) hk h'))
def DStA (μ : MI) (pc i pc' : Nat) : Prop := i < μ.2.2.1 ∧ ((∃ k : Fin 4, decode μ.2.1 pc = .ok (.astore_n k, 1) ∧ (k : Nat) = i ∧ pc + 1 = pc') ∨ (decode μ.2.1 pc = .ok (.astore i, 2) ∧ pc + 2 = pc'))
theorem X.astore {i a : Nat} (I : DStA μ pc i pc') (hk : xok L i = true) (hL : L.set i (some (.ref a)) = L') (k : X Γ μ R κ pc' L' S h Q) : X Γ μ R κ pc L (.ref a :: S) h Q := by
  subst hL
  refine X.frame (fun {p l e s m args below meth c H locs cells slots Z B b ls D dA} C hl kk => ?_) k
  obtain ⟨hi, ⟨n, h1, h2, rfl⟩ | ⟨h1, rfl⟩⟩ := I
  · exact lv_astore_n C.1 C.2.1 h1 h2 (xlv_has hl) hi rfl (fun ls' h' => kk ls' (xlv_store (v := .ref a) hk h'))
  · exact lv_astore C.1 C.2.1 h1 (xlv_has hl) hi rfl (fun ls' h' => kk ls' (xlv_store (v := .ref a) hk h'))
def DInc (μ : MI) (pc i : Nat) (v : Int32) (pc' : Nat) : Prop := i < μ.2.2.1 ∧ ∃ n : Int, decode μ.2.1 pc = .ok (.iinc i n, 3) ∧ Int32.ofInt n = v ∧ pc + 3 = pc'
theorem X.iinc {i : Nat} {x v : Int32} (I : DInc μ pc i v pc') (hi : L[i]? = some (some (.int x))) (hk : xok L i = true) (hL : L.set i (some (.int (x + v))) = L') (k : X Γ μ R κ pc' L' S h Q) : X Γ μ R κ pc L S h Q := by
  subst hL
  refine X.frame (fun {p l e s m args below meth c H locs cells slots Z B b ls D dA} C hl kk => ?_) k
  obtain ⟨hn, n, h1, rfl, rfl⟩ := I
  obtain ⟨j, hj⟩ := List.getElem?_of_mem (xlist_in (B := B) (b := b) hi)
  exact lv_iinc C.1 C.2.1 h1 (xlv_has hl) hj rfl hn rfl (fun ls' h' => kk ls' (xlv_store (v := .int (x + Int32.ofInt n)) hk h'))
theorem X.iadd {x y : Int32} (I : D1 μ pc .iadd 1 pc') (k : X Γ μ R κ pc' L (.int (x + y) :: S) h Q) : X Γ μ R κ pc L (.int y :: .int x :: S) h Q := by
  obtain ⟨hd, rfl⟩ := I
  exact X.frame (fun C hl kk => lv_iadd C.1 C.2.1 hd (kk _ hl)) k
theorem X.isub {x y : Int32} (I : D1 μ pc .isub 1 pc') (k : X Γ μ R κ pc' L (.int (x - y) :: S) h Q) : X Γ μ R κ pc L (.int y :: .int x :: S) h Q := by
  obtain ⟨hd, rfl⟩ := I
  exact X.frame (fun C hl kk => lv_isub C.1 C.2.1 hd (kk _ hl)) k
theorem X.imul {x y : Int32} (I : D1 μ pc .imul 1 pc') (k : X Γ μ R κ pc' L (.int (x * y) :: S) h Q) : X Γ μ R κ pc L (.int y :: .int x :: S) h Q := by
  obtain ⟨hd, rfl⟩ := I
  exact X.frame (fun C hl kk => lv_imul C.1 C.2.1 hd (kk _ hl)) k
theorem X.iand {x y : Int32} (I : D1 μ pc .iand 1 pc') (k : X Γ μ R κ pc' L (.int (x &&& y) :: S) h Q) : X Γ μ R κ pc L (.int y :: .int x :: S) h Q := by
  obtain ⟨hd, rfl⟩ := I
  exact X.frame (fun C hl kk => lv_iand C.1 C.2.1 hd (kk _ hl)) k
theorem X.ior {x y : Int32} (I : D1 μ pc .ior 1 pc') (k : X Γ μ R κ pc' L (.int (x ||| y) :: S) h Q) : X Γ μ R κ pc L (.int y :: .int x :: S) h Q := by
  obtain ⟨hd, rfl⟩ := I
  exact X.frame (fun C hl kk => lv_ior C.1 C.2.1 hd (kk _ hl)) k
theorem X.ixor {x y : Int32} (I : D1 μ pc .ixor 1 pc') (k : X Γ μ R κ pc' L (.int (x ^^^ y) :: S) h Q) : X Γ μ R κ pc L (.int y :: .int x :: S) h Q := by
  obtain ⟨hd, rfl⟩ := I
  exact X.frame (fun C hl kk => lv_ixor C.1 C.2.1 hd (kk _ hl)) k
theorem X.ishl {x y : Int32} (I : D1 μ pc .ishl 1 pc') (k : X Γ μ R κ pc' L (.int (x <<< (y &&& 31)) :: S) h Q) : X Γ μ R κ pc L (.int y :: .int x :: S) h Q := by
  obtain ⟨hd, rfl⟩ := I
  exact X.frame (fun C hl kk => lv_ishl C.1 C.2.1 hd (kk _ hl)) k
theorem X.ishr {x y : Int32} (I : D1 μ pc .ishr 1 pc') (k : X Γ μ R κ pc' L (.int (x >>> (y &&& 31)) :: S) h Q) : X Γ μ R κ pc L (.int y :: .int x :: S) h Q := by
  obtain ⟨hd, rfl⟩ := I
  exact X.frame (fun C hl kk => lv_ishr C.1 C.2.1 hd (kk _ hl)) k
theorem X.iushr {x y : Int32} (I : D1 μ pc .iushr 1 pc') (k : X Γ μ R κ pc' L (.int (x.toUInt32 >>> (y.toUInt32 &&& Int32.toUInt32 31)).toInt32 :: S) h Q) : X Γ μ R κ pc L (.int y :: .int x :: S) h Q := by
  obtain ⟨hd, rfl⟩ := I
  exact X.frame (fun C hl kk => lv_iushr C.1 C.2.1 hd rfl (kk _ hl)) k
theorem X.idiv {x y : Int32} (I : D1 μ pc .idiv 1 pc') (hy : ¬ y = 0) (k : X Γ μ R κ pc' L (.int (x / y) :: S) h Q) : X Γ μ R κ pc L (.int y :: .int x :: S) h Q := by
  obtain ⟨hd, rfl⟩ := I
  exact X.frame (fun C hl kk => lv_idiv C.1 C.2.1 hd hy (kk _ hl)) k
theorem X.irem {x y : Int32} (I : D1 μ pc .irem 1 pc') (hy : ¬ y = 0) (k : X Γ μ R κ pc' L (.int (x - x / y * y) :: S) h Q) : X Γ μ R κ pc L (.int y :: .int x :: S) h Q := by
  obtain ⟨hd, rfl⟩ := I
  exact X.frame (fun C hl kk => lv_irem C.1 C.2.1 hd hy (kk _ hl)) k
theorem X.i2l {x : Int32} (I : D1 μ pc .i2l 1 pc') (k : X Γ μ R κ pc' L (.long x.toInt64 :: S) h Q) : X Γ μ R κ pc L (.int x :: S) h Q := by
  obtain ⟨hd, rfl⟩ := I
  exact X.frame (fun C hl kk => lv_i2l C.1 C.2.1 hd rfl (kk _ hl)) k
theorem X.l2i {x : Int64} (I : D1 μ pc .l2i 1 pc') (k : X Γ μ R κ pc' L (.int x.toInt32 :: S) h Q) : X Γ μ R κ pc L (.long x :: S) h Q := by
  obtain ⟨hd, rfl⟩ := I
  exact X.frame (fun C hl kk => lv_l2i C.1 C.2.1 hd rfl (kk _ hl)) k
theorem X.i2b {x : Int32} (I : D1 μ pc .i2b 1 pc') (k : X Γ μ R κ pc' L (.int x.toInt8.toInt32 :: S) h Q) : X Γ μ R κ pc L (.int x :: S) h Q := by
  obtain ⟨hd, rfl⟩ := I
  exact X.frame (fun C hl kk => lv_i2b C.1 C.2.1 hd rfl (kk _ hl)) k
theorem X.i2s {x : Int32} (I : D1 μ pc .i2s 1 pc') (k : X Γ μ R κ pc' L (.int x.toInt16.toInt32 :: S) h Q) : X Γ μ R κ pc L (.int x :: S) h Q := by
  obtain ⟨hd, rfl⟩ := I
  exact X.frame (fun C hl kk => lv_i2s C.1 C.2.1 hd rfl (kk _ hl)) k
theorem X.i2c {x : Int32} (I : D1 μ pc .i2c 1 pc') (k : X Γ μ R κ pc' L (.int (x.toUInt32 % 65536).toInt32 :: S) h Q) : X Γ μ R κ pc L (.int x :: S) h Q := by
  obtain ⟨hd, rfl⟩ := I
  exact X.frame (fun C hl kk => lv_i2c C.1 C.2.1 hd rfl (kk _ hl)) k
theorem X.ladd {x y : Int64} (I : D1 μ pc .ladd 1 pc') (k : X Γ μ R κ pc' L (.long (x + y) :: S) h Q) : X Γ μ R κ pc L (.long y :: .long x :: S) h Q := by
  obtain ⟨hd, rfl⟩ := I
  exact X.frame (fun C hl kk => lv_ladd C.1 C.2.1 hd (kk _ hl)) k
theorem X.lmul {x y : Int64} (I : D1 μ pc .lmul 1 pc') (k : X Γ μ R κ pc' L (.long (x * y) :: S) h Q) : X Γ μ R κ pc L (.long y :: .long x :: S) h Q := by
  obtain ⟨hd, rfl⟩ := I
  exact X.frame (fun C hl kk => lv_lmul C.1 C.2.1 hd (kk _ hl)) k
theorem X.land {x y : Int64} (I : D1 μ pc .land 1 pc') (k : X Γ μ R κ pc' L (.long (x &&& y) :: S) h Q) : X Γ μ R κ pc L (.long y :: .long x :: S) h Q := by
  obtain ⟨hd, rfl⟩ := I
  exact X.frame (fun C hl kk => lv_land C.1 C.2.1 hd (kk _ hl)) k
theorem X.lor {x y : Int64} (I : D1 μ pc .lor 1 pc') (k : X Γ μ R κ pc' L (.long (x ||| y) :: S) h Q) : X Γ μ R κ pc L (.long y :: .long x :: S) h Q := by
  obtain ⟨hd, rfl⟩ := I
  exact X.frame (fun C hl kk => lv_lor C.1 C.2.1 hd (kk _ hl)) k
theorem X.lshl {x : Int64} {y : Int32} (I : D1 μ pc .lshl 1 pc') (k : X Γ μ R κ pc' L (.long (x <<< (y.toInt64 &&& 63)) :: S) h Q) : X Γ μ R κ pc L (.int y :: .long x :: S) h Q := by
  obtain ⟨hd, rfl⟩ := I
  exact X.frame (fun C hl kk => lv_lshl C.1 C.2.1 hd rfl (kk _ hl)) k
theorem X.lcmp {x y : Int64} (I : D1 μ pc .lcmp 1 pc') (k : X Γ μ R κ pc' L (.int (lg_cmp x y) :: S) h Q) : X Γ μ R κ pc L (.long y :: .long x :: S) h Q := by
  obtain ⟨hd, rfl⟩ := I
  exact X.frame (fun C hl kk => W.lcmp C.1 C.2.1 hd (kk _ hl)) k
theorem X.dupi {x : Int32} (I : D1 μ pc .dup 1 pc') (k : X Γ μ R κ pc' L (.int x :: .int x :: S) h Q) : X Γ μ R κ pc L (.int x :: S) h Q := by
  obtain ⟨hd, rfl⟩ := I
  exact X.frame (fun C hl kk => lv_dup C.1 C.2.1 hd rfl (kk _ hl)) k
theorem X.dupa {a : Nat} (I : D1 μ pc .dup 1 pc') (k : X Γ μ R κ pc' L (.ref a :: .ref a :: S) h Q) : X Γ μ R κ pc L (.ref a :: S) h Q := by
  obtain ⟨hd, rfl⟩ := I
  exact X.frame (fun C hl kk => lv_dup C.1 C.2.1 hd rfl (kk _ hl)) k
theorem X.popi {x : Int32} (I : D1 μ pc .pop 1 pc') (k : X Γ μ R κ pc' L S h Q) : X Γ μ R κ pc L (.int x :: S) h Q := by
  obtain ⟨hd, rfl⟩ := I
  exact X.frame (fun C hl kk => lv_pop C.1 C.2.1 hd rfl (kk _ hl)) k
theorem X.dup2 {x : Int32} {a : Nat} (I : D1 μ pc .dup2 1 pc') (k : X Γ μ R κ pc' L (.int x :: .ref a :: .int x :: .ref a :: S) h Q) : X Γ μ R κ pc L (.int x :: .ref a :: S) h Q := by
  obtain ⟨hd, rfl⟩ := I
  exact X.frame (fun C hl kk => lv_dup2_11 C.1 C.2.1 hd rfl rfl (kk _ hl)) k
/-! branches -/
theorem X.split {c : Prop} (L1 : List (Option Value)) (S1 : List Value) (st : ∀ {p : Program} {l : Launch} {e : Env} {s : State} {m : MethodId} {args : Array Value} {below : List Frame} {meth : Method} {c0 : Code} {H : Heap} {locs : List Loc} {cells slots : Nat} {Z : State → Prop} {B b : Nat} {ls : Array Slot} {D : va_G} {dA : FieldType → ClassId}, XCtx Γ μ p s m args meth c0 B b D dA → (c → W p l e R s m args below meth c0 H locs cells slots Z (F0 m tgt ls (S1.map (xv B b)))) → (¬ c → W p l e R s m args below meth c0 H locs cells slots Z (F0 m pc' ls (S1.map (xv B b)))) → W p l e R s m args below meth c0 H locs cells slots Z (F0 m pc ls (S.map (xv B b)))) (kt : c → X Γ μ R κ tgt L S1 h Q) (kf : ¬ c → X Γ μ R κ pc' L S1 h Q) : X Γ μ R κ pc L S h Q := by
  intro p l e s m args below meth c B b D dA C Z E hκ H locs ls hR hS hl
  exact st C (fun hc => kt hc p l e s m args below meth c B b D dA C Z E hκ H locs ls hR hS hl) (fun hc => kf hc p l e s m args below meth c B b D dA C Z E hκ H locs ls hR hS hl)
abbrev DIf (μ : MI) (pc : Nat) (op : Jvm.ClassFile.Cond) (tgt pc' : Nat) : Prop := ∃ off : Int, decode μ.2.1 pc = .ok (.ifCond op off, 3) ∧ (pc : Int) + off = (tgt : Int) ∧ pc + 3 = pc'
abbrev DCm (μ : MI) (pc : Nat) (op : Jvm.ClassFile.Cond) (tgt pc' : Nat) : Prop := ∃ off : Int, decode μ.2.1 pc = .ok (.if_icmp op off, 3) ∧ (pc : Int) + off = (tgt : Int) ∧ pc + 3 = pc'
abbrev DGo (μ : MI) (pc tgt : Nat) : Prop := ∃ off : Int, decode μ.2.1 pc = .ok (.goto off, 3) ∧ (pc : Int) + off = (tgt : Int)
theorem X.goto (I : DGo μ pc tgt) (k : X Γ μ R κ tgt L S h Q) : X Γ μ R κ pc L S h Q := by
  obtain ⟨off, hd, ht⟩ := I
  exact X.frame (fun C hl kk => lv_goto C.1 C.2.1 hd ht (kk _ hl)) k
end XI
end
section
/-! X, second half: branches, fields, arrays, makings, calls, ends -/
section XB
variable {Γ : State → Nat → Nat → Prop} {μ : MI} {R : Room} {κ : Nat × Nat} {pc pc' tgt : Nat} {L L' : List (Option Value)} {S S' : List Value} {h : XH} {Q : Option Value → XH → Prop}
theorem X.fork {c d : Prop} (S1 : List Value) (st : ∀ {p : Program} {l : Launch} {e : Env} {s : State} {m : MethodId} {args : Array Value} {below : List Frame} {meth : Method} {c0 : Code} {H : Heap} {locs : List Loc} {cells slots : Nat} {Z : State → Prop} {B b : Nat} {ls : Array Slot} {D : va_G} {dA : FieldType → ClassId}, XCtx Γ μ p s m args meth c0 B b D dA → (c → W p l e R s m args below meth c0 H locs cells slots Z (F0 m tgt ls (S1.map (xv B b)))) → (d → W p l e R s m args below meth c0 H locs cells slots Z (F0 m pc' ls (S1.map (xv B b)))) → W p l e R s m args below meth c0 H locs cells slots Z (F0 m pc ls (S.map (xv B b)))) (kt : c → X Γ μ R κ tgt L S1 h Q) (kf : d → X Γ μ R κ pc' L S1 h Q) : X Γ μ R κ pc L S h Q := by
  intro p l e s m args below meth c B b D dA C Z E hκ H locs ls hR hS hl
  exact st C (fun hc => kt hc p l e s m args below meth c B b D dA C Z E hκ H locs ls hR hS hl) (fun hc => kf hc p l e s m args below meth c B b D dA C Z E hκ H locs ls hR hS hl)
theorem X.ifeq {x : Int32} (I : DIf μ pc .eq tgt pc') (kt : x = 0 → X Γ μ R κ tgt L S h Q) (kf : ¬ x = 0 → X Γ μ R κ pc' L S h Q) : X Γ μ R κ pc L (.int x :: S) h Q := by
  obtain ⟨off, hd, ht, rfl⟩ := I
  exact X.fork S (fun C a b => lv_if_eq C.1 C.2.1 hd ht a b) kt kf
theorem X.ifne {x : Int32} (I : DIf μ pc .ne tgt pc') (kt : ¬ x = 0 → X Γ μ R κ tgt L S h Q) (kf : x = 0 → X Γ μ R κ pc' L S h Q) : X Γ μ R κ pc L (.int x :: S) h Q := by
  obtain ⟨off, hd, ht, rfl⟩ := I
  exact X.fork S (fun C a b => lv_if_ne C.1 C.2.1 hd ht a b) kt kf
theorem X.iflt {x : Int32} (I : DIf μ pc .lt tgt pc') (kt : x < 0 → X Γ μ R κ tgt L S h Q) (kf : ¬ x < 0 → X Γ μ R κ pc' L S h Q) : X Γ μ R κ pc L (.int x :: S) h Q := by
  obtain ⟨off, hd, ht, rfl⟩ := I
  exact X.fork S (fun C a b => lv_if_lt C.1 C.2.1 hd ht a b) kt kf
theorem X.ifge {x : Int32} (I : DIf μ pc .ge tgt pc') (kt : 0 ≤ x → X Γ μ R κ tgt L S h Q) (kf : ¬ 0 ≤ x → X Γ μ R κ pc' L S h Q) : X Γ μ R κ pc L (.int x :: S) h Q := by
  obtain ⟨off, hd, ht, rfl⟩ := I
  exact X.fork S (fun C a b => lv_if_ge C.1 C.2.1 hd ht a b) kt kf
theorem X.ifgt {x : Int32} (I : DIf μ pc .gt tgt pc') (kt : 0 < x → X Γ μ R κ tgt L S h Q) (kf : ¬ 0 < x → X Γ μ R κ pc' L S h Q) : X Γ μ R κ pc L (.int x :: S) h Q := by
  obtain ⟨off, hd, ht, rfl⟩ := I
  exact X.fork S (fun C a b => lv_if_gt C.1 C.2.1 hd ht a b) kt kf
theorem X.ifle {x : Int32} (I : DIf μ pc .le tgt pc') (kt : x ≤ 0 → X Γ μ R κ tgt L S h Q) (kf : ¬ x ≤ 0 → X Γ μ R κ pc' L S h Q) : X Γ μ R κ pc L (.int x :: S) h Q := by
  obtain ⟨off, hd, ht, rfl⟩ := I
  exact X.fork S (fun C a b => lv_if_le C.1 C.2.1 hd ht a b) kt kf
theorem X.cmeq {x y : Int32} (I : DCm μ pc .eq tgt pc') (kt : x = y → X Γ μ R κ tgt L S h Q) (kf : ¬ x = y → X Γ μ R κ pc' L S h Q) : X Γ μ R κ pc L (.int y :: .int x :: S) h Q := by
  obtain ⟨off, hd, ht, rfl⟩ := I
  exact X.fork S (fun C a b => lv_icmp_eq C.1 C.2.1 hd ht a b) kt kf
theorem X.cmne {x y : Int32} (I : DCm μ pc .ne tgt pc') (kt : ¬ x = y → X Γ μ R κ tgt L S h Q) (kf : x = y → X Γ μ R κ pc' L S h Q) : X Γ μ R κ pc L (.int y :: .int x :: S) h Q := by
  obtain ⟨off, hd, ht, rfl⟩ := I
  exact X.fork S (fun C a b => lv_icmp_ne C.1 C.2.1 hd ht a b) kt kf
theorem X.cmlt {x y : Int32} (I : DCm μ pc .lt tgt pc') (kt : x < y → X Γ μ R κ tgt L S h Q) (kf : ¬ x < y → X Γ μ R κ pc' L S h Q) : X Γ μ R κ pc L (.int y :: .int x :: S) h Q := by
  obtain ⟨off, hd, ht, rfl⟩ := I
  exact X.fork S (fun C a b => lv_icmp_lt C.1 C.2.1 hd ht a b) kt kf
theorem X.cmge {x y : Int32} (I : DCm μ pc .ge tgt pc') (kt : y ≤ x → X Γ μ R κ tgt L S h Q) (kf : ¬ y ≤ x → X Γ μ R κ pc' L S h Q) : X Γ μ R κ pc L (.int y :: .int x :: S) h Q := by
  obtain ⟨off, hd, ht, rfl⟩ := I
  exact X.fork S (fun C a b => lv_icmp_ge C.1 C.2.1 hd ht a b) kt kf
theorem X.cmgt {x y : Int32} (I : DCm μ pc .gt tgt pc') (kt : y < x → X Γ μ R κ tgt L S h Q) (kf : ¬ y < x → X Γ μ R κ pc' L S h Q) : X Γ μ R κ pc L (.int y :: .int x :: S) h Q := by
  obtain ⟨off, hd, ht, rfl⟩ := I
  exact X.fork S (fun C a b => lv_icmp_gt C.1 C.2.1 hd ht a b) kt kf
theorem X.cmle {x y : Int32} (I : DCm μ pc .le tgt pc') (kt : x ≤ y → X Γ μ R κ tgt L S h Q) (kf : ¬ x ≤ y → X Γ μ R κ pc' L S h Q) : X Γ μ R κ pc L (.int y :: .int x :: S) h Q := by
  obtain ⟨off, hd, ht, rfl⟩ := I
  exact X.fork S (fun C a b => lv_icmp_le C.1 C.2.1 hd ht a b) kt kf
/-- truth values as ints -/
def bI (b : Bool) : Int32 := if b then 1 else 0
theorem bI_0 {b : Bool} (h : bI b = 0) : b = false := by cases b <;> first | rfl | exact absurd h (by decide)
theorem bI_1 {b : Bool} (h : ¬ bI b = 0) : b = true := by cases b <;> first | rfl | exact absurd rfl h
theorem bI_nar : ∀ b : Bool, narrow .boolean (.int (bI b)) = .int (bI b) := by decide
theorem bI_fit : ∀ b : Bool, fits .boolean (.int (bI b)) = true := by decide
theorem X.ifeqB {b : Bool} (I : DIf μ pc .eq tgt pc') (kt : b = false → X Γ μ R κ tgt L S h Q) (kf : b = true → X Γ μ R κ pc' L S h Q) : X Γ μ R κ pc L (.int (bI b) :: S) h Q := X.ifeq I (fun e => kt (bI_0 e)) (fun e => kf (bI_1 e))
theorem X.ifneB {b : Bool} (I : DIf μ pc .ne tgt pc') (kt : b = true → X Γ μ R κ tgt L S h Q) (kf : b = false → X Γ μ R κ pc' L S h Q) : X Γ μ R κ pc L (.int (bI b) :: S) h Q := X.ifne I (fun e => kt (bI_1 e)) (fun e => kf (bI_0 e))
/-! switches: the targets in order from lo on, then the default -/
def DTab (μ : MI) (pc : Nat) (lo : Int) (tgts : List Nat) (d : Nat) : Prop := ∃ (dflt hi : Int) (offs : Array Int) (len : Nat), decode μ.2.1 pc = .ok (.tableswitch dflt lo hi offs, len) ∧ hi = lo + (tgts.length : Int) - 1 ∧ (pc : Int) + dflt = (d : Int) ∧ offs.toList = tgts.map (fun (t : Nat) => ((t : Nat) : Int) - (pc : Int))
theorem X.tabIn {x : Int32} {lo : Int} {tgts : List Nat} {d : Nat} (I : DTab μ pc lo tgts d) (j : Nat) (hj : tgts[j]? = some tgt) (hx : x.toInt = lo + (j : Int)) (k : X Γ μ R κ tgt L S h Q) : X Γ μ R κ pc L (.int x :: S) h Q := by
  obtain ⟨dflt, hi, offs, len, hd, rfl, h2, h3⟩ := I
  have hlt : j < tgts.length := (List.getElem?_eq_some_iff.mp hj).1
  refine X.frame (fun C hl kk => lv_tableIn (off := (tgt : Int) - (pc : Int)) C.1 C.2.1 hd (by omega) (by omega) ?_ (by omega) (kk _ hl)) k
  have e : (x.toInt - lo).toNat = j := by omega
  rw [e, ← Array.getElem?_toList, h3, List.getElem?_map, hj]
  rfl
theorem X.tabOut {x : Int32} {lo : Int} {tgts : List Nat} {d : Nat} (I : DTab μ pc lo tgts d) (hx : x.toInt < lo ∨ lo + (tgts.length : Int) ≤ x.toInt) (k : X Γ μ R κ d L S h Q) : X Γ μ R κ pc L (.int x :: S) h Q := by
  obtain ⟨dflt, hi, offs, len, hd, rfl, h2, h3⟩ := I
  exact X.frame (fun C hl kk => lv_tableOut C.1 C.2.1 hd (by omega) h2 (kk _ hl)) k
def DLook (μ : MI) (pc : Nat) (ps : List (Int × Int)) (d : Int) : Prop := ∃ (pa : Array (Int × Int)) (len : Nat), decode μ.2.1 pc = .ok (.lookupswitch d pa, len) ∧ pa.toList = ps ∧ (pa.toList.zip (pa.toList.drop 1)).all (fun (a, next) => a.1 < next.1) = true
theorem X.look {x : Int32} {ps : List (Int × Int)} {d : Int} (I : DLook μ pc ps d) (ht : (pc : Int) + Op.lookupswitch.offset ps d x.toInt = (tgt : Int)) (k : X Γ μ R κ tgt L S h Q) : X Γ μ R κ pc L (.int x :: S) h Q := by
  obtain ⟨pa, len, hd, rfl, hp⟩ := I
  exact X.frame (fun C hl kk => lv_lookup C.1 C.2.1 hd hp rfl ht (kk _ hl)) k
end XB
/-! fields -/
theorem xone {D : va_G} {cl : List vw_C} {q : Nat × va_E} {H : Heap} (hq : va_at D cl q H) : va_P D cl [q] H := by
  intro k x hx
  match k, hx with
  | 0, hx => cases hx; exact hq
  | k + 1, hx => simp at hx
def XFld (own : String) (idx ci k : Nat) : Prop := ∃ (C : String) (T : u_T) (N : Nat), vwCl[ci]? = some (C, T, N) ∧ k < N ∧ Cond.fieldLink own idx (T k).1 (T k).2.1 (T k).2.2.1 ∈ bigW ∧ ∀ w ∈ u_ws C T N, w ∈ bigW
def XFldP (y : MethodName) (idx ci k : Nat) (ty : FieldType) : Prop := ∃ (C : String) (T : u_T) (N : Nat) (ty0 : Nat → FieldType), vwCl[ci]? = some (C, T, N) ∧ k < N ∧ Cond.fieldLink y.cls idx (T k).1 (T k).2.1 (T k).2.2.1 ∈ bigW ∧ (∀ w ∈ u_ws C T N, w ∈ bigW) ∧ (∀ k, k < N → parseFieldDescriptor (T k).2.2.1 = some (ty0 k)) ∧ (∀ a, a < N → ∀ b, b < N → a ≠ b → (T a).2.1 ≠ (T b).2.1) ∧ ty0 k = ty ∧ ((T k).2.2.2 = false ∨ ((T k).2.2.2 = true ∧ y.name = "<init>" ∧ (T k).1 = y.cls))
def DGet (μ : MI) (pc ci k pc' : Nat) : Prop := ∃ idx, decode μ.2.1 pc = .ok (.getfield idx, 3) ∧ pc + 3 = pc' ∧ XFld μ.1.cls idx ci k
def DPut (μ : MI) (pc ci k : Nat) (ty : FieldType) (pc' : Nat) : Prop := ∃ idx, decode μ.2.1 pc = .ok (.putfield idx, 3) ∧ pc + 3 = pc' ∧ XFldP μ.1 idx ci k ty
section XF
variable {Γ : State → Nat → Nat → Prop} {μ : MI} {R : Room} {κ : Nat × Nat} {pc pc' tgt : Nat} {L L' : List (Option Value)} {S S' : List Value} {h : XH} {Q : Option Value → XH → Prop}
theorem X.getf {ci k a : Nat} {fs : List Value} {v : Value} (I : DGet μ pc ci k pc') (ha : h a = some (.inr (ci, fs))) (hv : fs[k]? = some v) (kk : X Γ μ R κ pc' L (v :: S) h Q) : X Γ μ R κ pc L (.ref a :: S) h Q := by
  intro p l e s m args below meth c B b D dA C Z E hκ H locs ls hR hS hl
  obtain ⟨idx, hd, rfl, Cn, T, N, h1, h2, h3, h4⟩ := I
  have hts := C.2.2.2.2.2.2.1
  exact va_get (v := xv B b v) C.1 C.2.1 hts h4 C.2.2.2.2.2.1 C.2.2.2.2.2.2.2.1.1 (xone (hR.at ha)) 0 rfl h1 k h2 (hts _ h3) (fun _ h9 => h9) (by rw [List.getElem?_map, hv]; rfl) hd (kk p l e s m args below meth c B b D dA C Z E hκ H locs ls hR hS hl)
theorem xset_map (B b : Nat) (fs : List Value) (k : Nat) (v : Value) : (fs.map (xv B b)).set k (xv B b v) = (fs.set k v).map (xv B b) := by rw [List.map_set]
theorem xwrote {B a k : Nat} {H0 H H1 : Heap} {locs : List Loc} (hS : va_S (fun q => B ≤ q) H0 H locs) (z : H1.size = H.size) (oq : ∀ q : Nat, q ≠ a → H1[q]? = H[q]?) (ha : B ≤ a) : va_S (fun q => B ≤ q) H0 H1 (locs ++ [⟨a, k⟩]) := hS.put z oq ha
theorem XRel.ge {B b : Nat} {D : va_G} {dA : FieldType → ClassId} {h : XH} {H : Heap} (hR : XRel B b D dA h H) {i : Nat} {c : XC} (hi : h i = some c) : B ≤ xphi B b i := by rw [hR.phi hi]; omega
set_option maxHeartbeats 1000000 in
theorem X.putf {ci k a : Nat} {fs : List Value} {v : Value} {ty : FieldType} (I : DPut μ pc ci k ty pc') (ha : h a = some (.inr (ci, fs))) (hl : k < fs.length) (hn : ∀ B b, narrow ty (xv B b v) = xv B b v) (hf : ∀ B b, fits ty (xv B b v) = true) (kk : X Γ μ R κ pc' L S (xup h a (.inr (ci, fs.set k v))) Q) : X Γ μ R κ pc L (v :: .ref a :: S) h Q := by
  intro p l e s m args below meth c B b D dA C Z E hκ H locs ls hR hS hls
  obtain ⟨idx, hd, rfl, Cn, T, N, ty0, hc, hk, hlink, hin, hty, hnm, htk, hfin⟩ := I
  have hts := C.2.2.2.2.2.2.1
  have hown := C.2.2.2.2.2.1
  have hK := C.2.2.2.2.2.2.2.1.1
  have hap := va_apart (own := μ.1.cls) hts hin ty0 hty hnm hK hc
  obtain ⟨r, h1, cell, q1, q2, q3, q4⟩ := hR.at ha
  have hr : r = (Cn, T, N) := Option.some.inj (h1.symm.trans hc)
  subst hr
  obtain ⟨hSl, hfc, kC, hkC, hkind⟩ := hK.1 ci _ hc
  obtain ⟨cf, kf, fi, f, hi, hsl⟩ := hSl k hk
  have hlay := hts _ (hin _ (u_in_lay hk))
  unfold u_lay at hlay
  have hst := (u_facts hfc hkC (u_lays hts hin hk) hi).1
  have hpd : parseFieldDescriptor (T k).2.2.1 = some ty := by rw [hty k hk, htk]
  have fin : ∀ H' : Heap, H'[xphi B b a]? = some (cell.setSlot f.slot (xv B b v)) → H'.size = H.size → (∀ q, q ≠ xphi B b a → H'[q]? = H[q]?) → W p l e R s m args below meth c H' (locs ++ [⟨xphi B b a, f.slot⟩]) κ.1 κ.2 Z (F0 m (pc + 3) ls (S.map (xv B b))) := by
    intro H' e1 e2 e3
    rw [hsl] at e1 ⊢
    refine kk p l e s m args below meth c B b D dA C Z E hκ H' _ ls (hR.put ha e2 ?_ e3) (xwrote hS e2 e3 (hR.ge ha)) hls
    refine ⟨_, hc, ?_⟩
    show t_OB (xphi B b a) (D.1 ci) N (D.2 ci) H' (vp_V ((fs.set k v).map (xv B b)))
    rw [← xset_map]
    exact t_OB.to (V := updV (vp_V (fs.map (xv B b))) k (xv B b v)) ⟨_, e1, q2, q3, t_set q4 hap hk _⟩ (fun j _ => vp_updV_set (by rw [List.length_map]; exact hl) _ j)
  rcases hfin with hfin | ⟨hfin, hinit, hdecl⟩
  · rw [if_neg (by rw [hfin]; decide)] at hlay
    have h6 := u_store hfc hkC hkind hlay hi hpd (hn B b) (hf B b)
    exact W.putK C.1 C.2.1 (f := f) ⟨hown, hts _ hlink, ⟨_, _, _, hi⟩, hst⟩ (by rw [q2]; exact h6) q1 q3 (by rw [hsl]; exact k2_hasslot (q4 k hk)) rfl rfl hd fin
  · rw [if_pos hfin] at hlay
    have hcf : m.cls = cf := by
      obtain ⟨_, _, c', _, _, _, -, -, hf', -, -, -, hown2, -⟩ := Cond.laysFinal_spec hlay
      have e1 : c' = cf := by have := hi.symm.trans hf'; simp at this; exact this.1.symm
      rw [hdecl] at hown2
      rw [← e1]; exact Option.some.inj (hown.symm.trans hown2)
    have h6 := u_fits hfc hkC hkind (Or.inr hlay) hi hpd (hn B b) (hf B b)
    exact W.putFinK C.1 C.2.1 hown (hts _ hlink) hi hst hcf (by rw [C.2.2.2.2.2.2.2.2.2.1]; exact hinit) (by rw [q2]; exact h6) q1 q3 (by rw [hsl]; exact k2_hasslot (q4 k hk)) rfl rfl hd fin
theorem X.puti {ci k a : Nat} {fs : List Value} {x : Int32} (I : DPut μ pc ci k .int pc') (ha : h a = some (.inr (ci, fs))) (hl : k < fs.length) (kk : X Γ μ R κ pc' L S (xup h a (.inr (ci, fs.set k (.int x)))) Q) : X Γ μ R κ pc L (.int x :: .ref a :: S) h Q := X.putf I ha hl (fun _ _ => vp_nar_int x) (fun _ _ => rfl) kk
theorem X.putz {ci k a : Nat} {fs : List Value} {x : Bool} (I : DPut μ pc ci k .boolean pc') (ha : h a = some (.inr (ci, fs))) (hl : k < fs.length) (kk : X Γ μ R κ pc' L S (xup h a (.inr (ci, fs.set k (.int (bI x))))) Q) : X Γ μ R κ pc L (.int (bI x) :: .ref a :: S) h Q := X.putf I ha hl (fun _ _ => bI_nar x) (fun _ _ => bI_fit x) kk
theorem X.puta {ci k a v : Nat} {fs : List Value} {C : String} (I : DPut μ pc ci k (.object C) pc') (ha : h a = some (.inr (ci, fs))) (hl : k < fs.length) (kk : X Γ μ R κ pc' L S (xup h a (.inr (ci, fs.set k (.ref v)))) Q) : X Γ μ R κ pc L (.ref v :: .ref a :: S) h Q := X.putf I ha hl (fun _ _ => rfl) (fun _ _ => rfl) kk
theorem X.putr {ci k a v : Nat} {fs : List Value} {ty : FieldType} (I : DPut μ pc ci k (.array ty) pc') (ha : h a = some (.inr (ci, fs))) (hl : k < fs.length) (kk : X Γ μ R κ pc' L S (xup h a (.inr (ci, fs.set k (.ref v)))) Q) : X Γ μ R κ pc L (.ref v :: .ref a :: S) h Q := X.putf I ha hl (fun _ _ => rfl) (fun _ _ => rfl) kk
/-! arrays -/
theorem X.iald {a n : Nat} {f : Nat → Int32} {i : Int32} (I : D1 μ pc .iaload 1 pc') (ha : h a = some (.inl (.int, n, .inl f))) (hin : vp_in i n) (kk : X Γ μ R κ pc' L (.int (f i.toNatClampNeg) :: S) h Q) : X Γ μ R κ pc L (.int i :: .ref a :: S) h Q := by
  intro p l e s m args below meth c B b D dA C Z E hκ H locs ls hR hS hl
  obtain ⟨hd, rfl⟩ := I
  exact va_iald C.1 C.2.1 C.2.2.2.2.2.2.2.1.1 (xone (hR.at ha)) 0 0 rfl rfl hin hd (kk p l e s m args below meth c B b D dA C Z E hκ H locs ls hR hS hl)
theorem X.lald {a n : Nat} {f : Nat → Int64} {i : Int32} (I : D1 μ pc .laload 1 pc') (ha : h a = some (.inl (.long, n, .inr (.inl f)))) (hin : vp_in i n) (kk : X Γ μ R κ pc' L (.long (f i.toNatClampNeg) :: S) h Q) : X Γ μ R κ pc L (.int i :: .ref a :: S) h Q := by
  intro p l e s m args below meth c B b D dA C Z E hκ H locs ls hR hS hl
  obtain ⟨hd, rfl⟩ := I
  exact va_lald C.1 C.2.1 C.2.2.2.2.2.2.2.1.1 (xone (hR.at ha)) 0 1 rfl rfl hin hd (kk p l e s m args below meth c B b D dA C Z E hκ H locs ls hR hS hl)
theorem X.cald {a n : Nat} {f : Nat → Int32} {i : Int32} (I : D1 μ pc .caload 1 pc') (ha : h a = some (.inl (.char, n, .inl f))) (hin : vp_in i n) (kk : X Γ μ R κ pc' L (.int (f i.toNatClampNeg) :: S) h Q) : X Γ μ R κ pc L (.int i :: .ref a :: S) h Q := by
  intro p l e s m args below meth c B b D dA C Z E hκ H locs ls hR hS hl
  obtain ⟨hd, rfl⟩ := I
  exact va_cald C.1 C.2.1 C.2.2.2.2.2.2.2.1.1 (xone (hR.at ha)) 0 2 rfl rfl hin hd (kk p l e s m args below meth c B b D dA C Z E hκ H locs ls hR hS hl)
theorem X.aald {a n q : Nat} {ty : FieldType} {f : Nat → Option Nat} {i : Int32} (I : D1 μ pc .aaload 1 pc') (hty : ty = .object RX2 ∨ ty = .object RX4) (ha : h a = some (.inl (ty, n, .inr (.inr (.inr (.inr f)))))) (hin : vp_in i n) (hq : f i.toNatClampNeg = some q) (kk : X Γ μ R κ pc' L (.ref q :: S) h Q) : X Γ μ R κ pc L (.int i :: .ref a :: S) h Q := by
  intro p l e s m args below meth c B b D dA C Z E hκ H locs ls hR hS hl
  obtain ⟨hd, rfl⟩ := I
  have k2 := kk p l e s m args below meth c B b D dA C Z E hκ H locs ls hR hS hl
  have e2 : Option.map (xphi B b) (f i.toNatClampNeg) = some (xphi B b q) := by rw [hq]; rfl
  rcases hty with rfl | rfl
  · refine va_aldq C.1 C.2.1 C.2.2.2.2.2.2.2.1.1 (xone (hR.at ha)) 0 3 rfl rfl hin hd ?_
    rw [e2]
    exact k2
  · refine va_aldq C.1 C.2.1 C.2.2.2.2.2.2.2.1.1 (xone (hR.at ha)) 0 4 rfl rfl hin hd ?_
    rw [e2]
    exact k2
theorem xst {α : Type} (mk : α → Value) (cA : ClassId) (n j : Nat) (f g : Nat → α) (v : α) (hg : ∀ q, g q = if q = j then v else f q) : (arrV cA n (fun q => mk (f q))).setSlot j (mk v) = arrV cA n (fun q => mk (g q)) := by
  rw [arrV_store]
  congr 1
  funext q
  rw [hg q]
  by_cases hq : q = j
  · simp [updV, hq]
  · simp [updV, hq]
theorem X.iast {a n : Nat} {f : Nat → Int32} {i x : Int32} (I : D1 μ pc .iastore 1 pc') (ha : h a = some (.inl (.int, n, .inl f))) (hin : vp_in i n) (kk : X Γ μ R κ pc' L S (xup h a (.inl (.int, n, .inl (upd f i.toNatClampNeg x)))) Q) : X Γ μ R κ pc L (.int x :: .int i :: .ref a :: S) h Q := by
  intro p l e s m args below meth c B b D dA C Z E hκ H locs ls hR hS hl
  obtain ⟨hd, rfl⟩ := I
  refine W.iast C.1 C.2.1 (hR.at ha) ((C.2.2.2.2.2.2.2.1.1.2 0 _ rfl).1 n (fun j => .int (f j))) (fun q => by cases q) (by show ¬ (i < 0 ∨ (arrV _ _ _).slots.size ≤ _); rw [arrV_size]; exact hin) rfl rfl hd fun H1 e1 z oq => ?_
  refine kk p l e s m args below meth c B b D dA C Z E hκ H1 _ ls (hR.put ha z ?_ oq) (xwrote hS z oq (hR.ge ha)) hl
  show H1[xphi B b a]? = some (vp_cell _ _)
  rw [e1]
  exact congrArg some (xst Value.int _ n _ f _ x (fun q => rfl))
theorem X.last {a n : Nat} {f : Nat → Int64} {i : Int32} {x : Int64} (I : D1 μ pc .lastore 1 pc') (ha : h a = some (.inl (.long, n, .inr (.inl f)))) (hin : vp_in i n) (kk : X Γ μ R κ pc' L S (xup h a (.inl (.long, n, .inr (.inl (vp_updL f i.toNatClampNeg x))))) Q) : X Γ μ R κ pc L (.long x :: .int i :: .ref a :: S) h Q := by
  intro p l e s m args below meth c B b D dA C Z E hκ H locs ls hR hS hl
  obtain ⟨hd, rfl⟩ := I
  refine W.last C.1 C.2.1 (hR.at ha) ((C.2.2.2.2.2.2.2.1.1.2 1 _ rfl).1 n (fun j => .long (f j))) (fun q => by cases q) (by show ¬ (i < 0 ∨ (arrV _ _ _).slots.size ≤ _); rw [arrV_size]; exact hin) rfl rfl hd fun H1 e1 z oq => ?_
  refine kk p l e s m args below meth c B b D dA C Z E hκ H1 _ ls (hR.put ha z ?_ oq) (xwrote hS z oq (hR.ge ha)) hl
  show H1[xphi B b a]? = some (vp_cell _ _)
  rw [e1]
  exact congrArg some (xst Value.long _ n _ f _ x (fun q => rfl))
theorem X.cast {a n : Nat} {f : Nat → Int32} {i x : Int32} (I : D1 μ pc .castore 1 pc') (ha : h a = some (.inl (.char, n, .inl f))) (hin : vp_in i n) (hx : narrow .char (.int x) = .int x) (kk : X Γ μ R κ pc' L S (xup h a (.inl (.char, n, .inl (upd f i.toNatClampNeg x)))) Q) : X Γ μ R κ pc L (.int x :: .int i :: .ref a :: S) h Q := by
  intro p l e s m args below meth c B b D dA C Z E hκ H locs ls hR hS hl
  obtain ⟨hd, rfl⟩ := I
  refine W.cast C.1 C.2.1 (hR.at ha) ((C.2.2.2.2.2.2.2.1.1.2 2 _ rfl).1 n (fun j => .int (f j))) (fun q => by cases q) (by show ¬ (i < 0 ∨ (arrV _ _ _).slots.size ≤ _); rw [arrV_size]; exact hin) rfl rfl hd fun H1 e1 z oq => ?_
  refine kk p l e s m args below meth c B b D dA C Z E hκ H1 _ ls (hR.put ha z ?_ oq) (xwrote hS z oq (hR.ge ha)) hl
  show H1[xphi B b a]? = some (vp_cell _ _)
  rw [e1, hx]
  exact congrArg some (xst Value.int _ n _ f _ x (fun q => rfl))
set_option maxHeartbeats 1000000 in
theorem X.aast {a n v ci : Nat} {r : vw_C} {vs : List Value} {f : Nat → Option Nat} {i : Int32} (I : D1 μ pc .aastore 1 pc') (hty : r.1 = RX2 ∨ r.1 = RX4) (hc : vwCl[ci]? = some r) (ha : h a = some (.inl (.object r.1, n, .inr (.inr (.inr (.inr f)))))) (hv : h v = some (.inr (ci, vs))) (hin : vp_in i n) (kk : X Γ μ R κ pc' L S (xup h a (.inl (.object r.1, n, .inr (.inr (.inr (.inr (va_up f i.toNatClampNeg (some v)))))))) Q) : X Γ μ R κ pc L (.ref v :: .int i :: .ref a :: S) h Q := by
  intro p l e s m args below meth c B b D dA C Z E hκ H locs ls hR hS hl
  obtain ⟨hd, rfl⟩ := I
  have hlt : i.toNatClampNeg < n := Nat.not_le.mp fun q => hin (Or.inr q)
  have h0 : ¬ i < 0 := fun q => hin (Or.inl q)
  have hK := C.2.2.2.2.2.2.2.1.1
  obtain ⟨r', hr', cellV, g1, g2, g3, -⟩ := hR.at hv
  have hcls := (hK.1 ci r hc).2
  have hra : va_RA s (dA (.object r.1)) (.object r.1) := by
    rcases hty with hty | hty
    · rw [hty]; exact (hK.2 3 _ rfl).2
    · rw [hty]; exact (hK.2 4 _ rfl).2
  obtain ⟨kA, comp, k1, k2, k3, -⟩ := hra
  have hcomp : comp = D.1 ci := Option.some.inj (k3.symm.trans hcls.1)
  subst hcomp
  obtain ⟨kC, hkC, -⟩ := hcls.2
  refine W.aast C.1 C.2.1 (hR.at ha) (fun q h => by cases h) (fun h => by cases h) k1 k2 rfl hkC ⟨h0, by show _ < (arrV _ _ _).slots.size; rw [arrV_size]; exact hlt⟩ g1 (fun q h => by rw [g3] at h; cases h) (by rw [g2]; exact hkC) (by rw [g2]; exact va_assign hcls) rfl rfl hd fun H1 e1 z oq => ?_
  refine kk p l e s m args below meth c B b D dA C Z E hκ H1 _ ls (hR.put ha z ?_ oq) (xwrote hS z oq (hR.ge ha)) hl
  show H1[xphi B b a]? = some (vp_cell _ _)
  rw [e1]
  have key := xst va_rf (dA (.object r.1)) n i.toNatClampNeg (fun j => (f j).map (xphi B b)) (fun j => (va_up f i.toNatClampNeg (some v) j).map (xphi B b)) (some (xphi B b v)) (fun q => by
    show (va_up f i.toNatClampNeg (some v) q).map (xphi B b) = if q = i.toNatClampNeg then some (xphi B b v) else (f q).map (xphi B b)
    unfold va_up
    split <;> rfl)
  exact congrArg some key
end XF
end
section
/-! X, third part: makings, copies, calls, ends -/
theorem xpushed {B : Nat} {H0 H H1 : Heap} {locs : List Loc} (hS : va_S (fun q => B ≤ q) H0 H locs) (z : H1.size = H.size + 1) (oq : ∀ q : Nat, q < H.size → H1[q]? = H[q]?) : va_S (fun q => B ≤ q) H0 H1 locs := ⟨Nat.le_trans hS.1 (by omega), fun x h1 h2 => (oq x (Nat.lt_of_lt_of_le h1 hS.1)).trans (hS.2.1 x h1 h2), hS.2.2⟩
def DNew (μ : MI) (pc ci : Nat) (fs : List Value) (pc' : Nat) : Prop := ∃ (idx : Nat) (C : String) (T : u_T) (N : Nat) (ty0 : Nat → FieldType), decode μ.2.1 pc = .ok (.new idx, 3) ∧ pc + 3 = pc' ∧ vwCl[ci]? = some (C, T, N) ∧ Cond.classLink μ.1.cls idx C ∈ bigW ∧ Cond.instantiable C N ∈ bigW ∧ Cond.initialized C ∈ bigW ∧ (∀ w ∈ u_ws C T N, w ∈ bigW) ∧ (∀ k, k < N → parseFieldDescriptor (T k).2.2.1 = some (ty0 k)) ∧ fs.length = N ∧ (∀ j, j < N → defaultValue (ty0 j) = vp_V fs j) ∧ ∀ B b, fs.map (xv B b) = fs
def DNewA (μ : MI) (pc : Nat) (ty : FieldType) (pc' : Nat) : Prop := ∃ atype : ArrayType, decode μ.2.1 pc = .ok (.newarray atype, 2) ∧ newarray.typeOf atype = ty ∧ Cond.arrayClass ty ∈ bigW ∧ pc + 2 = pc'
def DNewQ (μ : MI) (pc : Nat) (C : String) (pc' : Nat) : Prop := ∃ idx : Nat, decode μ.2.1 pc = .ok (.anewarray idx, 3) ∧ Cond.classLink μ.1.cls idx C ∈ bigW ∧ (C = RX2 ∨ C = RX4) ∧ pc + 3 = pc'
def DObj (μ : MI) (pc pc' : Nat) : Prop := ∃ idx : Nat, decode μ.2.1 pc = .ok (.invokespecial idx, 3) ∧ pc + 3 = pc' ∧ Cond.methodLink μ.1.cls idx objectInit ∈ bigW ∧ Cond.instanceMethod objectInit ∈ bigW ∧ Cond.code objectInit ⟨#[0xb1]⟩ 1 none ∈ bigW
/-- a room under this one: d frames below, of 39 words each -/
def XFit (R : Room) (d : Nat) : Prop := d + 1 ≤ R.frames ∧ 39 * d + 39 ≤ R.locals
theorem xfit (d c s : Nat) : XFit (xR (d + 1, c, s)) d := ⟨Nat.le_refl _, by show 39 * d + 39 ≤ 39 * (d + 1); omega⟩
section XN
variable {Γ : State → Nat → Nat → Prop} {μ : MI} {R : Room} {κ : Nat × Nat} {pc pc' tgt : Nat} {L L' : List (Option Value)} {S S' : List Value} {h : XH} {Q : Option Value → XH → Prop}
theorem X.new {ci N : Nat} {fs : List Value} (I : DNew μ pc ci fs pc') (hN : XDom h N) (hlt : N < 1000000) (hc : κ.1 + 1 ≤ R.cells ∧ κ.2 + fs.length ≤ R.slots) (kk : X Γ μ R (κ.1 + 1, κ.2 + fs.length) pc' L (.ref N :: S) (xup h N (.inr (ci, fs))) Q) : X Γ μ R κ pc L S h Q := by
  intro p l e s m args below meth c B b D dA C Z E hκ H locs ls hR hS hl
  obtain ⟨idx, Cn, T, n, ty0, hd, rfl, h1, h2, h3, h4, h5, h6, rfl, h7, h8⟩ := I
  have hts := C.2.2.2.2.2.2.1
  have hKn := C.2.2.2.2.2.2.2.1.1.1 ci _ h1
  refine W.newcK C.1 C.2.1 C.2.2.2.2.2.1 (hts _ h2) (hts _ h3) (hts _ h4) rfl hd hc.1 hc.2 hKn.2.1 rfl fun H1 kC hkC e1 z1 o1 => ?_
  have ob := (u_born ty0 hts h5 hKn hkC e1 h6).to h7
  obtain ⟨hR1, hp⟩ := hR.push (c := .inr (ci, fs)) hN hlt z1 ⟨_, h1, by show t_OB _ _ _ _ _ (vp_V (fs.map (xv B b))); rw [h8]; exact ob⟩ o1
  have := kk p l e s m args below meth c B b D dA C Z E hc H1 locs ls hR1 (xpushed hS z1 o1) hl
  rw [hp]
  exact this
theorem X.newi {n : Int32} {M N : Nat} (I : DNewA μ pc .int pc') (hn : ¬ n < 0) (hM : n.toNatClampNeg = M) (hb : M ≤ 1000) (hN : XDom h N) (hlt : N < 1000000) (hc : κ.1 + 1 ≤ R.cells ∧ κ.2 + M ≤ R.slots) (kk : X Γ μ R (κ.1 + 1, κ.2 + M) pc' L (.ref N :: S) (xup h N (.inl (.int, M, .inl (fun _ => 0)))) Q) : X Γ μ R κ pc L (.int n :: S) h Q := by
  intro p l e s m args below meth c B b D dA C Z E hκ H locs ls hR hS hl
  obtain ⟨atype, hd, hty, h1, rfl⟩ := I
  have hts := C.2.2.2.2.2.2.1
  have hRA : s.vm.findClass ("[" ++ (FieldType.int).toString) = some (dA .int) := (C.2.2.2.2.2.2.2.1.1.2 0 _ rfl).2
  have cb : componentBytes FieldType.int ≤ 8 := by decide
  refine va_newaK C.1 C.2.1 (by rw [hty]; exact hts _ h1) rfl hd rfl hn hM (by rw [hty]; exact Nat.le_trans (Nat.mul_le_mul hb cb) (by decide)) hc.1 hc.2 rfl fun H1 cA e1 z1 o1 _ hNm => ?_
  rw [hty] at e1 hNm
  have hcA : cA = dA .int := Option.some.inj (hNm.symm.trans hRA)
  subst hcA
  obtain ⟨hR1, hp⟩ := hR.push (c := .inl (.int, M, .inl (fun _ => 0))) hN hlt z1 (by show H1[_]? = some (vp_cell _ _); exact e1) o1
  have := kk p l e s m args below meth c B b D dA C Z E hc H1 locs ls hR1 (xpushed hS z1 o1) hl
  rw [hp]
  exact this
theorem X.newl {n : Int32} {M N : Nat} (I : DNewA μ pc .long pc') (hn : ¬ n < 0) (hM : n.toNatClampNeg = M) (hb : M ≤ 1000) (hN : XDom h N) (hlt : N < 1000000) (hc : κ.1 + 1 ≤ R.cells ∧ κ.2 + M ≤ R.slots) (kk : X Γ μ R (κ.1 + 1, κ.2 + M) pc' L (.ref N :: S) (xup h N (.inl (.long, M, .inr (.inl (fun _ => 0))))) Q) : X Γ μ R κ pc L (.int n :: S) h Q := by
  intro p l e s m args below meth c B b D dA C Z E hκ H locs ls hR hS hl
  obtain ⟨atype, hd, hty, h1, rfl⟩ := I
  have hts := C.2.2.2.2.2.2.1
  have hRA : s.vm.findClass ("[" ++ (FieldType.long).toString) = some (dA .long) := (C.2.2.2.2.2.2.2.1.1.2 1 _ rfl).2
  have cb : componentBytes FieldType.long ≤ 8 := by decide
  refine va_newaK C.1 C.2.1 (by rw [hty]; exact hts _ h1) rfl hd rfl hn hM (by rw [hty]; exact Nat.le_trans (Nat.mul_le_mul hb cb) (by decide)) hc.1 hc.2 rfl fun H1 cA e1 z1 o1 _ hNm => ?_
  rw [hty] at e1 hNm
  have hcA : cA = dA .long := Option.some.inj (hNm.symm.trans hRA)
  subst hcA
  obtain ⟨hR1, hp⟩ := hR.push (c := .inl (.long, M, .inr (.inl (fun _ => 0)))) hN hlt z1 (by show H1[_]? = some (vp_cell _ _); exact e1) o1
  have := kk p l e s m args below meth c B b D dA C Z E hc H1 locs ls hR1 (xpushed hS z1 o1) hl
  rw [hp]
  exact this
theorem X.newc {n : Int32} {M N : Nat} (I : DNewA μ pc .char pc') (hn : ¬ n < 0) (hM : n.toNatClampNeg = M) (hb : M ≤ 1000) (hN : XDom h N) (hlt : N < 1000000) (hc : κ.1 + 1 ≤ R.cells ∧ κ.2 + M ≤ R.slots) (kk : X Γ μ R (κ.1 + 1, κ.2 + M) pc' L (.ref N :: S) (xup h N (.inl (.char, M, .inl (fun _ => 0)))) Q) : X Γ μ R κ pc L (.int n :: S) h Q := by
  intro p l e s m args below meth c B b D dA C Z E hκ H locs ls hR hS hl
  obtain ⟨atype, hd, hty, h1, rfl⟩ := I
  have hts := C.2.2.2.2.2.2.1
  have hRA : s.vm.findClass ("[" ++ (FieldType.char).toString) = some (dA .char) := (C.2.2.2.2.2.2.2.1.1.2 2 _ rfl).2
  have cb : componentBytes FieldType.char ≤ 8 := by decide
  refine va_newaK C.1 C.2.1 (by rw [hty]; exact hts _ h1) rfl hd rfl hn hM (by rw [hty]; exact Nat.le_trans (Nat.mul_le_mul hb cb) (by decide)) hc.1 hc.2 rfl fun H1 cA e1 z1 o1 _ hNm => ?_
  rw [hty] at e1 hNm
  have hcA : cA = dA .char := Option.some.inj (hNm.symm.trans hRA)
  subst hcA
  obtain ⟨hR1, hp⟩ := hR.push (c := .inl (.char, M, .inl (fun _ => 0))) hN hlt z1 (by show H1[_]? = some (vp_cell _ _); exact e1) o1
  have := kk p l e s m args below meth c B b D dA C Z E hc H1 locs ls hR1 (xpushed hS z1 o1) hl
  rw [hp]
  exact this
theorem X.newq {n : Int32} {M N : Nat} {Cn : String} (I : DNewQ μ pc Cn pc') (hn : ¬ n < 0) (hM : n.toNatClampNeg = M) (hb : M ≤ 1000) (hN : XDom h N) (hlt : N < 1000000) (hc : κ.1 + 1 ≤ R.cells ∧ κ.2 + M ≤ R.slots) (kk : X Γ μ R (κ.1 + 1, κ.2 + M) pc' L (.ref N :: S) (xup h N (.inl (.object Cn, M, .inr (.inr (.inr (.inr (fun _ => none))))))) Q) : X Γ μ R κ pc L (.int n :: S) h Q := by
  intro p l e s m args below meth c B b D dA C Z E hκ H locs ls hR hS hl
  obtain ⟨idx, hd, h1, hty, rfl⟩ := I
  have hts := C.2.2.2.2.2.2.1
  have hw := C.2.2.2.2.2.2.2.1
  have hAO : va_AO Cn s := by
    rcases hty with rfl | rfl
    · exact hw.2.2.1
    · exact hw.2.2.2
  have hRA : va_RA s (dA (.object Cn)) (.object Cn) := by
    rcases hty with rfl | rfl
    · exact (hw.1.2 3 _ rfl).2
    · exact (hw.1.2 4 _ rfl).2
  obtain ⟨kA0, comp0, -, -, -, hnm⟩ := hRA
  subst hM
  refine W.anew C.1 C.2.1 C.2.2.2.2.2.1 (hts _ h1) (va_AO.use hAO) rfl hd rfl hn (Nat.le_trans (Nat.mul_le_mul_right 4 hb) (by decide)) hc.1 hc.2 fun cA kA comp f1 f2 f3 f4 => ?_
  have hcA : cA = dA (.object Cn) := Option.some.inj (f1.symm.trans hnm)
  subst hcA
  generalize hH1 : H.push ({ cls := dA (.object Cn), slots := Array.replicate n.toNatClampNeg .null, vm := .none } : Cell) = H1
  have z1 : H1.size = H.size + 1 := by rw [← hH1, Array.size_push]
  have e1 : H1[H.size]? = some (arrV (dA (.object Cn)) n.toNatClampNeg (fun _ => .null)) := by rw [← hH1, Array.getElem?_push_size, ← arrV_new]
  have o1 : ∀ q : Nat, q < H.size → H1[q]? = H[q]? := fun q hq => by rw [← hH1, Array.getElem?_push, if_neg (Nat.ne_of_lt hq)]
  obtain ⟨hR1, hp⟩ := hR.push (c := .inl (.object Cn, n.toNatClampNeg, .inr (.inr (.inr (.inr (fun _ => none)))))) hN hlt z1 (by show H1[_]? = some (vp_cell _ _); exact e1) o1
  have := kk p l e s m args below meth c B b D dA C Z E hc H1 locs ls hR1 (xpushed hS z1 o1) hl
  show W p l e R s m args below meth c H1 locs (κ.1 + 1) (κ.2 + n.toNatClampNeg) Z (F0 m (pc + 3) ls (.ref H.size :: S.map (xv B b)))
  rw [hp]
  exact this
theorem xcat (B b : Nat) (S : List Value) : ((S.map (xv B b)).map fun v => v.category).sum = (S.map fun v => v.category).sum := by
  rw [List.map_map]
  congr 1
  exact List.map_congr_left (fun v _ => xv_cat B b v)
theorem X.objInit {a : Nat} (I : DObj μ pc pc') (hr : XFit R 0) (hS : (S.map fun v => v.category).sum ≤ 8) (kk : X Γ μ R κ pc' L S h Q) : X Γ μ R κ pc L (.ref a :: S) h Q := by
  obtain ⟨idx, hd, rfl, h1, h2, h3⟩ := I
  refine X.frame (fun {p l e s m args below meth c H locs cells slots Z B b ls D dA} C hl k2 => ?_) kk
  have hts := C.2.2.2.2.2.2.1
  exact W.objInit C.1 C.2.1 C.2.2.2.2.2.1 (hts _ h1) (hts _ h2) (hts _ h3) rfl (by rw [C.2.2.1]; exact hl.1) rfl hd hr.1 (by
    show 2 * 0 + ((S.map (xv B b)).map fun v => v.category).sum + 12 ≤ _
    rw [xcat]
    have := hr.2
    omega) (k2 ls hl)
/-! Math -/
def DMin (μ : MI) (pc pc' : Nat) : Prop := ∃ idx : Nat, decode μ.2.1 pc = .ok (.invokestatic idx, 3) ∧ pc + 3 = pc' ∧ Cond.methodLink μ.1.cls idx Lib.Math.min.name ∈ bigW ∧ Cond.static Lib.Math.min.name ∈ bigW ∧ Cond.initialized "java/lang/Math" ∈ bigW ∧ Cond.code Lib.Math.min.name Lib.Math.min.code 2 (some .int) ∈ bigW
def DMax (μ : MI) (pc pc' : Nat) : Prop := ∃ idx : Nat, decode μ.2.1 pc = .ok (.invokestatic idx, 3) ∧ pc + 3 = pc' ∧ Cond.methodLink μ.1.cls idx Lib.Math.max.name ∈ bigW ∧ Cond.static Lib.Math.max.name ∈ bigW ∧ Cond.initialized "java/lang/Math" ∈ bigW ∧ Cond.code Lib.Math.max.name Lib.Math.max.code 2 (some .int) ∈ bigW
theorem X.mmin {x y : Int32} (I : DMin μ pc pc') (hr : XFit R 0) (hS : (S.map fun v => v.category).sum ≤ 8) (kk : X Γ μ R κ pc' L (.int (if y < x then y else x) :: S) h Q) : X Γ μ R κ pc L (.int y :: .int x :: S) h Q := by
  obtain ⟨idx, hd, rfl, h1, h2, h3, h4⟩ := I
  intro p l e s m args below meth c B b D dA C Z E hκ H locs ls hR hS' hl
  have hts := C.2.2.2.2.2.2.1
  exact va_mmin C.1 C.2.1 (by rw [C.2.2.1]; exact hl.1.symm) C.2.2.2.2.2.1 (hts _ h1) (hts _ h2) (hts _ h3) (hts _ h4) hr.1 (by
    rw [xcat]
    have := hr.2
    omega) hκ.1 hκ.2 hd (kk p l e s m args below meth c B b D dA C Z E hκ H locs ls hR hS' hl)
theorem X.mmax {x y : Int32} (I : DMax μ pc pc') (hr : XFit R 0) (hS : (S.map fun v => v.category).sum ≤ 8) (kk : X Γ μ R κ pc' L (.int (if x < y then y else x) :: S) h Q) : X Γ μ R κ pc L (.int y :: .int x :: S) h Q := by
  obtain ⟨idx, hd, rfl, h1, h2, h3, h4⟩ := I
  intro p l e s m args below meth c B b D dA C Z E hκ H locs ls hR hS' hl
  have hts := C.2.2.2.2.2.2.1
  exact va_mmax C.1 C.2.1 (by rw [C.2.2.1]; exact hl.1.symm) C.2.2.2.2.2.1 (hts _ h1) (hts _ h2) (hts _ h3) (hts _ h4) hr.1 (by
    rw [xcat]
    have := hr.2
    omega) hκ.1 hκ.2 hd (kk p l e s m args below meth c B b D dA C Z E hκ H locs ls hR hS' hl)
/-! ends -/
theorem X.iret {x : Int32} (I : μ.2.2.2 = some .int ∧ decode μ.2.1 pc = .ok (.ireturn, 1)) (hq : Q (some (.int x)) h) : X Γ μ R κ pc L [.int x] h Q := by
  intro p l e s m args below meth c B b D dA C Z E hκ H locs ls hR hS hl
  exact W.widen hκ.1 hκ.2 (E (some (.int x)) h H locs ls pc hq hR hS (Or.inr ⟨x, .int, rfl, I.1, vp_nar_int x, I.2⟩))
theorem X.zret {x : Bool} (I : μ.2.2.2 = some .boolean ∧ decode μ.2.1 pc = .ok (.ireturn, 1)) (hq : Q (some (.int (bI x))) h) : X Γ μ R κ pc L [.int (bI x)] h Q := by
  intro p l e s m args below meth c B b D dA C Z E hκ H locs ls hR hS hl
  exact W.widen hκ.1 hκ.2 (E (some (.int (bI x))) h H locs ls pc hq hR hS (Or.inr ⟨bI x, .boolean, rfl, I.1, bI_nar x, I.2⟩))
theorem X.vret (I : μ.2.2.2 = none ∧ decode μ.2.1 pc = .ok (.return_, 1)) (hq : Q none h) : X Γ μ R κ pc L [] h Q := by
  intro p l e s m args below meth c B b D dA C Z E hκ H locs ls hR hS hl
  exact W.widen hκ.1 hκ.2 (E none h H locs ls pc hq hR hS (Or.inl ⟨rfl, I.1, I.2⟩))
/-! calls -/
def XM (μ' : MI) (n : Nat) : Prop := Cond.code μ'.1 μ'.2.1 μ'.2.2.1 μ'.2.2.2 ∈ bigW ∧ Cond.initialized μ'.1.cls ∈ bigW ∧ (μ'.1.cls ≠ "java/lang/invoke/MethodHandle" ∧ μ'.1.cls ≠ "java/lang/invoke/VarHandle" ∧ (parseMethodDescriptor μ'.1.desc).map (fun d => d.parameters.length) = some n) ∧ μ'.2.2.1 ≤ 20
theorem xgood {μ' : MI} (hc : Cond.code μ'.1 μ'.2.1 μ'.2.2.1 μ'.2.2.2 ∈ bigW) : GoodIn bigW (xws μ') := by
  intro w hw
  have : w ∈ bigW := by
    rcases List.mem_cons.mp hw with rfl | h1
    · exact hc
    · exact h1
  exact ⟨this, good_of_word (List.mem_filter.mp this).2⟩
theorem xroom {R : Room} {ρ : Nat × Nat × Nat} {M : Nat} (hf : XFit R ρ.1) (hM : M ≤ 20) : (xR ρ).frames + 1 ≤ R.frames ∧ 8 + (M + 11) + (xR ρ).locals ≤ R.locals := by
  obtain ⟨h1, h2⟩ := hf
  exact ⟨h1, by show 8 + (M + 11) + 39 * ρ.1 ≤ _; omega⟩
def DInvV (μ : MI) (pc : Nat) (μ' : MI) (ci n pc' : Nat) : Prop := ∃ (idx : Nat) (T : u_T) (N : Nat), decode μ.2.1 pc = .ok (.invokevirtual idx, 3) ∧ pc + 3 = pc' ∧ vwCl[ci]? = some (μ'.1.cls, T, N) ∧ Cond.methodLink μ.1.cls idx μ'.1 ∈ bigW ∧ Cond.instanceMethod μ'.1 ∈ bigW ∧ Cond.selects μ'.1.cls μ'.1 μ'.1 ∈ bigW ∧ XM μ' n
def DInvS (μ : MI) (pc : Nat) (μ' : MI) (n pc' : Nat) : Prop := ∃ (idx : Nat), decode μ.2.1 pc = .ok (.invokestatic idx, 3) ∧ pc + 3 = pc' ∧ (Cond.methodLink μ.1.cls idx μ'.1 ∈ bigW ∨ ∃ host, (μ.1.cls, idx, μ'.1, host) ∈ nestL) ∧ Cond.static μ'.1 ∈ bigW ∧ XM μ' n
def DInvI (μ : MI) (pc : Nat) (μ' : MI) (n pc' : Nat) : Prop := ∃ (idx : Nat), decode μ.2.1 pc = .ok (.invokespecial idx, 3) ∧ pc + 3 = pc' ∧ (Cond.methodLink μ.1.cls idx μ'.1 ∈ bigW ∨ ∃ host, (μ.1.cls, idx, μ'.1, host) ∈ nestL) ∧ Cond.instanceMethod μ'.1 ∈ bigW ∧ μ'.1.name = "<init>" ∧ μ'.2.2.2 = none ∧ XM μ' n
set_option maxHeartbeats 1000000 in
theorem xcall {p : Program} {l : Launch} {e : Env} {s : State} {m : MethodId} {args : Array Value} {below : List Frame} {meth : Method} {c : Code} {H : Heap} {locs : List Loc} {cells slots mc ms : Nat} {Z : State → Prop} {B b : Nat} {ls : Array Slot} {D : va_G} {dA : FieldType → ClassId} {Q' : Option Value → XH → Prop} {a : Array Value} {st0 : List Value} (S0 : List Value)
    (hr : va_Run p l e R s m args below meth c H locs cells slots mc ms (F0 m pc ls st0) (S0.map (xv B b)) (XPost B b D dA Q' a) (fun q => B ≤ q)) (hS : va_S (fun q => B ≤ q) s.heap H locs)
    (kk : ∀ (v : Option Value) (h' : XH) (H1 : Heap) (locs1 : List Loc), Q' v h' → XRel B b D dA h' H1 → va_S (fun q => B ≤ q) s.heap H1 locs1 → W p l e R s m args below meth c H1 locs1 (cells + mc) (slots + ms) Z (F0 m (pc + 3) ls ((v.toList ++ S0).map (xv B b)))) : W p l e R s m args below meth c H locs cells slots Z (F0 m pc ls st0) := by
  intro T hT X
  obtain ⟨v, st₀, t, T', L, h0, X', hL, e1, e2, ⟨⟨v', h', hv, hq, hR'⟩, hz, hk⟩, st⟩ := hr T hT X
  have hv' : v = v'.map (xv B b) := by cases hv; rfl
  subst hv'
  rw [h0] at hz hk
  obtain ⟨t2, a1, b1⟩ := kk v' h' T'.heap (locs ++ L) hq (by rw [e1]; exact hR') ⟨Nat.le_trans hS.1 (by rw [e1]; exact hz), fun q h1 h2 => by rw [e1, hk q (Nat.lt_of_lt_of_le h1 hS.1) h2]; exact hS.2.1 q h1 h2, fun q hq => by
      rcases List.mem_append.mp hq with h | h
      · exact hS.2.2 q h
      · exact hL q h⟩ T' rfl X'
  refine ⟨t2, st t2 ?_, b1⟩
  have : (v'.map (xv B b)).toList ++ S0.map (xv B b) = (v'.toList ++ S0).map (xv B b) := by cases v' <;> rfl
  rw [this]
  exact a1
theorem XPre.here {B b : Nat} {D : va_G} {dA : FieldType → ClassId} {av : List Value} {s U : State} {H : Heap} {locs : List Loc} (hU : U.heap = H) (hW : s.WarmedH U.vm) (hB : B ≤ s.heap.size) (hS : va_S (fun q => B ≤ q) s.heap H locs) (hR : XRel B b D dA h H) (hw : XWorld D dA s) : XPre B b D dA av h (av.map (xv B b)).toArray U :=
  ⟨rfl, by rw [hU]; exact Nat.le_trans hB hS.1, by rw [hU]; exact hR, hw.warm hW⟩
set_option maxHeartbeats 2000000 in
theorem X.callV {μ' : MI} {ρ : Nat × Nat × Nat} {ci n a : Nat} {fs As : List Value} {S0 : List Value} {Q' : Option Value → XH → Prop} (I : DInvV μ pc μ' ci n pc') (hM : MetX μ' ρ (.ref a :: As) h Q') (ha : h a = some (.inr (ci, fs))) (hS : S = As.reverse ++ .ref a :: S0) (hn : As.length = n) (hf : XFit R ρ.1) (hcat : (S0.map fun v => v.category).sum ≤ 8) (hcp : κ.1 + ρ.2.1 ≤ R.cells ∧ κ.2 + ρ.2.2 ≤ R.slots) (kk : ∀ (v : Option Value) (h' : XH), Q' v h' → X Γ μ R (κ.1 + ρ.2.1, κ.2 + ρ.2.2) pc' L (v.toList ++ S0) h' Q) : X Γ μ R κ pc L S h Q := by
  intro p l e s m args below meth c B b D dA C Z E hκ H locs ls hR hSv hl
  obtain ⟨idx, T, N, hd, rfl, hc, h1, h2, h3, h4, h5, h6, h7⟩ := I
  have hts := C.2.2.2.2.2.2.1
  have hw := C.2.2.2.2.2.2.2.1
  subst hS
  refine xcall S0 (va_runV (Ts := bigW) (As := As.map (xv B b)) (b := xphi B b a) (C := μ'.1.cls) ⟨C.1, C.2.1, C.2.2.1, C.2.2.2.2.2.1, hts⟩ (hM l B b D dA) ⟨callB_of n hts (xgood h4) rfl rfl rfl (hts _ h5) (hts _ h1) h6 (xroom hf h7), hts _ h2, hts _ h3⟩ ⟨XPre.blind, va_recv hw.1 (xone (hR.at ha)) hc (q0 := 0) rfl, fun U hU hW => XPre.here hU hW C.2.2.2.2.2.2.2.2.1 hSv hR hw⟩ rfl (by rw [List.length_map]; exact hn) hl.1 (by show List.map _ _ = _; rw [List.map_append, List.map_reverse]; rfl) (lv_room (by rw [xcat]; exact hcat)) hd hcp) hSv (fun v h' H1 locs1 hq hR1 hS1 => kk v h' hq p l e s m args below meth c B b D dA C Z E hcp H1 locs1 ls hR1 hS1 hl)
set_option maxHeartbeats 2000000 in
theorem X.callS {μ' : MI} {ρ : Nat × Nat × Nat} {n : Nat} {As : List Value} {S0 : List Value} {Q' : Option Value → XH → Prop} (I : DInvS μ pc μ' n pc') (hM : MetX μ' ρ As h Q') (hS : S = As.reverse ++ S0) (hn : As.length = n) (hf : XFit R ρ.1) (hcat : (S0.map fun v => v.category).sum ≤ 8) (hcp : κ.1 + ρ.2.1 ≤ R.cells ∧ κ.2 + ρ.2.2 ≤ R.slots) (kk : ∀ (v : Option Value) (h' : XH), Q' v h' → X Γ μ R (κ.1 + ρ.2.1, κ.2 + ρ.2.2) pc' L (v.toList ++ S0) h' Q) : X Γ μ R κ pc L S h Q := by
  intro p l e s m args below meth c B b D dA C Z E hκ H locs ls hR hSv hl
  obtain ⟨idx, hd, rfl, h1, h2, h4, h5, h6, h7⟩ := I
  have hts := C.2.2.2.2.2.2.1
  have hw := C.2.2.2.2.2.2.2.1
  subst hS
  have kk2 := fun v h' H1 locs1 (hq : Q' v h') hR1 hS1 => kk v h' hq p l e s m args below meth c B b D dA C Z E hcp H1 locs1 ls hR1 hS1 hl
  have hst : List.map (xv B b) (As.reverse ++ S0) = (As.map (xv B b)).reverse ++ S0.map (xv B b) := by rw [List.map_append, List.map_reverse]
  rcases h1 with h1 | ⟨host, h1⟩
  · exact xcall S0 (va_runS (Ts := bigW) (As := As.map (xv B b)) ⟨C.1, C.2.1, C.2.2.1, C.2.2.2.2.2.1, hts⟩ (hM l B b D dA) ⟨callB_of n hts (xgood h4) rfl rfl rfl (hts _ h5) (hts _ h1) h6 (xroom hf h7), hts _ h2⟩ ⟨XPre.blind, fun U hU hW => XPre.here hU hW C.2.2.2.2.2.2.2.2.1 hSv hR hw⟩ rfl (by rw [List.length_map]; exact hn) hl.1 hst (lv_room (by rw [xcat]; exact hcat)) hd hcp) hSv kk2
  · exact xcall S0 (va_runSN (Ts := bigW) (As := As.map (xv B b)) ⟨C.1, C.2.1, C.2.2.1, C.2.2.2.2.2.1, hts⟩ (hM l B b D dA) ⟨va_cnB n hts (xgood h4) rfl rfl rfl (hw.2.1 _ h1) (hts _ h5) h6 (xroom hf h7), hts _ h2, trivial⟩ ⟨XPre.blind, fun U hU hW => XPre.here hU hW C.2.2.2.2.2.2.2.2.1 hSv hR hw⟩ rfl (by rw [List.length_map]; exact hn) hl.1 hst (lv_room (by rw [xcat]; exact hcat)) hd hcp) hSv kk2
set_option maxHeartbeats 2000000 in
theorem X.callI {y' : MethodName} {bc : ByteArray} {M : Nat} {ρ : Nat × Nat × Nat} {n a : Nat} {As : List Value} {S0 : List Value} {Q' : Option Value → XH → Prop} (I : DInvI μ pc (y', bc, M, none) n pc') (hM : MetX (y', bc, M, none) ρ (.ref a :: As) h Q') (hS : S = As.reverse ++ .ref a :: S0) (hn : As.length = n) (hf : XFit R ρ.1) (hcat : (S0.map fun v => v.category).sum ≤ 8) (hcp : κ.1 + ρ.2.1 ≤ R.cells ∧ κ.2 + ρ.2.2 ≤ R.slots) (kk : ∀ (v : Option Value) (h' : XH), Q' v h' → X Γ μ R (κ.1 + ρ.2.1, κ.2 + ρ.2.2) pc' L (v.toList ++ S0) h' Q) : X Γ μ R κ pc L S h Q := by
  intro p l e s m args below meth c B b D dA C Z E hκ H locs ls hR hSv hl
  obtain ⟨idx, hd, rfl, h1, h2, hnm, -, h4, h5, h6, h7⟩ := I
  have hts := C.2.2.2.2.2.2.1
  have hw := C.2.2.2.2.2.2.2.1
  subst hS
  have kk2 := fun v h' H1 locs1 (hq : Q' v h') hR1 hS1 => kk v h' hq p l e s m args below meth c B b D dA C Z E hcp H1 locs1 ls hR1 hS1 hl
  have hst : List.map (xv B b) (As.reverse ++ .ref a :: S0) = (As.map (xv B b)).reverse ++ .ref (xphi B b a) :: S0.map (xv B b) := by rw [List.map_append, List.map_reverse]; rfl
  rcases h1 with h1 | ⟨host, h1⟩
  · exact xcall S0 (va_runI (Ts := bigW) (As := As.map (xv B b)) (b := xphi B b a) ⟨C.1, C.2.1, C.2.2.1, C.2.2.2.2.2.1, hts⟩ (hM l B b D dA) ⟨callB_of n hts (xgood h4) rfl rfl rfl (hts _ h5) (hts _ h1) h6 (xroom hf h7), hnm, hts _ h2⟩ ⟨XPre.blind, fun U hU hW => XPre.here (av := .ref a :: As) hU hW C.2.2.2.2.2.2.2.2.1 hSv hR hw⟩ rfl (by rw [List.length_map]; exact hn) hl.1 hst (lv_room (by rw [xcat]; exact hcat)) hd hcp) hSv kk2
  · exact xcall S0 (va_runIN (Ts := bigW) (As := As.map (xv B b)) (b := xphi B b a) ⟨C.1, C.2.1, C.2.2.1, C.2.2.2.2.2.1, hts⟩ (hM l B b D dA) ⟨va_cnB n hts (xgood h4) rfl rfl rfl (hw.2.1 _ h1) (hts _ h5) h6 (xroom hf h7), hnm, hts _ h2⟩ ⟨XPre.blind, fun U hU hW => XPre.here (av := .ref a :: As) hU hW C.2.2.2.2.2.2.2.2.1 hSv hR hw⟩ rfl (by rw [List.length_map]; exact hn) hl.1 hst (lv_room (by rw [xcat]; exact hcat)) hd hcp) hSv kk2
end XN
end
section
/-! X, fourth part: arraycopy, the law's script, short forms -/
def DCopy (μ : MI) (pc pc' : Nat) : Prop := ∃ idx : Nat, decode μ.2.1 pc = .ok (.invokestatic idx, 3) ∧ pc + 3 = pc' ∧ Cond.methodLink μ.1.cls idx arraycopyName ∈ bigW ∧ Cond.native arraycopyName ∈ bigW ∧ Cond.static arraycopyName ∈ bigW ∧ Cond.initialized "java/lang/System" ∈ bigW
theorem xnn (z : Int32) (hz : ¬ z < 0) : z.toInt = (z.toNatClampNeg : Int) := by
  have hz0 : (0 : Int) ≤ z.toInt := by
    have := Int32.not_lt.mp hz
    simpa using Int32.le_iff_toInt_le.mp this
  show z.toInt = ((z.toInt.toNat : Nat) : Int)
  omega
theorem xnative : nativeFrameWords "java/lang/System" "arraycopy" 5 ≤ 19 := by decide
section XS
variable {Γ : State → Nat → Nat → Prop} {μ : MI} {R : Room} {κ : Nat × Nat} {pc pc' tgt : Nat} {L L' : List (Option Value)} {S S' : List Value} {h : XH} {Q : Option Value → XH → Prop}
set_option maxHeartbeats 2000000 in
theorem X.copyi {a0 a1 n0 n1 : Nat} {f g : Nat → Int32} {sp dp n : Int32} (I : DCopy μ pc pc') (h0 : h a0 = some (.inl (.int, n0, .inl f))) (h1 : h a1 = some (.inl (.int, n1, .inl g))) (hr : XFit R 0) (hcat : (S.map fun v => v.category).sum ≤ 8) (q1 : ¬ sp < 0) (q2 : ¬ dp < 0) (q3 : ¬ n < 0) (q4 : sp.toNatClampNeg + n.toNatClampNeg ≤ n0) (q5 : dp.toNatClampNeg + n.toNatClampNeg ≤ n1) (kk : X Γ μ R κ pc' L S (xup h a1 (.inl (.int, n1, .inl (va_cpy f g sp.toNatClampNeg dp.toNatClampNeg n.toNatClampNeg)))) Q) : X Γ μ R κ pc L (.int n :: .int dp :: .ref a1 :: .int sp :: .ref a0 :: S) h Q := by
  obtain ⟨idx, hd, rfl, l1, l2, l3, l4⟩ := I
  intro p l e s m args below meth c B b D dA C Z E hκ H locs ls hR hS hl T hT Y
  have hts := C.2.2.2.2.2.2.1
  have hK := C.2.2.2.2.2.2.2.1.1
  have hc0 : H[xphi B b a0]? = some (vp_cell (dA .int) (n0, .inl f)) := hR.at h0
  have hc1 : H[xphi B b a1]? = some (vp_cell (dA .int) (n1, .inl g)) := hR.at h1
  obtain ⟨-, k0, hk0, cm0, hkk0⟩ := (hK.2 0 _ rfl).1 n0 (fun j => .int (f j))
  obtain ⟨-, k1, hk1, cm1, hkk1⟩ := (hK.2 0 _ rfl).1 n1 (fun j => .int (g j))
  obtain ⟨vm', X', step⟩ := Y.arraycopy C.1 C.2.2.2.2.2.1 (hts _ l1) (hts _ l2) (hts _ l3) (hts _ l4) (src := xphi B b a0) (dst := xphi B b a1) (cs := vp_cell (dA .int) (n0, .inl f)) (cd := vp_cell (dA .int) (n1, .inl g)) (srcPos := sp) (destPos := dp) (n := n) (by rw [hT]; exact hc0) (by rw [hT]; exact hc1)
    (fun _ h => by cases h) (fun _ h => by cases h) (fun h => by cases h) (fun h => by cases h) hk0 hk1 hkk0 hkk1 (by simp [refKind]) q1 q2 q3
    (by rw [xnn sp q1, xnn n q3]; show ¬ _ > ((arrV (dA .int) n0 (fun j => .int (f j))).slots.size : Int); rw [arrV_size]; omega)
    (by rw [xnn dp q2, xnn n q3]; show ¬ _ > ((arrV (dA .int) n1 (fun j => .int (g j))).slots.size : Int); rw [arrV_size]; omega)
    (fun vm₁ _ i hi => by
      have e : (vp_cell (dA .int) (n0, .inl f)).slots.getD (sp.toNatClampNeg + i) .null = .int (f (sp.toNatClampNeg + i)) := by
        show (arrV (dA .int) n0 (fun j => .int (f j))).slots.getD _ _ = _
        rw [Array.getD_eq_getD_getElem?, arrV_read _ _ (by omega)]
        rfl
      refine ⟨?_, ?_⟩
      · rw [e]
        rfl
      · rw [e]
        exact trivial)
    (g := F0 m pc ls (.int n :: .int dp :: .ref (xphi B b a1) :: .int sp :: .ref (xphi B b a0) :: S.map (xv B b))) rfl (by rw [C.2.2.1]; exact hl.1) (rest := S.map (xv B b)) rfl (by rw [C.2.1]; exact hd) hr.1 (by
      show 2 * 0 + _ + _ ≤ _
      rw [xcat]
      have := hr.2
      have := xnative
      omega)
  have e1 : copied (vp_cell (dA .int) (n0, .inl f)) (vp_cell (dA .int) (n1, .inl g)) sp dp n = vp_cell (dA .int) (n1, .inl (va_cpy f g sp.toNatClampNeg dp.toNatClampNeg n.toNatClampNeg)) := va_copied (fun z => .int z) (dA .int) (dA .int) f g q4
  rw [e1] at X' step
  have hlt : xphi B b a1 < H.size := (Array.getElem?_eq_some_iff.mp hc1).1
  have hheap : ((T.setVm vm').setCell (xphi B b a1) (vp_cell (dA .int) (n1, .inl (va_cpy f g sp.toNatClampNeg dp.toNatClampNeg n.toNatClampNeg)))).heap = H.setIfInBounds (xphi B b a1) (vp_cell (dA .int) (n1, .inl (va_cpy f g sp.toNatClampNeg dp.toNatClampNeg n.toNatClampNeg))) := by rw [← hT]; rfl
  have oq : ∀ q : Nat, q ≠ xphi B b a1 → (H.setIfInBounds (xphi B b a1) (vp_cell (dA .int) (n1, .inl (va_cpy f g sp.toNatClampNeg dp.toNatClampNeg n.toNatClampNeg))))[q]? = H[q]? := fun q hq => by simp [Array.getElem?_setIfInBounds, Ne.symm hq]
  obtain ⟨t, a1', b1⟩ := kk p l e s m args below meth c B b D dA C Z E hκ _ _ ls (hR.put h1 (by simp) (show (H.setIfInBounds (xphi B b a1) _)[xphi B b a1]? = some _ by simp [Array.getElem?_setIfInBounds, hlt]; rfl) oq) ⟨by simp; exact hS.1, fun q g1 g2 => by
      rw [oq q (fun e => g2 (by rw [e]; exact hR.ge h1))]
      exact hS.2.1 q g1 g2, fun q hq => by
      rcases List.mem_append.mp hq with h | h
      · exact hS.2.2 q h
      · obtain ⟨z, -, hz⟩ := List.mem_map.mp h
        rw [← hz]
        exact hR.ge h1⟩ hl _ hheap X'
  exact ⟨t, step t a1', b1⟩
set_option maxHeartbeats 2000000 in
theorem X.copyl {a0 a1 n0 n1 : Nat} {f g : Nat → Int64} {sp dp n : Int32} (I : DCopy μ pc pc') (h0 : h a0 = some (.inl (.long, n0, .inr (.inl f)))) (h1 : h a1 = some (.inl (.long, n1, .inr (.inl g)))) (hr : XFit R 0) (hcat : (S.map fun v => v.category).sum ≤ 8) (q1 : ¬ sp < 0) (q2 : ¬ dp < 0) (q3 : ¬ n < 0) (q4 : sp.toNatClampNeg + n.toNatClampNeg ≤ n0) (q5 : dp.toNatClampNeg + n.toNatClampNeg ≤ n1) (kk : X Γ μ R κ pc' L S (xup h a1 (.inl (.long, n1, .inr (.inl (va_cpy f g sp.toNatClampNeg dp.toNatClampNeg n.toNatClampNeg))))) Q) : X Γ μ R κ pc L (.int n :: .int dp :: .ref a1 :: .int sp :: .ref a0 :: S) h Q := by
  obtain ⟨idx, hd, rfl, l1, l2, l3, l4⟩ := I
  intro p l e s m args below meth c B b D dA C Z E hκ H locs ls hR hS hl T hT Y
  have hts := C.2.2.2.2.2.2.1
  have hK := C.2.2.2.2.2.2.2.1.1
  have hc0 : H[xphi B b a0]? = some (vp_cell (dA .long) (n0, .inr (.inl f))) := hR.at h0
  have hc1 : H[xphi B b a1]? = some (vp_cell (dA .long) (n1, .inr (.inl g))) := hR.at h1
  obtain ⟨-, k0, hk0, cm0, hkk0⟩ := (hK.2 1 _ rfl).1 n0 (fun j => .long (f j))
  obtain ⟨-, k1, hk1, cm1, hkk1⟩ := (hK.2 1 _ rfl).1 n1 (fun j => .long (g j))
  obtain ⟨vm', X', step⟩ := Y.arraycopy C.1 C.2.2.2.2.2.1 (hts _ l1) (hts _ l2) (hts _ l3) (hts _ l4) (src := xphi B b a0) (dst := xphi B b a1) (cs := vp_cell (dA .long) (n0, .inr (.inl f))) (cd := vp_cell (dA .long) (n1, .inr (.inl g))) (srcPos := sp) (destPos := dp) (n := n) (by rw [hT]; exact hc0) (by rw [hT]; exact hc1)
    (fun _ h => by cases h) (fun _ h => by cases h) (fun h => by cases h) (fun h => by cases h) hk0 hk1 hkk0 hkk1 (by simp [refKind]) q1 q2 q3
    (by rw [xnn sp q1, xnn n q3]; show ¬ _ > ((arrV (dA .long) n0 (fun j => .long (f j))).slots.size : Int); rw [arrV_size]; omega)
    (by rw [xnn dp q2, xnn n q3]; show ¬ _ > ((arrV (dA .long) n1 (fun j => .long (g j))).slots.size : Int); rw [arrV_size]; omega)
    (fun vm₁ _ i hi => by
      have e : (vp_cell (dA .long) (n0, .inr (.inl f))).slots.getD (sp.toNatClampNeg + i) .null = .long (f (sp.toNatClampNeg + i)) := by
        show (arrV (dA .long) n0 (fun j => .long (f j))).slots.getD _ _ = _
        rw [Array.getD_eq_getD_getElem?, arrV_read _ _ (by omega)]
        rfl
      refine ⟨?_, ?_⟩
      · rw [e]
        rfl
      · rw [e]
        exact trivial)
    (g := F0 m pc ls (.int n :: .int dp :: .ref (xphi B b a1) :: .int sp :: .ref (xphi B b a0) :: S.map (xv B b))) rfl (by rw [C.2.2.1]; exact hl.1) (rest := S.map (xv B b)) rfl (by rw [C.2.1]; exact hd) hr.1 (by
      show 2 * 0 + _ + _ ≤ _
      rw [xcat]
      have := hr.2
      have := xnative
      omega)
  have e1 : copied (vp_cell (dA .long) (n0, .inr (.inl f))) (vp_cell (dA .long) (n1, .inr (.inl g))) sp dp n = vp_cell (dA .long) (n1, .inr (.inl (va_cpy f g sp.toNatClampNeg dp.toNatClampNeg n.toNatClampNeg))) := va_copied (fun z => .long z) (dA .long) (dA .long) f g q4
  rw [e1] at X' step
  have hlt : xphi B b a1 < H.size := (Array.getElem?_eq_some_iff.mp hc1).1
  have hheap : ((T.setVm vm').setCell (xphi B b a1) (vp_cell (dA .long) (n1, .inr (.inl (va_cpy f g sp.toNatClampNeg dp.toNatClampNeg n.toNatClampNeg))))).heap = H.setIfInBounds (xphi B b a1) (vp_cell (dA .long) (n1, .inr (.inl (va_cpy f g sp.toNatClampNeg dp.toNatClampNeg n.toNatClampNeg)))) := by rw [← hT]; rfl
  have oq : ∀ q : Nat, q ≠ xphi B b a1 → (H.setIfInBounds (xphi B b a1) (vp_cell (dA .long) (n1, .inr (.inl (va_cpy f g sp.toNatClampNeg dp.toNatClampNeg n.toNatClampNeg)))))[q]? = H[q]? := fun q hq => by simp [Array.getElem?_setIfInBounds, Ne.symm hq]
  obtain ⟨t, a1', b1⟩ := kk p l e s m args below meth c B b D dA C Z E hκ _ _ ls (hR.put h1 (by simp) (show (H.setIfInBounds (xphi B b a1) _)[xphi B b a1]? = some _ by simp [Array.getElem?_setIfInBounds, hlt]; rfl) oq) ⟨by simp; exact hS.1, fun q g1 g2 => by
      rw [oq q (fun e => g2 (by rw [e]; exact hR.ge h1))]
      exact hS.2.1 q g1 g2, fun q hq => by
      rcases List.mem_append.mp hq with h | h
      · exact hS.2.2 q h
      · obtain ⟨z, -, hz⟩ := List.mem_map.mp h
        rw [← hz]
        exact hR.ge h1⟩ hl _ hheap X'
  exact ⟨t, step t a1', b1⟩
/-- the script: cell number 1000000, at b, below all cells of ours -/
def xScr (xs : Nat → Int32) (N : Nat) : State → Nat → Nat → Prop := fun s B b => va_X b N xs s s.heap ∧ b < s.heap.size ∧ B = s.heap.size
theorem X.sld {xs : Nat → Int32} {N : Nat} {i : Int32} (I : D1 μ pc .iaload 1 pc') (hin : vp_in i N) (kk : X (xScr xs N) μ R κ pc' L (.int (xs i.toNatClampNeg) :: S) h Q) : X (xScr xs N) μ R κ pc L (.int i :: .ref 1000000 :: S) h Q := by
  obtain ⟨hd, rfl⟩ := I
  intro p l e s m args below meth c B b D dA C Z E hκ H locs ls hR hS hl
  obtain ⟨g1, g2, g3⟩ := C.2.2.2.2.2.2.2.2.2.2
  exact va_sld C.1 C.2.1 g1 g2 (by show ¬ B ≤ b; omega) hS hin hd (kk p l e s m args below meth c B b D dA C Z E hκ H locs ls hR hS hl)
theorem X.slen {xs : Nat → Int32} {N : Nat} (I : D1 μ pc .arraylength 1 pc') (kk : X (xScr xs N) μ R κ pc' L (.int (nI N) :: S) h Q) : X (xScr xs N) μ R κ pc L (.ref 1000000 :: S) h Q := by
  obtain ⟨hd, rfl⟩ := I
  intro p l e s m args below meth c B b D dA C Z E hκ H locs ls hR hS hl
  obtain ⟨g1, g2, g3⟩ := C.2.2.2.2.2.2.2.2.2.2
  exact va_slen C.1 C.2.1 g1 g2 (by show ¬ B ≤ b; omega) hS hd (kk p l e s m args below meth c B b D dA C Z E hκ H locs ls hR hS hl)
theorem X.imp {Q1 : Option Value → XH → Prop} (k : X Γ μ R κ pc L S h Q1) (hq : ∀ v h', Q1 v h' → Q v h') : X Γ μ R κ pc L S h Q := by
  intro p l e s m args below meth c B b D dA C Z E hκ H locs ls hR hS hl
  exact k p l e s m args below meth c B b D dA C Z (fun v h' H locs ls pc hv => E v h' H locs ls pc (hq v h' hv)) hκ H locs ls hR hS hl
end XS
/-- a method that reads: the answer r, nothing changed -/
abbrev MetI (μ : MI) (ρ : Nat × Nat × Nat) (av : List Value) (h : XH) (r : Int32) : Prop := MetX μ ρ av h (fun v h' => v = some (.int r) ∧ h' = h)
/-- a method with an answer and a new picture -/
abbrev MetH (μ : MI) (ρ : Nat × Nat × Nat) (av : List Value) (h : XH) (r : Int32) (h2 : XH) : Prop := MetX μ ρ av h (fun v h' => v = some (.int r) ∧ h' = h2)
/-- a void method with a new picture -/
abbrev MetV (μ : MI) (ρ : Nat × Nat × Nat) (av : List Value) (h : XH) (h2 : XH) : Prop := MetX μ ρ av h (fun v h' => v = none ∧ h' = h2)
section XZ
variable {Γ : State → Nat → Nat → Prop} {μ : MI} {R : Room} {κ : Nat × Nat} {pc pc' tgt : Nat} {L L' : List (Option Value)} {S S' : List Value} {h : XH} {Q : Option Value → XH → Prop}
theorem xcap {κ : Nat × Nat} {R : Room} (hκ : κ.1 ≤ R.cells ∧ κ.2 ≤ R.slots) : κ.1 + 0 ≤ R.cells ∧ κ.2 + 0 ≤ R.slots := hκ
theorem X.cap (k : κ.1 ≤ R.cells ∧ κ.2 ≤ R.slots → X Γ μ R κ pc L S h Q) : X Γ μ R κ pc L S h Q := by
  intro p l e s m args below meth c B b D dA C Z E hκ
  exact k hκ p l e s m args below meth c B b D dA C Z E hκ
theorem X.callVi {μ' : MI} {d ci n a : Nat} {fs As : List Value} {S0 : List Value} {r : Int32} {h2 : XH} (I : DInvV μ pc μ' ci n pc') (hM : MetH μ' (d, 0, 0) (.ref a :: As) h r h2) (ha : h a = some (.inr (ci, fs))) (hS : S = As.reverse ++ .ref a :: S0) (hn : As.length = n) (hf : XFit R d) (hcat : (S0.map fun v => v.category).sum ≤ 8) (kk : X Γ μ R κ pc' L (.int r :: S0) h2 Q) : X Γ μ R κ pc L S h Q :=
  X.cap (fun hκ => X.callV I hM ha hS hn hf hcat hκ (fun v h' hq => by obtain ⟨rfl, rfl⟩ := hq; exact kk))
theorem X.callVv {μ' : MI} {d ci n a : Nat} {fs As : List Value} {S0 : List Value} {h2 : XH} (I : DInvV μ pc μ' ci n pc') (hM : MetV μ' (d, 0, 0) (.ref a :: As) h h2) (ha : h a = some (.inr (ci, fs))) (hS : S = As.reverse ++ .ref a :: S0) (hn : As.length = n) (hf : XFit R d) (hcat : (S0.map fun v => v.category).sum ≤ 8) (kk : X Γ μ R κ pc' L S0 h2 Q) : X Γ μ R κ pc L S h Q :=
  X.cap (fun hκ => X.callV I hM ha hS hn hf hcat hκ (fun v h' hq => by obtain ⟨rfl, rfl⟩ := hq; exact kk))
theorem X.callSi {μ' : MI} {d n : Nat} {As : List Value} {S0 : List Value} {r : Int32} {h2 : XH} (I : DInvS μ pc μ' n pc') (hM : MetH μ' (d, 0, 0) As h r h2) (hS : S = As.reverse ++ S0) (hn : As.length = n) (hf : XFit R d) (hcat : (S0.map fun v => v.category).sum ≤ 8) (kk : X Γ μ R κ pc' L (.int r :: S0) h2 Q) : X Γ μ R κ pc L S h Q :=
  X.cap (fun hκ => X.callS I hM hS hn hf hcat hκ (fun v h' hq => by obtain ⟨rfl, rfl⟩ := hq; exact kk))
end XZ
/-- a loop that counts: from behind its last round back to its first -/
theorem xloop {P : Nat → Prop} (n : Nat) (hn : P n) (hs : ∀ k, k < n → P (k + 1) → P k) : ∀ k, k ≤ n → P k := by
  intro k hk
  obtain ⟨j, rfl⟩ : ∃ j, n = k + j := ⟨n - k, by omega⟩
  clear hk
  induction j generalizing k with
  | zero => exact hn
  | succ j ih => exact hs k (by omega) (ih (k + 1) (by rw [show k + 1 + j = k + (j + 1) by omega]; exact hn) (fun i hi => hs i (by omega)))
end
section
theorem xl_RX0_3 : Cond.methodLink RX0 3 objectInit ∈ bigW := bigW_at 190 (by decide +kernel) rfl
theorem xl_objI : Cond.instanceMethod objectInit ∈ bigW := bigW_at 46 (by decide +kernel) rfl
theorem xl_objC : Cond.code objectInit ⟨#[0xb1]⟩ 1 none ∈ bigW := bigW_at 47 (by decide +kernel) rfl
theorem xq_int : Cond.arrayClass .int ∈ bigW := bigW_at 101 (by decide +kernel) rfl
theorem xl_RX0_25 : Cond.methodLink RX0 25 yX0_worthOf ∈ bigW := bigW_at 525 (by decide +kernel) rfl
theorem xi_X0_worthOf : Cond.instanceMethod yX0_worthOf ∈ bigW := bigW_at 526 (by decide +kernel) rfl
theorem xs_X0_worthOf : Cond.selects RX0 yX0_worthOf yX0_worthOf ∈ bigW := bigW_at 527 (by decide +kernel) rfl
theorem xm_X0_worthOf : XM mX0_worthOf 3 := ⟨bigW_at 528 (by decide +kernel) rfl, bigW_at 34 (by decide +kernel) rfl, ⟨by decide +kernel, by decide +kernel, by decide +kernel⟩, by decide⟩
theorem xf_RX0_21 : XFld RX0 21 0 3 := ⟨RX0, TX0, 4, rfl, by decide, bigW_at 196 (by decide +kernel) rfl, xw0⟩
theorem xl_RX0_29 : Cond.methodLink RX0 29 yX0_spread ∈ bigW := bigW_at 529 (by decide +kernel) rfl
theorem xi_X0_spread : Cond.instanceMethod yX0_spread ∈ bigW := bigW_at 530 (by decide +kernel) rfl
theorem xs_X0_spread : Cond.selects RX0 yX0_spread yX0_spread ∈ bigW := bigW_at 531 (by decide +kernel) rfl
theorem xm_X0_spread : XM mX0_spread 3 := ⟨bigW_at 532 (by decide +kernel) rfl, bigW_at 34 (by decide +kernel) rfl, ⟨by decide +kernel, by decide +kernel, by decide +kernel⟩, by decide⟩
theorem xf_RX0_18 : XFld RX0 18 0 2 := ⟨RX0, TX0, 4, rfl, by decide, bigW_at 195 (by decide +kernel) rfl, xw0⟩
theorem xf_RX0_9 : XFld RX0 9 0 0 := ⟨RX0, TX0, 4, rfl, by decide, bigW_at 191 (by decide +kernel) rfl, xw0⟩
theorem xf_RX0_15 : XFld RX0 15 0 1 := ⟨RX0, TX0, 4, rfl, by decide, bigW_at 193 (by decide +kernel) rfl, xw0⟩
theorem xl_RX1_3 : Cond.methodLink RX1 3 objectInit ∈ bigW := bigW_at 150 (by decide +kernel) rfl
theorem xc_RX1_9 : Cond.classLink RX1 9 RX2 ∈ bigW := bigW_at 151 (by decide +kernel) rfl
theorem xf_RX1_11 : XFld RX1 11 1 0 := ⟨RX1, TX1, 2, rfl, by decide, bigW_at 154 (by decide +kernel) rfl, xw1⟩
theorem xn_RX2 : Cond.instantiable RX2 7 ∈ bigW := bigW_at 55 (by decide +kernel) rfl
theorem xz_RX2 : Cond.initialized RX2 ∈ bigW := bigW_at 31 (by decide +kernel) rfl
theorem xl_RX1_17 : Cond.methodLink RX1 17 yX2_init ∈ bigW := bigW_at 153 (by decide +kernel) rfl
theorem xi_X2_init : Cond.instanceMethod yX2_init ∈ bigW := bigW_at 57 (by decide +kernel) rfl
theorem xm_X2_init : XM mX2_init 0 := ⟨bigW_at 58 (by decide +kernel) rfl, bigW_at 31 (by decide +kernel) rfl, ⟨by decide +kernel, by decide +kernel, by decide +kernel⟩, by decide⟩
theorem xf_RX1_18 : XFld RX1 18 1 1 := ⟨RX1, TX1, 2, rfl, by decide, bigW_at 155 (by decide +kernel) rfl, xw1⟩
theorem xl_RX1_22 : Cond.methodLink RX1 22 yX2_become ∈ bigW := bigW_at 430 (by decide +kernel) rfl
theorem xi_X2_become : Cond.instanceMethod yX2_become ∈ bigW := bigW_at 406 (by decide +kernel) rfl
theorem xs_X2_become : Cond.selects RX2 yX2_become yX2_become ∈ bigW := bigW_at 407 (by decide +kernel) rfl
theorem xm_X2_become : XM mX2_become 1 := ⟨bigW_at 408 (by decide +kernel) rfl, bigW_at 31 (by decide +kernel) rfl, ⟨by decide +kernel, by decide +kernel, by decide +kernel⟩, by decide⟩
theorem xl_RX1_26 : Cond.methodLink RX1 26 yX1_forgetOldest ∈ bigW := bigW_at 426 (by decide +kernel) rfl
theorem xi_X1_forgetOldest : Cond.instanceMethod yX1_forgetOldest ∈ bigW := bigW_at 427 (by decide +kernel) rfl
theorem xs_X1_forgetOldest : Cond.selects RX1 yX1_forgetOldest yX1_forgetOldest ∈ bigW := bigW_at 428 (by decide +kernel) rfl
theorem xm_X1_forgetOldest : XM mX1_forgetOldest 0 := ⟨bigW_at 429 (by decide +kernel) rfl, bigW_at 32 (by decide +kernel) rfl, ⟨by decide +kernel, by decide +kernel, by decide +kernel⟩, by decide⟩
theorem xl_RX2_3 : Cond.methodLink RX2 3 objectInit ∈ bigW := bigW_at 59 (by decide +kernel) rfl
theorem xl_RX2_22 : Cond.methodLink RX2 22 yX2_leanNowhere ∈ bigW := bigW_at 60 (by decide +kernel) rfl
theorem xi_X2_leanNowhere : Cond.instanceMethod yX2_leanNowhere ∈ bigW := bigW_at 61 (by decide +kernel) rfl
theorem xs_X2_leanNowhere : Cond.selects RX2 yX2_leanNowhere yX2_leanNowhere ∈ bigW := bigW_at 62 (by decide +kernel) rfl
theorem xm_X2_leanNowhere : XM mX2_leanNowhere 0 := ⟨bigW_at 63 (by decide +kernel) rfl, bigW_at 31 (by decide +kernel) rfl, ⟨by decide +kernel, by decide +kernel, by decide +kernel⟩, by decide⟩
theorem xf_RX2_15 : XFld RX2 15 2 1 := ⟨RX2, TX2, 7, rfl, by decide, bigW_at 67 (by decide +kernel) rfl, xw2⟩
theorem xf_RX2_9 : XFld RX2 9 2 0 := ⟨RX2, TX2, 7, rfl, by decide, bigW_at 64 (by decide +kernel) rfl, xw2⟩
theorem xl_RX2_25 : Cond.methodLink RX2 25 arraycopyName ∈ bigW := bigW_at 409 (by decide +kernel) rfl
theorem xl_cn : Cond.native arraycopyName ∈ bigW := bigW_at 404 (by decide +kernel) rfl
theorem xl_cs : Cond.static arraycopyName ∈ bigW := bigW_at 403 (by decide +kernel) rfl
theorem xl_ci : Cond.initialized "java/lang/System" ∈ bigW := bigW_at 38 (by decide +kernel) rfl
theorem xf_RX2_31 : XFld RX2 31 2 2 := ⟨RX2, TX2, 7, rfl, by decide, bigW_at 71 (by decide +kernel) rfl, xw2⟩
theorem xf_RX2_34 : XFld RX2 34 2 3 := ⟨RX2, TX2, 7, rfl, by decide, bigW_at 74 (by decide +kernel) rfl, xw2⟩
theorem xf_RX2_37 : XFld RX2 37 2 4 := ⟨RX2, TX2, 7, rfl, by decide, bigW_at 77 (by decide +kernel) rfl, xw2⟩
theorem xf_RX2_40 : XFld RX2 40 2 5 := ⟨RX2, TX2, 7, rfl, by decide, bigW_at 80 (by decide +kernel) rfl, xw2⟩
theorem xf_RX2_18 : XFld RX2 18 2 6 := ⟨RX2, TX2, 7, rfl, by decide, bigW_at 83 (by decide +kernel) rfl, xw2⟩
theorem xl_RX3_3 : Cond.methodLink RX3 3 objectInit ∈ bigW := bigW_at 53 (by decide +kernel) rfl
theorem xc_RX3_34 : Cond.classLink RX3 34 RX2 ∈ bigW := bigW_at 54 (by decide +kernel) rfl
theorem xl_RX3_36 : Cond.methodLink RX3 36 yX2_init ∈ bigW := bigW_at 56 (by decide +kernel) rfl
theorem xf_RX3_9 : XFld RX3 9 3 2 := ⟨RX3, TX3, 10, rfl, by decide, bigW_at 107 (by decide +kernel) rfl, xw3⟩
theorem xf_RX3_15 : XFld RX3 15 3 3 := ⟨RX3, TX3, 10, rfl, by decide, bigW_at 109 (by decide +kernel) rfl, xw3⟩
theorem xl_RX3_41 : Cond.methodLink RX3 41 yX3_becomeTreesAndLadders ∈ bigW := bigW_at 398 (by decide +kernel) rfl
theorem xi_X3_becomeTreesAndLadders : Cond.instanceMethod yX3_becomeTreesAndLadders ∈ bigW := bigW_at 399 (by decide +kernel) rfl
theorem xs_X3_becomeTreesAndLadders : Cond.selects RX3 yX3_becomeTreesAndLadders yX3_becomeTreesAndLadders ∈ bigW := bigW_at 400 (by decide +kernel) rfl
theorem xm_X3_becomeTreesAndLadders : XM mX3_becomeTreesAndLadders 1 := ⟨bigW_at 401 (by decide +kernel) rfl, bigW_at 30 (by decide +kernel) rfl, ⟨by decide +kernel, by decide +kernel, by decide +kernel⟩, by decide⟩
theorem xf_RX3_37 : XFld RX3 37 3 9 := ⟨RX3, TX3, 10, rfl, by decide, bigW_at 121 (by decide +kernel) rfl, xw3⟩
theorem xl_RX3_45 : Cond.methodLink RX3 45 yX2_become ∈ bigW := bigW_at 405 (by decide +kernel) rfl
theorem xf_RX3_49 : XFld RX3 49 2 6 := ⟨RX2, TX2, 7, rfl, by decide, bigW_at 84 (by decide +kernel) rfl, xw2⟩
theorem xf_RX3_52 : XFld RX3 52 3 0 := ⟨RX3, TX3, 10, rfl, by decide, bigW_at 103 (by decide +kernel) rfl, xw3⟩
theorem xf_RX3_55 : XFld RX3 55 3 1 := ⟨RX3, TX3, 10, rfl, by decide, bigW_at 105 (by decide +kernel) rfl, xw3⟩
theorem xf_RX3_18 : XFld RX3 18 3 4 := ⟨RX3, TX3, 10, rfl, by decide, bigW_at 111 (by decide +kernel) rfl, xw3⟩
theorem xl_RX3_58 : Cond.methodLink RX3 58 arraycopyName ∈ bigW := bigW_at 402 (by decide +kernel) rfl
theorem xf_RX3_22 : XFld RX3 22 3 5 := ⟨RX3, TX3, 10, rfl, by decide, bigW_at 113 (by decide +kernel) rfl, xw3⟩
theorem xf_RX3_25 : XFld RX3 25 3 6 := ⟨RX3, TX3, 10, rfl, by decide, bigW_at 115 (by decide +kernel) rfl, xw3⟩
theorem xf_RX3_28 : XFld RX3 28 3 7 := ⟨RX3, TX3, 10, rfl, by decide, bigW_at 117 (by decide +kernel) rfl, xw3⟩
theorem xf_RX3_31 : XFld RX3 31 3 8 := ⟨RX3, TX3, 10, rfl, by decide, bigW_at 119 (by decide +kernel) rfl, xw3⟩
theorem xl_RX3_64 : Cond.methodLink RX3 64 yX2_leanNowhere ∈ bigW := bigW_at 351 (by decide +kernel) rfl
theorem xf_RX3_67 : XFld RX3 67 2 0 := ⟨RX2, TX2, 7, rfl, by decide, bigW_at 66 (by decide +kernel) rfl, xw2⟩
theorem xf_RX3_70 : XFld RX3 70 2 1 := ⟨RX2, TX2, 7, rfl, by decide, bigW_at 70 (by decide +kernel) rfl, xw2⟩
theorem xt_X6_reachOfKind : Cond.static yX6_reachOfKind ∈ bigW := bigW_at 299 (by decide +kernel) rfl
theorem xm_X6_reachOfKind : XM mX6_reachOfKind 3 := ⟨bigW_at 300 (by decide +kernel) rfl, bigW_at 29 (by decide +kernel) rfl, ⟨by decide +kernel, by decide +kernel, by decide +kernel⟩, by decide⟩
theorem xl_RX3_77 : Cond.methodLink RX3 77 yX3_reach ∈ bigW := bigW_at 326 (by decide +kernel) rfl
theorem xi_X3_reach : Cond.instanceMethod yX3_reach ∈ bigW := bigW_at 319 (by decide +kernel) rfl
theorem xs_X3_reach : Cond.selects RX3 yX3_reach yX3_reach ∈ bigW := bigW_at 320 (by decide +kernel) rfl
theorem xm_X3_reach : XM mX3_reach 2 := ⟨bigW_at 321 (by decide +kernel) rfl, bigW_at 30 (by decide +kernel) rfl, ⟨by decide +kernel, by decide +kernel, by decide +kernel⟩, by decide⟩
theorem xl_RX3_81 : Cond.methodLink RX3 81 yX3_reaching ∈ bigW := bigW_at 440 (by decide +kernel) rfl
theorem xi_X3_reaching : Cond.instanceMethod yX3_reaching ∈ bigW := bigW_at 295 (by decide +kernel) rfl
theorem xs_X3_reaching : Cond.selects RX3 yX3_reaching yX3_reaching ∈ bigW := bigW_at 296 (by decide +kernel) rfl
theorem xm_X3_reaching : XM mX3_reaching 3 := ⟨bigW_at 297 (by decide +kernel) rfl, bigW_at 30 (by decide +kernel) rfl, ⟨by decide +kernel, by decide +kernel, by decide +kernel⟩, by decide⟩
theorem xl_RX3_84 : Cond.methodLink RX3 84 yJ6_bitCount_0f7a4 ∈ bigW := bigW_at 441 (by decide +kernel) rfl
theorem xt_J6_bitCount_0f7a4 : Cond.static yJ6_bitCount_0f7a4 ∈ bigW := bigW_at 442 (by decide +kernel) rfl
theorem xm_J6_bitCount_0f7a4 : XM mJ6_bitCount_0f7a4 1 := ⟨bigW_at 443 (by decide +kernel) rfl, bigW_at 39 (by decide +kernel) rfl, ⟨by decide +kernel, by decide +kernel, by decide +kernel⟩, by decide⟩
theorem xl_RX3_90 : Cond.methodLink RX3 90 Lib.Math.min.name ∈ bigW := bigW_at 447 (by decide +kernel) rfl
theorem xl_ms_min : Cond.static Lib.Math.min.name ∈ bigW := bigW_at 308 (by decide +kernel) rfl
theorem xl_mi : Cond.initialized "java/lang/Math" ∈ bigW := bigW_at 37 (by decide +kernel) rfl
theorem xl_mc_min : Cond.code Lib.Math.min.name Lib.Math.min.code 2 (some .int) ∈ bigW := bigW_at 309 (by decide +kernel) rfl
theorem xl_RX3_95 : Cond.methodLink RX3 95 yX3_taken ∈ bigW := bigW_at 436 (by decide +kernel) rfl
theorem xi_X3_taken : Cond.instanceMethod yX3_taken ∈ bigW := bigW_at 437 (by decide +kernel) rfl
theorem xs_X3_taken : Cond.selects RX3 yX3_taken yX3_taken ∈ bigW := bigW_at 438 (by decide +kernel) rfl
theorem xm_X3_taken : XM mX3_taken 5 := ⟨bigW_at 439 (by decide +kernel) rfl, bigW_at 30 (by decide +kernel) rfl, ⟨by decide +kernel, by decide +kernel, by decide +kernel⟩, by decide⟩
theorem xl_RX3_99 : Cond.methodLink RX3 99 yX3_stung ∈ bigW := bigW_at 448 (by decide +kernel) rfl
theorem xi_X3_stung : Cond.instanceMethod yX3_stung ∈ bigW := bigW_at 449 (by decide +kernel) rfl
theorem xs_X3_stung : Cond.selects RX3 yX3_stung yX3_stung ∈ bigW := bigW_at 450 (by decide +kernel) rfl
theorem xm_X3_stung : XM mX3_stung 3 := ⟨bigW_at 451 (by decide +kernel) rfl, bigW_at 30 (by decide +kernel) rfl, ⟨by decide +kernel, by decide +kernel, by decide +kernel⟩, by decide⟩
theorem xf_RX3_102 : XFld RX3 102 2 3 := ⟨RX2, TX2, 7, rfl, by decide, bigW_at 76 (by decide +kernel) rfl, xw2⟩
theorem xf_RX3_105 : XFld RX3 105 2 5 := ⟨RX2, TX2, 7, rfl, by decide, bigW_at 82 (by decide +kernel) rfl, xw2⟩
theorem xl_RX3_108 : Cond.methodLink RX3 108 yX2_leaningAt ∈ bigW := bigW_at 435 (by decide +kernel) rfl
theorem xi_X2_leaningAt : Cond.instanceMethod yX2_leaningAt ∈ bigW := bigW_at 291 (by decide +kernel) rfl
theorem xs_X2_leaningAt : Cond.selects RX2 yX2_leaningAt yX2_leaningAt ∈ bigW := bigW_at 292 (by decide +kernel) rfl
theorem xm_X2_leaningAt : XM mX2_leaningAt 1 := ⟨bigW_at 293 (by decide +kernel) rfl, bigW_at 31 (by decide +kernel) rfl, ⟨by decide +kernel, by decide +kernel, by decide +kernel⟩, by decide⟩
theorem xf_RX3_111 : XFld RX3 111 2 2 := ⟨RX2, TX2, 7, rfl, by decide, bigW_at 73 (by decide +kernel) rfl, xw2⟩
theorem xf_RX3_114 : XFld RX3 114 2 4 := ⟨RX2, TX2, 7, rfl, by decide, bigW_at 79 (by decide +kernel) rfl, xw2⟩
theorem xl_RX3_120 : Cond.methodLink RX3 120 yX2_shakeOff ∈ bigW := bigW_at 475 (by decide +kernel) rfl
theorem xi_X2_shakeOff : Cond.instanceMethod yX2_shakeOff ∈ bigW := bigW_at 461 (by decide +kernel) rfl
theorem xs_X2_shakeOff : Cond.selects RX2 yX2_shakeOff yX2_shakeOff ∈ bigW := bigW_at 462 (by decide +kernel) rfl
theorem xm_X2_shakeOff : XM mX2_shakeOff 1 := ⟨bigW_at 463 (by decide +kernel) rfl, bigW_at 31 (by decide +kernel) rfl, ⟨by decide +kernel, by decide +kernel, by decide +kernel⟩, by decide⟩
theorem xl_RX3_123 : Cond.methodLink RX3 123 yX3_gotWithGuest ∈ bigW := bigW_at 517 (by decide +kernel) rfl
theorem xi_X3_gotWithGuest : Cond.instanceMethod yX3_gotWithGuest ∈ bigW := bigW_at 518 (by decide +kernel) rfl
theorem xs_X3_gotWithGuest : Cond.selects RX3 yX3_gotWithGuest yX3_gotWithGuest ∈ bigW := bigW_at 519 (by decide +kernel) rfl
theorem xm_X3_gotWithGuest : XM mX3_gotWithGuest 6 := ⟨bigW_at 520 (by decide +kernel) rfl, bigW_at 30 (by decide +kernel) rfl, ⟨by decide +kernel, by decide +kernel, by decide +kernel⟩, by decide⟩
theorem xl_RX4_3 : Cond.methodLink RX4 3 objectInit ∈ bigW := bigW_at 213 (by decide +kernel) rfl
theorem xq_long : Cond.arrayClass .long ∈ bigW := bigW_at 227 (by decide +kernel) rfl
theorem xf_RX4_9 : XFld RX4 9 4 0 := ⟨RX4, TX4, 3, rfl, by decide, bigW_at 214 (by decide +kernel) rfl, xw4⟩
theorem xf_RX4_19 : XFld RX4 19 4 2 := ⟨RX4, TX4, 3, rfl, by decide, bigW_at 218 (by decide +kernel) rfl, xw4⟩
theorem xf_RX4_15 : XFld RX4 15 4 1 := ⟨RX4, TX4, 3, rfl, by decide, bigW_at 216 (by decide +kernel) rfl, xw4⟩
theorem xl_RX4_22 : Cond.methodLink RX4 22 yX4_holds ∈ bigW := bigW_at 598 (by decide +kernel) rfl
theorem xi_X4_holds : Cond.instanceMethod yX4_holds ∈ bigW := bigW_at 599 (by decide +kernel) rfl
theorem xs_X4_holds : Cond.selects RX4 yX4_holds yX4_holds ∈ bigW := bigW_at 600 (by decide +kernel) rfl
theorem xm_X4_holds : XM mX4_holds 2 := ⟨bigW_at 601 (by decide +kernel) rfl, bigW_at 35 (by decide +kernel) rfl, ⟨by decide +kernel, by decide +kernel, by decide +kernel⟩, by decide⟩
theorem xl_RX5_3 : Cond.methodLink RX5 3 objectInit ∈ bigW := bigW_at 167 (by decide +kernel) rfl
theorem xq_char : Cond.arrayClass .char ∈ bigW := bigW_at 182 (by decide +kernel) rfl
theorem xf_RX5_15 : XFld RX5 15 5 1 := ⟨RX5, TX5, 4, rfl, by decide, bigW_at 169 (by decide +kernel) rfl, xw5⟩
theorem xf_RX5_9 : XFld RX5 9 5 0 := ⟨RX5, TX5, 4, rfl, by decide, bigW_at 168 (by decide +kernel) rfl, xw5⟩
theorem xl_RX5_25 : Cond.methodLink RX5 25 yX3_clear ∈ bigW := bigW_at 347 (by decide +kernel) rfl
theorem xi_X3_clear : Cond.instanceMethod yX3_clear ∈ bigW := bigW_at 348 (by decide +kernel) rfl
theorem xs_X3_clear : Cond.selects RX3 yX3_clear yX3_clear ∈ bigW := bigW_at 349 (by decide +kernel) rfl
theorem xm_X3_clear : XM mX3_clear 0 := ⟨bigW_at 350 (by decide +kernel) rfl, bigW_at 30 (by decide +kernel) rfl, ⟨by decide +kernel, by decide +kernel, by decide +kernel⟩, by decide⟩
theorem xl_RX5_30 : Cond.methodLink RX5 30 yX5_readTrees ∈ bigW := bigW_at 352 (by decide +kernel) rfl
theorem xi_X5_readTrees : Cond.instanceMethod yX5_readTrees ∈ bigW := bigW_at 353 (by decide +kernel) rfl
theorem xs_X5_readTrees : Cond.selects RX5 yX5_readTrees yX5_readTrees ∈ bigW := bigW_at 354 (by decide +kernel) rfl
theorem xm_X5_readTrees : XM mX5_readTrees 1 := ⟨bigW_at 355 (by decide +kernel) rfl, bigW_at 33 (by decide +kernel) rfl, ⟨by decide +kernel, by decide +kernel, by decide +kernel⟩, by decide⟩
theorem xf_RX5_22 : XFld RX5 22 5 3 := ⟨RX5, TX5, 4, rfl, by decide, bigW_at 172 (by decide +kernel) rfl, xw5⟩
theorem xl_RX5_34 : Cond.methodLink RX5 34 yX5_passes ∈ bigW := bigW_at 376 (by decide +kernel) rfl
theorem xi_X5_passes : Cond.instanceMethod yX5_passes ∈ bigW := bigW_at 377 (by decide +kernel) rfl
theorem xs_X5_passes : Cond.selects RX5 yX5_passes yX5_passes ∈ bigW := bigW_at 378 (by decide +kernel) rfl
theorem xm_X5_passes : XM mX5_passes 1 := ⟨bigW_at 379 (by decide +kernel) rfl, bigW_at 33 (by decide +kernel) rfl, ⟨by decide +kernel, by decide +kernel, by decide +kernel⟩, by decide⟩
theorem xl_RX5_38 : Cond.methodLink RX5 38 yX5_readLadders ∈ bigW := bigW_at 381 (by decide +kernel) rfl
theorem xi_X5_readLadders : Cond.instanceMethod yX5_readLadders ∈ bigW := bigW_at 382 (by decide +kernel) rfl
theorem xs_X5_readLadders : Cond.selects RX5 yX5_readLadders yX5_readLadders ∈ bigW := bigW_at 383 (by decide +kernel) rfl
theorem xm_X5_readLadders : XM mX5_readLadders 1 := ⟨bigW_at 384 (by decide +kernel) rfl, bigW_at 33 (by decide +kernel) rfl, ⟨by decide +kernel, by decide +kernel, by decide +kernel⟩, by decide⟩
theorem xl_RX5_41 : Cond.methodLink RX5 41 yX5_next ∈ bigW := bigW_at 360 (by decide +kernel) rfl
theorem xi_X5_next : Cond.instanceMethod yX5_next ∈ bigW := bigW_at 361 (by decide +kernel) rfl
theorem xs_X5_next : Cond.selects RX5 yX5_next yX5_next ∈ bigW := bigW_at 362 (by decide +kernel) rfl
theorem xm_X5_next : XM mX5_next 0 := ⟨bigW_at 363 (by decide +kernel) rfl, bigW_at 33 (by decide +kernel) rfl, ⟨by decide +kernel, by decide +kernel, by decide +kernel⟩, by decide⟩
theorem xf_RX5_19 : XFld RX5 19 5 2 := ⟨RX5, TX5, 4, rfl, by decide, bigW_at 171 (by decide +kernel) rfl, xw5⟩
theorem xl_RX5_45 : Cond.methodLink RX5 45 yX5_fail ∈ bigW := bigW_at 368 (by decide +kernel) rfl
theorem xi_X5_fail : Cond.instanceMethod yX5_fail ∈ bigW := bigW_at 369 (by decide +kernel) rfl
theorem xs_X5_fail : Cond.selects RX5 yX5_fail yX5_fail ∈ bigW := bigW_at 370 (by decide +kernel) rfl
theorem xm_X5_fail : XM mX5_fail 1 := ⟨bigW_at 371 (by decide +kernel) rfl, bigW_at 33 (by decide +kernel) rfl, ⟨by decide +kernel, by decide +kernel, by decide +kernel⟩, by decide⟩
theorem xf_RX5_49 : XFld RX5 49 3 0 := ⟨RX3, TX3, 10, rfl, by decide, bigW_at 102 (by decide +kernel) rfl, xw3⟩
theorem xl_RX5_52 : Cond.methodLink RX5 52 yX5_number ∈ bigW := bigW_at 356 (by decide +kernel) rfl
theorem xi_X5_number : Cond.instanceMethod yX5_number ∈ bigW := bigW_at 357 (by decide +kernel) rfl
theorem xs_X5_number : Cond.selects RX5 yX5_number yX5_number ∈ bigW := bigW_at 358 (by decide +kernel) rfl
theorem xm_X5_number : XM mX5_number 2 := ⟨bigW_at 359 (by decide +kernel) rfl, bigW_at 33 (by decide +kernel) rfl, ⟨by decide +kernel, by decide +kernel, by decide +kernel⟩, by decide⟩
theorem xl_RX5_56 : Cond.methodLink RX5 56 yX5_demand ∈ bigW := bigW_at 372 (by decide +kernel) rfl
theorem xi_X5_demand : Cond.instanceMethod yX5_demand ∈ bigW := bigW_at 373 (by decide +kernel) rfl
theorem xs_X5_demand : Cond.selects RX5 yX5_demand yX5_demand ∈ bigW := bigW_at 374 (by decide +kernel) rfl
theorem xm_X5_demand : XM mX5_demand 1 := ⟨bigW_at 375 (by decide +kernel) rfl, bigW_at 33 (by decide +kernel) rfl, ⟨by decide +kernel, by decide +kernel, by decide +kernel⟩, by decide⟩
theorem xl_RX5_60 : Cond.methodLink RX5 60 yX3_plant ∈ bigW := bigW_at 380 (by decide +kernel) rfl
theorem xi_X3_plant : Cond.instanceMethod yX3_plant ∈ bigW := bigW_at 267 (by decide +kernel) rfl
theorem xs_X3_plant : Cond.selects RX3 yX3_plant yX3_plant ∈ bigW := bigW_at 268 (by decide +kernel) rfl
theorem xm_X3_plant : XM mX3_plant 3 := ⟨bigW_at 269 (by decide +kernel) rfl, bigW_at 30 (by decide +kernel) rfl, ⟨by decide +kernel, by decide +kernel, by decide +kernel⟩, by decide⟩
theorem xl_RX5_64 : Cond.methodLink RX5 64 yX5_kindLetter ∈ bigW := bigW_at 385 (by decide +kernel) rfl
theorem xi_X5_kindLetter : Cond.instanceMethod yX5_kindLetter ∈ bigW := bigW_at 386 (by decide +kernel) rfl
theorem xs_X5_kindLetter : Cond.selects RX5 yX5_kindLetter yX5_kindLetter ∈ bigW := bigW_at 387 (by decide +kernel) rfl
theorem xm_X5_kindLetter : XM mX5_kindLetter 0 := ⟨bigW_at 388 (by decide +kernel) rfl, bigW_at 33 (by decide +kernel) rfl, ⟨by decide +kernel, by decide +kernel, by decide +kernel⟩, by decide⟩
theorem xl_RX5_67 : Cond.methodLink RX5 67 yX5_digit ∈ bigW := bigW_at 389 (by decide +kernel) rfl
theorem xi_X5_digit : Cond.instanceMethod yX5_digit ∈ bigW := bigW_at 390 (by decide +kernel) rfl
theorem xs_X5_digit : Cond.selects RX5 yX5_digit yX5_digit ∈ bigW := bigW_at 391 (by decide +kernel) rfl
theorem xm_X5_digit : XM mX5_digit 2 := ⟨bigW_at 392 (by decide +kernel) rfl, bigW_at 33 (by decide +kernel) rfl, ⟨by decide +kernel, by decide +kernel, by decide +kernel⟩, by decide⟩
theorem xl_RX5_70 : Cond.methodLink RX5 70 yX3_bring ∈ bigW := bigW_at 393 (by decide +kernel) rfl
theorem xi_X3_bring : Cond.instanceMethod yX3_bring ∈ bigW := bigW_at 279 (by decide +kernel) rfl
theorem xs_X3_bring : Cond.selects RX3 yX3_bring yX3_bring ∈ bigW := bigW_at 280 (by decide +kernel) rfl
theorem xm_X3_bring : XM mX3_bring 3 := ⟨bigW_at 281 (by decide +kernel) rfl, bigW_at 30 (by decide +kernel) rfl, ⟨by decide +kernel, by decide +kernel, by decide +kernel⟩, by decide⟩
theorem xf_RX5_73 : XFld RX5 73 3 9 := ⟨RX3, TX3, 10, rfl, by decide, bigW_at 123 (by decide +kernel) rfl, xw3⟩
theorem xf_RX5_77 : XFld RX5 77 2 1 := ⟨RX2, TX2, 7, rfl, by decide, bigW_at 69 (by decide +kernel) rfl, xw2⟩
theorem xl_RX5_83 : Cond.methodLink RX5 83 yX5_isDigit ∈ bigW := bigW_at 364 (by decide +kernel) rfl
theorem xt_X5_isDigit : Cond.static yX5_isDigit ∈ bigW := bigW_at 365 (by decide +kernel) rfl
theorem xm_X5_isDigit : XM mX5_isDigit 1 := ⟨bigW_at 366 (by decide +kernel) rfl, bigW_at 33 (by decide +kernel) rfl, ⟨by decide +kernel, by decide +kernel, by decide +kernel⟩, by decide⟩
theorem xt_X6_within : Cond.static yX6_within ∈ bigW := bigW_at 264 (by decide +kernel) rfl
theorem xm_X6_within : XM mX6_within 3 := ⟨bigW_at 265 (by decide +kernel) rfl, bigW_at 29 (by decide +kernel) rfl, ⟨by decide +kernel, by decide +kernel, by decide +kernel⟩, by decide⟩
theorem xl_RX6_1 : Cond.methodLink RX6 1 objectInit ∈ bigW := bigW_at 45 (by decide +kernel) rfl
theorem xc_RX6_7 : Cond.classLink RX6 7 RX3 ∈ bigW := bigW_at 48 (by decide +kernel) rfl
theorem xn_RX3 : Cond.instantiable RX3 10 ∈ bigW := bigW_at 49 (by decide +kernel) rfl
theorem xz_RX3 : Cond.initialized RX3 ∈ bigW := bigW_at 30 (by decide +kernel) rfl
theorem xi_X3_init : Cond.instanceMethod yX3_init ∈ bigW := bigW_at 51 (by decide +kernel) rfl
theorem xm_X3_init : XM mX3_init 0 := ⟨bigW_at 52 (by decide +kernel) rfl, bigW_at 30 (by decide +kernel) rfl, ⟨by decide +kernel, by decide +kernel, by decide +kernel⟩, by decide⟩
theorem xc_RX6_16 : Cond.classLink RX6 16 RX1 ∈ bigW := bigW_at 145 (by decide +kernel) rfl
theorem xn_RX1 : Cond.instantiable RX1 2 ∈ bigW := bigW_at 146 (by decide +kernel) rfl
theorem xz_RX1 : Cond.initialized RX1 ∈ bigW := bigW_at 32 (by decide +kernel) rfl
theorem xl_RX6_18 : Cond.methodLink RX6 18 yX1_init ∈ bigW := bigW_at 147 (by decide +kernel) rfl
theorem xi_X1_init : Cond.instanceMethod yX1_init ∈ bigW := bigW_at 148 (by decide +kernel) rfl
theorem xm_X1_init : XM mX1_init 0 := ⟨bigW_at 149 (by decide +kernel) rfl, bigW_at 32 (by decide +kernel) rfl, ⟨by decide +kernel, by decide +kernel, by decide +kernel⟩, by decide⟩
theorem xc_RX6_29 : Cond.classLink RX6 29 RX5 ∈ bigW := bigW_at 162 (by decide +kernel) rfl
theorem xn_RX5 : Cond.instantiable RX5 4 ∈ bigW := bigW_at 163 (by decide +kernel) rfl
theorem xz_RX5 : Cond.initialized RX5 ∈ bigW := bigW_at 33 (by decide +kernel) rfl
theorem xi_X5_init : Cond.instanceMethod yX5_init ∈ bigW := bigW_at 165 (by decide +kernel) rfl
theorem xm_X5_init : XM mX5_init 0 := ⟨bigW_at 166 (by decide +kernel) rfl, bigW_at 33 (by decide +kernel) rfl, ⟨by decide +kernel, by decide +kernel, by decide +kernel⟩, by decide⟩
theorem xc_RX6_39 : Cond.classLink RX6 39 RX2 ∈ bigW := bigW_at 183 (by decide +kernel) rfl
theorem xl_RX6_41 : Cond.methodLink RX6 41 yX2_init ∈ bigW := bigW_at 184 (by decide +kernel) rfl
theorem xc_RX6_46 : Cond.classLink RX6 46 RX0 ∈ bigW := bigW_at 185 (by decide +kernel) rfl
theorem xn_RX0 : Cond.instantiable RX0 4 ∈ bigW := bigW_at 186 (by decide +kernel) rfl
theorem xz_RX0 : Cond.initialized RX0 ∈ bigW := bigW_at 34 (by decide +kernel) rfl
theorem xi_X0_init : Cond.instanceMethod yX0_init ∈ bigW := bigW_at 188 (by decide +kernel) rfl
theorem xm_X0_init : XM mX0_init 0 := ⟨bigW_at 189 (by decide +kernel) rfl, bigW_at 34 (by decide +kernel) rfl, ⟨by decide +kernel, by decide +kernel, by decide +kernel⟩, by decide⟩
theorem xc_RX6_53 : Cond.classLink RX6 53 RX4 ∈ bigW := bigW_at 207 (by decide +kernel) rfl
theorem xf_RX6_55 : XFld RX6 55 6 9 := ⟨RX6, TX6, 10, rfl, by decide, bigW_at 237 (by decide +kernel) rfl, xw6⟩
theorem xn_RX4 : Cond.instantiable RX4 3 ∈ bigW := bigW_at 209 (by decide +kernel) rfl
theorem xz_RX4 : Cond.initialized RX4 ∈ bigW := bigW_at 35 (by decide +kernel) rfl
theorem xi_X4_init : Cond.instanceMethod yX4_init ∈ bigW := bigW_at 211 (by decide +kernel) rfl
theorem xm_X4_init : XM mX4_init 0 := ⟨bigW_at 212 (by decide +kernel) rfl, bigW_at 35 (by decide +kernel) rfl, ⟨by decide +kernel, by decide +kernel, by decide +kernel⟩, by decide⟩
theorem xl_RX6_60 : Cond.methodLink RX6 60 yX6_within ∈ bigW := bigW_at 263 (by decide +kernel) rfl
theorem xf_RX6_10 : XFld RX6 10 6 0 := ⟨RX6, TX6, 10, rfl, by decide, bigW_at 228 (by decide +kernel) rfl, xw6⟩
theorem xl_RX6_64 : Cond.methodLink RX6 64 yX3_plant ∈ bigW := bigW_at 266 (by decide +kernel) rfl
theorem xf_RX6_19 : XFld RX6 19 6 1 := ⟨RX6, TX6, 10, rfl, by decide, bigW_at 229 (by decide +kernel) rfl, xw6⟩
theorem xl_RX6_68 : Cond.methodLink RX6 68 yX1_forgetUnlessFull ∈ bigW := bigW_at 270 (by decide +kernel) rfl
theorem xi_X1_forgetUnlessFull : Cond.instanceMethod yX1_forgetUnlessFull ∈ bigW := bigW_at 271 (by decide +kernel) rfl
theorem xs_X1_forgetUnlessFull : Cond.selects RX1 yX1_forgetUnlessFull yX1_forgetUnlessFull ∈ bigW := bigW_at 272 (by decide +kernel) rfl
theorem xm_X1_forgetUnlessFull : XM mX1_forgetUnlessFull 1 := ⟨bigW_at 273 (by decide +kernel) rfl, bigW_at 32 (by decide +kernel) rfl, ⟨by decide +kernel, by decide +kernel, by decide +kernel⟩, by decide⟩
theorem xl_RX6_72 : Cond.methodLink RX6 72 yX3_bring ∈ bigW := bigW_at 278 (by decide +kernel) rfl
theorem xl_RX6_75 : Cond.methodLink RX6 75 yX3_hasTree ∈ bigW := bigW_at 286 (by decide +kernel) rfl
theorem xi_X3_hasTree : Cond.instanceMethod yX3_hasTree ∈ bigW := bigW_at 287 (by decide +kernel) rfl
theorem xs_X3_hasTree : Cond.selects RX3 yX3_hasTree yX3_hasTree ∈ bigW := bigW_at 288 (by decide +kernel) rfl
theorem xm_X3_hasTree : XM mX3_hasTree 1 := ⟨bigW_at 289 (by decide +kernel) rfl, bigW_at 30 (by decide +kernel) rfl, ⟨by decide +kernel, by decide +kernel, by decide +kernel⟩, by decide⟩
theorem xf_RX6_79 : XFld RX6 79 3 4 := ⟨RX3, TX3, 10, rfl, by decide, bigW_at 112 (by decide +kernel) rfl, xw3⟩
theorem xf_RX6_83 : XFld RX6 83 3 9 := ⟨RX3, TX3, 10, rfl, by decide, bigW_at 122 (by decide +kernel) rfl, xw3⟩
theorem xf_RX6_86 : XFld RX6 86 2 0 := ⟨RX2, TX2, 7, rfl, by decide, bigW_at 65 (by decide +kernel) rfl, xw2⟩
theorem xf_RX6_89 : XFld RX6 89 3 5 := ⟨RX3, TX3, 10, rfl, by decide, bigW_at 114 (by decide +kernel) rfl, xw3⟩
theorem xl_RX6_92 : Cond.methodLink RX6 92 yX2_leaningAt ∈ bigW := bigW_at 290 (by decide +kernel) rfl
theorem xf_RX6_96 : XFld RX6 96 2 5 := ⟨RX2, TX2, 7, rfl, by decide, bigW_at 81 (by decide +kernel) rfl, xw2⟩
theorem xl_RX6_100 : Cond.methodLink RX6 100 yX3_reaching ∈ bigW := bigW_at 294 (by decide +kernel) rfl
theorem xl_RX6_103 : Cond.methodLink RX6 103 yX3_hasLadder ∈ bigW := bigW_at 314 (by decide +kernel) rfl
theorem xi_X3_hasLadder : Cond.instanceMethod yX3_hasLadder ∈ bigW := bigW_at 315 (by decide +kernel) rfl
theorem xs_X3_hasLadder : Cond.selects RX3 yX3_hasLadder yX3_hasLadder ∈ bigW := bigW_at 316 (by decide +kernel) rfl
theorem xm_X3_hasLadder : XM mX3_hasLadder 1 := ⟨bigW_at 317 (by decide +kernel) rfl, bigW_at 30 (by decide +kernel) rfl, ⟨by decide +kernel, by decide +kernel, by decide +kernel⟩, by decide⟩
theorem xf_RX6_106 : XFld RX6 106 3 6 := ⟨RX3, TX3, 10, rfl, by decide, bigW_at 116 (by decide +kernel) rfl, xw3⟩
theorem xf_RX6_109 : XFld RX6 109 3 7 := ⟨RX3, TX3, 10, rfl, by decide, bigW_at 118 (by decide +kernel) rfl, xw3⟩
theorem xf_RX6_112 : XFld RX6 112 3 8 := ⟨RX3, TX3, 10, rfl, by decide, bigW_at 120 (by decide +kernel) rfl, xw3⟩
theorem xf_RX6_115 : XFld RX6 115 2 1 := ⟨RX2, TX2, 7, rfl, by decide, bigW_at 68 (by decide +kernel) rfl, xw2⟩
theorem xl_RX6_118 : Cond.methodLink RX6 118 yX3_reach ∈ bigW := bigW_at 318 (by decide +kernel) rfl
theorem xl_RX6_122 : Cond.methodLink RX6 122 yX3_treesInReach ∈ bigW := bigW_at 322 (by decide +kernel) rfl
theorem xi_X3_treesInReach : Cond.instanceMethod yX3_treesInReach ∈ bigW := bigW_at 323 (by decide +kernel) rfl
theorem xs_X3_treesInReach : Cond.selects RX3 yX3_treesInReach yX3_treesInReach ∈ bigW := bigW_at 324 (by decide +kernel) rfl
theorem xm_X3_treesInReach : XM mX3_treesInReach 2 := ⟨bigW_at 325 (by decide +kernel) rfl, bigW_at 30 (by decide +kernel) rfl, ⟨by decide +kernel, by decide +kernel, by decide +kernel⟩, by decide⟩
theorem xf_RX6_125 : XFld RX6 125 3 2 := ⟨RX3, TX3, 10, rfl, by decide, bigW_at 108 (by decide +kernel) rfl, xw3⟩
theorem xf_RX6_128 : XFld RX6 128 3 3 := ⟨RX3, TX3, 10, rfl, by decide, bigW_at 110 (by decide +kernel) rfl, xw3⟩
theorem xf_RX6_32 : XFld RX6 32 6 5 := ⟨RX6, TX6, 10, rfl, by decide, bigW_at 233 (by decide +kernel) rfl, xw6⟩
theorem xl_RX6_131 : Cond.methodLink RX6 131 yX5_append ∈ bigW := bigW_at 335 (by decide +kernel) rfl
theorem xi_X5_append : Cond.instanceMethod yX5_append ∈ bigW := bigW_at 336 (by decide +kernel) rfl
theorem xs_X5_append : Cond.selects RX5 yX5_append yX5_append ∈ bigW := bigW_at 337 (by decide +kernel) rfl
theorem xm_X5_append : XM mX5_append 1 := ⟨bigW_at 338 (by decide +kernel) rfl, bigW_at 33 (by decide +kernel) rfl, ⟨by decide +kernel, by decide +kernel, by decide +kernel⟩, by decide⟩
theorem xf_RX6_36 : XFld RX6 36 6 6 := ⟨RX6, TX6, 10, rfl, by decide, bigW_at 234 (by decide +kernel) rfl, xw6⟩
theorem xl_RX6_135 : Cond.methodLink RX6 135 yX5_read ∈ bigW := bigW_at 343 (by decide +kernel) rfl
theorem xi_X5_read : Cond.instanceMethod yX5_read ∈ bigW := bigW_at 344 (by decide +kernel) rfl
theorem xs_X5_read : Cond.selects RX5 yX5_read yX5_read ∈ bigW := bigW_at 345 (by decide +kernel) rfl
theorem xm_X5_read : XM mX5_read 1 := ⟨bigW_at 346 (by decide +kernel) rfl, bigW_at 33 (by decide +kernel) rfl, ⟨by decide +kernel, by decide +kernel, by decide +kernel⟩, by decide⟩
theorem xl_RX6_141 : Cond.methodLink RX6 141 yX3_takeOver ∈ bigW := bigW_at 394 (by decide +kernel) rfl
theorem xi_X3_takeOver : Cond.instanceMethod yX3_takeOver ∈ bigW := bigW_at 395 (by decide +kernel) rfl
theorem xs_X3_takeOver : Cond.selects RX3 yX3_takeOver yX3_takeOver ∈ bigW := bigW_at 396 (by decide +kernel) rfl
theorem xm_X3_takeOver : XM mX3_takeOver 1 := ⟨bigW_at 397 (by decide +kernel) rfl, bigW_at 30 (by decide +kernel) rfl, ⟨by decide +kernel, by decide +kernel, by decide +kernel⟩, by decide⟩
theorem xf_RX6_148 : XFld RX6 148 3 0 := ⟨RX3, TX3, 10, rfl, by decide, bigW_at 104 (by decide +kernel) rfl, xw3⟩
theorem xf_RX6_151 : XFld RX6 151 3 1 := ⟨RX3, TX3, 10, rfl, by decide, bigW_at 106 (by decide +kernel) rfl, xw3⟩
theorem xf_RX6_154 : XFld RX6 154 2 2 := ⟨RX2, TX2, 7, rfl, by decide, bigW_at 72 (by decide +kernel) rfl, xw2⟩
theorem xf_RX6_157 : XFld RX6 157 2 3 := ⟨RX2, TX2, 7, rfl, by decide, bigW_at 75 (by decide +kernel) rfl, xw2⟩
theorem xf_RX6_160 : XFld RX6 160 2 4 := ⟨RX2, TX2, 7, rfl, by decide, bigW_at 78 (by decide +kernel) rfl, xw2⟩
theorem xl_RX6_163 : Cond.methodLink RX6 163 yX3_fruitOfAll ∈ bigW := bigW_at 414 (by decide +kernel) rfl
theorem xi_X3_fruitOfAll : Cond.instanceMethod yX3_fruitOfAll ∈ bigW := bigW_at 415 (by decide +kernel) rfl
theorem xs_X3_fruitOfAll : Cond.selects RX3 yX3_fruitOfAll yX3_fruitOfAll ∈ bigW := bigW_at 416 (by decide +kernel) rfl
theorem xm_X3_fruitOfAll : XM mX3_fruitOfAll 1 := ⟨bigW_at 417 (by decide +kernel) rfl, bigW_at 30 (by decide +kernel) rfl, ⟨by decide +kernel, by decide +kernel, by decide +kernel⟩, by decide⟩
theorem xf_RX6_145 : XFld RX6 145 1 1 := ⟨RX1, TX1, 2, rfl, by decide, bigW_at 156 (by decide +kernel) rfl, xw1⟩
theorem xl_RX6_167 : Cond.methodLink RX6 167 yX1_remember ∈ bigW := bigW_at 422 (by decide +kernel) rfl
theorem xi_X1_remember : Cond.instanceMethod yX1_remember ∈ bigW := bigW_at 423 (by decide +kernel) rfl
theorem xs_X1_remember : Cond.selects RX1 yX1_remember yX1_remember ∈ bigW := bigW_at 424 (by decide +kernel) rfl
theorem xm_X1_remember : XM mX1_remember 1 := ⟨bigW_at 425 (by decide +kernel) rfl, bigW_at 32 (by decide +kernel) rfl, ⟨by decide +kernel, by decide +kernel, by decide +kernel⟩, by decide⟩
theorem xl_RX6_171 : Cond.methodLink RX6 171 yX3_pass ∈ bigW := bigW_at 431 (by decide +kernel) rfl
theorem xi_X3_pass : Cond.instanceMethod yX3_pass ∈ bigW := bigW_at 432 (by decide +kernel) rfl
theorem xs_X3_pass : Cond.selects RX3 yX3_pass yX3_pass ∈ bigW := bigW_at 433 (by decide +kernel) rfl
theorem xm_X3_pass : XM mX3_pass 1 := ⟨bigW_at 434 (by decide +kernel) rfl, bigW_at 30 (by decide +kernel) rfl, ⟨by decide +kernel, by decide +kernel, by decide +kernel⟩, by decide⟩
theorem xl_RX6_174 : Cond.methodLink RX6 174 yX2_shakeOff ∈ bigW := bigW_at 460 (by decide +kernel) rfl
theorem xl_RX6_177 : Cond.methodLink RX6 177 yX3_gust ∈ bigW := bigW_at 468 (by decide +kernel) rfl
theorem xi_X3_gust : Cond.instanceMethod yX3_gust ∈ bigW := bigW_at 469 (by decide +kernel) rfl
theorem xs_X3_gust : Cond.selects RX3 yX3_gust yX3_gust ∈ bigW := bigW_at 470 (by decide +kernel) rfl
theorem xm_X3_gust : XM mX3_gust 0 := ⟨bigW_at 471 (by decide +kernel) rfl, bigW_at 30 (by decide +kernel) rfl, ⟨by decide +kernel, by decide +kernel, by decide +kernel⟩, by decide⟩
theorem xl_RX6_180 : Cond.methodLink RX6 180 yX1_putBack ∈ bigW := bigW_at 480 (by decide +kernel) rfl
theorem xi_X1_putBack : Cond.instanceMethod yX1_putBack ∈ bigW := bigW_at 481 (by decide +kernel) rfl
theorem xs_X1_putBack : Cond.selects RX1 yX1_putBack yX1_putBack ∈ bigW := bigW_at 482 (by decide +kernel) rfl
theorem xm_X1_putBack : XM mX1_putBack 1 := ⟨bigW_at 483 (by decide +kernel) rfl, bigW_at 32 (by decide +kernel) rfl, ⟨by decide +kernel, by decide +kernel, by decide +kernel⟩, by decide⟩
theorem xf_RX6_183 : XFld RX6 183 2 6 := ⟨RX2, TX2, 7, rfl, by decide, bigW_at 85 (by decide +kernel) rfl, xw2⟩
theorem xf_RX6_42 : XFld RX6 42 6 7 := ⟨RX6, TX6, 10, rfl, by decide, bigW_at 235 (by decide +kernel) rfl, xw6⟩
theorem xl_RX6_186 : Cond.methodLink RX6 186 yX2_become ∈ bigW := bigW_at 492 (by decide +kernel) rfl
theorem xl_RX6_189 : Cond.methodLink RX6 189 yX3_leftBehind ∈ bigW := bigW_at 497 (by decide +kernel) rfl
theorem xi_X3_leftBehind : Cond.instanceMethod yX3_leftBehind ∈ bigW := bigW_at 498 (by decide +kernel) rfl
theorem xs_X3_leftBehind : Cond.selects RX3 yX3_leftBehind yX3_leftBehind ∈ bigW := bigW_at 499 (by decide +kernel) rfl
theorem xm_X3_leftBehind : XM mX3_leftBehind 4 := ⟨bigW_at 500 (by decide +kernel) rfl, bigW_at 30 (by decide +kernel) rfl, ⟨by decide +kernel, by decide +kernel, by decide +kernel⟩, by decide⟩
theorem xf_RX6_49 : XFld RX6 49 6 8 := ⟨RX6, TX6, 10, rfl, by decide, bigW_at 236 (by decide +kernel) rfl, xw6⟩
theorem xf_RX6_193 : XFld RX6 193 0 0 := ⟨RX0, TX0, 4, rfl, by decide, bigW_at 192 (by decide +kernel) rfl, xw0⟩
theorem xl_RX6_196 : Cond.methodLink RX6 196 yX3_gotAt ∈ bigW := bigW_at 513 (by decide +kernel) rfl
theorem xi_X3_gotAt : Cond.instanceMethod yX3_gotAt ∈ bigW := bigW_at 514 (by decide +kernel) rfl
theorem xs_X3_gotAt : Cond.selects RX3 yX3_gotAt yX3_gotAt ∈ bigW := bigW_at 515 (by decide +kernel) rfl
theorem xm_X3_gotAt : XM mX3_gotAt 4 := ⟨bigW_at 516 (by decide +kernel) rfl, bigW_at 30 (by decide +kernel) rfl, ⟨by decide +kernel, by decide +kernel, by decide +kernel⟩, by decide⟩
theorem xl_RX6_199 : Cond.methodLink RX6 199 yX0_seek ∈ bigW := bigW_at 521 (by decide +kernel) rfl
theorem xi_X0_seek : Cond.instanceMethod yX0_seek ∈ bigW := bigW_at 522 (by decide +kernel) rfl
theorem xs_X0_seek : Cond.selects RX0 yX0_seek yX0_seek ∈ bigW := bigW_at 523 (by decide +kernel) rfl
theorem xm_X0_seek : XM mX0_seek 2 := ⟨bigW_at 524 (by decide +kernel) rfl, bigW_at 34 (by decide +kernel) rfl, ⟨by decide +kernel, by decide +kernel, by decide +kernel⟩, by decide⟩
theorem xf_RX6_203 : XFld RX6 203 0 3 := ⟨RX0, TX0, 4, rfl, by decide, bigW_at 197 (by decide +kernel) rfl, xw0⟩
theorem xf_RX6_206 : XFld RX6 206 0 1 := ⟨RX0, TX0, 4, rfl, by decide, bigW_at 194 (by decide +kernel) rfl, xw0⟩
theorem xl_RX6_208 : Cond.methodLink RX6 208 yX3_gotWithGuest ∈ bigW := bigW_at 537 (by decide +kernel) rfl
theorem xl_RX6_212 : Cond.methodLink RX6 212 yX6_reachOfKind ∈ bigW := bigW_at 542 (by decide +kernel) rfl
theorem xl_RX6_215 : Cond.methodLink RX6 215 yX3_leaningAnywhere ∈ bigW := bigW_at 551 (by decide +kernel) rfl
theorem xi_X3_leaningAnywhere : Cond.instanceMethod yX3_leaningAnywhere ∈ bigW := bigW_at 552 (by decide +kernel) rfl
theorem xs_X3_leaningAnywhere : Cond.selects RX3 yX3_leaningAnywhere yX3_leaningAnywhere ∈ bigW := bigW_at 553 (by decide +kernel) rfl
theorem xm_X3_leaningAnywhere : XM mX3_leaningAnywhere 0 := ⟨bigW_at 554 (by decide +kernel) rfl, bigW_at 30 (by decide +kernel) rfl, ⟨by decide +kernel, by decide +kernel, by decide +kernel⟩, by decide⟩
theorem xl_RX6_219 : Cond.methodLink RX6 219 yX6_waysToBe ∈ bigW := bigW_at 555 (by decide +kernel) rfl
theorem xt_X6_waysToBe : Cond.static yX6_waysToBe ∈ bigW := bigW_at 556 (by decide +kernel) rfl
theorem xm_X6_waysToBe : XM mX6_waysToBe 3 := ⟨bigW_at 557 (by decide +kernel) rfl, bigW_at 29 (by decide +kernel) rfl, ⟨by decide +kernel, by decide +kernel, by decide +kernel⟩, by decide⟩
theorem xl_RX6_222 : Cond.methodLink RX6 222 yX3_gotToday ∈ bigW := bigW_at 558 (by decide +kernel) rfl
theorem xi_X3_gotToday : Cond.instanceMethod yX3_gotToday ∈ bigW := bigW_at 559 (by decide +kernel) rfl
theorem xs_X3_gotToday : Cond.selects RX3 yX3_gotToday yX3_gotToday ∈ bigW := bigW_at 560 (by decide +kernel) rfl
theorem xm_X3_gotToday : XM mX3_gotToday 1 := ⟨bigW_at 561 (by decide +kernel) rfl, bigW_at 30 (by decide +kernel) rfl, ⟨by decide +kernel, by decide +kernel, by decide +kernel⟩, by decide⟩
theorem xl_RX6_225 : Cond.methodLink RX6 225 yX6_commonDivisor ∈ bigW := bigW_at 562 (by decide +kernel) rfl
theorem xt_X6_commonDivisor : Cond.static yX6_commonDivisor ∈ bigW := bigW_at 563 (by decide +kernel) rfl
theorem xm_X6_commonDivisor : XM mX6_commonDivisor 2 := ⟨bigW_at 564 (by decide +kernel) rfl, bigW_at 29 (by decide +kernel) rfl, ⟨by decide +kernel, by decide +kernel, by decide +kernel⟩, by decide⟩
theorem xf_RX6_23 : XFld RX6 23 6 2 := ⟨RX6, TX6, 10, rfl, by decide, bigW_at 230 (by decide +kernel) rfl, xw6⟩
theorem xl_RX6_228 : Cond.methodLink RX6 228 yX3_become ∈ bigW := bigW_at 572 (by decide +kernel) rfl
theorem xi_X3_become : Cond.instanceMethod yX3_become ∈ bigW := bigW_at 573 (by decide +kernel) rfl
theorem xs_X3_become : Cond.selects RX3 yX3_become yX3_become ∈ bigW := bigW_at 574 (by decide +kernel) rfl
theorem xm_X3_become : XM mX3_become 1 := ⟨bigW_at 575 (by decide +kernel) rfl, bigW_at 30 (by decide +kernel) rfl, ⟨by decide +kernel, by decide +kernel, by decide +kernel⟩, by decide⟩
theorem xf_RX6_26 : XFld RX6 26 6 3 := ⟨RX6, TX6, 10, rfl, by decide, bigW_at 231 (by decide +kernel) rfl, xw6⟩
theorem xl_RX6_230 : Cond.methodLink RX6 230 yX1_become ∈ bigW := bigW_at 576 (by decide +kernel) rfl
theorem xi_X1_become : Cond.instanceMethod yX1_become ∈ bigW := bigW_at 577 (by decide +kernel) rfl
theorem xs_X1_become : Cond.selects RX1 yX1_become yX1_become ∈ bigW := bigW_at 578 (by decide +kernel) rfl
theorem xm_X1_become : XM mX1_become 1 := ⟨bigW_at 579 (by decide +kernel) rfl, bigW_at 32 (by decide +kernel) rfl, ⟨by decide +kernel, by decide +kernel, by decide +kernel⟩, by decide⟩
theorem xf_RX6_233 : XFld RX6 233 6 4 := ⟨RX6, TX6, 10, rfl, by decide, bigW_at 232 (by decide +kernel) rfl, xw6⟩
theorem xl_RX6_237 : Cond.methodLink RX6 237 yX6_isSheet ∈ bigW := bigW_at 588 (by decide +kernel) rfl
theorem xt_X6_isSheet : Cond.static yX6_isSheet ∈ bigW := bigW_at 589 (by decide +kernel) rfl
theorem xm_X6_isSheet : XM mX6_isSheet 1 := ⟨bigW_at 590 (by decide +kernel) rfl, bigW_at 29 (by decide +kernel) rfl, ⟨by decide +kernel, by decide +kernel, by decide +kernel⟩, by decide⟩
theorem xl_RX6_240 : Cond.methodLink RX6 240 yX6_isLane ∈ bigW := bigW_at 591 (by decide +kernel) rfl
theorem xt_X6_isLane : Cond.static yX6_isLane ∈ bigW := bigW_at 592 (by decide +kernel) rfl
theorem xm_X6_isLane : XM mX6_isLane 1 := ⟨bigW_at 593 (by decide +kernel) rfl, bigW_at 29 (by decide +kernel) rfl, ⟨by decide +kernel, by decide +kernel, by decide +kernel⟩, by decide⟩
theorem xl_RX6_243 : Cond.methodLink RX6 243 yX4_find ∈ bigW := bigW_at 594 (by decide +kernel) rfl
theorem xi_X4_find : Cond.instanceMethod yX4_find ∈ bigW := bigW_at 595 (by decide +kernel) rfl
theorem xs_X4_find : Cond.selects RX4 yX4_find yX4_find ∈ bigW := bigW_at 596 (by decide +kernel) rfl
theorem xm_X4_find : XM mX4_find 3 := ⟨bigW_at 597 (by decide +kernel) rfl, bigW_at 35 (by decide +kernel) rfl, ⟨by decide +kernel, by decide +kernel, by decide +kernel⟩, by decide⟩
theorem xl_RX6_246 : Cond.methodLink RX6 246 yX6_leavesSo ∈ bigW := bigW_at 602 (by decide +kernel) rfl
theorem xi_X6_leavesSo : Cond.instanceMethod yX6_leavesSo ∈ bigW := bigW_at 604 (by decide +kernel) rfl
theorem xs_X6_leavesSo : Cond.selects RX6 yX6_leavesSo yX6_leavesSo ∈ bigW := bigW_at 0 (by decide +kernel) rfl
theorem xm_X6_leavesSo : XM mX6_leavesSo 5 := ⟨bigW_at 605 (by decide +kernel) rfl, bigW_at 29 (by decide +kernel) rfl, ⟨by decide +kernel, by decide +kernel, by decide +kernel⟩, by decide⟩
theorem xl_RX6_250 : Cond.methodLink RX6 250 yX4_put ∈ bigW := bigW_at 610 (by decide +kernel) rfl
theorem xi_X4_put : Cond.instanceMethod yX4_put ∈ bigW := bigW_at 611 (by decide +kernel) rfl
theorem xs_X4_put : Cond.selects RX4 yX4_put yX4_put ∈ bigW := bigW_at 612 (by decide +kernel) rfl
theorem xm_X4_put : XM mX4_put 2 := ⟨bigW_at 613 (by decide +kernel) rfl, bigW_at 35 (by decide +kernel) rfl, ⟨by decide +kernel, by decide +kernel, by decide +kernel⟩, by decide⟩
theorem xl_RX6_254 : Cond.methodLink RX6 254 yX4_begin ∈ bigW := bigW_at 618 (by decide +kernel) rfl
theorem xi_X4_begin : Cond.instanceMethod yX4_begin ∈ bigW := bigW_at 619 (by decide +kernel) rfl
theorem xs_X4_begin : Cond.selects RX4 yX4_begin yX4_begin ∈ bigW := bigW_at 620 (by decide +kernel) rfl
theorem xm_X4_begin : XM mX4_begin 2 := ⟨bigW_at 621 (by decide +kernel) rfl, bigW_at 35 (by decide +kernel) rfl, ⟨by decide +kernel, by decide +kernel, by decide +kernel⟩, by decide⟩
theorem xf_RX6_257 : XFld RX6 257 4 1 := ⟨RX4, TX4, 3, rfl, by decide, bigW_at 217 (by decide +kernel) rfl, xw4⟩
theorem xf_RX6_260 : XFld RX6 260 4 2 := ⟨RX4, TX4, 3, rfl, by decide, bigW_at 219 (by decide +kernel) rfl, xw4⟩
theorem xl_RX6_261 : Cond.methodLink RX6 261 yX4_holds ∈ bigW := bigW_at 634 (by decide +kernel) rfl
theorem xf_RX6_265 : XFld RX6 265 4 0 := ⟨RX4, TX4, 3, rfl, by decide, bigW_at 215 (by decide +kernel) rfl, xw4⟩
theorem xl_RX6_269 : Cond.methodLink RX6 269 arraycopyName ∈ bigW := bigW_at 635 (by decide +kernel) rfl
theorem xl_RX6_275 : Cond.methodLink RX6 275 yX6_reachOfDewy ∈ bigW := bigW_at 301 (by decide +kernel) rfl
theorem xt_X6_reachOfDewy : Cond.static yX6_reachOfDewy ∈ bigW := bigW_at 302 (by decide +kernel) rfl
theorem xm_X6_reachOfDewy : XM mX6_reachOfDewy 2 := ⟨bigW_at 303 (by decide +kernel) rfl, bigW_at 29 (by decide +kernel) rfl, ⟨by decide +kernel, by decide +kernel, by decide +kernel⟩, by decide⟩
theorem xl_RX6_278 : Cond.methodLink RX6 278 yX6_reachOfTied ∈ bigW := bigW_at 304 (by decide +kernel) rfl
theorem xt_X6_reachOfTied : Cond.static yX6_reachOfTied ∈ bigW := bigW_at 305 (by decide +kernel) rfl
theorem xm_X6_reachOfTied : XM mX6_reachOfTied 1 := ⟨bigW_at 306 (by decide +kernel) rfl, bigW_at 29 (by decide +kernel) rfl, ⟨by decide +kernel, by decide +kernel, by decide +kernel⟩, by decide⟩
theorem xl_RX6_281 : Cond.methodLink RX6 281 Lib.Math.min.name ∈ bigW := bigW_at 307 (by decide +kernel) rfl
theorem xl_RX6_286 : Cond.methodLink RX6 286 Lib.Math.max.name ∈ bigW := bigW_at 565 (by decide +kernel) rfl
theorem xl_ms_max : Cond.static Lib.Math.max.name ∈ bigW := bigW_at 566 (by decide +kernel) rfl
theorem xl_mc_max : Cond.code Lib.Math.max.name Lib.Math.max.code 2 (some .int) ∈ bigW := bigW_at 567 (by decide +kernel) rfl
theorem xl_RX7_1 : Cond.methodLink RX7 1 objectInit ∈ bigW := bigW_at 641 (by decide +kernel) rfl
theorem xf_RX7_7 : XFld RX7 7 7 0 := ⟨RX7, TX7, 17, rfl, by decide, bigW_at 642 (by decide +kernel) rfl, xw7⟩
theorem xf_RX7_31 : XFld RX7 31 7 13 := ⟨RX7, TX7, 17, rfl, by decide, bigW_at 655 (by decide +kernel) rfl, xw7⟩
theorem xl_RX7_44 : Cond.methodLink RX7 44 yX7_in ∈ bigW := bigW_at 699 (by decide +kernel) rfl
theorem xt_X7_in : Cond.static yX7_in ∈ bigW := bigW_at 700 (by decide +kernel) rfl
theorem xm_X7_in : XM mX7_in 3 := ⟨bigW_at 701 (by decide +kernel) rfl, bigW_at 36 (by decide +kernel) rfl, ⟨by decide +kernel, by decide +kernel, by decide +kernel⟩, by decide⟩
theorem xl_RX7_48 : Cond.methodLink RX7 48 yX7_ofLadder ∈ bigW := bigW_at 737 (by decide +kernel) rfl
theorem xi_X7_ofLadder : Cond.instanceMethod yX7_ofLadder ∈ bigW := bigW_at 739 (by decide +kernel) rfl
theorem xs_X7_ofLadder : Cond.selects RX7 yX7_ofLadder yX7_ofLadder ∈ bigW := bigW_at 7 (by decide +kernel) rfl
theorem xm_X7_ofLadder : XM mX7_ofLadder 2 := ⟨bigW_at 740 (by decide +kernel) rfl, bigW_at 36 (by decide +kernel) rfl, ⟨by decide +kernel, by decide +kernel, by decide +kernel⟩, by decide⟩
theorem xl_RX7_52 : Cond.methodLink RX7 52 yX7_reaches ∈ bigW := bigW_at 749 (by decide +kernel) rfl
theorem xt_X7_reaches : Cond.static yX7_reaches ∈ bigW := bigW_at 750 (by decide +kernel) rfl
theorem xm_X7_reaches : XM mX7_reaches 3 := ⟨bigW_at 751 (by decide +kernel) rfl, bigW_at 36 (by decide +kernel) rfl, ⟨by decide +kernel, by decide +kernel, by decide +kernel⟩, by decide⟩
theorem xl_RX7_56 : Cond.methodLink RX7 56 yX7_ofTree ∈ bigW := bigW_at 725 (by decide +kernel) rfl
theorem xi_X7_ofTree : Cond.instanceMethod yX7_ofTree ∈ bigW := bigW_at 727 (by decide +kernel) rfl
theorem xs_X7_ofTree : Cond.selects RX7 yX7_ofTree yX7_ofTree ∈ bigW := bigW_at 4 (by decide +kernel) rfl
theorem xm_X7_ofTree : XM mX7_ofTree 2 := ⟨bigW_at 728 (by decide +kernel) rfl, bigW_at 36 (by decide +kernel) rfl, ⟨by decide +kernel, by decide +kernel, by decide +kernel⟩, by decide⟩
theorem xl_RX7_59 : Cond.methodLink RX7 59 yX7_leansAt ∈ bigW := bigW_at 733 (by decide +kernel) rfl
theorem xi_X7_leansAt : Cond.instanceMethod yX7_leansAt ∈ bigW := bigW_at 735 (by decide +kernel) rfl
theorem xs_X7_leansAt : Cond.selects RX7 yX7_leansAt yX7_leansAt ∈ bigW := bigW_at 6 (by decide +kernel) rfl
theorem xm_X7_leansAt : XM mX7_leansAt 1 := ⟨bigW_at 736 (by decide +kernel) rfl, bigW_at 36 (by decide +kernel) rfl, ⟨by decide +kernel, by decide +kernel, by decide +kernel⟩, by decide⟩
theorem xl_RX7_63 : Cond.methodLink RX7 63 yX7_isRipe ∈ bigW := bigW_at 827 (by decide +kernel) rfl
theorem xi_X7_isRipe : Cond.instanceMethod yX7_isRipe ∈ bigW := bigW_at 829 (by decide +kernel) rfl
theorem xs_X7_isRipe : Cond.selects RX7 yX7_isRipe yX7_isRipe ∈ bigW := bigW_at 21 (by decide +kernel) rfl
theorem xm_X7_isRipe : XM mX7_isRipe 1 := ⟨bigW_at 830 (by decide +kernel) rfl, bigW_at 36 (by decide +kernel) rfl, ⟨by decide +kernel, by decide +kernel, by decide +kernel⟩, by decide⟩
theorem xl_RX7_67 : Cond.methodLink RX7 67 yX7_isReached ∈ bigW := bigW_at 745 (by decide +kernel) rfl
theorem xi_X7_isReached : Cond.instanceMethod yX7_isReached ∈ bigW := bigW_at 747 (by decide +kernel) rfl
theorem xs_X7_isReached : Cond.selects RX7 yX7_isReached yX7_isReached ∈ bigW := bigW_at 9 (by decide +kernel) rfl
theorem xm_X7_isReached : XM mX7_isReached 3 := ⟨bigW_at 748 (by decide +kernel) rfl, bigW_at 36 (by decide +kernel) rfl, ⟨by decide +kernel, by decide +kernel, by decide +kernel⟩, by decide⟩
theorem xl_RX7_71 : Cond.methodLink RX7 71 yX7_less ∈ bigW := bigW_at 831 (by decide +kernel) rfl
theorem xt_X7_less : Cond.static yX7_less ∈ bigW := bigW_at 832 (by decide +kernel) rfl
theorem xm_X7_less : XM mX7_less 2 := ⟨bigW_at 833 (by decide +kernel) rfl, bigW_at 36 (by decide +kernel) rfl, ⟨by decide +kernel, by decide +kernel, by decide +kernel⟩, by decide⟩
theorem xl_RX7_74 : Cond.methodLink RX7 74 yX7_takes ∈ bigW := bigW_at 834 (by decide +kernel) rfl
theorem xi_X7_takes : Cond.instanceMethod yX7_takes ∈ bigW := bigW_at 836 (by decide +kernel) rfl
theorem xs_X7_takes : Cond.selects RX7 yX7_takes yX7_takes ∈ bigW := bigW_at 22 (by decide +kernel) rfl
theorem xm_X7_takes : XM mX7_takes 2 := ⟨bigW_at 837 (by decide +kernel) rfl, bigW_at 36 (by decide +kernel) rfl, ⟨by decide +kernel, by decide +kernel, by decide +kernel⟩, by decide⟩
theorem xl_RX7_78 : Cond.methodLink RX7 78 yX7_goesBy ∈ bigW := bigW_at 823 (by decide +kernel) rfl
theorem xi_X7_goesBy : Cond.instanceMethod yX7_goesBy ∈ bigW := bigW_at 825 (by decide +kernel) rfl
theorem xs_X7_goesBy : Cond.selects RX7 yX7_goesBy yX7_goesBy ∈ bigW := bigW_at 20 (by decide +kernel) rfl
theorem xm_X7_goesBy : XM mX7_goesBy 1 := ⟨bigW_at 826 (by decide +kernel) rfl, bigW_at 36 (by decide +kernel) rfl, ⟨by decide +kernel, by decide +kernel, by decide +kernel⟩, by decide⟩
theorem xl_RX7_90 : Cond.methodLink RX7 90 yX7_treeComes ∈ bigW := bigW_at 703 (by decide +kernel) rfl
theorem xi_X7_treeComes : Cond.instanceMethod yX7_treeComes ∈ bigW := bigW_at 705 (by decide +kernel) rfl
theorem xs_X7_treeComes : Cond.selects RX7 yX7_treeComes yX7_treeComes ∈ bigW := bigW_at 1 (by decide +kernel) rfl
theorem xm_X7_treeComes : XM mX7_treeComes 3 := ⟨bigW_at 706 (by decide +kernel) rfl, bigW_at 36 (by decide +kernel) rfl, ⟨by decide +kernel, by decide +kernel, by decide +kernel⟩, by decide⟩
theorem xl_RX7_98 : Cond.methodLink RX7 98 yX7_ladderComes ∈ bigW := bigW_at 713 (by decide +kernel) rfl
theorem xi_X7_ladderComes : Cond.instanceMethod yX7_ladderComes ∈ bigW := bigW_at 715 (by decide +kernel) rfl
theorem xs_X7_ladderComes : Cond.selects RX7 yX7_ladderComes yX7_ladderComes ∈ bigW := bigW_at 2 (by decide +kernel) rfl
theorem xm_X7_ladderComes : XM mX7_ladderComes 4 := ⟨bigW_at 716 (by decide +kernel) rfl, bigW_at 36 (by decide +kernel) rfl, ⟨by decide +kernel, by decide +kernel, by decide +kernel⟩, by decide⟩
theorem xl_RX7_102 : Cond.methodLink RX7 102 yX7_isTree ∈ bigW := bigW_at 721 (by decide +kernel) rfl
theorem xi_X7_isTree : Cond.instanceMethod yX7_isTree ∈ bigW := bigW_at 723 (by decide +kernel) rfl
theorem xs_X7_isTree : Cond.selects RX7 yX7_isTree yX7_isTree ∈ bigW := bigW_at 3 (by decide +kernel) rfl
theorem xm_X7_isTree : XM mX7_isTree 1 := ⟨bigW_at 724 (by decide +kernel) rfl, bigW_at 36 (by decide +kernel) rfl, ⟨by decide +kernel, by decide +kernel, by decide +kernel⟩, by decide⟩
theorem xl_RX7_105 : Cond.methodLink RX7 105 yX7_leaners ∈ bigW := bigW_at 729 (by decide +kernel) rfl
theorem xi_X7_leaners : Cond.instanceMethod yX7_leaners ∈ bigW := bigW_at 731 (by decide +kernel) rfl
theorem xs_X7_leaners : Cond.selects RX7 yX7_leaners yX7_leaners ∈ bigW := bigW_at 5 (by decide +kernel) rfl
theorem xm_X7_leaners : XM mX7_leaners 1 := ⟨bigW_at 732 (by decide +kernel) rfl, bigW_at 36 (by decide +kernel) rfl, ⟨by decide +kernel, by decide +kernel, by decide +kernel⟩, by decide⟩
theorem xl_RX7_108 : Cond.methodLink RX7 108 yX7_reachers ∈ bigW := bigW_at 741 (by decide +kernel) rfl
theorem xi_X7_reachers : Cond.instanceMethod yX7_reachers ∈ bigW := bigW_at 743 (by decide +kernel) rfl
theorem xs_X7_reachers : Cond.selects RX7 yX7_reachers yX7_reachers ∈ bigW := bigW_at 8 (by decide +kernel) rfl
theorem xm_X7_reachers : XM mX7_reachers 3 := ⟨bigW_at 744 (by decide +kernel) rfl, bigW_at 36 (by decide +kernel) rfl, ⟨by decide +kernel, by decide +kernel, by decide +kernel⟩, by decide⟩
theorem xl_RX7_112 : Cond.methodLink RX7 112 yX7_isLadder ∈ bigW := bigW_at 756 (by decide +kernel) rfl
theorem xi_X7_isLadder : Cond.instanceMethod yX7_isLadder ∈ bigW := bigW_at 758 (by decide +kernel) rfl
theorem xs_X7_isLadder : Cond.selects RX7 yX7_isLadder yX7_isLadder ∈ bigW := bigW_at 10 (by decide +kernel) rfl
theorem xm_X7_isLadder : XM mX7_isLadder 1 := ⟨bigW_at 759 (by decide +kernel) rfl, bigW_at 36 (by decide +kernel) rfl, ⟨by decide +kernel, by decide +kernel, by decide +kernel⟩, by decide⟩
theorem xl_RX7_119 : Cond.methodLink RX7 119 yX7_allFruit ∈ bigW := bigW_at 770 (by decide +kernel) rfl
theorem xi_X7_allFruit : Cond.instanceMethod yX7_allFruit ∈ bigW := bigW_at 772 (by decide +kernel) rfl
theorem xs_X7_allFruit : Cond.selects RX7 yX7_allFruit yX7_allFruit ∈ bigW := bigW_at 11 (by decide +kernel) rfl
theorem xm_X7_allFruit : XM mX7_allFruit 0 := ⟨bigW_at 773 (by decide +kernel) rfl, bigW_at 36 (by decide +kernel) rfl, ⟨by decide +kernel, by decide +kernel, by decide +kernel⟩, by decide⟩
theorem xf_RX7_82 : XFld RX7 82 7 8 := ⟨RX7, TX7, 17, rfl, by decide, bigW_at 650 (by decide +kernel) rfl, xw7⟩
theorem xf_RX7_127 : XFld RX7 127 7 2 := ⟨RX7, TX7, 17, rfl, by decide, bigW_at 644 (by decide +kernel) rfl, xw7⟩
theorem xf_RX7_13 : XFld RX7 13 7 1 := ⟨RX7, TX7, 17, rfl, by decide, bigW_at 643 (by decide +kernel) rfl, xw7⟩
theorem xf_RX7_130 : XFld RX7 130 7 3 := ⟨RX7, TX7, 17, rfl, by decide, bigW_at 645 (by decide +kernel) rfl, xw7⟩
theorem xf_RX7_133 : XFld RX7 133 7 4 := ⟨RX7, TX7, 17, rfl, by decide, bigW_at 646 (by decide +kernel) rfl, xw7⟩
theorem xl_RX7_137 : Cond.methodLink RX7 137 yX7_here ∈ bigW := bigW_at 788 (by decide +kernel) rfl
theorem xi_X7_here : Cond.instanceMethod yX7_here ∈ bigW := bigW_at 790 (by decide +kernel) rfl
theorem xs_X7_here : Cond.selects RX7 yX7_here yX7_here ∈ bigW := bigW_at 13 (by decide +kernel) rfl
theorem xm_X7_here : XM mX7_here 0 := ⟨bigW_at 791 (by decide +kernel) rfl, bigW_at 36 (by decide +kernel) rfl, ⟨by decide +kernel, by decide +kernel, by decide +kernel⟩, by decide⟩
theorem xl_RX7_140 : Cond.methodLink RX7 140 yX7_must ∈ bigW := bigW_at 792 (by decide +kernel) rfl
theorem xi_X7_must : Cond.instanceMethod yX7_must ∈ bigW := bigW_at 794 (by decide +kernel) rfl
theorem xs_X7_must : Cond.selects RX7 yX7_must yX7_must ∈ bigW := bigW_at 14 (by decide +kernel) rfl
theorem xm_X7_must : XM mX7_must 1 := ⟨bigW_at 795 (by decide +kernel) rfl, bigW_at 36 (by decide +kernel) rfl, ⟨by decide +kernel, by decide +kernel, by decide +kernel⟩, by decide⟩
theorem xl_RX7_148 : Cond.methodLink RX7 148 yX7_number ∈ bigW := bigW_at 796 (by decide +kernel) rfl
theorem xi_X7_number : Cond.instanceMethod yX7_number ∈ bigW := bigW_at 798 (by decide +kernel) rfl
theorem xs_X7_number : Cond.selects RX7 yX7_number yX7_number ∈ bigW := bigW_at 15 (by decide +kernel) rfl
theorem xm_X7_number : XM mX7_number 2 := ⟨bigW_at 799 (by decide +kernel) rfl, bigW_at 36 (by decide +kernel) rfl, ⟨by decide +kernel, by decide +kernel, by decide +kernel⟩, by decide⟩
theorem xl_RX7_151 : Cond.methodLink RX7 151 yX7_sign ∈ bigW := bigW_at 802 (by decide +kernel) rfl
theorem xi_X7_sign : Cond.instanceMethod yX7_sign ∈ bigW := bigW_at 804 (by decide +kernel) rfl
theorem xs_X7_sign : Cond.selects RX7 yX7_sign yX7_sign ∈ bigW := bigW_at 16 (by decide +kernel) rfl
theorem xm_X7_sign : XM mX7_sign 1 := ⟨bigW_at 805 (by decide +kernel) rfl, bigW_at 36 (by decide +kernel) rfl, ⟨by decide +kernel, by decide +kernel, by decide +kernel⟩, by decide⟩
theorem xf_RX7_16 : XFld RX7 16 7 5 := ⟨RX7, TX7, 17, rfl, by decide, bigW_at 647 (by decide +kernel) rfl, xw7⟩
theorem xl_RX7_154 : Cond.methodLink RX7 154 yX7_digit ∈ bigW := bigW_at 810 (by decide +kernel) rfl
theorem xi_X7_digit : Cond.instanceMethod yX7_digit ∈ bigW := bigW_at 812 (by decide +kernel) rfl
theorem xs_X7_digit : Cond.selects RX7 yX7_digit yX7_digit ∈ bigW := bigW_at 18 (by decide +kernel) rfl
theorem xm_X7_digit : XM mX7_digit 2 := ⟨bigW_at 813 (by decide +kernel) rfl, bigW_at 36 (by decide +kernel) rfl, ⟨by decide +kernel, by decide +kernel, by decide +kernel⟩, by decide⟩
theorem xf_RX7_19 : XFld RX7 19 7 6 := ⟨RX7, TX7, 17, rfl, by decide, bigW_at 648 (by decide +kernel) rfl, xw7⟩
theorem xl_RX7_157 : Cond.methodLink RX7 157 yX7_readTrees ∈ bigW := bigW_at 784 (by decide +kernel) rfl
theorem xi_X7_readTrees : Cond.instanceMethod yX7_readTrees ∈ bigW := bigW_at 786 (by decide +kernel) rfl
theorem xs_X7_readTrees : Cond.selects RX7 yX7_readTrees yX7_readTrees ∈ bigW := bigW_at 12 (by decide +kernel) rfl
theorem xm_X7_readTrees : XM mX7_readTrees 0 := ⟨bigW_at 787 (by decide +kernel) rfl, bigW_at 36 (by decide +kernel) rfl, ⟨by decide +kernel, by decide +kernel, by decide +kernel⟩, by decide⟩
theorem xl_RX7_160 : Cond.methodLink RX7 160 yX7_readLadders ∈ bigW := bigW_at 806 (by decide +kernel) rfl
theorem xi_X7_readLadders : Cond.instanceMethod yX7_readLadders ∈ bigW := bigW_at 808 (by decide +kernel) rfl
theorem xs_X7_readLadders : Cond.selects RX7 yX7_readLadders yX7_readLadders ∈ bigW := bigW_at 17 (by decide +kernel) rfl
theorem xm_X7_readLadders : XM mX7_readLadders 1 := ⟨bigW_at 809 (by decide +kernel) rfl, bigW_at 36 (by decide +kernel) rfl, ⟨by decide +kernel, by decide +kernel, by decide +kernel⟩, by decide⟩
theorem xf_RX7_22 : XFld RX7 22 7 7 := ⟨RX7, TX7, 17, rfl, by decide, bigW_at 649 (by decide +kernel) rfl, xw7⟩
theorem xl_RX7_165 : Cond.methodLink RX7 165 yX7_notes ∈ bigW := bigW_at 819 (by decide +kernel) rfl
theorem xi_X7_notes : Cond.instanceMethod yX7_notes ∈ bigW := bigW_at 821 (by decide +kernel) rfl
theorem xs_X7_notes : Cond.selects RX7 yX7_notes yX7_notes ∈ bigW := bigW_at 19 (by decide +kernel) rfl
theorem xm_X7_notes : XM mX7_notes 0 := ⟨bigW_at 822 (by decide +kernel) rfl, bigW_at 36 (by decide +kernel) rfl, ⟨by decide +kernel, by decide +kernel, by decide +kernel⟩, by decide⟩
theorem xl_RX7_168 : Cond.methodLink RX7 168 yX7_shakes ∈ bigW := bigW_at 846 (by decide +kernel) rfl
theorem xi_X7_shakes : Cond.instanceMethod yX7_shakes ∈ bigW := bigW_at 848 (by decide +kernel) rfl
theorem xs_X7_shakes : Cond.selects RX7 yX7_shakes yX7_shakes ∈ bigW := bigW_at 23 (by decide +kernel) rfl
theorem xm_X7_shakes : XM mX7_shakes 1 := ⟨bigW_at 849 (by decide +kernel) rfl, bigW_at 36 (by decide +kernel) rfl, ⟨by decide +kernel, by decide +kernel, by decide +kernel⟩, by decide⟩
theorem xf_RX7_25 : XFld RX7 25 7 9 := ⟨RX7, TX7, 17, rfl, by decide, bigW_at 651 (by decide +kernel) rfl, xw7⟩
theorem xl_RX7_182 : Cond.methodLink RX7 182 yX7_asides ∈ bigW := bigW_at 872 (by decide +kernel) rfl
theorem xi_X7_asides : Cond.instanceMethod yX7_asides ∈ bigW := bigW_at 874 (by decide +kernel) rfl
theorem xs_X7_asides : Cond.selects RX7 yX7_asides yX7_asides ∈ bigW := bigW_at 24 (by decide +kernel) rfl
theorem xm_X7_asides : XM mX7_asides 0 := ⟨bigW_at 875 (by decide +kernel) rfl, bigW_at 36 (by decide +kernel) rfl, ⟨by decide +kernel, by decide +kernel, by decide +kernel⟩, by decide⟩
theorem xl_RX7_185 : Cond.methodLink RX7 185 yX7_goesOn ∈ bigW := bigW_at 876 (by decide +kernel) rfl
theorem xi_X7_goesOn : Cond.instanceMethod yX7_goesOn ∈ bigW := bigW_at 878 (by decide +kernel) rfl
theorem xs_X7_goesOn : Cond.selects RX7 yX7_goesOn yX7_goesOn ∈ bigW := bigW_at 25 (by decide +kernel) rfl
theorem xm_X7_goesOn : XM mX7_goesOn 1 := ⟨bigW_at 879 (by decide +kernel) rfl, bigW_at 36 (by decide +kernel) rfl, ⟨by decide +kernel, by decide +kernel, by decide +kernel⟩, by decide⟩
theorem xl_RX7_188 : Cond.methodLink RX7 188 yX7_backs ∈ bigW := bigW_at 880 (by decide +kernel) rfl
theorem xi_X7_backs : Cond.instanceMethod yX7_backs ∈ bigW := bigW_at 882 (by decide +kernel) rfl
theorem xs_X7_backs : Cond.selects RX7 yX7_backs yX7_backs ∈ bigW := bigW_at 26 (by decide +kernel) rfl
theorem xm_X7_backs : XM mX7_backs 0 := ⟨bigW_at 883 (by decide +kernel) rfl, bigW_at 36 (by decide +kernel) rfl, ⟨by decide +kernel, by decide +kernel, by decide +kernel⟩, by decide⟩
theorem xl_RX7_193 : Cond.methodLink RX7 193 yX7_power ∈ bigW := bigW_at 901 (by decide +kernel) rfl
theorem xt_X7_power : Cond.static yX7_power ∈ bigW := bigW_at 902 (by decide +kernel) rfl
theorem xm_X7_power : XM mX7_power 2 := ⟨bigW_at 903 (by decide +kernel) rfl, bigW_at 36 (by decide +kernel) rfl, ⟨by decide +kernel, by decide +kernel, by decide +kernel⟩, by decide⟩
theorem xf_RX7_28 : XFld RX7 28 7 10 := ⟨RX7, TX7, 17, rfl, by decide, bigW_at 652 (by decide +kernel) rfl, xw7⟩
theorem xf_RX7_205 : XFld RX7 205 7 12 := ⟨RX7, TX7, 17, rfl, by decide, bigW_at 654 (by decide +kernel) rfl, xw7⟩
theorem xf_RX7_202 : XFld RX7 202 7 11 := ⟨RX7, TX7, 17, rfl, by decide, bigW_at 653 (by decide +kernel) rfl, xw7⟩
theorem xf_RX7_34 : XFld RX7 34 7 14 := ⟨RX7, TX7, 17, rfl, by decide, bigW_at 656 (by decide +kernel) rfl, xw7⟩
theorem xl_RX7_210 : Cond.methodLink RX7 210 yX7_isSheet ∈ bigW := bigW_at 935 (by decide +kernel) rfl
theorem xt_X7_isSheet : Cond.static yX7_isSheet ∈ bigW := bigW_at 936 (by decide +kernel) rfl
theorem xm_X7_isSheet : XM mX7_isSheet 1 := ⟨bigW_at 937 (by decide +kernel) rfl, bigW_at 36 (by decide +kernel) rfl, ⟨by decide +kernel, by decide +kernel, by decide +kernel⟩, by decide⟩
theorem xl_RX7_213 : Cond.methodLink RX7 213 yX7_isLane ∈ bigW := bigW_at 939 (by decide +kernel) rfl
theorem xt_X7_isLane : Cond.static yX7_isLane ∈ bigW := bigW_at 940 (by decide +kernel) rfl
theorem xm_X7_isLane : XM mX7_isLane 1 := ⟨bigW_at 941 (by decide +kernel) rfl, bigW_at 36 (by decide +kernel) rfl, ⟨by decide +kernel, by decide +kernel, by decide +kernel⟩, by decide⟩
theorem xl_RX7_218 : Cond.methodLink RX7 218 yX7_why ∈ bigW := bigW_at 943 (by decide +kernel) rfl
theorem xi_X7_why : Cond.instanceMethod yX7_why ∈ bigW := bigW_at 945 (by decide +kernel) rfl
theorem xs_X7_why : Cond.selects RX7 yX7_why yX7_why ∈ bigW := bigW_at 27 (by decide +kernel) rfl
theorem xm_X7_why : XM mX7_why 4 := ⟨bigW_at 946 (by decide +kernel) rfl, bigW_at 36 (by decide +kernel) rfl, ⟨by decide +kernel, by decide +kernel, by decide +kernel⟩, by decide⟩
theorem xf_RX7_37 : XFld RX7 37 7 15 := ⟨RX7, TX7, 17, rfl, by decide, bigW_at 657 (by decide +kernel) rfl, xw7⟩
theorem xf_RX7_41 : XFld RX7 41 7 16 := ⟨RX7, TX7, 17, rfl, by decide, bigW_at 658 (by decide +kernel) rfl, xw7⟩
theorem xc_RL_7 : Cond.classLink RL 7 RX6 ∈ bigW := bigW_at 40 (by decide +kernel) rfl
theorem xn_RX6 : Cond.instantiable RX6 10 ∈ bigW := bigW_at 41 (by decide +kernel) rfl
theorem xz_RX6 : Cond.initialized RX6 ∈ bigW := bigW_at 29 (by decide +kernel) rfl
theorem xl_RL_9 : Cond.methodLink RL 9 yX6_init ∈ bigW := bigW_at 42 (by decide +kernel) rfl
theorem xi_X6_init : Cond.instanceMethod yX6_init ∈ bigW := bigW_at 43 (by decide +kernel) rfl
theorem xm_X6_init : XM mX6_init 0 := ⟨bigW_at 44 (by decide +kernel) rfl, bigW_at 29 (by decide +kernel) rfl, ⟨by decide +kernel, by decide +kernel, by decide +kernel⟩, by decide⟩
theorem xc_RL_10 : Cond.classLink RL 10 RX7 ∈ bigW := bigW_at 636 (by decide +kernel) rfl
theorem xn_RX7 : Cond.instantiable RX7 17 ∈ bigW := bigW_at 637 (by decide +kernel) rfl
theorem xz_RX7 : Cond.initialized RX7 ∈ bigW := bigW_at 36 (by decide +kernel) rfl
theorem xl_RL_12 : Cond.methodLink RL 12 yX7_init ∈ bigW := bigW_at 638 (by decide +kernel) rfl
theorem xi_X7_init : Cond.instanceMethod yX7_init ∈ bigW := bigW_at 639 (by decide +kernel) rfl
theorem xm_X7_init : XM mX7_init 0 := ⟨bigW_at 640 (by decide +kernel) rfl, bigW_at 36 (by decide +kernel) rfl, ⟨by decide +kernel, by decide +kernel, by decide +kernel⟩, by decide⟩
theorem xl_RL_13 : Cond.methodLink RL 13 yX6_tree ∈ bigW := bigW_at 259 (by decide +kernel) rfl
theorem xi_X6_tree : Cond.instanceMethod yX6_tree ∈ bigW := bigW_at 260 (by decide +kernel) rfl
theorem xs_X6_tree : Cond.selects RX6 yX6_tree yX6_tree ∈ bigW := bigW_at 261 (by decide +kernel) rfl
theorem xm_X6_tree : XM mX6_tree 3 := ⟨bigW_at 262 (by decide +kernel) rfl, bigW_at 29 (by decide +kernel) rfl, ⟨by decide +kernel, by decide +kernel, by decide +kernel⟩, by decide⟩
theorem xl_RL_17 : Cond.methodLink RL 17 yX7_tree ∈ bigW := bigW_at 694 (by decide +kernel) rfl
theorem xi_X7_tree : Cond.instanceMethod yX7_tree ∈ bigW := bigW_at 695 (by decide +kernel) rfl
theorem xs_X7_tree : Cond.selects RX7 yX7_tree yX7_tree ∈ bigW := bigW_at 696 (by decide +kernel) rfl
theorem xm_X7_tree : XM mX7_tree 3 := ⟨bigW_at 697 (by decide +kernel) rfl, bigW_at 36 (by decide +kernel) rfl, ⟨by decide +kernel, by decide +kernel, by decide +kernel⟩, by decide⟩
theorem xl_RL_18 : Cond.methodLink RL 18 yX6_ladder ∈ bigW := bigW_at 274 (by decide +kernel) rfl
theorem xi_X6_ladder : Cond.instanceMethod yX6_ladder ∈ bigW := bigW_at 275 (by decide +kernel) rfl
theorem xs_X6_ladder : Cond.selects RX6 yX6_ladder yX6_ladder ∈ bigW := bigW_at 276 (by decide +kernel) rfl
theorem xm_X6_ladder : XM mX6_ladder 3 := ⟨bigW_at 277 (by decide +kernel) rfl, bigW_at 29 (by decide +kernel) rfl, ⟨by decide +kernel, by decide +kernel, by decide +kernel⟩, by decide⟩
theorem xl_RL_21 : Cond.methodLink RL 21 yX7_ladder ∈ bigW := bigW_at 707 (by decide +kernel) rfl
theorem xi_X7_ladder : Cond.instanceMethod yX7_ladder ∈ bigW := bigW_at 708 (by decide +kernel) rfl
theorem xs_X7_ladder : Cond.selects RX7 yX7_ladder yX7_ladder ∈ bigW := bigW_at 709 (by decide +kernel) rfl
theorem xm_X7_ladder : XM mX7_ladder 3 := ⟨bigW_at 710 (by decide +kernel) rfl, bigW_at 36 (by decide +kernel) rfl, ⟨by decide +kernel, by decide +kernel, by decide +kernel⟩, by decide⟩
theorem xl_RL_22 : Cond.methodLink RL 22 yX6_of ∈ bigW := bigW_at 282 (by decide +kernel) rfl
theorem xi_X6_of : Cond.instanceMethod yX6_of ∈ bigW := bigW_at 283 (by decide +kernel) rfl
theorem xs_X6_of : Cond.selects RX6 yX6_of yX6_of ∈ bigW := bigW_at 284 (by decide +kernel) rfl
theorem xm_X6_of : XM mX6_of 2 := ⟨bigW_at 285 (by decide +kernel) rfl, bigW_at 29 (by decide +kernel) rfl, ⟨by decide +kernel, by decide +kernel, by decide +kernel⟩, by decide⟩
theorem xl_RL_26 : Cond.methodLink RL 26 yX7_of ∈ bigW := bigW_at 717 (by decide +kernel) rfl
theorem xi_X7_of : Cond.instanceMethod yX7_of ∈ bigW := bigW_at 718 (by decide +kernel) rfl
theorem xs_X7_of : Cond.selects RX7 yX7_of yX7_of ∈ bigW := bigW_at 719 (by decide +kernel) rfl
theorem xm_X7_of : XM mX7_of 2 := ⟨bigW_at 720 (by decide +kernel) rfl, bigW_at 36 (by decide +kernel) rfl, ⟨by decide +kernel, by decide +kernel, by decide +kernel⟩, by decide⟩
theorem xl_RL_27 : Cond.methodLink RL 27 yX6_at ∈ bigW := bigW_at 310 (by decide +kernel) rfl
theorem xi_X6_at : Cond.instanceMethod yX6_at ∈ bigW := bigW_at 311 (by decide +kernel) rfl
theorem xs_X6_at : Cond.selects RX6 yX6_at yX6_at ∈ bigW := bigW_at 312 (by decide +kernel) rfl
theorem xm_X6_at : XM mX6_at 2 := ⟨bigW_at 313 (by decide +kernel) rfl, bigW_at 29 (by decide +kernel) rfl, ⟨by decide +kernel, by decide +kernel, by decide +kernel⟩, by decide⟩
theorem xl_RL_30 : Cond.methodLink RL 30 yX7_at ∈ bigW := bigW_at 752 (by decide +kernel) rfl
theorem xi_X7_at : Cond.instanceMethod yX7_at ∈ bigW := bigW_at 753 (by decide +kernel) rfl
theorem xs_X7_at : Cond.selects RX7 yX7_at yX7_at ∈ bigW := bigW_at 754 (by decide +kernel) rfl
theorem xm_X7_at : XM mX7_at 2 := ⟨bigW_at 755 (by decide +kernel) rfl, bigW_at 36 (by decide +kernel) rfl, ⟨by decide +kernel, by decide +kernel, by decide +kernel⟩, by decide⟩
theorem xl_RL_31 : Cond.methodLink RL 31 yX6_rule ∈ bigW := bigW_at 327 (by decide +kernel) rfl
theorem xi_X6_rule : Cond.instanceMethod yX6_rule ∈ bigW := bigW_at 328 (by decide +kernel) rfl
theorem xs_X6_rule : Cond.selects RX6 yX6_rule yX6_rule ∈ bigW := bigW_at 329 (by decide +kernel) rfl
theorem xm_X6_rule : XM mX6_rule 2 := ⟨bigW_at 330 (by decide +kernel) rfl, bigW_at 29 (by decide +kernel) rfl, ⟨by decide +kernel, by decide +kernel, by decide +kernel⟩, by decide⟩
theorem xl_RL_34 : Cond.methodLink RL 34 yX7_rule ∈ bigW := bigW_at 761 (by decide +kernel) rfl
theorem xi_X7_rule : Cond.instanceMethod yX7_rule ∈ bigW := bigW_at 762 (by decide +kernel) rfl
theorem xs_X7_rule : Cond.selects RX7 yX7_rule yX7_rule ∈ bigW := bigW_at 763 (by decide +kernel) rfl
theorem xm_X7_rule : XM mX7_rule 2 := ⟨bigW_at 764 (by decide +kernel) rfl, bigW_at 36 (by decide +kernel) rfl, ⟨by decide +kernel, by decide +kernel, by decide +kernel⟩, by decide⟩
theorem xl_RL_35 : Cond.methodLink RL 35 yX6_type ∈ bigW := bigW_at 331 (by decide +kernel) rfl
theorem xi_X6_type : Cond.instanceMethod yX6_type ∈ bigW := bigW_at 332 (by decide +kernel) rfl
theorem xs_X6_type : Cond.selects RX6 yX6_type yX6_type ∈ bigW := bigW_at 333 (by decide +kernel) rfl
theorem xm_X6_type : XM mX6_type 1 := ⟨bigW_at 334 (by decide +kernel) rfl, bigW_at 29 (by decide +kernel) rfl, ⟨by decide +kernel, by decide +kernel, by decide +kernel⟩, by decide⟩
theorem xl_RL_39 : Cond.methodLink RL 39 yX7_type ∈ bigW := bigW_at 774 (by decide +kernel) rfl
theorem xi_X7_type : Cond.instanceMethod yX7_type ∈ bigW := bigW_at 775 (by decide +kernel) rfl
theorem xs_X7_type : Cond.selects RX7 yX7_type yX7_type ∈ bigW := bigW_at 776 (by decide +kernel) rfl
theorem xm_X7_type : XM mX7_type 1 := ⟨bigW_at 777 (by decide +kernel) rfl, bigW_at 36 (by decide +kernel) rfl, ⟨by decide +kernel, by decide +kernel, by decide +kernel⟩, by decide⟩
theorem xl_RL_40 : Cond.methodLink RL 40 yX6_orchard ∈ bigW := bigW_at 339 (by decide +kernel) rfl
theorem xi_X6_orchard : Cond.instanceMethod yX6_orchard ∈ bigW := bigW_at 340 (by decide +kernel) rfl
theorem xs_X6_orchard : Cond.selects RX6 yX6_orchard yX6_orchard ∈ bigW := bigW_at 341 (by decide +kernel) rfl
theorem xm_X6_orchard : XM mX6_orchard 0 := ⟨bigW_at 342 (by decide +kernel) rfl, bigW_at 29 (by decide +kernel) rfl, ⟨by decide +kernel, by decide +kernel, by decide +kernel⟩, by decide⟩
theorem xl_RL_44 : Cond.methodLink RL 44 yX7_orchard ∈ bigW := bigW_at 780 (by decide +kernel) rfl
theorem xi_X7_orchard : Cond.instanceMethod yX7_orchard ∈ bigW := bigW_at 781 (by decide +kernel) rfl
theorem xs_X7_orchard : Cond.selects RX7 yX7_orchard yX7_orchard ∈ bigW := bigW_at 782 (by decide +kernel) rfl
theorem xm_X7_orchard : XM mX7_orchard 0 := ⟨bigW_at 783 (by decide +kernel) rfl, bigW_at 36 (by decide +kernel) rfl, ⟨by decide +kernel, by decide +kernel, by decide +kernel⟩, by decide⟩
theorem xl_RL_45 : Cond.methodLink RL 45 yX6_count ∈ bigW := bigW_at 410 (by decide +kernel) rfl
theorem xi_X6_count : Cond.instanceMethod yX6_count ∈ bigW := bigW_at 411 (by decide +kernel) rfl
theorem xs_X6_count : Cond.selects RX6 yX6_count yX6_count ∈ bigW := bigW_at 412 (by decide +kernel) rfl
theorem xm_X6_count : XM mX6_count 1 := ⟨bigW_at 413 (by decide +kernel) rfl, bigW_at 29 (by decide +kernel) rfl, ⟨by decide +kernel, by decide +kernel, by decide +kernel⟩, by decide⟩
theorem xl_RL_48 : Cond.methodLink RL 48 yX7_count ∈ bigW := bigW_at 766 (by decide +kernel) rfl
theorem xi_X7_count : Cond.instanceMethod yX7_count ∈ bigW := bigW_at 767 (by decide +kernel) rfl
theorem xs_X7_count : Cond.selects RX7 yX7_count yX7_count ∈ bigW := bigW_at 768 (by decide +kernel) rfl
theorem xm_X7_count : XM mX7_count 1 := ⟨bigW_at 769 (by decide +kernel) rfl, bigW_at 36 (by decide +kernel) rfl, ⟨by decide +kernel, by decide +kernel, by decide +kernel⟩, by decide⟩
theorem xl_RL_49 : Cond.methodLink RL 49 yX6_days ∈ bigW := bigW_at 418 (by decide +kernel) rfl
theorem xi_X6_days : Cond.instanceMethod yX6_days ∈ bigW := bigW_at 419 (by decide +kernel) rfl
theorem xs_X6_days : Cond.selects RX6 yX6_days yX6_days ∈ bigW := bigW_at 420 (by decide +kernel) rfl
theorem xm_X6_days : XM mX6_days 1 := ⟨bigW_at 421 (by decide +kernel) rfl, bigW_at 29 (by decide +kernel) rfl, ⟨by decide +kernel, by decide +kernel, by decide +kernel⟩, by decide⟩
theorem xl_RL_52 : Cond.methodLink RL 52 yX7_days ∈ bigW := bigW_at 814 (by decide +kernel) rfl
theorem xi_X7_days : Cond.instanceMethod yX7_days ∈ bigW := bigW_at 815 (by decide +kernel) rfl
theorem xs_X7_days : Cond.selects RX7 yX7_days yX7_days ∈ bigW := bigW_at 816 (by decide +kernel) rfl
theorem xm_X7_days : XM mX7_days 1 := ⟨bigW_at 817 (by decide +kernel) rfl, bigW_at 36 (by decide +kernel) rfl, ⟨by decide +kernel, by decide +kernel, by decide +kernel⟩, by decide⟩
theorem xl_RL_53 : Cond.methodLink RL 53 yX6_lean ∈ bigW := bigW_at 452 (by decide +kernel) rfl
theorem xi_X6_lean : Cond.instanceMethod yX6_lean ∈ bigW := bigW_at 453 (by decide +kernel) rfl
theorem xs_X6_lean : Cond.selects RX6 yX6_lean yX6_lean ∈ bigW := bigW_at 454 (by decide +kernel) rfl
theorem xm_X6_lean : XM mX6_lean 2 := ⟨bigW_at 455 (by decide +kernel) rfl, bigW_at 29 (by decide +kernel) rfl, ⟨by decide +kernel, by decide +kernel, by decide +kernel⟩, by decide⟩
theorem xl_RL_56 : Cond.methodLink RL 56 yX7_lean ∈ bigW := bigW_at 838 (by decide +kernel) rfl
theorem xi_X7_lean : Cond.instanceMethod yX7_lean ∈ bigW := bigW_at 839 (by decide +kernel) rfl
theorem xs_X7_lean : Cond.selects RX7 yX7_lean yX7_lean ∈ bigW := bigW_at 840 (by decide +kernel) rfl
theorem xm_X7_lean : XM mX7_lean 2 := ⟨bigW_at 841 (by decide +kernel) rfl, bigW_at 36 (by decide +kernel) rfl, ⟨by decide +kernel, by decide +kernel, by decide +kernel⟩, by decide⟩
theorem xl_RL_57 : Cond.methodLink RL 57 yX6_shake ∈ bigW := bigW_at 456 (by decide +kernel) rfl
theorem xi_X6_shake : Cond.instanceMethod yX6_shake ∈ bigW := bigW_at 457 (by decide +kernel) rfl
theorem xs_X6_shake : Cond.selects RX6 yX6_shake yX6_shake ∈ bigW := bigW_at 458 (by decide +kernel) rfl
theorem xm_X6_shake : XM mX6_shake 1 := ⟨bigW_at 459 (by decide +kernel) rfl, bigW_at 29 (by decide +kernel) rfl, ⟨by decide +kernel, by decide +kernel, by decide +kernel⟩, by decide⟩
theorem xl_RL_60 : Cond.methodLink RL 60 yX7_shake ∈ bigW := bigW_at 842 (by decide +kernel) rfl
theorem xi_X7_shake : Cond.instanceMethod yX7_shake ∈ bigW := bigW_at 843 (by decide +kernel) rfl
theorem xs_X7_shake : Cond.selects RX7 yX7_shake yX7_shake ∈ bigW := bigW_at 844 (by decide +kernel) rfl
theorem xm_X7_shake : XM mX7_shake 1 := ⟨bigW_at 845 (by decide +kernel) rfl, bigW_at 36 (by decide +kernel) rfl, ⟨by decide +kernel, by decide +kernel, by decide +kernel⟩, by decide⟩
theorem xl_RL_61 : Cond.methodLink RL 61 yX6_drift ∈ bigW := bigW_at 464 (by decide +kernel) rfl
theorem xi_X6_drift : Cond.instanceMethod yX6_drift ∈ bigW := bigW_at 465 (by decide +kernel) rfl
theorem xs_X6_drift : Cond.selects RX6 yX6_drift yX6_drift ∈ bigW := bigW_at 466 (by decide +kernel) rfl
theorem xm_X6_drift : XM mX6_drift 1 := ⟨bigW_at 467 (by decide +kernel) rfl, bigW_at 29 (by decide +kernel) rfl, ⟨by decide +kernel, by decide +kernel, by decide +kernel⟩, by decide⟩
theorem xl_RL_64 : Cond.methodLink RL 64 yX7_drift ∈ bigW := bigW_at 850 (by decide +kernel) rfl
theorem xi_X7_drift : Cond.instanceMethod yX7_drift ∈ bigW := bigW_at 851 (by decide +kernel) rfl
theorem xs_X7_drift : Cond.selects RX7 yX7_drift yX7_drift ∈ bigW := bigW_at 852 (by decide +kernel) rfl
theorem xm_X7_drift : XM mX7_drift 1 := ⟨bigW_at 853 (by decide +kernel) rfl, bigW_at 36 (by decide +kernel) rfl, ⟨by decide +kernel, by decide +kernel, by decide +kernel⟩, by decide⟩
theorem xl_RL_65 : Cond.methodLink RL 65 yX6_undo ∈ bigW := bigW_at 476 (by decide +kernel) rfl
theorem xi_X6_undo : Cond.instanceMethod yX6_undo ∈ bigW := bigW_at 477 (by decide +kernel) rfl
theorem xs_X6_undo : Cond.selects RX6 yX6_undo yX6_undo ∈ bigW := bigW_at 478 (by decide +kernel) rfl
theorem xm_X6_undo : XM mX6_undo 0 := ⟨bigW_at 479 (by decide +kernel) rfl, bigW_at 29 (by decide +kernel) rfl, ⟨by decide +kernel, by decide +kernel, by decide +kernel⟩, by decide⟩
theorem xl_RL_68 : Cond.methodLink RL 68 yX7_undo ∈ bigW := bigW_at 858 (by decide +kernel) rfl
theorem xi_X7_undo : Cond.instanceMethod yX7_undo ∈ bigW := bigW_at 859 (by decide +kernel) rfl
theorem xs_X7_undo : Cond.selects RX7 yX7_undo yX7_undo ∈ bigW := bigW_at 860 (by decide +kernel) rfl
theorem xm_X7_undo : XM mX7_undo 0 := ⟨bigW_at 861 (by decide +kernel) rfl, bigW_at 36 (by decide +kernel) rfl, ⟨by decide +kernel, by decide +kernel, by decide +kernel⟩, by decide⟩
theorem xl_RL_69 : Cond.methodLink RL 69 yX6_seed ∈ bigW := bigW_at 484 (by decide +kernel) rfl
theorem xi_X6_seed : Cond.instanceMethod yX6_seed ∈ bigW := bigW_at 485 (by decide +kernel) rfl
theorem xs_X6_seed : Cond.selects RX6 yX6_seed yX6_seed ∈ bigW := bigW_at 486 (by decide +kernel) rfl
theorem xm_X6_seed : XM mX6_seed 1 := ⟨bigW_at 487 (by decide +kernel) rfl, bigW_at 29 (by decide +kernel) rfl, ⟨by decide +kernel, by decide +kernel, by decide +kernel⟩, by decide⟩
theorem xl_RL_72 : Cond.methodLink RL 72 yX7_seed ∈ bigW := bigW_at 862 (by decide +kernel) rfl
theorem xi_X7_seed : Cond.instanceMethod yX7_seed ∈ bigW := bigW_at 863 (by decide +kernel) rfl
theorem xs_X7_seed : Cond.selects RX7 yX7_seed yX7_seed ∈ bigW := bigW_at 864 (by decide +kernel) rfl
theorem xm_X7_seed : XM mX7_seed 1 := ⟨bigW_at 865 (by decide +kernel) rfl, bigW_at 36 (by decide +kernel) rfl, ⟨by decide +kernel, by decide +kernel, by decide +kernel⟩, by decide⟩
theorem xl_RL_73 : Cond.methodLink RL 73 yX6_ahead ∈ bigW := bigW_at 488 (by decide +kernel) rfl
theorem xi_X6_ahead : Cond.instanceMethod yX6_ahead ∈ bigW := bigW_at 489 (by decide +kernel) rfl
theorem xs_X6_ahead : Cond.selects RX6 yX6_ahead yX6_ahead ∈ bigW := bigW_at 490 (by decide +kernel) rfl
theorem xm_X6_ahead : XM mX6_ahead 2 := ⟨bigW_at 491 (by decide +kernel) rfl, bigW_at 29 (by decide +kernel) rfl, ⟨by decide +kernel, by decide +kernel, by decide +kernel⟩, by decide⟩
theorem xl_RL_76 : Cond.methodLink RL 76 yX7_ahead ∈ bigW := bigW_at 866 (by decide +kernel) rfl
theorem xi_X7_ahead : Cond.instanceMethod yX7_ahead ∈ bigW := bigW_at 867 (by decide +kernel) rfl
theorem xs_X7_ahead : Cond.selects RX7 yX7_ahead yX7_ahead ∈ bigW := bigW_at 868 (by decide +kernel) rfl
theorem xm_X7_ahead : XM mX7_ahead 2 := ⟨bigW_at 869 (by decide +kernel) rfl, bigW_at 36 (by decide +kernel) rfl, ⟨by decide +kernel, by decide +kernel, by decide +kernel⟩, by decide⟩
theorem xl_RL_77 : Cond.methodLink RL 77 yX6_fruit ∈ bigW := bigW_at 493 (by decide +kernel) rfl
theorem xi_X6_fruit : Cond.instanceMethod yX6_fruit ∈ bigW := bigW_at 494 (by decide +kernel) rfl
theorem xs_X6_fruit : Cond.selects RX6 yX6_fruit yX6_fruit ∈ bigW := bigW_at 495 (by decide +kernel) rfl
theorem xm_X6_fruit : XM mX6_fruit 2 := ⟨bigW_at 496 (by decide +kernel) rfl, bigW_at 29 (by decide +kernel) rfl, ⟨by decide +kernel, by decide +kernel, by decide +kernel⟩, by decide⟩
theorem xl_RL_80 : Cond.methodLink RL 80 yX7_fruit ∈ bigW := bigW_at 884 (by decide +kernel) rfl
theorem xi_X7_fruit : Cond.instanceMethod yX7_fruit ∈ bigW := bigW_at 885 (by decide +kernel) rfl
theorem xs_X7_fruit : Cond.selects RX7 yX7_fruit yX7_fruit ∈ bigW := bigW_at 886 (by decide +kernel) rfl
theorem xm_X7_fruit : XM mX7_fruit 2 := ⟨bigW_at 887 (by decide +kernel) rfl, bigW_at 36 (by decide +kernel) rfl, ⟨by decide +kernel, by decide +kernel, by decide +kernel⟩, by decide⟩
theorem xl_RL_81 : Cond.methodLink RL 81 yX6_reached ∈ bigW := bigW_at 501 (by decide +kernel) rfl
theorem xi_X6_reached : Cond.instanceMethod yX6_reached ∈ bigW := bigW_at 502 (by decide +kernel) rfl
theorem xs_X6_reached : Cond.selects RX6 yX6_reached yX6_reached ∈ bigW := bigW_at 503 (by decide +kernel) rfl
theorem xm_X6_reached : XM mX6_reached 2 := ⟨bigW_at 504 (by decide +kernel) rfl, bigW_at 29 (by decide +kernel) rfl, ⟨by decide +kernel, by decide +kernel, by decide +kernel⟩, by decide⟩
theorem xl_RL_84 : Cond.methodLink RL 84 yX7_reached ∈ bigW := bigW_at 888 (by decide +kernel) rfl
theorem xi_X7_reached : Cond.instanceMethod yX7_reached ∈ bigW := bigW_at 889 (by decide +kernel) rfl
theorem xs_X7_reached : Cond.selects RX7 yX7_reached yX7_reached ∈ bigW := bigW_at 890 (by decide +kernel) rfl
theorem xm_X7_reached : XM mX7_reached 2 := ⟨bigW_at 891 (by decide +kernel) rfl, bigW_at 36 (by decide +kernel) rfl, ⟨by decide +kernel, by decide +kernel, by decide +kernel⟩, by decide⟩
theorem xl_RL_85 : Cond.methodLink RL 85 yX6_gathered ∈ bigW := bigW_at 505 (by decide +kernel) rfl
theorem xi_X6_gathered : Cond.instanceMethod yX6_gathered ∈ bigW := bigW_at 506 (by decide +kernel) rfl
theorem xs_X6_gathered : Cond.selects RX6 yX6_gathered yX6_gathered ∈ bigW := bigW_at 507 (by decide +kernel) rfl
theorem xm_X6_gathered : XM mX6_gathered 0 := ⟨bigW_at 508 (by decide +kernel) rfl, bigW_at 29 (by decide +kernel) rfl, ⟨by decide +kernel, by decide +kernel, by decide +kernel⟩, by decide⟩
theorem xl_RL_88 : Cond.methodLink RL 88 yX7_gathered ∈ bigW := bigW_at 892 (by decide +kernel) rfl
theorem xi_X7_gathered : Cond.instanceMethod yX7_gathered ∈ bigW := bigW_at 893 (by decide +kernel) rfl
theorem xs_X7_gathered : Cond.selects RX7 yX7_gathered yX7_gathered ∈ bigW := bigW_at 894 (by decide +kernel) rfl
theorem xm_X7_gathered : XM mX7_gathered 0 := ⟨bigW_at 895 (by decide +kernel) rfl, bigW_at 36 (by decide +kernel) rfl, ⟨by decide +kernel, by decide +kernel, by decide +kernel⟩, by decide⟩
theorem xl_RL_89 : Cond.methodLink RL 89 yX6_plan ∈ bigW := bigW_at 509 (by decide +kernel) rfl
theorem xi_X6_plan : Cond.instanceMethod yX6_plan ∈ bigW := bigW_at 510 (by decide +kernel) rfl
theorem xs_X6_plan : Cond.selects RX6 yX6_plan yX6_plan ∈ bigW := bigW_at 511 (by decide +kernel) rfl
theorem xm_X6_plan : XM mX6_plan 2 := ⟨bigW_at 512 (by decide +kernel) rfl, bigW_at 29 (by decide +kernel) rfl, ⟨by decide +kernel, by decide +kernel, by decide +kernel⟩, by decide⟩
theorem xl_RL_92 : Cond.methodLink RL 92 yX7_plan ∈ bigW := bigW_at 896 (by decide +kernel) rfl
theorem xi_X7_plan : Cond.instanceMethod yX7_plan ∈ bigW := bigW_at 897 (by decide +kernel) rfl
theorem xs_X7_plan : Cond.selects RX7 yX7_plan yX7_plan ∈ bigW := bigW_at 898 (by decide +kernel) rfl
theorem xm_X7_plan : XM mX7_plan 2 := ⟨bigW_at 899 (by decide +kernel) rfl, bigW_at 36 (by decide +kernel) rfl, ⟨by decide +kernel, by decide +kernel, by decide +kernel⟩, by decide⟩
theorem xl_RL_93 : Cond.methodLink RL 93 yX6_round ∈ bigW := bigW_at 533 (by decide +kernel) rfl
theorem xi_X6_round : Cond.instanceMethod yX6_round ∈ bigW := bigW_at 534 (by decide +kernel) rfl
theorem xs_X6_round : Cond.selects RX6 yX6_round yX6_round ∈ bigW := bigW_at 535 (by decide +kernel) rfl
theorem xm_X6_round : XM mX6_round 3 := ⟨bigW_at 536 (by decide +kernel) rfl, bigW_at 29 (by decide +kernel) rfl, ⟨by decide +kernel, by decide +kernel, by decide +kernel⟩, by decide⟩
theorem xl_RL_96 : Cond.methodLink RL 96 yX7_round ∈ bigW := bigW_at 904 (by decide +kernel) rfl
theorem xi_X7_round : Cond.instanceMethod yX7_round ∈ bigW := bigW_at 905 (by decide +kernel) rfl
theorem xs_X7_round : Cond.selects RX7 yX7_round yX7_round ∈ bigW := bigW_at 906 (by decide +kernel) rfl
theorem xm_X7_round : XM mX7_round 3 := ⟨bigW_at 907 (by decide +kernel) rfl, bigW_at 36 (by decide +kernel) rfl, ⟨by decide +kernel, by decide +kernel, by decide +kernel⟩, by decide⟩
theorem xl_RL_97 : Cond.methodLink RL 97 yX6_longer ∈ bigW := bigW_at 538 (by decide +kernel) rfl
theorem xi_X6_longer : Cond.instanceMethod yX6_longer ∈ bigW := bigW_at 539 (by decide +kernel) rfl
theorem xs_X6_longer : Cond.selects RX6 yX6_longer yX6_longer ∈ bigW := bigW_at 540 (by decide +kernel) rfl
theorem xm_X6_longer : XM mX6_longer 2 := ⟨bigW_at 541 (by decide +kernel) rfl, bigW_at 29 (by decide +kernel) rfl, ⟨by decide +kernel, by decide +kernel, by decide +kernel⟩, by decide⟩
theorem xl_RL_100 : Cond.methodLink RL 100 yX7_longer ∈ bigW := bigW_at 908 (by decide +kernel) rfl
theorem xi_X7_longer : Cond.instanceMethod yX7_longer ∈ bigW := bigW_at 909 (by decide +kernel) rfl
theorem xs_X7_longer : Cond.selects RX7 yX7_longer yX7_longer ∈ bigW := bigW_at 910 (by decide +kernel) rfl
theorem xm_X7_longer : XM mX7_longer 2 := ⟨bigW_at 911 (by decide +kernel) rfl, bigW_at 36 (by decide +kernel) rfl, ⟨by decide +kernel, by decide +kernel, by decide +kernel⟩, by decide⟩
theorem xl_RL_101 : Cond.methodLink RL 101 yX6_larger ∈ bigW := bigW_at 543 (by decide +kernel) rfl
theorem xi_X6_larger : Cond.instanceMethod yX6_larger ∈ bigW := bigW_at 544 (by decide +kernel) rfl
theorem xs_X6_larger : Cond.selects RX6 yX6_larger yX6_larger ∈ bigW := bigW_at 545 (by decide +kernel) rfl
theorem xm_X6_larger : XM mX6_larger 2 := ⟨bigW_at 546 (by decide +kernel) rfl, bigW_at 29 (by decide +kernel) rfl, ⟨by decide +kernel, by decide +kernel, by decide +kernel⟩, by decide⟩
theorem xl_RL_104 : Cond.methodLink RL 104 yX7_larger ∈ bigW := bigW_at 912 (by decide +kernel) rfl
theorem xi_X7_larger : Cond.instanceMethod yX7_larger ∈ bigW := bigW_at 913 (by decide +kernel) rfl
theorem xs_X7_larger : Cond.selects RX7 yX7_larger yX7_larger ∈ bigW := bigW_at 914 (by decide +kernel) rfl
theorem xm_X7_larger : XM mX7_larger 2 := ⟨bigW_at 915 (by decide +kernel) rfl, bigW_at 36 (by decide +kernel) rfl, ⟨by decide +kernel, by decide +kernel, by decide +kernel⟩, by decide⟩
theorem xl_RL_105 : Cond.methodLink RL 105 yX6_luck ∈ bigW := bigW_at 547 (by decide +kernel) rfl
theorem xi_X6_luck : Cond.instanceMethod yX6_luck ∈ bigW := bigW_at 548 (by decide +kernel) rfl
theorem xs_X6_luck : Cond.selects RX6 yX6_luck yX6_luck ∈ bigW := bigW_at 549 (by decide +kernel) rfl
theorem xm_X6_luck : XM mX6_luck 3 := ⟨bigW_at 550 (by decide +kernel) rfl, bigW_at 29 (by decide +kernel) rfl, ⟨by decide +kernel, by decide +kernel, by decide +kernel⟩, by decide⟩
theorem xl_RL_108 : Cond.methodLink RL 108 yX7_luck ∈ bigW := bigW_at 917 (by decide +kernel) rfl
theorem xi_X7_luck : Cond.instanceMethod yX7_luck ∈ bigW := bigW_at 918 (by decide +kernel) rfl
theorem xs_X7_luck : Cond.selects RX7 yX7_luck yX7_luck ∈ bigW := bigW_at 919 (by decide +kernel) rfl
theorem xm_X7_luck : XM mX7_luck 3 := ⟨bigW_at 920 (by decide +kernel) rfl, bigW_at 36 (by decide +kernel) rfl, ⟨by decide +kernel, by decide +kernel, by decide +kernel⟩, by decide⟩
theorem xl_RL_109 : Cond.methodLink RL 109 yX6_image ∈ bigW := bigW_at 568 (by decide +kernel) rfl
theorem xi_X6_image : Cond.instanceMethod yX6_image ∈ bigW := bigW_at 569 (by decide +kernel) rfl
theorem xs_X6_image : Cond.selects RX6 yX6_image yX6_image ∈ bigW := bigW_at 570 (by decide +kernel) rfl
theorem xm_X6_image : XM mX6_image 0 := ⟨bigW_at 571 (by decide +kernel) rfl, bigW_at 29 (by decide +kernel) rfl, ⟨by decide +kernel, by decide +kernel, by decide +kernel⟩, by decide⟩
theorem xl_RL_112 : Cond.methodLink RL 112 yX7_image ∈ bigW := bigW_at 923 (by decide +kernel) rfl
theorem xi_X7_image : Cond.instanceMethod yX7_image ∈ bigW := bigW_at 924 (by decide +kernel) rfl
theorem xs_X7_image : Cond.selects RX7 yX7_image yX7_image ∈ bigW := bigW_at 925 (by decide +kernel) rfl
theorem xm_X7_image : XM mX7_image 0 := ⟨bigW_at 926 (by decide +kernel) rfl, bigW_at 36 (by decide +kernel) rfl, ⟨by decide +kernel, by decide +kernel, by decide +kernel⟩, by decide⟩
theorem xl_RL_113 : Cond.methodLink RL 113 yX6_restore ∈ bigW := bigW_at 580 (by decide +kernel) rfl
theorem xi_X6_restore : Cond.instanceMethod yX6_restore ∈ bigW := bigW_at 581 (by decide +kernel) rfl
theorem xs_X6_restore : Cond.selects RX6 yX6_restore yX6_restore ∈ bigW := bigW_at 582 (by decide +kernel) rfl
theorem xm_X6_restore : XM mX6_restore 0 := ⟨bigW_at 583 (by decide +kernel) rfl, bigW_at 29 (by decide +kernel) rfl, ⟨by decide +kernel, by decide +kernel, by decide +kernel⟩, by decide⟩
theorem xl_RL_116 : Cond.methodLink RL 116 yX7_restore ∈ bigW := bigW_at 927 (by decide +kernel) rfl
theorem xi_X7_restore : Cond.instanceMethod yX7_restore ∈ bigW := bigW_at 928 (by decide +kernel) rfl
theorem xs_X7_restore : Cond.selects RX7 yX7_restore yX7_restore ∈ bigW := bigW_at 929 (by decide +kernel) rfl
theorem xm_X7_restore : XM mX7_restore 0 := ⟨bigW_at 930 (by decide +kernel) rfl, bigW_at 36 (by decide +kernel) rfl, ⟨by decide +kernel, by decide +kernel, by decide +kernel⟩, by decide⟩
theorem xl_RL_117 : Cond.methodLink RL 117 yX6_left ∈ bigW := bigW_at 584 (by decide +kernel) rfl
theorem xi_X6_left : Cond.instanceMethod yX6_left ∈ bigW := bigW_at 585 (by decide +kernel) rfl
theorem xs_X6_left : Cond.selects RX6 yX6_left yX6_left ∈ bigW := bigW_at 586 (by decide +kernel) rfl
theorem xm_X6_left : XM mX6_left 5 := ⟨bigW_at 587 (by decide +kernel) rfl, bigW_at 29 (by decide +kernel) rfl, ⟨by decide +kernel, by decide +kernel, by decide +kernel⟩, by decide⟩
theorem xl_RL_121 : Cond.methodLink RL 121 yX7_left ∈ bigW := bigW_at 931 (by decide +kernel) rfl
theorem xi_X7_left : Cond.instanceMethod yX7_left ∈ bigW := bigW_at 932 (by decide +kernel) rfl
theorem xs_X7_left : Cond.selects RX7 yX7_left yX7_left ∈ bigW := bigW_at 933 (by decide +kernel) rfl
theorem xm_X7_left : XM mX7_left 5 := ⟨bigW_at 934 (by decide +kernel) rfl, bigW_at 36 (by decide +kernel) rfl, ⟨by decide +kernel, by decide +kernel, by decide +kernel⟩, by decide⟩
theorem xl_RL_122 : Cond.methodLink RL 122 yX6_film ∈ bigW := bigW_at 606 (by decide +kernel) rfl
theorem xi_X6_film : Cond.instanceMethod yX6_film ∈ bigW := bigW_at 607 (by decide +kernel) rfl
theorem xs_X6_film : Cond.selects RX6 yX6_film yX6_film ∈ bigW := bigW_at 608 (by decide +kernel) rfl
theorem xm_X6_film : XM mX6_film 5 := ⟨bigW_at 609 (by decide +kernel) rfl, bigW_at 29 (by decide +kernel) rfl, ⟨by decide +kernel, by decide +kernel, by decide +kernel⟩, by decide⟩
theorem xl_RL_125 : Cond.methodLink RL 125 yX7_film ∈ bigW := bigW_at 947 (by decide +kernel) rfl
theorem xi_X7_film : Cond.instanceMethod yX7_film ∈ bigW := bigW_at 948 (by decide +kernel) rfl
theorem xs_X7_film : Cond.selects RX7 yX7_film yX7_film ∈ bigW := bigW_at 949 (by decide +kernel) rfl
theorem xm_X7_film : XM mX7_film 5 := ⟨bigW_at 950 (by decide +kernel) rfl, bigW_at 36 (by decide +kernel) rfl, ⟨by decide +kernel, by decide +kernel, by decide +kernel⟩, by decide⟩
theorem xl_RL_126 : Cond.methodLink RL 126 yX6_sheet ∈ bigW := bigW_at 614 (by decide +kernel) rfl
theorem xi_X6_sheet : Cond.instanceMethod yX6_sheet ∈ bigW := bigW_at 615 (by decide +kernel) rfl
theorem xs_X6_sheet : Cond.selects RX6 yX6_sheet yX6_sheet ∈ bigW := bigW_at 616 (by decide +kernel) rfl
theorem xm_X6_sheet : XM mX6_sheet 3 := ⟨bigW_at 617 (by decide +kernel) rfl, bigW_at 29 (by decide +kernel) rfl, ⟨by decide +kernel, by decide +kernel, by decide +kernel⟩, by decide⟩
theorem xl_RL_129 : Cond.methodLink RL 129 yX7_sheet ∈ bigW := bigW_at 952 (by decide +kernel) rfl
theorem xi_X7_sheet : Cond.instanceMethod yX7_sheet ∈ bigW := bigW_at 953 (by decide +kernel) rfl
theorem xs_X7_sheet : Cond.selects RX7 yX7_sheet yX7_sheet ∈ bigW := bigW_at 954 (by decide +kernel) rfl
theorem xm_X7_sheet : XM mX7_sheet 3 := ⟨bigW_at 955 (by decide +kernel) rfl, bigW_at 36 (by decide +kernel) rfl, ⟨by decide +kernel, by decide +kernel, by decide +kernel⟩, by decide⟩
theorem xl_RL_130 : Cond.methodLink RL 130 yX6_drop ∈ bigW := bigW_at 622 (by decide +kernel) rfl
theorem xi_X6_drop : Cond.instanceMethod yX6_drop ∈ bigW := bigW_at 623 (by decide +kernel) rfl
theorem xs_X6_drop : Cond.selects RX6 yX6_drop yX6_drop ∈ bigW := bigW_at 624 (by decide +kernel) rfl
theorem xm_X6_drop : XM mX6_drop 1 := ⟨bigW_at 625 (by decide +kernel) rfl, bigW_at 29 (by decide +kernel) rfl, ⟨by decide +kernel, by decide +kernel, by decide +kernel⟩, by decide⟩
theorem xl_RL_133 : Cond.methodLink RL 133 yX7_drop ∈ bigW := bigW_at 956 (by decide +kernel) rfl
theorem xi_X7_drop : Cond.instanceMethod yX7_drop ∈ bigW := bigW_at 957 (by decide +kernel) rfl
theorem xs_X7_drop : Cond.selects RX7 yX7_drop yX7_drop ∈ bigW := bigW_at 958 (by decide +kernel) rfl
theorem xm_X7_drop : XM mX7_drop 1 := ⟨bigW_at 959 (by decide +kernel) rfl, bigW_at 36 (by decide +kernel) rfl, ⟨by decide +kernel, by decide +kernel, by decide +kernel⟩, by decide⟩
theorem xl_RL_136 : Cond.methodLink RL 136 yX6_item ∈ bigW := bigW_at 626 (by decide +kernel) rfl
theorem xi_X6_item : Cond.instanceMethod yX6_item ∈ bigW := bigW_at 627 (by decide +kernel) rfl
theorem xs_X6_item : Cond.selects RX6 yX6_item yX6_item ∈ bigW := bigW_at 628 (by decide +kernel) rfl
theorem xm_X6_item : XM mX6_item 4 := ⟨bigW_at 629 (by decide +kernel) rfl, bigW_at 29 (by decide +kernel) rfl, ⟨by decide +kernel, by decide +kernel, by decide +kernel⟩, by decide⟩
theorem xl_RL_140 : Cond.methodLink RL 140 yX7_item ∈ bigW := bigW_at 960 (by decide +kernel) rfl
theorem xi_X7_item : Cond.instanceMethod yX7_item ∈ bigW := bigW_at 961 (by decide +kernel) rfl
theorem xs_X7_item : Cond.selects RX7 yX7_item yX7_item ∈ bigW := bigW_at 962 (by decide +kernel) rfl
theorem xm_X7_item : XM mX7_item 4 := ⟨bigW_at 963 (by decide +kernel) rfl, bigW_at 36 (by decide +kernel) rfl, ⟨by decide +kernel, by decide +kernel, by decide +kernel⟩, by decide⟩
theorem xl_RL_141 : Cond.methodLink RL 141 yX6_copy ∈ bigW := bigW_at 630 (by decide +kernel) rfl
theorem xi_X6_copy : Cond.instanceMethod yX6_copy ∈ bigW := bigW_at 631 (by decide +kernel) rfl
theorem xs_X6_copy : Cond.selects RX6 yX6_copy yX6_copy ∈ bigW := bigW_at 632 (by decide +kernel) rfl
theorem xm_X6_copy : XM mX6_copy 5 := ⟨bigW_at 633 (by decide +kernel) rfl, bigW_at 29 (by decide +kernel) rfl, ⟨by decide +kernel, by decide +kernel, by decide +kernel⟩, by decide⟩
theorem xl_RL_144 : Cond.methodLink RL 144 yX7_copy ∈ bigW := bigW_at 964 (by decide +kernel) rfl
theorem xi_X7_copy : Cond.instanceMethod yX7_copy ∈ bigW := bigW_at 965 (by decide +kernel) rfl
theorem xs_X7_copy : Cond.selects RX7 yX7_copy yX7_copy ∈ bigW := bigW_at 966 (by decide +kernel) rfl
theorem xm_X7_copy : XM mX7_copy 5 := ⟨bigW_at 967 (by decide +kernel) rfl, bigW_at 36 (by decide +kernel) rfl, ⟨by decide +kernel, by decide +kernel, by decide +kernel⟩, by decide⟩
end
section
theorem iJ6_bitCount_0f7a4_0 : DLdI mJ6_bitCount_0f7a4 0 0 1 := Or.inl ⟨0, by decide +kernel, rfl, rfl⟩
theorem iJ6_bitCount_0f7a4_1 : DLdI mJ6_bitCount_0f7a4 1 0 2 := Or.inl ⟨0, by decide +kernel, rfl, rfl⟩
theorem iJ6_bitCount_0f7a4_2 : DPushI mJ6_bitCount_0f7a4 2 1 3 := Or.inl ⟨1, by decide +kernel, by decide, rfl⟩
theorem iJ6_bitCount_0f7a4_3 : D1 mJ6_bitCount_0f7a4 3 .iushr 1 4 := ⟨by decide +kernel, rfl⟩
theorem iJ6_bitCount_0f7a4_4 : DPushI mJ6_bitCount_0f7a4 4 1431655765 7 := Or.inr (Or.inr (Or.inr (Or.inr ⟨265, by decide +kernel, bigW_at 444 (by decide +kernel) rfl, rfl⟩)))
theorem iJ6_bitCount_0f7a4_7 : D1 mJ6_bitCount_0f7a4 7 .iand 1 8 := ⟨by decide +kernel, rfl⟩
theorem iJ6_bitCount_0f7a4_8 : D1 mJ6_bitCount_0f7a4 8 .isub 1 9 := ⟨by decide +kernel, rfl⟩
theorem iJ6_bitCount_0f7a4_9 : DStI mJ6_bitCount_0f7a4 9 0 10 := ⟨by decide, Or.inl ⟨0, by decide +kernel, rfl, rfl⟩⟩
theorem iJ6_bitCount_0f7a4_10 : DLdI mJ6_bitCount_0f7a4 10 0 11 := Or.inl ⟨0, by decide +kernel, rfl, rfl⟩
theorem iJ6_bitCount_0f7a4_11 : DPushI mJ6_bitCount_0f7a4 11 858993459 14 := Or.inr (Or.inr (Or.inr (Or.inr ⟨266, by decide +kernel, bigW_at 445 (by decide +kernel) rfl, rfl⟩)))
theorem iJ6_bitCount_0f7a4_14 : D1 mJ6_bitCount_0f7a4 14 .iand 1 15 := ⟨by decide +kernel, rfl⟩
theorem iJ6_bitCount_0f7a4_15 : DLdI mJ6_bitCount_0f7a4 15 0 16 := Or.inl ⟨0, by decide +kernel, rfl, rfl⟩
theorem iJ6_bitCount_0f7a4_16 : DPushI mJ6_bitCount_0f7a4 16 2 17 := Or.inl ⟨2, by decide +kernel, by decide, rfl⟩
theorem iJ6_bitCount_0f7a4_17 : D1 mJ6_bitCount_0f7a4 17 .iushr 1 18 := ⟨by decide +kernel, rfl⟩
theorem iJ6_bitCount_0f7a4_18 : DPushI mJ6_bitCount_0f7a4 18 858993459 21 := Or.inr (Or.inr (Or.inr (Or.inr ⟨266, by decide +kernel, bigW_at 445 (by decide +kernel) rfl, rfl⟩)))
theorem iJ6_bitCount_0f7a4_21 : D1 mJ6_bitCount_0f7a4 21 .iand 1 22 := ⟨by decide +kernel, rfl⟩
theorem iJ6_bitCount_0f7a4_22 : D1 mJ6_bitCount_0f7a4 22 .iadd 1 23 := ⟨by decide +kernel, rfl⟩
theorem iJ6_bitCount_0f7a4_23 : DStI mJ6_bitCount_0f7a4 23 0 24 := ⟨by decide, Or.inl ⟨0, by decide +kernel, rfl, rfl⟩⟩
theorem iJ6_bitCount_0f7a4_24 : DLdI mJ6_bitCount_0f7a4 24 0 25 := Or.inl ⟨0, by decide +kernel, rfl, rfl⟩
theorem iJ6_bitCount_0f7a4_25 : DLdI mJ6_bitCount_0f7a4 25 0 26 := Or.inl ⟨0, by decide +kernel, rfl, rfl⟩
theorem iJ6_bitCount_0f7a4_26 : DPushI mJ6_bitCount_0f7a4 26 4 27 := Or.inl ⟨4, by decide +kernel, by decide, rfl⟩
theorem iJ6_bitCount_0f7a4_27 : D1 mJ6_bitCount_0f7a4 27 .iushr 1 28 := ⟨by decide +kernel, rfl⟩
theorem iJ6_bitCount_0f7a4_28 : D1 mJ6_bitCount_0f7a4 28 .iadd 1 29 := ⟨by decide +kernel, rfl⟩
theorem iJ6_bitCount_0f7a4_29 : DPushI mJ6_bitCount_0f7a4 29 252645135 32 := Or.inr (Or.inr (Or.inr (Or.inr ⟨267, by decide +kernel, bigW_at 446 (by decide +kernel) rfl, rfl⟩)))
theorem iJ6_bitCount_0f7a4_32 : D1 mJ6_bitCount_0f7a4 32 .iand 1 33 := ⟨by decide +kernel, rfl⟩
theorem iJ6_bitCount_0f7a4_33 : DStI mJ6_bitCount_0f7a4 33 0 34 := ⟨by decide, Or.inl ⟨0, by decide +kernel, rfl, rfl⟩⟩
theorem iJ6_bitCount_0f7a4_34 : DLdI mJ6_bitCount_0f7a4 34 0 35 := Or.inl ⟨0, by decide +kernel, rfl, rfl⟩
theorem iJ6_bitCount_0f7a4_35 : DLdI mJ6_bitCount_0f7a4 35 0 36 := Or.inl ⟨0, by decide +kernel, rfl, rfl⟩
theorem iJ6_bitCount_0f7a4_36 : DPushI mJ6_bitCount_0f7a4 36 8 38 := Or.inr (Or.inl ⟨8, by decide +kernel, by decide, rfl⟩)
theorem iJ6_bitCount_0f7a4_38 : D1 mJ6_bitCount_0f7a4 38 .iushr 1 39 := ⟨by decide +kernel, rfl⟩
theorem iJ6_bitCount_0f7a4_39 : D1 mJ6_bitCount_0f7a4 39 .iadd 1 40 := ⟨by decide +kernel, rfl⟩
theorem iJ6_bitCount_0f7a4_40 : DStI mJ6_bitCount_0f7a4 40 0 41 := ⟨by decide, Or.inl ⟨0, by decide +kernel, rfl, rfl⟩⟩
theorem iJ6_bitCount_0f7a4_41 : DLdI mJ6_bitCount_0f7a4 41 0 42 := Or.inl ⟨0, by decide +kernel, rfl, rfl⟩
theorem iJ6_bitCount_0f7a4_42 : DLdI mJ6_bitCount_0f7a4 42 0 43 := Or.inl ⟨0, by decide +kernel, rfl, rfl⟩
theorem iJ6_bitCount_0f7a4_43 : DPushI mJ6_bitCount_0f7a4 43 16 45 := Or.inr (Or.inl ⟨16, by decide +kernel, by decide, rfl⟩)
theorem iJ6_bitCount_0f7a4_45 : D1 mJ6_bitCount_0f7a4 45 .iushr 1 46 := ⟨by decide +kernel, rfl⟩
theorem iJ6_bitCount_0f7a4_46 : D1 mJ6_bitCount_0f7a4 46 .iadd 1 47 := ⟨by decide +kernel, rfl⟩
theorem iJ6_bitCount_0f7a4_47 : DStI mJ6_bitCount_0f7a4 47 0 48 := ⟨by decide, Or.inl ⟨0, by decide +kernel, rfl, rfl⟩⟩
theorem iJ6_bitCount_0f7a4_48 : DLdI mJ6_bitCount_0f7a4 48 0 49 := Or.inl ⟨0, by decide +kernel, rfl, rfl⟩
theorem iJ6_bitCount_0f7a4_49 : DPushI mJ6_bitCount_0f7a4 49 63 51 := Or.inr (Or.inl ⟨63, by decide +kernel, by decide, rfl⟩)
theorem iJ6_bitCount_0f7a4_51 : D1 mJ6_bitCount_0f7a4 51 .iand 1 52 := ⟨by decide +kernel, rfl⟩
theorem iJ6_bitCount_0f7a4_52 : mJ6_bitCount_0f7a4.2.2.2 = some .int ∧ decode mJ6_bitCount_0f7a4.2.1 52 = .ok (.ireturn, 1) := ⟨rfl, by decide +kernel⟩
theorem iX0_init_0 : DLdA mX0_init 0 0 1 := Or.inl ⟨0, by decide +kernel, rfl, rfl⟩
theorem iX0_init_1 : DObj mX0_init 1 4 := ⟨3, by decide +kernel, rfl, xl_RX0_3, xl_objI, xl_objC⟩
theorem iX0_init_4 : DLdA mX0_init 4 0 5 := Or.inl ⟨0, by decide +kernel, rfl, rfl⟩
theorem iX0_init_5 : DPushI mX0_init 5 96 7 := Or.inr (Or.inl ⟨96, by decide +kernel, by decide, rfl⟩)
theorem iX0_init_7 : DNewA mX0_init 7 .int 9 := ⟨.int, by decide +kernel, rfl, xq_int, rfl⟩
theorem iX0_init_9 : DPut mX0_init 9 0 0 (.array .int) 12 := ⟨9, by decide +kernel, rfl, RX0, TX0, 4, tyX0, rfl, by decide, bigW_at 191 (by decide +kernel) rfl, xw0, tyX0_ok, nmX0, rfl, Or.inr ⟨rfl, rfl, rfl⟩⟩
theorem iX0_init_12 : DLdA mX0_init 12 0 13 := Or.inl ⟨0, by decide +kernel, rfl, rfl⟩
theorem iX0_init_13 : DPushI mX0_init 13 4 14 := Or.inl ⟨4, by decide +kernel, by decide, rfl⟩
theorem iX0_init_14 : DNewA mX0_init 14 .int 16 := ⟨.int, by decide +kernel, rfl, xq_int, rfl⟩
theorem iX0_init_16 : DPut mX0_init 16 0 1 (.array .int) 19 := ⟨15, by decide +kernel, rfl, RX0, TX0, 4, tyX0, rfl, by decide, bigW_at 193 (by decide +kernel) rfl, xw0, tyX0_ok, nmX0, rfl, Or.inr ⟨rfl, rfl, rfl⟩⟩
theorem iX0_init_19 : DLdA mX0_init 19 0 20 := Or.inl ⟨0, by decide +kernel, rfl, rfl⟩
theorem iX0_init_20 : DPushI mX0_init 20 6 22 := Or.inr (Or.inl ⟨6, by decide +kernel, by decide, rfl⟩)
theorem iX0_init_22 : DNewA mX0_init 22 .int 24 := ⟨.int, by decide +kernel, rfl, xq_int, rfl⟩
theorem iX0_init_24 : DPut mX0_init 24 0 2 (.array .int) 27 := ⟨18, by decide +kernel, rfl, RX0, TX0, 4, tyX0, rfl, by decide, bigW_at 195 (by decide +kernel) rfl, xw0, tyX0_ok, nmX0, rfl, Or.inr ⟨rfl, rfl, rfl⟩⟩
theorem iX0_init_27 : mX0_init.2.2.2 = none ∧ decode mX0_init.2.1 27 = .ok (.return_, 1) := ⟨rfl, by decide +kernel⟩
theorem iX0_seek_0 : DLdI mX0_seek 0 1 1 := Or.inl ⟨1, by decide +kernel, rfl, rfl⟩
theorem iX0_seek_1 : DPushI mX0_seek 1 1 2 := Or.inl ⟨1, by decide +kernel, by decide, rfl⟩
theorem iX0_seek_2 : DCm mX0_seek 2 .lt 21 5 := ⟨19, by decide +kernel, by decide, rfl⟩
theorem iX0_seek_5 : DLdI mX0_seek 5 1 6 := Or.inl ⟨1, by decide +kernel, rfl, rfl⟩
theorem iX0_seek_6 : DPushI mX0_seek 6 6 8 := Or.inr (Or.inl ⟨6, by decide +kernel, by decide, rfl⟩)
theorem iX0_seek_8 : DCm mX0_seek 8 .gt 21 11 := ⟨13, by decide +kernel, by decide, rfl⟩
theorem iX0_seek_11 : DLdI mX0_seek 11 2 12 := Or.inl ⟨2, by decide +kernel, rfl, rfl⟩
theorem iX0_seek_12 : DPushI mX0_seek 12 1 13 := Or.inl ⟨1, by decide +kernel, by decide, rfl⟩
theorem iX0_seek_13 : DCm mX0_seek 13 .lt 21 16 := ⟨8, by decide +kernel, by decide, rfl⟩
theorem iX0_seek_16 : DLdI mX0_seek 16 2 17 := Or.inl ⟨2, by decide +kernel, rfl, rfl⟩
theorem iX0_seek_17 : DPushI mX0_seek 17 4 18 := Or.inl ⟨4, by decide +kernel, by decide, rfl⟩
theorem iX0_seek_18 : DCm mX0_seek 18 .le 22 21 := ⟨4, by decide +kernel, by decide, rfl⟩
theorem iX0_seek_21 : mX0_seek.2.2.2 = none ∧ decode mX0_seek.2.1 21 = .ok (.return_, 1) := ⟨rfl, by decide +kernel⟩
theorem iX0_seek_22 : DPushI mX0_seek 22 1 23 := Or.inl ⟨1, by decide +kernel, by decide, rfl⟩
theorem iX0_seek_23 : DStI mX0_seek 23 3 24 := ⟨by decide, Or.inl ⟨3, by decide +kernel, rfl, rfl⟩⟩
theorem iX0_seek_24 : DPushI mX0_seek 24 0 25 := Or.inl ⟨0, by decide +kernel, by decide, rfl⟩
theorem iX0_seek_25 : DStI mX0_seek 25 4 27 := ⟨by decide, Or.inr ⟨by decide +kernel, rfl⟩⟩
theorem iX0_seek_27 : DLdI mX0_seek 27 4 29 := Or.inr ⟨by decide +kernel, rfl⟩
theorem iX0_seek_29 : DLdI mX0_seek 29 2 30 := Or.inl ⟨2, by decide +kernel, rfl, rfl⟩
theorem iX0_seek_30 : DCm mX0_seek 30 .ge 43 33 := ⟨13, by decide +kernel, by decide, rfl⟩
theorem iX0_seek_33 : DLdI mX0_seek 33 3 34 := Or.inl ⟨3, by decide +kernel, rfl, rfl⟩
theorem iX0_seek_34 : DLdI mX0_seek 34 1 35 := Or.inl ⟨1, by decide +kernel, rfl, rfl⟩
theorem iX0_seek_35 : D1 mX0_seek 35 .imul 1 36 := ⟨by decide +kernel, rfl⟩
theorem iX0_seek_36 : DStI mX0_seek 36 3 37 := ⟨by decide, Or.inl ⟨3, by decide +kernel, rfl, rfl⟩⟩
theorem iX0_seek_37 : DInc mX0_seek 37 4 1 40 := ⟨by decide, 1, by decide +kernel, by decide, rfl⟩
theorem iX0_seek_40 : DGo mX0_seek 40 27 := ⟨(-13), by decide +kernel, by decide⟩
theorem iX0_seek_43 : DLdA mX0_seek 43 0 44 := Or.inl ⟨0, by decide +kernel, rfl, rfl⟩
theorem iX0_seek_44 : DPushI mX0_seek 44 (-1) 45 := Or.inl ⟨(-1), by decide +kernel, by decide, rfl⟩
theorem iX0_seek_45 : DPut mX0_seek 45 0 3 .int 48 := ⟨21, by decide +kernel, rfl, RX0, TX0, 4, tyX0, rfl, by decide, bigW_at 196 (by decide +kernel) rfl, xw0, tyX0_ok, nmX0, rfl, Or.inl rfl⟩
theorem iX0_seek_48 : DPushI mX0_seek 48 0 49 := Or.inl ⟨0, by decide +kernel, by decide, rfl⟩
theorem iX0_seek_49 : DStI mX0_seek 49 4 51 := ⟨by decide, Or.inr ⟨by decide +kernel, rfl⟩⟩
theorem iX0_seek_51 : DPushI mX0_seek 51 0 52 := Or.inl ⟨0, by decide +kernel, by decide, rfl⟩
theorem iX0_seek_52 : DStI mX0_seek 52 5 54 := ⟨by decide, Or.inr ⟨by decide +kernel, rfl⟩⟩
theorem iX0_seek_54 : DLdI mX0_seek 54 5 56 := Or.inr ⟨by decide +kernel, rfl⟩
theorem iX0_seek_56 : DLdI mX0_seek 56 3 57 := Or.inl ⟨3, by decide +kernel, rfl, rfl⟩
theorem iX0_seek_57 : DCm mX0_seek 57 .ge 95 60 := ⟨38, by decide +kernel, by decide, rfl⟩
theorem iX0_seek_60 : DLdA mX0_seek 60 0 61 := Or.inl ⟨0, by decide +kernel, rfl, rfl⟩
theorem iX0_seek_61 : DLdI mX0_seek 61 5 63 := Or.inr ⟨by decide +kernel, rfl⟩
theorem iX0_seek_63 : DLdI mX0_seek 63 1 64 := Or.inl ⟨1, by decide +kernel, rfl, rfl⟩
theorem iX0_seek_64 : DLdI mX0_seek 64 2 65 := Or.inl ⟨2, by decide +kernel, rfl, rfl⟩
theorem iX0_seek_65 : DInvV mX0_seek 65 mX0_worthOf 0 3 68 := ⟨25, TX0, 4, by decide +kernel, rfl, rfl, xl_RX0_25, xi_X0_worthOf, xs_X0_worthOf, xm_X0_worthOf⟩
theorem iX0_seek_68 : DStI mX0_seek 68 6 70 := ⟨by decide, Or.inr ⟨by decide +kernel, rfl⟩⟩
theorem iX0_seek_70 : DLdI mX0_seek 70 6 72 := Or.inr ⟨by decide +kernel, rfl⟩
theorem iX0_seek_72 : DLdA mX0_seek 72 0 73 := Or.inl ⟨0, by decide +kernel, rfl, rfl⟩
theorem iX0_seek_73 : DGet mX0_seek 73 0 3 76 := ⟨21, by decide +kernel, rfl, xf_RX0_21⟩
theorem iX0_seek_76 : DCm mX0_seek 76 .le 89 79 := ⟨13, by decide +kernel, by decide, rfl⟩
theorem iX0_seek_79 : DLdA mX0_seek 79 0 80 := Or.inl ⟨0, by decide +kernel, rfl, rfl⟩
theorem iX0_seek_80 : DLdI mX0_seek 80 6 82 := Or.inr ⟨by decide +kernel, rfl⟩
theorem iX0_seek_82 : DPut mX0_seek 82 0 3 .int 85 := ⟨21, by decide +kernel, rfl, RX0, TX0, 4, tyX0, rfl, by decide, bigW_at 196 (by decide +kernel) rfl, xw0, tyX0_ok, nmX0, rfl, Or.inl rfl⟩
theorem iX0_seek_85 : DLdI mX0_seek 85 5 87 := Or.inr ⟨by decide +kernel, rfl⟩
theorem iX0_seek_87 : DStI mX0_seek 87 4 89 := ⟨by decide, Or.inr ⟨by decide +kernel, rfl⟩⟩
theorem iX0_seek_89 : DInc mX0_seek 89 5 1 92 := ⟨by decide, 1, by decide +kernel, by decide, rfl⟩
theorem iX0_seek_92 : DGo mX0_seek 92 54 := ⟨(-38), by decide +kernel, by decide⟩
theorem iX0_seek_95 : DLdA mX0_seek 95 0 96 := Or.inl ⟨0, by decide +kernel, rfl, rfl⟩
theorem iX0_seek_96 : DLdI mX0_seek 96 4 98 := Or.inr ⟨by decide +kernel, rfl⟩
theorem iX0_seek_98 : DLdI mX0_seek 98 1 99 := Or.inl ⟨1, by decide +kernel, rfl, rfl⟩
theorem iX0_seek_99 : DLdI mX0_seek 99 2 100 := Or.inl ⟨2, by decide +kernel, rfl, rfl⟩
theorem iX0_seek_100 : DInvV mX0_seek 100 mX0_spread 0 3 103 := ⟨29, TX0, 4, by decide +kernel, rfl, rfl, xl_RX0_29, xi_X0_spread, xs_X0_spread, xm_X0_spread⟩
theorem iX0_seek_103 : mX0_seek.2.2.2 = none ∧ decode mX0_seek.2.1 103 = .ok (.return_, 1) := ⟨rfl, by decide +kernel⟩
theorem iX0_spread_0 : DLdI mX0_spread 0 1 1 := Or.inl ⟨1, by decide +kernel, rfl, rfl⟩
theorem iX0_spread_1 : DStI mX0_spread 1 4 3 := ⟨by decide, Or.inr ⟨by decide +kernel, rfl⟩⟩
theorem iX0_spread_3 : DLdI mX0_spread 3 3 4 := Or.inl ⟨3, by decide +kernel, rfl, rfl⟩
theorem iX0_spread_4 : DPushI mX0_spread 4 1 5 := Or.inl ⟨1, by decide +kernel, by decide, rfl⟩
theorem iX0_spread_5 : D1 mX0_spread 5 .isub 1 6 := ⟨by decide +kernel, rfl⟩
theorem iX0_spread_6 : DStI mX0_spread 6 5 8 := ⟨by decide, Or.inr ⟨by decide +kernel, rfl⟩⟩
theorem iX0_spread_8 : DLdI mX0_spread 8 5 10 := Or.inr ⟨by decide +kernel, rfl⟩
theorem iX0_spread_10 : DIf mX0_spread 10 .lt 36 13 := ⟨26, by decide +kernel, by decide, rfl⟩
theorem iX0_spread_13 : DLdA mX0_spread 13 0 14 := Or.inl ⟨0, by decide +kernel, rfl, rfl⟩
theorem iX0_spread_14 : DGet mX0_spread 14 0 1 17 := ⟨15, by decide +kernel, rfl, xf_RX0_15⟩
theorem iX0_spread_17 : DLdI mX0_spread 17 5 19 := Or.inr ⟨by decide +kernel, rfl⟩
theorem iX0_spread_19 : DLdI mX0_spread 19 4 21 := Or.inr ⟨by decide +kernel, rfl⟩
theorem iX0_spread_21 : DLdI mX0_spread 21 2 22 := Or.inl ⟨2, by decide +kernel, rfl, rfl⟩
theorem iX0_spread_22 : D1 mX0_spread 22 .irem 1 23 := ⟨by decide +kernel, rfl⟩
theorem iX0_spread_23 : D1 mX0_spread 23 .iastore 1 24 := ⟨by decide +kernel, rfl⟩
theorem iX0_spread_24 : DLdI mX0_spread 24 4 26 := Or.inr ⟨by decide +kernel, rfl⟩
theorem iX0_spread_26 : DLdI mX0_spread 26 2 27 := Or.inl ⟨2, by decide +kernel, rfl, rfl⟩
theorem iX0_spread_27 : D1 mX0_spread 27 .idiv 1 28 := ⟨by decide +kernel, rfl⟩
theorem iX0_spread_28 : DStI mX0_spread 28 4 30 := ⟨by decide, Or.inr ⟨by decide +kernel, rfl⟩⟩
theorem iX0_spread_30 : DInc mX0_spread 30 5 (-1) 33 := ⟨by decide, (-1), by decide +kernel, by decide, rfl⟩
theorem iX0_spread_33 : DGo mX0_spread 33 8 := ⟨(-25), by decide +kernel, by decide⟩
theorem iX0_spread_36 : mX0_spread.2.2.2 = none ∧ decode mX0_spread.2.1 36 = .ok (.return_, 1) := ⟨rfl, by decide +kernel⟩
theorem iX0_worthOf_0 : DPushI mX0_worthOf 0 0 1 := Or.inl ⟨0, by decide +kernel, by decide, rfl⟩
theorem iX0_worthOf_1 : DStI mX0_worthOf 1 4 3 := ⟨by decide, Or.inr ⟨by decide +kernel, rfl⟩⟩
theorem iX0_worthOf_3 : DLdI mX0_worthOf 3 4 5 := Or.inr ⟨by decide +kernel, rfl⟩
theorem iX0_worthOf_5 : DLdI mX0_worthOf 5 2 6 := Or.inl ⟨2, by decide +kernel, rfl, rfl⟩
theorem iX0_worthOf_6 : DCm mX0_worthOf 6 .ge 23 9 := ⟨17, by decide +kernel, by decide, rfl⟩
theorem iX0_worthOf_9 : DLdA mX0_worthOf 9 0 10 := Or.inl ⟨0, by decide +kernel, rfl, rfl⟩
theorem iX0_worthOf_10 : DGet mX0_worthOf 10 0 2 13 := ⟨18, by decide +kernel, rfl, xf_RX0_18⟩
theorem iX0_worthOf_13 : DLdI mX0_worthOf 13 4 15 := Or.inr ⟨by decide +kernel, rfl⟩
theorem iX0_worthOf_15 : DPushI mX0_worthOf 15 0 16 := Or.inl ⟨0, by decide +kernel, by decide, rfl⟩
theorem iX0_worthOf_16 : D1 mX0_worthOf 16 .iastore 1 17 := ⟨by decide +kernel, rfl⟩
theorem iX0_worthOf_17 : DInc mX0_worthOf 17 4 1 20 := ⟨by decide, 1, by decide +kernel, by decide, rfl⟩
theorem iX0_worthOf_20 : DGo mX0_worthOf 20 3 := ⟨(-17), by decide +kernel, by decide⟩
theorem iX0_worthOf_23 : DLdI mX0_worthOf 23 1 24 := Or.inl ⟨1, by decide +kernel, rfl, rfl⟩
theorem iX0_worthOf_24 : DStI mX0_worthOf 24 4 26 := ⟨by decide, Or.inr ⟨by decide +kernel, rfl⟩⟩
theorem iX0_worthOf_26 : DLdI mX0_worthOf 26 3 27 := Or.inl ⟨3, by decide +kernel, rfl, rfl⟩
theorem iX0_worthOf_27 : DPushI mX0_worthOf 27 1 28 := Or.inl ⟨1, by decide +kernel, by decide, rfl⟩
theorem iX0_worthOf_28 : D1 mX0_worthOf 28 .isub 1 29 := ⟨by decide +kernel, rfl⟩
theorem iX0_worthOf_29 : DStI mX0_worthOf 29 5 31 := ⟨by decide, Or.inr ⟨by decide +kernel, rfl⟩⟩
theorem iX0_worthOf_31 : DLdI mX0_worthOf 31 5 33 := Or.inr ⟨by decide +kernel, rfl⟩
theorem iX0_worthOf_33 : DIf mX0_worthOf 33 .lt 64 36 := ⟨31, by decide +kernel, by decide, rfl⟩
theorem iX0_worthOf_36 : DLdA mX0_worthOf 36 0 37 := Or.inl ⟨0, by decide +kernel, rfl, rfl⟩
theorem iX0_worthOf_37 : DGet mX0_worthOf 37 0 2 40 := ⟨18, by decide +kernel, rfl, xf_RX0_18⟩
theorem iX0_worthOf_40 : DLdI mX0_worthOf 40 4 42 := Or.inr ⟨by decide +kernel, rfl⟩
theorem iX0_worthOf_42 : DLdI mX0_worthOf 42 2 43 := Or.inl ⟨2, by decide +kernel, rfl, rfl⟩
theorem iX0_worthOf_43 : D1 mX0_worthOf 43 .irem 1 44 := ⟨by decide +kernel, rfl⟩
theorem iX0_worthOf_44 : D1 mX0_worthOf 44 .dup2 1 45 := ⟨by decide +kernel, rfl⟩
theorem iX0_worthOf_45 : D1 mX0_worthOf 45 .iaload 1 46 := ⟨by decide +kernel, rfl⟩
theorem iX0_worthOf_46 : DPushI mX0_worthOf 46 1 47 := Or.inl ⟨1, by decide +kernel, by decide, rfl⟩
theorem iX0_worthOf_47 : DLdI mX0_worthOf 47 5 49 := Or.inr ⟨by decide +kernel, rfl⟩
theorem iX0_worthOf_49 : D1 mX0_worthOf 49 .ishl 1 50 := ⟨by decide +kernel, rfl⟩
theorem iX0_worthOf_50 : D1 mX0_worthOf 50 .ior 1 51 := ⟨by decide +kernel, rfl⟩
theorem iX0_worthOf_51 : D1 mX0_worthOf 51 .iastore 1 52 := ⟨by decide +kernel, rfl⟩
theorem iX0_worthOf_52 : DLdI mX0_worthOf 52 4 54 := Or.inr ⟨by decide +kernel, rfl⟩
theorem iX0_worthOf_54 : DLdI mX0_worthOf 54 2 55 := Or.inl ⟨2, by decide +kernel, rfl, rfl⟩
theorem iX0_worthOf_55 : D1 mX0_worthOf 55 .idiv 1 56 := ⟨by decide +kernel, rfl⟩
theorem iX0_worthOf_56 : DStI mX0_worthOf 56 4 58 := ⟨by decide, Or.inr ⟨by decide +kernel, rfl⟩⟩
theorem iX0_worthOf_58 : DInc mX0_worthOf 58 5 (-1) 61 := ⟨by decide, (-1), by decide +kernel, by decide, rfl⟩
theorem iX0_worthOf_61 : DGo mX0_worthOf 61 31 := ⟨(-30), by decide +kernel, by decide⟩
theorem iX0_worthOf_64 : DPushI mX0_worthOf 64 0 65 := Or.inl ⟨0, by decide +kernel, by decide, rfl⟩
theorem iX0_worthOf_65 : DStI mX0_worthOf 65 5 67 := ⟨by decide, Or.inr ⟨by decide +kernel, rfl⟩⟩
theorem iX0_worthOf_67 : DPushI mX0_worthOf 67 0 68 := Or.inl ⟨0, by decide +kernel, by decide, rfl⟩
theorem iX0_worthOf_68 : DStI mX0_worthOf 68 6 70 := ⟨by decide, Or.inr ⟨by decide +kernel, rfl⟩⟩
theorem iX0_worthOf_70 : DLdI mX0_worthOf 70 6 72 := Or.inr ⟨by decide +kernel, rfl⟩
theorem iX0_worthOf_72 : DLdI mX0_worthOf 72 2 73 := Or.inl ⟨2, by decide +kernel, rfl, rfl⟩
theorem iX0_worthOf_73 : DCm mX0_worthOf 73 .ge 105 76 := ⟨32, by decide +kernel, by decide, rfl⟩
theorem iX0_worthOf_76 : DLdI mX0_worthOf 76 5 78 := Or.inr ⟨by decide +kernel, rfl⟩
theorem iX0_worthOf_78 : DLdA mX0_worthOf 78 0 79 := Or.inl ⟨0, by decide +kernel, rfl, rfl⟩
theorem iX0_worthOf_79 : DGet mX0_worthOf 79 0 0 82 := ⟨9, by decide +kernel, rfl, xf_RX0_9⟩
theorem iX0_worthOf_82 : DLdI mX0_worthOf 82 6 84 := Or.inr ⟨by decide +kernel, rfl⟩
theorem iX0_worthOf_84 : DPushI mX0_worthOf 84 16 86 := Or.inr (Or.inl ⟨16, by decide +kernel, by decide, rfl⟩)
theorem iX0_worthOf_86 : D1 mX0_worthOf 86 .imul 1 87 := ⟨by decide +kernel, rfl⟩
theorem iX0_worthOf_87 : DLdA mX0_worthOf 87 0 88 := Or.inl ⟨0, by decide +kernel, rfl, rfl⟩
theorem iX0_worthOf_88 : DGet mX0_worthOf 88 0 2 91 := ⟨18, by decide +kernel, rfl, xf_RX0_18⟩
theorem iX0_worthOf_91 : DLdI mX0_worthOf 91 6 93 := Or.inr ⟨by decide +kernel, rfl⟩
theorem iX0_worthOf_93 : D1 mX0_worthOf 93 .iaload 1 94 := ⟨by decide +kernel, rfl⟩
theorem iX0_worthOf_94 : D1 mX0_worthOf 94 .iadd 1 95 := ⟨by decide +kernel, rfl⟩
theorem iX0_worthOf_95 : D1 mX0_worthOf 95 .iaload 1 96 := ⟨by decide +kernel, rfl⟩
theorem iX0_worthOf_96 : D1 mX0_worthOf 96 .iadd 1 97 := ⟨by decide +kernel, rfl⟩
theorem iX0_worthOf_97 : DStI mX0_worthOf 97 5 99 := ⟨by decide, Or.inr ⟨by decide +kernel, rfl⟩⟩
theorem iX0_worthOf_99 : DInc mX0_worthOf 99 6 1 102 := ⟨by decide, 1, by decide +kernel, by decide, rfl⟩
theorem iX0_worthOf_102 : DGo mX0_worthOf 102 70 := ⟨(-32), by decide +kernel, by decide⟩
theorem iX0_worthOf_105 : DLdI mX0_worthOf 105 5 107 := Or.inr ⟨by decide +kernel, rfl⟩
theorem iX0_worthOf_107 : mX0_worthOf.2.2.2 = some .int ∧ decode mX0_worthOf.2.1 107 = .ok (.ireturn, 1) := ⟨rfl, by decide +kernel⟩
theorem iX1_become_0 : DLdA mX1_become 0 0 1 := Or.inl ⟨0, by decide +kernel, rfl, rfl⟩
theorem iX1_become_1 : DLdA mX1_become 1 1 2 := Or.inl ⟨1, by decide +kernel, rfl, rfl⟩
theorem iX1_become_2 : DGet mX1_become 2 1 1 5 := ⟨18, by decide +kernel, rfl, xf_RX1_18⟩
theorem iX1_become_5 : DPut mX1_become 5 1 1 .int 8 := ⟨18, by decide +kernel, rfl, RX1, TX1, 2, tyX1, rfl, by decide, bigW_at 155 (by decide +kernel) rfl, xw1, tyX1_ok, nmX1, rfl, Or.inl rfl⟩
theorem iX1_become_8 : DPushI mX1_become 8 0 9 := Or.inl ⟨0, by decide +kernel, by decide, rfl⟩
theorem iX1_become_9 : DStI mX1_become 9 2 10 := ⟨by decide, Or.inl ⟨2, by decide +kernel, rfl, rfl⟩⟩
theorem iX1_become_10 : DLdI mX1_become 10 2 11 := Or.inl ⟨2, by decide +kernel, rfl, rfl⟩
theorem iX1_become_11 : DLdA mX1_become 11 0 12 := Or.inl ⟨0, by decide +kernel, rfl, rfl⟩
theorem iX1_become_12 : DGet mX1_become 12 1 1 15 := ⟨18, by decide +kernel, rfl, xf_RX1_18⟩
theorem iX1_become_15 : DCm mX1_become 15 .ge 39 18 := ⟨24, by decide +kernel, by decide, rfl⟩
theorem iX1_become_18 : DLdA mX1_become 18 0 19 := Or.inl ⟨0, by decide +kernel, rfl, rfl⟩
theorem iX1_become_19 : DGet mX1_become 19 1 0 22 := ⟨11, by decide +kernel, rfl, xf_RX1_11⟩
theorem iX1_become_22 : DLdI mX1_become 22 2 23 := Or.inl ⟨2, by decide +kernel, rfl, rfl⟩
theorem iX1_become_23 : D1 mX1_become 23 .aaload 1 24 := ⟨by decide +kernel, rfl⟩
theorem iX1_become_24 : DLdA mX1_become 24 1 25 := Or.inl ⟨1, by decide +kernel, rfl, rfl⟩
theorem iX1_become_25 : DGet mX1_become 25 1 0 28 := ⟨11, by decide +kernel, rfl, xf_RX1_11⟩
theorem iX1_become_28 : DLdI mX1_become 28 2 29 := Or.inl ⟨2, by decide +kernel, rfl, rfl⟩
theorem iX1_become_29 : D1 mX1_become 29 .aaload 1 30 := ⟨by decide +kernel, rfl⟩
theorem iX1_become_30 : DInvV mX1_become 30 mX2_become 2 1 33 := ⟨22, TX2, 7, by decide +kernel, rfl, rfl, xl_RX1_22, xi_X2_become, xs_X2_become, xm_X2_become⟩
theorem iX1_become_33 : DInc mX1_become 33 2 1 36 := ⟨by decide, 1, by decide +kernel, by decide, rfl⟩
theorem iX1_become_36 : DGo mX1_become 36 10 := ⟨(-26), by decide +kernel, by decide⟩
theorem iX1_become_39 : mX1_become.2.2.2 = none ∧ decode mX1_become.2.1 39 = .ok (.return_, 1) := ⟨rfl, by decide +kernel⟩
theorem iX1_forgetOldest_0 : DLdA mX1_forgetOldest 0 0 1 := Or.inl ⟨0, by decide +kernel, rfl, rfl⟩
theorem iX1_forgetOldest_1 : DGet mX1_forgetOldest 1 1 0 4 := ⟨11, by decide +kernel, rfl, xf_RX1_11⟩
theorem iX1_forgetOldest_4 : DPushI mX1_forgetOldest 4 0 5 := Or.inl ⟨0, by decide +kernel, by decide, rfl⟩
theorem iX1_forgetOldest_5 : D1 mX1_forgetOldest 5 .aaload 1 6 := ⟨by decide +kernel, rfl⟩
theorem iX1_forgetOldest_6 : DStA mX1_forgetOldest 6 1 7 := ⟨by decide, Or.inl ⟨1, by decide +kernel, rfl, rfl⟩⟩
theorem iX1_forgetOldest_7 : DPushI mX1_forgetOldest 7 1 8 := Or.inl ⟨1, by decide +kernel, by decide, rfl⟩
theorem iX1_forgetOldest_8 : DStI mX1_forgetOldest 8 2 9 := ⟨by decide, Or.inl ⟨2, by decide +kernel, rfl, rfl⟩⟩
theorem iX1_forgetOldest_9 : DLdI mX1_forgetOldest 9 2 10 := Or.inl ⟨2, by decide +kernel, rfl, rfl⟩
theorem iX1_forgetOldest_10 : DPushI mX1_forgetOldest 10 8 12 := Or.inr (Or.inl ⟨8, by decide +kernel, by decide, rfl⟩)
theorem iX1_forgetOldest_12 : DCm mX1_forgetOldest 12 .ge 35 15 := ⟨23, by decide +kernel, by decide, rfl⟩
theorem iX1_forgetOldest_15 : DLdA mX1_forgetOldest 15 0 16 := Or.inl ⟨0, by decide +kernel, rfl, rfl⟩
theorem iX1_forgetOldest_16 : DGet mX1_forgetOldest 16 1 0 19 := ⟨11, by decide +kernel, rfl, xf_RX1_11⟩
theorem iX1_forgetOldest_19 : DLdI mX1_forgetOldest 19 2 20 := Or.inl ⟨2, by decide +kernel, rfl, rfl⟩
theorem iX1_forgetOldest_20 : DPushI mX1_forgetOldest 20 1 21 := Or.inl ⟨1, by decide +kernel, by decide, rfl⟩
theorem iX1_forgetOldest_21 : D1 mX1_forgetOldest 21 .isub 1 22 := ⟨by decide +kernel, rfl⟩
theorem iX1_forgetOldest_22 : DLdA mX1_forgetOldest 22 0 23 := Or.inl ⟨0, by decide +kernel, rfl, rfl⟩
theorem iX1_forgetOldest_23 : DGet mX1_forgetOldest 23 1 0 26 := ⟨11, by decide +kernel, rfl, xf_RX1_11⟩
theorem iX1_forgetOldest_26 : DLdI mX1_forgetOldest 26 2 27 := Or.inl ⟨2, by decide +kernel, rfl, rfl⟩
theorem iX1_forgetOldest_27 : D1 mX1_forgetOldest 27 .aaload 1 28 := ⟨by decide +kernel, rfl⟩
theorem iX1_forgetOldest_28 : D1 mX1_forgetOldest 28 .aastore 1 29 := ⟨by decide +kernel, rfl⟩
theorem iX1_forgetOldest_29 : DInc mX1_forgetOldest 29 2 1 32 := ⟨by decide, 1, by decide +kernel, by decide, rfl⟩
theorem iX1_forgetOldest_32 : DGo mX1_forgetOldest 32 9 := ⟨(-23), by decide +kernel, by decide⟩
theorem iX1_forgetOldest_35 : DLdA mX1_forgetOldest 35 0 36 := Or.inl ⟨0, by decide +kernel, rfl, rfl⟩
theorem iX1_forgetOldest_36 : DGet mX1_forgetOldest 36 1 0 39 := ⟨11, by decide +kernel, rfl, xf_RX1_11⟩
theorem iX1_forgetOldest_39 : DPushI mX1_forgetOldest 39 7 41 := Or.inr (Or.inl ⟨7, by decide +kernel, by decide, rfl⟩)
theorem iX1_forgetOldest_41 : DLdA mX1_forgetOldest 41 1 42 := Or.inl ⟨1, by decide +kernel, rfl, rfl⟩
theorem iX1_forgetOldest_42 : D1 mX1_forgetOldest 42 .aastore 1 43 := ⟨by decide +kernel, rfl⟩
theorem iX1_forgetOldest_43 : DLdA mX1_forgetOldest 43 0 44 := Or.inl ⟨0, by decide +kernel, rfl, rfl⟩
theorem iX1_forgetOldest_44 : DPushI mX1_forgetOldest 44 7 46 := Or.inr (Or.inl ⟨7, by decide +kernel, by decide, rfl⟩)
theorem iX1_forgetOldest_46 : DPut mX1_forgetOldest 46 1 1 .int 49 := ⟨18, by decide +kernel, rfl, RX1, TX1, 2, tyX1, rfl, by decide, bigW_at 155 (by decide +kernel) rfl, xw1, tyX1_ok, nmX1, rfl, Or.inl rfl⟩
theorem iX1_forgetOldest_49 : mX1_forgetOldest.2.2.2 = none ∧ decode mX1_forgetOldest.2.1 49 = .ok (.return_, 1) := ⟨rfl, by decide +kernel⟩
theorem iX1_forgetUnlessFull_0 : DLdI mX1_forgetUnlessFull 0 1 1 := Or.inl ⟨1, by decide +kernel, rfl, rfl⟩
theorem iX1_forgetUnlessFull_1 : DPushI mX1_forgetUnlessFull 1 (-3) 3 := Or.inr (Or.inl ⟨(-3), by decide +kernel, by decide, rfl⟩)
theorem iX1_forgetUnlessFull_3 : DCm mX1_forgetUnlessFull 3 .eq 11 6 := ⟨8, by decide +kernel, by decide, rfl⟩
theorem iX1_forgetUnlessFull_6 : DLdA mX1_forgetUnlessFull 6 0 7 := Or.inl ⟨0, by decide +kernel, rfl, rfl⟩
theorem iX1_forgetUnlessFull_7 : DPushI mX1_forgetUnlessFull 7 0 8 := Or.inl ⟨0, by decide +kernel, by decide, rfl⟩
theorem iX1_forgetUnlessFull_8 : DPut mX1_forgetUnlessFull 8 1 1 .int 11 := ⟨18, by decide +kernel, rfl, RX1, TX1, 2, tyX1, rfl, by decide, bigW_at 155 (by decide +kernel) rfl, xw1, tyX1_ok, nmX1, rfl, Or.inl rfl⟩
theorem iX1_forgetUnlessFull_11 : mX1_forgetUnlessFull.2.2.2 = none ∧ decode mX1_forgetUnlessFull.2.1 11 = .ok (.return_, 1) := ⟨rfl, by decide +kernel⟩
theorem iX1_init_0 : DLdA mX1_init 0 0 1 := Or.inl ⟨0, by decide +kernel, rfl, rfl⟩
theorem iX1_init_1 : DObj mX1_init 1 4 := ⟨3, by decide +kernel, rfl, xl_RX1_3, xl_objI, xl_objC⟩
theorem iX1_init_4 : DLdA mX1_init 4 0 5 := Or.inl ⟨0, by decide +kernel, rfl, rfl⟩
theorem iX1_init_5 : DPushI mX1_init 5 8 7 := Or.inr (Or.inl ⟨8, by decide +kernel, by decide, rfl⟩)
theorem iX1_init_7 : DNewQ mX1_init 7 RX2 10 := ⟨9, by decide +kernel, xc_RX1_9, Or.inl rfl, rfl⟩
theorem iX1_init_10 : DPut mX1_init 10 1 0 (.array (.object RX2)) 13 := ⟨11, by decide +kernel, rfl, RX1, TX1, 2, tyX1, rfl, by decide, bigW_at 154 (by decide +kernel) rfl, xw1, tyX1_ok, nmX1, rfl, Or.inr ⟨rfl, rfl, rfl⟩⟩
theorem iX1_init_13 : DPushI mX1_init 13 0 14 := Or.inl ⟨0, by decide +kernel, by decide, rfl⟩
theorem iX1_init_14 : DStI mX1_init 14 1 15 := ⟨by decide, Or.inl ⟨1, by decide +kernel, rfl, rfl⟩⟩
theorem iX1_init_15 : DLdI mX1_init 15 1 16 := Or.inl ⟨1, by decide +kernel, rfl, rfl⟩
theorem iX1_init_16 : DPushI mX1_init 16 8 18 := Or.inr (Or.inl ⟨8, by decide +kernel, by decide, rfl⟩)
theorem iX1_init_18 : DCm mX1_init 18 .ge 40 21 := ⟨22, by decide +kernel, by decide, rfl⟩
theorem iX1_init_21 : DLdA mX1_init 21 0 22 := Or.inl ⟨0, by decide +kernel, rfl, rfl⟩
theorem iX1_init_22 : DGet mX1_init 22 1 0 25 := ⟨11, by decide +kernel, rfl, xf_RX1_11⟩
theorem iX1_init_25 : DLdI mX1_init 25 1 26 := Or.inl ⟨1, by decide +kernel, rfl, rfl⟩
theorem iX1_init_26 : DNew mX1_init 26 2 [.null, .null, .int 0, .int 0, .int 0, .int 0, .int 0] 29 := ⟨9, RX2, TX2, 7, tyX2, by decide +kernel, rfl, rfl, xc_RX1_9, xn_RX2, xz_RX2, xw2, tyX2_ok, rfl, by decide +kernel, fun _ _ => rfl⟩
theorem iX1_init_29 : D1 mX1_init 29 .dup 1 30 := ⟨by decide +kernel, rfl⟩
theorem iX1_init_30 : DInvI mX1_init 30 mX2_init 0 33 := ⟨17, by decide +kernel, rfl, Or.inl xl_RX1_17, xi_X2_init, rfl, rfl, xm_X2_init⟩
theorem iX1_init_33 : D1 mX1_init 33 .aastore 1 34 := ⟨by decide +kernel, rfl⟩
theorem iX1_init_34 : DInc mX1_init 34 1 1 37 := ⟨by decide, 1, by decide +kernel, by decide, rfl⟩
theorem iX1_init_37 : DGo mX1_init 37 15 := ⟨(-22), by decide +kernel, by decide⟩
theorem iX1_init_40 : mX1_init.2.2.2 = none ∧ decode mX1_init.2.1 40 = .ok (.return_, 1) := ⟨rfl, by decide +kernel⟩
theorem iX1_putBack_0 : DLdA mX1_putBack 0 0 1 := Or.inl ⟨0, by decide +kernel, rfl, rfl⟩
theorem iX1_putBack_1 : DGet mX1_putBack 1 1 1 4 := ⟨18, by decide +kernel, rfl, xf_RX1_18⟩
theorem iX1_putBack_4 : DIf mX1_putBack 4 .gt 10 7 := ⟨6, by decide +kernel, by decide, rfl⟩
theorem iX1_putBack_7 : DPushI mX1_putBack 7 (-4) 9 := Or.inr (Or.inl ⟨(-4), by decide +kernel, by decide, rfl⟩)
theorem iX1_putBack_9 : mX1_putBack.2.2.2 = some .int ∧ decode mX1_putBack.2.1 9 = .ok (.ireturn, 1) := ⟨rfl, by decide +kernel⟩
theorem iX1_putBack_10 : DLdA mX1_putBack 10 0 11 := Or.inl ⟨0, by decide +kernel, rfl, rfl⟩
theorem iX1_putBack_11 : D1 mX1_putBack 11 .dup 1 12 := ⟨by decide +kernel, rfl⟩
theorem iX1_putBack_12 : DGet mX1_putBack 12 1 1 15 := ⟨18, by decide +kernel, rfl, xf_RX1_18⟩
theorem iX1_putBack_15 : DPushI mX1_putBack 15 1 16 := Or.inl ⟨1, by decide +kernel, by decide, rfl⟩
theorem iX1_putBack_16 : D1 mX1_putBack 16 .isub 1 17 := ⟨by decide +kernel, rfl⟩
theorem iX1_putBack_17 : DPut mX1_putBack 17 1 1 .int 20 := ⟨18, by decide +kernel, rfl, RX1, TX1, 2, tyX1, rfl, by decide, bigW_at 155 (by decide +kernel) rfl, xw1, tyX1_ok, nmX1, rfl, Or.inl rfl⟩
theorem iX1_putBack_20 : DLdA mX1_putBack 20 1 21 := Or.inl ⟨1, by decide +kernel, rfl, rfl⟩
theorem iX1_putBack_21 : DLdA mX1_putBack 21 0 22 := Or.inl ⟨0, by decide +kernel, rfl, rfl⟩
theorem iX1_putBack_22 : DGet mX1_putBack 22 1 0 25 := ⟨11, by decide +kernel, rfl, xf_RX1_11⟩
theorem iX1_putBack_25 : DLdA mX1_putBack 25 0 26 := Or.inl ⟨0, by decide +kernel, rfl, rfl⟩
theorem iX1_putBack_26 : DGet mX1_putBack 26 1 1 29 := ⟨18, by decide +kernel, rfl, xf_RX1_18⟩
theorem iX1_putBack_29 : D1 mX1_putBack 29 .aaload 1 30 := ⟨by decide +kernel, rfl⟩
theorem iX1_putBack_30 : DInvV mX1_putBack 30 mX2_become 2 1 33 := ⟨22, TX2, 7, by decide +kernel, rfl, rfl, xl_RX1_22, xi_X2_become, xs_X2_become, xm_X2_become⟩
theorem iX1_putBack_33 : DLdA mX1_putBack 33 0 34 := Or.inl ⟨0, by decide +kernel, rfl, rfl⟩
theorem iX1_putBack_34 : DGet mX1_putBack 34 1 1 37 := ⟨18, by decide +kernel, rfl, xf_RX1_18⟩
theorem iX1_putBack_37 : mX1_putBack.2.2.2 = some .int ∧ decode mX1_putBack.2.1 37 = .ok (.ireturn, 1) := ⟨rfl, by decide +kernel⟩
theorem iX1_remember_0 : DLdA mX1_remember 0 0 1 := Or.inl ⟨0, by decide +kernel, rfl, rfl⟩
theorem iX1_remember_1 : DGet mX1_remember 1 1 1 4 := ⟨18, by decide +kernel, rfl, xf_RX1_18⟩
theorem iX1_remember_4 : DPushI mX1_remember 4 8 6 := Or.inr (Or.inl ⟨8, by decide +kernel, by decide, rfl⟩)
theorem iX1_remember_6 : DCm mX1_remember 6 .lt 13 9 := ⟨7, by decide +kernel, by decide, rfl⟩
theorem iX1_remember_9 : DLdA mX1_remember 9 0 10 := Or.inl ⟨0, by decide +kernel, rfl, rfl⟩
theorem iX1_remember_10 : DInvV mX1_remember 10 mX1_forgetOldest 1 0 13 := ⟨26, TX1, 2, by decide +kernel, rfl, rfl, xl_RX1_26, xi_X1_forgetOldest, xs_X1_forgetOldest, xm_X1_forgetOldest⟩
theorem iX1_remember_13 : DLdA mX1_remember 13 0 14 := Or.inl ⟨0, by decide +kernel, rfl, rfl⟩
theorem iX1_remember_14 : DGet mX1_remember 14 1 0 17 := ⟨11, by decide +kernel, rfl, xf_RX1_11⟩
theorem iX1_remember_17 : DLdA mX1_remember 17 0 18 := Or.inl ⟨0, by decide +kernel, rfl, rfl⟩
theorem iX1_remember_18 : DGet mX1_remember 18 1 1 21 := ⟨18, by decide +kernel, rfl, xf_RX1_18⟩
theorem iX1_remember_21 : D1 mX1_remember 21 .aaload 1 22 := ⟨by decide +kernel, rfl⟩
theorem iX1_remember_22 : DLdA mX1_remember 22 1 23 := Or.inl ⟨1, by decide +kernel, rfl, rfl⟩
theorem iX1_remember_23 : DInvV mX1_remember 23 mX2_become 2 1 26 := ⟨22, TX2, 7, by decide +kernel, rfl, rfl, xl_RX1_22, xi_X2_become, xs_X2_become, xm_X2_become⟩
theorem iX1_remember_26 : DLdA mX1_remember 26 0 27 := Or.inl ⟨0, by decide +kernel, rfl, rfl⟩
theorem iX1_remember_27 : D1 mX1_remember 27 .dup 1 28 := ⟨by decide +kernel, rfl⟩
theorem iX1_remember_28 : DGet mX1_remember 28 1 1 31 := ⟨18, by decide +kernel, rfl, xf_RX1_18⟩
theorem iX1_remember_31 : DPushI mX1_remember 31 1 32 := Or.inl ⟨1, by decide +kernel, by decide, rfl⟩
theorem iX1_remember_32 : D1 mX1_remember 32 .iadd 1 33 := ⟨by decide +kernel, rfl⟩
theorem iX1_remember_33 : DPut mX1_remember 33 1 1 .int 36 := ⟨18, by decide +kernel, rfl, RX1, TX1, 2, tyX1, rfl, by decide, bigW_at 155 (by decide +kernel) rfl, xw1, tyX1_ok, nmX1, rfl, Or.inl rfl⟩
theorem iX1_remember_36 : mX1_remember.2.2.2 = none ∧ decode mX1_remember.2.1 36 = .ok (.return_, 1) := ⟨rfl, by decide +kernel⟩
theorem iX2_become_0 : DLdA mX2_become 0 1 1 := Or.inl ⟨1, by decide +kernel, rfl, rfl⟩
theorem iX2_become_1 : DGet mX2_become 1 2 0 4 := ⟨9, by decide +kernel, rfl, xf_RX2_9⟩
theorem iX2_become_4 : DPushI mX2_become 4 0 5 := Or.inl ⟨0, by decide +kernel, by decide, rfl⟩
theorem iX2_become_5 : DLdA mX2_become 5 0 6 := Or.inl ⟨0, by decide +kernel, rfl, rfl⟩
theorem iX2_become_6 : DGet mX2_become 6 2 0 9 := ⟨9, by decide +kernel, rfl, xf_RX2_9⟩
theorem iX2_become_9 : DPushI mX2_become 9 0 10 := Or.inl ⟨0, by decide +kernel, by decide, rfl⟩
theorem iX2_become_10 : DPushI mX2_become 10 6 12 := Or.inr (Or.inl ⟨6, by decide +kernel, by decide, rfl⟩)
theorem iX2_become_12 : DCopy mX2_become 12 15 := ⟨25, by decide +kernel, rfl, xl_RX2_25, xl_cn, xl_cs, xl_ci⟩
theorem iX2_become_15 : DLdA mX2_become 15 1 16 := Or.inl ⟨1, by decide +kernel, rfl, rfl⟩
theorem iX2_become_16 : DGet mX2_become 16 2 1 19 := ⟨15, by decide +kernel, rfl, xf_RX2_15⟩
theorem iX2_become_19 : DPushI mX2_become 19 0 20 := Or.inl ⟨0, by decide +kernel, by decide, rfl⟩
theorem iX2_become_20 : DLdA mX2_become 20 0 21 := Or.inl ⟨0, by decide +kernel, rfl, rfl⟩
theorem iX2_become_21 : DGet mX2_become 21 2 1 24 := ⟨15, by decide +kernel, rfl, xf_RX2_15⟩
theorem iX2_become_24 : DPushI mX2_become 24 0 25 := Or.inl ⟨0, by decide +kernel, by decide, rfl⟩
theorem iX2_become_25 : DPushI mX2_become 25 4 26 := Or.inl ⟨4, by decide +kernel, by decide, rfl⟩
theorem iX2_become_26 : DCopy mX2_become 26 29 := ⟨25, by decide +kernel, rfl, xl_RX2_25, xl_cn, xl_cs, xl_ci⟩
theorem iX2_become_29 : DLdA mX2_become 29 0 30 := Or.inl ⟨0, by decide +kernel, rfl, rfl⟩
theorem iX2_become_30 : DLdA mX2_become 30 1 31 := Or.inl ⟨1, by decide +kernel, rfl, rfl⟩
theorem iX2_become_31 : DGet mX2_become 31 2 2 34 := ⟨31, by decide +kernel, rfl, xf_RX2_31⟩
theorem iX2_become_34 : DPut mX2_become 34 2 2 .int 37 := ⟨31, by decide +kernel, rfl, RX2, TX2, 7, tyX2, rfl, by decide, bigW_at 71 (by decide +kernel) rfl, xw2, tyX2_ok, nmX2, rfl, Or.inl rfl⟩
theorem iX2_become_37 : DLdA mX2_become 37 0 38 := Or.inl ⟨0, by decide +kernel, rfl, rfl⟩
theorem iX2_become_38 : DLdA mX2_become 38 1 39 := Or.inl ⟨1, by decide +kernel, rfl, rfl⟩
theorem iX2_become_39 : DGet mX2_become 39 2 3 42 := ⟨34, by decide +kernel, rfl, xf_RX2_34⟩
theorem iX2_become_42 : DPut mX2_become 42 2 3 .int 45 := ⟨34, by decide +kernel, rfl, RX2, TX2, 7, tyX2, rfl, by decide, bigW_at 74 (by decide +kernel) rfl, xw2, tyX2_ok, nmX2, rfl, Or.inl rfl⟩
theorem iX2_become_45 : DLdA mX2_become 45 0 46 := Or.inl ⟨0, by decide +kernel, rfl, rfl⟩
theorem iX2_become_46 : DLdA mX2_become 46 1 47 := Or.inl ⟨1, by decide +kernel, rfl, rfl⟩
theorem iX2_become_47 : DGet mX2_become 47 2 4 50 := ⟨37, by decide +kernel, rfl, xf_RX2_37⟩
theorem iX2_become_50 : DPut mX2_become 50 2 4 .int 53 := ⟨37, by decide +kernel, rfl, RX2, TX2, 7, tyX2, rfl, by decide, bigW_at 77 (by decide +kernel) rfl, xw2, tyX2_ok, nmX2, rfl, Or.inl rfl⟩
theorem iX2_become_53 : DLdA mX2_become 53 0 54 := Or.inl ⟨0, by decide +kernel, rfl, rfl⟩
theorem iX2_become_54 : DLdA mX2_become 54 1 55 := Or.inl ⟨1, by decide +kernel, rfl, rfl⟩
theorem iX2_become_55 : DGet mX2_become 55 2 5 58 := ⟨40, by decide +kernel, rfl, xf_RX2_40⟩
theorem iX2_become_58 : DPut mX2_become 58 2 5 .int 61 := ⟨40, by decide +kernel, rfl, RX2, TX2, 7, tyX2, rfl, by decide, bigW_at 80 (by decide +kernel) rfl, xw2, tyX2_ok, nmX2, rfl, Or.inl rfl⟩
theorem iX2_become_61 : DLdA mX2_become 61 0 62 := Or.inl ⟨0, by decide +kernel, rfl, rfl⟩
theorem iX2_become_62 : DLdA mX2_become 62 1 63 := Or.inl ⟨1, by decide +kernel, rfl, rfl⟩
theorem iX2_become_63 : DGet mX2_become 63 2 6 66 := ⟨18, by decide +kernel, rfl, xf_RX2_18⟩
theorem iX2_become_66 : DPut mX2_become 66 2 6 .int 69 := ⟨18, by decide +kernel, rfl, RX2, TX2, 7, tyX2, rfl, by decide, bigW_at 83 (by decide +kernel) rfl, xw2, tyX2_ok, nmX2, rfl, Or.inl rfl⟩
theorem iX2_become_69 : mX2_become.2.2.2 = none ∧ decode mX2_become.2.1 69 = .ok (.return_, 1) := ⟨rfl, by decide +kernel⟩
theorem iX2_init_0 : DLdA mX2_init 0 0 1 := Or.inl ⟨0, by decide +kernel, rfl, rfl⟩
theorem iX2_init_1 : DObj mX2_init 1 4 := ⟨3, by decide +kernel, rfl, xl_RX2_3, xl_objI, xl_objC⟩
theorem iX2_init_4 : DLdA mX2_init 4 0 5 := Or.inl ⟨0, by decide +kernel, rfl, rfl⟩
theorem iX2_init_5 : DPushI mX2_init 5 6 7 := Or.inr (Or.inl ⟨6, by decide +kernel, by decide, rfl⟩)
theorem iX2_init_7 : DNewA mX2_init 7 .int 9 := ⟨.int, by decide +kernel, rfl, xq_int, rfl⟩
theorem iX2_init_9 : DPut mX2_init 9 2 0 (.array .int) 12 := ⟨9, by decide +kernel, rfl, RX2, TX2, 7, tyX2, rfl, by decide, bigW_at 64 (by decide +kernel) rfl, xw2, tyX2_ok, nmX2, rfl, Or.inr ⟨rfl, rfl, rfl⟩⟩
theorem iX2_init_12 : DLdA mX2_init 12 0 13 := Or.inl ⟨0, by decide +kernel, rfl, rfl⟩
theorem iX2_init_13 : DPushI mX2_init 13 4 14 := Or.inl ⟨4, by decide +kernel, by decide, rfl⟩
theorem iX2_init_14 : DNewA mX2_init 14 .int 16 := ⟨.int, by decide +kernel, rfl, xq_int, rfl⟩
theorem iX2_init_16 : DPut mX2_init 16 2 1 (.array .int) 19 := ⟨15, by decide +kernel, rfl, RX2, TX2, 7, tyX2, rfl, by decide, bigW_at 67 (by decide +kernel) rfl, xw2, tyX2_ok, nmX2, rfl, Or.inr ⟨rfl, rfl, rfl⟩⟩
theorem iX2_init_19 : DLdA mX2_init 19 0 20 := Or.inl ⟨0, by decide +kernel, rfl, rfl⟩
theorem iX2_init_20 : DPushI mX2_init 20 1 21 := Or.inl ⟨1, by decide +kernel, by decide, rfl⟩
theorem iX2_init_21 : DPut mX2_init 21 2 6 .int 24 := ⟨18, by decide +kernel, rfl, RX2, TX2, 7, tyX2, rfl, by decide, bigW_at 83 (by decide +kernel) rfl, xw2, tyX2_ok, nmX2, rfl, Or.inl rfl⟩
theorem iX2_init_24 : DLdA mX2_init 24 0 25 := Or.inl ⟨0, by decide +kernel, rfl, rfl⟩
theorem iX2_init_25 : DInvV mX2_init 25 mX2_leanNowhere 2 0 28 := ⟨22, TX2, 7, by decide +kernel, rfl, rfl, xl_RX2_22, xi_X2_leanNowhere, xs_X2_leanNowhere, xm_X2_leanNowhere⟩
theorem iX2_init_28 : mX2_init.2.2.2 = none ∧ decode mX2_init.2.1 28 = .ok (.return_, 1) := ⟨rfl, by decide +kernel⟩
theorem iX2_leanNowhere_0 : DPushI mX2_leanNowhere 0 0 1 := Or.inl ⟨0, by decide +kernel, by decide, rfl⟩
theorem iX2_leanNowhere_1 : DStI mX2_leanNowhere 1 1 2 := ⟨by decide, Or.inl ⟨1, by decide +kernel, rfl, rfl⟩⟩
theorem iX2_leanNowhere_2 : DLdI mX2_leanNowhere 2 1 3 := Or.inl ⟨1, by decide +kernel, rfl, rfl⟩
theorem iX2_leanNowhere_3 : DPushI mX2_leanNowhere 3 4 4 := Or.inl ⟨4, by decide +kernel, by decide, rfl⟩
theorem iX2_leanNowhere_4 : DCm mX2_leanNowhere 4 .ge 21 7 := ⟨17, by decide +kernel, by decide, rfl⟩
theorem iX2_leanNowhere_7 : DLdA mX2_leanNowhere 7 0 8 := Or.inl ⟨0, by decide +kernel, rfl, rfl⟩
theorem iX2_leanNowhere_8 : DGet mX2_leanNowhere 8 2 1 11 := ⟨15, by decide +kernel, rfl, xf_RX2_15⟩
theorem iX2_leanNowhere_11 : DLdI mX2_leanNowhere 11 1 12 := Or.inl ⟨1, by decide +kernel, rfl, rfl⟩
theorem iX2_leanNowhere_12 : DPushI mX2_leanNowhere 12 (-4) 14 := Or.inr (Or.inl ⟨(-4), by decide +kernel, by decide, rfl⟩)
theorem iX2_leanNowhere_14 : D1 mX2_leanNowhere 14 .iastore 1 15 := ⟨by decide +kernel, rfl⟩
theorem iX2_leanNowhere_15 : DInc mX2_leanNowhere 15 1 1 18 := ⟨by decide, 1, by decide +kernel, by decide, rfl⟩
theorem iX2_leanNowhere_18 : DGo mX2_leanNowhere 18 2 := ⟨(-16), by decide +kernel, by decide⟩
theorem iX2_leanNowhere_21 : mX2_leanNowhere.2.2.2 = none ∧ decode mX2_leanNowhere.2.1 21 = .ok (.return_, 1) := ⟨rfl, by decide +kernel⟩
theorem iX2_leaningAt_0 : DPushI mX2_leaningAt 0 0 1 := Or.inl ⟨0, by decide +kernel, by decide, rfl⟩
theorem iX2_leaningAt_1 : DStI mX2_leaningAt 1 2 2 := ⟨by decide, Or.inl ⟨2, by decide +kernel, rfl, rfl⟩⟩
theorem iX2_leaningAt_2 : DPushI mX2_leaningAt 2 0 3 := Or.inl ⟨0, by decide +kernel, by decide, rfl⟩
theorem iX2_leaningAt_3 : DStI mX2_leaningAt 3 3 4 := ⟨by decide, Or.inl ⟨3, by decide +kernel, rfl, rfl⟩⟩
theorem iX2_leaningAt_4 : DLdI mX2_leaningAt 4 3 5 := Or.inl ⟨3, by decide +kernel, rfl, rfl⟩
theorem iX2_leaningAt_5 : DPushI mX2_leaningAt 5 4 6 := Or.inl ⟨4, by decide +kernel, by decide, rfl⟩
theorem iX2_leaningAt_6 : DCm mX2_leaningAt 6 .ge 31 9 := ⟨25, by decide +kernel, by decide, rfl⟩
theorem iX2_leaningAt_9 : DLdA mX2_leaningAt 9 0 10 := Or.inl ⟨0, by decide +kernel, rfl, rfl⟩
theorem iX2_leaningAt_10 : DGet mX2_leaningAt 10 2 1 13 := ⟨15, by decide +kernel, rfl, xf_RX2_15⟩
theorem iX2_leaningAt_13 : DLdI mX2_leaningAt 13 3 14 := Or.inl ⟨3, by decide +kernel, rfl, rfl⟩
theorem iX2_leaningAt_14 : D1 mX2_leaningAt 14 .iaload 1 15 := ⟨by decide +kernel, rfl⟩
theorem iX2_leaningAt_15 : DLdI mX2_leaningAt 15 1 16 := Or.inl ⟨1, by decide +kernel, rfl, rfl⟩
theorem iX2_leaningAt_16 : DCm mX2_leaningAt 16 .ne 25 19 := ⟨9, by decide +kernel, by decide, rfl⟩
theorem iX2_leaningAt_19 : DLdI mX2_leaningAt 19 2 20 := Or.inl ⟨2, by decide +kernel, rfl, rfl⟩
theorem iX2_leaningAt_20 : DPushI mX2_leaningAt 20 1 21 := Or.inl ⟨1, by decide +kernel, by decide, rfl⟩
theorem iX2_leaningAt_21 : DLdI mX2_leaningAt 21 3 22 := Or.inl ⟨3, by decide +kernel, rfl, rfl⟩
theorem iX2_leaningAt_22 : D1 mX2_leaningAt 22 .ishl 1 23 := ⟨by decide +kernel, rfl⟩
theorem iX2_leaningAt_23 : D1 mX2_leaningAt 23 .ior 1 24 := ⟨by decide +kernel, rfl⟩
theorem iX2_leaningAt_24 : DStI mX2_leaningAt 24 2 25 := ⟨by decide, Or.inl ⟨2, by decide +kernel, rfl, rfl⟩⟩
theorem iX2_leaningAt_25 : DInc mX2_leaningAt 25 3 1 28 := ⟨by decide, 1, by decide +kernel, by decide, rfl⟩
theorem iX2_leaningAt_28 : DGo mX2_leaningAt 28 4 := ⟨(-24), by decide +kernel, by decide⟩
theorem iX2_leaningAt_31 : DLdI mX2_leaningAt 31 2 32 := Or.inl ⟨2, by decide +kernel, rfl, rfl⟩
theorem iX2_leaningAt_32 : mX2_leaningAt.2.2.2 = some .int ∧ decode mX2_leaningAt.2.1 32 = .ok (.ireturn, 1) := ⟨rfl, by decide +kernel⟩
theorem iX2_shakeOff_0 : DLdA mX2_shakeOff 0 0 1 := Or.inl ⟨0, by decide +kernel, rfl, rfl⟩
theorem iX2_shakeOff_1 : DGet mX2_shakeOff 1 2 0 4 := ⟨9, by decide +kernel, rfl, xf_RX2_9⟩
theorem iX2_shakeOff_4 : DLdI mX2_shakeOff 4 1 5 := Or.inl ⟨1, by decide +kernel, rfl, rfl⟩
theorem iX2_shakeOff_5 : D1 mX2_shakeOff 5 .iaload 1 6 := ⟨by decide +kernel, rfl⟩
theorem iX2_shakeOff_6 : DPushI mX2_shakeOff 6 2 7 := Or.inl ⟨2, by decide +kernel, by decide, rfl⟩
theorem iX2_shakeOff_7 : D1 mX2_shakeOff 7 .idiv 1 8 := ⟨by decide +kernel, rfl⟩
theorem iX2_shakeOff_8 : DStI mX2_shakeOff 8 2 9 := ⟨by decide, Or.inl ⟨2, by decide +kernel, rfl, rfl⟩⟩
theorem iX2_shakeOff_9 : DLdA mX2_shakeOff 9 0 10 := Or.inl ⟨0, by decide +kernel, rfl, rfl⟩
theorem iX2_shakeOff_10 : DGet mX2_shakeOff 10 2 0 13 := ⟨9, by decide +kernel, rfl, xf_RX2_9⟩
theorem iX2_shakeOff_13 : DLdI mX2_shakeOff 13 1 14 := Or.inl ⟨1, by decide +kernel, rfl, rfl⟩
theorem iX2_shakeOff_14 : D1 mX2_shakeOff 14 .dup2 1 15 := ⟨by decide +kernel, rfl⟩
theorem iX2_shakeOff_15 : D1 mX2_shakeOff 15 .iaload 1 16 := ⟨by decide +kernel, rfl⟩
theorem iX2_shakeOff_16 : DLdI mX2_shakeOff 16 2 17 := Or.inl ⟨2, by decide +kernel, rfl, rfl⟩
theorem iX2_shakeOff_17 : D1 mX2_shakeOff 17 .isub 1 18 := ⟨by decide +kernel, rfl⟩
theorem iX2_shakeOff_18 : D1 mX2_shakeOff 18 .iastore 1 19 := ⟨by decide +kernel, rfl⟩
theorem iX2_shakeOff_19 : DLdA mX2_shakeOff 19 0 20 := Or.inl ⟨0, by decide +kernel, rfl, rfl⟩
theorem iX2_shakeOff_20 : D1 mX2_shakeOff 20 .dup 1 21 := ⟨by decide +kernel, rfl⟩
theorem iX2_shakeOff_21 : DGet mX2_shakeOff 21 2 4 24 := ⟨37, by decide +kernel, rfl, xf_RX2_37⟩
theorem iX2_shakeOff_24 : DLdI mX2_shakeOff 24 2 25 := Or.inl ⟨2, by decide +kernel, rfl, rfl⟩
theorem iX2_shakeOff_25 : D1 mX2_shakeOff 25 .iadd 1 26 := ⟨by decide +kernel, rfl⟩
theorem iX2_shakeOff_26 : DPut mX2_shakeOff 26 2 4 .int 29 := ⟨37, by decide +kernel, rfl, RX2, TX2, 7, tyX2, rfl, by decide, bigW_at 77 (by decide +kernel) rfl, xw2, tyX2_ok, nmX2, rfl, Or.inl rfl⟩
theorem iX2_shakeOff_29 : DLdI mX2_shakeOff 29 2 30 := Or.inl ⟨2, by decide +kernel, rfl, rfl⟩
theorem iX2_shakeOff_30 : mX2_shakeOff.2.2.2 = some .int ∧ decode mX2_shakeOff.2.1 30 = .ok (.ireturn, 1) := ⟨rfl, by decide +kernel⟩
theorem iX3_become_0 : DLdA mX3_become 0 0 1 := Or.inl ⟨0, by decide +kernel, rfl, rfl⟩
theorem iX3_become_1 : DLdA mX3_become 1 1 2 := Or.inl ⟨1, by decide +kernel, rfl, rfl⟩
theorem iX3_become_2 : DGet mX3_become 2 3 2 5 := ⟨9, by decide +kernel, rfl, xf_RX3_9⟩
theorem iX3_become_5 : DPut mX3_become 5 3 2 .int 8 := ⟨9, by decide +kernel, rfl, RX3, TX3, 10, tyX3, rfl, by decide, bigW_at 107 (by decide +kernel) rfl, xw3, tyX3_ok, nmX3, rfl, Or.inl rfl⟩
theorem iX3_become_8 : DLdA mX3_become 8 0 9 := Or.inl ⟨0, by decide +kernel, rfl, rfl⟩
theorem iX3_become_9 : DLdA mX3_become 9 1 10 := Or.inl ⟨1, by decide +kernel, rfl, rfl⟩
theorem iX3_become_10 : DGet mX3_become 10 3 3 13 := ⟨15, by decide +kernel, rfl, xf_RX3_15⟩
theorem iX3_become_13 : DPut mX3_become 13 3 3 .int 16 := ⟨15, by decide +kernel, rfl, RX3, TX3, 10, tyX3, rfl, by decide, bigW_at 109 (by decide +kernel) rfl, xw3, tyX3_ok, nmX3, rfl, Or.inl rfl⟩
theorem iX3_become_16 : DLdA mX3_become 16 0 17 := Or.inl ⟨0, by decide +kernel, rfl, rfl⟩
theorem iX3_become_17 : DLdA mX3_become 17 1 18 := Or.inl ⟨1, by decide +kernel, rfl, rfl⟩
theorem iX3_become_18 : DInvV mX3_become 18 mX3_becomeTreesAndLadders 3 1 21 := ⟨41, TX3, 10, by decide +kernel, rfl, rfl, xl_RX3_41, xi_X3_becomeTreesAndLadders, xs_X3_becomeTreesAndLadders, xm_X3_becomeTreesAndLadders⟩
theorem iX3_become_21 : DLdA mX3_become 21 0 22 := Or.inl ⟨0, by decide +kernel, rfl, rfl⟩
theorem iX3_become_22 : DGet mX3_become 22 3 9 25 := ⟨37, by decide +kernel, rfl, xf_RX3_37⟩
theorem iX3_become_25 : DLdA mX3_become 25 1 26 := Or.inl ⟨1, by decide +kernel, rfl, rfl⟩
theorem iX3_become_26 : DGet mX3_become 26 3 9 29 := ⟨37, by decide +kernel, rfl, xf_RX3_37⟩
theorem iX3_become_29 : DInvV mX3_become 29 mX2_become 2 1 32 := ⟨45, TX2, 7, by decide +kernel, rfl, rfl, xl_RX3_45, xi_X2_become, xs_X2_become, xm_X2_become⟩
theorem iX3_become_32 : mX3_become.2.2.2 = none ∧ decode mX3_become.2.1 32 = .ok (.return_, 1) := ⟨rfl, by decide +kernel⟩
theorem iX3_becomeTreesAndLadders_0 : DLdA mX3_becomeTreesAndLadders 0 0 1 := Or.inl ⟨0, by decide +kernel, rfl, rfl⟩
theorem iX3_becomeTreesAndLadders_1 : DLdA mX3_becomeTreesAndLadders 1 1 2 := Or.inl ⟨1, by decide +kernel, rfl, rfl⟩
theorem iX3_becomeTreesAndLadders_2 : DGet mX3_becomeTreesAndLadders 2 3 0 5 := ⟨52, by decide +kernel, rfl, xf_RX3_52⟩
theorem iX3_becomeTreesAndLadders_5 : DPut mX3_becomeTreesAndLadders 5 3 0 .int 8 := ⟨52, by decide +kernel, rfl, RX3, TX3, 10, tyX3, rfl, by decide, bigW_at 103 (by decide +kernel) rfl, xw3, tyX3_ok, nmX3, rfl, Or.inl rfl⟩
theorem iX3_becomeTreesAndLadders_8 : DLdA mX3_becomeTreesAndLadders 8 0 9 := Or.inl ⟨0, by decide +kernel, rfl, rfl⟩
theorem iX3_becomeTreesAndLadders_9 : DLdA mX3_becomeTreesAndLadders 9 1 10 := Or.inl ⟨1, by decide +kernel, rfl, rfl⟩
theorem iX3_becomeTreesAndLadders_10 : DGet mX3_becomeTreesAndLadders 10 3 1 13 := ⟨55, by decide +kernel, rfl, xf_RX3_55⟩
theorem iX3_becomeTreesAndLadders_13 : DPut mX3_becomeTreesAndLadders 13 3 1 .int 16 := ⟨55, by decide +kernel, rfl, RX3, TX3, 10, tyX3, rfl, by decide, bigW_at 105 (by decide +kernel) rfl, xw3, tyX3_ok, nmX3, rfl, Or.inl rfl⟩
theorem iX3_becomeTreesAndLadders_16 : DLdA mX3_becomeTreesAndLadders 16 1 17 := Or.inl ⟨1, by decide +kernel, rfl, rfl⟩
theorem iX3_becomeTreesAndLadders_17 : DGet mX3_becomeTreesAndLadders 17 3 4 20 := ⟨18, by decide +kernel, rfl, xf_RX3_18⟩
theorem iX3_becomeTreesAndLadders_20 : DPushI mX3_becomeTreesAndLadders 20 0 21 := Or.inl ⟨0, by decide +kernel, by decide, rfl⟩
theorem iX3_becomeTreesAndLadders_21 : DLdA mX3_becomeTreesAndLadders 21 0 22 := Or.inl ⟨0, by decide +kernel, rfl, rfl⟩
theorem iX3_becomeTreesAndLadders_22 : DGet mX3_becomeTreesAndLadders 22 3 4 25 := ⟨18, by decide +kernel, rfl, xf_RX3_18⟩
theorem iX3_becomeTreesAndLadders_25 : DPushI mX3_becomeTreesAndLadders 25 0 26 := Or.inl ⟨0, by decide +kernel, by decide, rfl⟩
theorem iX3_becomeTreesAndLadders_26 : DPushI mX3_becomeTreesAndLadders 26 6 28 := Or.inr (Or.inl ⟨6, by decide +kernel, by decide, rfl⟩)
theorem iX3_becomeTreesAndLadders_28 : DCopy mX3_becomeTreesAndLadders 28 31 := ⟨58, by decide +kernel, rfl, xl_RX3_58, xl_cn, xl_cs, xl_ci⟩
theorem iX3_becomeTreesAndLadders_31 : DLdA mX3_becomeTreesAndLadders 31 1 32 := Or.inl ⟨1, by decide +kernel, rfl, rfl⟩
theorem iX3_becomeTreesAndLadders_32 : DGet mX3_becomeTreesAndLadders 32 3 5 35 := ⟨22, by decide +kernel, rfl, xf_RX3_22⟩
theorem iX3_becomeTreesAndLadders_35 : DPushI mX3_becomeTreesAndLadders 35 0 36 := Or.inl ⟨0, by decide +kernel, by decide, rfl⟩
theorem iX3_becomeTreesAndLadders_36 : DLdA mX3_becomeTreesAndLadders 36 0 37 := Or.inl ⟨0, by decide +kernel, rfl, rfl⟩
theorem iX3_becomeTreesAndLadders_37 : DGet mX3_becomeTreesAndLadders 37 3 5 40 := ⟨22, by decide +kernel, rfl, xf_RX3_22⟩
theorem iX3_becomeTreesAndLadders_40 : DPushI mX3_becomeTreesAndLadders 40 0 41 := Or.inl ⟨0, by decide +kernel, by decide, rfl⟩
theorem iX3_becomeTreesAndLadders_41 : DPushI mX3_becomeTreesAndLadders 41 6 43 := Or.inr (Or.inl ⟨6, by decide +kernel, by decide, rfl⟩)
theorem iX3_becomeTreesAndLadders_43 : DCopy mX3_becomeTreesAndLadders 43 46 := ⟨58, by decide +kernel, rfl, xl_RX3_58, xl_cn, xl_cs, xl_ci⟩
theorem iX3_becomeTreesAndLadders_46 : DLdA mX3_becomeTreesAndLadders 46 1 47 := Or.inl ⟨1, by decide +kernel, rfl, rfl⟩
theorem iX3_becomeTreesAndLadders_47 : DGet mX3_becomeTreesAndLadders 47 3 6 50 := ⟨25, by decide +kernel, rfl, xf_RX3_25⟩
theorem iX3_becomeTreesAndLadders_50 : DPushI mX3_becomeTreesAndLadders 50 0 51 := Or.inl ⟨0, by decide +kernel, by decide, rfl⟩
theorem iX3_becomeTreesAndLadders_51 : DLdA mX3_becomeTreesAndLadders 51 0 52 := Or.inl ⟨0, by decide +kernel, rfl, rfl⟩
theorem iX3_becomeTreesAndLadders_52 : DGet mX3_becomeTreesAndLadders 52 3 6 55 := ⟨25, by decide +kernel, rfl, xf_RX3_25⟩
theorem iX3_becomeTreesAndLadders_55 : DPushI mX3_becomeTreesAndLadders 55 0 56 := Or.inl ⟨0, by decide +kernel, by decide, rfl⟩
theorem iX3_becomeTreesAndLadders_56 : DPushI mX3_becomeTreesAndLadders 56 4 57 := Or.inl ⟨4, by decide +kernel, by decide, rfl⟩
theorem iX3_becomeTreesAndLadders_57 : DCopy mX3_becomeTreesAndLadders 57 60 := ⟨58, by decide +kernel, rfl, xl_RX3_58, xl_cn, xl_cs, xl_ci⟩
theorem iX3_becomeTreesAndLadders_60 : DLdA mX3_becomeTreesAndLadders 60 1 61 := Or.inl ⟨1, by decide +kernel, rfl, rfl⟩
theorem iX3_becomeTreesAndLadders_61 : DGet mX3_becomeTreesAndLadders 61 3 7 64 := ⟨28, by decide +kernel, rfl, xf_RX3_28⟩
theorem iX3_becomeTreesAndLadders_64 : DPushI mX3_becomeTreesAndLadders 64 0 65 := Or.inl ⟨0, by decide +kernel, by decide, rfl⟩
theorem iX3_becomeTreesAndLadders_65 : DLdA mX3_becomeTreesAndLadders 65 0 66 := Or.inl ⟨0, by decide +kernel, rfl, rfl⟩
theorem iX3_becomeTreesAndLadders_66 : DGet mX3_becomeTreesAndLadders 66 3 7 69 := ⟨28, by decide +kernel, rfl, xf_RX3_28⟩
theorem iX3_becomeTreesAndLadders_69 : DPushI mX3_becomeTreesAndLadders 69 0 70 := Or.inl ⟨0, by decide +kernel, by decide, rfl⟩
theorem iX3_becomeTreesAndLadders_70 : DPushI mX3_becomeTreesAndLadders 70 4 71 := Or.inl ⟨4, by decide +kernel, by decide, rfl⟩
theorem iX3_becomeTreesAndLadders_71 : DCopy mX3_becomeTreesAndLadders 71 74 := ⟨58, by decide +kernel, rfl, xl_RX3_58, xl_cn, xl_cs, xl_ci⟩
theorem iX3_becomeTreesAndLadders_74 : DLdA mX3_becomeTreesAndLadders 74 1 75 := Or.inl ⟨1, by decide +kernel, rfl, rfl⟩
theorem iX3_becomeTreesAndLadders_75 : DGet mX3_becomeTreesAndLadders 75 3 8 78 := ⟨31, by decide +kernel, rfl, xf_RX3_31⟩
theorem iX3_becomeTreesAndLadders_78 : DPushI mX3_becomeTreesAndLadders 78 0 79 := Or.inl ⟨0, by decide +kernel, by decide, rfl⟩
theorem iX3_becomeTreesAndLadders_79 : DLdA mX3_becomeTreesAndLadders 79 0 80 := Or.inl ⟨0, by decide +kernel, rfl, rfl⟩
theorem iX3_becomeTreesAndLadders_80 : DGet mX3_becomeTreesAndLadders 80 3 8 83 := ⟨31, by decide +kernel, rfl, xf_RX3_31⟩
theorem iX3_becomeTreesAndLadders_83 : DPushI mX3_becomeTreesAndLadders 83 0 84 := Or.inl ⟨0, by decide +kernel, by decide, rfl⟩
theorem iX3_becomeTreesAndLadders_84 : DPushI mX3_becomeTreesAndLadders 84 4 85 := Or.inl ⟨4, by decide +kernel, by decide, rfl⟩
theorem iX3_becomeTreesAndLadders_85 : DCopy mX3_becomeTreesAndLadders 85 88 := ⟨58, by decide +kernel, rfl, xl_RX3_58, xl_cn, xl_cs, xl_ci⟩
theorem iX3_becomeTreesAndLadders_88 : mX3_becomeTreesAndLadders.2.2.2 = none ∧ decode mX3_becomeTreesAndLadders.2.1 88 = .ok (.return_, 1) := ⟨rfl, by decide +kernel⟩
theorem iX3_bring_0 : DLdA mX3_bring 0 0 1 := Or.inl ⟨0, by decide +kernel, rfl, rfl⟩
theorem iX3_bring_1 : DGet mX3_bring 1 3 1 4 := ⟨55, by decide +kernel, rfl, xf_RX3_55⟩
theorem iX3_bring_4 : DPushI mX3_bring 4 4 5 := Or.inl ⟨4, by decide +kernel, by decide, rfl⟩
theorem iX3_bring_5 : DCm mX3_bring 5 .lt 11 8 := ⟨6, by decide +kernel, by decide, rfl⟩
theorem iX3_bring_8 : DPushI mX3_bring 8 (-3) 10 := Or.inr (Or.inl ⟨(-3), by decide +kernel, by decide, rfl⟩)
theorem iX3_bring_10 : mX3_bring.2.2.2 = some .int ∧ decode mX3_bring.2.1 10 = .ok (.ireturn, 1) := ⟨rfl, by decide +kernel⟩
theorem iX3_bring_11 : DLdA mX3_bring 11 0 12 := Or.inl ⟨0, by decide +kernel, rfl, rfl⟩
theorem iX3_bring_12 : DGet mX3_bring 12 3 6 15 := ⟨25, by decide +kernel, rfl, xf_RX3_25⟩
theorem iX3_bring_15 : DLdA mX3_bring 15 0 16 := Or.inl ⟨0, by decide +kernel, rfl, rfl⟩
theorem iX3_bring_16 : DGet mX3_bring 16 3 1 19 := ⟨55, by decide +kernel, rfl, xf_RX3_55⟩
theorem iX3_bring_19 : DLdI mX3_bring 19 1 20 := Or.inl ⟨1, by decide +kernel, rfl, rfl⟩
theorem iX3_bring_20 : D1 mX3_bring 20 .iastore 1 21 := ⟨by decide +kernel, rfl⟩
theorem iX3_bring_21 : DLdA mX3_bring 21 0 22 := Or.inl ⟨0, by decide +kernel, rfl, rfl⟩
theorem iX3_bring_22 : DGet mX3_bring 22 3 7 25 := ⟨28, by decide +kernel, rfl, xf_RX3_28⟩
theorem iX3_bring_25 : DLdA mX3_bring 25 0 26 := Or.inl ⟨0, by decide +kernel, rfl, rfl⟩
theorem iX3_bring_26 : DGet mX3_bring 26 3 1 29 := ⟨55, by decide +kernel, rfl, xf_RX3_55⟩
theorem iX3_bring_29 : DLdI mX3_bring 29 2 30 := Or.inl ⟨2, by decide +kernel, rfl, rfl⟩
theorem iX3_bring_30 : D1 mX3_bring 30 .iastore 1 31 := ⟨by decide +kernel, rfl⟩
theorem iX3_bring_31 : DLdA mX3_bring 31 0 32 := Or.inl ⟨0, by decide +kernel, rfl, rfl⟩
theorem iX3_bring_32 : DGet mX3_bring 32 3 8 35 := ⟨31, by decide +kernel, rfl, xf_RX3_31⟩
theorem iX3_bring_35 : DLdA mX3_bring 35 0 36 := Or.inl ⟨0, by decide +kernel, rfl, rfl⟩
theorem iX3_bring_36 : DGet mX3_bring 36 3 1 39 := ⟨55, by decide +kernel, rfl, xf_RX3_55⟩
theorem iX3_bring_39 : DLdI mX3_bring 39 3 40 := Or.inl ⟨3, by decide +kernel, rfl, rfl⟩
theorem iX3_bring_40 : D1 mX3_bring 40 .iastore 1 41 := ⟨by decide +kernel, rfl⟩
theorem iX3_bring_41 : DLdA mX3_bring 41 0 42 := Or.inl ⟨0, by decide +kernel, rfl, rfl⟩
theorem iX3_bring_42 : DGet mX3_bring 42 3 9 45 := ⟨37, by decide +kernel, rfl, xf_RX3_37⟩
theorem iX3_bring_45 : DGet mX3_bring 45 2 1 48 := ⟨70, by decide +kernel, rfl, xf_RX3_70⟩
theorem iX3_bring_48 : DLdA mX3_bring 48 0 49 := Or.inl ⟨0, by decide +kernel, rfl, rfl⟩
theorem iX3_bring_49 : DGet mX3_bring 49 3 1 52 := ⟨55, by decide +kernel, rfl, xf_RX3_55⟩
theorem iX3_bring_52 : DPushI mX3_bring 52 (-4) 54 := Or.inr (Or.inl ⟨(-4), by decide +kernel, by decide, rfl⟩)
theorem iX3_bring_54 : D1 mX3_bring 54 .iastore 1 55 := ⟨by decide +kernel, rfl⟩
theorem iX3_bring_55 : DLdA mX3_bring 55 0 56 := Or.inl ⟨0, by decide +kernel, rfl, rfl⟩
theorem iX3_bring_56 : D1 mX3_bring 56 .dup 1 57 := ⟨by decide +kernel, rfl⟩
theorem iX3_bring_57 : DGet mX3_bring 57 3 1 60 := ⟨55, by decide +kernel, rfl, xf_RX3_55⟩
theorem iX3_bring_60 : DPushI mX3_bring 60 1 61 := Or.inl ⟨1, by decide +kernel, by decide, rfl⟩
theorem iX3_bring_61 : D1 mX3_bring 61 .iadd 1 62 := ⟨by decide +kernel, rfl⟩
theorem iX3_bring_62 : DPut mX3_bring 62 3 1 .int 65 := ⟨55, by decide +kernel, rfl, RX3, TX3, 10, tyX3, rfl, by decide, bigW_at 105 (by decide +kernel) rfl, xw3, tyX3_ok, nmX3, rfl, Or.inl rfl⟩
theorem iX3_bring_65 : DLdA mX3_bring 65 0 66 := Or.inl ⟨0, by decide +kernel, rfl, rfl⟩
theorem iX3_bring_66 : DGet mX3_bring 66 3 1 69 := ⟨55, by decide +kernel, rfl, xf_RX3_55⟩
theorem iX3_bring_69 : DPushI mX3_bring 69 1 70 := Or.inl ⟨1, by decide +kernel, by decide, rfl⟩
theorem iX3_bring_70 : D1 mX3_bring 70 .isub 1 71 := ⟨by decide +kernel, rfl⟩
theorem iX3_bring_71 : mX3_bring.2.2.2 = some .int ∧ decode mX3_bring.2.1 71 = .ok (.ireturn, 1) := ⟨rfl, by decide +kernel⟩
theorem iX3_clear_0 : DLdA mX3_clear 0 0 1 := Or.inl ⟨0, by decide +kernel, rfl, rfl⟩
theorem iX3_clear_1 : DPushI mX3_clear 1 0 2 := Or.inl ⟨0, by decide +kernel, by decide, rfl⟩
theorem iX3_clear_2 : DPut mX3_clear 2 3 0 .int 5 := ⟨52, by decide +kernel, rfl, RX3, TX3, 10, tyX3, rfl, by decide, bigW_at 103 (by decide +kernel) rfl, xw3, tyX3_ok, nmX3, rfl, Or.inl rfl⟩
theorem iX3_clear_5 : DLdA mX3_clear 5 0 6 := Or.inl ⟨0, by decide +kernel, rfl, rfl⟩
theorem iX3_clear_6 : DPushI mX3_clear 6 0 7 := Or.inl ⟨0, by decide +kernel, by decide, rfl⟩
theorem iX3_clear_7 : DPut mX3_clear 7 3 1 .int 10 := ⟨55, by decide +kernel, rfl, RX3, TX3, 10, tyX3, rfl, by decide, bigW_at 105 (by decide +kernel) rfl, xw3, tyX3_ok, nmX3, rfl, Or.inl rfl⟩
theorem iX3_clear_10 : DLdA mX3_clear 10 0 11 := Or.inl ⟨0, by decide +kernel, rfl, rfl⟩
theorem iX3_clear_11 : DGet mX3_clear 11 3 9 14 := ⟨37, by decide +kernel, rfl, xf_RX3_37⟩
theorem iX3_clear_14 : DInvV mX3_clear 14 mX2_leanNowhere 2 0 17 := ⟨64, TX2, 7, by decide +kernel, rfl, rfl, xl_RX3_64, xi_X2_leanNowhere, xs_X2_leanNowhere, xm_X2_leanNowhere⟩
theorem iX3_clear_17 : mX3_clear.2.2.2 = none ∧ decode mX3_clear.2.1 17 = .ok (.return_, 1) := ⟨rfl, by decide +kernel⟩
theorem iX3_fruitOfAll_0 : DPushI mX3_fruitOfAll 0 0 1 := Or.inl ⟨0, by decide +kernel, by decide, rfl⟩
theorem iX3_fruitOfAll_1 : DStI mX3_fruitOfAll 1 2 2 := ⟨by decide, Or.inl ⟨2, by decide +kernel, rfl, rfl⟩⟩
theorem iX3_fruitOfAll_2 : DPushI mX3_fruitOfAll 2 0 3 := Or.inl ⟨0, by decide +kernel, by decide, rfl⟩
theorem iX3_fruitOfAll_3 : DStI mX3_fruitOfAll 3 3 4 := ⟨by decide, Or.inl ⟨3, by decide +kernel, rfl, rfl⟩⟩
theorem iX3_fruitOfAll_4 : DLdI mX3_fruitOfAll 4 3 5 := Or.inl ⟨3, by decide +kernel, rfl, rfl⟩
theorem iX3_fruitOfAll_5 : DLdA mX3_fruitOfAll 5 0 6 := Or.inl ⟨0, by decide +kernel, rfl, rfl⟩
theorem iX3_fruitOfAll_6 : DGet mX3_fruitOfAll 6 3 0 9 := ⟨52, by decide +kernel, rfl, xf_RX3_52⟩
theorem iX3_fruitOfAll_9 : DCm mX3_fruitOfAll 9 .ge 27 12 := ⟨18, by decide +kernel, by decide, rfl⟩
theorem iX3_fruitOfAll_12 : DLdI mX3_fruitOfAll 12 2 13 := Or.inl ⟨2, by decide +kernel, rfl, rfl⟩
theorem iX3_fruitOfAll_13 : DLdA mX3_fruitOfAll 13 1 14 := Or.inl ⟨1, by decide +kernel, rfl, rfl⟩
theorem iX3_fruitOfAll_14 : DGet mX3_fruitOfAll 14 2 0 17 := ⟨67, by decide +kernel, rfl, xf_RX3_67⟩
theorem iX3_fruitOfAll_17 : DLdI mX3_fruitOfAll 17 3 18 := Or.inl ⟨3, by decide +kernel, rfl, rfl⟩
theorem iX3_fruitOfAll_18 : D1 mX3_fruitOfAll 18 .iaload 1 19 := ⟨by decide +kernel, rfl⟩
theorem iX3_fruitOfAll_19 : D1 mX3_fruitOfAll 19 .iadd 1 20 := ⟨by decide +kernel, rfl⟩
theorem iX3_fruitOfAll_20 : DStI mX3_fruitOfAll 20 2 21 := ⟨by decide, Or.inl ⟨2, by decide +kernel, rfl, rfl⟩⟩
theorem iX3_fruitOfAll_21 : DInc mX3_fruitOfAll 21 3 1 24 := ⟨by decide, 1, by decide +kernel, by decide, rfl⟩
theorem iX3_fruitOfAll_24 : DGo mX3_fruitOfAll 24 4 := ⟨(-20), by decide +kernel, by decide⟩
theorem iX3_fruitOfAll_27 : DLdI mX3_fruitOfAll 27 2 28 := Or.inl ⟨2, by decide +kernel, rfl, rfl⟩
theorem iX3_fruitOfAll_28 : mX3_fruitOfAll.2.2.2 = some .int ∧ decode mX3_fruitOfAll.2.1 28 = .ok (.ireturn, 1) := ⟨rfl, by decide +kernel⟩
theorem iX3_gotAt_0 : DLdA mX3_gotAt 0 0 1 := Or.inl ⟨0, by decide +kernel, rfl, rfl⟩
theorem iX3_gotAt_1 : DLdI mX3_gotAt 1 1 2 := Or.inl ⟨1, by decide +kernel, rfl, rfl⟩
theorem iX3_gotAt_2 : DLdI mX3_gotAt 2 2 3 := Or.inl ⟨2, by decide +kernel, rfl, rfl⟩
theorem iX3_gotAt_3 : DPushI mX3_gotAt 3 0 4 := Or.inl ⟨0, by decide +kernel, by decide, rfl⟩
theorem iX3_gotAt_4 : DPushI mX3_gotAt 4 0 5 := Or.inl ⟨0, by decide +kernel, by decide, rfl⟩
theorem iX3_gotAt_5 : DLdI mX3_gotAt 5 3 6 := Or.inl ⟨3, by decide +kernel, rfl, rfl⟩
theorem iX3_gotAt_6 : DLdI mX3_gotAt 6 4 8 := Or.inr ⟨by decide +kernel, rfl⟩
theorem iX3_gotAt_8 : DInvV mX3_gotAt 8 mX3_gotWithGuest 3 6 11 := ⟨123, TX3, 10, by decide +kernel, rfl, rfl, xl_RX3_123, xi_X3_gotWithGuest, xs_X3_gotWithGuest, xm_X3_gotWithGuest⟩
theorem iX3_gotAt_11 : mX3_gotAt.2.2.2 = some .int ∧ decode mX3_gotAt.2.1 11 = .ok (.ireturn, 1) := ⟨rfl, by decide +kernel⟩
theorem iX3_gotToday_0 : DPushI mX3_gotToday 0 0 1 := Or.inl ⟨0, by decide +kernel, by decide, rfl⟩
theorem iX3_gotToday_1 : DStI mX3_gotToday 1 2 2 := ⟨by decide, Or.inl ⟨2, by decide +kernel, rfl, rfl⟩⟩
theorem iX3_gotToday_2 : DPushI mX3_gotToday 2 0 3 := Or.inl ⟨0, by decide +kernel, by decide, rfl⟩
theorem iX3_gotToday_3 : DStI mX3_gotToday 3 3 4 := ⟨by decide, Or.inl ⟨3, by decide +kernel, rfl, rfl⟩⟩
theorem iX3_gotToday_4 : DLdI mX3_gotToday 4 3 5 := Or.inl ⟨3, by decide +kernel, rfl, rfl⟩
theorem iX3_gotToday_5 : DLdA mX3_gotToday 5 0 6 := Or.inl ⟨0, by decide +kernel, rfl, rfl⟩
theorem iX3_gotToday_6 : DGet mX3_gotToday 6 3 0 9 := ⟨52, by decide +kernel, rfl, xf_RX3_52⟩
theorem iX3_gotToday_9 : DCm mX3_gotToday 9 .ge 56 12 := ⟨47, by decide +kernel, by decide, rfl⟩
theorem iX3_gotToday_12 : DLdI mX3_gotToday 12 2 13 := Or.inl ⟨2, by decide +kernel, rfl, rfl⟩
theorem iX3_gotToday_13 : DLdA mX3_gotToday 13 0 14 := Or.inl ⟨0, by decide +kernel, rfl, rfl⟩
theorem iX3_gotToday_14 : DLdI mX3_gotToday 14 3 15 := Or.inl ⟨3, by decide +kernel, rfl, rfl⟩
theorem iX3_gotToday_15 : DLdA mX3_gotToday 15 0 16 := Or.inl ⟨0, by decide +kernel, rfl, rfl⟩
theorem iX3_gotToday_16 : DGet mX3_gotToday 16 3 9 19 := ⟨37, by decide +kernel, rfl, xf_RX3_37⟩
theorem iX3_gotToday_19 : DGet mX3_gotToday 19 2 5 22 := ⟨105, by decide +kernel, rfl, xf_RX3_105⟩
theorem iX3_gotToday_22 : DLdA mX3_gotToday 22 0 23 := Or.inl ⟨0, by decide +kernel, rfl, rfl⟩
theorem iX3_gotToday_23 : DGet mX3_gotToday 23 3 9 26 := ⟨37, by decide +kernel, rfl, xf_RX3_37⟩
theorem iX3_gotToday_26 : DLdI mX3_gotToday 26 3 27 := Or.inl ⟨3, by decide +kernel, rfl, rfl⟩
theorem iX3_gotToday_27 : DInvV mX3_gotToday 27 mX2_leaningAt 2 1 30 := ⟨108, TX2, 7, by decide +kernel, rfl, rfl, xl_RX3_108, xi_X2_leaningAt, xs_X2_leaningAt, xm_X2_leaningAt⟩
theorem iX3_gotToday_30 : DLdI mX3_gotToday 30 1 31 := Or.inl ⟨1, by decide +kernel, rfl, rfl⟩
theorem iX3_gotToday_31 : D1 mX3_gotToday 31 .iand 1 32 := ⟨by decide +kernel, rfl⟩
theorem iX3_gotToday_32 : DLdA mX3_gotToday 32 0 33 := Or.inl ⟨0, by decide +kernel, rfl, rfl⟩
theorem iX3_gotToday_33 : DGet mX3_gotToday 33 3 9 36 := ⟨37, by decide +kernel, rfl, xf_RX3_37⟩
theorem iX3_gotToday_36 : DGet mX3_gotToday 36 2 0 39 := ⟨67, by decide +kernel, rfl, xf_RX3_67⟩
theorem iX3_gotToday_39 : DLdI mX3_gotToday 39 3 40 := Or.inl ⟨3, by decide +kernel, rfl, rfl⟩
theorem iX3_gotToday_40 : D1 mX3_gotToday 40 .iaload 1 41 := ⟨by decide +kernel, rfl⟩
theorem iX3_gotToday_41 : DLdA mX3_gotToday 41 0 42 := Or.inl ⟨0, by decide +kernel, rfl, rfl⟩
theorem iX3_gotToday_42 : DGet mX3_gotToday 42 3 2 45 := ⟨9, by decide +kernel, rfl, xf_RX3_9⟩
theorem iX3_gotToday_45 : DInvV mX3_gotToday 45 mX3_taken 3 5 48 := ⟨95, TX3, 10, by decide +kernel, rfl, rfl, xl_RX3_95, xi_X3_taken, xs_X3_taken, xm_X3_taken⟩
theorem iX3_gotToday_48 : D1 mX3_gotToday 48 .iadd 1 49 := ⟨by decide +kernel, rfl⟩
theorem iX3_gotToday_49 : DStI mX3_gotToday 49 2 50 := ⟨by decide, Or.inl ⟨2, by decide +kernel, rfl, rfl⟩⟩
theorem iX3_gotToday_50 : DInc mX3_gotToday 50 3 1 53 := ⟨by decide, 1, by decide +kernel, by decide, rfl⟩
theorem iX3_gotToday_53 : DGo mX3_gotToday 53 4 := ⟨(-49), by decide +kernel, by decide⟩
theorem iX3_gotToday_56 : DLdI mX3_gotToday 56 2 57 := Or.inl ⟨2, by decide +kernel, rfl, rfl⟩
theorem iX3_gotToday_57 : mX3_gotToday.2.2.2 = some .int ∧ decode mX3_gotToday.2.1 57 = .ok (.ireturn, 1) := ⟨rfl, by decide +kernel⟩
theorem iX3_gotWithGuest_0 : DLdA mX3_gotWithGuest 0 0 1 := Or.inl ⟨0, by decide +kernel, rfl, rfl⟩
theorem iX3_gotWithGuest_1 : DGet mX3_gotWithGuest 1 3 9 4 := ⟨37, by decide +kernel, rfl, xf_RX3_37⟩
theorem iX3_gotWithGuest_4 : DGet mX3_gotWithGuest 4 2 0 7 := ⟨67, by decide +kernel, rfl, xf_RX3_67⟩
theorem iX3_gotWithGuest_7 : DLdI mX3_gotWithGuest 7 1 8 := Or.inl ⟨1, by decide +kernel, rfl, rfl⟩
theorem iX3_gotWithGuest_8 : D1 mX3_gotWithGuest 8 .iaload 1 9 := ⟨by decide +kernel, rfl⟩
theorem iX3_gotWithGuest_9 : DStI mX3_gotWithGuest 9 7 11 := ⟨by decide, Or.inr ⟨by decide +kernel, rfl⟩⟩
theorem iX3_gotWithGuest_11 : DPushI mX3_gotWithGuest 11 0 12 := Or.inl ⟨0, by decide +kernel, by decide, rfl⟩
theorem iX3_gotWithGuest_12 : DStI mX3_gotWithGuest 12 8 14 := ⟨by decide, Or.inr ⟨by decide +kernel, rfl⟩⟩
theorem iX3_gotWithGuest_14 : DPushI mX3_gotWithGuest 14 0 15 := Or.inl ⟨0, by decide +kernel, by decide, rfl⟩
theorem iX3_gotWithGuest_15 : DStI mX3_gotWithGuest 15 9 17 := ⟨by decide, Or.inr ⟨by decide +kernel, rfl⟩⟩
theorem iX3_gotWithGuest_17 : DLdI mX3_gotWithGuest 17 9 19 := Or.inr ⟨by decide +kernel, rfl⟩
theorem iX3_gotWithGuest_19 : DLdI mX3_gotWithGuest 19 5 21 := Or.inr ⟨by decide +kernel, rfl⟩
theorem iX3_gotWithGuest_21 : DCm mX3_gotWithGuest 21 .ge 113 24 := ⟨92, by decide +kernel, by decide, rfl⟩
theorem iX3_gotWithGuest_24 : DLdI mX3_gotWithGuest 24 7 26 := Or.inr ⟨by decide +kernel, rfl⟩
theorem iX3_gotWithGuest_26 : DIf mX3_gotWithGuest 26 .le 113 29 := ⟨87, by decide +kernel, by decide, rfl⟩
theorem iX3_gotWithGuest_29 : DLdI mX3_gotWithGuest 29 4 31 := Or.inr ⟨by decide +kernel, rfl⟩
theorem iX3_gotWithGuest_31 : DLdI mX3_gotWithGuest 31 9 33 := Or.inr ⟨by decide +kernel, rfl⟩
theorem iX3_gotWithGuest_33 : D1 mX3_gotWithGuest 33 .ishr 1 34 := ⟨by decide +kernel, rfl⟩
theorem iX3_gotWithGuest_34 : DPushI mX3_gotWithGuest 34 1 35 := Or.inl ⟨1, by decide +kernel, by decide, rfl⟩
theorem iX3_gotWithGuest_35 : D1 mX3_gotWithGuest 35 .iand 1 36 := ⟨by decide +kernel, rfl⟩
theorem iX3_gotWithGuest_36 : DIf mX3_gotWithGuest 36 .eq 45 39 := ⟨9, by decide +kernel, by decide, rfl⟩
theorem iX3_gotWithGuest_39 : DLdI mX3_gotWithGuest 39 2 40 := Or.inl ⟨2, by decide +kernel, rfl, rfl⟩
theorem iX3_gotWithGuest_40 : DLdI mX3_gotWithGuest 40 3 41 := Or.inl ⟨3, by decide +kernel, rfl, rfl⟩
theorem iX3_gotWithGuest_41 : D1 mX3_gotWithGuest 41 .ior 1 42 := ⟨by decide +kernel, rfl⟩
theorem iX3_gotWithGuest_42 : DGo mX3_gotWithGuest 42 46 := ⟨4, by decide +kernel, by decide⟩
theorem iX3_gotWithGuest_45 : DLdI mX3_gotWithGuest 45 2 46 := Or.inl ⟨2, by decide +kernel, rfl, rfl⟩
theorem iX3_gotWithGuest_46 : DStI mX3_gotWithGuest 46 10 48 := ⟨by decide, Or.inr ⟨by decide +kernel, rfl⟩⟩
theorem iX3_gotWithGuest_48 : DLdA mX3_gotWithGuest 48 0 49 := Or.inl ⟨0, by decide +kernel, rfl, rfl⟩
theorem iX3_gotWithGuest_49 : DLdI mX3_gotWithGuest 49 1 50 := Or.inl ⟨1, by decide +kernel, rfl, rfl⟩
theorem iX3_gotWithGuest_50 : DLdA mX3_gotWithGuest 50 0 51 := Or.inl ⟨0, by decide +kernel, rfl, rfl⟩
theorem iX3_gotWithGuest_51 : DGet mX3_gotWithGuest 51 3 9 54 := ⟨37, by decide +kernel, rfl, xf_RX3_37⟩
theorem iX3_gotWithGuest_54 : DGet mX3_gotWithGuest 54 2 5 57 := ⟨105, by decide +kernel, rfl, xf_RX3_105⟩
theorem iX3_gotWithGuest_57 : DLdI mX3_gotWithGuest 57 9 59 := Or.inr ⟨by decide +kernel, rfl⟩
theorem iX3_gotWithGuest_59 : D1 mX3_gotWithGuest 59 .iadd 1 60 := ⟨by decide +kernel, rfl⟩
theorem iX3_gotWithGuest_60 : DLdI mX3_gotWithGuest 60 10 62 := Or.inr ⟨by decide +kernel, rfl⟩
theorem iX3_gotWithGuest_62 : DLdI mX3_gotWithGuest 62 7 64 := Or.inr ⟨by decide +kernel, rfl⟩
theorem iX3_gotWithGuest_64 : DLdI mX3_gotWithGuest 64 6 66 := Or.inr ⟨by decide +kernel, rfl⟩
theorem iX3_gotWithGuest_66 : DInvV mX3_gotWithGuest 66 mX3_taken 3 5 69 := ⟨95, TX3, 10, by decide +kernel, rfl, rfl, xl_RX3_95, xi_X3_taken, xs_X3_taken, xm_X3_taken⟩
theorem iX3_gotWithGuest_69 : DStI mX3_gotWithGuest 69 11 71 := ⟨by decide, Or.inr ⟨by decide +kernel, rfl⟩⟩
theorem iX3_gotWithGuest_71 : DLdI mX3_gotWithGuest 71 8 73 := Or.inr ⟨by decide +kernel, rfl⟩
theorem iX3_gotWithGuest_73 : DLdI mX3_gotWithGuest 73 11 75 := Or.inr ⟨by decide +kernel, rfl⟩
theorem iX3_gotWithGuest_75 : D1 mX3_gotWithGuest 75 .iadd 1 76 := ⟨by decide +kernel, rfl⟩
theorem iX3_gotWithGuest_76 : DStI mX3_gotWithGuest 76 8 78 := ⟨by decide, Or.inr ⟨by decide +kernel, rfl⟩⟩
theorem iX3_gotWithGuest_78 : DLdI mX3_gotWithGuest 78 7 80 := Or.inr ⟨by decide +kernel, rfl⟩
theorem iX3_gotWithGuest_80 : DLdI mX3_gotWithGuest 80 11 82 := Or.inr ⟨by decide +kernel, rfl⟩
theorem iX3_gotWithGuest_82 : D1 mX3_gotWithGuest 82 .isub 1 83 := ⟨by decide +kernel, rfl⟩
theorem iX3_gotWithGuest_83 : DStI mX3_gotWithGuest 83 7 85 := ⟨by decide, Or.inr ⟨by decide +kernel, rfl⟩⟩
theorem iX3_gotWithGuest_85 : DLdI mX3_gotWithGuest 85 7 87 := Or.inr ⟨by decide +kernel, rfl⟩
theorem iX3_gotWithGuest_87 : DLdA mX3_gotWithGuest 87 0 88 := Or.inl ⟨0, by decide +kernel, rfl, rfl⟩
theorem iX3_gotWithGuest_88 : DLdI mX3_gotWithGuest 88 1 89 := Or.inl ⟨1, by decide +kernel, rfl, rfl⟩
theorem iX3_gotWithGuest_89 : DLdA mX3_gotWithGuest 89 0 90 := Or.inl ⟨0, by decide +kernel, rfl, rfl⟩
theorem iX3_gotWithGuest_90 : DGet mX3_gotWithGuest 90 3 9 93 := ⟨37, by decide +kernel, rfl, xf_RX3_37⟩
theorem iX3_gotWithGuest_93 : DGet mX3_gotWithGuest 93 2 5 96 := ⟨105, by decide +kernel, rfl, xf_RX3_105⟩
theorem iX3_gotWithGuest_96 : DLdI mX3_gotWithGuest 96 9 98 := Or.inr ⟨by decide +kernel, rfl⟩
theorem iX3_gotWithGuest_98 : D1 mX3_gotWithGuest 98 .iadd 1 99 := ⟨by decide +kernel, rfl⟩
theorem iX3_gotWithGuest_99 : DLdI mX3_gotWithGuest 99 7 101 := Or.inr ⟨by decide +kernel, rfl⟩
theorem iX3_gotWithGuest_101 : DInvV mX3_gotWithGuest 101 mX3_stung 3 3 104 := ⟨99, TX3, 10, by decide +kernel, rfl, rfl, xl_RX3_99, xi_X3_stung, xs_X3_stung, xm_X3_stung⟩
theorem iX3_gotWithGuest_104 : D1 mX3_gotWithGuest 104 .isub 1 105 := ⟨by decide +kernel, rfl⟩
theorem iX3_gotWithGuest_105 : DStI mX3_gotWithGuest 105 7 107 := ⟨by decide, Or.inr ⟨by decide +kernel, rfl⟩⟩
theorem iX3_gotWithGuest_107 : DInc mX3_gotWithGuest 107 9 1 110 := ⟨by decide, 1, by decide +kernel, by decide, rfl⟩
theorem iX3_gotWithGuest_110 : DGo mX3_gotWithGuest 110 17 := ⟨(-93), by decide +kernel, by decide⟩
theorem iX3_gotWithGuest_113 : DLdI mX3_gotWithGuest 113 8 115 := Or.inr ⟨by decide +kernel, rfl⟩
theorem iX3_gotWithGuest_115 : mX3_gotWithGuest.2.2.2 = some .int ∧ decode mX3_gotWithGuest.2.1 115 = .ok (.ireturn, 1) := ⟨rfl, by decide +kernel⟩
theorem iX3_gust_0 : DLdA mX3_gust 0 0 1 := Or.inl ⟨0, by decide +kernel, rfl, rfl⟩
theorem iX3_gust_1 : DGet mX3_gust 1 3 9 4 := ⟨37, by decide +kernel, rfl, xf_RX3_37⟩
theorem iX3_gust_4 : DLdA mX3_gust 4 0 5 := Or.inl ⟨0, by decide +kernel, rfl, rfl⟩
theorem iX3_gust_5 : DGet mX3_gust 5 3 9 8 := ⟨37, by decide +kernel, rfl, xf_RX3_37⟩
theorem iX3_gust_8 : DGet mX3_gust 8 2 6 11 := ⟨49, by decide +kernel, rfl, xf_RX3_49⟩
theorem iX3_gust_11 : DPushI mX3_gust 11 1103515245 13 := Or.inr (Or.inr (Or.inr (Or.inl ⟨117, by decide +kernel, bigW_at 472 (by decide +kernel) rfl, rfl⟩)))
theorem iX3_gust_13 : D1 mX3_gust 13 .imul 1 14 := ⟨by decide +kernel, rfl⟩
theorem iX3_gust_14 : DPushI mX3_gust 14 12345 17 := Or.inr (Or.inr (Or.inl ⟨12345, by decide +kernel, by decide, rfl⟩))
theorem iX3_gust_17 : D1 mX3_gust 17 .iadd 1 18 := ⟨by decide +kernel, rfl⟩
theorem iX3_gust_18 : DPushI mX3_gust 18 2147483647 20 := Or.inr (Or.inr (Or.inr (Or.inl ⟨118, by decide +kernel, bigW_at 473 (by decide +kernel) rfl, rfl⟩)))
theorem iX3_gust_20 : D1 mX3_gust 20 .iand 1 21 := ⟨by decide +kernel, rfl⟩
theorem iX3_gust_21 : DPut mX3_gust 21 2 6 .int 24 := ⟨49, by decide +kernel, rfl, RX2, TX2, 7, tyX2, rfl, by decide, bigW_at 84 (by decide +kernel) rfl, xw2, tyX2_ok, nmX2, rfl, Or.inl rfl⟩
theorem iX3_gust_24 : DLdA mX3_gust 24 0 25 := Or.inl ⟨0, by decide +kernel, rfl, rfl⟩
theorem iX3_gust_25 : DGet mX3_gust 25 3 9 28 := ⟨37, by decide +kernel, rfl, xf_RX3_37⟩
theorem iX3_gust_28 : DGet mX3_gust 28 2 6 31 := ⟨49, by decide +kernel, rfl, xf_RX3_49⟩
theorem iX3_gust_31 : DPushI mX3_gust 31 65536 33 := Or.inr (Or.inr (Or.inr (Or.inl ⟨119, by decide +kernel, bigW_at 474 (by decide +kernel) rfl, rfl⟩)))
theorem iX3_gust_33 : D1 mX3_gust 33 .idiv 1 34 := ⟨by decide +kernel, rfl⟩
theorem iX3_gust_34 : DStI mX3_gust 34 1 35 := ⟨by decide, Or.inl ⟨1, by decide +kernel, rfl, rfl⟩⟩
theorem iX3_gust_35 : DLdI mX3_gust 35 1 36 := Or.inl ⟨1, by decide +kernel, rfl, rfl⟩
theorem iX3_gust_36 : DPushI mX3_gust 36 4 37 := Or.inl ⟨4, by decide +kernel, by decide, rfl⟩
theorem iX3_gust_37 : D1 mX3_gust 37 .irem 1 38 := ⟨by decide +kernel, rfl⟩
theorem iX3_gust_38 : DIf mX3_gust 38 .ne 62 41 := ⟨24, by decide +kernel, by decide, rfl⟩
theorem iX3_gust_41 : DLdA mX3_gust 41 0 42 := Or.inl ⟨0, by decide +kernel, rfl, rfl⟩
theorem iX3_gust_42 : DGet mX3_gust 42 3 0 45 := ⟨52, by decide +kernel, rfl, xf_RX3_52⟩
theorem iX3_gust_45 : DIf mX3_gust 45 .le 62 48 := ⟨17, by decide +kernel, by decide, rfl⟩
theorem iX3_gust_48 : DLdA mX3_gust 48 0 49 := Or.inl ⟨0, by decide +kernel, rfl, rfl⟩
theorem iX3_gust_49 : DGet mX3_gust 49 3 9 52 := ⟨37, by decide +kernel, rfl, xf_RX3_37⟩
theorem iX3_gust_52 : DLdI mX3_gust 52 1 53 := Or.inl ⟨1, by decide +kernel, rfl, rfl⟩
theorem iX3_gust_53 : DLdA mX3_gust 53 0 54 := Or.inl ⟨0, by decide +kernel, rfl, rfl⟩
theorem iX3_gust_54 : DGet mX3_gust 54 3 0 57 := ⟨52, by decide +kernel, rfl, xf_RX3_52⟩
theorem iX3_gust_57 : D1 mX3_gust 57 .irem 1 58 := ⟨by decide +kernel, rfl⟩
theorem iX3_gust_58 : DInvV mX3_gust 58 mX2_shakeOff 2 1 61 := ⟨120, TX2, 7, by decide +kernel, rfl, rfl, xl_RX3_120, xi_X2_shakeOff, xs_X2_shakeOff, xm_X2_shakeOff⟩
theorem iX3_gust_61 : D1 mX3_gust 61 .pop 1 62 := ⟨by decide +kernel, rfl⟩
theorem iX3_gust_62 : mX3_gust.2.2.2 = none ∧ decode mX3_gust.2.1 62 = .ok (.return_, 1) := ⟨rfl, by decide +kernel⟩
theorem iX3_hasLadder_0 : DLdI mX3_hasLadder 0 1 1 := Or.inl ⟨1, by decide +kernel, rfl, rfl⟩
theorem iX3_hasLadder_1 : DIf mX3_hasLadder 1 .lt 16 4 := ⟨15, by decide +kernel, by decide, rfl⟩
theorem iX3_hasLadder_4 : DLdI mX3_hasLadder 4 1 5 := Or.inl ⟨1, by decide +kernel, rfl, rfl⟩
theorem iX3_hasLadder_5 : DLdA mX3_hasLadder 5 0 6 := Or.inl ⟨0, by decide +kernel, rfl, rfl⟩
theorem iX3_hasLadder_6 : DGet mX3_hasLadder 6 3 1 9 := ⟨55, by decide +kernel, rfl, xf_RX3_55⟩
theorem iX3_hasLadder_9 : DCm mX3_hasLadder 9 .ge 16 12 := ⟨7, by decide +kernel, by decide, rfl⟩
theorem iX3_hasLadder_12 : DPushI mX3_hasLadder 12 1 13 := Or.inl ⟨1, by decide +kernel, by decide, rfl⟩
theorem iX3_hasLadder_13 : DGo mX3_hasLadder 13 17 := ⟨4, by decide +kernel, by decide⟩
theorem iX3_hasLadder_16 : DPushI mX3_hasLadder 16 0 17 := Or.inl ⟨0, by decide +kernel, by decide, rfl⟩
theorem iX3_hasLadder_17 : mX3_hasLadder.2.2.2 = some .boolean ∧ decode mX3_hasLadder.2.1 17 = .ok (.ireturn, 1) := ⟨rfl, by decide +kernel⟩
theorem iX3_hasTree_0 : DLdI mX3_hasTree 0 1 1 := Or.inl ⟨1, by decide +kernel, rfl, rfl⟩
theorem iX3_hasTree_1 : DIf mX3_hasTree 1 .lt 16 4 := ⟨15, by decide +kernel, by decide, rfl⟩
theorem iX3_hasTree_4 : DLdI mX3_hasTree 4 1 5 := Or.inl ⟨1, by decide +kernel, rfl, rfl⟩
theorem iX3_hasTree_5 : DLdA mX3_hasTree 5 0 6 := Or.inl ⟨0, by decide +kernel, rfl, rfl⟩
theorem iX3_hasTree_6 : DGet mX3_hasTree 6 3 0 9 := ⟨52, by decide +kernel, rfl, xf_RX3_52⟩
theorem iX3_hasTree_9 : DCm mX3_hasTree 9 .ge 16 12 := ⟨7, by decide +kernel, by decide, rfl⟩
theorem iX3_hasTree_12 : DPushI mX3_hasTree 12 1 13 := Or.inl ⟨1, by decide +kernel, by decide, rfl⟩
theorem iX3_hasTree_13 : DGo mX3_hasTree 13 17 := ⟨4, by decide +kernel, by decide⟩
theorem iX3_hasTree_16 : DPushI mX3_hasTree 16 0 17 := Or.inl ⟨0, by decide +kernel, by decide, rfl⟩
theorem iX3_hasTree_17 : mX3_hasTree.2.2.2 = some .boolean ∧ decode mX3_hasTree.2.1 17 = .ok (.ireturn, 1) := ⟨rfl, by decide +kernel⟩
theorem iX3_init_0 : DLdA mX3_init 0 0 1 := Or.inl ⟨0, by decide +kernel, rfl, rfl⟩
theorem iX3_init_1 : DObj mX3_init 1 4 := ⟨3, by decide +kernel, rfl, xl_RX3_3, xl_objI, xl_objC⟩
theorem iX3_init_4 : DLdA mX3_init 4 0 5 := Or.inl ⟨0, by decide +kernel, rfl, rfl⟩
theorem iX3_init_5 : DPushI mX3_init 5 5 6 := Or.inl ⟨5, by decide +kernel, by decide, rfl⟩
theorem iX3_init_6 : DPut mX3_init 6 3 2 .int 9 := ⟨9, by decide +kernel, rfl, RX3, TX3, 10, tyX3, rfl, by decide, bigW_at 107 (by decide +kernel) rfl, xw3, tyX3_ok, nmX3, rfl, Or.inl rfl⟩
theorem iX3_init_9 : DLdA mX3_init 9 0 10 := Or.inl ⟨0, by decide +kernel, rfl, rfl⟩
theorem iX3_init_10 : DPushI mX3_init 10 1 11 := Or.inl ⟨1, by decide +kernel, by decide, rfl⟩
theorem iX3_init_11 : DPut mX3_init 11 3 3 .int 14 := ⟨15, by decide +kernel, rfl, RX3, TX3, 10, tyX3, rfl, by decide, bigW_at 109 (by decide +kernel) rfl, xw3, tyX3_ok, nmX3, rfl, Or.inl rfl⟩
theorem iX3_init_14 : DLdA mX3_init 14 0 15 := Or.inl ⟨0, by decide +kernel, rfl, rfl⟩
theorem iX3_init_15 : DPushI mX3_init 15 6 17 := Or.inr (Or.inl ⟨6, by decide +kernel, by decide, rfl⟩)
theorem iX3_init_17 : DNewA mX3_init 17 .int 19 := ⟨.int, by decide +kernel, rfl, xq_int, rfl⟩
theorem iX3_init_19 : DPut mX3_init 19 3 4 (.array .int) 22 := ⟨18, by decide +kernel, rfl, RX3, TX3, 10, tyX3, rfl, by decide, bigW_at 111 (by decide +kernel) rfl, xw3, tyX3_ok, nmX3, rfl, Or.inr ⟨rfl, rfl, rfl⟩⟩
theorem iX3_init_22 : DLdA mX3_init 22 0 23 := Or.inl ⟨0, by decide +kernel, rfl, rfl⟩
theorem iX3_init_23 : DPushI mX3_init 23 6 25 := Or.inr (Or.inl ⟨6, by decide +kernel, by decide, rfl⟩)
theorem iX3_init_25 : DNewA mX3_init 25 .int 27 := ⟨.int, by decide +kernel, rfl, xq_int, rfl⟩
theorem iX3_init_27 : DPut mX3_init 27 3 5 (.array .int) 30 := ⟨22, by decide +kernel, rfl, RX3, TX3, 10, tyX3, rfl, by decide, bigW_at 113 (by decide +kernel) rfl, xw3, tyX3_ok, nmX3, rfl, Or.inr ⟨rfl, rfl, rfl⟩⟩
theorem iX3_init_30 : DLdA mX3_init 30 0 31 := Or.inl ⟨0, by decide +kernel, rfl, rfl⟩
theorem iX3_init_31 : DPushI mX3_init 31 4 32 := Or.inl ⟨4, by decide +kernel, by decide, rfl⟩
theorem iX3_init_32 : DNewA mX3_init 32 .int 34 := ⟨.int, by decide +kernel, rfl, xq_int, rfl⟩
theorem iX3_init_34 : DPut mX3_init 34 3 6 (.array .int) 37 := ⟨25, by decide +kernel, rfl, RX3, TX3, 10, tyX3, rfl, by decide, bigW_at 115 (by decide +kernel) rfl, xw3, tyX3_ok, nmX3, rfl, Or.inr ⟨rfl, rfl, rfl⟩⟩
theorem iX3_init_37 : DLdA mX3_init 37 0 38 := Or.inl ⟨0, by decide +kernel, rfl, rfl⟩
theorem iX3_init_38 : DPushI mX3_init 38 4 39 := Or.inl ⟨4, by decide +kernel, by decide, rfl⟩
theorem iX3_init_39 : DNewA mX3_init 39 .int 41 := ⟨.int, by decide +kernel, rfl, xq_int, rfl⟩
theorem iX3_init_41 : DPut mX3_init 41 3 7 (.array .int) 44 := ⟨28, by decide +kernel, rfl, RX3, TX3, 10, tyX3, rfl, by decide, bigW_at 117 (by decide +kernel) rfl, xw3, tyX3_ok, nmX3, rfl, Or.inr ⟨rfl, rfl, rfl⟩⟩
theorem iX3_init_44 : DLdA mX3_init 44 0 45 := Or.inl ⟨0, by decide +kernel, rfl, rfl⟩
theorem iX3_init_45 : DPushI mX3_init 45 4 46 := Or.inl ⟨4, by decide +kernel, by decide, rfl⟩
theorem iX3_init_46 : DNewA mX3_init 46 .int 48 := ⟨.int, by decide +kernel, rfl, xq_int, rfl⟩
theorem iX3_init_48 : DPut mX3_init 48 3 8 (.array .int) 51 := ⟨31, by decide +kernel, rfl, RX3, TX3, 10, tyX3, rfl, by decide, bigW_at 119 (by decide +kernel) rfl, xw3, tyX3_ok, nmX3, rfl, Or.inr ⟨rfl, rfl, rfl⟩⟩
theorem iX3_init_51 : DLdA mX3_init 51 0 52 := Or.inl ⟨0, by decide +kernel, rfl, rfl⟩
theorem iX3_init_52 : DNew mX3_init 52 2 [.null, .null, .int 0, .int 0, .int 0, .int 0, .int 0] 55 := ⟨34, RX2, TX2, 7, tyX2, by decide +kernel, rfl, rfl, xc_RX3_34, xn_RX2, xz_RX2, xw2, tyX2_ok, rfl, by decide +kernel, fun _ _ => rfl⟩
theorem iX3_init_55 : D1 mX3_init 55 .dup 1 56 := ⟨by decide +kernel, rfl⟩
theorem iX3_init_56 : DInvI mX3_init 56 mX2_init 0 59 := ⟨36, by decide +kernel, rfl, Or.inl xl_RX3_36, xi_X2_init, rfl, rfl, xm_X2_init⟩
theorem iX3_init_59 : DPut mX3_init 59 3 9 (.object RX2) 62 := ⟨37, by decide +kernel, rfl, RX3, TX3, 10, tyX3, rfl, by decide, bigW_at 121 (by decide +kernel) rfl, xw3, tyX3_ok, nmX3, rfl, Or.inr ⟨rfl, rfl, rfl⟩⟩
theorem iX3_init_62 : mX3_init.2.2.2 = none ∧ decode mX3_init.2.1 62 = .ok (.return_, 1) := ⟨rfl, by decide +kernel⟩
theorem iX3_leaningAnywhere_0 : DPushI mX3_leaningAnywhere 0 0 1 := Or.inl ⟨0, by decide +kernel, by decide, rfl⟩
theorem iX3_leaningAnywhere_1 : DStI mX3_leaningAnywhere 1 1 2 := ⟨by decide, Or.inl ⟨1, by decide +kernel, rfl, rfl⟩⟩
theorem iX3_leaningAnywhere_2 : DPushI mX3_leaningAnywhere 2 0 3 := Or.inl ⟨0, by decide +kernel, by decide, rfl⟩
theorem iX3_leaningAnywhere_3 : DStI mX3_leaningAnywhere 3 2 4 := ⟨by decide, Or.inl ⟨2, by decide +kernel, rfl, rfl⟩⟩
theorem iX3_leaningAnywhere_4 : DLdI mX3_leaningAnywhere 4 2 5 := Or.inl ⟨2, by decide +kernel, rfl, rfl⟩
theorem iX3_leaningAnywhere_5 : DLdA mX3_leaningAnywhere 5 0 6 := Or.inl ⟨0, by decide +kernel, rfl, rfl⟩
theorem iX3_leaningAnywhere_6 : DGet mX3_leaningAnywhere 6 3 1 9 := ⟨55, by decide +kernel, rfl, xf_RX3_55⟩
theorem iX3_leaningAnywhere_9 : DCm mX3_leaningAnywhere 9 .ge 38 12 := ⟨29, by decide +kernel, by decide, rfl⟩
theorem iX3_leaningAnywhere_12 : DLdA mX3_leaningAnywhere 12 0 13 := Or.inl ⟨0, by decide +kernel, rfl, rfl⟩
theorem iX3_leaningAnywhere_13 : DGet mX3_leaningAnywhere 13 3 9 16 := ⟨37, by decide +kernel, rfl, xf_RX3_37⟩
theorem iX3_leaningAnywhere_16 : DGet mX3_leaningAnywhere 16 2 1 19 := ⟨70, by decide +kernel, rfl, xf_RX3_70⟩
theorem iX3_leaningAnywhere_19 : DLdI mX3_leaningAnywhere 19 2 20 := Or.inl ⟨2, by decide +kernel, rfl, rfl⟩
theorem iX3_leaningAnywhere_20 : D1 mX3_leaningAnywhere 20 .iaload 1 21 := ⟨by decide +kernel, rfl⟩
theorem iX3_leaningAnywhere_21 : DPushI mX3_leaningAnywhere 21 (-4) 23 := Or.inr (Or.inl ⟨(-4), by decide +kernel, by decide, rfl⟩)
theorem iX3_leaningAnywhere_23 : DCm mX3_leaningAnywhere 23 .eq 32 26 := ⟨9, by decide +kernel, by decide, rfl⟩
theorem iX3_leaningAnywhere_26 : DLdI mX3_leaningAnywhere 26 1 27 := Or.inl ⟨1, by decide +kernel, rfl, rfl⟩
theorem iX3_leaningAnywhere_27 : DPushI mX3_leaningAnywhere 27 1 28 := Or.inl ⟨1, by decide +kernel, by decide, rfl⟩
theorem iX3_leaningAnywhere_28 : DLdI mX3_leaningAnywhere 28 2 29 := Or.inl ⟨2, by decide +kernel, rfl, rfl⟩
theorem iX3_leaningAnywhere_29 : D1 mX3_leaningAnywhere 29 .ishl 1 30 := ⟨by decide +kernel, rfl⟩
theorem iX3_leaningAnywhere_30 : D1 mX3_leaningAnywhere 30 .ior 1 31 := ⟨by decide +kernel, rfl⟩
theorem iX3_leaningAnywhere_31 : DStI mX3_leaningAnywhere 31 1 32 := ⟨by decide, Or.inl ⟨1, by decide +kernel, rfl, rfl⟩⟩
theorem iX3_leaningAnywhere_32 : DInc mX3_leaningAnywhere 32 2 1 35 := ⟨by decide, 1, by decide +kernel, by decide, rfl⟩
theorem iX3_leaningAnywhere_35 : DGo mX3_leaningAnywhere 35 4 := ⟨(-31), by decide +kernel, by decide⟩
theorem iX3_leaningAnywhere_38 : DLdI mX3_leaningAnywhere 38 1 39 := Or.inl ⟨1, by decide +kernel, rfl, rfl⟩
theorem iX3_leaningAnywhere_39 : mX3_leaningAnywhere.2.2.2 = some .int ∧ decode mX3_leaningAnywhere.2.1 39 = .ok (.ireturn, 1) := ⟨rfl, by decide +kernel⟩
theorem iX3_leftBehind_0 : DLdI mX3_leftBehind 0 4 2 := Or.inr ⟨by decide +kernel, rfl⟩
theorem iX3_leftBehind_2 : DLdA mX3_leftBehind 2 0 3 := Or.inl ⟨0, by decide +kernel, rfl, rfl⟩
theorem iX3_leftBehind_3 : DLdI mX3_leftBehind 3 1 4 := Or.inl ⟨1, by decide +kernel, rfl, rfl⟩
theorem iX3_leftBehind_4 : DLdI mX3_leftBehind 4 2 5 := Or.inl ⟨2, by decide +kernel, rfl, rfl⟩
theorem iX3_leftBehind_5 : DLdI mX3_leftBehind 5 3 6 := Or.inl ⟨3, by decide +kernel, rfl, rfl⟩
theorem iX3_leftBehind_6 : DLdI mX3_leftBehind 6 4 8 := Or.inr ⟨by decide +kernel, rfl⟩
theorem iX3_leftBehind_8 : DLdA mX3_leftBehind 8 0 9 := Or.inl ⟨0, by decide +kernel, rfl, rfl⟩
theorem iX3_leftBehind_9 : DGet mX3_leftBehind 9 3 2 12 := ⟨9, by decide +kernel, rfl, xf_RX3_9⟩
theorem iX3_leftBehind_12 : DInvV mX3_leftBehind 12 mX3_taken 3 5 15 := ⟨95, TX3, 10, by decide +kernel, rfl, rfl, xl_RX3_95, xi_X3_taken, xs_X3_taken, xm_X3_taken⟩
theorem iX3_leftBehind_15 : D1 mX3_leftBehind 15 .isub 1 16 := ⟨by decide +kernel, rfl⟩
theorem iX3_leftBehind_16 : DStI mX3_leftBehind 16 5 18 := ⟨by decide, Or.inr ⟨by decide +kernel, rfl⟩⟩
theorem iX3_leftBehind_18 : DLdI mX3_leftBehind 18 5 20 := Or.inr ⟨by decide +kernel, rfl⟩
theorem iX3_leftBehind_20 : DLdA mX3_leftBehind 20 0 21 := Or.inl ⟨0, by decide +kernel, rfl, rfl⟩
theorem iX3_leftBehind_21 : DLdI mX3_leftBehind 21 1 22 := Or.inl ⟨1, by decide +kernel, rfl, rfl⟩
theorem iX3_leftBehind_22 : DLdI mX3_leftBehind 22 2 23 := Or.inl ⟨2, by decide +kernel, rfl, rfl⟩
theorem iX3_leftBehind_23 : DLdI mX3_leftBehind 23 5 25 := Or.inr ⟨by decide +kernel, rfl⟩
theorem iX3_leftBehind_25 : DInvV mX3_leftBehind 25 mX3_stung 3 3 28 := ⟨99, TX3, 10, by decide +kernel, rfl, rfl, xl_RX3_99, xi_X3_stung, xs_X3_stung, xm_X3_stung⟩
theorem iX3_leftBehind_28 : D1 mX3_leftBehind 28 .isub 1 29 := ⟨by decide +kernel, rfl⟩
theorem iX3_leftBehind_29 : mX3_leftBehind.2.2.2 = some .int ∧ decode mX3_leftBehind.2.1 29 = .ok (.ireturn, 1) := ⟨rfl, by decide +kernel⟩
theorem iX3_pass_0 : DPushI mX3_pass 0 0 1 := Or.inl ⟨0, by decide +kernel, by decide, rfl⟩
theorem iX3_pass_1 : DStI mX3_pass 1 2 2 := ⟨by decide, Or.inl ⟨2, by decide +kernel, rfl, rfl⟩⟩
theorem iX3_pass_2 : DLdI mX3_pass 2 2 3 := Or.inl ⟨2, by decide +kernel, rfl, rfl⟩
theorem iX3_pass_3 : DLdA mX3_pass 3 0 4 := Or.inl ⟨0, by decide +kernel, rfl, rfl⟩
theorem iX3_pass_4 : DGet mX3_pass 4 3 1 7 := ⟨55, by decide +kernel, rfl, xf_RX3_55⟩
theorem iX3_pass_7 : DCm mX3_pass 7 .ge 42 10 := ⟨35, by decide +kernel, by decide, rfl⟩
theorem iX3_pass_10 : DLdA mX3_pass 10 1 11 := Or.inl ⟨1, by decide +kernel, rfl, rfl⟩
theorem iX3_pass_11 : DGet mX3_pass 11 2 1 14 := ⟨70, by decide +kernel, rfl, xf_RX3_70⟩
theorem iX3_pass_14 : DLdI mX3_pass 14 2 15 := Or.inl ⟨2, by decide +kernel, rfl, rfl⟩
theorem iX3_pass_15 : D1 mX3_pass 15 .iaload 1 16 := ⟨by decide +kernel, rfl⟩
theorem iX3_pass_16 : DPushI mX3_pass 16 (-4) 18 := Or.inr (Or.inl ⟨(-4), by decide +kernel, by decide, rfl⟩)
theorem iX3_pass_18 : DCm mX3_pass 18 .eq 36 21 := ⟨18, by decide +kernel, by decide, rfl⟩
theorem iX3_pass_21 : DLdA mX3_pass 21 1 22 := Or.inl ⟨1, by decide +kernel, rfl, rfl⟩
theorem iX3_pass_22 : D1 mX3_pass 22 .dup 1 23 := ⟨by decide +kernel, rfl⟩
theorem iX3_pass_23 : DGet mX3_pass 23 2 3 26 := ⟨102, by decide +kernel, rfl, xf_RX3_102⟩
theorem iX3_pass_26 : DLdA mX3_pass 26 0 27 := Or.inl ⟨0, by decide +kernel, rfl, rfl⟩
theorem iX3_pass_27 : DGet mX3_pass 27 3 8 30 := ⟨31, by decide +kernel, rfl, xf_RX3_31⟩
theorem iX3_pass_30 : DLdI mX3_pass 30 2 31 := Or.inl ⟨2, by decide +kernel, rfl, rfl⟩
theorem iX3_pass_31 : D1 mX3_pass 31 .iaload 1 32 := ⟨by decide +kernel, rfl⟩
theorem iX3_pass_32 : D1 mX3_pass 32 .iadd 1 33 := ⟨by decide +kernel, rfl⟩
theorem iX3_pass_33 : DPut mX3_pass 33 2 3 .int 36 := ⟨102, by decide +kernel, rfl, RX2, TX2, 7, tyX2, rfl, by decide, bigW_at 76 (by decide +kernel) rfl, xw2, tyX2_ok, nmX2, rfl, Or.inl rfl⟩
theorem iX3_pass_36 : DInc mX3_pass 36 2 1 39 := ⟨by decide, 1, by decide +kernel, by decide, rfl⟩
theorem iX3_pass_39 : DGo mX3_pass 39 2 := ⟨(-37), by decide +kernel, by decide⟩
theorem iX3_pass_42 : DPushI mX3_pass 42 0 43 := Or.inl ⟨0, by decide +kernel, by decide, rfl⟩
theorem iX3_pass_43 : DStI mX3_pass 43 2 44 := ⟨by decide, Or.inl ⟨2, by decide +kernel, rfl, rfl⟩⟩
theorem iX3_pass_44 : DLdI mX3_pass 44 2 45 := Or.inl ⟨2, by decide +kernel, rfl, rfl⟩
theorem iX3_pass_45 : DLdA mX3_pass 45 0 46 := Or.inl ⟨0, by decide +kernel, rfl, rfl⟩
theorem iX3_pass_46 : DGet mX3_pass 46 3 0 49 := ⟨52, by decide +kernel, rfl, xf_RX3_52⟩
theorem iX3_pass_49 : DCm mX3_pass 49 .ge 136 52 := ⟨87, by decide +kernel, by decide, rfl⟩
theorem iX3_pass_52 : DLdA mX3_pass 52 0 53 := Or.inl ⟨0, by decide +kernel, rfl, rfl⟩
theorem iX3_pass_53 : DLdI mX3_pass 53 2 54 := Or.inl ⟨2, by decide +kernel, rfl, rfl⟩
theorem iX3_pass_54 : DLdA mX3_pass 54 1 55 := Or.inl ⟨1, by decide +kernel, rfl, rfl⟩
theorem iX3_pass_55 : DGet mX3_pass 55 2 5 58 := ⟨105, by decide +kernel, rfl, xf_RX3_105⟩
theorem iX3_pass_58 : DLdA mX3_pass 58 1 59 := Or.inl ⟨1, by decide +kernel, rfl, rfl⟩
theorem iX3_pass_59 : DLdI mX3_pass 59 2 60 := Or.inl ⟨2, by decide +kernel, rfl, rfl⟩
theorem iX3_pass_60 : DInvV mX3_pass 60 mX2_leaningAt 2 1 63 := ⟨108, TX2, 7, by decide +kernel, rfl, rfl, xl_RX3_108, xi_X2_leaningAt, xs_X2_leaningAt, xm_X2_leaningAt⟩
theorem iX3_pass_63 : DLdA mX3_pass 63 1 64 := Or.inl ⟨1, by decide +kernel, rfl, rfl⟩
theorem iX3_pass_64 : DGet mX3_pass 64 2 0 67 := ⟨67, by decide +kernel, rfl, xf_RX3_67⟩
theorem iX3_pass_67 : DLdI mX3_pass 67 2 68 := Or.inl ⟨2, by decide +kernel, rfl, rfl⟩
theorem iX3_pass_68 : D1 mX3_pass 68 .iaload 1 69 := ⟨by decide +kernel, rfl⟩
theorem iX3_pass_69 : DLdA mX3_pass 69 0 70 := Or.inl ⟨0, by decide +kernel, rfl, rfl⟩
theorem iX3_pass_70 : DGet mX3_pass 70 3 2 73 := ⟨9, by decide +kernel, rfl, xf_RX3_9⟩
theorem iX3_pass_73 : DInvV mX3_pass 73 mX3_taken 3 5 76 := ⟨95, TX3, 10, by decide +kernel, rfl, rfl, xl_RX3_95, xi_X3_taken, xs_X3_taken, xm_X3_taken⟩
theorem iX3_pass_76 : DStI mX3_pass 76 3 77 := ⟨by decide, Or.inl ⟨3, by decide +kernel, rfl, rfl⟩⟩
theorem iX3_pass_77 : DLdA mX3_pass 77 0 78 := Or.inl ⟨0, by decide +kernel, rfl, rfl⟩
theorem iX3_pass_78 : DLdI mX3_pass 78 2 79 := Or.inl ⟨2, by decide +kernel, rfl, rfl⟩
theorem iX3_pass_79 : DLdA mX3_pass 79 1 80 := Or.inl ⟨1, by decide +kernel, rfl, rfl⟩
theorem iX3_pass_80 : DGet mX3_pass 80 2 5 83 := ⟨105, by decide +kernel, rfl, xf_RX3_105⟩
theorem iX3_pass_83 : DLdA mX3_pass 83 1 84 := Or.inl ⟨1, by decide +kernel, rfl, rfl⟩
theorem iX3_pass_84 : DGet mX3_pass 84 2 0 87 := ⟨67, by decide +kernel, rfl, xf_RX3_67⟩
theorem iX3_pass_87 : DLdI mX3_pass 87 2 88 := Or.inl ⟨2, by decide +kernel, rfl, rfl⟩
theorem iX3_pass_88 : D1 mX3_pass 88 .iaload 1 89 := ⟨by decide +kernel, rfl⟩
theorem iX3_pass_89 : DLdI mX3_pass 89 3 90 := Or.inl ⟨3, by decide +kernel, rfl, rfl⟩
theorem iX3_pass_90 : D1 mX3_pass 90 .isub 1 91 := ⟨by decide +kernel, rfl⟩
theorem iX3_pass_91 : DInvV mX3_pass 91 mX3_stung 3 3 94 := ⟨99, TX3, 10, by decide +kernel, rfl, rfl, xl_RX3_99, xi_X3_stung, xs_X3_stung, xm_X3_stung⟩
theorem iX3_pass_94 : DStI mX3_pass 94 4 96 := ⟨by decide, Or.inr ⟨by decide +kernel, rfl⟩⟩
theorem iX3_pass_96 : DLdA mX3_pass 96 1 97 := Or.inl ⟨1, by decide +kernel, rfl, rfl⟩
theorem iX3_pass_97 : D1 mX3_pass 97 .dup 1 98 := ⟨by decide +kernel, rfl⟩
theorem iX3_pass_98 : DGet mX3_pass 98 2 2 101 := ⟨111, by decide +kernel, rfl, xf_RX3_111⟩
theorem iX3_pass_101 : DLdI mX3_pass 101 3 102 := Or.inl ⟨3, by decide +kernel, rfl, rfl⟩
theorem iX3_pass_102 : D1 mX3_pass 102 .iadd 1 103 := ⟨by decide +kernel, rfl⟩
theorem iX3_pass_103 : DPut mX3_pass 103 2 2 .int 106 := ⟨111, by decide +kernel, rfl, RX2, TX2, 7, tyX2, rfl, by decide, bigW_at 73 (by decide +kernel) rfl, xw2, tyX2_ok, nmX2, rfl, Or.inl rfl⟩
theorem iX3_pass_106 : DLdA mX3_pass 106 1 107 := Or.inl ⟨1, by decide +kernel, rfl, rfl⟩
theorem iX3_pass_107 : D1 mX3_pass 107 .dup 1 108 := ⟨by decide +kernel, rfl⟩
theorem iX3_pass_108 : DGet mX3_pass 108 2 4 111 := ⟨114, by decide +kernel, rfl, xf_RX3_114⟩
theorem iX3_pass_111 : DLdI mX3_pass 111 4 113 := Or.inr ⟨by decide +kernel, rfl⟩
theorem iX3_pass_113 : D1 mX3_pass 113 .iadd 1 114 := ⟨by decide +kernel, rfl⟩
theorem iX3_pass_114 : DPut mX3_pass 114 2 4 .int 117 := ⟨114, by decide +kernel, rfl, RX2, TX2, 7, tyX2, rfl, by decide, bigW_at 79 (by decide +kernel) rfl, xw2, tyX2_ok, nmX2, rfl, Or.inl rfl⟩
theorem iX3_pass_117 : DLdA mX3_pass 117 1 118 := Or.inl ⟨1, by decide +kernel, rfl, rfl⟩
theorem iX3_pass_118 : DGet mX3_pass 118 2 0 121 := ⟨67, by decide +kernel, rfl, xf_RX3_67⟩
theorem iX3_pass_121 : DLdI mX3_pass 121 2 122 := Or.inl ⟨2, by decide +kernel, rfl, rfl⟩
theorem iX3_pass_122 : D1 mX3_pass 122 .dup2 1 123 := ⟨by decide +kernel, rfl⟩
theorem iX3_pass_123 : D1 mX3_pass 123 .iaload 1 124 := ⟨by decide +kernel, rfl⟩
theorem iX3_pass_124 : DLdI mX3_pass 124 3 125 := Or.inl ⟨3, by decide +kernel, rfl, rfl⟩
theorem iX3_pass_125 : DLdI mX3_pass 125 4 127 := Or.inr ⟨by decide +kernel, rfl⟩
theorem iX3_pass_127 : D1 mX3_pass 127 .iadd 1 128 := ⟨by decide +kernel, rfl⟩
theorem iX3_pass_128 : D1 mX3_pass 128 .isub 1 129 := ⟨by decide +kernel, rfl⟩
theorem iX3_pass_129 : D1 mX3_pass 129 .iastore 1 130 := ⟨by decide +kernel, rfl⟩
theorem iX3_pass_130 : DInc mX3_pass 130 2 1 133 := ⟨by decide, 1, by decide +kernel, by decide, rfl⟩
theorem iX3_pass_133 : DGo mX3_pass 133 44 := ⟨(-89), by decide +kernel, by decide⟩
theorem iX3_pass_136 : DLdA mX3_pass 136 1 137 := Or.inl ⟨1, by decide +kernel, rfl, rfl⟩
theorem iX3_pass_137 : D1 mX3_pass 137 .dup 1 138 := ⟨by decide +kernel, rfl⟩
theorem iX3_pass_138 : DGet mX3_pass 138 2 5 141 := ⟨105, by decide +kernel, rfl, xf_RX3_105⟩
theorem iX3_pass_141 : DPushI mX3_pass 141 1 142 := Or.inl ⟨1, by decide +kernel, by decide, rfl⟩
theorem iX3_pass_142 : D1 mX3_pass 142 .iadd 1 143 := ⟨by decide +kernel, rfl⟩
theorem iX3_pass_143 : DPut mX3_pass 143 2 5 .int 146 := ⟨105, by decide +kernel, rfl, RX2, TX2, 7, tyX2, rfl, by decide, bigW_at 82 (by decide +kernel) rfl, xw2, tyX2_ok, nmX2, rfl, Or.inl rfl⟩
theorem iX3_pass_146 : mX3_pass.2.2.2 = none ∧ decode mX3_pass.2.1 146 = .ok (.return_, 1) := ⟨rfl, by decide +kernel⟩
end
section
theorem iX3_plant_0 : DLdA mX3_plant 0 0 1 := Or.inl ⟨0, by decide +kernel, rfl, rfl⟩
theorem iX3_plant_1 : DGet mX3_plant 1 3 0 4 := ⟨52, by decide +kernel, rfl, xf_RX3_52⟩
theorem iX3_plant_4 : DPushI mX3_plant 4 6 6 := Or.inr (Or.inl ⟨6, by decide +kernel, by decide, rfl⟩)
theorem iX3_plant_6 : DCm mX3_plant 6 .lt 12 9 := ⟨6, by decide +kernel, by decide, rfl⟩
theorem iX3_plant_9 : DPushI mX3_plant 9 (-3) 11 := Or.inr (Or.inl ⟨(-3), by decide +kernel, by decide, rfl⟩)
theorem iX3_plant_11 : mX3_plant.2.2.2 = some .int ∧ decode mX3_plant.2.1 11 = .ok (.ireturn, 1) := ⟨rfl, by decide +kernel⟩
theorem iX3_plant_12 : DLdA mX3_plant 12 0 13 := Or.inl ⟨0, by decide +kernel, rfl, rfl⟩
theorem iX3_plant_13 : DGet mX3_plant 13 3 4 16 := ⟨18, by decide +kernel, rfl, xf_RX3_18⟩
theorem iX3_plant_16 : DLdA mX3_plant 16 0 17 := Or.inl ⟨0, by decide +kernel, rfl, rfl⟩
theorem iX3_plant_17 : DGet mX3_plant 17 3 0 20 := ⟨52, by decide +kernel, rfl, xf_RX3_52⟩
theorem iX3_plant_20 : DLdI mX3_plant 20 1 21 := Or.inl ⟨1, by decide +kernel, rfl, rfl⟩
theorem iX3_plant_21 : D1 mX3_plant 21 .iastore 1 22 := ⟨by decide +kernel, rfl⟩
theorem iX3_plant_22 : DLdA mX3_plant 22 0 23 := Or.inl ⟨0, by decide +kernel, rfl, rfl⟩
theorem iX3_plant_23 : DGet mX3_plant 23 3 5 26 := ⟨22, by decide +kernel, rfl, xf_RX3_22⟩
theorem iX3_plant_26 : DLdA mX3_plant 26 0 27 := Or.inl ⟨0, by decide +kernel, rfl, rfl⟩
theorem iX3_plant_27 : DGet mX3_plant 27 3 0 30 := ⟨52, by decide +kernel, rfl, xf_RX3_52⟩
theorem iX3_plant_30 : DLdI mX3_plant 30 3 31 := Or.inl ⟨3, by decide +kernel, rfl, rfl⟩
theorem iX3_plant_31 : D1 mX3_plant 31 .iastore 1 32 := ⟨by decide +kernel, rfl⟩
theorem iX3_plant_32 : DLdA mX3_plant 32 0 33 := Or.inl ⟨0, by decide +kernel, rfl, rfl⟩
theorem iX3_plant_33 : DGet mX3_plant 33 3 9 36 := ⟨37, by decide +kernel, rfl, xf_RX3_37⟩
theorem iX3_plant_36 : DGet mX3_plant 36 2 0 39 := ⟨67, by decide +kernel, rfl, xf_RX3_67⟩
theorem iX3_plant_39 : DLdA mX3_plant 39 0 40 := Or.inl ⟨0, by decide +kernel, rfl, rfl⟩
theorem iX3_plant_40 : DGet mX3_plant 40 3 0 43 := ⟨52, by decide +kernel, rfl, xf_RX3_52⟩
theorem iX3_plant_43 : DLdI mX3_plant 43 2 44 := Or.inl ⟨2, by decide +kernel, rfl, rfl⟩
theorem iX3_plant_44 : D1 mX3_plant 44 .iastore 1 45 := ⟨by decide +kernel, rfl⟩
theorem iX3_plant_45 : DLdA mX3_plant 45 0 46 := Or.inl ⟨0, by decide +kernel, rfl, rfl⟩
theorem iX3_plant_46 : D1 mX3_plant 46 .dup 1 47 := ⟨by decide +kernel, rfl⟩
theorem iX3_plant_47 : DGet mX3_plant 47 3 0 50 := ⟨52, by decide +kernel, rfl, xf_RX3_52⟩
theorem iX3_plant_50 : DPushI mX3_plant 50 1 51 := Or.inl ⟨1, by decide +kernel, by decide, rfl⟩
theorem iX3_plant_51 : D1 mX3_plant 51 .iadd 1 52 := ⟨by decide +kernel, rfl⟩
theorem iX3_plant_52 : DPut mX3_plant 52 3 0 .int 55 := ⟨52, by decide +kernel, rfl, RX3, TX3, 10, tyX3, rfl, by decide, bigW_at 103 (by decide +kernel) rfl, xw3, tyX3_ok, nmX3, rfl, Or.inl rfl⟩
theorem iX3_plant_55 : DLdA mX3_plant 55 0 56 := Or.inl ⟨0, by decide +kernel, rfl, rfl⟩
theorem iX3_plant_56 : DGet mX3_plant 56 3 0 59 := ⟨52, by decide +kernel, rfl, xf_RX3_52⟩
theorem iX3_plant_59 : DPushI mX3_plant 59 1 60 := Or.inl ⟨1, by decide +kernel, by decide, rfl⟩
theorem iX3_plant_60 : D1 mX3_plant 60 .isub 1 61 := ⟨by decide +kernel, rfl⟩
theorem iX3_plant_61 : mX3_plant.2.2.2 = some .int ∧ decode mX3_plant.2.1 61 = .ok (.ireturn, 1) := ⟨rfl, by decide +kernel⟩
theorem iX3_reach_0 : DLdA mX3_reach 0 0 1 := Or.inl ⟨0, by decide +kernel, rfl, rfl⟩
theorem iX3_reach_1 : DGet mX3_reach 1 3 6 4 := ⟨25, by decide +kernel, rfl, xf_RX3_25⟩
theorem iX3_reach_4 : DLdI mX3_reach 4 1 5 := Or.inl ⟨1, by decide +kernel, rfl, rfl⟩
theorem iX3_reach_5 : D1 mX3_reach 5 .iaload 1 6 := ⟨by decide +kernel, rfl⟩
theorem iX3_reach_6 : DLdA mX3_reach 6 0 7 := Or.inl ⟨0, by decide +kernel, rfl, rfl⟩
theorem iX3_reach_7 : DGet mX3_reach 7 3 7 10 := ⟨28, by decide +kernel, rfl, xf_RX3_28⟩
theorem iX3_reach_10 : DLdI mX3_reach 10 1 11 := Or.inl ⟨1, by decide +kernel, rfl, rfl⟩
theorem iX3_reach_11 : D1 mX3_reach 11 .iaload 1 12 := ⟨by decide +kernel, rfl⟩
theorem iX3_reach_12 : DLdI mX3_reach 12 2 13 := Or.inl ⟨2, by decide +kernel, rfl, rfl⟩
theorem iX3_reach_13 : DInvS mX3_reach 13 mX6_reachOfKind 3 16 := ⟨73, by decide +kernel, rfl, Or.inr ⟨"OrchardLadders", List.mem_of_getElem? (i := 4) rfl⟩, xt_X6_reachOfKind, xm_X6_reachOfKind⟩
theorem iX3_reach_16 : mX3_reach.2.2.2 = some .int ∧ decode mX3_reach.2.1 16 = .ok (.ireturn, 1) := ⟨rfl, by decide +kernel⟩
theorem iX3_reaching_0 : DPushI mX3_reaching 0 0 1 := Or.inl ⟨0, by decide +kernel, by decide, rfl⟩
theorem iX3_reaching_1 : DStI mX3_reaching 1 4 3 := ⟨by decide, Or.inr ⟨by decide +kernel, rfl⟩⟩
theorem iX3_reaching_3 : DPushI mX3_reaching 3 0 4 := Or.inl ⟨0, by decide +kernel, by decide, rfl⟩
theorem iX3_reaching_4 : DStI mX3_reaching 4 5 6 := ⟨by decide, Or.inr ⟨by decide +kernel, rfl⟩⟩
theorem iX3_reaching_6 : DLdI mX3_reaching 6 5 8 := Or.inr ⟨by decide +kernel, rfl⟩
theorem iX3_reaching_8 : DLdA mX3_reaching 8 0 9 := Or.inl ⟨0, by decide +kernel, rfl, rfl⟩
theorem iX3_reaching_9 : DGet mX3_reaching 9 3 1 12 := ⟨55, by decide +kernel, rfl, xf_RX3_55⟩
theorem iX3_reaching_12 : DCm mX3_reaching 12 .ge 66 15 := ⟨54, by decide +kernel, by decide, rfl⟩
theorem iX3_reaching_15 : DLdI mX3_reaching 15 3 16 := Or.inl ⟨3, by decide +kernel, rfl, rfl⟩
theorem iX3_reaching_16 : DLdI mX3_reaching 16 5 18 := Or.inr ⟨by decide +kernel, rfl⟩
theorem iX3_reaching_18 : D1 mX3_reaching 18 .ishr 1 19 := ⟨by decide +kernel, rfl⟩
theorem iX3_reaching_19 : DPushI mX3_reaching 19 1 20 := Or.inl ⟨1, by decide +kernel, by decide, rfl⟩
theorem iX3_reaching_20 : D1 mX3_reaching 20 .iand 1 21 := ⟨by decide +kernel, rfl⟩
theorem iX3_reaching_21 : DIf mX3_reaching 21 .eq 60 24 := ⟨39, by decide +kernel, by decide, rfl⟩
theorem iX3_reaching_24 : DLdA mX3_reaching 24 0 25 := Or.inl ⟨0, by decide +kernel, rfl, rfl⟩
theorem iX3_reaching_25 : DGet mX3_reaching 25 3 6 28 := ⟨25, by decide +kernel, rfl, xf_RX3_25⟩
theorem iX3_reaching_28 : DLdI mX3_reaching 28 5 30 := Or.inr ⟨by decide +kernel, rfl⟩
theorem iX3_reaching_30 : D1 mX3_reaching 30 .iaload 1 31 := ⟨by decide +kernel, rfl⟩
theorem iX3_reaching_31 : DLdA mX3_reaching 31 0 32 := Or.inl ⟨0, by decide +kernel, rfl, rfl⟩
theorem iX3_reaching_32 : DGet mX3_reaching 32 3 7 35 := ⟨28, by decide +kernel, rfl, xf_RX3_28⟩
theorem iX3_reaching_35 : DLdI mX3_reaching 35 5 37 := Or.inr ⟨by decide +kernel, rfl⟩
theorem iX3_reaching_37 : D1 mX3_reaching 37 .iaload 1 38 := ⟨by decide +kernel, rfl⟩
theorem iX3_reaching_38 : DLdI mX3_reaching 38 2 39 := Or.inl ⟨2, by decide +kernel, rfl, rfl⟩
theorem iX3_reaching_39 : DInvS mX3_reaching 39 mX6_reachOfKind 3 42 := ⟨73, by decide +kernel, rfl, Or.inr ⟨"OrchardLadders", List.mem_of_getElem? (i := 4) rfl⟩, xt_X6_reachOfKind, xm_X6_reachOfKind⟩
theorem iX3_reaching_42 : DLdA mX3_reaching 42 0 43 := Or.inl ⟨0, by decide +kernel, rfl, rfl⟩
theorem iX3_reaching_43 : DGet mX3_reaching 43 3 4 46 := ⟨18, by decide +kernel, rfl, xf_RX3_18⟩
theorem iX3_reaching_46 : DLdI mX3_reaching 46 1 47 := Or.inl ⟨1, by decide +kernel, rfl, rfl⟩
theorem iX3_reaching_47 : D1 mX3_reaching 47 .iaload 1 48 := ⟨by decide +kernel, rfl⟩
theorem iX3_reaching_48 : DCm mX3_reaching 48 .lt 60 51 := ⟨12, by decide +kernel, by decide, rfl⟩
theorem iX3_reaching_51 : DLdI mX3_reaching 51 4 53 := Or.inr ⟨by decide +kernel, rfl⟩
theorem iX3_reaching_53 : DPushI mX3_reaching 53 1 54 := Or.inl ⟨1, by decide +kernel, by decide, rfl⟩
theorem iX3_reaching_54 : DLdI mX3_reaching 54 5 56 := Or.inr ⟨by decide +kernel, rfl⟩
theorem iX3_reaching_56 : D1 mX3_reaching 56 .ishl 1 57 := ⟨by decide +kernel, rfl⟩
theorem iX3_reaching_57 : D1 mX3_reaching 57 .ior 1 58 := ⟨by decide +kernel, rfl⟩
theorem iX3_reaching_58 : DStI mX3_reaching 58 4 60 := ⟨by decide, Or.inr ⟨by decide +kernel, rfl⟩⟩
theorem iX3_reaching_60 : DInc mX3_reaching 60 5 1 63 := ⟨by decide, 1, by decide +kernel, by decide, rfl⟩
theorem iX3_reaching_63 : DGo mX3_reaching 63 6 := ⟨(-57), by decide +kernel, by decide⟩
theorem iX3_reaching_66 : DLdI mX3_reaching 66 4 68 := Or.inr ⟨by decide +kernel, rfl⟩
theorem iX3_reaching_68 : mX3_reaching.2.2.2 = some .int ∧ decode mX3_reaching.2.1 68 = .ok (.ireturn, 1) := ⟨rfl, by decide +kernel⟩
theorem iX3_stung_0 : DLdI mX3_stung 0 2 1 := Or.inl ⟨2, by decide +kernel, rfl, rfl⟩
theorem iX3_stung_1 : DLdA mX3_stung 1 0 2 := Or.inl ⟨0, by decide +kernel, rfl, rfl⟩
theorem iX3_stung_2 : DGet mX3_stung 2 3 5 5 := ⟨22, by decide +kernel, rfl, xf_RX3_22⟩
theorem iX3_stung_5 : DLdI mX3_stung 5 1 6 := Or.inl ⟨1, by decide +kernel, rfl, rfl⟩
theorem iX3_stung_6 : D1 mX3_stung 6 .iaload 1 7 := ⟨by decide +kernel, rfl⟩
theorem iX3_stung_7 : DCm mX3_stung 7 .ge 14 10 := ⟨7, by decide +kernel, by decide, rfl⟩
theorem iX3_stung_10 : DPushI mX3_stung 10 0 11 := Or.inl ⟨0, by decide +kernel, by decide, rfl⟩
theorem iX3_stung_11 : DGo mX3_stung 11 22 := ⟨11, by decide +kernel, by decide⟩
theorem iX3_stung_14 : DLdI mX3_stung 14 3 15 := Or.inl ⟨3, by decide +kernel, rfl, rfl⟩
theorem iX3_stung_15 : DLdA mX3_stung 15 0 16 := Or.inl ⟨0, by decide +kernel, rfl, rfl⟩
theorem iX3_stung_16 : DGet mX3_stung 16 3 3 19 := ⟨15, by decide +kernel, rfl, xf_RX3_15⟩
theorem iX3_stung_19 : DMin mX3_stung 19 22 := ⟨90, by decide +kernel, rfl, xl_RX3_90, xl_ms_min, xl_mi, xl_mc_min⟩
theorem iX3_stung_22 : mX3_stung.2.2.2 = some .int ∧ decode mX3_stung.2.1 22 = .ok (.ireturn, 1) := ⟨rfl, by decide +kernel⟩
theorem iX3_takeOver_0 : DLdA mX3_takeOver 0 0 1 := Or.inl ⟨0, by decide +kernel, rfl, rfl⟩
theorem iX3_takeOver_1 : DGet mX3_takeOver 1 3 9 4 := ⟨37, by decide +kernel, rfl, xf_RX3_37⟩
theorem iX3_takeOver_4 : DGet mX3_takeOver 4 2 6 7 := ⟨49, by decide +kernel, rfl, xf_RX3_49⟩
theorem iX3_takeOver_7 : DStI mX3_takeOver 7 2 8 := ⟨by decide, Or.inl ⟨2, by decide +kernel, rfl, rfl⟩⟩
theorem iX3_takeOver_8 : DLdA mX3_takeOver 8 0 9 := Or.inl ⟨0, by decide +kernel, rfl, rfl⟩
theorem iX3_takeOver_9 : DLdA mX3_takeOver 9 1 10 := Or.inl ⟨1, by decide +kernel, rfl, rfl⟩
theorem iX3_takeOver_10 : DInvV mX3_takeOver 10 mX3_becomeTreesAndLadders 3 1 13 := ⟨41, TX3, 10, by decide +kernel, rfl, rfl, xl_RX3_41, xi_X3_becomeTreesAndLadders, xs_X3_becomeTreesAndLadders, xm_X3_becomeTreesAndLadders⟩
theorem iX3_takeOver_13 : DLdA mX3_takeOver 13 0 14 := Or.inl ⟨0, by decide +kernel, rfl, rfl⟩
theorem iX3_takeOver_14 : DGet mX3_takeOver 14 3 9 17 := ⟨37, by decide +kernel, rfl, xf_RX3_37⟩
theorem iX3_takeOver_17 : DLdA mX3_takeOver 17 1 18 := Or.inl ⟨1, by decide +kernel, rfl, rfl⟩
theorem iX3_takeOver_18 : DGet mX3_takeOver 18 3 9 21 := ⟨37, by decide +kernel, rfl, xf_RX3_37⟩
theorem iX3_takeOver_21 : DInvV mX3_takeOver 21 mX2_become 2 1 24 := ⟨45, TX2, 7, by decide +kernel, rfl, rfl, xl_RX3_45, xi_X2_become, xs_X2_become, xm_X2_become⟩
theorem iX3_takeOver_24 : DLdA mX3_takeOver 24 0 25 := Or.inl ⟨0, by decide +kernel, rfl, rfl⟩
theorem iX3_takeOver_25 : DGet mX3_takeOver 25 3 9 28 := ⟨37, by decide +kernel, rfl, xf_RX3_37⟩
theorem iX3_takeOver_28 : DLdI mX3_takeOver 28 2 29 := Or.inl ⟨2, by decide +kernel, rfl, rfl⟩
theorem iX3_takeOver_29 : DPut mX3_takeOver 29 2 6 .int 32 := ⟨49, by decide +kernel, rfl, RX2, TX2, 7, tyX2, rfl, by decide, bigW_at 84 (by decide +kernel) rfl, xw2, tyX2_ok, nmX2, rfl, Or.inl rfl⟩
theorem iX3_takeOver_32 : mX3_takeOver.2.2.2 = none ∧ decode mX3_takeOver.2.1 32 = .ok (.return_, 1) := ⟨rfl, by decide +kernel⟩
theorem iX3_taken_0 : DLdI mX3_taken 0 2 1 := Or.inl ⟨2, by decide +kernel, rfl, rfl⟩
theorem iX3_taken_1 : DLdA mX3_taken 1 0 2 := Or.inl ⟨0, by decide +kernel, rfl, rfl⟩
theorem iX3_taken_2 : DGet mX3_taken 2 3 5 5 := ⟨22, by decide +kernel, rfl, xf_RX3_22⟩
theorem iX3_taken_5 : DLdI mX3_taken 5 1 6 := Or.inl ⟨1, by decide +kernel, rfl, rfl⟩
theorem iX3_taken_6 : D1 mX3_taken 6 .iaload 1 7 := ⟨by decide +kernel, rfl⟩
theorem iX3_taken_7 : DCm mX3_taken 7 .ge 12 10 := ⟨5, by decide +kernel, by decide, rfl⟩
theorem iX3_taken_10 : DPushI mX3_taken 10 0 11 := Or.inl ⟨0, by decide +kernel, by decide, rfl⟩
theorem iX3_taken_11 : mX3_taken.2.2.2 = some .int ∧ decode mX3_taken.2.1 11 = .ok (.ireturn, 1) := ⟨rfl, by decide +kernel⟩
theorem iX3_taken_12 : DLdI mX3_taken 12 4 14 := Or.inr ⟨by decide +kernel, rfl⟩
theorem iX3_taken_14 : DLdI mX3_taken 14 5 16 := Or.inr ⟨by decide +kernel, rfl⟩
theorem iX3_taken_16 : DLdA mX3_taken 16 0 17 := Or.inl ⟨0, by decide +kernel, rfl, rfl⟩
theorem iX3_taken_17 : DLdI mX3_taken 17 1 18 := Or.inl ⟨1, by decide +kernel, rfl, rfl⟩
theorem iX3_taken_18 : DLdI mX3_taken 18 2 19 := Or.inl ⟨2, by decide +kernel, rfl, rfl⟩
theorem iX3_taken_19 : DLdI mX3_taken 19 3 20 := Or.inl ⟨3, by decide +kernel, rfl, rfl⟩
theorem iX3_taken_20 : DInvV mX3_taken 20 mX3_reaching 3 3 23 := ⟨81, TX3, 10, by decide +kernel, rfl, rfl, xl_RX3_81, xi_X3_reaching, xs_X3_reaching, xm_X3_reaching⟩
theorem iX3_taken_23 : DInvS mX3_taken 23 mJ6_bitCount_0f7a4 1 26 := ⟨84, by decide +kernel, rfl, Or.inl xl_RX3_84, xt_J6_bitCount_0f7a4, xm_J6_bitCount_0f7a4⟩
theorem iX3_taken_26 : D1 mX3_taken 26 .imul 1 27 := ⟨by decide +kernel, rfl⟩
theorem iX3_taken_27 : DMin mX3_taken 27 30 := ⟨90, by decide +kernel, rfl, xl_RX3_90, xl_ms_min, xl_mi, xl_mc_min⟩
theorem iX3_taken_30 : mX3_taken.2.2.2 = some .int ∧ decode mX3_taken.2.1 30 = .ok (.ireturn, 1) := ⟨rfl, by decide +kernel⟩
theorem iX3_treesInReach_0 : DLdA mX3_treesInReach 0 0 1 := Or.inl ⟨0, by decide +kernel, rfl, rfl⟩
theorem iX3_treesInReach_1 : DLdI mX3_treesInReach 1 1 2 := Or.inl ⟨1, by decide +kernel, rfl, rfl⟩
theorem iX3_treesInReach_2 : DLdI mX3_treesInReach 2 2 3 := Or.inl ⟨2, by decide +kernel, rfl, rfl⟩
theorem iX3_treesInReach_3 : DInvV mX3_treesInReach 3 mX3_reach 3 2 6 := ⟨77, TX3, 10, by decide +kernel, rfl, rfl, xl_RX3_77, xi_X3_reach, xs_X3_reach, xm_X3_reach⟩
theorem iX3_treesInReach_6 : DStI mX3_treesInReach 6 3 7 := ⟨by decide, Or.inl ⟨3, by decide +kernel, rfl, rfl⟩⟩
theorem iX3_treesInReach_7 : DPushI mX3_treesInReach 7 0 8 := Or.inl ⟨0, by decide +kernel, by decide, rfl⟩
theorem iX3_treesInReach_8 : DStI mX3_treesInReach 8 4 10 := ⟨by decide, Or.inr ⟨by decide +kernel, rfl⟩⟩
theorem iX3_treesInReach_10 : DPushI mX3_treesInReach 10 0 11 := Or.inl ⟨0, by decide +kernel, by decide, rfl⟩
theorem iX3_treesInReach_11 : DStI mX3_treesInReach 11 5 13 := ⟨by decide, Or.inr ⟨by decide +kernel, rfl⟩⟩
theorem iX3_treesInReach_13 : DLdI mX3_treesInReach 13 5 15 := Or.inr ⟨by decide +kernel, rfl⟩
theorem iX3_treesInReach_15 : DLdA mX3_treesInReach 15 0 16 := Or.inl ⟨0, by decide +kernel, rfl, rfl⟩
theorem iX3_treesInReach_16 : DGet mX3_treesInReach 16 3 0 19 := ⟨52, by decide +kernel, rfl, xf_RX3_52⟩
theorem iX3_treesInReach_19 : DCm mX3_treesInReach 19 .ge 48 22 := ⟨29, by decide +kernel, by decide, rfl⟩
theorem iX3_treesInReach_22 : DLdI mX3_treesInReach 22 3 23 := Or.inl ⟨3, by decide +kernel, rfl, rfl⟩
theorem iX3_treesInReach_23 : DLdA mX3_treesInReach 23 0 24 := Or.inl ⟨0, by decide +kernel, rfl, rfl⟩
theorem iX3_treesInReach_24 : DGet mX3_treesInReach 24 3 4 27 := ⟨18, by decide +kernel, rfl, xf_RX3_18⟩
theorem iX3_treesInReach_27 : DLdI mX3_treesInReach 27 5 29 := Or.inr ⟨by decide +kernel, rfl⟩
theorem iX3_treesInReach_29 : D1 mX3_treesInReach 29 .iaload 1 30 := ⟨by decide +kernel, rfl⟩
theorem iX3_treesInReach_30 : DCm mX3_treesInReach 30 .lt 42 33 := ⟨12, by decide +kernel, by decide, rfl⟩
theorem iX3_treesInReach_33 : DLdI mX3_treesInReach 33 4 35 := Or.inr ⟨by decide +kernel, rfl⟩
theorem iX3_treesInReach_35 : DPushI mX3_treesInReach 35 1 36 := Or.inl ⟨1, by decide +kernel, by decide, rfl⟩
theorem iX3_treesInReach_36 : DLdI mX3_treesInReach 36 5 38 := Or.inr ⟨by decide +kernel, rfl⟩
theorem iX3_treesInReach_38 : D1 mX3_treesInReach 38 .ishl 1 39 := ⟨by decide +kernel, rfl⟩
theorem iX3_treesInReach_39 : D1 mX3_treesInReach 39 .ior 1 40 := ⟨by decide +kernel, rfl⟩
theorem iX3_treesInReach_40 : DStI mX3_treesInReach 40 4 42 := ⟨by decide, Or.inr ⟨by decide +kernel, rfl⟩⟩
theorem iX3_treesInReach_42 : DInc mX3_treesInReach 42 5 1 45 := ⟨by decide, 1, by decide +kernel, by decide, rfl⟩
theorem iX3_treesInReach_45 : DGo mX3_treesInReach 45 13 := ⟨(-32), by decide +kernel, by decide⟩
theorem iX3_treesInReach_48 : DLdI mX3_treesInReach 48 4 50 := Or.inr ⟨by decide +kernel, rfl⟩
theorem iX3_treesInReach_50 : mX3_treesInReach.2.2.2 = some .int ∧ decode mX3_treesInReach.2.1 50 = .ok (.ireturn, 1) := ⟨rfl, by decide +kernel⟩
theorem iX4_begin_0 : DLdA mX4_begin 0 0 1 := Or.inl ⟨0, by decide +kernel, rfl, rfl⟩
theorem iX4_begin_1 : DLdI mX4_begin 1 1 2 := Or.inl ⟨1, by decide +kernel, rfl, rfl⟩
theorem iX4_begin_2 : DPut mX4_begin 2 4 1 .int 5 := ⟨15, by decide +kernel, rfl, RX4, TX4, 3, tyX4, rfl, by decide, bigW_at 216 (by decide +kernel) rfl, xw4, tyX4_ok, nmX4, rfl, Or.inl rfl⟩
theorem iX4_begin_5 : DLdA mX4_begin 5 0 6 := Or.inl ⟨0, by decide +kernel, rfl, rfl⟩
theorem iX4_begin_6 : DLdI mX4_begin 6 2 7 := Or.inl ⟨2, by decide +kernel, rfl, rfl⟩
theorem iX4_begin_7 : DPut mX4_begin 7 4 2 .int 10 := ⟨19, by decide +kernel, rfl, RX4, TX4, 3, tyX4, rfl, by decide, bigW_at 218 (by decide +kernel) rfl, xw4, tyX4_ok, nmX4, rfl, Or.inl rfl⟩
theorem iX4_begin_10 : DPushI mX4_begin 10 0 11 := Or.inl ⟨0, by decide +kernel, by decide, rfl⟩
theorem iX4_begin_11 : DStI mX4_begin 11 3 12 := ⟨by decide, Or.inl ⟨3, by decide +kernel, rfl, rfl⟩⟩
theorem iX4_begin_12 : DLdI mX4_begin 12 3 13 := Or.inl ⟨3, by decide +kernel, rfl, rfl⟩
theorem iX4_begin_13 : DPushI mX4_begin 13 24 15 := Or.inr (Or.inl ⟨24, by decide +kernel, by decide, rfl⟩)
theorem iX4_begin_15 : DCm mX4_begin 15 .ge 31 18 := ⟨16, by decide +kernel, by decide, rfl⟩
theorem iX4_begin_18 : DLdA mX4_begin 18 0 19 := Or.inl ⟨0, by decide +kernel, rfl, rfl⟩
theorem iX4_begin_19 : DGet mX4_begin 19 4 0 22 := ⟨9, by decide +kernel, rfl, xf_RX4_9⟩
theorem iX4_begin_22 : DLdI mX4_begin 22 3 23 := Or.inl ⟨3, by decide +kernel, rfl, rfl⟩
theorem iX4_begin_23 : DPushL mX4_begin 23 0 24 := Or.inl ⟨0, by decide +kernel, by decide, rfl⟩
theorem iX4_begin_24 : D1 mX4_begin 24 .lastore 1 25 := ⟨by decide +kernel, rfl⟩
theorem iX4_begin_25 : DInc mX4_begin 25 3 1 28 := ⟨by decide, 1, by decide +kernel, by decide, rfl⟩
theorem iX4_begin_28 : DGo mX4_begin 28 12 := ⟨(-16), by decide +kernel, by decide⟩
theorem iX4_begin_31 : mX4_begin.2.2.2 = none ∧ decode mX4_begin.2.1 31 = .ok (.return_, 1) := ⟨rfl, by decide +kernel⟩
theorem iX4_find_0 : DLdA mX4_find 0 0 1 := Or.inl ⟨0, by decide +kernel, rfl, rfl⟩
theorem iX4_find_1 : DGet mX4_find 1 4 1 4 := ⟨15, by decide +kernel, rfl, xf_RX4_15⟩
theorem iX4_find_4 : DPushI mX4_find 4 (-1) 5 := Or.inl ⟨(-1), by decide +kernel, by decide, rfl⟩
theorem iX4_find_5 : DCm mX4_find 5 .ne 11 8 := ⟨6, by decide +kernel, by decide, rfl⟩
theorem iX4_find_8 : DPushI mX4_find 8 (-11) 10 := Or.inr (Or.inl ⟨(-11), by decide +kernel, by decide, rfl⟩)
theorem iX4_find_10 : mX4_find.2.2.2 = some .int ∧ decode mX4_find.2.1 10 = .ok (.ireturn, 1) := ⟨rfl, by decide +kernel⟩
theorem iX4_find_11 : DLdA mX4_find 11 0 12 := Or.inl ⟨0, by decide +kernel, rfl, rfl⟩
theorem iX4_find_12 : DGet mX4_find 12 4 1 15 := ⟨15, by decide +kernel, rfl, xf_RX4_15⟩
theorem iX4_find_15 : DLdI mX4_find 15 1 16 := Or.inl ⟨1, by decide +kernel, rfl, rfl⟩
theorem iX4_find_16 : DCm mX4_find 16 .eq 22 19 := ⟨6, by decide +kernel, by decide, rfl⟩
theorem iX4_find_19 : DPushI mX4_find 19 (-12) 21 := Or.inr (Or.inl ⟨(-12), by decide +kernel, by decide, rfl⟩)
theorem iX4_find_21 : mX4_find.2.2.2 = some .int ∧ decode mX4_find.2.1 21 = .ok (.ireturn, 1) := ⟨rfl, by decide +kernel⟩
theorem iX4_find_22 : DLdA mX4_find 22 0 23 := Or.inl ⟨0, by decide +kernel, rfl, rfl⟩
theorem iX4_find_23 : DLdI mX4_find 23 2 24 := Or.inl ⟨2, by decide +kernel, rfl, rfl⟩
theorem iX4_find_24 : DLdI mX4_find 24 3 25 := Or.inl ⟨3, by decide +kernel, rfl, rfl⟩
theorem iX4_find_25 : DInvV mX4_find 25 mX4_holds 4 2 28 := ⟨22, TX4, 3, by decide +kernel, rfl, rfl, xl_RX4_22, xi_X4_holds, xs_X4_holds, xm_X4_holds⟩
theorem iX4_find_28 : DIf mX4_find 28 .eq 35 31 := ⟨7, by decide +kernel, by decide, rfl⟩
theorem iX4_find_31 : DPushI mX4_find 31 0 32 := Or.inl ⟨0, by decide +kernel, by decide, rfl⟩
theorem iX4_find_32 : DGo mX4_find 32 37 := ⟨5, by decide +kernel, by decide⟩
theorem iX4_find_35 : DPushI mX4_find 35 (-13) 37 := Or.inr (Or.inl ⟨(-13), by decide +kernel, by decide, rfl⟩)
theorem iX4_find_37 : mX4_find.2.2.2 = some .int ∧ decode mX4_find.2.1 37 = .ok (.ireturn, 1) := ⟨rfl, by decide +kernel⟩
theorem iX4_holds_0 : DLdI mX4_holds 0 1 1 := Or.inl ⟨1, by decide +kernel, rfl, rfl⟩
theorem iX4_holds_1 : DIf mX4_holds 1 .lt 22 4 := ⟨21, by decide +kernel, by decide, rfl⟩
theorem iX4_holds_4 : DLdI mX4_holds 4 2 5 := Or.inl ⟨2, by decide +kernel, rfl, rfl⟩
theorem iX4_holds_5 : DIf mX4_holds 5 .lt 22 8 := ⟨17, by decide +kernel, by decide, rfl⟩
theorem iX4_holds_8 : DLdI mX4_holds 8 1 9 := Or.inl ⟨1, by decide +kernel, rfl, rfl⟩
theorem iX4_holds_9 : DLdA mX4_holds 9 0 10 := Or.inl ⟨0, by decide +kernel, rfl, rfl⟩
theorem iX4_holds_10 : DGet mX4_holds 10 4 2 13 := ⟨19, by decide +kernel, rfl, xf_RX4_19⟩
theorem iX4_holds_13 : DLdI mX4_holds 13 2 14 := Or.inl ⟨2, by decide +kernel, rfl, rfl⟩
theorem iX4_holds_14 : D1 mX4_holds 14 .isub 1 15 := ⟨by decide +kernel, rfl⟩
theorem iX4_holds_15 : DCm mX4_holds 15 .gt 22 18 := ⟨7, by decide +kernel, by decide, rfl⟩
theorem iX4_holds_18 : DPushI mX4_holds 18 1 19 := Or.inl ⟨1, by decide +kernel, by decide, rfl⟩
theorem iX4_holds_19 : DGo mX4_holds 19 23 := ⟨4, by decide +kernel, by decide⟩
theorem iX4_holds_22 : DPushI mX4_holds 22 0 23 := Or.inl ⟨0, by decide +kernel, by decide, rfl⟩
theorem iX4_holds_23 : mX4_holds.2.2.2 = some .boolean ∧ decode mX4_holds.2.1 23 = .ok (.ireturn, 1) := ⟨rfl, by decide +kernel⟩
theorem iX4_init_0 : DLdA mX4_init 0 0 1 := Or.inl ⟨0, by decide +kernel, rfl, rfl⟩
theorem iX4_init_1 : DObj mX4_init 1 4 := ⟨3, by decide +kernel, rfl, xl_RX4_3, xl_objI, xl_objC⟩
theorem iX4_init_4 : DLdA mX4_init 4 0 5 := Or.inl ⟨0, by decide +kernel, rfl, rfl⟩
theorem iX4_init_5 : DPushI mX4_init 5 24 7 := Or.inr (Or.inl ⟨24, by decide +kernel, by decide, rfl⟩)
theorem iX4_init_7 : DNewA mX4_init 7 .long 9 := ⟨.long, by decide +kernel, rfl, xq_long, rfl⟩
theorem iX4_init_9 : DPut mX4_init 9 4 0 (.array .long) 12 := ⟨9, by decide +kernel, rfl, RX4, TX4, 3, tyX4, rfl, by decide, bigW_at 214 (by decide +kernel) rfl, xw4, tyX4_ok, nmX4, rfl, Or.inr ⟨rfl, rfl, rfl⟩⟩
theorem iX4_init_12 : DLdA mX4_init 12 0 13 := Or.inl ⟨0, by decide +kernel, rfl, rfl⟩
theorem iX4_init_13 : DPushI mX4_init 13 (-1) 14 := Or.inl ⟨(-1), by decide +kernel, by decide, rfl⟩
theorem iX4_init_14 : DPut mX4_init 14 4 1 .int 17 := ⟨15, by decide +kernel, rfl, RX4, TX4, 3, tyX4, rfl, by decide, bigW_at 216 (by decide +kernel) rfl, xw4, tyX4_ok, nmX4, rfl, Or.inl rfl⟩
theorem iX4_init_17 : mX4_init.2.2.2 = none ∧ decode mX4_init.2.1 17 = .ok (.return_, 1) := ⟨rfl, by decide +kernel⟩
theorem iX4_put_0 : DLdA mX4_put 0 0 1 := Or.inl ⟨0, by decide +kernel, rfl, rfl⟩
theorem iX4_put_1 : DGet mX4_put 1 4 1 4 := ⟨15, by decide +kernel, rfl, xf_RX4_15⟩
theorem iX4_put_4 : DTab mX4_put 4 0 [32, 45, 58] 70 := ⟨66, 2, #[28, 41, 54], 28, by decide +kernel, by decide, by decide, by decide⟩
theorem iX4_put_32 : DLdA mX4_put 32 0 33 := Or.inl ⟨0, by decide +kernel, rfl, rfl⟩
theorem iX4_put_33 : DGet mX4_put 33 4 0 36 := ⟨9, by decide +kernel, rfl, xf_RX4_9⟩
theorem iX4_put_36 : DLdI mX4_put 36 1 37 := Or.inl ⟨1, by decide +kernel, rfl, rfl⟩
theorem iX4_put_37 : DLdL mX4_put 37 2 38 := Or.inl ⟨2, by decide +kernel, rfl, rfl⟩
theorem iX4_put_38 : D1 mX4_put 38 .l2i 1 39 := ⟨by decide +kernel, rfl⟩
theorem iX4_put_39 : D1 mX4_put 39 .i2b 1 40 := ⟨by decide +kernel, rfl⟩
theorem iX4_put_40 : D1 mX4_put 40 .i2l 1 41 := ⟨by decide +kernel, rfl⟩
theorem iX4_put_41 : D1 mX4_put 41 .lastore 1 42 := ⟨by decide +kernel, rfl⟩
theorem iX4_put_42 : DGo mX4_put 42 77 := ⟨35, by decide +kernel, by decide⟩
theorem iX4_put_45 : DLdA mX4_put 45 0 46 := Or.inl ⟨0, by decide +kernel, rfl, rfl⟩
theorem iX4_put_46 : DGet mX4_put 46 4 0 49 := ⟨9, by decide +kernel, rfl, xf_RX4_9⟩
theorem iX4_put_49 : DLdI mX4_put 49 1 50 := Or.inl ⟨1, by decide +kernel, rfl, rfl⟩
theorem iX4_put_50 : DLdL mX4_put 50 2 51 := Or.inl ⟨2, by decide +kernel, rfl, rfl⟩
theorem iX4_put_51 : D1 mX4_put 51 .l2i 1 52 := ⟨by decide +kernel, rfl⟩
theorem iX4_put_52 : D1 mX4_put 52 .i2s 1 53 := ⟨by decide +kernel, rfl⟩
theorem iX4_put_53 : D1 mX4_put 53 .i2l 1 54 := ⟨by decide +kernel, rfl⟩
theorem iX4_put_54 : D1 mX4_put 54 .lastore 1 55 := ⟨by decide +kernel, rfl⟩
theorem iX4_put_55 : DGo mX4_put 55 77 := ⟨22, by decide +kernel, by decide⟩
theorem iX4_put_58 : DLdA mX4_put 58 0 59 := Or.inl ⟨0, by decide +kernel, rfl, rfl⟩
theorem iX4_put_59 : DGet mX4_put 59 4 0 62 := ⟨9, by decide +kernel, rfl, xf_RX4_9⟩
theorem iX4_put_62 : DLdI mX4_put 62 1 63 := Or.inl ⟨1, by decide +kernel, rfl, rfl⟩
theorem iX4_put_63 : DLdL mX4_put 63 2 64 := Or.inl ⟨2, by decide +kernel, rfl, rfl⟩
theorem iX4_put_64 : D1 mX4_put 64 .l2i 1 65 := ⟨by decide +kernel, rfl⟩
theorem iX4_put_65 : D1 mX4_put 65 .i2l 1 66 := ⟨by decide +kernel, rfl⟩
theorem iX4_put_66 : D1 mX4_put 66 .lastore 1 67 := ⟨by decide +kernel, rfl⟩
theorem iX4_put_67 : DGo mX4_put 67 77 := ⟨10, by decide +kernel, by decide⟩
theorem iX4_put_70 : DLdA mX4_put 70 0 71 := Or.inl ⟨0, by decide +kernel, rfl, rfl⟩
theorem iX4_put_71 : DGet mX4_put 71 4 0 74 := ⟨9, by decide +kernel, rfl, xf_RX4_9⟩
theorem iX4_put_74 : DLdI mX4_put 74 1 75 := Or.inl ⟨1, by decide +kernel, rfl, rfl⟩
theorem iX4_put_75 : DLdL mX4_put 75 2 76 := Or.inl ⟨2, by decide +kernel, rfl, rfl⟩
theorem iX4_put_76 : D1 mX4_put 76 .lastore 1 77 := ⟨by decide +kernel, rfl⟩
theorem iX4_put_77 : mX4_put.2.2.2 = none ∧ decode mX4_put.2.1 77 = .ok (.return_, 1) := ⟨rfl, by decide +kernel⟩
theorem iX5_append_0 : DLdA mX5_append 0 0 1 := Or.inl ⟨0, by decide +kernel, rfl, rfl⟩
theorem iX5_append_1 : DGet mX5_append 1 5 1 4 := ⟨15, by decide +kernel, rfl, xf_RX5_15⟩
theorem iX5_append_4 : DPushI mX5_append 4 90 6 := Or.inr (Or.inl ⟨90, by decide +kernel, by decide, rfl⟩)
theorem iX5_append_6 : DCm mX5_append 6 .lt 12 9 := ⟨6, by decide +kernel, by decide, rfl⟩
theorem iX5_append_9 : DPushI mX5_append 9 (-3) 11 := Or.inr (Or.inl ⟨(-3), by decide +kernel, by decide, rfl⟩)
theorem iX5_append_11 : mX5_append.2.2.2 = some .int ∧ decode mX5_append.2.1 11 = .ok (.ireturn, 1) := ⟨rfl, by decide +kernel⟩
theorem iX5_append_12 : DLdA mX5_append 12 0 13 := Or.inl ⟨0, by decide +kernel, rfl, rfl⟩
theorem iX5_append_13 : DGet mX5_append 13 5 0 16 := ⟨9, by decide +kernel, rfl, xf_RX5_9⟩
theorem iX5_append_16 : DLdA mX5_append 16 0 17 := Or.inl ⟨0, by decide +kernel, rfl, rfl⟩
theorem iX5_append_17 : DGet mX5_append 17 5 1 20 := ⟨15, by decide +kernel, rfl, xf_RX5_15⟩
theorem iX5_append_20 : DLdI mX5_append 20 1 21 := Or.inl ⟨1, by decide +kernel, rfl, rfl⟩
theorem iX5_append_21 : D1 mX5_append 21 .castore 1 22 := ⟨by decide +kernel, rfl⟩
theorem iX5_append_22 : DLdA mX5_append 22 0 23 := Or.inl ⟨0, by decide +kernel, rfl, rfl⟩
theorem iX5_append_23 : D1 mX5_append 23 .dup 1 24 := ⟨by decide +kernel, rfl⟩
theorem iX5_append_24 : DGet mX5_append 24 5 1 27 := ⟨15, by decide +kernel, rfl, xf_RX5_15⟩
theorem iX5_append_27 : DPushI mX5_append 27 1 28 := Or.inl ⟨1, by decide +kernel, by decide, rfl⟩
theorem iX5_append_28 : D1 mX5_append 28 .iadd 1 29 := ⟨by decide +kernel, rfl⟩
theorem iX5_append_29 : DPut mX5_append 29 5 1 .int 32 := ⟨15, by decide +kernel, rfl, RX5, TX5, 4, tyX5, rfl, by decide, bigW_at 169 (by decide +kernel) rfl, xw5, tyX5_ok, nmX5, rfl, Or.inl rfl⟩
theorem iX5_append_32 : DLdA mX5_append 32 0 33 := Or.inl ⟨0, by decide +kernel, rfl, rfl⟩
theorem iX5_append_33 : DGet mX5_append 33 5 1 36 := ⟨15, by decide +kernel, rfl, xf_RX5_15⟩
theorem iX5_append_36 : mX5_append.2.2.2 = some .int ∧ decode mX5_append.2.1 36 = .ok (.ireturn, 1) := ⟨rfl, by decide +kernel⟩
theorem iX5_demand_0 : DLdA mX5_demand 0 0 1 := Or.inl ⟨0, by decide +kernel, rfl, rfl⟩
theorem iX5_demand_1 : DGet mX5_demand 1 5 3 4 := ⟨22, by decide +kernel, rfl, xf_RX5_22⟩
theorem iX5_demand_4 : DIf mX5_demand 4 .ne 23 7 := ⟨19, by decide +kernel, by decide, rfl⟩
theorem iX5_demand_7 : DLdA mX5_demand 7 0 8 := Or.inl ⟨0, by decide +kernel, rfl, rfl⟩
theorem iX5_demand_8 : DLdI mX5_demand 8 1 9 := Or.inl ⟨1, by decide +kernel, rfl, rfl⟩
theorem iX5_demand_9 : DInvV mX5_demand 9 mX5_passes 5 1 12 := ⟨34, TX5, 4, by decide +kernel, rfl, rfl, xl_RX5_34, xi_X5_passes, xs_X5_passes, xm_X5_passes⟩
theorem iX5_demand_12 : DIf mX5_demand 12 .ne 23 15 := ⟨11, by decide +kernel, by decide, rfl⟩
theorem iX5_demand_15 : DLdA mX5_demand 15 0 16 := Or.inl ⟨0, by decide +kernel, rfl, rfl⟩
theorem iX5_demand_16 : DLdA mX5_demand 16 0 17 := Or.inl ⟨0, by decide +kernel, rfl, rfl⟩
theorem iX5_demand_17 : DGet mX5_demand 17 5 2 20 := ⟨19, by decide +kernel, rfl, xf_RX5_19⟩
theorem iX5_demand_20 : DInvV mX5_demand 20 mX5_fail 5 1 23 := ⟨45, TX5, 4, by decide +kernel, rfl, rfl, xl_RX5_45, xi_X5_fail, xs_X5_fail, xm_X5_fail⟩
theorem iX5_demand_23 : mX5_demand.2.2.2 = none ∧ decode mX5_demand.2.1 23 = .ok (.return_, 1) := ⟨rfl, by decide +kernel⟩
theorem iX5_digit_0 : DLdA mX5_digit 0 0 1 := Or.inl ⟨0, by decide +kernel, rfl, rfl⟩
theorem iX5_digit_1 : DGet mX5_digit 1 5 3 4 := ⟨22, by decide +kernel, rfl, xf_RX5_22⟩
theorem iX5_digit_4 : DIf mX5_digit 4 .eq 9 7 := ⟨5, by decide +kernel, by decide, rfl⟩
theorem iX5_digit_7 : DPushI mX5_digit 7 0 8 := Or.inl ⟨0, by decide +kernel, by decide, rfl⟩
theorem iX5_digit_8 : mX5_digit.2.2.2 = some .int ∧ decode mX5_digit.2.1 8 = .ok (.ireturn, 1) := ⟨rfl, by decide +kernel⟩
theorem iX5_digit_9 : DLdA mX5_digit 9 0 10 := Or.inl ⟨0, by decide +kernel, rfl, rfl⟩
theorem iX5_digit_10 : DInvV mX5_digit 10 mX5_next 5 0 13 := ⟨41, TX5, 4, by decide +kernel, rfl, rfl, xl_RX5_41, xi_X5_next, xs_X5_next, xm_X5_next⟩
theorem iX5_digit_13 : DStI mX5_digit 13 3 14 := ⟨by decide, Or.inl ⟨3, by decide +kernel, rfl, rfl⟩⟩
theorem iX5_digit_14 : DLdI mX5_digit 14 3 15 := Or.inl ⟨3, by decide +kernel, rfl, rfl⟩
theorem iX5_digit_15 : DInvS mX5_digit 15 mX5_isDigit 1 18 := ⟨83, by decide +kernel, rfl, Or.inl xl_RX5_83, xt_X5_isDigit, xm_X5_isDigit⟩
theorem iX5_digit_18 : DIf mX5_digit 18 .eq 33 21 := ⟨15, by decide +kernel, by decide, rfl⟩
theorem iX5_digit_21 : DLdI mX5_digit 21 3 22 := Or.inl ⟨3, by decide +kernel, rfl, rfl⟩
theorem iX5_digit_22 : DPushI mX5_digit 22 48 24 := Or.inr (Or.inl ⟨48, by decide +kernel, by decide, rfl⟩)
theorem iX5_digit_24 : D1 mX5_digit 24 .isub 1 25 := ⟨by decide +kernel, rfl⟩
theorem iX5_digit_25 : DLdI mX5_digit 25 1 26 := Or.inl ⟨1, by decide +kernel, rfl, rfl⟩
theorem iX5_digit_26 : DLdI mX5_digit 26 2 27 := Or.inl ⟨2, by decide +kernel, rfl, rfl⟩
theorem iX5_digit_27 : DInvS mX5_digit 27 mX6_within 3 30 := ⟨87, by decide +kernel, rfl, Or.inr ⟨"OrchardLadders", List.mem_of_getElem? (i := 5) rfl⟩, xt_X6_within, xm_X6_within⟩
theorem iX5_digit_30 : DIf mX5_digit 30 .ne 43 33 := ⟨13, by decide +kernel, by decide, rfl⟩
theorem iX5_digit_33 : DLdA mX5_digit 33 0 34 := Or.inl ⟨0, by decide +kernel, rfl, rfl⟩
theorem iX5_digit_34 : DLdA mX5_digit 34 0 35 := Or.inl ⟨0, by decide +kernel, rfl, rfl⟩
theorem iX5_digit_35 : DGet mX5_digit 35 5 2 38 := ⟨19, by decide +kernel, rfl, xf_RX5_19⟩
theorem iX5_digit_38 : DInvV mX5_digit 38 mX5_fail 5 1 41 := ⟨45, TX5, 4, by decide +kernel, rfl, rfl, xl_RX5_45, xi_X5_fail, xs_X5_fail, xm_X5_fail⟩
theorem iX5_digit_41 : DPushI mX5_digit 41 0 42 := Or.inl ⟨0, by decide +kernel, by decide, rfl⟩
theorem iX5_digit_42 : mX5_digit.2.2.2 = some .int ∧ decode mX5_digit.2.1 42 = .ok (.ireturn, 1) := ⟨rfl, by decide +kernel⟩
theorem iX5_digit_43 : DLdA mX5_digit 43 0 44 := Or.inl ⟨0, by decide +kernel, rfl, rfl⟩
theorem iX5_digit_44 : D1 mX5_digit 44 .dup 1 45 := ⟨by decide +kernel, rfl⟩
theorem iX5_digit_45 : DGet mX5_digit 45 5 2 48 := ⟨19, by decide +kernel, rfl, xf_RX5_19⟩
theorem iX5_digit_48 : DPushI mX5_digit 48 1 49 := Or.inl ⟨1, by decide +kernel, by decide, rfl⟩
theorem iX5_digit_49 : D1 mX5_digit 49 .iadd 1 50 := ⟨by decide +kernel, rfl⟩
theorem iX5_digit_50 : DPut mX5_digit 50 5 2 .int 53 := ⟨19, by decide +kernel, rfl, RX5, TX5, 4, tyX5, rfl, by decide, bigW_at 171 (by decide +kernel) rfl, xw5, tyX5_ok, nmX5, rfl, Or.inl rfl⟩
theorem iX5_digit_53 : DLdI mX5_digit 53 3 54 := Or.inl ⟨3, by decide +kernel, rfl, rfl⟩
theorem iX5_digit_54 : DPushI mX5_digit 54 48 56 := Or.inr (Or.inl ⟨48, by decide +kernel, by decide, rfl⟩)
theorem iX5_digit_56 : D1 mX5_digit 56 .isub 1 57 := ⟨by decide +kernel, rfl⟩
theorem iX5_digit_57 : mX5_digit.2.2.2 = some .int ∧ decode mX5_digit.2.1 57 = .ok (.ireturn, 1) := ⟨rfl, by decide +kernel⟩
theorem iX5_fail_0 : DLdA mX5_fail 0 0 1 := Or.inl ⟨0, by decide +kernel, rfl, rfl⟩
theorem iX5_fail_1 : DGet mX5_fail 1 5 3 4 := ⟨22, by decide +kernel, rfl, xf_RX5_22⟩
theorem iX5_fail_4 : DIf mX5_fail 4 .ne 15 7 := ⟨11, by decide +kernel, by decide, rfl⟩
theorem iX5_fail_7 : DLdA mX5_fail 7 0 8 := Or.inl ⟨0, by decide +kernel, rfl, rfl⟩
theorem iX5_fail_8 : DPushI mX5_fail 8 (-20) 10 := Or.inr (Or.inl ⟨(-20), by decide +kernel, by decide, rfl⟩)
theorem iX5_fail_10 : DLdI mX5_fail 10 1 11 := Or.inl ⟨1, by decide +kernel, rfl, rfl⟩
theorem iX5_fail_11 : D1 mX5_fail 11 .isub 1 12 := ⟨by decide +kernel, rfl⟩
theorem iX5_fail_12 : DPut mX5_fail 12 5 3 .int 15 := ⟨22, by decide +kernel, rfl, RX5, TX5, 4, tyX5, rfl, by decide, bigW_at 172 (by decide +kernel) rfl, xw5, tyX5_ok, nmX5, rfl, Or.inl rfl⟩
theorem iX5_fail_15 : mX5_fail.2.2.2 = none ∧ decode mX5_fail.2.1 15 = .ok (.return_, 1) := ⟨rfl, by decide +kernel⟩
theorem iX5_init_0 : DLdA mX5_init 0 0 1 := Or.inl ⟨0, by decide +kernel, rfl, rfl⟩
theorem iX5_init_1 : DObj mX5_init 1 4 := ⟨3, by decide +kernel, rfl, xl_RX5_3, xl_objI, xl_objC⟩
theorem iX5_init_4 : DLdA mX5_init 4 0 5 := Or.inl ⟨0, by decide +kernel, rfl, rfl⟩
theorem iX5_init_5 : DPushI mX5_init 5 90 7 := Or.inr (Or.inl ⟨90, by decide +kernel, by decide, rfl⟩)
theorem iX5_init_7 : DNewA mX5_init 7 .char 9 := ⟨.char, by decide +kernel, rfl, xq_char, rfl⟩
theorem iX5_init_9 : DPut mX5_init 9 5 0 (.array .char) 12 := ⟨9, by decide +kernel, rfl, RX5, TX5, 4, tyX5, rfl, by decide, bigW_at 168 (by decide +kernel) rfl, xw5, tyX5_ok, nmX5, rfl, Or.inr ⟨rfl, rfl, rfl⟩⟩
theorem iX5_init_12 : mX5_init.2.2.2 = none ∧ decode mX5_init.2.1 12 = .ok (.return_, 1) := ⟨rfl, by decide +kernel⟩
theorem iX5_isDigit_0 : DLdI mX5_isDigit 0 0 1 := Or.inl ⟨0, by decide +kernel, rfl, rfl⟩
theorem iX5_isDigit_1 : DPushI mX5_isDigit 1 48 3 := Or.inr (Or.inl ⟨48, by decide +kernel, by decide, rfl⟩)
theorem iX5_isDigit_3 : DPushI mX5_isDigit 3 57 5 := Or.inr (Or.inl ⟨57, by decide +kernel, by decide, rfl⟩)
theorem iX5_isDigit_5 : DInvS mX5_isDigit 5 mX6_within 3 8 := ⟨87, by decide +kernel, rfl, Or.inr ⟨"OrchardLadders", List.mem_of_getElem? (i := 5) rfl⟩, xt_X6_within, xm_X6_within⟩
theorem iX5_isDigit_8 : mX5_isDigit.2.2.2 = some .boolean ∧ decode mX5_isDigit.2.1 8 = .ok (.ireturn, 1) := ⟨rfl, by decide +kernel⟩
theorem iX5_kindLetter_0 : DLdA mX5_kindLetter 0 0 1 := Or.inl ⟨0, by decide +kernel, rfl, rfl⟩
theorem iX5_kindLetter_1 : DInvV mX5_kindLetter 1 mX5_next 5 0 4 := ⟨41, TX5, 4, by decide +kernel, rfl, rfl, xl_RX5_41, xi_X5_next, xs_X5_next, xm_X5_next⟩
theorem iX5_kindLetter_4 : DLook mX5_kindLetter 4 [(100, 64), (108, 100), (112, 52), (116, 76), (119, 88)] 112 := ⟨#[(100, 64), (108, 100), (112, 52), (116, 76), (119, 88)], 52, by decide +kernel, rfl, by decide⟩
theorem iX5_kindLetter_56 : DLdA mX5_kindLetter 56 0 57 := Or.inl ⟨0, by decide +kernel, rfl, rfl⟩
theorem iX5_kindLetter_57 : D1 mX5_kindLetter 57 .dup 1 58 := ⟨by decide +kernel, rfl⟩
theorem iX5_kindLetter_58 : DGet mX5_kindLetter 58 5 2 61 := ⟨19, by decide +kernel, rfl, xf_RX5_19⟩
theorem iX5_kindLetter_61 : DPushI mX5_kindLetter 61 1 62 := Or.inl ⟨1, by decide +kernel, by decide, rfl⟩
theorem iX5_kindLetter_62 : D1 mX5_kindLetter 62 .iadd 1 63 := ⟨by decide +kernel, rfl⟩
theorem iX5_kindLetter_63 : DPut mX5_kindLetter 63 5 2 .int 66 := ⟨19, by decide +kernel, rfl, RX5, TX5, 4, tyX5, rfl, by decide, bigW_at 171 (by decide +kernel) rfl, xw5, tyX5_ok, nmX5, rfl, Or.inl rfl⟩
theorem iX5_kindLetter_66 : DPushI mX5_kindLetter 66 0 67 := Or.inl ⟨0, by decide +kernel, by decide, rfl⟩
theorem iX5_kindLetter_67 : mX5_kindLetter.2.2.2 = some .int ∧ decode mX5_kindLetter.2.1 67 = .ok (.ireturn, 1) := ⟨rfl, by decide +kernel⟩
theorem iX5_kindLetter_68 : DLdA mX5_kindLetter 68 0 69 := Or.inl ⟨0, by decide +kernel, rfl, rfl⟩
theorem iX5_kindLetter_69 : D1 mX5_kindLetter 69 .dup 1 70 := ⟨by decide +kernel, rfl⟩
theorem iX5_kindLetter_70 : DGet mX5_kindLetter 70 5 2 73 := ⟨19, by decide +kernel, rfl, xf_RX5_19⟩
theorem iX5_kindLetter_73 : DPushI mX5_kindLetter 73 1 74 := Or.inl ⟨1, by decide +kernel, by decide, rfl⟩
theorem iX5_kindLetter_74 : D1 mX5_kindLetter 74 .iadd 1 75 := ⟨by decide +kernel, rfl⟩
theorem iX5_kindLetter_75 : DPut mX5_kindLetter 75 5 2 .int 78 := ⟨19, by decide +kernel, rfl, RX5, TX5, 4, tyX5, rfl, by decide, bigW_at 171 (by decide +kernel) rfl, xw5, tyX5_ok, nmX5, rfl, Or.inl rfl⟩
theorem iX5_kindLetter_78 : DPushI mX5_kindLetter 78 1 79 := Or.inl ⟨1, by decide +kernel, by decide, rfl⟩
theorem iX5_kindLetter_79 : mX5_kindLetter.2.2.2 = some .int ∧ decode mX5_kindLetter.2.1 79 = .ok (.ireturn, 1) := ⟨rfl, by decide +kernel⟩
theorem iX5_kindLetter_80 : DLdA mX5_kindLetter 80 0 81 := Or.inl ⟨0, by decide +kernel, rfl, rfl⟩
theorem iX5_kindLetter_81 : D1 mX5_kindLetter 81 .dup 1 82 := ⟨by decide +kernel, rfl⟩
theorem iX5_kindLetter_82 : DGet mX5_kindLetter 82 5 2 85 := ⟨19, by decide +kernel, rfl, xf_RX5_19⟩
theorem iX5_kindLetter_85 : DPushI mX5_kindLetter 85 1 86 := Or.inl ⟨1, by decide +kernel, by decide, rfl⟩
theorem iX5_kindLetter_86 : D1 mX5_kindLetter 86 .iadd 1 87 := ⟨by decide +kernel, rfl⟩
theorem iX5_kindLetter_87 : DPut mX5_kindLetter 87 5 2 .int 90 := ⟨19, by decide +kernel, rfl, RX5, TX5, 4, tyX5, rfl, by decide, bigW_at 171 (by decide +kernel) rfl, xw5, tyX5_ok, nmX5, rfl, Or.inl rfl⟩
theorem iX5_kindLetter_90 : DPushI mX5_kindLetter 90 2 91 := Or.inl ⟨2, by decide +kernel, by decide, rfl⟩
theorem iX5_kindLetter_91 : mX5_kindLetter.2.2.2 = some .int ∧ decode mX5_kindLetter.2.1 91 = .ok (.ireturn, 1) := ⟨rfl, by decide +kernel⟩
theorem iX5_kindLetter_92 : DLdA mX5_kindLetter 92 0 93 := Or.inl ⟨0, by decide +kernel, rfl, rfl⟩
theorem iX5_kindLetter_93 : D1 mX5_kindLetter 93 .dup 1 94 := ⟨by decide +kernel, rfl⟩
theorem iX5_kindLetter_94 : DGet mX5_kindLetter 94 5 2 97 := ⟨19, by decide +kernel, rfl, xf_RX5_19⟩
theorem iX5_kindLetter_97 : DPushI mX5_kindLetter 97 1 98 := Or.inl ⟨1, by decide +kernel, by decide, rfl⟩
theorem iX5_kindLetter_98 : D1 mX5_kindLetter 98 .iadd 1 99 := ⟨by decide +kernel, rfl⟩
theorem iX5_kindLetter_99 : DPut mX5_kindLetter 99 5 2 .int 102 := ⟨19, by decide +kernel, rfl, RX5, TX5, 4, tyX5, rfl, by decide, bigW_at 171 (by decide +kernel) rfl, xw5, tyX5_ok, nmX5, rfl, Or.inl rfl⟩
theorem iX5_kindLetter_102 : DPushI mX5_kindLetter 102 3 103 := Or.inl ⟨3, by decide +kernel, by decide, rfl⟩
theorem iX5_kindLetter_103 : mX5_kindLetter.2.2.2 = some .int ∧ decode mX5_kindLetter.2.1 103 = .ok (.ireturn, 1) := ⟨rfl, by decide +kernel⟩
theorem iX5_kindLetter_104 : DLdA mX5_kindLetter 104 0 105 := Or.inl ⟨0, by decide +kernel, rfl, rfl⟩
theorem iX5_kindLetter_105 : D1 mX5_kindLetter 105 .dup 1 106 := ⟨by decide +kernel, rfl⟩
theorem iX5_kindLetter_106 : DGet mX5_kindLetter 106 5 2 109 := ⟨19, by decide +kernel, rfl, xf_RX5_19⟩
theorem iX5_kindLetter_109 : DPushI mX5_kindLetter 109 1 110 := Or.inl ⟨1, by decide +kernel, by decide, rfl⟩
theorem iX5_kindLetter_110 : D1 mX5_kindLetter 110 .iadd 1 111 := ⟨by decide +kernel, rfl⟩
theorem iX5_kindLetter_111 : DPut mX5_kindLetter 111 5 2 .int 114 := ⟨19, by decide +kernel, rfl, RX5, TX5, 4, tyX5, rfl, by decide, bigW_at 171 (by decide +kernel) rfl, xw5, tyX5_ok, nmX5, rfl, Or.inl rfl⟩
theorem iX5_kindLetter_114 : DPushI mX5_kindLetter 114 4 115 := Or.inl ⟨4, by decide +kernel, by decide, rfl⟩
theorem iX5_kindLetter_115 : mX5_kindLetter.2.2.2 = some .int ∧ decode mX5_kindLetter.2.1 115 = .ok (.ireturn, 1) := ⟨rfl, by decide +kernel⟩
theorem iX5_kindLetter_116 : DLdA mX5_kindLetter 116 0 117 := Or.inl ⟨0, by decide +kernel, rfl, rfl⟩
theorem iX5_kindLetter_117 : DLdA mX5_kindLetter 117 0 118 := Or.inl ⟨0, by decide +kernel, rfl, rfl⟩
theorem iX5_kindLetter_118 : DGet mX5_kindLetter 118 5 2 121 := ⟨19, by decide +kernel, rfl, xf_RX5_19⟩
theorem iX5_kindLetter_121 : DInvV mX5_kindLetter 121 mX5_fail 5 1 124 := ⟨45, TX5, 4, by decide +kernel, rfl, rfl, xl_RX5_45, xi_X5_fail, xs_X5_fail, xm_X5_fail⟩
theorem iX5_kindLetter_124 : DPushI mX5_kindLetter 124 0 125 := Or.inl ⟨0, by decide +kernel, by decide, rfl⟩
theorem iX5_kindLetter_125 : mX5_kindLetter.2.2.2 = some .int ∧ decode mX5_kindLetter.2.1 125 = .ok (.ireturn, 1) := ⟨rfl, by decide +kernel⟩
theorem iX5_next_0 : DLdA mX5_next 0 0 1 := Or.inl ⟨0, by decide +kernel, rfl, rfl⟩
theorem iX5_next_1 : DGet mX5_next 1 5 2 4 := ⟨19, by decide +kernel, rfl, xf_RX5_19⟩
theorem iX5_next_4 : DLdA mX5_next 4 0 5 := Or.inl ⟨0, by decide +kernel, rfl, rfl⟩
theorem iX5_next_5 : DGet mX5_next 5 5 1 8 := ⟨15, by decide +kernel, rfl, xf_RX5_15⟩
theorem iX5_next_8 : DCm mX5_next 8 .ge 38 11 := ⟨30, by decide +kernel, by decide, rfl⟩
theorem iX5_next_11 : DLdA mX5_next 11 0 12 := Or.inl ⟨0, by decide +kernel, rfl, rfl⟩
theorem iX5_next_12 : DGet mX5_next 12 5 0 15 := ⟨9, by decide +kernel, rfl, xf_RX5_9⟩
theorem iX5_next_15 : DLdA mX5_next 15 0 16 := Or.inl ⟨0, by decide +kernel, rfl, rfl⟩
theorem iX5_next_16 : DGet mX5_next 16 5 2 19 := ⟨19, by decide +kernel, rfl, xf_RX5_19⟩
theorem iX5_next_19 : D1 mX5_next 19 .caload 1 20 := ⟨by decide +kernel, rfl⟩
theorem iX5_next_20 : DPushI mX5_next 20 32 22 := Or.inr (Or.inl ⟨32, by decide +kernel, by decide, rfl⟩)
theorem iX5_next_22 : DCm mX5_next 22 .ne 38 25 := ⟨16, by decide +kernel, by decide, rfl⟩
theorem iX5_next_25 : DLdA mX5_next 25 0 26 := Or.inl ⟨0, by decide +kernel, rfl, rfl⟩
theorem iX5_next_26 : D1 mX5_next 26 .dup 1 27 := ⟨by decide +kernel, rfl⟩
theorem iX5_next_27 : DGet mX5_next 27 5 2 30 := ⟨19, by decide +kernel, rfl, xf_RX5_19⟩
theorem iX5_next_30 : DPushI mX5_next 30 1 31 := Or.inl ⟨1, by decide +kernel, by decide, rfl⟩
theorem iX5_next_31 : D1 mX5_next 31 .iadd 1 32 := ⟨by decide +kernel, rfl⟩
theorem iX5_next_32 : DPut mX5_next 32 5 2 .int 35 := ⟨19, by decide +kernel, rfl, RX5, TX5, 4, tyX5, rfl, by decide, bigW_at 171 (by decide +kernel) rfl, xw5, tyX5_ok, nmX5, rfl, Or.inl rfl⟩
theorem iX5_next_35 : DGo mX5_next 35 0 := ⟨(-35), by decide +kernel, by decide⟩
theorem iX5_next_38 : DLdA mX5_next 38 0 39 := Or.inl ⟨0, by decide +kernel, rfl, rfl⟩
theorem iX5_next_39 : DGet mX5_next 39 5 2 42 := ⟨19, by decide +kernel, rfl, xf_RX5_19⟩
theorem iX5_next_42 : DLdA mX5_next 42 0 43 := Or.inl ⟨0, by decide +kernel, rfl, rfl⟩
theorem iX5_next_43 : DGet mX5_next 43 5 1 46 := ⟨15, by decide +kernel, rfl, xf_RX5_15⟩
theorem iX5_next_46 : DCm mX5_next 46 .ge 61 49 := ⟨15, by decide +kernel, by decide, rfl⟩
theorem iX5_next_49 : DLdA mX5_next 49 0 50 := Or.inl ⟨0, by decide +kernel, rfl, rfl⟩
theorem iX5_next_50 : DGet mX5_next 50 5 0 53 := ⟨9, by decide +kernel, rfl, xf_RX5_9⟩
theorem iX5_next_53 : DLdA mX5_next 53 0 54 := Or.inl ⟨0, by decide +kernel, rfl, rfl⟩
theorem iX5_next_54 : DGet mX5_next 54 5 2 57 := ⟨19, by decide +kernel, rfl, xf_RX5_19⟩
theorem iX5_next_57 : D1 mX5_next 57 .caload 1 58 := ⟨by decide +kernel, rfl⟩
theorem iX5_next_58 : DGo mX5_next 58 62 := ⟨4, by decide +kernel, by decide⟩
theorem iX5_next_61 : DPushI mX5_next 61 (-1) 62 := Or.inl ⟨(-1), by decide +kernel, by decide, rfl⟩
theorem iX5_next_62 : mX5_next.2.2.2 = some .int ∧ decode mX5_next.2.1 62 = .ok (.ireturn, 1) := ⟨rfl, by decide +kernel⟩
theorem iX5_number_0 : DLdA mX5_number 0 0 1 := Or.inl ⟨0, by decide +kernel, rfl, rfl⟩
theorem iX5_number_1 : DGet mX5_number 1 5 3 4 := ⟨22, by decide +kernel, rfl, xf_RX5_22⟩
theorem iX5_number_4 : DIf mX5_number 4 .eq 9 7 := ⟨5, by decide +kernel, by decide, rfl⟩
theorem iX5_number_7 : DPushI mX5_number 7 0 8 := Or.inl ⟨0, by decide +kernel, by decide, rfl⟩
theorem iX5_number_8 : mX5_number.2.2.2 = some .int ∧ decode mX5_number.2.1 8 = .ok (.ireturn, 1) := ⟨rfl, by decide +kernel⟩
theorem iX5_number_9 : DLdA mX5_number 9 0 10 := Or.inl ⟨0, by decide +kernel, rfl, rfl⟩
theorem iX5_number_10 : DInvV mX5_number 10 mX5_next 5 0 13 := ⟨41, TX5, 4, by decide +kernel, rfl, rfl, xl_RX5_41, xi_X5_next, xs_X5_next, xm_X5_next⟩
theorem iX5_number_13 : DInvS mX5_number 13 mX5_isDigit 1 16 := ⟨83, by decide +kernel, rfl, Or.inl xl_RX5_83, xt_X5_isDigit, xm_X5_isDigit⟩
theorem iX5_number_16 : DIf mX5_number 16 .ne 29 19 := ⟨13, by decide +kernel, by decide, rfl⟩
theorem iX5_number_19 : DLdA mX5_number 19 0 20 := Or.inl ⟨0, by decide +kernel, rfl, rfl⟩
theorem iX5_number_20 : DLdA mX5_number 20 0 21 := Or.inl ⟨0, by decide +kernel, rfl, rfl⟩
theorem iX5_number_21 : DGet mX5_number 21 5 2 24 := ⟨19, by decide +kernel, rfl, xf_RX5_19⟩
theorem iX5_number_24 : DInvV mX5_number 24 mX5_fail 5 1 27 := ⟨45, TX5, 4, by decide +kernel, rfl, rfl, xl_RX5_45, xi_X5_fail, xs_X5_fail, xm_X5_fail⟩
theorem iX5_number_27 : DPushI mX5_number 27 0 28 := Or.inl ⟨0, by decide +kernel, by decide, rfl⟩
theorem iX5_number_28 : mX5_number.2.2.2 = some .int ∧ decode mX5_number.2.1 28 = .ok (.ireturn, 1) := ⟨rfl, by decide +kernel⟩
theorem iX5_number_29 : DLdA mX5_number 29 0 30 := Or.inl ⟨0, by decide +kernel, rfl, rfl⟩
theorem iX5_number_30 : DGet mX5_number 30 5 2 33 := ⟨19, by decide +kernel, rfl, xf_RX5_19⟩
theorem iX5_number_33 : DStI mX5_number 33 3 34 := ⟨by decide, Or.inl ⟨3, by decide +kernel, rfl, rfl⟩⟩
theorem iX5_number_34 : DLdA mX5_number 34 0 35 := Or.inl ⟨0, by decide +kernel, rfl, rfl⟩
theorem iX5_number_35 : DGet mX5_number 35 5 0 38 := ⟨9, by decide +kernel, rfl, xf_RX5_9⟩
theorem iX5_number_38 : DLdA mX5_number 38 0 39 := Or.inl ⟨0, by decide +kernel, rfl, rfl⟩
theorem iX5_number_39 : DGet mX5_number 39 5 2 42 := ⟨19, by decide +kernel, rfl, xf_RX5_19⟩
theorem iX5_number_42 : D1 mX5_number 42 .caload 1 43 := ⟨by decide +kernel, rfl⟩
theorem iX5_number_43 : DPushI mX5_number 43 48 45 := Or.inr (Or.inl ⟨48, by decide +kernel, by decide, rfl⟩)
theorem iX5_number_45 : D1 mX5_number 45 .isub 1 46 := ⟨by decide +kernel, rfl⟩
theorem iX5_number_46 : DStI mX5_number 46 4 48 := ⟨by decide, Or.inr ⟨by decide +kernel, rfl⟩⟩
theorem iX5_number_48 : DLdA mX5_number 48 0 49 := Or.inl ⟨0, by decide +kernel, rfl, rfl⟩
theorem iX5_number_49 : D1 mX5_number 49 .dup 1 50 := ⟨by decide +kernel, rfl⟩
theorem iX5_number_50 : DGet mX5_number 50 5 2 53 := ⟨19, by decide +kernel, rfl, xf_RX5_19⟩
theorem iX5_number_53 : DPushI mX5_number 53 1 54 := Or.inl ⟨1, by decide +kernel, by decide, rfl⟩
theorem iX5_number_54 : D1 mX5_number 54 .iadd 1 55 := ⟨by decide +kernel, rfl⟩
theorem iX5_number_55 : DPut mX5_number 55 5 2 .int 58 := ⟨19, by decide +kernel, rfl, RX5, TX5, 4, tyX5, rfl, by decide, bigW_at 171 (by decide +kernel) rfl, xw5, tyX5_ok, nmX5, rfl, Or.inl rfl⟩
theorem iX5_number_58 : DLdA mX5_number 58 0 59 := Or.inl ⟨0, by decide +kernel, rfl, rfl⟩
theorem iX5_number_59 : DGet mX5_number 59 5 2 62 := ⟨19, by decide +kernel, rfl, xf_RX5_19⟩
theorem iX5_number_62 : DLdA mX5_number 62 0 63 := Or.inl ⟨0, by decide +kernel, rfl, rfl⟩
theorem iX5_number_63 : DGet mX5_number 63 5 1 66 := ⟨15, by decide +kernel, rfl, xf_RX5_15⟩
theorem iX5_number_66 : DCm mX5_number 66 .ge 114 69 := ⟨48, by decide +kernel, by decide, rfl⟩
theorem iX5_number_69 : DLdA mX5_number 69 0 70 := Or.inl ⟨0, by decide +kernel, rfl, rfl⟩
theorem iX5_number_70 : DGet mX5_number 70 5 0 73 := ⟨9, by decide +kernel, rfl, xf_RX5_9⟩
theorem iX5_number_73 : DLdA mX5_number 73 0 74 := Or.inl ⟨0, by decide +kernel, rfl, rfl⟩
theorem iX5_number_74 : DGet mX5_number 74 5 2 77 := ⟨19, by decide +kernel, rfl, xf_RX5_19⟩
theorem iX5_number_77 : D1 mX5_number 77 .caload 1 78 := ⟨by decide +kernel, rfl⟩
theorem iX5_number_78 : DInvS mX5_number 78 mX5_isDigit 1 81 := ⟨83, by decide +kernel, rfl, Or.inl xl_RX5_83, xt_X5_isDigit, xm_X5_isDigit⟩
theorem iX5_number_81 : DIf mX5_number 81 .eq 114 84 := ⟨33, by decide +kernel, by decide, rfl⟩
theorem iX5_number_84 : DLdI mX5_number 84 4 86 := Or.inr ⟨by decide +kernel, rfl⟩
theorem iX5_number_86 : DPushI mX5_number 86 10 88 := Or.inr (Or.inl ⟨10, by decide +kernel, by decide, rfl⟩)
theorem iX5_number_88 : D1 mX5_number 88 .imul 1 89 := ⟨by decide +kernel, rfl⟩
theorem iX5_number_89 : DLdA mX5_number 89 0 90 := Or.inl ⟨0, by decide +kernel, rfl, rfl⟩
theorem iX5_number_90 : DGet mX5_number 90 5 0 93 := ⟨9, by decide +kernel, rfl, xf_RX5_9⟩
theorem iX5_number_93 : DLdA mX5_number 93 0 94 := Or.inl ⟨0, by decide +kernel, rfl, rfl⟩
theorem iX5_number_94 : DGet mX5_number 94 5 2 97 := ⟨19, by decide +kernel, rfl, xf_RX5_19⟩
theorem iX5_number_97 : D1 mX5_number 97 .caload 1 98 := ⟨by decide +kernel, rfl⟩
theorem iX5_number_98 : D1 mX5_number 98 .iadd 1 99 := ⟨by decide +kernel, rfl⟩
theorem iX5_number_99 : DPushI mX5_number 99 48 101 := Or.inr (Or.inl ⟨48, by decide +kernel, by decide, rfl⟩)
theorem iX5_number_101 : D1 mX5_number 101 .isub 1 102 := ⟨by decide +kernel, rfl⟩
theorem iX5_number_102 : DStI mX5_number 102 4 104 := ⟨by decide, Or.inr ⟨by decide +kernel, rfl⟩⟩
theorem iX5_number_104 : DLdA mX5_number 104 0 105 := Or.inl ⟨0, by decide +kernel, rfl, rfl⟩
theorem iX5_number_105 : D1 mX5_number 105 .dup 1 106 := ⟨by decide +kernel, rfl⟩
theorem iX5_number_106 : DGet mX5_number 106 5 2 109 := ⟨19, by decide +kernel, rfl, xf_RX5_19⟩
theorem iX5_number_109 : DPushI mX5_number 109 1 110 := Or.inl ⟨1, by decide +kernel, by decide, rfl⟩
theorem iX5_number_110 : D1 mX5_number 110 .iadd 1 111 := ⟨by decide +kernel, rfl⟩
theorem iX5_number_111 : DPut mX5_number 111 5 2 .int 114 := ⟨19, by decide +kernel, rfl, RX5, TX5, 4, tyX5, rfl, by decide, bigW_at 171 (by decide +kernel) rfl, xw5, tyX5_ok, nmX5, rfl, Or.inl rfl⟩
theorem iX5_number_114 : DLdI mX5_number 114 4 116 := Or.inr ⟨by decide +kernel, rfl⟩
theorem iX5_number_116 : DLdI mX5_number 116 1 117 := Or.inl ⟨1, by decide +kernel, rfl, rfl⟩
theorem iX5_number_117 : DLdI mX5_number 117 2 118 := Or.inl ⟨2, by decide +kernel, rfl, rfl⟩
theorem iX5_number_118 : DInvS mX5_number 118 mX6_within 3 121 := ⟨87, by decide +kernel, rfl, Or.inr ⟨"OrchardLadders", List.mem_of_getElem? (i := 5) rfl⟩, xt_X6_within, xm_X6_within⟩
theorem iX5_number_121 : DIf mX5_number 121 .ne 129 124 := ⟨8, by decide +kernel, by decide, rfl⟩
theorem iX5_number_124 : DLdA mX5_number 124 0 125 := Or.inl ⟨0, by decide +kernel, rfl, rfl⟩
theorem iX5_number_125 : DLdI mX5_number 125 3 126 := Or.inl ⟨3, by decide +kernel, rfl, rfl⟩
theorem iX5_number_126 : DInvV mX5_number 126 mX5_fail 5 1 129 := ⟨45, TX5, 4, by decide +kernel, rfl, rfl, xl_RX5_45, xi_X5_fail, xs_X5_fail, xm_X5_fail⟩
theorem iX5_number_129 : DLdI mX5_number 129 4 131 := Or.inr ⟨by decide +kernel, rfl⟩
theorem iX5_number_131 : mX5_number.2.2.2 = some .int ∧ decode mX5_number.2.1 131 = .ok (.ireturn, 1) := ⟨rfl, by decide +kernel⟩
theorem iX5_passes_0 : DLdA mX5_passes 0 0 1 := Or.inl ⟨0, by decide +kernel, rfl, rfl⟩
theorem iX5_passes_1 : DInvV mX5_passes 1 mX5_next 5 0 4 := ⟨41, TX5, 4, by decide +kernel, rfl, rfl, xl_RX5_41, xi_X5_next, xs_X5_next, xm_X5_next⟩
theorem iX5_passes_4 : DLdI mX5_passes 4 1 5 := Or.inl ⟨1, by decide +kernel, rfl, rfl⟩
theorem iX5_passes_5 : DCm mX5_passes 5 .eq 10 8 := ⟨5, by decide +kernel, by decide, rfl⟩
theorem iX5_passes_8 : DPushI mX5_passes 8 0 9 := Or.inl ⟨0, by decide +kernel, by decide, rfl⟩
theorem iX5_passes_9 : mX5_passes.2.2.2 = some .boolean ∧ decode mX5_passes.2.1 9 = .ok (.ireturn, 1) := ⟨rfl, by decide +kernel⟩
theorem iX5_passes_10 : DLdA mX5_passes 10 0 11 := Or.inl ⟨0, by decide +kernel, rfl, rfl⟩
theorem iX5_passes_11 : D1 mX5_passes 11 .dup 1 12 := ⟨by decide +kernel, rfl⟩
theorem iX5_passes_12 : DGet mX5_passes 12 5 2 15 := ⟨19, by decide +kernel, rfl, xf_RX5_19⟩
theorem iX5_passes_15 : DPushI mX5_passes 15 1 16 := Or.inl ⟨1, by decide +kernel, by decide, rfl⟩
theorem iX5_passes_16 : D1 mX5_passes 16 .iadd 1 17 := ⟨by decide +kernel, rfl⟩
theorem iX5_passes_17 : DPut mX5_passes 17 5 2 .int 20 := ⟨19, by decide +kernel, rfl, RX5, TX5, 4, tyX5, rfl, by decide, bigW_at 171 (by decide +kernel) rfl, xw5, tyX5_ok, nmX5, rfl, Or.inl rfl⟩
theorem iX5_passes_20 : DPushI mX5_passes 20 1 21 := Or.inl ⟨1, by decide +kernel, by decide, rfl⟩
theorem iX5_passes_21 : mX5_passes.2.2.2 = some .boolean ∧ decode mX5_passes.2.1 21 = .ok (.ireturn, 1) := ⟨rfl, by decide +kernel⟩
theorem iX5_read_0 : DLdA mX5_read 0 0 1 := Or.inl ⟨0, by decide +kernel, rfl, rfl⟩
theorem iX5_read_1 : DPushI mX5_read 1 0 2 := Or.inl ⟨0, by decide +kernel, by decide, rfl⟩
theorem iX5_read_2 : DPut mX5_read 2 5 2 .int 5 := ⟨19, by decide +kernel, rfl, RX5, TX5, 4, tyX5, rfl, by decide, bigW_at 171 (by decide +kernel) rfl, xw5, tyX5_ok, nmX5, rfl, Or.inl rfl⟩
theorem iX5_read_5 : DLdA mX5_read 5 0 6 := Or.inl ⟨0, by decide +kernel, rfl, rfl⟩
theorem iX5_read_6 : DPushI mX5_read 6 0 7 := Or.inl ⟨0, by decide +kernel, by decide, rfl⟩
theorem iX5_read_7 : DPut mX5_read 7 5 3 .int 10 := ⟨22, by decide +kernel, rfl, RX5, TX5, 4, tyX5, rfl, by decide, bigW_at 172 (by decide +kernel) rfl, xw5, tyX5_ok, nmX5, rfl, Or.inl rfl⟩
theorem iX5_read_10 : DLdA mX5_read 10 1 11 := Or.inl ⟨1, by decide +kernel, rfl, rfl⟩
theorem iX5_read_11 : DInvV mX5_read 11 mX3_clear 3 0 14 := ⟨25, TX3, 10, by decide +kernel, rfl, rfl, xl_RX5_25, xi_X3_clear, xs_X3_clear, xm_X3_clear⟩
theorem iX5_read_14 : DLdA mX5_read 14 0 15 := Or.inl ⟨0, by decide +kernel, rfl, rfl⟩
theorem iX5_read_15 : DLdA mX5_read 15 1 16 := Or.inl ⟨1, by decide +kernel, rfl, rfl⟩
theorem iX5_read_16 : DInvV mX5_read 16 mX5_readTrees 5 1 19 := ⟨30, TX5, 4, by decide +kernel, rfl, rfl, xl_RX5_30, xi_X5_readTrees, xs_X5_readTrees, xm_X5_readTrees⟩
theorem iX5_read_19 : DLdA mX5_read 19 0 20 := Or.inl ⟨0, by decide +kernel, rfl, rfl⟩
theorem iX5_read_20 : DGet mX5_read 20 5 3 23 := ⟨22, by decide +kernel, rfl, xf_RX5_22⟩
theorem iX5_read_23 : DIf mX5_read 23 .ne 40 26 := ⟨17, by decide +kernel, by decide, rfl⟩
theorem iX5_read_26 : DLdA mX5_read 26 0 27 := Or.inl ⟨0, by decide +kernel, rfl, rfl⟩
theorem iX5_read_27 : DPushI mX5_read 27 59 29 := Or.inr (Or.inl ⟨59, by decide +kernel, by decide, rfl⟩)
theorem iX5_read_29 : DInvV mX5_read 29 mX5_passes 5 1 32 := ⟨34, TX5, 4, by decide +kernel, rfl, rfl, xl_RX5_34, xi_X5_passes, xs_X5_passes, xm_X5_passes⟩
theorem iX5_read_32 : DIf mX5_read 32 .eq 40 35 := ⟨8, by decide +kernel, by decide, rfl⟩
theorem iX5_read_35 : DLdA mX5_read 35 0 36 := Or.inl ⟨0, by decide +kernel, rfl, rfl⟩
theorem iX5_read_36 : DLdA mX5_read 36 1 37 := Or.inl ⟨1, by decide +kernel, rfl, rfl⟩
theorem iX5_read_37 : DInvV mX5_read 37 mX5_readLadders 5 1 40 := ⟨38, TX5, 4, by decide +kernel, rfl, rfl, xl_RX5_38, xi_X5_readLadders, xs_X5_readLadders, xm_X5_readLadders⟩
theorem iX5_read_40 : DLdA mX5_read 40 0 41 := Or.inl ⟨0, by decide +kernel, rfl, rfl⟩
theorem iX5_read_41 : DGet mX5_read 41 5 3 44 := ⟨22, by decide +kernel, rfl, xf_RX5_22⟩
theorem iX5_read_44 : DIf mX5_read 44 .ne 63 47 := ⟨19, by decide +kernel, by decide, rfl⟩
theorem iX5_read_47 : DLdA mX5_read 47 0 48 := Or.inl ⟨0, by decide +kernel, rfl, rfl⟩
theorem iX5_read_48 : DInvV mX5_read 48 mX5_next 5 0 51 := ⟨41, TX5, 4, by decide +kernel, rfl, rfl, xl_RX5_41, xi_X5_next, xs_X5_next, xm_X5_next⟩
theorem iX5_read_51 : DPushI mX5_read 51 (-1) 52 := Or.inl ⟨(-1), by decide +kernel, by decide, rfl⟩
theorem iX5_read_52 : DCm mX5_read 52 .eq 63 55 := ⟨11, by decide +kernel, by decide, rfl⟩
theorem iX5_read_55 : DLdA mX5_read 55 0 56 := Or.inl ⟨0, by decide +kernel, rfl, rfl⟩
theorem iX5_read_56 : DLdA mX5_read 56 0 57 := Or.inl ⟨0, by decide +kernel, rfl, rfl⟩
theorem iX5_read_57 : DGet mX5_read 57 5 2 60 := ⟨19, by decide +kernel, rfl, xf_RX5_19⟩
theorem iX5_read_60 : DInvV mX5_read 60 mX5_fail 5 1 63 := ⟨45, TX5, 4, by decide +kernel, rfl, rfl, xl_RX5_45, xi_X5_fail, xs_X5_fail, xm_X5_fail⟩
theorem iX5_read_63 : DLdA mX5_read 63 0 64 := Or.inl ⟨0, by decide +kernel, rfl, rfl⟩
theorem iX5_read_64 : DGet mX5_read 64 5 3 67 := ⟨22, by decide +kernel, rfl, xf_RX5_22⟩
theorem iX5_read_67 : DIf mX5_read 67 .ne 77 70 := ⟨10, by decide +kernel, by decide, rfl⟩
theorem iX5_read_70 : DLdA mX5_read 70 1 71 := Or.inl ⟨1, by decide +kernel, rfl, rfl⟩
theorem iX5_read_71 : DGet mX5_read 71 3 0 74 := ⟨49, by decide +kernel, rfl, xf_RX5_49⟩
theorem iX5_read_74 : DGo mX5_read 74 81 := ⟨7, by decide +kernel, by decide⟩
theorem iX5_read_77 : DLdA mX5_read 77 0 78 := Or.inl ⟨0, by decide +kernel, rfl, rfl⟩
theorem iX5_read_78 : DGet mX5_read 78 5 3 81 := ⟨22, by decide +kernel, rfl, xf_RX5_22⟩
theorem iX5_read_81 : mX5_read.2.2.2 = some .int ∧ decode mX5_read.2.1 81 = .ok (.ireturn, 1) := ⟨rfl, by decide +kernel⟩
theorem iX5_readLadders_0 : DPushI mX5_readLadders 0 1 1 := Or.inl ⟨1, by decide +kernel, by decide, rfl⟩
theorem iX5_readLadders_1 : DStI mX5_readLadders 1 2 2 := ⟨by decide, Or.inl ⟨2, by decide +kernel, rfl, rfl⟩⟩
theorem iX5_readLadders_2 : DPushI mX5_readLadders 2 0 3 := Or.inl ⟨0, by decide +kernel, by decide, rfl⟩
theorem iX5_readLadders_3 : DStI mX5_readLadders 3 3 4 := ⟨by decide, Or.inl ⟨3, by decide +kernel, rfl, rfl⟩⟩
theorem iX5_readLadders_4 : DLdI mX5_readLadders 4 3 5 := Or.inl ⟨3, by decide +kernel, rfl, rfl⟩
theorem iX5_readLadders_5 : DPushI mX5_readLadders 5 4 6 := Or.inl ⟨4, by decide +kernel, by decide, rfl⟩
theorem iX5_readLadders_6 : DCm mX5_readLadders 6 .ge 147 9 := ⟨141, by decide +kernel, by decide, rfl⟩
theorem iX5_readLadders_9 : DLdI mX5_readLadders 9 2 10 := Or.inl ⟨2, by decide +kernel, rfl, rfl⟩
theorem iX5_readLadders_10 : DIf mX5_readLadders 10 .eq 147 13 := ⟨137, by decide +kernel, by decide, rfl⟩
theorem iX5_readLadders_13 : DLdA mX5_readLadders 13 0 14 := Or.inl ⟨0, by decide +kernel, rfl, rfl⟩
theorem iX5_readLadders_14 : DInvV mX5_readLadders 14 mX5_kindLetter 5 0 17 := ⟨64, TX5, 4, by decide +kernel, rfl, rfl, xl_RX5_64, xi_X5_kindLetter, xs_X5_kindLetter, xm_X5_kindLetter⟩
theorem iX5_readLadders_17 : DStI mX5_readLadders 17 4 19 := ⟨by decide, Or.inr ⟨by decide +kernel, rfl⟩⟩
theorem iX5_readLadders_19 : DLdA mX5_readLadders 19 0 20 := Or.inl ⟨0, by decide +kernel, rfl, rfl⟩
theorem iX5_readLadders_20 : DPushI mX5_readLadders 20 1 21 := Or.inl ⟨1, by decide +kernel, by decide, rfl⟩
theorem iX5_readLadders_21 : DPushI mX5_readLadders 21 9 23 := Or.inr (Or.inl ⟨9, by decide +kernel, by decide, rfl⟩)
theorem iX5_readLadders_23 : DInvV mX5_readLadders 23 mX5_digit 5 2 26 := ⟨67, TX5, 4, by decide +kernel, rfl, rfl, xl_RX5_67, xi_X5_digit, xs_X5_digit, xm_X5_digit⟩
theorem iX5_readLadders_26 : DStI mX5_readLadders 26 5 28 := ⟨by decide, Or.inr ⟨by decide +kernel, rfl⟩⟩
theorem iX5_readLadders_28 : DLdA mX5_readLadders 28 0 29 := Or.inl ⟨0, by decide +kernel, rfl, rfl⟩
theorem iX5_readLadders_29 : DPushI mX5_readLadders 29 0 30 := Or.inl ⟨0, by decide +kernel, by decide, rfl⟩
theorem iX5_readLadders_30 : DPushI mX5_readLadders 30 9 32 := Or.inr (Or.inl ⟨9, by decide +kernel, by decide, rfl⟩)
theorem iX5_readLadders_32 : DInvV mX5_readLadders 32 mX5_digit 5 2 35 := ⟨67, TX5, 4, by decide +kernel, rfl, rfl, xl_RX5_67, xi_X5_digit, xs_X5_digit, xm_X5_digit⟩
theorem iX5_readLadders_35 : DStI mX5_readLadders 35 6 37 := ⟨by decide, Or.inr ⟨by decide +kernel, rfl⟩⟩
theorem iX5_readLadders_37 : DLdA mX5_readLadders 37 0 38 := Or.inl ⟨0, by decide +kernel, rfl, rfl⟩
theorem iX5_readLadders_38 : DGet mX5_readLadders 38 5 3 41 := ⟨22, by decide +kernel, rfl, xf_RX5_22⟩
theorem iX5_readLadders_41 : DIf mX5_readLadders 41 .ne 57 44 := ⟨16, by decide +kernel, by decide, rfl⟩
theorem iX5_readLadders_44 : DLdA mX5_readLadders 44 0 45 := Or.inl ⟨0, by decide +kernel, rfl, rfl⟩
theorem iX5_readLadders_45 : DPushI mX5_readLadders 45 61 47 := Or.inr (Or.inl ⟨61, by decide +kernel, by decide, rfl⟩)
theorem iX5_readLadders_47 : DInvV mX5_readLadders 47 mX5_passes 5 1 50 := ⟨34, TX5, 4, by decide +kernel, rfl, rfl, xl_RX5_34, xi_X5_passes, xs_X5_passes, xm_X5_passes⟩
theorem iX5_readLadders_50 : DIf mX5_readLadders 50 .eq 57 53 := ⟨7, by decide +kernel, by decide, rfl⟩
theorem iX5_readLadders_53 : DPushI mX5_readLadders 53 1 54 := Or.inl ⟨1, by decide +kernel, by decide, rfl⟩
theorem iX5_readLadders_54 : DGo mX5_readLadders 54 58 := ⟨4, by decide +kernel, by decide⟩
theorem iX5_readLadders_57 : DPushI mX5_readLadders 57 0 58 := Or.inl ⟨0, by decide +kernel, by decide, rfl⟩
theorem iX5_readLadders_58 : DStI mX5_readLadders 58 7 60 := ⟨by decide, Or.inr ⟨by decide +kernel, rfl⟩⟩
theorem iX5_readLadders_60 : DLdI mX5_readLadders 60 7 62 := Or.inr ⟨by decide +kernel, rfl⟩
theorem iX5_readLadders_62 : DIf mX5_readLadders 62 .eq 79 65 := ⟨17, by decide +kernel, by decide, rfl⟩
theorem iX5_readLadders_65 : DLdA mX5_readLadders 65 0 66 := Or.inl ⟨0, by decide +kernel, rfl, rfl⟩
theorem iX5_readLadders_66 : DPushI mX5_readLadders 66 0 67 := Or.inl ⟨0, by decide +kernel, by decide, rfl⟩
theorem iX5_readLadders_67 : DLdA mX5_readLadders 67 1 68 := Or.inl ⟨1, by decide +kernel, rfl, rfl⟩
theorem iX5_readLadders_68 : DGet mX5_readLadders 68 3 0 71 := ⟨49, by decide +kernel, rfl, xf_RX5_49⟩
theorem iX5_readLadders_71 : DPushI mX5_readLadders 71 1 72 := Or.inl ⟨1, by decide +kernel, by decide, rfl⟩
theorem iX5_readLadders_72 : D1 mX5_readLadders 72 .isub 1 73 := ⟨by decide +kernel, rfl⟩
theorem iX5_readLadders_73 : DInvV mX5_readLadders 73 mX5_digit 5 2 76 := ⟨67, TX5, 4, by decide +kernel, rfl, rfl, xl_RX5_67, xi_X5_digit, xs_X5_digit, xm_X5_digit⟩
theorem iX5_readLadders_76 : DGo mX5_readLadders 76 81 := ⟨5, by decide +kernel, by decide⟩
theorem iX5_readLadders_79 : DPushI mX5_readLadders 79 (-4) 81 := Or.inr (Or.inl ⟨(-4), by decide +kernel, by decide, rfl⟩)
theorem iX5_readLadders_81 : DStI mX5_readLadders 81 8 83 := ⟨by decide, Or.inr ⟨by decide +kernel, rfl⟩⟩
theorem iX5_readLadders_83 : DLdA mX5_readLadders 83 0 84 := Or.inl ⟨0, by decide +kernel, rfl, rfl⟩
theorem iX5_readLadders_84 : DGet mX5_readLadders 84 5 3 87 := ⟨22, by decide +kernel, rfl, xf_RX5_22⟩
theorem iX5_readLadders_87 : DIf mX5_readLadders 87 .ne 112 90 := ⟨25, by decide +kernel, by decide, rfl⟩
theorem iX5_readLadders_90 : DLdA mX5_readLadders 90 1 91 := Or.inl ⟨1, by decide +kernel, rfl, rfl⟩
theorem iX5_readLadders_91 : DLdI mX5_readLadders 91 4 93 := Or.inr ⟨by decide +kernel, rfl⟩
theorem iX5_readLadders_93 : DLdI mX5_readLadders 93 5 95 := Or.inr ⟨by decide +kernel, rfl⟩
theorem iX5_readLadders_95 : DLdI mX5_readLadders 95 6 97 := Or.inr ⟨by decide +kernel, rfl⟩
theorem iX5_readLadders_97 : DInvV mX5_readLadders 97 mX3_bring 3 3 100 := ⟨70, TX3, 10, by decide +kernel, rfl, rfl, xl_RX5_70, xi_X3_bring, xs_X3_bring, xm_X3_bring⟩
theorem iX5_readLadders_100 : D1 mX5_readLadders 100 .pop 1 101 := ⟨by decide +kernel, rfl⟩
theorem iX5_readLadders_101 : DLdA mX5_readLadders 101 1 102 := Or.inl ⟨1, by decide +kernel, rfl, rfl⟩
theorem iX5_readLadders_102 : DGet mX5_readLadders 102 3 9 105 := ⟨73, by decide +kernel, rfl, xf_RX5_73⟩
theorem iX5_readLadders_105 : DGet mX5_readLadders 105 2 1 108 := ⟨77, by decide +kernel, rfl, xf_RX5_77⟩
theorem iX5_readLadders_108 : DLdI mX5_readLadders 108 3 109 := Or.inl ⟨3, by decide +kernel, rfl, rfl⟩
theorem iX5_readLadders_109 : DLdI mX5_readLadders 109 8 111 := Or.inr ⟨by decide +kernel, rfl⟩
theorem iX5_readLadders_111 : D1 mX5_readLadders 111 .iastore 1 112 := ⟨by decide +kernel, rfl⟩
theorem iX5_readLadders_112 : DLdA mX5_readLadders 112 0 113 := Or.inl ⟨0, by decide +kernel, rfl, rfl⟩
theorem iX5_readLadders_113 : DGet mX5_readLadders 113 5 3 116 := ⟨22, by decide +kernel, rfl, xf_RX5_22⟩
theorem iX5_readLadders_116 : DIf mX5_readLadders 116 .ne 139 119 := ⟨23, by decide +kernel, by decide, rfl⟩
theorem iX5_readLadders_119 : DLdI mX5_readLadders 119 3 120 := Or.inl ⟨3, by decide +kernel, rfl, rfl⟩
theorem iX5_readLadders_120 : DPushI mX5_readLadders 120 1 121 := Or.inl ⟨1, by decide +kernel, by decide, rfl⟩
theorem iX5_readLadders_121 : D1 mX5_readLadders 121 .iadd 1 122 := ⟨by decide +kernel, rfl⟩
theorem iX5_readLadders_122 : DPushI mX5_readLadders 122 4 123 := Or.inl ⟨4, by decide +kernel, by decide, rfl⟩
theorem iX5_readLadders_123 : DCm mX5_readLadders 123 .ge 139 126 := ⟨16, by decide +kernel, by decide, rfl⟩
theorem iX5_readLadders_126 : DLdA mX5_readLadders 126 0 127 := Or.inl ⟨0, by decide +kernel, rfl, rfl⟩
theorem iX5_readLadders_127 : DPushI mX5_readLadders 127 44 129 := Or.inr (Or.inl ⟨44, by decide +kernel, by decide, rfl⟩)
theorem iX5_readLadders_129 : DInvV mX5_readLadders 129 mX5_passes 5 1 132 := ⟨34, TX5, 4, by decide +kernel, rfl, rfl, xl_RX5_34, xi_X5_passes, xs_X5_passes, xm_X5_passes⟩
theorem iX5_readLadders_132 : DIf mX5_readLadders 132 .eq 139 135 := ⟨7, by decide +kernel, by decide, rfl⟩
theorem iX5_readLadders_135 : DPushI mX5_readLadders 135 1 136 := Or.inl ⟨1, by decide +kernel, by decide, rfl⟩
theorem iX5_readLadders_136 : DGo mX5_readLadders 136 140 := ⟨4, by decide +kernel, by decide⟩
theorem iX5_readLadders_139 : DPushI mX5_readLadders 139 0 140 := Or.inl ⟨0, by decide +kernel, by decide, rfl⟩
theorem iX5_readLadders_140 : DStI mX5_readLadders 140 2 141 := ⟨by decide, Or.inl ⟨2, by decide +kernel, rfl, rfl⟩⟩
theorem iX5_readLadders_141 : DInc mX5_readLadders 141 3 1 144 := ⟨by decide, 1, by decide +kernel, by decide, rfl⟩
theorem iX5_readLadders_144 : DGo mX5_readLadders 144 4 := ⟨(-140), by decide +kernel, by decide⟩
theorem iX5_readLadders_147 : mX5_readLadders.2.2.2 = none ∧ decode mX5_readLadders.2.1 147 = .ok (.return_, 1) := ⟨rfl, by decide +kernel⟩
theorem iX5_readTrees_0 : DPushI mX5_readTrees 0 1 1 := Or.inl ⟨1, by decide +kernel, by decide, rfl⟩
theorem iX5_readTrees_1 : DStI mX5_readTrees 1 2 2 := ⟨by decide, Or.inl ⟨2, by decide +kernel, rfl, rfl⟩⟩
theorem iX5_readTrees_2 : DPushI mX5_readTrees 2 0 3 := Or.inl ⟨0, by decide +kernel, by decide, rfl⟩
theorem iX5_readTrees_3 : DStI mX5_readTrees 3 3 4 := ⟨by decide, Or.inl ⟨3, by decide +kernel, rfl, rfl⟩⟩
theorem iX5_readTrees_4 : DLdI mX5_readTrees 4 3 5 := Or.inl ⟨3, by decide +kernel, rfl, rfl⟩
theorem iX5_readTrees_5 : DPushI mX5_readTrees 5 6 7 := Or.inr (Or.inl ⟨6, by decide +kernel, by decide, rfl⟩)
theorem iX5_readTrees_7 : DCm mX5_readTrees 7 .ge 107 10 := ⟨100, by decide +kernel, by decide, rfl⟩
theorem iX5_readTrees_10 : DLdI mX5_readTrees 10 2 11 := Or.inl ⟨2, by decide +kernel, rfl, rfl⟩
theorem iX5_readTrees_11 : DIf mX5_readTrees 11 .eq 107 14 := ⟨96, by decide +kernel, by decide, rfl⟩
theorem iX5_readTrees_14 : DLdA mX5_readTrees 14 0 15 := Or.inl ⟨0, by decide +kernel, rfl, rfl⟩
theorem iX5_readTrees_15 : DPushI mX5_readTrees 15 1 16 := Or.inl ⟨1, by decide +kernel, by decide, rfl⟩
theorem iX5_readTrees_16 : DPushI mX5_readTrees 16 20 18 := Or.inr (Or.inl ⟨20, by decide +kernel, by decide, rfl⟩)
theorem iX5_readTrees_18 : DInvV mX5_readTrees 18 mX5_number 5 2 21 := ⟨52, TX5, 4, by decide +kernel, rfl, rfl, xl_RX5_52, xi_X5_number, xs_X5_number, xm_X5_number⟩
theorem iX5_readTrees_21 : DStI mX5_readTrees 21 4 23 := ⟨by decide, Or.inr ⟨by decide +kernel, rfl⟩⟩
theorem iX5_readTrees_23 : DLdA mX5_readTrees 23 0 24 := Or.inl ⟨0, by decide +kernel, rfl, rfl⟩
theorem iX5_readTrees_24 : DPushI mX5_readTrees 24 58 26 := Or.inr (Or.inl ⟨58, by decide +kernel, by decide, rfl⟩)
theorem iX5_readTrees_26 : DInvV mX5_readTrees 26 mX5_demand 5 1 29 := ⟨56, TX5, 4, by decide +kernel, rfl, rfl, xl_RX5_56, xi_X5_demand, xs_X5_demand, xm_X5_demand⟩
theorem iX5_readTrees_29 : DLdA mX5_readTrees 29 0 30 := Or.inl ⟨0, by decide +kernel, rfl, rfl⟩
theorem iX5_readTrees_30 : DPushI mX5_readTrees 30 0 31 := Or.inl ⟨0, by decide +kernel, by decide, rfl⟩
theorem iX5_readTrees_31 : DPushI mX5_readTrees 31 99 33 := Or.inr (Or.inl ⟨99, by decide +kernel, by decide, rfl⟩)
theorem iX5_readTrees_33 : DInvV mX5_readTrees 33 mX5_number 5 2 36 := ⟨52, TX5, 4, by decide +kernel, rfl, rfl, xl_RX5_52, xi_X5_number, xs_X5_number, xm_X5_number⟩
theorem iX5_readTrees_36 : DStI mX5_readTrees 36 5 38 := ⟨by decide, Or.inr ⟨by decide +kernel, rfl⟩⟩
theorem iX5_readTrees_38 : DLdA mX5_readTrees 38 0 39 := Or.inl ⟨0, by decide +kernel, rfl, rfl⟩
theorem iX5_readTrees_39 : DPushI mX5_readTrees 39 64 41 := Or.inr (Or.inl ⟨64, by decide +kernel, by decide, rfl⟩)
theorem iX5_readTrees_41 : DInvV mX5_readTrees 41 mX5_demand 5 1 44 := ⟨56, TX5, 4, by decide +kernel, rfl, rfl, xl_RX5_56, xi_X5_demand, xs_X5_demand, xm_X5_demand⟩
theorem iX5_readTrees_44 : DLdA mX5_readTrees 44 0 45 := Or.inl ⟨0, by decide +kernel, rfl, rfl⟩
theorem iX5_readTrees_45 : DPushI mX5_readTrees 45 0 46 := Or.inl ⟨0, by decide +kernel, by decide, rfl⟩
theorem iX5_readTrees_46 : DPushI mX5_readTrees 46 99 48 := Or.inr (Or.inl ⟨99, by decide +kernel, by decide, rfl⟩)
theorem iX5_readTrees_48 : DInvV mX5_readTrees 48 mX5_number 5 2 51 := ⟨52, TX5, 4, by decide +kernel, rfl, rfl, xl_RX5_52, xi_X5_number, xs_X5_number, xm_X5_number⟩
theorem iX5_readTrees_51 : DStI mX5_readTrees 51 6 53 := ⟨by decide, Or.inr ⟨by decide +kernel, rfl⟩⟩
theorem iX5_readTrees_53 : DLdA mX5_readTrees 53 0 54 := Or.inl ⟨0, by decide +kernel, rfl, rfl⟩
theorem iX5_readTrees_54 : DGet mX5_readTrees 54 5 3 57 := ⟨22, by decide +kernel, rfl, xf_RX5_22⟩
theorem iX5_readTrees_57 : DIf mX5_readTrees 57 .ne 71 60 := ⟨14, by decide +kernel, by decide, rfl⟩
theorem iX5_readTrees_60 : DLdA mX5_readTrees 60 1 61 := Or.inl ⟨1, by decide +kernel, rfl, rfl⟩
theorem iX5_readTrees_61 : DLdI mX5_readTrees 61 4 63 := Or.inr ⟨by decide +kernel, rfl⟩
theorem iX5_readTrees_63 : DLdI mX5_readTrees 63 5 65 := Or.inr ⟨by decide +kernel, rfl⟩
theorem iX5_readTrees_65 : DLdI mX5_readTrees 65 6 67 := Or.inr ⟨by decide +kernel, rfl⟩
theorem iX5_readTrees_67 : DInvV mX5_readTrees 67 mX3_plant 3 3 70 := ⟨60, TX3, 10, by decide +kernel, rfl, rfl, xl_RX5_60, xi_X3_plant, xs_X3_plant, xm_X3_plant⟩
theorem iX5_readTrees_70 : D1 mX5_readTrees 70 .pop 1 71 := ⟨by decide +kernel, rfl⟩
theorem iX5_readTrees_71 : DLdA mX5_readTrees 71 0 72 := Or.inl ⟨0, by decide +kernel, rfl, rfl⟩
theorem iX5_readTrees_72 : DGet mX5_readTrees 72 5 3 75 := ⟨22, by decide +kernel, rfl, xf_RX5_22⟩
theorem iX5_readTrees_75 : DIf mX5_readTrees 75 .ne 99 78 := ⟨24, by decide +kernel, by decide, rfl⟩
theorem iX5_readTrees_78 : DLdI mX5_readTrees 78 3 79 := Or.inl ⟨3, by decide +kernel, rfl, rfl⟩
theorem iX5_readTrees_79 : DPushI mX5_readTrees 79 1 80 := Or.inl ⟨1, by decide +kernel, by decide, rfl⟩
theorem iX5_readTrees_80 : D1 mX5_readTrees 80 .iadd 1 81 := ⟨by decide +kernel, rfl⟩
theorem iX5_readTrees_81 : DPushI mX5_readTrees 81 6 83 := Or.inr (Or.inl ⟨6, by decide +kernel, by decide, rfl⟩)
theorem iX5_readTrees_83 : DCm mX5_readTrees 83 .ge 99 86 := ⟨16, by decide +kernel, by decide, rfl⟩
theorem iX5_readTrees_86 : DLdA mX5_readTrees 86 0 87 := Or.inl ⟨0, by decide +kernel, rfl, rfl⟩
theorem iX5_readTrees_87 : DPushI mX5_readTrees 87 44 89 := Or.inr (Or.inl ⟨44, by decide +kernel, by decide, rfl⟩)
theorem iX5_readTrees_89 : DInvV mX5_readTrees 89 mX5_passes 5 1 92 := ⟨34, TX5, 4, by decide +kernel, rfl, rfl, xl_RX5_34, xi_X5_passes, xs_X5_passes, xm_X5_passes⟩
theorem iX5_readTrees_92 : DIf mX5_readTrees 92 .eq 99 95 := ⟨7, by decide +kernel, by decide, rfl⟩
theorem iX5_readTrees_95 : DPushI mX5_readTrees 95 1 96 := Or.inl ⟨1, by decide +kernel, by decide, rfl⟩
theorem iX5_readTrees_96 : DGo mX5_readTrees 96 100 := ⟨4, by decide +kernel, by decide⟩
theorem iX5_readTrees_99 : DPushI mX5_readTrees 99 0 100 := Or.inl ⟨0, by decide +kernel, by decide, rfl⟩
theorem iX5_readTrees_100 : DStI mX5_readTrees 100 2 101 := ⟨by decide, Or.inl ⟨2, by decide +kernel, rfl, rfl⟩⟩
theorem iX5_readTrees_101 : DInc mX5_readTrees 101 3 1 104 := ⟨by decide, 1, by decide +kernel, by decide, rfl⟩
theorem iX5_readTrees_104 : DGo mX5_readTrees 104 4 := ⟨(-100), by decide +kernel, by decide⟩
theorem iX5_readTrees_107 : mX5_readTrees.2.2.2 = none ∧ decode mX5_readTrees.2.1 107 = .ok (.return_, 1) := ⟨rfl, by decide +kernel⟩
theorem iX6_ahead_0 : DLdI mX6_ahead 0 1 1 := Or.inl ⟨1, by decide +kernel, rfl, rfl⟩
theorem iX6_ahead_1 : DPushI mX6_ahead 1 0 2 := Or.inl ⟨0, by decide +kernel, by decide, rfl⟩
theorem iX6_ahead_2 : DPushI mX6_ahead 2 60 4 := Or.inr (Or.inl ⟨60, by decide +kernel, by decide, rfl⟩)
theorem iX6_ahead_4 : DInvS mX6_ahead 4 mX6_within 3 7 := ⟨60, by decide +kernel, rfl, Or.inl xl_RX6_60, xt_X6_within, xm_X6_within⟩
theorem iX6_ahead_7 : DIf mX6_ahead 7 .eq 19 10 := ⟨12, by decide +kernel, by decide, rfl⟩
theorem iX6_ahead_10 : DLdI mX6_ahead 10 2 11 := Or.inl ⟨2, by decide +kernel, rfl, rfl⟩
theorem iX6_ahead_11 : DPushI mX6_ahead 11 0 12 := Or.inl ⟨0, by decide +kernel, by decide, rfl⟩
theorem iX6_ahead_12 : DPushI mX6_ahead 12 2 13 := Or.inl ⟨2, by decide +kernel, by decide, rfl⟩
theorem iX6_ahead_13 : DInvS mX6_ahead 13 mX6_within 3 16 := ⟨60, by decide +kernel, rfl, Or.inl xl_RX6_60, xt_X6_within, xm_X6_within⟩
theorem iX6_ahead_16 : DIf mX6_ahead 16 .ne 21 19 := ⟨5, by decide +kernel, by decide, rfl⟩
theorem iX6_ahead_19 : DPushI mX6_ahead 19 (-1) 20 := Or.inl ⟨(-1), by decide +kernel, by decide, rfl⟩
theorem iX6_ahead_20 : mX6_ahead.2.2.2 = some .int ∧ decode mX6_ahead.2.1 20 = .ok (.ireturn, 1) := ⟨rfl, by decide +kernel⟩
theorem iX6_ahead_21 : DLdA mX6_ahead 21 0 22 := Or.inl ⟨0, by decide +kernel, rfl, rfl⟩
theorem iX6_ahead_22 : DGet mX6_ahead 22 6 7 25 := ⟨42, by decide +kernel, rfl, xf_RX6_42⟩
theorem iX6_ahead_25 : DLdA mX6_ahead 25 0 26 := Or.inl ⟨0, by decide +kernel, rfl, rfl⟩
theorem iX6_ahead_26 : DGet mX6_ahead 26 6 0 29 := ⟨10, by decide +kernel, rfl, xf_RX6_10⟩
theorem iX6_ahead_29 : DGet mX6_ahead 29 3 9 32 := ⟨83, by decide +kernel, rfl, xf_RX6_83⟩
theorem iX6_ahead_32 : DInvV mX6_ahead 32 mX2_become 2 1 35 := ⟨186, TX2, 7, by decide +kernel, rfl, rfl, xl_RX6_186, xi_X2_become, xs_X2_become, xm_X2_become⟩
theorem iX6_ahead_35 : DPushI mX6_ahead 35 0 36 := Or.inl ⟨0, by decide +kernel, by decide, rfl⟩
theorem iX6_ahead_36 : DStI mX6_ahead 36 3 37 := ⟨by decide, Or.inl ⟨3, by decide +kernel, rfl, rfl⟩⟩
theorem iX6_ahead_37 : DLdI mX6_ahead 37 3 38 := Or.inl ⟨3, by decide +kernel, rfl, rfl⟩
theorem iX6_ahead_38 : DLdI mX6_ahead 38 1 39 := Or.inl ⟨1, by decide +kernel, rfl, rfl⟩
theorem iX6_ahead_39 : DCm mX6_ahead 39 .ge 59 42 := ⟨20, by decide +kernel, by decide, rfl⟩
theorem iX6_ahead_42 : DLdA mX6_ahead 42 0 43 := Or.inl ⟨0, by decide +kernel, rfl, rfl⟩
theorem iX6_ahead_43 : DGet mX6_ahead 43 6 0 46 := ⟨10, by decide +kernel, rfl, xf_RX6_10⟩
theorem iX6_ahead_46 : DLdA mX6_ahead 46 0 47 := Or.inl ⟨0, by decide +kernel, rfl, rfl⟩
theorem iX6_ahead_47 : DGet mX6_ahead 47 6 7 50 := ⟨42, by decide +kernel, rfl, xf_RX6_42⟩
theorem iX6_ahead_50 : DInvV mX6_ahead 50 mX3_pass 3 1 53 := ⟨171, TX3, 10, by decide +kernel, rfl, rfl, xl_RX6_171, xi_X3_pass, xs_X3_pass, xm_X3_pass⟩
theorem iX6_ahead_53 : DInc mX6_ahead 53 3 1 56 := ⟨by decide, 1, by decide +kernel, by decide, rfl⟩
theorem iX6_ahead_56 : DGo mX6_ahead 56 37 := ⟨(-19), by decide +kernel, by decide⟩
theorem iX6_ahead_59 : DLdI mX6_ahead 59 2 60 := Or.inl ⟨2, by decide +kernel, rfl, rfl⟩
theorem iX6_ahead_60 : DIf mX6_ahead 60 .ne 71 63 := ⟨11, by decide +kernel, by decide, rfl⟩
theorem iX6_ahead_63 : DLdA mX6_ahead 63 0 64 := Or.inl ⟨0, by decide +kernel, rfl, rfl⟩
theorem iX6_ahead_64 : DGet mX6_ahead 64 6 7 67 := ⟨42, by decide +kernel, rfl, xf_RX6_42⟩
theorem iX6_ahead_67 : DGet mX6_ahead 67 2 2 70 := ⟨154, by decide +kernel, rfl, xf_RX6_154⟩
theorem iX6_ahead_70 : mX6_ahead.2.2.2 = some .int ∧ decode mX6_ahead.2.1 70 = .ok (.ireturn, 1) := ⟨rfl, by decide +kernel⟩
theorem iX6_ahead_71 : DLdI mX6_ahead 71 2 72 := Or.inl ⟨2, by decide +kernel, rfl, rfl⟩
theorem iX6_ahead_72 : DPushI mX6_ahead 72 1 73 := Or.inl ⟨1, by decide +kernel, by decide, rfl⟩
theorem iX6_ahead_73 : DCm mX6_ahead 73 .ne 86 76 := ⟨13, by decide +kernel, by decide, rfl⟩
theorem iX6_ahead_76 : DLdA mX6_ahead 76 0 77 := Or.inl ⟨0, by decide +kernel, rfl, rfl⟩
theorem iX6_ahead_77 : DGet mX6_ahead 77 6 7 80 := ⟨42, by decide +kernel, rfl, xf_RX6_42⟩
theorem iX6_ahead_80 : DGet mX6_ahead 80 2 3 83 := ⟨157, by decide +kernel, rfl, xf_RX6_157⟩
theorem iX6_ahead_83 : DGo mX6_ahead 83 93 := ⟨10, by decide +kernel, by decide⟩
theorem iX6_ahead_86 : DLdA mX6_ahead 86 0 87 := Or.inl ⟨0, by decide +kernel, rfl, rfl⟩
theorem iX6_ahead_87 : DGet mX6_ahead 87 6 7 90 := ⟨42, by decide +kernel, rfl, xf_RX6_42⟩
theorem iX6_ahead_90 : DGet mX6_ahead 90 2 4 93 := ⟨160, by decide +kernel, rfl, xf_RX6_160⟩
theorem iX6_ahead_93 : mX6_ahead.2.2.2 = some .int ∧ decode mX6_ahead.2.1 93 = .ok (.ireturn, 1) := ⟨rfl, by decide +kernel⟩
theorem iX6_at_0 : DLdA mX6_at 0 0 1 := Or.inl ⟨0, by decide +kernel, rfl, rfl⟩
theorem iX6_at_1 : DGet mX6_at 1 6 0 4 := ⟨10, by decide +kernel, rfl, xf_RX6_10⟩
theorem iX6_at_4 : DLdI mX6_at 4 1 5 := Or.inl ⟨1, by decide +kernel, rfl, rfl⟩
theorem iX6_at_5 : DInvV mX6_at 5 mX3_hasLadder 3 1 8 := ⟨103, TX3, 10, by decide +kernel, rfl, rfl, xl_RX6_103, xi_X3_hasLadder, xs_X3_hasLadder, xm_X3_hasLadder⟩
theorem iX6_at_8 : DIf mX6_at 8 .ne 13 11 := ⟨5, by decide +kernel, by decide, rfl⟩
theorem iX6_at_11 : DPushI mX6_at 11 (-1) 12 := Or.inl ⟨(-1), by decide +kernel, by decide, rfl⟩
theorem iX6_at_12 : mX6_at.2.2.2 = some .int ∧ decode mX6_at.2.1 12 = .ok (.ireturn, 1) := ⟨rfl, by decide +kernel⟩
theorem iX6_at_13 : DLdI mX6_at 13 2 14 := Or.inl ⟨2, by decide +kernel, rfl, rfl⟩
theorem iX6_at_14 : DTab mX6_at 14 0 [52, 62, 72, 82, 95, 114] 133 := ⟨119, 5, #[38, 48, 58, 68, 81, 100], 38, by decide +kernel, by decide, by decide, by decide⟩
theorem iX6_at_52 : DLdA mX6_at 52 0 53 := Or.inl ⟨0, by decide +kernel, rfl, rfl⟩
theorem iX6_at_53 : DGet mX6_at 53 6 0 56 := ⟨10, by decide +kernel, rfl, xf_RX6_10⟩
theorem iX6_at_56 : DGet mX6_at 56 3 6 59 := ⟨106, by decide +kernel, rfl, xf_RX6_106⟩
theorem iX6_at_59 : DLdI mX6_at 59 1 60 := Or.inl ⟨1, by decide +kernel, rfl, rfl⟩
theorem iX6_at_60 : D1 mX6_at 60 .iaload 1 61 := ⟨by decide +kernel, rfl⟩
theorem iX6_at_61 : mX6_at.2.2.2 = some .int ∧ decode mX6_at.2.1 61 = .ok (.ireturn, 1) := ⟨rfl, by decide +kernel⟩
theorem iX6_at_62 : DLdA mX6_at 62 0 63 := Or.inl ⟨0, by decide +kernel, rfl, rfl⟩
theorem iX6_at_63 : DGet mX6_at 63 6 0 66 := ⟨10, by decide +kernel, rfl, xf_RX6_10⟩
theorem iX6_at_66 : DGet mX6_at 66 3 7 69 := ⟨109, by decide +kernel, rfl, xf_RX6_109⟩
theorem iX6_at_69 : DLdI mX6_at 69 1 70 := Or.inl ⟨1, by decide +kernel, rfl, rfl⟩
theorem iX6_at_70 : D1 mX6_at 70 .iaload 1 71 := ⟨by decide +kernel, rfl⟩
theorem iX6_at_71 : mX6_at.2.2.2 = some .int ∧ decode mX6_at.2.1 71 = .ok (.ireturn, 1) := ⟨rfl, by decide +kernel⟩
theorem iX6_at_72 : DLdA mX6_at 72 0 73 := Or.inl ⟨0, by decide +kernel, rfl, rfl⟩
theorem iX6_at_73 : DGet mX6_at 73 6 0 76 := ⟨10, by decide +kernel, rfl, xf_RX6_10⟩
theorem iX6_at_76 : DGet mX6_at 76 3 8 79 := ⟨112, by decide +kernel, rfl, xf_RX6_112⟩
theorem iX6_at_79 : DLdI mX6_at 79 1 80 := Or.inl ⟨1, by decide +kernel, rfl, rfl⟩
theorem iX6_at_80 : D1 mX6_at 80 .iaload 1 81 := ⟨by decide +kernel, rfl⟩
theorem iX6_at_81 : mX6_at.2.2.2 = some .int ∧ decode mX6_at.2.1 81 = .ok (.ireturn, 1) := ⟨rfl, by decide +kernel⟩
theorem iX6_at_82 : DLdA mX6_at 82 0 83 := Or.inl ⟨0, by decide +kernel, rfl, rfl⟩
theorem iX6_at_83 : DGet mX6_at 83 6 0 86 := ⟨10, by decide +kernel, rfl, xf_RX6_10⟩
theorem iX6_at_86 : DGet mX6_at 86 3 9 89 := ⟨83, by decide +kernel, rfl, xf_RX6_83⟩
theorem iX6_at_89 : DGet mX6_at 89 2 1 92 := ⟨115, by decide +kernel, rfl, xf_RX6_115⟩
theorem iX6_at_92 : DLdI mX6_at 92 1 93 := Or.inl ⟨1, by decide +kernel, rfl, rfl⟩
theorem iX6_at_93 : D1 mX6_at 93 .iaload 1 94 := ⟨by decide +kernel, rfl⟩
theorem iX6_at_94 : mX6_at.2.2.2 = some .int ∧ decode mX6_at.2.1 94 = .ok (.ireturn, 1) := ⟨rfl, by decide +kernel⟩
theorem iX6_at_95 : DLdA mX6_at 95 0 96 := Or.inl ⟨0, by decide +kernel, rfl, rfl⟩
theorem iX6_at_96 : DGet mX6_at 96 6 0 99 := ⟨10, by decide +kernel, rfl, xf_RX6_10⟩
theorem iX6_at_99 : DLdI mX6_at 99 1 100 := Or.inl ⟨1, by decide +kernel, rfl, rfl⟩
theorem iX6_at_100 : DLdA mX6_at 100 0 101 := Or.inl ⟨0, by decide +kernel, rfl, rfl⟩
theorem iX6_at_101 : DGet mX6_at 101 6 0 104 := ⟨10, by decide +kernel, rfl, xf_RX6_10⟩
theorem iX6_at_104 : DGet mX6_at 104 3 9 107 := ⟨83, by decide +kernel, rfl, xf_RX6_83⟩
theorem iX6_at_107 : DGet mX6_at 107 2 5 110 := ⟨96, by decide +kernel, rfl, xf_RX6_96⟩
theorem iX6_at_110 : DInvV mX6_at 110 mX3_reach 3 2 113 := ⟨118, TX3, 10, by decide +kernel, rfl, rfl, xl_RX6_118, xi_X3_reach, xs_X3_reach, xm_X3_reach⟩
theorem iX6_at_113 : mX6_at.2.2.2 = some .int ∧ decode mX6_at.2.1 113 = .ok (.ireturn, 1) := ⟨rfl, by decide +kernel⟩
theorem iX6_at_114 : DLdA mX6_at 114 0 115 := Or.inl ⟨0, by decide +kernel, rfl, rfl⟩
theorem iX6_at_115 : DGet mX6_at 115 6 0 118 := ⟨10, by decide +kernel, rfl, xf_RX6_10⟩
theorem iX6_at_118 : DLdI mX6_at 118 1 119 := Or.inl ⟨1, by decide +kernel, rfl, rfl⟩
theorem iX6_at_119 : DLdA mX6_at 119 0 120 := Or.inl ⟨0, by decide +kernel, rfl, rfl⟩
theorem iX6_at_120 : DGet mX6_at 120 6 0 123 := ⟨10, by decide +kernel, rfl, xf_RX6_10⟩
theorem iX6_at_123 : DGet mX6_at 123 3 9 126 := ⟨83, by decide +kernel, rfl, xf_RX6_83⟩
theorem iX6_at_126 : DGet mX6_at 126 2 5 129 := ⟨96, by decide +kernel, rfl, xf_RX6_96⟩
theorem iX6_at_129 : DInvV mX6_at 129 mX3_treesInReach 3 2 132 := ⟨122, TX3, 10, by decide +kernel, rfl, rfl, xl_RX6_122, xi_X3_treesInReach, xs_X3_treesInReach, xm_X3_treesInReach⟩
theorem iX6_at_132 : mX6_at.2.2.2 = some .int ∧ decode mX6_at.2.1 132 = .ok (.ireturn, 1) := ⟨rfl, by decide +kernel⟩
theorem iX6_at_133 : DPushI mX6_at 133 (-1) 134 := Or.inl ⟨(-1), by decide +kernel, by decide, rfl⟩
theorem iX6_at_134 : mX6_at.2.2.2 = some .int ∧ decode mX6_at.2.1 134 = .ok (.ireturn, 1) := ⟨rfl, by decide +kernel⟩
theorem iX6_commonDivisor_0 : DLdI mX6_commonDivisor 0 0 1 := Or.inl ⟨0, by decide +kernel, rfl, rfl⟩
theorem iX6_commonDivisor_1 : DStI mX6_commonDivisor 1 2 2 := ⟨by decide, Or.inl ⟨2, by decide +kernel, rfl, rfl⟩⟩
theorem iX6_commonDivisor_2 : DLdI mX6_commonDivisor 2 1 3 := Or.inl ⟨1, by decide +kernel, rfl, rfl⟩
theorem iX6_commonDivisor_3 : DStI mX6_commonDivisor 3 3 4 := ⟨by decide, Or.inl ⟨3, by decide +kernel, rfl, rfl⟩⟩
theorem iX6_commonDivisor_4 : DPushI mX6_commonDivisor 4 0 5 := Or.inl ⟨0, by decide +kernel, by decide, rfl⟩
theorem iX6_commonDivisor_5 : DStI mX6_commonDivisor 5 4 7 := ⟨by decide, Or.inr ⟨by decide +kernel, rfl⟩⟩
theorem iX6_commonDivisor_7 : DLdI mX6_commonDivisor 7 4 9 := Or.inr ⟨by decide +kernel, rfl⟩
theorem iX6_commonDivisor_9 : DPushI mX6_commonDivisor 9 100 11 := Or.inr (Or.inl ⟨100, by decide +kernel, by decide, rfl⟩)
theorem iX6_commonDivisor_11 : DCm mX6_commonDivisor 11 .ge 34 14 := ⟨23, by decide +kernel, by decide, rfl⟩
theorem iX6_commonDivisor_14 : DLdI mX6_commonDivisor 14 3 15 := Or.inl ⟨3, by decide +kernel, rfl, rfl⟩
theorem iX6_commonDivisor_15 : DIf mX6_commonDivisor 15 .eq 34 18 := ⟨19, by decide +kernel, by decide, rfl⟩
theorem iX6_commonDivisor_18 : DLdI mX6_commonDivisor 18 2 19 := Or.inl ⟨2, by decide +kernel, rfl, rfl⟩
theorem iX6_commonDivisor_19 : DLdI mX6_commonDivisor 19 3 20 := Or.inl ⟨3, by decide +kernel, rfl, rfl⟩
theorem iX6_commonDivisor_20 : D1 mX6_commonDivisor 20 .irem 1 21 := ⟨by decide +kernel, rfl⟩
theorem iX6_commonDivisor_21 : DStI mX6_commonDivisor 21 5 23 := ⟨by decide, Or.inr ⟨by decide +kernel, rfl⟩⟩
theorem iX6_commonDivisor_23 : DLdI mX6_commonDivisor 23 3 24 := Or.inl ⟨3, by decide +kernel, rfl, rfl⟩
theorem iX6_commonDivisor_24 : DStI mX6_commonDivisor 24 2 25 := ⟨by decide, Or.inl ⟨2, by decide +kernel, rfl, rfl⟩⟩
theorem iX6_commonDivisor_25 : DLdI mX6_commonDivisor 25 5 27 := Or.inr ⟨by decide +kernel, rfl⟩
theorem iX6_commonDivisor_27 : DStI mX6_commonDivisor 27 3 28 := ⟨by decide, Or.inl ⟨3, by decide +kernel, rfl, rfl⟩⟩
theorem iX6_commonDivisor_28 : DInc mX6_commonDivisor 28 4 1 31 := ⟨by decide, 1, by decide +kernel, by decide, rfl⟩
theorem iX6_commonDivisor_31 : DGo mX6_commonDivisor 31 7 := ⟨(-24), by decide +kernel, by decide⟩
theorem iX6_commonDivisor_34 : DLdI mX6_commonDivisor 34 2 35 := Or.inl ⟨2, by decide +kernel, rfl, rfl⟩
theorem iX6_commonDivisor_35 : DPushI mX6_commonDivisor 35 1 36 := Or.inl ⟨1, by decide +kernel, by decide, rfl⟩
theorem iX6_commonDivisor_36 : DMax mX6_commonDivisor 36 39 := ⟨286, by decide +kernel, rfl, xl_RX6_286, xl_ms_max, xl_mi, xl_mc_max⟩
theorem iX6_commonDivisor_39 : mX6_commonDivisor.2.2.2 = some .int ∧ decode mX6_commonDivisor.2.1 39 = .ok (.ireturn, 1) := ⟨rfl, by decide +kernel⟩
theorem iX6_copy_0 : DLdI mX6_copy 0 1 1 := Or.inl ⟨1, by decide +kernel, rfl, rfl⟩
theorem iX6_copy_1 : DInvS mX6_copy 1 mX6_isSheet 1 4 := ⟨237, by decide +kernel, rfl, Or.inl xl_RX6_237, xt_X6_isSheet, xm_X6_isSheet⟩
theorem iX6_copy_4 : DIf mX6_copy 4 .eq 14 7 := ⟨10, by decide +kernel, by decide, rfl⟩
theorem iX6_copy_7 : DLdI mX6_copy 7 3 8 := Or.inl ⟨3, by decide +kernel, rfl, rfl⟩
theorem iX6_copy_8 : DInvS mX6_copy 8 mX6_isSheet 1 11 := ⟨237, by decide +kernel, rfl, Or.inl xl_RX6_237, xt_X6_isSheet, xm_X6_isSheet⟩
theorem iX6_copy_11 : DIf mX6_copy 11 .ne 16 14 := ⟨5, by decide +kernel, by decide, rfl⟩
theorem iX6_copy_14 : DPushI mX6_copy 14 (-1) 15 := Or.inl ⟨(-1), by decide +kernel, by decide, rfl⟩
theorem iX6_copy_15 : mX6_copy.2.2.2 = some .int ∧ decode mX6_copy.2.1 15 = .ok (.ireturn, 1) := ⟨rfl, by decide +kernel⟩
theorem iX6_copy_16 : DLdA mX6_copy 16 0 17 := Or.inl ⟨0, by decide +kernel, rfl, rfl⟩
theorem iX6_copy_17 : DGet mX6_copy 17 6 9 20 := ⟨55, by decide +kernel, rfl, xf_RX6_55⟩
theorem iX6_copy_20 : DLdI mX6_copy 20 1 21 := Or.inl ⟨1, by decide +kernel, rfl, rfl⟩
theorem iX6_copy_21 : D1 mX6_copy 21 .aaload 1 22 := ⟨by decide +kernel, rfl⟩
theorem iX6_copy_22 : DStA mX6_copy 22 6 24 := ⟨by decide, Or.inr ⟨by decide +kernel, rfl⟩⟩
theorem iX6_copy_24 : DLdA mX6_copy 24 0 25 := Or.inl ⟨0, by decide +kernel, rfl, rfl⟩
theorem iX6_copy_25 : DGet mX6_copy 25 6 9 28 := ⟨55, by decide +kernel, rfl, xf_RX6_55⟩
theorem iX6_copy_28 : DLdI mX6_copy 28 3 29 := Or.inl ⟨3, by decide +kernel, rfl, rfl⟩
theorem iX6_copy_29 : D1 mX6_copy 29 .aaload 1 30 := ⟨by decide +kernel, rfl⟩
theorem iX6_copy_30 : DStA mX6_copy 30 7 32 := ⟨by decide, Or.inr ⟨by decide +kernel, rfl⟩⟩
theorem iX6_copy_32 : DLdA mX6_copy 32 6 34 := Or.inr ⟨by decide +kernel, rfl⟩
theorem iX6_copy_34 : DGet mX6_copy 34 4 1 37 := ⟨257, by decide +kernel, rfl, xf_RX6_257⟩
theorem iX6_copy_37 : DPushI mX6_copy 37 (-1) 38 := Or.inl ⟨(-1), by decide +kernel, by decide, rfl⟩
theorem iX6_copy_38 : DCm mX6_copy 38 .eq 50 41 := ⟨12, by decide +kernel, by decide, rfl⟩
theorem iX6_copy_41 : DLdA mX6_copy 41 7 43 := Or.inr ⟨by decide +kernel, rfl⟩
theorem iX6_copy_43 : DGet mX6_copy 43 4 1 46 := ⟨257, by decide +kernel, rfl, xf_RX6_257⟩
theorem iX6_copy_46 : DPushI mX6_copy 46 (-1) 47 := Or.inl ⟨(-1), by decide +kernel, by decide, rfl⟩
theorem iX6_copy_47 : DCm mX6_copy 47 .ne 53 50 := ⟨6, by decide +kernel, by decide, rfl⟩
theorem iX6_copy_50 : DPushI mX6_copy 50 (-11) 52 := Or.inr (Or.inl ⟨(-11), by decide +kernel, by decide, rfl⟩)
theorem iX6_copy_52 : mX6_copy.2.2.2 = some .int ∧ decode mX6_copy.2.1 52 = .ok (.ireturn, 1) := ⟨rfl, by decide +kernel⟩
theorem iX6_copy_53 : DLdA mX6_copy 53 6 55 := Or.inr ⟨by decide +kernel, rfl⟩
theorem iX6_copy_55 : DGet mX6_copy 55 4 1 58 := ⟨257, by decide +kernel, rfl, xf_RX6_257⟩
theorem iX6_copy_58 : DLdA mX6_copy 58 7 60 := Or.inr ⟨by decide +kernel, rfl⟩
theorem iX6_copy_60 : DGet mX6_copy 60 4 1 63 := ⟨257, by decide +kernel, rfl, xf_RX6_257⟩
theorem iX6_copy_63 : DCm mX6_copy 63 .eq 69 66 := ⟨6, by decide +kernel, by decide, rfl⟩
theorem iX6_copy_66 : DPushI mX6_copy 66 (-12) 68 := Or.inr (Or.inl ⟨(-12), by decide +kernel, by decide, rfl⟩)
theorem iX6_copy_68 : mX6_copy.2.2.2 = some .int ∧ decode mX6_copy.2.1 68 = .ok (.ireturn, 1) := ⟨rfl, by decide +kernel⟩
theorem iX6_copy_69 : DLdA mX6_copy 69 6 71 := Or.inr ⟨by decide +kernel, rfl⟩
theorem iX6_copy_71 : DLdI mX6_copy 71 2 72 := Or.inl ⟨2, by decide +kernel, rfl, rfl⟩
theorem iX6_copy_72 : DLdI mX6_copy 72 5 74 := Or.inr ⟨by decide +kernel, rfl⟩
theorem iX6_copy_74 : DInvV mX6_copy 74 mX4_holds 4 2 77 := ⟨261, TX4, 3, by decide +kernel, rfl, rfl, xl_RX6_261, xi_X4_holds, xs_X4_holds, xm_X4_holds⟩
theorem iX6_copy_77 : DIf mX6_copy 77 .eq 92 80 := ⟨15, by decide +kernel, by decide, rfl⟩
theorem iX6_copy_80 : DLdA mX6_copy 80 7 82 := Or.inr ⟨by decide +kernel, rfl⟩
theorem iX6_copy_82 : DLdI mX6_copy 82 4 84 := Or.inr ⟨by decide +kernel, rfl⟩
theorem iX6_copy_84 : DLdI mX6_copy 84 5 86 := Or.inr ⟨by decide +kernel, rfl⟩
theorem iX6_copy_86 : DInvV mX6_copy 86 mX4_holds 4 2 89 := ⟨261, TX4, 3, by decide +kernel, rfl, rfl, xl_RX6_261, xi_X4_holds, xs_X4_holds, xm_X4_holds⟩
theorem iX6_copy_89 : DIf mX6_copy 89 .ne 95 92 := ⟨6, by decide +kernel, by decide, rfl⟩
theorem iX6_copy_92 : DPushI mX6_copy 92 (-13) 94 := Or.inr (Or.inl ⟨(-13), by decide +kernel, by decide, rfl⟩)
theorem iX6_copy_94 : mX6_copy.2.2.2 = some .int ∧ decode mX6_copy.2.1 94 = .ok (.ireturn, 1) := ⟨rfl, by decide +kernel⟩
theorem iX6_copy_95 : DLdA mX6_copy 95 6 97 := Or.inr ⟨by decide +kernel, rfl⟩
theorem iX6_copy_97 : DGet mX6_copy 97 4 0 100 := ⟨265, by decide +kernel, rfl, xf_RX6_265⟩
theorem iX6_copy_100 : DLdI mX6_copy 100 2 101 := Or.inl ⟨2, by decide +kernel, rfl, rfl⟩
theorem iX6_copy_101 : DLdA mX6_copy 101 7 103 := Or.inr ⟨by decide +kernel, rfl⟩
theorem iX6_copy_103 : DGet mX6_copy 103 4 0 106 := ⟨265, by decide +kernel, rfl, xf_RX6_265⟩
theorem iX6_copy_106 : DLdI mX6_copy 106 4 108 := Or.inr ⟨by decide +kernel, rfl⟩
theorem iX6_copy_108 : DLdI mX6_copy 108 5 110 := Or.inr ⟨by decide +kernel, rfl⟩
theorem iX6_copy_110 : DCopy mX6_copy 110 113 := ⟨269, by decide +kernel, rfl, xl_RX6_269, xl_cn, xl_cs, xl_ci⟩
theorem iX6_copy_113 : DLdI mX6_copy 113 5 115 := Or.inr ⟨by decide +kernel, rfl⟩
theorem iX6_copy_115 : mX6_copy.2.2.2 = some .int ∧ decode mX6_copy.2.1 115 = .ok (.ireturn, 1) := ⟨rfl, by decide +kernel⟩
end
section
theorem iX6_count_0 : DLdI mX6_count 0 1 1 := Or.inl ⟨1, by decide +kernel, rfl, rfl⟩
theorem iX6_count_1 : DTab mX6_count 1 0 [56, 64, 72, 83, 94, 105, 116, 131, 139, 147] 155 := ⟨154, 9, #[55, 63, 71, 82, 93, 104, 115, 130, 138, 146], 55, by decide +kernel, by decide, by decide, by decide⟩
theorem iX6_count_56 : DLdA mX6_count 56 0 57 := Or.inl ⟨0, by decide +kernel, rfl, rfl⟩
theorem iX6_count_57 : DGet mX6_count 57 6 0 60 := ⟨10, by decide +kernel, rfl, xf_RX6_10⟩
theorem iX6_count_60 : DGet mX6_count 60 3 0 63 := ⟨148, by decide +kernel, rfl, xf_RX6_148⟩
theorem iX6_count_63 : mX6_count.2.2.2 = some .int ∧ decode mX6_count.2.1 63 = .ok (.ireturn, 1) := ⟨rfl, by decide +kernel⟩
theorem iX6_count_64 : DLdA mX6_count 64 0 65 := Or.inl ⟨0, by decide +kernel, rfl, rfl⟩
theorem iX6_count_65 : DGet mX6_count 65 6 0 68 := ⟨10, by decide +kernel, rfl, xf_RX6_10⟩
theorem iX6_count_68 : DGet mX6_count 68 3 1 71 := ⟨151, by decide +kernel, rfl, xf_RX6_151⟩
theorem iX6_count_71 : mX6_count.2.2.2 = some .int ∧ decode mX6_count.2.1 71 = .ok (.ireturn, 1) := ⟨rfl, by decide +kernel⟩
theorem iX6_count_72 : DLdA mX6_count 72 0 73 := Or.inl ⟨0, by decide +kernel, rfl, rfl⟩
theorem iX6_count_73 : DGet mX6_count 73 6 0 76 := ⟨10, by decide +kernel, rfl, xf_RX6_10⟩
theorem iX6_count_76 : DGet mX6_count 76 3 9 79 := ⟨83, by decide +kernel, rfl, xf_RX6_83⟩
theorem iX6_count_79 : DGet mX6_count 79 2 5 82 := ⟨96, by decide +kernel, rfl, xf_RX6_96⟩
theorem iX6_count_82 : mX6_count.2.2.2 = some .int ∧ decode mX6_count.2.1 82 = .ok (.ireturn, 1) := ⟨rfl, by decide +kernel⟩
theorem iX6_count_83 : DLdA mX6_count 83 0 84 := Or.inl ⟨0, by decide +kernel, rfl, rfl⟩
theorem iX6_count_84 : DGet mX6_count 84 6 0 87 := ⟨10, by decide +kernel, rfl, xf_RX6_10⟩
theorem iX6_count_87 : DGet mX6_count 87 3 9 90 := ⟨83, by decide +kernel, rfl, xf_RX6_83⟩
theorem iX6_count_90 : DGet mX6_count 90 2 2 93 := ⟨154, by decide +kernel, rfl, xf_RX6_154⟩
theorem iX6_count_93 : mX6_count.2.2.2 = some .int ∧ decode mX6_count.2.1 93 = .ok (.ireturn, 1) := ⟨rfl, by decide +kernel⟩
theorem iX6_count_94 : DLdA mX6_count 94 0 95 := Or.inl ⟨0, by decide +kernel, rfl, rfl⟩
theorem iX6_count_95 : DGet mX6_count 95 6 0 98 := ⟨10, by decide +kernel, rfl, xf_RX6_10⟩
theorem iX6_count_98 : DGet mX6_count 98 3 9 101 := ⟨83, by decide +kernel, rfl, xf_RX6_83⟩
theorem iX6_count_101 : DGet mX6_count 101 2 3 104 := ⟨157, by decide +kernel, rfl, xf_RX6_157⟩
theorem iX6_count_104 : mX6_count.2.2.2 = some .int ∧ decode mX6_count.2.1 104 = .ok (.ireturn, 1) := ⟨rfl, by decide +kernel⟩
theorem iX6_count_105 : DLdA mX6_count 105 0 106 := Or.inl ⟨0, by decide +kernel, rfl, rfl⟩
theorem iX6_count_106 : DGet mX6_count 106 6 0 109 := ⟨10, by decide +kernel, rfl, xf_RX6_10⟩
theorem iX6_count_109 : DGet mX6_count 109 3 9 112 := ⟨83, by decide +kernel, rfl, xf_RX6_83⟩
theorem iX6_count_112 : DGet mX6_count 112 2 4 115 := ⟨160, by decide +kernel, rfl, xf_RX6_160⟩
theorem iX6_count_115 : mX6_count.2.2.2 = some .int ∧ decode mX6_count.2.1 115 = .ok (.ireturn, 1) := ⟨rfl, by decide +kernel⟩
theorem iX6_count_116 : DLdA mX6_count 116 0 117 := Or.inl ⟨0, by decide +kernel, rfl, rfl⟩
theorem iX6_count_117 : DGet mX6_count 117 6 0 120 := ⟨10, by decide +kernel, rfl, xf_RX6_10⟩
theorem iX6_count_120 : DLdA mX6_count 120 0 121 := Or.inl ⟨0, by decide +kernel, rfl, rfl⟩
theorem iX6_count_121 : DGet mX6_count 121 6 0 124 := ⟨10, by decide +kernel, rfl, xf_RX6_10⟩
theorem iX6_count_124 : DGet mX6_count 124 3 9 127 := ⟨83, by decide +kernel, rfl, xf_RX6_83⟩
theorem iX6_count_127 : DInvV mX6_count 127 mX3_fruitOfAll 3 1 130 := ⟨163, TX3, 10, by decide +kernel, rfl, rfl, xl_RX6_163, xi_X3_fruitOfAll, xs_X3_fruitOfAll, xm_X3_fruitOfAll⟩
theorem iX6_count_130 : mX6_count.2.2.2 = some .int ∧ decode mX6_count.2.1 130 = .ok (.ireturn, 1) := ⟨rfl, by decide +kernel⟩
theorem iX6_count_131 : DLdA mX6_count 131 0 132 := Or.inl ⟨0, by decide +kernel, rfl, rfl⟩
theorem iX6_count_132 : DGet mX6_count 132 6 0 135 := ⟨10, by decide +kernel, rfl, xf_RX6_10⟩
theorem iX6_count_135 : DGet mX6_count 135 3 2 138 := ⟨125, by decide +kernel, rfl, xf_RX6_125⟩
theorem iX6_count_138 : mX6_count.2.2.2 = some .int ∧ decode mX6_count.2.1 138 = .ok (.ireturn, 1) := ⟨rfl, by decide +kernel⟩
theorem iX6_count_139 : DLdA mX6_count 139 0 140 := Or.inl ⟨0, by decide +kernel, rfl, rfl⟩
theorem iX6_count_140 : DGet mX6_count 140 6 0 143 := ⟨10, by decide +kernel, rfl, xf_RX6_10⟩
theorem iX6_count_143 : DGet mX6_count 143 3 3 146 := ⟨128, by decide +kernel, rfl, xf_RX6_128⟩
theorem iX6_count_146 : mX6_count.2.2.2 = some .int ∧ decode mX6_count.2.1 146 = .ok (.ireturn, 1) := ⟨rfl, by decide +kernel⟩
theorem iX6_count_147 : DLdA mX6_count 147 0 148 := Or.inl ⟨0, by decide +kernel, rfl, rfl⟩
theorem iX6_count_148 : DGet mX6_count 148 6 1 151 := ⟨19, by decide +kernel, rfl, xf_RX6_19⟩
theorem iX6_count_151 : DGet mX6_count 151 1 1 154 := ⟨145, by decide +kernel, rfl, xf_RX6_145⟩
theorem iX6_count_154 : mX6_count.2.2.2 = some .int ∧ decode mX6_count.2.1 154 = .ok (.ireturn, 1) := ⟨rfl, by decide +kernel⟩
theorem iX6_count_155 : DPushI mX6_count 155 (-1) 156 := Or.inl ⟨(-1), by decide +kernel, by decide, rfl⟩
theorem iX6_count_156 : mX6_count.2.2.2 = some .int ∧ decode mX6_count.2.1 156 = .ok (.ireturn, 1) := ⟨rfl, by decide +kernel⟩
theorem iX6_days_0 : DLdI mX6_days 0 1 1 := Or.inl ⟨1, by decide +kernel, rfl, rfl⟩
theorem iX6_days_1 : DPushI mX6_days 1 1 2 := Or.inl ⟨1, by decide +kernel, by decide, rfl⟩
theorem iX6_days_2 : DPushI mX6_days 2 40 4 := Or.inr (Or.inl ⟨40, by decide +kernel, by decide, rfl⟩)
theorem iX6_days_4 : DInvS mX6_days 4 mX6_within 3 7 := ⟨60, by decide +kernel, rfl, Or.inl xl_RX6_60, xt_X6_within, xm_X6_within⟩
theorem iX6_days_7 : DIf mX6_days 7 .ne 12 10 := ⟨5, by decide +kernel, by decide, rfl⟩
theorem iX6_days_10 : DPushI mX6_days 10 (-1) 11 := Or.inl ⟨(-1), by decide +kernel, by decide, rfl⟩
theorem iX6_days_11 : mX6_days.2.2.2 = some .int ∧ decode mX6_days.2.1 11 = .ok (.ireturn, 1) := ⟨rfl, by decide +kernel⟩
theorem iX6_days_12 : DLdA mX6_days 12 0 13 := Or.inl ⟨0, by decide +kernel, rfl, rfl⟩
theorem iX6_days_13 : DGet mX6_days 13 6 0 16 := ⟨10, by decide +kernel, rfl, xf_RX6_10⟩
theorem iX6_days_16 : DGet mX6_days 16 3 9 19 := ⟨83, by decide +kernel, rfl, xf_RX6_83⟩
theorem iX6_days_19 : DGet mX6_days 19 2 5 22 := ⟨96, by decide +kernel, rfl, xf_RX6_96⟩
theorem iX6_days_22 : DLdI mX6_days 22 1 23 := Or.inl ⟨1, by decide +kernel, rfl, rfl⟩
theorem iX6_days_23 : D1 mX6_days 23 .iadd 1 24 := ⟨by decide +kernel, rfl⟩
theorem iX6_days_24 : DPushI mX6_days 24 9999 27 := Or.inr (Or.inr (Or.inl ⟨9999, by decide +kernel, by decide, rfl⟩))
theorem iX6_days_27 : DCm mX6_days 27 .le 33 30 := ⟨6, by decide +kernel, by decide, rfl⟩
theorem iX6_days_30 : DPushI mX6_days 30 (-3) 32 := Or.inr (Or.inl ⟨(-3), by decide +kernel, by decide, rfl⟩)
theorem iX6_days_32 : mX6_days.2.2.2 = some .int ∧ decode mX6_days.2.1 32 = .ok (.ireturn, 1) := ⟨rfl, by decide +kernel⟩
theorem iX6_days_33 : DLdA mX6_days 33 0 34 := Or.inl ⟨0, by decide +kernel, rfl, rfl⟩
theorem iX6_days_34 : DGet mX6_days 34 6 0 37 := ⟨10, by decide +kernel, rfl, xf_RX6_10⟩
theorem iX6_days_37 : DGet mX6_days 37 3 9 40 := ⟨83, by decide +kernel, rfl, xf_RX6_83⟩
theorem iX6_days_40 : DGet mX6_days 40 2 2 43 := ⟨154, by decide +kernel, rfl, xf_RX6_154⟩
theorem iX6_days_43 : DStI mX6_days 43 2 44 := ⟨by decide, Or.inl ⟨2, by decide +kernel, rfl, rfl⟩⟩
theorem iX6_days_44 : DPushI mX6_days 44 0 45 := Or.inl ⟨0, by decide +kernel, by decide, rfl⟩
theorem iX6_days_45 : DStI mX6_days 45 3 46 := ⟨by decide, Or.inl ⟨3, by decide +kernel, rfl, rfl⟩⟩
theorem iX6_days_46 : DLdI mX6_days 46 3 47 := Or.inl ⟨3, by decide +kernel, rfl, rfl⟩
theorem iX6_days_47 : DLdI mX6_days 47 1 48 := Or.inl ⟨1, by decide +kernel, rfl, rfl⟩
theorem iX6_days_48 : DCm mX6_days 48 .ge 85 51 := ⟨37, by decide +kernel, by decide, rfl⟩
theorem iX6_days_51 : DLdA mX6_days 51 0 52 := Or.inl ⟨0, by decide +kernel, rfl, rfl⟩
theorem iX6_days_52 : DGet mX6_days 52 6 1 55 := ⟨19, by decide +kernel, rfl, xf_RX6_19⟩
theorem iX6_days_55 : DLdA mX6_days 55 0 56 := Or.inl ⟨0, by decide +kernel, rfl, rfl⟩
theorem iX6_days_56 : DGet mX6_days 56 6 0 59 := ⟨10, by decide +kernel, rfl, xf_RX6_10⟩
theorem iX6_days_59 : DGet mX6_days 59 3 9 62 := ⟨83, by decide +kernel, rfl, xf_RX6_83⟩
theorem iX6_days_62 : DInvV mX6_days 62 mX1_remember 1 1 65 := ⟨167, TX1, 2, by decide +kernel, rfl, rfl, xl_RX6_167, xi_X1_remember, xs_X1_remember, xm_X1_remember⟩
theorem iX6_days_65 : DLdA mX6_days 65 0 66 := Or.inl ⟨0, by decide +kernel, rfl, rfl⟩
theorem iX6_days_66 : DGet mX6_days 66 6 0 69 := ⟨10, by decide +kernel, rfl, xf_RX6_10⟩
theorem iX6_days_69 : DLdA mX6_days 69 0 70 := Or.inl ⟨0, by decide +kernel, rfl, rfl⟩
theorem iX6_days_70 : DGet mX6_days 70 6 0 73 := ⟨10, by decide +kernel, rfl, xf_RX6_10⟩
theorem iX6_days_73 : DGet mX6_days 73 3 9 76 := ⟨83, by decide +kernel, rfl, xf_RX6_83⟩
theorem iX6_days_76 : DInvV mX6_days 76 mX3_pass 3 1 79 := ⟨171, TX3, 10, by decide +kernel, rfl, rfl, xl_RX6_171, xi_X3_pass, xs_X3_pass, xm_X3_pass⟩
theorem iX6_days_79 : DInc mX6_days 79 3 1 82 := ⟨by decide, 1, by decide +kernel, by decide, rfl⟩
theorem iX6_days_82 : DGo mX6_days 82 46 := ⟨(-36), by decide +kernel, by decide⟩
theorem iX6_days_85 : DLdA mX6_days 85 0 86 := Or.inl ⟨0, by decide +kernel, rfl, rfl⟩
theorem iX6_days_86 : DGet mX6_days 86 6 0 89 := ⟨10, by decide +kernel, rfl, xf_RX6_10⟩
theorem iX6_days_89 : DGet mX6_days 89 3 9 92 := ⟨83, by decide +kernel, rfl, xf_RX6_83⟩
theorem iX6_days_92 : DGet mX6_days 92 2 2 95 := ⟨154, by decide +kernel, rfl, xf_RX6_154⟩
theorem iX6_days_95 : DLdI mX6_days 95 2 96 := Or.inl ⟨2, by decide +kernel, rfl, rfl⟩
theorem iX6_days_96 : D1 mX6_days 96 .isub 1 97 := ⟨by decide +kernel, rfl⟩
theorem iX6_days_97 : mX6_days.2.2.2 = some .int ∧ decode mX6_days.2.1 97 = .ok (.ireturn, 1) := ⟨rfl, by decide +kernel⟩
theorem iX6_drift_0 : DLdI mX6_drift 0 1 1 := Or.inl ⟨1, by decide +kernel, rfl, rfl⟩
theorem iX6_drift_1 : DPushI mX6_drift 1 1 2 := Or.inl ⟨1, by decide +kernel, by decide, rfl⟩
theorem iX6_drift_2 : DPushI mX6_drift 2 40 4 := Or.inr (Or.inl ⟨40, by decide +kernel, by decide, rfl⟩)
theorem iX6_drift_4 : DInvS mX6_drift 4 mX6_within 3 7 := ⟨60, by decide +kernel, rfl, Or.inl xl_RX6_60, xt_X6_within, xm_X6_within⟩
theorem iX6_drift_7 : DIf mX6_drift 7 .ne 12 10 := ⟨5, by decide +kernel, by decide, rfl⟩
theorem iX6_drift_10 : DPushI mX6_drift 10 (-1) 11 := Or.inl ⟨(-1), by decide +kernel, by decide, rfl⟩
theorem iX6_drift_11 : mX6_drift.2.2.2 = some .int ∧ decode mX6_drift.2.1 11 = .ok (.ireturn, 1) := ⟨rfl, by decide +kernel⟩
theorem iX6_drift_12 : DLdA mX6_drift 12 0 13 := Or.inl ⟨0, by decide +kernel, rfl, rfl⟩
theorem iX6_drift_13 : DGet mX6_drift 13 6 0 16 := ⟨10, by decide +kernel, rfl, xf_RX6_10⟩
theorem iX6_drift_16 : DGet mX6_drift 16 3 9 19 := ⟨83, by decide +kernel, rfl, xf_RX6_83⟩
theorem iX6_drift_19 : DGet mX6_drift 19 2 5 22 := ⟨96, by decide +kernel, rfl, xf_RX6_96⟩
theorem iX6_drift_22 : DLdI mX6_drift 22 1 23 := Or.inl ⟨1, by decide +kernel, rfl, rfl⟩
theorem iX6_drift_23 : D1 mX6_drift 23 .iadd 1 24 := ⟨by decide +kernel, rfl⟩
theorem iX6_drift_24 : DPushI mX6_drift 24 9999 27 := Or.inr (Or.inr (Or.inl ⟨9999, by decide +kernel, by decide, rfl⟩))
theorem iX6_drift_27 : DCm mX6_drift 27 .le 33 30 := ⟨6, by decide +kernel, by decide, rfl⟩
theorem iX6_drift_30 : DPushI mX6_drift 30 (-3) 32 := Or.inr (Or.inl ⟨(-3), by decide +kernel, by decide, rfl⟩)
theorem iX6_drift_32 : mX6_drift.2.2.2 = some .int ∧ decode mX6_drift.2.1 32 = .ok (.ireturn, 1) := ⟨rfl, by decide +kernel⟩
theorem iX6_drift_33 : DLdA mX6_drift 33 0 34 := Or.inl ⟨0, by decide +kernel, rfl, rfl⟩
theorem iX6_drift_34 : DGet mX6_drift 34 6 0 37 := ⟨10, by decide +kernel, rfl, xf_RX6_10⟩
theorem iX6_drift_37 : DGet mX6_drift 37 3 9 40 := ⟨83, by decide +kernel, rfl, xf_RX6_83⟩
theorem iX6_drift_40 : DGet mX6_drift 40 2 4 43 := ⟨160, by decide +kernel, rfl, xf_RX6_160⟩
theorem iX6_drift_43 : DStI mX6_drift 43 2 44 := ⟨by decide, Or.inl ⟨2, by decide +kernel, rfl, rfl⟩⟩
theorem iX6_drift_44 : DPushI mX6_drift 44 0 45 := Or.inl ⟨0, by decide +kernel, by decide, rfl⟩
theorem iX6_drift_45 : DStI mX6_drift 45 3 46 := ⟨by decide, Or.inl ⟨3, by decide +kernel, rfl, rfl⟩⟩
theorem iX6_drift_46 : DLdI mX6_drift 46 3 47 := Or.inl ⟨3, by decide +kernel, rfl, rfl⟩
theorem iX6_drift_47 : DLdI mX6_drift 47 1 48 := Or.inl ⟨1, by decide +kernel, rfl, rfl⟩
theorem iX6_drift_48 : DCm mX6_drift 48 .ge 92 51 := ⟨44, by decide +kernel, by decide, rfl⟩
theorem iX6_drift_51 : DLdA mX6_drift 51 0 52 := Or.inl ⟨0, by decide +kernel, rfl, rfl⟩
theorem iX6_drift_52 : DGet mX6_drift 52 6 1 55 := ⟨19, by decide +kernel, rfl, xf_RX6_19⟩
theorem iX6_drift_55 : DLdA mX6_drift 55 0 56 := Or.inl ⟨0, by decide +kernel, rfl, rfl⟩
theorem iX6_drift_56 : DGet mX6_drift 56 6 0 59 := ⟨10, by decide +kernel, rfl, xf_RX6_10⟩
theorem iX6_drift_59 : DGet mX6_drift 59 3 9 62 := ⟨83, by decide +kernel, rfl, xf_RX6_83⟩
theorem iX6_drift_62 : DInvV mX6_drift 62 mX1_remember 1 1 65 := ⟨167, TX1, 2, by decide +kernel, rfl, rfl, xl_RX6_167, xi_X1_remember, xs_X1_remember, xm_X1_remember⟩
theorem iX6_drift_65 : DLdA mX6_drift 65 0 66 := Or.inl ⟨0, by decide +kernel, rfl, rfl⟩
theorem iX6_drift_66 : DGet mX6_drift 66 6 0 69 := ⟨10, by decide +kernel, rfl, xf_RX6_10⟩
theorem iX6_drift_69 : DInvV mX6_drift 69 mX3_gust 3 0 72 := ⟨177, TX3, 10, by decide +kernel, rfl, rfl, xl_RX6_177, xi_X3_gust, xs_X3_gust, xm_X3_gust⟩
theorem iX6_drift_72 : DLdA mX6_drift 72 0 73 := Or.inl ⟨0, by decide +kernel, rfl, rfl⟩
theorem iX6_drift_73 : DGet mX6_drift 73 6 0 76 := ⟨10, by decide +kernel, rfl, xf_RX6_10⟩
theorem iX6_drift_76 : DLdA mX6_drift 76 0 77 := Or.inl ⟨0, by decide +kernel, rfl, rfl⟩
theorem iX6_drift_77 : DGet mX6_drift 77 6 0 80 := ⟨10, by decide +kernel, rfl, xf_RX6_10⟩
theorem iX6_drift_80 : DGet mX6_drift 80 3 9 83 := ⟨83, by decide +kernel, rfl, xf_RX6_83⟩
theorem iX6_drift_83 : DInvV mX6_drift 83 mX3_pass 3 1 86 := ⟨171, TX3, 10, by decide +kernel, rfl, rfl, xl_RX6_171, xi_X3_pass, xs_X3_pass, xm_X3_pass⟩
theorem iX6_drift_86 : DInc mX6_drift 86 3 1 89 := ⟨by decide, 1, by decide +kernel, by decide, rfl⟩
theorem iX6_drift_89 : DGo mX6_drift 89 46 := ⟨(-43), by decide +kernel, by decide⟩
theorem iX6_drift_92 : DLdA mX6_drift 92 0 93 := Or.inl ⟨0, by decide +kernel, rfl, rfl⟩
theorem iX6_drift_93 : DGet mX6_drift 93 6 0 96 := ⟨10, by decide +kernel, rfl, xf_RX6_10⟩
theorem iX6_drift_96 : DGet mX6_drift 96 3 9 99 := ⟨83, by decide +kernel, rfl, xf_RX6_83⟩
theorem iX6_drift_99 : DGet mX6_drift 99 2 4 102 := ⟨160, by decide +kernel, rfl, xf_RX6_160⟩
theorem iX6_drift_102 : DLdI mX6_drift 102 2 103 := Or.inl ⟨2, by decide +kernel, rfl, rfl⟩
theorem iX6_drift_103 : D1 mX6_drift 103 .isub 1 104 := ⟨by decide +kernel, rfl⟩
theorem iX6_drift_104 : mX6_drift.2.2.2 = some .int ∧ decode mX6_drift.2.1 104 = .ok (.ireturn, 1) := ⟨rfl, by decide +kernel⟩
theorem iX6_drop_0 : DLdI mX6_drop 0 1 1 := Or.inl ⟨1, by decide +kernel, rfl, rfl⟩
theorem iX6_drop_1 : DInvS mX6_drop 1 mX6_isSheet 1 4 := ⟨237, by decide +kernel, rfl, Or.inl xl_RX6_237, xt_X6_isSheet, xm_X6_isSheet⟩
theorem iX6_drop_4 : DIf mX6_drop 4 .ne 9 7 := ⟨5, by decide +kernel, by decide, rfl⟩
theorem iX6_drop_7 : DPushI mX6_drop 7 (-1) 8 := Or.inl ⟨(-1), by decide +kernel, by decide, rfl⟩
theorem iX6_drop_8 : mX6_drop.2.2.2 = some .int ∧ decode mX6_drop.2.1 8 = .ok (.ireturn, 1) := ⟨rfl, by decide +kernel⟩
theorem iX6_drop_9 : DLdA mX6_drop 9 0 10 := Or.inl ⟨0, by decide +kernel, rfl, rfl⟩
theorem iX6_drop_10 : DGet mX6_drop 10 6 9 13 := ⟨55, by decide +kernel, rfl, xf_RX6_55⟩
theorem iX6_drop_13 : DLdI mX6_drop 13 1 14 := Or.inl ⟨1, by decide +kernel, rfl, rfl⟩
theorem iX6_drop_14 : D1 mX6_drop 14 .aaload 1 15 := ⟨by decide +kernel, rfl⟩
theorem iX6_drop_15 : DGet mX6_drop 15 4 1 18 := ⟨257, by decide +kernel, rfl, xf_RX6_257⟩
theorem iX6_drop_18 : DPushI mX6_drop 18 (-1) 19 := Or.inl ⟨(-1), by decide +kernel, by decide, rfl⟩
theorem iX6_drop_19 : DCm mX6_drop 19 .ne 25 22 := ⟨6, by decide +kernel, by decide, rfl⟩
theorem iX6_drop_22 : DPushI mX6_drop 22 (-11) 24 := Or.inr (Or.inl ⟨(-11), by decide +kernel, by decide, rfl⟩)
theorem iX6_drop_24 : mX6_drop.2.2.2 = some .int ∧ decode mX6_drop.2.1 24 = .ok (.ireturn, 1) := ⟨rfl, by decide +kernel⟩
theorem iX6_drop_25 : DLdA mX6_drop 25 0 26 := Or.inl ⟨0, by decide +kernel, rfl, rfl⟩
theorem iX6_drop_26 : DGet mX6_drop 26 6 9 29 := ⟨55, by decide +kernel, rfl, xf_RX6_55⟩
theorem iX6_drop_29 : DLdI mX6_drop 29 1 30 := Or.inl ⟨1, by decide +kernel, rfl, rfl⟩
theorem iX6_drop_30 : D1 mX6_drop 30 .aaload 1 31 := ⟨by decide +kernel, rfl⟩
theorem iX6_drop_31 : DPushI mX6_drop 31 (-1) 32 := Or.inl ⟨(-1), by decide +kernel, by decide, rfl⟩
theorem iX6_drop_32 : DPut mX6_drop 32 4 1 .int 35 := ⟨257, by decide +kernel, rfl, RX4, TX4, 3, tyX4, rfl, by decide, bigW_at 217 (by decide +kernel) rfl, xw4, tyX4_ok, nmX4, rfl, Or.inl rfl⟩
theorem iX6_drop_35 : DLdA mX6_drop 35 0 36 := Or.inl ⟨0, by decide +kernel, rfl, rfl⟩
theorem iX6_drop_36 : DGet mX6_drop 36 6 9 39 := ⟨55, by decide +kernel, rfl, xf_RX6_55⟩
theorem iX6_drop_39 : DLdI mX6_drop 39 1 40 := Or.inl ⟨1, by decide +kernel, rfl, rfl⟩
theorem iX6_drop_40 : D1 mX6_drop 40 .aaload 1 41 := ⟨by decide +kernel, rfl⟩
theorem iX6_drop_41 : DGet mX6_drop 41 4 2 44 := ⟨260, by decide +kernel, rfl, xf_RX6_260⟩
theorem iX6_drop_44 : mX6_drop.2.2.2 = some .int ∧ decode mX6_drop.2.1 44 = .ok (.ireturn, 1) := ⟨rfl, by decide +kernel⟩
theorem iX6_film_0 : DLdA mX6_film 0 0 1 := Or.inl ⟨0, by decide +kernel, rfl, rfl⟩
theorem iX6_film_1 : DGet mX6_film 1 6 0 4 := ⟨10, by decide +kernel, rfl, xf_RX6_10⟩
theorem iX6_film_4 : DLdI mX6_film 4 1 5 := Or.inl ⟨1, by decide +kernel, rfl, rfl⟩
theorem iX6_film_5 : DInvV mX6_film 5 mX3_hasTree 3 1 8 := ⟨75, TX3, 10, by decide +kernel, rfl, rfl, xl_RX6_75, xi_X3_hasTree, xs_X3_hasTree, xm_X3_hasTree⟩
theorem iX6_film_8 : DIf mX6_film 8 .eq 36 11 := ⟨28, by decide +kernel, by decide, rfl⟩
theorem iX6_film_11 : DLdI mX6_film 11 2 12 := Or.inl ⟨2, by decide +kernel, rfl, rfl⟩
theorem iX6_film_12 : DPushI mX6_film 12 1 13 := Or.inl ⟨1, by decide +kernel, by decide, rfl⟩
theorem iX6_film_13 : DPushI mX6_film 13 24 15 := Or.inr (Or.inl ⟨24, by decide +kernel, by decide, rfl⟩)
theorem iX6_film_15 : DInvS mX6_film 15 mX6_within 3 18 := ⟨60, by decide +kernel, rfl, Or.inl xl_RX6_60, xt_X6_within, xm_X6_within⟩
theorem iX6_film_18 : DIf mX6_film 18 .eq 36 21 := ⟨18, by decide +kernel, by decide, rfl⟩
theorem iX6_film_21 : DLdI mX6_film 21 3 22 := Or.inl ⟨3, by decide +kernel, rfl, rfl⟩
theorem iX6_film_22 : DInvS mX6_film 22 mX6_isSheet 1 25 := ⟨237, by decide +kernel, rfl, Or.inl xl_RX6_237, xt_X6_isSheet, xm_X6_isSheet⟩
theorem iX6_film_25 : DIf mX6_film 25 .eq 36 28 := ⟨11, by decide +kernel, by decide, rfl⟩
theorem iX6_film_28 : DLdI mX6_film 28 4 30 := Or.inr ⟨by decide +kernel, rfl⟩
theorem iX6_film_30 : DInvS mX6_film 30 mX6_isLane 1 33 := ⟨240, by decide +kernel, rfl, Or.inl xl_RX6_240, xt_X6_isLane, xm_X6_isLane⟩
theorem iX6_film_33 : DIf mX6_film 33 .ne 38 36 := ⟨5, by decide +kernel, by decide, rfl⟩
theorem iX6_film_36 : DPushI mX6_film 36 (-1) 37 := Or.inl ⟨(-1), by decide +kernel, by decide, rfl⟩
theorem iX6_film_37 : mX6_film.2.2.2 = some .int ∧ decode mX6_film.2.1 37 = .ok (.ireturn, 1) := ⟨rfl, by decide +kernel⟩
theorem iX6_film_38 : DLdA mX6_film 38 0 39 := Or.inl ⟨0, by decide +kernel, rfl, rfl⟩
theorem iX6_film_39 : DGet mX6_film 39 6 9 42 := ⟨55, by decide +kernel, rfl, xf_RX6_55⟩
theorem iX6_film_42 : DLdI mX6_film 42 3 43 := Or.inl ⟨3, by decide +kernel, rfl, rfl⟩
theorem iX6_film_43 : D1 mX6_film 43 .aaload 1 44 := ⟨by decide +kernel, rfl⟩
theorem iX6_film_44 : DLdI mX6_film 44 4 46 := Or.inr ⟨by decide +kernel, rfl⟩
theorem iX6_film_46 : DLdI mX6_film 46 5 48 := Or.inr ⟨by decide +kernel, rfl⟩
theorem iX6_film_48 : DLdI mX6_film 48 2 49 := Or.inl ⟨2, by decide +kernel, rfl, rfl⟩
theorem iX6_film_49 : DInvV mX6_film 49 mX4_find 4 3 52 := ⟨243, TX4, 3, by decide +kernel, rfl, rfl, xl_RX6_243, xi_X4_find, xs_X4_find, xm_X4_find⟩
theorem iX6_film_52 : DStI mX6_film 52 6 54 := ⟨by decide, Or.inr ⟨by decide +kernel, rfl⟩⟩
theorem iX6_film_54 : DLdI mX6_film 54 6 56 := Or.inr ⟨by decide +kernel, rfl⟩
theorem iX6_film_56 : DIf mX6_film 56 .eq 62 59 := ⟨6, by decide +kernel, by decide, rfl⟩
theorem iX6_film_59 : DLdI mX6_film 59 6 61 := Or.inr ⟨by decide +kernel, rfl⟩
theorem iX6_film_61 : mX6_film.2.2.2 = some .int ∧ decode mX6_film.2.1 61 = .ok (.ireturn, 1) := ⟨rfl, by decide +kernel⟩
theorem iX6_film_62 : DLdA mX6_film 62 0 63 := Or.inl ⟨0, by decide +kernel, rfl, rfl⟩
theorem iX6_film_63 : DGet mX6_film 63 6 0 66 := ⟨10, by decide +kernel, rfl, xf_RX6_10⟩
theorem iX6_film_66 : DGet mX6_film 66 3 9 69 := ⟨83, by decide +kernel, rfl, xf_RX6_83⟩
theorem iX6_film_69 : DLdI mX6_film 69 1 70 := Or.inl ⟨1, by decide +kernel, rfl, rfl⟩
theorem iX6_film_70 : DInvV mX6_film 70 mX2_leaningAt 2 1 73 := ⟨92, TX2, 7, by decide +kernel, rfl, rfl, xl_RX6_92, xi_X2_leaningAt, xs_X2_leaningAt, xm_X2_leaningAt⟩
theorem iX6_film_73 : DStI mX6_film 73 7 75 := ⟨by decide, Or.inr ⟨by decide +kernel, rfl⟩⟩
theorem iX6_film_75 : DLdA mX6_film 75 0 76 := Or.inl ⟨0, by decide +kernel, rfl, rfl⟩
theorem iX6_film_76 : DGet mX6_film 76 6 0 79 := ⟨10, by decide +kernel, rfl, xf_RX6_10⟩
theorem iX6_film_79 : DGet mX6_film 79 3 9 82 := ⟨83, by decide +kernel, rfl, xf_RX6_83⟩
theorem iX6_film_82 : DGet mX6_film 82 2 0 85 := ⟨86, by decide +kernel, rfl, xf_RX6_86⟩
theorem iX6_film_85 : DLdI mX6_film 85 1 86 := Or.inl ⟨1, by decide +kernel, rfl, rfl⟩
theorem iX6_film_86 : D1 mX6_film 86 .iaload 1 87 := ⟨by decide +kernel, rfl⟩
theorem iX6_film_87 : DStI mX6_film 87 8 89 := ⟨by decide, Or.inr ⟨by decide +kernel, rfl⟩⟩
theorem iX6_film_89 : DPushI mX6_film 89 0 90 := Or.inl ⟨0, by decide +kernel, by decide, rfl⟩
theorem iX6_film_90 : DStI mX6_film 90 9 92 := ⟨by decide, Or.inr ⟨by decide +kernel, rfl⟩⟩
theorem iX6_film_92 : DLdI mX6_film 92 9 94 := Or.inr ⟨by decide +kernel, rfl⟩
theorem iX6_film_94 : DLdI mX6_film 94 2 95 := Or.inl ⟨2, by decide +kernel, rfl, rfl⟩
theorem iX6_film_95 : DCm mX6_film 95 .ge 148 98 := ⟨53, by decide +kernel, by decide, rfl⟩
theorem iX6_film_98 : DLdA mX6_film 98 0 99 := Or.inl ⟨0, by decide +kernel, rfl, rfl⟩
theorem iX6_film_99 : DGet mX6_film 99 6 0 102 := ⟨10, by decide +kernel, rfl, xf_RX6_10⟩
theorem iX6_film_102 : DLdI mX6_film 102 1 103 := Or.inl ⟨1, by decide +kernel, rfl, rfl⟩
theorem iX6_film_103 : DLdA mX6_film 103 0 104 := Or.inl ⟨0, by decide +kernel, rfl, rfl⟩
theorem iX6_film_104 : DGet mX6_film 104 6 0 107 := ⟨10, by decide +kernel, rfl, xf_RX6_10⟩
theorem iX6_film_107 : DGet mX6_film 107 3 9 110 := ⟨83, by decide +kernel, rfl, xf_RX6_83⟩
theorem iX6_film_110 : DGet mX6_film 110 2 5 113 := ⟨96, by decide +kernel, rfl, xf_RX6_96⟩
theorem iX6_film_113 : DLdI mX6_film 113 9 115 := Or.inr ⟨by decide +kernel, rfl⟩
theorem iX6_film_115 : D1 mX6_film 115 .iadd 1 116 := ⟨by decide +kernel, rfl⟩
theorem iX6_film_116 : DLdI mX6_film 116 7 118 := Or.inr ⟨by decide +kernel, rfl⟩
theorem iX6_film_118 : DLdI mX6_film 118 8 120 := Or.inr ⟨by decide +kernel, rfl⟩
theorem iX6_film_120 : DInvV mX6_film 120 mX3_leftBehind 3 4 123 := ⟨189, TX3, 10, by decide +kernel, rfl, rfl, xl_RX6_189, xi_X3_leftBehind, xs_X3_leftBehind, xm_X3_leftBehind⟩
theorem iX6_film_123 : DStI mX6_film 123 8 125 := ⟨by decide, Or.inr ⟨by decide +kernel, rfl⟩⟩
theorem iX6_film_125 : DLdA mX6_film 125 0 126 := Or.inl ⟨0, by decide +kernel, rfl, rfl⟩
theorem iX6_film_126 : DGet mX6_film 126 6 9 129 := ⟨55, by decide +kernel, rfl, xf_RX6_55⟩
theorem iX6_film_129 : DLdI mX6_film 129 3 130 := Or.inl ⟨3, by decide +kernel, rfl, rfl⟩
theorem iX6_film_130 : D1 mX6_film 130 .aaload 1 131 := ⟨by decide +kernel, rfl⟩
theorem iX6_film_131 : DLdI mX6_film 131 5 133 := Or.inr ⟨by decide +kernel, rfl⟩
theorem iX6_film_133 : DLdI mX6_film 133 9 135 := Or.inr ⟨by decide +kernel, rfl⟩
theorem iX6_film_135 : D1 mX6_film 135 .iadd 1 136 := ⟨by decide +kernel, rfl⟩
theorem iX6_film_136 : DLdI mX6_film 136 8 138 := Or.inr ⟨by decide +kernel, rfl⟩
theorem iX6_film_138 : D1 mX6_film 138 .i2l 1 139 := ⟨by decide +kernel, rfl⟩
theorem iX6_film_139 : DInvV mX6_film 139 mX4_put 4 2 142 := ⟨250, TX4, 3, by decide +kernel, rfl, rfl, xl_RX6_250, xi_X4_put, xs_X4_put, xm_X4_put⟩
theorem iX6_film_142 : DInc mX6_film 142 9 1 145 := ⟨by decide, 1, by decide +kernel, by decide, rfl⟩
theorem iX6_film_145 : DGo mX6_film 145 92 := ⟨(-53), by decide +kernel, by decide⟩
theorem iX6_film_148 : DLdI mX6_film 148 2 149 := Or.inl ⟨2, by decide +kernel, rfl, rfl⟩
theorem iX6_film_149 : mX6_film.2.2.2 = some .int ∧ decode mX6_film.2.1 149 = .ok (.ireturn, 1) := ⟨rfl, by decide +kernel⟩
theorem iX6_fruit_0 : DLdA mX6_fruit 0 0 1 := Or.inl ⟨0, by decide +kernel, rfl, rfl⟩
theorem iX6_fruit_1 : DGet mX6_fruit 1 6 0 4 := ⟨10, by decide +kernel, rfl, xf_RX6_10⟩
theorem iX6_fruit_4 : DLdI mX6_fruit 4 1 5 := Or.inl ⟨1, by decide +kernel, rfl, rfl⟩
theorem iX6_fruit_5 : DInvV mX6_fruit 5 mX3_hasTree 3 1 8 := ⟨75, TX3, 10, by decide +kernel, rfl, rfl, xl_RX6_75, xi_X3_hasTree, xs_X3_hasTree, xm_X3_hasTree⟩
theorem iX6_fruit_8 : DIf mX6_fruit 8 .eq 21 11 := ⟨13, by decide +kernel, by decide, rfl⟩
theorem iX6_fruit_11 : DLdI mX6_fruit 11 2 12 := Or.inl ⟨2, by decide +kernel, rfl, rfl⟩
theorem iX6_fruit_12 : DPushI mX6_fruit 12 0 13 := Or.inl ⟨0, by decide +kernel, by decide, rfl⟩
theorem iX6_fruit_13 : DPushI mX6_fruit 13 60 15 := Or.inr (Or.inl ⟨60, by decide +kernel, by decide, rfl⟩)
theorem iX6_fruit_15 : DInvS mX6_fruit 15 mX6_within 3 18 := ⟨60, by decide +kernel, rfl, Or.inl xl_RX6_60, xt_X6_within, xm_X6_within⟩
theorem iX6_fruit_18 : DIf mX6_fruit 18 .ne 23 21 := ⟨5, by decide +kernel, by decide, rfl⟩
theorem iX6_fruit_21 : DPushI mX6_fruit 21 (-1) 22 := Or.inl ⟨(-1), by decide +kernel, by decide, rfl⟩
theorem iX6_fruit_22 : mX6_fruit.2.2.2 = some .int ∧ decode mX6_fruit.2.1 22 = .ok (.ireturn, 1) := ⟨rfl, by decide +kernel⟩
theorem iX6_fruit_23 : DLdA mX6_fruit 23 0 24 := Or.inl ⟨0, by decide +kernel, rfl, rfl⟩
theorem iX6_fruit_24 : DGet mX6_fruit 24 6 0 27 := ⟨10, by decide +kernel, rfl, xf_RX6_10⟩
theorem iX6_fruit_27 : DGet mX6_fruit 27 3 9 30 := ⟨83, by decide +kernel, rfl, xf_RX6_83⟩
theorem iX6_fruit_30 : DLdI mX6_fruit 30 1 31 := Or.inl ⟨1, by decide +kernel, rfl, rfl⟩
theorem iX6_fruit_31 : DInvV mX6_fruit 31 mX2_leaningAt 2 1 34 := ⟨92, TX2, 7, by decide +kernel, rfl, rfl, xl_RX6_92, xi_X2_leaningAt, xs_X2_leaningAt, xm_X2_leaningAt⟩
theorem iX6_fruit_34 : DStI mX6_fruit 34 3 35 := ⟨by decide, Or.inl ⟨3, by decide +kernel, rfl, rfl⟩⟩
theorem iX6_fruit_35 : DLdA mX6_fruit 35 0 36 := Or.inl ⟨0, by decide +kernel, rfl, rfl⟩
theorem iX6_fruit_36 : DGet mX6_fruit 36 6 0 39 := ⟨10, by decide +kernel, rfl, xf_RX6_10⟩
theorem iX6_fruit_39 : DGet mX6_fruit 39 3 9 42 := ⟨83, by decide +kernel, rfl, xf_RX6_83⟩
theorem iX6_fruit_42 : DGet mX6_fruit 42 2 0 45 := ⟨86, by decide +kernel, rfl, xf_RX6_86⟩
theorem iX6_fruit_45 : DLdI mX6_fruit 45 1 46 := Or.inl ⟨1, by decide +kernel, rfl, rfl⟩
theorem iX6_fruit_46 : D1 mX6_fruit 46 .iaload 1 47 := ⟨by decide +kernel, rfl⟩
theorem iX6_fruit_47 : DStI mX6_fruit 47 4 49 := ⟨by decide, Or.inr ⟨by decide +kernel, rfl⟩⟩
theorem iX6_fruit_49 : DPushI mX6_fruit 49 0 50 := Or.inl ⟨0, by decide +kernel, by decide, rfl⟩
theorem iX6_fruit_50 : DStI mX6_fruit 50 5 52 := ⟨by decide, Or.inr ⟨by decide +kernel, rfl⟩⟩
theorem iX6_fruit_52 : DLdI mX6_fruit 52 5 54 := Or.inr ⟨by decide +kernel, rfl⟩
theorem iX6_fruit_54 : DLdI mX6_fruit 54 2 55 := Or.inl ⟨2, by decide +kernel, rfl, rfl⟩
theorem iX6_fruit_55 : DCm mX6_fruit 55 .ge 90 58 := ⟨35, by decide +kernel, by decide, rfl⟩
theorem iX6_fruit_58 : DLdA mX6_fruit 58 0 59 := Or.inl ⟨0, by decide +kernel, rfl, rfl⟩
theorem iX6_fruit_59 : DGet mX6_fruit 59 6 0 62 := ⟨10, by decide +kernel, rfl, xf_RX6_10⟩
theorem iX6_fruit_62 : DLdI mX6_fruit 62 1 63 := Or.inl ⟨1, by decide +kernel, rfl, rfl⟩
theorem iX6_fruit_63 : DLdA mX6_fruit 63 0 64 := Or.inl ⟨0, by decide +kernel, rfl, rfl⟩
theorem iX6_fruit_64 : DGet mX6_fruit 64 6 0 67 := ⟨10, by decide +kernel, rfl, xf_RX6_10⟩
theorem iX6_fruit_67 : DGet mX6_fruit 67 3 9 70 := ⟨83, by decide +kernel, rfl, xf_RX6_83⟩
theorem iX6_fruit_70 : DGet mX6_fruit 70 2 5 73 := ⟨96, by decide +kernel, rfl, xf_RX6_96⟩
theorem iX6_fruit_73 : DLdI mX6_fruit 73 5 75 := Or.inr ⟨by decide +kernel, rfl⟩
theorem iX6_fruit_75 : D1 mX6_fruit 75 .iadd 1 76 := ⟨by decide +kernel, rfl⟩
theorem iX6_fruit_76 : DLdI mX6_fruit 76 3 77 := Or.inl ⟨3, by decide +kernel, rfl, rfl⟩
theorem iX6_fruit_77 : DLdI mX6_fruit 77 4 79 := Or.inr ⟨by decide +kernel, rfl⟩
theorem iX6_fruit_79 : DInvV mX6_fruit 79 mX3_leftBehind 3 4 82 := ⟨189, TX3, 10, by decide +kernel, rfl, rfl, xl_RX6_189, xi_X3_leftBehind, xs_X3_leftBehind, xm_X3_leftBehind⟩
theorem iX6_fruit_82 : DStI mX6_fruit 82 4 84 := ⟨by decide, Or.inr ⟨by decide +kernel, rfl⟩⟩
theorem iX6_fruit_84 : DInc mX6_fruit 84 5 1 87 := ⟨by decide, 1, by decide +kernel, by decide, rfl⟩
theorem iX6_fruit_87 : DGo mX6_fruit 87 52 := ⟨(-35), by decide +kernel, by decide⟩
theorem iX6_fruit_90 : DLdI mX6_fruit 90 4 92 := Or.inr ⟨by decide +kernel, rfl⟩
theorem iX6_fruit_92 : mX6_fruit.2.2.2 = some .int ∧ decode mX6_fruit.2.1 92 = .ok (.ireturn, 1) := ⟨rfl, by decide +kernel⟩
theorem iX6_gathered_0 : DLdA mX6_gathered 0 0 1 := Or.inl ⟨0, by decide +kernel, rfl, rfl⟩
theorem iX6_gathered_1 : DGet mX6_gathered 1 6 7 4 := ⟨42, by decide +kernel, rfl, xf_RX6_42⟩
theorem iX6_gathered_4 : DLdA mX6_gathered 4 0 5 := Or.inl ⟨0, by decide +kernel, rfl, rfl⟩
theorem iX6_gathered_5 : DGet mX6_gathered 5 6 0 8 := ⟨10, by decide +kernel, rfl, xf_RX6_10⟩
theorem iX6_gathered_8 : DGet mX6_gathered 8 3 9 11 := ⟨83, by decide +kernel, rfl, xf_RX6_83⟩
theorem iX6_gathered_11 : DInvV mX6_gathered 11 mX2_become 2 1 14 := ⟨186, TX2, 7, by decide +kernel, rfl, rfl, xl_RX6_186, xi_X2_become, xs_X2_become, xm_X2_become⟩
theorem iX6_gathered_14 : DPushI mX6_gathered 14 0 15 := Or.inl ⟨0, by decide +kernel, by decide, rfl⟩
theorem iX6_gathered_15 : DStI mX6_gathered 15 1 16 := ⟨by decide, Or.inl ⟨1, by decide +kernel, rfl, rfl⟩⟩
theorem iX6_gathered_16 : DLdI mX6_gathered 16 1 17 := Or.inl ⟨1, by decide +kernel, rfl, rfl⟩
theorem iX6_gathered_17 : DPushI mX6_gathered 17 60 19 := Or.inr (Or.inl ⟨60, by decide +kernel, by decide, rfl⟩)
theorem iX6_gathered_19 : DCm mX6_gathered 19 .gt 55 22 := ⟨36, by decide +kernel, by decide, rfl⟩
theorem iX6_gathered_22 : DLdA mX6_gathered 22 0 23 := Or.inl ⟨0, by decide +kernel, rfl, rfl⟩
theorem iX6_gathered_23 : DGet mX6_gathered 23 6 0 26 := ⟨10, by decide +kernel, rfl, xf_RX6_10⟩
theorem iX6_gathered_26 : DLdA mX6_gathered 26 0 27 := Or.inl ⟨0, by decide +kernel, rfl, rfl⟩
theorem iX6_gathered_27 : DGet mX6_gathered 27 6 7 30 := ⟨42, by decide +kernel, rfl, xf_RX6_42⟩
theorem iX6_gathered_30 : DInvV mX6_gathered 30 mX3_fruitOfAll 3 1 33 := ⟨163, TX3, 10, by decide +kernel, rfl, rfl, xl_RX6_163, xi_X3_fruitOfAll, xs_X3_fruitOfAll, xm_X3_fruitOfAll⟩
theorem iX6_gathered_33 : DIf mX6_gathered 33 .ne 38 36 := ⟨5, by decide +kernel, by decide, rfl⟩
theorem iX6_gathered_36 : DLdI mX6_gathered 36 1 37 := Or.inl ⟨1, by decide +kernel, rfl, rfl⟩
theorem iX6_gathered_37 : mX6_gathered.2.2.2 = some .int ∧ decode mX6_gathered.2.1 37 = .ok (.ireturn, 1) := ⟨rfl, by decide +kernel⟩
theorem iX6_gathered_38 : DLdA mX6_gathered 38 0 39 := Or.inl ⟨0, by decide +kernel, rfl, rfl⟩
theorem iX6_gathered_39 : DGet mX6_gathered 39 6 0 42 := ⟨10, by decide +kernel, rfl, xf_RX6_10⟩
theorem iX6_gathered_42 : DLdA mX6_gathered 42 0 43 := Or.inl ⟨0, by decide +kernel, rfl, rfl⟩
theorem iX6_gathered_43 : DGet mX6_gathered 43 6 7 46 := ⟨42, by decide +kernel, rfl, xf_RX6_42⟩
theorem iX6_gathered_46 : DInvV mX6_gathered 46 mX3_pass 3 1 49 := ⟨171, TX3, 10, by decide +kernel, rfl, rfl, xl_RX6_171, xi_X3_pass, xs_X3_pass, xm_X3_pass⟩
theorem iX6_gathered_49 : DInc mX6_gathered 49 1 1 52 := ⟨by decide, 1, by decide +kernel, by decide, rfl⟩
theorem iX6_gathered_52 : DGo mX6_gathered 52 16 := ⟨(-36), by decide +kernel, by decide⟩
theorem iX6_gathered_55 : DPushI mX6_gathered 55 (-4) 57 := Or.inr (Or.inl ⟨(-4), by decide +kernel, by decide, rfl⟩)
theorem iX6_gathered_57 : mX6_gathered.2.2.2 = some .int ∧ decode mX6_gathered.2.1 57 = .ok (.ireturn, 1) := ⟨rfl, by decide +kernel⟩
theorem iX6_image_0 : DLdA mX6_image 0 0 1 := Or.inl ⟨0, by decide +kernel, rfl, rfl⟩
theorem iX6_image_1 : DGet mX6_image 1 6 2 4 := ⟨23, by decide +kernel, rfl, xf_RX6_23⟩
theorem iX6_image_4 : DLdA mX6_image 4 0 5 := Or.inl ⟨0, by decide +kernel, rfl, rfl⟩
theorem iX6_image_5 : DGet mX6_image 5 6 0 8 := ⟨10, by decide +kernel, rfl, xf_RX6_10⟩
theorem iX6_image_8 : DInvV mX6_image 8 mX3_become 3 1 11 := ⟨228, TX3, 10, by decide +kernel, rfl, rfl, xl_RX6_228, xi_X3_become, xs_X3_become, xm_X3_become⟩
theorem iX6_image_11 : DLdA mX6_image 11 0 12 := Or.inl ⟨0, by decide +kernel, rfl, rfl⟩
theorem iX6_image_12 : DGet mX6_image 12 6 3 15 := ⟨26, by decide +kernel, rfl, xf_RX6_26⟩
theorem iX6_image_15 : DLdA mX6_image 15 0 16 := Or.inl ⟨0, by decide +kernel, rfl, rfl⟩
theorem iX6_image_16 : DGet mX6_image 16 6 1 19 := ⟨19, by decide +kernel, rfl, xf_RX6_19⟩
theorem iX6_image_19 : DInvV mX6_image 19 mX1_become 1 1 22 := ⟨230, TX1, 2, by decide +kernel, rfl, rfl, xl_RX6_230, xi_X1_become, xs_X1_become, xm_X1_become⟩
theorem iX6_image_22 : DLdA mX6_image 22 0 23 := Or.inl ⟨0, by decide +kernel, rfl, rfl⟩
theorem iX6_image_23 : DPushI mX6_image 23 1 24 := Or.inl ⟨1, by decide +kernel, by decide, rfl⟩
theorem iX6_image_24 : DPut mX6_image 24 6 4 .boolean 27 := ⟨233, by decide +kernel, rfl, RX6, TX6, 10, tyX6, rfl, by decide, bigW_at 232 (by decide +kernel) rfl, xw6, tyX6_ok, nmX6, rfl, Or.inl rfl⟩
theorem iX6_image_27 : DPushI mX6_image 27 1 28 := Or.inl ⟨1, by decide +kernel, by decide, rfl⟩
theorem iX6_image_28 : mX6_image.2.2.2 = some .int ∧ decode mX6_image.2.1 28 = .ok (.ireturn, 1) := ⟨rfl, by decide +kernel⟩
theorem iX6_init_0 : DLdA mX6_init 0 0 1 := Or.inl ⟨0, by decide +kernel, rfl, rfl⟩
theorem iX6_init_1 : DObj mX6_init 1 4 := ⟨1, by decide +kernel, rfl, xl_RX6_1, xl_objI, xl_objC⟩
theorem iX6_init_4 : DLdA mX6_init 4 0 5 := Or.inl ⟨0, by decide +kernel, rfl, rfl⟩
theorem iX6_init_5 : DNew mX6_init 5 3 [.int 0, .int 0, .int 0, .int 0, .null, .null, .null, .null, .null, .null] 8 := ⟨7, RX3, TX3, 10, tyX3, by decide +kernel, rfl, rfl, xc_RX6_7, xn_RX3, xz_RX3, xw3, tyX3_ok, rfl, by decide +kernel, fun _ _ => rfl⟩
theorem iX6_init_8 : D1 mX6_init 8 .dup 1 9 := ⟨by decide +kernel, rfl⟩
theorem iX6_init_9 : DInvI mX6_init 9 mX3_init 0 12 := ⟨9, by decide +kernel, rfl, Or.inr ⟨"OrchardLadders", List.mem_of_getElem? (i := 0) rfl⟩, xi_X3_init, rfl, rfl, xm_X3_init⟩
theorem iX6_init_12 : DPut mX6_init 12 6 0 (.object RX3) 15 := ⟨10, by decide +kernel, rfl, RX6, TX6, 10, tyX6, rfl, by decide, bigW_at 228 (by decide +kernel) rfl, xw6, tyX6_ok, nmX6, rfl, Or.inr ⟨rfl, rfl, rfl⟩⟩
theorem iX6_init_15 : DLdA mX6_init 15 0 16 := Or.inl ⟨0, by decide +kernel, rfl, rfl⟩
theorem iX6_init_16 : DNew mX6_init 16 1 [.null, .int 0] 19 := ⟨16, RX1, TX1, 2, tyX1, by decide +kernel, rfl, rfl, xc_RX6_16, xn_RX1, xz_RX1, xw1, tyX1_ok, rfl, by decide +kernel, fun _ _ => rfl⟩
theorem iX6_init_19 : D1 mX6_init 19 .dup 1 20 := ⟨by decide +kernel, rfl⟩
theorem iX6_init_20 : DInvI mX6_init 20 mX1_init 0 23 := ⟨18, by decide +kernel, rfl, Or.inl xl_RX6_18, xi_X1_init, rfl, rfl, xm_X1_init⟩
theorem iX6_init_23 : DPut mX6_init 23 6 1 (.object RX1) 26 := ⟨19, by decide +kernel, rfl, RX6, TX6, 10, tyX6, rfl, by decide, bigW_at 229 (by decide +kernel) rfl, xw6, tyX6_ok, nmX6, rfl, Or.inr ⟨rfl, rfl, rfl⟩⟩
theorem iX6_init_26 : DLdA mX6_init 26 0 27 := Or.inl ⟨0, by decide +kernel, rfl, rfl⟩
theorem iX6_init_27 : DNew mX6_init 27 3 [.int 0, .int 0, .int 0, .int 0, .null, .null, .null, .null, .null, .null] 30 := ⟨7, RX3, TX3, 10, tyX3, by decide +kernel, rfl, rfl, xc_RX6_7, xn_RX3, xz_RX3, xw3, tyX3_ok, rfl, by decide +kernel, fun _ _ => rfl⟩
theorem iX6_init_30 : D1 mX6_init 30 .dup 1 31 := ⟨by decide +kernel, rfl⟩
theorem iX6_init_31 : DInvI mX6_init 31 mX3_init 0 34 := ⟨9, by decide +kernel, rfl, Or.inr ⟨"OrchardLadders", List.mem_of_getElem? (i := 0) rfl⟩, xi_X3_init, rfl, rfl, xm_X3_init⟩
theorem iX6_init_34 : DPut mX6_init 34 6 2 (.object RX3) 37 := ⟨23, by decide +kernel, rfl, RX6, TX6, 10, tyX6, rfl, by decide, bigW_at 230 (by decide +kernel) rfl, xw6, tyX6_ok, nmX6, rfl, Or.inr ⟨rfl, rfl, rfl⟩⟩
theorem iX6_init_37 : DLdA mX6_init 37 0 38 := Or.inl ⟨0, by decide +kernel, rfl, rfl⟩
theorem iX6_init_38 : DNew mX6_init 38 1 [.null, .int 0] 41 := ⟨16, RX1, TX1, 2, tyX1, by decide +kernel, rfl, rfl, xc_RX6_16, xn_RX1, xz_RX1, xw1, tyX1_ok, rfl, by decide +kernel, fun _ _ => rfl⟩
theorem iX6_init_41 : D1 mX6_init 41 .dup 1 42 := ⟨by decide +kernel, rfl⟩
theorem iX6_init_42 : DInvI mX6_init 42 mX1_init 0 45 := ⟨18, by decide +kernel, rfl, Or.inl xl_RX6_18, xi_X1_init, rfl, rfl, xm_X1_init⟩
theorem iX6_init_45 : DPut mX6_init 45 6 3 (.object RX1) 48 := ⟨26, by decide +kernel, rfl, RX6, TX6, 10, tyX6, rfl, by decide, bigW_at 231 (by decide +kernel) rfl, xw6, tyX6_ok, nmX6, rfl, Or.inr ⟨rfl, rfl, rfl⟩⟩
theorem iX6_init_48 : DLdA mX6_init 48 0 49 := Or.inl ⟨0, by decide +kernel, rfl, rfl⟩
theorem iX6_init_49 : DNew mX6_init 49 5 [.null, .int 0, .int 0, .int 0] 52 := ⟨29, RX5, TX5, 4, tyX5, by decide +kernel, rfl, rfl, xc_RX6_29, xn_RX5, xz_RX5, xw5, tyX5_ok, rfl, by decide +kernel, fun _ _ => rfl⟩
theorem iX6_init_52 : D1 mX6_init 52 .dup 1 53 := ⟨by decide +kernel, rfl⟩
theorem iX6_init_53 : DInvI mX6_init 53 mX5_init 0 56 := ⟨31, by decide +kernel, rfl, Or.inr ⟨"OrchardLadders", List.mem_of_getElem? (i := 1) rfl⟩, xi_X5_init, rfl, rfl, xm_X5_init⟩
theorem iX6_init_56 : DPut mX6_init 56 6 5 (.object RX5) 59 := ⟨32, by decide +kernel, rfl, RX6, TX6, 10, tyX6, rfl, by decide, bigW_at 233 (by decide +kernel) rfl, xw6, tyX6_ok, nmX6, rfl, Or.inr ⟨rfl, rfl, rfl⟩⟩
theorem iX6_init_59 : DLdA mX6_init 59 0 60 := Or.inl ⟨0, by decide +kernel, rfl, rfl⟩
theorem iX6_init_60 : DNew mX6_init 60 3 [.int 0, .int 0, .int 0, .int 0, .null, .null, .null, .null, .null, .null] 63 := ⟨7, RX3, TX3, 10, tyX3, by decide +kernel, rfl, rfl, xc_RX6_7, xn_RX3, xz_RX3, xw3, tyX3_ok, rfl, by decide +kernel, fun _ _ => rfl⟩
theorem iX6_init_63 : D1 mX6_init 63 .dup 1 64 := ⟨by decide +kernel, rfl⟩
theorem iX6_init_64 : DInvI mX6_init 64 mX3_init 0 67 := ⟨9, by decide +kernel, rfl, Or.inr ⟨"OrchardLadders", List.mem_of_getElem? (i := 0) rfl⟩, xi_X3_init, rfl, rfl, xm_X3_init⟩
theorem iX6_init_67 : DPut mX6_init 67 6 6 (.object RX3) 70 := ⟨36, by decide +kernel, rfl, RX6, TX6, 10, tyX6, rfl, by decide, bigW_at 234 (by decide +kernel) rfl, xw6, tyX6_ok, nmX6, rfl, Or.inr ⟨rfl, rfl, rfl⟩⟩
theorem iX6_init_70 : DLdA mX6_init 70 0 71 := Or.inl ⟨0, by decide +kernel, rfl, rfl⟩
theorem iX6_init_71 : DNew mX6_init 71 2 [.null, .null, .int 0, .int 0, .int 0, .int 0, .int 0] 74 := ⟨39, RX2, TX2, 7, tyX2, by decide +kernel, rfl, rfl, xc_RX6_39, xn_RX2, xz_RX2, xw2, tyX2_ok, rfl, by decide +kernel, fun _ _ => rfl⟩
theorem iX6_init_74 : D1 mX6_init 74 .dup 1 75 := ⟨by decide +kernel, rfl⟩
theorem iX6_init_75 : DInvI mX6_init 75 mX2_init 0 78 := ⟨41, by decide +kernel, rfl, Or.inl xl_RX6_41, xi_X2_init, rfl, rfl, xm_X2_init⟩
theorem iX6_init_78 : DPut mX6_init 78 6 7 (.object RX2) 81 := ⟨42, by decide +kernel, rfl, RX6, TX6, 10, tyX6, rfl, by decide, bigW_at 235 (by decide +kernel) rfl, xw6, tyX6_ok, nmX6, rfl, Or.inr ⟨rfl, rfl, rfl⟩⟩
theorem iX6_init_81 : DLdA mX6_init 81 0 82 := Or.inl ⟨0, by decide +kernel, rfl, rfl⟩
theorem iX6_init_82 : DNew mX6_init 82 0 [.null, .null, .null, .int 0] 85 := ⟨46, RX0, TX0, 4, tyX0, by decide +kernel, rfl, rfl, xc_RX6_46, xn_RX0, xz_RX0, xw0, tyX0_ok, rfl, by decide +kernel, fun _ _ => rfl⟩
theorem iX6_init_85 : D1 mX6_init 85 .dup 1 86 := ⟨by decide +kernel, rfl⟩
theorem iX6_init_86 : DInvI mX6_init 86 mX0_init 0 89 := ⟨48, by decide +kernel, rfl, Or.inr ⟨"OrchardLadders", List.mem_of_getElem? (i := 2) rfl⟩, xi_X0_init, rfl, rfl, xm_X0_init⟩
theorem iX6_init_89 : DPut mX6_init 89 6 8 (.object RX0) 92 := ⟨49, by decide +kernel, rfl, RX6, TX6, 10, tyX6, rfl, by decide, bigW_at 236 (by decide +kernel) rfl, xw6, tyX6_ok, nmX6, rfl, Or.inr ⟨rfl, rfl, rfl⟩⟩
theorem iX6_init_92 : DLdA mX6_init 92 0 93 := Or.inl ⟨0, by decide +kernel, rfl, rfl⟩
theorem iX6_init_93 : DPushI mX6_init 93 4 94 := Or.inl ⟨4, by decide +kernel, by decide, rfl⟩
theorem iX6_init_94 : DNewQ mX6_init 94 RX4 97 := ⟨53, by decide +kernel, xc_RX6_53, Or.inr rfl, rfl⟩
theorem iX6_init_97 : DPut mX6_init 97 6 9 (.array (.object RX4)) 100 := ⟨55, by decide +kernel, rfl, RX6, TX6, 10, tyX6, rfl, by decide, bigW_at 237 (by decide +kernel) rfl, xw6, tyX6_ok, nmX6, rfl, Or.inr ⟨rfl, rfl, rfl⟩⟩
theorem iX6_init_100 : DPushI mX6_init 100 0 101 := Or.inl ⟨0, by decide +kernel, by decide, rfl⟩
theorem iX6_init_101 : DStI mX6_init 101 1 102 := ⟨by decide, Or.inl ⟨1, by decide +kernel, rfl, rfl⟩⟩
theorem iX6_init_102 : DLdI mX6_init 102 1 103 := Or.inl ⟨1, by decide +kernel, rfl, rfl⟩
theorem iX6_init_103 : DPushI mX6_init 103 4 104 := Or.inl ⟨4, by decide +kernel, by decide, rfl⟩
theorem iX6_init_104 : DCm mX6_init 104 .ge 126 107 := ⟨22, by decide +kernel, by decide, rfl⟩
theorem iX6_init_107 : DLdA mX6_init 107 0 108 := Or.inl ⟨0, by decide +kernel, rfl, rfl⟩
theorem iX6_init_108 : DGet mX6_init 108 6 9 111 := ⟨55, by decide +kernel, rfl, xf_RX6_55⟩
theorem iX6_init_111 : DLdI mX6_init 111 1 112 := Or.inl ⟨1, by decide +kernel, rfl, rfl⟩
theorem iX6_init_112 : DNew mX6_init 112 4 [.null, .int 0, .int 0] 115 := ⟨53, RX4, TX4, 3, tyX4, by decide +kernel, rfl, rfl, xc_RX6_53, xn_RX4, xz_RX4, xw4, tyX4_ok, rfl, by decide +kernel, fun _ _ => rfl⟩
theorem iX6_init_115 : D1 mX6_init 115 .dup 1 116 := ⟨by decide +kernel, rfl⟩
theorem iX6_init_116 : DInvI mX6_init 116 mX4_init 0 119 := ⟨59, by decide +kernel, rfl, Or.inr ⟨"OrchardLadders", List.mem_of_getElem? (i := 3) rfl⟩, xi_X4_init, rfl, rfl, xm_X4_init⟩
theorem iX6_init_119 : D1 mX6_init 119 .aastore 1 120 := ⟨by decide +kernel, rfl⟩
theorem iX6_init_120 : DInc mX6_init 120 1 1 123 := ⟨by decide, 1, by decide +kernel, by decide, rfl⟩
theorem iX6_init_123 : DGo mX6_init 123 102 := ⟨(-21), by decide +kernel, by decide⟩
theorem iX6_init_126 : mX6_init.2.2.2 = none ∧ decode mX6_init.2.1 126 = .ok (.return_, 1) := ⟨rfl, by decide +kernel⟩
theorem iX6_isLane_0 : DLdI mX6_isLane 0 0 1 := Or.inl ⟨0, by decide +kernel, rfl, rfl⟩
theorem iX6_isLane_1 : DPushI mX6_isLane 1 0 2 := Or.inl ⟨0, by decide +kernel, by decide, rfl⟩
theorem iX6_isLane_2 : DPushI mX6_isLane 2 3 3 := Or.inl ⟨3, by decide +kernel, by decide, rfl⟩
theorem iX6_isLane_3 : DInvS mX6_isLane 3 mX6_within 3 6 := ⟨60, by decide +kernel, rfl, Or.inl xl_RX6_60, xt_X6_within, xm_X6_within⟩
theorem iX6_isLane_6 : mX6_isLane.2.2.2 = some .boolean ∧ decode mX6_isLane.2.1 6 = .ok (.ireturn, 1) := ⟨rfl, by decide +kernel⟩
theorem iX6_isSheet_0 : DLdI mX6_isSheet 0 0 1 := Or.inl ⟨0, by decide +kernel, rfl, rfl⟩
theorem iX6_isSheet_1 : DPushI mX6_isSheet 1 0 2 := Or.inl ⟨0, by decide +kernel, by decide, rfl⟩
theorem iX6_isSheet_2 : DPushI mX6_isSheet 2 3 3 := Or.inl ⟨3, by decide +kernel, by decide, rfl⟩
theorem iX6_isSheet_3 : DInvS mX6_isSheet 3 mX6_within 3 6 := ⟨60, by decide +kernel, rfl, Or.inl xl_RX6_60, xt_X6_within, xm_X6_within⟩
theorem iX6_isSheet_6 : mX6_isSheet.2.2.2 = some .boolean ∧ decode mX6_isSheet.2.1 6 = .ok (.ireturn, 1) := ⟨rfl, by decide +kernel⟩
theorem iX6_item_0 : DLdI mX6_item 0 1 1 := Or.inl ⟨1, by decide +kernel, rfl, rfl⟩
theorem iX6_item_1 : DInvS mX6_item 1 mX6_isSheet 1 4 := ⟨237, by decide +kernel, rfl, Or.inl xl_RX6_237, xt_X6_isSheet, xm_X6_isSheet⟩
theorem iX6_item_4 : DIf mX6_item 4 .eq 14 7 := ⟨10, by decide +kernel, by decide, rfl⟩
theorem iX6_item_7 : DLdI mX6_item 7 2 8 := Or.inl ⟨2, by decide +kernel, rfl, rfl⟩
theorem iX6_item_8 : DInvS mX6_item 8 mX6_isLane 1 11 := ⟨240, by decide +kernel, rfl, Or.inl xl_RX6_240, xt_X6_isLane, xm_X6_isLane⟩
theorem iX6_item_11 : DIf mX6_item 11 .ne 16 14 := ⟨5, by decide +kernel, by decide, rfl⟩
theorem iX6_item_14 : DPushI mX6_item 14 (-1) 15 := Or.inl ⟨(-1), by decide +kernel, by decide, rfl⟩
theorem iX6_item_15 : mX6_item.2.2.2 = some .int ∧ decode mX6_item.2.1 15 = .ok (.ireturn, 1) := ⟨rfl, by decide +kernel⟩
theorem iX6_item_16 : DLdA mX6_item 16 0 17 := Or.inl ⟨0, by decide +kernel, rfl, rfl⟩
theorem iX6_item_17 : DGet mX6_item 17 6 9 20 := ⟨55, by decide +kernel, rfl, xf_RX6_55⟩
theorem iX6_item_20 : DLdI mX6_item 20 1 21 := Or.inl ⟨1, by decide +kernel, rfl, rfl⟩
theorem iX6_item_21 : D1 mX6_item 21 .aaload 1 22 := ⟨by decide +kernel, rfl⟩
theorem iX6_item_22 : DLdI mX6_item 22 2 23 := Or.inl ⟨2, by decide +kernel, rfl, rfl⟩
theorem iX6_item_23 : DLdI mX6_item 23 3 24 := Or.inl ⟨3, by decide +kernel, rfl, rfl⟩
theorem iX6_item_24 : DPushI mX6_item 24 1 25 := Or.inl ⟨1, by decide +kernel, by decide, rfl⟩
theorem iX6_item_25 : DInvV mX6_item 25 mX4_find 4 3 28 := ⟨243, TX4, 3, by decide +kernel, rfl, rfl, xl_RX6_243, xi_X4_find, xs_X4_find, xm_X4_find⟩
theorem iX6_item_28 : DStI mX6_item 28 6 30 := ⟨by decide, Or.inr ⟨by decide +kernel, rfl⟩⟩
theorem iX6_item_30 : DLdI mX6_item 30 6 32 := Or.inr ⟨by decide +kernel, rfl⟩
theorem iX6_item_32 : DIf mX6_item 32 .eq 38 35 := ⟨6, by decide +kernel, by decide, rfl⟩
theorem iX6_item_35 : DLdI mX6_item 35 6 37 := Or.inr ⟨by decide +kernel, rfl⟩
theorem iX6_item_37 : mX6_item.2.2.2 = some .int ∧ decode mX6_item.2.1 37 = .ok (.ireturn, 1) := ⟨rfl, by decide +kernel⟩
theorem iX6_item_38 : DLdA mX6_item 38 0 39 := Or.inl ⟨0, by decide +kernel, rfl, rfl⟩
theorem iX6_item_39 : DGet mX6_item 39 6 9 42 := ⟨55, by decide +kernel, rfl, xf_RX6_55⟩
theorem iX6_item_42 : DLdI mX6_item 42 1 43 := Or.inl ⟨1, by decide +kernel, rfl, rfl⟩
theorem iX6_item_43 : D1 mX6_item 43 .aaload 1 44 := ⟨by decide +kernel, rfl⟩
theorem iX6_item_44 : DLdI mX6_item 44 3 45 := Or.inl ⟨3, by decide +kernel, rfl, rfl⟩
theorem iX6_item_45 : DLdL mX6_item 45 4 47 := Or.inr ⟨by decide +kernel, rfl⟩
theorem iX6_item_47 : DInvV mX6_item 47 mX4_put 4 2 50 := ⟨250, TX4, 3, by decide +kernel, rfl, rfl, xl_RX6_250, xi_X4_put, xs_X4_put, xm_X4_put⟩
theorem iX6_item_50 : DPushI mX6_item 50 1 51 := Or.inl ⟨1, by decide +kernel, by decide, rfl⟩
theorem iX6_item_51 : mX6_item.2.2.2 = some .int ∧ decode mX6_item.2.1 51 = .ok (.ireturn, 1) := ⟨rfl, by decide +kernel⟩
theorem iX6_ladder_0 : DLdI mX6_ladder 0 1 1 := Or.inl ⟨1, by decide +kernel, rfl, rfl⟩
theorem iX6_ladder_1 : DPushI mX6_ladder 1 0 2 := Or.inl ⟨0, by decide +kernel, by decide, rfl⟩
theorem iX6_ladder_2 : DPushI mX6_ladder 2 4 3 := Or.inl ⟨4, by decide +kernel, by decide, rfl⟩
theorem iX6_ladder_3 : DInvS mX6_ladder 3 mX6_within 3 6 := ⟨60, by decide +kernel, rfl, Or.inl xl_RX6_60, xt_X6_within, xm_X6_within⟩
theorem iX6_ladder_6 : DIf mX6_ladder 6 .eq 29 9 := ⟨23, by decide +kernel, by decide, rfl⟩
theorem iX6_ladder_9 : DLdI mX6_ladder 9 2 10 := Or.inl ⟨2, by decide +kernel, rfl, rfl⟩
theorem iX6_ladder_10 : DPushI mX6_ladder 10 1 11 := Or.inl ⟨1, by decide +kernel, by decide, rfl⟩
theorem iX6_ladder_11 : DPushI mX6_ladder 11 9 13 := Or.inr (Or.inl ⟨9, by decide +kernel, by decide, rfl⟩)
theorem iX6_ladder_13 : DInvS mX6_ladder 13 mX6_within 3 16 := ⟨60, by decide +kernel, rfl, Or.inl xl_RX6_60, xt_X6_within, xm_X6_within⟩
theorem iX6_ladder_16 : DIf mX6_ladder 16 .eq 29 19 := ⟨13, by decide +kernel, by decide, rfl⟩
theorem iX6_ladder_19 : DLdI mX6_ladder 19 3 20 := Or.inl ⟨3, by decide +kernel, rfl, rfl⟩
theorem iX6_ladder_20 : DPushI mX6_ladder 20 0 21 := Or.inl ⟨0, by decide +kernel, by decide, rfl⟩
theorem iX6_ladder_21 : DPushI mX6_ladder 21 9 23 := Or.inr (Or.inl ⟨9, by decide +kernel, by decide, rfl⟩)
theorem iX6_ladder_23 : DInvS mX6_ladder 23 mX6_within 3 26 := ⟨60, by decide +kernel, rfl, Or.inl xl_RX6_60, xt_X6_within, xm_X6_within⟩
theorem iX6_ladder_26 : DIf mX6_ladder 26 .ne 31 29 := ⟨5, by decide +kernel, by decide, rfl⟩
theorem iX6_ladder_29 : DPushI mX6_ladder 29 (-1) 30 := Or.inl ⟨(-1), by decide +kernel, by decide, rfl⟩
theorem iX6_ladder_30 : mX6_ladder.2.2.2 = some .int ∧ decode mX6_ladder.2.1 30 = .ok (.ireturn, 1) := ⟨rfl, by decide +kernel⟩
theorem iX6_ladder_31 : DLdA mX6_ladder 31 0 32 := Or.inl ⟨0, by decide +kernel, rfl, rfl⟩
theorem iX6_ladder_32 : DGet mX6_ladder 32 6 0 35 := ⟨10, by decide +kernel, rfl, xf_RX6_10⟩
theorem iX6_ladder_35 : DLdI mX6_ladder 35 1 36 := Or.inl ⟨1, by decide +kernel, rfl, rfl⟩
theorem iX6_ladder_36 : DLdI mX6_ladder 36 2 37 := Or.inl ⟨2, by decide +kernel, rfl, rfl⟩
theorem iX6_ladder_37 : DLdI mX6_ladder 37 3 38 := Or.inl ⟨3, by decide +kernel, rfl, rfl⟩
theorem iX6_ladder_38 : DInvV mX6_ladder 38 mX3_bring 3 3 41 := ⟨72, TX3, 10, by decide +kernel, rfl, rfl, xl_RX6_72, xi_X3_bring, xs_X3_bring, xm_X3_bring⟩
theorem iX6_ladder_41 : DStI mX6_ladder 41 4 43 := ⟨by decide, Or.inr ⟨by decide +kernel, rfl⟩⟩
theorem iX6_ladder_43 : DLdA mX6_ladder 43 0 44 := Or.inl ⟨0, by decide +kernel, rfl, rfl⟩
theorem iX6_ladder_44 : DGet mX6_ladder 44 6 1 47 := ⟨19, by decide +kernel, rfl, xf_RX6_19⟩
theorem iX6_ladder_47 : DLdI mX6_ladder 47 4 49 := Or.inr ⟨by decide +kernel, rfl⟩
theorem iX6_ladder_49 : DInvV mX6_ladder 49 mX1_forgetUnlessFull 1 1 52 := ⟨68, TX1, 2, by decide +kernel, rfl, rfl, xl_RX6_68, xi_X1_forgetUnlessFull, xs_X1_forgetUnlessFull, xm_X1_forgetUnlessFull⟩
theorem iX6_ladder_52 : DLdI mX6_ladder 52 4 54 := Or.inr ⟨by decide +kernel, rfl⟩
theorem iX6_ladder_54 : mX6_ladder.2.2.2 = some .int ∧ decode mX6_ladder.2.1 54 = .ok (.ireturn, 1) := ⟨rfl, by decide +kernel⟩
theorem iX6_larger_0 : DLdI mX6_larger 0 1 1 := Or.inl ⟨1, by decide +kernel, rfl, rfl⟩
theorem iX6_larger_1 : DPushI mX6_larger 1 1 2 := Or.inl ⟨1, by decide +kernel, by decide, rfl⟩
theorem iX6_larger_2 : DPushI mX6_larger 2 60 4 := Or.inr (Or.inl ⟨60, by decide +kernel, by decide, rfl⟩)
theorem iX6_larger_4 : DInvS mX6_larger 4 mX6_within 3 7 := ⟨60, by decide +kernel, rfl, Or.inl xl_RX6_60, xt_X6_within, xm_X6_within⟩
theorem iX6_larger_7 : DIf mX6_larger 7 .eq 21 10 := ⟨14, by decide +kernel, by decide, rfl⟩
theorem iX6_larger_10 : DLdI mX6_larger 10 2 11 := Or.inl ⟨2, by decide +kernel, rfl, rfl⟩
theorem iX6_larger_11 : DPushI mX6_larger 11 1 12 := Or.inl ⟨1, by decide +kernel, by decide, rfl⟩
theorem iX6_larger_12 : DPushI mX6_larger 12 999 15 := Or.inr (Or.inr (Or.inl ⟨999, by decide +kernel, by decide, rfl⟩))
theorem iX6_larger_15 : DInvS mX6_larger 15 mX6_within 3 18 := ⟨60, by decide +kernel, rfl, Or.inl xl_RX6_60, xt_X6_within, xm_X6_within⟩
theorem iX6_larger_18 : DIf mX6_larger 18 .ne 23 21 := ⟨5, by decide +kernel, by decide, rfl⟩
theorem iX6_larger_21 : DPushI mX6_larger 21 (-1) 22 := Or.inl ⟨(-1), by decide +kernel, by decide, rfl⟩
theorem iX6_larger_22 : mX6_larger.2.2.2 = some .int ∧ decode mX6_larger.2.1 22 = .ok (.ireturn, 1) := ⟨rfl, by decide +kernel⟩
theorem iX6_larger_23 : DPushI mX6_larger 23 1 24 := Or.inl ⟨1, by decide +kernel, by decide, rfl⟩
theorem iX6_larger_24 : DStI mX6_larger 24 3 25 := ⟨by decide, Or.inl ⟨3, by decide +kernel, rfl, rfl⟩⟩
theorem iX6_larger_25 : DLdI mX6_larger 25 3 26 := Or.inl ⟨3, by decide +kernel, rfl, rfl⟩
theorem iX6_larger_26 : DPushI mX6_larger 26 30 28 := Or.inr (Or.inl ⟨30, by decide +kernel, by decide, rfl⟩)
theorem iX6_larger_28 : DCm mX6_larger 28 .gt 97 31 := ⟨69, by decide +kernel, by decide, rfl⟩
theorem iX6_larger_31 : DPushI mX6_larger 31 0 32 := Or.inl ⟨0, by decide +kernel, by decide, rfl⟩
theorem iX6_larger_32 : DStI mX6_larger 32 4 34 := ⟨by decide, Or.inr ⟨by decide +kernel, rfl⟩⟩
theorem iX6_larger_34 : DPushI mX6_larger 34 0 35 := Or.inl ⟨0, by decide +kernel, by decide, rfl⟩
theorem iX6_larger_35 : DStI mX6_larger 35 5 37 := ⟨by decide, Or.inr ⟨by decide +kernel, rfl⟩⟩
theorem iX6_larger_37 : DLdI mX6_larger 37 5 39 := Or.inr ⟨by decide +kernel, rfl⟩
theorem iX6_larger_39 : DLdA mX6_larger 39 0 40 := Or.inl ⟨0, by decide +kernel, rfl, rfl⟩
theorem iX6_larger_40 : DGet mX6_larger 40 6 0 43 := ⟨10, by decide +kernel, rfl, xf_RX6_10⟩
theorem iX6_larger_43 : DGet mX6_larger 43 3 0 46 := ⟨148, by decide +kernel, rfl, xf_RX6_148⟩
theorem iX6_larger_46 : DCm mX6_larger 46 .ge 83 49 := ⟨37, by decide +kernel, by decide, rfl⟩
theorem iX6_larger_49 : DLdI mX6_larger 49 4 51 := Or.inr ⟨by decide +kernel, rfl⟩
theorem iX6_larger_51 : DLdA mX6_larger 51 0 52 := Or.inl ⟨0, by decide +kernel, rfl, rfl⟩
theorem iX6_larger_52 : DGet mX6_larger 52 6 0 55 := ⟨10, by decide +kernel, rfl, xf_RX6_10⟩
theorem iX6_larger_55 : DLdI mX6_larger 55 5 57 := Or.inr ⟨by decide +kernel, rfl⟩
theorem iX6_larger_57 : DLdA mX6_larger 57 0 58 := Or.inl ⟨0, by decide +kernel, rfl, rfl⟩
theorem iX6_larger_58 : DGet mX6_larger 58 6 0 61 := ⟨10, by decide +kernel, rfl, xf_RX6_10⟩
theorem iX6_larger_61 : DGet mX6_larger 61 3 9 64 := ⟨83, by decide +kernel, rfl, xf_RX6_83⟩
theorem iX6_larger_64 : DLdI mX6_larger 64 5 66 := Or.inr ⟨by decide +kernel, rfl⟩
theorem iX6_larger_66 : DInvV mX6_larger 66 mX2_leaningAt 2 1 69 := ⟨92, TX2, 7, by decide +kernel, rfl, rfl, xl_RX6_92, xi_X2_leaningAt, xs_X2_leaningAt, xm_X2_leaningAt⟩
theorem iX6_larger_69 : DLdI mX6_larger 69 1 70 := Or.inl ⟨1, by decide +kernel, rfl, rfl⟩
theorem iX6_larger_70 : DLdI mX6_larger 70 3 71 := Or.inl ⟨3, by decide +kernel, rfl, rfl⟩
theorem iX6_larger_71 : DInvV mX6_larger 71 mX3_gotAt 3 4 74 := ⟨196, TX3, 10, by decide +kernel, rfl, rfl, xl_RX6_196, xi_X3_gotAt, xs_X3_gotAt, xm_X3_gotAt⟩
theorem iX6_larger_74 : D1 mX6_larger 74 .iadd 1 75 := ⟨by decide +kernel, rfl⟩
theorem iX6_larger_75 : DStI mX6_larger 75 4 77 := ⟨by decide, Or.inr ⟨by decide +kernel, rfl⟩⟩
theorem iX6_larger_77 : DInc mX6_larger 77 5 1 80 := ⟨by decide, 1, by decide +kernel, by decide, rfl⟩
theorem iX6_larger_80 : DGo mX6_larger 80 37 := ⟨(-43), by decide +kernel, by decide⟩
theorem iX6_larger_83 : DLdI mX6_larger 83 4 85 := Or.inr ⟨by decide +kernel, rfl⟩
theorem iX6_larger_85 : DLdI mX6_larger 85 2 86 := Or.inl ⟨2, by decide +kernel, rfl, rfl⟩
theorem iX6_larger_86 : DCm mX6_larger 86 .lt 91 89 := ⟨5, by decide +kernel, by decide, rfl⟩
theorem iX6_larger_89 : DLdI mX6_larger 89 3 90 := Or.inl ⟨3, by decide +kernel, rfl, rfl⟩
theorem iX6_larger_90 : mX6_larger.2.2.2 = some .int ∧ decode mX6_larger.2.1 90 = .ok (.ireturn, 1) := ⟨rfl, by decide +kernel⟩
theorem iX6_larger_91 : DInc mX6_larger 91 3 1 94 := ⟨by decide, 1, by decide +kernel, by decide, rfl⟩
theorem iX6_larger_94 : DGo mX6_larger 94 25 := ⟨(-69), by decide +kernel, by decide⟩
theorem iX6_larger_97 : DPushI mX6_larger 97 (-4) 99 := Or.inr (Or.inl ⟨(-4), by decide +kernel, by decide, rfl⟩)
theorem iX6_larger_99 : mX6_larger.2.2.2 = some .int ∧ decode mX6_larger.2.1 99 = .ok (.ireturn, 1) := ⟨rfl, by decide +kernel⟩
theorem iX6_lean_0 : DLdA mX6_lean 0 0 1 := Or.inl ⟨0, by decide +kernel, rfl, rfl⟩
theorem iX6_lean_1 : DGet mX6_lean 1 6 0 4 := ⟨10, by decide +kernel, rfl, xf_RX6_10⟩
theorem iX6_lean_4 : DLdI mX6_lean 4 1 5 := Or.inl ⟨1, by decide +kernel, rfl, rfl⟩
theorem iX6_lean_5 : DInvV mX6_lean 5 mX3_hasLadder 3 1 8 := ⟨103, TX3, 10, by decide +kernel, rfl, rfl, xl_RX6_103, xi_X3_hasLadder, xs_X3_hasLadder, xm_X3_hasLadder⟩
theorem iX6_lean_8 : DIf mX6_lean 8 .eq 28 11 := ⟨20, by decide +kernel, by decide, rfl⟩
theorem iX6_lean_11 : DLdI mX6_lean 11 2 12 := Or.inl ⟨2, by decide +kernel, rfl, rfl⟩
theorem iX6_lean_12 : DPushI mX6_lean 12 (-4) 14 := Or.inr (Or.inl ⟨(-4), by decide +kernel, by decide, rfl⟩)
theorem iX6_lean_14 : DCm mX6_lean 14 .eq 30 17 := ⟨16, by decide +kernel, by decide, rfl⟩
theorem iX6_lean_17 : DLdA mX6_lean 17 0 18 := Or.inl ⟨0, by decide +kernel, rfl, rfl⟩
theorem iX6_lean_18 : DGet mX6_lean 18 6 0 21 := ⟨10, by decide +kernel, rfl, xf_RX6_10⟩
theorem iX6_lean_21 : DLdI mX6_lean 21 2 22 := Or.inl ⟨2, by decide +kernel, rfl, rfl⟩
theorem iX6_lean_22 : DInvV mX6_lean 22 mX3_hasTree 3 1 25 := ⟨75, TX3, 10, by decide +kernel, rfl, rfl, xl_RX6_75, xi_X3_hasTree, xs_X3_hasTree, xm_X3_hasTree⟩
theorem iX6_lean_25 : DIf mX6_lean 25 .ne 30 28 := ⟨5, by decide +kernel, by decide, rfl⟩
theorem iX6_lean_28 : DPushI mX6_lean 28 (-1) 29 := Or.inl ⟨(-1), by decide +kernel, by decide, rfl⟩
theorem iX6_lean_29 : mX6_lean.2.2.2 = some .int ∧ decode mX6_lean.2.1 29 = .ok (.ireturn, 1) := ⟨rfl, by decide +kernel⟩
theorem iX6_lean_30 : DLdA mX6_lean 30 0 31 := Or.inl ⟨0, by decide +kernel, rfl, rfl⟩
theorem iX6_lean_31 : DGet mX6_lean 31 6 0 34 := ⟨10, by decide +kernel, rfl, xf_RX6_10⟩
theorem iX6_lean_34 : DGet mX6_lean 34 3 9 37 := ⟨83, by decide +kernel, rfl, xf_RX6_83⟩
theorem iX6_lean_37 : DGet mX6_lean 37 2 1 40 := ⟨115, by decide +kernel, rfl, xf_RX6_115⟩
theorem iX6_lean_40 : DLdI mX6_lean 40 1 41 := Or.inl ⟨1, by decide +kernel, rfl, rfl⟩
theorem iX6_lean_41 : D1 mX6_lean 41 .iaload 1 42 := ⟨by decide +kernel, rfl⟩
theorem iX6_lean_42 : DStI mX6_lean 42 3 43 := ⟨by decide, Or.inl ⟨3, by decide +kernel, rfl, rfl⟩⟩
theorem iX6_lean_43 : DLdI mX6_lean 43 3 44 := Or.inl ⟨3, by decide +kernel, rfl, rfl⟩
theorem iX6_lean_44 : DLdI mX6_lean 44 2 45 := Or.inl ⟨2, by decide +kernel, rfl, rfl⟩
theorem iX6_lean_45 : DCm mX6_lean 45 .ne 51 48 := ⟨6, by decide +kernel, by decide, rfl⟩
theorem iX6_lean_48 : DPushI mX6_lean 48 (-2) 50 := Or.inr (Or.inl ⟨(-2), by decide +kernel, by decide, rfl⟩)
theorem iX6_lean_50 : mX6_lean.2.2.2 = some .int ∧ decode mX6_lean.2.1 50 = .ok (.ireturn, 1) := ⟨rfl, by decide +kernel⟩
theorem iX6_lean_51 : DLdA mX6_lean 51 0 52 := Or.inl ⟨0, by decide +kernel, rfl, rfl⟩
theorem iX6_lean_52 : DGet mX6_lean 52 6 1 55 := ⟨19, by decide +kernel, rfl, xf_RX6_19⟩
theorem iX6_lean_55 : DLdA mX6_lean 55 0 56 := Or.inl ⟨0, by decide +kernel, rfl, rfl⟩
theorem iX6_lean_56 : DGet mX6_lean 56 6 0 59 := ⟨10, by decide +kernel, rfl, xf_RX6_10⟩
theorem iX6_lean_59 : DGet mX6_lean 59 3 9 62 := ⟨83, by decide +kernel, rfl, xf_RX6_83⟩
theorem iX6_lean_62 : DInvV mX6_lean 62 mX1_remember 1 1 65 := ⟨167, TX1, 2, by decide +kernel, rfl, rfl, xl_RX6_167, xi_X1_remember, xs_X1_remember, xm_X1_remember⟩
theorem iX6_lean_65 : DLdA mX6_lean 65 0 66 := Or.inl ⟨0, by decide +kernel, rfl, rfl⟩
theorem iX6_lean_66 : DGet mX6_lean 66 6 0 69 := ⟨10, by decide +kernel, rfl, xf_RX6_10⟩
theorem iX6_lean_69 : DGet mX6_lean 69 3 9 72 := ⟨83, by decide +kernel, rfl, xf_RX6_83⟩
theorem iX6_lean_72 : DGet mX6_lean 72 2 1 75 := ⟨115, by decide +kernel, rfl, xf_RX6_115⟩
theorem iX6_lean_75 : DLdI mX6_lean 75 1 76 := Or.inl ⟨1, by decide +kernel, rfl, rfl⟩
theorem iX6_lean_76 : DLdI mX6_lean 76 2 77 := Or.inl ⟨2, by decide +kernel, rfl, rfl⟩
theorem iX6_lean_77 : D1 mX6_lean 77 .iastore 1 78 := ⟨by decide +kernel, rfl⟩
theorem iX6_lean_78 : DLdI mX6_lean 78 3 79 := Or.inl ⟨3, by decide +kernel, rfl, rfl⟩
theorem iX6_lean_79 : mX6_lean.2.2.2 = some .int ∧ decode mX6_lean.2.1 79 = .ok (.ireturn, 1) := ⟨rfl, by decide +kernel⟩
theorem iX6_leavesSo_0 : DLdA mX6_leavesSo 0 0 1 := Or.inl ⟨0, by decide +kernel, rfl, rfl⟩
theorem iX6_leavesSo_1 : DGet mX6_leavesSo 1 6 0 4 := ⟨10, by decide +kernel, rfl, xf_RX6_10⟩
theorem iX6_leavesSo_4 : DGet mX6_leavesSo 4 3 9 7 := ⟨83, by decide +kernel, rfl, xf_RX6_83⟩
theorem iX6_leavesSo_7 : DGet mX6_leavesSo 7 2 0 10 := ⟨86, by decide +kernel, rfl, xf_RX6_86⟩
theorem iX6_leavesSo_10 : DLdI mX6_leavesSo 10 1 11 := Or.inl ⟨1, by decide +kernel, rfl, rfl⟩
theorem iX6_leavesSo_11 : D1 mX6_leavesSo 11 .iaload 1 12 := ⟨by decide +kernel, rfl⟩
theorem iX6_leavesSo_12 : DStI mX6_leavesSo 12 6 14 := ⟨by decide, Or.inr ⟨by decide +kernel, rfl⟩⟩
theorem iX6_leavesSo_14 : DPushI mX6_leavesSo 14 0 15 := Or.inl ⟨0, by decide +kernel, by decide, rfl⟩
theorem iX6_leavesSo_15 : DStI mX6_leavesSo 15 7 17 := ⟨by decide, Or.inr ⟨by decide +kernel, rfl⟩⟩
theorem iX6_leavesSo_17 : DLdI mX6_leavesSo 17 7 19 := Or.inr ⟨by decide +kernel, rfl⟩
theorem iX6_leavesSo_19 : DLdI mX6_leavesSo 19 5 21 := Or.inr ⟨by decide +kernel, rfl⟩
theorem iX6_leavesSo_21 : DCm mX6_leavesSo 21 .ge 75 24 := ⟨54, by decide +kernel, by decide, rfl⟩
theorem iX6_leavesSo_24 : DLdA mX6_leavesSo 24 0 25 := Or.inl ⟨0, by decide +kernel, rfl, rfl⟩
theorem iX6_leavesSo_25 : DGet mX6_leavesSo 25 6 0 28 := ⟨10, by decide +kernel, rfl, xf_RX6_10⟩
theorem iX6_leavesSo_28 : DLdI mX6_leavesSo 28 1 29 := Or.inl ⟨1, by decide +kernel, rfl, rfl⟩
theorem iX6_leavesSo_29 : DLdA mX6_leavesSo 29 0 30 := Or.inl ⟨0, by decide +kernel, rfl, rfl⟩
theorem iX6_leavesSo_30 : DGet mX6_leavesSo 30 6 0 33 := ⟨10, by decide +kernel, rfl, xf_RX6_10⟩
theorem iX6_leavesSo_33 : DGet mX6_leavesSo 33 3 9 36 := ⟨83, by decide +kernel, rfl, xf_RX6_83⟩
theorem iX6_leavesSo_36 : DGet mX6_leavesSo 36 2 5 39 := ⟨96, by decide +kernel, rfl, xf_RX6_96⟩
theorem iX6_leavesSo_39 : DLdI mX6_leavesSo 39 7 41 := Or.inr ⟨by decide +kernel, rfl⟩
theorem iX6_leavesSo_41 : D1 mX6_leavesSo 41 .iadd 1 42 := ⟨by decide +kernel, rfl⟩
theorem iX6_leavesSo_42 : DLdI mX6_leavesSo 42 2 43 := Or.inl ⟨2, by decide +kernel, rfl, rfl⟩
theorem iX6_leavesSo_43 : DLdI mX6_leavesSo 43 6 45 := Or.inr ⟨by decide +kernel, rfl⟩
theorem iX6_leavesSo_45 : DInvV mX6_leavesSo 45 mX3_leftBehind 3 4 48 := ⟨189, TX3, 10, by decide +kernel, rfl, rfl, xl_RX6_189, xi_X3_leftBehind, xs_X3_leftBehind, xm_X3_leftBehind⟩
theorem iX6_leavesSo_48 : DStI mX6_leavesSo 48 6 50 := ⟨by decide, Or.inr ⟨by decide +kernel, rfl⟩⟩
theorem iX6_leavesSo_50 : DLdA mX6_leavesSo 50 3 51 := Or.inl ⟨3, by decide +kernel, rfl, rfl⟩
theorem iX6_leavesSo_51 : DGet mX6_leavesSo 51 4 0 54 := ⟨265, by decide +kernel, rfl, xf_RX6_265⟩
theorem iX6_leavesSo_54 : DLdI mX6_leavesSo 54 4 56 := Or.inr ⟨by decide +kernel, rfl⟩
theorem iX6_leavesSo_56 : DLdI mX6_leavesSo 56 7 58 := Or.inr ⟨by decide +kernel, rfl⟩
theorem iX6_leavesSo_58 : D1 mX6_leavesSo 58 .iadd 1 59 := ⟨by decide +kernel, rfl⟩
theorem iX6_leavesSo_59 : D1 mX6_leavesSo 59 .laload 1 60 := ⟨by decide +kernel, rfl⟩
theorem iX6_leavesSo_60 : DLdI mX6_leavesSo 60 6 62 := Or.inr ⟨by decide +kernel, rfl⟩
theorem iX6_leavesSo_62 : D1 mX6_leavesSo 62 .i2l 1 63 := ⟨by decide +kernel, rfl⟩
theorem iX6_leavesSo_63 : D1 mX6_leavesSo 63 .lcmp 1 64 := ⟨by decide +kernel, rfl⟩
theorem iX6_leavesSo_64 : DIf mX6_leavesSo 64 .eq 69 67 := ⟨5, by decide +kernel, by decide, rfl⟩
theorem iX6_leavesSo_67 : DPushI mX6_leavesSo 67 0 68 := Or.inl ⟨0, by decide +kernel, by decide, rfl⟩
theorem iX6_leavesSo_68 : mX6_leavesSo.2.2.2 = some .boolean ∧ decode mX6_leavesSo.2.1 68 = .ok (.ireturn, 1) := ⟨rfl, by decide +kernel⟩
theorem iX6_leavesSo_69 : DInc mX6_leavesSo 69 7 1 72 := ⟨by decide, 1, by decide +kernel, by decide, rfl⟩
theorem iX6_leavesSo_72 : DGo mX6_leavesSo 72 17 := ⟨(-55), by decide +kernel, by decide⟩
theorem iX6_leavesSo_75 : DPushI mX6_leavesSo 75 1 76 := Or.inl ⟨1, by decide +kernel, by decide, rfl⟩
theorem iX6_leavesSo_76 : mX6_leavesSo.2.2.2 = some .boolean ∧ decode mX6_leavesSo.2.1 76 = .ok (.ireturn, 1) := ⟨rfl, by decide +kernel⟩
theorem iX6_left_0 : DLdA mX6_left 0 0 1 := Or.inl ⟨0, by decide +kernel, rfl, rfl⟩
theorem iX6_left_1 : DGet mX6_left 1 6 0 4 := ⟨10, by decide +kernel, rfl, xf_RX6_10⟩
theorem iX6_left_4 : DLdI mX6_left 4 1 5 := Or.inl ⟨1, by decide +kernel, rfl, rfl⟩
theorem iX6_left_5 : DInvV mX6_left 5 mX3_hasTree 3 1 8 := ⟨75, TX3, 10, by decide +kernel, rfl, rfl, xl_RX6_75, xi_X3_hasTree, xs_X3_hasTree, xm_X3_hasTree⟩
theorem iX6_left_8 : DIf mX6_left 8 .eq 36 11 := ⟨28, by decide +kernel, by decide, rfl⟩
theorem iX6_left_11 : DLdI mX6_left 11 2 12 := Or.inl ⟨2, by decide +kernel, rfl, rfl⟩
theorem iX6_left_12 : DInvS mX6_left 12 mX6_isSheet 1 15 := ⟨237, by decide +kernel, rfl, Or.inl xl_RX6_237, xt_X6_isSheet, xm_X6_isSheet⟩
theorem iX6_left_15 : DIf mX6_left 15 .eq 36 18 := ⟨21, by decide +kernel, by decide, rfl⟩
theorem iX6_left_18 : DLdI mX6_left 18 3 19 := Or.inl ⟨3, by decide +kernel, rfl, rfl⟩
theorem iX6_left_19 : DInvS mX6_left 19 mX6_isLane 1 22 := ⟨240, by decide +kernel, rfl, Or.inl xl_RX6_240, xt_X6_isLane, xm_X6_isLane⟩
theorem iX6_left_22 : DIf mX6_left 22 .eq 36 25 := ⟨14, by decide +kernel, by decide, rfl⟩
theorem iX6_left_25 : DLdI mX6_left 25 5 27 := Or.inr ⟨by decide +kernel, rfl⟩
theorem iX6_left_27 : DPushI mX6_left 27 1 28 := Or.inl ⟨1, by decide +kernel, by decide, rfl⟩
theorem iX6_left_28 : DPushI mX6_left 28 8 30 := Or.inr (Or.inl ⟨8, by decide +kernel, by decide, rfl⟩)
theorem iX6_left_30 : DInvS mX6_left 30 mX6_within 3 33 := ⟨60, by decide +kernel, rfl, Or.inl xl_RX6_60, xt_X6_within, xm_X6_within⟩
theorem iX6_left_33 : DIf mX6_left 33 .ne 38 36 := ⟨5, by decide +kernel, by decide, rfl⟩
theorem iX6_left_36 : DPushI mX6_left 36 (-1) 37 := Or.inl ⟨(-1), by decide +kernel, by decide, rfl⟩
theorem iX6_left_37 : mX6_left.2.2.2 = some .int ∧ decode mX6_left.2.1 37 = .ok (.ireturn, 1) := ⟨rfl, by decide +kernel⟩
theorem iX6_left_38 : DLdA mX6_left 38 0 39 := Or.inl ⟨0, by decide +kernel, rfl, rfl⟩
theorem iX6_left_39 : DGet mX6_left 39 6 9 42 := ⟨55, by decide +kernel, rfl, xf_RX6_55⟩
theorem iX6_left_42 : DLdI mX6_left 42 2 43 := Or.inl ⟨2, by decide +kernel, rfl, rfl⟩
theorem iX6_left_43 : D1 mX6_left 43 .aaload 1 44 := ⟨by decide +kernel, rfl⟩
theorem iX6_left_44 : DLdI mX6_left 44 3 45 := Or.inl ⟨3, by decide +kernel, rfl, rfl⟩
theorem iX6_left_45 : DLdI mX6_left 45 4 47 := Or.inr ⟨by decide +kernel, rfl⟩
theorem iX6_left_47 : DLdI mX6_left 47 5 49 := Or.inr ⟨by decide +kernel, rfl⟩
theorem iX6_left_49 : DInvV mX6_left 49 mX4_find 4 3 52 := ⟨243, TX4, 3, by decide +kernel, rfl, rfl, xl_RX6_243, xi_X4_find, xs_X4_find, xm_X4_find⟩
theorem iX6_left_52 : DStI mX6_left 52 6 54 := ⟨by decide, Or.inr ⟨by decide +kernel, rfl⟩⟩
theorem iX6_left_54 : DLdI mX6_left 54 6 56 := Or.inr ⟨by decide +kernel, rfl⟩
theorem iX6_left_56 : DIf mX6_left 56 .eq 62 59 := ⟨6, by decide +kernel, by decide, rfl⟩
theorem iX6_left_59 : DLdI mX6_left 59 6 61 := Or.inr ⟨by decide +kernel, rfl⟩
theorem iX6_left_61 : mX6_left.2.2.2 = some .int ∧ decode mX6_left.2.1 61 = .ok (.ireturn, 1) := ⟨rfl, by decide +kernel⟩
theorem iX6_left_62 : DLdA mX6_left 62 0 63 := Or.inl ⟨0, by decide +kernel, rfl, rfl⟩
theorem iX6_left_63 : DLdI mX6_left 63 1 64 := Or.inl ⟨1, by decide +kernel, rfl, rfl⟩
theorem iX6_left_64 : DPushI mX6_left 64 0 65 := Or.inl ⟨0, by decide +kernel, by decide, rfl⟩
theorem iX6_left_65 : DLdA mX6_left 65 0 66 := Or.inl ⟨0, by decide +kernel, rfl, rfl⟩
theorem iX6_left_66 : DGet mX6_left 66 6 9 69 := ⟨55, by decide +kernel, rfl, xf_RX6_55⟩
theorem iX6_left_69 : DLdI mX6_left 69 2 70 := Or.inl ⟨2, by decide +kernel, rfl, rfl⟩
theorem iX6_left_70 : D1 mX6_left 70 .aaload 1 71 := ⟨by decide +kernel, rfl⟩
theorem iX6_left_71 : DLdI mX6_left 71 4 73 := Or.inr ⟨by decide +kernel, rfl⟩
theorem iX6_left_73 : DLdI mX6_left 73 5 75 := Or.inr ⟨by decide +kernel, rfl⟩
theorem iX6_left_75 : DInvV mX6_left 75 mX6_leavesSo 6 5 78 := ⟨246, TX6, 10, by decide +kernel, rfl, rfl, xl_RX6_246, xi_X6_leavesSo, xs_X6_leavesSo, xm_X6_leavesSo⟩
theorem iX6_left_78 : DIf mX6_left 78 .eq 86 81 := ⟨8, by decide +kernel, by decide, rfl⟩
theorem iX6_left_81 : DPushI mX6_left 81 32 83 := Or.inr (Or.inl ⟨32, by decide +kernel, by decide, rfl⟩)
theorem iX6_left_83 : DGo mX6_left 83 87 := ⟨4, by decide +kernel, by decide⟩
theorem iX6_left_86 : DPushI mX6_left 86 0 87 := Or.inl ⟨0, by decide +kernel, by decide, rfl⟩
theorem iX6_left_87 : DStI mX6_left 87 7 89 := ⟨by decide, Or.inr ⟨by decide +kernel, rfl⟩⟩
theorem iX6_left_89 : DPushI mX6_left 89 0 90 := Or.inl ⟨0, by decide +kernel, by decide, rfl⟩
theorem iX6_left_90 : DStI mX6_left 90 8 92 := ⟨by decide, Or.inr ⟨by decide +kernel, rfl⟩⟩
theorem iX6_left_92 : DLdI mX6_left 92 8 94 := Or.inr ⟨by decide +kernel, rfl⟩
theorem iX6_left_94 : DLdA mX6_left 94 0 95 := Or.inl ⟨0, by decide +kernel, rfl, rfl⟩
theorem iX6_left_95 : DGet mX6_left 95 6 0 98 := ⟨10, by decide +kernel, rfl, xf_RX6_10⟩
theorem iX6_left_98 : DGet mX6_left 98 3 1 101 := ⟨151, by decide +kernel, rfl, xf_RX6_151⟩
theorem iX6_left_101 : DCm mX6_left 101 .ge 141 104 := ⟨40, by decide +kernel, by decide, rfl⟩
theorem iX6_left_104 : DLdA mX6_left 104 0 105 := Or.inl ⟨0, by decide +kernel, rfl, rfl⟩
theorem iX6_left_105 : DLdI mX6_left 105 1 106 := Or.inl ⟨1, by decide +kernel, rfl, rfl⟩
theorem iX6_left_106 : DPushI mX6_left 106 1 107 := Or.inl ⟨1, by decide +kernel, by decide, rfl⟩
theorem iX6_left_107 : DLdI mX6_left 107 8 109 := Or.inr ⟨by decide +kernel, rfl⟩
theorem iX6_left_109 : D1 mX6_left 109 .ishl 1 110 := ⟨by decide +kernel, rfl⟩
theorem iX6_left_110 : DLdA mX6_left 110 0 111 := Or.inl ⟨0, by decide +kernel, rfl, rfl⟩
theorem iX6_left_111 : DGet mX6_left 111 6 9 114 := ⟨55, by decide +kernel, rfl, xf_RX6_55⟩
theorem iX6_left_114 : DLdI mX6_left 114 2 115 := Or.inl ⟨2, by decide +kernel, rfl, rfl⟩
theorem iX6_left_115 : D1 mX6_left 115 .aaload 1 116 := ⟨by decide +kernel, rfl⟩
theorem iX6_left_116 : DLdI mX6_left 116 4 118 := Or.inr ⟨by decide +kernel, rfl⟩
theorem iX6_left_118 : DLdI mX6_left 118 5 120 := Or.inr ⟨by decide +kernel, rfl⟩
theorem iX6_left_120 : DInvV mX6_left 120 mX6_leavesSo 6 5 123 := ⟨246, TX6, 10, by decide +kernel, rfl, rfl, xl_RX6_246, xi_X6_leavesSo, xs_X6_leavesSo, xm_X6_leavesSo⟩
theorem iX6_left_123 : DIf mX6_left 123 .eq 135 126 := ⟨12, by decide +kernel, by decide, rfl⟩
theorem iX6_left_126 : DLdI mX6_left 126 7 128 := Or.inr ⟨by decide +kernel, rfl⟩
theorem iX6_left_128 : DPushI mX6_left 128 1 129 := Or.inl ⟨1, by decide +kernel, by decide, rfl⟩
theorem iX6_left_129 : DLdI mX6_left 129 8 131 := Or.inr ⟨by decide +kernel, rfl⟩
theorem iX6_left_131 : D1 mX6_left 131 .ishl 1 132 := ⟨by decide +kernel, rfl⟩
theorem iX6_left_132 : D1 mX6_left 132 .ior 1 133 := ⟨by decide +kernel, rfl⟩
theorem iX6_left_133 : DStI mX6_left 133 7 135 := ⟨by decide, Or.inr ⟨by decide +kernel, rfl⟩⟩
theorem iX6_left_135 : DInc mX6_left 135 8 1 138 := ⟨by decide, 1, by decide +kernel, by decide, rfl⟩
theorem iX6_left_138 : DGo mX6_left 138 92 := ⟨(-46), by decide +kernel, by decide⟩
theorem iX6_left_141 : DLdI mX6_left 141 7 143 := Or.inr ⟨by decide +kernel, rfl⟩
theorem iX6_left_143 : mX6_left.2.2.2 = some .int ∧ decode mX6_left.2.1 143 = .ok (.ireturn, 1) := ⟨rfl, by decide +kernel⟩
theorem iX6_longer_0 : DLdA mX6_longer 0 0 1 := Or.inl ⟨0, by decide +kernel, rfl, rfl⟩
theorem iX6_longer_1 : DGet mX6_longer 1 6 0 4 := ⟨10, by decide +kernel, rfl, xf_RX6_10⟩
theorem iX6_longer_4 : DLdI mX6_longer 4 1 5 := Or.inl ⟨1, by decide +kernel, rfl, rfl⟩
theorem iX6_longer_5 : DInvV mX6_longer 5 mX3_hasLadder 3 1 8 := ⟨103, TX3, 10, by decide +kernel, rfl, rfl, xl_RX6_103, xi_X3_hasLadder, xs_X3_hasLadder, xm_X3_hasLadder⟩
theorem iX6_longer_8 : DIf mX6_longer 8 .eq 22 11 := ⟨14, by decide +kernel, by decide, rfl⟩
theorem iX6_longer_11 : DLdA mX6_longer 11 0 12 := Or.inl ⟨0, by decide +kernel, rfl, rfl⟩
theorem iX6_longer_12 : DGet mX6_longer 12 6 0 15 := ⟨10, by decide +kernel, rfl, xf_RX6_10⟩
theorem iX6_longer_15 : DLdI mX6_longer 15 2 16 := Or.inl ⟨2, by decide +kernel, rfl, rfl⟩
theorem iX6_longer_16 : DInvV mX6_longer 16 mX3_hasTree 3 1 19 := ⟨75, TX3, 10, by decide +kernel, rfl, rfl, xl_RX6_75, xi_X3_hasTree, xs_X3_hasTree, xm_X3_hasTree⟩
theorem iX6_longer_19 : DIf mX6_longer 19 .ne 24 22 := ⟨5, by decide +kernel, by decide, rfl⟩
theorem iX6_longer_22 : DPushI mX6_longer 22 (-1) 23 := Or.inl ⟨(-1), by decide +kernel, by decide, rfl⟩
theorem iX6_longer_23 : mX6_longer.2.2.2 = some .int ∧ decode mX6_longer.2.1 23 = .ok (.ireturn, 1) := ⟨rfl, by decide +kernel⟩
theorem iX6_longer_24 : DLdA mX6_longer 24 0 25 := Or.inl ⟨0, by decide +kernel, rfl, rfl⟩
theorem iX6_longer_25 : DGet mX6_longer 25 6 0 28 := ⟨10, by decide +kernel, rfl, xf_RX6_10⟩
theorem iX6_longer_28 : DGet mX6_longer 28 3 6 31 := ⟨106, by decide +kernel, rfl, xf_RX6_106⟩
theorem iX6_longer_31 : DLdI mX6_longer 31 1 32 := Or.inl ⟨1, by decide +kernel, rfl, rfl⟩
theorem iX6_longer_32 : D1 mX6_longer 32 .iaload 1 33 := ⟨by decide +kernel, rfl⟩
theorem iX6_longer_33 : DStI mX6_longer 33 3 34 := ⟨by decide, Or.inl ⟨3, by decide +kernel, rfl, rfl⟩⟩
theorem iX6_longer_34 : DLdA mX6_longer 34 0 35 := Or.inl ⟨0, by decide +kernel, rfl, rfl⟩
theorem iX6_longer_35 : DGet mX6_longer 35 6 0 38 := ⟨10, by decide +kernel, rfl, xf_RX6_10⟩
theorem iX6_longer_38 : DGet mX6_longer 38 3 7 41 := ⟨109, by decide +kernel, rfl, xf_RX6_109⟩
theorem iX6_longer_41 : DLdI mX6_longer 41 1 42 := Or.inl ⟨1, by decide +kernel, rfl, rfl⟩
theorem iX6_longer_42 : D1 mX6_longer 42 .iaload 1 43 := ⟨by decide +kernel, rfl⟩
theorem iX6_longer_43 : DStI mX6_longer 43 4 45 := ⟨by decide, Or.inr ⟨by decide +kernel, rfl⟩⟩
theorem iX6_longer_45 : DPushI mX6_longer 45 0 46 := Or.inl ⟨0, by decide +kernel, by decide, rfl⟩
theorem iX6_longer_46 : DStI mX6_longer 46 5 48 := ⟨by decide, Or.inr ⟨by decide +kernel, rfl⟩⟩
theorem iX6_longer_48 : DLdI mX6_longer 48 4 50 := Or.inr ⟨by decide +kernel, rfl⟩
theorem iX6_longer_50 : DLdI mX6_longer 50 5 52 := Or.inr ⟨by decide +kernel, rfl⟩
theorem iX6_longer_52 : D1 mX6_longer 52 .iadd 1 53 := ⟨by decide +kernel, rfl⟩
theorem iX6_longer_53 : DPushI mX6_longer 53 9 55 := Or.inr (Or.inl ⟨9, by decide +kernel, by decide, rfl⟩)
theorem iX6_longer_55 : DCm mX6_longer 55 .gt 98 58 := ⟨43, by decide +kernel, by decide, rfl⟩
theorem iX6_longer_58 : DLdI mX6_longer 58 3 59 := Or.inl ⟨3, by decide +kernel, rfl, rfl⟩
theorem iX6_longer_59 : DLdI mX6_longer 59 4 61 := Or.inr ⟨by decide +kernel, rfl⟩
theorem iX6_longer_61 : DLdI mX6_longer 61 5 63 := Or.inr ⟨by decide +kernel, rfl⟩
theorem iX6_longer_63 : D1 mX6_longer 63 .iadd 1 64 := ⟨by decide +kernel, rfl⟩
theorem iX6_longer_64 : DLdA mX6_longer 64 0 65 := Or.inl ⟨0, by decide +kernel, rfl, rfl⟩
theorem iX6_longer_65 : DGet mX6_longer 65 6 0 68 := ⟨10, by decide +kernel, rfl, xf_RX6_10⟩
theorem iX6_longer_68 : DGet mX6_longer 68 3 9 71 := ⟨83, by decide +kernel, rfl, xf_RX6_83⟩
theorem iX6_longer_71 : DGet mX6_longer 71 2 5 74 := ⟨96, by decide +kernel, rfl, xf_RX6_96⟩
theorem iX6_longer_74 : DInvS mX6_longer 74 mX6_reachOfKind 3 77 := ⟨212, by decide +kernel, rfl, Or.inl xl_RX6_212, xt_X6_reachOfKind, xm_X6_reachOfKind⟩
theorem iX6_longer_77 : DLdA mX6_longer 77 0 78 := Or.inl ⟨0, by decide +kernel, rfl, rfl⟩
theorem iX6_longer_78 : DGet mX6_longer 78 6 0 81 := ⟨10, by decide +kernel, rfl, xf_RX6_10⟩
theorem iX6_longer_81 : DGet mX6_longer 81 3 4 84 := ⟨79, by decide +kernel, rfl, xf_RX6_79⟩
theorem iX6_longer_84 : DLdI mX6_longer 84 2 85 := Or.inl ⟨2, by decide +kernel, rfl, rfl⟩
theorem iX6_longer_85 : D1 mX6_longer 85 .iaload 1 86 := ⟨by decide +kernel, rfl⟩
theorem iX6_longer_86 : DCm mX6_longer 86 .lt 92 89 := ⟨6, by decide +kernel, by decide, rfl⟩
theorem iX6_longer_89 : DLdI mX6_longer 89 5 91 := Or.inr ⟨by decide +kernel, rfl⟩
theorem iX6_longer_91 : mX6_longer.2.2.2 = some .int ∧ decode mX6_longer.2.1 91 = .ok (.ireturn, 1) := ⟨rfl, by decide +kernel⟩
theorem iX6_longer_92 : DInc mX6_longer 92 5 1 95 := ⟨by decide, 1, by decide +kernel, by decide, rfl⟩
theorem iX6_longer_95 : DGo mX6_longer 95 48 := ⟨(-47), by decide +kernel, by decide⟩
theorem iX6_longer_98 : DPushI mX6_longer 98 (-4) 100 := Or.inr (Or.inl ⟨(-4), by decide +kernel, by decide, rfl⟩)
theorem iX6_longer_100 : mX6_longer.2.2.2 = some .int ∧ decode mX6_longer.2.1 100 = .ok (.ireturn, 1) := ⟨rfl, by decide +kernel⟩
theorem iX6_luck_0 : DLdI mX6_luck 0 1 1 := Or.inl ⟨1, by decide +kernel, rfl, rfl⟩
theorem iX6_luck_1 : DPushI mX6_luck 1 0 2 := Or.inl ⟨0, by decide +kernel, by decide, rfl⟩
theorem iX6_luck_2 : DPushI mX6_luck 2 150 5 := Or.inr (Or.inr (Or.inl ⟨150, by decide +kernel, by decide, rfl⟩))
theorem iX6_luck_5 : DInvS mX6_luck 5 mX6_within 3 8 := ⟨60, by decide +kernel, rfl, Or.inl xl_RX6_60, xt_X6_within, xm_X6_within⟩
theorem iX6_luck_8 : DIf mX6_luck 8 .eq 30 11 := ⟨22, by decide +kernel, by decide, rfl⟩
theorem iX6_luck_11 : DLdI mX6_luck 11 2 12 := Or.inl ⟨2, by decide +kernel, rfl, rfl⟩
theorem iX6_luck_12 : DPushI mX6_luck 12 0 13 := Or.inl ⟨0, by decide +kernel, by decide, rfl⟩
theorem iX6_luck_13 : DPushI mX6_luck 13 10 15 := Or.inr (Or.inl ⟨10, by decide +kernel, by decide, rfl⟩)
theorem iX6_luck_15 : DInvS mX6_luck 15 mX6_within 3 18 := ⟨60, by decide +kernel, rfl, Or.inl xl_RX6_60, xt_X6_within, xm_X6_within⟩
theorem iX6_luck_18 : DIf mX6_luck 18 .eq 30 21 := ⟨12, by decide +kernel, by decide, rfl⟩
theorem iX6_luck_21 : DLdI mX6_luck 21 3 22 := Or.inl ⟨3, by decide +kernel, rfl, rfl⟩
theorem iX6_luck_22 : DPushI mX6_luck 22 0 23 := Or.inl ⟨0, by decide +kernel, by decide, rfl⟩
theorem iX6_luck_23 : DPushI mX6_luck 23 1 24 := Or.inl ⟨1, by decide +kernel, by decide, rfl⟩
theorem iX6_luck_24 : DInvS mX6_luck 24 mX6_within 3 27 := ⟨60, by decide +kernel, rfl, Or.inl xl_RX6_60, xt_X6_within, xm_X6_within⟩
theorem iX6_luck_27 : DIf mX6_luck 27 .ne 32 30 := ⟨5, by decide +kernel, by decide, rfl⟩
theorem iX6_luck_30 : DPushI mX6_luck 30 (-1) 31 := Or.inl ⟨(-1), by decide +kernel, by decide, rfl⟩
theorem iX6_luck_31 : mX6_luck.2.2.2 = some .int ∧ decode mX6_luck.2.1 31 = .ok (.ireturn, 1) := ⟨rfl, by decide +kernel⟩
theorem iX6_luck_32 : DLdA mX6_luck 32 0 33 := Or.inl ⟨0, by decide +kernel, rfl, rfl⟩
theorem iX6_luck_33 : DGet mX6_luck 33 6 0 36 := ⟨10, by decide +kernel, rfl, xf_RX6_10⟩
theorem iX6_luck_36 : DInvV mX6_luck 36 mX3_leaningAnywhere 3 0 39 := ⟨215, TX3, 10, by decide +kernel, rfl, rfl, xl_RX6_215, xi_X3_leaningAnywhere, xs_X3_leaningAnywhere, xm_X3_leaningAnywhere⟩
theorem iX6_luck_39 : DStI mX6_luck 39 4 41 := ⟨by decide, Or.inr ⟨by decide +kernel, rfl⟩⟩
theorem iX6_luck_41 : DPushI mX6_luck 41 0 42 := Or.inl ⟨0, by decide +kernel, by decide, rfl⟩
theorem iX6_luck_42 : DStI mX6_luck 42 5 44 := ⟨by decide, Or.inr ⟨by decide +kernel, rfl⟩⟩
theorem iX6_luck_44 : DPushI mX6_luck 44 0 45 := Or.inl ⟨0, by decide +kernel, by decide, rfl⟩
theorem iX6_luck_45 : DStI mX6_luck 45 6 47 := ⟨by decide, Or.inr ⟨by decide +kernel, rfl⟩⟩
theorem iX6_luck_47 : DPushI mX6_luck 47 0 48 := Or.inl ⟨0, by decide +kernel, by decide, rfl⟩
theorem iX6_luck_48 : DStI mX6_luck 48 7 50 := ⟨by decide, Or.inr ⟨by decide +kernel, rfl⟩⟩
theorem iX6_luck_50 : DLdI mX6_luck 50 7 52 := Or.inr ⟨by decide +kernel, rfl⟩
theorem iX6_luck_52 : DPushI mX6_luck 52 16 54 := Or.inr (Or.inl ⟨16, by decide +kernel, by decide, rfl⟩)
theorem iX6_luck_54 : DCm mX6_luck 54 .ge 114 57 := ⟨60, by decide +kernel, by decide, rfl⟩
theorem iX6_luck_57 : DLdI mX6_luck 57 7 59 := Or.inr ⟨by decide +kernel, rfl⟩
theorem iX6_luck_59 : DLdI mX6_luck 59 4 61 := Or.inr ⟨by decide +kernel, rfl⟩
theorem iX6_luck_61 : DPushI mX6_luck 61 (-1) 62 := Or.inl ⟨(-1), by decide +kernel, by decide, rfl⟩
theorem iX6_luck_62 : D1 mX6_luck 62 .ixor 1 63 := ⟨by decide +kernel, rfl⟩
theorem iX6_luck_63 : D1 mX6_luck 63 .iand 1 64 := ⟨by decide +kernel, rfl⟩
theorem iX6_luck_64 : DIf mX6_luck 64 .ne 108 67 := ⟨44, by decide +kernel, by decide, rfl⟩
theorem iX6_luck_67 : DLdI mX6_luck 67 7 69 := Or.inr ⟨by decide +kernel, rfl⟩
theorem iX6_luck_69 : DLdI mX6_luck 69 4 71 := Or.inr ⟨by decide +kernel, rfl⟩
theorem iX6_luck_71 : DLdI mX6_luck 71 2 72 := Or.inl ⟨2, by decide +kernel, rfl, rfl⟩
theorem iX6_luck_72 : DInvS mX6_luck 72 mX6_waysToBe 3 75 := ⟨219, by decide +kernel, rfl, Or.inl xl_RX6_219, xt_X6_waysToBe, xm_X6_waysToBe⟩
theorem iX6_luck_75 : DStI mX6_luck 75 8 77 := ⟨by decide, Or.inr ⟨by decide +kernel, rfl⟩⟩
theorem iX6_luck_77 : DLdI mX6_luck 77 6 79 := Or.inr ⟨by decide +kernel, rfl⟩
theorem iX6_luck_79 : DLdI mX6_luck 79 8 81 := Or.inr ⟨by decide +kernel, rfl⟩
theorem iX6_luck_81 : D1 mX6_luck 81 .iadd 1 82 := ⟨by decide +kernel, rfl⟩
theorem iX6_luck_82 : DStI mX6_luck 82 6 84 := ⟨by decide, Or.inr ⟨by decide +kernel, rfl⟩⟩
theorem iX6_luck_84 : DLdI mX6_luck 84 5 86 := Or.inr ⟨by decide +kernel, rfl⟩
theorem iX6_luck_86 : DLdA mX6_luck 86 0 87 := Or.inl ⟨0, by decide +kernel, rfl, rfl⟩
theorem iX6_luck_87 : DGet mX6_luck 87 6 0 90 := ⟨10, by decide +kernel, rfl, xf_RX6_10⟩
theorem iX6_luck_90 : DLdI mX6_luck 90 7 92 := Or.inr ⟨by decide +kernel, rfl⟩
theorem iX6_luck_92 : DInvV mX6_luck 92 mX3_gotToday 3 1 95 := ⟨222, TX3, 10, by decide +kernel, rfl, rfl, xl_RX6_222, xi_X3_gotToday, xs_X3_gotToday, xm_X3_gotToday⟩
theorem iX6_luck_95 : DLdI mX6_luck 95 1 96 := Or.inl ⟨1, by decide +kernel, rfl, rfl⟩
theorem iX6_luck_96 : DCm mX6_luck 96 .lt 104 99 := ⟨8, by decide +kernel, by decide, rfl⟩
theorem iX6_luck_99 : DLdI mX6_luck 99 8 101 := Or.inr ⟨by decide +kernel, rfl⟩
theorem iX6_luck_101 : DGo mX6_luck 101 105 := ⟨4, by decide +kernel, by decide⟩
theorem iX6_luck_104 : DPushI mX6_luck 104 0 105 := Or.inl ⟨0, by decide +kernel, by decide, rfl⟩
theorem iX6_luck_105 : D1 mX6_luck 105 .iadd 1 106 := ⟨by decide +kernel, rfl⟩
theorem iX6_luck_106 : DStI mX6_luck 106 5 108 := ⟨by decide, Or.inr ⟨by decide +kernel, rfl⟩⟩
theorem iX6_luck_108 : DInc mX6_luck 108 7 1 111 := ⟨by decide, 1, by decide +kernel, by decide, rfl⟩
theorem iX6_luck_111 : DGo mX6_luck 111 50 := ⟨(-61), by decide +kernel, by decide⟩
theorem iX6_luck_114 : DLdI mX6_luck 114 5 116 := Or.inr ⟨by decide +kernel, rfl⟩
theorem iX6_luck_116 : DLdI mX6_luck 116 6 118 := Or.inr ⟨by decide +kernel, rfl⟩
theorem iX6_luck_118 : DInvS mX6_luck 118 mX6_commonDivisor 2 121 := ⟨225, by decide +kernel, rfl, Or.inl xl_RX6_225, xt_X6_commonDivisor, xm_X6_commonDivisor⟩
theorem iX6_luck_121 : DStI mX6_luck 121 7 123 := ⟨by decide, Or.inr ⟨by decide +kernel, rfl⟩⟩
theorem iX6_luck_123 : DLdI mX6_luck 123 3 124 := Or.inl ⟨3, by decide +kernel, rfl, rfl⟩
theorem iX6_luck_124 : DIf mX6_luck 124 .ne 132 127 := ⟨8, by decide +kernel, by decide, rfl⟩
theorem iX6_luck_127 : DLdI mX6_luck 127 5 129 := Or.inr ⟨by decide +kernel, rfl⟩
theorem iX6_luck_129 : DGo mX6_luck 129 134 := ⟨5, by decide +kernel, by decide⟩
theorem iX6_luck_132 : DLdI mX6_luck 132 6 134 := Or.inr ⟨by decide +kernel, rfl⟩
theorem iX6_luck_134 : DLdI mX6_luck 134 7 136 := Or.inr ⟨by decide +kernel, rfl⟩
theorem iX6_luck_136 : D1 mX6_luck 136 .idiv 1 137 := ⟨by decide +kernel, rfl⟩
theorem iX6_luck_137 : mX6_luck.2.2.2 = some .int ∧ decode mX6_luck.2.1 137 = .ok (.ireturn, 1) := ⟨rfl, by decide +kernel⟩
theorem iX6_of_0 : DLdA mX6_of 0 0 1 := Or.inl ⟨0, by decide +kernel, rfl, rfl⟩
theorem iX6_of_1 : DGet mX6_of 1 6 0 4 := ⟨10, by decide +kernel, rfl, xf_RX6_10⟩
theorem iX6_of_4 : DLdI mX6_of 4 1 5 := Or.inl ⟨1, by decide +kernel, rfl, rfl⟩
theorem iX6_of_5 : DInvV mX6_of 5 mX3_hasTree 3 1 8 := ⟨75, TX3, 10, by decide +kernel, rfl, rfl, xl_RX6_75, xi_X3_hasTree, xs_X3_hasTree, xm_X3_hasTree⟩
theorem iX6_of_8 : DIf mX6_of 8 .ne 13 11 := ⟨5, by decide +kernel, by decide, rfl⟩
theorem iX6_of_11 : DPushI mX6_of 11 (-1) 12 := Or.inl ⟨(-1), by decide +kernel, by decide, rfl⟩
theorem iX6_of_12 : mX6_of.2.2.2 = some .int ∧ decode mX6_of.2.1 12 = .ok (.ireturn, 1) := ⟨rfl, by decide +kernel⟩
theorem iX6_of_13 : DLdI mX6_of 13 2 14 := Or.inl ⟨2, by decide +kernel, rfl, rfl⟩
theorem iX6_of_14 : DTab mX6_of 14 0 [48, 58, 71, 81, 93] 123 := ⟨109, 4, #[34, 44, 57, 67, 79], 34, by decide +kernel, by decide, by decide, by decide⟩
theorem iX6_of_48 : DLdA mX6_of 48 0 49 := Or.inl ⟨0, by decide +kernel, rfl, rfl⟩
theorem iX6_of_49 : DGet mX6_of 49 6 0 52 := ⟨10, by decide +kernel, rfl, xf_RX6_10⟩
theorem iX6_of_52 : DGet mX6_of 52 3 4 55 := ⟨79, by decide +kernel, rfl, xf_RX6_79⟩
theorem iX6_of_55 : DLdI mX6_of 55 1 56 := Or.inl ⟨1, by decide +kernel, rfl, rfl⟩
theorem iX6_of_56 : D1 mX6_of 56 .iaload 1 57 := ⟨by decide +kernel, rfl⟩
theorem iX6_of_57 : mX6_of.2.2.2 = some .int ∧ decode mX6_of.2.1 57 = .ok (.ireturn, 1) := ⟨rfl, by decide +kernel⟩
theorem iX6_of_58 : DLdA mX6_of 58 0 59 := Or.inl ⟨0, by decide +kernel, rfl, rfl⟩
theorem iX6_of_59 : DGet mX6_of 59 6 0 62 := ⟨10, by decide +kernel, rfl, xf_RX6_10⟩
theorem iX6_of_62 : DGet mX6_of 62 3 9 65 := ⟨83, by decide +kernel, rfl, xf_RX6_83⟩
theorem iX6_of_65 : DGet mX6_of 65 2 0 68 := ⟨86, by decide +kernel, rfl, xf_RX6_86⟩
theorem iX6_of_68 : DLdI mX6_of 68 1 69 := Or.inl ⟨1, by decide +kernel, rfl, rfl⟩
theorem iX6_of_69 : D1 mX6_of 69 .iaload 1 70 := ⟨by decide +kernel, rfl⟩
theorem iX6_of_70 : mX6_of.2.2.2 = some .int ∧ decode mX6_of.2.1 70 = .ok (.ireturn, 1) := ⟨rfl, by decide +kernel⟩
theorem iX6_of_71 : DLdA mX6_of 71 0 72 := Or.inl ⟨0, by decide +kernel, rfl, rfl⟩
theorem iX6_of_72 : DGet mX6_of 72 6 0 75 := ⟨10, by decide +kernel, rfl, xf_RX6_10⟩
theorem iX6_of_75 : DGet mX6_of 75 3 5 78 := ⟨89, by decide +kernel, rfl, xf_RX6_89⟩
theorem iX6_of_78 : DLdI mX6_of 78 1 79 := Or.inl ⟨1, by decide +kernel, rfl, rfl⟩
theorem iX6_of_79 : D1 mX6_of 79 .iaload 1 80 := ⟨by decide +kernel, rfl⟩
theorem iX6_of_80 : mX6_of.2.2.2 = some .int ∧ decode mX6_of.2.1 80 = .ok (.ireturn, 1) := ⟨rfl, by decide +kernel⟩
theorem iX6_of_81 : DLdA mX6_of 81 0 82 := Or.inl ⟨0, by decide +kernel, rfl, rfl⟩
theorem iX6_of_82 : DGet mX6_of 82 6 0 85 := ⟨10, by decide +kernel, rfl, xf_RX6_10⟩
theorem iX6_of_85 : DGet mX6_of 85 3 9 88 := ⟨83, by decide +kernel, rfl, xf_RX6_83⟩
theorem iX6_of_88 : DLdI mX6_of 88 1 89 := Or.inl ⟨1, by decide +kernel, rfl, rfl⟩
theorem iX6_of_89 : DInvV mX6_of 89 mX2_leaningAt 2 1 92 := ⟨92, TX2, 7, by decide +kernel, rfl, rfl, xl_RX6_92, xi_X2_leaningAt, xs_X2_leaningAt, xm_X2_leaningAt⟩
theorem iX6_of_92 : mX6_of.2.2.2 = some .int ∧ decode mX6_of.2.1 92 = .ok (.ireturn, 1) := ⟨rfl, by decide +kernel⟩
theorem iX6_of_93 : DLdA mX6_of 93 0 94 := Or.inl ⟨0, by decide +kernel, rfl, rfl⟩
theorem iX6_of_94 : DGet mX6_of 94 6 0 97 := ⟨10, by decide +kernel, rfl, xf_RX6_10⟩
theorem iX6_of_97 : DLdI mX6_of 97 1 98 := Or.inl ⟨1, by decide +kernel, rfl, rfl⟩
theorem iX6_of_98 : DLdA mX6_of 98 0 99 := Or.inl ⟨0, by decide +kernel, rfl, rfl⟩
theorem iX6_of_99 : DGet mX6_of 99 6 0 102 := ⟨10, by decide +kernel, rfl, xf_RX6_10⟩
theorem iX6_of_102 : DGet mX6_of 102 3 9 105 := ⟨83, by decide +kernel, rfl, xf_RX6_83⟩
theorem iX6_of_105 : DGet mX6_of 105 2 5 108 := ⟨96, by decide +kernel, rfl, xf_RX6_96⟩
theorem iX6_of_108 : DLdA mX6_of 108 0 109 := Or.inl ⟨0, by decide +kernel, rfl, rfl⟩
theorem iX6_of_109 : DGet mX6_of 109 6 0 112 := ⟨10, by decide +kernel, rfl, xf_RX6_10⟩
theorem iX6_of_112 : DGet mX6_of 112 3 9 115 := ⟨83, by decide +kernel, rfl, xf_RX6_83⟩
theorem iX6_of_115 : DLdI mX6_of 115 1 116 := Or.inl ⟨1, by decide +kernel, rfl, rfl⟩
theorem iX6_of_116 : DInvV mX6_of 116 mX2_leaningAt 2 1 119 := ⟨92, TX2, 7, by decide +kernel, rfl, rfl, xl_RX6_92, xi_X2_leaningAt, xs_X2_leaningAt, xm_X2_leaningAt⟩
theorem iX6_of_119 : DInvV mX6_of 119 mX3_reaching 3 3 122 := ⟨100, TX3, 10, by decide +kernel, rfl, rfl, xl_RX6_100, xi_X3_reaching, xs_X3_reaching, xm_X3_reaching⟩
theorem iX6_of_122 : mX6_of.2.2.2 = some .int ∧ decode mX6_of.2.1 122 = .ok (.ireturn, 1) := ⟨rfl, by decide +kernel⟩
theorem iX6_of_123 : DPushI mX6_of 123 (-1) 124 := Or.inl ⟨(-1), by decide +kernel, by decide, rfl⟩
theorem iX6_of_124 : mX6_of.2.2.2 = some .int ∧ decode mX6_of.2.1 124 = .ok (.ireturn, 1) := ⟨rfl, by decide +kernel⟩
theorem iX6_orchard_0 : DLdA mX6_orchard 0 0 1 := Or.inl ⟨0, by decide +kernel, rfl, rfl⟩
theorem iX6_orchard_1 : DGet mX6_orchard 1 6 5 4 := ⟨32, by decide +kernel, rfl, xf_RX6_32⟩
theorem iX6_orchard_4 : DLdA mX6_orchard 4 0 5 := Or.inl ⟨0, by decide +kernel, rfl, rfl⟩
theorem iX6_orchard_5 : DGet mX6_orchard 5 6 6 8 := ⟨36, by decide +kernel, rfl, xf_RX6_36⟩
theorem iX6_orchard_8 : DInvV mX6_orchard 8 mX5_read 5 1 11 := ⟨135, TX5, 4, by decide +kernel, rfl, rfl, xl_RX6_135, xi_X5_read, xs_X5_read, xm_X5_read⟩
theorem iX6_orchard_11 : DStI mX6_orchard 11 1 12 := ⟨by decide, Or.inl ⟨1, by decide +kernel, rfl, rfl⟩⟩
theorem iX6_orchard_12 : DLdA mX6_orchard 12 0 13 := Or.inl ⟨0, by decide +kernel, rfl, rfl⟩
theorem iX6_orchard_13 : DGet mX6_orchard 13 6 5 16 := ⟨32, by decide +kernel, rfl, xf_RX6_32⟩
theorem iX6_orchard_16 : DPushI mX6_orchard 16 0 17 := Or.inl ⟨0, by decide +kernel, by decide, rfl⟩
theorem iX6_orchard_17 : DPut mX6_orchard 17 5 1 .int 20 := ⟨139, by decide +kernel, rfl, RX5, TX5, 4, tyX5, rfl, by decide, bigW_at 170 (by decide +kernel) rfl, xw5, tyX5_ok, nmX5, rfl, Or.inl rfl⟩
theorem iX6_orchard_20 : DLdI mX6_orchard 20 1 21 := Or.inl ⟨1, by decide +kernel, rfl, rfl⟩
theorem iX6_orchard_21 : DIf mX6_orchard 21 .ge 26 24 := ⟨5, by decide +kernel, by decide, rfl⟩
theorem iX6_orchard_24 : DLdI mX6_orchard 24 1 25 := Or.inl ⟨1, by decide +kernel, rfl, rfl⟩
theorem iX6_orchard_25 : mX6_orchard.2.2.2 = some .int ∧ decode mX6_orchard.2.1 25 = .ok (.ireturn, 1) := ⟨rfl, by decide +kernel⟩
theorem iX6_orchard_26 : DLdA mX6_orchard 26 0 27 := Or.inl ⟨0, by decide +kernel, rfl, rfl⟩
theorem iX6_orchard_27 : DGet mX6_orchard 27 6 0 30 := ⟨10, by decide +kernel, rfl, xf_RX6_10⟩
theorem iX6_orchard_30 : DLdA mX6_orchard 30 0 31 := Or.inl ⟨0, by decide +kernel, rfl, rfl⟩
theorem iX6_orchard_31 : DGet mX6_orchard 31 6 6 34 := ⟨36, by decide +kernel, rfl, xf_RX6_36⟩
theorem iX6_orchard_34 : DInvV mX6_orchard 34 mX3_takeOver 3 1 37 := ⟨141, TX3, 10, by decide +kernel, rfl, rfl, xl_RX6_141, xi_X3_takeOver, xs_X3_takeOver, xm_X3_takeOver⟩
theorem iX6_orchard_37 : DLdA mX6_orchard 37 0 38 := Or.inl ⟨0, by decide +kernel, rfl, rfl⟩
theorem iX6_orchard_38 : DGet mX6_orchard 38 6 1 41 := ⟨19, by decide +kernel, rfl, xf_RX6_19⟩
theorem iX6_orchard_41 : DPushI mX6_orchard 41 0 42 := Or.inl ⟨0, by decide +kernel, by decide, rfl⟩
theorem iX6_orchard_42 : DPut mX6_orchard 42 1 1 .int 45 := ⟨145, by decide +kernel, rfl, RX1, TX1, 2, tyX1, rfl, by decide, bigW_at 156 (by decide +kernel) rfl, xw1, tyX1_ok, nmX1, rfl, Or.inl rfl⟩
theorem iX6_orchard_45 : DLdI mX6_orchard 45 1 46 := Or.inl ⟨1, by decide +kernel, rfl, rfl⟩
theorem iX6_orchard_46 : mX6_orchard.2.2.2 = some .int ∧ decode mX6_orchard.2.1 46 = .ok (.ireturn, 1) := ⟨rfl, by decide +kernel⟩
end
section
theorem iX6_plan_0 : DLdI mX6_plan 0 1 1 := Or.inl ⟨1, by decide +kernel, rfl, rfl⟩
theorem iX6_plan_1 : DPushI mX6_plan 1 1 2 := Or.inl ⟨1, by decide +kernel, by decide, rfl⟩
theorem iX6_plan_2 : DPushI mX6_plan 2 14 4 := Or.inr (Or.inl ⟨14, by decide +kernel, by decide, rfl⟩)
theorem iX6_plan_4 : DInvS mX6_plan 4 mX6_within 3 7 := ⟨60, by decide +kernel, rfl, Or.inl xl_RX6_60, xt_X6_within, xm_X6_within⟩
theorem iX6_plan_7 : DIf mX6_plan 7 .eq 27 10 := ⟨20, by decide +kernel, by decide, rfl⟩
theorem iX6_plan_10 : DLdI mX6_plan 10 2 11 := Or.inl ⟨2, by decide +kernel, rfl, rfl⟩
theorem iX6_plan_11 : DPushI mX6_plan 11 (-4) 13 := Or.inr (Or.inl ⟨(-4), by decide +kernel, by decide, rfl⟩)
theorem iX6_plan_13 : DCm mX6_plan 13 .eq 29 16 := ⟨16, by decide +kernel, by decide, rfl⟩
theorem iX6_plan_16 : DLdA mX6_plan 16 0 17 := Or.inl ⟨0, by decide +kernel, rfl, rfl⟩
theorem iX6_plan_17 : DGet mX6_plan 17 6 0 20 := ⟨10, by decide +kernel, rfl, xf_RX6_10⟩
theorem iX6_plan_20 : DLdI mX6_plan 20 2 21 := Or.inl ⟨2, by decide +kernel, rfl, rfl⟩
theorem iX6_plan_21 : DInvV mX6_plan 21 mX3_hasLadder 3 1 24 := ⟨103, TX3, 10, by decide +kernel, rfl, rfl, xl_RX6_103, xi_X3_hasLadder, xs_X3_hasLadder, xm_X3_hasLadder⟩
theorem iX6_plan_24 : DIf mX6_plan 24 .ne 29 27 := ⟨5, by decide +kernel, by decide, rfl⟩
theorem iX6_plan_27 : DPushI mX6_plan 27 (-1) 28 := Or.inl ⟨(-1), by decide +kernel, by decide, rfl⟩
theorem iX6_plan_28 : mX6_plan.2.2.2 = some .int ∧ decode mX6_plan.2.1 28 = .ok (.ireturn, 1) := ⟨rfl, by decide +kernel⟩
theorem iX6_plan_29 : DLdA mX6_plan 29 0 30 := Or.inl ⟨0, by decide +kernel, rfl, rfl⟩
theorem iX6_plan_30 : DGet mX6_plan 30 6 0 33 := ⟨10, by decide +kernel, rfl, xf_RX6_10⟩
theorem iX6_plan_33 : DGet mX6_plan 33 3 0 36 := ⟨148, by decide +kernel, rfl, xf_RX6_148⟩
theorem iX6_plan_36 : DIf mX6_plan 36 .eq 49 39 := ⟨13, by decide +kernel, by decide, rfl⟩
theorem iX6_plan_39 : DLdA mX6_plan 39 0 40 := Or.inl ⟨0, by decide +kernel, rfl, rfl⟩
theorem iX6_plan_40 : DGet mX6_plan 40 6 0 43 := ⟨10, by decide +kernel, rfl, xf_RX6_10⟩
theorem iX6_plan_43 : DGet mX6_plan 43 3 1 46 := ⟨151, by decide +kernel, rfl, xf_RX6_151⟩
theorem iX6_plan_46 : DIf mX6_plan 46 .ne 52 49 := ⟨6, by decide +kernel, by decide, rfl⟩
theorem iX6_plan_49 : DPushI mX6_plan 49 (-4) 51 := Or.inr (Or.inl ⟨(-4), by decide +kernel, by decide, rfl⟩)
theorem iX6_plan_51 : mX6_plan.2.2.2 = some .int ∧ decode mX6_plan.2.1 51 = .ok (.ireturn, 1) := ⟨rfl, by decide +kernel⟩
theorem iX6_plan_52 : DPushI mX6_plan 52 0 53 := Or.inl ⟨0, by decide +kernel, by decide, rfl⟩
theorem iX6_plan_53 : DStI mX6_plan 53 3 54 := ⟨by decide, Or.inl ⟨3, by decide +kernel, rfl, rfl⟩⟩
theorem iX6_plan_54 : DLdI mX6_plan 54 3 55 := Or.inl ⟨3, by decide +kernel, rfl, rfl⟩
theorem iX6_plan_55 : DLdA mX6_plan 55 0 56 := Or.inl ⟨0, by decide +kernel, rfl, rfl⟩
theorem iX6_plan_56 : DGet mX6_plan 56 6 0 59 := ⟨10, by decide +kernel, rfl, xf_RX6_10⟩
theorem iX6_plan_59 : DGet mX6_plan 59 3 0 62 := ⟨148, by decide +kernel, rfl, xf_RX6_148⟩
theorem iX6_plan_62 : DCm mX6_plan 62 .ge 127 65 := ⟨65, by decide +kernel, by decide, rfl⟩
theorem iX6_plan_65 : DPushI mX6_plan 65 0 66 := Or.inl ⟨0, by decide +kernel, by decide, rfl⟩
theorem iX6_plan_66 : DStI mX6_plan 66 4 68 := ⟨by decide, Or.inr ⟨by decide +kernel, rfl⟩⟩
theorem iX6_plan_68 : DLdI mX6_plan 68 4 70 := Or.inr ⟨by decide +kernel, rfl⟩
theorem iX6_plan_70 : DPushI mX6_plan 70 1 71 := Or.inl ⟨1, by decide +kernel, by decide, rfl⟩
theorem iX6_plan_71 : DLdA mX6_plan 71 0 72 := Or.inl ⟨0, by decide +kernel, rfl, rfl⟩
theorem iX6_plan_72 : DGet mX6_plan 72 6 0 75 := ⟨10, by decide +kernel, rfl, xf_RX6_10⟩
theorem iX6_plan_75 : DGet mX6_plan 75 3 1 78 := ⟨151, by decide +kernel, rfl, xf_RX6_151⟩
theorem iX6_plan_78 : D1 mX6_plan 78 .ishl 1 79 := ⟨by decide +kernel, rfl⟩
theorem iX6_plan_79 : DCm mX6_plan 79 .ge 121 82 := ⟨42, by decide +kernel, by decide, rfl⟩
theorem iX6_plan_82 : DLdA mX6_plan 82 0 83 := Or.inl ⟨0, by decide +kernel, rfl, rfl⟩
theorem iX6_plan_83 : DGet mX6_plan 83 6 8 86 := ⟨49, by decide +kernel, rfl, xf_RX6_49⟩
theorem iX6_plan_86 : DGet mX6_plan 86 0 0 89 := ⟨193, by decide +kernel, rfl, xf_RX6_193⟩
theorem iX6_plan_89 : DLdI mX6_plan 89 3 90 := Or.inl ⟨3, by decide +kernel, rfl, rfl⟩
theorem iX6_plan_90 : DPushI mX6_plan 90 16 92 := Or.inr (Or.inl ⟨16, by decide +kernel, by decide, rfl⟩)
theorem iX6_plan_92 : D1 mX6_plan 92 .imul 1 93 := ⟨by decide +kernel, rfl⟩
theorem iX6_plan_93 : DLdI mX6_plan 93 4 95 := Or.inr ⟨by decide +kernel, rfl⟩
theorem iX6_plan_95 : D1 mX6_plan 95 .iadd 1 96 := ⟨by decide +kernel, rfl⟩
theorem iX6_plan_96 : DLdA mX6_plan 96 0 97 := Or.inl ⟨0, by decide +kernel, rfl, rfl⟩
theorem iX6_plan_97 : DGet mX6_plan 97 6 0 100 := ⟨10, by decide +kernel, rfl, xf_RX6_10⟩
theorem iX6_plan_100 : DLdI mX6_plan 100 3 101 := Or.inl ⟨3, by decide +kernel, rfl, rfl⟩
theorem iX6_plan_101 : DLdI mX6_plan 101 4 103 := Or.inr ⟨by decide +kernel, rfl⟩
theorem iX6_plan_103 : DLdI mX6_plan 103 1 104 := Or.inl ⟨1, by decide +kernel, rfl, rfl⟩
theorem iX6_plan_104 : DLdA mX6_plan 104 0 105 := Or.inl ⟨0, by decide +kernel, rfl, rfl⟩
theorem iX6_plan_105 : DGet mX6_plan 105 6 0 108 := ⟨10, by decide +kernel, rfl, xf_RX6_10⟩
theorem iX6_plan_108 : DGet mX6_plan 108 3 2 111 := ⟨125, by decide +kernel, rfl, xf_RX6_125⟩
theorem iX6_plan_111 : DInvV mX6_plan 111 mX3_gotAt 3 4 114 := ⟨196, TX3, 10, by decide +kernel, rfl, rfl, xl_RX6_196, xi_X3_gotAt, xs_X3_gotAt, xm_X3_gotAt⟩
theorem iX6_plan_114 : D1 mX6_plan 114 .iastore 1 115 := ⟨by decide +kernel, rfl⟩
theorem iX6_plan_115 : DInc mX6_plan 115 4 1 118 := ⟨by decide, 1, by decide +kernel, by decide, rfl⟩
theorem iX6_plan_118 : DGo mX6_plan 118 68 := ⟨(-50), by decide +kernel, by decide⟩
theorem iX6_plan_121 : DInc mX6_plan 121 3 1 124 := ⟨by decide, 1, by decide +kernel, by decide, rfl⟩
theorem iX6_plan_124 : DGo mX6_plan 124 54 := ⟨(-70), by decide +kernel, by decide⟩
theorem iX6_plan_127 : DLdA mX6_plan 127 0 128 := Or.inl ⟨0, by decide +kernel, rfl, rfl⟩
theorem iX6_plan_128 : DGet mX6_plan 128 6 8 131 := ⟨49, by decide +kernel, rfl, xf_RX6_49⟩
theorem iX6_plan_131 : DLdA mX6_plan 131 0 132 := Or.inl ⟨0, by decide +kernel, rfl, rfl⟩
theorem iX6_plan_132 : DGet mX6_plan 132 6 0 135 := ⟨10, by decide +kernel, rfl, xf_RX6_10⟩
theorem iX6_plan_135 : DGet mX6_plan 135 3 0 138 := ⟨148, by decide +kernel, rfl, xf_RX6_148⟩
theorem iX6_plan_138 : DLdA mX6_plan 138 0 139 := Or.inl ⟨0, by decide +kernel, rfl, rfl⟩
theorem iX6_plan_139 : DGet mX6_plan 139 6 0 142 := ⟨10, by decide +kernel, rfl, xf_RX6_10⟩
theorem iX6_plan_142 : DGet mX6_plan 142 3 1 145 := ⟨151, by decide +kernel, rfl, xf_RX6_151⟩
theorem iX6_plan_145 : DInvV mX6_plan 145 mX0_seek 0 2 148 := ⟨199, TX0, 4, by decide +kernel, rfl, rfl, xl_RX6_199, xi_X0_seek, xs_X0_seek, xm_X0_seek⟩
theorem iX6_plan_148 : DLdI mX6_plan 148 2 149 := Or.inl ⟨2, by decide +kernel, rfl, rfl⟩
theorem iX6_plan_149 : DPushI mX6_plan 149 (-4) 151 := Or.inr (Or.inl ⟨(-4), by decide +kernel, by decide, rfl⟩)
theorem iX6_plan_151 : DCm mX6_plan 151 .ne 164 154 := ⟨13, by decide +kernel, by decide, rfl⟩
theorem iX6_plan_154 : DLdA mX6_plan 154 0 155 := Or.inl ⟨0, by decide +kernel, rfl, rfl⟩
theorem iX6_plan_155 : DGet mX6_plan 155 6 8 158 := ⟨49, by decide +kernel, rfl, xf_RX6_49⟩
theorem iX6_plan_158 : DGet mX6_plan 158 0 3 161 := ⟨203, by decide +kernel, rfl, xf_RX6_203⟩
theorem iX6_plan_161 : DGo mX6_plan 161 173 := ⟨12, by decide +kernel, by decide⟩
theorem iX6_plan_164 : DLdA mX6_plan 164 0 165 := Or.inl ⟨0, by decide +kernel, rfl, rfl⟩
theorem iX6_plan_165 : DGet mX6_plan 165 6 8 168 := ⟨49, by decide +kernel, rfl, xf_RX6_49⟩
theorem iX6_plan_168 : DGet mX6_plan 168 0 1 171 := ⟨206, by decide +kernel, rfl, xf_RX6_206⟩
theorem iX6_plan_171 : DLdI mX6_plan 171 2 172 := Or.inl ⟨2, by decide +kernel, rfl, rfl⟩
theorem iX6_plan_172 : D1 mX6_plan 172 .iaload 1 173 := ⟨by decide +kernel, rfl⟩
theorem iX6_plan_173 : mX6_plan.2.2.2 = some .int ∧ decode mX6_plan.2.1 173 = .ok (.ireturn, 1) := ⟨rfl, by decide +kernel⟩
theorem iX6_reachOfDewy_0 : DLdI mX6_reachOfDewy 0 1 1 := Or.inl ⟨1, by decide +kernel, rfl, rfl⟩
theorem iX6_reachOfDewy_1 : DPushI mX6_reachOfDewy 1 3 2 := Or.inl ⟨3, by decide +kernel, by decide, rfl⟩
theorem iX6_reachOfDewy_2 : D1 mX6_reachOfDewy 2 .irem 1 3 := ⟨by decide +kernel, rfl⟩
theorem iX6_reachOfDewy_3 : DIf mX6_reachOfDewy 3 .ne 15 6 := ⟨12, by decide +kernel, by decide, rfl⟩
theorem iX6_reachOfDewy_6 : DLdI mX6_reachOfDewy 6 0 7 := Or.inl ⟨0, by decide +kernel, rfl, rfl⟩
theorem iX6_reachOfDewy_7 : DPushI mX6_reachOfDewy 7 2 8 := Or.inl ⟨2, by decide +kernel, by decide, rfl⟩
theorem iX6_reachOfDewy_8 : DCm mX6_reachOfDewy 8 .le 15 11 := ⟨7, by decide +kernel, by decide, rfl⟩
theorem iX6_reachOfDewy_11 : DPushI mX6_reachOfDewy 11 2 12 := Or.inl ⟨2, by decide +kernel, by decide, rfl⟩
theorem iX6_reachOfDewy_12 : DGo mX6_reachOfDewy 12 16 := ⟨4, by decide +kernel, by decide⟩
theorem iX6_reachOfDewy_15 : DLdI mX6_reachOfDewy 15 0 16 := Or.inl ⟨0, by decide +kernel, rfl, rfl⟩
theorem iX6_reachOfDewy_16 : mX6_reachOfDewy.2.2.2 = some .int ∧ decode mX6_reachOfDewy.2.1 16 = .ok (.ireturn, 1) := ⟨rfl, by decide +kernel⟩
theorem iX6_reachOfKind_0 : DLdI mX6_reachOfKind 0 0 1 := Or.inl ⟨0, by decide +kernel, rfl, rfl⟩
theorem iX6_reachOfKind_1 : DTab mX6_reachOfKind 1 1 [32, 38, 43, 66] 82 := ⟨81, 4, #[31, 37, 42, 65], 31, by decide +kernel, by decide, by decide, by decide⟩
theorem iX6_reachOfKind_32 : DLdI mX6_reachOfKind 32 1 33 := Or.inl ⟨1, by decide +kernel, rfl, rfl⟩
theorem iX6_reachOfKind_33 : DLdI mX6_reachOfKind 33 2 34 := Or.inl ⟨2, by decide +kernel, rfl, rfl⟩
theorem iX6_reachOfKind_34 : DInvS mX6_reachOfKind 34 mX6_reachOfDewy 2 37 := ⟨275, by decide +kernel, rfl, Or.inl xl_RX6_275, xt_X6_reachOfDewy, xm_X6_reachOfDewy⟩
theorem iX6_reachOfKind_37 : mX6_reachOfKind.2.2.2 = some .int ∧ decode mX6_reachOfKind.2.1 37 = .ok (.ireturn, 1) := ⟨rfl, by decide +kernel⟩
theorem iX6_reachOfKind_38 : DLdI mX6_reachOfKind 38 1 39 := Or.inl ⟨1, by decide +kernel, rfl, rfl⟩
theorem iX6_reachOfKind_39 : DInvS mX6_reachOfKind 39 mX6_reachOfTied 1 42 := ⟨278, by decide +kernel, rfl, Or.inl xl_RX6_278, xt_X6_reachOfTied, xm_X6_reachOfTied⟩
theorem iX6_reachOfKind_42 : mX6_reachOfKind.2.2.2 = some .int ∧ decode mX6_reachOfKind.2.1 42 = .ok (.ireturn, 1) := ⟨rfl, by decide +kernel⟩
theorem iX6_reachOfKind_43 : DLdI mX6_reachOfKind 43 1 44 := Or.inl ⟨1, by decide +kernel, rfl, rfl⟩
theorem iX6_reachOfKind_44 : DPushI mX6_reachOfKind 44 4 45 := Or.inl ⟨4, by decide +kernel, by decide, rfl⟩
theorem iX6_reachOfKind_45 : DCm mX6_reachOfKind 45 .lt 60 48 := ⟨15, by decide +kernel, by decide, rfl⟩
theorem iX6_reachOfKind_48 : DLdI mX6_reachOfKind 48 1 49 := Or.inl ⟨1, by decide +kernel, rfl, rfl⟩
theorem iX6_reachOfKind_49 : DLdI mX6_reachOfKind 49 2 50 := Or.inl ⟨2, by decide +kernel, rfl, rfl⟩
theorem iX6_reachOfKind_50 : DInvS mX6_reachOfKind 50 mX6_reachOfDewy 2 53 := ⟨275, by decide +kernel, rfl, Or.inl xl_RX6_275, xt_X6_reachOfDewy, xm_X6_reachOfDewy⟩
theorem iX6_reachOfKind_53 : DPushI mX6_reachOfKind 53 3 54 := Or.inl ⟨3, by decide +kernel, by decide, rfl⟩
theorem iX6_reachOfKind_54 : DMin mX6_reachOfKind 54 57 := ⟨281, by decide +kernel, rfl, xl_RX6_281, xl_ms_min, xl_mi, xl_mc_min⟩
theorem iX6_reachOfKind_57 : DGo mX6_reachOfKind 57 65 := ⟨8, by decide +kernel, by decide⟩
theorem iX6_reachOfKind_60 : DLdI mX6_reachOfKind 60 1 61 := Or.inl ⟨1, by decide +kernel, rfl, rfl⟩
theorem iX6_reachOfKind_61 : DLdI mX6_reachOfKind 61 2 62 := Or.inl ⟨2, by decide +kernel, rfl, rfl⟩
theorem iX6_reachOfKind_62 : DInvS mX6_reachOfKind 62 mX6_reachOfDewy 2 65 := ⟨275, by decide +kernel, rfl, Or.inl xl_RX6_275, xt_X6_reachOfDewy, xm_X6_reachOfDewy⟩
theorem iX6_reachOfKind_65 : mX6_reachOfKind.2.2.2 = some .int ∧ decode mX6_reachOfKind.2.1 65 = .ok (.ireturn, 1) := ⟨rfl, by decide +kernel⟩
theorem iX6_reachOfKind_66 : DLdI mX6_reachOfKind 66 2 67 := Or.inl ⟨2, by decide +kernel, rfl, rfl⟩
theorem iX6_reachOfKind_67 : DPushI mX6_reachOfKind 67 7 69 := Or.inr (Or.inl ⟨7, by decide +kernel, by decide, rfl⟩)
theorem iX6_reachOfKind_69 : D1 mX6_reachOfKind 69 .irem 1 70 := ⟨by decide +kernel, rfl⟩
theorem iX6_reachOfKind_70 : DIf mX6_reachOfKind 70 .ne 77 73 := ⟨7, by decide +kernel, by decide, rfl⟩
theorem iX6_reachOfKind_73 : DPushI mX6_reachOfKind 73 0 74 := Or.inl ⟨0, by decide +kernel, by decide, rfl⟩
theorem iX6_reachOfKind_74 : DGo mX6_reachOfKind 74 81 := ⟨7, by decide +kernel, by decide⟩
theorem iX6_reachOfKind_77 : DLdI mX6_reachOfKind 77 1 78 := Or.inl ⟨1, by decide +kernel, rfl, rfl⟩
theorem iX6_reachOfKind_78 : DInvS mX6_reachOfKind 78 mX6_reachOfTied 1 81 := ⟨278, by decide +kernel, rfl, Or.inl xl_RX6_278, xt_X6_reachOfTied, xm_X6_reachOfTied⟩
theorem iX6_reachOfKind_81 : mX6_reachOfKind.2.2.2 = some .int ∧ decode mX6_reachOfKind.2.1 81 = .ok (.ireturn, 1) := ⟨rfl, by decide +kernel⟩
theorem iX6_reachOfKind_82 : DLdI mX6_reachOfKind 82 1 83 := Or.inl ⟨1, by decide +kernel, rfl, rfl⟩
theorem iX6_reachOfKind_83 : mX6_reachOfKind.2.2.2 = some .int ∧ decode mX6_reachOfKind.2.1 83 = .ok (.ireturn, 1) := ⟨rfl, by decide +kernel⟩
theorem iX6_reachOfTied_0 : DPushI mX6_reachOfTied 0 2 1 := Or.inl ⟨2, by decide +kernel, by decide, rfl⟩
theorem iX6_reachOfTied_1 : DLdI mX6_reachOfTied 1 0 2 := Or.inl ⟨0, by decide +kernel, rfl, rfl⟩
theorem iX6_reachOfTied_2 : D1 mX6_reachOfTied 2 .imul 1 3 := ⟨by decide +kernel, rfl⟩
theorem iX6_reachOfTied_3 : mX6_reachOfTied.2.2.2 = some .int ∧ decode mX6_reachOfTied.2.1 3 = .ok (.ireturn, 1) := ⟨rfl, by decide +kernel⟩
theorem iX6_reached_0 : DLdA mX6_reached 0 0 1 := Or.inl ⟨0, by decide +kernel, rfl, rfl⟩
theorem iX6_reached_1 : DGet mX6_reached 1 6 0 4 := ⟨10, by decide +kernel, rfl, xf_RX6_10⟩
theorem iX6_reached_4 : DLdI mX6_reached 4 1 5 := Or.inl ⟨1, by decide +kernel, rfl, rfl⟩
theorem iX6_reached_5 : DInvV mX6_reached 5 mX3_hasTree 3 1 8 := ⟨75, TX3, 10, by decide +kernel, rfl, rfl, xl_RX6_75, xi_X3_hasTree, xs_X3_hasTree, xm_X3_hasTree⟩
theorem iX6_reached_8 : DIf mX6_reached 8 .eq 21 11 := ⟨13, by decide +kernel, by decide, rfl⟩
theorem iX6_reached_11 : DLdI mX6_reached 11 2 12 := Or.inl ⟨2, by decide +kernel, rfl, rfl⟩
theorem iX6_reached_12 : DPushI mX6_reached 12 0 13 := Or.inl ⟨0, by decide +kernel, by decide, rfl⟩
theorem iX6_reached_13 : DPushI mX6_reached 13 60 15 := Or.inr (Or.inl ⟨60, by decide +kernel, by decide, rfl⟩)
theorem iX6_reached_15 : DInvS mX6_reached 15 mX6_within 3 18 := ⟨60, by decide +kernel, rfl, Or.inl xl_RX6_60, xt_X6_within, xm_X6_within⟩
theorem iX6_reached_18 : DIf mX6_reached 18 .ne 23 21 := ⟨5, by decide +kernel, by decide, rfl⟩
theorem iX6_reached_21 : DPushI mX6_reached 21 (-1) 22 := Or.inl ⟨(-1), by decide +kernel, by decide, rfl⟩
theorem iX6_reached_22 : mX6_reached.2.2.2 = some .int ∧ decode mX6_reached.2.1 22 = .ok (.ireturn, 1) := ⟨rfl, by decide +kernel⟩
theorem iX6_reached_23 : DLdA mX6_reached 23 0 24 := Or.inl ⟨0, by decide +kernel, rfl, rfl⟩
theorem iX6_reached_24 : DGet mX6_reached 24 6 0 27 := ⟨10, by decide +kernel, rfl, xf_RX6_10⟩
theorem iX6_reached_27 : DLdI mX6_reached 27 1 28 := Or.inl ⟨1, by decide +kernel, rfl, rfl⟩
theorem iX6_reached_28 : DLdA mX6_reached 28 0 29 := Or.inl ⟨0, by decide +kernel, rfl, rfl⟩
theorem iX6_reached_29 : DGet mX6_reached 29 6 0 32 := ⟨10, by decide +kernel, rfl, xf_RX6_10⟩
theorem iX6_reached_32 : DGet mX6_reached 32 3 9 35 := ⟨83, by decide +kernel, rfl, xf_RX6_83⟩
theorem iX6_reached_35 : DGet mX6_reached 35 2 5 38 := ⟨96, by decide +kernel, rfl, xf_RX6_96⟩
theorem iX6_reached_38 : DLdI mX6_reached 38 2 39 := Or.inl ⟨2, by decide +kernel, rfl, rfl⟩
theorem iX6_reached_39 : D1 mX6_reached 39 .iadd 1 40 := ⟨by decide +kernel, rfl⟩
theorem iX6_reached_40 : DPushI mX6_reached 40 15 42 := Or.inr (Or.inl ⟨15, by decide +kernel, by decide, rfl⟩)
theorem iX6_reached_42 : DInvV mX6_reached 42 mX3_reaching 3 3 45 := ⟨100, TX3, 10, by decide +kernel, rfl, rfl, xl_RX6_100, xi_X3_reaching, xs_X3_reaching, xm_X3_reaching⟩
theorem iX6_reached_45 : mX6_reached.2.2.2 = some .int ∧ decode mX6_reached.2.1 45 = .ok (.ireturn, 1) := ⟨rfl, by decide +kernel⟩
theorem iX6_restore_0 : DLdA mX6_restore 0 0 1 := Or.inl ⟨0, by decide +kernel, rfl, rfl⟩
theorem iX6_restore_1 : DGet mX6_restore 1 6 4 4 := ⟨233, by decide +kernel, rfl, xf_RX6_233⟩
theorem iX6_restore_4 : DIf mX6_restore 4 .ne 10 7 := ⟨6, by decide +kernel, by decide, rfl⟩
theorem iX6_restore_7 : DPushI mX6_restore 7 (-4) 9 := Or.inr (Or.inl ⟨(-4), by decide +kernel, by decide, rfl⟩)
theorem iX6_restore_9 : mX6_restore.2.2.2 = some .int ∧ decode mX6_restore.2.1 9 = .ok (.ireturn, 1) := ⟨rfl, by decide +kernel⟩
theorem iX6_restore_10 : DLdA mX6_restore 10 0 11 := Or.inl ⟨0, by decide +kernel, rfl, rfl⟩
theorem iX6_restore_11 : DGet mX6_restore 11 6 0 14 := ⟨10, by decide +kernel, rfl, xf_RX6_10⟩
theorem iX6_restore_14 : DLdA mX6_restore 14 0 15 := Or.inl ⟨0, by decide +kernel, rfl, rfl⟩
theorem iX6_restore_15 : DGet mX6_restore 15 6 2 18 := ⟨23, by decide +kernel, rfl, xf_RX6_23⟩
theorem iX6_restore_18 : DInvV mX6_restore 18 mX3_become 3 1 21 := ⟨228, TX3, 10, by decide +kernel, rfl, rfl, xl_RX6_228, xi_X3_become, xs_X3_become, xm_X3_become⟩
theorem iX6_restore_21 : DLdA mX6_restore 21 0 22 := Or.inl ⟨0, by decide +kernel, rfl, rfl⟩
theorem iX6_restore_22 : DGet mX6_restore 22 6 1 25 := ⟨19, by decide +kernel, rfl, xf_RX6_19⟩
theorem iX6_restore_25 : DLdA mX6_restore 25 0 26 := Or.inl ⟨0, by decide +kernel, rfl, rfl⟩
theorem iX6_restore_26 : DGet mX6_restore 26 6 3 29 := ⟨26, by decide +kernel, rfl, xf_RX6_26⟩
theorem iX6_restore_29 : DInvV mX6_restore 29 mX1_become 1 1 32 := ⟨230, TX1, 2, by decide +kernel, rfl, rfl, xl_RX6_230, xi_X1_become, xs_X1_become, xm_X1_become⟩
theorem iX6_restore_32 : DPushI mX6_restore 32 1 33 := Or.inl ⟨1, by decide +kernel, by decide, rfl⟩
theorem iX6_restore_33 : mX6_restore.2.2.2 = some .int ∧ decode mX6_restore.2.1 33 = .ok (.ireturn, 1) := ⟨rfl, by decide +kernel⟩
theorem iX6_round_0 : DLdA mX6_round 0 0 1 := Or.inl ⟨0, by decide +kernel, rfl, rfl⟩
theorem iX6_round_1 : DGet mX6_round 1 6 0 4 := ⟨10, by decide +kernel, rfl, xf_RX6_10⟩
theorem iX6_round_4 : DLdI mX6_round 4 1 5 := Or.inl ⟨1, by decide +kernel, rfl, rfl⟩
theorem iX6_round_5 : DInvV mX6_round 5 mX3_hasLadder 3 1 8 := ⟨103, TX3, 10, by decide +kernel, rfl, rfl, xl_RX6_103, xi_X3_hasLadder, xs_X3_hasLadder, xm_X3_hasLadder⟩
theorem iX6_round_8 : DIf mX6_round 8 .eq 25 11 := ⟨17, by decide +kernel, by decide, rfl⟩
theorem iX6_round_11 : DLdI mX6_round 11 2 12 := Or.inl ⟨2, by decide +kernel, rfl, rfl⟩
theorem iX6_round_12 : DPushI mX6_round 12 1 13 := Or.inl ⟨1, by decide +kernel, by decide, rfl⟩
theorem iX6_round_13 : DPushI mX6_round 13 4 14 := Or.inl ⟨4, by decide +kernel, by decide, rfl⟩
theorem iX6_round_14 : DInvS mX6_round 14 mX6_within 3 17 := ⟨60, by decide +kernel, rfl, Or.inl xl_RX6_60, xt_X6_within, xm_X6_within⟩
theorem iX6_round_17 : DIf mX6_round 17 .eq 25 20 := ⟨8, by decide +kernel, by decide, rfl⟩
theorem iX6_round_20 : DLdI mX6_round 20 3 21 := Or.inl ⟨3, by decide +kernel, rfl, rfl⟩
theorem iX6_round_21 : DPushI mX6_round 21 (-1) 22 := Or.inl ⟨(-1), by decide +kernel, by decide, rfl⟩
theorem iX6_round_22 : DCm mX6_round 22 .ge 27 25 := ⟨5, by decide +kernel, by decide, rfl⟩
theorem iX6_round_25 : DPushI mX6_round 25 (-1) 26 := Or.inl ⟨(-1), by decide +kernel, by decide, rfl⟩
theorem iX6_round_26 : mX6_round.2.2.2 = some .int ∧ decode mX6_round.2.1 26 = .ok (.ireturn, 1) := ⟨rfl, by decide +kernel⟩
theorem iX6_round_27 : DLdA mX6_round 27 0 28 := Or.inl ⟨0, by decide +kernel, rfl, rfl⟩
theorem iX6_round_28 : DGet mX6_round 28 6 0 31 := ⟨10, by decide +kernel, rfl, xf_RX6_10⟩
theorem iX6_round_31 : DGet mX6_round 31 3 0 34 := ⟨148, by decide +kernel, rfl, xf_RX6_148⟩
theorem iX6_round_34 : DIf mX6_round 34 .eq 42 37 := ⟨8, by decide +kernel, by decide, rfl⟩
theorem iX6_round_37 : DLdI mX6_round 37 3 38 := Or.inl ⟨3, by decide +kernel, rfl, rfl⟩
theorem iX6_round_38 : DLdI mX6_round 38 2 39 := Or.inl ⟨2, by decide +kernel, rfl, rfl⟩
theorem iX6_round_39 : DCm mX6_round 39 .lt 45 42 := ⟨6, by decide +kernel, by decide, rfl⟩
theorem iX6_round_42 : DPushI mX6_round 42 (-4) 44 := Or.inr (Or.inl ⟨(-4), by decide +kernel, by decide, rfl⟩)
theorem iX6_round_44 : mX6_round.2.2.2 = some .int ∧ decode mX6_round.2.1 44 = .ok (.ireturn, 1) := ⟨rfl, by decide +kernel⟩
theorem iX6_round_45 : DPushI mX6_round 45 0 46 := Or.inl ⟨0, by decide +kernel, by decide, rfl⟩
theorem iX6_round_46 : DStI mX6_round 46 4 48 := ⟨by decide, Or.inr ⟨by decide +kernel, rfl⟩⟩
theorem iX6_round_48 : DLdI mX6_round 48 4 50 := Or.inr ⟨by decide +kernel, rfl⟩
theorem iX6_round_50 : DLdA mX6_round 50 0 51 := Or.inl ⟨0, by decide +kernel, rfl, rfl⟩
theorem iX6_round_51 : DGet mX6_round 51 6 0 54 := ⟨10, by decide +kernel, rfl, xf_RX6_10⟩
theorem iX6_round_54 : DGet mX6_round 54 3 0 57 := ⟨148, by decide +kernel, rfl, xf_RX6_148⟩
theorem iX6_round_57 : DCm mX6_round 57 .ge 143 60 := ⟨86, by decide +kernel, by decide, rfl⟩
theorem iX6_round_60 : DLdA mX6_round 60 0 61 := Or.inl ⟨0, by decide +kernel, rfl, rfl⟩
theorem iX6_round_61 : DGet mX6_round 61 6 0 64 := ⟨10, by decide +kernel, rfl, xf_RX6_10⟩
theorem iX6_round_64 : DGet mX6_round 64 3 9 67 := ⟨83, by decide +kernel, rfl, xf_RX6_83⟩
theorem iX6_round_67 : DLdI mX6_round 67 4 69 := Or.inr ⟨by decide +kernel, rfl⟩
theorem iX6_round_69 : DInvV mX6_round 69 mX2_leaningAt 2 1 72 := ⟨92, TX2, 7, by decide +kernel, rfl, rfl, xl_RX6_92, xi_X2_leaningAt, xs_X2_leaningAt, xm_X2_leaningAt⟩
theorem iX6_round_72 : DPushI mX6_round 72 1 73 := Or.inl ⟨1, by decide +kernel, by decide, rfl⟩
theorem iX6_round_73 : DLdI mX6_round 73 1 74 := Or.inl ⟨1, by decide +kernel, rfl, rfl⟩
theorem iX6_round_74 : D1 mX6_round 74 .ishl 1 75 := ⟨by decide +kernel, rfl⟩
theorem iX6_round_75 : DPushI mX6_round 75 (-1) 76 := Or.inl ⟨(-1), by decide +kernel, by decide, rfl⟩
theorem iX6_round_76 : D1 mX6_round 76 .ixor 1 77 := ⟨by decide +kernel, rfl⟩
theorem iX6_round_77 : D1 mX6_round 77 .iand 1 78 := ⟨by decide +kernel, rfl⟩
theorem iX6_round_78 : DStI mX6_round 78 5 80 := ⟨by decide, Or.inr ⟨by decide +kernel, rfl⟩⟩
theorem iX6_round_80 : DPushI mX6_round 80 0 81 := Or.inl ⟨0, by decide +kernel, by decide, rfl⟩
theorem iX6_round_81 : DStI mX6_round 81 6 83 := ⟨by decide, Or.inr ⟨by decide +kernel, rfl⟩⟩
theorem iX6_round_83 : DLdI mX6_round 83 6 85 := Or.inr ⟨by decide +kernel, rfl⟩
theorem iX6_round_85 : DPushI mX6_round 85 1 86 := Or.inl ⟨1, by decide +kernel, by decide, rfl⟩
theorem iX6_round_86 : DLdI mX6_round 86 2 87 := Or.inl ⟨2, by decide +kernel, rfl, rfl⟩
theorem iX6_round_87 : D1 mX6_round 87 .ishl 1 88 := ⟨by decide +kernel, rfl⟩
theorem iX6_round_88 : DCm mX6_round 88 .ge 137 91 := ⟨49, by decide +kernel, by decide, rfl⟩
theorem iX6_round_91 : DLdA mX6_round 91 0 92 := Or.inl ⟨0, by decide +kernel, rfl, rfl⟩
theorem iX6_round_92 : DGet mX6_round 92 6 8 95 := ⟨49, by decide +kernel, rfl, xf_RX6_49⟩
theorem iX6_round_95 : DGet mX6_round 95 0 0 98 := ⟨193, by decide +kernel, rfl, xf_RX6_193⟩
theorem iX6_round_98 : DLdI mX6_round 98 4 100 := Or.inr ⟨by decide +kernel, rfl⟩
theorem iX6_round_100 : DPushI mX6_round 100 16 102 := Or.inr (Or.inl ⟨16, by decide +kernel, by decide, rfl⟩)
theorem iX6_round_102 : D1 mX6_round 102 .imul 1 103 := ⟨by decide +kernel, rfl⟩
theorem iX6_round_103 : DLdI mX6_round 103 6 105 := Or.inr ⟨by decide +kernel, rfl⟩
theorem iX6_round_105 : D1 mX6_round 105 .iadd 1 106 := ⟨by decide +kernel, rfl⟩
theorem iX6_round_106 : DLdA mX6_round 106 0 107 := Or.inl ⟨0, by decide +kernel, rfl, rfl⟩
theorem iX6_round_107 : DGet mX6_round 107 6 0 110 := ⟨10, by decide +kernel, rfl, xf_RX6_10⟩
theorem iX6_round_110 : DLdI mX6_round 110 4 112 := Or.inr ⟨by decide +kernel, rfl⟩
theorem iX6_round_112 : DLdI mX6_round 112 5 114 := Or.inr ⟨by decide +kernel, rfl⟩
theorem iX6_round_114 : DPushI mX6_round 114 1 115 := Or.inl ⟨1, by decide +kernel, by decide, rfl⟩
theorem iX6_round_115 : DLdI mX6_round 115 1 116 := Or.inl ⟨1, by decide +kernel, rfl, rfl⟩
theorem iX6_round_116 : D1 mX6_round 116 .ishl 1 117 := ⟨by decide +kernel, rfl⟩
theorem iX6_round_117 : DLdI mX6_round 117 6 119 := Or.inr ⟨by decide +kernel, rfl⟩
theorem iX6_round_119 : DLdI mX6_round 119 2 120 := Or.inl ⟨2, by decide +kernel, rfl, rfl⟩
theorem iX6_round_120 : DLdA mX6_round 120 0 121 := Or.inl ⟨0, by decide +kernel, rfl, rfl⟩
theorem iX6_round_121 : DGet mX6_round 121 6 0 124 := ⟨10, by decide +kernel, rfl, xf_RX6_10⟩
theorem iX6_round_124 : DGet mX6_round 124 3 2 127 := ⟨125, by decide +kernel, rfl, xf_RX6_125⟩
theorem iX6_round_127 : DInvV mX6_round 127 mX3_gotWithGuest 3 6 130 := ⟨208, TX3, 10, by decide +kernel, rfl, rfl, xl_RX6_208, xi_X3_gotWithGuest, xs_X3_gotWithGuest, xm_X3_gotWithGuest⟩
theorem iX6_round_130 : D1 mX6_round 130 .iastore 1 131 := ⟨by decide +kernel, rfl⟩
theorem iX6_round_131 : DInc mX6_round 131 6 1 134 := ⟨by decide, 1, by decide +kernel, by decide, rfl⟩
theorem iX6_round_134 : DGo mX6_round 134 83 := ⟨(-51), by decide +kernel, by decide⟩
theorem iX6_round_137 : DInc mX6_round 137 4 1 140 := ⟨by decide, 1, by decide +kernel, by decide, rfl⟩
theorem iX6_round_140 : DGo mX6_round 140 48 := ⟨(-92), by decide +kernel, by decide⟩
theorem iX6_round_143 : DLdA mX6_round 143 0 144 := Or.inl ⟨0, by decide +kernel, rfl, rfl⟩
theorem iX6_round_144 : DGet mX6_round 144 6 8 147 := ⟨49, by decide +kernel, rfl, xf_RX6_49⟩
theorem iX6_round_147 : DLdA mX6_round 147 0 148 := Or.inl ⟨0, by decide +kernel, rfl, rfl⟩
theorem iX6_round_148 : DGet mX6_round 148 6 0 151 := ⟨10, by decide +kernel, rfl, xf_RX6_10⟩
theorem iX6_round_151 : DGet mX6_round 151 3 0 154 := ⟨148, by decide +kernel, rfl, xf_RX6_148⟩
theorem iX6_round_154 : DLdI mX6_round 154 2 155 := Or.inl ⟨2, by decide +kernel, rfl, rfl⟩
theorem iX6_round_155 : DInvV mX6_round 155 mX0_seek 0 2 158 := ⟨199, TX0, 4, by decide +kernel, rfl, rfl, xl_RX6_199, xi_X0_seek, xs_X0_seek, xm_X0_seek⟩
theorem iX6_round_158 : DLdI mX6_round 158 3 159 := Or.inl ⟨3, by decide +kernel, rfl, rfl⟩
theorem iX6_round_159 : DPushI mX6_round 159 (-1) 160 := Or.inl ⟨(-1), by decide +kernel, by decide, rfl⟩
theorem iX6_round_160 : DCm mX6_round 160 .ne 173 163 := ⟨13, by decide +kernel, by decide, rfl⟩
theorem iX6_round_163 : DLdA mX6_round 163 0 164 := Or.inl ⟨0, by decide +kernel, rfl, rfl⟩
theorem iX6_round_164 : DGet mX6_round 164 6 8 167 := ⟨49, by decide +kernel, rfl, xf_RX6_49⟩
theorem iX6_round_167 : DGet mX6_round 167 0 3 170 := ⟨203, by decide +kernel, rfl, xf_RX6_203⟩
theorem iX6_round_170 : DGo mX6_round 170 182 := ⟨12, by decide +kernel, by decide⟩
theorem iX6_round_173 : DLdA mX6_round 173 0 174 := Or.inl ⟨0, by decide +kernel, rfl, rfl⟩
theorem iX6_round_174 : DGet mX6_round 174 6 8 177 := ⟨49, by decide +kernel, rfl, xf_RX6_49⟩
theorem iX6_round_177 : DGet mX6_round 177 0 1 180 := ⟨206, by decide +kernel, rfl, xf_RX6_206⟩
theorem iX6_round_180 : DLdI mX6_round 180 3 181 := Or.inl ⟨3, by decide +kernel, rfl, rfl⟩
theorem iX6_round_181 : D1 mX6_round 181 .iaload 1 182 := ⟨by decide +kernel, rfl⟩
theorem iX6_round_182 : mX6_round.2.2.2 = some .int ∧ decode mX6_round.2.1 182 = .ok (.ireturn, 1) := ⟨rfl, by decide +kernel⟩
theorem iX6_rule_0 : DLdI mX6_rule 0 1 1 := Or.inl ⟨1, by decide +kernel, rfl, rfl⟩
theorem iX6_rule_1 : DIf mX6_rule 1 .ne 32 4 := ⟨31, by decide +kernel, by decide, rfl⟩
theorem iX6_rule_4 : DLdI mX6_rule 4 2 5 := Or.inl ⟨2, by decide +kernel, rfl, rfl⟩
theorem iX6_rule_5 : DPushI mX6_rule 5 1 6 := Or.inl ⟨1, by decide +kernel, by decide, rfl⟩
theorem iX6_rule_6 : DPushI mX6_rule 6 30 8 := Or.inr (Or.inl ⟨30, by decide +kernel, by decide, rfl⟩)
theorem iX6_rule_8 : DInvS mX6_rule 8 mX6_within 3 11 := ⟨60, by decide +kernel, rfl, Or.inl xl_RX6_60, xt_X6_within, xm_X6_within⟩
theorem iX6_rule_11 : DIf mX6_rule 11 .eq 32 14 := ⟨21, by decide +kernel, by decide, rfl⟩
theorem iX6_rule_14 : DLdA mX6_rule 14 0 15 := Or.inl ⟨0, by decide +kernel, rfl, rfl⟩
theorem iX6_rule_15 : DGet mX6_rule 15 6 0 18 := ⟨10, by decide +kernel, rfl, xf_RX6_10⟩
theorem iX6_rule_18 : DGet mX6_rule 18 3 2 21 := ⟨125, by decide +kernel, rfl, xf_RX6_125⟩
theorem iX6_rule_21 : DStI mX6_rule 21 3 22 := ⟨by decide, Or.inl ⟨3, by decide +kernel, rfl, rfl⟩⟩
theorem iX6_rule_22 : DLdA mX6_rule 22 0 23 := Or.inl ⟨0, by decide +kernel, rfl, rfl⟩
theorem iX6_rule_23 : DGet mX6_rule 23 6 0 26 := ⟨10, by decide +kernel, rfl, xf_RX6_10⟩
theorem iX6_rule_26 : DLdI mX6_rule 26 2 27 := Or.inl ⟨2, by decide +kernel, rfl, rfl⟩
theorem iX6_rule_27 : DPut mX6_rule 27 3 2 .int 30 := ⟨125, by decide +kernel, rfl, RX3, TX3, 10, tyX3, rfl, by decide, bigW_at 108 (by decide +kernel) rfl, xw3, tyX3_ok, nmX3, rfl, Or.inl rfl⟩
theorem iX6_rule_30 : DLdI mX6_rule 30 3 31 := Or.inl ⟨3, by decide +kernel, rfl, rfl⟩
theorem iX6_rule_31 : mX6_rule.2.2.2 = some .int ∧ decode mX6_rule.2.1 31 = .ok (.ireturn, 1) := ⟨rfl, by decide +kernel⟩
theorem iX6_rule_32 : DLdI mX6_rule 32 1 33 := Or.inl ⟨1, by decide +kernel, rfl, rfl⟩
theorem iX6_rule_33 : DPushI mX6_rule 33 1 34 := Or.inl ⟨1, by decide +kernel, by decide, rfl⟩
theorem iX6_rule_34 : DCm mX6_rule 34 .ne 65 37 := ⟨31, by decide +kernel, by decide, rfl⟩
theorem iX6_rule_37 : DLdI mX6_rule 37 2 38 := Or.inl ⟨2, by decide +kernel, rfl, rfl⟩
theorem iX6_rule_38 : DPushI mX6_rule 38 0 39 := Or.inl ⟨0, by decide +kernel, by decide, rfl⟩
theorem iX6_rule_39 : DPushI mX6_rule 39 9 41 := Or.inr (Or.inl ⟨9, by decide +kernel, by decide, rfl⟩)
theorem iX6_rule_41 : DInvS mX6_rule 41 mX6_within 3 44 := ⟨60, by decide +kernel, rfl, Or.inl xl_RX6_60, xt_X6_within, xm_X6_within⟩
theorem iX6_rule_44 : DIf mX6_rule 44 .eq 65 47 := ⟨21, by decide +kernel, by decide, rfl⟩
theorem iX6_rule_47 : DLdA mX6_rule 47 0 48 := Or.inl ⟨0, by decide +kernel, rfl, rfl⟩
theorem iX6_rule_48 : DGet mX6_rule 48 6 0 51 := ⟨10, by decide +kernel, rfl, xf_RX6_10⟩
theorem iX6_rule_51 : DGet mX6_rule 51 3 3 54 := ⟨128, by decide +kernel, rfl, xf_RX6_128⟩
theorem iX6_rule_54 : DStI mX6_rule 54 3 55 := ⟨by decide, Or.inl ⟨3, by decide +kernel, rfl, rfl⟩⟩
theorem iX6_rule_55 : DLdA mX6_rule 55 0 56 := Or.inl ⟨0, by decide +kernel, rfl, rfl⟩
theorem iX6_rule_56 : DGet mX6_rule 56 6 0 59 := ⟨10, by decide +kernel, rfl, xf_RX6_10⟩
theorem iX6_rule_59 : DLdI mX6_rule 59 2 60 := Or.inl ⟨2, by decide +kernel, rfl, rfl⟩
theorem iX6_rule_60 : DPut mX6_rule 60 3 3 .int 63 := ⟨128, by decide +kernel, rfl, RX3, TX3, 10, tyX3, rfl, by decide, bigW_at 110 (by decide +kernel) rfl, xw3, tyX3_ok, nmX3, rfl, Or.inl rfl⟩
theorem iX6_rule_63 : DLdI mX6_rule 63 3 64 := Or.inl ⟨3, by decide +kernel, rfl, rfl⟩
theorem iX6_rule_64 : mX6_rule.2.2.2 = some .int ∧ decode mX6_rule.2.1 64 = .ok (.ireturn, 1) := ⟨rfl, by decide +kernel⟩
theorem iX6_rule_65 : DPushI mX6_rule 65 (-1) 66 := Or.inl ⟨(-1), by decide +kernel, by decide, rfl⟩
theorem iX6_rule_66 : mX6_rule.2.2.2 = some .int ∧ decode mX6_rule.2.1 66 = .ok (.ireturn, 1) := ⟨rfl, by decide +kernel⟩
theorem iX6_seed_0 : DLdI mX6_seed 0 1 1 := Or.inl ⟨1, by decide +kernel, rfl, rfl⟩
theorem iX6_seed_1 : DIf mX6_seed 1 .ge 6 4 := ⟨5, by decide +kernel, by decide, rfl⟩
theorem iX6_seed_4 : DPushI mX6_seed 4 (-1) 5 := Or.inl ⟨(-1), by decide +kernel, by decide, rfl⟩
theorem iX6_seed_5 : mX6_seed.2.2.2 = some .int ∧ decode mX6_seed.2.1 5 = .ok (.ireturn, 1) := ⟨rfl, by decide +kernel⟩
theorem iX6_seed_6 : DLdA mX6_seed 6 0 7 := Or.inl ⟨0, by decide +kernel, rfl, rfl⟩
theorem iX6_seed_7 : DGet mX6_seed 7 6 0 10 := ⟨10, by decide +kernel, rfl, xf_RX6_10⟩
theorem iX6_seed_10 : DGet mX6_seed 10 3 9 13 := ⟨83, by decide +kernel, rfl, xf_RX6_83⟩
theorem iX6_seed_13 : DGet mX6_seed 13 2 6 16 := ⟨183, by decide +kernel, rfl, xf_RX6_183⟩
theorem iX6_seed_16 : DStI mX6_seed 16 2 17 := ⟨by decide, Or.inl ⟨2, by decide +kernel, rfl, rfl⟩⟩
theorem iX6_seed_17 : DLdA mX6_seed 17 0 18 := Or.inl ⟨0, by decide +kernel, rfl, rfl⟩
theorem iX6_seed_18 : DGet mX6_seed 18 6 0 21 := ⟨10, by decide +kernel, rfl, xf_RX6_10⟩
theorem iX6_seed_21 : DGet mX6_seed 21 3 9 24 := ⟨83, by decide +kernel, rfl, xf_RX6_83⟩
theorem iX6_seed_24 : DLdI mX6_seed 24 1 25 := Or.inl ⟨1, by decide +kernel, rfl, rfl⟩
theorem iX6_seed_25 : DPut mX6_seed 25 2 6 .int 28 := ⟨183, by decide +kernel, rfl, RX2, TX2, 7, tyX2, rfl, by decide, bigW_at 85 (by decide +kernel) rfl, xw2, tyX2_ok, nmX2, rfl, Or.inl rfl⟩
theorem iX6_seed_28 : DLdI mX6_seed 28 2 29 := Or.inl ⟨2, by decide +kernel, rfl, rfl⟩
theorem iX6_seed_29 : mX6_seed.2.2.2 = some .int ∧ decode mX6_seed.2.1 29 = .ok (.ireturn, 1) := ⟨rfl, by decide +kernel⟩
theorem iX6_shake_0 : DLdA mX6_shake 0 0 1 := Or.inl ⟨0, by decide +kernel, rfl, rfl⟩
theorem iX6_shake_1 : DGet mX6_shake 1 6 0 4 := ⟨10, by decide +kernel, rfl, xf_RX6_10⟩
theorem iX6_shake_4 : DLdI mX6_shake 4 1 5 := Or.inl ⟨1, by decide +kernel, rfl, rfl⟩
theorem iX6_shake_5 : DInvV mX6_shake 5 mX3_hasTree 3 1 8 := ⟨75, TX3, 10, by decide +kernel, rfl, rfl, xl_RX6_75, xi_X3_hasTree, xs_X3_hasTree, xm_X3_hasTree⟩
theorem iX6_shake_8 : DIf mX6_shake 8 .ne 13 11 := ⟨5, by decide +kernel, by decide, rfl⟩
theorem iX6_shake_11 : DPushI mX6_shake 11 (-1) 12 := Or.inl ⟨(-1), by decide +kernel, by decide, rfl⟩
theorem iX6_shake_12 : mX6_shake.2.2.2 = some .int ∧ decode mX6_shake.2.1 12 = .ok (.ireturn, 1) := ⟨rfl, by decide +kernel⟩
theorem iX6_shake_13 : DLdA mX6_shake 13 0 14 := Or.inl ⟨0, by decide +kernel, rfl, rfl⟩
theorem iX6_shake_14 : DGet mX6_shake 14 6 0 17 := ⟨10, by decide +kernel, rfl, xf_RX6_10⟩
theorem iX6_shake_17 : DGet mX6_shake 17 3 9 20 := ⟨83, by decide +kernel, rfl, xf_RX6_83⟩
theorem iX6_shake_20 : DGet mX6_shake 20 2 0 23 := ⟨86, by decide +kernel, rfl, xf_RX6_86⟩
theorem iX6_shake_23 : DLdI mX6_shake 23 1 24 := Or.inl ⟨1, by decide +kernel, rfl, rfl⟩
theorem iX6_shake_24 : D1 mX6_shake 24 .iaload 1 25 := ⟨by decide +kernel, rfl⟩
theorem iX6_shake_25 : DIf mX6_shake 25 .ne 31 28 := ⟨6, by decide +kernel, by decide, rfl⟩
theorem iX6_shake_28 : DPushI mX6_shake 28 (-2) 30 := Or.inr (Or.inl ⟨(-2), by decide +kernel, by decide, rfl⟩)
theorem iX6_shake_30 : mX6_shake.2.2.2 = some .int ∧ decode mX6_shake.2.1 30 = .ok (.ireturn, 1) := ⟨rfl, by decide +kernel⟩
theorem iX6_shake_31 : DLdA mX6_shake 31 0 32 := Or.inl ⟨0, by decide +kernel, rfl, rfl⟩
theorem iX6_shake_32 : DGet mX6_shake 32 6 1 35 := ⟨19, by decide +kernel, rfl, xf_RX6_19⟩
theorem iX6_shake_35 : DLdA mX6_shake 35 0 36 := Or.inl ⟨0, by decide +kernel, rfl, rfl⟩
theorem iX6_shake_36 : DGet mX6_shake 36 6 0 39 := ⟨10, by decide +kernel, rfl, xf_RX6_10⟩
theorem iX6_shake_39 : DGet mX6_shake 39 3 9 42 := ⟨83, by decide +kernel, rfl, xf_RX6_83⟩
theorem iX6_shake_42 : DInvV mX6_shake 42 mX1_remember 1 1 45 := ⟨167, TX1, 2, by decide +kernel, rfl, rfl, xl_RX6_167, xi_X1_remember, xs_X1_remember, xm_X1_remember⟩
theorem iX6_shake_45 : DLdA mX6_shake 45 0 46 := Or.inl ⟨0, by decide +kernel, rfl, rfl⟩
theorem iX6_shake_46 : DGet mX6_shake 46 6 0 49 := ⟨10, by decide +kernel, rfl, xf_RX6_10⟩
theorem iX6_shake_49 : DGet mX6_shake 49 3 9 52 := ⟨83, by decide +kernel, rfl, xf_RX6_83⟩
theorem iX6_shake_52 : DLdI mX6_shake 52 1 53 := Or.inl ⟨1, by decide +kernel, rfl, rfl⟩
theorem iX6_shake_53 : DInvV mX6_shake 53 mX2_shakeOff 2 1 56 := ⟨174, TX2, 7, by decide +kernel, rfl, rfl, xl_RX6_174, xi_X2_shakeOff, xs_X2_shakeOff, xm_X2_shakeOff⟩
theorem iX6_shake_56 : mX6_shake.2.2.2 = some .int ∧ decode mX6_shake.2.1 56 = .ok (.ireturn, 1) := ⟨rfl, by decide +kernel⟩
theorem iX6_sheet_0 : DLdI mX6_sheet 0 1 1 := Or.inl ⟨1, by decide +kernel, rfl, rfl⟩
theorem iX6_sheet_1 : DInvS mX6_sheet 1 mX6_isSheet 1 4 := ⟨237, by decide +kernel, rfl, Or.inl xl_RX6_237, xt_X6_isSheet, xm_X6_isSheet⟩
theorem iX6_sheet_4 : DIf mX6_sheet 4 .eq 20 7 := ⟨16, by decide +kernel, by decide, rfl⟩
theorem iX6_sheet_7 : DLdI mX6_sheet 7 2 8 := Or.inl ⟨2, by decide +kernel, rfl, rfl⟩
theorem iX6_sheet_8 : DInvS mX6_sheet 8 mX6_isLane 1 11 := ⟨240, by decide +kernel, rfl, Or.inl xl_RX6_240, xt_X6_isLane, xm_X6_isLane⟩
theorem iX6_sheet_11 : DIf mX6_sheet 11 .eq 20 14 := ⟨9, by decide +kernel, by decide, rfl⟩
theorem iX6_sheet_14 : DLdI mX6_sheet 14 3 15 := Or.inl ⟨3, by decide +kernel, rfl, rfl⟩
theorem iX6_sheet_15 : DPushI mX6_sheet 15 24 17 := Or.inr (Or.inl ⟨24, by decide +kernel, by decide, rfl⟩)
theorem iX6_sheet_17 : DCm mX6_sheet 17 .le 22 20 := ⟨5, by decide +kernel, by decide, rfl⟩
theorem iX6_sheet_20 : DPushI mX6_sheet 20 (-1) 21 := Or.inl ⟨(-1), by decide +kernel, by decide, rfl⟩
theorem iX6_sheet_21 : mX6_sheet.2.2.2 = some .int ∧ decode mX6_sheet.2.1 21 = .ok (.ireturn, 1) := ⟨rfl, by decide +kernel⟩
theorem iX6_sheet_22 : DLdI mX6_sheet 22 3 23 := Or.inl ⟨3, by decide +kernel, rfl, rfl⟩
theorem iX6_sheet_23 : DIf mX6_sheet 23 .ge 29 26 := ⟨6, by decide +kernel, by decide, rfl⟩
theorem iX6_sheet_26 : DPushI mX6_sheet 26 (-14) 28 := Or.inr (Or.inl ⟨(-14), by decide +kernel, by decide, rfl⟩)
theorem iX6_sheet_28 : mX6_sheet.2.2.2 = some .int ∧ decode mX6_sheet.2.1 28 = .ok (.ireturn, 1) := ⟨rfl, by decide +kernel⟩
theorem iX6_sheet_29 : DLdA mX6_sheet 29 0 30 := Or.inl ⟨0, by decide +kernel, rfl, rfl⟩
theorem iX6_sheet_30 : DGet mX6_sheet 30 6 9 33 := ⟨55, by decide +kernel, rfl, xf_RX6_55⟩
theorem iX6_sheet_33 : DLdI mX6_sheet 33 1 34 := Or.inl ⟨1, by decide +kernel, rfl, rfl⟩
theorem iX6_sheet_34 : D1 mX6_sheet 34 .aaload 1 35 := ⟨by decide +kernel, rfl⟩
theorem iX6_sheet_35 : DLdI mX6_sheet 35 2 36 := Or.inl ⟨2, by decide +kernel, rfl, rfl⟩
theorem iX6_sheet_36 : DLdI mX6_sheet 36 3 37 := Or.inl ⟨3, by decide +kernel, rfl, rfl⟩
theorem iX6_sheet_37 : DInvV mX6_sheet 37 mX4_begin 4 2 40 := ⟨254, TX4, 3, by decide +kernel, rfl, rfl, xl_RX6_254, xi_X4_begin, xs_X4_begin, xm_X4_begin⟩
theorem iX6_sheet_40 : DLdI mX6_sheet 40 3 41 := Or.inl ⟨3, by decide +kernel, rfl, rfl⟩
theorem iX6_sheet_41 : mX6_sheet.2.2.2 = some .int ∧ decode mX6_sheet.2.1 41 = .ok (.ireturn, 1) := ⟨rfl, by decide +kernel⟩
theorem iX6_tree_0 : DLdI mX6_tree 0 1 1 := Or.inl ⟨1, by decide +kernel, rfl, rfl⟩
theorem iX6_tree_1 : DPushI mX6_tree 1 1 2 := Or.inl ⟨1, by decide +kernel, by decide, rfl⟩
theorem iX6_tree_2 : DPushI mX6_tree 2 20 4 := Or.inr (Or.inl ⟨20, by decide +kernel, by decide, rfl⟩)
theorem iX6_tree_4 : DInvS mX6_tree 4 mX6_within 3 7 := ⟨60, by decide +kernel, rfl, Or.inl xl_RX6_60, xt_X6_within, xm_X6_within⟩
theorem iX6_tree_7 : DIf mX6_tree 7 .eq 30 10 := ⟨23, by decide +kernel, by decide, rfl⟩
theorem iX6_tree_10 : DLdI mX6_tree 10 2 11 := Or.inl ⟨2, by decide +kernel, rfl, rfl⟩
theorem iX6_tree_11 : DPushI mX6_tree 11 0 12 := Or.inl ⟨0, by decide +kernel, by decide, rfl⟩
theorem iX6_tree_12 : DPushI mX6_tree 12 99 14 := Or.inr (Or.inl ⟨99, by decide +kernel, by decide, rfl⟩)
theorem iX6_tree_14 : DInvS mX6_tree 14 mX6_within 3 17 := ⟨60, by decide +kernel, rfl, Or.inl xl_RX6_60, xt_X6_within, xm_X6_within⟩
theorem iX6_tree_17 : DIf mX6_tree 17 .eq 30 20 := ⟨13, by decide +kernel, by decide, rfl⟩
theorem iX6_tree_20 : DLdI mX6_tree 20 3 21 := Or.inl ⟨3, by decide +kernel, rfl, rfl⟩
theorem iX6_tree_21 : DPushI mX6_tree 21 0 22 := Or.inl ⟨0, by decide +kernel, by decide, rfl⟩
theorem iX6_tree_22 : DPushI mX6_tree 22 99 24 := Or.inr (Or.inl ⟨99, by decide +kernel, by decide, rfl⟩)
theorem iX6_tree_24 : DInvS mX6_tree 24 mX6_within 3 27 := ⟨60, by decide +kernel, rfl, Or.inl xl_RX6_60, xt_X6_within, xm_X6_within⟩
theorem iX6_tree_27 : DIf mX6_tree 27 .ne 32 30 := ⟨5, by decide +kernel, by decide, rfl⟩
theorem iX6_tree_30 : DPushI mX6_tree 30 (-1) 31 := Or.inl ⟨(-1), by decide +kernel, by decide, rfl⟩
theorem iX6_tree_31 : mX6_tree.2.2.2 = some .int ∧ decode mX6_tree.2.1 31 = .ok (.ireturn, 1) := ⟨rfl, by decide +kernel⟩
theorem iX6_tree_32 : DLdA mX6_tree 32 0 33 := Or.inl ⟨0, by decide +kernel, rfl, rfl⟩
theorem iX6_tree_33 : DGet mX6_tree 33 6 0 36 := ⟨10, by decide +kernel, rfl, xf_RX6_10⟩
theorem iX6_tree_36 : DLdI mX6_tree 36 1 37 := Or.inl ⟨1, by decide +kernel, rfl, rfl⟩
theorem iX6_tree_37 : DLdI mX6_tree 37 2 38 := Or.inl ⟨2, by decide +kernel, rfl, rfl⟩
theorem iX6_tree_38 : DLdI mX6_tree 38 3 39 := Or.inl ⟨3, by decide +kernel, rfl, rfl⟩
theorem iX6_tree_39 : DInvV mX6_tree 39 mX3_plant 3 3 42 := ⟨64, TX3, 10, by decide +kernel, rfl, rfl, xl_RX6_64, xi_X3_plant, xs_X3_plant, xm_X3_plant⟩
theorem iX6_tree_42 : DStI mX6_tree 42 4 44 := ⟨by decide, Or.inr ⟨by decide +kernel, rfl⟩⟩
theorem iX6_tree_44 : DLdA mX6_tree 44 0 45 := Or.inl ⟨0, by decide +kernel, rfl, rfl⟩
theorem iX6_tree_45 : DGet mX6_tree 45 6 1 48 := ⟨19, by decide +kernel, rfl, xf_RX6_19⟩
theorem iX6_tree_48 : DLdI mX6_tree 48 4 50 := Or.inr ⟨by decide +kernel, rfl⟩
theorem iX6_tree_50 : DInvV mX6_tree 50 mX1_forgetUnlessFull 1 1 53 := ⟨68, TX1, 2, by decide +kernel, rfl, rfl, xl_RX6_68, xi_X1_forgetUnlessFull, xs_X1_forgetUnlessFull, xm_X1_forgetUnlessFull⟩
theorem iX6_tree_53 : DLdI mX6_tree 53 4 55 := Or.inr ⟨by decide +kernel, rfl⟩
theorem iX6_tree_55 : mX6_tree.2.2.2 = some .int ∧ decode mX6_tree.2.1 55 = .ok (.ireturn, 1) := ⟨rfl, by decide +kernel⟩
theorem iX6_type_0 : DLdI mX6_type 0 1 1 := Or.inl ⟨1, by decide +kernel, rfl, rfl⟩
theorem iX6_type_1 : DPushI mX6_type 1 32 3 := Or.inr (Or.inl ⟨32, by decide +kernel, by decide, rfl⟩)
theorem iX6_type_3 : DPushI mX6_type 3 126 5 := Or.inr (Or.inl ⟨126, by decide +kernel, by decide, rfl⟩)
theorem iX6_type_5 : DInvS mX6_type 5 mX6_within 3 8 := ⟨60, by decide +kernel, rfl, Or.inl xl_RX6_60, xt_X6_within, xm_X6_within⟩
theorem iX6_type_8 : DIf mX6_type 8 .eq 23 11 := ⟨15, by decide +kernel, by decide, rfl⟩
theorem iX6_type_11 : DLdA mX6_type 11 0 12 := Or.inl ⟨0, by decide +kernel, rfl, rfl⟩
theorem iX6_type_12 : DGet mX6_type 12 6 5 15 := ⟨32, by decide +kernel, rfl, xf_RX6_32⟩
theorem iX6_type_15 : DLdI mX6_type 15 1 16 := Or.inl ⟨1, by decide +kernel, rfl, rfl⟩
theorem iX6_type_16 : D1 mX6_type 16 .i2c 1 17 := ⟨by decide +kernel, rfl⟩
theorem iX6_type_17 : DInvV mX6_type 17 mX5_append 5 1 20 := ⟨131, TX5, 4, by decide +kernel, rfl, rfl, xl_RX6_131, xi_X5_append, xs_X5_append, xm_X5_append⟩
theorem iX6_type_20 : DGo mX6_type 20 24 := ⟨4, by decide +kernel, by decide⟩
theorem iX6_type_23 : DPushI mX6_type 23 (-1) 24 := Or.inl ⟨(-1), by decide +kernel, by decide, rfl⟩
theorem iX6_type_24 : mX6_type.2.2.2 = some .int ∧ decode mX6_type.2.1 24 = .ok (.ireturn, 1) := ⟨rfl, by decide +kernel⟩
theorem iX6_undo_0 : DLdA mX6_undo 0 0 1 := Or.inl ⟨0, by decide +kernel, rfl, rfl⟩
theorem iX6_undo_1 : DGet mX6_undo 1 6 1 4 := ⟨19, by decide +kernel, rfl, xf_RX6_19⟩
theorem iX6_undo_4 : DLdA mX6_undo 4 0 5 := Or.inl ⟨0, by decide +kernel, rfl, rfl⟩
theorem iX6_undo_5 : DGet mX6_undo 5 6 0 8 := ⟨10, by decide +kernel, rfl, xf_RX6_10⟩
theorem iX6_undo_8 : DGet mX6_undo 8 3 9 11 := ⟨83, by decide +kernel, rfl, xf_RX6_83⟩
theorem iX6_undo_11 : DInvV mX6_undo 11 mX1_putBack 1 1 14 := ⟨180, TX1, 2, by decide +kernel, rfl, rfl, xl_RX6_180, xi_X1_putBack, xs_X1_putBack, xm_X1_putBack⟩
theorem iX6_undo_14 : mX6_undo.2.2.2 = some .int ∧ decode mX6_undo.2.1 14 = .ok (.ireturn, 1) := ⟨rfl, by decide +kernel⟩
theorem iX6_waysToBe_0 : DPushI mX6_waysToBe 0 1 1 := Or.inl ⟨1, by decide +kernel, by decide, rfl⟩
theorem iX6_waysToBe_1 : DStI mX6_waysToBe 1 3 2 := ⟨by decide, Or.inl ⟨3, by decide +kernel, rfl, rfl⟩⟩
theorem iX6_waysToBe_2 : DPushI mX6_waysToBe 2 0 3 := Or.inl ⟨0, by decide +kernel, by decide, rfl⟩
theorem iX6_waysToBe_3 : DStI mX6_waysToBe 3 4 5 := ⟨by decide, Or.inr ⟨by decide +kernel, rfl⟩⟩
theorem iX6_waysToBe_5 : DLdI mX6_waysToBe 5 4 7 := Or.inr ⟨by decide +kernel, rfl⟩
theorem iX6_waysToBe_7 : DPushI mX6_waysToBe 7 4 8 := Or.inl ⟨4, by decide +kernel, by decide, rfl⟩
theorem iX6_waysToBe_8 : DCm mX6_waysToBe 8 .ge 46 11 := ⟨38, by decide +kernel, by decide, rfl⟩
theorem iX6_waysToBe_11 : DLdI mX6_waysToBe 11 1 12 := Or.inl ⟨1, by decide +kernel, rfl, rfl⟩
theorem iX6_waysToBe_12 : DLdI mX6_waysToBe 12 4 14 := Or.inr ⟨by decide +kernel, rfl⟩
theorem iX6_waysToBe_14 : D1 mX6_waysToBe 14 .ishr 1 15 := ⟨by decide +kernel, rfl⟩
theorem iX6_waysToBe_15 : DPushI mX6_waysToBe 15 1 16 := Or.inl ⟨1, by decide +kernel, by decide, rfl⟩
theorem iX6_waysToBe_16 : D1 mX6_waysToBe 16 .iand 1 17 := ⟨by decide +kernel, rfl⟩
theorem iX6_waysToBe_17 : DIf mX6_waysToBe 17 .eq 40 20 := ⟨23, by decide +kernel, by decide, rfl⟩
theorem iX6_waysToBe_20 : DLdI mX6_waysToBe 20 3 21 := Or.inl ⟨3, by decide +kernel, rfl, rfl⟩
theorem iX6_waysToBe_21 : DLdI mX6_waysToBe 21 0 22 := Or.inl ⟨0, by decide +kernel, rfl, rfl⟩
theorem iX6_waysToBe_22 : DLdI mX6_waysToBe 22 4 24 := Or.inr ⟨by decide +kernel, rfl⟩
theorem iX6_waysToBe_24 : D1 mX6_waysToBe 24 .ishr 1 25 := ⟨by decide +kernel, rfl⟩
theorem iX6_waysToBe_25 : DPushI mX6_waysToBe 25 1 26 := Or.inl ⟨1, by decide +kernel, by decide, rfl⟩
theorem iX6_waysToBe_26 : D1 mX6_waysToBe 26 .iand 1 27 := ⟨by decide +kernel, rfl⟩
theorem iX6_waysToBe_27 : DIf mX6_waysToBe 27 .eq 37 30 := ⟨10, by decide +kernel, by decide, rfl⟩
theorem iX6_waysToBe_30 : DPushI mX6_waysToBe 30 10 32 := Or.inr (Or.inl ⟨10, by decide +kernel, by decide, rfl⟩)
theorem iX6_waysToBe_32 : DLdI mX6_waysToBe 32 2 33 := Or.inl ⟨2, by decide +kernel, rfl, rfl⟩
theorem iX6_waysToBe_33 : D1 mX6_waysToBe 33 .isub 1 34 := ⟨by decide +kernel, rfl⟩
theorem iX6_waysToBe_34 : DGo mX6_waysToBe 34 38 := ⟨4, by decide +kernel, by decide⟩
theorem iX6_waysToBe_37 : DLdI mX6_waysToBe 37 2 38 := Or.inl ⟨2, by decide +kernel, rfl, rfl⟩
theorem iX6_waysToBe_38 : D1 mX6_waysToBe 38 .imul 1 39 := ⟨by decide +kernel, rfl⟩
theorem iX6_waysToBe_39 : DStI mX6_waysToBe 39 3 40 := ⟨by decide, Or.inl ⟨3, by decide +kernel, rfl, rfl⟩⟩
theorem iX6_waysToBe_40 : DInc mX6_waysToBe 40 4 1 43 := ⟨by decide, 1, by decide +kernel, by decide, rfl⟩
theorem iX6_waysToBe_43 : DGo mX6_waysToBe 43 5 := ⟨(-38), by decide +kernel, by decide⟩
theorem iX6_waysToBe_46 : DLdI mX6_waysToBe 46 3 47 := Or.inl ⟨3, by decide +kernel, rfl, rfl⟩
theorem iX6_waysToBe_47 : mX6_waysToBe.2.2.2 = some .int ∧ decode mX6_waysToBe.2.1 47 = .ok (.ireturn, 1) := ⟨rfl, by decide +kernel⟩
theorem iX6_within_0 : DLdI mX6_within 0 0 1 := Or.inl ⟨0, by decide +kernel, rfl, rfl⟩
theorem iX6_within_1 : DLdI mX6_within 1 1 2 := Or.inl ⟨1, by decide +kernel, rfl, rfl⟩
theorem iX6_within_2 : DCm mX6_within 2 .lt 14 5 := ⟨12, by decide +kernel, by decide, rfl⟩
theorem iX6_within_5 : DLdI mX6_within 5 0 6 := Or.inl ⟨0, by decide +kernel, rfl, rfl⟩
theorem iX6_within_6 : DLdI mX6_within 6 2 7 := Or.inl ⟨2, by decide +kernel, rfl, rfl⟩
theorem iX6_within_7 : DCm mX6_within 7 .gt 14 10 := ⟨7, by decide +kernel, by decide, rfl⟩
theorem iX6_within_10 : DPushI mX6_within 10 1 11 := Or.inl ⟨1, by decide +kernel, by decide, rfl⟩
theorem iX6_within_11 : DGo mX6_within 11 15 := ⟨4, by decide +kernel, by decide⟩
theorem iX6_within_14 : DPushI mX6_within 14 0 15 := Or.inl ⟨0, by decide +kernel, by decide, rfl⟩
theorem iX6_within_15 : mX6_within.2.2.2 = some .boolean ∧ decode mX6_within.2.1 15 = .ok (.ireturn, 1) := ⟨rfl, by decide +kernel⟩
theorem iX7_ahead_0 : DLdI mX7_ahead 0 1 1 := Or.inl ⟨1, by decide +kernel, rfl, rfl⟩
theorem iX7_ahead_1 : D1 mX7_ahead 1 .i2l 1 2 := ⟨by decide +kernel, rfl⟩
theorem iX7_ahead_2 : DPushL mX7_ahead 2 0 3 := Or.inl ⟨0, by decide +kernel, by decide, rfl⟩
theorem iX7_ahead_3 : DPushL mX7_ahead 3 60 6 := Or.inr ⟨178, by decide +kernel, bigW_at 870 (by decide +kernel) rfl, rfl⟩
theorem iX7_ahead_6 : DInvS mX7_ahead 6 mX7_in 3 9 := ⟨44, by decide +kernel, rfl, Or.inl xl_RX7_44, xt_X7_in, xm_X7_in⟩
theorem iX7_ahead_9 : DIf mX7_ahead 9 .eq 24 12 := ⟨15, by decide +kernel, by decide, rfl⟩
theorem iX7_ahead_12 : DLdI mX7_ahead 12 2 13 := Or.inl ⟨2, by decide +kernel, rfl, rfl⟩
theorem iX7_ahead_13 : D1 mX7_ahead 13 .i2l 1 14 := ⟨by decide +kernel, rfl⟩
theorem iX7_ahead_14 : DPushL mX7_ahead 14 0 15 := Or.inl ⟨0, by decide +kernel, by decide, rfl⟩
theorem iX7_ahead_15 : DPushL mX7_ahead 15 2 18 := Or.inr ⟨180, by decide +kernel, bigW_at 871 (by decide +kernel) rfl, rfl⟩
theorem iX7_ahead_18 : DInvS mX7_ahead 18 mX7_in 3 21 := ⟨44, by decide +kernel, rfl, Or.inl xl_RX7_44, xt_X7_in, xm_X7_in⟩
theorem iX7_ahead_21 : DIf mX7_ahead 21 .ne 26 24 := ⟨5, by decide +kernel, by decide, rfl⟩
theorem iX7_ahead_24 : DPushI mX7_ahead 24 (-1) 25 := Or.inl ⟨(-1), by decide +kernel, by decide, rfl⟩
theorem iX7_ahead_25 : mX7_ahead.2.2.2 = some .int ∧ decode mX7_ahead.2.1 25 = .ok (.ireturn, 1) := ⟨rfl, by decide +kernel⟩
theorem iX7_ahead_26 : DLdA mX7_ahead 26 0 27 := Or.inl ⟨0, by decide +kernel, rfl, rfl⟩
theorem iX7_ahead_27 : DInvV mX7_ahead 27 mX7_asides 7 0 30 := ⟨182, TX7, 17, by decide +kernel, rfl, rfl, xl_RX7_182, xi_X7_asides, xs_X7_asides, xm_X7_asides⟩
theorem iX7_ahead_30 : DLdA mX7_ahead 30 0 31 := Or.inl ⟨0, by decide +kernel, rfl, rfl⟩
theorem iX7_ahead_31 : DLdI mX7_ahead 31 1 32 := Or.inl ⟨1, by decide +kernel, rfl, rfl⟩
theorem iX7_ahead_32 : DInvV mX7_ahead 32 mX7_goesOn 7 1 35 := ⟨185, TX7, 17, by decide +kernel, rfl, rfl, xl_RX7_185, xi_X7_goesOn, xs_X7_goesOn, xm_X7_goesOn⟩
theorem iX7_ahead_35 : DLdA mX7_ahead 35 0 36 := Or.inl ⟨0, by decide +kernel, rfl, rfl⟩
theorem iX7_ahead_36 : DGet mX7_ahead 36 7 0 39 := ⟨7, by decide +kernel, rfl, xf_RX7_7⟩
theorem iX7_ahead_39 : DPushI mX7_ahead 39 3 40 := Or.inl ⟨3, by decide +kernel, by decide, rfl⟩
theorem iX7_ahead_40 : DLdI mX7_ahead 40 2 41 := Or.inl ⟨2, by decide +kernel, rfl, rfl⟩
theorem iX7_ahead_41 : D1 mX7_ahead 41 .iadd 1 42 := ⟨by decide +kernel, rfl⟩
theorem iX7_ahead_42 : D1 mX7_ahead 42 .iaload 1 43 := ⟨by decide +kernel, rfl⟩
theorem iX7_ahead_43 : DStI mX7_ahead 43 3 44 := ⟨by decide, Or.inl ⟨3, by decide +kernel, rfl, rfl⟩⟩
theorem iX7_ahead_44 : DLdA mX7_ahead 44 0 45 := Or.inl ⟨0, by decide +kernel, rfl, rfl⟩
theorem iX7_ahead_45 : DInvV mX7_ahead 45 mX7_backs 7 0 48 := ⟨188, TX7, 17, by decide +kernel, rfl, rfl, xl_RX7_188, xi_X7_backs, xs_X7_backs, xm_X7_backs⟩
theorem iX7_ahead_48 : DLdI mX7_ahead 48 3 49 := Or.inl ⟨3, by decide +kernel, rfl, rfl⟩
theorem iX7_ahead_49 : mX7_ahead.2.2.2 = some .int ∧ decode mX7_ahead.2.1 49 = .ok (.ireturn, 1) := ⟨rfl, by decide +kernel⟩
theorem iX7_allFruit_0 : DPushI mX7_allFruit 0 0 1 := Or.inl ⟨0, by decide +kernel, by decide, rfl⟩
theorem iX7_allFruit_1 : DStI mX7_allFruit 1 1 2 := ⟨by decide, Or.inl ⟨1, by decide +kernel, rfl, rfl⟩⟩
theorem iX7_allFruit_2 : DPushI mX7_allFruit 2 0 3 := Or.inl ⟨0, by decide +kernel, by decide, rfl⟩
theorem iX7_allFruit_3 : DStI mX7_allFruit 3 2 4 := ⟨by decide, Or.inl ⟨2, by decide +kernel, rfl, rfl⟩⟩
theorem iX7_allFruit_4 : DLdI mX7_allFruit 4 2 5 := Or.inl ⟨2, by decide +kernel, rfl, rfl⟩
theorem iX7_allFruit_5 : DLdA mX7_allFruit 5 0 6 := Or.inl ⟨0, by decide +kernel, rfl, rfl⟩
theorem iX7_allFruit_6 : DGet mX7_allFruit 6 7 0 9 := ⟨7, by decide +kernel, rfl, xf_RX7_7⟩
theorem iX7_allFruit_9 : DPushI mX7_allFruit 9 0 10 := Or.inl ⟨0, by decide +kernel, by decide, rfl⟩
theorem iX7_allFruit_10 : D1 mX7_allFruit 10 .iaload 1 11 := ⟨by decide +kernel, rfl⟩
theorem iX7_allFruit_11 : DCm mX7_allFruit 11 .ge 29 14 := ⟨18, by decide +kernel, by decide, rfl⟩
theorem iX7_allFruit_14 : DLdI mX7_allFruit 14 1 15 := Or.inl ⟨1, by decide +kernel, rfl, rfl⟩
theorem iX7_allFruit_15 : DLdA mX7_allFruit 15 0 16 := Or.inl ⟨0, by decide +kernel, rfl, rfl⟩
theorem iX7_allFruit_16 : DLdI mX7_allFruit 16 2 17 := Or.inl ⟨2, by decide +kernel, rfl, rfl⟩
theorem iX7_allFruit_17 : DPushI mX7_allFruit 17 1 18 := Or.inl ⟨1, by decide +kernel, by decide, rfl⟩
theorem iX7_allFruit_18 : DInvV mX7_allFruit 18 mX7_ofTree 7 2 21 := ⟨56, TX7, 17, by decide +kernel, rfl, rfl, xl_RX7_56, xi_X7_ofTree, xs_X7_ofTree, xm_X7_ofTree⟩
theorem iX7_allFruit_21 : D1 mX7_allFruit 21 .iadd 1 22 := ⟨by decide +kernel, rfl⟩
theorem iX7_allFruit_22 : DStI mX7_allFruit 22 1 23 := ⟨by decide, Or.inl ⟨1, by decide +kernel, rfl, rfl⟩⟩
theorem iX7_allFruit_23 : DInc mX7_allFruit 23 2 1 26 := ⟨by decide, 1, by decide +kernel, by decide, rfl⟩
theorem iX7_allFruit_26 : DGo mX7_allFruit 26 4 := ⟨(-22), by decide +kernel, by decide⟩
theorem iX7_allFruit_29 : DLdI mX7_allFruit 29 1 30 := Or.inl ⟨1, by decide +kernel, rfl, rfl⟩
theorem iX7_allFruit_30 : mX7_allFruit.2.2.2 = some .int ∧ decode mX7_allFruit.2.1 30 = .ok (.ireturn, 1) := ⟨rfl, by decide +kernel⟩
theorem iX7_asides_0 : DPushI mX7_asides 0 0 1 := Or.inl ⟨0, by decide +kernel, by decide, rfl⟩
theorem iX7_asides_1 : DStI mX7_asides 1 1 2 := ⟨by decide, Or.inl ⟨1, by decide +kernel, rfl, rfl⟩⟩
theorem iX7_asides_2 : DLdI mX7_asides 2 1 3 := Or.inl ⟨1, by decide +kernel, rfl, rfl⟩
theorem iX7_asides_3 : DPushI mX7_asides 3 43 5 := Or.inr (Or.inl ⟨43, by decide +kernel, by decide, rfl⟩)
theorem iX7_asides_5 : DCm mX7_asides 5 .ge 26 8 := ⟨21, by decide +kernel, by decide, rfl⟩
theorem iX7_asides_8 : DLdA mX7_asides 8 0 9 := Or.inl ⟨0, by decide +kernel, rfl, rfl⟩
theorem iX7_asides_9 : DGet mX7_asides 9 7 9 12 := ⟨25, by decide +kernel, rfl, xf_RX7_25⟩
theorem iX7_asides_12 : DLdI mX7_asides 12 1 13 := Or.inl ⟨1, by decide +kernel, rfl, rfl⟩
theorem iX7_asides_13 : DLdA mX7_asides 13 0 14 := Or.inl ⟨0, by decide +kernel, rfl, rfl⟩
theorem iX7_asides_14 : DGet mX7_asides 14 7 0 17 := ⟨7, by decide +kernel, rfl, xf_RX7_7⟩
theorem iX7_asides_17 : DLdI mX7_asides 17 1 18 := Or.inl ⟨1, by decide +kernel, rfl, rfl⟩
theorem iX7_asides_18 : D1 mX7_asides 18 .iaload 1 19 := ⟨by decide +kernel, rfl⟩
theorem iX7_asides_19 : D1 mX7_asides 19 .iastore 1 20 := ⟨by decide +kernel, rfl⟩
theorem iX7_asides_20 : DInc mX7_asides 20 1 1 23 := ⟨by decide, 1, by decide +kernel, by decide, rfl⟩
theorem iX7_asides_23 : DGo mX7_asides 23 2 := ⟨(-21), by decide +kernel, by decide⟩
theorem iX7_asides_26 : mX7_asides.2.2.2 = none ∧ decode mX7_asides.2.1 26 = .ok (.return_, 1) := ⟨rfl, by decide +kernel⟩
theorem iX7_at_0 : DLdA mX7_at 0 0 1 := Or.inl ⟨0, by decide +kernel, rfl, rfl⟩
theorem iX7_at_1 : DLdI mX7_at 1 1 2 := Or.inl ⟨1, by decide +kernel, rfl, rfl⟩
theorem iX7_at_2 : DInvV mX7_at 2 mX7_isLadder 7 1 5 := ⟨112, TX7, 17, by decide +kernel, rfl, rfl, xl_RX7_112, xi_X7_isLadder, xs_X7_isLadder, xm_X7_isLadder⟩
theorem iX7_at_5 : DIf mX7_at 5 .eq 20 8 := ⟨15, by decide +kernel, by decide, rfl⟩
theorem iX7_at_8 : DLdI mX7_at 8 2 9 := Or.inl ⟨2, by decide +kernel, rfl, rfl⟩
theorem iX7_at_9 : D1 mX7_at 9 .i2l 1 10 := ⟨by decide +kernel, rfl⟩
theorem iX7_at_10 : DPushL mX7_at 10 0 11 := Or.inl ⟨0, by decide +kernel, by decide, rfl⟩
theorem iX7_at_11 : DPushL mX7_at 11 5 14 := Or.inr ⟨115, by decide +kernel, bigW_at 760 (by decide +kernel) rfl, rfl⟩
theorem iX7_at_14 : DInvS mX7_at 14 mX7_in 3 17 := ⟨44, by decide +kernel, rfl, Or.inl xl_RX7_44, xt_X7_in, xm_X7_in⟩
theorem iX7_at_17 : DIf mX7_at 17 .ne 22 20 := ⟨5, by decide +kernel, by decide, rfl⟩
theorem iX7_at_20 : DPushI mX7_at 20 (-1) 21 := Or.inl ⟨(-1), by decide +kernel, by decide, rfl⟩
theorem iX7_at_21 : mX7_at.2.2.2 = some .int ∧ decode mX7_at.2.1 21 = .ok (.ireturn, 1) := ⟨rfl, by decide +kernel⟩
theorem iX7_at_22 : DLdI mX7_at 22 2 23 := Or.inl ⟨2, by decide +kernel, rfl, rfl⟩
theorem iX7_at_23 : DPushI mX7_at 23 4 24 := Or.inl ⟨4, by decide +kernel, by decide, rfl⟩
theorem iX7_at_24 : DCm mX7_at 24 .ge 34 27 := ⟨10, by decide +kernel, by decide, rfl⟩
theorem iX7_at_27 : DLdA mX7_at 27 0 28 := Or.inl ⟨0, by decide +kernel, rfl, rfl⟩
theorem iX7_at_28 : DLdI mX7_at 28 1 29 := Or.inl ⟨1, by decide +kernel, rfl, rfl⟩
theorem iX7_at_29 : DLdI mX7_at 29 2 30 := Or.inl ⟨2, by decide +kernel, rfl, rfl⟩
theorem iX7_at_30 : DInvV mX7_at 30 mX7_ofLadder 7 2 33 := ⟨48, TX7, 17, by decide +kernel, rfl, rfl, xl_RX7_48, xi_X7_ofLadder, xs_X7_ofLadder, xm_X7_ofLadder⟩
theorem iX7_at_33 : mX7_at.2.2.2 = some .int ∧ decode mX7_at.2.1 33 = .ok (.ireturn, 1) := ⟨rfl, by decide +kernel⟩
theorem iX7_at_34 : DPushI mX7_at 34 0 35 := Or.inl ⟨0, by decide +kernel, by decide, rfl⟩
theorem iX7_at_35 : DStI mX7_at 35 3 36 := ⟨by decide, Or.inl ⟨3, by decide +kernel, rfl, rfl⟩⟩
theorem iX7_at_36 : DPushI mX7_at 36 0 37 := Or.inl ⟨0, by decide +kernel, by decide, rfl⟩
theorem iX7_at_37 : DStI mX7_at 37 4 39 := ⟨by decide, Or.inr ⟨by decide +kernel, rfl⟩⟩
theorem iX7_at_39 : DLdI mX7_at 39 4 41 := Or.inr ⟨by decide +kernel, rfl⟩
theorem iX7_at_41 : DLdA mX7_at 41 0 42 := Or.inl ⟨0, by decide +kernel, rfl, rfl⟩
theorem iX7_at_42 : DGet mX7_at 42 7 0 45 := ⟨7, by decide +kernel, rfl, xf_RX7_7⟩
theorem iX7_at_45 : DPushI mX7_at 45 0 46 := Or.inl ⟨0, by decide +kernel, by decide, rfl⟩
theorem iX7_at_46 : D1 mX7_at 46 .iaload 1 47 := ⟨by decide +kernel, rfl⟩
theorem iX7_at_47 : DCm mX7_at 47 .ge 83 50 := ⟨36, by decide +kernel, by decide, rfl⟩
theorem iX7_at_50 : DLdI mX7_at 50 3 51 := Or.inl ⟨3, by decide +kernel, rfl, rfl⟩
theorem iX7_at_51 : DLdA mX7_at 51 0 52 := Or.inl ⟨0, by decide +kernel, rfl, rfl⟩
theorem iX7_at_52 : DLdI mX7_at 52 1 53 := Or.inl ⟨1, by decide +kernel, rfl, rfl⟩
theorem iX7_at_53 : DLdI mX7_at 53 4 55 := Or.inr ⟨by decide +kernel, rfl⟩
theorem iX7_at_55 : DLdA mX7_at 55 0 56 := Or.inl ⟨0, by decide +kernel, rfl, rfl⟩
theorem iX7_at_56 : DGet mX7_at 56 7 0 59 := ⟨7, by decide +kernel, rfl, xf_RX7_7⟩
theorem iX7_at_59 : DPushI mX7_at 59 2 60 := Or.inl ⟨2, by decide +kernel, by decide, rfl⟩
theorem iX7_at_60 : D1 mX7_at 60 .iaload 1 61 := ⟨by decide +kernel, rfl⟩
theorem iX7_at_61 : DInvV mX7_at 61 mX7_isReached 7 3 64 := ⟨67, TX7, 17, by decide +kernel, rfl, rfl, xl_RX7_67, xi_X7_isReached, xs_X7_isReached, xm_X7_isReached⟩
theorem iX7_at_64 : DIf mX7_at 64 .eq 74 67 := ⟨10, by decide +kernel, by decide, rfl⟩
theorem iX7_at_67 : DPushI mX7_at 67 1 68 := Or.inl ⟨1, by decide +kernel, by decide, rfl⟩
theorem iX7_at_68 : DLdI mX7_at 68 4 70 := Or.inr ⟨by decide +kernel, rfl⟩
theorem iX7_at_70 : D1 mX7_at 70 .ishl 1 71 := ⟨by decide +kernel, rfl⟩
theorem iX7_at_71 : DGo mX7_at 71 75 := ⟨4, by decide +kernel, by decide⟩
theorem iX7_at_74 : DPushI mX7_at 74 0 75 := Or.inl ⟨0, by decide +kernel, by decide, rfl⟩
theorem iX7_at_75 : D1 mX7_at 75 .ior 1 76 := ⟨by decide +kernel, rfl⟩
theorem iX7_at_76 : DStI mX7_at 76 3 77 := ⟨by decide, Or.inl ⟨3, by decide +kernel, rfl, rfl⟩⟩
theorem iX7_at_77 : DInc mX7_at 77 4 1 80 := ⟨by decide, 1, by decide +kernel, by decide, rfl⟩
theorem iX7_at_80 : DGo mX7_at 80 39 := ⟨(-41), by decide +kernel, by decide⟩
theorem iX7_at_83 : DLdI mX7_at 83 2 84 := Or.inl ⟨2, by decide +kernel, rfl, rfl⟩
theorem iX7_at_84 : DPushI mX7_at 84 4 85 := Or.inl ⟨4, by decide +kernel, by decide, rfl⟩
theorem iX7_at_85 : DCm mX7_at 85 .ne 112 88 := ⟨27, by decide +kernel, by decide, rfl⟩
theorem iX7_at_88 : DLdA mX7_at 88 0 89 := Or.inl ⟨0, by decide +kernel, rfl, rfl⟩
theorem iX7_at_89 : DLdI mX7_at 89 1 90 := Or.inl ⟨1, by decide +kernel, rfl, rfl⟩
theorem iX7_at_90 : DPushI mX7_at 90 0 91 := Or.inl ⟨0, by decide +kernel, by decide, rfl⟩
theorem iX7_at_91 : DInvV mX7_at 91 mX7_ofLadder 7 2 94 := ⟨48, TX7, 17, by decide +kernel, rfl, rfl, xl_RX7_48, xi_X7_ofLadder, xs_X7_ofLadder, xm_X7_ofLadder⟩
theorem iX7_at_94 : DLdA mX7_at 94 0 95 := Or.inl ⟨0, by decide +kernel, rfl, rfl⟩
theorem iX7_at_95 : DLdI mX7_at 95 1 96 := Or.inl ⟨1, by decide +kernel, rfl, rfl⟩
theorem iX7_at_96 : DPushI mX7_at 96 1 97 := Or.inl ⟨1, by decide +kernel, by decide, rfl⟩
theorem iX7_at_97 : DInvV mX7_at 97 mX7_ofLadder 7 2 100 := ⟨48, TX7, 17, by decide +kernel, rfl, rfl, xl_RX7_48, xi_X7_ofLadder, xs_X7_ofLadder, xm_X7_ofLadder⟩
theorem iX7_at_100 : DLdA mX7_at 100 0 101 := Or.inl ⟨0, by decide +kernel, rfl, rfl⟩
theorem iX7_at_101 : DGet mX7_at 101 7 0 104 := ⟨7, by decide +kernel, rfl, xf_RX7_7⟩
theorem iX7_at_104 : DPushI mX7_at 104 2 105 := Or.inl ⟨2, by decide +kernel, by decide, rfl⟩
theorem iX7_at_105 : D1 mX7_at 105 .iaload 1 106 := ⟨by decide +kernel, rfl⟩
theorem iX7_at_106 : DInvS mX7_at 106 mX7_reaches 3 109 := ⟨52, by decide +kernel, rfl, Or.inl xl_RX7_52, xt_X7_reaches, xm_X7_reaches⟩
theorem iX7_at_109 : DGo mX7_at 109 113 := ⟨4, by decide +kernel, by decide⟩
theorem iX7_at_112 : DLdI mX7_at 112 3 113 := Or.inl ⟨3, by decide +kernel, rfl, rfl⟩
theorem iX7_at_113 : mX7_at.2.2.2 = some .int ∧ decode mX7_at.2.1 113 = .ok (.ireturn, 1) := ⟨rfl, by decide +kernel⟩
theorem iX7_backs_0 : DPushI mX7_backs 0 0 1 := Or.inl ⟨0, by decide +kernel, by decide, rfl⟩
theorem iX7_backs_1 : DStI mX7_backs 1 1 2 := ⟨by decide, Or.inl ⟨1, by decide +kernel, rfl, rfl⟩⟩
theorem iX7_backs_2 : DLdI mX7_backs 2 1 3 := Or.inl ⟨1, by decide +kernel, rfl, rfl⟩
theorem iX7_backs_3 : DPushI mX7_backs 3 43 5 := Or.inr (Or.inl ⟨43, by decide +kernel, by decide, rfl⟩)
theorem iX7_backs_5 : DCm mX7_backs 5 .ge 26 8 := ⟨21, by decide +kernel, by decide, rfl⟩
theorem iX7_backs_8 : DLdA mX7_backs 8 0 9 := Or.inl ⟨0, by decide +kernel, rfl, rfl⟩
theorem iX7_backs_9 : DGet mX7_backs 9 7 0 12 := ⟨7, by decide +kernel, rfl, xf_RX7_7⟩
theorem iX7_backs_12 : DLdI mX7_backs 12 1 13 := Or.inl ⟨1, by decide +kernel, rfl, rfl⟩
theorem iX7_backs_13 : DLdA mX7_backs 13 0 14 := Or.inl ⟨0, by decide +kernel, rfl, rfl⟩
theorem iX7_backs_14 : DGet mX7_backs 14 7 9 17 := ⟨25, by decide +kernel, rfl, xf_RX7_25⟩
theorem iX7_backs_17 : DLdI mX7_backs 17 1 18 := Or.inl ⟨1, by decide +kernel, rfl, rfl⟩
theorem iX7_backs_18 : D1 mX7_backs 18 .iaload 1 19 := ⟨by decide +kernel, rfl⟩
theorem iX7_backs_19 : D1 mX7_backs 19 .iastore 1 20 := ⟨by decide +kernel, rfl⟩
theorem iX7_backs_20 : DInc mX7_backs 20 1 1 23 := ⟨by decide, 1, by decide +kernel, by decide, rfl⟩
theorem iX7_backs_23 : DGo mX7_backs 23 2 := ⟨(-21), by decide +kernel, by decide⟩
theorem iX7_backs_26 : mX7_backs.2.2.2 = none ∧ decode mX7_backs.2.1 26 = .ok (.return_, 1) := ⟨rfl, by decide +kernel⟩
theorem iX7_copy_0 : DLdI mX7_copy 0 1 1 := Or.inl ⟨1, by decide +kernel, rfl, rfl⟩
theorem iX7_copy_1 : DInvS mX7_copy 1 mX7_isSheet 1 4 := ⟨210, by decide +kernel, rfl, Or.inl xl_RX7_210, xt_X7_isSheet, xm_X7_isSheet⟩
theorem iX7_copy_4 : DIf mX7_copy 4 .eq 14 7 := ⟨10, by decide +kernel, by decide, rfl⟩
theorem iX7_copy_7 : DLdI mX7_copy 7 3 8 := Or.inl ⟨3, by decide +kernel, rfl, rfl⟩
theorem iX7_copy_8 : DInvS mX7_copy 8 mX7_isSheet 1 11 := ⟨210, by decide +kernel, rfl, Or.inl xl_RX7_210, xt_X7_isSheet, xm_X7_isSheet⟩
theorem iX7_copy_11 : DIf mX7_copy 11 .ne 16 14 := ⟨5, by decide +kernel, by decide, rfl⟩
theorem iX7_copy_14 : DPushI mX7_copy 14 (-1) 15 := Or.inl ⟨(-1), by decide +kernel, by decide, rfl⟩
theorem iX7_copy_15 : mX7_copy.2.2.2 = some .int ∧ decode mX7_copy.2.1 15 = .ok (.ireturn, 1) := ⟨rfl, by decide +kernel⟩
theorem iX7_copy_16 : DLdA mX7_copy 16 0 17 := Or.inl ⟨0, by decide +kernel, rfl, rfl⟩
theorem iX7_copy_17 : DGet mX7_copy 17 7 13 20 := ⟨31, by decide +kernel, rfl, xf_RX7_31⟩
theorem iX7_copy_20 : DLdI mX7_copy 20 1 21 := Or.inl ⟨1, by decide +kernel, rfl, rfl⟩
theorem iX7_copy_21 : D1 mX7_copy 21 .iaload 1 22 := ⟨by decide +kernel, rfl⟩
theorem iX7_copy_22 : DIf mX7_copy 22 .lt 34 25 := ⟨12, by decide +kernel, by decide, rfl⟩
theorem iX7_copy_25 : DLdA mX7_copy 25 0 26 := Or.inl ⟨0, by decide +kernel, rfl, rfl⟩
theorem iX7_copy_26 : DGet mX7_copy 26 7 13 29 := ⟨31, by decide +kernel, rfl, xf_RX7_31⟩
theorem iX7_copy_29 : DLdI mX7_copy 29 3 30 := Or.inl ⟨3, by decide +kernel, rfl, rfl⟩
theorem iX7_copy_30 : D1 mX7_copy 30 .iaload 1 31 := ⟨by decide +kernel, rfl⟩
theorem iX7_copy_31 : DIf mX7_copy 31 .ge 37 34 := ⟨6, by decide +kernel, by decide, rfl⟩
theorem iX7_copy_34 : DPushI mX7_copy 34 (-11) 36 := Or.inr (Or.inl ⟨(-11), by decide +kernel, by decide, rfl⟩)
theorem iX7_copy_36 : mX7_copy.2.2.2 = some .int ∧ decode mX7_copy.2.1 36 = .ok (.ireturn, 1) := ⟨rfl, by decide +kernel⟩
theorem iX7_copy_37 : DLdA mX7_copy 37 0 38 := Or.inl ⟨0, by decide +kernel, rfl, rfl⟩
theorem iX7_copy_38 : DLdI mX7_copy 38 3 39 := Or.inl ⟨3, by decide +kernel, rfl, rfl⟩
theorem iX7_copy_39 : DLdA mX7_copy 39 0 40 := Or.inl ⟨0, by decide +kernel, rfl, rfl⟩
theorem iX7_copy_40 : DGet mX7_copy 40 7 13 43 := ⟨31, by decide +kernel, rfl, xf_RX7_31⟩
theorem iX7_copy_43 : DLdI mX7_copy 43 1 44 := Or.inl ⟨1, by decide +kernel, rfl, rfl⟩
theorem iX7_copy_44 : D1 mX7_copy 44 .iaload 1 45 := ⟨by decide +kernel, rfl⟩
theorem iX7_copy_45 : DLdI mX7_copy 45 4 47 := Or.inr ⟨by decide +kernel, rfl⟩
theorem iX7_copy_47 : DLdI mX7_copy 47 5 49 := Or.inr ⟨by decide +kernel, rfl⟩
theorem iX7_copy_49 : DInvV mX7_copy 49 mX7_why 7 4 52 := ⟨218, TX7, 17, by decide +kernel, rfl, rfl, xl_RX7_218, xi_X7_why, xs_X7_why, xm_X7_why⟩
theorem iX7_copy_52 : DStI mX7_copy 52 6 54 := ⟨by decide, Or.inr ⟨by decide +kernel, rfl⟩⟩
theorem iX7_copy_54 : DLdI mX7_copy 54 6 56 := Or.inr ⟨by decide +kernel, rfl⟩
theorem iX7_copy_56 : DIf mX7_copy 56 .ne 76 59 := ⟨20, by decide +kernel, by decide, rfl⟩
theorem iX7_copy_59 : DLdA mX7_copy 59 0 60 := Or.inl ⟨0, by decide +kernel, rfl, rfl⟩
theorem iX7_copy_60 : DLdI mX7_copy 60 1 61 := Or.inl ⟨1, by decide +kernel, rfl, rfl⟩
theorem iX7_copy_61 : DLdA mX7_copy 61 0 62 := Or.inl ⟨0, by decide +kernel, rfl, rfl⟩
theorem iX7_copy_62 : DGet mX7_copy 62 7 13 65 := ⟨31, by decide +kernel, rfl, xf_RX7_31⟩
theorem iX7_copy_65 : DLdI mX7_copy 65 1 66 := Or.inl ⟨1, by decide +kernel, rfl, rfl⟩
theorem iX7_copy_66 : D1 mX7_copy 66 .iaload 1 67 := ⟨by decide +kernel, rfl⟩
theorem iX7_copy_67 : DLdI mX7_copy 67 2 68 := Or.inl ⟨2, by decide +kernel, rfl, rfl⟩
theorem iX7_copy_68 : DLdI mX7_copy 68 5 70 := Or.inr ⟨by decide +kernel, rfl⟩
theorem iX7_copy_70 : DInvV mX7_copy 70 mX7_why 7 4 73 := ⟨218, TX7, 17, by decide +kernel, rfl, rfl, xl_RX7_218, xi_X7_why, xs_X7_why, xm_X7_why⟩
theorem iX7_copy_73 : DGo mX7_copy 73 78 := ⟨5, by decide +kernel, by decide⟩
theorem iX7_copy_76 : DLdI mX7_copy 76 6 78 := Or.inr ⟨by decide +kernel, rfl⟩
theorem iX7_copy_78 : DStI mX7_copy 78 6 80 := ⟨by decide, Or.inr ⟨by decide +kernel, rfl⟩⟩
theorem iX7_copy_80 : DLdI mX7_copy 80 6 82 := Or.inr ⟨by decide +kernel, rfl⟩
theorem iX7_copy_82 : DIf mX7_copy 82 .ge 88 85 := ⟨6, by decide +kernel, by decide, rfl⟩
theorem iX7_copy_85 : DLdI mX7_copy 85 6 87 := Or.inr ⟨by decide +kernel, rfl⟩
theorem iX7_copy_87 : mX7_copy.2.2.2 = some .int ∧ decode mX7_copy.2.1 87 = .ok (.ireturn, 1) := ⟨rfl, by decide +kernel⟩
theorem iX7_copy_88 : DPushI mX7_copy 88 0 89 := Or.inl ⟨0, by decide +kernel, by decide, rfl⟩
theorem iX7_copy_89 : DStI mX7_copy 89 7 91 := ⟨by decide, Or.inr ⟨by decide +kernel, rfl⟩⟩
theorem iX7_copy_91 : DLdI mX7_copy 91 7 93 := Or.inr ⟨by decide +kernel, rfl⟩
theorem iX7_copy_93 : DLdI mX7_copy 93 5 95 := Or.inr ⟨by decide +kernel, rfl⟩
theorem iX7_copy_95 : DCm mX7_copy 95 .ge 125 98 := ⟨30, by decide +kernel, by decide, rfl⟩
theorem iX7_copy_98 : DLdA mX7_copy 98 0 99 := Or.inl ⟨0, by decide +kernel, rfl, rfl⟩
theorem iX7_copy_99 : DGet mX7_copy 99 7 16 102 := ⟨41, by decide +kernel, rfl, xf_RX7_41⟩
theorem iX7_copy_102 : DLdI mX7_copy 102 7 104 := Or.inr ⟨by decide +kernel, rfl⟩
theorem iX7_copy_104 : DLdA mX7_copy 104 0 105 := Or.inl ⟨0, by decide +kernel, rfl, rfl⟩
theorem iX7_copy_105 : DGet mX7_copy 105 7 15 108 := ⟨37, by decide +kernel, rfl, xf_RX7_37⟩
theorem iX7_copy_108 : DPushI mX7_copy 108 24 110 := Or.inr (Or.inl ⟨24, by decide +kernel, by decide, rfl⟩)
theorem iX7_copy_110 : DLdI mX7_copy 110 1 111 := Or.inl ⟨1, by decide +kernel, rfl, rfl⟩
theorem iX7_copy_111 : D1 mX7_copy 111 .imul 1 112 := ⟨by decide +kernel, rfl⟩
theorem iX7_copy_112 : DLdI mX7_copy 112 2 113 := Or.inl ⟨2, by decide +kernel, rfl, rfl⟩
theorem iX7_copy_113 : D1 mX7_copy 113 .iadd 1 114 := ⟨by decide +kernel, rfl⟩
theorem iX7_copy_114 : DLdI mX7_copy 114 7 116 := Or.inr ⟨by decide +kernel, rfl⟩
theorem iX7_copy_116 : D1 mX7_copy 116 .iadd 1 117 := ⟨by decide +kernel, rfl⟩
theorem iX7_copy_117 : D1 mX7_copy 117 .laload 1 118 := ⟨by decide +kernel, rfl⟩
theorem iX7_copy_118 : D1 mX7_copy 118 .lastore 1 119 := ⟨by decide +kernel, rfl⟩
theorem iX7_copy_119 : DInc mX7_copy 119 7 1 122 := ⟨by decide, 1, by decide +kernel, by decide, rfl⟩
theorem iX7_copy_122 : DGo mX7_copy 122 91 := ⟨(-31), by decide +kernel, by decide⟩
theorem iX7_copy_125 : DPushI mX7_copy 125 0 126 := Or.inl ⟨0, by decide +kernel, by decide, rfl⟩
theorem iX7_copy_126 : DStI mX7_copy 126 7 128 := ⟨by decide, Or.inr ⟨by decide +kernel, rfl⟩⟩
theorem iX7_copy_128 : DLdI mX7_copy 128 7 130 := Or.inr ⟨by decide +kernel, rfl⟩
theorem iX7_copy_130 : DLdI mX7_copy 130 5 132 := Or.inr ⟨by decide +kernel, rfl⟩
theorem iX7_copy_132 : DCm mX7_copy 132 .ge 163 135 := ⟨31, by decide +kernel, by decide, rfl⟩
theorem iX7_copy_135 : DLdA mX7_copy 135 0 136 := Or.inl ⟨0, by decide +kernel, rfl, rfl⟩
theorem iX7_copy_136 : DGet mX7_copy 136 7 15 139 := ⟨37, by decide +kernel, rfl, xf_RX7_37⟩
theorem iX7_copy_139 : DPushI mX7_copy 139 24 141 := Or.inr (Or.inl ⟨24, by decide +kernel, by decide, rfl⟩)
theorem iX7_copy_141 : DLdI mX7_copy 141 3 142 := Or.inl ⟨3, by decide +kernel, rfl, rfl⟩
theorem iX7_copy_142 : D1 mX7_copy 142 .imul 1 143 := ⟨by decide +kernel, rfl⟩
theorem iX7_copy_143 : DLdI mX7_copy 143 4 145 := Or.inr ⟨by decide +kernel, rfl⟩
theorem iX7_copy_145 : D1 mX7_copy 145 .iadd 1 146 := ⟨by decide +kernel, rfl⟩
theorem iX7_copy_146 : DLdI mX7_copy 146 7 148 := Or.inr ⟨by decide +kernel, rfl⟩
theorem iX7_copy_148 : D1 mX7_copy 148 .iadd 1 149 := ⟨by decide +kernel, rfl⟩
theorem iX7_copy_149 : DLdA mX7_copy 149 0 150 := Or.inl ⟨0, by decide +kernel, rfl, rfl⟩
theorem iX7_copy_150 : DGet mX7_copy 150 7 16 153 := ⟨41, by decide +kernel, rfl, xf_RX7_41⟩
theorem iX7_copy_153 : DLdI mX7_copy 153 7 155 := Or.inr ⟨by decide +kernel, rfl⟩
theorem iX7_copy_155 : D1 mX7_copy 155 .laload 1 156 := ⟨by decide +kernel, rfl⟩
theorem iX7_copy_156 : D1 mX7_copy 156 .lastore 1 157 := ⟨by decide +kernel, rfl⟩
theorem iX7_copy_157 : DInc mX7_copy 157 7 1 160 := ⟨by decide, 1, by decide +kernel, by decide, rfl⟩
theorem iX7_copy_160 : DGo mX7_copy 160 128 := ⟨(-32), by decide +kernel, by decide⟩
theorem iX7_copy_163 : DLdI mX7_copy 163 5 165 := Or.inr ⟨by decide +kernel, rfl⟩
theorem iX7_copy_165 : mX7_copy.2.2.2 = some .int ∧ decode mX7_copy.2.1 165 = .ok (.ireturn, 1) := ⟨rfl, by decide +kernel⟩
theorem iX7_count_0 : DLdI mX7_count 0 1 1 := Or.inl ⟨1, by decide +kernel, rfl, rfl⟩
theorem iX7_count_1 : D1 mX7_count 1 .i2l 1 2 := ⟨by decide +kernel, rfl⟩
theorem iX7_count_2 : DPushL mX7_count 2 0 3 := Or.inl ⟨0, by decide +kernel, by decide, rfl⟩
theorem iX7_count_3 : DPushL mX7_count 3 5 6 := Or.inr ⟨115, by decide +kernel, bigW_at 760 (by decide +kernel) rfl, rfl⟩
theorem iX7_count_6 : DInvS mX7_count 6 mX7_in 3 9 := ⟨44, by decide +kernel, rfl, Or.inl xl_RX7_44, xt_X7_in, xm_X7_in⟩
theorem iX7_count_9 : DIf mX7_count 9 .eq 21 12 := ⟨12, by decide +kernel, by decide, rfl⟩
theorem iX7_count_12 : DLdA mX7_count 12 0 13 := Or.inl ⟨0, by decide +kernel, rfl, rfl⟩
theorem iX7_count_13 : DGet mX7_count 13 7 0 16 := ⟨7, by decide +kernel, rfl, xf_RX7_7⟩
theorem iX7_count_16 : DLdI mX7_count 16 1 17 := Or.inl ⟨1, by decide +kernel, rfl, rfl⟩
theorem iX7_count_17 : D1 mX7_count 17 .iaload 1 18 := ⟨by decide +kernel, rfl⟩
theorem iX7_count_18 : DGo mX7_count 18 80 := ⟨62, by decide +kernel, by decide⟩
theorem iX7_count_21 : DLdI mX7_count 21 1 22 := Or.inl ⟨1, by decide +kernel, rfl, rfl⟩
theorem iX7_count_22 : DPushI mX7_count 22 6 24 := Or.inr (Or.inl ⟨6, by decide +kernel, by decide, rfl⟩)
theorem iX7_count_24 : DCm mX7_count 24 .ne 34 27 := ⟨10, by decide +kernel, by decide, rfl⟩
theorem iX7_count_27 : DLdA mX7_count 27 0 28 := Or.inl ⟨0, by decide +kernel, rfl, rfl⟩
theorem iX7_count_28 : DInvV mX7_count 28 mX7_allFruit 7 0 31 := ⟨119, TX7, 17, by decide +kernel, rfl, rfl, xl_RX7_119, xi_X7_allFruit, xs_X7_allFruit, xm_X7_allFruit⟩
theorem iX7_count_31 : DGo mX7_count 31 80 := ⟨49, by decide +kernel, by decide⟩
theorem iX7_count_34 : DLdI mX7_count 34 1 35 := Or.inl ⟨1, by decide +kernel, rfl, rfl⟩
theorem iX7_count_35 : DPushI mX7_count 35 7 37 := Or.inr (Or.inl ⟨7, by decide +kernel, by decide, rfl⟩)
theorem iX7_count_37 : DCm mX7_count 37 .ne 50 40 := ⟨13, by decide +kernel, by decide, rfl⟩
theorem iX7_count_40 : DLdA mX7_count 40 0 41 := Or.inl ⟨0, by decide +kernel, rfl, rfl⟩
theorem iX7_count_41 : DGet mX7_count 41 7 0 44 := ⟨7, by decide +kernel, rfl, xf_RX7_7⟩
theorem iX7_count_44 : DPushI mX7_count 44 6 46 := Or.inr (Or.inl ⟨6, by decide +kernel, by decide, rfl⟩)
theorem iX7_count_46 : D1 mX7_count 46 .iaload 1 47 := ⟨by decide +kernel, rfl⟩
theorem iX7_count_47 : DGo mX7_count 47 80 := ⟨33, by decide +kernel, by decide⟩
theorem iX7_count_50 : DLdI mX7_count 50 1 51 := Or.inl ⟨1, by decide +kernel, rfl, rfl⟩
theorem iX7_count_51 : DPushI mX7_count 51 8 53 := Or.inr (Or.inl ⟨8, by decide +kernel, by decide, rfl⟩)
theorem iX7_count_53 : DCm mX7_count 53 .ne 66 56 := ⟨13, by decide +kernel, by decide, rfl⟩
theorem iX7_count_56 : DLdA mX7_count 56 0 57 := Or.inl ⟨0, by decide +kernel, rfl, rfl⟩
theorem iX7_count_57 : DGet mX7_count 57 7 0 60 := ⟨7, by decide +kernel, rfl, xf_RX7_7⟩
theorem iX7_count_60 : DPushI mX7_count 60 7 62 := Or.inr (Or.inl ⟨7, by decide +kernel, by decide, rfl⟩)
theorem iX7_count_62 : D1 mX7_count 62 .iaload 1 63 := ⟨by decide +kernel, rfl⟩
theorem iX7_count_63 : DGo mX7_count 63 80 := ⟨17, by decide +kernel, by decide⟩
theorem iX7_count_66 : DLdI mX7_count 66 1 67 := Or.inl ⟨1, by decide +kernel, rfl, rfl⟩
theorem iX7_count_67 : DPushI mX7_count 67 9 69 := Or.inr (Or.inl ⟨9, by decide +kernel, by decide, rfl⟩)
theorem iX7_count_69 : DCm mX7_count 69 .ne 79 72 := ⟨10, by decide +kernel, by decide, rfl⟩
theorem iX7_count_72 : DLdA mX7_count 72 0 73 := Or.inl ⟨0, by decide +kernel, rfl, rfl⟩
theorem iX7_count_73 : DGet mX7_count 73 7 8 76 := ⟨82, by decide +kernel, rfl, xf_RX7_82⟩
theorem iX7_count_76 : DGo mX7_count 76 80 := ⟨4, by decide +kernel, by decide⟩
theorem iX7_count_79 : DPushI mX7_count 79 (-1) 80 := Or.inl ⟨(-1), by decide +kernel, by decide, rfl⟩
theorem iX7_count_80 : mX7_count.2.2.2 = some .int ∧ decode mX7_count.2.1 80 = .ok (.ireturn, 1) := ⟨rfl, by decide +kernel⟩
theorem iX7_days_0 : DLdI mX7_days 0 1 1 := Or.inl ⟨1, by decide +kernel, rfl, rfl⟩
theorem iX7_days_1 : D1 mX7_days 1 .i2l 1 2 := ⟨by decide +kernel, rfl⟩
theorem iX7_days_2 : DPushL mX7_days 2 1 3 := Or.inl ⟨1, by decide +kernel, by decide, rfl⟩
theorem iX7_days_3 : DPushL mX7_days 3 40 6 := Or.inr ⟨163, by decide +kernel, bigW_at 818 (by decide +kernel) rfl, rfl⟩
theorem iX7_days_6 : DInvS mX7_days 6 mX7_in 3 9 := ⟨44, by decide +kernel, rfl, Or.inl xl_RX7_44, xt_X7_in, xm_X7_in⟩
theorem iX7_days_9 : DIf mX7_days 9 .ne 14 12 := ⟨5, by decide +kernel, by decide, rfl⟩
theorem iX7_days_12 : DPushI mX7_days 12 (-1) 13 := Or.inl ⟨(-1), by decide +kernel, by decide, rfl⟩
theorem iX7_days_13 : mX7_days.2.2.2 = some .int ∧ decode mX7_days.2.1 13 = .ok (.ireturn, 1) := ⟨rfl, by decide +kernel⟩
theorem iX7_days_14 : DLdA mX7_days 14 0 15 := Or.inl ⟨0, by decide +kernel, rfl, rfl⟩
theorem iX7_days_15 : DGet mX7_days 15 7 0 18 := ⟨7, by decide +kernel, rfl, xf_RX7_7⟩
theorem iX7_days_18 : DPushI mX7_days 18 2 19 := Or.inl ⟨2, by decide +kernel, by decide, rfl⟩
theorem iX7_days_19 : D1 mX7_days 19 .iaload 1 20 := ⟨by decide +kernel, rfl⟩
theorem iX7_days_20 : DLdI mX7_days 20 1 21 := Or.inl ⟨1, by decide +kernel, rfl, rfl⟩
theorem iX7_days_21 : D1 mX7_days 21 .iadd 1 22 := ⟨by decide +kernel, rfl⟩
theorem iX7_days_22 : DPushI mX7_days 22 9999 25 := Or.inr (Or.inr (Or.inl ⟨9999, by decide +kernel, by decide, rfl⟩))
theorem iX7_days_25 : DCm mX7_days 25 .le 31 28 := ⟨6, by decide +kernel, by decide, rfl⟩
theorem iX7_days_28 : DPushI mX7_days 28 (-3) 30 := Or.inr (Or.inl ⟨(-3), by decide +kernel, by decide, rfl⟩)
theorem iX7_days_30 : mX7_days.2.2.2 = some .int ∧ decode mX7_days.2.1 30 = .ok (.ireturn, 1) := ⟨rfl, by decide +kernel⟩
theorem iX7_days_31 : DLdA mX7_days 31 0 32 := Or.inl ⟨0, by decide +kernel, rfl, rfl⟩
theorem iX7_days_32 : DGet mX7_days 32 7 0 35 := ⟨7, by decide +kernel, rfl, xf_RX7_7⟩
theorem iX7_days_35 : DPushI mX7_days 35 3 36 := Or.inl ⟨3, by decide +kernel, by decide, rfl⟩
theorem iX7_days_36 : D1 mX7_days 36 .iaload 1 37 := ⟨by decide +kernel, rfl⟩
theorem iX7_days_37 : DStI mX7_days 37 2 38 := ⟨by decide, Or.inl ⟨2, by decide +kernel, rfl, rfl⟩⟩
theorem iX7_days_38 : DPushI mX7_days 38 0 39 := Or.inl ⟨0, by decide +kernel, by decide, rfl⟩
theorem iX7_days_39 : DStI mX7_days 39 3 40 := ⟨by decide, Or.inl ⟨3, by decide +kernel, rfl, rfl⟩⟩
theorem iX7_days_40 : DLdI mX7_days 40 3 41 := Or.inl ⟨3, by decide +kernel, rfl, rfl⟩
theorem iX7_days_41 : DLdI mX7_days 41 1 42 := Or.inl ⟨1, by decide +kernel, rfl, rfl⟩
theorem iX7_days_42 : DCm mX7_days 42 .ge 60 45 := ⟨18, by decide +kernel, by decide, rfl⟩
theorem iX7_days_45 : DLdA mX7_days 45 0 46 := Or.inl ⟨0, by decide +kernel, rfl, rfl⟩
theorem iX7_days_46 : DInvV mX7_days 46 mX7_notes 7 0 49 := ⟨165, TX7, 17, by decide +kernel, rfl, rfl, xl_RX7_165, xi_X7_notes, xs_X7_notes, xm_X7_notes⟩
theorem iX7_days_49 : DLdA mX7_days 49 0 50 := Or.inl ⟨0, by decide +kernel, rfl, rfl⟩
theorem iX7_days_50 : DPushI mX7_days 50 0 51 := Or.inl ⟨0, by decide +kernel, by decide, rfl⟩
theorem iX7_days_51 : DInvV mX7_days 51 mX7_goesBy 7 1 54 := ⟨78, TX7, 17, by decide +kernel, rfl, rfl, xl_RX7_78, xi_X7_goesBy, xs_X7_goesBy, xm_X7_goesBy⟩
theorem iX7_days_54 : DInc mX7_days 54 3 1 57 := ⟨by decide, 1, by decide +kernel, by decide, rfl⟩
theorem iX7_days_57 : DGo mX7_days 57 40 := ⟨(-17), by decide +kernel, by decide⟩
theorem iX7_days_60 : DLdA mX7_days 60 0 61 := Or.inl ⟨0, by decide +kernel, rfl, rfl⟩
theorem iX7_days_61 : DGet mX7_days 61 7 0 64 := ⟨7, by decide +kernel, rfl, xf_RX7_7⟩
theorem iX7_days_64 : DPushI mX7_days 64 3 65 := Or.inl ⟨3, by decide +kernel, by decide, rfl⟩
theorem iX7_days_65 : D1 mX7_days 65 .iaload 1 66 := ⟨by decide +kernel, rfl⟩
theorem iX7_days_66 : DLdI mX7_days 66 2 67 := Or.inl ⟨2, by decide +kernel, rfl, rfl⟩
theorem iX7_days_67 : D1 mX7_days 67 .isub 1 68 := ⟨by decide +kernel, rfl⟩
theorem iX7_days_68 : mX7_days.2.2.2 = some .int ∧ decode mX7_days.2.1 68 = .ok (.ireturn, 1) := ⟨rfl, by decide +kernel⟩
theorem iX7_digit_0 : DLdA mX7_digit 0 0 1 := Or.inl ⟨0, by decide +kernel, rfl, rfl⟩
theorem iX7_digit_1 : DGet mX7_digit 1 7 4 4 := ⟨133, by decide +kernel, rfl, xf_RX7_133⟩
theorem iX7_digit_4 : DIf mX7_digit 4 .eq 11 7 := ⟨7, by decide +kernel, by decide, rfl⟩
theorem iX7_digit_7 : DPushI mX7_digit 7 (-1) 8 := Or.inl ⟨(-1), by decide +kernel, by decide, rfl⟩
theorem iX7_digit_8 : DGo mX7_digit 8 18 := ⟨10, by decide +kernel, by decide⟩
theorem iX7_digit_11 : DLdA mX7_digit 11 0 12 := Or.inl ⟨0, by decide +kernel, rfl, rfl⟩
theorem iX7_digit_12 : DInvV mX7_digit 12 mX7_here 7 0 15 := ⟨137, TX7, 17, by decide +kernel, rfl, rfl, xl_RX7_137, xi_X7_here, xs_X7_here, xm_X7_here⟩
theorem iX7_digit_15 : DPushI mX7_digit 15 48 17 := Or.inr (Or.inl ⟨48, by decide +kernel, by decide, rfl⟩)
theorem iX7_digit_17 : D1 mX7_digit 17 .isub 1 18 := ⟨by decide +kernel, rfl⟩
theorem iX7_digit_18 : DStI mX7_digit 18 3 19 := ⟨by decide, Or.inl ⟨3, by decide +kernel, rfl, rfl⟩⟩
theorem iX7_digit_19 : DLdA mX7_digit 19 0 20 := Or.inl ⟨0, by decide +kernel, rfl, rfl⟩
theorem iX7_digit_20 : DLdI mX7_digit 20 3 21 := Or.inl ⟨3, by decide +kernel, rfl, rfl⟩
theorem iX7_digit_21 : D1 mX7_digit 21 .i2l 1 22 := ⟨by decide +kernel, rfl⟩
theorem iX7_digit_22 : DLdI mX7_digit 22 1 23 := Or.inl ⟨1, by decide +kernel, rfl, rfl⟩
theorem iX7_digit_23 : D1 mX7_digit 23 .i2l 1 24 := ⟨by decide +kernel, rfl⟩
theorem iX7_digit_24 : DLdI mX7_digit 24 2 25 := Or.inl ⟨2, by decide +kernel, rfl, rfl⟩
theorem iX7_digit_25 : D1 mX7_digit 25 .i2l 1 26 := ⟨by decide +kernel, rfl⟩
theorem iX7_digit_26 : DInvS mX7_digit 26 mX7_in 3 29 := ⟨44, by decide +kernel, rfl, Or.inl xl_RX7_44, xt_X7_in, xm_X7_in⟩
theorem iX7_digit_29 : DInvV mX7_digit 29 mX7_must 7 1 32 := ⟨140, TX7, 17, by decide +kernel, rfl, rfl, xl_RX7_140, xi_X7_must, xs_X7_must, xm_X7_must⟩
theorem iX7_digit_32 : DLdI mX7_digit 32 3 33 := Or.inl ⟨3, by decide +kernel, rfl, rfl⟩
theorem iX7_digit_33 : mX7_digit.2.2.2 = some .int ∧ decode mX7_digit.2.1 33 = .ok (.ireturn, 1) := ⟨rfl, by decide +kernel⟩
theorem iX7_drift_0 : DLdI mX7_drift 0 1 1 := Or.inl ⟨1, by decide +kernel, rfl, rfl⟩
theorem iX7_drift_1 : D1 mX7_drift 1 .i2l 1 2 := ⟨by decide +kernel, rfl⟩
theorem iX7_drift_2 : DPushL mX7_drift 2 1 3 := Or.inl ⟨1, by decide +kernel, by decide, rfl⟩
theorem iX7_drift_3 : DPushL mX7_drift 3 40 6 := Or.inr ⟨163, by decide +kernel, bigW_at 818 (by decide +kernel) rfl, rfl⟩
theorem iX7_drift_6 : DInvS mX7_drift 6 mX7_in 3 9 := ⟨44, by decide +kernel, rfl, Or.inl xl_RX7_44, xt_X7_in, xm_X7_in⟩
theorem iX7_drift_9 : DIf mX7_drift 9 .ne 14 12 := ⟨5, by decide +kernel, by decide, rfl⟩
theorem iX7_drift_12 : DPushI mX7_drift 12 (-1) 13 := Or.inl ⟨(-1), by decide +kernel, by decide, rfl⟩
theorem iX7_drift_13 : mX7_drift.2.2.2 = some .int ∧ decode mX7_drift.2.1 13 = .ok (.ireturn, 1) := ⟨rfl, by decide +kernel⟩
theorem iX7_drift_14 : DLdA mX7_drift 14 0 15 := Or.inl ⟨0, by decide +kernel, rfl, rfl⟩
theorem iX7_drift_15 : DGet mX7_drift 15 7 0 18 := ⟨7, by decide +kernel, rfl, xf_RX7_7⟩
theorem iX7_drift_18 : DPushI mX7_drift 18 2 19 := Or.inl ⟨2, by decide +kernel, by decide, rfl⟩
theorem iX7_drift_19 : D1 mX7_drift 19 .iaload 1 20 := ⟨by decide +kernel, rfl⟩
theorem iX7_drift_20 : DLdI mX7_drift 20 1 21 := Or.inl ⟨1, by decide +kernel, rfl, rfl⟩
theorem iX7_drift_21 : D1 mX7_drift 21 .iadd 1 22 := ⟨by decide +kernel, rfl⟩
theorem iX7_drift_22 : DPushI mX7_drift 22 9999 25 := Or.inr (Or.inr (Or.inl ⟨9999, by decide +kernel, by decide, rfl⟩))
theorem iX7_drift_25 : DCm mX7_drift 25 .le 31 28 := ⟨6, by decide +kernel, by decide, rfl⟩
theorem iX7_drift_28 : DPushI mX7_drift 28 (-3) 30 := Or.inr (Or.inl ⟨(-3), by decide +kernel, by decide, rfl⟩)
theorem iX7_drift_30 : mX7_drift.2.2.2 = some .int ∧ decode mX7_drift.2.1 30 = .ok (.ireturn, 1) := ⟨rfl, by decide +kernel⟩
theorem iX7_drift_31 : DLdA mX7_drift 31 0 32 := Or.inl ⟨0, by decide +kernel, rfl, rfl⟩
theorem iX7_drift_32 : DGet mX7_drift 32 7 0 35 := ⟨7, by decide +kernel, rfl, xf_RX7_7⟩
theorem iX7_drift_35 : DPushI mX7_drift 35 5 36 := Or.inl ⟨5, by decide +kernel, by decide, rfl⟩
theorem iX7_drift_36 : D1 mX7_drift 36 .iaload 1 37 := ⟨by decide +kernel, rfl⟩
theorem iX7_drift_37 : DStI mX7_drift 37 2 38 := ⟨by decide, Or.inl ⟨2, by decide +kernel, rfl, rfl⟩⟩
theorem iX7_drift_38 : DPushI mX7_drift 38 0 39 := Or.inl ⟨0, by decide +kernel, by decide, rfl⟩
theorem iX7_drift_39 : DStI mX7_drift 39 3 40 := ⟨by decide, Or.inl ⟨3, by decide +kernel, rfl, rfl⟩⟩
theorem iX7_drift_40 : DLdI mX7_drift 40 3 41 := Or.inl ⟨3, by decide +kernel, rfl, rfl⟩
theorem iX7_drift_41 : DLdI mX7_drift 41 1 42 := Or.inl ⟨1, by decide +kernel, rfl, rfl⟩
theorem iX7_drift_42 : DCm mX7_drift 42 .ge 130 45 := ⟨88, by decide +kernel, by decide, rfl⟩
theorem iX7_drift_45 : DLdA mX7_drift 45 0 46 := Or.inl ⟨0, by decide +kernel, rfl, rfl⟩
theorem iX7_drift_46 : DInvV mX7_drift 46 mX7_notes 7 0 49 := ⟨165, TX7, 17, by decide +kernel, rfl, rfl, xl_RX7_165, xi_X7_notes, xs_X7_notes, xm_X7_notes⟩
theorem iX7_drift_49 : DLdA mX7_drift 49 0 50 := Or.inl ⟨0, by decide +kernel, rfl, rfl⟩
theorem iX7_drift_50 : DGet mX7_drift 50 7 0 53 := ⟨7, by decide +kernel, rfl, xf_RX7_7⟩
theorem iX7_drift_53 : DPushI mX7_drift 53 8 55 := Or.inr (Or.inl ⟨8, by decide +kernel, by decide, rfl⟩)
theorem iX7_drift_55 : DLdA mX7_drift 55 0 56 := Or.inl ⟨0, by decide +kernel, rfl, rfl⟩
theorem iX7_drift_56 : DGet mX7_drift 56 7 0 59 := ⟨7, by decide +kernel, rfl, xf_RX7_7⟩
theorem iX7_drift_59 : DPushI mX7_drift 59 8 61 := Or.inr (Or.inl ⟨8, by decide +kernel, by decide, rfl⟩)
theorem iX7_drift_61 : D1 mX7_drift 61 .iaload 1 62 := ⟨by decide +kernel, rfl⟩
theorem iX7_drift_62 : D1 mX7_drift 62 .i2l 1 63 := ⟨by decide +kernel, rfl⟩
theorem iX7_drift_63 : DPushL mX7_drift 63 1103515245 66 := Or.inr ⟨171, by decide +kernel, bigW_at 854 (by decide +kernel) rfl, rfl⟩
theorem iX7_drift_66 : D1 mX7_drift 66 .lmul 1 67 := ⟨by decide +kernel, rfl⟩
theorem iX7_drift_67 : DPushL mX7_drift 67 12345 70 := Or.inr ⟨173, by decide +kernel, bigW_at 855 (by decide +kernel) rfl, rfl⟩
theorem iX7_drift_70 : D1 mX7_drift 70 .ladd 1 71 := ⟨by decide +kernel, rfl⟩
theorem iX7_drift_71 : DPushL mX7_drift 71 2147483647 74 := Or.inr ⟨175, by decide +kernel, bigW_at 856 (by decide +kernel) rfl, rfl⟩
theorem iX7_drift_74 : D1 mX7_drift 74 .land 1 75 := ⟨by decide +kernel, rfl⟩
theorem iX7_drift_75 : D1 mX7_drift 75 .l2i 1 76 := ⟨by decide +kernel, rfl⟩
theorem iX7_drift_76 : D1 mX7_drift 76 .iastore 1 77 := ⟨by decide +kernel, rfl⟩
theorem iX7_drift_77 : DLdA mX7_drift 77 0 78 := Or.inl ⟨0, by decide +kernel, rfl, rfl⟩
theorem iX7_drift_78 : DGet mX7_drift 78 7 0 81 := ⟨7, by decide +kernel, rfl, xf_RX7_7⟩
theorem iX7_drift_81 : DPushI mX7_drift 81 8 83 := Or.inr (Or.inl ⟨8, by decide +kernel, by decide, rfl⟩)
theorem iX7_drift_83 : D1 mX7_drift 83 .iaload 1 84 := ⟨by decide +kernel, rfl⟩
theorem iX7_drift_84 : DPushI mX7_drift 84 65536 86 := Or.inr (Or.inr (Or.inr (Or.inl ⟨177, by decide +kernel, bigW_at 857 (by decide +kernel) rfl, rfl⟩)))
theorem iX7_drift_86 : D1 mX7_drift 86 .idiv 1 87 := ⟨by decide +kernel, rfl⟩
theorem iX7_drift_87 : DStI mX7_drift 87 4 89 := ⟨by decide, Or.inr ⟨by decide +kernel, rfl⟩⟩
theorem iX7_drift_89 : DLdI mX7_drift 89 4 91 := Or.inr ⟨by decide +kernel, rfl⟩
theorem iX7_drift_91 : DPushI mX7_drift 91 4 92 := Or.inl ⟨4, by decide +kernel, by decide, rfl⟩
theorem iX7_drift_92 : D1 mX7_drift 92 .irem 1 93 := ⟨by decide +kernel, rfl⟩
theorem iX7_drift_93 : DIf mX7_drift 93 .ne 119 96 := ⟨26, by decide +kernel, by decide, rfl⟩
theorem iX7_drift_96 : DLdA mX7_drift 96 0 97 := Or.inl ⟨0, by decide +kernel, rfl, rfl⟩
theorem iX7_drift_97 : DGet mX7_drift 97 7 0 100 := ⟨7, by decide +kernel, rfl, xf_RX7_7⟩
theorem iX7_drift_100 : DPushI mX7_drift 100 0 101 := Or.inl ⟨0, by decide +kernel, by decide, rfl⟩
theorem iX7_drift_101 : D1 mX7_drift 101 .iaload 1 102 := ⟨by decide +kernel, rfl⟩
theorem iX7_drift_102 : DIf mX7_drift 102 .le 119 105 := ⟨17, by decide +kernel, by decide, rfl⟩
theorem iX7_drift_105 : DLdA mX7_drift 105 0 106 := Or.inl ⟨0, by decide +kernel, rfl, rfl⟩
theorem iX7_drift_106 : DLdI mX7_drift 106 4 108 := Or.inr ⟨by decide +kernel, rfl⟩
theorem iX7_drift_108 : DLdA mX7_drift 108 0 109 := Or.inl ⟨0, by decide +kernel, rfl, rfl⟩
theorem iX7_drift_109 : DGet mX7_drift 109 7 0 112 := ⟨7, by decide +kernel, rfl, xf_RX7_7⟩
theorem iX7_drift_112 : DPushI mX7_drift 112 0 113 := Or.inl ⟨0, by decide +kernel, by decide, rfl⟩
theorem iX7_drift_113 : D1 mX7_drift 113 .iaload 1 114 := ⟨by decide +kernel, rfl⟩
theorem iX7_drift_114 : D1 mX7_drift 114 .irem 1 115 := ⟨by decide +kernel, rfl⟩
theorem iX7_drift_115 : DInvV mX7_drift 115 mX7_shakes 7 1 118 := ⟨168, TX7, 17, by decide +kernel, rfl, rfl, xl_RX7_168, xi_X7_shakes, xs_X7_shakes, xm_X7_shakes⟩
theorem iX7_drift_118 : D1 mX7_drift 118 .pop 1 119 := ⟨by decide +kernel, rfl⟩
theorem iX7_drift_119 : DLdA mX7_drift 119 0 120 := Or.inl ⟨0, by decide +kernel, rfl, rfl⟩
theorem iX7_drift_120 : DPushI mX7_drift 120 0 121 := Or.inl ⟨0, by decide +kernel, by decide, rfl⟩
theorem iX7_drift_121 : DInvV mX7_drift 121 mX7_goesBy 7 1 124 := ⟨78, TX7, 17, by decide +kernel, rfl, rfl, xl_RX7_78, xi_X7_goesBy, xs_X7_goesBy, xm_X7_goesBy⟩
theorem iX7_drift_124 : DInc mX7_drift 124 3 1 127 := ⟨by decide, 1, by decide +kernel, by decide, rfl⟩
theorem iX7_drift_127 : DGo mX7_drift 127 40 := ⟨(-87), by decide +kernel, by decide⟩
theorem iX7_drift_130 : DLdA mX7_drift 130 0 131 := Or.inl ⟨0, by decide +kernel, rfl, rfl⟩
theorem iX7_drift_131 : DGet mX7_drift 131 7 0 134 := ⟨7, by decide +kernel, rfl, xf_RX7_7⟩
theorem iX7_drift_134 : DPushI mX7_drift 134 5 135 := Or.inl ⟨5, by decide +kernel, by decide, rfl⟩
theorem iX7_drift_135 : D1 mX7_drift 135 .iaload 1 136 := ⟨by decide +kernel, rfl⟩
theorem iX7_drift_136 : DLdI mX7_drift 136 2 137 := Or.inl ⟨2, by decide +kernel, rfl, rfl⟩
theorem iX7_drift_137 : D1 mX7_drift 137 .isub 1 138 := ⟨by decide +kernel, rfl⟩
theorem iX7_drift_138 : mX7_drift.2.2.2 = some .int ∧ decode mX7_drift.2.1 138 = .ok (.ireturn, 1) := ⟨rfl, by decide +kernel⟩
end
section
theorem iX7_drop_0 : DLdI mX7_drop 0 1 1 := Or.inl ⟨1, by decide +kernel, rfl, rfl⟩
theorem iX7_drop_1 : DInvS mX7_drop 1 mX7_isSheet 1 4 := ⟨210, by decide +kernel, rfl, Or.inl xl_RX7_210, xt_X7_isSheet, xm_X7_isSheet⟩
theorem iX7_drop_4 : DIf mX7_drop 4 .ne 9 7 := ⟨5, by decide +kernel, by decide, rfl⟩
theorem iX7_drop_7 : DPushI mX7_drop 7 (-1) 8 := Or.inl ⟨(-1), by decide +kernel, by decide, rfl⟩
theorem iX7_drop_8 : mX7_drop.2.2.2 = some .int ∧ decode mX7_drop.2.1 8 = .ok (.ireturn, 1) := ⟨rfl, by decide +kernel⟩
theorem iX7_drop_9 : DLdA mX7_drop 9 0 10 := Or.inl ⟨0, by decide +kernel, rfl, rfl⟩
theorem iX7_drop_10 : DGet mX7_drop 10 7 13 13 := ⟨31, by decide +kernel, rfl, xf_RX7_31⟩
theorem iX7_drop_13 : DLdI mX7_drop 13 1 14 := Or.inl ⟨1, by decide +kernel, rfl, rfl⟩
theorem iX7_drop_14 : D1 mX7_drop 14 .iaload 1 15 := ⟨by decide +kernel, rfl⟩
theorem iX7_drop_15 : DIf mX7_drop 15 .ge 21 18 := ⟨6, by decide +kernel, by decide, rfl⟩
theorem iX7_drop_18 : DPushI mX7_drop 18 (-11) 20 := Or.inr (Or.inl ⟨(-11), by decide +kernel, by decide, rfl⟩)
theorem iX7_drop_20 : mX7_drop.2.2.2 = some .int ∧ decode mX7_drop.2.1 20 = .ok (.ireturn, 1) := ⟨rfl, by decide +kernel⟩
theorem iX7_drop_21 : DLdA mX7_drop 21 0 22 := Or.inl ⟨0, by decide +kernel, rfl, rfl⟩
theorem iX7_drop_22 : DGet mX7_drop 22 7 13 25 := ⟨31, by decide +kernel, rfl, xf_RX7_31⟩
theorem iX7_drop_25 : DLdI mX7_drop 25 1 26 := Or.inl ⟨1, by decide +kernel, rfl, rfl⟩
theorem iX7_drop_26 : DPushI mX7_drop 26 (-1) 27 := Or.inl ⟨(-1), by decide +kernel, by decide, rfl⟩
theorem iX7_drop_27 : D1 mX7_drop 27 .iastore 1 28 := ⟨by decide +kernel, rfl⟩
theorem iX7_drop_28 : DLdA mX7_drop 28 0 29 := Or.inl ⟨0, by decide +kernel, rfl, rfl⟩
theorem iX7_drop_29 : DGet mX7_drop 29 7 14 32 := ⟨34, by decide +kernel, rfl, xf_RX7_34⟩
theorem iX7_drop_32 : DLdI mX7_drop 32 1 33 := Or.inl ⟨1, by decide +kernel, rfl, rfl⟩
theorem iX7_drop_33 : D1 mX7_drop 33 .iaload 1 34 := ⟨by decide +kernel, rfl⟩
theorem iX7_drop_34 : mX7_drop.2.2.2 = some .int ∧ decode mX7_drop.2.1 34 = .ok (.ireturn, 1) := ⟨rfl, by decide +kernel⟩
theorem iX7_film_0 : DLdA mX7_film 0 0 1 := Or.inl ⟨0, by decide +kernel, rfl, rfl⟩
theorem iX7_film_1 : DLdI mX7_film 1 1 2 := Or.inl ⟨1, by decide +kernel, rfl, rfl⟩
theorem iX7_film_2 : DInvV mX7_film 2 mX7_isTree 7 1 5 := ⟨102, TX7, 17, by decide +kernel, rfl, rfl, xl_RX7_102, xi_X7_isTree, xs_X7_isTree, xm_X7_isTree⟩
theorem iX7_film_5 : DIf mX7_film 5 .eq 35 8 := ⟨30, by decide +kernel, by decide, rfl⟩
theorem iX7_film_8 : DLdI mX7_film 8 2 9 := Or.inl ⟨2, by decide +kernel, rfl, rfl⟩
theorem iX7_film_9 : D1 mX7_film 9 .i2l 1 10 := ⟨by decide +kernel, rfl⟩
theorem iX7_film_10 : DPushL mX7_film 10 1 11 := Or.inl ⟨1, by decide +kernel, by decide, rfl⟩
theorem iX7_film_11 : DPushL mX7_film 11 24 14 := Or.inr ⟨222, by decide +kernel, bigW_at 951 (by decide +kernel) rfl, rfl⟩
theorem iX7_film_14 : DInvS mX7_film 14 mX7_in 3 17 := ⟨44, by decide +kernel, rfl, Or.inl xl_RX7_44, xt_X7_in, xm_X7_in⟩
theorem iX7_film_17 : DIf mX7_film 17 .eq 35 20 := ⟨18, by decide +kernel, by decide, rfl⟩
theorem iX7_film_20 : DLdI mX7_film 20 3 21 := Or.inl ⟨3, by decide +kernel, rfl, rfl⟩
theorem iX7_film_21 : DInvS mX7_film 21 mX7_isSheet 1 24 := ⟨210, by decide +kernel, rfl, Or.inl xl_RX7_210, xt_X7_isSheet, xm_X7_isSheet⟩
theorem iX7_film_24 : DIf mX7_film 24 .eq 35 27 := ⟨11, by decide +kernel, by decide, rfl⟩
theorem iX7_film_27 : DLdI mX7_film 27 4 29 := Or.inr ⟨by decide +kernel, rfl⟩
theorem iX7_film_29 : DInvS mX7_film 29 mX7_isLane 1 32 := ⟨213, by decide +kernel, rfl, Or.inl xl_RX7_213, xt_X7_isLane, xm_X7_isLane⟩
theorem iX7_film_32 : DIf mX7_film 32 .ne 37 35 := ⟨5, by decide +kernel, by decide, rfl⟩
theorem iX7_film_35 : DPushI mX7_film 35 (-1) 36 := Or.inl ⟨(-1), by decide +kernel, by decide, rfl⟩
theorem iX7_film_36 : mX7_film.2.2.2 = some .int ∧ decode mX7_film.2.1 36 = .ok (.ireturn, 1) := ⟨rfl, by decide +kernel⟩
theorem iX7_film_37 : DLdA mX7_film 37 0 38 := Or.inl ⟨0, by decide +kernel, rfl, rfl⟩
theorem iX7_film_38 : DLdI mX7_film 38 3 39 := Or.inl ⟨3, by decide +kernel, rfl, rfl⟩
theorem iX7_film_39 : DLdI mX7_film 39 4 41 := Or.inr ⟨by decide +kernel, rfl⟩
theorem iX7_film_41 : DLdI mX7_film 41 5 43 := Or.inr ⟨by decide +kernel, rfl⟩
theorem iX7_film_43 : DLdI mX7_film 43 2 44 := Or.inl ⟨2, by decide +kernel, rfl, rfl⟩
theorem iX7_film_44 : DInvV mX7_film 44 mX7_why 7 4 47 := ⟨218, TX7, 17, by decide +kernel, rfl, rfl, xl_RX7_218, xi_X7_why, xs_X7_why, xm_X7_why⟩
theorem iX7_film_47 : DStI mX7_film 47 6 49 := ⟨by decide, Or.inr ⟨by decide +kernel, rfl⟩⟩
theorem iX7_film_49 : DLdI mX7_film 49 6 51 := Or.inr ⟨by decide +kernel, rfl⟩
theorem iX7_film_51 : DIf mX7_film 51 .ge 57 54 := ⟨6, by decide +kernel, by decide, rfl⟩
theorem iX7_film_54 : DLdI mX7_film 54 6 56 := Or.inr ⟨by decide +kernel, rfl⟩
theorem iX7_film_56 : mX7_film.2.2.2 = some .int ∧ decode mX7_film.2.1 56 = .ok (.ireturn, 1) := ⟨rfl, by decide +kernel⟩
theorem iX7_film_57 : DLdA mX7_film 57 0 58 := Or.inl ⟨0, by decide +kernel, rfl, rfl⟩
theorem iX7_film_58 : DInvV mX7_film 58 mX7_asides 7 0 61 := ⟨182, TX7, 17, by decide +kernel, rfl, rfl, xl_RX7_182, xi_X7_asides, xs_X7_asides, xm_X7_asides⟩
theorem iX7_film_61 : DPushI mX7_film 61 0 62 := Or.inl ⟨0, by decide +kernel, by decide, rfl⟩
theorem iX7_film_62 : DStI mX7_film 62 7 64 := ⟨by decide, Or.inr ⟨by decide +kernel, rfl⟩⟩
theorem iX7_film_64 : DLdI mX7_film 64 7 66 := Or.inr ⟨by decide +kernel, rfl⟩
theorem iX7_film_66 : DLdI mX7_film 66 2 67 := Or.inl ⟨2, by decide +kernel, rfl, rfl⟩
theorem iX7_film_67 : DCm mX7_film 67 .ge 103 70 := ⟨36, by decide +kernel, by decide, rfl⟩
theorem iX7_film_70 : DLdA mX7_film 70 0 71 := Or.inl ⟨0, by decide +kernel, rfl, rfl⟩
theorem iX7_film_71 : DPushI mX7_film 71 0 72 := Or.inl ⟨0, by decide +kernel, by decide, rfl⟩
theorem iX7_film_72 : DInvV mX7_film 72 mX7_goesBy 7 1 75 := ⟨78, TX7, 17, by decide +kernel, rfl, rfl, xl_RX7_78, xi_X7_goesBy, xs_X7_goesBy, xm_X7_goesBy⟩
theorem iX7_film_75 : DLdA mX7_film 75 0 76 := Or.inl ⟨0, by decide +kernel, rfl, rfl⟩
theorem iX7_film_76 : DGet mX7_film 76 7 15 79 := ⟨37, by decide +kernel, rfl, xf_RX7_37⟩
theorem iX7_film_79 : DPushI mX7_film 79 24 81 := Or.inr (Or.inl ⟨24, by decide +kernel, by decide, rfl⟩)
theorem iX7_film_81 : DLdI mX7_film 81 3 82 := Or.inl ⟨3, by decide +kernel, rfl, rfl⟩
theorem iX7_film_82 : D1 mX7_film 82 .imul 1 83 := ⟨by decide +kernel, rfl⟩
theorem iX7_film_83 : DLdI mX7_film 83 5 85 := Or.inr ⟨by decide +kernel, rfl⟩
theorem iX7_film_85 : D1 mX7_film 85 .iadd 1 86 := ⟨by decide +kernel, rfl⟩
theorem iX7_film_86 : DLdI mX7_film 86 7 88 := Or.inr ⟨by decide +kernel, rfl⟩
theorem iX7_film_88 : D1 mX7_film 88 .iadd 1 89 := ⟨by decide +kernel, rfl⟩
theorem iX7_film_89 : DLdA mX7_film 89 0 90 := Or.inl ⟨0, by decide +kernel, rfl, rfl⟩
theorem iX7_film_90 : DLdI mX7_film 90 1 91 := Or.inl ⟨1, by decide +kernel, rfl, rfl⟩
theorem iX7_film_91 : DPushI mX7_film 91 1 92 := Or.inl ⟨1, by decide +kernel, by decide, rfl⟩
theorem iX7_film_92 : DInvV mX7_film 92 mX7_ofTree 7 2 95 := ⟨56, TX7, 17, by decide +kernel, rfl, rfl, xl_RX7_56, xi_X7_ofTree, xs_X7_ofTree, xm_X7_ofTree⟩
theorem iX7_film_95 : D1 mX7_film 95 .i2l 1 96 := ⟨by decide +kernel, rfl⟩
theorem iX7_film_96 : D1 mX7_film 96 .lastore 1 97 := ⟨by decide +kernel, rfl⟩
theorem iX7_film_97 : DInc mX7_film 97 7 1 100 := ⟨by decide, 1, by decide +kernel, by decide, rfl⟩
theorem iX7_film_100 : DGo mX7_film 100 64 := ⟨(-36), by decide +kernel, by decide⟩
theorem iX7_film_103 : DLdA mX7_film 103 0 104 := Or.inl ⟨0, by decide +kernel, rfl, rfl⟩
theorem iX7_film_104 : DInvV mX7_film 104 mX7_backs 7 0 107 := ⟨188, TX7, 17, by decide +kernel, rfl, rfl, xl_RX7_188, xi_X7_backs, xs_X7_backs, xm_X7_backs⟩
theorem iX7_film_107 : DLdI mX7_film 107 2 108 := Or.inl ⟨2, by decide +kernel, rfl, rfl⟩
theorem iX7_film_108 : mX7_film.2.2.2 = some .int ∧ decode mX7_film.2.1 108 = .ok (.ireturn, 1) := ⟨rfl, by decide +kernel⟩
theorem iX7_fruit_0 : DLdA mX7_fruit 0 0 1 := Or.inl ⟨0, by decide +kernel, rfl, rfl⟩
theorem iX7_fruit_1 : DLdI mX7_fruit 1 1 2 := Or.inl ⟨1, by decide +kernel, rfl, rfl⟩
theorem iX7_fruit_2 : DInvV mX7_fruit 2 mX7_isTree 7 1 5 := ⟨102, TX7, 17, by decide +kernel, rfl, rfl, xl_RX7_102, xi_X7_isTree, xs_X7_isTree, xm_X7_isTree⟩
theorem iX7_fruit_5 : DIf mX7_fruit 5 .eq 20 8 := ⟨15, by decide +kernel, by decide, rfl⟩
theorem iX7_fruit_8 : DLdI mX7_fruit 8 2 9 := Or.inl ⟨2, by decide +kernel, rfl, rfl⟩
theorem iX7_fruit_9 : D1 mX7_fruit 9 .i2l 1 10 := ⟨by decide +kernel, rfl⟩
theorem iX7_fruit_10 : DPushL mX7_fruit 10 0 11 := Or.inl ⟨0, by decide +kernel, by decide, rfl⟩
theorem iX7_fruit_11 : DPushL mX7_fruit 11 60 14 := Or.inr ⟨178, by decide +kernel, bigW_at 870 (by decide +kernel) rfl, rfl⟩
theorem iX7_fruit_14 : DInvS mX7_fruit 14 mX7_in 3 17 := ⟨44, by decide +kernel, rfl, Or.inl xl_RX7_44, xt_X7_in, xm_X7_in⟩
theorem iX7_fruit_17 : DIf mX7_fruit 17 .ne 22 20 := ⟨5, by decide +kernel, by decide, rfl⟩
theorem iX7_fruit_20 : DPushI mX7_fruit 20 (-1) 21 := Or.inl ⟨(-1), by decide +kernel, by decide, rfl⟩
theorem iX7_fruit_21 : mX7_fruit.2.2.2 = some .int ∧ decode mX7_fruit.2.1 21 = .ok (.ireturn, 1) := ⟨rfl, by decide +kernel⟩
theorem iX7_fruit_22 : DLdA mX7_fruit 22 0 23 := Or.inl ⟨0, by decide +kernel, rfl, rfl⟩
theorem iX7_fruit_23 : DInvV mX7_fruit 23 mX7_asides 7 0 26 := ⟨182, TX7, 17, by decide +kernel, rfl, rfl, xl_RX7_182, xi_X7_asides, xs_X7_asides, xm_X7_asides⟩
theorem iX7_fruit_26 : DLdA mX7_fruit 26 0 27 := Or.inl ⟨0, by decide +kernel, rfl, rfl⟩
theorem iX7_fruit_27 : DLdI mX7_fruit 27 2 28 := Or.inl ⟨2, by decide +kernel, rfl, rfl⟩
theorem iX7_fruit_28 : DInvV mX7_fruit 28 mX7_goesOn 7 1 31 := ⟨185, TX7, 17, by decide +kernel, rfl, rfl, xl_RX7_185, xi_X7_goesOn, xs_X7_goesOn, xm_X7_goesOn⟩
theorem iX7_fruit_31 : DLdA mX7_fruit 31 0 32 := Or.inl ⟨0, by decide +kernel, rfl, rfl⟩
theorem iX7_fruit_32 : DLdI mX7_fruit 32 1 33 := Or.inl ⟨1, by decide +kernel, rfl, rfl⟩
theorem iX7_fruit_33 : DPushI mX7_fruit 33 1 34 := Or.inl ⟨1, by decide +kernel, by decide, rfl⟩
theorem iX7_fruit_34 : DInvV mX7_fruit 34 mX7_ofTree 7 2 37 := ⟨56, TX7, 17, by decide +kernel, rfl, rfl, xl_RX7_56, xi_X7_ofTree, xs_X7_ofTree, xm_X7_ofTree⟩
theorem iX7_fruit_37 : DStI mX7_fruit 37 3 38 := ⟨by decide, Or.inl ⟨3, by decide +kernel, rfl, rfl⟩⟩
theorem iX7_fruit_38 : DLdA mX7_fruit 38 0 39 := Or.inl ⟨0, by decide +kernel, rfl, rfl⟩
theorem iX7_fruit_39 : DInvV mX7_fruit 39 mX7_backs 7 0 42 := ⟨188, TX7, 17, by decide +kernel, rfl, rfl, xl_RX7_188, xi_X7_backs, xs_X7_backs, xm_X7_backs⟩
theorem iX7_fruit_42 : DLdI mX7_fruit 42 3 43 := Or.inl ⟨3, by decide +kernel, rfl, rfl⟩
theorem iX7_fruit_43 : mX7_fruit.2.2.2 = some .int ∧ decode mX7_fruit.2.1 43 = .ok (.ireturn, 1) := ⟨rfl, by decide +kernel⟩
theorem iX7_gathered_0 : DLdA mX7_gathered 0 0 1 := Or.inl ⟨0, by decide +kernel, rfl, rfl⟩
theorem iX7_gathered_1 : DInvV mX7_gathered 1 mX7_asides 7 0 4 := ⟨182, TX7, 17, by decide +kernel, rfl, rfl, xl_RX7_182, xi_X7_asides, xs_X7_asides, xm_X7_asides⟩
theorem iX7_gathered_4 : DPushI mX7_gathered 4 0 5 := Or.inl ⟨0, by decide +kernel, by decide, rfl⟩
theorem iX7_gathered_5 : DStI mX7_gathered 5 1 6 := ⟨by decide, Or.inl ⟨1, by decide +kernel, rfl, rfl⟩⟩
theorem iX7_gathered_6 : DLdI mX7_gathered 6 1 7 := Or.inl ⟨1, by decide +kernel, rfl, rfl⟩
theorem iX7_gathered_7 : DPushI mX7_gathered 7 61 9 := Or.inr (Or.inl ⟨61, by decide +kernel, by decide, rfl⟩)
theorem iX7_gathered_9 : DCm mX7_gathered 9 .ge 30 12 := ⟨21, by decide +kernel, by decide, rfl⟩
theorem iX7_gathered_12 : DLdA mX7_gathered 12 0 13 := Or.inl ⟨0, by decide +kernel, rfl, rfl⟩
theorem iX7_gathered_13 : DInvV mX7_gathered 13 mX7_allFruit 7 0 16 := ⟨119, TX7, 17, by decide +kernel, rfl, rfl, xl_RX7_119, xi_X7_allFruit, xs_X7_allFruit, xm_X7_allFruit⟩
theorem iX7_gathered_16 : DIf mX7_gathered 16 .le 30 19 := ⟨14, by decide +kernel, by decide, rfl⟩
theorem iX7_gathered_19 : DLdA mX7_gathered 19 0 20 := Or.inl ⟨0, by decide +kernel, rfl, rfl⟩
theorem iX7_gathered_20 : DPushI mX7_gathered 20 0 21 := Or.inl ⟨0, by decide +kernel, by decide, rfl⟩
theorem iX7_gathered_21 : DInvV mX7_gathered 21 mX7_goesBy 7 1 24 := ⟨78, TX7, 17, by decide +kernel, rfl, rfl, xl_RX7_78, xi_X7_goesBy, xs_X7_goesBy, xm_X7_goesBy⟩
theorem iX7_gathered_24 : DInc mX7_gathered 24 1 1 27 := ⟨by decide, 1, by decide +kernel, by decide, rfl⟩
theorem iX7_gathered_27 : DGo mX7_gathered 27 6 := ⟨(-21), by decide +kernel, by decide⟩
theorem iX7_gathered_30 : DLdA mX7_gathered 30 0 31 := Or.inl ⟨0, by decide +kernel, rfl, rfl⟩
theorem iX7_gathered_31 : DInvV mX7_gathered 31 mX7_backs 7 0 34 := ⟨188, TX7, 17, by decide +kernel, rfl, rfl, xl_RX7_188, xi_X7_backs, xs_X7_backs, xm_X7_backs⟩
theorem iX7_gathered_34 : DLdI mX7_gathered 34 1 35 := Or.inl ⟨1, by decide +kernel, rfl, rfl⟩
theorem iX7_gathered_35 : DPushI mX7_gathered 35 61 37 := Or.inr (Or.inl ⟨61, by decide +kernel, by decide, rfl⟩)
theorem iX7_gathered_37 : DCm mX7_gathered 37 .ge 44 40 := ⟨7, by decide +kernel, by decide, rfl⟩
theorem iX7_gathered_40 : DLdI mX7_gathered 40 1 41 := Or.inl ⟨1, by decide +kernel, rfl, rfl⟩
theorem iX7_gathered_41 : DGo mX7_gathered 41 46 := ⟨5, by decide +kernel, by decide⟩
theorem iX7_gathered_44 : DPushI mX7_gathered 44 (-4) 46 := Or.inr (Or.inl ⟨(-4), by decide +kernel, by decide, rfl⟩)
theorem iX7_gathered_46 : mX7_gathered.2.2.2 = some .int ∧ decode mX7_gathered.2.1 46 = .ok (.ireturn, 1) := ⟨rfl, by decide +kernel⟩
theorem iX7_goesBy_0 : DPushI mX7_goesBy 0 0 1 := Or.inl ⟨0, by decide +kernel, by decide, rfl⟩
theorem iX7_goesBy_1 : DStI mX7_goesBy 1 2 2 := ⟨by decide, Or.inl ⟨2, by decide +kernel, rfl, rfl⟩⟩
theorem iX7_goesBy_2 : DLdI mX7_goesBy 2 2 3 := Or.inl ⟨2, by decide +kernel, rfl, rfl⟩
theorem iX7_goesBy_3 : DLdA mX7_goesBy 3 0 4 := Or.inl ⟨0, by decide +kernel, rfl, rfl⟩
theorem iX7_goesBy_4 : DGet mX7_goesBy 4 7 0 7 := ⟨7, by decide +kernel, rfl, xf_RX7_7⟩
theorem iX7_goesBy_7 : DPushI mX7_goesBy 7 1 8 := Or.inl ⟨1, by decide +kernel, by decide, rfl⟩
theorem iX7_goesBy_8 : D1 mX7_goesBy 8 .iaload 1 9 := ⟨by decide +kernel, rfl⟩
theorem iX7_goesBy_9 : DCm mX7_goesBy 9 .ge 112 12 := ⟨103, by decide +kernel, by decide, rfl⟩
theorem iX7_goesBy_12 : DLdA mX7_goesBy 12 0 13 := Or.inl ⟨0, by decide +kernel, rfl, rfl⟩
theorem iX7_goesBy_13 : DLdI mX7_goesBy 13 2 14 := Or.inl ⟨2, by decide +kernel, rfl, rfl⟩
theorem iX7_goesBy_14 : DInvV mX7_goesBy 14 mX7_leansAt 7 1 17 := ⟨59, TX7, 17, by decide +kernel, rfl, rfl, xl_RX7_59, xi_X7_leansAt, xs_X7_leansAt, xm_X7_leansAt⟩
theorem iX7_goesBy_17 : DStI mX7_goesBy 17 3 18 := ⟨by decide, Or.inl ⟨3, by decide +kernel, rfl, rfl⟩⟩
theorem iX7_goesBy_18 : DLdI mX7_goesBy 18 3 19 := Or.inl ⟨3, by decide +kernel, rfl, rfl⟩
theorem iX7_goesBy_19 : DPushI mX7_goesBy 19 (-4) 21 := Or.inr (Or.inl ⟨(-4), by decide +kernel, by decide, rfl⟩)
theorem iX7_goesBy_21 : DCm mX7_goesBy 21 .eq 106 24 := ⟨85, by decide +kernel, by decide, rfl⟩
theorem iX7_goesBy_24 : DLdA mX7_goesBy 24 0 25 := Or.inl ⟨0, by decide +kernel, rfl, rfl⟩
theorem iX7_goesBy_25 : DGet mX7_goesBy 25 7 0 28 := ⟨7, by decide +kernel, rfl, xf_RX7_7⟩
theorem iX7_goesBy_28 : DPushI mX7_goesBy 28 4 29 := Or.inl ⟨4, by decide +kernel, by decide, rfl⟩
theorem iX7_goesBy_29 : D1 mX7_goesBy 29 .dup2 1 30 := ⟨by decide +kernel, rfl⟩
theorem iX7_goesBy_30 : D1 mX7_goesBy 30 .iaload 1 31 := ⟨by decide +kernel, rfl⟩
theorem iX7_goesBy_31 : DLdA mX7_goesBy 31 0 32 := Or.inl ⟨0, by decide +kernel, rfl, rfl⟩
theorem iX7_goesBy_32 : DLdI mX7_goesBy 32 2 33 := Or.inl ⟨2, by decide +kernel, rfl, rfl⟩
theorem iX7_goesBy_33 : DPushI mX7_goesBy 33 2 34 := Or.inl ⟨2, by decide +kernel, by decide, rfl⟩
theorem iX7_goesBy_34 : DInvV mX7_goesBy 34 mX7_ofLadder 7 2 37 := ⟨48, TX7, 17, by decide +kernel, rfl, rfl, xl_RX7_48, xi_X7_ofLadder, xs_X7_ofLadder, xm_X7_ofLadder⟩
theorem iX7_goesBy_37 : D1 mX7_goesBy 37 .iadd 1 38 := ⟨by decide +kernel, rfl⟩
theorem iX7_goesBy_38 : D1 mX7_goesBy 38 .iastore 1 39 := ⟨by decide +kernel, rfl⟩
theorem iX7_goesBy_39 : DLdI mX7_goesBy 39 1 40 := Or.inl ⟨1, by decide +kernel, rfl, rfl⟩
theorem iX7_goesBy_40 : DLdI mX7_goesBy 40 2 41 := Or.inl ⟨2, by decide +kernel, rfl, rfl⟩
theorem iX7_goesBy_41 : D1 mX7_goesBy 41 .ishr 1 42 := ⟨by decide +kernel, rfl⟩
theorem iX7_goesBy_42 : DPushI mX7_goesBy 42 1 43 := Or.inl ⟨1, by decide +kernel, by decide, rfl⟩
theorem iX7_goesBy_43 : D1 mX7_goesBy 43 .iand 1 44 := ⟨by decide +kernel, rfl⟩
theorem iX7_goesBy_44 : DIf mX7_goesBy 44 .ne 106 47 := ⟨62, by decide +kernel, by decide, rfl⟩
theorem iX7_goesBy_47 : DLdA mX7_goesBy 47 0 48 := Or.inl ⟨0, by decide +kernel, rfl, rfl⟩
theorem iX7_goesBy_48 : DLdI mX7_goesBy 48 3 49 := Or.inl ⟨3, by decide +kernel, rfl, rfl⟩
theorem iX7_goesBy_49 : DInvV mX7_goesBy 49 mX7_isRipe 7 1 52 := ⟨63, TX7, 17, by decide +kernel, rfl, rfl, xl_RX7_63, xi_X7_isRipe, xs_X7_isRipe, xm_X7_isRipe⟩
theorem iX7_goesBy_52 : DIf mX7_goesBy 52 .eq 106 55 := ⟨54, by decide +kernel, by decide, rfl⟩
theorem iX7_goesBy_55 : DLdA mX7_goesBy 55 0 56 := Or.inl ⟨0, by decide +kernel, rfl, rfl⟩
theorem iX7_goesBy_56 : DLdI mX7_goesBy 56 2 57 := Or.inl ⟨2, by decide +kernel, rfl, rfl⟩
theorem iX7_goesBy_57 : DLdI mX7_goesBy 57 3 58 := Or.inl ⟨3, by decide +kernel, rfl, rfl⟩
theorem iX7_goesBy_58 : DLdA mX7_goesBy 58 0 59 := Or.inl ⟨0, by decide +kernel, rfl, rfl⟩
theorem iX7_goesBy_59 : DGet mX7_goesBy 59 7 0 62 := ⟨7, by decide +kernel, rfl, xf_RX7_7⟩
theorem iX7_goesBy_62 : DPushI mX7_goesBy 62 2 63 := Or.inl ⟨2, by decide +kernel, by decide, rfl⟩
theorem iX7_goesBy_63 : D1 mX7_goesBy 63 .iaload 1 64 := ⟨by decide +kernel, rfl⟩
theorem iX7_goesBy_64 : DInvV mX7_goesBy 64 mX7_isReached 7 3 67 := ⟨67, TX7, 17, by decide +kernel, rfl, rfl, xl_RX7_67, xi_X7_isReached, xs_X7_isReached, xm_X7_isReached⟩
theorem iX7_goesBy_67 : DIf mX7_goesBy 67 .eq 106 70 := ⟨39, by decide +kernel, by decide, rfl⟩
theorem iX7_goesBy_70 : DLdA mX7_goesBy 70 0 71 := Or.inl ⟨0, by decide +kernel, rfl, rfl⟩
theorem iX7_goesBy_71 : DGet mX7_goesBy 71 7 0 74 := ⟨7, by decide +kernel, rfl, xf_RX7_7⟩
theorem iX7_goesBy_74 : DPushI mX7_goesBy 74 6 76 := Or.inr (Or.inl ⟨6, by decide +kernel, by decide, rfl⟩)
theorem iX7_goesBy_76 : D1 mX7_goesBy 76 .iaload 1 77 := ⟨by decide +kernel, rfl⟩
theorem iX7_goesBy_77 : DLdA mX7_goesBy 77 0 78 := Or.inl ⟨0, by decide +kernel, rfl, rfl⟩
theorem iX7_goesBy_78 : DLdI mX7_goesBy 78 3 79 := Or.inl ⟨3, by decide +kernel, rfl, rfl⟩
theorem iX7_goesBy_79 : DPushI mX7_goesBy 79 1 80 := Or.inl ⟨1, by decide +kernel, by decide, rfl⟩
theorem iX7_goesBy_80 : DInvV mX7_goesBy 80 mX7_ofTree 7 2 83 := ⟨56, TX7, 17, by decide +kernel, rfl, rfl, xl_RX7_56, xi_X7_ofTree, xs_X7_ofTree, xm_X7_ofTree⟩
theorem iX7_goesBy_83 : DInvS mX7_goesBy 83 mX7_less 2 86 := ⟨71, by decide +kernel, rfl, Or.inl xl_RX7_71, xt_X7_less, xm_X7_less⟩
theorem iX7_goesBy_86 : DStI mX7_goesBy 86 4 88 := ⟨by decide, Or.inr ⟨by decide +kernel, rfl⟩⟩
theorem iX7_goesBy_88 : DLdA mX7_goesBy 88 0 89 := Or.inl ⟨0, by decide +kernel, rfl, rfl⟩
theorem iX7_goesBy_89 : DLdI mX7_goesBy 89 3 90 := Or.inl ⟨3, by decide +kernel, rfl, rfl⟩
theorem iX7_goesBy_90 : DLdI mX7_goesBy 90 4 92 := Or.inr ⟨by decide +kernel, rfl⟩
theorem iX7_goesBy_92 : DInvV mX7_goesBy 92 mX7_takes 7 2 95 := ⟨74, TX7, 17, by decide +kernel, rfl, rfl, xl_RX7_74, xi_X7_takes, xs_X7_takes, xm_X7_takes⟩
theorem iX7_goesBy_95 : DLdA mX7_goesBy 95 0 96 := Or.inl ⟨0, by decide +kernel, rfl, rfl⟩
theorem iX7_goesBy_96 : DGet mX7_goesBy 96 7 0 99 := ⟨7, by decide +kernel, rfl, xf_RX7_7⟩
theorem iX7_goesBy_99 : DPushI mX7_goesBy 99 3 100 := Or.inl ⟨3, by decide +kernel, by decide, rfl⟩
theorem iX7_goesBy_100 : D1 mX7_goesBy 100 .dup2 1 101 := ⟨by decide +kernel, rfl⟩
theorem iX7_goesBy_101 : D1 mX7_goesBy 101 .iaload 1 102 := ⟨by decide +kernel, rfl⟩
theorem iX7_goesBy_102 : DLdI mX7_goesBy 102 4 104 := Or.inr ⟨by decide +kernel, rfl⟩
theorem iX7_goesBy_104 : D1 mX7_goesBy 104 .iadd 1 105 := ⟨by decide +kernel, rfl⟩
theorem iX7_goesBy_105 : D1 mX7_goesBy 105 .iastore 1 106 := ⟨by decide +kernel, rfl⟩
theorem iX7_goesBy_106 : DInc mX7_goesBy 106 2 1 109 := ⟨by decide, 1, by decide +kernel, by decide, rfl⟩
theorem iX7_goesBy_109 : DGo mX7_goesBy 109 2 := ⟨(-107), by decide +kernel, by decide⟩
theorem iX7_goesBy_112 : DPushI mX7_goesBy 112 0 113 := Or.inl ⟨0, by decide +kernel, by decide, rfl⟩
theorem iX7_goesBy_113 : DStI mX7_goesBy 113 2 114 := ⟨by decide, Or.inl ⟨2, by decide +kernel, rfl, rfl⟩⟩
theorem iX7_goesBy_114 : DLdI mX7_goesBy 114 2 115 := Or.inl ⟨2, by decide +kernel, rfl, rfl⟩
theorem iX7_goesBy_115 : DLdA mX7_goesBy 115 0 116 := Or.inl ⟨0, by decide +kernel, rfl, rfl⟩
theorem iX7_goesBy_116 : DGet mX7_goesBy 116 7 0 119 := ⟨7, by decide +kernel, rfl, xf_RX7_7⟩
theorem iX7_goesBy_119 : DPushI mX7_goesBy 119 0 120 := Or.inl ⟨0, by decide +kernel, by decide, rfl⟩
theorem iX7_goesBy_120 : D1 mX7_goesBy 120 .iaload 1 121 := ⟨by decide +kernel, rfl⟩
theorem iX7_goesBy_121 : DCm mX7_goesBy 121 .ge 175 124 := ⟨54, by decide +kernel, by decide, rfl⟩
theorem iX7_goesBy_124 : DLdA mX7_goesBy 124 0 125 := Or.inl ⟨0, by decide +kernel, rfl, rfl⟩
theorem iX7_goesBy_125 : DLdI mX7_goesBy 125 2 126 := Or.inl ⟨2, by decide +kernel, rfl, rfl⟩
theorem iX7_goesBy_126 : DInvV mX7_goesBy 126 mX7_isRipe 7 1 129 := ⟨63, TX7, 17, by decide +kernel, rfl, rfl, xl_RX7_63, xi_X7_isRipe, xs_X7_isRipe, xm_X7_isRipe⟩
theorem iX7_goesBy_129 : DIf mX7_goesBy 129 .eq 151 132 := ⟨22, by decide +kernel, by decide, rfl⟩
theorem iX7_goesBy_132 : DLdA mX7_goesBy 132 0 133 := Or.inl ⟨0, by decide +kernel, rfl, rfl⟩
theorem iX7_goesBy_133 : DGet mX7_goesBy 133 7 0 136 := ⟨7, by decide +kernel, rfl, xf_RX7_7⟩
theorem iX7_goesBy_136 : DPushI mX7_goesBy 136 7 138 := Or.inr (Or.inl ⟨7, by decide +kernel, by decide, rfl⟩)
theorem iX7_goesBy_138 : D1 mX7_goesBy 138 .iaload 1 139 := ⟨by decide +kernel, rfl⟩
theorem iX7_goesBy_139 : DLdA mX7_goesBy 139 0 140 := Or.inl ⟨0, by decide +kernel, rfl, rfl⟩
theorem iX7_goesBy_140 : DLdI mX7_goesBy 140 2 141 := Or.inl ⟨2, by decide +kernel, rfl, rfl⟩
theorem iX7_goesBy_141 : DPushI mX7_goesBy 141 1 142 := Or.inl ⟨1, by decide +kernel, by decide, rfl⟩
theorem iX7_goesBy_142 : DInvV mX7_goesBy 142 mX7_ofTree 7 2 145 := ⟨56, TX7, 17, by decide +kernel, rfl, rfl, xl_RX7_56, xi_X7_ofTree, xs_X7_ofTree, xm_X7_ofTree⟩
theorem iX7_goesBy_145 : DInvS mX7_goesBy 145 mX7_less 2 148 := ⟨71, by decide +kernel, rfl, Or.inl xl_RX7_71, xt_X7_less, xm_X7_less⟩
theorem iX7_goesBy_148 : DGo mX7_goesBy 148 152 := ⟨4, by decide +kernel, by decide⟩
theorem iX7_goesBy_151 : DPushI mX7_goesBy 151 0 152 := Or.inl ⟨0, by decide +kernel, by decide, rfl⟩
theorem iX7_goesBy_152 : DStI mX7_goesBy 152 3 153 := ⟨by decide, Or.inl ⟨3, by decide +kernel, rfl, rfl⟩⟩
theorem iX7_goesBy_153 : DLdA mX7_goesBy 153 0 154 := Or.inl ⟨0, by decide +kernel, rfl, rfl⟩
theorem iX7_goesBy_154 : DLdI mX7_goesBy 154 2 155 := Or.inl ⟨2, by decide +kernel, rfl, rfl⟩
theorem iX7_goesBy_155 : DLdI mX7_goesBy 155 3 156 := Or.inl ⟨3, by decide +kernel, rfl, rfl⟩
theorem iX7_goesBy_156 : DInvV mX7_goesBy 156 mX7_takes 7 2 159 := ⟨74, TX7, 17, by decide +kernel, rfl, rfl, xl_RX7_74, xi_X7_takes, xs_X7_takes, xm_X7_takes⟩
theorem iX7_goesBy_159 : DLdA mX7_goesBy 159 0 160 := Or.inl ⟨0, by decide +kernel, rfl, rfl⟩
theorem iX7_goesBy_160 : DGet mX7_goesBy 160 7 0 163 := ⟨7, by decide +kernel, rfl, xf_RX7_7⟩
theorem iX7_goesBy_163 : DPushI mX7_goesBy 163 5 164 := Or.inl ⟨5, by decide +kernel, by decide, rfl⟩
theorem iX7_goesBy_164 : D1 mX7_goesBy 164 .dup2 1 165 := ⟨by decide +kernel, rfl⟩
theorem iX7_goesBy_165 : D1 mX7_goesBy 165 .iaload 1 166 := ⟨by decide +kernel, rfl⟩
theorem iX7_goesBy_166 : DLdI mX7_goesBy 166 3 167 := Or.inl ⟨3, by decide +kernel, rfl, rfl⟩
theorem iX7_goesBy_167 : D1 mX7_goesBy 167 .iadd 1 168 := ⟨by decide +kernel, rfl⟩
theorem iX7_goesBy_168 : D1 mX7_goesBy 168 .iastore 1 169 := ⟨by decide +kernel, rfl⟩
theorem iX7_goesBy_169 : DInc mX7_goesBy 169 2 1 172 := ⟨by decide, 1, by decide +kernel, by decide, rfl⟩
theorem iX7_goesBy_172 : DGo mX7_goesBy 172 114 := ⟨(-58), by decide +kernel, by decide⟩
theorem iX7_goesBy_175 : DLdA mX7_goesBy 175 0 176 := Or.inl ⟨0, by decide +kernel, rfl, rfl⟩
theorem iX7_goesBy_176 : DGet mX7_goesBy 176 7 0 179 := ⟨7, by decide +kernel, rfl, xf_RX7_7⟩
theorem iX7_goesBy_179 : DPushI mX7_goesBy 179 2 180 := Or.inl ⟨2, by decide +kernel, by decide, rfl⟩
theorem iX7_goesBy_180 : D1 mX7_goesBy 180 .dup2 1 181 := ⟨by decide +kernel, rfl⟩
theorem iX7_goesBy_181 : D1 mX7_goesBy 181 .iaload 1 182 := ⟨by decide +kernel, rfl⟩
theorem iX7_goesBy_182 : DPushI mX7_goesBy 182 1 183 := Or.inl ⟨1, by decide +kernel, by decide, rfl⟩
theorem iX7_goesBy_183 : D1 mX7_goesBy 183 .iadd 1 184 := ⟨by decide +kernel, rfl⟩
theorem iX7_goesBy_184 : D1 mX7_goesBy 184 .iastore 1 185 := ⟨by decide +kernel, rfl⟩
theorem iX7_goesBy_185 : mX7_goesBy.2.2.2 = none ∧ decode mX7_goesBy.2.1 185 = .ok (.return_, 1) := ⟨rfl, by decide +kernel⟩
theorem iX7_goesOn_0 : DPushI mX7_goesOn 0 0 1 := Or.inl ⟨0, by decide +kernel, by decide, rfl⟩
theorem iX7_goesOn_1 : DStI mX7_goesOn 1 2 2 := ⟨by decide, Or.inl ⟨2, by decide +kernel, rfl, rfl⟩⟩
theorem iX7_goesOn_2 : DLdI mX7_goesOn 2 2 3 := Or.inl ⟨2, by decide +kernel, rfl, rfl⟩
theorem iX7_goesOn_3 : DLdI mX7_goesOn 3 1 4 := Or.inl ⟨1, by decide +kernel, rfl, rfl⟩
theorem iX7_goesOn_4 : DCm mX7_goesOn 4 .ge 18 7 := ⟨14, by decide +kernel, by decide, rfl⟩
theorem iX7_goesOn_7 : DLdA mX7_goesOn 7 0 8 := Or.inl ⟨0, by decide +kernel, rfl, rfl⟩
theorem iX7_goesOn_8 : DPushI mX7_goesOn 8 0 9 := Or.inl ⟨0, by decide +kernel, by decide, rfl⟩
theorem iX7_goesOn_9 : DInvV mX7_goesOn 9 mX7_goesBy 7 1 12 := ⟨78, TX7, 17, by decide +kernel, rfl, rfl, xl_RX7_78, xi_X7_goesBy, xs_X7_goesBy, xm_X7_goesBy⟩
theorem iX7_goesOn_12 : DInc mX7_goesOn 12 2 1 15 := ⟨by decide, 1, by decide +kernel, by decide, rfl⟩
theorem iX7_goesOn_15 : DGo mX7_goesOn 15 2 := ⟨(-13), by decide +kernel, by decide⟩
theorem iX7_goesOn_18 : mX7_goesOn.2.2.2 = none ∧ decode mX7_goesOn.2.1 18 = .ok (.return_, 1) := ⟨rfl, by decide +kernel⟩
theorem iX7_here_0 : DLdA mX7_here 0 0 1 := Or.inl ⟨0, by decide +kernel, rfl, rfl⟩
theorem iX7_here_1 : DGet mX7_here 1 7 3 4 := ⟨130, by decide +kernel, rfl, xf_RX7_130⟩
theorem iX7_here_4 : DLdA mX7_here 4 0 5 := Or.inl ⟨0, by decide +kernel, rfl, rfl⟩
theorem iX7_here_5 : DGet mX7_here 5 7 2 8 := ⟨127, by decide +kernel, rfl, xf_RX7_127⟩
theorem iX7_here_8 : DCm mX7_here 8 .ge 38 11 := ⟨30, by decide +kernel, by decide, rfl⟩
theorem iX7_here_11 : DLdA mX7_here 11 0 12 := Or.inl ⟨0, by decide +kernel, rfl, rfl⟩
theorem iX7_here_12 : DGet mX7_here 12 7 1 15 := ⟨13, by decide +kernel, rfl, xf_RX7_13⟩
theorem iX7_here_15 : DLdA mX7_here 15 0 16 := Or.inl ⟨0, by decide +kernel, rfl, rfl⟩
theorem iX7_here_16 : DGet mX7_here 16 7 3 19 := ⟨130, by decide +kernel, rfl, xf_RX7_130⟩
theorem iX7_here_19 : D1 mX7_here 19 .iaload 1 20 := ⟨by decide +kernel, rfl⟩
theorem iX7_here_20 : DPushI mX7_here 20 32 22 := Or.inr (Or.inl ⟨32, by decide +kernel, by decide, rfl⟩)
theorem iX7_here_22 : DCm mX7_here 22 .ne 38 25 := ⟨16, by decide +kernel, by decide, rfl⟩
theorem iX7_here_25 : DLdA mX7_here 25 0 26 := Or.inl ⟨0, by decide +kernel, rfl, rfl⟩
theorem iX7_here_26 : D1 mX7_here 26 .dup 1 27 := ⟨by decide +kernel, rfl⟩
theorem iX7_here_27 : DGet mX7_here 27 7 3 30 := ⟨130, by decide +kernel, rfl, xf_RX7_130⟩
theorem iX7_here_30 : DPushI mX7_here 30 1 31 := Or.inl ⟨1, by decide +kernel, by decide, rfl⟩
theorem iX7_here_31 : D1 mX7_here 31 .iadd 1 32 := ⟨by decide +kernel, rfl⟩
theorem iX7_here_32 : DPut mX7_here 32 7 3 .int 35 := ⟨130, by decide +kernel, rfl, RX7, TX7, 17, tyX7, rfl, by decide, bigW_at 645 (by decide +kernel) rfl, xw7, tyX7_ok, nmX7, rfl, Or.inl rfl⟩
theorem iX7_here_35 : DGo mX7_here 35 0 := ⟨(-35), by decide +kernel, by decide⟩
theorem iX7_here_38 : DLdA mX7_here 38 0 39 := Or.inl ⟨0, by decide +kernel, rfl, rfl⟩
theorem iX7_here_39 : DGet mX7_here 39 7 3 42 := ⟨130, by decide +kernel, rfl, xf_RX7_130⟩
theorem iX7_here_42 : DLdA mX7_here 42 0 43 := Or.inl ⟨0, by decide +kernel, rfl, rfl⟩
theorem iX7_here_43 : DGet mX7_here 43 7 2 46 := ⟨127, by decide +kernel, rfl, xf_RX7_127⟩
theorem iX7_here_46 : DCm mX7_here 46 .ge 61 49 := ⟨15, by decide +kernel, by decide, rfl⟩
theorem iX7_here_49 : DLdA mX7_here 49 0 50 := Or.inl ⟨0, by decide +kernel, rfl, rfl⟩
theorem iX7_here_50 : DGet mX7_here 50 7 1 53 := ⟨13, by decide +kernel, rfl, xf_RX7_13⟩
theorem iX7_here_53 : DLdA mX7_here 53 0 54 := Or.inl ⟨0, by decide +kernel, rfl, rfl⟩
theorem iX7_here_54 : DGet mX7_here 54 7 3 57 := ⟨130, by decide +kernel, rfl, xf_RX7_130⟩
theorem iX7_here_57 : D1 mX7_here 57 .iaload 1 58 := ⟨by decide +kernel, rfl⟩
theorem iX7_here_58 : DGo mX7_here 58 62 := ⟨4, by decide +kernel, by decide⟩
theorem iX7_here_61 : DPushI mX7_here 61 0 62 := Or.inl ⟨0, by decide +kernel, by decide, rfl⟩
theorem iX7_here_62 : mX7_here.2.2.2 = some .int ∧ decode mX7_here.2.1 62 = .ok (.ireturn, 1) := ⟨rfl, by decide +kernel⟩
theorem iX7_image_0 : DPushI mX7_image 0 0 1 := Or.inl ⟨0, by decide +kernel, by decide, rfl⟩
theorem iX7_image_1 : DStI mX7_image 1 1 2 := ⟨by decide, Or.inl ⟨1, by decide +kernel, rfl, rfl⟩⟩
theorem iX7_image_2 : DLdI mX7_image 2 1 3 := Or.inl ⟨1, by decide +kernel, rfl, rfl⟩
theorem iX7_image_3 : DPushI mX7_image 3 43 5 := Or.inr (Or.inl ⟨43, by decide +kernel, by decide, rfl⟩)
theorem iX7_image_5 : DCm mX7_image 5 .ge 26 8 := ⟨21, by decide +kernel, by decide, rfl⟩
theorem iX7_image_8 : DLdA mX7_image 8 0 9 := Or.inl ⟨0, by decide +kernel, rfl, rfl⟩
theorem iX7_image_9 : DGet mX7_image 9 7 10 12 := ⟨28, by decide +kernel, rfl, xf_RX7_28⟩
theorem iX7_image_12 : DLdI mX7_image 12 1 13 := Or.inl ⟨1, by decide +kernel, rfl, rfl⟩
theorem iX7_image_13 : DLdA mX7_image 13 0 14 := Or.inl ⟨0, by decide +kernel, rfl, rfl⟩
theorem iX7_image_14 : DGet mX7_image 14 7 0 17 := ⟨7, by decide +kernel, rfl, xf_RX7_7⟩
theorem iX7_image_17 : DLdI mX7_image 17 1 18 := Or.inl ⟨1, by decide +kernel, rfl, rfl⟩
theorem iX7_image_18 : D1 mX7_image 18 .iaload 1 19 := ⟨by decide +kernel, rfl⟩
theorem iX7_image_19 : D1 mX7_image 19 .iastore 1 20 := ⟨by decide +kernel, rfl⟩
theorem iX7_image_20 : DInc mX7_image 20 1 1 23 := ⟨by decide, 1, by decide +kernel, by decide, rfl⟩
theorem iX7_image_23 : DGo mX7_image 23 2 := ⟨(-21), by decide +kernel, by decide⟩
theorem iX7_image_26 : DPushI mX7_image 26 0 27 := Or.inl ⟨0, by decide +kernel, by decide, rfl⟩
theorem iX7_image_27 : DStI mX7_image 27 1 28 := ⟨by decide, Or.inl ⟨1, by decide +kernel, rfl, rfl⟩⟩
theorem iX7_image_28 : DLdI mX7_image 28 1 29 := Or.inl ⟨1, by decide +kernel, rfl, rfl⟩
theorem iX7_image_29 : DPushI mX7_image 29 120 31 := Or.inr (Or.inl ⟨120, by decide +kernel, by decide, rfl⟩)
theorem iX7_image_31 : DCm mX7_image 31 .ge 55 34 := ⟨24, by decide +kernel, by decide, rfl⟩
theorem iX7_image_34 : DLdA mX7_image 34 0 35 := Or.inl ⟨0, by decide +kernel, rfl, rfl⟩
theorem iX7_image_35 : DGet mX7_image 35 7 10 38 := ⟨28, by decide +kernel, rfl, xf_RX7_28⟩
theorem iX7_image_38 : DPushI mX7_image 38 43 40 := Or.inr (Or.inl ⟨43, by decide +kernel, by decide, rfl⟩)
theorem iX7_image_40 : DLdI mX7_image 40 1 41 := Or.inl ⟨1, by decide +kernel, rfl, rfl⟩
theorem iX7_image_41 : D1 mX7_image 41 .iadd 1 42 := ⟨by decide +kernel, rfl⟩
theorem iX7_image_42 : DLdA mX7_image 42 0 43 := Or.inl ⟨0, by decide +kernel, rfl, rfl⟩
theorem iX7_image_43 : DGet mX7_image 43 7 7 46 := ⟨22, by decide +kernel, rfl, xf_RX7_22⟩
theorem iX7_image_46 : DLdI mX7_image 46 1 47 := Or.inl ⟨1, by decide +kernel, rfl, rfl⟩
theorem iX7_image_47 : D1 mX7_image 47 .iaload 1 48 := ⟨by decide +kernel, rfl⟩
theorem iX7_image_48 : D1 mX7_image 48 .iastore 1 49 := ⟨by decide +kernel, rfl⟩
theorem iX7_image_49 : DInc mX7_image 49 1 1 52 := ⟨by decide, 1, by decide +kernel, by decide, rfl⟩
theorem iX7_image_52 : DGo mX7_image 52 28 := ⟨(-24), by decide +kernel, by decide⟩
theorem iX7_image_55 : DLdA mX7_image 55 0 56 := Or.inl ⟨0, by decide +kernel, rfl, rfl⟩
theorem iX7_image_56 : DLdA mX7_image 56 0 57 := Or.inl ⟨0, by decide +kernel, rfl, rfl⟩
theorem iX7_image_57 : DGet mX7_image 57 7 8 60 := ⟨82, by decide +kernel, rfl, xf_RX7_82⟩
theorem iX7_image_60 : DPut mX7_image 60 7 11 .int 63 := ⟨202, by decide +kernel, rfl, RX7, TX7, 17, tyX7, rfl, by decide, bigW_at 653 (by decide +kernel) rfl, xw7, tyX7_ok, nmX7, rfl, Or.inl rfl⟩
theorem iX7_image_63 : DLdA mX7_image 63 0 64 := Or.inl ⟨0, by decide +kernel, rfl, rfl⟩
theorem iX7_image_64 : DPushI mX7_image 64 1 65 := Or.inl ⟨1, by decide +kernel, by decide, rfl⟩
theorem iX7_image_65 : DPut mX7_image 65 7 12 .boolean 68 := ⟨205, by decide +kernel, rfl, RX7, TX7, 17, tyX7, rfl, by decide, bigW_at 654 (by decide +kernel) rfl, xw7, tyX7_ok, nmX7, rfl, Or.inl rfl⟩
theorem iX7_image_68 : DPushI mX7_image 68 1 69 := Or.inl ⟨1, by decide +kernel, by decide, rfl⟩
theorem iX7_image_69 : mX7_image.2.2.2 = some .int ∧ decode mX7_image.2.1 69 = .ok (.ireturn, 1) := ⟨rfl, by decide +kernel⟩
theorem iX7_in_0 : DLdL mX7_in 0 0 1 := Or.inl ⟨0, by decide +kernel, rfl, rfl⟩
theorem iX7_in_1 : DLdL mX7_in 1 2 2 := Or.inl ⟨2, by decide +kernel, rfl, rfl⟩
theorem iX7_in_2 : D1 mX7_in 2 .lcmp 1 3 := ⟨by decide +kernel, rfl⟩
theorem iX7_in_3 : DIf mX7_in 3 .lt 17 6 := ⟨14, by decide +kernel, by decide, rfl⟩
theorem iX7_in_6 : DLdL mX7_in 6 0 7 := Or.inl ⟨0, by decide +kernel, rfl, rfl⟩
theorem iX7_in_7 : DLdL mX7_in 7 4 9 := Or.inr ⟨by decide +kernel, rfl⟩
theorem iX7_in_9 : D1 mX7_in 9 .lcmp 1 10 := ⟨by decide +kernel, rfl⟩
theorem iX7_in_10 : DIf mX7_in 10 .gt 17 13 := ⟨7, by decide +kernel, by decide, rfl⟩
theorem iX7_in_13 : DPushI mX7_in 13 1 14 := Or.inl ⟨1, by decide +kernel, by decide, rfl⟩
theorem iX7_in_14 : DGo mX7_in 14 18 := ⟨4, by decide +kernel, by decide⟩
theorem iX7_in_17 : DPushI mX7_in 17 0 18 := Or.inl ⟨0, by decide +kernel, by decide, rfl⟩
theorem iX7_in_18 : mX7_in.2.2.2 = some .boolean ∧ decode mX7_in.2.1 18 = .ok (.ireturn, 1) := ⟨rfl, by decide +kernel⟩
theorem iX7_init_0 : DLdA mX7_init 0 0 1 := Or.inl ⟨0, by decide +kernel, rfl, rfl⟩
theorem iX7_init_1 : DObj mX7_init 1 4 := ⟨1, by decide +kernel, rfl, xl_RX7_1, xl_objI, xl_objC⟩
theorem iX7_init_4 : DLdA mX7_init 4 0 5 := Or.inl ⟨0, by decide +kernel, rfl, rfl⟩
theorem iX7_init_5 : DPushI mX7_init 5 43 7 := Or.inr (Or.inl ⟨43, by decide +kernel, by decide, rfl⟩)
theorem iX7_init_7 : DNewA mX7_init 7 .int 9 := ⟨.int, by decide +kernel, rfl, xq_int, rfl⟩
theorem iX7_init_9 : DPut mX7_init 9 7 0 (.array .int) 12 := ⟨7, by decide +kernel, rfl, RX7, TX7, 17, tyX7, rfl, by decide, bigW_at 642 (by decide +kernel) rfl, xw7, tyX7_ok, nmX7, rfl, Or.inr ⟨rfl, rfl, rfl⟩⟩
theorem iX7_init_12 : DLdA mX7_init 12 0 13 := Or.inl ⟨0, by decide +kernel, rfl, rfl⟩
theorem iX7_init_13 : DPushI mX7_init 13 90 15 := Or.inr (Or.inl ⟨90, by decide +kernel, by decide, rfl⟩)
theorem iX7_init_15 : DNewA mX7_init 15 .int 17 := ⟨.int, by decide +kernel, rfl, xq_int, rfl⟩
theorem iX7_init_17 : DPut mX7_init 17 7 1 (.array .int) 20 := ⟨13, by decide +kernel, rfl, RX7, TX7, 17, tyX7, rfl, by decide, bigW_at 643 (by decide +kernel) rfl, xw7, tyX7_ok, nmX7, rfl, Or.inr ⟨rfl, rfl, rfl⟩⟩
theorem iX7_init_20 : DLdA mX7_init 20 0 21 := Or.inl ⟨0, by decide +kernel, rfl, rfl⟩
theorem iX7_init_21 : DPushI mX7_init 21 18 23 := Or.inr (Or.inl ⟨18, by decide +kernel, by decide, rfl⟩)
theorem iX7_init_23 : DNewA mX7_init 23 .int 25 := ⟨.int, by decide +kernel, rfl, xq_int, rfl⟩
theorem iX7_init_25 : DPut mX7_init 25 7 5 (.array .int) 28 := ⟨16, by decide +kernel, rfl, RX7, TX7, 17, tyX7, rfl, by decide, bigW_at 647 (by decide +kernel) rfl, xw7, tyX7_ok, nmX7, rfl, Or.inr ⟨rfl, rfl, rfl⟩⟩
theorem iX7_init_28 : DLdA mX7_init 28 0 29 := Or.inl ⟨0, by decide +kernel, rfl, rfl⟩
theorem iX7_init_29 : DPushI mX7_init 29 16 31 := Or.inr (Or.inl ⟨16, by decide +kernel, by decide, rfl⟩)
theorem iX7_init_31 : DNewA mX7_init 31 .int 33 := ⟨.int, by decide +kernel, rfl, xq_int, rfl⟩
theorem iX7_init_33 : DPut mX7_init 33 7 6 (.array .int) 36 := ⟨19, by decide +kernel, rfl, RX7, TX7, 17, tyX7, rfl, by decide, bigW_at 648 (by decide +kernel) rfl, xw7, tyX7_ok, nmX7, rfl, Or.inr ⟨rfl, rfl, rfl⟩⟩
theorem iX7_init_36 : DLdA mX7_init 36 0 37 := Or.inl ⟨0, by decide +kernel, rfl, rfl⟩
theorem iX7_init_37 : DPushI mX7_init 37 120 39 := Or.inr (Or.inl ⟨120, by decide +kernel, by decide, rfl⟩)
theorem iX7_init_39 : DNewA mX7_init 39 .int 41 := ⟨.int, by decide +kernel, rfl, xq_int, rfl⟩
theorem iX7_init_41 : DPut mX7_init 41 7 7 (.array .int) 44 := ⟨22, by decide +kernel, rfl, RX7, TX7, 17, tyX7, rfl, by decide, bigW_at 649 (by decide +kernel) rfl, xw7, tyX7_ok, nmX7, rfl, Or.inr ⟨rfl, rfl, rfl⟩⟩
theorem iX7_init_44 : DLdA mX7_init 44 0 45 := Or.inl ⟨0, by decide +kernel, rfl, rfl⟩
theorem iX7_init_45 : DPushI mX7_init 45 43 47 := Or.inr (Or.inl ⟨43, by decide +kernel, by decide, rfl⟩)
theorem iX7_init_47 : DNewA mX7_init 47 .int 49 := ⟨.int, by decide +kernel, rfl, xq_int, rfl⟩
theorem iX7_init_49 : DPut mX7_init 49 7 9 (.array .int) 52 := ⟨25, by decide +kernel, rfl, RX7, TX7, 17, tyX7, rfl, by decide, bigW_at 651 (by decide +kernel) rfl, xw7, tyX7_ok, nmX7, rfl, Or.inr ⟨rfl, rfl, rfl⟩⟩
theorem iX7_init_52 : DLdA mX7_init 52 0 53 := Or.inl ⟨0, by decide +kernel, rfl, rfl⟩
theorem iX7_init_53 : DPushI mX7_init 53 163 56 := Or.inr (Or.inr (Or.inl ⟨163, by decide +kernel, by decide, rfl⟩))
theorem iX7_init_56 : DNewA mX7_init 56 .int 58 := ⟨.int, by decide +kernel, rfl, xq_int, rfl⟩
theorem iX7_init_58 : DPut mX7_init 58 7 10 (.array .int) 61 := ⟨28, by decide +kernel, rfl, RX7, TX7, 17, tyX7, rfl, by decide, bigW_at 652 (by decide +kernel) rfl, xw7, tyX7_ok, nmX7, rfl, Or.inr ⟨rfl, rfl, rfl⟩⟩
theorem iX7_init_61 : DLdA mX7_init 61 0 62 := Or.inl ⟨0, by decide +kernel, rfl, rfl⟩
theorem iX7_init_62 : DPushI mX7_init 62 4 63 := Or.inl ⟨4, by decide +kernel, by decide, rfl⟩
theorem iX7_init_63 : DNewA mX7_init 63 .int 65 := ⟨.int, by decide +kernel, rfl, xq_int, rfl⟩
theorem iX7_init_65 : DPut mX7_init 65 7 13 (.array .int) 68 := ⟨31, by decide +kernel, rfl, RX7, TX7, 17, tyX7, rfl, by decide, bigW_at 655 (by decide +kernel) rfl, xw7, tyX7_ok, nmX7, rfl, Or.inr ⟨rfl, rfl, rfl⟩⟩
theorem iX7_init_68 : DLdA mX7_init 68 0 69 := Or.inl ⟨0, by decide +kernel, rfl, rfl⟩
theorem iX7_init_69 : DPushI mX7_init 69 4 70 := Or.inl ⟨4, by decide +kernel, by decide, rfl⟩
theorem iX7_init_70 : DNewA mX7_init 70 .int 72 := ⟨.int, by decide +kernel, rfl, xq_int, rfl⟩
theorem iX7_init_72 : DPut mX7_init 72 7 14 (.array .int) 75 := ⟨34, by decide +kernel, rfl, RX7, TX7, 17, tyX7, rfl, by decide, bigW_at 656 (by decide +kernel) rfl, xw7, tyX7_ok, nmX7, rfl, Or.inr ⟨rfl, rfl, rfl⟩⟩
theorem iX7_init_75 : DLdA mX7_init 75 0 76 := Or.inl ⟨0, by decide +kernel, rfl, rfl⟩
theorem iX7_init_76 : DPushI mX7_init 76 96 78 := Or.inr (Or.inl ⟨96, by decide +kernel, by decide, rfl⟩)
theorem iX7_init_78 : DNewA mX7_init 78 .long 80 := ⟨.long, by decide +kernel, rfl, xq_long, rfl⟩
theorem iX7_init_80 : DPut mX7_init 80 7 15 (.array .long) 83 := ⟨37, by decide +kernel, rfl, RX7, TX7, 17, tyX7, rfl, by decide, bigW_at 657 (by decide +kernel) rfl, xw7, tyX7_ok, nmX7, rfl, Or.inr ⟨rfl, rfl, rfl⟩⟩
theorem iX7_init_83 : DLdA mX7_init 83 0 84 := Or.inl ⟨0, by decide +kernel, rfl, rfl⟩
theorem iX7_init_84 : DPushI mX7_init 84 24 86 := Or.inr (Or.inl ⟨24, by decide +kernel, by decide, rfl⟩)
theorem iX7_init_86 : DNewA mX7_init 86 .long 88 := ⟨.long, by decide +kernel, rfl, xq_long, rfl⟩
theorem iX7_init_88 : DPut mX7_init 88 7 16 (.array .long) 91 := ⟨41, by decide +kernel, rfl, RX7, TX7, 17, tyX7, rfl, by decide, bigW_at 658 (by decide +kernel) rfl, xw7, tyX7_ok, nmX7, rfl, Or.inr ⟨rfl, rfl, rfl⟩⟩
theorem iX7_init_91 : DLdA mX7_init 91 0 92 := Or.inl ⟨0, by decide +kernel, rfl, rfl⟩
theorem iX7_init_92 : DGet mX7_init 92 7 0 95 := ⟨7, by decide +kernel, rfl, xf_RX7_7⟩
theorem iX7_init_95 : DPushI mX7_init 95 6 97 := Or.inr (Or.inl ⟨6, by decide +kernel, by decide, rfl⟩)
theorem iX7_init_97 : DPushI mX7_init 97 5 98 := Or.inl ⟨5, by decide +kernel, by decide, rfl⟩
theorem iX7_init_98 : D1 mX7_init 98 .iastore 1 99 := ⟨by decide +kernel, rfl⟩
theorem iX7_init_99 : DLdA mX7_init 99 0 100 := Or.inl ⟨0, by decide +kernel, rfl, rfl⟩
theorem iX7_init_100 : DGet mX7_init 100 7 0 103 := ⟨7, by decide +kernel, rfl, xf_RX7_7⟩
theorem iX7_init_103 : DPushI mX7_init 103 7 105 := Or.inr (Or.inl ⟨7, by decide +kernel, by decide, rfl⟩)
theorem iX7_init_105 : DPushI mX7_init 105 1 106 := Or.inl ⟨1, by decide +kernel, by decide, rfl⟩
theorem iX7_init_106 : D1 mX7_init 106 .iastore 1 107 := ⟨by decide +kernel, rfl⟩
theorem iX7_init_107 : DLdA mX7_init 107 0 108 := Or.inl ⟨0, by decide +kernel, rfl, rfl⟩
theorem iX7_init_108 : DGet mX7_init 108 7 0 111 := ⟨7, by decide +kernel, rfl, xf_RX7_7⟩
theorem iX7_init_111 : DPushI mX7_init 111 8 113 := Or.inr (Or.inl ⟨8, by decide +kernel, by decide, rfl⟩)
theorem iX7_init_113 : DPushI mX7_init 113 1 114 := Or.inl ⟨1, by decide +kernel, by decide, rfl⟩
theorem iX7_init_114 : D1 mX7_init 114 .iastore 1 115 := ⟨by decide +kernel, rfl⟩
theorem iX7_init_115 : DPushI mX7_init 115 0 116 := Or.inl ⟨0, by decide +kernel, by decide, rfl⟩
theorem iX7_init_116 : DStI mX7_init 116 1 117 := ⟨by decide, Or.inl ⟨1, by decide +kernel, rfl, rfl⟩⟩
theorem iX7_init_117 : DLdI mX7_init 117 1 118 := Or.inl ⟨1, by decide +kernel, rfl, rfl⟩
theorem iX7_init_118 : DPushI mX7_init 118 4 119 := Or.inl ⟨4, by decide +kernel, by decide, rfl⟩
theorem iX7_init_119 : DCm mX7_init 119 .ge 135 122 := ⟨16, by decide +kernel, by decide, rfl⟩
theorem iX7_init_122 : DLdA mX7_init 122 0 123 := Or.inl ⟨0, by decide +kernel, rfl, rfl⟩
theorem iX7_init_123 : DGet mX7_init 123 7 13 126 := ⟨31, by decide +kernel, rfl, xf_RX7_31⟩
theorem iX7_init_126 : DLdI mX7_init 126 1 127 := Or.inl ⟨1, by decide +kernel, rfl, rfl⟩
theorem iX7_init_127 : DPushI mX7_init 127 (-1) 128 := Or.inl ⟨(-1), by decide +kernel, by decide, rfl⟩
theorem iX7_init_128 : D1 mX7_init 128 .iastore 1 129 := ⟨by decide +kernel, rfl⟩
theorem iX7_init_129 : DInc mX7_init 129 1 1 132 := ⟨by decide, 1, by decide +kernel, by decide, rfl⟩
theorem iX7_init_132 : DGo mX7_init 132 117 := ⟨(-15), by decide +kernel, by decide⟩
theorem iX7_init_135 : mX7_init.2.2.2 = none ∧ decode mX7_init.2.1 135 = .ok (.return_, 1) := ⟨rfl, by decide +kernel⟩
theorem iX7_isLadder_0 : DLdI mX7_isLadder 0 1 1 := Or.inl ⟨1, by decide +kernel, rfl, rfl⟩
theorem iX7_isLadder_1 : D1 mX7_isLadder 1 .i2l 1 2 := ⟨by decide +kernel, rfl⟩
theorem iX7_isLadder_2 : DPushL mX7_isLadder 2 0 3 := Or.inl ⟨0, by decide +kernel, by decide, rfl⟩
theorem iX7_isLadder_3 : DLdA mX7_isLadder 3 0 4 := Or.inl ⟨0, by decide +kernel, rfl, rfl⟩
theorem iX7_isLadder_4 : DGet mX7_isLadder 4 7 0 7 := ⟨7, by decide +kernel, rfl, xf_RX7_7⟩
theorem iX7_isLadder_7 : DPushI mX7_isLadder 7 1 8 := Or.inl ⟨1, by decide +kernel, by decide, rfl⟩
theorem iX7_isLadder_8 : D1 mX7_isLadder 8 .iaload 1 9 := ⟨by decide +kernel, rfl⟩
theorem iX7_isLadder_9 : DPushI mX7_isLadder 9 1 10 := Or.inl ⟨1, by decide +kernel, by decide, rfl⟩
theorem iX7_isLadder_10 : D1 mX7_isLadder 10 .isub 1 11 := ⟨by decide +kernel, rfl⟩
theorem iX7_isLadder_11 : D1 mX7_isLadder 11 .i2l 1 12 := ⟨by decide +kernel, rfl⟩
theorem iX7_isLadder_12 : DInvS mX7_isLadder 12 mX7_in 3 15 := ⟨44, by decide +kernel, rfl, Or.inl xl_RX7_44, xt_X7_in, xm_X7_in⟩
theorem iX7_isLadder_15 : mX7_isLadder.2.2.2 = some .boolean ∧ decode mX7_isLadder.2.1 15 = .ok (.ireturn, 1) := ⟨rfl, by decide +kernel⟩
theorem iX7_isLane_0 : DLdI mX7_isLane 0 0 1 := Or.inl ⟨0, by decide +kernel, rfl, rfl⟩
theorem iX7_isLane_1 : D1 mX7_isLane 1 .i2l 1 2 := ⟨by decide +kernel, rfl⟩
theorem iX7_isLane_2 : DPushL mX7_isLane 2 0 3 := Or.inl ⟨0, by decide +kernel, by decide, rfl⟩
theorem iX7_isLane_3 : DPushL mX7_isLane 3 3 6 := Or.inr ⟨208, by decide +kernel, bigW_at 938 (by decide +kernel) rfl, rfl⟩
theorem iX7_isLane_6 : DInvS mX7_isLane 6 mX7_in 3 9 := ⟨44, by decide +kernel, rfl, Or.inl xl_RX7_44, xt_X7_in, xm_X7_in⟩
theorem iX7_isLane_9 : mX7_isLane.2.2.2 = some .boolean ∧ decode mX7_isLane.2.1 9 = .ok (.ireturn, 1) := ⟨rfl, by decide +kernel⟩
theorem iX7_isReached_0 : DLdA mX7_isReached 0 0 1 := Or.inl ⟨0, by decide +kernel, rfl, rfl⟩
theorem iX7_isReached_1 : DLdI mX7_isReached 1 1 2 := Or.inl ⟨1, by decide +kernel, rfl, rfl⟩
theorem iX7_isReached_2 : DPushI mX7_isReached 2 0 3 := Or.inl ⟨0, by decide +kernel, by decide, rfl⟩
theorem iX7_isReached_3 : DInvV mX7_isReached 3 mX7_ofLadder 7 2 6 := ⟨48, TX7, 17, by decide +kernel, rfl, rfl, xl_RX7_48, xi_X7_ofLadder, xs_X7_ofLadder, xm_X7_ofLadder⟩
theorem iX7_isReached_6 : DLdA mX7_isReached 6 0 7 := Or.inl ⟨0, by decide +kernel, rfl, rfl⟩
theorem iX7_isReached_7 : DLdI mX7_isReached 7 1 8 := Or.inl ⟨1, by decide +kernel, rfl, rfl⟩
theorem iX7_isReached_8 : DPushI mX7_isReached 8 1 9 := Or.inl ⟨1, by decide +kernel, by decide, rfl⟩
theorem iX7_isReached_9 : DInvV mX7_isReached 9 mX7_ofLadder 7 2 12 := ⟨48, TX7, 17, by decide +kernel, rfl, rfl, xl_RX7_48, xi_X7_ofLadder, xs_X7_ofLadder, xm_X7_ofLadder⟩
theorem iX7_isReached_12 : DLdI mX7_isReached 12 3 13 := Or.inl ⟨3, by decide +kernel, rfl, rfl⟩
theorem iX7_isReached_13 : DInvS mX7_isReached 13 mX7_reaches 3 16 := ⟨52, by decide +kernel, rfl, Or.inl xl_RX7_52, xt_X7_reaches, xm_X7_reaches⟩
theorem iX7_isReached_16 : DLdA mX7_isReached 16 0 17 := Or.inl ⟨0, by decide +kernel, rfl, rfl⟩
theorem iX7_isReached_17 : DLdI mX7_isReached 17 2 18 := Or.inl ⟨2, by decide +kernel, rfl, rfl⟩
theorem iX7_isReached_18 : DPushI mX7_isReached 18 0 19 := Or.inl ⟨0, by decide +kernel, by decide, rfl⟩
theorem iX7_isReached_19 : DInvV mX7_isReached 19 mX7_ofTree 7 2 22 := ⟨56, TX7, 17, by decide +kernel, rfl, rfl, xl_RX7_56, xi_X7_ofTree, xs_X7_ofTree, xm_X7_ofTree⟩
theorem iX7_isReached_22 : DCm mX7_isReached 22 .lt 29 25 := ⟨7, by decide +kernel, by decide, rfl⟩
theorem iX7_isReached_25 : DPushI mX7_isReached 25 1 26 := Or.inl ⟨1, by decide +kernel, by decide, rfl⟩
theorem iX7_isReached_26 : DGo mX7_isReached 26 30 := ⟨4, by decide +kernel, by decide⟩
theorem iX7_isReached_29 : DPushI mX7_isReached 29 0 30 := Or.inl ⟨0, by decide +kernel, by decide, rfl⟩
theorem iX7_isReached_30 : mX7_isReached.2.2.2 = some .boolean ∧ decode mX7_isReached.2.1 30 = .ok (.ireturn, 1) := ⟨rfl, by decide +kernel⟩
theorem iX7_isRipe_0 : DLdA mX7_isRipe 0 0 1 := Or.inl ⟨0, by decide +kernel, rfl, rfl⟩
theorem iX7_isRipe_1 : DGet mX7_isRipe 1 7 0 4 := ⟨7, by decide +kernel, rfl, xf_RX7_7⟩
theorem iX7_isRipe_4 : DPushI mX7_isRipe 4 2 5 := Or.inl ⟨2, by decide +kernel, by decide, rfl⟩
theorem iX7_isRipe_5 : D1 mX7_isRipe 5 .iaload 1 6 := ⟨by decide +kernel, rfl⟩
theorem iX7_isRipe_6 : DLdA mX7_isRipe 6 0 7 := Or.inl ⟨0, by decide +kernel, rfl, rfl⟩
theorem iX7_isRipe_7 : DLdI mX7_isRipe 7 1 8 := Or.inl ⟨1, by decide +kernel, rfl, rfl⟩
theorem iX7_isRipe_8 : DPushI mX7_isRipe 8 2 9 := Or.inl ⟨2, by decide +kernel, by decide, rfl⟩
theorem iX7_isRipe_9 : DInvV mX7_isRipe 9 mX7_ofTree 7 2 12 := ⟨56, TX7, 17, by decide +kernel, rfl, rfl, xl_RX7_56, xi_X7_ofTree, xs_X7_ofTree, xm_X7_ofTree⟩
theorem iX7_isRipe_12 : DCm mX7_isRipe 12 .lt 19 15 := ⟨7, by decide +kernel, by decide, rfl⟩
theorem iX7_isRipe_15 : DPushI mX7_isRipe 15 1 16 := Or.inl ⟨1, by decide +kernel, by decide, rfl⟩
theorem iX7_isRipe_16 : DGo mX7_isRipe 16 20 := ⟨4, by decide +kernel, by decide⟩
theorem iX7_isRipe_19 : DPushI mX7_isRipe 19 0 20 := Or.inl ⟨0, by decide +kernel, by decide, rfl⟩
theorem iX7_isRipe_20 : mX7_isRipe.2.2.2 = some .boolean ∧ decode mX7_isRipe.2.1 20 = .ok (.ireturn, 1) := ⟨rfl, by decide +kernel⟩
theorem iX7_isSheet_0 : DLdI mX7_isSheet 0 0 1 := Or.inl ⟨0, by decide +kernel, rfl, rfl⟩
theorem iX7_isSheet_1 : D1 mX7_isSheet 1 .i2l 1 2 := ⟨by decide +kernel, rfl⟩
theorem iX7_isSheet_2 : DPushL mX7_isSheet 2 0 3 := Or.inl ⟨0, by decide +kernel, by decide, rfl⟩
theorem iX7_isSheet_3 : DPushL mX7_isSheet 3 3 6 := Or.inr ⟨208, by decide +kernel, bigW_at 938 (by decide +kernel) rfl, rfl⟩
theorem iX7_isSheet_6 : DInvS mX7_isSheet 6 mX7_in 3 9 := ⟨44, by decide +kernel, rfl, Or.inl xl_RX7_44, xt_X7_in, xm_X7_in⟩
theorem iX7_isSheet_9 : mX7_isSheet.2.2.2 = some .boolean ∧ decode mX7_isSheet.2.1 9 = .ok (.ireturn, 1) := ⟨rfl, by decide +kernel⟩
theorem iX7_isTree_0 : DLdI mX7_isTree 0 1 1 := Or.inl ⟨1, by decide +kernel, rfl, rfl⟩
theorem iX7_isTree_1 : D1 mX7_isTree 1 .i2l 1 2 := ⟨by decide +kernel, rfl⟩
theorem iX7_isTree_2 : DPushL mX7_isTree 2 0 3 := Or.inl ⟨0, by decide +kernel, by decide, rfl⟩
theorem iX7_isTree_3 : DLdA mX7_isTree 3 0 4 := Or.inl ⟨0, by decide +kernel, rfl, rfl⟩
theorem iX7_isTree_4 : DGet mX7_isTree 4 7 0 7 := ⟨7, by decide +kernel, rfl, xf_RX7_7⟩
theorem iX7_isTree_7 : DPushI mX7_isTree 7 0 8 := Or.inl ⟨0, by decide +kernel, by decide, rfl⟩
theorem iX7_isTree_8 : D1 mX7_isTree 8 .iaload 1 9 := ⟨by decide +kernel, rfl⟩
theorem iX7_isTree_9 : DPushI mX7_isTree 9 1 10 := Or.inl ⟨1, by decide +kernel, by decide, rfl⟩
theorem iX7_isTree_10 : D1 mX7_isTree 10 .isub 1 11 := ⟨by decide +kernel, rfl⟩
theorem iX7_isTree_11 : D1 mX7_isTree 11 .i2l 1 12 := ⟨by decide +kernel, rfl⟩
theorem iX7_isTree_12 : DInvS mX7_isTree 12 mX7_in 3 15 := ⟨44, by decide +kernel, rfl, Or.inl xl_RX7_44, xt_X7_in, xm_X7_in⟩
theorem iX7_isTree_15 : mX7_isTree.2.2.2 = some .boolean ∧ decode mX7_isTree.2.1 15 = .ok (.ireturn, 1) := ⟨rfl, by decide +kernel⟩
theorem iX7_item_0 : DLdI mX7_item 0 1 1 := Or.inl ⟨1, by decide +kernel, rfl, rfl⟩
theorem iX7_item_1 : DInvS mX7_item 1 mX7_isSheet 1 4 := ⟨210, by decide +kernel, rfl, Or.inl xl_RX7_210, xt_X7_isSheet, xm_X7_isSheet⟩
theorem iX7_item_4 : DIf mX7_item 4 .eq 14 7 := ⟨10, by decide +kernel, by decide, rfl⟩
theorem iX7_item_7 : DLdI mX7_item 7 2 8 := Or.inl ⟨2, by decide +kernel, rfl, rfl⟩
theorem iX7_item_8 : DInvS mX7_item 8 mX7_isLane 1 11 := ⟨213, by decide +kernel, rfl, Or.inl xl_RX7_213, xt_X7_isLane, xm_X7_isLane⟩
theorem iX7_item_11 : DIf mX7_item 11 .ne 16 14 := ⟨5, by decide +kernel, by decide, rfl⟩
theorem iX7_item_14 : DPushI mX7_item 14 (-1) 15 := Or.inl ⟨(-1), by decide +kernel, by decide, rfl⟩
theorem iX7_item_15 : mX7_item.2.2.2 = some .int ∧ decode mX7_item.2.1 15 = .ok (.ireturn, 1) := ⟨rfl, by decide +kernel⟩
theorem iX7_item_16 : DLdA mX7_item 16 0 17 := Or.inl ⟨0, by decide +kernel, rfl, rfl⟩
theorem iX7_item_17 : DLdI mX7_item 17 1 18 := Or.inl ⟨1, by decide +kernel, rfl, rfl⟩
theorem iX7_item_18 : DLdI mX7_item 18 2 19 := Or.inl ⟨2, by decide +kernel, rfl, rfl⟩
theorem iX7_item_19 : DLdI mX7_item 19 3 20 := Or.inl ⟨3, by decide +kernel, rfl, rfl⟩
theorem iX7_item_20 : DPushI mX7_item 20 1 21 := Or.inl ⟨1, by decide +kernel, by decide, rfl⟩
theorem iX7_item_21 : DInvV mX7_item 21 mX7_why 7 4 24 := ⟨218, TX7, 17, by decide +kernel, rfl, rfl, xl_RX7_218, xi_X7_why, xs_X7_why, xm_X7_why⟩
theorem iX7_item_24 : DStI mX7_item 24 6 26 := ⟨by decide, Or.inr ⟨by decide +kernel, rfl⟩⟩
theorem iX7_item_26 : DLdI mX7_item 26 6 28 := Or.inr ⟨by decide +kernel, rfl⟩
theorem iX7_item_28 : DIf mX7_item 28 .ge 34 31 := ⟨6, by decide +kernel, by decide, rfl⟩
theorem iX7_item_31 : DLdI mX7_item 31 6 33 := Or.inr ⟨by decide +kernel, rfl⟩
theorem iX7_item_33 : mX7_item.2.2.2 = some .int ∧ decode mX7_item.2.1 33 = .ok (.ireturn, 1) := ⟨rfl, by decide +kernel⟩
theorem iX7_item_34 : DLdA mX7_item 34 0 35 := Or.inl ⟨0, by decide +kernel, rfl, rfl⟩
theorem iX7_item_35 : DGet mX7_item 35 7 15 38 := ⟨37, by decide +kernel, rfl, xf_RX7_37⟩
theorem iX7_item_38 : DPushI mX7_item 38 24 40 := Or.inr (Or.inl ⟨24, by decide +kernel, by decide, rfl⟩)
theorem iX7_item_40 : DLdI mX7_item 40 1 41 := Or.inl ⟨1, by decide +kernel, rfl, rfl⟩
theorem iX7_item_41 : D1 mX7_item 41 .imul 1 42 := ⟨by decide +kernel, rfl⟩
theorem iX7_item_42 : DLdI mX7_item 42 3 43 := Or.inl ⟨3, by decide +kernel, rfl, rfl⟩
theorem iX7_item_43 : D1 mX7_item 43 .iadd 1 44 := ⟨by decide +kernel, rfl⟩
theorem iX7_item_44 : DLdI mX7_item 44 2 45 := Or.inl ⟨2, by decide +kernel, rfl, rfl⟩
theorem iX7_item_45 : DIf mX7_item 45 .ne 56 48 := ⟨11, by decide +kernel, by decide, rfl⟩
theorem iX7_item_48 : DLdL mX7_item 48 4 50 := Or.inr ⟨by decide +kernel, rfl⟩
theorem iX7_item_50 : D1 mX7_item 50 .l2i 1 51 := ⟨by decide +kernel, rfl⟩
theorem iX7_item_51 : D1 mX7_item 51 .i2b 1 52 := ⟨by decide +kernel, rfl⟩
theorem iX7_item_52 : D1 mX7_item 52 .i2l 1 53 := ⟨by decide +kernel, rfl⟩
theorem iX7_item_53 : DGo mX7_item 53 83 := ⟨30, by decide +kernel, by decide⟩
theorem iX7_item_56 : DLdI mX7_item 56 2 57 := Or.inl ⟨2, by decide +kernel, rfl, rfl⟩
theorem iX7_item_57 : DPushI mX7_item 57 1 58 := Or.inl ⟨1, by decide +kernel, by decide, rfl⟩
theorem iX7_item_58 : DCm mX7_item 58 .ne 69 61 := ⟨11, by decide +kernel, by decide, rfl⟩
theorem iX7_item_61 : DLdL mX7_item 61 4 63 := Or.inr ⟨by decide +kernel, rfl⟩
theorem iX7_item_63 : D1 mX7_item 63 .l2i 1 64 := ⟨by decide +kernel, rfl⟩
theorem iX7_item_64 : D1 mX7_item 64 .i2s 1 65 := ⟨by decide +kernel, rfl⟩
theorem iX7_item_65 : D1 mX7_item 65 .i2l 1 66 := ⟨by decide +kernel, rfl⟩
theorem iX7_item_66 : DGo mX7_item 66 83 := ⟨17, by decide +kernel, by decide⟩
theorem iX7_item_69 : DLdI mX7_item 69 2 70 := Or.inl ⟨2, by decide +kernel, rfl, rfl⟩
theorem iX7_item_70 : DPushI mX7_item 70 2 71 := Or.inl ⟨2, by decide +kernel, by decide, rfl⟩
theorem iX7_item_71 : DCm mX7_item 71 .ne 81 74 := ⟨10, by decide +kernel, by decide, rfl⟩
theorem iX7_item_74 : DLdL mX7_item 74 4 76 := Or.inr ⟨by decide +kernel, rfl⟩
theorem iX7_item_76 : D1 mX7_item 76 .l2i 1 77 := ⟨by decide +kernel, rfl⟩
theorem iX7_item_77 : D1 mX7_item 77 .i2l 1 78 := ⟨by decide +kernel, rfl⟩
theorem iX7_item_78 : DGo mX7_item 78 83 := ⟨5, by decide +kernel, by decide⟩
theorem iX7_item_81 : DLdL mX7_item 81 4 83 := Or.inr ⟨by decide +kernel, rfl⟩
theorem iX7_item_83 : D1 mX7_item 83 .lastore 1 84 := ⟨by decide +kernel, rfl⟩
theorem iX7_item_84 : DPushI mX7_item 84 1 85 := Or.inl ⟨1, by decide +kernel, by decide, rfl⟩
theorem iX7_item_85 : mX7_item.2.2.2 = some .int ∧ decode mX7_item.2.1 85 = .ok (.ireturn, 1) := ⟨rfl, by decide +kernel⟩
theorem iX7_ladder_0 : DLdI mX7_ladder 0 1 1 := Or.inl ⟨1, by decide +kernel, rfl, rfl⟩
theorem iX7_ladder_1 : D1 mX7_ladder 1 .i2l 1 2 := ⟨by decide +kernel, rfl⟩
theorem iX7_ladder_2 : DPushL mX7_ladder 2 0 3 := Or.inl ⟨0, by decide +kernel, by decide, rfl⟩
theorem iX7_ladder_3 : DPushL mX7_ladder 3 4 6 := Or.inr ⟨94, by decide +kernel, bigW_at 711 (by decide +kernel) rfl, rfl⟩
theorem iX7_ladder_6 : DInvS mX7_ladder 6 mX7_in 3 9 := ⟨44, by decide +kernel, rfl, Or.inl xl_RX7_44, xt_X7_in, xm_X7_in⟩
theorem iX7_ladder_9 : DIf mX7_ladder 9 .eq 36 12 := ⟨27, by decide +kernel, by decide, rfl⟩
theorem iX7_ladder_12 : DLdI mX7_ladder 12 2 13 := Or.inl ⟨2, by decide +kernel, rfl, rfl⟩
theorem iX7_ladder_13 : D1 mX7_ladder 13 .i2l 1 14 := ⟨by decide +kernel, rfl⟩
theorem iX7_ladder_14 : DPushL mX7_ladder 14 1 15 := Or.inl ⟨1, by decide +kernel, by decide, rfl⟩
theorem iX7_ladder_15 : DPushL mX7_ladder 15 9 18 := Or.inr ⟨96, by decide +kernel, bigW_at 712 (by decide +kernel) rfl, rfl⟩
theorem iX7_ladder_18 : DInvS mX7_ladder 18 mX7_in 3 21 := ⟨44, by decide +kernel, rfl, Or.inl xl_RX7_44, xt_X7_in, xm_X7_in⟩
theorem iX7_ladder_21 : DIf mX7_ladder 21 .eq 36 24 := ⟨15, by decide +kernel, by decide, rfl⟩
theorem iX7_ladder_24 : DLdI mX7_ladder 24 3 25 := Or.inl ⟨3, by decide +kernel, rfl, rfl⟩
theorem iX7_ladder_25 : D1 mX7_ladder 25 .i2l 1 26 := ⟨by decide +kernel, rfl⟩
theorem iX7_ladder_26 : DPushL mX7_ladder 26 0 27 := Or.inl ⟨0, by decide +kernel, by decide, rfl⟩
theorem iX7_ladder_27 : DPushL mX7_ladder 27 9 30 := Or.inr ⟨96, by decide +kernel, bigW_at 712 (by decide +kernel) rfl, rfl⟩
theorem iX7_ladder_30 : DInvS mX7_ladder 30 mX7_in 3 33 := ⟨44, by decide +kernel, rfl, Or.inl xl_RX7_44, xt_X7_in, xm_X7_in⟩
theorem iX7_ladder_33 : DIf mX7_ladder 33 .ne 38 36 := ⟨5, by decide +kernel, by decide, rfl⟩
theorem iX7_ladder_36 : DPushI mX7_ladder 36 (-1) 37 := Or.inl ⟨(-1), by decide +kernel, by decide, rfl⟩
theorem iX7_ladder_37 : mX7_ladder.2.2.2 = some .int ∧ decode mX7_ladder.2.1 37 = .ok (.ireturn, 1) := ⟨rfl, by decide +kernel⟩
theorem iX7_ladder_38 : DLdA mX7_ladder 38 0 39 := Or.inl ⟨0, by decide +kernel, rfl, rfl⟩
theorem iX7_ladder_39 : DGet mX7_ladder 39 7 0 42 := ⟨7, by decide +kernel, rfl, xf_RX7_7⟩
theorem iX7_ladder_42 : DPushI mX7_ladder 42 1 43 := Or.inl ⟨1, by decide +kernel, by decide, rfl⟩
theorem iX7_ladder_43 : D1 mX7_ladder 43 .iaload 1 44 := ⟨by decide +kernel, rfl⟩
theorem iX7_ladder_44 : DPushI mX7_ladder 44 4 45 := Or.inl ⟨4, by decide +kernel, by decide, rfl⟩
theorem iX7_ladder_45 : DCm mX7_ladder 45 .ne 51 48 := ⟨6, by decide +kernel, by decide, rfl⟩
theorem iX7_ladder_48 : DPushI mX7_ladder 48 (-3) 50 := Or.inr (Or.inl ⟨(-3), by decide +kernel, by decide, rfl⟩)
theorem iX7_ladder_50 : mX7_ladder.2.2.2 = some .int ∧ decode mX7_ladder.2.1 50 = .ok (.ireturn, 1) := ⟨rfl, by decide +kernel⟩
theorem iX7_ladder_51 : DLdA mX7_ladder 51 0 52 := Or.inl ⟨0, by decide +kernel, rfl, rfl⟩
theorem iX7_ladder_52 : DLdI mX7_ladder 52 1 53 := Or.inl ⟨1, by decide +kernel, rfl, rfl⟩
theorem iX7_ladder_53 : DLdI mX7_ladder 53 2 54 := Or.inl ⟨2, by decide +kernel, rfl, rfl⟩
theorem iX7_ladder_54 : DLdI mX7_ladder 54 3 55 := Or.inl ⟨3, by decide +kernel, rfl, rfl⟩
theorem iX7_ladder_55 : DPushI mX7_ladder 55 (-4) 57 := Or.inr (Or.inl ⟨(-4), by decide +kernel, by decide, rfl⟩)
theorem iX7_ladder_57 : DInvV mX7_ladder 57 mX7_ladderComes 7 4 60 := ⟨98, TX7, 17, by decide +kernel, rfl, rfl, xl_RX7_98, xi_X7_ladderComes, xs_X7_ladderComes, xm_X7_ladderComes⟩
theorem iX7_ladder_60 : DLdA mX7_ladder 60 0 61 := Or.inl ⟨0, by decide +kernel, rfl, rfl⟩
theorem iX7_ladder_61 : DGet mX7_ladder 61 7 0 64 := ⟨7, by decide +kernel, rfl, xf_RX7_7⟩
theorem iX7_ladder_64 : DPushI mX7_ladder 64 1 65 := Or.inl ⟨1, by decide +kernel, by decide, rfl⟩
theorem iX7_ladder_65 : D1 mX7_ladder 65 .iaload 1 66 := ⟨by decide +kernel, rfl⟩
theorem iX7_ladder_66 : DPushI mX7_ladder 66 1 67 := Or.inl ⟨1, by decide +kernel, by decide, rfl⟩
theorem iX7_ladder_67 : D1 mX7_ladder 67 .isub 1 68 := ⟨by decide +kernel, rfl⟩
theorem iX7_ladder_68 : mX7_ladder.2.2.2 = some .int ∧ decode mX7_ladder.2.1 68 = .ok (.ireturn, 1) := ⟨rfl, by decide +kernel⟩
theorem iX7_ladderComes_0 : DPushI mX7_ladderComes 0 27 2 := Or.inr (Or.inl ⟨27, by decide +kernel, by decide, rfl⟩)
theorem iX7_ladderComes_2 : DPushI mX7_ladderComes 2 4 3 := Or.inl ⟨4, by decide +kernel, by decide, rfl⟩
theorem iX7_ladderComes_3 : DLdA mX7_ladderComes 3 0 4 := Or.inl ⟨0, by decide +kernel, rfl, rfl⟩
theorem iX7_ladderComes_4 : DGet mX7_ladderComes 4 7 0 7 := ⟨7, by decide +kernel, rfl, xf_RX7_7⟩
theorem iX7_ladderComes_7 : DPushI mX7_ladderComes 7 1 8 := Or.inl ⟨1, by decide +kernel, by decide, rfl⟩
theorem iX7_ladderComes_8 : D1 mX7_ladderComes 8 .iaload 1 9 := ⟨by decide +kernel, rfl⟩
theorem iX7_ladderComes_9 : D1 mX7_ladderComes 9 .imul 1 10 := ⟨by decide +kernel, rfl⟩
theorem iX7_ladderComes_10 : D1 mX7_ladderComes 10 .iadd 1 11 := ⟨by decide +kernel, rfl⟩
theorem iX7_ladderComes_11 : DStI mX7_ladderComes 11 5 13 := ⟨by decide, Or.inr ⟨by decide +kernel, rfl⟩⟩
theorem iX7_ladderComes_13 : DLdA mX7_ladderComes 13 0 14 := Or.inl ⟨0, by decide +kernel, rfl, rfl⟩
theorem iX7_ladderComes_14 : DGet mX7_ladderComes 14 7 0 17 := ⟨7, by decide +kernel, rfl, xf_RX7_7⟩
theorem iX7_ladderComes_17 : DLdI mX7_ladderComes 17 5 19 := Or.inr ⟨by decide +kernel, rfl⟩
theorem iX7_ladderComes_19 : DLdI mX7_ladderComes 19 1 20 := Or.inl ⟨1, by decide +kernel, rfl, rfl⟩
theorem iX7_ladderComes_20 : D1 mX7_ladderComes 20 .iastore 1 21 := ⟨by decide +kernel, rfl⟩
theorem iX7_ladderComes_21 : DLdA mX7_ladderComes 21 0 22 := Or.inl ⟨0, by decide +kernel, rfl, rfl⟩
theorem iX7_ladderComes_22 : DGet mX7_ladderComes 22 7 0 25 := ⟨7, by decide +kernel, rfl, xf_RX7_7⟩
theorem iX7_ladderComes_25 : DLdI mX7_ladderComes 25 5 27 := Or.inr ⟨by decide +kernel, rfl⟩
theorem iX7_ladderComes_27 : DPushI mX7_ladderComes 27 1 28 := Or.inl ⟨1, by decide +kernel, by decide, rfl⟩
theorem iX7_ladderComes_28 : D1 mX7_ladderComes 28 .iadd 1 29 := ⟨by decide +kernel, rfl⟩
theorem iX7_ladderComes_29 : DLdI mX7_ladderComes 29 2 30 := Or.inl ⟨2, by decide +kernel, rfl, rfl⟩
theorem iX7_ladderComes_30 : D1 mX7_ladderComes 30 .iastore 1 31 := ⟨by decide +kernel, rfl⟩
theorem iX7_ladderComes_31 : DLdA mX7_ladderComes 31 0 32 := Or.inl ⟨0, by decide +kernel, rfl, rfl⟩
theorem iX7_ladderComes_32 : DGet mX7_ladderComes 32 7 0 35 := ⟨7, by decide +kernel, rfl, xf_RX7_7⟩
theorem iX7_ladderComes_35 : DLdI mX7_ladderComes 35 5 37 := Or.inr ⟨by decide +kernel, rfl⟩
theorem iX7_ladderComes_37 : DPushI mX7_ladderComes 37 2 38 := Or.inl ⟨2, by decide +kernel, by decide, rfl⟩
theorem iX7_ladderComes_38 : D1 mX7_ladderComes 38 .iadd 1 39 := ⟨by decide +kernel, rfl⟩
theorem iX7_ladderComes_39 : DLdI mX7_ladderComes 39 3 40 := Or.inl ⟨3, by decide +kernel, rfl, rfl⟩
theorem iX7_ladderComes_40 : D1 mX7_ladderComes 40 .iastore 1 41 := ⟨by decide +kernel, rfl⟩
theorem iX7_ladderComes_41 : DLdA mX7_ladderComes 41 0 42 := Or.inl ⟨0, by decide +kernel, rfl, rfl⟩
theorem iX7_ladderComes_42 : DGet mX7_ladderComes 42 7 0 45 := ⟨7, by decide +kernel, rfl, xf_RX7_7⟩
theorem iX7_ladderComes_45 : DLdI mX7_ladderComes 45 5 47 := Or.inr ⟨by decide +kernel, rfl⟩
theorem iX7_ladderComes_47 : DPushI mX7_ladderComes 47 3 48 := Or.inl ⟨3, by decide +kernel, by decide, rfl⟩
theorem iX7_ladderComes_48 : D1 mX7_ladderComes 48 .iadd 1 49 := ⟨by decide +kernel, rfl⟩
theorem iX7_ladderComes_49 : DLdI mX7_ladderComes 49 4 51 := Or.inr ⟨by decide +kernel, rfl⟩
theorem iX7_ladderComes_51 : D1 mX7_ladderComes 51 .iastore 1 52 := ⟨by decide +kernel, rfl⟩
theorem iX7_ladderComes_52 : DLdA mX7_ladderComes 52 0 53 := Or.inl ⟨0, by decide +kernel, rfl, rfl⟩
theorem iX7_ladderComes_53 : DGet mX7_ladderComes 53 7 0 56 := ⟨7, by decide +kernel, rfl, xf_RX7_7⟩
theorem iX7_ladderComes_56 : DPushI mX7_ladderComes 56 1 57 := Or.inl ⟨1, by decide +kernel, by decide, rfl⟩
theorem iX7_ladderComes_57 : D1 mX7_ladderComes 57 .dup2 1 58 := ⟨by decide +kernel, rfl⟩
theorem iX7_ladderComes_58 : D1 mX7_ladderComes 58 .iaload 1 59 := ⟨by decide +kernel, rfl⟩
theorem iX7_ladderComes_59 : DPushI mX7_ladderComes 59 1 60 := Or.inl ⟨1, by decide +kernel, by decide, rfl⟩
theorem iX7_ladderComes_60 : D1 mX7_ladderComes 60 .iadd 1 61 := ⟨by decide +kernel, rfl⟩
theorem iX7_ladderComes_61 : D1 mX7_ladderComes 61 .iastore 1 62 := ⟨by decide +kernel, rfl⟩
theorem iX7_ladderComes_62 : DLdA mX7_ladderComes 62 0 63 := Or.inl ⟨0, by decide +kernel, rfl, rfl⟩
theorem iX7_ladderComes_63 : DPushI mX7_ladderComes 63 0 64 := Or.inl ⟨0, by decide +kernel, by decide, rfl⟩
theorem iX7_ladderComes_64 : DPut mX7_ladderComes 64 7 8 .int 67 := ⟨82, by decide +kernel, rfl, RX7, TX7, 17, tyX7, rfl, by decide, bigW_at 650 (by decide +kernel) rfl, xw7, tyX7_ok, nmX7, rfl, Or.inl rfl⟩
theorem iX7_ladderComes_67 : mX7_ladderComes.2.2.2 = none ∧ decode mX7_ladderComes.2.1 67 = .ok (.return_, 1) := ⟨rfl, by decide +kernel⟩
theorem iX7_larger_0 : DLdI mX7_larger 0 1 1 := Or.inl ⟨1, by decide +kernel, rfl, rfl⟩
theorem iX7_larger_1 : D1 mX7_larger 1 .i2l 1 2 := ⟨by decide +kernel, rfl⟩
theorem iX7_larger_2 : DPushL mX7_larger 2 1 3 := Or.inl ⟨1, by decide +kernel, by decide, rfl⟩
theorem iX7_larger_3 : DPushL mX7_larger 3 60 6 := Or.inr ⟨178, by decide +kernel, bigW_at 870 (by decide +kernel) rfl, rfl⟩
theorem iX7_larger_6 : DInvS mX7_larger 6 mX7_in 3 9 := ⟨44, by decide +kernel, rfl, Or.inl xl_RX7_44, xt_X7_in, xm_X7_in⟩
theorem iX7_larger_9 : DIf mX7_larger 9 .eq 24 12 := ⟨15, by decide +kernel, by decide, rfl⟩
theorem iX7_larger_12 : DLdI mX7_larger 12 2 13 := Or.inl ⟨2, by decide +kernel, rfl, rfl⟩
theorem iX7_larger_13 : D1 mX7_larger 13 .i2l 1 14 := ⟨by decide +kernel, rfl⟩
theorem iX7_larger_14 : DPushL mX7_larger 14 1 15 := Or.inl ⟨1, by decide +kernel, by decide, rfl⟩
theorem iX7_larger_15 : DPushL mX7_larger 15 999 18 := Or.inr ⟨196, by decide +kernel, bigW_at 916 (by decide +kernel) rfl, rfl⟩
theorem iX7_larger_18 : DInvS mX7_larger 18 mX7_in 3 21 := ⟨44, by decide +kernel, rfl, Or.inl xl_RX7_44, xt_X7_in, xm_X7_in⟩
theorem iX7_larger_21 : DIf mX7_larger 21 .ne 26 24 := ⟨5, by decide +kernel, by decide, rfl⟩
theorem iX7_larger_24 : DPushI mX7_larger 24 (-1) 25 := Or.inl ⟨(-1), by decide +kernel, by decide, rfl⟩
theorem iX7_larger_25 : mX7_larger.2.2.2 = some .int ∧ decode mX7_larger.2.1 25 = .ok (.ireturn, 1) := ⟨rfl, by decide +kernel⟩
theorem iX7_larger_26 : DLdA mX7_larger 26 0 27 := Or.inl ⟨0, by decide +kernel, rfl, rfl⟩
theorem iX7_larger_27 : DInvV mX7_larger 27 mX7_asides 7 0 30 := ⟨182, TX7, 17, by decide +kernel, rfl, rfl, xl_RX7_182, xi_X7_asides, xs_X7_asides, xm_X7_asides⟩
theorem iX7_larger_30 : DPushI mX7_larger 30 (-4) 32 := Or.inr (Or.inl ⟨(-4), by decide +kernel, by decide, rfl⟩)
theorem iX7_larger_32 : DStI mX7_larger 32 3 33 := ⟨by decide, Or.inl ⟨3, by decide +kernel, rfl, rfl⟩⟩
theorem iX7_larger_33 : DPushI mX7_larger 33 1 34 := Or.inl ⟨1, by decide +kernel, by decide, rfl⟩
theorem iX7_larger_34 : DStI mX7_larger 34 4 36 := ⟨by decide, Or.inr ⟨by decide +kernel, rfl⟩⟩
theorem iX7_larger_36 : DLdI mX7_larger 36 4 38 := Or.inr ⟨by decide +kernel, rfl⟩
theorem iX7_larger_38 : DPushI mX7_larger 38 31 40 := Or.inr (Or.inl ⟨31, by decide +kernel, by decide, rfl⟩)
theorem iX7_larger_40 : DCm mX7_larger 40 .ge 98 43 := ⟨58, by decide +kernel, by decide, rfl⟩
theorem iX7_larger_43 : DLdI mX7_larger 43 3 44 := Or.inl ⟨3, by decide +kernel, rfl, rfl⟩
theorem iX7_larger_44 : DPushI mX7_larger 44 (-4) 46 := Or.inr (Or.inl ⟨(-4), by decide +kernel, by decide, rfl⟩)
theorem iX7_larger_46 : DCm mX7_larger 46 .ne 98 49 := ⟨52, by decide +kernel, by decide, rfl⟩
theorem iX7_larger_49 : DLdA mX7_larger 49 0 50 := Or.inl ⟨0, by decide +kernel, rfl, rfl⟩
theorem iX7_larger_50 : DGet mX7_larger 50 7 0 53 := ⟨7, by decide +kernel, rfl, xf_RX7_7⟩
theorem iX7_larger_53 : DPushI mX7_larger 53 6 55 := Or.inr (Or.inl ⟨6, by decide +kernel, by decide, rfl⟩)
theorem iX7_larger_55 : DLdI mX7_larger 55 4 57 := Or.inr ⟨by decide +kernel, rfl⟩
theorem iX7_larger_57 : D1 mX7_larger 57 .iastore 1 58 := ⟨by decide +kernel, rfl⟩
theorem iX7_larger_58 : DLdA mX7_larger 58 0 59 := Or.inl ⟨0, by decide +kernel, rfl, rfl⟩
theorem iX7_larger_59 : DLdI mX7_larger 59 1 60 := Or.inl ⟨1, by decide +kernel, rfl, rfl⟩
theorem iX7_larger_60 : DInvV mX7_larger 60 mX7_goesOn 7 1 63 := ⟨185, TX7, 17, by decide +kernel, rfl, rfl, xl_RX7_185, xi_X7_goesOn, xs_X7_goesOn, xm_X7_goesOn⟩
theorem iX7_larger_63 : DLdA mX7_larger 63 0 64 := Or.inl ⟨0, by decide +kernel, rfl, rfl⟩
theorem iX7_larger_64 : DGet mX7_larger 64 7 0 67 := ⟨7, by decide +kernel, rfl, xf_RX7_7⟩
theorem iX7_larger_67 : DPushI mX7_larger 67 3 68 := Or.inl ⟨3, by decide +kernel, by decide, rfl⟩
theorem iX7_larger_68 : D1 mX7_larger 68 .iaload 1 69 := ⟨by decide +kernel, rfl⟩
theorem iX7_larger_69 : DLdA mX7_larger 69 0 70 := Or.inl ⟨0, by decide +kernel, rfl, rfl⟩
theorem iX7_larger_70 : DGet mX7_larger 70 7 9 73 := ⟨25, by decide +kernel, rfl, xf_RX7_25⟩
theorem iX7_larger_73 : DPushI mX7_larger 73 3 74 := Or.inl ⟨3, by decide +kernel, by decide, rfl⟩
theorem iX7_larger_74 : D1 mX7_larger 74 .iaload 1 75 := ⟨by decide +kernel, rfl⟩
theorem iX7_larger_75 : D1 mX7_larger 75 .isub 1 76 := ⟨by decide +kernel, rfl⟩
theorem iX7_larger_76 : DLdI mX7_larger 76 2 77 := Or.inl ⟨2, by decide +kernel, rfl, rfl⟩
theorem iX7_larger_77 : DCm mX7_larger 77 .lt 85 80 := ⟨8, by decide +kernel, by decide, rfl⟩
theorem iX7_larger_80 : DLdI mX7_larger 80 4 82 := Or.inr ⟨by decide +kernel, rfl⟩
theorem iX7_larger_82 : DGo mX7_larger 82 87 := ⟨5, by decide +kernel, by decide⟩
theorem iX7_larger_85 : DPushI mX7_larger 85 (-4) 87 := Or.inr (Or.inl ⟨(-4), by decide +kernel, by decide, rfl⟩)
theorem iX7_larger_87 : DStI mX7_larger 87 3 88 := ⟨by decide, Or.inl ⟨3, by decide +kernel, rfl, rfl⟩⟩
theorem iX7_larger_88 : DLdA mX7_larger 88 0 89 := Or.inl ⟨0, by decide +kernel, rfl, rfl⟩
theorem iX7_larger_89 : DInvV mX7_larger 89 mX7_backs 7 0 92 := ⟨188, TX7, 17, by decide +kernel, rfl, rfl, xl_RX7_188, xi_X7_backs, xs_X7_backs, xm_X7_backs⟩
theorem iX7_larger_92 : DInc mX7_larger 92 4 1 95 := ⟨by decide, 1, by decide +kernel, by decide, rfl⟩
theorem iX7_larger_95 : DGo mX7_larger 95 36 := ⟨(-59), by decide +kernel, by decide⟩
theorem iX7_larger_98 : DLdI mX7_larger 98 3 99 := Or.inl ⟨3, by decide +kernel, rfl, rfl⟩
theorem iX7_larger_99 : mX7_larger.2.2.2 = some .int ∧ decode mX7_larger.2.1 99 = .ok (.ireturn, 1) := ⟨rfl, by decide +kernel⟩
theorem iX7_lean_0 : DLdA mX7_lean 0 0 1 := Or.inl ⟨0, by decide +kernel, rfl, rfl⟩
theorem iX7_lean_1 : DLdI mX7_lean 1 1 2 := Or.inl ⟨1, by decide +kernel, rfl, rfl⟩
theorem iX7_lean_2 : DInvV mX7_lean 2 mX7_isLadder 7 1 5 := ⟨112, TX7, 17, by decide +kernel, rfl, rfl, xl_RX7_112, xi_X7_isLadder, xs_X7_isLadder, xm_X7_isLadder⟩
theorem iX7_lean_5 : DIf mX7_lean 5 .eq 22 8 := ⟨17, by decide +kernel, by decide, rfl⟩
theorem iX7_lean_8 : DLdI mX7_lean 8 2 9 := Or.inl ⟨2, by decide +kernel, rfl, rfl⟩
theorem iX7_lean_9 : DPushI mX7_lean 9 (-4) 11 := Or.inr (Or.inl ⟨(-4), by decide +kernel, by decide, rfl⟩)
theorem iX7_lean_11 : DCm mX7_lean 11 .eq 24 14 := ⟨13, by decide +kernel, by decide, rfl⟩
theorem iX7_lean_14 : DLdA mX7_lean 14 0 15 := Or.inl ⟨0, by decide +kernel, rfl, rfl⟩
theorem iX7_lean_15 : DLdI mX7_lean 15 2 16 := Or.inl ⟨2, by decide +kernel, rfl, rfl⟩
theorem iX7_lean_16 : DInvV mX7_lean 16 mX7_isTree 7 1 19 := ⟨102, TX7, 17, by decide +kernel, rfl, rfl, xl_RX7_102, xi_X7_isTree, xs_X7_isTree, xm_X7_isTree⟩
theorem iX7_lean_19 : DIf mX7_lean 19 .ne 24 22 := ⟨5, by decide +kernel, by decide, rfl⟩
theorem iX7_lean_22 : DPushI mX7_lean 22 (-1) 23 := Or.inl ⟨(-1), by decide +kernel, by decide, rfl⟩
theorem iX7_lean_23 : mX7_lean.2.2.2 = some .int ∧ decode mX7_lean.2.1 23 = .ok (.ireturn, 1) := ⟨rfl, by decide +kernel⟩
theorem iX7_lean_24 : DLdA mX7_lean 24 0 25 := Or.inl ⟨0, by decide +kernel, rfl, rfl⟩
theorem iX7_lean_25 : DLdI mX7_lean 25 1 26 := Or.inl ⟨1, by decide +kernel, rfl, rfl⟩
theorem iX7_lean_26 : DInvV mX7_lean 26 mX7_leansAt 7 1 29 := ⟨59, TX7, 17, by decide +kernel, rfl, rfl, xl_RX7_59, xi_X7_leansAt, xs_X7_leansAt, xm_X7_leansAt⟩
theorem iX7_lean_29 : DStI mX7_lean 29 3 30 := ⟨by decide, Or.inl ⟨3, by decide +kernel, rfl, rfl⟩⟩
theorem iX7_lean_30 : DLdI mX7_lean 30 3 31 := Or.inl ⟨3, by decide +kernel, rfl, rfl⟩
theorem iX7_lean_31 : DLdI mX7_lean 31 2 32 := Or.inl ⟨2, by decide +kernel, rfl, rfl⟩
theorem iX7_lean_32 : DCm mX7_lean 32 .ne 38 35 := ⟨6, by decide +kernel, by decide, rfl⟩
theorem iX7_lean_35 : DPushI mX7_lean 35 (-2) 37 := Or.inr (Or.inl ⟨(-2), by decide +kernel, by decide, rfl⟩)
theorem iX7_lean_37 : mX7_lean.2.2.2 = some .int ∧ decode mX7_lean.2.1 37 = .ok (.ireturn, 1) := ⟨rfl, by decide +kernel⟩
theorem iX7_lean_38 : DLdA mX7_lean 38 0 39 := Or.inl ⟨0, by decide +kernel, rfl, rfl⟩
theorem iX7_lean_39 : DInvV mX7_lean 39 mX7_notes 7 0 42 := ⟨165, TX7, 17, by decide +kernel, rfl, rfl, xl_RX7_165, xi_X7_notes, xs_X7_notes, xm_X7_notes⟩
theorem iX7_lean_42 : DLdA mX7_lean 42 0 43 := Or.inl ⟨0, by decide +kernel, rfl, rfl⟩
theorem iX7_lean_43 : DGet mX7_lean 43 7 0 46 := ⟨7, by decide +kernel, rfl, xf_RX7_7⟩
theorem iX7_lean_46 : DPushI mX7_lean 46 27 48 := Or.inr (Or.inl ⟨27, by decide +kernel, by decide, rfl⟩)
theorem iX7_lean_48 : DPushI mX7_lean 48 4 49 := Or.inl ⟨4, by decide +kernel, by decide, rfl⟩
theorem iX7_lean_49 : DLdI mX7_lean 49 1 50 := Or.inl ⟨1, by decide +kernel, rfl, rfl⟩
theorem iX7_lean_50 : D1 mX7_lean 50 .imul 1 51 := ⟨by decide +kernel, rfl⟩
theorem iX7_lean_51 : D1 mX7_lean 51 .iadd 1 52 := ⟨by decide +kernel, rfl⟩
theorem iX7_lean_52 : DPushI mX7_lean 52 3 53 := Or.inl ⟨3, by decide +kernel, by decide, rfl⟩
theorem iX7_lean_53 : D1 mX7_lean 53 .iadd 1 54 := ⟨by decide +kernel, rfl⟩
theorem iX7_lean_54 : DLdI mX7_lean 54 2 55 := Or.inl ⟨2, by decide +kernel, rfl, rfl⟩
theorem iX7_lean_55 : D1 mX7_lean 55 .iastore 1 56 := ⟨by decide +kernel, rfl⟩
theorem iX7_lean_56 : DLdI mX7_lean 56 3 57 := Or.inl ⟨3, by decide +kernel, rfl, rfl⟩
theorem iX7_lean_57 : mX7_lean.2.2.2 = some .int ∧ decode mX7_lean.2.1 57 = .ok (.ireturn, 1) := ⟨rfl, by decide +kernel⟩
theorem iX7_leaners_0 : DPushI mX7_leaners 0 0 1 := Or.inl ⟨0, by decide +kernel, by decide, rfl⟩
theorem iX7_leaners_1 : DStI mX7_leaners 1 2 2 := ⟨by decide, Or.inl ⟨2, by decide +kernel, rfl, rfl⟩⟩
theorem iX7_leaners_2 : DPushI mX7_leaners 2 0 3 := Or.inl ⟨0, by decide +kernel, by decide, rfl⟩
theorem iX7_leaners_3 : DStI mX7_leaners 3 3 4 := ⟨by decide, Or.inl ⟨3, by decide +kernel, rfl, rfl⟩⟩
theorem iX7_leaners_4 : DLdI mX7_leaners 4 3 5 := Or.inl ⟨3, by decide +kernel, rfl, rfl⟩
theorem iX7_leaners_5 : DLdA mX7_leaners 5 0 6 := Or.inl ⟨0, by decide +kernel, rfl, rfl⟩
theorem iX7_leaners_6 : DGet mX7_leaners 6 7 0 9 := ⟨7, by decide +kernel, rfl, xf_RX7_7⟩
theorem iX7_leaners_9 : DPushI mX7_leaners 9 1 10 := Or.inl ⟨1, by decide +kernel, by decide, rfl⟩
theorem iX7_leaners_10 : D1 mX7_leaners 10 .iaload 1 11 := ⟨by decide +kernel, rfl⟩
theorem iX7_leaners_11 : DCm mX7_leaners 11 .ge 39 14 := ⟨28, by decide +kernel, by decide, rfl⟩
theorem iX7_leaners_14 : DLdI mX7_leaners 14 2 15 := Or.inl ⟨2, by decide +kernel, rfl, rfl⟩
theorem iX7_leaners_15 : DLdA mX7_leaners 15 0 16 := Or.inl ⟨0, by decide +kernel, rfl, rfl⟩
theorem iX7_leaners_16 : DLdI mX7_leaners 16 3 17 := Or.inl ⟨3, by decide +kernel, rfl, rfl⟩
theorem iX7_leaners_17 : DInvV mX7_leaners 17 mX7_leansAt 7 1 20 := ⟨59, TX7, 17, by decide +kernel, rfl, rfl, xl_RX7_59, xi_X7_leansAt, xs_X7_leansAt, xm_X7_leansAt⟩
theorem iX7_leaners_20 : DLdI mX7_leaners 20 1 21 := Or.inl ⟨1, by decide +kernel, rfl, rfl⟩
theorem iX7_leaners_21 : DCm mX7_leaners 21 .ne 30 24 := ⟨9, by decide +kernel, by decide, rfl⟩
theorem iX7_leaners_24 : DPushI mX7_leaners 24 1 25 := Or.inl ⟨1, by decide +kernel, by decide, rfl⟩
theorem iX7_leaners_25 : DLdI mX7_leaners 25 3 26 := Or.inl ⟨3, by decide +kernel, rfl, rfl⟩
theorem iX7_leaners_26 : D1 mX7_leaners 26 .ishl 1 27 := ⟨by decide +kernel, rfl⟩
theorem iX7_leaners_27 : DGo mX7_leaners 27 31 := ⟨4, by decide +kernel, by decide⟩
theorem iX7_leaners_30 : DPushI mX7_leaners 30 0 31 := Or.inl ⟨0, by decide +kernel, by decide, rfl⟩
theorem iX7_leaners_31 : D1 mX7_leaners 31 .ior 1 32 := ⟨by decide +kernel, rfl⟩
theorem iX7_leaners_32 : DStI mX7_leaners 32 2 33 := ⟨by decide, Or.inl ⟨2, by decide +kernel, rfl, rfl⟩⟩
theorem iX7_leaners_33 : DInc mX7_leaners 33 3 1 36 := ⟨by decide, 1, by decide +kernel, by decide, rfl⟩
theorem iX7_leaners_36 : DGo mX7_leaners 36 4 := ⟨(-32), by decide +kernel, by decide⟩
theorem iX7_leaners_39 : DLdI mX7_leaners 39 2 40 := Or.inl ⟨2, by decide +kernel, rfl, rfl⟩
theorem iX7_leaners_40 : mX7_leaners.2.2.2 = some .int ∧ decode mX7_leaners.2.1 40 = .ok (.ireturn, 1) := ⟨rfl, by decide +kernel⟩
theorem iX7_leansAt_0 : DLdA mX7_leansAt 0 0 1 := Or.inl ⟨0, by decide +kernel, rfl, rfl⟩
theorem iX7_leansAt_1 : DLdI mX7_leansAt 1 1 2 := Or.inl ⟨1, by decide +kernel, rfl, rfl⟩
theorem iX7_leansAt_2 : DPushI mX7_leansAt 2 3 3 := Or.inl ⟨3, by decide +kernel, by decide, rfl⟩
theorem iX7_leansAt_3 : DInvV mX7_leansAt 3 mX7_ofLadder 7 2 6 := ⟨48, TX7, 17, by decide +kernel, rfl, rfl, xl_RX7_48, xi_X7_ofLadder, xs_X7_ofLadder, xm_X7_ofLadder⟩
theorem iX7_leansAt_6 : mX7_leansAt.2.2.2 = some .int ∧ decode mX7_leansAt.2.1 6 = .ok (.ireturn, 1) := ⟨rfl, by decide +kernel⟩
theorem iX7_left_0 : DLdA mX7_left 0 0 1 := Or.inl ⟨0, by decide +kernel, rfl, rfl⟩
theorem iX7_left_1 : DLdI mX7_left 1 1 2 := Or.inl ⟨1, by decide +kernel, rfl, rfl⟩
theorem iX7_left_2 : DInvV mX7_left 2 mX7_isTree 7 1 5 := ⟨102, TX7, 17, by decide +kernel, rfl, rfl, xl_RX7_102, xi_X7_isTree, xs_X7_isTree, xm_X7_isTree⟩
theorem iX7_left_5 : DIf mX7_left 5 .eq 35 8 := ⟨30, by decide +kernel, by decide, rfl⟩
theorem iX7_left_8 : DLdI mX7_left 8 2 9 := Or.inl ⟨2, by decide +kernel, rfl, rfl⟩
theorem iX7_left_9 : DInvS mX7_left 9 mX7_isSheet 1 12 := ⟨210, by decide +kernel, rfl, Or.inl xl_RX7_210, xt_X7_isSheet, xm_X7_isSheet⟩
theorem iX7_left_12 : DIf mX7_left 12 .eq 35 15 := ⟨23, by decide +kernel, by decide, rfl⟩
theorem iX7_left_15 : DLdI mX7_left 15 3 16 := Or.inl ⟨3, by decide +kernel, rfl, rfl⟩
theorem iX7_left_16 : DInvS mX7_left 16 mX7_isLane 1 19 := ⟨213, by decide +kernel, rfl, Or.inl xl_RX7_213, xt_X7_isLane, xm_X7_isLane⟩
theorem iX7_left_19 : DIf mX7_left 19 .eq 35 22 := ⟨16, by decide +kernel, by decide, rfl⟩
theorem iX7_left_22 : DLdI mX7_left 22 5 24 := Or.inr ⟨by decide +kernel, rfl⟩
theorem iX7_left_24 : D1 mX7_left 24 .i2l 1 25 := ⟨by decide +kernel, rfl⟩
theorem iX7_left_25 : DPushL mX7_left 25 1 26 := Or.inl ⟨1, by decide +kernel, by decide, rfl⟩
theorem iX7_left_26 : DPushL mX7_left 26 8 29 := Or.inr ⟨216, by decide +kernel, bigW_at 942 (by decide +kernel) rfl, rfl⟩
theorem iX7_left_29 : DInvS mX7_left 29 mX7_in 3 32 := ⟨44, by decide +kernel, rfl, Or.inl xl_RX7_44, xt_X7_in, xm_X7_in⟩
theorem iX7_left_32 : DIf mX7_left 32 .ne 37 35 := ⟨5, by decide +kernel, by decide, rfl⟩
theorem iX7_left_35 : DPushI mX7_left 35 (-1) 36 := Or.inl ⟨(-1), by decide +kernel, by decide, rfl⟩
theorem iX7_left_36 : mX7_left.2.2.2 = some .int ∧ decode mX7_left.2.1 36 = .ok (.ireturn, 1) := ⟨rfl, by decide +kernel⟩
theorem iX7_left_37 : DLdA mX7_left 37 0 38 := Or.inl ⟨0, by decide +kernel, rfl, rfl⟩
theorem iX7_left_38 : DLdI mX7_left 38 2 39 := Or.inl ⟨2, by decide +kernel, rfl, rfl⟩
theorem iX7_left_39 : DLdI mX7_left 39 3 40 := Or.inl ⟨3, by decide +kernel, rfl, rfl⟩
theorem iX7_left_40 : DLdI mX7_left 40 4 42 := Or.inr ⟨by decide +kernel, rfl⟩
theorem iX7_left_42 : DLdI mX7_left 42 5 44 := Or.inr ⟨by decide +kernel, rfl⟩
theorem iX7_left_44 : DInvV mX7_left 44 mX7_why 7 4 47 := ⟨218, TX7, 17, by decide +kernel, rfl, rfl, xl_RX7_218, xi_X7_why, xs_X7_why, xm_X7_why⟩
theorem iX7_left_47 : DStI mX7_left 47 6 49 := ⟨by decide, Or.inr ⟨by decide +kernel, rfl⟩⟩
theorem iX7_left_49 : DLdI mX7_left 49 6 51 := Or.inr ⟨by decide +kernel, rfl⟩
theorem iX7_left_51 : DIf mX7_left 51 .ge 57 54 := ⟨6, by decide +kernel, by decide, rfl⟩
theorem iX7_left_54 : DLdI mX7_left 54 6 56 := Or.inr ⟨by decide +kernel, rfl⟩
theorem iX7_left_56 : mX7_left.2.2.2 = some .int ∧ decode mX7_left.2.1 56 = .ok (.ireturn, 1) := ⟨rfl, by decide +kernel⟩
theorem iX7_left_57 : DPushI mX7_left 57 0 58 := Or.inl ⟨0, by decide +kernel, by decide, rfl⟩
theorem iX7_left_58 : DStI mX7_left 58 7 60 := ⟨by decide, Or.inr ⟨by decide +kernel, rfl⟩⟩
theorem iX7_left_60 : DLdA mX7_left 60 0 61 := Or.inl ⟨0, by decide +kernel, rfl, rfl⟩
theorem iX7_left_61 : DInvV mX7_left 61 mX7_asides 7 0 64 := ⟨182, TX7, 17, by decide +kernel, rfl, rfl, xl_RX7_182, xi_X7_asides, xs_X7_asides, xm_X7_asides⟩
theorem iX7_left_64 : DPushI mX7_left 64 0 65 := Or.inl ⟨0, by decide +kernel, by decide, rfl⟩
theorem iX7_left_65 : DStI mX7_left 65 8 67 := ⟨by decide, Or.inr ⟨by decide +kernel, rfl⟩⟩
theorem iX7_left_67 : DLdI mX7_left 67 8 69 := Or.inr ⟨by decide +kernel, rfl⟩
theorem iX7_left_69 : DLdA mX7_left 69 0 70 := Or.inl ⟨0, by decide +kernel, rfl, rfl⟩
theorem iX7_left_70 : DGet mX7_left 70 7 0 73 := ⟨7, by decide +kernel, rfl, xf_RX7_7⟩
theorem iX7_left_73 : DPushI mX7_left 73 1 74 := Or.inl ⟨1, by decide +kernel, by decide, rfl⟩
theorem iX7_left_74 : D1 mX7_left 74 .iaload 1 75 := ⟨by decide +kernel, rfl⟩
theorem iX7_left_75 : DCm mX7_left 75 .gt 250 78 := ⟨175, by decide +kernel, by decide, rfl⟩
theorem iX7_left_78 : DPushI mX7_left 78 0 79 := Or.inl ⟨0, by decide +kernel, by decide, rfl⟩
theorem iX7_left_79 : DStI mX7_left 79 9 81 := ⟨by decide, Or.inr ⟨by decide +kernel, rfl⟩⟩
theorem iX7_left_81 : DLdI mX7_left 81 9 83 := Or.inr ⟨by decide +kernel, rfl⟩
theorem iX7_left_83 : DLdA mX7_left 83 0 84 := Or.inl ⟨0, by decide +kernel, rfl, rfl⟩
theorem iX7_left_84 : DGet mX7_left 84 7 0 87 := ⟨7, by decide +kernel, rfl, xf_RX7_7⟩
theorem iX7_left_87 : DPushI mX7_left 87 1 88 := Or.inl ⟨1, by decide +kernel, by decide, rfl⟩
theorem iX7_left_88 : D1 mX7_left 88 .iaload 1 89 := ⟨by decide +kernel, rfl⟩
theorem iX7_left_89 : DCm mX7_left 89 .ge 144 92 := ⟨55, by decide +kernel, by decide, rfl⟩
theorem iX7_left_92 : DLdA mX7_left 92 0 93 := Or.inl ⟨0, by decide +kernel, rfl, rfl⟩
theorem iX7_left_93 : DGet mX7_left 93 7 0 96 := ⟨7, by decide +kernel, rfl, xf_RX7_7⟩
theorem iX7_left_96 : DPushI mX7_left 96 27 98 := Or.inr (Or.inl ⟨27, by decide +kernel, by decide, rfl⟩)
theorem iX7_left_98 : DPushI mX7_left 98 4 99 := Or.inl ⟨4, by decide +kernel, by decide, rfl⟩
theorem iX7_left_99 : DLdI mX7_left 99 9 101 := Or.inr ⟨by decide +kernel, rfl⟩
theorem iX7_left_101 : D1 mX7_left 101 .imul 1 102 := ⟨by decide +kernel, rfl⟩
theorem iX7_left_102 : D1 mX7_left 102 .iadd 1 103 := ⟨by decide +kernel, rfl⟩
theorem iX7_left_103 : DPushI mX7_left 103 3 104 := Or.inl ⟨3, by decide +kernel, by decide, rfl⟩
theorem iX7_left_104 : D1 mX7_left 104 .iadd 1 105 := ⟨by decide +kernel, rfl⟩
theorem iX7_left_105 : DLdI mX7_left 105 9 107 := Or.inr ⟨by decide +kernel, rfl⟩
theorem iX7_left_107 : DLdI mX7_left 107 8 109 := Or.inr ⟨by decide +kernel, rfl⟩
theorem iX7_left_109 : DCm mX7_left 109 .ne 116 112 := ⟨7, by decide +kernel, by decide, rfl⟩
theorem iX7_left_112 : DLdI mX7_left 112 1 113 := Or.inl ⟨1, by decide +kernel, rfl, rfl⟩
theorem iX7_left_113 : DGo mX7_left 113 137 := ⟨24, by decide +kernel, by decide⟩
theorem iX7_left_116 : DLdA mX7_left 116 0 117 := Or.inl ⟨0, by decide +kernel, rfl, rfl⟩
theorem iX7_left_117 : DLdI mX7_left 117 9 119 := Or.inr ⟨by decide +kernel, rfl⟩
theorem iX7_left_119 : DInvV mX7_left 119 mX7_leansAt 7 1 122 := ⟨59, TX7, 17, by decide +kernel, rfl, rfl, xl_RX7_59, xi_X7_leansAt, xs_X7_leansAt, xm_X7_leansAt⟩
theorem iX7_left_122 : DLdI mX7_left 122 1 123 := Or.inl ⟨1, by decide +kernel, rfl, rfl⟩
theorem iX7_left_123 : DCm mX7_left 123 .ne 131 126 := ⟨8, by decide +kernel, by decide, rfl⟩
theorem iX7_left_126 : DPushI mX7_left 126 (-4) 128 := Or.inr (Or.inl ⟨(-4), by decide +kernel, by decide, rfl⟩)
theorem iX7_left_128 : DGo mX7_left 128 137 := ⟨9, by decide +kernel, by decide⟩
theorem iX7_left_131 : DLdA mX7_left 131 0 132 := Or.inl ⟨0, by decide +kernel, rfl, rfl⟩
theorem iX7_left_132 : DLdI mX7_left 132 9 134 := Or.inr ⟨by decide +kernel, rfl⟩
theorem iX7_left_134 : DInvV mX7_left 134 mX7_leansAt 7 1 137 := ⟨59, TX7, 17, by decide +kernel, rfl, rfl, xl_RX7_59, xi_X7_leansAt, xs_X7_leansAt, xm_X7_leansAt⟩
theorem iX7_left_137 : D1 mX7_left 137 .iastore 1 138 := ⟨by decide +kernel, rfl⟩
theorem iX7_left_138 : DInc mX7_left 138 9 1 141 := ⟨by decide, 1, by decide +kernel, by decide, rfl⟩
theorem iX7_left_141 : DGo mX7_left 141 81 := ⟨(-60), by decide +kernel, by decide⟩
theorem iX7_left_144 : DPushI mX7_left 144 1 145 := Or.inl ⟨1, by decide +kernel, by decide, rfl⟩
theorem iX7_left_145 : DStI mX7_left 145 9 147 := ⟨by decide, Or.inr ⟨by decide +kernel, rfl⟩⟩
theorem iX7_left_147 : DPushI mX7_left 147 0 148 := Or.inl ⟨0, by decide +kernel, by decide, rfl⟩
theorem iX7_left_148 : DStI mX7_left 148 10 150 := ⟨by decide, Or.inr ⟨by decide +kernel, rfl⟩⟩
theorem iX7_left_150 : DLdI mX7_left 150 10 152 := Or.inr ⟨by decide +kernel, rfl⟩
theorem iX7_left_152 : DLdI mX7_left 152 5 154 := Or.inr ⟨by decide +kernel, rfl⟩
theorem iX7_left_154 : DCm mX7_left 154 .ge 206 157 := ⟨52, by decide +kernel, by decide, rfl⟩
theorem iX7_left_157 : DLdA mX7_left 157 0 158 := Or.inl ⟨0, by decide +kernel, rfl, rfl⟩
theorem iX7_left_158 : DPushI mX7_left 158 0 159 := Or.inl ⟨0, by decide +kernel, by decide, rfl⟩
theorem iX7_left_159 : DInvV mX7_left 159 mX7_goesBy 7 1 162 := ⟨78, TX7, 17, by decide +kernel, rfl, rfl, xl_RX7_78, xi_X7_goesBy, xs_X7_goesBy, xm_X7_goesBy⟩
theorem iX7_left_162 : DLdI mX7_left 162 9 164 := Or.inr ⟨by decide +kernel, rfl⟩
theorem iX7_left_164 : DIf mX7_left 164 .eq 197 167 := ⟨33, by decide +kernel, by decide, rfl⟩
theorem iX7_left_167 : DLdA mX7_left 167 0 168 := Or.inl ⟨0, by decide +kernel, rfl, rfl⟩
theorem iX7_left_168 : DLdI mX7_left 168 1 169 := Or.inl ⟨1, by decide +kernel, rfl, rfl⟩
theorem iX7_left_169 : DPushI mX7_left 169 1 170 := Or.inl ⟨1, by decide +kernel, by decide, rfl⟩
theorem iX7_left_170 : DInvV mX7_left 170 mX7_ofTree 7 2 173 := ⟨56, TX7, 17, by decide +kernel, rfl, rfl, xl_RX7_56, xi_X7_ofTree, xs_X7_ofTree, xm_X7_ofTree⟩
theorem iX7_left_173 : D1 mX7_left 173 .i2l 1 174 := ⟨by decide +kernel, rfl⟩
theorem iX7_left_174 : DLdA mX7_left 174 0 175 := Or.inl ⟨0, by decide +kernel, rfl, rfl⟩
theorem iX7_left_175 : DGet mX7_left 175 7 15 178 := ⟨37, by decide +kernel, rfl, xf_RX7_37⟩
theorem iX7_left_178 : DPushI mX7_left 178 24 180 := Or.inr (Or.inl ⟨24, by decide +kernel, by decide, rfl⟩)
theorem iX7_left_180 : DLdI mX7_left 180 2 181 := Or.inl ⟨2, by decide +kernel, rfl, rfl⟩
theorem iX7_left_181 : D1 mX7_left 181 .imul 1 182 := ⟨by decide +kernel, rfl⟩
theorem iX7_left_182 : DLdI mX7_left 182 4 184 := Or.inr ⟨by decide +kernel, rfl⟩
theorem iX7_left_184 : D1 mX7_left 184 .iadd 1 185 := ⟨by decide +kernel, rfl⟩
theorem iX7_left_185 : DLdI mX7_left 185 10 187 := Or.inr ⟨by decide +kernel, rfl⟩
theorem iX7_left_187 : D1 mX7_left 187 .iadd 1 188 := ⟨by decide +kernel, rfl⟩
theorem iX7_left_188 : D1 mX7_left 188 .laload 1 189 := ⟨by decide +kernel, rfl⟩
theorem iX7_left_189 : D1 mX7_left 189 .lcmp 1 190 := ⟨by decide +kernel, rfl⟩
theorem iX7_left_190 : DIf mX7_left 190 .ne 197 193 := ⟨7, by decide +kernel, by decide, rfl⟩
theorem iX7_left_193 : DPushI mX7_left 193 1 194 := Or.inl ⟨1, by decide +kernel, by decide, rfl⟩
theorem iX7_left_194 : DGo mX7_left 194 198 := ⟨4, by decide +kernel, by decide⟩
theorem iX7_left_197 : DPushI mX7_left 197 0 198 := Or.inl ⟨0, by decide +kernel, by decide, rfl⟩
theorem iX7_left_198 : DStI mX7_left 198 9 200 := ⟨by decide, Or.inr ⟨by decide +kernel, rfl⟩⟩
theorem iX7_left_200 : DInc mX7_left 200 10 1 203 := ⟨by decide, 1, by decide +kernel, by decide, rfl⟩
theorem iX7_left_203 : DGo mX7_left 203 150 := ⟨(-53), by decide +kernel, by decide⟩
theorem iX7_left_206 : DLdI mX7_left 206 7 208 := Or.inr ⟨by decide +kernel, rfl⟩
theorem iX7_left_208 : DLdI mX7_left 208 9 210 := Or.inr ⟨by decide +kernel, rfl⟩
theorem iX7_left_210 : DIf mX7_left 210 .eq 236 213 := ⟨26, by decide +kernel, by decide, rfl⟩
theorem iX7_left_213 : DLdI mX7_left 213 8 215 := Or.inr ⟨by decide +kernel, rfl⟩
theorem iX7_left_215 : DLdA mX7_left 215 0 216 := Or.inl ⟨0, by decide +kernel, rfl, rfl⟩
theorem iX7_left_216 : DGet mX7_left 216 7 0 219 := ⟨7, by decide +kernel, rfl, xf_RX7_7⟩
theorem iX7_left_219 : DPushI mX7_left 219 1 220 := Or.inl ⟨1, by decide +kernel, by decide, rfl⟩
theorem iX7_left_220 : D1 mX7_left 220 .iaload 1 221 := ⟨by decide +kernel, rfl⟩
theorem iX7_left_221 : DCm mX7_left 221 .ne 229 224 := ⟨8, by decide +kernel, by decide, rfl⟩
theorem iX7_left_224 : DPushI mX7_left 224 32 226 := Or.inr (Or.inl ⟨32, by decide +kernel, by decide, rfl⟩)
theorem iX7_left_226 : DGo mX7_left 226 237 := ⟨11, by decide +kernel, by decide⟩
theorem iX7_left_229 : DPushI mX7_left 229 1 230 := Or.inl ⟨1, by decide +kernel, by decide, rfl⟩
theorem iX7_left_230 : DLdI mX7_left 230 8 232 := Or.inr ⟨by decide +kernel, rfl⟩
theorem iX7_left_232 : D1 mX7_left 232 .ishl 1 233 := ⟨by decide +kernel, rfl⟩
theorem iX7_left_233 : DGo mX7_left 233 237 := ⟨4, by decide +kernel, by decide⟩
theorem iX7_left_236 : DPushI mX7_left 236 0 237 := Or.inl ⟨0, by decide +kernel, by decide, rfl⟩
theorem iX7_left_237 : D1 mX7_left 237 .ior 1 238 := ⟨by decide +kernel, rfl⟩
theorem iX7_left_238 : DStI mX7_left 238 7 240 := ⟨by decide, Or.inr ⟨by decide +kernel, rfl⟩⟩
theorem iX7_left_240 : DLdA mX7_left 240 0 241 := Or.inl ⟨0, by decide +kernel, rfl, rfl⟩
theorem iX7_left_241 : DInvV mX7_left 241 mX7_backs 7 0 244 := ⟨188, TX7, 17, by decide +kernel, rfl, rfl, xl_RX7_188, xi_X7_backs, xs_X7_backs, xm_X7_backs⟩
theorem iX7_left_244 : DInc mX7_left 244 8 1 247 := ⟨by decide, 1, by decide +kernel, by decide, rfl⟩
theorem iX7_left_247 : DGo mX7_left 247 67 := ⟨(-180), by decide +kernel, by decide⟩
theorem iX7_left_250 : DLdI mX7_left 250 7 252 := Or.inr ⟨by decide +kernel, rfl⟩
theorem iX7_left_252 : mX7_left.2.2.2 = some .int ∧ decode mX7_left.2.1 252 = .ok (.ireturn, 1) := ⟨rfl, by decide +kernel⟩
theorem iX7_less_0 : DLdI mX7_less 0 0 1 := Or.inl ⟨0, by decide +kernel, rfl, rfl⟩
theorem iX7_less_1 : DLdI mX7_less 1 1 2 := Or.inl ⟨1, by decide +kernel, rfl, rfl⟩
theorem iX7_less_2 : DCm mX7_less 2 .ge 9 5 := ⟨7, by decide +kernel, by decide, rfl⟩
theorem iX7_less_5 : DLdI mX7_less 5 0 6 := Or.inl ⟨0, by decide +kernel, rfl, rfl⟩
theorem iX7_less_6 : DGo mX7_less 6 10 := ⟨4, by decide +kernel, by decide⟩
theorem iX7_less_9 : DLdI mX7_less 9 1 10 := Or.inl ⟨1, by decide +kernel, rfl, rfl⟩
theorem iX7_less_10 : mX7_less.2.2.2 = some .int ∧ decode mX7_less.2.1 10 = .ok (.ireturn, 1) := ⟨rfl, by decide +kernel⟩
end
section
theorem iX7_longer_0 : DLdA mX7_longer 0 0 1 := Or.inl ⟨0, by decide +kernel, rfl, rfl⟩
theorem iX7_longer_1 : DLdI mX7_longer 1 1 2 := Or.inl ⟨1, by decide +kernel, rfl, rfl⟩
theorem iX7_longer_2 : DInvV mX7_longer 2 mX7_isLadder 7 1 5 := ⟨112, TX7, 17, by decide +kernel, rfl, rfl, xl_RX7_112, xi_X7_isLadder, xs_X7_isLadder, xm_X7_isLadder⟩
theorem iX7_longer_5 : DIf mX7_longer 5 .eq 16 8 := ⟨11, by decide +kernel, by decide, rfl⟩
theorem iX7_longer_8 : DLdA mX7_longer 8 0 9 := Or.inl ⟨0, by decide +kernel, rfl, rfl⟩
theorem iX7_longer_9 : DLdI mX7_longer 9 2 10 := Or.inl ⟨2, by decide +kernel, rfl, rfl⟩
theorem iX7_longer_10 : DInvV mX7_longer 10 mX7_isTree 7 1 13 := ⟨102, TX7, 17, by decide +kernel, rfl, rfl, xl_RX7_102, xi_X7_isTree, xs_X7_isTree, xm_X7_isTree⟩
theorem iX7_longer_13 : DIf mX7_longer 13 .ne 18 16 := ⟨5, by decide +kernel, by decide, rfl⟩
theorem iX7_longer_16 : DPushI mX7_longer 16 (-1) 17 := Or.inl ⟨(-1), by decide +kernel, by decide, rfl⟩
theorem iX7_longer_17 : mX7_longer.2.2.2 = some .int ∧ decode mX7_longer.2.1 17 = .ok (.ireturn, 1) := ⟨rfl, by decide +kernel⟩
theorem iX7_longer_18 : DLdA mX7_longer 18 0 19 := Or.inl ⟨0, by decide +kernel, rfl, rfl⟩
theorem iX7_longer_19 : DLdI mX7_longer 19 1 20 := Or.inl ⟨1, by decide +kernel, rfl, rfl⟩
theorem iX7_longer_20 : DPushI mX7_longer 20 1 21 := Or.inl ⟨1, by decide +kernel, by decide, rfl⟩
theorem iX7_longer_21 : DInvV mX7_longer 21 mX7_ofLadder 7 2 24 := ⟨48, TX7, 17, by decide +kernel, rfl, rfl, xl_RX7_48, xi_X7_ofLadder, xs_X7_ofLadder, xm_X7_ofLadder⟩
theorem iX7_longer_24 : DStI mX7_longer 24 3 25 := ⟨by decide, Or.inl ⟨3, by decide +kernel, rfl, rfl⟩⟩
theorem iX7_longer_25 : DPushI mX7_longer 25 0 26 := Or.inl ⟨0, by decide +kernel, by decide, rfl⟩
theorem iX7_longer_26 : DStI mX7_longer 26 4 28 := ⟨by decide, Or.inr ⟨by decide +kernel, rfl⟩⟩
theorem iX7_longer_28 : DLdI mX7_longer 28 3 29 := Or.inl ⟨3, by decide +kernel, rfl, rfl⟩
theorem iX7_longer_29 : DLdI mX7_longer 29 4 31 := Or.inr ⟨by decide +kernel, rfl⟩
theorem iX7_longer_31 : D1 mX7_longer 31 .iadd 1 32 := ⟨by decide +kernel, rfl⟩
theorem iX7_longer_32 : DPushI mX7_longer 32 10 34 := Or.inr (Or.inl ⟨10, by decide +kernel, by decide, rfl⟩)
theorem iX7_longer_34 : DCm mX7_longer 34 .ge 74 37 := ⟨40, by decide +kernel, by decide, rfl⟩
theorem iX7_longer_37 : DLdA mX7_longer 37 0 38 := Or.inl ⟨0, by decide +kernel, rfl, rfl⟩
theorem iX7_longer_38 : DLdI mX7_longer 38 1 39 := Or.inl ⟨1, by decide +kernel, rfl, rfl⟩
theorem iX7_longer_39 : DPushI mX7_longer 39 0 40 := Or.inl ⟨0, by decide +kernel, by decide, rfl⟩
theorem iX7_longer_40 : DInvV mX7_longer 40 mX7_ofLadder 7 2 43 := ⟨48, TX7, 17, by decide +kernel, rfl, rfl, xl_RX7_48, xi_X7_ofLadder, xs_X7_ofLadder, xm_X7_ofLadder⟩
theorem iX7_longer_43 : DLdI mX7_longer 43 3 44 := Or.inl ⟨3, by decide +kernel, rfl, rfl⟩
theorem iX7_longer_44 : DLdI mX7_longer 44 4 46 := Or.inr ⟨by decide +kernel, rfl⟩
theorem iX7_longer_46 : D1 mX7_longer 46 .iadd 1 47 := ⟨by decide +kernel, rfl⟩
theorem iX7_longer_47 : DLdA mX7_longer 47 0 48 := Or.inl ⟨0, by decide +kernel, rfl, rfl⟩
theorem iX7_longer_48 : DGet mX7_longer 48 7 0 51 := ⟨7, by decide +kernel, rfl, xf_RX7_7⟩
theorem iX7_longer_51 : DPushI mX7_longer 51 2 52 := Or.inl ⟨2, by decide +kernel, by decide, rfl⟩
theorem iX7_longer_52 : D1 mX7_longer 52 .iaload 1 53 := ⟨by decide +kernel, rfl⟩
theorem iX7_longer_53 : DInvS mX7_longer 53 mX7_reaches 3 56 := ⟨52, by decide +kernel, rfl, Or.inl xl_RX7_52, xt_X7_reaches, xm_X7_reaches⟩
theorem iX7_longer_56 : DLdA mX7_longer 56 0 57 := Or.inl ⟨0, by decide +kernel, rfl, rfl⟩
theorem iX7_longer_57 : DLdI mX7_longer 57 2 58 := Or.inl ⟨2, by decide +kernel, rfl, rfl⟩
theorem iX7_longer_58 : DPushI mX7_longer 58 0 59 := Or.inl ⟨0, by decide +kernel, by decide, rfl⟩
theorem iX7_longer_59 : DInvV mX7_longer 59 mX7_ofTree 7 2 62 := ⟨56, TX7, 17, by decide +kernel, rfl, rfl, xl_RX7_56, xi_X7_ofTree, xs_X7_ofTree, xm_X7_ofTree⟩
theorem iX7_longer_62 : DCm mX7_longer 62 .lt 68 65 := ⟨6, by decide +kernel, by decide, rfl⟩
theorem iX7_longer_65 : DLdI mX7_longer 65 4 67 := Or.inr ⟨by decide +kernel, rfl⟩
theorem iX7_longer_67 : mX7_longer.2.2.2 = some .int ∧ decode mX7_longer.2.1 67 = .ok (.ireturn, 1) := ⟨rfl, by decide +kernel⟩
theorem iX7_longer_68 : DInc mX7_longer 68 4 1 71 := ⟨by decide, 1, by decide +kernel, by decide, rfl⟩
theorem iX7_longer_71 : DGo mX7_longer 71 28 := ⟨(-43), by decide +kernel, by decide⟩
theorem iX7_longer_74 : DPushI mX7_longer 74 (-4) 76 := Or.inr (Or.inl ⟨(-4), by decide +kernel, by decide, rfl⟩)
theorem iX7_longer_76 : mX7_longer.2.2.2 = some .int ∧ decode mX7_longer.2.1 76 = .ok (.ireturn, 1) := ⟨rfl, by decide +kernel⟩
theorem iX7_luck_0 : DLdI mX7_luck 0 1 1 := Or.inl ⟨1, by decide +kernel, rfl, rfl⟩
theorem iX7_luck_1 : D1 mX7_luck 1 .i2l 1 2 := ⟨by decide +kernel, rfl⟩
theorem iX7_luck_2 : DPushL mX7_luck 2 0 3 := Or.inl ⟨0, by decide +kernel, by decide, rfl⟩
theorem iX7_luck_3 : DPushL mX7_luck 3 150 6 := Or.inr ⟨198, by decide +kernel, bigW_at 921 (by decide +kernel) rfl, rfl⟩
theorem iX7_luck_6 : DInvS mX7_luck 6 mX7_in 3 9 := ⟨44, by decide +kernel, rfl, Or.inl xl_RX7_44, xt_X7_in, xm_X7_in⟩
theorem iX7_luck_9 : DIf mX7_luck 9 .eq 34 12 := ⟨25, by decide +kernel, by decide, rfl⟩
theorem iX7_luck_12 : DLdI mX7_luck 12 2 13 := Or.inl ⟨2, by decide +kernel, rfl, rfl⟩
theorem iX7_luck_13 : D1 mX7_luck 13 .i2l 1 14 := ⟨by decide +kernel, rfl⟩
theorem iX7_luck_14 : DPushL mX7_luck 14 0 15 := Or.inl ⟨0, by decide +kernel, by decide, rfl⟩
theorem iX7_luck_15 : DPushL mX7_luck 15 10 18 := Or.inr ⟨200, by decide +kernel, bigW_at 922 (by decide +kernel) rfl, rfl⟩
theorem iX7_luck_18 : DInvS mX7_luck 18 mX7_in 3 21 := ⟨44, by decide +kernel, rfl, Or.inl xl_RX7_44, xt_X7_in, xm_X7_in⟩
theorem iX7_luck_21 : DIf mX7_luck 21 .eq 34 24 := ⟨13, by decide +kernel, by decide, rfl⟩
theorem iX7_luck_24 : DLdI mX7_luck 24 3 25 := Or.inl ⟨3, by decide +kernel, rfl, rfl⟩
theorem iX7_luck_25 : D1 mX7_luck 25 .i2l 1 26 := ⟨by decide +kernel, rfl⟩
theorem iX7_luck_26 : DPushL mX7_luck 26 0 27 := Or.inl ⟨0, by decide +kernel, by decide, rfl⟩
theorem iX7_luck_27 : DPushL mX7_luck 27 1 28 := Or.inl ⟨1, by decide +kernel, by decide, rfl⟩
theorem iX7_luck_28 : DInvS mX7_luck 28 mX7_in 3 31 := ⟨44, by decide +kernel, rfl, Or.inl xl_RX7_44, xt_X7_in, xm_X7_in⟩
theorem iX7_luck_31 : DIf mX7_luck 31 .ne 36 34 := ⟨5, by decide +kernel, by decide, rfl⟩
theorem iX7_luck_34 : DPushI mX7_luck 34 (-1) 35 := Or.inl ⟨(-1), by decide +kernel, by decide, rfl⟩
theorem iX7_luck_35 : mX7_luck.2.2.2 = some .int ∧ decode mX7_luck.2.1 35 = .ok (.ireturn, 1) := ⟨rfl, by decide +kernel⟩
theorem iX7_luck_36 : DPushI mX7_luck 36 0 37 := Or.inl ⟨0, by decide +kernel, by decide, rfl⟩
theorem iX7_luck_37 : DStI mX7_luck 37 4 39 := ⟨by decide, Or.inr ⟨by decide +kernel, rfl⟩⟩
theorem iX7_luck_39 : DPushI mX7_luck 39 0 40 := Or.inl ⟨0, by decide +kernel, by decide, rfl⟩
theorem iX7_luck_40 : DStI mX7_luck 40 5 42 := ⟨by decide, Or.inr ⟨by decide +kernel, rfl⟩⟩
theorem iX7_luck_42 : DLdA mX7_luck 42 0 43 := Or.inl ⟨0, by decide +kernel, rfl, rfl⟩
theorem iX7_luck_43 : DInvV mX7_luck 43 mX7_asides 7 0 46 := ⟨182, TX7, 17, by decide +kernel, rfl, rfl, xl_RX7_182, xi_X7_asides, xs_X7_asides, xm_X7_asides⟩
theorem iX7_luck_46 : DPushI mX7_luck 46 0 47 := Or.inl ⟨0, by decide +kernel, by decide, rfl⟩
theorem iX7_luck_47 : DStI mX7_luck 47 6 49 := ⟨by decide, Or.inr ⟨by decide +kernel, rfl⟩⟩
theorem iX7_luck_49 : DLdI mX7_luck 49 6 51 := Or.inr ⟨by decide +kernel, rfl⟩
theorem iX7_luck_51 : DPushI mX7_luck 51 1 52 := Or.inl ⟨1, by decide +kernel, by decide, rfl⟩
theorem iX7_luck_52 : DLdA mX7_luck 52 0 53 := Or.inl ⟨0, by decide +kernel, rfl, rfl⟩
theorem iX7_luck_53 : DGet mX7_luck 53 7 0 56 := ⟨7, by decide +kernel, rfl, xf_RX7_7⟩
theorem iX7_luck_56 : DPushI mX7_luck 56 1 57 := Or.inl ⟨1, by decide +kernel, by decide, rfl⟩
theorem iX7_luck_57 : D1 mX7_luck 57 .iaload 1 58 := ⟨by decide +kernel, rfl⟩
theorem iX7_luck_58 : D1 mX7_luck 58 .ishl 1 59 := ⟨by decide +kernel, rfl⟩
theorem iX7_luck_59 : DCm mX7_luck 59 .ge 208 62 := ⟨149, by decide +kernel, by decide, rfl⟩
theorem iX7_luck_62 : DPushI mX7_luck 62 1 63 := Or.inl ⟨1, by decide +kernel, by decide, rfl⟩
theorem iX7_luck_63 : DStI mX7_luck 63 7 65 := ⟨by decide, Or.inr ⟨by decide +kernel, rfl⟩⟩
theorem iX7_luck_65 : DPushI mX7_luck 65 0 66 := Or.inl ⟨0, by decide +kernel, by decide, rfl⟩
theorem iX7_luck_66 : DStI mX7_luck 66 8 68 := ⟨by decide, Or.inr ⟨by decide +kernel, rfl⟩⟩
theorem iX7_luck_68 : DLdI mX7_luck 68 8 70 := Or.inr ⟨by decide +kernel, rfl⟩
theorem iX7_luck_70 : DLdA mX7_luck 70 0 71 := Or.inl ⟨0, by decide +kernel, rfl, rfl⟩
theorem iX7_luck_71 : DGet mX7_luck 71 7 0 74 := ⟨7, by decide +kernel, rfl, xf_RX7_7⟩
theorem iX7_luck_74 : DPushI mX7_luck 74 1 75 := Or.inl ⟨1, by decide +kernel, by decide, rfl⟩
theorem iX7_luck_75 : D1 mX7_luck 75 .iaload 1 76 := ⟨by decide +kernel, rfl⟩
theorem iX7_luck_76 : DCm mX7_luck 76 .ge 157 79 := ⟨81, by decide +kernel, by decide, rfl⟩
theorem iX7_luck_79 : DLdI mX7_luck 79 6 81 := Or.inr ⟨by decide +kernel, rfl⟩
theorem iX7_luck_81 : DLdI mX7_luck 81 8 83 := Or.inr ⟨by decide +kernel, rfl⟩
theorem iX7_luck_83 : D1 mX7_luck 83 .ishr 1 84 := ⟨by decide +kernel, rfl⟩
theorem iX7_luck_84 : DPushI mX7_luck 84 1 85 := Or.inl ⟨1, by decide +kernel, by decide, rfl⟩
theorem iX7_luck_85 : D1 mX7_luck 85 .iand 1 86 := ⟨by decide +kernel, rfl⟩
theorem iX7_luck_86 : DPushI mX7_luck 86 1 87 := Or.inl ⟨1, by decide +kernel, by decide, rfl⟩
theorem iX7_luck_87 : DCm mX7_luck 87 .ne 94 90 := ⟨7, by decide +kernel, by decide, rfl⟩
theorem iX7_luck_90 : DPushI mX7_luck 90 1 91 := Or.inl ⟨1, by decide +kernel, by decide, rfl⟩
theorem iX7_luck_91 : DGo mX7_luck 91 95 := ⟨4, by decide +kernel, by decide⟩
theorem iX7_luck_94 : DPushI mX7_luck 94 0 95 := Or.inl ⟨0, by decide +kernel, by decide, rfl⟩
theorem iX7_luck_95 : DStI mX7_luck 95 9 97 := ⟨by decide, Or.inr ⟨by decide +kernel, rfl⟩⟩
theorem iX7_luck_97 : DLdA mX7_luck 97 0 98 := Or.inl ⟨0, by decide +kernel, rfl, rfl⟩
theorem iX7_luck_98 : DLdI mX7_luck 98 8 100 := Or.inr ⟨by decide +kernel, rfl⟩
theorem iX7_luck_100 : DInvV mX7_luck 100 mX7_leansAt 7 1 103 := ⟨59, TX7, 17, by decide +kernel, rfl, rfl, xl_RX7_59, xi_X7_leansAt, xs_X7_leansAt, xm_X7_leansAt⟩
theorem iX7_luck_103 : DPushI mX7_luck 103 (-4) 105 := Or.inr (Or.inl ⟨(-4), by decide +kernel, by decide, rfl⟩)
theorem iX7_luck_105 : DCm mX7_luck 105 .eq 112 108 := ⟨7, by decide +kernel, by decide, rfl⟩
theorem iX7_luck_108 : DPushI mX7_luck 108 1 109 := Or.inl ⟨1, by decide +kernel, by decide, rfl⟩
theorem iX7_luck_109 : DGo mX7_luck 109 113 := ⟨4, by decide +kernel, by decide⟩
theorem iX7_luck_112 : DPushI mX7_luck 112 0 113 := Or.inl ⟨0, by decide +kernel, by decide, rfl⟩
theorem iX7_luck_113 : DStI mX7_luck 113 10 115 := ⟨by decide, Or.inr ⟨by decide +kernel, rfl⟩⟩
theorem iX7_luck_115 : DLdI mX7_luck 115 7 117 := Or.inr ⟨by decide +kernel, rfl⟩
theorem iX7_luck_117 : DLdI mX7_luck 117 10 119 := Or.inr ⟨by decide +kernel, rfl⟩
theorem iX7_luck_119 : DIf mX7_luck 119 .eq 138 122 := ⟨19, by decide +kernel, by decide, rfl⟩
theorem iX7_luck_122 : DLdI mX7_luck 122 9 124 := Or.inr ⟨by decide +kernel, rfl⟩
theorem iX7_luck_124 : DIf mX7_luck 124 .eq 131 127 := ⟨7, by decide +kernel, by decide, rfl⟩
theorem iX7_luck_127 : DLdI mX7_luck 127 2 128 := Or.inl ⟨2, by decide +kernel, rfl, rfl⟩
theorem iX7_luck_128 : DGo mX7_luck 128 148 := ⟨20, by decide +kernel, by decide⟩
theorem iX7_luck_131 : DPushI mX7_luck 131 10 133 := Or.inr (Or.inl ⟨10, by decide +kernel, by decide, rfl⟩)
theorem iX7_luck_133 : DLdI mX7_luck 133 2 134 := Or.inl ⟨2, by decide +kernel, rfl, rfl⟩
theorem iX7_luck_134 : D1 mX7_luck 134 .isub 1 135 := ⟨by decide +kernel, rfl⟩
theorem iX7_luck_135 : DGo mX7_luck 135 148 := ⟨13, by decide +kernel, by decide⟩
theorem iX7_luck_138 : DLdI mX7_luck 138 9 140 := Or.inr ⟨by decide +kernel, rfl⟩
theorem iX7_luck_140 : DIf mX7_luck 140 .eq 147 143 := ⟨7, by decide +kernel, by decide, rfl⟩
theorem iX7_luck_143 : DPushI mX7_luck 143 0 144 := Or.inl ⟨0, by decide +kernel, by decide, rfl⟩
theorem iX7_luck_144 : DGo mX7_luck 144 148 := ⟨4, by decide +kernel, by decide⟩
theorem iX7_luck_147 : DPushI mX7_luck 147 1 148 := Or.inl ⟨1, by decide +kernel, by decide, rfl⟩
theorem iX7_luck_148 : D1 mX7_luck 148 .imul 1 149 := ⟨by decide +kernel, rfl⟩
theorem iX7_luck_149 : DStI mX7_luck 149 7 151 := ⟨by decide, Or.inr ⟨by decide +kernel, rfl⟩⟩
theorem iX7_luck_151 : DInc mX7_luck 151 8 1 154 := ⟨by decide, 1, by decide +kernel, by decide, rfl⟩
theorem iX7_luck_154 : DGo mX7_luck 154 68 := ⟨(-86), by decide +kernel, by decide⟩
theorem iX7_luck_157 : DLdA mX7_luck 157 0 158 := Or.inl ⟨0, by decide +kernel, rfl, rfl⟩
theorem iX7_luck_158 : DLdI mX7_luck 158 6 160 := Or.inr ⟨by decide +kernel, rfl⟩
theorem iX7_luck_160 : DInvV mX7_luck 160 mX7_goesBy 7 1 163 := ⟨78, TX7, 17, by decide +kernel, rfl, rfl, xl_RX7_78, xi_X7_goesBy, xs_X7_goesBy, xm_X7_goesBy⟩
theorem iX7_luck_163 : DLdI mX7_luck 163 5 165 := Or.inr ⟨by decide +kernel, rfl⟩
theorem iX7_luck_165 : DLdI mX7_luck 165 7 167 := Or.inr ⟨by decide +kernel, rfl⟩
theorem iX7_luck_167 : D1 mX7_luck 167 .iadd 1 168 := ⟨by decide +kernel, rfl⟩
theorem iX7_luck_168 : DStI mX7_luck 168 5 170 := ⟨by decide, Or.inr ⟨by decide +kernel, rfl⟩⟩
theorem iX7_luck_170 : DLdI mX7_luck 170 4 172 := Or.inr ⟨by decide +kernel, rfl⟩
theorem iX7_luck_172 : DLdA mX7_luck 172 0 173 := Or.inl ⟨0, by decide +kernel, rfl, rfl⟩
theorem iX7_luck_173 : DGet mX7_luck 173 7 0 176 := ⟨7, by decide +kernel, rfl, xf_RX7_7⟩
theorem iX7_luck_176 : DPushI mX7_luck 176 3 177 := Or.inl ⟨3, by decide +kernel, by decide, rfl⟩
theorem iX7_luck_177 : D1 mX7_luck 177 .iaload 1 178 := ⟨by decide +kernel, rfl⟩
theorem iX7_luck_178 : DLdA mX7_luck 178 0 179 := Or.inl ⟨0, by decide +kernel, rfl, rfl⟩
theorem iX7_luck_179 : DGet mX7_luck 179 7 9 182 := ⟨25, by decide +kernel, rfl, xf_RX7_25⟩
theorem iX7_luck_182 : DPushI mX7_luck 182 3 183 := Or.inl ⟨3, by decide +kernel, by decide, rfl⟩
theorem iX7_luck_183 : D1 mX7_luck 183 .iaload 1 184 := ⟨by decide +kernel, rfl⟩
theorem iX7_luck_184 : D1 mX7_luck 184 .isub 1 185 := ⟨by decide +kernel, rfl⟩
theorem iX7_luck_185 : DLdI mX7_luck 185 1 186 := Or.inl ⟨1, by decide +kernel, rfl, rfl⟩
theorem iX7_luck_186 : DCm mX7_luck 186 .lt 194 189 := ⟨8, by decide +kernel, by decide, rfl⟩
theorem iX7_luck_189 : DLdI mX7_luck 189 7 191 := Or.inr ⟨by decide +kernel, rfl⟩
theorem iX7_luck_191 : DGo mX7_luck 191 195 := ⟨4, by decide +kernel, by decide⟩
theorem iX7_luck_194 : DPushI mX7_luck 194 0 195 := Or.inl ⟨0, by decide +kernel, by decide, rfl⟩
theorem iX7_luck_195 : D1 mX7_luck 195 .iadd 1 196 := ⟨by decide +kernel, rfl⟩
theorem iX7_luck_196 : DStI mX7_luck 196 4 198 := ⟨by decide, Or.inr ⟨by decide +kernel, rfl⟩⟩
theorem iX7_luck_198 : DLdA mX7_luck 198 0 199 := Or.inl ⟨0, by decide +kernel, rfl, rfl⟩
theorem iX7_luck_199 : DInvV mX7_luck 199 mX7_backs 7 0 202 := ⟨188, TX7, 17, by decide +kernel, rfl, rfl, xl_RX7_188, xi_X7_backs, xs_X7_backs, xm_X7_backs⟩
theorem iX7_luck_202 : DInc mX7_luck 202 6 1 205 := ⟨by decide, 1, by decide +kernel, by decide, rfl⟩
theorem iX7_luck_205 : DGo mX7_luck 205 49 := ⟨(-156), by decide +kernel, by decide⟩
theorem iX7_luck_208 : DLdI mX7_luck 208 4 210 := Or.inr ⟨by decide +kernel, rfl⟩
theorem iX7_luck_210 : DStI mX7_luck 210 6 212 := ⟨by decide, Or.inr ⟨by decide +kernel, rfl⟩⟩
theorem iX7_luck_212 : DLdI mX7_luck 212 5 214 := Or.inr ⟨by decide +kernel, rfl⟩
theorem iX7_luck_214 : DStI mX7_luck 214 7 216 := ⟨by decide, Or.inr ⟨by decide +kernel, rfl⟩⟩
theorem iX7_luck_216 : DLdI mX7_luck 216 7 218 := Or.inr ⟨by decide +kernel, rfl⟩
theorem iX7_luck_218 : DIf mX7_luck 218 .eq 239 221 := ⟨21, by decide +kernel, by decide, rfl⟩
theorem iX7_luck_221 : DLdI mX7_luck 221 6 223 := Or.inr ⟨by decide +kernel, rfl⟩
theorem iX7_luck_223 : DLdI mX7_luck 223 7 225 := Or.inr ⟨by decide +kernel, rfl⟩
theorem iX7_luck_225 : D1 mX7_luck 225 .irem 1 226 := ⟨by decide +kernel, rfl⟩
theorem iX7_luck_226 : DStI mX7_luck 226 8 228 := ⟨by decide, Or.inr ⟨by decide +kernel, rfl⟩⟩
theorem iX7_luck_228 : DLdI mX7_luck 228 7 230 := Or.inr ⟨by decide +kernel, rfl⟩
theorem iX7_luck_230 : DStI mX7_luck 230 6 232 := ⟨by decide, Or.inr ⟨by decide +kernel, rfl⟩⟩
theorem iX7_luck_232 : DLdI mX7_luck 232 8 234 := Or.inr ⟨by decide +kernel, rfl⟩
theorem iX7_luck_234 : DStI mX7_luck 234 7 236 := ⟨by decide, Or.inr ⟨by decide +kernel, rfl⟩⟩
theorem iX7_luck_236 : DGo mX7_luck 236 216 := ⟨(-20), by decide +kernel, by decide⟩
theorem iX7_luck_239 : DLdI mX7_luck 239 3 240 := Or.inl ⟨3, by decide +kernel, rfl, rfl⟩
theorem iX7_luck_240 : DIf mX7_luck 240 .ne 251 243 := ⟨11, by decide +kernel, by decide, rfl⟩
theorem iX7_luck_243 : DLdI mX7_luck 243 4 245 := Or.inr ⟨by decide +kernel, rfl⟩
theorem iX7_luck_245 : DLdI mX7_luck 245 6 247 := Or.inr ⟨by decide +kernel, rfl⟩
theorem iX7_luck_247 : D1 mX7_luck 247 .idiv 1 248 := ⟨by decide +kernel, rfl⟩
theorem iX7_luck_248 : DGo mX7_luck 248 256 := ⟨8, by decide +kernel, by decide⟩
theorem iX7_luck_251 : DLdI mX7_luck 251 5 253 := Or.inr ⟨by decide +kernel, rfl⟩
theorem iX7_luck_253 : DLdI mX7_luck 253 6 255 := Or.inr ⟨by decide +kernel, rfl⟩
theorem iX7_luck_255 : D1 mX7_luck 255 .idiv 1 256 := ⟨by decide +kernel, rfl⟩
theorem iX7_luck_256 : mX7_luck.2.2.2 = some .int ∧ decode mX7_luck.2.1 256 = .ok (.ireturn, 1) := ⟨rfl, by decide +kernel⟩
theorem iX7_must_0 : DLdA mX7_must 0 0 1 := Or.inl ⟨0, by decide +kernel, rfl, rfl⟩
theorem iX7_must_1 : DLdA mX7_must 1 0 2 := Or.inl ⟨0, by decide +kernel, rfl, rfl⟩
theorem iX7_must_2 : DGet mX7_must 2 7 4 5 := ⟨133, by decide +kernel, rfl, xf_RX7_133⟩
theorem iX7_must_5 : DIf mX7_must 5 .ne 12 8 := ⟨7, by decide +kernel, by decide, rfl⟩
theorem iX7_must_8 : DLdI mX7_must 8 1 9 := Or.inl ⟨1, by decide +kernel, rfl, rfl⟩
theorem iX7_must_9 : DIf mX7_must 9 .ne 16 12 := ⟨7, by decide +kernel, by decide, rfl⟩
theorem iX7_must_12 : DPushI mX7_must 12 1 13 := Or.inl ⟨1, by decide +kernel, by decide, rfl⟩
theorem iX7_must_13 : DGo mX7_must 13 17 := ⟨4, by decide +kernel, by decide⟩
theorem iX7_must_16 : DPushI mX7_must 16 0 17 := Or.inl ⟨0, by decide +kernel, by decide, rfl⟩
theorem iX7_must_17 : DPut mX7_must 17 7 4 .boolean 20 := ⟨133, by decide +kernel, rfl, RX7, TX7, 17, tyX7, rfl, by decide, bigW_at 646 (by decide +kernel) rfl, xw7, tyX7_ok, nmX7, rfl, Or.inl rfl⟩
theorem iX7_must_20 : DLdA mX7_must 20 0 21 := Or.inl ⟨0, by decide +kernel, rfl, rfl⟩
theorem iX7_must_21 : D1 mX7_must 21 .dup 1 22 := ⟨by decide +kernel, rfl⟩
theorem iX7_must_22 : DGet mX7_must 22 7 3 25 := ⟨130, by decide +kernel, rfl, xf_RX7_130⟩
theorem iX7_must_25 : DLdA mX7_must 25 0 26 := Or.inl ⟨0, by decide +kernel, rfl, rfl⟩
theorem iX7_must_26 : DGet mX7_must 26 7 4 29 := ⟨133, by decide +kernel, rfl, xf_RX7_133⟩
theorem iX7_must_29 : DIf mX7_must 29 .eq 36 32 := ⟨7, by decide +kernel, by decide, rfl⟩
theorem iX7_must_32 : DPushI mX7_must 32 0 33 := Or.inl ⟨0, by decide +kernel, by decide, rfl⟩
theorem iX7_must_33 : DGo mX7_must 33 37 := ⟨4, by decide +kernel, by decide⟩
theorem iX7_must_36 : DPushI mX7_must 36 1 37 := Or.inl ⟨1, by decide +kernel, by decide, rfl⟩
theorem iX7_must_37 : D1 mX7_must 37 .iadd 1 38 := ⟨by decide +kernel, rfl⟩
theorem iX7_must_38 : DPut mX7_must 38 7 3 .int 41 := ⟨130, by decide +kernel, rfl, RX7, TX7, 17, tyX7, rfl, by decide, bigW_at 645 (by decide +kernel) rfl, xw7, tyX7_ok, nmX7, rfl, Or.inl rfl⟩
theorem iX7_must_41 : mX7_must.2.2.2 = none ∧ decode mX7_must.2.1 41 = .ok (.return_, 1) := ⟨rfl, by decide +kernel⟩
theorem iX7_notes_0 : DLdA mX7_notes 0 0 1 := Or.inl ⟨0, by decide +kernel, rfl, rfl⟩
theorem iX7_notes_1 : DGet mX7_notes 1 7 8 4 := ⟨82, by decide +kernel, rfl, xf_RX7_82⟩
theorem iX7_notes_4 : DPushI mX7_notes 4 8 6 := Or.inr (Or.inl ⟨8, by decide +kernel, by decide, rfl⟩)
theorem iX7_notes_6 : DCm mX7_notes 6 .ne 45 9 := ⟨39, by decide +kernel, by decide, rfl⟩
theorem iX7_notes_9 : DPushI mX7_notes 9 15 11 := Or.inr (Or.inl ⟨15, by decide +kernel, by decide, rfl⟩)
theorem iX7_notes_11 : DStI mX7_notes 11 1 12 := ⟨by decide, Or.inl ⟨1, by decide +kernel, rfl, rfl⟩⟩
theorem iX7_notes_12 : DLdI mX7_notes 12 1 13 := Or.inl ⟨1, by decide +kernel, rfl, rfl⟩
theorem iX7_notes_13 : DPushI mX7_notes 13 120 15 := Or.inr (Or.inl ⟨120, by decide +kernel, by decide, rfl⟩)
theorem iX7_notes_15 : DCm mX7_notes 15 .ge 39 18 := ⟨24, by decide +kernel, by decide, rfl⟩
theorem iX7_notes_18 : DLdA mX7_notes 18 0 19 := Or.inl ⟨0, by decide +kernel, rfl, rfl⟩
theorem iX7_notes_19 : DGet mX7_notes 19 7 7 22 := ⟨22, by decide +kernel, rfl, xf_RX7_22⟩
theorem iX7_notes_22 : DLdI mX7_notes 22 1 23 := Or.inl ⟨1, by decide +kernel, rfl, rfl⟩
theorem iX7_notes_23 : DPushI mX7_notes 23 15 25 := Or.inr (Or.inl ⟨15, by decide +kernel, by decide, rfl⟩)
theorem iX7_notes_25 : D1 mX7_notes 25 .isub 1 26 := ⟨by decide +kernel, rfl⟩
theorem iX7_notes_26 : DLdA mX7_notes 26 0 27 := Or.inl ⟨0, by decide +kernel, rfl, rfl⟩
theorem iX7_notes_27 : DGet mX7_notes 27 7 7 30 := ⟨22, by decide +kernel, rfl, xf_RX7_22⟩
theorem iX7_notes_30 : DLdI mX7_notes 30 1 31 := Or.inl ⟨1, by decide +kernel, rfl, rfl⟩
theorem iX7_notes_31 : D1 mX7_notes 31 .iaload 1 32 := ⟨by decide +kernel, rfl⟩
theorem iX7_notes_32 : D1 mX7_notes 32 .iastore 1 33 := ⟨by decide +kernel, rfl⟩
theorem iX7_notes_33 : DInc mX7_notes 33 1 1 36 := ⟨by decide, 1, by decide +kernel, by decide, rfl⟩
theorem iX7_notes_36 : DGo mX7_notes 36 12 := ⟨(-24), by decide +kernel, by decide⟩
theorem iX7_notes_39 : DLdA mX7_notes 39 0 40 := Or.inl ⟨0, by decide +kernel, rfl, rfl⟩
theorem iX7_notes_40 : DPushI mX7_notes 40 7 42 := Or.inr (Or.inl ⟨7, by decide +kernel, by decide, rfl⟩)
theorem iX7_notes_42 : DPut mX7_notes 42 7 8 .int 45 := ⟨82, by decide +kernel, rfl, RX7, TX7, 17, tyX7, rfl, by decide, bigW_at 650 (by decide +kernel) rfl, xw7, tyX7_ok, nmX7, rfl, Or.inl rfl⟩
theorem iX7_notes_45 : DPushI mX7_notes 45 15 47 := Or.inr (Or.inl ⟨15, by decide +kernel, by decide, rfl⟩)
theorem iX7_notes_47 : DLdA mX7_notes 47 0 48 := Or.inl ⟨0, by decide +kernel, rfl, rfl⟩
theorem iX7_notes_48 : DGet mX7_notes 48 7 8 51 := ⟨82, by decide +kernel, rfl, xf_RX7_82⟩
theorem iX7_notes_51 : D1 mX7_notes 51 .imul 1 52 := ⟨by decide +kernel, rfl⟩
theorem iX7_notes_52 : DStI mX7_notes 52 1 53 := ⟨by decide, Or.inl ⟨1, by decide +kernel, rfl, rfl⟩⟩
theorem iX7_notes_53 : DPushI mX7_notes 53 0 54 := Or.inl ⟨0, by decide +kernel, by decide, rfl⟩
theorem iX7_notes_54 : DStI mX7_notes 54 2 55 := ⟨by decide, Or.inl ⟨2, by decide +kernel, rfl, rfl⟩⟩
theorem iX7_notes_55 : DLdI mX7_notes 55 2 56 := Or.inl ⟨2, by decide +kernel, rfl, rfl⟩
theorem iX7_notes_56 : DPushI mX7_notes 56 4 57 := Or.inl ⟨4, by decide +kernel, by decide, rfl⟩
theorem iX7_notes_57 : DCm mX7_notes 57 .ge 82 60 := ⟨25, by decide +kernel, by decide, rfl⟩
theorem iX7_notes_60 : DLdA mX7_notes 60 0 61 := Or.inl ⟨0, by decide +kernel, rfl, rfl⟩
theorem iX7_notes_61 : DGet mX7_notes 61 7 7 64 := ⟨22, by decide +kernel, rfl, xf_RX7_22⟩
theorem iX7_notes_64 : DLdI mX7_notes 64 1 65 := Or.inl ⟨1, by decide +kernel, rfl, rfl⟩
theorem iX7_notes_65 : DLdI mX7_notes 65 2 66 := Or.inl ⟨2, by decide +kernel, rfl, rfl⟩
theorem iX7_notes_66 : D1 mX7_notes 66 .iadd 1 67 := ⟨by decide +kernel, rfl⟩
theorem iX7_notes_67 : DLdA mX7_notes 67 0 68 := Or.inl ⟨0, by decide +kernel, rfl, rfl⟩
theorem iX7_notes_68 : DGet mX7_notes 68 7 0 71 := ⟨7, by decide +kernel, rfl, xf_RX7_7⟩
theorem iX7_notes_71 : DPushI mX7_notes 71 2 72 := Or.inl ⟨2, by decide +kernel, by decide, rfl⟩
theorem iX7_notes_72 : DLdI mX7_notes 72 2 73 := Or.inl ⟨2, by decide +kernel, rfl, rfl⟩
theorem iX7_notes_73 : D1 mX7_notes 73 .iadd 1 74 := ⟨by decide +kernel, rfl⟩
theorem iX7_notes_74 : D1 mX7_notes 74 .iaload 1 75 := ⟨by decide +kernel, rfl⟩
theorem iX7_notes_75 : D1 mX7_notes 75 .iastore 1 76 := ⟨by decide +kernel, rfl⟩
theorem iX7_notes_76 : DInc mX7_notes 76 2 1 79 := ⟨by decide, 1, by decide +kernel, by decide, rfl⟩
theorem iX7_notes_79 : DGo mX7_notes 79 55 := ⟨(-24), by decide +kernel, by decide⟩
theorem iX7_notes_82 : DLdA mX7_notes 82 0 83 := Or.inl ⟨0, by decide +kernel, rfl, rfl⟩
theorem iX7_notes_83 : DGet mX7_notes 83 7 7 86 := ⟨22, by decide +kernel, rfl, xf_RX7_22⟩
theorem iX7_notes_86 : DLdI mX7_notes 86 1 87 := Or.inl ⟨1, by decide +kernel, rfl, rfl⟩
theorem iX7_notes_87 : DPushI mX7_notes 87 4 88 := Or.inl ⟨4, by decide +kernel, by decide, rfl⟩
theorem iX7_notes_88 : D1 mX7_notes 88 .iadd 1 89 := ⟨by decide +kernel, rfl⟩
theorem iX7_notes_89 : DLdA mX7_notes 89 0 90 := Or.inl ⟨0, by decide +kernel, rfl, rfl⟩
theorem iX7_notes_90 : DGet mX7_notes 90 7 0 93 := ⟨7, by decide +kernel, rfl, xf_RX7_7⟩
theorem iX7_notes_93 : DPushI mX7_notes 93 8 95 := Or.inr (Or.inl ⟨8, by decide +kernel, by decide, rfl⟩)
theorem iX7_notes_95 : D1 mX7_notes 95 .iaload 1 96 := ⟨by decide +kernel, rfl⟩
theorem iX7_notes_96 : D1 mX7_notes 96 .iastore 1 97 := ⟨by decide +kernel, rfl⟩
theorem iX7_notes_97 : DPushI mX7_notes 97 0 98 := Or.inl ⟨0, by decide +kernel, by decide, rfl⟩
theorem iX7_notes_98 : DStI mX7_notes 98 2 99 := ⟨by decide, Or.inl ⟨2, by decide +kernel, rfl, rfl⟩⟩
theorem iX7_notes_99 : DLdI mX7_notes 99 2 100 := Or.inl ⟨2, by decide +kernel, rfl, rfl⟩
theorem iX7_notes_100 : DPushI mX7_notes 100 6 102 := Or.inr (Or.inl ⟨6, by decide +kernel, by decide, rfl⟩)
theorem iX7_notes_102 : DCm mX7_notes 102 .ge 127 105 := ⟨25, by decide +kernel, by decide, rfl⟩
theorem iX7_notes_105 : DLdA mX7_notes 105 0 106 := Or.inl ⟨0, by decide +kernel, rfl, rfl⟩
theorem iX7_notes_106 : DGet mX7_notes 106 7 7 109 := ⟨22, by decide +kernel, rfl, xf_RX7_22⟩
theorem iX7_notes_109 : DLdI mX7_notes 109 1 110 := Or.inl ⟨1, by decide +kernel, rfl, rfl⟩
theorem iX7_notes_110 : DPushI mX7_notes 110 5 111 := Or.inl ⟨5, by decide +kernel, by decide, rfl⟩
theorem iX7_notes_111 : D1 mX7_notes 111 .iadd 1 112 := ⟨by decide +kernel, rfl⟩
theorem iX7_notes_112 : DLdI mX7_notes 112 2 113 := Or.inl ⟨2, by decide +kernel, rfl, rfl⟩
theorem iX7_notes_113 : D1 mX7_notes 113 .iadd 1 114 := ⟨by decide +kernel, rfl⟩
theorem iX7_notes_114 : DLdA mX7_notes 114 0 115 := Or.inl ⟨0, by decide +kernel, rfl, rfl⟩
theorem iX7_notes_115 : DLdI mX7_notes 115 2 116 := Or.inl ⟨2, by decide +kernel, rfl, rfl⟩
theorem iX7_notes_116 : DPushI mX7_notes 116 1 117 := Or.inl ⟨1, by decide +kernel, by decide, rfl⟩
theorem iX7_notes_117 : DInvV mX7_notes 117 mX7_ofTree 7 2 120 := ⟨56, TX7, 17, by decide +kernel, rfl, rfl, xl_RX7_56, xi_X7_ofTree, xs_X7_ofTree, xm_X7_ofTree⟩
theorem iX7_notes_120 : D1 mX7_notes 120 .iastore 1 121 := ⟨by decide +kernel, rfl⟩
theorem iX7_notes_121 : DInc mX7_notes 121 2 1 124 := ⟨by decide, 1, by decide +kernel, by decide, rfl⟩
theorem iX7_notes_124 : DGo mX7_notes 124 99 := ⟨(-25), by decide +kernel, by decide⟩
theorem iX7_notes_127 : DPushI mX7_notes 127 0 128 := Or.inl ⟨0, by decide +kernel, by decide, rfl⟩
theorem iX7_notes_128 : DStI mX7_notes 128 2 129 := ⟨by decide, Or.inl ⟨2, by decide +kernel, rfl, rfl⟩⟩
theorem iX7_notes_129 : DLdI mX7_notes 129 2 130 := Or.inl ⟨2, by decide +kernel, rfl, rfl⟩
theorem iX7_notes_130 : DPushI mX7_notes 130 4 131 := Or.inl ⟨4, by decide +kernel, by decide, rfl⟩
theorem iX7_notes_131 : DCm mX7_notes 131 .ge 156 134 := ⟨25, by decide +kernel, by decide, rfl⟩
theorem iX7_notes_134 : DLdA mX7_notes 134 0 135 := Or.inl ⟨0, by decide +kernel, rfl, rfl⟩
theorem iX7_notes_135 : DGet mX7_notes 135 7 7 138 := ⟨22, by decide +kernel, rfl, xf_RX7_22⟩
theorem iX7_notes_138 : DLdI mX7_notes 138 1 139 := Or.inl ⟨1, by decide +kernel, rfl, rfl⟩
theorem iX7_notes_139 : DPushI mX7_notes 139 11 141 := Or.inr (Or.inl ⟨11, by decide +kernel, by decide, rfl⟩)
theorem iX7_notes_141 : D1 mX7_notes 141 .iadd 1 142 := ⟨by decide +kernel, rfl⟩
theorem iX7_notes_142 : DLdI mX7_notes 142 2 143 := Or.inl ⟨2, by decide +kernel, rfl, rfl⟩
theorem iX7_notes_143 : D1 mX7_notes 143 .iadd 1 144 := ⟨by decide +kernel, rfl⟩
theorem iX7_notes_144 : DLdA mX7_notes 144 0 145 := Or.inl ⟨0, by decide +kernel, rfl, rfl⟩
theorem iX7_notes_145 : DLdI mX7_notes 145 2 146 := Or.inl ⟨2, by decide +kernel, rfl, rfl⟩
theorem iX7_notes_146 : DInvV mX7_notes 146 mX7_leansAt 7 1 149 := ⟨59, TX7, 17, by decide +kernel, rfl, rfl, xl_RX7_59, xi_X7_leansAt, xs_X7_leansAt, xm_X7_leansAt⟩
theorem iX7_notes_149 : D1 mX7_notes 149 .iastore 1 150 := ⟨by decide +kernel, rfl⟩
theorem iX7_notes_150 : DInc mX7_notes 150 2 1 153 := ⟨by decide, 1, by decide +kernel, by decide, rfl⟩
theorem iX7_notes_153 : DGo mX7_notes 153 129 := ⟨(-24), by decide +kernel, by decide⟩
theorem iX7_notes_156 : DLdA mX7_notes 156 0 157 := Or.inl ⟨0, by decide +kernel, rfl, rfl⟩
theorem iX7_notes_157 : D1 mX7_notes 157 .dup 1 158 := ⟨by decide +kernel, rfl⟩
theorem iX7_notes_158 : DGet mX7_notes 158 7 8 161 := ⟨82, by decide +kernel, rfl, xf_RX7_82⟩
theorem iX7_notes_161 : DPushI mX7_notes 161 1 162 := Or.inl ⟨1, by decide +kernel, by decide, rfl⟩
theorem iX7_notes_162 : D1 mX7_notes 162 .iadd 1 163 := ⟨by decide +kernel, rfl⟩
theorem iX7_notes_163 : DPut mX7_notes 163 7 8 .int 166 := ⟨82, by decide +kernel, rfl, RX7, TX7, 17, tyX7, rfl, by decide, bigW_at 650 (by decide +kernel) rfl, xw7, tyX7_ok, nmX7, rfl, Or.inl rfl⟩
theorem iX7_notes_166 : mX7_notes.2.2.2 = none ∧ decode mX7_notes.2.1 166 = .ok (.return_, 1) := ⟨rfl, by decide +kernel⟩
theorem iX7_number_0 : DLdA mX7_number 0 0 1 := Or.inl ⟨0, by decide +kernel, rfl, rfl⟩
theorem iX7_number_1 : DGet mX7_number 1 7 4 4 := ⟨133, by decide +kernel, rfl, xf_RX7_133⟩
theorem iX7_number_4 : DIf mX7_number 4 .eq 11 7 := ⟨7, by decide +kernel, by decide, rfl⟩
theorem iX7_number_7 : DPushI mX7_number 7 0 8 := Or.inl ⟨0, by decide +kernel, by decide, rfl⟩
theorem iX7_number_8 : DGo mX7_number 8 15 := ⟨7, by decide +kernel, by decide⟩
theorem iX7_number_11 : DLdA mX7_number 11 0 12 := Or.inl ⟨0, by decide +kernel, rfl, rfl⟩
theorem iX7_number_12 : DInvV mX7_number 12 mX7_here 7 0 15 := ⟨137, TX7, 17, by decide +kernel, rfl, rfl, xl_RX7_137, xi_X7_here, xs_X7_here, xm_X7_here⟩
theorem iX7_number_15 : DStI mX7_number 15 3 16 := ⟨by decide, Or.inl ⟨3, by decide +kernel, rfl, rfl⟩⟩
theorem iX7_number_16 : DLdA mX7_number 16 0 17 := Or.inl ⟨0, by decide +kernel, rfl, rfl⟩
theorem iX7_number_17 : DGet mX7_number 17 7 3 20 := ⟨130, by decide +kernel, rfl, xf_RX7_130⟩
theorem iX7_number_20 : DStI mX7_number 20 4 22 := ⟨by decide, Or.inr ⟨by decide +kernel, rfl⟩⟩
theorem iX7_number_22 : DPushI mX7_number 22 0 23 := Or.inl ⟨0, by decide +kernel, by decide, rfl⟩
theorem iX7_number_23 : DStI mX7_number 23 5 25 := ⟨by decide, Or.inr ⟨by decide +kernel, rfl⟩⟩
theorem iX7_number_25 : DLdA mX7_number 25 0 26 := Or.inl ⟨0, by decide +kernel, rfl, rfl⟩
theorem iX7_number_26 : DLdA mX7_number 26 0 27 := Or.inl ⟨0, by decide +kernel, rfl, rfl⟩
theorem iX7_number_27 : DGet mX7_number 27 7 4 30 := ⟨133, by decide +kernel, rfl, xf_RX7_133⟩
theorem iX7_number_30 : DIf mX7_number 30 .ne 47 33 := ⟨17, by decide +kernel, by decide, rfl⟩
theorem iX7_number_33 : DLdI mX7_number 33 3 34 := Or.inl ⟨3, by decide +kernel, rfl, rfl⟩
theorem iX7_number_34 : D1 mX7_number 34 .i2l 1 35 := ⟨by decide +kernel, rfl⟩
theorem iX7_number_35 : DPushL mX7_number 35 48 38 := Or.inr ⟨144, by decide +kernel, bigW_at 800 (by decide +kernel) rfl, rfl⟩
theorem iX7_number_38 : DPushL mX7_number 38 57 41 := Or.inr ⟨146, by decide +kernel, bigW_at 801 (by decide +kernel) rfl, rfl⟩
theorem iX7_number_41 : DInvS mX7_number 41 mX7_in 3 44 := ⟨44, by decide +kernel, rfl, Or.inl xl_RX7_44, xt_X7_in, xm_X7_in⟩
theorem iX7_number_44 : DIf mX7_number 44 .ne 51 47 := ⟨7, by decide +kernel, by decide, rfl⟩
theorem iX7_number_47 : DPushI mX7_number 47 1 48 := Or.inl ⟨1, by decide +kernel, by decide, rfl⟩
theorem iX7_number_48 : DGo mX7_number 48 52 := ⟨4, by decide +kernel, by decide⟩
theorem iX7_number_51 : DPushI mX7_number 51 0 52 := Or.inl ⟨0, by decide +kernel, by decide, rfl⟩
theorem iX7_number_52 : DPut mX7_number 52 7 4 .boolean 55 := ⟨133, by decide +kernel, rfl, RX7, TX7, 17, tyX7, rfl, by decide, bigW_at 646 (by decide +kernel) rfl, xw7, tyX7_ok, nmX7, rfl, Or.inl rfl⟩
theorem iX7_number_55 : DLdA mX7_number 55 0 56 := Or.inl ⟨0, by decide +kernel, rfl, rfl⟩
theorem iX7_number_56 : DGet mX7_number 56 7 4 59 := ⟨133, by decide +kernel, rfl, xf_RX7_133⟩
theorem iX7_number_59 : DIf mX7_number 59 .ne 139 62 := ⟨80, by decide +kernel, by decide, rfl⟩
theorem iX7_number_62 : DLdA mX7_number 62 0 63 := Or.inl ⟨0, by decide +kernel, rfl, rfl⟩
theorem iX7_number_63 : DGet mX7_number 63 7 3 66 := ⟨130, by decide +kernel, rfl, xf_RX7_130⟩
theorem iX7_number_66 : DLdA mX7_number 66 0 67 := Or.inl ⟨0, by decide +kernel, rfl, rfl⟩
theorem iX7_number_67 : DGet mX7_number 67 7 2 70 := ⟨127, by decide +kernel, rfl, xf_RX7_127⟩
theorem iX7_number_70 : DCm mX7_number 70 .ge 139 73 := ⟨69, by decide +kernel, by decide, rfl⟩
theorem iX7_number_73 : DLdA mX7_number 73 0 74 := Or.inl ⟨0, by decide +kernel, rfl, rfl⟩
theorem iX7_number_74 : DGet mX7_number 74 7 3 77 := ⟨130, by decide +kernel, rfl, xf_RX7_130⟩
theorem iX7_number_77 : DLdI mX7_number 77 4 79 := Or.inr ⟨by decide +kernel, rfl⟩
theorem iX7_number_79 : D1 mX7_number 79 .isub 1 80 := ⟨by decide +kernel, rfl⟩
theorem iX7_number_80 : DPushI mX7_number 80 2 81 := Or.inl ⟨2, by decide +kernel, by decide, rfl⟩
theorem iX7_number_81 : DCm mX7_number 81 .ge 139 84 := ⟨58, by decide +kernel, by decide, rfl⟩
theorem iX7_number_84 : DLdA mX7_number 84 0 85 := Or.inl ⟨0, by decide +kernel, rfl, rfl⟩
theorem iX7_number_85 : DGet mX7_number 85 7 1 88 := ⟨13, by decide +kernel, rfl, xf_RX7_13⟩
theorem iX7_number_88 : DLdA mX7_number 88 0 89 := Or.inl ⟨0, by decide +kernel, rfl, rfl⟩
theorem iX7_number_89 : DGet mX7_number 89 7 3 92 := ⟨130, by decide +kernel, rfl, xf_RX7_130⟩
theorem iX7_number_92 : D1 mX7_number 92 .iaload 1 93 := ⟨by decide +kernel, rfl⟩
theorem iX7_number_93 : D1 mX7_number 93 .i2l 1 94 := ⟨by decide +kernel, rfl⟩
theorem iX7_number_94 : DPushL mX7_number 94 48 97 := Or.inr ⟨144, by decide +kernel, bigW_at 800 (by decide +kernel) rfl, rfl⟩
theorem iX7_number_97 : DPushL mX7_number 97 57 100 := Or.inr ⟨146, by decide +kernel, bigW_at 801 (by decide +kernel) rfl, rfl⟩
theorem iX7_number_100 : DInvS mX7_number 100 mX7_in 3 103 := ⟨44, by decide +kernel, rfl, Or.inl xl_RX7_44, xt_X7_in, xm_X7_in⟩
theorem iX7_number_103 : DIf mX7_number 103 .eq 139 106 := ⟨36, by decide +kernel, by decide, rfl⟩
theorem iX7_number_106 : DPushI mX7_number 106 10 108 := Or.inr (Or.inl ⟨10, by decide +kernel, by decide, rfl⟩)
theorem iX7_number_108 : DLdI mX7_number 108 5 110 := Or.inr ⟨by decide +kernel, rfl⟩
theorem iX7_number_110 : D1 mX7_number 110 .imul 1 111 := ⟨by decide +kernel, rfl⟩
theorem iX7_number_111 : DLdA mX7_number 111 0 112 := Or.inl ⟨0, by decide +kernel, rfl, rfl⟩
theorem iX7_number_112 : DGet mX7_number 112 7 1 115 := ⟨13, by decide +kernel, rfl, xf_RX7_13⟩
theorem iX7_number_115 : DLdA mX7_number 115 0 116 := Or.inl ⟨0, by decide +kernel, rfl, rfl⟩
theorem iX7_number_116 : DGet mX7_number 116 7 3 119 := ⟨130, by decide +kernel, rfl, xf_RX7_130⟩
theorem iX7_number_119 : D1 mX7_number 119 .iaload 1 120 := ⟨by decide +kernel, rfl⟩
theorem iX7_number_120 : D1 mX7_number 120 .iadd 1 121 := ⟨by decide +kernel, rfl⟩
theorem iX7_number_121 : DPushI mX7_number 121 48 123 := Or.inr (Or.inl ⟨48, by decide +kernel, by decide, rfl⟩)
theorem iX7_number_123 : D1 mX7_number 123 .isub 1 124 := ⟨by decide +kernel, rfl⟩
theorem iX7_number_124 : DStI mX7_number 124 5 126 := ⟨by decide, Or.inr ⟨by decide +kernel, rfl⟩⟩
theorem iX7_number_126 : DLdA mX7_number 126 0 127 := Or.inl ⟨0, by decide +kernel, rfl, rfl⟩
theorem iX7_number_127 : D1 mX7_number 127 .dup 1 128 := ⟨by decide +kernel, rfl⟩
theorem iX7_number_128 : DGet mX7_number 128 7 3 131 := ⟨130, by decide +kernel, rfl, xf_RX7_130⟩
theorem iX7_number_131 : DPushI mX7_number 131 1 132 := Or.inl ⟨1, by decide +kernel, by decide, rfl⟩
theorem iX7_number_132 : D1 mX7_number 132 .iadd 1 133 := ⟨by decide +kernel, rfl⟩
theorem iX7_number_133 : DPut mX7_number 133 7 3 .int 136 := ⟨130, by decide +kernel, rfl, RX7, TX7, 17, tyX7, rfl, by decide, bigW_at 645 (by decide +kernel) rfl, xw7, tyX7_ok, nmX7, rfl, Or.inl rfl⟩
theorem iX7_number_136 : DGo mX7_number 136 55 := ⟨(-81), by decide +kernel, by decide⟩
theorem iX7_number_139 : DLdA mX7_number 139 0 140 := Or.inl ⟨0, by decide +kernel, rfl, rfl⟩
theorem iX7_number_140 : DGet mX7_number 140 7 4 143 := ⟨133, by decide +kernel, rfl, xf_RX7_133⟩
theorem iX7_number_143 : DIf mX7_number 143 .ne 170 146 := ⟨27, by decide +kernel, by decide, rfl⟩
theorem iX7_number_146 : DLdI mX7_number 146 5 148 := Or.inr ⟨by decide +kernel, rfl⟩
theorem iX7_number_148 : D1 mX7_number 148 .i2l 1 149 := ⟨by decide +kernel, rfl⟩
theorem iX7_number_149 : DLdI mX7_number 149 1 150 := Or.inl ⟨1, by decide +kernel, rfl, rfl⟩
theorem iX7_number_150 : D1 mX7_number 150 .i2l 1 151 := ⟨by decide +kernel, rfl⟩
theorem iX7_number_151 : DLdI mX7_number 151 2 152 := Or.inl ⟨2, by decide +kernel, rfl, rfl⟩
theorem iX7_number_152 : D1 mX7_number 152 .i2l 1 153 := ⟨by decide +kernel, rfl⟩
theorem iX7_number_153 : DInvS mX7_number 153 mX7_in 3 156 := ⟨44, by decide +kernel, rfl, Or.inl xl_RX7_44, xt_X7_in, xm_X7_in⟩
theorem iX7_number_156 : DIf mX7_number 156 .ne 170 159 := ⟨14, by decide +kernel, by decide, rfl⟩
theorem iX7_number_159 : DLdA mX7_number 159 0 160 := Or.inl ⟨0, by decide +kernel, rfl, rfl⟩
theorem iX7_number_160 : DPushI mX7_number 160 1 161 := Or.inl ⟨1, by decide +kernel, by decide, rfl⟩
theorem iX7_number_161 : DPut mX7_number 161 7 4 .boolean 164 := ⟨133, by decide +kernel, rfl, RX7, TX7, 17, tyX7, rfl, by decide, bigW_at 646 (by decide +kernel) rfl, xw7, tyX7_ok, nmX7, rfl, Or.inl rfl⟩
theorem iX7_number_164 : DLdA mX7_number 164 0 165 := Or.inl ⟨0, by decide +kernel, rfl, rfl⟩
theorem iX7_number_165 : DLdI mX7_number 165 4 167 := Or.inr ⟨by decide +kernel, rfl⟩
theorem iX7_number_167 : DPut mX7_number 167 7 3 .int 170 := ⟨130, by decide +kernel, rfl, RX7, TX7, 17, tyX7, rfl, by decide, bigW_at 645 (by decide +kernel) rfl, xw7, tyX7_ok, nmX7, rfl, Or.inl rfl⟩
theorem iX7_number_170 : DLdI mX7_number 170 5 172 := Or.inr ⟨by decide +kernel, rfl⟩
theorem iX7_number_172 : mX7_number.2.2.2 = some .int ∧ decode mX7_number.2.1 172 = .ok (.ireturn, 1) := ⟨rfl, by decide +kernel⟩
theorem iX7_of_0 : DLdA mX7_of 0 0 1 := Or.inl ⟨0, by decide +kernel, rfl, rfl⟩
theorem iX7_of_1 : DLdI mX7_of 1 1 2 := Or.inl ⟨1, by decide +kernel, rfl, rfl⟩
theorem iX7_of_2 : DInvV mX7_of 2 mX7_isTree 7 1 5 := ⟨102, TX7, 17, by decide +kernel, rfl, rfl, xl_RX7_102, xi_X7_isTree, xs_X7_isTree, xm_X7_isTree⟩
theorem iX7_of_5 : DIf mX7_of 5 .eq 20 8 := ⟨15, by decide +kernel, by decide, rfl⟩
theorem iX7_of_8 : DLdI mX7_of 8 2 9 := Or.inl ⟨2, by decide +kernel, rfl, rfl⟩
theorem iX7_of_9 : D1 mX7_of 9 .i2l 1 10 := ⟨by decide +kernel, rfl⟩
theorem iX7_of_10 : DPushL mX7_of 10 0 11 := Or.inl ⟨0, by decide +kernel, by decide, rfl⟩
theorem iX7_of_11 : DPushL mX7_of 11 4 14 := Or.inr ⟨94, by decide +kernel, bigW_at 711 (by decide +kernel) rfl, rfl⟩
theorem iX7_of_14 : DInvS mX7_of 14 mX7_in 3 17 := ⟨44, by decide +kernel, rfl, Or.inl xl_RX7_44, xt_X7_in, xm_X7_in⟩
theorem iX7_of_17 : DIf mX7_of 17 .ne 22 20 := ⟨5, by decide +kernel, by decide, rfl⟩
theorem iX7_of_20 : DPushI mX7_of 20 (-1) 21 := Or.inl ⟨(-1), by decide +kernel, by decide, rfl⟩
theorem iX7_of_21 : mX7_of.2.2.2 = some .int ∧ decode mX7_of.2.1 21 = .ok (.ireturn, 1) := ⟨rfl, by decide +kernel⟩
theorem iX7_of_22 : DLdI mX7_of 22 2 23 := Or.inl ⟨2, by decide +kernel, rfl, rfl⟩
theorem iX7_of_23 : DPushI mX7_of 23 3 24 := Or.inl ⟨3, by decide +kernel, by decide, rfl⟩
theorem iX7_of_24 : DCm mX7_of 24 .ge 36 27 := ⟨12, by decide +kernel, by decide, rfl⟩
theorem iX7_of_27 : DLdA mX7_of 27 0 28 := Or.inl ⟨0, by decide +kernel, rfl, rfl⟩
theorem iX7_of_28 : DLdI mX7_of 28 1 29 := Or.inl ⟨1, by decide +kernel, rfl, rfl⟩
theorem iX7_of_29 : DLdI mX7_of 29 2 30 := Or.inl ⟨2, by decide +kernel, rfl, rfl⟩
theorem iX7_of_30 : DInvV mX7_of 30 mX7_ofTree 7 2 33 := ⟨56, TX7, 17, by decide +kernel, rfl, rfl, xl_RX7_56, xi_X7_ofTree, xs_X7_ofTree, xm_X7_ofTree⟩
theorem iX7_of_33 : DGo mX7_of 33 61 := ⟨28, by decide +kernel, by decide⟩
theorem iX7_of_36 : DLdI mX7_of 36 2 37 := Or.inl ⟨2, by decide +kernel, rfl, rfl⟩
theorem iX7_of_37 : DPushI mX7_of 37 3 38 := Or.inl ⟨3, by decide +kernel, by decide, rfl⟩
theorem iX7_of_38 : DCm mX7_of 38 .ne 49 41 := ⟨11, by decide +kernel, by decide, rfl⟩
theorem iX7_of_41 : DLdA mX7_of 41 0 42 := Or.inl ⟨0, by decide +kernel, rfl, rfl⟩
theorem iX7_of_42 : DLdI mX7_of 42 1 43 := Or.inl ⟨1, by decide +kernel, rfl, rfl⟩
theorem iX7_of_43 : DInvV mX7_of 43 mX7_leaners 7 1 46 := ⟨105, TX7, 17, by decide +kernel, rfl, rfl, xl_RX7_105, xi_X7_leaners, xs_X7_leaners, xm_X7_leaners⟩
theorem iX7_of_46 : DGo mX7_of 46 61 := ⟨15, by decide +kernel, by decide⟩
theorem iX7_of_49 : DLdA mX7_of 49 0 50 := Or.inl ⟨0, by decide +kernel, rfl, rfl⟩
theorem iX7_of_50 : DLdI mX7_of 50 1 51 := Or.inl ⟨1, by decide +kernel, rfl, rfl⟩
theorem iX7_of_51 : DLdA mX7_of 51 0 52 := Or.inl ⟨0, by decide +kernel, rfl, rfl⟩
theorem iX7_of_52 : DGet mX7_of 52 7 0 55 := ⟨7, by decide +kernel, rfl, xf_RX7_7⟩
theorem iX7_of_55 : DPushI mX7_of 55 2 56 := Or.inl ⟨2, by decide +kernel, by decide, rfl⟩
theorem iX7_of_56 : D1 mX7_of 56 .iaload 1 57 := ⟨by decide +kernel, rfl⟩
theorem iX7_of_57 : DPushI mX7_of 57 1 58 := Or.inl ⟨1, by decide +kernel, by decide, rfl⟩
theorem iX7_of_58 : DInvV mX7_of 58 mX7_reachers 7 3 61 := ⟨108, TX7, 17, by decide +kernel, rfl, rfl, xl_RX7_108, xi_X7_reachers, xs_X7_reachers, xm_X7_reachers⟩
theorem iX7_of_61 : mX7_of.2.2.2 = some .int ∧ decode mX7_of.2.1 61 = .ok (.ireturn, 1) := ⟨rfl, by decide +kernel⟩
theorem iX7_ofLadder_0 : DLdA mX7_ofLadder 0 0 1 := Or.inl ⟨0, by decide +kernel, rfl, rfl⟩
theorem iX7_ofLadder_1 : DGet mX7_ofLadder 1 7 0 4 := ⟨7, by decide +kernel, rfl, xf_RX7_7⟩
theorem iX7_ofLadder_4 : DPushI mX7_ofLadder 4 27 6 := Or.inr (Or.inl ⟨27, by decide +kernel, by decide, rfl⟩)
theorem iX7_ofLadder_6 : DPushI mX7_ofLadder 6 4 7 := Or.inl ⟨4, by decide +kernel, by decide, rfl⟩
theorem iX7_ofLadder_7 : DLdI mX7_ofLadder 7 1 8 := Or.inl ⟨1, by decide +kernel, rfl, rfl⟩
theorem iX7_ofLadder_8 : D1 mX7_ofLadder 8 .imul 1 9 := ⟨by decide +kernel, rfl⟩
theorem iX7_ofLadder_9 : D1 mX7_ofLadder 9 .iadd 1 10 := ⟨by decide +kernel, rfl⟩
theorem iX7_ofLadder_10 : DLdI mX7_ofLadder 10 2 11 := Or.inl ⟨2, by decide +kernel, rfl, rfl⟩
theorem iX7_ofLadder_11 : D1 mX7_ofLadder 11 .iadd 1 12 := ⟨by decide +kernel, rfl⟩
theorem iX7_ofLadder_12 : D1 mX7_ofLadder 12 .iaload 1 13 := ⟨by decide +kernel, rfl⟩
theorem iX7_ofLadder_13 : mX7_ofLadder.2.2.2 = some .int ∧ decode mX7_ofLadder.2.1 13 = .ok (.ireturn, 1) := ⟨rfl, by decide +kernel⟩
theorem iX7_ofTree_0 : DLdA mX7_ofTree 0 0 1 := Or.inl ⟨0, by decide +kernel, rfl, rfl⟩
theorem iX7_ofTree_1 : DGet mX7_ofTree 1 7 0 4 := ⟨7, by decide +kernel, rfl, xf_RX7_7⟩
theorem iX7_ofTree_4 : DPushI mX7_ofTree 4 9 6 := Or.inr (Or.inl ⟨9, by decide +kernel, by decide, rfl⟩)
theorem iX7_ofTree_6 : DPushI mX7_ofTree 6 3 7 := Or.inl ⟨3, by decide +kernel, by decide, rfl⟩
theorem iX7_ofTree_7 : DLdI mX7_ofTree 7 1 8 := Or.inl ⟨1, by decide +kernel, rfl, rfl⟩
theorem iX7_ofTree_8 : D1 mX7_ofTree 8 .imul 1 9 := ⟨by decide +kernel, rfl⟩
theorem iX7_ofTree_9 : D1 mX7_ofTree 9 .iadd 1 10 := ⟨by decide +kernel, rfl⟩
theorem iX7_ofTree_10 : DLdI mX7_ofTree 10 2 11 := Or.inl ⟨2, by decide +kernel, rfl, rfl⟩
theorem iX7_ofTree_11 : D1 mX7_ofTree 11 .iadd 1 12 := ⟨by decide +kernel, rfl⟩
theorem iX7_ofTree_12 : D1 mX7_ofTree 12 .iaload 1 13 := ⟨by decide +kernel, rfl⟩
theorem iX7_ofTree_13 : mX7_ofTree.2.2.2 = some .int ∧ decode mX7_ofTree.2.1 13 = .ok (.ireturn, 1) := ⟨rfl, by decide +kernel⟩
theorem iX7_orchard_0 : DLdA mX7_orchard 0 0 1 := Or.inl ⟨0, by decide +kernel, rfl, rfl⟩
theorem iX7_orchard_1 : DPushI mX7_orchard 1 0 2 := Or.inl ⟨0, by decide +kernel, by decide, rfl⟩
theorem iX7_orchard_2 : DPut mX7_orchard 2 7 3 .int 5 := ⟨130, by decide +kernel, rfl, RX7, TX7, 17, tyX7, rfl, by decide, bigW_at 645 (by decide +kernel) rfl, xw7, tyX7_ok, nmX7, rfl, Or.inl rfl⟩
theorem iX7_orchard_5 : DLdA mX7_orchard 5 0 6 := Or.inl ⟨0, by decide +kernel, rfl, rfl⟩
theorem iX7_orchard_6 : DPushI mX7_orchard 6 0 7 := Or.inl ⟨0, by decide +kernel, by decide, rfl⟩
theorem iX7_orchard_7 : DPut mX7_orchard 7 7 4 .boolean 10 := ⟨133, by decide +kernel, rfl, RX7, TX7, 17, tyX7, rfl, by decide, bigW_at 646 (by decide +kernel) rfl, xw7, tyX7_ok, nmX7, rfl, Or.inl rfl⟩
theorem iX7_orchard_10 : DLdA mX7_orchard 10 0 11 := Or.inl ⟨0, by decide +kernel, rfl, rfl⟩
theorem iX7_orchard_11 : DInvV mX7_orchard 11 mX7_readTrees 7 0 14 := ⟨157, TX7, 17, by decide +kernel, rfl, rfl, xl_RX7_157, xi_X7_readTrees, xs_X7_readTrees, xm_X7_readTrees⟩
theorem iX7_orchard_14 : DStI mX7_orchard 14 1 15 := ⟨by decide, Or.inl ⟨1, by decide +kernel, rfl, rfl⟩⟩
theorem iX7_orchard_15 : DPushI mX7_orchard 15 0 16 := Or.inl ⟨0, by decide +kernel, by decide, rfl⟩
theorem iX7_orchard_16 : DStI mX7_orchard 16 2 17 := ⟨by decide, Or.inl ⟨2, by decide +kernel, rfl, rfl⟩⟩
theorem iX7_orchard_17 : DLdA mX7_orchard 17 0 18 := Or.inl ⟨0, by decide +kernel, rfl, rfl⟩
theorem iX7_orchard_18 : DGet mX7_orchard 18 7 4 21 := ⟨133, by decide +kernel, rfl, xf_RX7_133⟩
theorem iX7_orchard_21 : DIf mX7_orchard 21 .ne 49 24 := ⟨28, by decide +kernel, by decide, rfl⟩
theorem iX7_orchard_24 : DLdA mX7_orchard 24 0 25 := Or.inl ⟨0, by decide +kernel, rfl, rfl⟩
theorem iX7_orchard_25 : DInvV mX7_orchard 25 mX7_here 7 0 28 := ⟨137, TX7, 17, by decide +kernel, rfl, rfl, xl_RX7_137, xi_X7_here, xs_X7_here, xm_X7_here⟩
theorem iX7_orchard_28 : DPushI mX7_orchard 28 59 30 := Or.inr (Or.inl ⟨59, by decide +kernel, by decide, rfl⟩)
theorem iX7_orchard_30 : DCm mX7_orchard 30 .ne 49 33 := ⟨19, by decide +kernel, by decide, rfl⟩
theorem iX7_orchard_33 : DLdA mX7_orchard 33 0 34 := Or.inl ⟨0, by decide +kernel, rfl, rfl⟩
theorem iX7_orchard_34 : D1 mX7_orchard 34 .dup 1 35 := ⟨by decide +kernel, rfl⟩
theorem iX7_orchard_35 : DGet mX7_orchard 35 7 3 38 := ⟨130, by decide +kernel, rfl, xf_RX7_130⟩
theorem iX7_orchard_38 : DPushI mX7_orchard 38 1 39 := Or.inl ⟨1, by decide +kernel, by decide, rfl⟩
theorem iX7_orchard_39 : D1 mX7_orchard 39 .iadd 1 40 := ⟨by decide +kernel, rfl⟩
theorem iX7_orchard_40 : DPut mX7_orchard 40 7 3 .int 43 := ⟨130, by decide +kernel, rfl, RX7, TX7, 17, tyX7, rfl, by decide, bigW_at 645 (by decide +kernel) rfl, xw7, tyX7_ok, nmX7, rfl, Or.inl rfl⟩
theorem iX7_orchard_43 : DLdA mX7_orchard 43 0 44 := Or.inl ⟨0, by decide +kernel, rfl, rfl⟩
theorem iX7_orchard_44 : DLdI mX7_orchard 44 1 45 := Or.inl ⟨1, by decide +kernel, rfl, rfl⟩
theorem iX7_orchard_45 : DInvV mX7_orchard 45 mX7_readLadders 7 1 48 := ⟨160, TX7, 17, by decide +kernel, rfl, rfl, xl_RX7_160, xi_X7_readLadders, xs_X7_readLadders, xm_X7_readLadders⟩
theorem iX7_orchard_48 : DStI mX7_orchard 48 2 49 := ⟨by decide, Or.inl ⟨2, by decide +kernel, rfl, rfl⟩⟩
theorem iX7_orchard_49 : DLdA mX7_orchard 49 0 50 := Or.inl ⟨0, by decide +kernel, rfl, rfl⟩
theorem iX7_orchard_50 : DLdA mX7_orchard 50 0 51 := Or.inl ⟨0, by decide +kernel, rfl, rfl⟩
theorem iX7_orchard_51 : DGet mX7_orchard 51 7 4 54 := ⟨133, by decide +kernel, rfl, xf_RX7_133⟩
theorem iX7_orchard_54 : DIf mX7_orchard 54 .ne 64 57 := ⟨10, by decide +kernel, by decide, rfl⟩
theorem iX7_orchard_57 : DLdA mX7_orchard 57 0 58 := Or.inl ⟨0, by decide +kernel, rfl, rfl⟩
theorem iX7_orchard_58 : DInvV mX7_orchard 58 mX7_here 7 0 61 := ⟨137, TX7, 17, by decide +kernel, rfl, rfl, xl_RX7_137, xi_X7_here, xs_X7_here, xm_X7_here⟩
theorem iX7_orchard_61 : DIf mX7_orchard 61 .eq 68 64 := ⟨7, by decide +kernel, by decide, rfl⟩
theorem iX7_orchard_64 : DPushI mX7_orchard 64 1 65 := Or.inl ⟨1, by decide +kernel, by decide, rfl⟩
theorem iX7_orchard_65 : DGo mX7_orchard 65 69 := ⟨4, by decide +kernel, by decide⟩
theorem iX7_orchard_68 : DPushI mX7_orchard 68 0 69 := Or.inl ⟨0, by decide +kernel, by decide, rfl⟩
theorem iX7_orchard_69 : DPut mX7_orchard 69 7 4 .boolean 72 := ⟨133, by decide +kernel, rfl, RX7, TX7, 17, tyX7, rfl, by decide, bigW_at 646 (by decide +kernel) rfl, xw7, tyX7_ok, nmX7, rfl, Or.inl rfl⟩
theorem iX7_orchard_72 : DLdA mX7_orchard 72 0 73 := Or.inl ⟨0, by decide +kernel, rfl, rfl⟩
theorem iX7_orchard_73 : DPushI mX7_orchard 73 0 74 := Or.inl ⟨0, by decide +kernel, by decide, rfl⟩
theorem iX7_orchard_74 : DPut mX7_orchard 74 7 2 .int 77 := ⟨127, by decide +kernel, rfl, RX7, TX7, 17, tyX7, rfl, by decide, bigW_at 644 (by decide +kernel) rfl, xw7, tyX7_ok, nmX7, rfl, Or.inl rfl⟩
theorem iX7_orchard_77 : DLdA mX7_orchard 77 0 78 := Or.inl ⟨0, by decide +kernel, rfl, rfl⟩
theorem iX7_orchard_78 : DGet mX7_orchard 78 7 4 81 := ⟨133, by decide +kernel, rfl, xf_RX7_133⟩
theorem iX7_orchard_81 : DIf mX7_orchard 81 .eq 92 84 := ⟨11, by decide +kernel, by decide, rfl⟩
theorem iX7_orchard_84 : DPushI mX7_orchard 84 (-20) 86 := Or.inr (Or.inl ⟨(-20), by decide +kernel, by decide, rfl⟩)
theorem iX7_orchard_86 : DLdA mX7_orchard 86 0 87 := Or.inl ⟨0, by decide +kernel, rfl, rfl⟩
theorem iX7_orchard_87 : DGet mX7_orchard 87 7 3 90 := ⟨130, by decide +kernel, rfl, xf_RX7_130⟩
theorem iX7_orchard_90 : D1 mX7_orchard 90 .isub 1 91 := ⟨by decide +kernel, rfl⟩
theorem iX7_orchard_91 : mX7_orchard.2.2.2 = some .int ∧ decode mX7_orchard.2.1 91 = .ok (.ireturn, 1) := ⟨rfl, by decide +kernel⟩
theorem iX7_orchard_92 : DPushI mX7_orchard 92 0 93 := Or.inl ⟨0, by decide +kernel, by decide, rfl⟩
theorem iX7_orchard_93 : DStI mX7_orchard 93 3 94 := ⟨by decide, Or.inl ⟨3, by decide +kernel, rfl, rfl⟩⟩
theorem iX7_orchard_94 : DLdI mX7_orchard 94 3 95 := Or.inl ⟨3, by decide +kernel, rfl, rfl⟩
theorem iX7_orchard_95 : DPushI mX7_orchard 95 6 97 := Or.inr (Or.inl ⟨6, by decide +kernel, by decide, rfl⟩)
theorem iX7_orchard_97 : DCm mX7_orchard 97 .ge 113 100 := ⟨16, by decide +kernel, by decide, rfl⟩
theorem iX7_orchard_100 : DLdA mX7_orchard 100 0 101 := Or.inl ⟨0, by decide +kernel, rfl, rfl⟩
theorem iX7_orchard_101 : DGet mX7_orchard 101 7 0 104 := ⟨7, by decide +kernel, rfl, xf_RX7_7⟩
theorem iX7_orchard_104 : DLdI mX7_orchard 104 3 105 := Or.inl ⟨3, by decide +kernel, rfl, rfl⟩
theorem iX7_orchard_105 : DPushI mX7_orchard 105 0 106 := Or.inl ⟨0, by decide +kernel, by decide, rfl⟩
theorem iX7_orchard_106 : D1 mX7_orchard 106 .iastore 1 107 := ⟨by decide +kernel, rfl⟩
theorem iX7_orchard_107 : DInc mX7_orchard 107 3 1 110 := ⟨by decide, 1, by decide +kernel, by decide, rfl⟩
theorem iX7_orchard_110 : DGo mX7_orchard 110 94 := ⟨(-16), by decide +kernel, by decide⟩
theorem iX7_orchard_113 : DPushI mX7_orchard 113 0 114 := Or.inl ⟨0, by decide +kernel, by decide, rfl⟩
theorem iX7_orchard_114 : DStI mX7_orchard 114 3 115 := ⟨by decide, Or.inl ⟨3, by decide +kernel, rfl, rfl⟩⟩
theorem iX7_orchard_115 : DLdI mX7_orchard 115 3 116 := Or.inl ⟨3, by decide +kernel, rfl, rfl⟩
theorem iX7_orchard_116 : DLdI mX7_orchard 116 1 117 := Or.inl ⟨1, by decide +kernel, rfl, rfl⟩
theorem iX7_orchard_117 : DCm mX7_orchard 117 .ge 158 120 := ⟨41, by decide +kernel, by decide, rfl⟩
theorem iX7_orchard_120 : DLdA mX7_orchard 120 0 121 := Or.inl ⟨0, by decide +kernel, rfl, rfl⟩
theorem iX7_orchard_121 : DLdA mX7_orchard 121 0 122 := Or.inl ⟨0, by decide +kernel, rfl, rfl⟩
theorem iX7_orchard_122 : DGet mX7_orchard 122 7 5 125 := ⟨16, by decide +kernel, rfl, xf_RX7_16⟩
theorem iX7_orchard_125 : DPushI mX7_orchard 125 3 126 := Or.inl ⟨3, by decide +kernel, by decide, rfl⟩
theorem iX7_orchard_126 : DLdI mX7_orchard 126 3 127 := Or.inl ⟨3, by decide +kernel, rfl, rfl⟩
theorem iX7_orchard_127 : D1 mX7_orchard 127 .imul 1 128 := ⟨by decide +kernel, rfl⟩
theorem iX7_orchard_128 : D1 mX7_orchard 128 .iaload 1 129 := ⟨by decide +kernel, rfl⟩
theorem iX7_orchard_129 : DLdA mX7_orchard 129 0 130 := Or.inl ⟨0, by decide +kernel, rfl, rfl⟩
theorem iX7_orchard_130 : DGet mX7_orchard 130 7 5 133 := ⟨16, by decide +kernel, rfl, xf_RX7_16⟩
theorem iX7_orchard_133 : DPushI mX7_orchard 133 3 134 := Or.inl ⟨3, by decide +kernel, by decide, rfl⟩
theorem iX7_orchard_134 : DLdI mX7_orchard 134 3 135 := Or.inl ⟨3, by decide +kernel, rfl, rfl⟩
theorem iX7_orchard_135 : D1 mX7_orchard 135 .imul 1 136 := ⟨by decide +kernel, rfl⟩
theorem iX7_orchard_136 : DPushI mX7_orchard 136 1 137 := Or.inl ⟨1, by decide +kernel, by decide, rfl⟩
theorem iX7_orchard_137 : D1 mX7_orchard 137 .iadd 1 138 := ⟨by decide +kernel, rfl⟩
theorem iX7_orchard_138 : D1 mX7_orchard 138 .iaload 1 139 := ⟨by decide +kernel, rfl⟩
theorem iX7_orchard_139 : DLdA mX7_orchard 139 0 140 := Or.inl ⟨0, by decide +kernel, rfl, rfl⟩
theorem iX7_orchard_140 : DGet mX7_orchard 140 7 5 143 := ⟨16, by decide +kernel, rfl, xf_RX7_16⟩
theorem iX7_orchard_143 : DPushI mX7_orchard 143 3 144 := Or.inl ⟨3, by decide +kernel, by decide, rfl⟩
theorem iX7_orchard_144 : DLdI mX7_orchard 144 3 145 := Or.inl ⟨3, by decide +kernel, rfl, rfl⟩
theorem iX7_orchard_145 : D1 mX7_orchard 145 .imul 1 146 := ⟨by decide +kernel, rfl⟩
theorem iX7_orchard_146 : DPushI mX7_orchard 146 2 147 := Or.inl ⟨2, by decide +kernel, by decide, rfl⟩
theorem iX7_orchard_147 : D1 mX7_orchard 147 .iadd 1 148 := ⟨by decide +kernel, rfl⟩
theorem iX7_orchard_148 : D1 mX7_orchard 148 .iaload 1 149 := ⟨by decide +kernel, rfl⟩
theorem iX7_orchard_149 : DInvV mX7_orchard 149 mX7_treeComes 7 3 152 := ⟨90, TX7, 17, by decide +kernel, rfl, rfl, xl_RX7_90, xi_X7_treeComes, xs_X7_treeComes, xm_X7_treeComes⟩
theorem iX7_orchard_152 : DInc mX7_orchard 152 3 1 155 := ⟨by decide, 1, by decide +kernel, by decide, rfl⟩
theorem iX7_orchard_155 : DGo mX7_orchard 155 115 := ⟨(-40), by decide +kernel, by decide⟩
theorem iX7_orchard_158 : DPushI mX7_orchard 158 0 159 := Or.inl ⟨0, by decide +kernel, by decide, rfl⟩
theorem iX7_orchard_159 : DStI mX7_orchard 159 3 160 := ⟨by decide, Or.inl ⟨3, by decide +kernel, rfl, rfl⟩⟩
theorem iX7_orchard_160 : DLdI mX7_orchard 160 3 161 := Or.inl ⟨3, by decide +kernel, rfl, rfl⟩
theorem iX7_orchard_161 : DLdI mX7_orchard 161 2 162 := Or.inl ⟨2, by decide +kernel, rfl, rfl⟩
theorem iX7_orchard_162 : DCm mX7_orchard 162 .ge 213 165 := ⟨51, by decide +kernel, by decide, rfl⟩
theorem iX7_orchard_165 : DLdA mX7_orchard 165 0 166 := Or.inl ⟨0, by decide +kernel, rfl, rfl⟩
theorem iX7_orchard_166 : DLdA mX7_orchard 166 0 167 := Or.inl ⟨0, by decide +kernel, rfl, rfl⟩
theorem iX7_orchard_167 : DGet mX7_orchard 167 7 6 170 := ⟨19, by decide +kernel, rfl, xf_RX7_19⟩
theorem iX7_orchard_170 : DPushI mX7_orchard 170 4 171 := Or.inl ⟨4, by decide +kernel, by decide, rfl⟩
theorem iX7_orchard_171 : DLdI mX7_orchard 171 3 172 := Or.inl ⟨3, by decide +kernel, rfl, rfl⟩
theorem iX7_orchard_172 : D1 mX7_orchard 172 .imul 1 173 := ⟨by decide +kernel, rfl⟩
theorem iX7_orchard_173 : D1 mX7_orchard 173 .iaload 1 174 := ⟨by decide +kernel, rfl⟩
theorem iX7_orchard_174 : DLdA mX7_orchard 174 0 175 := Or.inl ⟨0, by decide +kernel, rfl, rfl⟩
theorem iX7_orchard_175 : DGet mX7_orchard 175 7 6 178 := ⟨19, by decide +kernel, rfl, xf_RX7_19⟩
theorem iX7_orchard_178 : DPushI mX7_orchard 178 4 179 := Or.inl ⟨4, by decide +kernel, by decide, rfl⟩
theorem iX7_orchard_179 : DLdI mX7_orchard 179 3 180 := Or.inl ⟨3, by decide +kernel, rfl, rfl⟩
theorem iX7_orchard_180 : D1 mX7_orchard 180 .imul 1 181 := ⟨by decide +kernel, rfl⟩
theorem iX7_orchard_181 : DPushI mX7_orchard 181 1 182 := Or.inl ⟨1, by decide +kernel, by decide, rfl⟩
theorem iX7_orchard_182 : D1 mX7_orchard 182 .iadd 1 183 := ⟨by decide +kernel, rfl⟩
theorem iX7_orchard_183 : D1 mX7_orchard 183 .iaload 1 184 := ⟨by decide +kernel, rfl⟩
theorem iX7_orchard_184 : DLdA mX7_orchard 184 0 185 := Or.inl ⟨0, by decide +kernel, rfl, rfl⟩
theorem iX7_orchard_185 : DGet mX7_orchard 185 7 6 188 := ⟨19, by decide +kernel, rfl, xf_RX7_19⟩
theorem iX7_orchard_188 : DPushI mX7_orchard 188 4 189 := Or.inl ⟨4, by decide +kernel, by decide, rfl⟩
theorem iX7_orchard_189 : DLdI mX7_orchard 189 3 190 := Or.inl ⟨3, by decide +kernel, rfl, rfl⟩
theorem iX7_orchard_190 : D1 mX7_orchard 190 .imul 1 191 := ⟨by decide +kernel, rfl⟩
theorem iX7_orchard_191 : DPushI mX7_orchard 191 2 192 := Or.inl ⟨2, by decide +kernel, by decide, rfl⟩
theorem iX7_orchard_192 : D1 mX7_orchard 192 .iadd 1 193 := ⟨by decide +kernel, rfl⟩
theorem iX7_orchard_193 : D1 mX7_orchard 193 .iaload 1 194 := ⟨by decide +kernel, rfl⟩
theorem iX7_orchard_194 : DLdA mX7_orchard 194 0 195 := Or.inl ⟨0, by decide +kernel, rfl, rfl⟩
theorem iX7_orchard_195 : DGet mX7_orchard 195 7 6 198 := ⟨19, by decide +kernel, rfl, xf_RX7_19⟩
theorem iX7_orchard_198 : DPushI mX7_orchard 198 4 199 := Or.inl ⟨4, by decide +kernel, by decide, rfl⟩
theorem iX7_orchard_199 : DLdI mX7_orchard 199 3 200 := Or.inl ⟨3, by decide +kernel, rfl, rfl⟩
theorem iX7_orchard_200 : D1 mX7_orchard 200 .imul 1 201 := ⟨by decide +kernel, rfl⟩
theorem iX7_orchard_201 : DPushI mX7_orchard 201 3 202 := Or.inl ⟨3, by decide +kernel, by decide, rfl⟩
theorem iX7_orchard_202 : D1 mX7_orchard 202 .iadd 1 203 := ⟨by decide +kernel, rfl⟩
theorem iX7_orchard_203 : D1 mX7_orchard 203 .iaload 1 204 := ⟨by decide +kernel, rfl⟩
theorem iX7_orchard_204 : DInvV mX7_orchard 204 mX7_ladderComes 7 4 207 := ⟨98, TX7, 17, by decide +kernel, rfl, rfl, xl_RX7_98, xi_X7_ladderComes, xs_X7_ladderComes, xm_X7_ladderComes⟩
theorem iX7_orchard_207 : DInc mX7_orchard 207 3 1 210 := ⟨by decide, 1, by decide +kernel, by decide, rfl⟩
theorem iX7_orchard_210 : DGo mX7_orchard 210 160 := ⟨(-50), by decide +kernel, by decide⟩
theorem iX7_orchard_213 : DLdI mX7_orchard 213 1 214 := Or.inl ⟨1, by decide +kernel, rfl, rfl⟩
theorem iX7_orchard_214 : mX7_orchard.2.2.2 = some .int ∧ decode mX7_orchard.2.1 214 = .ok (.ireturn, 1) := ⟨rfl, by decide +kernel⟩
theorem iX7_plan_0 : DLdI mX7_plan 0 1 1 := Or.inl ⟨1, by decide +kernel, rfl, rfl⟩
theorem iX7_plan_1 : D1 mX7_plan 1 .i2l 1 2 := ⟨by decide +kernel, rfl⟩
theorem iX7_plan_2 : DPushL mX7_plan 2 1 3 := Or.inl ⟨1, by decide +kernel, by decide, rfl⟩
theorem iX7_plan_3 : DPushL mX7_plan 3 14 6 := Or.inr ⟨191, by decide +kernel, bigW_at 900 (by decide +kernel) rfl, rfl⟩
theorem iX7_plan_6 : DInvS mX7_plan 6 mX7_in 3 9 := ⟨44, by decide +kernel, rfl, Or.inl xl_RX7_44, xt_X7_in, xm_X7_in⟩
theorem iX7_plan_9 : DIf mX7_plan 9 .eq 26 12 := ⟨17, by decide +kernel, by decide, rfl⟩
theorem iX7_plan_12 : DLdI mX7_plan 12 2 13 := Or.inl ⟨2, by decide +kernel, rfl, rfl⟩
theorem iX7_plan_13 : DPushI mX7_plan 13 (-4) 15 := Or.inr (Or.inl ⟨(-4), by decide +kernel, by decide, rfl⟩)
theorem iX7_plan_15 : DCm mX7_plan 15 .eq 28 18 := ⟨13, by decide +kernel, by decide, rfl⟩
theorem iX7_plan_18 : DLdA mX7_plan 18 0 19 := Or.inl ⟨0, by decide +kernel, rfl, rfl⟩
theorem iX7_plan_19 : DLdI mX7_plan 19 2 20 := Or.inl ⟨2, by decide +kernel, rfl, rfl⟩
theorem iX7_plan_20 : DInvV mX7_plan 20 mX7_isLadder 7 1 23 := ⟨112, TX7, 17, by decide +kernel, rfl, rfl, xl_RX7_112, xi_X7_isLadder, xs_X7_isLadder, xm_X7_isLadder⟩
theorem iX7_plan_23 : DIf mX7_plan 23 .ne 28 26 := ⟨5, by decide +kernel, by decide, rfl⟩
theorem iX7_plan_26 : DPushI mX7_plan 26 (-1) 27 := Or.inl ⟨(-1), by decide +kernel, by decide, rfl⟩
theorem iX7_plan_27 : mX7_plan.2.2.2 = some .int ∧ decode mX7_plan.2.1 27 = .ok (.ireturn, 1) := ⟨rfl, by decide +kernel⟩
theorem iX7_plan_28 : DLdA mX7_plan 28 0 29 := Or.inl ⟨0, by decide +kernel, rfl, rfl⟩
theorem iX7_plan_29 : DGet mX7_plan 29 7 0 32 := ⟨7, by decide +kernel, rfl, xf_RX7_7⟩
theorem iX7_plan_32 : DPushI mX7_plan 32 0 33 := Or.inl ⟨0, by decide +kernel, by decide, rfl⟩
theorem iX7_plan_33 : D1 mX7_plan 33 .iaload 1 34 := ⟨by decide +kernel, rfl⟩
theorem iX7_plan_34 : DIf mX7_plan 34 .eq 46 37 := ⟨12, by decide +kernel, by decide, rfl⟩
theorem iX7_plan_37 : DLdA mX7_plan 37 0 38 := Or.inl ⟨0, by decide +kernel, rfl, rfl⟩
theorem iX7_plan_38 : DGet mX7_plan 38 7 0 41 := ⟨7, by decide +kernel, rfl, xf_RX7_7⟩
theorem iX7_plan_41 : DPushI mX7_plan 41 1 42 := Or.inl ⟨1, by decide +kernel, by decide, rfl⟩
theorem iX7_plan_42 : D1 mX7_plan 42 .iaload 1 43 := ⟨by decide +kernel, rfl⟩
theorem iX7_plan_43 : DIf mX7_plan 43 .ne 49 46 := ⟨6, by decide +kernel, by decide, rfl⟩
theorem iX7_plan_46 : DPushI mX7_plan 46 (-4) 48 := Or.inr (Or.inl ⟨(-4), by decide +kernel, by decide, rfl⟩)
theorem iX7_plan_48 : mX7_plan.2.2.2 = some .int ∧ decode mX7_plan.2.1 48 = .ok (.ireturn, 1) := ⟨rfl, by decide +kernel⟩
theorem iX7_plan_49 : DLdA mX7_plan 49 0 50 := Or.inl ⟨0, by decide +kernel, rfl, rfl⟩
theorem iX7_plan_50 : DGet mX7_plan 50 7 0 53 := ⟨7, by decide +kernel, rfl, xf_RX7_7⟩
theorem iX7_plan_53 : DPushI mX7_plan 53 0 54 := Or.inl ⟨0, by decide +kernel, by decide, rfl⟩
theorem iX7_plan_54 : D1 mX7_plan 54 .iaload 1 55 := ⟨by decide +kernel, rfl⟩
theorem iX7_plan_55 : DLdA mX7_plan 55 0 56 := Or.inl ⟨0, by decide +kernel, rfl, rfl⟩
theorem iX7_plan_56 : DGet mX7_plan 56 7 0 59 := ⟨7, by decide +kernel, rfl, xf_RX7_7⟩
theorem iX7_plan_59 : DPushI mX7_plan 59 1 60 := Or.inl ⟨1, by decide +kernel, by decide, rfl⟩
theorem iX7_plan_60 : D1 mX7_plan 60 .iaload 1 61 := ⟨by decide +kernel, rfl⟩
theorem iX7_plan_61 : DInvS mX7_plan 61 mX7_power 2 64 := ⟨193, by decide +kernel, rfl, Or.inl xl_RX7_193, xt_X7_power, xm_X7_power⟩
theorem iX7_plan_64 : DStI mX7_plan 64 3 65 := ⟨by decide, Or.inl ⟨3, by decide +kernel, rfl, rfl⟩⟩
theorem iX7_plan_65 : DPushI mX7_plan 65 0 66 := Or.inl ⟨0, by decide +kernel, by decide, rfl⟩
theorem iX7_plan_66 : DStI mX7_plan 66 4 68 := ⟨by decide, Or.inr ⟨by decide +kernel, rfl⟩⟩
theorem iX7_plan_68 : DPushI mX7_plan 68 (-1) 69 := Or.inl ⟨(-1), by decide +kernel, by decide, rfl⟩
theorem iX7_plan_69 : DStI mX7_plan 69 5 71 := ⟨by decide, Or.inr ⟨by decide +kernel, rfl⟩⟩
theorem iX7_plan_71 : DLdA mX7_plan 71 0 72 := Or.inl ⟨0, by decide +kernel, rfl, rfl⟩
theorem iX7_plan_72 : DInvV mX7_plan 72 mX7_asides 7 0 75 := ⟨182, TX7, 17, by decide +kernel, rfl, rfl, xl_RX7_182, xi_X7_asides, xs_X7_asides, xm_X7_asides⟩
theorem iX7_plan_75 : DPushI mX7_plan 75 0 76 := Or.inl ⟨0, by decide +kernel, by decide, rfl⟩
theorem iX7_plan_76 : DStI mX7_plan 76 6 78 := ⟨by decide, Or.inr ⟨by decide +kernel, rfl⟩⟩
theorem iX7_plan_78 : DLdI mX7_plan 78 6 80 := Or.inr ⟨by decide +kernel, rfl⟩
theorem iX7_plan_80 : DLdI mX7_plan 80 3 81 := Or.inl ⟨3, by decide +kernel, rfl, rfl⟩
theorem iX7_plan_81 : DCm mX7_plan 81 .ge 205 84 := ⟨124, by decide +kernel, by decide, rfl⟩
theorem iX7_plan_84 : DLdI mX7_plan 84 6 86 := Or.inr ⟨by decide +kernel, rfl⟩
theorem iX7_plan_86 : DStI mX7_plan 86 7 88 := ⟨by decide, Or.inr ⟨by decide +kernel, rfl⟩⟩
theorem iX7_plan_88 : DLdA mX7_plan 88 0 89 := Or.inl ⟨0, by decide +kernel, rfl, rfl⟩
theorem iX7_plan_89 : DGet mX7_plan 89 7 0 92 := ⟨7, by decide +kernel, rfl, xf_RX7_7⟩
theorem iX7_plan_92 : DPushI mX7_plan 92 1 93 := Or.inl ⟨1, by decide +kernel, by decide, rfl⟩
theorem iX7_plan_93 : D1 mX7_plan 93 .iaload 1 94 := ⟨by decide +kernel, rfl⟩
theorem iX7_plan_94 : DPushI mX7_plan 94 1 95 := Or.inl ⟨1, by decide +kernel, by decide, rfl⟩
theorem iX7_plan_95 : D1 mX7_plan 95 .isub 1 96 := ⟨by decide +kernel, rfl⟩
theorem iX7_plan_96 : DStI mX7_plan 96 8 98 := ⟨by decide, Or.inr ⟨by decide +kernel, rfl⟩⟩
theorem iX7_plan_98 : DLdI mX7_plan 98 8 100 := Or.inr ⟨by decide +kernel, rfl⟩
theorem iX7_plan_100 : DIf mX7_plan 100 .lt 143 103 := ⟨43, by decide +kernel, by decide, rfl⟩
theorem iX7_plan_103 : DLdA mX7_plan 103 0 104 := Or.inl ⟨0, by decide +kernel, rfl, rfl⟩
theorem iX7_plan_104 : DGet mX7_plan 104 7 0 107 := ⟨7, by decide +kernel, rfl, xf_RX7_7⟩
theorem iX7_plan_107 : DPushI mX7_plan 107 27 109 := Or.inr (Or.inl ⟨27, by decide +kernel, by decide, rfl⟩)
theorem iX7_plan_109 : DPushI mX7_plan 109 4 110 := Or.inl ⟨4, by decide +kernel, by decide, rfl⟩
theorem iX7_plan_110 : DLdI mX7_plan 110 8 112 := Or.inr ⟨by decide +kernel, rfl⟩
theorem iX7_plan_112 : D1 mX7_plan 112 .imul 1 113 := ⟨by decide +kernel, rfl⟩
theorem iX7_plan_113 : D1 mX7_plan 113 .iadd 1 114 := ⟨by decide +kernel, rfl⟩
theorem iX7_plan_114 : DPushI mX7_plan 114 3 115 := Or.inl ⟨3, by decide +kernel, by decide, rfl⟩
theorem iX7_plan_115 : D1 mX7_plan 115 .iadd 1 116 := ⟨by decide +kernel, rfl⟩
theorem iX7_plan_116 : DLdI mX7_plan 116 7 118 := Or.inr ⟨by decide +kernel, rfl⟩
theorem iX7_plan_118 : DLdA mX7_plan 118 0 119 := Or.inl ⟨0, by decide +kernel, rfl, rfl⟩
theorem iX7_plan_119 : DGet mX7_plan 119 7 0 122 := ⟨7, by decide +kernel, rfl, xf_RX7_7⟩
theorem iX7_plan_122 : DPushI mX7_plan 122 0 123 := Or.inl ⟨0, by decide +kernel, by decide, rfl⟩
theorem iX7_plan_123 : D1 mX7_plan 123 .iaload 1 124 := ⟨by decide +kernel, rfl⟩
theorem iX7_plan_124 : D1 mX7_plan 124 .irem 1 125 := ⟨by decide +kernel, rfl⟩
theorem iX7_plan_125 : D1 mX7_plan 125 .iastore 1 126 := ⟨by decide +kernel, rfl⟩
theorem iX7_plan_126 : DLdI mX7_plan 126 7 128 := Or.inr ⟨by decide +kernel, rfl⟩
theorem iX7_plan_128 : DLdA mX7_plan 128 0 129 := Or.inl ⟨0, by decide +kernel, rfl, rfl⟩
theorem iX7_plan_129 : DGet mX7_plan 129 7 0 132 := ⟨7, by decide +kernel, rfl, xf_RX7_7⟩
theorem iX7_plan_132 : DPushI mX7_plan 132 0 133 := Or.inl ⟨0, by decide +kernel, by decide, rfl⟩
theorem iX7_plan_133 : D1 mX7_plan 133 .iaload 1 134 := ⟨by decide +kernel, rfl⟩
theorem iX7_plan_134 : D1 mX7_plan 134 .idiv 1 135 := ⟨by decide +kernel, rfl⟩
theorem iX7_plan_135 : DStI mX7_plan 135 7 137 := ⟨by decide, Or.inr ⟨by decide +kernel, rfl⟩⟩
theorem iX7_plan_137 : DInc mX7_plan 137 8 (-1) 140 := ⟨by decide, (-1), by decide +kernel, by decide, rfl⟩
theorem iX7_plan_140 : DGo mX7_plan 140 98 := ⟨(-42), by decide +kernel, by decide⟩
theorem iX7_plan_143 : DLdA mX7_plan 143 0 144 := Or.inl ⟨0, by decide +kernel, rfl, rfl⟩
theorem iX7_plan_144 : DLdI mX7_plan 144 1 145 := Or.inl ⟨1, by decide +kernel, rfl, rfl⟩
theorem iX7_plan_145 : DInvV mX7_plan 145 mX7_goesOn 7 1 148 := ⟨185, TX7, 17, by decide +kernel, rfl, rfl, xl_RX7_185, xi_X7_goesOn, xs_X7_goesOn, xm_X7_goesOn⟩
theorem iX7_plan_148 : DLdA mX7_plan 148 0 149 := Or.inl ⟨0, by decide +kernel, rfl, rfl⟩
theorem iX7_plan_149 : DGet mX7_plan 149 7 0 152 := ⟨7, by decide +kernel, rfl, xf_RX7_7⟩
theorem iX7_plan_152 : DPushI mX7_plan 152 3 153 := Or.inl ⟨3, by decide +kernel, by decide, rfl⟩
theorem iX7_plan_153 : D1 mX7_plan 153 .iaload 1 154 := ⟨by decide +kernel, rfl⟩
theorem iX7_plan_154 : DLdA mX7_plan 154 0 155 := Or.inl ⟨0, by decide +kernel, rfl, rfl⟩
theorem iX7_plan_155 : DGet mX7_plan 155 7 9 158 := ⟨25, by decide +kernel, rfl, xf_RX7_25⟩
theorem iX7_plan_158 : DPushI mX7_plan 158 3 159 := Or.inl ⟨3, by decide +kernel, by decide, rfl⟩
theorem iX7_plan_159 : D1 mX7_plan 159 .iaload 1 160 := ⟨by decide +kernel, rfl⟩
theorem iX7_plan_160 : D1 mX7_plan 160 .isub 1 161 := ⟨by decide +kernel, rfl⟩
theorem iX7_plan_161 : DStI mX7_plan 161 8 163 := ⟨by decide, Or.inr ⟨by decide +kernel, rfl⟩⟩
theorem iX7_plan_163 : DLdI mX7_plan 163 8 165 := Or.inr ⟨by decide +kernel, rfl⟩
theorem iX7_plan_165 : DLdI mX7_plan 165 5 167 := Or.inr ⟨by decide +kernel, rfl⟩
theorem iX7_plan_167 : DCm mX7_plan 167 .le 175 170 := ⟨8, by decide +kernel, by decide, rfl⟩
theorem iX7_plan_170 : DLdI mX7_plan 170 6 172 := Or.inr ⟨by decide +kernel, rfl⟩
theorem iX7_plan_172 : DGo mX7_plan 172 177 := ⟨5, by decide +kernel, by decide⟩
theorem iX7_plan_175 : DLdI mX7_plan 175 4 177 := Or.inr ⟨by decide +kernel, rfl⟩
theorem iX7_plan_177 : DStI mX7_plan 177 4 179 := ⟨by decide, Or.inr ⟨by decide +kernel, rfl⟩⟩
theorem iX7_plan_179 : DLdI mX7_plan 179 8 181 := Or.inr ⟨by decide +kernel, rfl⟩
theorem iX7_plan_181 : DLdI mX7_plan 181 5 183 := Or.inr ⟨by decide +kernel, rfl⟩
theorem iX7_plan_183 : DCm mX7_plan 183 .le 191 186 := ⟨8, by decide +kernel, by decide, rfl⟩
theorem iX7_plan_186 : DLdI mX7_plan 186 8 188 := Or.inr ⟨by decide +kernel, rfl⟩
theorem iX7_plan_188 : DGo mX7_plan 188 193 := ⟨5, by decide +kernel, by decide⟩
theorem iX7_plan_191 : DLdI mX7_plan 191 5 193 := Or.inr ⟨by decide +kernel, rfl⟩
theorem iX7_plan_193 : DStI mX7_plan 193 5 195 := ⟨by decide, Or.inr ⟨by decide +kernel, rfl⟩⟩
theorem iX7_plan_195 : DLdA mX7_plan 195 0 196 := Or.inl ⟨0, by decide +kernel, rfl, rfl⟩
theorem iX7_plan_196 : DInvV mX7_plan 196 mX7_backs 7 0 199 := ⟨188, TX7, 17, by decide +kernel, rfl, rfl, xl_RX7_188, xi_X7_backs, xs_X7_backs, xm_X7_backs⟩
theorem iX7_plan_199 : DInc mX7_plan 199 6 1 202 := ⟨by decide, 1, by decide +kernel, by decide, rfl⟩
theorem iX7_plan_202 : DGo mX7_plan 202 78 := ⟨(-124), by decide +kernel, by decide⟩
theorem iX7_plan_205 : DLdI mX7_plan 205 2 206 := Or.inl ⟨2, by decide +kernel, rfl, rfl⟩
theorem iX7_plan_206 : DPushI mX7_plan 206 (-4) 208 := Or.inr (Or.inl ⟨(-4), by decide +kernel, by decide, rfl⟩)
theorem iX7_plan_208 : DCm mX7_plan 208 .ne 216 211 := ⟨8, by decide +kernel, by decide, rfl⟩
theorem iX7_plan_211 : DLdI mX7_plan 211 5 213 := Or.inr ⟨by decide +kernel, rfl⟩
theorem iX7_plan_213 : DGo mX7_plan 213 245 := ⟨32, by decide +kernel, by decide⟩
theorem iX7_plan_216 : DLdI mX7_plan 216 4 218 := Or.inr ⟨by decide +kernel, rfl⟩
theorem iX7_plan_218 : DLdA mX7_plan 218 0 219 := Or.inl ⟨0, by decide +kernel, rfl, rfl⟩
theorem iX7_plan_219 : DGet mX7_plan 219 7 0 222 := ⟨7, by decide +kernel, rfl, xf_RX7_7⟩
theorem iX7_plan_222 : DPushI mX7_plan 222 0 223 := Or.inl ⟨0, by decide +kernel, by decide, rfl⟩
theorem iX7_plan_223 : D1 mX7_plan 223 .iaload 1 224 := ⟨by decide +kernel, rfl⟩
theorem iX7_plan_224 : DLdA mX7_plan 224 0 225 := Or.inl ⟨0, by decide +kernel, rfl, rfl⟩
theorem iX7_plan_225 : DGet mX7_plan 225 7 0 228 := ⟨7, by decide +kernel, rfl, xf_RX7_7⟩
theorem iX7_plan_228 : DPushI mX7_plan 228 1 229 := Or.inl ⟨1, by decide +kernel, by decide, rfl⟩
theorem iX7_plan_229 : D1 mX7_plan 229 .iaload 1 230 := ⟨by decide +kernel, rfl⟩
theorem iX7_plan_230 : DPushI mX7_plan 230 1 231 := Or.inl ⟨1, by decide +kernel, by decide, rfl⟩
theorem iX7_plan_231 : D1 mX7_plan 231 .isub 1 232 := ⟨by decide +kernel, rfl⟩
theorem iX7_plan_232 : DLdI mX7_plan 232 2 233 := Or.inl ⟨2, by decide +kernel, rfl, rfl⟩
theorem iX7_plan_233 : D1 mX7_plan 233 .isub 1 234 := ⟨by decide +kernel, rfl⟩
theorem iX7_plan_234 : DInvS mX7_plan 234 mX7_power 2 237 := ⟨193, by decide +kernel, rfl, Or.inl xl_RX7_193, xt_X7_power, xm_X7_power⟩
theorem iX7_plan_237 : D1 mX7_plan 237 .idiv 1 238 := ⟨by decide +kernel, rfl⟩
theorem iX7_plan_238 : DLdA mX7_plan 238 0 239 := Or.inl ⟨0, by decide +kernel, rfl, rfl⟩
theorem iX7_plan_239 : DGet mX7_plan 239 7 0 242 := ⟨7, by decide +kernel, rfl, xf_RX7_7⟩
theorem iX7_plan_242 : DPushI mX7_plan 242 0 243 := Or.inl ⟨0, by decide +kernel, by decide, rfl⟩
theorem iX7_plan_243 : D1 mX7_plan 243 .iaload 1 244 := ⟨by decide +kernel, rfl⟩
theorem iX7_plan_244 : D1 mX7_plan 244 .irem 1 245 := ⟨by decide +kernel, rfl⟩
theorem iX7_plan_245 : mX7_plan.2.2.2 = some .int ∧ decode mX7_plan.2.1 245 = .ok (.ireturn, 1) := ⟨rfl, by decide +kernel⟩
theorem iX7_power_0 : DPushI mX7_power 0 1 1 := Or.inl ⟨1, by decide +kernel, by decide, rfl⟩
theorem iX7_power_1 : DStI mX7_power 1 2 2 := ⟨by decide, Or.inl ⟨2, by decide +kernel, rfl, rfl⟩⟩
theorem iX7_power_2 : DPushI mX7_power 2 0 3 := Or.inl ⟨0, by decide +kernel, by decide, rfl⟩
theorem iX7_power_3 : DStI mX7_power 3 3 4 := ⟨by decide, Or.inl ⟨3, by decide +kernel, rfl, rfl⟩⟩
theorem iX7_power_4 : DLdI mX7_power 4 3 5 := Or.inl ⟨3, by decide +kernel, rfl, rfl⟩
theorem iX7_power_5 : DLdI mX7_power 5 1 6 := Or.inl ⟨1, by decide +kernel, rfl, rfl⟩
theorem iX7_power_6 : DCm mX7_power 6 .ge 19 9 := ⟨13, by decide +kernel, by decide, rfl⟩
theorem iX7_power_9 : DLdI mX7_power 9 2 10 := Or.inl ⟨2, by decide +kernel, rfl, rfl⟩
theorem iX7_power_10 : DLdI mX7_power 10 0 11 := Or.inl ⟨0, by decide +kernel, rfl, rfl⟩
theorem iX7_power_11 : D1 mX7_power 11 .imul 1 12 := ⟨by decide +kernel, rfl⟩
theorem iX7_power_12 : DStI mX7_power 12 2 13 := ⟨by decide, Or.inl ⟨2, by decide +kernel, rfl, rfl⟩⟩
theorem iX7_power_13 : DInc mX7_power 13 3 1 16 := ⟨by decide, 1, by decide +kernel, by decide, rfl⟩
theorem iX7_power_16 : DGo mX7_power 16 4 := ⟨(-12), by decide +kernel, by decide⟩
theorem iX7_power_19 : DLdI mX7_power 19 2 20 := Or.inl ⟨2, by decide +kernel, rfl, rfl⟩
theorem iX7_power_20 : mX7_power.2.2.2 = some .int ∧ decode mX7_power.2.1 20 = .ok (.ireturn, 1) := ⟨rfl, by decide +kernel⟩
theorem iX7_reached_0 : DLdA mX7_reached 0 0 1 := Or.inl ⟨0, by decide +kernel, rfl, rfl⟩
theorem iX7_reached_1 : DLdI mX7_reached 1 1 2 := Or.inl ⟨1, by decide +kernel, rfl, rfl⟩
theorem iX7_reached_2 : DInvV mX7_reached 2 mX7_isTree 7 1 5 := ⟨102, TX7, 17, by decide +kernel, rfl, rfl, xl_RX7_102, xi_X7_isTree, xs_X7_isTree, xm_X7_isTree⟩
theorem iX7_reached_5 : DIf mX7_reached 5 .eq 37 8 := ⟨32, by decide +kernel, by decide, rfl⟩
theorem iX7_reached_8 : DLdI mX7_reached 8 2 9 := Or.inl ⟨2, by decide +kernel, rfl, rfl⟩
theorem iX7_reached_9 : D1 mX7_reached 9 .i2l 1 10 := ⟨by decide +kernel, rfl⟩
theorem iX7_reached_10 : DPushL mX7_reached 10 0 11 := Or.inl ⟨0, by decide +kernel, by decide, rfl⟩
theorem iX7_reached_11 : DPushL mX7_reached 11 60 14 := Or.inr ⟨178, by decide +kernel, bigW_at 870 (by decide +kernel) rfl, rfl⟩
theorem iX7_reached_14 : DInvS mX7_reached 14 mX7_in 3 17 := ⟨44, by decide +kernel, rfl, Or.inl xl_RX7_44, xt_X7_in, xm_X7_in⟩
theorem iX7_reached_17 : DIf mX7_reached 17 .eq 37 20 := ⟨20, by decide +kernel, by decide, rfl⟩
theorem iX7_reached_20 : DLdA mX7_reached 20 0 21 := Or.inl ⟨0, by decide +kernel, rfl, rfl⟩
theorem iX7_reached_21 : DLdI mX7_reached 21 1 22 := Or.inl ⟨1, by decide +kernel, rfl, rfl⟩
theorem iX7_reached_22 : DLdA mX7_reached 22 0 23 := Or.inl ⟨0, by decide +kernel, rfl, rfl⟩
theorem iX7_reached_23 : DGet mX7_reached 23 7 0 26 := ⟨7, by decide +kernel, rfl, xf_RX7_7⟩
theorem iX7_reached_26 : DPushI mX7_reached 26 2 27 := Or.inl ⟨2, by decide +kernel, by decide, rfl⟩
theorem iX7_reached_27 : D1 mX7_reached 27 .iaload 1 28 := ⟨by decide +kernel, rfl⟩
theorem iX7_reached_28 : DLdI mX7_reached 28 2 29 := Or.inl ⟨2, by decide +kernel, rfl, rfl⟩
theorem iX7_reached_29 : D1 mX7_reached 29 .iadd 1 30 := ⟨by decide +kernel, rfl⟩
theorem iX7_reached_30 : DPushI mX7_reached 30 0 31 := Or.inl ⟨0, by decide +kernel, by decide, rfl⟩
theorem iX7_reached_31 : DInvV mX7_reached 31 mX7_reachers 7 3 34 := ⟨108, TX7, 17, by decide +kernel, rfl, rfl, xl_RX7_108, xi_X7_reachers, xs_X7_reachers, xm_X7_reachers⟩
theorem iX7_reached_34 : DGo mX7_reached 34 38 := ⟨4, by decide +kernel, by decide⟩
theorem iX7_reached_37 : DPushI mX7_reached 37 (-1) 38 := Or.inl ⟨(-1), by decide +kernel, by decide, rfl⟩
theorem iX7_reached_38 : mX7_reached.2.2.2 = some .int ∧ decode mX7_reached.2.1 38 = .ok (.ireturn, 1) := ⟨rfl, by decide +kernel⟩
theorem iX7_reachers_0 : DPushI mX7_reachers 0 0 1 := Or.inl ⟨0, by decide +kernel, by decide, rfl⟩
theorem iX7_reachers_1 : DStI mX7_reachers 1 4 3 := ⟨by decide, Or.inr ⟨by decide +kernel, rfl⟩⟩
theorem iX7_reachers_3 : DPushI mX7_reachers 3 0 4 := Or.inl ⟨0, by decide +kernel, by decide, rfl⟩
theorem iX7_reachers_4 : DStI mX7_reachers 4 5 6 := ⟨by decide, Or.inr ⟨by decide +kernel, rfl⟩⟩
theorem iX7_reachers_6 : DLdI mX7_reachers 6 5 8 := Or.inr ⟨by decide +kernel, rfl⟩
theorem iX7_reachers_8 : DLdA mX7_reachers 8 0 9 := Or.inl ⟨0, by decide +kernel, rfl, rfl⟩
theorem iX7_reachers_9 : DGet mX7_reachers 9 7 0 12 := ⟨7, by decide +kernel, rfl, xf_RX7_7⟩
theorem iX7_reachers_12 : DPushI mX7_reachers 12 1 13 := Or.inl ⟨1, by decide +kernel, by decide, rfl⟩
theorem iX7_reachers_13 : D1 mX7_reachers 13 .iaload 1 14 := ⟨by decide +kernel, rfl⟩
theorem iX7_reachers_14 : DCm mX7_reachers 14 .ge 61 17 := ⟨47, by decide +kernel, by decide, rfl⟩
theorem iX7_reachers_17 : DLdI mX7_reachers 17 4 19 := Or.inr ⟨by decide +kernel, rfl⟩
theorem iX7_reachers_19 : DLdA mX7_reachers 19 0 20 := Or.inl ⟨0, by decide +kernel, rfl, rfl⟩
theorem iX7_reachers_20 : DLdI mX7_reachers 20 5 22 := Or.inr ⟨by decide +kernel, rfl⟩
theorem iX7_reachers_22 : DLdI mX7_reachers 22 1 23 := Or.inl ⟨1, by decide +kernel, rfl, rfl⟩
theorem iX7_reachers_23 : DLdI mX7_reachers 23 2 24 := Or.inl ⟨2, by decide +kernel, rfl, rfl⟩
theorem iX7_reachers_24 : DInvV mX7_reachers 24 mX7_isReached 7 3 27 := ⟨67, TX7, 17, by decide +kernel, rfl, rfl, xl_RX7_67, xi_X7_isReached, xs_X7_isReached, xm_X7_isReached⟩
theorem iX7_reachers_27 : DIf mX7_reachers 27 .eq 51 30 := ⟨24, by decide +kernel, by decide, rfl⟩
theorem iX7_reachers_30 : DLdI mX7_reachers 30 3 31 := Or.inl ⟨3, by decide +kernel, rfl, rfl⟩
theorem iX7_reachers_31 : DIf mX7_reachers 31 .eq 44 34 := ⟨13, by decide +kernel, by decide, rfl⟩
theorem iX7_reachers_34 : DLdA mX7_reachers 34 0 35 := Or.inl ⟨0, by decide +kernel, rfl, rfl⟩
theorem iX7_reachers_35 : DLdI mX7_reachers 35 5 37 := Or.inr ⟨by decide +kernel, rfl⟩
theorem iX7_reachers_37 : DInvV mX7_reachers 37 mX7_leansAt 7 1 40 := ⟨59, TX7, 17, by decide +kernel, rfl, rfl, xl_RX7_59, xi_X7_leansAt, xs_X7_leansAt, xm_X7_leansAt⟩
theorem iX7_reachers_40 : DLdI mX7_reachers 40 1 41 := Or.inl ⟨1, by decide +kernel, rfl, rfl⟩
theorem iX7_reachers_41 : DCm mX7_reachers 41 .ne 51 44 := ⟨10, by decide +kernel, by decide, rfl⟩
theorem iX7_reachers_44 : DPushI mX7_reachers 44 1 45 := Or.inl ⟨1, by decide +kernel, by decide, rfl⟩
theorem iX7_reachers_45 : DLdI mX7_reachers 45 5 47 := Or.inr ⟨by decide +kernel, rfl⟩
theorem iX7_reachers_47 : D1 mX7_reachers 47 .ishl 1 48 := ⟨by decide +kernel, rfl⟩
theorem iX7_reachers_48 : DGo mX7_reachers 48 52 := ⟨4, by decide +kernel, by decide⟩
theorem iX7_reachers_51 : DPushI mX7_reachers 51 0 52 := Or.inl ⟨0, by decide +kernel, by decide, rfl⟩
theorem iX7_reachers_52 : D1 mX7_reachers 52 .ior 1 53 := ⟨by decide +kernel, rfl⟩
theorem iX7_reachers_53 : DStI mX7_reachers 53 4 55 := ⟨by decide, Or.inr ⟨by decide +kernel, rfl⟩⟩
theorem iX7_reachers_55 : DInc mX7_reachers 55 5 1 58 := ⟨by decide, 1, by decide +kernel, by decide, rfl⟩
theorem iX7_reachers_58 : DGo mX7_reachers 58 6 := ⟨(-52), by decide +kernel, by decide⟩
theorem iX7_reachers_61 : DLdI mX7_reachers 61 4 63 := Or.inr ⟨by decide +kernel, rfl⟩
theorem iX7_reachers_63 : mX7_reachers.2.2.2 = some .int ∧ decode mX7_reachers.2.1 63 = .ok (.ireturn, 1) := ⟨rfl, by decide +kernel⟩
theorem iX7_reaches_0 : DLdI mX7_reaches 0 2 1 := Or.inl ⟨2, by decide +kernel, rfl, rfl⟩
theorem iX7_reaches_1 : DPushI mX7_reaches 1 3 2 := Or.inl ⟨3, by decide +kernel, by decide, rfl⟩
theorem iX7_reaches_2 : D1 mX7_reaches 2 .irem 1 3 := ⟨by decide +kernel, rfl⟩
theorem iX7_reaches_3 : DIf mX7_reaches 3 .ne 15 6 := ⟨12, by decide +kernel, by decide, rfl⟩
theorem iX7_reaches_6 : DLdI mX7_reaches 6 1 7 := Or.inl ⟨1, by decide +kernel, rfl, rfl⟩
theorem iX7_reaches_7 : DPushI mX7_reaches 7 2 8 := Or.inl ⟨2, by decide +kernel, by decide, rfl⟩
theorem iX7_reaches_8 : DCm mX7_reaches 8 .le 15 11 := ⟨7, by decide +kernel, by decide, rfl⟩
theorem iX7_reaches_11 : DPushI mX7_reaches 11 2 12 := Or.inl ⟨2, by decide +kernel, by decide, rfl⟩
theorem iX7_reaches_12 : DGo mX7_reaches 12 16 := ⟨4, by decide +kernel, by decide⟩
theorem iX7_reaches_15 : DLdI mX7_reaches 15 1 16 := Or.inl ⟨1, by decide +kernel, rfl, rfl⟩
theorem iX7_reaches_16 : DStI mX7_reaches 16 3 17 := ⟨by decide, Or.inl ⟨3, by decide +kernel, rfl, rfl⟩⟩
theorem iX7_reaches_17 : DLdI mX7_reaches 17 0 18 := Or.inl ⟨0, by decide +kernel, rfl, rfl⟩
theorem iX7_reaches_18 : DTab mX7_reaches 18 0 [48, 50, 52, 56] 72 := ⟨54, 3, #[30, 32, 34, 38], 30, by decide +kernel, by decide, by decide, by decide⟩
theorem iX7_reaches_48 : DLdI mX7_reaches 48 1 49 := Or.inl ⟨1, by decide +kernel, rfl, rfl⟩
theorem iX7_reaches_49 : mX7_reaches.2.2.2 = some .int ∧ decode mX7_reaches.2.1 49 = .ok (.ireturn, 1) := ⟨rfl, by decide +kernel⟩
theorem iX7_reaches_50 : DLdI mX7_reaches 50 3 51 := Or.inl ⟨3, by decide +kernel, rfl, rfl⟩
theorem iX7_reaches_51 : mX7_reaches.2.2.2 = some .int ∧ decode mX7_reaches.2.1 51 = .ok (.ireturn, 1) := ⟨rfl, by decide +kernel⟩
theorem iX7_reaches_52 : DPushI mX7_reaches 52 2 53 := Or.inl ⟨2, by decide +kernel, by decide, rfl⟩
theorem iX7_reaches_53 : DLdI mX7_reaches 53 1 54 := Or.inl ⟨1, by decide +kernel, rfl, rfl⟩
theorem iX7_reaches_54 : D1 mX7_reaches 54 .imul 1 55 := ⟨by decide +kernel, rfl⟩
theorem iX7_reaches_55 : mX7_reaches.2.2.2 = some .int ∧ decode mX7_reaches.2.1 55 = .ok (.ireturn, 1) := ⟨rfl, by decide +kernel⟩
theorem iX7_reaches_56 : DLdI mX7_reaches 56 1 57 := Or.inl ⟨1, by decide +kernel, rfl, rfl⟩
theorem iX7_reaches_57 : DPushI mX7_reaches 57 3 58 := Or.inl ⟨3, by decide +kernel, by decide, rfl⟩
theorem iX7_reaches_58 : DCm mX7_reaches 58 .le 70 61 := ⟨12, by decide +kernel, by decide, rfl⟩
theorem iX7_reaches_61 : DLdI mX7_reaches 61 3 62 := Or.inl ⟨3, by decide +kernel, rfl, rfl⟩
theorem iX7_reaches_62 : DPushI mX7_reaches 62 3 63 := Or.inl ⟨3, by decide +kernel, by decide, rfl⟩
theorem iX7_reaches_63 : DCm mX7_reaches 63 .le 70 66 := ⟨7, by decide +kernel, by decide, rfl⟩
theorem iX7_reaches_66 : DPushI mX7_reaches 66 3 67 := Or.inl ⟨3, by decide +kernel, by decide, rfl⟩
theorem iX7_reaches_67 : DGo mX7_reaches 67 71 := ⟨4, by decide +kernel, by decide⟩
theorem iX7_reaches_70 : DLdI mX7_reaches 70 3 71 := Or.inl ⟨3, by decide +kernel, rfl, rfl⟩
theorem iX7_reaches_71 : mX7_reaches.2.2.2 = some .int ∧ decode mX7_reaches.2.1 71 = .ok (.ireturn, 1) := ⟨rfl, by decide +kernel⟩
theorem iX7_reaches_72 : DLdI mX7_reaches 72 2 73 := Or.inl ⟨2, by decide +kernel, rfl, rfl⟩
theorem iX7_reaches_73 : DPushI mX7_reaches 73 7 75 := Or.inr (Or.inl ⟨7, by decide +kernel, by decide, rfl⟩)
theorem iX7_reaches_75 : D1 mX7_reaches 75 .irem 1 76 := ⟨by decide +kernel, rfl⟩
theorem iX7_reaches_76 : DIf mX7_reaches 76 .ne 83 79 := ⟨7, by decide +kernel, by decide, rfl⟩
theorem iX7_reaches_79 : DPushI mX7_reaches 79 0 80 := Or.inl ⟨0, by decide +kernel, by decide, rfl⟩
theorem iX7_reaches_80 : DGo mX7_reaches 80 86 := ⟨6, by decide +kernel, by decide⟩
theorem iX7_reaches_83 : DPushI mX7_reaches 83 2 84 := Or.inl ⟨2, by decide +kernel, by decide, rfl⟩
theorem iX7_reaches_84 : DLdI mX7_reaches 84 1 85 := Or.inl ⟨1, by decide +kernel, rfl, rfl⟩
theorem iX7_reaches_85 : D1 mX7_reaches 85 .imul 1 86 := ⟨by decide +kernel, rfl⟩
theorem iX7_reaches_86 : mX7_reaches.2.2.2 = some .int ∧ decode mX7_reaches.2.1 86 = .ok (.ireturn, 1) := ⟨rfl, by decide +kernel⟩
end
section
theorem iX7_readLadders_0 : DPushI mX7_readLadders 0 0 1 := Or.inl ⟨0, by decide +kernel, by decide, rfl⟩
theorem iX7_readLadders_1 : DStI mX7_readLadders 1 2 2 := ⟨by decide, Or.inl ⟨2, by decide +kernel, rfl, rfl⟩⟩
theorem iX7_readLadders_2 : DLdA mX7_readLadders 2 0 3 := Or.inl ⟨0, by decide +kernel, rfl, rfl⟩
theorem iX7_readLadders_3 : DGet mX7_readLadders 3 7 4 6 := ⟨133, by decide +kernel, rfl, xf_RX7_133⟩
theorem iX7_readLadders_6 : DIf mX7_readLadders 6 .ne 240 9 := ⟨234, by decide +kernel, by decide, rfl⟩
theorem iX7_readLadders_9 : DLdI mX7_readLadders 9 2 10 := Or.inl ⟨2, by decide +kernel, rfl, rfl⟩
theorem iX7_readLadders_10 : DIf mX7_readLadders 10 .eq 22 13 := ⟨12, by decide +kernel, by decide, rfl⟩
theorem iX7_readLadders_13 : DLdA mX7_readLadders 13 0 14 := Or.inl ⟨0, by decide +kernel, rfl, rfl⟩
theorem iX7_readLadders_14 : DInvV mX7_readLadders 14 mX7_here 7 0 17 := ⟨137, TX7, 17, by decide +kernel, rfl, rfl, xl_RX7_137, xi_X7_here, xs_X7_here, xm_X7_here⟩
theorem iX7_readLadders_17 : DPushI mX7_readLadders 17 44 19 := Or.inr (Or.inl ⟨44, by decide +kernel, by decide, rfl⟩)
theorem iX7_readLadders_19 : DCm mX7_readLadders 19 .ne 240 22 := ⟨221, by decide +kernel, by decide, rfl⟩
theorem iX7_readLadders_22 : DLdI mX7_readLadders 22 2 23 := Or.inl ⟨2, by decide +kernel, rfl, rfl⟩
theorem iX7_readLadders_23 : DIf mX7_readLadders 23 .le 40 26 := ⟨17, by decide +kernel, by decide, rfl⟩
theorem iX7_readLadders_26 : DLdA mX7_readLadders 26 0 27 := Or.inl ⟨0, by decide +kernel, rfl, rfl⟩
theorem iX7_readLadders_27 : DLdI mX7_readLadders 27 2 28 := Or.inl ⟨2, by decide +kernel, rfl, rfl⟩
theorem iX7_readLadders_28 : DPushI mX7_readLadders 28 4 29 := Or.inl ⟨4, by decide +kernel, by decide, rfl⟩
theorem iX7_readLadders_29 : DCm mX7_readLadders 29 .ge 36 32 := ⟨7, by decide +kernel, by decide, rfl⟩
theorem iX7_readLadders_32 : DPushI mX7_readLadders 32 1 33 := Or.inl ⟨1, by decide +kernel, by decide, rfl⟩
theorem iX7_readLadders_33 : DGo mX7_readLadders 33 37 := ⟨4, by decide +kernel, by decide⟩
theorem iX7_readLadders_36 : DPushI mX7_readLadders 36 0 37 := Or.inl ⟨0, by decide +kernel, by decide, rfl⟩
theorem iX7_readLadders_37 : DInvV mX7_readLadders 37 mX7_must 7 1 40 := ⟨140, TX7, 17, by decide +kernel, rfl, rfl, xl_RX7_140, xi_X7_must, xs_X7_must, xm_X7_must⟩
theorem iX7_readLadders_40 : DLdA mX7_readLadders 40 0 41 := Or.inl ⟨0, by decide +kernel, rfl, rfl⟩
theorem iX7_readLadders_41 : DGet mX7_readLadders 41 7 4 44 := ⟨133, by decide +kernel, rfl, xf_RX7_133⟩
theorem iX7_readLadders_44 : DIf mX7_readLadders 44 .eq 51 47 := ⟨7, by decide +kernel, by decide, rfl⟩
theorem iX7_readLadders_47 : DPushI mX7_readLadders 47 0 48 := Or.inl ⟨0, by decide +kernel, by decide, rfl⟩
theorem iX7_readLadders_48 : DGo mX7_readLadders 48 55 := ⟨7, by decide +kernel, by decide⟩
theorem iX7_readLadders_51 : DLdA mX7_readLadders 51 0 52 := Or.inl ⟨0, by decide +kernel, rfl, rfl⟩
theorem iX7_readLadders_52 : DInvV mX7_readLadders 52 mX7_here 7 0 55 := ⟨137, TX7, 17, by decide +kernel, rfl, rfl, xl_RX7_137, xi_X7_here, xs_X7_here, xm_X7_here⟩
theorem iX7_readLadders_55 : DStI mX7_readLadders 55 3 56 := ⟨by decide, Or.inl ⟨3, by decide +kernel, rfl, rfl⟩⟩
theorem iX7_readLadders_56 : DLdI mX7_readLadders 56 3 57 := Or.inl ⟨3, by decide +kernel, rfl, rfl⟩
theorem iX7_readLadders_57 : DPushI mX7_readLadders 57 112 59 := Or.inr (Or.inl ⟨112, by decide +kernel, by decide, rfl⟩)
theorem iX7_readLadders_59 : DCm mX7_readLadders 59 .ne 66 62 := ⟨7, by decide +kernel, by decide, rfl⟩
theorem iX7_readLadders_62 : DPushI mX7_readLadders 62 0 63 := Or.inl ⟨0, by decide +kernel, by decide, rfl⟩
theorem iX7_readLadders_63 : DGo mX7_readLadders 63 107 := ⟨44, by decide +kernel, by decide⟩
theorem iX7_readLadders_66 : DLdI mX7_readLadders 66 3 67 := Or.inl ⟨3, by decide +kernel, rfl, rfl⟩
theorem iX7_readLadders_67 : DPushI mX7_readLadders 67 100 69 := Or.inr (Or.inl ⟨100, by decide +kernel, by decide, rfl⟩)
theorem iX7_readLadders_69 : DCm mX7_readLadders 69 .ne 76 72 := ⟨7, by decide +kernel, by decide, rfl⟩
theorem iX7_readLadders_72 : DPushI mX7_readLadders 72 1 73 := Or.inl ⟨1, by decide +kernel, by decide, rfl⟩
theorem iX7_readLadders_73 : DGo mX7_readLadders 73 107 := ⟨34, by decide +kernel, by decide⟩
theorem iX7_readLadders_76 : DLdI mX7_readLadders 76 3 77 := Or.inl ⟨3, by decide +kernel, rfl, rfl⟩
theorem iX7_readLadders_77 : DPushI mX7_readLadders 77 116 79 := Or.inr (Or.inl ⟨116, by decide +kernel, by decide, rfl⟩)
theorem iX7_readLadders_79 : DCm mX7_readLadders 79 .ne 86 82 := ⟨7, by decide +kernel, by decide, rfl⟩
theorem iX7_readLadders_82 : DPushI mX7_readLadders 82 2 83 := Or.inl ⟨2, by decide +kernel, by decide, rfl⟩
theorem iX7_readLadders_83 : DGo mX7_readLadders 83 107 := ⟨24, by decide +kernel, by decide⟩
theorem iX7_readLadders_86 : DLdI mX7_readLadders 86 3 87 := Or.inl ⟨3, by decide +kernel, rfl, rfl⟩
theorem iX7_readLadders_87 : DPushI mX7_readLadders 87 119 89 := Or.inr (Or.inl ⟨119, by decide +kernel, by decide, rfl⟩)
theorem iX7_readLadders_89 : DCm mX7_readLadders 89 .ne 96 92 := ⟨7, by decide +kernel, by decide, rfl⟩
theorem iX7_readLadders_92 : DPushI mX7_readLadders 92 3 93 := Or.inl ⟨3, by decide +kernel, by decide, rfl⟩
theorem iX7_readLadders_93 : DGo mX7_readLadders 93 107 := ⟨14, by decide +kernel, by decide⟩
theorem iX7_readLadders_96 : DLdI mX7_readLadders 96 3 97 := Or.inl ⟨3, by decide +kernel, rfl, rfl⟩
theorem iX7_readLadders_97 : DPushI mX7_readLadders 97 108 99 := Or.inr (Or.inl ⟨108, by decide +kernel, by decide, rfl⟩)
theorem iX7_readLadders_99 : DCm mX7_readLadders 99 .ne 106 102 := ⟨7, by decide +kernel, by decide, rfl⟩
theorem iX7_readLadders_102 : DPushI mX7_readLadders 102 4 103 := Or.inl ⟨4, by decide +kernel, by decide, rfl⟩
theorem iX7_readLadders_103 : DGo mX7_readLadders 103 107 := ⟨4, by decide +kernel, by decide⟩
theorem iX7_readLadders_106 : DPushI mX7_readLadders 106 (-1) 107 := Or.inl ⟨(-1), by decide +kernel, by decide, rfl⟩
theorem iX7_readLadders_107 : DStI mX7_readLadders 107 4 109 := ⟨by decide, Or.inr ⟨by decide +kernel, rfl⟩⟩
theorem iX7_readLadders_109 : DLdA mX7_readLadders 109 0 110 := Or.inl ⟨0, by decide +kernel, rfl, rfl⟩
theorem iX7_readLadders_110 : DLdI mX7_readLadders 110 4 112 := Or.inr ⟨by decide +kernel, rfl⟩
theorem iX7_readLadders_112 : DIf mX7_readLadders 112 .lt 119 115 := ⟨7, by decide +kernel, by decide, rfl⟩
theorem iX7_readLadders_115 : DPushI mX7_readLadders 115 1 116 := Or.inl ⟨1, by decide +kernel, by decide, rfl⟩
theorem iX7_readLadders_116 : DGo mX7_readLadders 116 120 := ⟨4, by decide +kernel, by decide⟩
theorem iX7_readLadders_119 : DPushI mX7_readLadders 119 0 120 := Or.inl ⟨0, by decide +kernel, by decide, rfl⟩
theorem iX7_readLadders_120 : DInvV mX7_readLadders 120 mX7_must 7 1 123 := ⟨140, TX7, 17, by decide +kernel, rfl, rfl, xl_RX7_140, xi_X7_must, xs_X7_must, xm_X7_must⟩
theorem iX7_readLadders_123 : DLdA mX7_readLadders 123 0 124 := Or.inl ⟨0, by decide +kernel, rfl, rfl⟩
theorem iX7_readLadders_124 : DPushI mX7_readLadders 124 1 125 := Or.inl ⟨1, by decide +kernel, by decide, rfl⟩
theorem iX7_readLadders_125 : DPushI mX7_readLadders 125 9 127 := Or.inr (Or.inl ⟨9, by decide +kernel, by decide, rfl⟩)
theorem iX7_readLadders_127 : DInvV mX7_readLadders 127 mX7_digit 7 2 130 := ⟨154, TX7, 17, by decide +kernel, rfl, rfl, xl_RX7_154, xi_X7_digit, xs_X7_digit, xm_X7_digit⟩
theorem iX7_readLadders_130 : DStI mX7_readLadders 130 5 132 := ⟨by decide, Or.inr ⟨by decide +kernel, rfl⟩⟩
theorem iX7_readLadders_132 : DLdA mX7_readLadders 132 0 133 := Or.inl ⟨0, by decide +kernel, rfl, rfl⟩
theorem iX7_readLadders_133 : DPushI mX7_readLadders 133 0 134 := Or.inl ⟨0, by decide +kernel, by decide, rfl⟩
theorem iX7_readLadders_134 : DPushI mX7_readLadders 134 9 136 := Or.inr (Or.inl ⟨9, by decide +kernel, by decide, rfl⟩)
theorem iX7_readLadders_136 : DInvV mX7_readLadders 136 mX7_digit 7 2 139 := ⟨154, TX7, 17, by decide +kernel, rfl, rfl, xl_RX7_154, xi_X7_digit, xs_X7_digit, xm_X7_digit⟩
theorem iX7_readLadders_139 : DStI mX7_readLadders 139 6 141 := ⟨by decide, Or.inr ⟨by decide +kernel, rfl⟩⟩
theorem iX7_readLadders_141 : DPushI mX7_readLadders 141 (-4) 143 := Or.inr (Or.inl ⟨(-4), by decide +kernel, by decide, rfl⟩)
theorem iX7_readLadders_143 : DStI mX7_readLadders 143 7 145 := ⟨by decide, Or.inr ⟨by decide +kernel, rfl⟩⟩
theorem iX7_readLadders_145 : DLdA mX7_readLadders 145 0 146 := Or.inl ⟨0, by decide +kernel, rfl, rfl⟩
theorem iX7_readLadders_146 : DGet mX7_readLadders 146 7 4 149 := ⟨133, by decide +kernel, rfl, xf_RX7_133⟩
theorem iX7_readLadders_149 : DIf mX7_readLadders 149 .ne 181 152 := ⟨32, by decide +kernel, by decide, rfl⟩
theorem iX7_readLadders_152 : DLdA mX7_readLadders 152 0 153 := Or.inl ⟨0, by decide +kernel, rfl, rfl⟩
theorem iX7_readLadders_153 : DInvV mX7_readLadders 153 mX7_here 7 0 156 := ⟨137, TX7, 17, by decide +kernel, rfl, rfl, xl_RX7_137, xi_X7_here, xs_X7_here, xm_X7_here⟩
theorem iX7_readLadders_156 : DPushI mX7_readLadders 156 61 158 := Or.inr (Or.inl ⟨61, by decide +kernel, by decide, rfl⟩)
theorem iX7_readLadders_158 : DCm mX7_readLadders 158 .ne 181 161 := ⟨23, by decide +kernel, by decide, rfl⟩
theorem iX7_readLadders_161 : DLdA mX7_readLadders 161 0 162 := Or.inl ⟨0, by decide +kernel, rfl, rfl⟩
theorem iX7_readLadders_162 : D1 mX7_readLadders 162 .dup 1 163 := ⟨by decide +kernel, rfl⟩
theorem iX7_readLadders_163 : DGet mX7_readLadders 163 7 3 166 := ⟨130, by decide +kernel, rfl, xf_RX7_130⟩
theorem iX7_readLadders_166 : DPushI mX7_readLadders 166 1 167 := Or.inl ⟨1, by decide +kernel, by decide, rfl⟩
theorem iX7_readLadders_167 : D1 mX7_readLadders 167 .iadd 1 168 := ⟨by decide +kernel, rfl⟩
theorem iX7_readLadders_168 : DPut mX7_readLadders 168 7 3 .int 171 := ⟨130, by decide +kernel, rfl, RX7, TX7, 17, tyX7, rfl, by decide, bigW_at 645 (by decide +kernel) rfl, xw7, tyX7_ok, nmX7, rfl, Or.inl rfl⟩
theorem iX7_readLadders_171 : DLdA mX7_readLadders 171 0 172 := Or.inl ⟨0, by decide +kernel, rfl, rfl⟩
theorem iX7_readLadders_172 : DPushI mX7_readLadders 172 0 173 := Or.inl ⟨0, by decide +kernel, by decide, rfl⟩
theorem iX7_readLadders_173 : DLdI mX7_readLadders 173 1 174 := Or.inl ⟨1, by decide +kernel, rfl, rfl⟩
theorem iX7_readLadders_174 : DPushI mX7_readLadders 174 1 175 := Or.inl ⟨1, by decide +kernel, by decide, rfl⟩
theorem iX7_readLadders_175 : D1 mX7_readLadders 175 .isub 1 176 := ⟨by decide +kernel, rfl⟩
theorem iX7_readLadders_176 : DInvV mX7_readLadders 176 mX7_digit 7 2 179 := ⟨154, TX7, 17, by decide +kernel, rfl, rfl, xl_RX7_154, xi_X7_digit, xs_X7_digit, xm_X7_digit⟩
theorem iX7_readLadders_179 : DStI mX7_readLadders 179 7 181 := ⟨by decide, Or.inr ⟨by decide +kernel, rfl⟩⟩
theorem iX7_readLadders_181 : DLdA mX7_readLadders 181 0 182 := Or.inl ⟨0, by decide +kernel, rfl, rfl⟩
theorem iX7_readLadders_182 : DGet mX7_readLadders 182 7 4 185 := ⟨133, by decide +kernel, rfl, xf_RX7_133⟩
theorem iX7_readLadders_185 : DIf mX7_readLadders 185 .ne 234 188 := ⟨49, by decide +kernel, by decide, rfl⟩
theorem iX7_readLadders_188 : DLdA mX7_readLadders 188 0 189 := Or.inl ⟨0, by decide +kernel, rfl, rfl⟩
theorem iX7_readLadders_189 : DGet mX7_readLadders 189 7 6 192 := ⟨19, by decide +kernel, rfl, xf_RX7_19⟩
theorem iX7_readLadders_192 : DPushI mX7_readLadders 192 4 193 := Or.inl ⟨4, by decide +kernel, by decide, rfl⟩
theorem iX7_readLadders_193 : DLdI mX7_readLadders 193 2 194 := Or.inl ⟨2, by decide +kernel, rfl, rfl⟩
theorem iX7_readLadders_194 : D1 mX7_readLadders 194 .imul 1 195 := ⟨by decide +kernel, rfl⟩
theorem iX7_readLadders_195 : DLdI mX7_readLadders 195 4 197 := Or.inr ⟨by decide +kernel, rfl⟩
theorem iX7_readLadders_197 : D1 mX7_readLadders 197 .iastore 1 198 := ⟨by decide +kernel, rfl⟩
theorem iX7_readLadders_198 : DLdA mX7_readLadders 198 0 199 := Or.inl ⟨0, by decide +kernel, rfl, rfl⟩
theorem iX7_readLadders_199 : DGet mX7_readLadders 199 7 6 202 := ⟨19, by decide +kernel, rfl, xf_RX7_19⟩
theorem iX7_readLadders_202 : DPushI mX7_readLadders 202 4 203 := Or.inl ⟨4, by decide +kernel, by decide, rfl⟩
theorem iX7_readLadders_203 : DLdI mX7_readLadders 203 2 204 := Or.inl ⟨2, by decide +kernel, rfl, rfl⟩
theorem iX7_readLadders_204 : D1 mX7_readLadders 204 .imul 1 205 := ⟨by decide +kernel, rfl⟩
theorem iX7_readLadders_205 : DPushI mX7_readLadders 205 1 206 := Or.inl ⟨1, by decide +kernel, by decide, rfl⟩
theorem iX7_readLadders_206 : D1 mX7_readLadders 206 .iadd 1 207 := ⟨by decide +kernel, rfl⟩
theorem iX7_readLadders_207 : DLdI mX7_readLadders 207 5 209 := Or.inr ⟨by decide +kernel, rfl⟩
theorem iX7_readLadders_209 : D1 mX7_readLadders 209 .iastore 1 210 := ⟨by decide +kernel, rfl⟩
theorem iX7_readLadders_210 : DLdA mX7_readLadders 210 0 211 := Or.inl ⟨0, by decide +kernel, rfl, rfl⟩
theorem iX7_readLadders_211 : DGet mX7_readLadders 211 7 6 214 := ⟨19, by decide +kernel, rfl, xf_RX7_19⟩
theorem iX7_readLadders_214 : DPushI mX7_readLadders 214 4 215 := Or.inl ⟨4, by decide +kernel, by decide, rfl⟩
theorem iX7_readLadders_215 : DLdI mX7_readLadders 215 2 216 := Or.inl ⟨2, by decide +kernel, rfl, rfl⟩
theorem iX7_readLadders_216 : D1 mX7_readLadders 216 .imul 1 217 := ⟨by decide +kernel, rfl⟩
theorem iX7_readLadders_217 : DPushI mX7_readLadders 217 2 218 := Or.inl ⟨2, by decide +kernel, by decide, rfl⟩
theorem iX7_readLadders_218 : D1 mX7_readLadders 218 .iadd 1 219 := ⟨by decide +kernel, rfl⟩
theorem iX7_readLadders_219 : DLdI mX7_readLadders 219 6 221 := Or.inr ⟨by decide +kernel, rfl⟩
theorem iX7_readLadders_221 : D1 mX7_readLadders 221 .iastore 1 222 := ⟨by decide +kernel, rfl⟩
theorem iX7_readLadders_222 : DLdA mX7_readLadders 222 0 223 := Or.inl ⟨0, by decide +kernel, rfl, rfl⟩
theorem iX7_readLadders_223 : DGet mX7_readLadders 223 7 6 226 := ⟨19, by decide +kernel, rfl, xf_RX7_19⟩
theorem iX7_readLadders_226 : DPushI mX7_readLadders 226 4 227 := Or.inl ⟨4, by decide +kernel, by decide, rfl⟩
theorem iX7_readLadders_227 : DLdI mX7_readLadders 227 2 228 := Or.inl ⟨2, by decide +kernel, rfl, rfl⟩
theorem iX7_readLadders_228 : D1 mX7_readLadders 228 .imul 1 229 := ⟨by decide +kernel, rfl⟩
theorem iX7_readLadders_229 : DPushI mX7_readLadders 229 3 230 := Or.inl ⟨3, by decide +kernel, by decide, rfl⟩
theorem iX7_readLadders_230 : D1 mX7_readLadders 230 .iadd 1 231 := ⟨by decide +kernel, rfl⟩
theorem iX7_readLadders_231 : DLdI mX7_readLadders 231 7 233 := Or.inr ⟨by decide +kernel, rfl⟩
theorem iX7_readLadders_233 : D1 mX7_readLadders 233 .iastore 1 234 := ⟨by decide +kernel, rfl⟩
theorem iX7_readLadders_234 : DInc mX7_readLadders 234 2 1 237 := ⟨by decide, 1, by decide +kernel, by decide, rfl⟩
theorem iX7_readLadders_237 : DGo mX7_readLadders 237 2 := ⟨(-235), by decide +kernel, by decide⟩
theorem iX7_readLadders_240 : DLdI mX7_readLadders 240 2 241 := Or.inl ⟨2, by decide +kernel, rfl, rfl⟩
theorem iX7_readLadders_241 : mX7_readLadders.2.2.2 = some .int ∧ decode mX7_readLadders.2.1 241 = .ok (.ireturn, 1) := ⟨rfl, by decide +kernel⟩
theorem iX7_readTrees_0 : DPushI mX7_readTrees 0 0 1 := Or.inl ⟨0, by decide +kernel, by decide, rfl⟩
theorem iX7_readTrees_1 : DStI mX7_readTrees 1 1 2 := ⟨by decide, Or.inl ⟨1, by decide +kernel, rfl, rfl⟩⟩
theorem iX7_readTrees_2 : DLdA mX7_readTrees 2 0 3 := Or.inl ⟨0, by decide +kernel, rfl, rfl⟩
theorem iX7_readTrees_3 : DGet mX7_readTrees 3 7 4 6 := ⟨133, by decide +kernel, rfl, xf_RX7_133⟩
theorem iX7_readTrees_6 : DIf mX7_readTrees 6 .ne 123 9 := ⟨117, by decide +kernel, by decide, rfl⟩
theorem iX7_readTrees_9 : DLdI mX7_readTrees 9 1 10 := Or.inl ⟨1, by decide +kernel, rfl, rfl⟩
theorem iX7_readTrees_10 : DIf mX7_readTrees 10 .eq 22 13 := ⟨12, by decide +kernel, by decide, rfl⟩
theorem iX7_readTrees_13 : DLdA mX7_readTrees 13 0 14 := Or.inl ⟨0, by decide +kernel, rfl, rfl⟩
theorem iX7_readTrees_14 : DInvV mX7_readTrees 14 mX7_here 7 0 17 := ⟨137, TX7, 17, by decide +kernel, rfl, rfl, xl_RX7_137, xi_X7_here, xs_X7_here, xm_X7_here⟩
theorem iX7_readTrees_17 : DPushI mX7_readTrees 17 44 19 := Or.inr (Or.inl ⟨44, by decide +kernel, by decide, rfl⟩)
theorem iX7_readTrees_19 : DCm mX7_readTrees 19 .ne 123 22 := ⟨104, by decide +kernel, by decide, rfl⟩
theorem iX7_readTrees_22 : DLdI mX7_readTrees 22 1 23 := Or.inl ⟨1, by decide +kernel, rfl, rfl⟩
theorem iX7_readTrees_23 : DIf mX7_readTrees 23 .le 41 26 := ⟨18, by decide +kernel, by decide, rfl⟩
theorem iX7_readTrees_26 : DLdA mX7_readTrees 26 0 27 := Or.inl ⟨0, by decide +kernel, rfl, rfl⟩
theorem iX7_readTrees_27 : DLdI mX7_readTrees 27 1 28 := Or.inl ⟨1, by decide +kernel, rfl, rfl⟩
theorem iX7_readTrees_28 : DPushI mX7_readTrees 28 6 30 := Or.inr (Or.inl ⟨6, by decide +kernel, by decide, rfl⟩)
theorem iX7_readTrees_30 : DCm mX7_readTrees 30 .ge 37 33 := ⟨7, by decide +kernel, by decide, rfl⟩
theorem iX7_readTrees_33 : DPushI mX7_readTrees 33 1 34 := Or.inl ⟨1, by decide +kernel, by decide, rfl⟩
theorem iX7_readTrees_34 : DGo mX7_readTrees 34 38 := ⟨4, by decide +kernel, by decide⟩
theorem iX7_readTrees_37 : DPushI mX7_readTrees 37 0 38 := Or.inl ⟨0, by decide +kernel, by decide, rfl⟩
theorem iX7_readTrees_38 : DInvV mX7_readTrees 38 mX7_must 7 1 41 := ⟨140, TX7, 17, by decide +kernel, rfl, rfl, xl_RX7_140, xi_X7_must, xs_X7_must, xm_X7_must⟩
theorem iX7_readTrees_41 : DLdA mX7_readTrees 41 0 42 := Or.inl ⟨0, by decide +kernel, rfl, rfl⟩
theorem iX7_readTrees_42 : DPushI mX7_readTrees 42 1 43 := Or.inl ⟨1, by decide +kernel, by decide, rfl⟩
theorem iX7_readTrees_43 : DPushI mX7_readTrees 43 20 45 := Or.inr (Or.inl ⟨20, by decide +kernel, by decide, rfl⟩)
theorem iX7_readTrees_45 : DInvV mX7_readTrees 45 mX7_number 7 2 48 := ⟨148, TX7, 17, by decide +kernel, rfl, rfl, xl_RX7_148, xi_X7_number, xs_X7_number, xm_X7_number⟩
theorem iX7_readTrees_48 : DStI mX7_readTrees 48 2 49 := ⟨by decide, Or.inl ⟨2, by decide +kernel, rfl, rfl⟩⟩
theorem iX7_readTrees_49 : DLdA mX7_readTrees 49 0 50 := Or.inl ⟨0, by decide +kernel, rfl, rfl⟩
theorem iX7_readTrees_50 : DPushI mX7_readTrees 50 58 52 := Or.inr (Or.inl ⟨58, by decide +kernel, by decide, rfl⟩)
theorem iX7_readTrees_52 : DInvV mX7_readTrees 52 mX7_sign 7 1 55 := ⟨151, TX7, 17, by decide +kernel, rfl, rfl, xl_RX7_151, xi_X7_sign, xs_X7_sign, xm_X7_sign⟩
theorem iX7_readTrees_55 : DLdA mX7_readTrees 55 0 56 := Or.inl ⟨0, by decide +kernel, rfl, rfl⟩
theorem iX7_readTrees_56 : DPushI mX7_readTrees 56 0 57 := Or.inl ⟨0, by decide +kernel, by decide, rfl⟩
theorem iX7_readTrees_57 : DPushI mX7_readTrees 57 99 59 := Or.inr (Or.inl ⟨99, by decide +kernel, by decide, rfl⟩)
theorem iX7_readTrees_59 : DInvV mX7_readTrees 59 mX7_number 7 2 62 := ⟨148, TX7, 17, by decide +kernel, rfl, rfl, xl_RX7_148, xi_X7_number, xs_X7_number, xm_X7_number⟩
theorem iX7_readTrees_62 : DStI mX7_readTrees 62 3 63 := ⟨by decide, Or.inl ⟨3, by decide +kernel, rfl, rfl⟩⟩
theorem iX7_readTrees_63 : DLdA mX7_readTrees 63 0 64 := Or.inl ⟨0, by decide +kernel, rfl, rfl⟩
theorem iX7_readTrees_64 : DPushI mX7_readTrees 64 64 66 := Or.inr (Or.inl ⟨64, by decide +kernel, by decide, rfl⟩)
theorem iX7_readTrees_66 : DInvV mX7_readTrees 66 mX7_sign 7 1 69 := ⟨151, TX7, 17, by decide +kernel, rfl, rfl, xl_RX7_151, xi_X7_sign, xs_X7_sign, xm_X7_sign⟩
theorem iX7_readTrees_69 : DLdA mX7_readTrees 69 0 70 := Or.inl ⟨0, by decide +kernel, rfl, rfl⟩
theorem iX7_readTrees_70 : DPushI mX7_readTrees 70 0 71 := Or.inl ⟨0, by decide +kernel, by decide, rfl⟩
theorem iX7_readTrees_71 : DPushI mX7_readTrees 71 99 73 := Or.inr (Or.inl ⟨99, by decide +kernel, by decide, rfl⟩)
theorem iX7_readTrees_73 : DInvV mX7_readTrees 73 mX7_number 7 2 76 := ⟨148, TX7, 17, by decide +kernel, rfl, rfl, xl_RX7_148, xi_X7_number, xs_X7_number, xm_X7_number⟩
theorem iX7_readTrees_76 : DStI mX7_readTrees 76 4 78 := ⟨by decide, Or.inr ⟨by decide +kernel, rfl⟩⟩
theorem iX7_readTrees_78 : DLdA mX7_readTrees 78 0 79 := Or.inl ⟨0, by decide +kernel, rfl, rfl⟩
theorem iX7_readTrees_79 : DGet mX7_readTrees 79 7 4 82 := ⟨133, by decide +kernel, rfl, xf_RX7_133⟩
theorem iX7_readTrees_82 : DIf mX7_readTrees 82 .ne 117 85 := ⟨35, by decide +kernel, by decide, rfl⟩
theorem iX7_readTrees_85 : DLdA mX7_readTrees 85 0 86 := Or.inl ⟨0, by decide +kernel, rfl, rfl⟩
theorem iX7_readTrees_86 : DGet mX7_readTrees 86 7 5 89 := ⟨16, by decide +kernel, rfl, xf_RX7_16⟩
theorem iX7_readTrees_89 : DPushI mX7_readTrees 89 3 90 := Or.inl ⟨3, by decide +kernel, by decide, rfl⟩
theorem iX7_readTrees_90 : DLdI mX7_readTrees 90 1 91 := Or.inl ⟨1, by decide +kernel, rfl, rfl⟩
theorem iX7_readTrees_91 : D1 mX7_readTrees 91 .imul 1 92 := ⟨by decide +kernel, rfl⟩
theorem iX7_readTrees_92 : DLdI mX7_readTrees 92 2 93 := Or.inl ⟨2, by decide +kernel, rfl, rfl⟩
theorem iX7_readTrees_93 : D1 mX7_readTrees 93 .iastore 1 94 := ⟨by decide +kernel, rfl⟩
theorem iX7_readTrees_94 : DLdA mX7_readTrees 94 0 95 := Or.inl ⟨0, by decide +kernel, rfl, rfl⟩
theorem iX7_readTrees_95 : DGet mX7_readTrees 95 7 5 98 := ⟨16, by decide +kernel, rfl, xf_RX7_16⟩
theorem iX7_readTrees_98 : DPushI mX7_readTrees 98 3 99 := Or.inl ⟨3, by decide +kernel, by decide, rfl⟩
theorem iX7_readTrees_99 : DLdI mX7_readTrees 99 1 100 := Or.inl ⟨1, by decide +kernel, rfl, rfl⟩
theorem iX7_readTrees_100 : D1 mX7_readTrees 100 .imul 1 101 := ⟨by decide +kernel, rfl⟩
theorem iX7_readTrees_101 : DPushI mX7_readTrees 101 1 102 := Or.inl ⟨1, by decide +kernel, by decide, rfl⟩
theorem iX7_readTrees_102 : D1 mX7_readTrees 102 .iadd 1 103 := ⟨by decide +kernel, rfl⟩
theorem iX7_readTrees_103 : DLdI mX7_readTrees 103 3 104 := Or.inl ⟨3, by decide +kernel, rfl, rfl⟩
theorem iX7_readTrees_104 : D1 mX7_readTrees 104 .iastore 1 105 := ⟨by decide +kernel, rfl⟩
theorem iX7_readTrees_105 : DLdA mX7_readTrees 105 0 106 := Or.inl ⟨0, by decide +kernel, rfl, rfl⟩
theorem iX7_readTrees_106 : DGet mX7_readTrees 106 7 5 109 := ⟨16, by decide +kernel, rfl, xf_RX7_16⟩
theorem iX7_readTrees_109 : DPushI mX7_readTrees 109 3 110 := Or.inl ⟨3, by decide +kernel, by decide, rfl⟩
theorem iX7_readTrees_110 : DLdI mX7_readTrees 110 1 111 := Or.inl ⟨1, by decide +kernel, rfl, rfl⟩
theorem iX7_readTrees_111 : D1 mX7_readTrees 111 .imul 1 112 := ⟨by decide +kernel, rfl⟩
theorem iX7_readTrees_112 : DPushI mX7_readTrees 112 2 113 := Or.inl ⟨2, by decide +kernel, by decide, rfl⟩
theorem iX7_readTrees_113 : D1 mX7_readTrees 113 .iadd 1 114 := ⟨by decide +kernel, rfl⟩
theorem iX7_readTrees_114 : DLdI mX7_readTrees 114 4 116 := Or.inr ⟨by decide +kernel, rfl⟩
theorem iX7_readTrees_116 : D1 mX7_readTrees 116 .iastore 1 117 := ⟨by decide +kernel, rfl⟩
theorem iX7_readTrees_117 : DInc mX7_readTrees 117 1 1 120 := ⟨by decide, 1, by decide +kernel, by decide, rfl⟩
theorem iX7_readTrees_120 : DGo mX7_readTrees 120 2 := ⟨(-118), by decide +kernel, by decide⟩
theorem iX7_readTrees_123 : DLdI mX7_readTrees 123 1 124 := Or.inl ⟨1, by decide +kernel, rfl, rfl⟩
theorem iX7_readTrees_124 : mX7_readTrees.2.2.2 = some .int ∧ decode mX7_readTrees.2.1 124 = .ok (.ireturn, 1) := ⟨rfl, by decide +kernel⟩
theorem iX7_restore_0 : DLdA mX7_restore 0 0 1 := Or.inl ⟨0, by decide +kernel, rfl, rfl⟩
theorem iX7_restore_1 : DGet mX7_restore 1 7 12 4 := ⟨205, by decide +kernel, rfl, xf_RX7_205⟩
theorem iX7_restore_4 : DIf mX7_restore 4 .ne 10 7 := ⟨6, by decide +kernel, by decide, rfl⟩
theorem iX7_restore_7 : DPushI mX7_restore 7 (-4) 9 := Or.inr (Or.inl ⟨(-4), by decide +kernel, by decide, rfl⟩)
theorem iX7_restore_9 : mX7_restore.2.2.2 = some .int ∧ decode mX7_restore.2.1 9 = .ok (.ireturn, 1) := ⟨rfl, by decide +kernel⟩
theorem iX7_restore_10 : DPushI mX7_restore 10 0 11 := Or.inl ⟨0, by decide +kernel, by decide, rfl⟩
theorem iX7_restore_11 : DStI mX7_restore 11 1 12 := ⟨by decide, Or.inl ⟨1, by decide +kernel, rfl, rfl⟩⟩
theorem iX7_restore_12 : DLdI mX7_restore 12 1 13 := Or.inl ⟨1, by decide +kernel, rfl, rfl⟩
theorem iX7_restore_13 : DPushI mX7_restore 13 43 15 := Or.inr (Or.inl ⟨43, by decide +kernel, by decide, rfl⟩)
theorem iX7_restore_15 : DCm mX7_restore 15 .ge 36 18 := ⟨21, by decide +kernel, by decide, rfl⟩
theorem iX7_restore_18 : DLdA mX7_restore 18 0 19 := Or.inl ⟨0, by decide +kernel, rfl, rfl⟩
theorem iX7_restore_19 : DGet mX7_restore 19 7 0 22 := ⟨7, by decide +kernel, rfl, xf_RX7_7⟩
theorem iX7_restore_22 : DLdI mX7_restore 22 1 23 := Or.inl ⟨1, by decide +kernel, rfl, rfl⟩
theorem iX7_restore_23 : DLdA mX7_restore 23 0 24 := Or.inl ⟨0, by decide +kernel, rfl, rfl⟩
theorem iX7_restore_24 : DGet mX7_restore 24 7 10 27 := ⟨28, by decide +kernel, rfl, xf_RX7_28⟩
theorem iX7_restore_27 : DLdI mX7_restore 27 1 28 := Or.inl ⟨1, by decide +kernel, rfl, rfl⟩
theorem iX7_restore_28 : D1 mX7_restore 28 .iaload 1 29 := ⟨by decide +kernel, rfl⟩
theorem iX7_restore_29 : D1 mX7_restore 29 .iastore 1 30 := ⟨by decide +kernel, rfl⟩
theorem iX7_restore_30 : DInc mX7_restore 30 1 1 33 := ⟨by decide, 1, by decide +kernel, by decide, rfl⟩
theorem iX7_restore_33 : DGo mX7_restore 33 12 := ⟨(-21), by decide +kernel, by decide⟩
theorem iX7_restore_36 : DPushI mX7_restore 36 0 37 := Or.inl ⟨0, by decide +kernel, by decide, rfl⟩
theorem iX7_restore_37 : DStI mX7_restore 37 1 38 := ⟨by decide, Or.inl ⟨1, by decide +kernel, rfl, rfl⟩⟩
theorem iX7_restore_38 : DLdI mX7_restore 38 1 39 := Or.inl ⟨1, by decide +kernel, rfl, rfl⟩
theorem iX7_restore_39 : DPushI mX7_restore 39 120 41 := Or.inr (Or.inl ⟨120, by decide +kernel, by decide, rfl⟩)
theorem iX7_restore_41 : DCm mX7_restore 41 .ge 65 44 := ⟨24, by decide +kernel, by decide, rfl⟩
theorem iX7_restore_44 : DLdA mX7_restore 44 0 45 := Or.inl ⟨0, by decide +kernel, rfl, rfl⟩
theorem iX7_restore_45 : DGet mX7_restore 45 7 7 48 := ⟨22, by decide +kernel, rfl, xf_RX7_22⟩
theorem iX7_restore_48 : DLdI mX7_restore 48 1 49 := Or.inl ⟨1, by decide +kernel, rfl, rfl⟩
theorem iX7_restore_49 : DLdA mX7_restore 49 0 50 := Or.inl ⟨0, by decide +kernel, rfl, rfl⟩
theorem iX7_restore_50 : DGet mX7_restore 50 7 10 53 := ⟨28, by decide +kernel, rfl, xf_RX7_28⟩
theorem iX7_restore_53 : DPushI mX7_restore 53 43 55 := Or.inr (Or.inl ⟨43, by decide +kernel, by decide, rfl⟩)
theorem iX7_restore_55 : DLdI mX7_restore 55 1 56 := Or.inl ⟨1, by decide +kernel, rfl, rfl⟩
theorem iX7_restore_56 : D1 mX7_restore 56 .iadd 1 57 := ⟨by decide +kernel, rfl⟩
theorem iX7_restore_57 : D1 mX7_restore 57 .iaload 1 58 := ⟨by decide +kernel, rfl⟩
theorem iX7_restore_58 : D1 mX7_restore 58 .iastore 1 59 := ⟨by decide +kernel, rfl⟩
theorem iX7_restore_59 : DInc mX7_restore 59 1 1 62 := ⟨by decide, 1, by decide +kernel, by decide, rfl⟩
theorem iX7_restore_62 : DGo mX7_restore 62 38 := ⟨(-24), by decide +kernel, by decide⟩
theorem iX7_restore_65 : DLdA mX7_restore 65 0 66 := Or.inl ⟨0, by decide +kernel, rfl, rfl⟩
theorem iX7_restore_66 : DLdA mX7_restore 66 0 67 := Or.inl ⟨0, by decide +kernel, rfl, rfl⟩
theorem iX7_restore_67 : DGet mX7_restore 67 7 11 70 := ⟨202, by decide +kernel, rfl, xf_RX7_202⟩
theorem iX7_restore_70 : DPut mX7_restore 70 7 8 .int 73 := ⟨82, by decide +kernel, rfl, RX7, TX7, 17, tyX7, rfl, by decide, bigW_at 650 (by decide +kernel) rfl, xw7, tyX7_ok, nmX7, rfl, Or.inl rfl⟩
theorem iX7_restore_73 : DPushI mX7_restore 73 1 74 := Or.inl ⟨1, by decide +kernel, by decide, rfl⟩
theorem iX7_restore_74 : mX7_restore.2.2.2 = some .int ∧ decode mX7_restore.2.1 74 = .ok (.ireturn, 1) := ⟨rfl, by decide +kernel⟩
theorem iX7_round_0 : DLdA mX7_round 0 0 1 := Or.inl ⟨0, by decide +kernel, rfl, rfl⟩
theorem iX7_round_1 : DLdI mX7_round 1 1 2 := Or.inl ⟨1, by decide +kernel, rfl, rfl⟩
theorem iX7_round_2 : DInvV mX7_round 2 mX7_isLadder 7 1 5 := ⟨112, TX7, 17, by decide +kernel, rfl, rfl, xl_RX7_112, xi_X7_isLadder, xs_X7_isLadder, xm_X7_isLadder⟩
theorem iX7_round_5 : DIf mX7_round 5 .eq 25 8 := ⟨20, by decide +kernel, by decide, rfl⟩
theorem iX7_round_8 : DLdI mX7_round 8 2 9 := Or.inl ⟨2, by decide +kernel, rfl, rfl⟩
theorem iX7_round_9 : D1 mX7_round 9 .i2l 1 10 := ⟨by decide +kernel, rfl⟩
theorem iX7_round_10 : DPushL mX7_round 10 1 11 := Or.inl ⟨1, by decide +kernel, by decide, rfl⟩
theorem iX7_round_11 : DPushL mX7_round 11 4 14 := Or.inr ⟨94, by decide +kernel, bigW_at 711 (by decide +kernel) rfl, rfl⟩
theorem iX7_round_14 : DInvS mX7_round 14 mX7_in 3 17 := ⟨44, by decide +kernel, rfl, Or.inl xl_RX7_44, xt_X7_in, xm_X7_in⟩
theorem iX7_round_17 : DIf mX7_round 17 .eq 25 20 := ⟨8, by decide +kernel, by decide, rfl⟩
theorem iX7_round_20 : DLdI mX7_round 20 3 21 := Or.inl ⟨3, by decide +kernel, rfl, rfl⟩
theorem iX7_round_21 : DPushI mX7_round 21 (-1) 22 := Or.inl ⟨(-1), by decide +kernel, by decide, rfl⟩
theorem iX7_round_22 : DCm mX7_round 22 .ge 27 25 := ⟨5, by decide +kernel, by decide, rfl⟩
theorem iX7_round_25 : DPushI mX7_round 25 (-1) 26 := Or.inl ⟨(-1), by decide +kernel, by decide, rfl⟩
theorem iX7_round_26 : mX7_round.2.2.2 = some .int ∧ decode mX7_round.2.1 26 = .ok (.ireturn, 1) := ⟨rfl, by decide +kernel⟩
theorem iX7_round_27 : DLdA mX7_round 27 0 28 := Or.inl ⟨0, by decide +kernel, rfl, rfl⟩
theorem iX7_round_28 : DGet mX7_round 28 7 0 31 := ⟨7, by decide +kernel, rfl, xf_RX7_7⟩
theorem iX7_round_31 : DPushI mX7_round 31 0 32 := Or.inl ⟨0, by decide +kernel, by decide, rfl⟩
theorem iX7_round_32 : D1 mX7_round 32 .iaload 1 33 := ⟨by decide +kernel, rfl⟩
theorem iX7_round_33 : DIf mX7_round 33 .ne 39 36 := ⟨6, by decide +kernel, by decide, rfl⟩
theorem iX7_round_36 : DPushI mX7_round 36 (-4) 38 := Or.inr (Or.inl ⟨(-4), by decide +kernel, by decide, rfl⟩)
theorem iX7_round_38 : mX7_round.2.2.2 = some .int ∧ decode mX7_round.2.1 38 = .ok (.ireturn, 1) := ⟨rfl, by decide +kernel⟩
theorem iX7_round_39 : DLdA mX7_round 39 0 40 := Or.inl ⟨0, by decide +kernel, rfl, rfl⟩
theorem iX7_round_40 : DGet mX7_round 40 7 0 43 := ⟨7, by decide +kernel, rfl, xf_RX7_7⟩
theorem iX7_round_43 : DPushI mX7_round 43 0 44 := Or.inl ⟨0, by decide +kernel, by decide, rfl⟩
theorem iX7_round_44 : D1 mX7_round 44 .iaload 1 45 := ⟨by decide +kernel, rfl⟩
theorem iX7_round_45 : DLdI mX7_round 45 2 46 := Or.inl ⟨2, by decide +kernel, rfl, rfl⟩
theorem iX7_round_46 : DInvS mX7_round 46 mX7_power 2 49 := ⟨193, by decide +kernel, rfl, Or.inl xl_RX7_193, xt_X7_power, xm_X7_power⟩
theorem iX7_round_49 : DStI mX7_round 49 4 51 := ⟨by decide, Or.inr ⟨by decide +kernel, rfl⟩⟩
theorem iX7_round_51 : DPushI mX7_round 51 0 52 := Or.inl ⟨0, by decide +kernel, by decide, rfl⟩
theorem iX7_round_52 : DStI mX7_round 52 5 54 := ⟨by decide, Or.inr ⟨by decide +kernel, rfl⟩⟩
theorem iX7_round_54 : DPushI mX7_round 54 (-1) 55 := Or.inl ⟨(-1), by decide +kernel, by decide, rfl⟩
theorem iX7_round_55 : DStI mX7_round 55 6 57 := ⟨by decide, Or.inr ⟨by decide +kernel, rfl⟩⟩
theorem iX7_round_57 : DLdA mX7_round 57 0 58 := Or.inl ⟨0, by decide +kernel, rfl, rfl⟩
theorem iX7_round_58 : DInvV mX7_round 58 mX7_asides 7 0 61 := ⟨182, TX7, 17, by decide +kernel, rfl, rfl, xl_RX7_182, xi_X7_asides, xs_X7_asides, xm_X7_asides⟩
theorem iX7_round_61 : DPushI mX7_round 61 0 62 := Or.inl ⟨0, by decide +kernel, by decide, rfl⟩
theorem iX7_round_62 : DStI mX7_round 62 7 64 := ⟨by decide, Or.inr ⟨by decide +kernel, rfl⟩⟩
theorem iX7_round_64 : DLdI mX7_round 64 7 66 := Or.inr ⟨by decide +kernel, rfl⟩
theorem iX7_round_66 : DLdI mX7_round 66 4 68 := Or.inr ⟨by decide +kernel, rfl⟩
theorem iX7_round_68 : DCm mX7_round 68 .ge 188 71 := ⟨120, by decide +kernel, by decide, rfl⟩
theorem iX7_round_71 : DLdI mX7_round 71 4 73 := Or.inr ⟨by decide +kernel, rfl⟩
theorem iX7_round_73 : DStI mX7_round 73 8 75 := ⟨by decide, Or.inr ⟨by decide +kernel, rfl⟩⟩
theorem iX7_round_75 : DPushI mX7_round 75 0 76 := Or.inl ⟨0, by decide +kernel, by decide, rfl⟩
theorem iX7_round_76 : DStI mX7_round 76 9 78 := ⟨by decide, Or.inr ⟨by decide +kernel, rfl⟩⟩
theorem iX7_round_78 : DLdI mX7_round 78 9 80 := Or.inr ⟨by decide +kernel, rfl⟩
theorem iX7_round_80 : DLdI mX7_round 80 2 81 := Or.inl ⟨2, by decide +kernel, rfl, rfl⟩
theorem iX7_round_81 : DCm mX7_round 81 .ge 131 84 := ⟨50, by decide +kernel, by decide, rfl⟩
theorem iX7_round_84 : DLdI mX7_round 84 8 86 := Or.inr ⟨by decide +kernel, rfl⟩
theorem iX7_round_86 : DLdA mX7_round 86 0 87 := Or.inl ⟨0, by decide +kernel, rfl, rfl⟩
theorem iX7_round_87 : DGet mX7_round 87 7 0 90 := ⟨7, by decide +kernel, rfl, xf_RX7_7⟩
theorem iX7_round_90 : DPushI mX7_round 90 0 91 := Or.inl ⟨0, by decide +kernel, by decide, rfl⟩
theorem iX7_round_91 : D1 mX7_round 91 .iaload 1 92 := ⟨by decide +kernel, rfl⟩
theorem iX7_round_92 : D1 mX7_round 92 .idiv 1 93 := ⟨by decide +kernel, rfl⟩
theorem iX7_round_93 : DStI mX7_round 93 8 95 := ⟨by decide, Or.inr ⟨by decide +kernel, rfl⟩⟩
theorem iX7_round_95 : DLdA mX7_round 95 0 96 := Or.inl ⟨0, by decide +kernel, rfl, rfl⟩
theorem iX7_round_96 : DGet mX7_round 96 7 0 99 := ⟨7, by decide +kernel, rfl, xf_RX7_7⟩
theorem iX7_round_99 : DPushI mX7_round 99 27 101 := Or.inr (Or.inl ⟨27, by decide +kernel, by decide, rfl⟩)
theorem iX7_round_101 : DPushI mX7_round 101 4 102 := Or.inl ⟨4, by decide +kernel, by decide, rfl⟩
theorem iX7_round_102 : DLdI mX7_round 102 1 103 := Or.inl ⟨1, by decide +kernel, rfl, rfl⟩
theorem iX7_round_103 : D1 mX7_round 103 .imul 1 104 := ⟨by decide +kernel, rfl⟩
theorem iX7_round_104 : D1 mX7_round 104 .iadd 1 105 := ⟨by decide +kernel, rfl⟩
theorem iX7_round_105 : DPushI mX7_round 105 3 106 := Or.inl ⟨3, by decide +kernel, by decide, rfl⟩
theorem iX7_round_106 : D1 mX7_round 106 .iadd 1 107 := ⟨by decide +kernel, rfl⟩
theorem iX7_round_107 : DLdI mX7_round 107 7 109 := Or.inr ⟨by decide +kernel, rfl⟩
theorem iX7_round_109 : DLdI mX7_round 109 8 111 := Or.inr ⟨by decide +kernel, rfl⟩
theorem iX7_round_111 : D1 mX7_round 111 .idiv 1 112 := ⟨by decide +kernel, rfl⟩
theorem iX7_round_112 : DLdA mX7_round 112 0 113 := Or.inl ⟨0, by decide +kernel, rfl, rfl⟩
theorem iX7_round_113 : DGet mX7_round 113 7 0 116 := ⟨7, by decide +kernel, rfl, xf_RX7_7⟩
theorem iX7_round_116 : DPushI mX7_round 116 0 117 := Or.inl ⟨0, by decide +kernel, by decide, rfl⟩
theorem iX7_round_117 : D1 mX7_round 117 .iaload 1 118 := ⟨by decide +kernel, rfl⟩
theorem iX7_round_118 : D1 mX7_round 118 .irem 1 119 := ⟨by decide +kernel, rfl⟩
theorem iX7_round_119 : D1 mX7_round 119 .iastore 1 120 := ⟨by decide +kernel, rfl⟩
theorem iX7_round_120 : DLdA mX7_round 120 0 121 := Or.inl ⟨0, by decide +kernel, rfl, rfl⟩
theorem iX7_round_121 : DPushI mX7_round 121 0 122 := Or.inl ⟨0, by decide +kernel, by decide, rfl⟩
theorem iX7_round_122 : DInvV mX7_round 122 mX7_goesBy 7 1 125 := ⟨78, TX7, 17, by decide +kernel, rfl, rfl, xl_RX7_78, xi_X7_goesBy, xs_X7_goesBy, xm_X7_goesBy⟩
theorem iX7_round_125 : DInc mX7_round 125 9 1 128 := ⟨by decide, 1, by decide +kernel, by decide, rfl⟩
theorem iX7_round_128 : DGo mX7_round 128 78 := ⟨(-50), by decide +kernel, by decide⟩
theorem iX7_round_131 : DLdA mX7_round 131 0 132 := Or.inl ⟨0, by decide +kernel, rfl, rfl⟩
theorem iX7_round_132 : DGet mX7_round 132 7 0 135 := ⟨7, by decide +kernel, rfl, xf_RX7_7⟩
theorem iX7_round_135 : DPushI mX7_round 135 3 136 := Or.inl ⟨3, by decide +kernel, by decide, rfl⟩
theorem iX7_round_136 : D1 mX7_round 136 .iaload 1 137 := ⟨by decide +kernel, rfl⟩
theorem iX7_round_137 : DLdA mX7_round 137 0 138 := Or.inl ⟨0, by decide +kernel, rfl, rfl⟩
theorem iX7_round_138 : DGet mX7_round 138 7 9 141 := ⟨25, by decide +kernel, rfl, xf_RX7_25⟩
theorem iX7_round_141 : DPushI mX7_round 141 3 142 := Or.inl ⟨3, by decide +kernel, by decide, rfl⟩
theorem iX7_round_142 : D1 mX7_round 142 .iaload 1 143 := ⟨by decide +kernel, rfl⟩
theorem iX7_round_143 : D1 mX7_round 143 .isub 1 144 := ⟨by decide +kernel, rfl⟩
theorem iX7_round_144 : DStI mX7_round 144 9 146 := ⟨by decide, Or.inr ⟨by decide +kernel, rfl⟩⟩
theorem iX7_round_146 : DLdI mX7_round 146 9 148 := Or.inr ⟨by decide +kernel, rfl⟩
theorem iX7_round_148 : DLdI mX7_round 148 6 150 := Or.inr ⟨by decide +kernel, rfl⟩
theorem iX7_round_150 : DCm mX7_round 150 .le 158 153 := ⟨8, by decide +kernel, by decide, rfl⟩
theorem iX7_round_153 : DLdI mX7_round 153 7 155 := Or.inr ⟨by decide +kernel, rfl⟩
theorem iX7_round_155 : DGo mX7_round 155 160 := ⟨5, by decide +kernel, by decide⟩
theorem iX7_round_158 : DLdI mX7_round 158 5 160 := Or.inr ⟨by decide +kernel, rfl⟩
theorem iX7_round_160 : DStI mX7_round 160 5 162 := ⟨by decide, Or.inr ⟨by decide +kernel, rfl⟩⟩
theorem iX7_round_162 : DLdI mX7_round 162 9 164 := Or.inr ⟨by decide +kernel, rfl⟩
theorem iX7_round_164 : DLdI mX7_round 164 6 166 := Or.inr ⟨by decide +kernel, rfl⟩
theorem iX7_round_166 : DCm mX7_round 166 .le 174 169 := ⟨8, by decide +kernel, by decide, rfl⟩
theorem iX7_round_169 : DLdI mX7_round 169 9 171 := Or.inr ⟨by decide +kernel, rfl⟩
theorem iX7_round_171 : DGo mX7_round 171 176 := ⟨5, by decide +kernel, by decide⟩
theorem iX7_round_174 : DLdI mX7_round 174 6 176 := Or.inr ⟨by decide +kernel, rfl⟩
theorem iX7_round_176 : DStI mX7_round 176 6 178 := ⟨by decide, Or.inr ⟨by decide +kernel, rfl⟩⟩
theorem iX7_round_178 : DLdA mX7_round 178 0 179 := Or.inl ⟨0, by decide +kernel, rfl, rfl⟩
theorem iX7_round_179 : DInvV mX7_round 179 mX7_backs 7 0 182 := ⟨188, TX7, 17, by decide +kernel, rfl, rfl, xl_RX7_188, xi_X7_backs, xs_X7_backs, xm_X7_backs⟩
theorem iX7_round_182 : DInc mX7_round 182 7 1 185 := ⟨by decide, 1, by decide +kernel, by decide, rfl⟩
theorem iX7_round_185 : DGo mX7_round 185 64 := ⟨(-121), by decide +kernel, by decide⟩
theorem iX7_round_188 : DLdI mX7_round 188 3 189 := Or.inl ⟨3, by decide +kernel, rfl, rfl⟩
theorem iX7_round_189 : DIf mX7_round 189 .ge 197 192 := ⟨8, by decide +kernel, by decide, rfl⟩
theorem iX7_round_192 : DLdI mX7_round 192 6 194 := Or.inr ⟨by decide +kernel, rfl⟩
theorem iX7_round_194 : DGo mX7_round 194 231 := ⟨37, by decide +kernel, by decide⟩
theorem iX7_round_197 : DLdI mX7_round 197 3 198 := Or.inl ⟨3, by decide +kernel, rfl, rfl⟩
theorem iX7_round_198 : DLdI mX7_round 198 2 199 := Or.inl ⟨2, by decide +kernel, rfl, rfl⟩
theorem iX7_round_199 : DCm mX7_round 199 .lt 207 202 := ⟨8, by decide +kernel, by decide, rfl⟩
theorem iX7_round_202 : DPushI mX7_round 202 (-4) 204 := Or.inr (Or.inl ⟨(-4), by decide +kernel, by decide, rfl⟩)
theorem iX7_round_204 : DGo mX7_round 204 231 := ⟨27, by decide +kernel, by decide⟩
theorem iX7_round_207 : DLdI mX7_round 207 5 209 := Or.inr ⟨by decide +kernel, rfl⟩
theorem iX7_round_209 : DLdA mX7_round 209 0 210 := Or.inl ⟨0, by decide +kernel, rfl, rfl⟩
theorem iX7_round_210 : DGet mX7_round 210 7 0 213 := ⟨7, by decide +kernel, rfl, xf_RX7_7⟩
theorem iX7_round_213 : DPushI mX7_round 213 0 214 := Or.inl ⟨0, by decide +kernel, by decide, rfl⟩
theorem iX7_round_214 : D1 mX7_round 214 .iaload 1 215 := ⟨by decide +kernel, rfl⟩
theorem iX7_round_215 : DLdI mX7_round 215 2 216 := Or.inl ⟨2, by decide +kernel, rfl, rfl⟩
theorem iX7_round_216 : DPushI mX7_round 216 1 217 := Or.inl ⟨1, by decide +kernel, by decide, rfl⟩
theorem iX7_round_217 : D1 mX7_round 217 .isub 1 218 := ⟨by decide +kernel, rfl⟩
theorem iX7_round_218 : DLdI mX7_round 218 3 219 := Or.inl ⟨3, by decide +kernel, rfl, rfl⟩
theorem iX7_round_219 : D1 mX7_round 219 .isub 1 220 := ⟨by decide +kernel, rfl⟩
theorem iX7_round_220 : DInvS mX7_round 220 mX7_power 2 223 := ⟨193, by decide +kernel, rfl, Or.inl xl_RX7_193, xt_X7_power, xm_X7_power⟩
theorem iX7_round_223 : D1 mX7_round 223 .idiv 1 224 := ⟨by decide +kernel, rfl⟩
theorem iX7_round_224 : DLdA mX7_round 224 0 225 := Or.inl ⟨0, by decide +kernel, rfl, rfl⟩
theorem iX7_round_225 : DGet mX7_round 225 7 0 228 := ⟨7, by decide +kernel, rfl, xf_RX7_7⟩
theorem iX7_round_228 : DPushI mX7_round 228 0 229 := Or.inl ⟨0, by decide +kernel, by decide, rfl⟩
theorem iX7_round_229 : D1 mX7_round 229 .iaload 1 230 := ⟨by decide +kernel, rfl⟩
theorem iX7_round_230 : D1 mX7_round 230 .irem 1 231 := ⟨by decide +kernel, rfl⟩
theorem iX7_round_231 : mX7_round.2.2.2 = some .int ∧ decode mX7_round.2.1 231 = .ok (.ireturn, 1) := ⟨rfl, by decide +kernel⟩
theorem iX7_rule_0 : DLdI mX7_rule 0 1 1 := Or.inl ⟨1, by decide +kernel, rfl, rfl⟩
theorem iX7_rule_1 : DIf mX7_rule 1 .ne 19 4 := ⟨18, by decide +kernel, by decide, rfl⟩
theorem iX7_rule_4 : DLdI mX7_rule 4 2 5 := Or.inl ⟨2, by decide +kernel, rfl, rfl⟩
theorem iX7_rule_5 : D1 mX7_rule 5 .i2l 1 6 := ⟨by decide +kernel, rfl⟩
theorem iX7_rule_6 : DPushL mX7_rule 6 1 7 := Or.inl ⟨1, by decide +kernel, by decide, rfl⟩
theorem iX7_rule_7 : DPushL mX7_rule 7 30 10 := Or.inr ⟨117, by decide +kernel, bigW_at 765 (by decide +kernel) rfl, rfl⟩
theorem iX7_rule_10 : DInvS mX7_rule 10 mX7_in 3 13 := ⟨44, by decide +kernel, rfl, Or.inl xl_RX7_44, xt_X7_in, xm_X7_in⟩
theorem iX7_rule_13 : DIf mX7_rule 13 .ne 38 16 := ⟨25, by decide +kernel, by decide, rfl⟩
theorem iX7_rule_16 : DGo mX7_rule 16 36 := ⟨20, by decide +kernel, by decide⟩
theorem iX7_rule_19 : DLdI mX7_rule 19 1 20 := Or.inl ⟨1, by decide +kernel, rfl, rfl⟩
theorem iX7_rule_20 : DPushI mX7_rule 20 1 21 := Or.inl ⟨1, by decide +kernel, by decide, rfl⟩
theorem iX7_rule_21 : DCm mX7_rule 21 .ne 36 24 := ⟨15, by decide +kernel, by decide, rfl⟩
theorem iX7_rule_24 : DLdI mX7_rule 24 2 25 := Or.inl ⟨2, by decide +kernel, rfl, rfl⟩
theorem iX7_rule_25 : D1 mX7_rule 25 .i2l 1 26 := ⟨by decide +kernel, rfl⟩
theorem iX7_rule_26 : DPushL mX7_rule 26 0 27 := Or.inl ⟨0, by decide +kernel, by decide, rfl⟩
theorem iX7_rule_27 : DPushL mX7_rule 27 9 30 := Or.inr ⟨96, by decide +kernel, bigW_at 712 (by decide +kernel) rfl, rfl⟩
theorem iX7_rule_30 : DInvS mX7_rule 30 mX7_in 3 33 := ⟨44, by decide +kernel, rfl, Or.inl xl_RX7_44, xt_X7_in, xm_X7_in⟩
theorem iX7_rule_33 : DIf mX7_rule 33 .ne 38 36 := ⟨5, by decide +kernel, by decide, rfl⟩
theorem iX7_rule_36 : DPushI mX7_rule 36 (-1) 37 := Or.inl ⟨(-1), by decide +kernel, by decide, rfl⟩
theorem iX7_rule_37 : mX7_rule.2.2.2 = some .int ∧ decode mX7_rule.2.1 37 = .ok (.ireturn, 1) := ⟨rfl, by decide +kernel⟩
theorem iX7_rule_38 : DLdA mX7_rule 38 0 39 := Or.inl ⟨0, by decide +kernel, rfl, rfl⟩
theorem iX7_rule_39 : DGet mX7_rule 39 7 0 42 := ⟨7, by decide +kernel, rfl, xf_RX7_7⟩
theorem iX7_rule_42 : DPushI mX7_rule 42 6 44 := Or.inr (Or.inl ⟨6, by decide +kernel, by decide, rfl⟩)
theorem iX7_rule_44 : DLdI mX7_rule 44 1 45 := Or.inl ⟨1, by decide +kernel, rfl, rfl⟩
theorem iX7_rule_45 : D1 mX7_rule 45 .iadd 1 46 := ⟨by decide +kernel, rfl⟩
theorem iX7_rule_46 : D1 mX7_rule 46 .iaload 1 47 := ⟨by decide +kernel, rfl⟩
theorem iX7_rule_47 : DStI mX7_rule 47 3 48 := ⟨by decide, Or.inl ⟨3, by decide +kernel, rfl, rfl⟩⟩
theorem iX7_rule_48 : DLdA mX7_rule 48 0 49 := Or.inl ⟨0, by decide +kernel, rfl, rfl⟩
theorem iX7_rule_49 : DGet mX7_rule 49 7 0 52 := ⟨7, by decide +kernel, rfl, xf_RX7_7⟩
theorem iX7_rule_52 : DPushI mX7_rule 52 6 54 := Or.inr (Or.inl ⟨6, by decide +kernel, by decide, rfl⟩)
theorem iX7_rule_54 : DLdI mX7_rule 54 1 55 := Or.inl ⟨1, by decide +kernel, rfl, rfl⟩
theorem iX7_rule_55 : D1 mX7_rule 55 .iadd 1 56 := ⟨by decide +kernel, rfl⟩
theorem iX7_rule_56 : DLdI mX7_rule 56 2 57 := Or.inl ⟨2, by decide +kernel, rfl, rfl⟩
theorem iX7_rule_57 : D1 mX7_rule 57 .iastore 1 58 := ⟨by decide +kernel, rfl⟩
theorem iX7_rule_58 : DLdI mX7_rule 58 3 59 := Or.inl ⟨3, by decide +kernel, rfl, rfl⟩
theorem iX7_rule_59 : mX7_rule.2.2.2 = some .int ∧ decode mX7_rule.2.1 59 = .ok (.ireturn, 1) := ⟨rfl, by decide +kernel⟩
theorem iX7_seed_0 : DLdI mX7_seed 0 1 1 := Or.inl ⟨1, by decide +kernel, rfl, rfl⟩
theorem iX7_seed_1 : DIf mX7_seed 1 .ge 6 4 := ⟨5, by decide +kernel, by decide, rfl⟩
theorem iX7_seed_4 : DPushI mX7_seed 4 (-1) 5 := Or.inl ⟨(-1), by decide +kernel, by decide, rfl⟩
theorem iX7_seed_5 : mX7_seed.2.2.2 = some .int ∧ decode mX7_seed.2.1 5 = .ok (.ireturn, 1) := ⟨rfl, by decide +kernel⟩
theorem iX7_seed_6 : DLdA mX7_seed 6 0 7 := Or.inl ⟨0, by decide +kernel, rfl, rfl⟩
theorem iX7_seed_7 : DGet mX7_seed 7 7 0 10 := ⟨7, by decide +kernel, rfl, xf_RX7_7⟩
theorem iX7_seed_10 : DPushI mX7_seed 10 8 12 := Or.inr (Or.inl ⟨8, by decide +kernel, by decide, rfl⟩)
theorem iX7_seed_12 : D1 mX7_seed 12 .iaload 1 13 := ⟨by decide +kernel, rfl⟩
theorem iX7_seed_13 : DStI mX7_seed 13 2 14 := ⟨by decide, Or.inl ⟨2, by decide +kernel, rfl, rfl⟩⟩
theorem iX7_seed_14 : DLdA mX7_seed 14 0 15 := Or.inl ⟨0, by decide +kernel, rfl, rfl⟩
theorem iX7_seed_15 : DGet mX7_seed 15 7 0 18 := ⟨7, by decide +kernel, rfl, xf_RX7_7⟩
theorem iX7_seed_18 : DPushI mX7_seed 18 8 20 := Or.inr (Or.inl ⟨8, by decide +kernel, by decide, rfl⟩)
theorem iX7_seed_20 : DLdI mX7_seed 20 1 21 := Or.inl ⟨1, by decide +kernel, rfl, rfl⟩
theorem iX7_seed_21 : D1 mX7_seed 21 .iastore 1 22 := ⟨by decide +kernel, rfl⟩
theorem iX7_seed_22 : DLdI mX7_seed 22 2 23 := Or.inl ⟨2, by decide +kernel, rfl, rfl⟩
theorem iX7_seed_23 : mX7_seed.2.2.2 = some .int ∧ decode mX7_seed.2.1 23 = .ok (.ireturn, 1) := ⟨rfl, by decide +kernel⟩
theorem iX7_shake_0 : DLdA mX7_shake 0 0 1 := Or.inl ⟨0, by decide +kernel, rfl, rfl⟩
theorem iX7_shake_1 : DLdI mX7_shake 1 1 2 := Or.inl ⟨1, by decide +kernel, rfl, rfl⟩
theorem iX7_shake_2 : DInvV mX7_shake 2 mX7_isTree 7 1 5 := ⟨102, TX7, 17, by decide +kernel, rfl, rfl, xl_RX7_102, xi_X7_isTree, xs_X7_isTree, xm_X7_isTree⟩
theorem iX7_shake_5 : DIf mX7_shake 5 .ne 10 8 := ⟨5, by decide +kernel, by decide, rfl⟩
theorem iX7_shake_8 : DPushI mX7_shake 8 (-1) 9 := Or.inl ⟨(-1), by decide +kernel, by decide, rfl⟩
theorem iX7_shake_9 : mX7_shake.2.2.2 = some .int ∧ decode mX7_shake.2.1 9 = .ok (.ireturn, 1) := ⟨rfl, by decide +kernel⟩
theorem iX7_shake_10 : DLdA mX7_shake 10 0 11 := Or.inl ⟨0, by decide +kernel, rfl, rfl⟩
theorem iX7_shake_11 : DLdI mX7_shake 11 1 12 := Or.inl ⟨1, by decide +kernel, rfl, rfl⟩
theorem iX7_shake_12 : DPushI mX7_shake 12 1 13 := Or.inl ⟨1, by decide +kernel, by decide, rfl⟩
theorem iX7_shake_13 : DInvV mX7_shake 13 mX7_ofTree 7 2 16 := ⟨56, TX7, 17, by decide +kernel, rfl, rfl, xl_RX7_56, xi_X7_ofTree, xs_X7_ofTree, xm_X7_ofTree⟩
theorem iX7_shake_16 : DIf mX7_shake 16 .ne 22 19 := ⟨6, by decide +kernel, by decide, rfl⟩
theorem iX7_shake_19 : DPushI mX7_shake 19 (-2) 21 := Or.inr (Or.inl ⟨(-2), by decide +kernel, by decide, rfl⟩)
theorem iX7_shake_21 : mX7_shake.2.2.2 = some .int ∧ decode mX7_shake.2.1 21 = .ok (.ireturn, 1) := ⟨rfl, by decide +kernel⟩
theorem iX7_shake_22 : DLdA mX7_shake 22 0 23 := Or.inl ⟨0, by decide +kernel, rfl, rfl⟩
theorem iX7_shake_23 : DInvV mX7_shake 23 mX7_notes 7 0 26 := ⟨165, TX7, 17, by decide +kernel, rfl, rfl, xl_RX7_165, xi_X7_notes, xs_X7_notes, xm_X7_notes⟩
theorem iX7_shake_26 : DLdA mX7_shake 26 0 27 := Or.inl ⟨0, by decide +kernel, rfl, rfl⟩
theorem iX7_shake_27 : DLdI mX7_shake 27 1 28 := Or.inl ⟨1, by decide +kernel, rfl, rfl⟩
theorem iX7_shake_28 : DInvV mX7_shake 28 mX7_shakes 7 1 31 := ⟨168, TX7, 17, by decide +kernel, rfl, rfl, xl_RX7_168, xi_X7_shakes, xs_X7_shakes, xm_X7_shakes⟩
theorem iX7_shake_31 : mX7_shake.2.2.2 = some .int ∧ decode mX7_shake.2.1 31 = .ok (.ireturn, 1) := ⟨rfl, by decide +kernel⟩
theorem iX7_shakes_0 : DLdA mX7_shakes 0 0 1 := Or.inl ⟨0, by decide +kernel, rfl, rfl⟩
theorem iX7_shakes_1 : DLdI mX7_shakes 1 1 2 := Or.inl ⟨1, by decide +kernel, rfl, rfl⟩
theorem iX7_shakes_2 : DPushI mX7_shakes 2 1 3 := Or.inl ⟨1, by decide +kernel, by decide, rfl⟩
theorem iX7_shakes_3 : DInvV mX7_shakes 3 mX7_ofTree 7 2 6 := ⟨56, TX7, 17, by decide +kernel, rfl, rfl, xl_RX7_56, xi_X7_ofTree, xs_X7_ofTree, xm_X7_ofTree⟩
theorem iX7_shakes_6 : DPushI mX7_shakes 6 2 7 := Or.inl ⟨2, by decide +kernel, by decide, rfl⟩
theorem iX7_shakes_7 : D1 mX7_shakes 7 .idiv 1 8 := ⟨by decide +kernel, rfl⟩
theorem iX7_shakes_8 : DStI mX7_shakes 8 2 9 := ⟨by decide, Or.inl ⟨2, by decide +kernel, rfl, rfl⟩⟩
theorem iX7_shakes_9 : DLdA mX7_shakes 9 0 10 := Or.inl ⟨0, by decide +kernel, rfl, rfl⟩
theorem iX7_shakes_10 : DLdI mX7_shakes 10 1 11 := Or.inl ⟨1, by decide +kernel, rfl, rfl⟩
theorem iX7_shakes_11 : DLdI mX7_shakes 11 2 12 := Or.inl ⟨2, by decide +kernel, rfl, rfl⟩
theorem iX7_shakes_12 : DInvV mX7_shakes 12 mX7_takes 7 2 15 := ⟨74, TX7, 17, by decide +kernel, rfl, rfl, xl_RX7_74, xi_X7_takes, xs_X7_takes, xm_X7_takes⟩
theorem iX7_shakes_15 : DLdA mX7_shakes 15 0 16 := Or.inl ⟨0, by decide +kernel, rfl, rfl⟩
theorem iX7_shakes_16 : DGet mX7_shakes 16 7 0 19 := ⟨7, by decide +kernel, rfl, xf_RX7_7⟩
theorem iX7_shakes_19 : DPushI mX7_shakes 19 5 20 := Or.inl ⟨5, by decide +kernel, by decide, rfl⟩
theorem iX7_shakes_20 : D1 mX7_shakes 20 .dup2 1 21 := ⟨by decide +kernel, rfl⟩
theorem iX7_shakes_21 : D1 mX7_shakes 21 .iaload 1 22 := ⟨by decide +kernel, rfl⟩
theorem iX7_shakes_22 : DLdI mX7_shakes 22 2 23 := Or.inl ⟨2, by decide +kernel, rfl, rfl⟩
theorem iX7_shakes_23 : D1 mX7_shakes 23 .iadd 1 24 := ⟨by decide +kernel, rfl⟩
theorem iX7_shakes_24 : D1 mX7_shakes 24 .iastore 1 25 := ⟨by decide +kernel, rfl⟩
theorem iX7_shakes_25 : DLdI mX7_shakes 25 2 26 := Or.inl ⟨2, by decide +kernel, rfl, rfl⟩
theorem iX7_shakes_26 : mX7_shakes.2.2.2 = some .int ∧ decode mX7_shakes.2.1 26 = .ok (.ireturn, 1) := ⟨rfl, by decide +kernel⟩
theorem iX7_sheet_0 : DLdI mX7_sheet 0 1 1 := Or.inl ⟨1, by decide +kernel, rfl, rfl⟩
theorem iX7_sheet_1 : DInvS mX7_sheet 1 mX7_isSheet 1 4 := ⟨210, by decide +kernel, rfl, Or.inl xl_RX7_210, xt_X7_isSheet, xm_X7_isSheet⟩
theorem iX7_sheet_4 : DIf mX7_sheet 4 .eq 20 7 := ⟨16, by decide +kernel, by decide, rfl⟩
theorem iX7_sheet_7 : DLdI mX7_sheet 7 2 8 := Or.inl ⟨2, by decide +kernel, rfl, rfl⟩
theorem iX7_sheet_8 : DInvS mX7_sheet 8 mX7_isLane 1 11 := ⟨213, by decide +kernel, rfl, Or.inl xl_RX7_213, xt_X7_isLane, xm_X7_isLane⟩
theorem iX7_sheet_11 : DIf mX7_sheet 11 .eq 20 14 := ⟨9, by decide +kernel, by decide, rfl⟩
theorem iX7_sheet_14 : DLdI mX7_sheet 14 3 15 := Or.inl ⟨3, by decide +kernel, rfl, rfl⟩
theorem iX7_sheet_15 : DPushI mX7_sheet 15 24 17 := Or.inr (Or.inl ⟨24, by decide +kernel, by decide, rfl⟩)
theorem iX7_sheet_17 : DCm mX7_sheet 17 .le 22 20 := ⟨5, by decide +kernel, by decide, rfl⟩
theorem iX7_sheet_20 : DPushI mX7_sheet 20 (-1) 21 := Or.inl ⟨(-1), by decide +kernel, by decide, rfl⟩
theorem iX7_sheet_21 : mX7_sheet.2.2.2 = some .int ∧ decode mX7_sheet.2.1 21 = .ok (.ireturn, 1) := ⟨rfl, by decide +kernel⟩
theorem iX7_sheet_22 : DLdI mX7_sheet 22 3 23 := Or.inl ⟨3, by decide +kernel, rfl, rfl⟩
theorem iX7_sheet_23 : DIf mX7_sheet 23 .ge 29 26 := ⟨6, by decide +kernel, by decide, rfl⟩
theorem iX7_sheet_26 : DPushI mX7_sheet 26 (-14) 28 := Or.inr (Or.inl ⟨(-14), by decide +kernel, by decide, rfl⟩)
theorem iX7_sheet_28 : mX7_sheet.2.2.2 = some .int ∧ decode mX7_sheet.2.1 28 = .ok (.ireturn, 1) := ⟨rfl, by decide +kernel⟩
theorem iX7_sheet_29 : DLdA mX7_sheet 29 0 30 := Or.inl ⟨0, by decide +kernel, rfl, rfl⟩
theorem iX7_sheet_30 : DGet mX7_sheet 30 7 13 33 := ⟨31, by decide +kernel, rfl, xf_RX7_31⟩
theorem iX7_sheet_33 : DLdI mX7_sheet 33 1 34 := Or.inl ⟨1, by decide +kernel, rfl, rfl⟩
theorem iX7_sheet_34 : DLdI mX7_sheet 34 2 35 := Or.inl ⟨2, by decide +kernel, rfl, rfl⟩
theorem iX7_sheet_35 : D1 mX7_sheet 35 .iastore 1 36 := ⟨by decide +kernel, rfl⟩
theorem iX7_sheet_36 : DLdA mX7_sheet 36 0 37 := Or.inl ⟨0, by decide +kernel, rfl, rfl⟩
theorem iX7_sheet_37 : DGet mX7_sheet 37 7 14 40 := ⟨34, by decide +kernel, rfl, xf_RX7_34⟩
theorem iX7_sheet_40 : DLdI mX7_sheet 40 1 41 := Or.inl ⟨1, by decide +kernel, rfl, rfl⟩
theorem iX7_sheet_41 : DLdI mX7_sheet 41 3 42 := Or.inl ⟨3, by decide +kernel, rfl, rfl⟩
theorem iX7_sheet_42 : D1 mX7_sheet 42 .iastore 1 43 := ⟨by decide +kernel, rfl⟩
theorem iX7_sheet_43 : DPushI mX7_sheet 43 0 44 := Or.inl ⟨0, by decide +kernel, by decide, rfl⟩
theorem iX7_sheet_44 : DStI mX7_sheet 44 4 46 := ⟨by decide, Or.inr ⟨by decide +kernel, rfl⟩⟩
theorem iX7_sheet_46 : DLdI mX7_sheet 46 4 48 := Or.inr ⟨by decide +kernel, rfl⟩
theorem iX7_sheet_48 : DPushI mX7_sheet 48 24 50 := Or.inr (Or.inl ⟨24, by decide +kernel, by decide, rfl⟩)
theorem iX7_sheet_50 : DCm mX7_sheet 50 .ge 72 53 := ⟨22, by decide +kernel, by decide, rfl⟩
theorem iX7_sheet_53 : DLdA mX7_sheet 53 0 54 := Or.inl ⟨0, by decide +kernel, rfl, rfl⟩
theorem iX7_sheet_54 : DGet mX7_sheet 54 7 15 57 := ⟨37, by decide +kernel, rfl, xf_RX7_37⟩
theorem iX7_sheet_57 : DPushI mX7_sheet 57 24 59 := Or.inr (Or.inl ⟨24, by decide +kernel, by decide, rfl⟩)
theorem iX7_sheet_59 : DLdI mX7_sheet 59 1 60 := Or.inl ⟨1, by decide +kernel, rfl, rfl⟩
theorem iX7_sheet_60 : D1 mX7_sheet 60 .imul 1 61 := ⟨by decide +kernel, rfl⟩
theorem iX7_sheet_61 : DLdI mX7_sheet 61 4 63 := Or.inr ⟨by decide +kernel, rfl⟩
theorem iX7_sheet_63 : D1 mX7_sheet 63 .iadd 1 64 := ⟨by decide +kernel, rfl⟩
theorem iX7_sheet_64 : DPushL mX7_sheet 64 0 65 := Or.inl ⟨0, by decide +kernel, by decide, rfl⟩
theorem iX7_sheet_65 : D1 mX7_sheet 65 .lastore 1 66 := ⟨by decide +kernel, rfl⟩
theorem iX7_sheet_66 : DInc mX7_sheet 66 4 1 69 := ⟨by decide, 1, by decide +kernel, by decide, rfl⟩
theorem iX7_sheet_69 : DGo mX7_sheet 69 46 := ⟨(-23), by decide +kernel, by decide⟩
theorem iX7_sheet_72 : DLdI mX7_sheet 72 3 73 := Or.inl ⟨3, by decide +kernel, rfl, rfl⟩
theorem iX7_sheet_73 : mX7_sheet.2.2.2 = some .int ∧ decode mX7_sheet.2.1 73 = .ok (.ireturn, 1) := ⟨rfl, by decide +kernel⟩
theorem iX7_sign_0 : DLdA mX7_sign 0 0 1 := Or.inl ⟨0, by decide +kernel, rfl, rfl⟩
theorem iX7_sign_1 : DLdA mX7_sign 1 0 2 := Or.inl ⟨0, by decide +kernel, rfl, rfl⟩
theorem iX7_sign_2 : DGet mX7_sign 2 7 4 5 := ⟨133, by decide +kernel, rfl, xf_RX7_133⟩
theorem iX7_sign_5 : DIf mX7_sign 5 .ne 20 8 := ⟨15, by decide +kernel, by decide, rfl⟩
theorem iX7_sign_8 : DLdA mX7_sign 8 0 9 := Or.inl ⟨0, by decide +kernel, rfl, rfl⟩
theorem iX7_sign_9 : DInvV mX7_sign 9 mX7_here 7 0 12 := ⟨137, TX7, 17, by decide +kernel, rfl, rfl, xl_RX7_137, xi_X7_here, xs_X7_here, xm_X7_here⟩
theorem iX7_sign_12 : DLdI mX7_sign 12 1 13 := Or.inl ⟨1, by decide +kernel, rfl, rfl⟩
theorem iX7_sign_13 : DCm mX7_sign 13 .ne 20 16 := ⟨7, by decide +kernel, by decide, rfl⟩
theorem iX7_sign_16 : DPushI mX7_sign 16 1 17 := Or.inl ⟨1, by decide +kernel, by decide, rfl⟩
theorem iX7_sign_17 : DGo mX7_sign 17 21 := ⟨4, by decide +kernel, by decide⟩
theorem iX7_sign_20 : DPushI mX7_sign 20 0 21 := Or.inl ⟨0, by decide +kernel, by decide, rfl⟩
theorem iX7_sign_21 : DInvV mX7_sign 21 mX7_must 7 1 24 := ⟨140, TX7, 17, by decide +kernel, rfl, rfl, xl_RX7_140, xi_X7_must, xs_X7_must, xm_X7_must⟩
theorem iX7_sign_24 : mX7_sign.2.2.2 = none ∧ decode mX7_sign.2.1 24 = .ok (.return_, 1) := ⟨rfl, by decide +kernel⟩
theorem iX7_takes_0 : DLdA mX7_takes 0 0 1 := Or.inl ⟨0, by decide +kernel, rfl, rfl⟩
theorem iX7_takes_1 : DGet mX7_takes 1 7 0 4 := ⟨7, by decide +kernel, rfl, xf_RX7_7⟩
theorem iX7_takes_4 : DPushI mX7_takes 4 9 6 := Or.inr (Or.inl ⟨9, by decide +kernel, by decide, rfl⟩)
theorem iX7_takes_6 : DPushI mX7_takes 6 3 7 := Or.inl ⟨3, by decide +kernel, by decide, rfl⟩
theorem iX7_takes_7 : DLdI mX7_takes 7 1 8 := Or.inl ⟨1, by decide +kernel, rfl, rfl⟩
theorem iX7_takes_8 : D1 mX7_takes 8 .imul 1 9 := ⟨by decide +kernel, rfl⟩
theorem iX7_takes_9 : D1 mX7_takes 9 .iadd 1 10 := ⟨by decide +kernel, rfl⟩
theorem iX7_takes_10 : DPushI mX7_takes 10 1 11 := Or.inl ⟨1, by decide +kernel, by decide, rfl⟩
theorem iX7_takes_11 : D1 mX7_takes 11 .iadd 1 12 := ⟨by decide +kernel, rfl⟩
theorem iX7_takes_12 : D1 mX7_takes 12 .dup2 1 13 := ⟨by decide +kernel, rfl⟩
theorem iX7_takes_13 : D1 mX7_takes 13 .iaload 1 14 := ⟨by decide +kernel, rfl⟩
theorem iX7_takes_14 : DLdI mX7_takes 14 2 15 := Or.inl ⟨2, by decide +kernel, rfl, rfl⟩
theorem iX7_takes_15 : D1 mX7_takes 15 .isub 1 16 := ⟨by decide +kernel, rfl⟩
theorem iX7_takes_16 : D1 mX7_takes 16 .iastore 1 17 := ⟨by decide +kernel, rfl⟩
theorem iX7_takes_17 : mX7_takes.2.2.2 = none ∧ decode mX7_takes.2.1 17 = .ok (.return_, 1) := ⟨rfl, by decide +kernel⟩
theorem iX7_tree_0 : DLdI mX7_tree 0 1 1 := Or.inl ⟨1, by decide +kernel, rfl, rfl⟩
theorem iX7_tree_1 : D1 mX7_tree 1 .i2l 1 2 := ⟨by decide +kernel, rfl⟩
theorem iX7_tree_2 : DPushL mX7_tree 2 1 3 := Or.inl ⟨1, by decide +kernel, by decide, rfl⟩
theorem iX7_tree_3 : DPushL mX7_tree 3 20 6 := Or.inr ⟨86, by decide +kernel, bigW_at 698 (by decide +kernel) rfl, rfl⟩
theorem iX7_tree_6 : DInvS mX7_tree 6 mX7_in 3 9 := ⟨44, by decide +kernel, rfl, Or.inl xl_RX7_44, xt_X7_in, xm_X7_in⟩
theorem iX7_tree_9 : DIf mX7_tree 9 .eq 36 12 := ⟨27, by decide +kernel, by decide, rfl⟩
theorem iX7_tree_12 : DLdI mX7_tree 12 2 13 := Or.inl ⟨2, by decide +kernel, rfl, rfl⟩
theorem iX7_tree_13 : D1 mX7_tree 13 .i2l 1 14 := ⟨by decide +kernel, rfl⟩
theorem iX7_tree_14 : DPushL mX7_tree 14 0 15 := Or.inl ⟨0, by decide +kernel, by decide, rfl⟩
theorem iX7_tree_15 : DPushL mX7_tree 15 99 18 := Or.inr ⟨88, by decide +kernel, bigW_at 702 (by decide +kernel) rfl, rfl⟩
theorem iX7_tree_18 : DInvS mX7_tree 18 mX7_in 3 21 := ⟨44, by decide +kernel, rfl, Or.inl xl_RX7_44, xt_X7_in, xm_X7_in⟩
theorem iX7_tree_21 : DIf mX7_tree 21 .eq 36 24 := ⟨15, by decide +kernel, by decide, rfl⟩
theorem iX7_tree_24 : DLdI mX7_tree 24 3 25 := Or.inl ⟨3, by decide +kernel, rfl, rfl⟩
theorem iX7_tree_25 : D1 mX7_tree 25 .i2l 1 26 := ⟨by decide +kernel, rfl⟩
theorem iX7_tree_26 : DPushL mX7_tree 26 0 27 := Or.inl ⟨0, by decide +kernel, by decide, rfl⟩
theorem iX7_tree_27 : DPushL mX7_tree 27 99 30 := Or.inr ⟨88, by decide +kernel, bigW_at 702 (by decide +kernel) rfl, rfl⟩
theorem iX7_tree_30 : DInvS mX7_tree 30 mX7_in 3 33 := ⟨44, by decide +kernel, rfl, Or.inl xl_RX7_44, xt_X7_in, xm_X7_in⟩
theorem iX7_tree_33 : DIf mX7_tree 33 .ne 38 36 := ⟨5, by decide +kernel, by decide, rfl⟩
theorem iX7_tree_36 : DPushI mX7_tree 36 (-1) 37 := Or.inl ⟨(-1), by decide +kernel, by decide, rfl⟩
theorem iX7_tree_37 : mX7_tree.2.2.2 = some .int ∧ decode mX7_tree.2.1 37 = .ok (.ireturn, 1) := ⟨rfl, by decide +kernel⟩
theorem iX7_tree_38 : DLdA mX7_tree 38 0 39 := Or.inl ⟨0, by decide +kernel, rfl, rfl⟩
theorem iX7_tree_39 : DGet mX7_tree 39 7 0 42 := ⟨7, by decide +kernel, rfl, xf_RX7_7⟩
theorem iX7_tree_42 : DPushI mX7_tree 42 0 43 := Or.inl ⟨0, by decide +kernel, by decide, rfl⟩
theorem iX7_tree_43 : D1 mX7_tree 43 .iaload 1 44 := ⟨by decide +kernel, rfl⟩
theorem iX7_tree_44 : DPushI mX7_tree 44 6 46 := Or.inr (Or.inl ⟨6, by decide +kernel, by decide, rfl⟩)
theorem iX7_tree_46 : DCm mX7_tree 46 .ne 52 49 := ⟨6, by decide +kernel, by decide, rfl⟩
theorem iX7_tree_49 : DPushI mX7_tree 49 (-3) 51 := Or.inr (Or.inl ⟨(-3), by decide +kernel, by decide, rfl⟩)
theorem iX7_tree_51 : mX7_tree.2.2.2 = some .int ∧ decode mX7_tree.2.1 51 = .ok (.ireturn, 1) := ⟨rfl, by decide +kernel⟩
theorem iX7_tree_52 : DLdA mX7_tree 52 0 53 := Or.inl ⟨0, by decide +kernel, rfl, rfl⟩
theorem iX7_tree_53 : DLdI mX7_tree 53 1 54 := Or.inl ⟨1, by decide +kernel, rfl, rfl⟩
theorem iX7_tree_54 : DLdI mX7_tree 54 2 55 := Or.inl ⟨2, by decide +kernel, rfl, rfl⟩
theorem iX7_tree_55 : DLdI mX7_tree 55 3 56 := Or.inl ⟨3, by decide +kernel, rfl, rfl⟩
theorem iX7_tree_56 : DInvV mX7_tree 56 mX7_treeComes 7 3 59 := ⟨90, TX7, 17, by decide +kernel, rfl, rfl, xl_RX7_90, xi_X7_treeComes, xs_X7_treeComes, xm_X7_treeComes⟩
theorem iX7_tree_59 : DLdA mX7_tree 59 0 60 := Or.inl ⟨0, by decide +kernel, rfl, rfl⟩
theorem iX7_tree_60 : DGet mX7_tree 60 7 0 63 := ⟨7, by decide +kernel, rfl, xf_RX7_7⟩
theorem iX7_tree_63 : DPushI mX7_tree 63 0 64 := Or.inl ⟨0, by decide +kernel, by decide, rfl⟩
theorem iX7_tree_64 : D1 mX7_tree 64 .iaload 1 65 := ⟨by decide +kernel, rfl⟩
theorem iX7_tree_65 : DPushI mX7_tree 65 1 66 := Or.inl ⟨1, by decide +kernel, by decide, rfl⟩
theorem iX7_tree_66 : D1 mX7_tree 66 .isub 1 67 := ⟨by decide +kernel, rfl⟩
theorem iX7_tree_67 : mX7_tree.2.2.2 = some .int ∧ decode mX7_tree.2.1 67 = .ok (.ireturn, 1) := ⟨rfl, by decide +kernel⟩
theorem iX7_treeComes_0 : DPushI mX7_treeComes 0 9 2 := Or.inr (Or.inl ⟨9, by decide +kernel, by decide, rfl⟩)
theorem iX7_treeComes_2 : DPushI mX7_treeComes 2 3 3 := Or.inl ⟨3, by decide +kernel, by decide, rfl⟩
theorem iX7_treeComes_3 : DLdA mX7_treeComes 3 0 4 := Or.inl ⟨0, by decide +kernel, rfl, rfl⟩
theorem iX7_treeComes_4 : DGet mX7_treeComes 4 7 0 7 := ⟨7, by decide +kernel, rfl, xf_RX7_7⟩
theorem iX7_treeComes_7 : DPushI mX7_treeComes 7 0 8 := Or.inl ⟨0, by decide +kernel, by decide, rfl⟩
theorem iX7_treeComes_8 : D1 mX7_treeComes 8 .iaload 1 9 := ⟨by decide +kernel, rfl⟩
theorem iX7_treeComes_9 : D1 mX7_treeComes 9 .imul 1 10 := ⟨by decide +kernel, rfl⟩
theorem iX7_treeComes_10 : D1 mX7_treeComes 10 .iadd 1 11 := ⟨by decide +kernel, rfl⟩
theorem iX7_treeComes_11 : DStI mX7_treeComes 11 4 13 := ⟨by decide, Or.inr ⟨by decide +kernel, rfl⟩⟩
theorem iX7_treeComes_13 : DLdA mX7_treeComes 13 0 14 := Or.inl ⟨0, by decide +kernel, rfl, rfl⟩
theorem iX7_treeComes_14 : DGet mX7_treeComes 14 7 0 17 := ⟨7, by decide +kernel, rfl, xf_RX7_7⟩
theorem iX7_treeComes_17 : DLdI mX7_treeComes 17 4 19 := Or.inr ⟨by decide +kernel, rfl⟩
theorem iX7_treeComes_19 : DLdI mX7_treeComes 19 1 20 := Or.inl ⟨1, by decide +kernel, rfl, rfl⟩
theorem iX7_treeComes_20 : D1 mX7_treeComes 20 .iastore 1 21 := ⟨by decide +kernel, rfl⟩
theorem iX7_treeComes_21 : DLdA mX7_treeComes 21 0 22 := Or.inl ⟨0, by decide +kernel, rfl, rfl⟩
theorem iX7_treeComes_22 : DGet mX7_treeComes 22 7 0 25 := ⟨7, by decide +kernel, rfl, xf_RX7_7⟩
theorem iX7_treeComes_25 : DLdI mX7_treeComes 25 4 27 := Or.inr ⟨by decide +kernel, rfl⟩
theorem iX7_treeComes_27 : DPushI mX7_treeComes 27 1 28 := Or.inl ⟨1, by decide +kernel, by decide, rfl⟩
theorem iX7_treeComes_28 : D1 mX7_treeComes 28 .iadd 1 29 := ⟨by decide +kernel, rfl⟩
theorem iX7_treeComes_29 : DLdI mX7_treeComes 29 2 30 := Or.inl ⟨2, by decide +kernel, rfl, rfl⟩
theorem iX7_treeComes_30 : D1 mX7_treeComes 30 .iastore 1 31 := ⟨by decide +kernel, rfl⟩
theorem iX7_treeComes_31 : DLdA mX7_treeComes 31 0 32 := Or.inl ⟨0, by decide +kernel, rfl, rfl⟩
theorem iX7_treeComes_32 : DGet mX7_treeComes 32 7 0 35 := ⟨7, by decide +kernel, rfl, xf_RX7_7⟩
theorem iX7_treeComes_35 : DLdI mX7_treeComes 35 4 37 := Or.inr ⟨by decide +kernel, rfl⟩
theorem iX7_treeComes_37 : DPushI mX7_treeComes 37 2 38 := Or.inl ⟨2, by decide +kernel, by decide, rfl⟩
theorem iX7_treeComes_38 : D1 mX7_treeComes 38 .iadd 1 39 := ⟨by decide +kernel, rfl⟩
theorem iX7_treeComes_39 : DLdI mX7_treeComes 39 3 40 := Or.inl ⟨3, by decide +kernel, rfl, rfl⟩
theorem iX7_treeComes_40 : D1 mX7_treeComes 40 .iastore 1 41 := ⟨by decide +kernel, rfl⟩
theorem iX7_treeComes_41 : DLdA mX7_treeComes 41 0 42 := Or.inl ⟨0, by decide +kernel, rfl, rfl⟩
theorem iX7_treeComes_42 : DGet mX7_treeComes 42 7 0 45 := ⟨7, by decide +kernel, rfl, xf_RX7_7⟩
theorem iX7_treeComes_45 : DPushI mX7_treeComes 45 0 46 := Or.inl ⟨0, by decide +kernel, by decide, rfl⟩
theorem iX7_treeComes_46 : D1 mX7_treeComes 46 .dup2 1 47 := ⟨by decide +kernel, rfl⟩
theorem iX7_treeComes_47 : D1 mX7_treeComes 47 .iaload 1 48 := ⟨by decide +kernel, rfl⟩
theorem iX7_treeComes_48 : DPushI mX7_treeComes 48 1 49 := Or.inl ⟨1, by decide +kernel, by decide, rfl⟩
theorem iX7_treeComes_49 : D1 mX7_treeComes 49 .iadd 1 50 := ⟨by decide +kernel, rfl⟩
theorem iX7_treeComes_50 : D1 mX7_treeComes 50 .iastore 1 51 := ⟨by decide +kernel, rfl⟩
theorem iX7_treeComes_51 : DLdA mX7_treeComes 51 0 52 := Or.inl ⟨0, by decide +kernel, rfl, rfl⟩
theorem iX7_treeComes_52 : DPushI mX7_treeComes 52 0 53 := Or.inl ⟨0, by decide +kernel, by decide, rfl⟩
theorem iX7_treeComes_53 : DPut mX7_treeComes 53 7 8 .int 56 := ⟨82, by decide +kernel, rfl, RX7, TX7, 17, tyX7, rfl, by decide, bigW_at 650 (by decide +kernel) rfl, xw7, tyX7_ok, nmX7, rfl, Or.inl rfl⟩
theorem iX7_treeComes_56 : mX7_treeComes.2.2.2 = none ∧ decode mX7_treeComes.2.1 56 = .ok (.return_, 1) := ⟨rfl, by decide +kernel⟩
theorem iX7_type_0 : DLdI mX7_type 0 1 1 := Or.inl ⟨1, by decide +kernel, rfl, rfl⟩
theorem iX7_type_1 : D1 mX7_type 1 .i2l 1 2 := ⟨by decide +kernel, rfl⟩
theorem iX7_type_2 : DPushL mX7_type 2 32 5 := Or.inr ⟨123, by decide +kernel, bigW_at 778 (by decide +kernel) rfl, rfl⟩
theorem iX7_type_5 : DPushL mX7_type 5 126 8 := Or.inr ⟨125, by decide +kernel, bigW_at 779 (by decide +kernel) rfl, rfl⟩
theorem iX7_type_8 : DInvS mX7_type 8 mX7_in 3 11 := ⟨44, by decide +kernel, rfl, Or.inl xl_RX7_44, xt_X7_in, xm_X7_in⟩
theorem iX7_type_11 : DIf mX7_type 11 .ne 16 14 := ⟨5, by decide +kernel, by decide, rfl⟩
theorem iX7_type_14 : DPushI mX7_type 14 (-1) 15 := Or.inl ⟨(-1), by decide +kernel, by decide, rfl⟩
theorem iX7_type_15 : mX7_type.2.2.2 = some .int ∧ decode mX7_type.2.1 15 = .ok (.ireturn, 1) := ⟨rfl, by decide +kernel⟩
theorem iX7_type_16 : DLdA mX7_type 16 0 17 := Or.inl ⟨0, by decide +kernel, rfl, rfl⟩
theorem iX7_type_17 : DGet mX7_type 17 7 2 20 := ⟨127, by decide +kernel, rfl, xf_RX7_127⟩
theorem iX7_type_20 : DPushI mX7_type 20 90 22 := Or.inr (Or.inl ⟨90, by decide +kernel, by decide, rfl⟩)
theorem iX7_type_22 : DCm mX7_type 22 .ne 28 25 := ⟨6, by decide +kernel, by decide, rfl⟩
theorem iX7_type_25 : DPushI mX7_type 25 (-3) 27 := Or.inr (Or.inl ⟨(-3), by decide +kernel, by decide, rfl⟩)
theorem iX7_type_27 : mX7_type.2.2.2 = some .int ∧ decode mX7_type.2.1 27 = .ok (.ireturn, 1) := ⟨rfl, by decide +kernel⟩
theorem iX7_type_28 : DLdA mX7_type 28 0 29 := Or.inl ⟨0, by decide +kernel, rfl, rfl⟩
theorem iX7_type_29 : DGet mX7_type 29 7 1 32 := ⟨13, by decide +kernel, rfl, xf_RX7_13⟩
theorem iX7_type_32 : DLdA mX7_type 32 0 33 := Or.inl ⟨0, by decide +kernel, rfl, rfl⟩
theorem iX7_type_33 : DGet mX7_type 33 7 2 36 := ⟨127, by decide +kernel, rfl, xf_RX7_127⟩
theorem iX7_type_36 : DLdI mX7_type 36 1 37 := Or.inl ⟨1, by decide +kernel, rfl, rfl⟩
theorem iX7_type_37 : D1 mX7_type 37 .iastore 1 38 := ⟨by decide +kernel, rfl⟩
theorem iX7_type_38 : DLdA mX7_type 38 0 39 := Or.inl ⟨0, by decide +kernel, rfl, rfl⟩
theorem iX7_type_39 : D1 mX7_type 39 .dup 1 40 := ⟨by decide +kernel, rfl⟩
theorem iX7_type_40 : DGet mX7_type 40 7 2 43 := ⟨127, by decide +kernel, rfl, xf_RX7_127⟩
theorem iX7_type_43 : DPushI mX7_type 43 1 44 := Or.inl ⟨1, by decide +kernel, by decide, rfl⟩
theorem iX7_type_44 : D1 mX7_type 44 .iadd 1 45 := ⟨by decide +kernel, rfl⟩
theorem iX7_type_45 : DPut mX7_type 45 7 2 .int 48 := ⟨127, by decide +kernel, rfl, RX7, TX7, 17, tyX7, rfl, by decide, bigW_at 644 (by decide +kernel) rfl, xw7, tyX7_ok, nmX7, rfl, Or.inl rfl⟩
theorem iX7_type_48 : DLdA mX7_type 48 0 49 := Or.inl ⟨0, by decide +kernel, rfl, rfl⟩
theorem iX7_type_49 : DGet mX7_type 49 7 2 52 := ⟨127, by decide +kernel, rfl, xf_RX7_127⟩
theorem iX7_type_52 : mX7_type.2.2.2 = some .int ∧ decode mX7_type.2.1 52 = .ok (.ireturn, 1) := ⟨rfl, by decide +kernel⟩
theorem iX7_undo_0 : DLdA mX7_undo 0 0 1 := Or.inl ⟨0, by decide +kernel, rfl, rfl⟩
theorem iX7_undo_1 : DGet mX7_undo 1 7 8 4 := ⟨82, by decide +kernel, rfl, xf_RX7_82⟩
theorem iX7_undo_4 : DIf mX7_undo 4 .ne 10 7 := ⟨6, by decide +kernel, by decide, rfl⟩
theorem iX7_undo_7 : DPushI mX7_undo 7 (-4) 9 := Or.inr (Or.inl ⟨(-4), by decide +kernel, by decide, rfl⟩)
theorem iX7_undo_9 : mX7_undo.2.2.2 = some .int ∧ decode mX7_undo.2.1 9 = .ok (.ireturn, 1) := ⟨rfl, by decide +kernel⟩
theorem iX7_undo_10 : DLdA mX7_undo 10 0 11 := Or.inl ⟨0, by decide +kernel, rfl, rfl⟩
theorem iX7_undo_11 : D1 mX7_undo 11 .dup 1 12 := ⟨by decide +kernel, rfl⟩
theorem iX7_undo_12 : DGet mX7_undo 12 7 8 15 := ⟨82, by decide +kernel, rfl, xf_RX7_82⟩
theorem iX7_undo_15 : DPushI mX7_undo 15 1 16 := Or.inl ⟨1, by decide +kernel, by decide, rfl⟩
theorem iX7_undo_16 : D1 mX7_undo 16 .isub 1 17 := ⟨by decide +kernel, rfl⟩
theorem iX7_undo_17 : DPut mX7_undo 17 7 8 .int 20 := ⟨82, by decide +kernel, rfl, RX7, TX7, 17, tyX7, rfl, by decide, bigW_at 650 (by decide +kernel) rfl, xw7, tyX7_ok, nmX7, rfl, Or.inl rfl⟩
theorem iX7_undo_20 : DPushI mX7_undo 20 15 22 := Or.inr (Or.inl ⟨15, by decide +kernel, by decide, rfl⟩)
theorem iX7_undo_22 : DLdA mX7_undo 22 0 23 := Or.inl ⟨0, by decide +kernel, rfl, rfl⟩
theorem iX7_undo_23 : DGet mX7_undo 23 7 8 26 := ⟨82, by decide +kernel, rfl, xf_RX7_82⟩
theorem iX7_undo_26 : D1 mX7_undo 26 .imul 1 27 := ⟨by decide +kernel, rfl⟩
theorem iX7_undo_27 : DStI mX7_undo 27 1 28 := ⟨by decide, Or.inl ⟨1, by decide +kernel, rfl, rfl⟩⟩
theorem iX7_undo_28 : DPushI mX7_undo 28 0 29 := Or.inl ⟨0, by decide +kernel, by decide, rfl⟩
theorem iX7_undo_29 : DStI mX7_undo 29 2 30 := ⟨by decide, Or.inl ⟨2, by decide +kernel, rfl, rfl⟩⟩
theorem iX7_undo_30 : DLdI mX7_undo 30 2 31 := Or.inl ⟨2, by decide +kernel, rfl, rfl⟩
theorem iX7_undo_31 : DPushI mX7_undo 31 4 32 := Or.inl ⟨4, by decide +kernel, by decide, rfl⟩
theorem iX7_undo_32 : DCm mX7_undo 32 .ge 57 35 := ⟨25, by decide +kernel, by decide, rfl⟩
theorem iX7_undo_35 : DLdA mX7_undo 35 0 36 := Or.inl ⟨0, by decide +kernel, rfl, rfl⟩
theorem iX7_undo_36 : DGet mX7_undo 36 7 0 39 := ⟨7, by decide +kernel, rfl, xf_RX7_7⟩
theorem iX7_undo_39 : DPushI mX7_undo 39 2 40 := Or.inl ⟨2, by decide +kernel, by decide, rfl⟩
theorem iX7_undo_40 : DLdI mX7_undo 40 2 41 := Or.inl ⟨2, by decide +kernel, rfl, rfl⟩
theorem iX7_undo_41 : D1 mX7_undo 41 .iadd 1 42 := ⟨by decide +kernel, rfl⟩
theorem iX7_undo_42 : DLdA mX7_undo 42 0 43 := Or.inl ⟨0, by decide +kernel, rfl, rfl⟩
theorem iX7_undo_43 : DGet mX7_undo 43 7 7 46 := ⟨22, by decide +kernel, rfl, xf_RX7_22⟩
theorem iX7_undo_46 : DLdI mX7_undo 46 1 47 := Or.inl ⟨1, by decide +kernel, rfl, rfl⟩
theorem iX7_undo_47 : DLdI mX7_undo 47 2 48 := Or.inl ⟨2, by decide +kernel, rfl, rfl⟩
theorem iX7_undo_48 : D1 mX7_undo 48 .iadd 1 49 := ⟨by decide +kernel, rfl⟩
theorem iX7_undo_49 : D1 mX7_undo 49 .iaload 1 50 := ⟨by decide +kernel, rfl⟩
theorem iX7_undo_50 : D1 mX7_undo 50 .iastore 1 51 := ⟨by decide +kernel, rfl⟩
theorem iX7_undo_51 : DInc mX7_undo 51 2 1 54 := ⟨by decide, 1, by decide +kernel, by decide, rfl⟩
theorem iX7_undo_54 : DGo mX7_undo 54 30 := ⟨(-24), by decide +kernel, by decide⟩
theorem iX7_undo_57 : DLdA mX7_undo 57 0 58 := Or.inl ⟨0, by decide +kernel, rfl, rfl⟩
theorem iX7_undo_58 : DGet mX7_undo 58 7 0 61 := ⟨7, by decide +kernel, rfl, xf_RX7_7⟩
theorem iX7_undo_61 : DPushI mX7_undo 61 8 63 := Or.inr (Or.inl ⟨8, by decide +kernel, by decide, rfl⟩)
theorem iX7_undo_63 : DLdA mX7_undo 63 0 64 := Or.inl ⟨0, by decide +kernel, rfl, rfl⟩
theorem iX7_undo_64 : DGet mX7_undo 64 7 7 67 := ⟨22, by decide +kernel, rfl, xf_RX7_22⟩
theorem iX7_undo_67 : DLdI mX7_undo 67 1 68 := Or.inl ⟨1, by decide +kernel, rfl, rfl⟩
theorem iX7_undo_68 : DPushI mX7_undo 68 4 69 := Or.inl ⟨4, by decide +kernel, by decide, rfl⟩
theorem iX7_undo_69 : D1 mX7_undo 69 .iadd 1 70 := ⟨by decide +kernel, rfl⟩
theorem iX7_undo_70 : D1 mX7_undo 70 .iaload 1 71 := ⟨by decide +kernel, rfl⟩
theorem iX7_undo_71 : D1 mX7_undo 71 .iastore 1 72 := ⟨by decide +kernel, rfl⟩
theorem iX7_undo_72 : DPushI mX7_undo 72 0 73 := Or.inl ⟨0, by decide +kernel, by decide, rfl⟩
theorem iX7_undo_73 : DStI mX7_undo 73 2 74 := ⟨by decide, Or.inl ⟨2, by decide +kernel, rfl, rfl⟩⟩
theorem iX7_undo_74 : DLdI mX7_undo 74 2 75 := Or.inl ⟨2, by decide +kernel, rfl, rfl⟩
theorem iX7_undo_75 : DPushI mX7_undo 75 6 77 := Or.inr (Or.inl ⟨6, by decide +kernel, by decide, rfl⟩)
theorem iX7_undo_77 : DCm mX7_undo 77 .ge 109 80 := ⟨32, by decide +kernel, by decide, rfl⟩
theorem iX7_undo_80 : DLdA mX7_undo 80 0 81 := Or.inl ⟨0, by decide +kernel, rfl, rfl⟩
theorem iX7_undo_81 : DGet mX7_undo 81 7 0 84 := ⟨7, by decide +kernel, rfl, xf_RX7_7⟩
theorem iX7_undo_84 : DPushI mX7_undo 84 9 86 := Or.inr (Or.inl ⟨9, by decide +kernel, by decide, rfl⟩)
theorem iX7_undo_86 : DPushI mX7_undo 86 3 87 := Or.inl ⟨3, by decide +kernel, by decide, rfl⟩
theorem iX7_undo_87 : DLdI mX7_undo 87 2 88 := Or.inl ⟨2, by decide +kernel, rfl, rfl⟩
theorem iX7_undo_88 : D1 mX7_undo 88 .imul 1 89 := ⟨by decide +kernel, rfl⟩
theorem iX7_undo_89 : D1 mX7_undo 89 .iadd 1 90 := ⟨by decide +kernel, rfl⟩
theorem iX7_undo_90 : DPushI mX7_undo 90 1 91 := Or.inl ⟨1, by decide +kernel, by decide, rfl⟩
theorem iX7_undo_91 : D1 mX7_undo 91 .iadd 1 92 := ⟨by decide +kernel, rfl⟩
theorem iX7_undo_92 : DLdA mX7_undo 92 0 93 := Or.inl ⟨0, by decide +kernel, rfl, rfl⟩
theorem iX7_undo_93 : DGet mX7_undo 93 7 7 96 := ⟨22, by decide +kernel, rfl, xf_RX7_22⟩
theorem iX7_undo_96 : DLdI mX7_undo 96 1 97 := Or.inl ⟨1, by decide +kernel, rfl, rfl⟩
theorem iX7_undo_97 : DPushI mX7_undo 97 5 98 := Or.inl ⟨5, by decide +kernel, by decide, rfl⟩
theorem iX7_undo_98 : D1 mX7_undo 98 .iadd 1 99 := ⟨by decide +kernel, rfl⟩
theorem iX7_undo_99 : DLdI mX7_undo 99 2 100 := Or.inl ⟨2, by decide +kernel, rfl, rfl⟩
theorem iX7_undo_100 : D1 mX7_undo 100 .iadd 1 101 := ⟨by decide +kernel, rfl⟩
theorem iX7_undo_101 : D1 mX7_undo 101 .iaload 1 102 := ⟨by decide +kernel, rfl⟩
theorem iX7_undo_102 : D1 mX7_undo 102 .iastore 1 103 := ⟨by decide +kernel, rfl⟩
theorem iX7_undo_103 : DInc mX7_undo 103 2 1 106 := ⟨by decide, 1, by decide +kernel, by decide, rfl⟩
theorem iX7_undo_106 : DGo mX7_undo 106 74 := ⟨(-32), by decide +kernel, by decide⟩
theorem iX7_undo_109 : DPushI mX7_undo 109 0 110 := Or.inl ⟨0, by decide +kernel, by decide, rfl⟩
theorem iX7_undo_110 : DStI mX7_undo 110 2 111 := ⟨by decide, Or.inl ⟨2, by decide +kernel, rfl, rfl⟩⟩
theorem iX7_undo_111 : DLdI mX7_undo 111 2 112 := Or.inl ⟨2, by decide +kernel, rfl, rfl⟩
theorem iX7_undo_112 : DPushI mX7_undo 112 4 113 := Or.inl ⟨4, by decide +kernel, by decide, rfl⟩
theorem iX7_undo_113 : DCm mX7_undo 113 .ge 146 116 := ⟨33, by decide +kernel, by decide, rfl⟩
theorem iX7_undo_116 : DLdA mX7_undo 116 0 117 := Or.inl ⟨0, by decide +kernel, rfl, rfl⟩
theorem iX7_undo_117 : DGet mX7_undo 117 7 0 120 := ⟨7, by decide +kernel, rfl, xf_RX7_7⟩
theorem iX7_undo_120 : DPushI mX7_undo 120 27 122 := Or.inr (Or.inl ⟨27, by decide +kernel, by decide, rfl⟩)
theorem iX7_undo_122 : DPushI mX7_undo 122 4 123 := Or.inl ⟨4, by decide +kernel, by decide, rfl⟩
theorem iX7_undo_123 : DLdI mX7_undo 123 2 124 := Or.inl ⟨2, by decide +kernel, rfl, rfl⟩
theorem iX7_undo_124 : D1 mX7_undo 124 .imul 1 125 := ⟨by decide +kernel, rfl⟩
theorem iX7_undo_125 : D1 mX7_undo 125 .iadd 1 126 := ⟨by decide +kernel, rfl⟩
theorem iX7_undo_126 : DPushI mX7_undo 126 3 127 := Or.inl ⟨3, by decide +kernel, by decide, rfl⟩
theorem iX7_undo_127 : D1 mX7_undo 127 .iadd 1 128 := ⟨by decide +kernel, rfl⟩
theorem iX7_undo_128 : DLdA mX7_undo 128 0 129 := Or.inl ⟨0, by decide +kernel, rfl, rfl⟩
theorem iX7_undo_129 : DGet mX7_undo 129 7 7 132 := ⟨22, by decide +kernel, rfl, xf_RX7_22⟩
theorem iX7_undo_132 : DLdI mX7_undo 132 1 133 := Or.inl ⟨1, by decide +kernel, rfl, rfl⟩
theorem iX7_undo_133 : DPushI mX7_undo 133 11 135 := Or.inr (Or.inl ⟨11, by decide +kernel, by decide, rfl⟩)
theorem iX7_undo_135 : D1 mX7_undo 135 .iadd 1 136 := ⟨by decide +kernel, rfl⟩
theorem iX7_undo_136 : DLdI mX7_undo 136 2 137 := Or.inl ⟨2, by decide +kernel, rfl, rfl⟩
theorem iX7_undo_137 : D1 mX7_undo 137 .iadd 1 138 := ⟨by decide +kernel, rfl⟩
theorem iX7_undo_138 : D1 mX7_undo 138 .iaload 1 139 := ⟨by decide +kernel, rfl⟩
theorem iX7_undo_139 : D1 mX7_undo 139 .iastore 1 140 := ⟨by decide +kernel, rfl⟩
theorem iX7_undo_140 : DInc mX7_undo 140 2 1 143 := ⟨by decide, 1, by decide +kernel, by decide, rfl⟩
theorem iX7_undo_143 : DGo mX7_undo 143 111 := ⟨(-32), by decide +kernel, by decide⟩
theorem iX7_undo_146 : DLdA mX7_undo 146 0 147 := Or.inl ⟨0, by decide +kernel, rfl, rfl⟩
theorem iX7_undo_147 : DGet mX7_undo 147 7 8 150 := ⟨82, by decide +kernel, rfl, xf_RX7_82⟩
theorem iX7_undo_150 : mX7_undo.2.2.2 = some .int ∧ decode mX7_undo.2.1 150 = .ok (.ireturn, 1) := ⟨rfl, by decide +kernel⟩
theorem iX7_why_0 : DLdA mX7_why 0 0 1 := Or.inl ⟨0, by decide +kernel, rfl, rfl⟩
theorem iX7_why_1 : DGet mX7_why 1 7 13 4 := ⟨31, by decide +kernel, rfl, xf_RX7_31⟩
theorem iX7_why_4 : DLdI mX7_why 4 1 5 := Or.inl ⟨1, by decide +kernel, rfl, rfl⟩
theorem iX7_why_5 : D1 mX7_why 5 .iaload 1 6 := ⟨by decide +kernel, rfl⟩
theorem iX7_why_6 : DIf mX7_why 6 .ge 12 9 := ⟨6, by decide +kernel, by decide, rfl⟩
theorem iX7_why_9 : DPushI mX7_why 9 (-11) 11 := Or.inr (Or.inl ⟨(-11), by decide +kernel, by decide, rfl⟩)
theorem iX7_why_11 : mX7_why.2.2.2 = some .int ∧ decode mX7_why.2.1 11 = .ok (.ireturn, 1) := ⟨rfl, by decide +kernel⟩
theorem iX7_why_12 : DLdA mX7_why 12 0 13 := Or.inl ⟨0, by decide +kernel, rfl, rfl⟩
theorem iX7_why_13 : DGet mX7_why 13 7 13 16 := ⟨31, by decide +kernel, rfl, xf_RX7_31⟩
theorem iX7_why_16 : DLdI mX7_why 16 1 17 := Or.inl ⟨1, by decide +kernel, rfl, rfl⟩
theorem iX7_why_17 : D1 mX7_why 17 .iaload 1 18 := ⟨by decide +kernel, rfl⟩
theorem iX7_why_18 : DLdI mX7_why 18 2 19 := Or.inl ⟨2, by decide +kernel, rfl, rfl⟩
theorem iX7_why_19 : DCm mX7_why 19 .eq 25 22 := ⟨6, by decide +kernel, by decide, rfl⟩
theorem iX7_why_22 : DPushI mX7_why 22 (-12) 24 := Or.inr (Or.inl ⟨(-12), by decide +kernel, by decide, rfl⟩)
theorem iX7_why_24 : mX7_why.2.2.2 = some .int ∧ decode mX7_why.2.1 24 = .ok (.ireturn, 1) := ⟨rfl, by decide +kernel⟩
theorem iX7_why_25 : DLdI mX7_why 25 3 26 := Or.inl ⟨3, by decide +kernel, rfl, rfl⟩
theorem iX7_why_26 : DIf mX7_why 26 .lt 51 29 := ⟨25, by decide +kernel, by decide, rfl⟩
theorem iX7_why_29 : DLdI mX7_why 29 4 31 := Or.inr ⟨by decide +kernel, rfl⟩
theorem iX7_why_31 : DIf mX7_why 31 .lt 51 34 := ⟨20, by decide +kernel, by decide, rfl⟩
theorem iX7_why_34 : DLdI mX7_why 34 3 35 := Or.inl ⟨3, by decide +kernel, rfl, rfl⟩
theorem iX7_why_35 : D1 mX7_why 35 .i2l 1 36 := ⟨by decide +kernel, rfl⟩
theorem iX7_why_36 : DLdI mX7_why 36 4 38 := Or.inr ⟨by decide +kernel, rfl⟩
theorem iX7_why_38 : D1 mX7_why 38 .i2l 1 39 := ⟨by decide +kernel, rfl⟩
theorem iX7_why_39 : D1 mX7_why 39 .ladd 1 40 := ⟨by decide +kernel, rfl⟩
theorem iX7_why_40 : DLdA mX7_why 40 0 41 := Or.inl ⟨0, by decide +kernel, rfl, rfl⟩
theorem iX7_why_41 : DGet mX7_why 41 7 14 44 := ⟨34, by decide +kernel, rfl, xf_RX7_34⟩
theorem iX7_why_44 : DLdI mX7_why 44 1 45 := Or.inl ⟨1, by decide +kernel, rfl, rfl⟩
theorem iX7_why_45 : D1 mX7_why 45 .iaload 1 46 := ⟨by decide +kernel, rfl⟩
theorem iX7_why_46 : D1 mX7_why 46 .i2l 1 47 := ⟨by decide +kernel, rfl⟩
theorem iX7_why_47 : D1 mX7_why 47 .lcmp 1 48 := ⟨by decide +kernel, rfl⟩
theorem iX7_why_48 : DIf mX7_why 48 .le 56 51 := ⟨8, by decide +kernel, by decide, rfl⟩
theorem iX7_why_51 : DPushI mX7_why 51 (-13) 53 := Or.inr (Or.inl ⟨(-13), by decide +kernel, by decide, rfl⟩)
theorem iX7_why_53 : DGo mX7_why 53 57 := ⟨4, by decide +kernel, by decide⟩
theorem iX7_why_56 : DPushI mX7_why 56 0 57 := Or.inl ⟨0, by decide +kernel, by decide, rfl⟩
theorem iX7_why_57 : mX7_why.2.2.2 = some .int ∧ decode mX7_why.2.1 57 = .ok (.ireturn, 1) := ⟨rfl, by decide +kernel⟩
end
section
theorem iL_law_0 : DNew mL_law 0 6 [.null, .null, .null, .null, .int 0, .null, .null, .null, .null, .null] 3 := ⟨7, RX6, TX6, 10, tyX6, by decide +kernel, rfl, rfl, xc_RL_7, xn_RX6, xz_RX6, xw6, tyX6_ok, rfl, by decide +kernel, fun _ _ => rfl⟩
theorem iL_law_3 : D1 mL_law 3 .dup 1 4 := ⟨by decide +kernel, rfl⟩
theorem iL_law_4 : DInvI mL_law 4 mX6_init 0 7 := ⟨9, by decide +kernel, rfl, Or.inl xl_RL_9, xi_X6_init, rfl, rfl, xm_X6_init⟩
theorem iL_law_7 : DStA mL_law 7 1 8 := ⟨by decide, Or.inl ⟨1, by decide +kernel, rfl, rfl⟩⟩
theorem iL_law_8 : DNew mL_law 8 7 [.null, .null, .int 0, .int 0, .int 0, .null, .null, .null, .int 0, .null, .null, .int 0, .int 0, .null, .null, .null, .null] 11 := ⟨10, RX7, TX7, 17, tyX7, by decide +kernel, rfl, rfl, xc_RL_10, xn_RX7, xz_RX7, xw7, tyX7_ok, rfl, by decide +kernel, fun _ _ => rfl⟩
theorem iL_law_11 : D1 mL_law 11 .dup 1 12 := ⟨by decide +kernel, rfl⟩
theorem iL_law_12 : DInvI mL_law 12 mX7_init 0 15 := ⟨12, by decide +kernel, rfl, Or.inl xl_RL_12, xi_X7_init, rfl, rfl, xm_X7_init⟩
theorem iL_law_15 : DStA mL_law 15 2 16 := ⟨by decide, Or.inl ⟨2, by decide +kernel, rfl, rfl⟩⟩
theorem iL_law_16 : DPushI mL_law 16 0 17 := Or.inl ⟨0, by decide +kernel, by decide, rfl⟩
theorem iL_law_17 : DStI mL_law 17 3 18 := ⟨by decide, Or.inl ⟨3, by decide +kernel, rfl, rfl⟩⟩
theorem iL_law_18 : DLdI mL_law 18 3 19 := Or.inl ⟨3, by decide +kernel, rfl, rfl⟩
theorem iL_law_19 : DLdA mL_law 19 0 20 := Or.inl ⟨0, by decide +kernel, rfl, rfl⟩
theorem iL_law_20 : D1 mL_law 20 .arraylength 1 21 := ⟨by decide +kernel, rfl⟩
theorem iL_law_21 : DPushI mL_law 21 6 23 := Or.inr (Or.inl ⟨6, by decide +kernel, by decide, rfl⟩)
theorem iL_law_23 : D1 mL_law 23 .isub 1 24 := ⟨by decide +kernel, rfl⟩
theorem iL_law_24 : DCm mL_law 24 .gt 1221 27 := ⟨1197, by decide +kernel, by decide, rfl⟩
theorem iL_law_27 : DLdA mL_law 27 0 28 := Or.inl ⟨0, by decide +kernel, rfl, rfl⟩
theorem iL_law_28 : DLdI mL_law 28 3 29 := Or.inl ⟨3, by decide +kernel, rfl, rfl⟩
theorem iL_law_29 : D1 mL_law 29 .iaload 1 30 := ⟨by decide +kernel, rfl⟩
theorem iL_law_30 : DPushI mL_law 30 31 32 := Or.inr (Or.inl ⟨31, by decide +kernel, by decide, rfl⟩)
theorem iL_law_32 : D1 mL_law 32 .iand 1 33 := ⟨by decide +kernel, rfl⟩
theorem iL_law_33 : DTab mL_law 33 0 [172, 215, 258, 291, 324, 357, 380, 393, 416, 439, 472, 495, 518, 531, 554, 587, 620, 653, 666, 699, 742, 775, 808, 851, 864, 877, 940, 1003, 1046, 1069, 1152] 1215 := ⟨1182, 30, #[139, 182, 225, 258, 291, 324, 347, 360, 383, 406, 439, 462, 485, 498, 521, 554, 587, 620, 633, 666, 709, 742, 775, 818, 831, 844, 907, 970, 1013, 1036, 1119], 139, by decide +kernel, by decide, by decide, by decide⟩
theorem iL_law_172 : DLdA mL_law 172 1 173 := Or.inl ⟨1, by decide +kernel, rfl, rfl⟩
theorem iL_law_173 : DLdA mL_law 173 0 174 := Or.inl ⟨0, by decide +kernel, rfl, rfl⟩
theorem iL_law_174 : DLdI mL_law 174 3 175 := Or.inl ⟨3, by decide +kernel, rfl, rfl⟩
theorem iL_law_175 : DPushI mL_law 175 1 176 := Or.inl ⟨1, by decide +kernel, by decide, rfl⟩
theorem iL_law_176 : D1 mL_law 176 .iadd 1 177 := ⟨by decide +kernel, rfl⟩
theorem iL_law_177 : D1 mL_law 177 .iaload 1 178 := ⟨by decide +kernel, rfl⟩
theorem iL_law_178 : DLdA mL_law 178 0 179 := Or.inl ⟨0, by decide +kernel, rfl, rfl⟩
theorem iL_law_179 : DLdI mL_law 179 3 180 := Or.inl ⟨3, by decide +kernel, rfl, rfl⟩
theorem iL_law_180 : DPushI mL_law 180 2 181 := Or.inl ⟨2, by decide +kernel, by decide, rfl⟩
theorem iL_law_181 : D1 mL_law 181 .iadd 1 182 := ⟨by decide +kernel, rfl⟩
theorem iL_law_182 : D1 mL_law 182 .iaload 1 183 := ⟨by decide +kernel, rfl⟩
theorem iL_law_183 : DLdA mL_law 183 0 184 := Or.inl ⟨0, by decide +kernel, rfl, rfl⟩
theorem iL_law_184 : DLdI mL_law 184 3 185 := Or.inl ⟨3, by decide +kernel, rfl, rfl⟩
theorem iL_law_185 : DPushI mL_law 185 3 186 := Or.inl ⟨3, by decide +kernel, by decide, rfl⟩
theorem iL_law_186 : D1 mL_law 186 .iadd 1 187 := ⟨by decide +kernel, rfl⟩
theorem iL_law_187 : D1 mL_law 187 .iaload 1 188 := ⟨by decide +kernel, rfl⟩
theorem iL_law_188 : DInvV mL_law 188 mX6_tree 6 3 191 := ⟨13, TX6, 10, by decide +kernel, rfl, rfl, xl_RL_13, xi_X6_tree, xs_X6_tree, xm_X6_tree⟩
theorem iL_law_191 : DLdA mL_law 191 2 192 := Or.inl ⟨2, by decide +kernel, rfl, rfl⟩
theorem iL_law_192 : DLdA mL_law 192 0 193 := Or.inl ⟨0, by decide +kernel, rfl, rfl⟩
theorem iL_law_193 : DLdI mL_law 193 3 194 := Or.inl ⟨3, by decide +kernel, rfl, rfl⟩
theorem iL_law_194 : DPushI mL_law 194 1 195 := Or.inl ⟨1, by decide +kernel, by decide, rfl⟩
theorem iL_law_195 : D1 mL_law 195 .iadd 1 196 := ⟨by decide +kernel, rfl⟩
theorem iL_law_196 : D1 mL_law 196 .iaload 1 197 := ⟨by decide +kernel, rfl⟩
theorem iL_law_197 : DLdA mL_law 197 0 198 := Or.inl ⟨0, by decide +kernel, rfl, rfl⟩
theorem iL_law_198 : DLdI mL_law 198 3 199 := Or.inl ⟨3, by decide +kernel, rfl, rfl⟩
theorem iL_law_199 : DPushI mL_law 199 2 200 := Or.inl ⟨2, by decide +kernel, by decide, rfl⟩
theorem iL_law_200 : D1 mL_law 200 .iadd 1 201 := ⟨by decide +kernel, rfl⟩
theorem iL_law_201 : D1 mL_law 201 .iaload 1 202 := ⟨by decide +kernel, rfl⟩
theorem iL_law_202 : DLdA mL_law 202 0 203 := Or.inl ⟨0, by decide +kernel, rfl, rfl⟩
theorem iL_law_203 : DLdI mL_law 203 3 204 := Or.inl ⟨3, by decide +kernel, rfl, rfl⟩
theorem iL_law_204 : DPushI mL_law 204 3 205 := Or.inl ⟨3, by decide +kernel, by decide, rfl⟩
theorem iL_law_205 : D1 mL_law 205 .iadd 1 206 := ⟨by decide +kernel, rfl⟩
theorem iL_law_206 : D1 mL_law 206 .iaload 1 207 := ⟨by decide +kernel, rfl⟩
theorem iL_law_207 : DInvV mL_law 207 mX7_tree 7 3 210 := ⟨17, TX7, 17, by decide +kernel, rfl, rfl, xl_RL_17, xi_X7_tree, xs_X7_tree, xm_X7_tree⟩
theorem iL_law_210 : DCm mL_law 210 .eq 1215 213 := ⟨1005, by decide +kernel, by decide, rfl⟩
theorem iL_law_213 : DPushI mL_law 213 0 214 := Or.inl ⟨0, by decide +kernel, by decide, rfl⟩
theorem iL_law_214 : mL_law.2.2.2 = some .boolean ∧ decode mL_law.2.1 214 = .ok (.ireturn, 1) := ⟨rfl, by decide +kernel⟩
theorem iL_law_215 : DLdA mL_law 215 1 216 := Or.inl ⟨1, by decide +kernel, rfl, rfl⟩
theorem iL_law_216 : DLdA mL_law 216 0 217 := Or.inl ⟨0, by decide +kernel, rfl, rfl⟩
theorem iL_law_217 : DLdI mL_law 217 3 218 := Or.inl ⟨3, by decide +kernel, rfl, rfl⟩
theorem iL_law_218 : DPushI mL_law 218 1 219 := Or.inl ⟨1, by decide +kernel, by decide, rfl⟩
theorem iL_law_219 : D1 mL_law 219 .iadd 1 220 := ⟨by decide +kernel, rfl⟩
theorem iL_law_220 : D1 mL_law 220 .iaload 1 221 := ⟨by decide +kernel, rfl⟩
theorem iL_law_221 : DLdA mL_law 221 0 222 := Or.inl ⟨0, by decide +kernel, rfl, rfl⟩
theorem iL_law_222 : DLdI mL_law 222 3 223 := Or.inl ⟨3, by decide +kernel, rfl, rfl⟩
theorem iL_law_223 : DPushI mL_law 223 2 224 := Or.inl ⟨2, by decide +kernel, by decide, rfl⟩
theorem iL_law_224 : D1 mL_law 224 .iadd 1 225 := ⟨by decide +kernel, rfl⟩
theorem iL_law_225 : D1 mL_law 225 .iaload 1 226 := ⟨by decide +kernel, rfl⟩
theorem iL_law_226 : DLdA mL_law 226 0 227 := Or.inl ⟨0, by decide +kernel, rfl, rfl⟩
theorem iL_law_227 : DLdI mL_law 227 3 228 := Or.inl ⟨3, by decide +kernel, rfl, rfl⟩
theorem iL_law_228 : DPushI mL_law 228 3 229 := Or.inl ⟨3, by decide +kernel, by decide, rfl⟩
theorem iL_law_229 : D1 mL_law 229 .iadd 1 230 := ⟨by decide +kernel, rfl⟩
theorem iL_law_230 : D1 mL_law 230 .iaload 1 231 := ⟨by decide +kernel, rfl⟩
theorem iL_law_231 : DInvV mL_law 231 mX6_ladder 6 3 234 := ⟨18, TX6, 10, by decide +kernel, rfl, rfl, xl_RL_18, xi_X6_ladder, xs_X6_ladder, xm_X6_ladder⟩
theorem iL_law_234 : DLdA mL_law 234 2 235 := Or.inl ⟨2, by decide +kernel, rfl, rfl⟩
theorem iL_law_235 : DLdA mL_law 235 0 236 := Or.inl ⟨0, by decide +kernel, rfl, rfl⟩
theorem iL_law_236 : DLdI mL_law 236 3 237 := Or.inl ⟨3, by decide +kernel, rfl, rfl⟩
theorem iL_law_237 : DPushI mL_law 237 1 238 := Or.inl ⟨1, by decide +kernel, by decide, rfl⟩
theorem iL_law_238 : D1 mL_law 238 .iadd 1 239 := ⟨by decide +kernel, rfl⟩
theorem iL_law_239 : D1 mL_law 239 .iaload 1 240 := ⟨by decide +kernel, rfl⟩
theorem iL_law_240 : DLdA mL_law 240 0 241 := Or.inl ⟨0, by decide +kernel, rfl, rfl⟩
theorem iL_law_241 : DLdI mL_law 241 3 242 := Or.inl ⟨3, by decide +kernel, rfl, rfl⟩
theorem iL_law_242 : DPushI mL_law 242 2 243 := Or.inl ⟨2, by decide +kernel, by decide, rfl⟩
theorem iL_law_243 : D1 mL_law 243 .iadd 1 244 := ⟨by decide +kernel, rfl⟩
theorem iL_law_244 : D1 mL_law 244 .iaload 1 245 := ⟨by decide +kernel, rfl⟩
theorem iL_law_245 : DLdA mL_law 245 0 246 := Or.inl ⟨0, by decide +kernel, rfl, rfl⟩
theorem iL_law_246 : DLdI mL_law 246 3 247 := Or.inl ⟨3, by decide +kernel, rfl, rfl⟩
theorem iL_law_247 : DPushI mL_law 247 3 248 := Or.inl ⟨3, by decide +kernel, by decide, rfl⟩
theorem iL_law_248 : D1 mL_law 248 .iadd 1 249 := ⟨by decide +kernel, rfl⟩
theorem iL_law_249 : D1 mL_law 249 .iaload 1 250 := ⟨by decide +kernel, rfl⟩
theorem iL_law_250 : DInvV mL_law 250 mX7_ladder 7 3 253 := ⟨21, TX7, 17, by decide +kernel, rfl, rfl, xl_RL_21, xi_X7_ladder, xs_X7_ladder, xm_X7_ladder⟩
theorem iL_law_253 : DCm mL_law 253 .eq 1215 256 := ⟨962, by decide +kernel, by decide, rfl⟩
theorem iL_law_256 : DPushI mL_law 256 0 257 := Or.inl ⟨0, by decide +kernel, by decide, rfl⟩
theorem iL_law_257 : mL_law.2.2.2 = some .boolean ∧ decode mL_law.2.1 257 = .ok (.ireturn, 1) := ⟨rfl, by decide +kernel⟩
theorem iL_law_258 : DLdA mL_law 258 1 259 := Or.inl ⟨1, by decide +kernel, rfl, rfl⟩
theorem iL_law_259 : DLdA mL_law 259 0 260 := Or.inl ⟨0, by decide +kernel, rfl, rfl⟩
theorem iL_law_260 : DLdI mL_law 260 3 261 := Or.inl ⟨3, by decide +kernel, rfl, rfl⟩
theorem iL_law_261 : DPushI mL_law 261 1 262 := Or.inl ⟨1, by decide +kernel, by decide, rfl⟩
theorem iL_law_262 : D1 mL_law 262 .iadd 1 263 := ⟨by decide +kernel, rfl⟩
theorem iL_law_263 : D1 mL_law 263 .iaload 1 264 := ⟨by decide +kernel, rfl⟩
theorem iL_law_264 : DLdA mL_law 264 0 265 := Or.inl ⟨0, by decide +kernel, rfl, rfl⟩
theorem iL_law_265 : DLdI mL_law 265 3 266 := Or.inl ⟨3, by decide +kernel, rfl, rfl⟩
theorem iL_law_266 : DPushI mL_law 266 2 267 := Or.inl ⟨2, by decide +kernel, by decide, rfl⟩
theorem iL_law_267 : D1 mL_law 267 .iadd 1 268 := ⟨by decide +kernel, rfl⟩
theorem iL_law_268 : D1 mL_law 268 .iaload 1 269 := ⟨by decide +kernel, rfl⟩
theorem iL_law_269 : DInvV mL_law 269 mX6_of 6 2 272 := ⟨22, TX6, 10, by decide +kernel, rfl, rfl, xl_RL_22, xi_X6_of, xs_X6_of, xm_X6_of⟩
theorem iL_law_272 : DLdA mL_law 272 2 273 := Or.inl ⟨2, by decide +kernel, rfl, rfl⟩
theorem iL_law_273 : DLdA mL_law 273 0 274 := Or.inl ⟨0, by decide +kernel, rfl, rfl⟩
theorem iL_law_274 : DLdI mL_law 274 3 275 := Or.inl ⟨3, by decide +kernel, rfl, rfl⟩
theorem iL_law_275 : DPushI mL_law 275 1 276 := Or.inl ⟨1, by decide +kernel, by decide, rfl⟩
theorem iL_law_276 : D1 mL_law 276 .iadd 1 277 := ⟨by decide +kernel, rfl⟩
theorem iL_law_277 : D1 mL_law 277 .iaload 1 278 := ⟨by decide +kernel, rfl⟩
theorem iL_law_278 : DLdA mL_law 278 0 279 := Or.inl ⟨0, by decide +kernel, rfl, rfl⟩
theorem iL_law_279 : DLdI mL_law 279 3 280 := Or.inl ⟨3, by decide +kernel, rfl, rfl⟩
theorem iL_law_280 : DPushI mL_law 280 2 281 := Or.inl ⟨2, by decide +kernel, by decide, rfl⟩
theorem iL_law_281 : D1 mL_law 281 .iadd 1 282 := ⟨by decide +kernel, rfl⟩
theorem iL_law_282 : D1 mL_law 282 .iaload 1 283 := ⟨by decide +kernel, rfl⟩
theorem iL_law_283 : DInvV mL_law 283 mX7_of 7 2 286 := ⟨26, TX7, 17, by decide +kernel, rfl, rfl, xl_RL_26, xi_X7_of, xs_X7_of, xm_X7_of⟩
theorem iL_law_286 : DCm mL_law 286 .eq 1215 289 := ⟨929, by decide +kernel, by decide, rfl⟩
theorem iL_law_289 : DPushI mL_law 289 0 290 := Or.inl ⟨0, by decide +kernel, by decide, rfl⟩
theorem iL_law_290 : mL_law.2.2.2 = some .boolean ∧ decode mL_law.2.1 290 = .ok (.ireturn, 1) := ⟨rfl, by decide +kernel⟩
theorem iL_law_291 : DLdA mL_law 291 1 292 := Or.inl ⟨1, by decide +kernel, rfl, rfl⟩
theorem iL_law_292 : DLdA mL_law 292 0 293 := Or.inl ⟨0, by decide +kernel, rfl, rfl⟩
theorem iL_law_293 : DLdI mL_law 293 3 294 := Or.inl ⟨3, by decide +kernel, rfl, rfl⟩
theorem iL_law_294 : DPushI mL_law 294 1 295 := Or.inl ⟨1, by decide +kernel, by decide, rfl⟩
theorem iL_law_295 : D1 mL_law 295 .iadd 1 296 := ⟨by decide +kernel, rfl⟩
theorem iL_law_296 : D1 mL_law 296 .iaload 1 297 := ⟨by decide +kernel, rfl⟩
theorem iL_law_297 : DLdA mL_law 297 0 298 := Or.inl ⟨0, by decide +kernel, rfl, rfl⟩
theorem iL_law_298 : DLdI mL_law 298 3 299 := Or.inl ⟨3, by decide +kernel, rfl, rfl⟩
theorem iL_law_299 : DPushI mL_law 299 2 300 := Or.inl ⟨2, by decide +kernel, by decide, rfl⟩
theorem iL_law_300 : D1 mL_law 300 .iadd 1 301 := ⟨by decide +kernel, rfl⟩
theorem iL_law_301 : D1 mL_law 301 .iaload 1 302 := ⟨by decide +kernel, rfl⟩
theorem iL_law_302 : DInvV mL_law 302 mX6_at 6 2 305 := ⟨27, TX6, 10, by decide +kernel, rfl, rfl, xl_RL_27, xi_X6_at, xs_X6_at, xm_X6_at⟩
theorem iL_law_305 : DLdA mL_law 305 2 306 := Or.inl ⟨2, by decide +kernel, rfl, rfl⟩
theorem iL_law_306 : DLdA mL_law 306 0 307 := Or.inl ⟨0, by decide +kernel, rfl, rfl⟩
theorem iL_law_307 : DLdI mL_law 307 3 308 := Or.inl ⟨3, by decide +kernel, rfl, rfl⟩
theorem iL_law_308 : DPushI mL_law 308 1 309 := Or.inl ⟨1, by decide +kernel, by decide, rfl⟩
theorem iL_law_309 : D1 mL_law 309 .iadd 1 310 := ⟨by decide +kernel, rfl⟩
theorem iL_law_310 : D1 mL_law 310 .iaload 1 311 := ⟨by decide +kernel, rfl⟩
theorem iL_law_311 : DLdA mL_law 311 0 312 := Or.inl ⟨0, by decide +kernel, rfl, rfl⟩
theorem iL_law_312 : DLdI mL_law 312 3 313 := Or.inl ⟨3, by decide +kernel, rfl, rfl⟩
theorem iL_law_313 : DPushI mL_law 313 2 314 := Or.inl ⟨2, by decide +kernel, by decide, rfl⟩
theorem iL_law_314 : D1 mL_law 314 .iadd 1 315 := ⟨by decide +kernel, rfl⟩
theorem iL_law_315 : D1 mL_law 315 .iaload 1 316 := ⟨by decide +kernel, rfl⟩
theorem iL_law_316 : DInvV mL_law 316 mX7_at 7 2 319 := ⟨30, TX7, 17, by decide +kernel, rfl, rfl, xl_RL_30, xi_X7_at, xs_X7_at, xm_X7_at⟩
theorem iL_law_319 : DCm mL_law 319 .eq 1215 322 := ⟨896, by decide +kernel, by decide, rfl⟩
theorem iL_law_322 : DPushI mL_law 322 0 323 := Or.inl ⟨0, by decide +kernel, by decide, rfl⟩
theorem iL_law_323 : mL_law.2.2.2 = some .boolean ∧ decode mL_law.2.1 323 = .ok (.ireturn, 1) := ⟨rfl, by decide +kernel⟩
theorem iL_law_324 : DLdA mL_law 324 1 325 := Or.inl ⟨1, by decide +kernel, rfl, rfl⟩
theorem iL_law_325 : DLdA mL_law 325 0 326 := Or.inl ⟨0, by decide +kernel, rfl, rfl⟩
theorem iL_law_326 : DLdI mL_law 326 3 327 := Or.inl ⟨3, by decide +kernel, rfl, rfl⟩
theorem iL_law_327 : DPushI mL_law 327 1 328 := Or.inl ⟨1, by decide +kernel, by decide, rfl⟩
theorem iL_law_328 : D1 mL_law 328 .iadd 1 329 := ⟨by decide +kernel, rfl⟩
theorem iL_law_329 : D1 mL_law 329 .iaload 1 330 := ⟨by decide +kernel, rfl⟩
theorem iL_law_330 : DLdA mL_law 330 0 331 := Or.inl ⟨0, by decide +kernel, rfl, rfl⟩
theorem iL_law_331 : DLdI mL_law 331 3 332 := Or.inl ⟨3, by decide +kernel, rfl, rfl⟩
theorem iL_law_332 : DPushI mL_law 332 2 333 := Or.inl ⟨2, by decide +kernel, by decide, rfl⟩
theorem iL_law_333 : D1 mL_law 333 .iadd 1 334 := ⟨by decide +kernel, rfl⟩
theorem iL_law_334 : D1 mL_law 334 .iaload 1 335 := ⟨by decide +kernel, rfl⟩
theorem iL_law_335 : DInvV mL_law 335 mX6_rule 6 2 338 := ⟨31, TX6, 10, by decide +kernel, rfl, rfl, xl_RL_31, xi_X6_rule, xs_X6_rule, xm_X6_rule⟩
theorem iL_law_338 : DLdA mL_law 338 2 339 := Or.inl ⟨2, by decide +kernel, rfl, rfl⟩
theorem iL_law_339 : DLdA mL_law 339 0 340 := Or.inl ⟨0, by decide +kernel, rfl, rfl⟩
theorem iL_law_340 : DLdI mL_law 340 3 341 := Or.inl ⟨3, by decide +kernel, rfl, rfl⟩
theorem iL_law_341 : DPushI mL_law 341 1 342 := Or.inl ⟨1, by decide +kernel, by decide, rfl⟩
theorem iL_law_342 : D1 mL_law 342 .iadd 1 343 := ⟨by decide +kernel, rfl⟩
theorem iL_law_343 : D1 mL_law 343 .iaload 1 344 := ⟨by decide +kernel, rfl⟩
theorem iL_law_344 : DLdA mL_law 344 0 345 := Or.inl ⟨0, by decide +kernel, rfl, rfl⟩
theorem iL_law_345 : DLdI mL_law 345 3 346 := Or.inl ⟨3, by decide +kernel, rfl, rfl⟩
theorem iL_law_346 : DPushI mL_law 346 2 347 := Or.inl ⟨2, by decide +kernel, by decide, rfl⟩
theorem iL_law_347 : D1 mL_law 347 .iadd 1 348 := ⟨by decide +kernel, rfl⟩
theorem iL_law_348 : D1 mL_law 348 .iaload 1 349 := ⟨by decide +kernel, rfl⟩
theorem iL_law_349 : DInvV mL_law 349 mX7_rule 7 2 352 := ⟨34, TX7, 17, by decide +kernel, rfl, rfl, xl_RL_34, xi_X7_rule, xs_X7_rule, xm_X7_rule⟩
theorem iL_law_352 : DCm mL_law 352 .eq 1215 355 := ⟨863, by decide +kernel, by decide, rfl⟩
theorem iL_law_355 : DPushI mL_law 355 0 356 := Or.inl ⟨0, by decide +kernel, by decide, rfl⟩
theorem iL_law_356 : mL_law.2.2.2 = some .boolean ∧ decode mL_law.2.1 356 = .ok (.ireturn, 1) := ⟨rfl, by decide +kernel⟩
theorem iL_law_357 : DLdA mL_law 357 1 358 := Or.inl ⟨1, by decide +kernel, rfl, rfl⟩
theorem iL_law_358 : DLdA mL_law 358 0 359 := Or.inl ⟨0, by decide +kernel, rfl, rfl⟩
theorem iL_law_359 : DLdI mL_law 359 3 360 := Or.inl ⟨3, by decide +kernel, rfl, rfl⟩
theorem iL_law_360 : DPushI mL_law 360 1 361 := Or.inl ⟨1, by decide +kernel, by decide, rfl⟩
theorem iL_law_361 : D1 mL_law 361 .iadd 1 362 := ⟨by decide +kernel, rfl⟩
theorem iL_law_362 : D1 mL_law 362 .iaload 1 363 := ⟨by decide +kernel, rfl⟩
theorem iL_law_363 : DInvV mL_law 363 mX6_type 6 1 366 := ⟨35, TX6, 10, by decide +kernel, rfl, rfl, xl_RL_35, xi_X6_type, xs_X6_type, xm_X6_type⟩
theorem iL_law_366 : DLdA mL_law 366 2 367 := Or.inl ⟨2, by decide +kernel, rfl, rfl⟩
theorem iL_law_367 : DLdA mL_law 367 0 368 := Or.inl ⟨0, by decide +kernel, rfl, rfl⟩
theorem iL_law_368 : DLdI mL_law 368 3 369 := Or.inl ⟨3, by decide +kernel, rfl, rfl⟩
theorem iL_law_369 : DPushI mL_law 369 1 370 := Or.inl ⟨1, by decide +kernel, by decide, rfl⟩
theorem iL_law_370 : D1 mL_law 370 .iadd 1 371 := ⟨by decide +kernel, rfl⟩
theorem iL_law_371 : D1 mL_law 371 .iaload 1 372 := ⟨by decide +kernel, rfl⟩
theorem iL_law_372 : DInvV mL_law 372 mX7_type 7 1 375 := ⟨39, TX7, 17, by decide +kernel, rfl, rfl, xl_RL_39, xi_X7_type, xs_X7_type, xm_X7_type⟩
theorem iL_law_375 : DCm mL_law 375 .eq 1215 378 := ⟨840, by decide +kernel, by decide, rfl⟩
theorem iL_law_378 : DPushI mL_law 378 0 379 := Or.inl ⟨0, by decide +kernel, by decide, rfl⟩
theorem iL_law_379 : mL_law.2.2.2 = some .boolean ∧ decode mL_law.2.1 379 = .ok (.ireturn, 1) := ⟨rfl, by decide +kernel⟩
theorem iL_law_380 : DLdA mL_law 380 1 381 := Or.inl ⟨1, by decide +kernel, rfl, rfl⟩
theorem iL_law_381 : DInvV mL_law 381 mX6_orchard 6 0 384 := ⟨40, TX6, 10, by decide +kernel, rfl, rfl, xl_RL_40, xi_X6_orchard, xs_X6_orchard, xm_X6_orchard⟩
theorem iL_law_384 : DLdA mL_law 384 2 385 := Or.inl ⟨2, by decide +kernel, rfl, rfl⟩
theorem iL_law_385 : DInvV mL_law 385 mX7_orchard 7 0 388 := ⟨44, TX7, 17, by decide +kernel, rfl, rfl, xl_RL_44, xi_X7_orchard, xs_X7_orchard, xm_X7_orchard⟩
theorem iL_law_388 : DCm mL_law 388 .eq 1215 391 := ⟨827, by decide +kernel, by decide, rfl⟩
theorem iL_law_391 : DPushI mL_law 391 0 392 := Or.inl ⟨0, by decide +kernel, by decide, rfl⟩
theorem iL_law_392 : mL_law.2.2.2 = some .boolean ∧ decode mL_law.2.1 392 = .ok (.ireturn, 1) := ⟨rfl, by decide +kernel⟩
theorem iL_law_393 : DLdA mL_law 393 1 394 := Or.inl ⟨1, by decide +kernel, rfl, rfl⟩
theorem iL_law_394 : DLdA mL_law 394 0 395 := Or.inl ⟨0, by decide +kernel, rfl, rfl⟩
theorem iL_law_395 : DLdI mL_law 395 3 396 := Or.inl ⟨3, by decide +kernel, rfl, rfl⟩
theorem iL_law_396 : DPushI mL_law 396 1 397 := Or.inl ⟨1, by decide +kernel, by decide, rfl⟩
theorem iL_law_397 : D1 mL_law 397 .iadd 1 398 := ⟨by decide +kernel, rfl⟩
theorem iL_law_398 : D1 mL_law 398 .iaload 1 399 := ⟨by decide +kernel, rfl⟩
theorem iL_law_399 : DInvV mL_law 399 mX6_count 6 1 402 := ⟨45, TX6, 10, by decide +kernel, rfl, rfl, xl_RL_45, xi_X6_count, xs_X6_count, xm_X6_count⟩
theorem iL_law_402 : DLdA mL_law 402 2 403 := Or.inl ⟨2, by decide +kernel, rfl, rfl⟩
theorem iL_law_403 : DLdA mL_law 403 0 404 := Or.inl ⟨0, by decide +kernel, rfl, rfl⟩
theorem iL_law_404 : DLdI mL_law 404 3 405 := Or.inl ⟨3, by decide +kernel, rfl, rfl⟩
theorem iL_law_405 : DPushI mL_law 405 1 406 := Or.inl ⟨1, by decide +kernel, by decide, rfl⟩
theorem iL_law_406 : D1 mL_law 406 .iadd 1 407 := ⟨by decide +kernel, rfl⟩
theorem iL_law_407 : D1 mL_law 407 .iaload 1 408 := ⟨by decide +kernel, rfl⟩
theorem iL_law_408 : DInvV mL_law 408 mX7_count 7 1 411 := ⟨48, TX7, 17, by decide +kernel, rfl, rfl, xl_RL_48, xi_X7_count, xs_X7_count, xm_X7_count⟩
theorem iL_law_411 : DCm mL_law 411 .eq 1215 414 := ⟨804, by decide +kernel, by decide, rfl⟩
theorem iL_law_414 : DPushI mL_law 414 0 415 := Or.inl ⟨0, by decide +kernel, by decide, rfl⟩
theorem iL_law_415 : mL_law.2.2.2 = some .boolean ∧ decode mL_law.2.1 415 = .ok (.ireturn, 1) := ⟨rfl, by decide +kernel⟩
theorem iL_law_416 : DLdA mL_law 416 1 417 := Or.inl ⟨1, by decide +kernel, rfl, rfl⟩
theorem iL_law_417 : DLdA mL_law 417 0 418 := Or.inl ⟨0, by decide +kernel, rfl, rfl⟩
theorem iL_law_418 : DLdI mL_law 418 3 419 := Or.inl ⟨3, by decide +kernel, rfl, rfl⟩
theorem iL_law_419 : DPushI mL_law 419 1 420 := Or.inl ⟨1, by decide +kernel, by decide, rfl⟩
theorem iL_law_420 : D1 mL_law 420 .iadd 1 421 := ⟨by decide +kernel, rfl⟩
theorem iL_law_421 : D1 mL_law 421 .iaload 1 422 := ⟨by decide +kernel, rfl⟩
theorem iL_law_422 : DInvV mL_law 422 mX6_days 6 1 425 := ⟨49, TX6, 10, by decide +kernel, rfl, rfl, xl_RL_49, xi_X6_days, xs_X6_days, xm_X6_days⟩
theorem iL_law_425 : DLdA mL_law 425 2 426 := Or.inl ⟨2, by decide +kernel, rfl, rfl⟩
theorem iL_law_426 : DLdA mL_law 426 0 427 := Or.inl ⟨0, by decide +kernel, rfl, rfl⟩
theorem iL_law_427 : DLdI mL_law 427 3 428 := Or.inl ⟨3, by decide +kernel, rfl, rfl⟩
theorem iL_law_428 : DPushI mL_law 428 1 429 := Or.inl ⟨1, by decide +kernel, by decide, rfl⟩
theorem iL_law_429 : D1 mL_law 429 .iadd 1 430 := ⟨by decide +kernel, rfl⟩
theorem iL_law_430 : D1 mL_law 430 .iaload 1 431 := ⟨by decide +kernel, rfl⟩
theorem iL_law_431 : DInvV mL_law 431 mX7_days 7 1 434 := ⟨52, TX7, 17, by decide +kernel, rfl, rfl, xl_RL_52, xi_X7_days, xs_X7_days, xm_X7_days⟩
theorem iL_law_434 : DCm mL_law 434 .eq 1215 437 := ⟨781, by decide +kernel, by decide, rfl⟩
theorem iL_law_437 : DPushI mL_law 437 0 438 := Or.inl ⟨0, by decide +kernel, by decide, rfl⟩
theorem iL_law_438 : mL_law.2.2.2 = some .boolean ∧ decode mL_law.2.1 438 = .ok (.ireturn, 1) := ⟨rfl, by decide +kernel⟩
theorem iL_law_439 : DLdA mL_law 439 1 440 := Or.inl ⟨1, by decide +kernel, rfl, rfl⟩
theorem iL_law_440 : DLdA mL_law 440 0 441 := Or.inl ⟨0, by decide +kernel, rfl, rfl⟩
theorem iL_law_441 : DLdI mL_law 441 3 442 := Or.inl ⟨3, by decide +kernel, rfl, rfl⟩
theorem iL_law_442 : DPushI mL_law 442 1 443 := Or.inl ⟨1, by decide +kernel, by decide, rfl⟩
theorem iL_law_443 : D1 mL_law 443 .iadd 1 444 := ⟨by decide +kernel, rfl⟩
theorem iL_law_444 : D1 mL_law 444 .iaload 1 445 := ⟨by decide +kernel, rfl⟩
theorem iL_law_445 : DLdA mL_law 445 0 446 := Or.inl ⟨0, by decide +kernel, rfl, rfl⟩
theorem iL_law_446 : DLdI mL_law 446 3 447 := Or.inl ⟨3, by decide +kernel, rfl, rfl⟩
theorem iL_law_447 : DPushI mL_law 447 2 448 := Or.inl ⟨2, by decide +kernel, by decide, rfl⟩
theorem iL_law_448 : D1 mL_law 448 .iadd 1 449 := ⟨by decide +kernel, rfl⟩
theorem iL_law_449 : D1 mL_law 449 .iaload 1 450 := ⟨by decide +kernel, rfl⟩
theorem iL_law_450 : DInvV mL_law 450 mX6_lean 6 2 453 := ⟨53, TX6, 10, by decide +kernel, rfl, rfl, xl_RL_53, xi_X6_lean, xs_X6_lean, xm_X6_lean⟩
theorem iL_law_453 : DLdA mL_law 453 2 454 := Or.inl ⟨2, by decide +kernel, rfl, rfl⟩
theorem iL_law_454 : DLdA mL_law 454 0 455 := Or.inl ⟨0, by decide +kernel, rfl, rfl⟩
theorem iL_law_455 : DLdI mL_law 455 3 456 := Or.inl ⟨3, by decide +kernel, rfl, rfl⟩
theorem iL_law_456 : DPushI mL_law 456 1 457 := Or.inl ⟨1, by decide +kernel, by decide, rfl⟩
theorem iL_law_457 : D1 mL_law 457 .iadd 1 458 := ⟨by decide +kernel, rfl⟩
theorem iL_law_458 : D1 mL_law 458 .iaload 1 459 := ⟨by decide +kernel, rfl⟩
theorem iL_law_459 : DLdA mL_law 459 0 460 := Or.inl ⟨0, by decide +kernel, rfl, rfl⟩
theorem iL_law_460 : DLdI mL_law 460 3 461 := Or.inl ⟨3, by decide +kernel, rfl, rfl⟩
theorem iL_law_461 : DPushI mL_law 461 2 462 := Or.inl ⟨2, by decide +kernel, by decide, rfl⟩
theorem iL_law_462 : D1 mL_law 462 .iadd 1 463 := ⟨by decide +kernel, rfl⟩
theorem iL_law_463 : D1 mL_law 463 .iaload 1 464 := ⟨by decide +kernel, rfl⟩
theorem iL_law_464 : DInvV mL_law 464 mX7_lean 7 2 467 := ⟨56, TX7, 17, by decide +kernel, rfl, rfl, xl_RL_56, xi_X7_lean, xs_X7_lean, xm_X7_lean⟩
theorem iL_law_467 : DCm mL_law 467 .eq 1215 470 := ⟨748, by decide +kernel, by decide, rfl⟩
theorem iL_law_470 : DPushI mL_law 470 0 471 := Or.inl ⟨0, by decide +kernel, by decide, rfl⟩
theorem iL_law_471 : mL_law.2.2.2 = some .boolean ∧ decode mL_law.2.1 471 = .ok (.ireturn, 1) := ⟨rfl, by decide +kernel⟩
theorem iL_law_472 : DLdA mL_law 472 1 473 := Or.inl ⟨1, by decide +kernel, rfl, rfl⟩
theorem iL_law_473 : DLdA mL_law 473 0 474 := Or.inl ⟨0, by decide +kernel, rfl, rfl⟩
theorem iL_law_474 : DLdI mL_law 474 3 475 := Or.inl ⟨3, by decide +kernel, rfl, rfl⟩
theorem iL_law_475 : DPushI mL_law 475 1 476 := Or.inl ⟨1, by decide +kernel, by decide, rfl⟩
theorem iL_law_476 : D1 mL_law 476 .iadd 1 477 := ⟨by decide +kernel, rfl⟩
theorem iL_law_477 : D1 mL_law 477 .iaload 1 478 := ⟨by decide +kernel, rfl⟩
theorem iL_law_478 : DInvV mL_law 478 mX6_shake 6 1 481 := ⟨57, TX6, 10, by decide +kernel, rfl, rfl, xl_RL_57, xi_X6_shake, xs_X6_shake, xm_X6_shake⟩
theorem iL_law_481 : DLdA mL_law 481 2 482 := Or.inl ⟨2, by decide +kernel, rfl, rfl⟩
theorem iL_law_482 : DLdA mL_law 482 0 483 := Or.inl ⟨0, by decide +kernel, rfl, rfl⟩
theorem iL_law_483 : DLdI mL_law 483 3 484 := Or.inl ⟨3, by decide +kernel, rfl, rfl⟩
theorem iL_law_484 : DPushI mL_law 484 1 485 := Or.inl ⟨1, by decide +kernel, by decide, rfl⟩
theorem iL_law_485 : D1 mL_law 485 .iadd 1 486 := ⟨by decide +kernel, rfl⟩
theorem iL_law_486 : D1 mL_law 486 .iaload 1 487 := ⟨by decide +kernel, rfl⟩
theorem iL_law_487 : DInvV mL_law 487 mX7_shake 7 1 490 := ⟨60, TX7, 17, by decide +kernel, rfl, rfl, xl_RL_60, xi_X7_shake, xs_X7_shake, xm_X7_shake⟩
theorem iL_law_490 : DCm mL_law 490 .eq 1215 493 := ⟨725, by decide +kernel, by decide, rfl⟩
theorem iL_law_493 : DPushI mL_law 493 0 494 := Or.inl ⟨0, by decide +kernel, by decide, rfl⟩
theorem iL_law_494 : mL_law.2.2.2 = some .boolean ∧ decode mL_law.2.1 494 = .ok (.ireturn, 1) := ⟨rfl, by decide +kernel⟩
theorem iL_law_495 : DLdA mL_law 495 1 496 := Or.inl ⟨1, by decide +kernel, rfl, rfl⟩
theorem iL_law_496 : DLdA mL_law 496 0 497 := Or.inl ⟨0, by decide +kernel, rfl, rfl⟩
theorem iL_law_497 : DLdI mL_law 497 3 498 := Or.inl ⟨3, by decide +kernel, rfl, rfl⟩
theorem iL_law_498 : DPushI mL_law 498 1 499 := Or.inl ⟨1, by decide +kernel, by decide, rfl⟩
theorem iL_law_499 : D1 mL_law 499 .iadd 1 500 := ⟨by decide +kernel, rfl⟩
theorem iL_law_500 : D1 mL_law 500 .iaload 1 501 := ⟨by decide +kernel, rfl⟩
theorem iL_law_501 : DInvV mL_law 501 mX6_drift 6 1 504 := ⟨61, TX6, 10, by decide +kernel, rfl, rfl, xl_RL_61, xi_X6_drift, xs_X6_drift, xm_X6_drift⟩
theorem iL_law_504 : DLdA mL_law 504 2 505 := Or.inl ⟨2, by decide +kernel, rfl, rfl⟩
theorem iL_law_505 : DLdA mL_law 505 0 506 := Or.inl ⟨0, by decide +kernel, rfl, rfl⟩
theorem iL_law_506 : DLdI mL_law 506 3 507 := Or.inl ⟨3, by decide +kernel, rfl, rfl⟩
theorem iL_law_507 : DPushI mL_law 507 1 508 := Or.inl ⟨1, by decide +kernel, by decide, rfl⟩
theorem iL_law_508 : D1 mL_law 508 .iadd 1 509 := ⟨by decide +kernel, rfl⟩
theorem iL_law_509 : D1 mL_law 509 .iaload 1 510 := ⟨by decide +kernel, rfl⟩
theorem iL_law_510 : DInvV mL_law 510 mX7_drift 7 1 513 := ⟨64, TX7, 17, by decide +kernel, rfl, rfl, xl_RL_64, xi_X7_drift, xs_X7_drift, xm_X7_drift⟩
theorem iL_law_513 : DCm mL_law 513 .eq 1215 516 := ⟨702, by decide +kernel, by decide, rfl⟩
theorem iL_law_516 : DPushI mL_law 516 0 517 := Or.inl ⟨0, by decide +kernel, by decide, rfl⟩
theorem iL_law_517 : mL_law.2.2.2 = some .boolean ∧ decode mL_law.2.1 517 = .ok (.ireturn, 1) := ⟨rfl, by decide +kernel⟩
theorem iL_law_518 : DLdA mL_law 518 1 519 := Or.inl ⟨1, by decide +kernel, rfl, rfl⟩
theorem iL_law_519 : DInvV mL_law 519 mX6_undo 6 0 522 := ⟨65, TX6, 10, by decide +kernel, rfl, rfl, xl_RL_65, xi_X6_undo, xs_X6_undo, xm_X6_undo⟩
theorem iL_law_522 : DLdA mL_law 522 2 523 := Or.inl ⟨2, by decide +kernel, rfl, rfl⟩
theorem iL_law_523 : DInvV mL_law 523 mX7_undo 7 0 526 := ⟨68, TX7, 17, by decide +kernel, rfl, rfl, xl_RL_68, xi_X7_undo, xs_X7_undo, xm_X7_undo⟩
end
section
theorem iL_law_526 : DCm mL_law 526 .eq 1215 529 := ⟨689, by decide +kernel, by decide, rfl⟩
theorem iL_law_529 : DPushI mL_law 529 0 530 := Or.inl ⟨0, by decide +kernel, by decide, rfl⟩
theorem iL_law_530 : mL_law.2.2.2 = some .boolean ∧ decode mL_law.2.1 530 = .ok (.ireturn, 1) := ⟨rfl, by decide +kernel⟩
theorem iL_law_531 : DLdA mL_law 531 1 532 := Or.inl ⟨1, by decide +kernel, rfl, rfl⟩
theorem iL_law_532 : DLdA mL_law 532 0 533 := Or.inl ⟨0, by decide +kernel, rfl, rfl⟩
theorem iL_law_533 : DLdI mL_law 533 3 534 := Or.inl ⟨3, by decide +kernel, rfl, rfl⟩
theorem iL_law_534 : DPushI mL_law 534 1 535 := Or.inl ⟨1, by decide +kernel, by decide, rfl⟩
theorem iL_law_535 : D1 mL_law 535 .iadd 1 536 := ⟨by decide +kernel, rfl⟩
theorem iL_law_536 : D1 mL_law 536 .iaload 1 537 := ⟨by decide +kernel, rfl⟩
theorem iL_law_537 : DInvV mL_law 537 mX6_seed 6 1 540 := ⟨69, TX6, 10, by decide +kernel, rfl, rfl, xl_RL_69, xi_X6_seed, xs_X6_seed, xm_X6_seed⟩
theorem iL_law_540 : DLdA mL_law 540 2 541 := Or.inl ⟨2, by decide +kernel, rfl, rfl⟩
theorem iL_law_541 : DLdA mL_law 541 0 542 := Or.inl ⟨0, by decide +kernel, rfl, rfl⟩
theorem iL_law_542 : DLdI mL_law 542 3 543 := Or.inl ⟨3, by decide +kernel, rfl, rfl⟩
theorem iL_law_543 : DPushI mL_law 543 1 544 := Or.inl ⟨1, by decide +kernel, by decide, rfl⟩
theorem iL_law_544 : D1 mL_law 544 .iadd 1 545 := ⟨by decide +kernel, rfl⟩
theorem iL_law_545 : D1 mL_law 545 .iaload 1 546 := ⟨by decide +kernel, rfl⟩
theorem iL_law_546 : DInvV mL_law 546 mX7_seed 7 1 549 := ⟨72, TX7, 17, by decide +kernel, rfl, rfl, xl_RL_72, xi_X7_seed, xs_X7_seed, xm_X7_seed⟩
theorem iL_law_549 : DCm mL_law 549 .eq 1215 552 := ⟨666, by decide +kernel, by decide, rfl⟩
theorem iL_law_552 : DPushI mL_law 552 0 553 := Or.inl ⟨0, by decide +kernel, by decide, rfl⟩
theorem iL_law_553 : mL_law.2.2.2 = some .boolean ∧ decode mL_law.2.1 553 = .ok (.ireturn, 1) := ⟨rfl, by decide +kernel⟩
theorem iL_law_554 : DLdA mL_law 554 1 555 := Or.inl ⟨1, by decide +kernel, rfl, rfl⟩
theorem iL_law_555 : DLdA mL_law 555 0 556 := Or.inl ⟨0, by decide +kernel, rfl, rfl⟩
theorem iL_law_556 : DLdI mL_law 556 3 557 := Or.inl ⟨3, by decide +kernel, rfl, rfl⟩
theorem iL_law_557 : DPushI mL_law 557 1 558 := Or.inl ⟨1, by decide +kernel, by decide, rfl⟩
theorem iL_law_558 : D1 mL_law 558 .iadd 1 559 := ⟨by decide +kernel, rfl⟩
theorem iL_law_559 : D1 mL_law 559 .iaload 1 560 := ⟨by decide +kernel, rfl⟩
theorem iL_law_560 : DLdA mL_law 560 0 561 := Or.inl ⟨0, by decide +kernel, rfl, rfl⟩
theorem iL_law_561 : DLdI mL_law 561 3 562 := Or.inl ⟨3, by decide +kernel, rfl, rfl⟩
theorem iL_law_562 : DPushI mL_law 562 2 563 := Or.inl ⟨2, by decide +kernel, by decide, rfl⟩
theorem iL_law_563 : D1 mL_law 563 .iadd 1 564 := ⟨by decide +kernel, rfl⟩
theorem iL_law_564 : D1 mL_law 564 .iaload 1 565 := ⟨by decide +kernel, rfl⟩
theorem iL_law_565 : DInvV mL_law 565 mX6_ahead 6 2 568 := ⟨73, TX6, 10, by decide +kernel, rfl, rfl, xl_RL_73, xi_X6_ahead, xs_X6_ahead, xm_X6_ahead⟩
theorem iL_law_568 : DLdA mL_law 568 2 569 := Or.inl ⟨2, by decide +kernel, rfl, rfl⟩
theorem iL_law_569 : DLdA mL_law 569 0 570 := Or.inl ⟨0, by decide +kernel, rfl, rfl⟩
theorem iL_law_570 : DLdI mL_law 570 3 571 := Or.inl ⟨3, by decide +kernel, rfl, rfl⟩
theorem iL_law_571 : DPushI mL_law 571 1 572 := Or.inl ⟨1, by decide +kernel, by decide, rfl⟩
theorem iL_law_572 : D1 mL_law 572 .iadd 1 573 := ⟨by decide +kernel, rfl⟩
theorem iL_law_573 : D1 mL_law 573 .iaload 1 574 := ⟨by decide +kernel, rfl⟩
theorem iL_law_574 : DLdA mL_law 574 0 575 := Or.inl ⟨0, by decide +kernel, rfl, rfl⟩
theorem iL_law_575 : DLdI mL_law 575 3 576 := Or.inl ⟨3, by decide +kernel, rfl, rfl⟩
theorem iL_law_576 : DPushI mL_law 576 2 577 := Or.inl ⟨2, by decide +kernel, by decide, rfl⟩
theorem iL_law_577 : D1 mL_law 577 .iadd 1 578 := ⟨by decide +kernel, rfl⟩
theorem iL_law_578 : D1 mL_law 578 .iaload 1 579 := ⟨by decide +kernel, rfl⟩
theorem iL_law_579 : DInvV mL_law 579 mX7_ahead 7 2 582 := ⟨76, TX7, 17, by decide +kernel, rfl, rfl, xl_RL_76, xi_X7_ahead, xs_X7_ahead, xm_X7_ahead⟩
theorem iL_law_582 : DCm mL_law 582 .eq 1215 585 := ⟨633, by decide +kernel, by decide, rfl⟩
theorem iL_law_585 : DPushI mL_law 585 0 586 := Or.inl ⟨0, by decide +kernel, by decide, rfl⟩
theorem iL_law_586 : mL_law.2.2.2 = some .boolean ∧ decode mL_law.2.1 586 = .ok (.ireturn, 1) := ⟨rfl, by decide +kernel⟩
theorem iL_law_587 : DLdA mL_law 587 1 588 := Or.inl ⟨1, by decide +kernel, rfl, rfl⟩
theorem iL_law_588 : DLdA mL_law 588 0 589 := Or.inl ⟨0, by decide +kernel, rfl, rfl⟩
theorem iL_law_589 : DLdI mL_law 589 3 590 := Or.inl ⟨3, by decide +kernel, rfl, rfl⟩
theorem iL_law_590 : DPushI mL_law 590 1 591 := Or.inl ⟨1, by decide +kernel, by decide, rfl⟩
theorem iL_law_591 : D1 mL_law 591 .iadd 1 592 := ⟨by decide +kernel, rfl⟩
theorem iL_law_592 : D1 mL_law 592 .iaload 1 593 := ⟨by decide +kernel, rfl⟩
theorem iL_law_593 : DLdA mL_law 593 0 594 := Or.inl ⟨0, by decide +kernel, rfl, rfl⟩
theorem iL_law_594 : DLdI mL_law 594 3 595 := Or.inl ⟨3, by decide +kernel, rfl, rfl⟩
theorem iL_law_595 : DPushI mL_law 595 2 596 := Or.inl ⟨2, by decide +kernel, by decide, rfl⟩
theorem iL_law_596 : D1 mL_law 596 .iadd 1 597 := ⟨by decide +kernel, rfl⟩
theorem iL_law_597 : D1 mL_law 597 .iaload 1 598 := ⟨by decide +kernel, rfl⟩
theorem iL_law_598 : DInvV mL_law 598 mX6_fruit 6 2 601 := ⟨77, TX6, 10, by decide +kernel, rfl, rfl, xl_RL_77, xi_X6_fruit, xs_X6_fruit, xm_X6_fruit⟩
theorem iL_law_601 : DLdA mL_law 601 2 602 := Or.inl ⟨2, by decide +kernel, rfl, rfl⟩
theorem iL_law_602 : DLdA mL_law 602 0 603 := Or.inl ⟨0, by decide +kernel, rfl, rfl⟩
theorem iL_law_603 : DLdI mL_law 603 3 604 := Or.inl ⟨3, by decide +kernel, rfl, rfl⟩
theorem iL_law_604 : DPushI mL_law 604 1 605 := Or.inl ⟨1, by decide +kernel, by decide, rfl⟩
theorem iL_law_605 : D1 mL_law 605 .iadd 1 606 := ⟨by decide +kernel, rfl⟩
theorem iL_law_606 : D1 mL_law 606 .iaload 1 607 := ⟨by decide +kernel, rfl⟩
theorem iL_law_607 : DLdA mL_law 607 0 608 := Or.inl ⟨0, by decide +kernel, rfl, rfl⟩
theorem iL_law_608 : DLdI mL_law 608 3 609 := Or.inl ⟨3, by decide +kernel, rfl, rfl⟩
theorem iL_law_609 : DPushI mL_law 609 2 610 := Or.inl ⟨2, by decide +kernel, by decide, rfl⟩
theorem iL_law_610 : D1 mL_law 610 .iadd 1 611 := ⟨by decide +kernel, rfl⟩
theorem iL_law_611 : D1 mL_law 611 .iaload 1 612 := ⟨by decide +kernel, rfl⟩
theorem iL_law_612 : DInvV mL_law 612 mX7_fruit 7 2 615 := ⟨80, TX7, 17, by decide +kernel, rfl, rfl, xl_RL_80, xi_X7_fruit, xs_X7_fruit, xm_X7_fruit⟩
theorem iL_law_615 : DCm mL_law 615 .eq 1215 618 := ⟨600, by decide +kernel, by decide, rfl⟩
theorem iL_law_618 : DPushI mL_law 618 0 619 := Or.inl ⟨0, by decide +kernel, by decide, rfl⟩
theorem iL_law_619 : mL_law.2.2.2 = some .boolean ∧ decode mL_law.2.1 619 = .ok (.ireturn, 1) := ⟨rfl, by decide +kernel⟩
theorem iL_law_620 : DLdA mL_law 620 1 621 := Or.inl ⟨1, by decide +kernel, rfl, rfl⟩
theorem iL_law_621 : DLdA mL_law 621 0 622 := Or.inl ⟨0, by decide +kernel, rfl, rfl⟩
theorem iL_law_622 : DLdI mL_law 622 3 623 := Or.inl ⟨3, by decide +kernel, rfl, rfl⟩
theorem iL_law_623 : DPushI mL_law 623 1 624 := Or.inl ⟨1, by decide +kernel, by decide, rfl⟩
theorem iL_law_624 : D1 mL_law 624 .iadd 1 625 := ⟨by decide +kernel, rfl⟩
theorem iL_law_625 : D1 mL_law 625 .iaload 1 626 := ⟨by decide +kernel, rfl⟩
theorem iL_law_626 : DLdA mL_law 626 0 627 := Or.inl ⟨0, by decide +kernel, rfl, rfl⟩
theorem iL_law_627 : DLdI mL_law 627 3 628 := Or.inl ⟨3, by decide +kernel, rfl, rfl⟩
theorem iL_law_628 : DPushI mL_law 628 2 629 := Or.inl ⟨2, by decide +kernel, by decide, rfl⟩
theorem iL_law_629 : D1 mL_law 629 .iadd 1 630 := ⟨by decide +kernel, rfl⟩
theorem iL_law_630 : D1 mL_law 630 .iaload 1 631 := ⟨by decide +kernel, rfl⟩
theorem iL_law_631 : DInvV mL_law 631 mX6_reached 6 2 634 := ⟨81, TX6, 10, by decide +kernel, rfl, rfl, xl_RL_81, xi_X6_reached, xs_X6_reached, xm_X6_reached⟩
theorem iL_law_634 : DLdA mL_law 634 2 635 := Or.inl ⟨2, by decide +kernel, rfl, rfl⟩
theorem iL_law_635 : DLdA mL_law 635 0 636 := Or.inl ⟨0, by decide +kernel, rfl, rfl⟩
theorem iL_law_636 : DLdI mL_law 636 3 637 := Or.inl ⟨3, by decide +kernel, rfl, rfl⟩
theorem iL_law_637 : DPushI mL_law 637 1 638 := Or.inl ⟨1, by decide +kernel, by decide, rfl⟩
theorem iL_law_638 : D1 mL_law 638 .iadd 1 639 := ⟨by decide +kernel, rfl⟩
theorem iL_law_639 : D1 mL_law 639 .iaload 1 640 := ⟨by decide +kernel, rfl⟩
theorem iL_law_640 : DLdA mL_law 640 0 641 := Or.inl ⟨0, by decide +kernel, rfl, rfl⟩
theorem iL_law_641 : DLdI mL_law 641 3 642 := Or.inl ⟨3, by decide +kernel, rfl, rfl⟩
theorem iL_law_642 : DPushI mL_law 642 2 643 := Or.inl ⟨2, by decide +kernel, by decide, rfl⟩
theorem iL_law_643 : D1 mL_law 643 .iadd 1 644 := ⟨by decide +kernel, rfl⟩
theorem iL_law_644 : D1 mL_law 644 .iaload 1 645 := ⟨by decide +kernel, rfl⟩
theorem iL_law_645 : DInvV mL_law 645 mX7_reached 7 2 648 := ⟨84, TX7, 17, by decide +kernel, rfl, rfl, xl_RL_84, xi_X7_reached, xs_X7_reached, xm_X7_reached⟩
theorem iL_law_648 : DCm mL_law 648 .eq 1215 651 := ⟨567, by decide +kernel, by decide, rfl⟩
theorem iL_law_651 : DPushI mL_law 651 0 652 := Or.inl ⟨0, by decide +kernel, by decide, rfl⟩
theorem iL_law_652 : mL_law.2.2.2 = some .boolean ∧ decode mL_law.2.1 652 = .ok (.ireturn, 1) := ⟨rfl, by decide +kernel⟩
theorem iL_law_653 : DLdA mL_law 653 1 654 := Or.inl ⟨1, by decide +kernel, rfl, rfl⟩
theorem iL_law_654 : DInvV mL_law 654 mX6_gathered 6 0 657 := ⟨85, TX6, 10, by decide +kernel, rfl, rfl, xl_RL_85, xi_X6_gathered, xs_X6_gathered, xm_X6_gathered⟩
theorem iL_law_657 : DLdA mL_law 657 2 658 := Or.inl ⟨2, by decide +kernel, rfl, rfl⟩
theorem iL_law_658 : DInvV mL_law 658 mX7_gathered 7 0 661 := ⟨88, TX7, 17, by decide +kernel, rfl, rfl, xl_RL_88, xi_X7_gathered, xs_X7_gathered, xm_X7_gathered⟩
theorem iL_law_661 : DCm mL_law 661 .eq 1215 664 := ⟨554, by decide +kernel, by decide, rfl⟩
theorem iL_law_664 : DPushI mL_law 664 0 665 := Or.inl ⟨0, by decide +kernel, by decide, rfl⟩
theorem iL_law_665 : mL_law.2.2.2 = some .boolean ∧ decode mL_law.2.1 665 = .ok (.ireturn, 1) := ⟨rfl, by decide +kernel⟩
theorem iL_law_666 : DLdA mL_law 666 1 667 := Or.inl ⟨1, by decide +kernel, rfl, rfl⟩
theorem iL_law_667 : DLdA mL_law 667 0 668 := Or.inl ⟨0, by decide +kernel, rfl, rfl⟩
theorem iL_law_668 : DLdI mL_law 668 3 669 := Or.inl ⟨3, by decide +kernel, rfl, rfl⟩
theorem iL_law_669 : DPushI mL_law 669 1 670 := Or.inl ⟨1, by decide +kernel, by decide, rfl⟩
theorem iL_law_670 : D1 mL_law 670 .iadd 1 671 := ⟨by decide +kernel, rfl⟩
theorem iL_law_671 : D1 mL_law 671 .iaload 1 672 := ⟨by decide +kernel, rfl⟩
theorem iL_law_672 : DLdA mL_law 672 0 673 := Or.inl ⟨0, by decide +kernel, rfl, rfl⟩
theorem iL_law_673 : DLdI mL_law 673 3 674 := Or.inl ⟨3, by decide +kernel, rfl, rfl⟩
theorem iL_law_674 : DPushI mL_law 674 2 675 := Or.inl ⟨2, by decide +kernel, by decide, rfl⟩
theorem iL_law_675 : D1 mL_law 675 .iadd 1 676 := ⟨by decide +kernel, rfl⟩
theorem iL_law_676 : D1 mL_law 676 .iaload 1 677 := ⟨by decide +kernel, rfl⟩
theorem iL_law_677 : DInvV mL_law 677 mX6_plan 6 2 680 := ⟨89, TX6, 10, by decide +kernel, rfl, rfl, xl_RL_89, xi_X6_plan, xs_X6_plan, xm_X6_plan⟩
theorem iL_law_680 : DLdA mL_law 680 2 681 := Or.inl ⟨2, by decide +kernel, rfl, rfl⟩
theorem iL_law_681 : DLdA mL_law 681 0 682 := Or.inl ⟨0, by decide +kernel, rfl, rfl⟩
theorem iL_law_682 : DLdI mL_law 682 3 683 := Or.inl ⟨3, by decide +kernel, rfl, rfl⟩
theorem iL_law_683 : DPushI mL_law 683 1 684 := Or.inl ⟨1, by decide +kernel, by decide, rfl⟩
theorem iL_law_684 : D1 mL_law 684 .iadd 1 685 := ⟨by decide +kernel, rfl⟩
theorem iL_law_685 : D1 mL_law 685 .iaload 1 686 := ⟨by decide +kernel, rfl⟩
theorem iL_law_686 : DLdA mL_law 686 0 687 := Or.inl ⟨0, by decide +kernel, rfl, rfl⟩
theorem iL_law_687 : DLdI mL_law 687 3 688 := Or.inl ⟨3, by decide +kernel, rfl, rfl⟩
theorem iL_law_688 : DPushI mL_law 688 2 689 := Or.inl ⟨2, by decide +kernel, by decide, rfl⟩
theorem iL_law_689 : D1 mL_law 689 .iadd 1 690 := ⟨by decide +kernel, rfl⟩
theorem iL_law_690 : D1 mL_law 690 .iaload 1 691 := ⟨by decide +kernel, rfl⟩
theorem iL_law_691 : DInvV mL_law 691 mX7_plan 7 2 694 := ⟨92, TX7, 17, by decide +kernel, rfl, rfl, xl_RL_92, xi_X7_plan, xs_X7_plan, xm_X7_plan⟩
theorem iL_law_694 : DCm mL_law 694 .eq 1215 697 := ⟨521, by decide +kernel, by decide, rfl⟩
theorem iL_law_697 : DPushI mL_law 697 0 698 := Or.inl ⟨0, by decide +kernel, by decide, rfl⟩
theorem iL_law_698 : mL_law.2.2.2 = some .boolean ∧ decode mL_law.2.1 698 = .ok (.ireturn, 1) := ⟨rfl, by decide +kernel⟩
theorem iL_law_699 : DLdA mL_law 699 1 700 := Or.inl ⟨1, by decide +kernel, rfl, rfl⟩
theorem iL_law_700 : DLdA mL_law 700 0 701 := Or.inl ⟨0, by decide +kernel, rfl, rfl⟩
theorem iL_law_701 : DLdI mL_law 701 3 702 := Or.inl ⟨3, by decide +kernel, rfl, rfl⟩
theorem iL_law_702 : DPushI mL_law 702 1 703 := Or.inl ⟨1, by decide +kernel, by decide, rfl⟩
theorem iL_law_703 : D1 mL_law 703 .iadd 1 704 := ⟨by decide +kernel, rfl⟩
theorem iL_law_704 : D1 mL_law 704 .iaload 1 705 := ⟨by decide +kernel, rfl⟩
theorem iL_law_705 : DLdA mL_law 705 0 706 := Or.inl ⟨0, by decide +kernel, rfl, rfl⟩
theorem iL_law_706 : DLdI mL_law 706 3 707 := Or.inl ⟨3, by decide +kernel, rfl, rfl⟩
theorem iL_law_707 : DPushI mL_law 707 2 708 := Or.inl ⟨2, by decide +kernel, by decide, rfl⟩
theorem iL_law_708 : D1 mL_law 708 .iadd 1 709 := ⟨by decide +kernel, rfl⟩
theorem iL_law_709 : D1 mL_law 709 .iaload 1 710 := ⟨by decide +kernel, rfl⟩
theorem iL_law_710 : DLdA mL_law 710 0 711 := Or.inl ⟨0, by decide +kernel, rfl, rfl⟩
theorem iL_law_711 : DLdI mL_law 711 3 712 := Or.inl ⟨3, by decide +kernel, rfl, rfl⟩
theorem iL_law_712 : DPushI mL_law 712 3 713 := Or.inl ⟨3, by decide +kernel, by decide, rfl⟩
theorem iL_law_713 : D1 mL_law 713 .iadd 1 714 := ⟨by decide +kernel, rfl⟩
theorem iL_law_714 : D1 mL_law 714 .iaload 1 715 := ⟨by decide +kernel, rfl⟩
theorem iL_law_715 : DInvV mL_law 715 mX6_round 6 3 718 := ⟨93, TX6, 10, by decide +kernel, rfl, rfl, xl_RL_93, xi_X6_round, xs_X6_round, xm_X6_round⟩
theorem iL_law_718 : DLdA mL_law 718 2 719 := Or.inl ⟨2, by decide +kernel, rfl, rfl⟩
theorem iL_law_719 : DLdA mL_law 719 0 720 := Or.inl ⟨0, by decide +kernel, rfl, rfl⟩
theorem iL_law_720 : DLdI mL_law 720 3 721 := Or.inl ⟨3, by decide +kernel, rfl, rfl⟩
theorem iL_law_721 : DPushI mL_law 721 1 722 := Or.inl ⟨1, by decide +kernel, by decide, rfl⟩
theorem iL_law_722 : D1 mL_law 722 .iadd 1 723 := ⟨by decide +kernel, rfl⟩
theorem iL_law_723 : D1 mL_law 723 .iaload 1 724 := ⟨by decide +kernel, rfl⟩
theorem iL_law_724 : DLdA mL_law 724 0 725 := Or.inl ⟨0, by decide +kernel, rfl, rfl⟩
theorem iL_law_725 : DLdI mL_law 725 3 726 := Or.inl ⟨3, by decide +kernel, rfl, rfl⟩
theorem iL_law_726 : DPushI mL_law 726 2 727 := Or.inl ⟨2, by decide +kernel, by decide, rfl⟩
theorem iL_law_727 : D1 mL_law 727 .iadd 1 728 := ⟨by decide +kernel, rfl⟩
theorem iL_law_728 : D1 mL_law 728 .iaload 1 729 := ⟨by decide +kernel, rfl⟩
theorem iL_law_729 : DLdA mL_law 729 0 730 := Or.inl ⟨0, by decide +kernel, rfl, rfl⟩
theorem iL_law_730 : DLdI mL_law 730 3 731 := Or.inl ⟨3, by decide +kernel, rfl, rfl⟩
theorem iL_law_731 : DPushI mL_law 731 3 732 := Or.inl ⟨3, by decide +kernel, by decide, rfl⟩
theorem iL_law_732 : D1 mL_law 732 .iadd 1 733 := ⟨by decide +kernel, rfl⟩
theorem iL_law_733 : D1 mL_law 733 .iaload 1 734 := ⟨by decide +kernel, rfl⟩
theorem iL_law_734 : DInvV mL_law 734 mX7_round 7 3 737 := ⟨96, TX7, 17, by decide +kernel, rfl, rfl, xl_RL_96, xi_X7_round, xs_X7_round, xm_X7_round⟩
theorem iL_law_737 : DCm mL_law 737 .eq 1215 740 := ⟨478, by decide +kernel, by decide, rfl⟩
theorem iL_law_740 : DPushI mL_law 740 0 741 := Or.inl ⟨0, by decide +kernel, by decide, rfl⟩
theorem iL_law_741 : mL_law.2.2.2 = some .boolean ∧ decode mL_law.2.1 741 = .ok (.ireturn, 1) := ⟨rfl, by decide +kernel⟩
theorem iL_law_742 : DLdA mL_law 742 1 743 := Or.inl ⟨1, by decide +kernel, rfl, rfl⟩
theorem iL_law_743 : DLdA mL_law 743 0 744 := Or.inl ⟨0, by decide +kernel, rfl, rfl⟩
theorem iL_law_744 : DLdI mL_law 744 3 745 := Or.inl ⟨3, by decide +kernel, rfl, rfl⟩
theorem iL_law_745 : DPushI mL_law 745 1 746 := Or.inl ⟨1, by decide +kernel, by decide, rfl⟩
theorem iL_law_746 : D1 mL_law 746 .iadd 1 747 := ⟨by decide +kernel, rfl⟩
theorem iL_law_747 : D1 mL_law 747 .iaload 1 748 := ⟨by decide +kernel, rfl⟩
theorem iL_law_748 : DLdA mL_law 748 0 749 := Or.inl ⟨0, by decide +kernel, rfl, rfl⟩
theorem iL_law_749 : DLdI mL_law 749 3 750 := Or.inl ⟨3, by decide +kernel, rfl, rfl⟩
theorem iL_law_750 : DPushI mL_law 750 2 751 := Or.inl ⟨2, by decide +kernel, by decide, rfl⟩
theorem iL_law_751 : D1 mL_law 751 .iadd 1 752 := ⟨by decide +kernel, rfl⟩
theorem iL_law_752 : D1 mL_law 752 .iaload 1 753 := ⟨by decide +kernel, rfl⟩
theorem iL_law_753 : DInvV mL_law 753 mX6_longer 6 2 756 := ⟨97, TX6, 10, by decide +kernel, rfl, rfl, xl_RL_97, xi_X6_longer, xs_X6_longer, xm_X6_longer⟩
theorem iL_law_756 : DLdA mL_law 756 2 757 := Or.inl ⟨2, by decide +kernel, rfl, rfl⟩
theorem iL_law_757 : DLdA mL_law 757 0 758 := Or.inl ⟨0, by decide +kernel, rfl, rfl⟩
theorem iL_law_758 : DLdI mL_law 758 3 759 := Or.inl ⟨3, by decide +kernel, rfl, rfl⟩
theorem iL_law_759 : DPushI mL_law 759 1 760 := Or.inl ⟨1, by decide +kernel, by decide, rfl⟩
theorem iL_law_760 : D1 mL_law 760 .iadd 1 761 := ⟨by decide +kernel, rfl⟩
theorem iL_law_761 : D1 mL_law 761 .iaload 1 762 := ⟨by decide +kernel, rfl⟩
theorem iL_law_762 : DLdA mL_law 762 0 763 := Or.inl ⟨0, by decide +kernel, rfl, rfl⟩
theorem iL_law_763 : DLdI mL_law 763 3 764 := Or.inl ⟨3, by decide +kernel, rfl, rfl⟩
theorem iL_law_764 : DPushI mL_law 764 2 765 := Or.inl ⟨2, by decide +kernel, by decide, rfl⟩
theorem iL_law_765 : D1 mL_law 765 .iadd 1 766 := ⟨by decide +kernel, rfl⟩
theorem iL_law_766 : D1 mL_law 766 .iaload 1 767 := ⟨by decide +kernel, rfl⟩
theorem iL_law_767 : DInvV mL_law 767 mX7_longer 7 2 770 := ⟨100, TX7, 17, by decide +kernel, rfl, rfl, xl_RL_100, xi_X7_longer, xs_X7_longer, xm_X7_longer⟩
theorem iL_law_770 : DCm mL_law 770 .eq 1215 773 := ⟨445, by decide +kernel, by decide, rfl⟩
theorem iL_law_773 : DPushI mL_law 773 0 774 := Or.inl ⟨0, by decide +kernel, by decide, rfl⟩
theorem iL_law_774 : mL_law.2.2.2 = some .boolean ∧ decode mL_law.2.1 774 = .ok (.ireturn, 1) := ⟨rfl, by decide +kernel⟩
theorem iL_law_775 : DLdA mL_law 775 1 776 := Or.inl ⟨1, by decide +kernel, rfl, rfl⟩
theorem iL_law_776 : DLdA mL_law 776 0 777 := Or.inl ⟨0, by decide +kernel, rfl, rfl⟩
theorem iL_law_777 : DLdI mL_law 777 3 778 := Or.inl ⟨3, by decide +kernel, rfl, rfl⟩
theorem iL_law_778 : DPushI mL_law 778 1 779 := Or.inl ⟨1, by decide +kernel, by decide, rfl⟩
theorem iL_law_779 : D1 mL_law 779 .iadd 1 780 := ⟨by decide +kernel, rfl⟩
theorem iL_law_780 : D1 mL_law 780 .iaload 1 781 := ⟨by decide +kernel, rfl⟩
theorem iL_law_781 : DLdA mL_law 781 0 782 := Or.inl ⟨0, by decide +kernel, rfl, rfl⟩
theorem iL_law_782 : DLdI mL_law 782 3 783 := Or.inl ⟨3, by decide +kernel, rfl, rfl⟩
theorem iL_law_783 : DPushI mL_law 783 2 784 := Or.inl ⟨2, by decide +kernel, by decide, rfl⟩
theorem iL_law_784 : D1 mL_law 784 .iadd 1 785 := ⟨by decide +kernel, rfl⟩
theorem iL_law_785 : D1 mL_law 785 .iaload 1 786 := ⟨by decide +kernel, rfl⟩
theorem iL_law_786 : DInvV mL_law 786 mX6_larger 6 2 789 := ⟨101, TX6, 10, by decide +kernel, rfl, rfl, xl_RL_101, xi_X6_larger, xs_X6_larger, xm_X6_larger⟩
theorem iL_law_789 : DLdA mL_law 789 2 790 := Or.inl ⟨2, by decide +kernel, rfl, rfl⟩
theorem iL_law_790 : DLdA mL_law 790 0 791 := Or.inl ⟨0, by decide +kernel, rfl, rfl⟩
theorem iL_law_791 : DLdI mL_law 791 3 792 := Or.inl ⟨3, by decide +kernel, rfl, rfl⟩
theorem iL_law_792 : DPushI mL_law 792 1 793 := Or.inl ⟨1, by decide +kernel, by decide, rfl⟩
theorem iL_law_793 : D1 mL_law 793 .iadd 1 794 := ⟨by decide +kernel, rfl⟩
theorem iL_law_794 : D1 mL_law 794 .iaload 1 795 := ⟨by decide +kernel, rfl⟩
theorem iL_law_795 : DLdA mL_law 795 0 796 := Or.inl ⟨0, by decide +kernel, rfl, rfl⟩
theorem iL_law_796 : DLdI mL_law 796 3 797 := Or.inl ⟨3, by decide +kernel, rfl, rfl⟩
theorem iL_law_797 : DPushI mL_law 797 2 798 := Or.inl ⟨2, by decide +kernel, by decide, rfl⟩
theorem iL_law_798 : D1 mL_law 798 .iadd 1 799 := ⟨by decide +kernel, rfl⟩
theorem iL_law_799 : D1 mL_law 799 .iaload 1 800 := ⟨by decide +kernel, rfl⟩
theorem iL_law_800 : DInvV mL_law 800 mX7_larger 7 2 803 := ⟨104, TX7, 17, by decide +kernel, rfl, rfl, xl_RL_104, xi_X7_larger, xs_X7_larger, xm_X7_larger⟩
theorem iL_law_803 : DCm mL_law 803 .eq 1215 806 := ⟨412, by decide +kernel, by decide, rfl⟩
theorem iL_law_806 : DPushI mL_law 806 0 807 := Or.inl ⟨0, by decide +kernel, by decide, rfl⟩
theorem iL_law_807 : mL_law.2.2.2 = some .boolean ∧ decode mL_law.2.1 807 = .ok (.ireturn, 1) := ⟨rfl, by decide +kernel⟩
theorem iL_law_808 : DLdA mL_law 808 1 809 := Or.inl ⟨1, by decide +kernel, rfl, rfl⟩
theorem iL_law_809 : DLdA mL_law 809 0 810 := Or.inl ⟨0, by decide +kernel, rfl, rfl⟩
theorem iL_law_810 : DLdI mL_law 810 3 811 := Or.inl ⟨3, by decide +kernel, rfl, rfl⟩
theorem iL_law_811 : DPushI mL_law 811 1 812 := Or.inl ⟨1, by decide +kernel, by decide, rfl⟩
theorem iL_law_812 : D1 mL_law 812 .iadd 1 813 := ⟨by decide +kernel, rfl⟩
theorem iL_law_813 : D1 mL_law 813 .iaload 1 814 := ⟨by decide +kernel, rfl⟩
theorem iL_law_814 : DLdA mL_law 814 0 815 := Or.inl ⟨0, by decide +kernel, rfl, rfl⟩
theorem iL_law_815 : DLdI mL_law 815 3 816 := Or.inl ⟨3, by decide +kernel, rfl, rfl⟩
theorem iL_law_816 : DPushI mL_law 816 2 817 := Or.inl ⟨2, by decide +kernel, by decide, rfl⟩
theorem iL_law_817 : D1 mL_law 817 .iadd 1 818 := ⟨by decide +kernel, rfl⟩
theorem iL_law_818 : D1 mL_law 818 .iaload 1 819 := ⟨by decide +kernel, rfl⟩
theorem iL_law_819 : DLdA mL_law 819 0 820 := Or.inl ⟨0, by decide +kernel, rfl, rfl⟩
theorem iL_law_820 : DLdI mL_law 820 3 821 := Or.inl ⟨3, by decide +kernel, rfl, rfl⟩
theorem iL_law_821 : DPushI mL_law 821 3 822 := Or.inl ⟨3, by decide +kernel, by decide, rfl⟩
theorem iL_law_822 : D1 mL_law 822 .iadd 1 823 := ⟨by decide +kernel, rfl⟩
theorem iL_law_823 : D1 mL_law 823 .iaload 1 824 := ⟨by decide +kernel, rfl⟩
theorem iL_law_824 : DInvV mL_law 824 mX6_luck 6 3 827 := ⟨105, TX6, 10, by decide +kernel, rfl, rfl, xl_RL_105, xi_X6_luck, xs_X6_luck, xm_X6_luck⟩
theorem iL_law_827 : DLdA mL_law 827 2 828 := Or.inl ⟨2, by decide +kernel, rfl, rfl⟩
theorem iL_law_828 : DLdA mL_law 828 0 829 := Or.inl ⟨0, by decide +kernel, rfl, rfl⟩
theorem iL_law_829 : DLdI mL_law 829 3 830 := Or.inl ⟨3, by decide +kernel, rfl, rfl⟩
theorem iL_law_830 : DPushI mL_law 830 1 831 := Or.inl ⟨1, by decide +kernel, by decide, rfl⟩
theorem iL_law_831 : D1 mL_law 831 .iadd 1 832 := ⟨by decide +kernel, rfl⟩
theorem iL_law_832 : D1 mL_law 832 .iaload 1 833 := ⟨by decide +kernel, rfl⟩
theorem iL_law_833 : DLdA mL_law 833 0 834 := Or.inl ⟨0, by decide +kernel, rfl, rfl⟩
theorem iL_law_834 : DLdI mL_law 834 3 835 := Or.inl ⟨3, by decide +kernel, rfl, rfl⟩
theorem iL_law_835 : DPushI mL_law 835 2 836 := Or.inl ⟨2, by decide +kernel, by decide, rfl⟩
theorem iL_law_836 : D1 mL_law 836 .iadd 1 837 := ⟨by decide +kernel, rfl⟩
theorem iL_law_837 : D1 mL_law 837 .iaload 1 838 := ⟨by decide +kernel, rfl⟩
theorem iL_law_838 : DLdA mL_law 838 0 839 := Or.inl ⟨0, by decide +kernel, rfl, rfl⟩
theorem iL_law_839 : DLdI mL_law 839 3 840 := Or.inl ⟨3, by decide +kernel, rfl, rfl⟩
theorem iL_law_840 : DPushI mL_law 840 3 841 := Or.inl ⟨3, by decide +kernel, by decide, rfl⟩
theorem iL_law_841 : D1 mL_law 841 .iadd 1 842 := ⟨by decide +kernel, rfl⟩
theorem iL_law_842 : D1 mL_law 842 .iaload 1 843 := ⟨by decide +kernel, rfl⟩
theorem iL_law_843 : DInvV mL_law 843 mX7_luck 7 3 846 := ⟨108, TX7, 17, by decide +kernel, rfl, rfl, xl_RL_108, xi_X7_luck, xs_X7_luck, xm_X7_luck⟩
theorem iL_law_846 : DCm mL_law 846 .eq 1215 849 := ⟨369, by decide +kernel, by decide, rfl⟩
theorem iL_law_849 : DPushI mL_law 849 0 850 := Or.inl ⟨0, by decide +kernel, by decide, rfl⟩
theorem iL_law_850 : mL_law.2.2.2 = some .boolean ∧ decode mL_law.2.1 850 = .ok (.ireturn, 1) := ⟨rfl, by decide +kernel⟩
theorem iL_law_851 : DLdA mL_law 851 1 852 := Or.inl ⟨1, by decide +kernel, rfl, rfl⟩
theorem iL_law_852 : DInvV mL_law 852 mX6_image 6 0 855 := ⟨109, TX6, 10, by decide +kernel, rfl, rfl, xl_RL_109, xi_X6_image, xs_X6_image, xm_X6_image⟩
theorem iL_law_855 : DLdA mL_law 855 2 856 := Or.inl ⟨2, by decide +kernel, rfl, rfl⟩
theorem iL_law_856 : DInvV mL_law 856 mX7_image 7 0 859 := ⟨112, TX7, 17, by decide +kernel, rfl, rfl, xl_RL_112, xi_X7_image, xs_X7_image, xm_X7_image⟩
theorem iL_law_859 : DCm mL_law 859 .eq 1215 862 := ⟨356, by decide +kernel, by decide, rfl⟩
theorem iL_law_862 : DPushI mL_law 862 0 863 := Or.inl ⟨0, by decide +kernel, by decide, rfl⟩
theorem iL_law_863 : mL_law.2.2.2 = some .boolean ∧ decode mL_law.2.1 863 = .ok (.ireturn, 1) := ⟨rfl, by decide +kernel⟩
theorem iL_law_864 : DLdA mL_law 864 1 865 := Or.inl ⟨1, by decide +kernel, rfl, rfl⟩
theorem iL_law_865 : DInvV mL_law 865 mX6_restore 6 0 868 := ⟨113, TX6, 10, by decide +kernel, rfl, rfl, xl_RL_113, xi_X6_restore, xs_X6_restore, xm_X6_restore⟩
theorem iL_law_868 : DLdA mL_law 868 2 869 := Or.inl ⟨2, by decide +kernel, rfl, rfl⟩
theorem iL_law_869 : DInvV mL_law 869 mX7_restore 7 0 872 := ⟨116, TX7, 17, by decide +kernel, rfl, rfl, xl_RL_116, xi_X7_restore, xs_X7_restore, xm_X7_restore⟩
theorem iL_law_872 : DCm mL_law 872 .eq 1215 875 := ⟨343, by decide +kernel, by decide, rfl⟩
theorem iL_law_875 : DPushI mL_law 875 0 876 := Or.inl ⟨0, by decide +kernel, by decide, rfl⟩
theorem iL_law_876 : mL_law.2.2.2 = some .boolean ∧ decode mL_law.2.1 876 = .ok (.ireturn, 1) := ⟨rfl, by decide +kernel⟩
theorem iL_law_877 : DLdA mL_law 877 1 878 := Or.inl ⟨1, by decide +kernel, rfl, rfl⟩
theorem iL_law_878 : DLdA mL_law 878 0 879 := Or.inl ⟨0, by decide +kernel, rfl, rfl⟩
theorem iL_law_879 : DLdI mL_law 879 3 880 := Or.inl ⟨3, by decide +kernel, rfl, rfl⟩
theorem iL_law_880 : DPushI mL_law 880 1 881 := Or.inl ⟨1, by decide +kernel, by decide, rfl⟩
theorem iL_law_881 : D1 mL_law 881 .iadd 1 882 := ⟨by decide +kernel, rfl⟩
theorem iL_law_882 : D1 mL_law 882 .iaload 1 883 := ⟨by decide +kernel, rfl⟩
theorem iL_law_883 : DLdA mL_law 883 0 884 := Or.inl ⟨0, by decide +kernel, rfl, rfl⟩
theorem iL_law_884 : DLdI mL_law 884 3 885 := Or.inl ⟨3, by decide +kernel, rfl, rfl⟩
theorem iL_law_885 : DPushI mL_law 885 2 886 := Or.inl ⟨2, by decide +kernel, by decide, rfl⟩
theorem iL_law_886 : D1 mL_law 886 .iadd 1 887 := ⟨by decide +kernel, rfl⟩
theorem iL_law_887 : D1 mL_law 887 .iaload 1 888 := ⟨by decide +kernel, rfl⟩
theorem iL_law_888 : DLdA mL_law 888 0 889 := Or.inl ⟨0, by decide +kernel, rfl, rfl⟩
theorem iL_law_889 : DLdI mL_law 889 3 890 := Or.inl ⟨3, by decide +kernel, rfl, rfl⟩
theorem iL_law_890 : DPushI mL_law 890 3 891 := Or.inl ⟨3, by decide +kernel, by decide, rfl⟩
theorem iL_law_891 : D1 mL_law 891 .iadd 1 892 := ⟨by decide +kernel, rfl⟩
theorem iL_law_892 : D1 mL_law 892 .iaload 1 893 := ⟨by decide +kernel, rfl⟩
theorem iL_law_893 : DLdA mL_law 893 0 894 := Or.inl ⟨0, by decide +kernel, rfl, rfl⟩
theorem iL_law_894 : DLdI mL_law 894 3 895 := Or.inl ⟨3, by decide +kernel, rfl, rfl⟩
theorem iL_law_895 : DPushI mL_law 895 4 896 := Or.inl ⟨4, by decide +kernel, by decide, rfl⟩
theorem iL_law_896 : D1 mL_law 896 .iadd 1 897 := ⟨by decide +kernel, rfl⟩
theorem iL_law_897 : D1 mL_law 897 .iaload 1 898 := ⟨by decide +kernel, rfl⟩
theorem iL_law_898 : DLdA mL_law 898 0 899 := Or.inl ⟨0, by decide +kernel, rfl, rfl⟩
theorem iL_law_899 : DLdI mL_law 899 3 900 := Or.inl ⟨3, by decide +kernel, rfl, rfl⟩
end
section
theorem iL_law_900 : DPushI mL_law 900 5 901 := Or.inl ⟨5, by decide +kernel, by decide, rfl⟩
theorem iL_law_901 : D1 mL_law 901 .iadd 1 902 := ⟨by decide +kernel, rfl⟩
theorem iL_law_902 : D1 mL_law 902 .iaload 1 903 := ⟨by decide +kernel, rfl⟩
theorem iL_law_903 : DInvV mL_law 903 mX6_left 6 5 906 := ⟨117, TX6, 10, by decide +kernel, rfl, rfl, xl_RL_117, xi_X6_left, xs_X6_left, xm_X6_left⟩
theorem iL_law_906 : DLdA mL_law 906 2 907 := Or.inl ⟨2, by decide +kernel, rfl, rfl⟩
theorem iL_law_907 : DLdA mL_law 907 0 908 := Or.inl ⟨0, by decide +kernel, rfl, rfl⟩
theorem iL_law_908 : DLdI mL_law 908 3 909 := Or.inl ⟨3, by decide +kernel, rfl, rfl⟩
theorem iL_law_909 : DPushI mL_law 909 1 910 := Or.inl ⟨1, by decide +kernel, by decide, rfl⟩
theorem iL_law_910 : D1 mL_law 910 .iadd 1 911 := ⟨by decide +kernel, rfl⟩
theorem iL_law_911 : D1 mL_law 911 .iaload 1 912 := ⟨by decide +kernel, rfl⟩
theorem iL_law_912 : DLdA mL_law 912 0 913 := Or.inl ⟨0, by decide +kernel, rfl, rfl⟩
theorem iL_law_913 : DLdI mL_law 913 3 914 := Or.inl ⟨3, by decide +kernel, rfl, rfl⟩
theorem iL_law_914 : DPushI mL_law 914 2 915 := Or.inl ⟨2, by decide +kernel, by decide, rfl⟩
theorem iL_law_915 : D1 mL_law 915 .iadd 1 916 := ⟨by decide +kernel, rfl⟩
theorem iL_law_916 : D1 mL_law 916 .iaload 1 917 := ⟨by decide +kernel, rfl⟩
theorem iL_law_917 : DLdA mL_law 917 0 918 := Or.inl ⟨0, by decide +kernel, rfl, rfl⟩
theorem iL_law_918 : DLdI mL_law 918 3 919 := Or.inl ⟨3, by decide +kernel, rfl, rfl⟩
theorem iL_law_919 : DPushI mL_law 919 3 920 := Or.inl ⟨3, by decide +kernel, by decide, rfl⟩
theorem iL_law_920 : D1 mL_law 920 .iadd 1 921 := ⟨by decide +kernel, rfl⟩
theorem iL_law_921 : D1 mL_law 921 .iaload 1 922 := ⟨by decide +kernel, rfl⟩
theorem iL_law_922 : DLdA mL_law 922 0 923 := Or.inl ⟨0, by decide +kernel, rfl, rfl⟩
theorem iL_law_923 : DLdI mL_law 923 3 924 := Or.inl ⟨3, by decide +kernel, rfl, rfl⟩
theorem iL_law_924 : DPushI mL_law 924 4 925 := Or.inl ⟨4, by decide +kernel, by decide, rfl⟩
theorem iL_law_925 : D1 mL_law 925 .iadd 1 926 := ⟨by decide +kernel, rfl⟩
theorem iL_law_926 : D1 mL_law 926 .iaload 1 927 := ⟨by decide +kernel, rfl⟩
theorem iL_law_927 : DLdA mL_law 927 0 928 := Or.inl ⟨0, by decide +kernel, rfl, rfl⟩
theorem iL_law_928 : DLdI mL_law 928 3 929 := Or.inl ⟨3, by decide +kernel, rfl, rfl⟩
theorem iL_law_929 : DPushI mL_law 929 5 930 := Or.inl ⟨5, by decide +kernel, by decide, rfl⟩
theorem iL_law_930 : D1 mL_law 930 .iadd 1 931 := ⟨by decide +kernel, rfl⟩
theorem iL_law_931 : D1 mL_law 931 .iaload 1 932 := ⟨by decide +kernel, rfl⟩
theorem iL_law_932 : DInvV mL_law 932 mX7_left 7 5 935 := ⟨121, TX7, 17, by decide +kernel, rfl, rfl, xl_RL_121, xi_X7_left, xs_X7_left, xm_X7_left⟩
theorem iL_law_935 : DCm mL_law 935 .eq 1215 938 := ⟨280, by decide +kernel, by decide, rfl⟩
theorem iL_law_938 : DPushI mL_law 938 0 939 := Or.inl ⟨0, by decide +kernel, by decide, rfl⟩
theorem iL_law_939 : mL_law.2.2.2 = some .boolean ∧ decode mL_law.2.1 939 = .ok (.ireturn, 1) := ⟨rfl, by decide +kernel⟩
theorem iL_law_940 : DLdA mL_law 940 1 941 := Or.inl ⟨1, by decide +kernel, rfl, rfl⟩
theorem iL_law_941 : DLdA mL_law 941 0 942 := Or.inl ⟨0, by decide +kernel, rfl, rfl⟩
theorem iL_law_942 : DLdI mL_law 942 3 943 := Or.inl ⟨3, by decide +kernel, rfl, rfl⟩
theorem iL_law_943 : DPushI mL_law 943 1 944 := Or.inl ⟨1, by decide +kernel, by decide, rfl⟩
theorem iL_law_944 : D1 mL_law 944 .iadd 1 945 := ⟨by decide +kernel, rfl⟩
theorem iL_law_945 : D1 mL_law 945 .iaload 1 946 := ⟨by decide +kernel, rfl⟩
theorem iL_law_946 : DLdA mL_law 946 0 947 := Or.inl ⟨0, by decide +kernel, rfl, rfl⟩
theorem iL_law_947 : DLdI mL_law 947 3 948 := Or.inl ⟨3, by decide +kernel, rfl, rfl⟩
theorem iL_law_948 : DPushI mL_law 948 2 949 := Or.inl ⟨2, by decide +kernel, by decide, rfl⟩
theorem iL_law_949 : D1 mL_law 949 .iadd 1 950 := ⟨by decide +kernel, rfl⟩
theorem iL_law_950 : D1 mL_law 950 .iaload 1 951 := ⟨by decide +kernel, rfl⟩
theorem iL_law_951 : DLdA mL_law 951 0 952 := Or.inl ⟨0, by decide +kernel, rfl, rfl⟩
theorem iL_law_952 : DLdI mL_law 952 3 953 := Or.inl ⟨3, by decide +kernel, rfl, rfl⟩
theorem iL_law_953 : DPushI mL_law 953 3 954 := Or.inl ⟨3, by decide +kernel, by decide, rfl⟩
theorem iL_law_954 : D1 mL_law 954 .iadd 1 955 := ⟨by decide +kernel, rfl⟩
theorem iL_law_955 : D1 mL_law 955 .iaload 1 956 := ⟨by decide +kernel, rfl⟩
theorem iL_law_956 : DLdA mL_law 956 0 957 := Or.inl ⟨0, by decide +kernel, rfl, rfl⟩
theorem iL_law_957 : DLdI mL_law 957 3 958 := Or.inl ⟨3, by decide +kernel, rfl, rfl⟩
theorem iL_law_958 : DPushI mL_law 958 4 959 := Or.inl ⟨4, by decide +kernel, by decide, rfl⟩
theorem iL_law_959 : D1 mL_law 959 .iadd 1 960 := ⟨by decide +kernel, rfl⟩
theorem iL_law_960 : D1 mL_law 960 .iaload 1 961 := ⟨by decide +kernel, rfl⟩
theorem iL_law_961 : DLdA mL_law 961 0 962 := Or.inl ⟨0, by decide +kernel, rfl, rfl⟩
theorem iL_law_962 : DLdI mL_law 962 3 963 := Or.inl ⟨3, by decide +kernel, rfl, rfl⟩
theorem iL_law_963 : DPushI mL_law 963 5 964 := Or.inl ⟨5, by decide +kernel, by decide, rfl⟩
theorem iL_law_964 : D1 mL_law 964 .iadd 1 965 := ⟨by decide +kernel, rfl⟩
theorem iL_law_965 : D1 mL_law 965 .iaload 1 966 := ⟨by decide +kernel, rfl⟩
theorem iL_law_966 : DInvV mL_law 966 mX6_film 6 5 969 := ⟨122, TX6, 10, by decide +kernel, rfl, rfl, xl_RL_122, xi_X6_film, xs_X6_film, xm_X6_film⟩
theorem iL_law_969 : DLdA mL_law 969 2 970 := Or.inl ⟨2, by decide +kernel, rfl, rfl⟩
theorem iL_law_970 : DLdA mL_law 970 0 971 := Or.inl ⟨0, by decide +kernel, rfl, rfl⟩
theorem iL_law_971 : DLdI mL_law 971 3 972 := Or.inl ⟨3, by decide +kernel, rfl, rfl⟩
theorem iL_law_972 : DPushI mL_law 972 1 973 := Or.inl ⟨1, by decide +kernel, by decide, rfl⟩
theorem iL_law_973 : D1 mL_law 973 .iadd 1 974 := ⟨by decide +kernel, rfl⟩
theorem iL_law_974 : D1 mL_law 974 .iaload 1 975 := ⟨by decide +kernel, rfl⟩
theorem iL_law_975 : DLdA mL_law 975 0 976 := Or.inl ⟨0, by decide +kernel, rfl, rfl⟩
theorem iL_law_976 : DLdI mL_law 976 3 977 := Or.inl ⟨3, by decide +kernel, rfl, rfl⟩
theorem iL_law_977 : DPushI mL_law 977 2 978 := Or.inl ⟨2, by decide +kernel, by decide, rfl⟩
theorem iL_law_978 : D1 mL_law 978 .iadd 1 979 := ⟨by decide +kernel, rfl⟩
theorem iL_law_979 : D1 mL_law 979 .iaload 1 980 := ⟨by decide +kernel, rfl⟩
theorem iL_law_980 : DLdA mL_law 980 0 981 := Or.inl ⟨0, by decide +kernel, rfl, rfl⟩
theorem iL_law_981 : DLdI mL_law 981 3 982 := Or.inl ⟨3, by decide +kernel, rfl, rfl⟩
theorem iL_law_982 : DPushI mL_law 982 3 983 := Or.inl ⟨3, by decide +kernel, by decide, rfl⟩
theorem iL_law_983 : D1 mL_law 983 .iadd 1 984 := ⟨by decide +kernel, rfl⟩
theorem iL_law_984 : D1 mL_law 984 .iaload 1 985 := ⟨by decide +kernel, rfl⟩
theorem iL_law_985 : DLdA mL_law 985 0 986 := Or.inl ⟨0, by decide +kernel, rfl, rfl⟩
theorem iL_law_986 : DLdI mL_law 986 3 987 := Or.inl ⟨3, by decide +kernel, rfl, rfl⟩
theorem iL_law_987 : DPushI mL_law 987 4 988 := Or.inl ⟨4, by decide +kernel, by decide, rfl⟩
theorem iL_law_988 : D1 mL_law 988 .iadd 1 989 := ⟨by decide +kernel, rfl⟩
theorem iL_law_989 : D1 mL_law 989 .iaload 1 990 := ⟨by decide +kernel, rfl⟩
theorem iL_law_990 : DLdA mL_law 990 0 991 := Or.inl ⟨0, by decide +kernel, rfl, rfl⟩
theorem iL_law_991 : DLdI mL_law 991 3 992 := Or.inl ⟨3, by decide +kernel, rfl, rfl⟩
theorem iL_law_992 : DPushI mL_law 992 5 993 := Or.inl ⟨5, by decide +kernel, by decide, rfl⟩
theorem iL_law_993 : D1 mL_law 993 .iadd 1 994 := ⟨by decide +kernel, rfl⟩
theorem iL_law_994 : D1 mL_law 994 .iaload 1 995 := ⟨by decide +kernel, rfl⟩
theorem iL_law_995 : DInvV mL_law 995 mX7_film 7 5 998 := ⟨125, TX7, 17, by decide +kernel, rfl, rfl, xl_RL_125, xi_X7_film, xs_X7_film, xm_X7_film⟩
theorem iL_law_998 : DCm mL_law 998 .eq 1215 1001 := ⟨217, by decide +kernel, by decide, rfl⟩
theorem iL_law_1001 : DPushI mL_law 1001 0 1002 := Or.inl ⟨0, by decide +kernel, by decide, rfl⟩
theorem iL_law_1002 : mL_law.2.2.2 = some .boolean ∧ decode mL_law.2.1 1002 = .ok (.ireturn, 1) := ⟨rfl, by decide +kernel⟩
theorem iL_law_1003 : DLdA mL_law 1003 1 1004 := Or.inl ⟨1, by decide +kernel, rfl, rfl⟩
theorem iL_law_1004 : DLdA mL_law 1004 0 1005 := Or.inl ⟨0, by decide +kernel, rfl, rfl⟩
theorem iL_law_1005 : DLdI mL_law 1005 3 1006 := Or.inl ⟨3, by decide +kernel, rfl, rfl⟩
theorem iL_law_1006 : DPushI mL_law 1006 1 1007 := Or.inl ⟨1, by decide +kernel, by decide, rfl⟩
theorem iL_law_1007 : D1 mL_law 1007 .iadd 1 1008 := ⟨by decide +kernel, rfl⟩
theorem iL_law_1008 : D1 mL_law 1008 .iaload 1 1009 := ⟨by decide +kernel, rfl⟩
theorem iL_law_1009 : DLdA mL_law 1009 0 1010 := Or.inl ⟨0, by decide +kernel, rfl, rfl⟩
theorem iL_law_1010 : DLdI mL_law 1010 3 1011 := Or.inl ⟨3, by decide +kernel, rfl, rfl⟩
theorem iL_law_1011 : DPushI mL_law 1011 2 1012 := Or.inl ⟨2, by decide +kernel, by decide, rfl⟩
theorem iL_law_1012 : D1 mL_law 1012 .iadd 1 1013 := ⟨by decide +kernel, rfl⟩
theorem iL_law_1013 : D1 mL_law 1013 .iaload 1 1014 := ⟨by decide +kernel, rfl⟩
theorem iL_law_1014 : DLdA mL_law 1014 0 1015 := Or.inl ⟨0, by decide +kernel, rfl, rfl⟩
theorem iL_law_1015 : DLdI mL_law 1015 3 1016 := Or.inl ⟨3, by decide +kernel, rfl, rfl⟩
theorem iL_law_1016 : DPushI mL_law 1016 3 1017 := Or.inl ⟨3, by decide +kernel, by decide, rfl⟩
theorem iL_law_1017 : D1 mL_law 1017 .iadd 1 1018 := ⟨by decide +kernel, rfl⟩
theorem iL_law_1018 : D1 mL_law 1018 .iaload 1 1019 := ⟨by decide +kernel, rfl⟩
theorem iL_law_1019 : DInvV mL_law 1019 mX6_sheet 6 3 1022 := ⟨126, TX6, 10, by decide +kernel, rfl, rfl, xl_RL_126, xi_X6_sheet, xs_X6_sheet, xm_X6_sheet⟩
theorem iL_law_1022 : DLdA mL_law 1022 2 1023 := Or.inl ⟨2, by decide +kernel, rfl, rfl⟩
theorem iL_law_1023 : DLdA mL_law 1023 0 1024 := Or.inl ⟨0, by decide +kernel, rfl, rfl⟩
theorem iL_law_1024 : DLdI mL_law 1024 3 1025 := Or.inl ⟨3, by decide +kernel, rfl, rfl⟩
theorem iL_law_1025 : DPushI mL_law 1025 1 1026 := Or.inl ⟨1, by decide +kernel, by decide, rfl⟩
theorem iL_law_1026 : D1 mL_law 1026 .iadd 1 1027 := ⟨by decide +kernel, rfl⟩
theorem iL_law_1027 : D1 mL_law 1027 .iaload 1 1028 := ⟨by decide +kernel, rfl⟩
theorem iL_law_1028 : DLdA mL_law 1028 0 1029 := Or.inl ⟨0, by decide +kernel, rfl, rfl⟩
theorem iL_law_1029 : DLdI mL_law 1029 3 1030 := Or.inl ⟨3, by decide +kernel, rfl, rfl⟩
theorem iL_law_1030 : DPushI mL_law 1030 2 1031 := Or.inl ⟨2, by decide +kernel, by decide, rfl⟩
theorem iL_law_1031 : D1 mL_law 1031 .iadd 1 1032 := ⟨by decide +kernel, rfl⟩
theorem iL_law_1032 : D1 mL_law 1032 .iaload 1 1033 := ⟨by decide +kernel, rfl⟩
theorem iL_law_1033 : DLdA mL_law 1033 0 1034 := Or.inl ⟨0, by decide +kernel, rfl, rfl⟩
theorem iL_law_1034 : DLdI mL_law 1034 3 1035 := Or.inl ⟨3, by decide +kernel, rfl, rfl⟩
theorem iL_law_1035 : DPushI mL_law 1035 3 1036 := Or.inl ⟨3, by decide +kernel, by decide, rfl⟩
theorem iL_law_1036 : D1 mL_law 1036 .iadd 1 1037 := ⟨by decide +kernel, rfl⟩
theorem iL_law_1037 : D1 mL_law 1037 .iaload 1 1038 := ⟨by decide +kernel, rfl⟩
theorem iL_law_1038 : DInvV mL_law 1038 mX7_sheet 7 3 1041 := ⟨129, TX7, 17, by decide +kernel, rfl, rfl, xl_RL_129, xi_X7_sheet, xs_X7_sheet, xm_X7_sheet⟩
theorem iL_law_1041 : DCm mL_law 1041 .eq 1215 1044 := ⟨174, by decide +kernel, by decide, rfl⟩
theorem iL_law_1044 : DPushI mL_law 1044 0 1045 := Or.inl ⟨0, by decide +kernel, by decide, rfl⟩
theorem iL_law_1045 : mL_law.2.2.2 = some .boolean ∧ decode mL_law.2.1 1045 = .ok (.ireturn, 1) := ⟨rfl, by decide +kernel⟩
theorem iL_law_1046 : DLdA mL_law 1046 1 1047 := Or.inl ⟨1, by decide +kernel, rfl, rfl⟩
theorem iL_law_1047 : DLdA mL_law 1047 0 1048 := Or.inl ⟨0, by decide +kernel, rfl, rfl⟩
theorem iL_law_1048 : DLdI mL_law 1048 3 1049 := Or.inl ⟨3, by decide +kernel, rfl, rfl⟩
theorem iL_law_1049 : DPushI mL_law 1049 1 1050 := Or.inl ⟨1, by decide +kernel, by decide, rfl⟩
theorem iL_law_1050 : D1 mL_law 1050 .iadd 1 1051 := ⟨by decide +kernel, rfl⟩
theorem iL_law_1051 : D1 mL_law 1051 .iaload 1 1052 := ⟨by decide +kernel, rfl⟩
theorem iL_law_1052 : DInvV mL_law 1052 mX6_drop 6 1 1055 := ⟨130, TX6, 10, by decide +kernel, rfl, rfl, xl_RL_130, xi_X6_drop, xs_X6_drop, xm_X6_drop⟩
theorem iL_law_1055 : DLdA mL_law 1055 2 1056 := Or.inl ⟨2, by decide +kernel, rfl, rfl⟩
theorem iL_law_1056 : DLdA mL_law 1056 0 1057 := Or.inl ⟨0, by decide +kernel, rfl, rfl⟩
theorem iL_law_1057 : DLdI mL_law 1057 3 1058 := Or.inl ⟨3, by decide +kernel, rfl, rfl⟩
theorem iL_law_1058 : DPushI mL_law 1058 1 1059 := Or.inl ⟨1, by decide +kernel, by decide, rfl⟩
theorem iL_law_1059 : D1 mL_law 1059 .iadd 1 1060 := ⟨by decide +kernel, rfl⟩
theorem iL_law_1060 : D1 mL_law 1060 .iaload 1 1061 := ⟨by decide +kernel, rfl⟩
theorem iL_law_1061 : DInvV mL_law 1061 mX7_drop 7 1 1064 := ⟨133, TX7, 17, by decide +kernel, rfl, rfl, xl_RL_133, xi_X7_drop, xs_X7_drop, xm_X7_drop⟩
theorem iL_law_1064 : DCm mL_law 1064 .eq 1215 1067 := ⟨151, by decide +kernel, by decide, rfl⟩
theorem iL_law_1067 : DPushI mL_law 1067 0 1068 := Or.inl ⟨0, by decide +kernel, by decide, rfl⟩
theorem iL_law_1068 : mL_law.2.2.2 = some .boolean ∧ decode mL_law.2.1 1068 = .ok (.ireturn, 1) := ⟨rfl, by decide +kernel⟩
theorem iL_law_1069 : DLdA mL_law 1069 1 1070 := Or.inl ⟨1, by decide +kernel, rfl, rfl⟩
theorem iL_law_1070 : DLdA mL_law 1070 0 1071 := Or.inl ⟨0, by decide +kernel, rfl, rfl⟩
theorem iL_law_1071 : DLdI mL_law 1071 3 1072 := Or.inl ⟨3, by decide +kernel, rfl, rfl⟩
theorem iL_law_1072 : DPushI mL_law 1072 1 1073 := Or.inl ⟨1, by decide +kernel, by decide, rfl⟩
theorem iL_law_1073 : D1 mL_law 1073 .iadd 1 1074 := ⟨by decide +kernel, rfl⟩
theorem iL_law_1074 : D1 mL_law 1074 .iaload 1 1075 := ⟨by decide +kernel, rfl⟩
theorem iL_law_1075 : DLdA mL_law 1075 0 1076 := Or.inl ⟨0, by decide +kernel, rfl, rfl⟩
theorem iL_law_1076 : DLdI mL_law 1076 3 1077 := Or.inl ⟨3, by decide +kernel, rfl, rfl⟩
theorem iL_law_1077 : DPushI mL_law 1077 2 1078 := Or.inl ⟨2, by decide +kernel, by decide, rfl⟩
theorem iL_law_1078 : D1 mL_law 1078 .iadd 1 1079 := ⟨by decide +kernel, rfl⟩
theorem iL_law_1079 : D1 mL_law 1079 .iaload 1 1080 := ⟨by decide +kernel, rfl⟩
theorem iL_law_1080 : DLdA mL_law 1080 0 1081 := Or.inl ⟨0, by decide +kernel, rfl, rfl⟩
theorem iL_law_1081 : DLdI mL_law 1081 3 1082 := Or.inl ⟨3, by decide +kernel, rfl, rfl⟩
theorem iL_law_1082 : DPushI mL_law 1082 3 1083 := Or.inl ⟨3, by decide +kernel, by decide, rfl⟩
theorem iL_law_1083 : D1 mL_law 1083 .iadd 1 1084 := ⟨by decide +kernel, rfl⟩
theorem iL_law_1084 : D1 mL_law 1084 .iaload 1 1085 := ⟨by decide +kernel, rfl⟩
theorem iL_law_1085 : DLdA mL_law 1085 0 1086 := Or.inl ⟨0, by decide +kernel, rfl, rfl⟩
theorem iL_law_1086 : DLdI mL_law 1086 3 1087 := Or.inl ⟨3, by decide +kernel, rfl, rfl⟩
theorem iL_law_1087 : DPushI mL_law 1087 4 1088 := Or.inl ⟨4, by decide +kernel, by decide, rfl⟩
theorem iL_law_1088 : D1 mL_law 1088 .iadd 1 1089 := ⟨by decide +kernel, rfl⟩
theorem iL_law_1089 : D1 mL_law 1089 .iaload 1 1090 := ⟨by decide +kernel, rfl⟩
theorem iL_law_1090 : D1 mL_law 1090 .i2l 1 1091 := ⟨by decide +kernel, rfl⟩
theorem iL_law_1091 : DPushI mL_law 1091 32 1093 := Or.inr (Or.inl ⟨32, by decide +kernel, by decide, rfl⟩)
theorem iL_law_1093 : D1 mL_law 1093 .lshl 1 1094 := ⟨by decide +kernel, rfl⟩
theorem iL_law_1094 : DLdA mL_law 1094 0 1095 := Or.inl ⟨0, by decide +kernel, rfl, rfl⟩
theorem iL_law_1095 : DLdI mL_law 1095 3 1096 := Or.inl ⟨3, by decide +kernel, rfl, rfl⟩
theorem iL_law_1096 : DPushI mL_law 1096 5 1097 := Or.inl ⟨5, by decide +kernel, by decide, rfl⟩
theorem iL_law_1097 : D1 mL_law 1097 .iadd 1 1098 := ⟨by decide +kernel, rfl⟩
theorem iL_law_1098 : D1 mL_law 1098 .iaload 1 1099 := ⟨by decide +kernel, rfl⟩
theorem iL_law_1099 : D1 mL_law 1099 .i2l 1 1100 := ⟨by decide +kernel, rfl⟩
theorem iL_law_1100 : DPushL mL_law 1100 4294967295 1103 := Or.inr ⟨134, by decide +kernel, bigW_at 968 (by decide +kernel) rfl, rfl⟩
theorem iL_law_1103 : D1 mL_law 1103 .land 1 1104 := ⟨by decide +kernel, rfl⟩
theorem iL_law_1104 : D1 mL_law 1104 .lor 1 1105 := ⟨by decide +kernel, rfl⟩
theorem iL_law_1105 : DInvV mL_law 1105 mX6_item 6 4 1108 := ⟨136, TX6, 10, by decide +kernel, rfl, rfl, xl_RL_136, xi_X6_item, xs_X6_item, xm_X6_item⟩
theorem iL_law_1108 : DLdA mL_law 1108 2 1109 := Or.inl ⟨2, by decide +kernel, rfl, rfl⟩
theorem iL_law_1109 : DLdA mL_law 1109 0 1110 := Or.inl ⟨0, by decide +kernel, rfl, rfl⟩
theorem iL_law_1110 : DLdI mL_law 1110 3 1111 := Or.inl ⟨3, by decide +kernel, rfl, rfl⟩
theorem iL_law_1111 : DPushI mL_law 1111 1 1112 := Or.inl ⟨1, by decide +kernel, by decide, rfl⟩
theorem iL_law_1112 : D1 mL_law 1112 .iadd 1 1113 := ⟨by decide +kernel, rfl⟩
theorem iL_law_1113 : D1 mL_law 1113 .iaload 1 1114 := ⟨by decide +kernel, rfl⟩
theorem iL_law_1114 : DLdA mL_law 1114 0 1115 := Or.inl ⟨0, by decide +kernel, rfl, rfl⟩
theorem iL_law_1115 : DLdI mL_law 1115 3 1116 := Or.inl ⟨3, by decide +kernel, rfl, rfl⟩
theorem iL_law_1116 : DPushI mL_law 1116 2 1117 := Or.inl ⟨2, by decide +kernel, by decide, rfl⟩
theorem iL_law_1117 : D1 mL_law 1117 .iadd 1 1118 := ⟨by decide +kernel, rfl⟩
theorem iL_law_1118 : D1 mL_law 1118 .iaload 1 1119 := ⟨by decide +kernel, rfl⟩
theorem iL_law_1119 : DLdA mL_law 1119 0 1120 := Or.inl ⟨0, by decide +kernel, rfl, rfl⟩
theorem iL_law_1120 : DLdI mL_law 1120 3 1121 := Or.inl ⟨3, by decide +kernel, rfl, rfl⟩
theorem iL_law_1121 : DPushI mL_law 1121 3 1122 := Or.inl ⟨3, by decide +kernel, by decide, rfl⟩
theorem iL_law_1122 : D1 mL_law 1122 .iadd 1 1123 := ⟨by decide +kernel, rfl⟩
theorem iL_law_1123 : D1 mL_law 1123 .iaload 1 1124 := ⟨by decide +kernel, rfl⟩
theorem iL_law_1124 : DLdA mL_law 1124 0 1125 := Or.inl ⟨0, by decide +kernel, rfl, rfl⟩
theorem iL_law_1125 : DLdI mL_law 1125 3 1126 := Or.inl ⟨3, by decide +kernel, rfl, rfl⟩
theorem iL_law_1126 : DPushI mL_law 1126 4 1127 := Or.inl ⟨4, by decide +kernel, by decide, rfl⟩
theorem iL_law_1127 : D1 mL_law 1127 .iadd 1 1128 := ⟨by decide +kernel, rfl⟩
theorem iL_law_1128 : D1 mL_law 1128 .iaload 1 1129 := ⟨by decide +kernel, rfl⟩
theorem iL_law_1129 : D1 mL_law 1129 .i2l 1 1130 := ⟨by decide +kernel, rfl⟩
theorem iL_law_1130 : DPushI mL_law 1130 32 1132 := Or.inr (Or.inl ⟨32, by decide +kernel, by decide, rfl⟩)
theorem iL_law_1132 : D1 mL_law 1132 .lshl 1 1133 := ⟨by decide +kernel, rfl⟩
theorem iL_law_1133 : DLdA mL_law 1133 0 1134 := Or.inl ⟨0, by decide +kernel, rfl, rfl⟩
theorem iL_law_1134 : DLdI mL_law 1134 3 1135 := Or.inl ⟨3, by decide +kernel, rfl, rfl⟩
theorem iL_law_1135 : DPushI mL_law 1135 5 1136 := Or.inl ⟨5, by decide +kernel, by decide, rfl⟩
theorem iL_law_1136 : D1 mL_law 1136 .iadd 1 1137 := ⟨by decide +kernel, rfl⟩
theorem iL_law_1137 : D1 mL_law 1137 .iaload 1 1138 := ⟨by decide +kernel, rfl⟩
theorem iL_law_1138 : D1 mL_law 1138 .i2l 1 1139 := ⟨by decide +kernel, rfl⟩
theorem iL_law_1139 : DPushL mL_law 1139 4294967295 1142 := Or.inr ⟨134, by decide +kernel, bigW_at 968 (by decide +kernel) rfl, rfl⟩
theorem iL_law_1142 : D1 mL_law 1142 .land 1 1143 := ⟨by decide +kernel, rfl⟩
theorem iL_law_1143 : D1 mL_law 1143 .lor 1 1144 := ⟨by decide +kernel, rfl⟩
theorem iL_law_1144 : DInvV mL_law 1144 mX7_item 7 4 1147 := ⟨140, TX7, 17, by decide +kernel, rfl, rfl, xl_RL_140, xi_X7_item, xs_X7_item, xm_X7_item⟩
theorem iL_law_1147 : DCm mL_law 1147 .eq 1215 1150 := ⟨68, by decide +kernel, by decide, rfl⟩
theorem iL_law_1150 : DPushI mL_law 1150 0 1151 := Or.inl ⟨0, by decide +kernel, by decide, rfl⟩
theorem iL_law_1151 : mL_law.2.2.2 = some .boolean ∧ decode mL_law.2.1 1151 = .ok (.ireturn, 1) := ⟨rfl, by decide +kernel⟩
theorem iL_law_1152 : DLdA mL_law 1152 1 1153 := Or.inl ⟨1, by decide +kernel, rfl, rfl⟩
theorem iL_law_1153 : DLdA mL_law 1153 0 1154 := Or.inl ⟨0, by decide +kernel, rfl, rfl⟩
theorem iL_law_1154 : DLdI mL_law 1154 3 1155 := Or.inl ⟨3, by decide +kernel, rfl, rfl⟩
theorem iL_law_1155 : DPushI mL_law 1155 1 1156 := Or.inl ⟨1, by decide +kernel, by decide, rfl⟩
theorem iL_law_1156 : D1 mL_law 1156 .iadd 1 1157 := ⟨by decide +kernel, rfl⟩
theorem iL_law_1157 : D1 mL_law 1157 .iaload 1 1158 := ⟨by decide +kernel, rfl⟩
theorem iL_law_1158 : DLdA mL_law 1158 0 1159 := Or.inl ⟨0, by decide +kernel, rfl, rfl⟩
theorem iL_law_1159 : DLdI mL_law 1159 3 1160 := Or.inl ⟨3, by decide +kernel, rfl, rfl⟩
theorem iL_law_1160 : DPushI mL_law 1160 2 1161 := Or.inl ⟨2, by decide +kernel, by decide, rfl⟩
theorem iL_law_1161 : D1 mL_law 1161 .iadd 1 1162 := ⟨by decide +kernel, rfl⟩
theorem iL_law_1162 : D1 mL_law 1162 .iaload 1 1163 := ⟨by decide +kernel, rfl⟩
theorem iL_law_1163 : DLdA mL_law 1163 0 1164 := Or.inl ⟨0, by decide +kernel, rfl, rfl⟩
theorem iL_law_1164 : DLdI mL_law 1164 3 1165 := Or.inl ⟨3, by decide +kernel, rfl, rfl⟩
theorem iL_law_1165 : DPushI mL_law 1165 3 1166 := Or.inl ⟨3, by decide +kernel, by decide, rfl⟩
theorem iL_law_1166 : D1 mL_law 1166 .iadd 1 1167 := ⟨by decide +kernel, rfl⟩
theorem iL_law_1167 : D1 mL_law 1167 .iaload 1 1168 := ⟨by decide +kernel, rfl⟩
theorem iL_law_1168 : DLdA mL_law 1168 0 1169 := Or.inl ⟨0, by decide +kernel, rfl, rfl⟩
theorem iL_law_1169 : DLdI mL_law 1169 3 1170 := Or.inl ⟨3, by decide +kernel, rfl, rfl⟩
theorem iL_law_1170 : DPushI mL_law 1170 4 1171 := Or.inl ⟨4, by decide +kernel, by decide, rfl⟩
theorem iL_law_1171 : D1 mL_law 1171 .iadd 1 1172 := ⟨by decide +kernel, rfl⟩
theorem iL_law_1172 : D1 mL_law 1172 .iaload 1 1173 := ⟨by decide +kernel, rfl⟩
theorem iL_law_1173 : DLdA mL_law 1173 0 1174 := Or.inl ⟨0, by decide +kernel, rfl, rfl⟩
theorem iL_law_1174 : DLdI mL_law 1174 3 1175 := Or.inl ⟨3, by decide +kernel, rfl, rfl⟩
theorem iL_law_1175 : DPushI mL_law 1175 5 1176 := Or.inl ⟨5, by decide +kernel, by decide, rfl⟩
theorem iL_law_1176 : D1 mL_law 1176 .iadd 1 1177 := ⟨by decide +kernel, rfl⟩
theorem iL_law_1177 : D1 mL_law 1177 .iaload 1 1178 := ⟨by decide +kernel, rfl⟩
theorem iL_law_1178 : DInvV mL_law 1178 mX6_copy 6 5 1181 := ⟨141, TX6, 10, by decide +kernel, rfl, rfl, xl_RL_141, xi_X6_copy, xs_X6_copy, xm_X6_copy⟩
theorem iL_law_1181 : DLdA mL_law 1181 2 1182 := Or.inl ⟨2, by decide +kernel, rfl, rfl⟩
theorem iL_law_1182 : DLdA mL_law 1182 0 1183 := Or.inl ⟨0, by decide +kernel, rfl, rfl⟩
theorem iL_law_1183 : DLdI mL_law 1183 3 1184 := Or.inl ⟨3, by decide +kernel, rfl, rfl⟩
theorem iL_law_1184 : DPushI mL_law 1184 1 1185 := Or.inl ⟨1, by decide +kernel, by decide, rfl⟩
theorem iL_law_1185 : D1 mL_law 1185 .iadd 1 1186 := ⟨by decide +kernel, rfl⟩
theorem iL_law_1186 : D1 mL_law 1186 .iaload 1 1187 := ⟨by decide +kernel, rfl⟩
theorem iL_law_1187 : DLdA mL_law 1187 0 1188 := Or.inl ⟨0, by decide +kernel, rfl, rfl⟩
theorem iL_law_1188 : DLdI mL_law 1188 3 1189 := Or.inl ⟨3, by decide +kernel, rfl, rfl⟩
theorem iL_law_1189 : DPushI mL_law 1189 2 1190 := Or.inl ⟨2, by decide +kernel, by decide, rfl⟩
theorem iL_law_1190 : D1 mL_law 1190 .iadd 1 1191 := ⟨by decide +kernel, rfl⟩
theorem iL_law_1191 : D1 mL_law 1191 .iaload 1 1192 := ⟨by decide +kernel, rfl⟩
theorem iL_law_1192 : DLdA mL_law 1192 0 1193 := Or.inl ⟨0, by decide +kernel, rfl, rfl⟩
theorem iL_law_1193 : DLdI mL_law 1193 3 1194 := Or.inl ⟨3, by decide +kernel, rfl, rfl⟩
theorem iL_law_1194 : DPushI mL_law 1194 3 1195 := Or.inl ⟨3, by decide +kernel, by decide, rfl⟩
theorem iL_law_1195 : D1 mL_law 1195 .iadd 1 1196 := ⟨by decide +kernel, rfl⟩
theorem iL_law_1196 : D1 mL_law 1196 .iaload 1 1197 := ⟨by decide +kernel, rfl⟩
theorem iL_law_1197 : DLdA mL_law 1197 0 1198 := Or.inl ⟨0, by decide +kernel, rfl, rfl⟩
theorem iL_law_1198 : DLdI mL_law 1198 3 1199 := Or.inl ⟨3, by decide +kernel, rfl, rfl⟩
theorem iL_law_1199 : DPushI mL_law 1199 4 1200 := Or.inl ⟨4, by decide +kernel, by decide, rfl⟩
theorem iL_law_1200 : D1 mL_law 1200 .iadd 1 1201 := ⟨by decide +kernel, rfl⟩
theorem iL_law_1201 : D1 mL_law 1201 .iaload 1 1202 := ⟨by decide +kernel, rfl⟩
theorem iL_law_1202 : DLdA mL_law 1202 0 1203 := Or.inl ⟨0, by decide +kernel, rfl, rfl⟩
theorem iL_law_1203 : DLdI mL_law 1203 3 1204 := Or.inl ⟨3, by decide +kernel, rfl, rfl⟩
theorem iL_law_1204 : DPushI mL_law 1204 5 1205 := Or.inl ⟨5, by decide +kernel, by decide, rfl⟩
theorem iL_law_1205 : D1 mL_law 1205 .iadd 1 1206 := ⟨by decide +kernel, rfl⟩
theorem iL_law_1206 : D1 mL_law 1206 .iaload 1 1207 := ⟨by decide +kernel, rfl⟩
theorem iL_law_1207 : DInvV mL_law 1207 mX7_copy 7 5 1210 := ⟨144, TX7, 17, by decide +kernel, rfl, rfl, xl_RL_144, xi_X7_copy, xs_X7_copy, xm_X7_copy⟩
theorem iL_law_1210 : DCm mL_law 1210 .eq 1215 1213 := ⟨5, by decide +kernel, by decide, rfl⟩
theorem iL_law_1213 : DPushI mL_law 1213 0 1214 := Or.inl ⟨0, by decide +kernel, by decide, rfl⟩
theorem iL_law_1214 : mL_law.2.2.2 = some .boolean ∧ decode mL_law.2.1 1214 = .ok (.ireturn, 1) := ⟨rfl, by decide +kernel⟩
theorem iL_law_1215 : DInc mL_law 1215 3 6 1218 := ⟨by decide, 6, by decide +kernel, by decide, rfl⟩
theorem iL_law_1218 : DGo mL_law 1218 18 := ⟨(-1200), by decide +kernel, by decide⟩
theorem iL_law_1221 : DPushI mL_law 1221 1 1222 := Or.inl ⟨1, by decide +kernel, by decide, rfl⟩
theorem iL_law_1222 : mL_law.2.2.2 = some .boolean ∧ decode mL_law.2.1 1222 = .ok (.ireturn, 1) := ⟨rfl, by decide +kernel⟩
end
section
/-! rows with a known index; numbers -/
section XK
variable {Γ : State → Nat → Nat → Prop} {μ : MI} {R : Room} {κ : Nat × Nat} {pc pc' tgt : Nat} {L L' : List (Option Value)} {S S' : List Value} {h : XH} {Q : Option Value → XH → Prop}
theorem X.ialdE {a n j : Nat} {f : Nat → Int32} {i : Int32} (I : D1 μ pc .iaload 1 pc') (ha : h a = some (.inl (.int, n, .inl f))) (e : i = nI j) (hj : j < n) (hn : n < 2 ^ 31) (kk : X Γ μ R κ pc' L (.int (f j) :: S) h Q) : X Γ μ R κ pc L (.int i :: .ref a :: S) h Q := by
  subst e
  refine X.iald I ha (vp_in_nI hj hn) ?_
  rw [nI_clamp (by omega)]
  exact kk
theorem X.ialdN {a n j : Nat} {f : Nat → Int32} (I : D1 μ pc .iaload 1 pc') (ha : h a = some (.inl (.int, n, .inl f))) (hj : j < n) (hn : n < 2 ^ 31) (kk : X Γ μ R κ pc' L (.int (f j) :: S) h Q) : X Γ μ R κ pc L (.int (nI j) :: .ref a :: S) h Q := X.ialdE I ha rfl hj hn kk
theorem X.laldE {a n j : Nat} {f : Nat → Int64} {i : Int32} (I : D1 μ pc .laload 1 pc') (ha : h a = some (.inl (.long, n, .inr (.inl f)))) (e : i = nI j) (hj : j < n) (hn : n < 2 ^ 31) (kk : X Γ μ R κ pc' L (.long (f j) :: S) h Q) : X Γ μ R κ pc L (.int i :: .ref a :: S) h Q := by
  subst e
  refine X.lald I ha (vp_in_nI hj hn) ?_
  rw [nI_clamp (by omega)]
  exact kk
theorem X.laldN {a n j : Nat} {f : Nat → Int64} (I : D1 μ pc .laload 1 pc') (ha : h a = some (.inl (.long, n, .inr (.inl f)))) (hj : j < n) (hn : n < 2 ^ 31) (kk : X Γ μ R κ pc' L (.long (f j) :: S) h Q) : X Γ μ R κ pc L (.int (nI j) :: .ref a :: S) h Q := X.laldE I ha rfl hj hn kk
theorem X.caldE {a n j : Nat} {f : Nat → Int32} {i : Int32} (I : D1 μ pc .caload 1 pc') (ha : h a = some (.inl (.char, n, .inl f))) (e : i = nI j) (hj : j < n) (hn : n < 2 ^ 31) (kk : X Γ μ R κ pc' L (.int (f j) :: S) h Q) : X Γ μ R κ pc L (.int i :: .ref a :: S) h Q := by
  subst e
  refine X.cald I ha (vp_in_nI hj hn) ?_
  rw [nI_clamp (by omega)]
  exact kk
theorem X.caldN {a n j : Nat} {f : Nat → Int32} (I : D1 μ pc .caload 1 pc') (ha : h a = some (.inl (.char, n, .inl f))) (hj : j < n) (hn : n < 2 ^ 31) (kk : X Γ μ R κ pc' L (.int (f j) :: S) h Q) : X Γ μ R κ pc L (.int (nI j) :: .ref a :: S) h Q := X.caldE I ha rfl hj hn kk
theorem X.iastE {a n j : Nat} {f : Nat → Int32} {i x : Int32} (I : D1 μ pc .iastore 1 pc') (ha : h a = some (.inl (.int, n, .inl f))) (e : i = nI j) (hj : j < n) (hn : n < 2 ^ 31) (kk : X Γ μ R κ pc' L S (xup h a (.inl (.int, n, .inl (upd f j x)))) Q) : X Γ μ R κ pc L (.int x :: .int i :: .ref a :: S) h Q := by
  subst e
  refine X.iast I ha (vp_in_nI hj hn) ?_
  rw [nI_clamp (by omega)]
  exact kk
theorem X.iastN {a n j : Nat} {f : Nat → Int32} {x : Int32} (I : D1 μ pc .iastore 1 pc') (ha : h a = some (.inl (.int, n, .inl f))) (hj : j < n) (hn : n < 2 ^ 31) (kk : X Γ μ R κ pc' L S (xup h a (.inl (.int, n, .inl (upd f j x)))) Q) : X Γ μ R κ pc L (.int x :: .int (nI j) :: .ref a :: S) h Q := X.iastE I ha rfl hj hn kk
theorem X.lastE {a n j : Nat} {f : Nat → Int64} {i : Int32} {x : Int64} (I : D1 μ pc .lastore 1 pc') (ha : h a = some (.inl (.long, n, .inr (.inl f)))) (e : i = nI j) (hj : j < n) (hn : n < 2 ^ 31) (kk : X Γ μ R κ pc' L S (xup h a (.inl (.long, n, .inr (.inl (vp_updL f j x))))) Q) : X Γ μ R κ pc L (.long x :: .int i :: .ref a :: S) h Q := by
  subst e
  refine X.last I ha (vp_in_nI hj hn) ?_
  rw [nI_clamp (by omega)]
  exact kk
theorem X.lastN {a n j : Nat} {f : Nat → Int64} {x : Int64} (I : D1 μ pc .lastore 1 pc') (ha : h a = some (.inl (.long, n, .inr (.inl f)))) (hj : j < n) (hn : n < 2 ^ 31) (kk : X Γ μ R κ pc' L S (xup h a (.inl (.long, n, .inr (.inl (vp_updL f j x))))) Q) : X Γ μ R κ pc L (.long x :: .int (nI j) :: .ref a :: S) h Q := X.lastE I ha rfl hj hn kk
end XK
/-- an int array of n with f -/
abbrev IA (n : Nat) (f : Nat → Int32) : XC := .inl (.int, n, .inl f)
abbrev LA (n : Nat) (f : Nat → Int64) : XC := .inl (.long, n, .inr (.inl f))
theorem xup_self (h : XH) {a : Nat} {c : XC} (ha : h a = some c) : xup h a c = h := by
  funext i
  by_cases hi : i = a
  · subst hi; rw [xup_eq, ha]
  · rw [xup_ne _ _ hi]
theorem xup_xup (h : XH) (a : Nat) (c c' : XC) : xup (xup h a c) a c' = xup h a c' := by
  funext i
  by_cases hi : i = a
  · subst hi; rw [xup_eq, xup_eq]
  · rw [xup_ne _ _ hi, xup_ne _ _ hi, xup_ne _ _ hi]
theorem xup_comm (h : XH) {a b : Nat} (c c' : XC) (hab : a ≠ b) : xup (xup h a c) b c' = xup (xup h b c') a c := by
  funext i
  by_cases hi : i = a
  · subst hi; rw [xup_ne _ _ hab, xup_eq, xup_eq]
  · by_cases hj : i = b
    · subst hj; rw [xup_eq, xup_ne _ _ hi, xup_eq]
    · rw [xup_ne _ _ hj, xup_ne _ _ hi, xup_ne _ _ hi, xup_ne _ _ hj]
theorem nlit (n : Nat) : (OfNat.ofNat n : Int32) = nI n := rfl
theorem llit (n : Nat) : (OfNat.ofNat n : Int64) = lN n := rfl
theorem wle (a b : Int32) : a.toInt64 ≤ b.toInt64 ↔ a ≤ b := by
  rw [Int64.le_iff_toInt_le, Int32.le_iff_toInt_le, Int32.toInt_toInt64, Int32.toInt_toInt64]
theorem bI_if (c : Prop) [Decidable c] : bI (decide c) = if c then 1 else 0 := by
  by_cases h : c <;> simp [bI, h]
end
section
/-! the reference, its small methods. Its object is cell 98, its rows 99 .. 109 -/
abbrev mfs (ty pl : Int32) (fa : Bool) (un ku : Int32) (ik : Bool) : List Value := [.ref 99, .ref 100, .int ty, .int pl, .int (bI fa), .ref 101, .ref 102, .ref 103, .int un, .ref 104, .ref 105, .int ku, .int (bI ik), .ref 106, .ref 107, .ref 108, .ref 109]
def MO (h : XH) (nw : Nat → Int32) : Prop := (∃ (ty pl : Int32) (fa : Bool) (un ku : Int32) (ik : Bool), h 98 = some (.inr (7, mfs ty pl fa un ku ik))) ∧ h 99 = some (IA 43 nw)
theorem MO.up {h : XH} {nw : Nat → Int32} (H : MO h nw) (nw' : Nat → Int32) : MO (xup h 99 (IA 43 nw')) nw' := by
  obtain ⟨⟨ty, pl, fa, un, ku, ik, h1⟩, h2⟩ := H
  exact ⟨⟨ty, pl, fa, un, ku, ik, by rw [xup_ne _ _ (by decide)]; exact h1⟩, xup_eq _ _ _⟩
theorem MO.off {h : XH} {nw : Nat → Int32} (H : MO h nw) {a : Nat} (c : XC) (h1 : a ≠ 98) (h2 : a ≠ 99) : MO (xup h a c) nw := by
  obtain ⟨⟨ty, pl, fa, un, ku, ik, g1⟩, g2⟩ := H
  exact ⟨⟨ty, pl, fa, un, ku, ik, by rw [xup_ne _ _ (Ne.symm h1)]; exact g1⟩, by rw [xup_ne _ _ (Ne.symm h2)]; exact g2⟩
theorem c_X7_in (d : Nat) (h : XH) (x a b : Int64) : MetI mX7_in (d, 0, 0) [.long x, .long a, .long b] h (bI (decide (a ≤ x ∧ x ≤ b))) := by
  refine MetX.of (by decide) rfl (Nat.le_of_ble_eq_true rfl) ?_
  refine X.lload iX7_in_0 rfl ?_
  refine X.lload iX7_in_1 rfl ?_
  refine X.lcmp iX7_in_2 ?_
  refine X.iflt iX7_in_3 (fun c3 => ?_) (fun c3 => ?_)
  · refine X.pushi (v := nI 0) iX7_in_17 ?_
    first
    | (refine X.zret (x := true) iX7_in_18 ⟨?_, rfl⟩; rw [decide_eq_true]; exact ⟨Int64.not_lt.mp (fun q => c3 ((lg_cmp_lt _ _).mpr q)), Int64.not_lt.mp (fun q => c10 ((lg_cmp_gt _ _).mpr q))⟩)
    | (refine X.zret (x := false) iX7_in_18 ⟨?_, rfl⟩; rw [decide_eq_false]; exact fun q => Int64.not_lt.mpr q.1 ((lg_cmp_lt _ _).mp c3))
    | (refine X.zret (x := false) iX7_in_18 ⟨?_, rfl⟩; rw [decide_eq_false]; exact fun q => Int64.not_lt.mpr q.2 ((lg_cmp_gt _ _).mp c10))
  · refine X.lload iX7_in_6 rfl ?_
    refine X.lload iX7_in_7 rfl ?_
    refine X.lcmp iX7_in_9 ?_
    refine X.ifgt iX7_in_10 (fun c10 => ?_) (fun c10 => ?_)
    · refine X.pushi (v := nI 0) iX7_in_17 ?_
      first
      | (refine X.zret (x := true) iX7_in_18 ⟨?_, rfl⟩; rw [decide_eq_true]; exact ⟨Int64.not_lt.mp (fun q => c3 ((lg_cmp_lt _ _).mpr q)), Int64.not_lt.mp (fun q => c10 ((lg_cmp_gt _ _).mpr q))⟩)
      | (refine X.zret (x := false) iX7_in_18 ⟨?_, rfl⟩; rw [decide_eq_false]; exact fun q => Int64.not_lt.mpr q.1 ((lg_cmp_lt _ _).mp c3))
      | (refine X.zret (x := false) iX7_in_18 ⟨?_, rfl⟩; rw [decide_eq_false]; exact fun q => Int64.not_lt.mpr q.2 ((lg_cmp_gt _ _).mp c10))
    · refine X.pushi (v := nI 1) iX7_in_13 ?_
      refine X.goto iX7_in_14 ?_
      first
      | (refine X.zret (x := true) iX7_in_18 ⟨?_, rfl⟩; rw [decide_eq_true]; exact ⟨Int64.not_lt.mp (fun q => c3 ((lg_cmp_lt _ _).mpr q)), Int64.not_lt.mp (fun q => c10 ((lg_cmp_gt _ _).mpr q))⟩)
      | (refine X.zret (x := false) iX7_in_18 ⟨?_, rfl⟩; rw [decide_eq_false]; exact fun q => Int64.not_lt.mpr q.1 ((lg_cmp_lt _ _).mp c3))
      | (refine X.zret (x := false) iX7_in_18 ⟨?_, rfl⟩; rw [decide_eq_false]; exact fun q => Int64.not_lt.mpr q.2 ((lg_cmp_gt _ _).mp c10))
/-- the same, with ints -/
theorem c7_in (d : Nat) (h : XH) (x a b : Int32) {a' b' : Int64} (ea : a' = a.toInt64) (eb : b' = b.toInt64) : MetI mX7_in (d, 0, 0) [.long x.toInt64, .long a', .long b'] h (bI (decide (a ≤ x ∧ x ≤ b))) := by
  have := c_X7_in d h x.toInt64 a' b'
  rw [show decide (a ≤ x ∧ x ≤ b) = decide (a' ≤ x.toInt64 ∧ x.toInt64 ≤ b') from by rw [ea, eb]; simp only [wle]]
  exact this
/-- there is such a tree, ladder -/
def isT (nw : Nat → Int32) (t : Int32) : Bool := decide (nI 0 ≤ t ∧ t ≤ nw 0 - nI 1)
def isL (nw : Nat → Int32) (l : Int32) : Bool := decide (nI 0 ≤ l ∧ l ≤ nw 1 - nI 1)
theorem c_X7_isTree {d : Nat} {h : XH} {nw : Nat → Int32} {t : Int32} (H : MO h nw) : MetI mX7_isTree (d + 1, 0, 0) [.ref 98, .int t] h (bI (isT nw t)) := by
  obtain ⟨⟨ty, pl, fa, un, ku, ik, h98⟩, h99⟩ := H
  refine MetX.of (by decide) rfl (Nat.le_of_ble_eq_true rfl) ?_
  refine X.iload iX7_isTree_0 rfl ?_
  refine X.i2l iX7_isTree_1 ?_
  refine X.pushl iX7_isTree_2 ?_
  refine X.aload iX7_isTree_3 rfl ?_
  refine X.getf iX7_isTree_4 (by repeat (first | assumption | exact xup_eq _ _ _ | rw [xup_ne _ _ (by first | decide | omega | assumption)])) rfl ?_
  refine X.pushi (v := nI 0) iX7_isTree_7 ?_
  refine X.ialdN iX7_isTree_8 (by repeat (first | assumption | exact xup_eq _ _ _ | rw [xup_ne _ _ (by first | decide | omega | assumption)])) (by omega) (by decide) ?_
  refine X.pushi (v := nI 1) iX7_isTree_9 ?_
  refine X.isub iX7_isTree_10 ?_
  refine X.i2l iX7_isTree_11 ?_
  refine X.callSi iX7_isTree_12 (c7_in d h t (nI 0) _ (by decide) rfl) rfl rfl (xfit _ _ _) (Nat.le_of_ble_eq_true rfl) ?_
  exact X.zret iX7_isTree_15 ⟨rfl, rfl⟩
theorem c_X7_isLadder {d : Nat} {h : XH} {nw : Nat → Int32} {l : Int32} (H : MO h nw) : MetI mX7_isLadder (d + 1, 0, 0) [.ref 98, .int l] h (bI (isL nw l)) := by
  obtain ⟨⟨ty, pl, fa, un, ku, ik, h98⟩, h99⟩ := H
  refine MetX.of (by decide) rfl (Nat.le_of_ble_eq_true rfl) ?_
  refine X.iload iX7_isLadder_0 rfl ?_
  refine X.i2l iX7_isLadder_1 ?_
  refine X.pushl iX7_isLadder_2 ?_
  refine X.aload iX7_isLadder_3 rfl ?_
  refine X.getf iX7_isLadder_4 (by repeat (first | assumption | exact xup_eq _ _ _ | rw [xup_ne _ _ (by first | decide | omega | assumption)])) rfl ?_
  refine X.pushi (v := nI 1) iX7_isLadder_7 ?_
  refine X.ialdN iX7_isLadder_8 (by repeat (first | assumption | exact xup_eq _ _ _ | rw [xup_ne _ _ (by first | decide | omega | assumption)])) (by omega) (by decide) ?_
  refine X.pushi (v := nI 1) iX7_isLadder_9 ?_
  refine X.isub iX7_isLadder_10 ?_
  refine X.i2l iX7_isLadder_11 ?_
  refine X.callSi iX7_isLadder_12 (c7_in d h l (nI 0) _ (by decide) rfl) rfl rfl (xfit _ _ _) (Nat.le_of_ble_eq_true rfl) ?_
  exact X.zret iX7_isLadder_15 ⟨rfl, rfl⟩
theorem ixT (t w : Nat) : nI 9 + nI 3 * nI t + nI w = nI (9 + 3 * t + w) := by rw [pk_mul, nI_add, nI_add]
theorem ixL (l w : Nat) : nI 27 + nI 4 * nI l + nI w = nI (27 + 4 * l + w) := by rw [pk_mul, nI_add, nI_add]
theorem c_X7_ofTree {d : Nat} {h : XH} {nw : Nat → Int32} {t w : Nat} (H : MO h nw) (ht : 9 + 3 * t + w < 43) : MetI mX7_ofTree (d, 0, 0) [.ref 98, .int (nI t), .int (nI w)] h (nw (9 + 3 * t + w)) := by
  obtain ⟨⟨ty, pl, fa, un, ku, ik, h98⟩, h99⟩ := H
  refine MetX.of (by decide) rfl (Nat.le_of_ble_eq_true rfl) ?_
  refine X.aload iX7_ofTree_0 rfl ?_
  refine X.getf iX7_ofTree_1 (by repeat (first | assumption | exact xup_eq _ _ _ | rw [xup_ne _ _ (by first | decide | omega | assumption)])) rfl ?_
  refine X.pushi (v := nI 9) iX7_ofTree_4 ?_
  refine X.pushi (v := nI 3) iX7_ofTree_6 ?_
  refine X.iload iX7_ofTree_7 rfl ?_
  refine X.imul iX7_ofTree_8 ?_
  refine X.iadd iX7_ofTree_9 ?_
  refine X.iload iX7_ofTree_10 rfl ?_
  refine X.iadd iX7_ofTree_11 ?_
  refine X.ialdE iX7_ofTree_12 (by repeat (first | assumption | exact xup_eq _ _ _ | rw [xup_ne _ _ (by first | decide | omega | assumption)])) (ixT t w) ht (by decide) ?_
  exact X.iret iX7_ofTree_13 ⟨rfl, rfl⟩
theorem c_X7_ofLadder {d : Nat} {h : XH} {nw : Nat → Int32} {l w : Nat} (H : MO h nw) (hl : 27 + 4 * l + w < 43) : MetI mX7_ofLadder (d, 0, 0) [.ref 98, .int (nI l), .int (nI w)] h (nw (27 + 4 * l + w)) := by
  obtain ⟨⟨ty, pl, fa, un, ku, ik, h98⟩, h99⟩ := H
  refine MetX.of (by decide) rfl (Nat.le_of_ble_eq_true rfl) ?_
  refine X.aload iX7_ofLadder_0 rfl ?_
  refine X.getf iX7_ofLadder_1 (by repeat (first | assumption | exact xup_eq _ _ _ | rw [xup_ne _ _ (by first | decide | omega | assumption)])) rfl ?_
  refine X.pushi (v := nI 27) iX7_ofLadder_4 ?_
  refine X.pushi (v := nI 4) iX7_ofLadder_6 ?_
  refine X.iload iX7_ofLadder_7 rfl ?_
  refine X.imul iX7_ofLadder_8 ?_
  refine X.iadd iX7_ofLadder_9 ?_
  refine X.iload iX7_ofLadder_10 rfl ?_
  refine X.iadd iX7_ofLadder_11 ?_
  refine X.ialdE iX7_ofLadder_12 (by repeat (first | assumption | exact xup_eq _ _ _ | rw [xup_ne _ _ (by first | decide | omega | assumption)])) (ixL l w) hl (by decide) ?_
  exact X.iret iX7_ofLadder_13 ⟨rfl, rfl⟩
theorem c_X7_leansAt {d : Nat} {h : XH} {nw : Nat → Int32} {l : Nat} (H : MO h nw) (hl : l < 4) : MetI mX7_leansAt (d + 1, 0, 0) [.ref 98, .int (nI l)] h (nw (30 + 4 * l)) := by
  have e : 30 + 4 * l = 27 + 4 * l + 3 := by omega
  rw [e]
  obtain ⟨ty, pl, fa, un, ku, ik, h98⟩ := H.1
  refine MetX.of (by decide) rfl (Nat.le_of_ble_eq_true rfl) ?_
  refine X.aload iX7_leansAt_0 rfl ?_
  refine X.iload iX7_leansAt_1 rfl ?_
  refine X.pushi (v := nI 3) iX7_leansAt_2 ?_
  refine X.callVi iX7_leansAt_3 (c_X7_ofLadder (d := d) H (by omega)) (by repeat (first | assumption | exact xup_eq _ _ _ | rw [xup_ne _ _ (by first | decide | omega | assumption)])) rfl rfl (xfit _ _ _) (Nat.le_of_ble_eq_true rfl) ?_
  exact X.iret iX7_leansAt_6 ⟨rfl, rfl⟩
/-- how far -/
def dewyI (l day : Int32) : Int32 := if day - day / nI 3 * nI 3 = 0 ∧ nI 2 < l then nI 2 else l
def reachI (k l day : Int32) : Int32 := if k = nI 0 then l else if k = nI 1 then dewyI l day else if k = nI 2 then nI 2 * l else if k = nI 3 then (if nI 3 < l ∧ nI 3 < dewyI l day then nI 3 else dewyI l day) else (if day - day / nI 7 * nI 7 = 0 then nI 0 else nI 2 * l)
theorem tne {x : Int32} (n : Nat) (hn : n < 2 ^ 31) (h : ¬ x = nI n) : x.toInt ≠ (n : Int) := fun q => h (Int32.toInt_inj.mp (by rw [q, nI_toInt hn]))
theorem c_X7_reaches (d : Nat) (h : XH) (k l day : Int32) : MetI mX7_reaches (d, 0, 0) [.int k, .int l, .int day] h (reachI k l day) := by
  have hj : X xT mX7_reaches (xR (d, 0, 0)) (0, 0) 16 [some (.int k), some (.int l), some (.int day), none] [.int (dewyI l day)] h (fun v h' => v = some (.int (reachI k l day)) ∧ h' = h) := by
    refine X.istore iX7_reaches_16 rfl rfl ?_
    refine X.iload iX7_reaches_17 rfl ?_
    by_cases k0 : k = nI 0
    · refine X.tabIn iX7_reaches_18 0 rfl (by rw [k0]; decide) ?_
      refine X.iload iX7_reaches_48 rfl ?_
      exact X.iret iX7_reaches_49 ⟨(by rw [reachI, if_pos k0]), rfl⟩
    by_cases k1 : k = nI 1
    · refine X.tabIn iX7_reaches_18 1 rfl (by rw [k1]; decide) ?_
      refine X.iload iX7_reaches_50 rfl ?_
      exact X.iret iX7_reaches_51 ⟨(by rw [reachI, if_neg k0, if_pos k1]), rfl⟩
    by_cases k2 : k = nI 2
    · refine X.tabIn iX7_reaches_18 2 rfl (by rw [k2]; decide) ?_
      refine X.pushi (v := nI 2) iX7_reaches_52 ?_
      refine X.iload iX7_reaches_53 rfl ?_
      refine X.imul iX7_reaches_54 ?_
      exact X.iret iX7_reaches_55 ⟨(by rw [reachI, if_neg k0, if_neg k1, if_pos k2]), rfl⟩
    by_cases k3 : k = nI 3
    · refine X.tabIn iX7_reaches_18 3 rfl (by rw [k3]; decide) ?_
      refine X.iload iX7_reaches_56 rfl ?_
      refine X.pushi (v := nI 3) iX7_reaches_57 ?_
      refine X.cmle iX7_reaches_58 (fun c58 => ?_) (fun c58 => ?_)
      · refine X.iload iX7_reaches_70 rfl ?_
        first
        | (refine X.iret iX7_reaches_71 ⟨?_, rfl⟩; rw [reachI, if_neg k0, if_neg k1, if_neg k2, if_pos k3, if_pos (And.intro (Int32.not_le.mp c58) (Int32.not_le.mp c63))])
        | (refine X.iret iX7_reaches_71 ⟨?_, rfl⟩; rw [reachI, if_neg k0, if_neg k1, if_neg k2, if_pos k3, if_neg (fun q => Int32.not_le.mpr q.2 c63)])
        | (refine X.iret iX7_reaches_71 ⟨?_, rfl⟩; rw [reachI, if_neg k0, if_neg k1, if_neg k2, if_pos k3, if_neg (fun q => Int32.not_le.mpr q.1 c58)])
      · refine X.iload iX7_reaches_61 rfl ?_
        refine X.pushi (v := nI 3) iX7_reaches_62 ?_
        refine X.cmle iX7_reaches_63 (fun c63 => ?_) (fun c63 => ?_)
        · refine X.iload iX7_reaches_70 rfl ?_
          first
          | (refine X.iret iX7_reaches_71 ⟨?_, rfl⟩; rw [reachI, if_neg k0, if_neg k1, if_neg k2, if_pos k3, if_pos (And.intro (Int32.not_le.mp c58) (Int32.not_le.mp c63))])
          | (refine X.iret iX7_reaches_71 ⟨?_, rfl⟩; rw [reachI, if_neg k0, if_neg k1, if_neg k2, if_pos k3, if_neg (fun q => Int32.not_le.mpr q.2 c63)])
          | (refine X.iret iX7_reaches_71 ⟨?_, rfl⟩; rw [reachI, if_neg k0, if_neg k1, if_neg k2, if_pos k3, if_neg (fun q => Int32.not_le.mpr q.1 c58)])
        · refine X.pushi (v := nI 3) iX7_reaches_66 ?_
          refine X.goto iX7_reaches_67 ?_
          first
          | (refine X.iret iX7_reaches_71 ⟨?_, rfl⟩; rw [reachI, if_neg k0, if_neg k1, if_neg k2, if_pos k3, if_pos (And.intro (Int32.not_le.mp c58) (Int32.not_le.mp c63))])
          | (refine X.iret iX7_reaches_71 ⟨?_, rfl⟩; rw [reachI, if_neg k0, if_neg k1, if_neg k2, if_pos k3, if_neg (fun q => Int32.not_le.mpr q.2 c63)])
          | (refine X.iret iX7_reaches_71 ⟨?_, rfl⟩; rw [reachI, if_neg k0, if_neg k1, if_neg k2, if_pos k3, if_neg (fun q => Int32.not_le.mpr q.1 c58)])
    have q0 := tne 0 (by decide) k0
    have q1 := tne 1 (by decide) k1
    have q2 := tne 2 (by decide) k2
    have q3 := tne 3 (by decide) k3
    refine X.tabOut iX7_reaches_18 (by show k.toInt < 0 ∨ 0 + 4 ≤ k.toInt; omega) ?_
    refine X.iload iX7_reaches_72 rfl ?_
    refine X.pushi (v := nI 7) iX7_reaches_73 ?_
    refine X.irem iX7_reaches_75 (by decide) ?_
    refine X.ifne iX7_reaches_76 (fun c76 => ?_) (fun c76 => ?_)
    · refine X.pushi (v := nI 2) iX7_reaches_83 ?_
      refine X.iload iX7_reaches_84 rfl ?_
      refine X.imul iX7_reaches_85 ?_
      first
      | (refine X.iret iX7_reaches_86 ⟨?_, rfl⟩; rw [reachI, if_neg k0, if_neg k1, if_neg k2, if_neg k3, if_pos c76])
      | (refine X.iret iX7_reaches_86 ⟨?_, rfl⟩; rw [reachI, if_neg k0, if_neg k1, if_neg k2, if_neg k3, if_neg c76])
    · refine X.pushi (v := nI 0) iX7_reaches_79 ?_
      refine X.goto iX7_reaches_80 ?_
      first
      | (refine X.iret iX7_reaches_86 ⟨?_, rfl⟩; rw [reachI, if_neg k0, if_neg k1, if_neg k2, if_neg k3, if_pos c76])
      | (refine X.iret iX7_reaches_86 ⟨?_, rfl⟩; rw [reachI, if_neg k0, if_neg k1, if_neg k2, if_neg k3, if_neg c76])
  refine MetX.of (by decide) rfl (Nat.le_of_ble_eq_true rfl) ?_
  refine X.iload iX7_reaches_0 rfl ?_
  refine X.pushi (v := nI 3) iX7_reaches_1 ?_
  refine X.irem iX7_reaches_2 (by decide) ?_
  refine X.ifne iX7_reaches_3 (fun c3 => ?_) (fun c3 => ?_)
  · refine X.iload iX7_reaches_15 rfl ?_
    first
    | (rw [dewyI, if_pos (And.intro c3 (Int32.not_le.mp c8))] at hj; exact hj)
    | (rw [dewyI, if_neg (fun q => Int32.not_le.mpr q.2 c8)] at hj; exact hj)
    | (rw [dewyI, if_neg (fun q => c3 q.1)] at hj; exact hj)
  · refine X.iload iX7_reaches_6 rfl ?_
    refine X.pushi (v := nI 2) iX7_reaches_7 ?_
    refine X.cmle iX7_reaches_8 (fun c8 => ?_) (fun c8 => ?_)
    · refine X.iload iX7_reaches_15 rfl ?_
      first
      | (rw [dewyI, if_pos (And.intro c3 (Int32.not_le.mp c8))] at hj; exact hj)
      | (rw [dewyI, if_neg (fun q => Int32.not_le.mpr q.2 c8)] at hj; exact hj)
      | (rw [dewyI, if_neg (fun q => c3 q.1)] at hj; exact hj)
    · refine X.pushi (v := nI 2) iX7_reaches_11 ?_
      refine X.goto iX7_reaches_12 ?_
      first
      | (rw [dewyI, if_pos (And.intro c3 (Int32.not_le.mp c8))] at hj; exact hj)
      | (rw [dewyI, if_neg (fun q => Int32.not_le.mpr q.2 c8)] at hj; exact hj)
      | (rw [dewyI, if_neg (fun q => c3 q.1)] at hj; exact hj)
def rcI (nw : Nat → Int32) (l t : Nat) (day : Int32) : Bool := decide (nw (9 + 3 * t) ≤ reachI (nw (27 + 4 * l)) (nw (28 + 4 * l)) day)
theorem c_X7_isReached {d : Nat} {h : XH} {nw : Nat → Int32} {l t : Nat} {day : Int32} (H : MO h nw) (hl : l < 4) (ht : t < 6) : MetI mX7_isReached (d + 1, 0, 0) [.ref 98, .int (nI l), .int (nI t), .int day] h (bI (rcI nw l t day)) := by
  obtain ⟨ty, pl, fa, un, ku, ik, h98⟩ := H.1
  have e : rcI nw l t day = decide (nw (9 + 3 * t + 0) ≤ reachI (nw (27 + 4 * l + 0)) (nw (27 + 4 * l + 1)) day) := by
    have e2 : 28 + 4 * l = 27 + 4 * l + 1 := by omega
    simp only [rcI, e2, Nat.add_zero]
  rw [e]
  refine MetX.of (by decide) rfl (Nat.le_of_ble_eq_true rfl) ?_
  refine X.aload iX7_isReached_0 rfl ?_
  refine X.iload iX7_isReached_1 rfl ?_
  refine X.pushi (v := nI 0) iX7_isReached_2 ?_
  refine X.callVi iX7_isReached_3 (c_X7_ofLadder (d := d) (w := 0) H (by omega)) (by repeat (first | assumption | exact xup_eq _ _ _ | rw [xup_ne _ _ (by first | decide | omega | assumption)])) rfl rfl (xfit _ _ _) (Nat.le_of_ble_eq_true rfl) ?_
  refine X.aload iX7_isReached_6 rfl ?_
  refine X.iload iX7_isReached_7 rfl ?_
  refine X.pushi (v := nI 1) iX7_isReached_8 ?_
  refine X.callVi iX7_isReached_9 (c_X7_ofLadder (d := d) (w := 1) H (by omega)) (by repeat (first | assumption | exact xup_eq _ _ _ | rw [xup_ne _ _ (by first | decide | omega | assumption)])) rfl rfl (xfit _ _ _) (Nat.le_of_ble_eq_true rfl) ?_
  refine X.iload iX7_isReached_12 rfl ?_
  refine X.callSi iX7_isReached_13 (c_X7_reaches d h _ _ day) rfl rfl (xfit _ _ _) (Nat.le_of_ble_eq_true rfl) ?_
  refine X.aload iX7_isReached_16 rfl ?_
  refine X.iload iX7_isReached_17 rfl ?_
  refine X.pushi (v := nI 0) iX7_isReached_18 ?_
  refine X.callVi iX7_isReached_19 (c_X7_ofTree (d := d) (w := 0) H (by omega)) (by repeat (first | assumption | exact xup_eq _ _ _ | rw [xup_ne _ _ (by first | decide | omega | assumption)])) rfl rfl (xfit _ _ _) (Nat.le_of_ble_eq_true rfl) ?_
  refine X.cmlt iX7_isReached_22 (fun c22 => ?_) (fun c22 => ?_)
  · refine X.pushi (v := nI 0) iX7_isReached_29 ?_
    first
    | (refine X.zret (x := true) iX7_isReached_30 ⟨?_, rfl⟩; rw [decide_eq_true (Int32.not_lt.mp c22)])
    | (refine X.zret (x := false) iX7_isReached_30 ⟨?_, rfl⟩; rw [decide_eq_false (Int32.not_le.mpr c22)])
  · refine X.pushi (v := nI 1) iX7_isReached_25 ?_
    refine X.goto iX7_isReached_26 ?_
    first
    | (refine X.zret (x := true) iX7_isReached_30 ⟨?_, rfl⟩; rw [decide_eq_true (Int32.not_lt.mp c22)])
    | (refine X.zret (x := false) iX7_isReached_30 ⟨?_, rfl⟩; rw [decide_eq_false (Int32.not_le.mpr c22)])
def ripI (nw : Nat → Int32) (t : Nat) : Bool := decide (nw (11 + 3 * t) ≤ nw 2)
theorem c_X7_isRipe {d : Nat} {h : XH} {nw : Nat → Int32} {t : Nat} (H : MO h nw) (ht : t < 6) : MetI mX7_isRipe (d + 1, 0, 0) [.ref 98, .int (nI t)] h (bI (ripI nw t)) := by
  have e : ripI nw t = decide (nw (9 + 3 * t + 2) ≤ nw 2) := by
    have e2 : 11 + 3 * t = 9 + 3 * t + 2 := by omega
    rw [ripI, e2]
  rw [e]
  obtain ⟨⟨ty, pl, fa, un, ku, ik, h98⟩, h99⟩ := id H
  refine MetX.of (by decide) rfl (Nat.le_of_ble_eq_true rfl) ?_
  refine X.aload iX7_isRipe_0 rfl ?_
  refine X.getf iX7_isRipe_1 (by repeat (first | assumption | exact xup_eq _ _ _ | rw [xup_ne _ _ (by first | decide | omega | assumption)])) rfl ?_
  refine X.pushi (v := nI 2) iX7_isRipe_4 ?_
  refine X.ialdN iX7_isRipe_5 (by repeat (first | assumption | exact xup_eq _ _ _ | rw [xup_ne _ _ (by first | decide | omega | assumption)])) (by omega) (by decide) ?_
  refine X.aload iX7_isRipe_6 rfl ?_
  refine X.iload iX7_isRipe_7 rfl ?_
  refine X.pushi (v := nI 2) iX7_isRipe_8 ?_
  refine X.callVi iX7_isRipe_9 (c_X7_ofTree (d := d) (w := 2) H (by omega)) (by repeat (first | assumption | exact xup_eq _ _ _ | rw [xup_ne _ _ (by first | decide | omega | assumption)])) rfl rfl (xfit _ _ _) (Nat.le_of_ble_eq_true rfl) ?_
  refine X.cmlt iX7_isRipe_12 (fun c12 => ?_) (fun c12 => ?_)
  · refine X.pushi (v := nI 0) iX7_isRipe_19 ?_
    first
    | (refine X.zret (x := true) iX7_isRipe_20 ⟨?_, rfl⟩; rw [decide_eq_true (Int32.not_lt.mp c12)])
    | (refine X.zret (x := false) iX7_isRipe_20 ⟨?_, rfl⟩; rw [decide_eq_false (Int32.not_le.mpr c12)])
  · refine X.pushi (v := nI 1) iX7_isRipe_15 ?_
    refine X.goto iX7_isRipe_16 ?_
    first
    | (refine X.zret (x := true) iX7_isRipe_20 ⟨?_, rfl⟩; rw [decide_eq_true (Int32.not_lt.mp c12)])
    | (refine X.zret (x := false) iX7_isRipe_20 ⟨?_, rfl⟩; rw [decide_eq_false (Int32.not_le.mpr c12)])
def minI (a b : Int32) : Int32 := if a < b then a else b
theorem c_X7_less (d : Nat) (h : XH) (a b : Int32) : MetI mX7_less (d, 0, 0) [.int a, .int b] h (minI a b) := by
  refine MetX.of (by decide) rfl (Nat.le_of_ble_eq_true rfl) ?_
  refine X.iload iX7_less_0 rfl ?_
  refine X.iload iX7_less_1 rfl ?_
  refine X.cmge iX7_less_2 (fun c2 => ?_) (fun c2 => ?_)
  · refine X.iload iX7_less_9 rfl ?_
    first
    | (refine X.iret iX7_less_10 ⟨?_, rfl⟩; rw [minI, if_pos (Int32.not_le.mp c2)])
    | (refine X.iret iX7_less_10 ⟨?_, rfl⟩; rw [minI, if_neg (Int32.not_lt.mpr c2)])
  · refine X.iload iX7_less_5 rfl ?_
    refine X.goto iX7_less_6 ?_
    first
    | (refine X.iret iX7_less_10 ⟨?_, rfl⟩; rw [minI, if_pos (Int32.not_le.mp c2)])
    | (refine X.iret iX7_less_10 ⟨?_, rfl⟩; rw [minI, if_neg (Int32.not_lt.mpr c2)])
theorem c_X7_takes {d : Nat} {h : XH} {nw : Nat → Int32} {t : Nat} {n : Int32} (H : MO h nw) (ht : t < 6) : MetV mX7_takes (d, 0, 0) [.ref 98, .int (nI t), .int n] h (xup h 99 (IA 43 (upd nw (9 + 3 * t + 1) (nw (9 + 3 * t + 1) - n)))) := by
  obtain ⟨⟨ty, pl, fa, un, ku, ik, h98⟩, h99⟩ := H
  refine MetX.of (by decide) rfl (Nat.le_of_ble_eq_true rfl) ?_
  refine X.aload iX7_takes_0 rfl ?_
  refine X.getf iX7_takes_1 (by repeat (first | assumption | exact xup_eq _ _ _ | rw [xup_ne _ _ (by first | decide | omega | assumption)])) rfl ?_
  refine X.pushi (v := nI 9) iX7_takes_4 ?_
  refine X.pushi (v := nI 3) iX7_takes_6 ?_
  refine X.iload iX7_takes_7 rfl ?_
  refine X.imul iX7_takes_8 ?_
  refine X.iadd iX7_takes_9 ?_
  refine X.pushi (v := nI 1) iX7_takes_10 ?_
  refine X.iadd iX7_takes_11 ?_
  refine X.dup2 iX7_takes_12 ?_
  refine X.ialdE iX7_takes_13 (by repeat (first | assumption | exact xup_eq _ _ _ | rw [xup_ne _ _ (by first | decide | omega | assumption)])) (ixT t 1) (by omega) (by decide) ?_
  refine X.iload iX7_takes_14 rfl ?_
  refine X.isub iX7_takes_15 ?_
  refine X.iastE iX7_takes_16 (by repeat (first | assumption | exact xup_eq _ _ _ | rw [xup_ne _ _ (by first | decide | omega | assumption)])) (ixT t 1) (by omega) (by decide) ?_
  exact X.vret iX7_takes_17 ⟨rfl, rfl⟩
end
section
/-! the reference: a day -/
theorem X.weak {Γ : State → Nat → Nat → Prop} {μ : MI} {R : Room} {κ : Nat × Nat} {pc : Nat} {L L' : List (Option Value)} {S : List Value} {h : XH} {Q : Option Value → XH → Prop} (hL : ∀ (i : Nat) (v : Value), L'[i]? = some (some v) → L[i]? = some (some v)) (k : X Γ μ R κ pc L' S h Q) : X Γ μ R κ pc L S h Q := by
  intro p l e s m args below meth c B b D dA C Z E hκ H locs ls hR hS hl
  exact k p l e s m args below meth c B b D dA C Z E hκ H locs ls hR hS ⟨hl.1, hl.2.1, fun i v hv => hl.2.2 i v (hL i v hv)⟩
/-- a local is forgotten -/
theorem X.unset {Γ : State → Nat → Nat → Prop} {μ : MI} {R : Room} {κ : Nat × Nat} {pc : Nat} {L L' : List (Option Value)} {S : List Value} {h : XH} {Q : Option Value → XH → Prop} (i : Nat) (hL : L.set i none = L') (k : X Γ μ R κ pc L' S h Q) : X Γ μ R κ pc L S h Q := by
  subst hL
  refine X.weak (fun j v hv => ?_) k
  by_cases hj : i = j
  · subst hj
    have hlt : i < (L.set i none).length := (List.getElem?_eq_some_iff.mp hv).1
    rw [List.length_set] at hlt
    rw [List.getElem?_set_self hlt] at hv
    cases hv
  · rwa [List.getElem?_set_ne hj] at hv
theorem X.heap {Γ : State → Nat → Nat → Prop} {μ : MI} {R : Room} {κ : Nat × Nat} {pc : Nat} {L : List (Option Value)} {S : List Value} {h h' : XH} {Q : Option Value → XH → Prop} (e : h = h') (k : X Γ μ R κ pc L S h' Q) : X Γ μ R κ pc L S h Q := e ▸ k
/-- the numbers of trees and of ladders, and where these lean -/
def WF (nw : Nat → Int32) (nT nL : Nat) : Prop := nw 0 = nI nT ∧ nw 1 = nI nL ∧ nT ≤ 6 ∧ nL ≤ 4 ∧ ∀ l, l < nL → nw (30 + 4 * l) = -4 ∨ ∃ t, t < nT ∧ nw (30 + 4 * l) = nI t
theorem upd_ne (f : Nat → Int32) {k j : Nat} (x : Int32) (hj : j ≠ k) : upd f k x j = f j := if_neg hj
theorem upd_eq (f : Nat → Int32) (k : Nat) (x : Int32) : upd f k x k = x := if_pos rfl
theorem WF.upd {nw : Nat → Int32} {nT nL : Nat} (h : WF nw nT nL) (k : Nat) (x : Int32) (hk : 2 ≤ k ∧ k < 30) : WF (upd nw k x) nT nL := by
  obtain ⟨h1, h2, h3, h4, h5⟩ := h
  exact ⟨by rw [upd_ne _ _ (by omega)]; exact h1, by rw [upd_ne _ _ (by omega)]; exact h2, h3, h4, fun l hl => by rw [upd_ne _ _ (by omega)]; exact h5 l hl⟩
def gbTake (nw : Nat → Int32) (t : Nat) : Nat → Int32 :=
  upd (upd nw (9 + 3 * t + 1) (nw (9 + 3 * t + 1) - minI (nw 6) (nw (9 + 3 * t + 1)))) 3 (upd nw (9 + 3 * t + 1) (nw (9 + 3 * t + 1) - minI (nw 6) (nw (9 + 3 * t + 1))) 3 + minI (nw 6) (nw (9 + 3 * t + 1)))
def gbPay (nw : Nat → Int32) (l : Nat) : Nat → Int32 := upd nw 4 (nw 4 + nw (27 + 4 * l + 2))
abbrev awayB (away : Int32) (l : Nat) : Prop := away >>> (nI l &&& 31) &&& nI 1 = 0
def gbL (nw : Nat → Int32) (away : Int32) (l : Nat) : Nat → Int32 :=
  if nw (30 + 4 * l) = -4 then nw else
  if awayB away l ∧ ripI (gbPay nw l) (nw (30 + 4 * l)).toNatClampNeg = true ∧ rcI (gbPay nw l) l (nw (30 + 4 * l)).toNatClampNeg (gbPay nw l 2) = true then gbTake (gbPay nw l) (nw (30 + 4 * l)).toNatClampNeg else gbPay nw l
theorem gbL_wf {nw : Nat → Int32} {nT nL : Nat} (h : WF nw nT nL) (away : Int32) {l : Nat} (hl : l < nL) : WF (gbL nw away l) nT nL := by
  unfold gbL
  split
  · exact h
  · have hp := h.upd 4 (nw 4 + nw (27 + 4 * l + 2)) (by omega)
    rename_i c
    obtain ⟨t, ht, et⟩ := (h.2.2.2.2 l hl).resolve_left c
    have := h.2.2.1
    split
    · rw [et, nI_clamp (by omega)]
      exact ((hp.upd _ _ (by omega)).upd _ _ (by omega))
    · exact hp
def gb1 (nw : Nat → Int32) (away : Int32) : Nat → (Nat → Int32)
  | 0 => nw
  | k + 1 => gbL (gb1 nw away k) away k
theorem gb1_wf {nw : Nat → Int32} {nT nL : Nat} (h : WF nw nT nL) (away : Int32) : ∀ k, k ≤ nL → WF (gb1 nw away k) nT nL
  | 0, _ => h
  | k + 1, hk => gbL_wf (gb1_wf h away k (by omega)) away (by omega)
def gbLose (nw : Nat → Int32) (t : Nat) (n : Int32) : Nat → Int32 := upd (upd nw (9 + 3 * t + 1) (nw (9 + 3 * t + 1) - n)) 5 (upd nw (9 + 3 * t + 1) (nw (9 + 3 * t + 1) - n) 5 + n)
def gbT (nw : Nat → Int32) (t : Nat) : Nat → Int32 := gbLose nw t (if ripI nw t = true then minI (nw 7) (nw (9 + 3 * t + 1)) else nI 0)
def gb2 (nw : Nat → Int32) : Nat → (Nat → Int32)
  | 0 => nw
  | k + 1 => gbT (gb2 nw k) k
theorem gb2_wf {nw : Nat → Int32} {nT nL : Nat} (h : WF nw nT nL) : ∀ k, k ≤ nT → WF (gb2 nw k) nT nL
  | 0, _ => h
  | k + 1, hk => by
    have := h.2.2.1
    exact ((gb2_wf h k (by omega)).upd _ _ (by omega)).upd _ _ (by omega)
def gbDay (nw : Nat → Int32) : Nat → Int32 := upd nw 2 (nw 2 + nI 1)
/-- a day goes by -/
def gb (nw : Nat → Int32) (nT nL : Nat) (away : Int32) : Nat → Int32 := gbDay (gb2 (gb1 nw away nL) nT)
theorem gb_wf {nw : Nat → Int32} {nT nL : Nat} (h : WF nw nT nL) (away : Int32) : WF (gb nw nT nL away) nT nL := (gb2_wf (gb1_wf h away nL (Nat.le_refl _)) nT (Nat.le_refl _)).upd 2 _ (by omega)
set_option maxHeartbeats 1000000 in
theorem gb_ladder {d : Nat} {h : XH} {nw : Nat → Int32} {nT nL l : Nat} {away : Int32} {Q : Option Value → XH → Prop} (H : MO h nw) (wf : WF nw nT nL) (hl : l < nL) (K : X xT mX7_goesBy (xR (d + 2, 0, 0)) (0, 0) 106 [some (.ref 98), some (.int away), some (.int (nI l)), none, none] [] (xup h 99 (IA 43 (gbL nw away l))) Q) : X xT mX7_goesBy (xR (d + 2, 0, 0)) (0, 0) 12 [some (.ref 98), some (.int away), some (.int (nI l)), none, none] [] h Q := by
  obtain ⟨⟨ty, pl, fa, un, ku, ik, h98⟩, h99⟩ := id H
  have hT := wf.2.2.1
  have hL := wf.2.2.2.1
  have hw := wf.2.2.2.2 l hl
  have Hp : MO (xup h 99 (IA 43 (gbPay nw l))) (gbPay nw l) := H.up _
  unfold gbL at K
  refine X.aload iX7_goesBy_12 rfl ?_
  refine X.iload iX7_goesBy_13 rfl ?_
  refine X.callVi iX7_goesBy_14 (c_X7_leansAt (d := d) H (by omega)) (by repeat (first | assumption | exact xup_eq _ _ _ | rw [xup_ne _ _ (by first | decide | omega | assumption)])) rfl rfl (xfit _ _ _) (Nat.le_of_ble_eq_true rfl) ?_
  refine X.istore iX7_goesBy_17 rfl rfl ?_
  refine X.iload iX7_goesBy_18 rfl ?_
  refine X.pushi iX7_goesBy_19 ?_
  refine X.cmeq iX7_goesBy_21 (fun c21 => ?_) (fun c21 => ?_)
  · first
    | (rw [if_pos c21, xup_self _ h99] at K; exact X.unset 3 rfl K)
    | (rw [if_neg (fun q => c44 q.1)] at K; exact X.unset 3 rfl K)
    | (rw [if_neg (fun q => Bool.noConfusion (c52.symm.trans q.2.1))] at K; exact X.unset 3 rfl K)
    | (rw [if_neg (fun q => Bool.noConfusion (c67.symm.trans q.2.2))] at K; exact X.unset 3 rfl K)
    | (rw [if_pos (And.intro c44 (And.intro c52 c67))] at K; exact X.unset 3 rfl (X.unset 4 rfl (X.heap (by rw [xup_xup, xup_xup]; rfl) K)))
  · obtain ⟨t, ht, et⟩ := hw.resolve_left c21
    rw [if_neg c21] at K
    rw [et] at K ⊢
    rw [nI_clamp (by omega)] at K
    refine X.aload iX7_goesBy_24 rfl ?_
    refine X.getf iX7_goesBy_25 (by repeat (first | assumption | exact xup_eq _ _ _ | rw [xup_ne _ _ (by first | decide | omega | assumption)])) rfl ?_
    refine X.pushi (v := nI 4) iX7_goesBy_28 ?_
    refine X.dup2 iX7_goesBy_29 ?_
    refine X.ialdN iX7_goesBy_30 (by repeat (first | assumption | exact xup_eq _ _ _ | rw [xup_ne _ _ (by first | decide | omega | assumption)])) (by omega) (by decide) ?_
    refine X.aload iX7_goesBy_31 rfl ?_
    refine X.iload iX7_goesBy_32 rfl ?_
    refine X.pushi (v := nI 2) iX7_goesBy_33 ?_
    refine X.callVi iX7_goesBy_34 (c_X7_ofLadder (d := d + 1) (w := 2) H (by omega)) (by repeat (first | assumption | exact xup_eq _ _ _ | rw [xup_ne _ _ (by first | decide | omega | assumption)])) rfl rfl (xfit _ _ _) (Nat.le_of_ble_eq_true rfl) ?_
    refine X.iadd iX7_goesBy_37 ?_
    refine X.iastN iX7_goesBy_38 (by repeat (first | assumption | exact xup_eq _ _ _ | rw [xup_ne _ _ (by first | decide | omega | assumption)])) (by omega) (by decide) ?_
    refine X.heap (h' := xup h 99 (IA 43 (gbPay nw l))) rfl ?_
    refine X.iload iX7_goesBy_39 rfl ?_
    refine X.iload iX7_goesBy_40 rfl ?_
    refine X.ishr iX7_goesBy_41 ?_
    refine X.pushi (v := nI 1) iX7_goesBy_42 ?_
    refine X.iand iX7_goesBy_43 ?_
    refine X.ifne iX7_goesBy_44 (fun c44 => ?_) (fun c44 => ?_)
    · first
      | (rw [if_pos c21, xup_self _ h99] at K; exact X.unset 3 rfl K)
      | (rw [if_neg (fun q => c44 q.1)] at K; exact X.unset 3 rfl K)
      | (rw [if_neg (fun q => Bool.noConfusion (c52.symm.trans q.2.1))] at K; exact X.unset 3 rfl K)
      | (rw [if_neg (fun q => Bool.noConfusion (c67.symm.trans q.2.2))] at K; exact X.unset 3 rfl K)
      | (rw [if_pos (And.intro c44 (And.intro c52 c67))] at K; exact X.unset 3 rfl (X.unset 4 rfl (X.heap (by rw [xup_xup, xup_xup]; rfl) K)))
    · refine X.aload iX7_goesBy_47 rfl ?_
      refine X.iload iX7_goesBy_48 rfl ?_
      refine X.callVi iX7_goesBy_49 (c_X7_isRipe (d := d) Hp (by omega)) (by repeat (first | assumption | exact xup_eq _ _ _ | rw [xup_ne _ _ (by first | decide | omega | assumption)])) rfl rfl (xfit _ _ _) (Nat.le_of_ble_eq_true rfl) ?_
      refine X.ifeqB iX7_goesBy_52 (fun c52 => ?_) (fun c52 => ?_)
      · first
        | (rw [if_pos c21, xup_self _ h99] at K; exact X.unset 3 rfl K)
        | (rw [if_neg (fun q => c44 q.1)] at K; exact X.unset 3 rfl K)
        | (rw [if_neg (fun q => Bool.noConfusion (c52.symm.trans q.2.1))] at K; exact X.unset 3 rfl K)
        | (rw [if_neg (fun q => Bool.noConfusion (c67.symm.trans q.2.2))] at K; exact X.unset 3 rfl K)
        | (rw [if_pos (And.intro c44 (And.intro c52 c67))] at K; exact X.unset 3 rfl (X.unset 4 rfl (X.heap (by rw [xup_xup, xup_xup]; rfl) K)))
      · refine X.aload iX7_goesBy_55 rfl ?_
        refine X.iload iX7_goesBy_56 rfl ?_
        refine X.iload iX7_goesBy_57 rfl ?_
        refine X.aload iX7_goesBy_58 rfl ?_
        refine X.getf iX7_goesBy_59 (by repeat (first | assumption | exact xup_eq _ _ _ | rw [xup_ne _ _ (by first | decide | omega | assumption)])) rfl ?_
        refine X.pushi (v := nI 2) iX7_goesBy_62 ?_
        refine X.ialdN iX7_goesBy_63 (by repeat (first | assumption | exact xup_eq _ _ _ | rw [xup_ne _ _ (by first | decide | omega | assumption)])) (by omega) (by decide) ?_
        refine X.callVi iX7_goesBy_64 (c_X7_isReached (d := d) Hp (by omega) (by omega)) (by repeat (first | assumption | exact xup_eq _ _ _ | rw [xup_ne _ _ (by first | decide | omega | assumption)])) rfl rfl (xfit _ _ _) (Nat.le_of_ble_eq_true rfl) ?_
        refine X.ifeqB iX7_goesBy_67 (fun c67 => ?_) (fun c67 => ?_)
        · first
          | (rw [if_pos c21, xup_self _ h99] at K; exact X.unset 3 rfl K)
          | (rw [if_neg (fun q => c44 q.1)] at K; exact X.unset 3 rfl K)
          | (rw [if_neg (fun q => Bool.noConfusion (c52.symm.trans q.2.1))] at K; exact X.unset 3 rfl K)
          | (rw [if_neg (fun q => Bool.noConfusion (c67.symm.trans q.2.2))] at K; exact X.unset 3 rfl K)
          | (rw [if_pos (And.intro c44 (And.intro c52 c67))] at K; exact X.unset 3 rfl (X.unset 4 rfl (X.heap (by rw [xup_xup, xup_xup]; rfl) K)))
        · refine X.aload iX7_goesBy_70 rfl ?_
          refine X.getf iX7_goesBy_71 (by repeat (first | assumption | exact xup_eq _ _ _ | rw [xup_ne _ _ (by first | decide | omega | assumption)])) rfl ?_
          refine X.pushi (v := nI 6) iX7_goesBy_74 ?_
          refine X.ialdN iX7_goesBy_76 (by repeat (first | assumption | exact xup_eq _ _ _ | rw [xup_ne _ _ (by first | decide | omega | assumption)])) (by omega) (by decide) ?_
          refine X.aload iX7_goesBy_77 rfl ?_
          refine X.iload iX7_goesBy_78 rfl ?_
          refine X.pushi (v := nI 1) iX7_goesBy_79 ?_
          refine X.callVi iX7_goesBy_80 (c_X7_ofTree (d := d + 1) (w := 1) Hp (by omega)) (by repeat (first | assumption | exact xup_eq _ _ _ | rw [xup_ne _ _ (by first | decide | omega | assumption)])) rfl rfl (xfit _ _ _) (Nat.le_of_ble_eq_true rfl) ?_
          refine X.callSi iX7_goesBy_83 (c_X7_less (d + 1) _ _ _) rfl rfl (xfit _ _ _) (Nat.le_of_ble_eq_true rfl) ?_
          refine X.istore iX7_goesBy_86 rfl rfl ?_
          refine X.aload iX7_goesBy_88 rfl ?_
          refine X.iload iX7_goesBy_89 rfl ?_
          refine X.iload iX7_goesBy_90 rfl ?_
          refine X.callVv iX7_goesBy_92 (c_X7_takes (d := d + 1) Hp (by omega)) (by repeat (first | assumption | exact xup_eq _ _ _ | rw [xup_ne _ _ (by first | decide | omega | assumption)])) rfl rfl (xfit _ _ _) (Nat.le_of_ble_eq_true rfl) ?_
          refine X.aload iX7_goesBy_95 rfl ?_
          refine X.getf iX7_goesBy_96 (by repeat (first | assumption | exact xup_eq _ _ _ | rw [xup_ne _ _ (by first | decide | omega | assumption)])) rfl ?_
          refine X.pushi (v := nI 3) iX7_goesBy_99 ?_
          refine X.dup2 iX7_goesBy_100 ?_
          refine X.ialdN iX7_goesBy_101 (by repeat (first | assumption | exact xup_eq _ _ _ | rw [xup_ne _ _ (by first | decide | omega | assumption)])) (by omega) (by decide) ?_
          refine X.iload iX7_goesBy_102 rfl ?_
          refine X.iadd iX7_goesBy_104 ?_
          refine X.iastN iX7_goesBy_105 (by repeat (first | assumption | exact xup_eq _ _ _ | rw [xup_ne _ _ (by first | decide | omega | assumption)])) (by omega) (by decide) ?_
          first
          | (rw [if_pos c21, xup_self _ h99] at K; exact X.unset 3 rfl K)
          | (rw [if_neg (fun q => c44 q.1)] at K; exact X.unset 3 rfl K)
          | (rw [if_neg (fun q => Bool.noConfusion (c52.symm.trans q.2.1))] at K; exact X.unset 3 rfl K)
          | (rw [if_neg (fun q => Bool.noConfusion (c67.symm.trans q.2.2))] at K; exact X.unset 3 rfl K)
          | (rw [if_pos (And.intro c44 (And.intro c52 c67))] at K; exact X.unset 3 rfl (X.unset 4 rfl (X.heap (by rw [xup_xup, xup_xup]; rfl) K)))
set_option maxHeartbeats 1000000 in
theorem gb_tree {d : Nat} {h : XH} {nw : Nat → Int32} {nT nL t : Nat} {away : Int32} {Q : Option Value → XH → Prop} (H : MO h nw) (wf : WF nw nT nL) (ht : t < nT) (K : X xT mX7_goesBy (xR (d + 2, 0, 0)) (0, 0) 169 [some (.ref 98), some (.int away), some (.int (nI t)), none, none] [] (xup h 99 (IA 43 (gbT nw t))) Q) : X xT mX7_goesBy (xR (d + 2, 0, 0)) (0, 0) 124 [some (.ref 98), some (.int away), some (.int (nI t)), none, none] [] h Q := by
  obtain ⟨⟨ty, pl, fa, un, ku, ik, h98⟩, h99⟩ := id H
  have hT := wf.2.2.1
  have hj : ∀ n : Int32, n = (if ripI nw t = true then minI (nw 7) (nw (9 + 3 * t + 1)) else nI 0) → X xT mX7_goesBy (xR (d + 2, 0, 0)) (0, 0) 152 [some (.ref 98), some (.int away), some (.int (nI t)), none, none] [.int n] h Q := by
    intro n hn
    unfold gbT at K
    rw [← hn] at K
    refine X.istore iX7_goesBy_152 rfl rfl ?_
    refine X.aload iX7_goesBy_153 rfl ?_
    refine X.iload iX7_goesBy_154 rfl ?_
    refine X.iload iX7_goesBy_155 rfl ?_
    refine X.callVv iX7_goesBy_156 (c_X7_takes (d := d + 1) H (by omega)) (by repeat (first | assumption | exact xup_eq _ _ _ | rw [xup_ne _ _ (by first | decide | omega | assumption)])) rfl rfl (xfit _ _ _) (Nat.le_of_ble_eq_true rfl) ?_
    refine X.aload iX7_goesBy_159 rfl ?_
    refine X.getf iX7_goesBy_160 (by repeat (first | assumption | exact xup_eq _ _ _ | rw [xup_ne _ _ (by first | decide | omega | assumption)])) rfl ?_
    refine X.pushi (v := nI 5) iX7_goesBy_163 ?_
    refine X.dup2 iX7_goesBy_164 ?_
    refine X.ialdN iX7_goesBy_165 (by repeat (first | assumption | exact xup_eq _ _ _ | rw [xup_ne _ _ (by first | decide | omega | assumption)])) (by omega) (by decide) ?_
    refine X.iload iX7_goesBy_166 rfl ?_
    refine X.iadd iX7_goesBy_167 ?_
    refine X.iastN iX7_goesBy_168 (by repeat (first | assumption | exact xup_eq _ _ _ | rw [xup_ne _ _ (by first | decide | omega | assumption)])) (by omega) (by decide) ?_
    exact X.unset 3 rfl (X.heap (by rw [xup_xup]; rfl) K)
  refine X.aload iX7_goesBy_124 rfl ?_
  refine X.iload iX7_goesBy_125 rfl ?_
  refine X.callVi iX7_goesBy_126 (c_X7_isRipe (d := d) H (by omega)) (by repeat (first | assumption | exact xup_eq _ _ _ | rw [xup_ne _ _ (by first | decide | omega | assumption)])) rfl rfl (xfit _ _ _) (Nat.le_of_ble_eq_true rfl) ?_
  refine X.ifeqB iX7_goesBy_129 (fun c129 => ?_) (fun c129 => ?_)
  · refine X.pushi (v := nI 0) iX7_goesBy_151 ?_
    first
    | (exact hj _ (by rw [if_pos c129]))
    | (exact hj _ (by rw [c129]; rfl))
  · refine X.aload iX7_goesBy_132 rfl ?_
    refine X.getf iX7_goesBy_133 (by repeat (first | assumption | exact xup_eq _ _ _ | rw [xup_ne _ _ (by first | decide | omega | assumption)])) rfl ?_
    refine X.pushi (v := nI 7) iX7_goesBy_136 ?_
    refine X.ialdN iX7_goesBy_138 (by repeat (first | assumption | exact xup_eq _ _ _ | rw [xup_ne _ _ (by first | decide | omega | assumption)])) (by omega) (by decide) ?_
    refine X.aload iX7_goesBy_139 rfl ?_
    refine X.iload iX7_goesBy_140 rfl ?_
    refine X.pushi (v := nI 1) iX7_goesBy_141 ?_
    refine X.callVi iX7_goesBy_142 (c_X7_ofTree (d := d + 1) (w := 1) H (by omega)) (by repeat (first | assumption | exact xup_eq _ _ _ | rw [xup_ne _ _ (by first | decide | omega | assumption)])) rfl rfl (xfit _ _ _) (Nat.le_of_ble_eq_true rfl) ?_
    refine X.callSi iX7_goesBy_145 (c_X7_less (d + 1) _ _ _) rfl rfl (xfit _ _ _) (Nat.le_of_ble_eq_true rfl) ?_
    refine X.goto iX7_goesBy_148 ?_
    first
    | (exact hj _ (by rw [if_pos c129]))
    | (exact hj _ (by rw [c129]; rfl))
set_option maxHeartbeats 1000000 in
theorem c_X7_goesBy {d : Nat} {h : XH} {nw : Nat → Int32} {nT nL : Nat} {away : Int32} (H : MO h nw) (wf : WF nw nT nL) : MetV mX7_goesBy (d + 2, 0, 0) [.ref 98, .int away] h (xup h 99 (IA 43 (gb nw nT nL away))) := by
  have hT := wf.2.2.1
  have hL := wf.2.2.2.1
  have P2 : ∀ k, k ≤ nT → X xT mX7_goesBy (xR (d + 2, 0, 0)) (0, 0) 114 [some (.ref 98), some (.int away), some (.int (nI k)), none, none] [] (xup h 99 (IA 43 (gb2 (gb1 nw away nL) k))) (fun v h' => v = none ∧ h' = xup h 99 (IA 43 (gb nw nT nL away))) := by
    refine xloop nT ?_ ?_
    · have wk := gb2_wf (gb1_wf wf away nL (Nat.le_refl _)) nT (Nat.le_refl _)
      obtain ⟨⟨ty, pl, fa, un, ku, ik, h98⟩, h99⟩ := H.up (gb2 (gb1 nw away nL) nT)
      refine X.iload iX7_goesBy_114 rfl ?_
      refine X.aload iX7_goesBy_115 rfl ?_
      refine X.getf iX7_goesBy_116 (by repeat (first | assumption | exact xup_eq _ _ _ | rw [xup_ne _ _ (by first | decide | omega | assumption)])) rfl ?_
      refine X.pushi (v := nI 0) iX7_goesBy_119 ?_
      refine X.ialdN iX7_goesBy_120 (by repeat (first | assumption | exact xup_eq _ _ _ | rw [xup_ne _ _ (by first | decide | omega | assumption)])) (by omega) (by decide) ?_
      refine X.cmge iX7_goesBy_121 (fun c121 => ?_) (fun c121 => ?_)
      · refine X.aload iX7_goesBy_175 rfl ?_
        refine X.getf iX7_goesBy_176 (by repeat (first | assumption | exact xup_eq _ _ _ | rw [xup_ne _ _ (by first | decide | omega | assumption)])) rfl ?_
        refine X.pushi (v := nI 2) iX7_goesBy_179 ?_
        refine X.dup2 iX7_goesBy_180 ?_
        refine X.ialdN iX7_goesBy_181 (by repeat (first | assumption | exact xup_eq _ _ _ | rw [xup_ne _ _ (by first | decide | omega | assumption)])) (by omega) (by decide) ?_
        refine X.pushi (v := nI 1) iX7_goesBy_182 ?_
        refine X.iadd iX7_goesBy_183 ?_
        refine X.iastN iX7_goesBy_184 (by repeat (first | assumption | exact xup_eq _ _ _ | rw [xup_ne _ _ (by first | decide | omega | assumption)])) (by omega) (by decide) ?_
        exact X.vret iX7_goesBy_185 ⟨rfl, (by rw [xup_xup]; rfl)⟩
      · exact absurd (by rw [wk.1]; exact nI_le (Nat.le_refl _) (by omega)) c121
    · intro k hk ih
      have wk := gb2_wf (gb1_wf wf away nL (Nat.le_refl _)) k (by omega)
      have Hk := H.up (gb2 (gb1 nw away nL) k)
      obtain ⟨⟨ty, pl, fa, un, ku, ik, h98⟩, h99⟩ := id Hk
      refine X.iload iX7_goesBy_114 rfl ?_
      refine X.aload iX7_goesBy_115 rfl ?_
      refine X.getf iX7_goesBy_116 (by repeat (first | assumption | exact xup_eq _ _ _ | rw [xup_ne _ _ (by first | decide | omega | assumption)])) rfl ?_
      refine X.pushi (v := nI 0) iX7_goesBy_119 ?_
      refine X.ialdN iX7_goesBy_120 (by repeat (first | assumption | exact xup_eq _ _ _ | rw [xup_ne _ _ (by first | decide | omega | assumption)])) (by omega) (by decide) ?_
      refine X.cmge iX7_goesBy_121 (fun c121 => ?_) (fun c121 => ?_)
      · exact absurd (by rw [← wk.1]; exact c121) (nI_ge hk (by omega))
      · refine gb_tree Hk wk hk ?_
        rw [xup_xup]
        refine X.iinc iX7_goesBy_169 rfl rfl rfl ?_
        refine X.goto iX7_goesBy_172 ?_
        rw [nI_1]
        exact ih
  have P1 : ∀ k, k ≤ nL → X xT mX7_goesBy (xR (d + 2, 0, 0)) (0, 0) 2 [some (.ref 98), some (.int away), some (.int (nI k)), none, none] [] (xup h 99 (IA 43 (gb1 nw away k))) (fun v h' => v = none ∧ h' = xup h 99 (IA 43 (gb nw nT nL away))) := by
    refine xloop nL ?_ ?_
    · have wk := gb1_wf wf away nL (Nat.le_refl _)
      obtain ⟨⟨ty, pl, fa, un, ku, ik, h98⟩, h99⟩ := H.up (gb1 nw away nL)
      refine X.iload iX7_goesBy_2 rfl ?_
      refine X.aload iX7_goesBy_3 rfl ?_
      refine X.getf iX7_goesBy_4 (by repeat (first | assumption | exact xup_eq _ _ _ | rw [xup_ne _ _ (by first | decide | omega | assumption)])) rfl ?_
      refine X.pushi (v := nI 1) iX7_goesBy_7 ?_
      refine X.ialdN iX7_goesBy_8 (by repeat (first | assumption | exact xup_eq _ _ _ | rw [xup_ne _ _ (by first | decide | omega | assumption)])) (by omega) (by decide) ?_
      refine X.cmge iX7_goesBy_9 (fun c9 => ?_) (fun c9 => ?_)
      · refine X.pushi (v := nI 0) iX7_goesBy_112 ?_
        refine X.istore iX7_goesBy_113 rfl rfl ?_
        exact P2 0 (Nat.zero_le _)
      · exact absurd (by rw [wk.2.1]; exact nI_le (Nat.le_refl _) (by omega)) c9
    · intro k hk ih
      have wk := gb1_wf wf away k (by omega)
      have Hk := H.up (gb1 nw away k)
      obtain ⟨⟨ty, pl, fa, un, ku, ik, h98⟩, h99⟩ := id Hk
      refine X.iload iX7_goesBy_2 rfl ?_
      refine X.aload iX7_goesBy_3 rfl ?_
      refine X.getf iX7_goesBy_4 (by repeat (first | assumption | exact xup_eq _ _ _ | rw [xup_ne _ _ (by first | decide | omega | assumption)])) rfl ?_
      refine X.pushi (v := nI 1) iX7_goesBy_7 ?_
      refine X.ialdN iX7_goesBy_8 (by repeat (first | assumption | exact xup_eq _ _ _ | rw [xup_ne _ _ (by first | decide | omega | assumption)])) (by omega) (by decide) ?_
      refine X.cmge iX7_goesBy_9 (fun c9 => ?_) (fun c9 => ?_)
      · exact absurd (by rw [← wk.2.1]; exact c9) (nI_ge hk (by omega))
      · refine gb_ladder Hk wk hk ?_
        rw [xup_xup]
        refine X.iinc iX7_goesBy_106 rfl rfl rfl ?_
        refine X.goto iX7_goesBy_109 ?_
        rw [nI_1]
        exact ih
  have p0 := P1 0 (Nat.zero_le _)
  rw [show gb1 nw away 0 = nw from rfl, xup_self _ H.2] at p0
  refine MetX.of (by decide) rfl (Nat.le_of_ble_eq_true rfl) ?_
  refine X.pushi (v := nI 0) iX7_goesBy_0 ?_
  refine X.istore iX7_goesBy_1 rfl rfl ?_
  exact p0
/-- n days -/
def gbN (nw : Nat → Int32) (nT nL : Nat) : Nat → (Nat → Int32)
  | 0 => nw
  | k + 1 => gb (gbN nw nT nL k) nT nL (nI 0)
theorem gbN_wf {nw : Nat → Int32} {nT nL : Nat} (h : WF nw nT nL) : ∀ k, WF (gbN nw nT nL k) nT nL
  | 0 => h
  | k + 1 => gb_wf (gbN_wf h k) _
theorem c_X7_goesOn {d : Nat} {h : XH} {nw : Nat → Int32} {nT nL n : Nat} (H : MO h nw) (wf : WF nw nT nL) (hn : n < 2 ^ 31) : MetV mX7_goesOn (d + 3, 0, 0) [.ref 98, .int (nI n)] h (xup h 99 (IA 43 (gbN nw nT nL n))) := by
  have P : ∀ k, k ≤ n → X xT mX7_goesOn (xR (d + 3, 0, 0)) (0, 0) 2 [some (.ref 98), some (.int (nI n)), some (.int (nI k))] [] (xup h 99 (IA 43 (gbN nw nT nL k))) (fun v h' => v = none ∧ h' = xup h 99 (IA 43 (gbN nw nT nL n))) := by
    refine xloop n ?_ ?_
    · refine X.iload iX7_goesOn_2 rfl ?_
      refine X.iload iX7_goesOn_3 rfl ?_
      refine X.cmge iX7_goesOn_4 (fun c4 => ?_) (fun c4 => ?_)
      · exact X.vret iX7_goesOn_18 ⟨rfl, rfl⟩
      · exact absurd (nI_le (Nat.le_refl _) hn) c4
    · intro k hk ih
      have Hk := H.up (gbN nw nT nL k)
      obtain ⟨ty, pl, fa, un, ku, ik, h98⟩ := Hk.1
      refine X.iload iX7_goesOn_2 rfl ?_
      refine X.iload iX7_goesOn_3 rfl ?_
      refine X.cmge iX7_goesOn_4 (fun c4 => ?_) (fun c4 => ?_)
      · exact absurd c4 (nI_ge hk hn)
      · refine X.aload iX7_goesOn_7 rfl ?_
        refine X.pushi (v := nI 0) iX7_goesOn_8 ?_
        refine X.callVv iX7_goesOn_9 (c_X7_goesBy (d := d) Hk (gbN_wf wf k)) (by repeat (first | assumption | exact xup_eq _ _ _ | rw [xup_ne _ _ (by first | decide | omega | assumption)])) rfl rfl (xfit _ _ _) (Nat.le_of_ble_eq_true rfl) ?_
        rw [xup_xup]
        refine X.iinc iX7_goesOn_12 rfl rfl rfl ?_
        refine X.goto iX7_goesOn_15 ?_
        rw [nI_1]
        exact ih
  have p0 := P 0 (Nat.zero_le _)
  rw [show gbN nw nT nL 0 = nw from rfl, xup_self _ H.2] at p0
  refine MetX.of (by decide) rfl (Nat.le_of_ble_eq_true rfl) ?_
  refine X.pushi (v := nI 0) iX7_goesOn_0 ?_
  refine X.istore iX7_goesOn_1 rfl rfl ?_
  exact p0
def sumF (nw : Nat → Int32) : Nat → Int32
  | 0 => nI 0
  | k + 1 => sumF nw k + nw (9 + 3 * k + 1)
theorem c_X7_allFruit {d : Nat} {h : XH} {nw : Nat → Int32} {nT : Nat} (H : MO h nw) (h0 : nw 0 = nI nT) (hT : nT ≤ 6) : MetI mX7_allFruit (d + 1, 0, 0) [.ref 98] h (sumF nw nT) := by
  obtain ⟨⟨ty, pl, fa, un, ku, ik, h98⟩, h99⟩ := id H
  have P : ∀ k, k ≤ nT → X xT mX7_allFruit (xR (d + 1, 0, 0)) (0, 0) 4 [some (.ref 98), some (.int (sumF nw k)), some (.int (nI k))] [] h (fun v h' => v = some (.int (sumF nw nT)) ∧ h' = h) := by
    refine xloop nT ?_ ?_
    · refine X.iload iX7_allFruit_4 rfl ?_
      refine X.aload iX7_allFruit_5 rfl ?_
      refine X.getf iX7_allFruit_6 (by repeat (first | assumption | exact xup_eq _ _ _ | rw [xup_ne _ _ (by first | decide | omega | assumption)])) rfl ?_
      refine X.pushi (v := nI 0) iX7_allFruit_9 ?_
      refine X.ialdN iX7_allFruit_10 (by repeat (first | assumption | exact xup_eq _ _ _ | rw [xup_ne _ _ (by first | decide | omega | assumption)])) (by omega) (by decide) ?_
      refine X.cmge iX7_allFruit_11 (fun c11 => ?_) (fun c11 => ?_)
      · refine X.iload iX7_allFruit_29 rfl ?_
        exact X.iret iX7_allFruit_30 ⟨rfl, rfl⟩
      · exact absurd (by rw [h0]; exact nI_le (Nat.le_refl _) (by omega)) c11
    · intro k hk ih
      refine X.iload iX7_allFruit_4 rfl ?_
      refine X.aload iX7_allFruit_5 rfl ?_
      refine X.getf iX7_allFruit_6 (by repeat (first | assumption | exact xup_eq _ _ _ | rw [xup_ne _ _ (by first | decide | omega | assumption)])) rfl ?_
      refine X.pushi (v := nI 0) iX7_allFruit_9 ?_
      refine X.ialdN iX7_allFruit_10 (by repeat (first | assumption | exact xup_eq _ _ _ | rw [xup_ne _ _ (by first | decide | omega | assumption)])) (by omega) (by decide) ?_
      refine X.cmge iX7_allFruit_11 (fun c11 => ?_) (fun c11 => ?_)
      · exact absurd (by rw [← h0]; exact c11) (nI_ge hk (by omega))
      · refine X.iload iX7_allFruit_14 rfl ?_
        refine X.aload iX7_allFruit_15 rfl ?_
        refine X.iload iX7_allFruit_16 rfl ?_
        refine X.pushi (v := nI 1) iX7_allFruit_17 ?_
        refine X.callVi iX7_allFruit_18 (c_X7_ofTree (d := d) (w := 1) H (by omega)) (by repeat (first | assumption | exact xup_eq _ _ _ | rw [xup_ne _ _ (by first | decide | omega | assumption)])) rfl rfl (xfit _ _ _) (Nat.le_of_ble_eq_true rfl) ?_
        refine X.iadd iX7_allFruit_21 ?_
        refine X.istore iX7_allFruit_22 rfl rfl ?_
        refine X.iinc iX7_allFruit_23 rfl rfl rfl ?_
        refine X.goto iX7_allFruit_26 ?_
        rw [nI_1]
        exact ih
  refine MetX.of (by decide) rfl (Nat.le_of_ble_eq_true rfl) ?_
  refine X.pushi (v := nI 0) iX7_allFruit_0 ?_
  refine X.istore iX7_allFruit_1 rfl rfl ?_
  refine X.pushi (v := nI 0) iX7_allFruit_2 ?_
  refine X.istore iX7_allFruit_3 rfl rfl ?_
  exact P 0 (Nat.zero_le _)
end
