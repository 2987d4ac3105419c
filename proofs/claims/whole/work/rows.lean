section
-- ===== PART A: goes FIRST, ahead of the names: the tables' words, and 'selects' of the private methods out of them =====
/-- a private method of a class that the tables say can be made, by its rows of tables_1 -/
def lw_okq (q : MethodName × Nat) : Prop := (q.1.cls ≠ "java/lang/invoke/MethodHandle" ∧ q.1.cls ≠ "java/lang/invoke/VarHandle") ∧ Cond.instantiable q.1.cls q.2 ∈ tables_1 ∧ Cond.privateMethod q.1 ∈ tables_1 ∧ Cond.instanceMethod q.1 ∈ tables_1
theorem lw_p0 : lw_okq (⟨"CoatTraces", "reckonAll", "()V"⟩, 9) := ⟨⟨by decide +kernel, by decide +kernel⟩, List.mem_of_getElem? (i := 16) (by decide +kernel), List.mem_of_getElem? (i := 491) (by decide +kernel), List.mem_of_getElem? (i := 492) (by decide +kernel)⟩
theorem lw_p1 : lw_okq (⟨"CoatTraces", "boundYears", "(IIII)I"⟩, 9) := ⟨⟨by decide +kernel, by decide +kernel⟩, List.mem_of_getElem? (i := 16) (by decide +kernel), List.mem_of_getElem? (i := 539) (by decide +kernel), List.mem_of_getElem? (i := 540) (by decide +kernel)⟩
theorem lw_p2 : lw_okq (⟨"CoatTracesModel", "heirs", "()I"⟩, 18) := ⟨⟨by decide +kernel, by decide +kernel⟩, List.mem_of_getElem? (i := 645) (by decide +kernel), List.mem_of_getElem? (i := 710) (by decide +kernel), List.mem_of_getElem? (i := 711) (by decide +kernel)⟩
theorem lw_p3 : lw_okq (⟨"CoatTracesModel", "isHeir", "(I)Z"⟩, 18) := ⟨⟨by decide +kernel, by decide +kernel⟩, List.mem_of_getElem? (i := 645) (by decide +kernel), List.mem_of_getElem? (i := 714) (by decide +kernel), List.mem_of_getElem? (i := 715) (by decide +kernel)⟩
theorem lw_p4 : lw_okq (⟨"CoatTracesModel", "isWoman", "(I)Z"⟩, 18) := ⟨⟨by decide +kernel, by decide +kernel⟩, List.mem_of_getElem? (i := 645) (by decide +kernel), List.mem_of_getElem? (i := 718) (by decide +kernel), List.mem_of_getElem? (i := 719) (by decide +kernel)⟩
theorem lw_p5 : lw_okq (⟨"CoatTracesModel", "isOne", "(I)Z"⟩, 18) := ⟨⟨by decide +kernel, by decide +kernel⟩, List.mem_of_getElem? (i := 645) (by decide +kernel), List.mem_of_getElem? (i := 722) (by decide +kernel), List.mem_of_getElem? (i := 723) (by decide +kernel)⟩
theorem lw_p6 : lw_okq (⟨"CoatTracesModel", "coats", "()I"⟩, 18) := ⟨⟨by decide +kernel, by decide +kernel⟩, List.mem_of_getElem? (i := 645) (by decide +kernel), List.mem_of_getElem? (i := 729) (by decide +kernel), List.mem_of_getElem? (i := 730) (by decide +kernel)⟩
theorem lw_p7 : lw_okq (⟨"CoatTracesModel", "lays", "()V"⟩, 18) := ⟨⟨by decide +kernel, by decide +kernel⟩, List.mem_of_getElem? (i := 645) (by decide +kernel), List.mem_of_getElem? (i := 733) (by decide +kernel), List.mem_of_getElem? (i := 734) (by decide +kernel)⟩
theorem lw_p8 : lw_okq (⟨"CoatTracesModel", "laysOne", "(IIII)V"⟩, 18) := ⟨⟨by decide +kernel, by decide +kernel⟩, List.mem_of_getElem? (i := 645) (by decide +kernel), List.mem_of_getElem? (i := 737) (by decide +kernel), List.mem_of_getElem? (i := 738) (by decide +kernel)⟩
theorem lw_p9 : lw_okq (⟨"CoatTracesModel", "takes", "(III)V"⟩, 18) := ⟨⟨by decide +kernel, by decide +kernel⟩, List.mem_of_getElem? (i := 645) (by decide +kernel), List.mem_of_getElem? (i := 741) (by decide +kernel), List.mem_of_getElem? (i := 742) (by decide +kernel)⟩
theorem lw_p10 : lw_okq (⟨"CoatTracesModel", "takesOf", "(III)V"⟩, 18) := ⟨⟨by decide +kernel, by decide +kernel⟩, List.mem_of_getElem? (i := 645) (by decide +kernel), List.mem_of_getElem? (i := 745) (by decide +kernel), List.mem_of_getElem? (i := 746) (by decide +kernel)⟩
theorem lw_p11 : lw_okq (⟨"CoatTracesModel", "same", "(I)I"⟩, 18) := ⟨⟨by decide +kernel, by decide +kernel⟩, List.mem_of_getElem? (i := 645) (by decide +kernel), List.mem_of_getElem? (i := 749) (by decide +kernel), List.mem_of_getElem? (i := 750) (by decide +kernel)⟩
theorem lw_p12 : lw_okq (⟨"CoatTracesModel", "isSame", "(II)Z"⟩, 18) := ⟨⟨by decide +kernel, by decide +kernel⟩, List.mem_of_getElem? (i := 645) (by decide +kernel), List.mem_of_getElem? (i := 753) (by decide +kernel), List.mem_of_getElem? (i := 754) (by decide +kernel)⟩
theorem lw_p13 : lw_okq (⟨"CoatTracesModel", "narrows", "()Z"⟩, 18) := ⟨⟨by decide +kernel, by decide +kernel⟩, List.mem_of_getElem? (i := 645) (by decide +kernel), List.mem_of_getElem? (i := 757) (by decide +kernel), List.mem_of_getElem? (i := 758) (by decide +kernel)⟩
theorem lw_p14 : lw_okq (⟨"CoatTracesModel", "isSpoiled", "()Z"⟩, 18) := ⟨⟨by decide +kernel, by decide +kernel⟩, List.mem_of_getElem? (i := 645) (by decide +kernel), List.mem_of_getElem? (i := 761) (by decide +kernel), List.mem_of_getElem? (i := 762) (by decide +kernel)⟩
theorem lw_p15 : lw_okq (⟨"CoatTracesModel", "narrowsOne", "(I)V"⟩, 18) := ⟨⟨by decide +kernel, by decide +kernel⟩, List.mem_of_getElem? (i := 645) (by decide +kernel), List.mem_of_getElem? (i := 765) (by decide +kernel), List.mem_of_getElem? (i := 766) (by decide +kernel)⟩
def lw_privs_1 : List (MethodName × Nat) := [(⟨"CoatTraces", "reckonAll", "()V"⟩, 9), (⟨"CoatTraces", "boundYears", "(IIII)I"⟩, 9), (⟨"CoatTracesModel", "heirs", "()I"⟩, 18), (⟨"CoatTracesModel", "isHeir", "(I)Z"⟩, 18), (⟨"CoatTracesModel", "isWoman", "(I)Z"⟩, 18), (⟨"CoatTracesModel", "isOne", "(I)Z"⟩, 18), (⟨"CoatTracesModel", "coats", "()I"⟩, 18), (⟨"CoatTracesModel", "lays", "()V"⟩, 18), (⟨"CoatTracesModel", "laysOne", "(IIII)V"⟩, 18), (⟨"CoatTracesModel", "takes", "(III)V"⟩, 18), (⟨"CoatTracesModel", "takesOf", "(III)V"⟩, 18), (⟨"CoatTracesModel", "same", "(I)I"⟩, 18), (⟨"CoatTracesModel", "isSame", "(II)Z"⟩, 18), (⟨"CoatTracesModel", "narrows", "()Z"⟩, 18), (⟨"CoatTracesModel", "isSpoiled", "()Z"⟩, 18), (⟨"CoatTracesModel", "narrowsOne", "(I)V"⟩, 18)]
theorem lw_r1 : ∀ q ∈ lw_privs_1, lw_okq q := List.forall_mem_cons.mpr ⟨lw_p0, List.forall_mem_cons.mpr ⟨lw_p1, List.forall_mem_cons.mpr ⟨lw_p2, List.forall_mem_cons.mpr ⟨lw_p3, List.forall_mem_cons.mpr ⟨lw_p4, List.forall_mem_cons.mpr ⟨lw_p5, List.forall_mem_cons.mpr ⟨lw_p6, List.forall_mem_cons.mpr ⟨lw_p7, List.forall_mem_cons.mpr ⟨lw_p8, List.forall_mem_cons.mpr ⟨lw_p9, List.forall_mem_cons.mpr ⟨lw_p10, List.forall_mem_cons.mpr ⟨lw_p11, List.forall_mem_cons.mpr ⟨lw_p12, List.forall_mem_cons.mpr ⟨lw_p13, List.forall_mem_cons.mpr ⟨lw_p14, List.forall_mem_cons.mpr ⟨lw_p15, fun _ h => absurd h List.not_mem_nil⟩⟩⟩⟩⟩⟩⟩⟩⟩⟩⟩⟩⟩⟩⟩⟩
theorem lw_p16 : lw_okq (⟨"CoatTracesModel", "atLeast", "(III)V"⟩, 18) := ⟨⟨by decide +kernel, by decide +kernel⟩, List.mem_of_getElem? (i := 645) (by decide +kernel), List.mem_of_getElem? (i := 769) (by decide +kernel), List.mem_of_getElem? (i := 770) (by decide +kernel)⟩
theorem lw_p17 : lw_okq (⟨"CoatTracesModel", "meant", "(Z)I"⟩, 18) := ⟨⟨by decide +kernel, by decide +kernel⟩, List.mem_of_getElem? (i := 645) (by decide +kernel), List.mem_of_getElem? (i := 773) (by decide +kernel), List.mem_of_getElem? (i := 774) (by decide +kernel)⟩
theorem lw_p18 : lw_okq (⟨"CoatTracesModel", "isAll", "(I)Z"⟩, 18) := ⟨⟨by decide +kernel, by decide +kernel⟩, List.mem_of_getElem? (i := 645) (by decide +kernel), List.mem_of_getElem? (i := 777) (by decide +kernel), List.mem_of_getElem? (i := 778) (by decide +kernel)⟩
theorem lw_p19 : lw_okq (⟨"CoatTracesModel", "isAs", "(II)Z"⟩, 18) := ⟨⟨by decide +kernel, by decide +kernel⟩, List.mem_of_getElem? (i := 645) (by decide +kernel), List.mem_of_getElem? (i := 781) (by decide +kernel), List.mem_of_getElem? (i := 782) (by decide +kernel)⟩
theorem lw_p20 : lw_okq (⟨"CoatTracesModel", "isSome", "(I)Z"⟩, 18) := ⟨⟨by decide +kernel, by decide +kernel⟩, List.mem_of_getElem? (i := 645) (by decide +kernel), List.mem_of_getElem? (i := 785) (by decide +kernel), List.mem_of_getElem? (i := 786) (by decide +kernel)⟩
theorem lw_p21 : lw_okq (⟨"CoatTracesModel", "likely", "()I"⟩, 18) := ⟨⟨by decide +kernel, by decide +kernel⟩, List.mem_of_getElem? (i := 645) (by decide +kernel), List.mem_of_getElem? (i := 789) (by decide +kernel), List.mem_of_getElem? (i := 790) (by decide +kernel)⟩
theorem lw_p22 : lw_okq (⟨"CoatTracesModel", "like", "(I)I"⟩, 18) := ⟨⟨by decide +kernel, by decide +kernel⟩, List.mem_of_getElem? (i := 645) (by decide +kernel), List.mem_of_getElem? (i := 793) (by decide +kernel), List.mem_of_getElem? (i := 794) (by decide +kernel)⟩
theorem lw_p23 : lw_okq (⟨"CoatTracesModel", "wrong", "()I"⟩, 18) := ⟨⟨by decide +kernel, by decide +kernel⟩, List.mem_of_getElem? (i := 645) (by decide +kernel), List.mem_of_getElem? (i := 797) (by decide +kernel), List.mem_of_getElem? (i := 798) (by decide +kernel)⟩
theorem lw_p24 : lw_okq (⟨"CoatTracesModel", "children", "(I)I"⟩, 18) := ⟨⟨by decide +kernel, by decide +kernel⟩, List.mem_of_getElem? (i := 645) (by decide +kernel), List.mem_of_getElem? (i := 807) (by decide +kernel), List.mem_of_getElem? (i := 808) (by decide +kernel)⟩
theorem lw_p25 : lw_okq (⟨"CoatTracesModel", "narrowed", "(II)I"⟩, 18) := ⟨⟨by decide +kernel, by decide +kernel⟩, List.mem_of_getElem? (i := 645) (by decide +kernel), List.mem_of_getElem? (i := 813) (by decide +kernel), List.mem_of_getElem? (i := 814) (by decide +kernel)⟩
theorem lw_p26 : lw_okq (⟨"CoatTracesModel", "steps", "(I[I)V"⟩, 18) := ⟨⟨by decide +kernel, by decide +kernel⟩, List.mem_of_getElem? (i := 645) (by decide +kernel), List.mem_of_getElem? (i := 825) (by decide +kernel), List.mem_of_getElem? (i := 826) (by decide +kernel)⟩
theorem lw_p27 : lw_okq (⟨"CoatTracesModel", "isMan", "(I)Z"⟩, 18) := ⟨⟨by decide +kernel, by decide +kernel⟩, List.mem_of_getElem? (i := 645) (by decide +kernel), List.mem_of_getElem? (i := 833) (by decide +kernel), List.mem_of_getElem? (i := 834) (by decide +kernel)⟩
theorem lw_p28 : lw_okq (⟨"CoatTracesModel", "minds", "()V"⟩, 18) := ⟨⟨by decide +kernel, by decide +kernel⟩, List.mem_of_getElem? (i := 645) (by decide +kernel), List.mem_of_getElem? (i := 853) (by decide +kernel), List.mem_of_getElem? (i := 854) (by decide +kernel)⟩
theorem lw_p29 : lw_okq (⟨"CoatTracesModel", "copy", "(II)V"⟩, 18) := ⟨⟨by decide +kernel, by decide +kernel⟩, List.mem_of_getElem? (i := 645) (by decide +kernel), List.mem_of_getElem? (i := 857) (by decide +kernel), List.mem_of_getElem? (i := 858) (by decide +kernel)⟩
theorem lw_p30 : lw_okq (⟨"CoatTracesModel", "comes", "(IIII)V"⟩, 18) := ⟨⟨by decide +kernel, by decide +kernel⟩, List.mem_of_getElem? (i := 645) (by decide +kernel), List.mem_of_getElem? (i := 861) (by decide +kernel), List.mem_of_getElem? (i := 862) (by decide +kernel)⟩
theorem lw_p31 : lw_okq (⟨"CoatTracesModel", "bounds", "(IIII)I"⟩, 18) := ⟨⟨by decide +kernel, by decide +kernel⟩, List.mem_of_getElem? (i := 645) (by decide +kernel), List.mem_of_getElem? (i := 869) (by decide +kernel), List.mem_of_getElem? (i := 870) (by decide +kernel)⟩
def lw_privs_2 : List (MethodName × Nat) := [(⟨"CoatTracesModel", "atLeast", "(III)V"⟩, 18), (⟨"CoatTracesModel", "meant", "(Z)I"⟩, 18), (⟨"CoatTracesModel", "isAll", "(I)Z"⟩, 18), (⟨"CoatTracesModel", "isAs", "(II)Z"⟩, 18), (⟨"CoatTracesModel", "isSome", "(I)Z"⟩, 18), (⟨"CoatTracesModel", "likely", "()I"⟩, 18), (⟨"CoatTracesModel", "like", "(I)I"⟩, 18), (⟨"CoatTracesModel", "wrong", "()I"⟩, 18), (⟨"CoatTracesModel", "children", "(I)I"⟩, 18), (⟨"CoatTracesModel", "narrowed", "(II)I"⟩, 18), (⟨"CoatTracesModel", "steps", "(I[I)V"⟩, 18), (⟨"CoatTracesModel", "isMan", "(I)Z"⟩, 18), (⟨"CoatTracesModel", "minds", "()V"⟩, 18), (⟨"CoatTracesModel", "copy", "(II)V"⟩, 18), (⟨"CoatTracesModel", "comes", "(IIII)V"⟩, 18), (⟨"CoatTracesModel", "bounds", "(IIII)I"⟩, 18)]
theorem lw_r2 : ∀ q ∈ lw_privs_2, lw_okq q := List.forall_mem_cons.mpr ⟨lw_p16, List.forall_mem_cons.mpr ⟨lw_p17, List.forall_mem_cons.mpr ⟨lw_p18, List.forall_mem_cons.mpr ⟨lw_p19, List.forall_mem_cons.mpr ⟨lw_p20, List.forall_mem_cons.mpr ⟨lw_p21, List.forall_mem_cons.mpr ⟨lw_p22, List.forall_mem_cons.mpr ⟨lw_p23, List.forall_mem_cons.mpr ⟨lw_p24, List.forall_mem_cons.mpr ⟨lw_p25, List.forall_mem_cons.mpr ⟨lw_p26, List.forall_mem_cons.mpr ⟨lw_p27, List.forall_mem_cons.mpr ⟨lw_p28, List.forall_mem_cons.mpr ⟨lw_p29, List.forall_mem_cons.mpr ⟨lw_p30, List.forall_mem_cons.mpr ⟨lw_p31, fun _ h => absurd h List.not_mem_nil⟩⟩⟩⟩⟩⟩⟩⟩⟩⟩⟩⟩⟩⟩⟩⟩
theorem lw_p32 : lw_okq (⟨"CoatTracesModel", "draw", "(I)I"⟩, 18) := ⟨⟨by decide +kernel, by decide +kernel⟩, List.mem_of_getElem? (i := 645) (by decide +kernel), List.mem_of_getElem? (i := 896) (by decide +kernel), List.mem_of_getElem? (i := 897) (by decide +kernel)⟩
def lw_privs_3 : List (MethodName × Nat) := [(⟨"CoatTracesModel", "draw", "(I)I"⟩, 18)]
theorem lw_r3 : ∀ q ∈ lw_privs_3, lw_okq q := List.forall_mem_cons.mpr ⟨lw_p32, fun _ h => absurd h List.not_mem_nil⟩
def lw_privs : List (MethodName × Nat) := lw_privs_1 ++ (lw_privs_2 ++ (lw_privs_3))
def lw_tbl : List Cond := k2_sels lw_privs ++ tables_1
theorem lw_privs_ok : ∀ q ∈ lw_privs, lw_okq q := by
  show ∀ q ∈ lw_privs_1 ++ (lw_privs_2 ++ (lw_privs_3)), lw_okq q
  exact List.forall_mem_append.mpr ⟨lw_r1, List.forall_mem_append.mpr ⟨lw_r2, lw_r3⟩⟩
-- ===== end of PART A; then your names; then what follows =====
end
section
/-! ===== BEGIN words of one list among another's, by their places ===== -/
theorem goodIn_r {big : List Cond} (ws : List Cond) (ps : List Nat) (hp : ws = ps.filterMap (fun i => big[i]?)) (h : ws.all goodWord = true) : GoodIn big ws := by
  intro w hw
  have h1 := List.all_eq_true.mp h w hw
  rw [hp] at hw
  obtain ⟨i, -, hi⟩ := List.mem_filterMap.mp hw
  have hm : w ∈ big := by first | exact List.mem_of_getElem? hi | exact List.getElem?_mem hi
  exact ⟨hm, good_of_word h1⟩
theorem goodIn_app {big a b : List Cond} (ha : GoodIn big a) (hb : GoodIn big b) : GoodIn big (a ++ b) := fun w h => (List.mem_append.mp h).elim (ha w) (hb w)
theorem goodIn_ca {big a b : List Cond} {c : Cond} (ha : GoodIn big (c :: a)) (hb : GoodIn big b) : GoodIn big (c :: (a ++ b)) := fun w h => (List.mem_cons.mp h).elim (fun e => ha w (List.mem_cons.mpr (Or.inl e))) (fun h => (List.mem_append.mp h).elim (fun h => ha w (List.mem_cons.mpr (Or.inr h))) (hb w))
theorem goodIn_sub {big ws : List Cond} (hm : ∀ w ∈ ws, w ∈ big) (h : ws.all goodWord = true) : GoodIn big ws := fun w hw => ⟨hm w hw, good_of_word (List.all_eq_true.mp h w hw)⟩
/-! ===== END ===== -/

/-! ===== BEGIN printed: names, fields, word lists, decode rows ===== -/
def RX0 : String := "CoatTraces$Book"
def TX0 : u_T := fun k => match k with
  | 0 => ("CoatTraces$Book", "whose", "[I", true)
  | 1 => ("CoatTraces$Book", "which", "[I", true)
  | 2 => ("CoatTraces$Book", "arms", "[I", true)
  | _ => ("CoatTraces$Book", "entries", "I", false)
def tyX0 : Nat → FieldType := fun k => match k with
  | 0 => .array .int
  | 1 => .array .int
  | 2 => .array .int
  | _ => .int
abbrev wsX00 : List Cond := u_ws RX0 TX0 4
theorem nmX0 : ∀ a, a < 4 → ∀ b, b < 4 → a ≠ b → (TX0 a).2.1 ≠ (TX0 b).2.1 := by decide +kernel
theorem tyX0_ok : ∀ k, k < 4 → parseFieldDescriptor (TX0 k).2.2.1 = some (tyX0 k) := by decide +kernel
abbrev cX0_init : ByteArray := prog_2_method_1_code
def yX0_init : MethodName := ⟨RX0, "<init>", "()V"⟩
abbrev cX0_addEntry : ByteArray := prog_2_method_2_code
def yX0_addEntry : MethodName := ⟨RX0, "addEntry", "(III)V"⟩
abbrev cX0_firstWrong : ByteArray := prog_2_method_3_code
def yX0_firstWrong : MethodName := ⟨RX0, "firstWrong", "(LCoatTraces$Coats;)I"⟩
def RX1 : String := "CoatTraces$Coats"
def TX1 : u_T := fun k => match k with
  | 0 => ("CoatTraces$Coats", "sizes", "[I", true)
  | 1 => ("CoatTraces$Coats", "arms", "[I", true)
  | 2 => ("CoatTraces$Coats", "through", "[I", true)
  | 3 => ("CoatTraces$Coats", "people", "I", false)
  | _ => ("CoatTraces$Coats", "heirs", "I", false)
def tyX1 : Nat → FieldType := fun k => match k with
  | 0 => .array .int
  | 1 => .array .int
  | 2 => .array .int
  | 3 => .int
  | _ => .int
abbrev wsX10 : List Cond := u_ws RX1 TX1 5
theorem nmX1 : ∀ a, a < 5 → ∀ b, b < 5 → a ≠ b → (TX1 a).2.1 ≠ (TX1 b).2.1 := by decide +kernel
theorem tyX1_ok : ∀ k, k < 5 → parseFieldDescriptor (TX1 k).2.2.1 = some (tyX1 k) := by decide +kernel
abbrev cX1_init : ByteArray := prog_3_method_1_code
def yX1_init : MethodName := ⟨RX1, "<init>", "()V"⟩
abbrev cX1_reckon : ByteArray := prog_3_method_2_code
def yX1_reckon : MethodName := ⟨RX1, "reckon", "(LCoatTraces$State;)V"⟩
abbrev cX1_heirsOf : ByteArray := prog_3_method_3_code
def yX1_heirsOf : MethodName := ⟨RX1, "heirsOf", "(LCoatTraces$State;)I"⟩
abbrev cX1_sizeForChild : ByteArray := prog_3_method_4_code
def yX1_sizeForChild : MethodName := ⟨RX1, "sizeForChild", "(LCoatTraces$State;II)I"⟩
abbrev cX1_compose : ByteArray := prog_3_method_5_code
def yX1_compose : MethodName := ⟨RX1, "compose", "(ILCoatTraces$State;II)V"⟩
abbrev cX1_takeFrom : ByteArray := prog_3_method_6_code
def yX1_takeFrom : MethodName := ⟨RX1, "takeFrom", "(III)V"⟩
abbrev cX1_take : ByteArray := prog_3_method_7_code
def yX1_take : MethodName := ⟨RX1, "take", "(III)V"⟩
abbrev cX1_sizeOf : ByteArray := prog_3_method_8_code
def yX1_sizeOf : MethodName := ⟨RX1, "sizeOf", "(I)I"⟩
abbrev cX1_armsAt : ByteArray := prog_3_method_9_code
def yX1_armsAt : MethodName := ⟨RX1, "armsAt", "(II)I"⟩
abbrev cX1_throughAt : ByteArray := prog_3_method_10_code
def yX1_throughAt : MethodName := ⟨RX1, "throughAt", "(II)I"⟩
abbrev cX1_isSame : ByteArray := prog_3_method_11_code
def yX1_isSame : MethodName := ⟨RX1, "isSame", "(II)Z"⟩
abbrev cX1_sameAs : ByteArray := prog_3_method_12_code
def yX1_sameAs : MethodName := ⟨RX1, "sameAs", "(I)I"⟩
abbrev cX1_unlikeCoats : ByteArray := prog_3_method_13_code
def yX1_unlikeCoats : MethodName := ⟨RX1, "unlikeCoats", "()I"⟩
abbrev cX1_isIn : ByteArray := prog_3_method_14_code
def yX1_isIn : MethodName := ⟨RX1, "isIn", "(II)Z"⟩
def RX2 : String := "CoatTraces$Draws"
def TX2 : u_T := fun k => match k with
  | _ => ("CoatTraces$Draws", "seedNow", "I", false)
def tyX2 : Nat → FieldType := fun k => match k with
  | _ => .int
abbrev wsX20 : List Cond := u_ws RX2 TX2 1
theorem nmX2 : ∀ a, a < 1 → ∀ b, b < 1 → a ≠ b → (TX2 a).2.1 ≠ (TX2 b).2.1 := by decide +kernel
theorem tyX2_ok : ∀ k, k < 1 → parseFieldDescriptor (TX2 k).2.2.1 = some (tyX2 k) := by decide +kernel
abbrev cX2_init : ByteArray := prog_4_method_1_code
def yX2_init : MethodName := ⟨RX2, "<init>", "()V"⟩
abbrev cX2_draw : ByteArray := prog_4_method_2_code
def yX2_draw : MethodName := ⟨RX2, "draw", "(I)I"⟩
abbrev cX2_addOne : ByteArray := prog_4_method_3_code
def yX2_addOne : MethodName := ⟨RX2, "addOne", "(LCoatTraces$State;)V"⟩
def RX3 : String := "CoatTraces$Images"
def TX3 : u_T := fun k => match k with
  | 0 => ("CoatTraces$Images", "shelf", "LCoatTraces$Shelf;", true)
  | 1 => ("CoatTraces$Images", "seeds", "[I", true)
  | _ => ("CoatTraces$Images", "stored", "[Z", true)
def tyX3 : Nat → FieldType := fun k => match k with
  | 0 => .object "CoatTraces$Shelf"
  | 1 => .array .int
  | _ => .array .boolean
abbrev wsX30 : List Cond := u_ws RX3 TX3 3
theorem nmX3 : ∀ a, a < 3 → ∀ b, b < 3 → a ≠ b → (TX3 a).2.1 ≠ (TX3 b).2.1 := by decide +kernel
theorem tyX3_ok : ∀ k, k < 3 → parseFieldDescriptor (TX3 k).2.2.1 = some (tyX3 k) := by decide +kernel
abbrev cX3_init : ByteArray := prog_5_method_1_code
def yX3_init : MethodName := ⟨RX3, "<init>", "()V"⟩
abbrev cX3_isStored : ByteArray := prog_5_method_2_code
def yX3_isStored : MethodName := ⟨RX3, "isStored", "(I)Z"⟩
abbrev cX3_store : ByteArray := prog_5_method_3_code
def yX3_store : MethodName := ⟨RX3, "store", "(ILCoatTraces$State;LCoatTraces$Draws;)V"⟩
abbrev cX3_restore : ByteArray := prog_5_method_4_code
def yX3_restore : MethodName := ⟨RX3, "restore", "(ILCoatTraces$State;LCoatTraces$Draws;)V"⟩
def RX4 : String := "CoatTraces$Kinship"
def TX4 : u_T := fun k => match k with
  | 0 => ("CoatTraces$Kinship", "stepsOfOne", "[I", true)
  | 1 => ("CoatTraces$Kinship", "stepsOfOther", "[I", true)
  | 2 => ("CoatTraces$Kinship", "steps", "I", false)
  | _ => ("CoatTraces$Kinship", "nearest", "I", false)
def tyX4 : Nat → FieldType := fun k => match k with
  | 0 => .array .int
  | 1 => .array .int
  | 2 => .int
  | _ => .int
abbrev wsX40 : List Cond := u_ws RX4 TX4 4
theorem nmX4 : ∀ a, a < 4 → ∀ b, b < 4 → a ≠ b → (TX4 a).2.1 ≠ (TX4 b).2.1 := by decide +kernel
theorem tyX4_ok : ∀ k, k < 4 → parseFieldDescriptor (TX4 k).2.2.1 = some (tyX4 k) := by decide +kernel
abbrev cX4_init : ByteArray := prog_6_method_1_code
def yX4_init : MethodName := ⟨RX4, "<init>", "()V"⟩
abbrev cX4_seek : ByteArray := prog_6_method_2_code
def yX4_seek : MethodName := ⟨RX4, "seek", "(LCoatTraces$State;II)V"⟩
abbrev cX4_countSteps : ByteArray := prog_6_method_3_code
def yX4_countSteps : MethodName := ⟨RX4, "countSteps", "(LCoatTraces$State;I[I)V"⟩
abbrev cX4_handOn : ByteArray := prog_6_method_4_code
def yX4_handOn : MethodName := ⟨RX4, "handOn", "([III)V"⟩
def RX5 : String := "CoatTraces$Past"
def TX5 : u_T := fun k => match k with
  | 0 => ("CoatTraces$Past", "shelf", "LCoatTraces$Shelf;", true)
  | 1 => ("CoatTraces$Past", "next", "I", false)
  | _ => ("CoatTraces$Past", "deeds", "I", false)
def tyX5 : Nat → FieldType := fun k => match k with
  | 0 => .object "CoatTraces$Shelf"
  | 1 => .int
  | _ => .int
abbrev wsX50 : List Cond := u_ws RX5 TX5 3
theorem nmX5 : ∀ a, a < 3 → ∀ b, b < 3 → a ≠ b → (TX5 a).2.1 ≠ (TX5 b).2.1 := by decide +kernel
theorem tyX5_ok : ∀ k, k < 3 → parseFieldDescriptor (TX5 k).2.2.1 = some (tyX5 k) := by decide +kernel
abbrev cX5_init : ByteArray := prog_7_method_1_code
def yX5_init : MethodName := ⟨RX5, "<init>", "()V"⟩
abbrev cX5_remember : ByteArray := prog_7_method_2_code
def yX5_remember : MethodName := ⟨RX5, "remember", "(LCoatTraces$State;)V"⟩
abbrev cX5_stepBack : ByteArray := prog_7_method_3_code
def yX5_stepBack : MethodName := ⟨RX5, "stepBack", "(LCoatTraces$State;I)V"⟩
def RX6 : String := "CoatTraces$Shelf"
def TX6 : u_T := fun k => match k with
  | 0 => ("CoatTraces$Shelf", "places", "I", true)
  | _ => ("CoatTraces$Shelf", "rows", "[I", true)
def tyX6 : Nat → FieldType := fun k => match k with
  | 0 => .int
  | _ => .array .int
abbrev wsX60 : List Cond := u_ws RX6 TX6 2
theorem nmX6 : ∀ a, a < 2 → ∀ b, b < 2 → a ≠ b → (TX6 a).2.1 ≠ (TX6 b).2.1 := by decide +kernel
theorem tyX6_ok : ∀ k, k < 2 → parseFieldDescriptor (TX6 k).2.2.1 = some (tyX6 k) := by decide +kernel
abbrev cX6_init : ByteArray := prog_8_method_1_code
def yX6_init : MethodName := ⟨RX6, "<init>", "(I)V"⟩
abbrev cX6_lay : ByteArray := prog_8_method_2_code
def yX6_lay : MethodName := ⟨RX6, "lay", "(ILCoatTraces$State;)V"⟩
abbrev cX6_fetch : ByteArray := prog_8_method_3_code
def yX6_fetch : MethodName := ⟨RX6, "fetch", "(ILCoatTraces$State;)V"⟩
def RX7 : String := "CoatTraces$State"
def TX7 : u_T := fun k => match k with
  | _ => ("CoatTraces$State", "cells", "[I", true)
def tyX7 : Nat → FieldType := fun k => match k with
  | _ => .array .int
abbrev wsX70 : List Cond := u_ws RX7 TX7 1
theorem nmX7 : ∀ a, a < 1 → ∀ b, b < 1 → a ≠ b → (TX7 a).2.1 ≠ (TX7 b).2.1 := by decide +kernel
theorem tyX7_ok : ∀ k, k < 1 → parseFieldDescriptor (TX7 k).2.2.1 = some (tyX7 k) := by decide +kernel
abbrev cX7_init : ByteArray := prog_9_method_1_code
def yX7_init : MethodName := ⟨RX7, "<init>", "()V"⟩
abbrev cX7_people : ByteArray := prog_9_method_2_code
def yX7_people : MethodName := ⟨RX7, "people", "()I"⟩
abbrev cX7_has : ByteArray := prog_9_method_3_code
def yX7_has : MethodName := ⟨RX7, "has", "(I)Z"⟩
abbrev cX7_hasOrNone : ByteArray := prog_9_method_4_code
def yX7_hasOrNone : MethodName := ⟨RX7, "hasOrNone", "(I)Z"⟩
abbrev cX7_hasRoom : ByteArray := prog_9_method_5_code
def yX7_hasRoom : MethodName := ⟨RX7, "hasRoom", "()Z"⟩
abbrev cX7_fact : ByteArray := prog_9_method_6_code
def yX7_fact : MethodName := ⟨RX7, "fact", "(II)I"⟩
abbrev cX7_isMan : ByteArray := prog_9_method_7_code
def yX7_isMan : MethodName := ⟨RX7, "isMan", "(I)Z"⟩
abbrev cX7_isWoman : ByteArray := prog_9_method_8_code
def yX7_isWoman : MethodName := ⟨RX7, "isWoman", "(I)Z"⟩
abbrev cX7_childrenOf : ByteArray := prog_9_method_9_code
def yX7_childrenOf : MethodName := ⟨RX7, "childrenOf", "(I)I"⟩
abbrev cX7_addPerson : ByteArray := prog_9_method_10_code
def yX7_addPerson : MethodName := ⟨RX7, "addPerson", "(IIII)V"⟩
abbrev cX7_setBounds : ByteArray := prog_9_method_11_code
def yX7_setBounds : MethodName := ⟨RX7, "setBounds", "(IIII)V"⟩
abbrev cX7_ruleNow : ByteArray := prog_9_method_12_code
def yX7_ruleNow : MethodName := ⟨RX7, "ruleNow", "()I"⟩
abbrev cX7_setRule : ByteArray := prog_9_method_13_code
def yX7_setRule : MethodName := ⟨RX7, "setRule", "(I)V"⟩
abbrev cX7_signs : ByteArray := prog_9_method_14_code
def yX7_signs : MethodName := ⟨RX7, "signs", "()I"⟩
abbrev cX7_signNumber : ByteArray := prog_9_method_15_code
def yX7_signNumber : MethodName := ⟨RX7, "signNumber", "(I)I"⟩
abbrev cX7_addSign : ByteArray := prog_9_method_16_code
def yX7_addSign : MethodName := ⟨RX7, "addSign", "(I)V"⟩
abbrev cX7_clearSigns : ByteArray := prog_9_method_17_code
def yX7_clearSigns : MethodName := ⟨RX7, "clearSigns", "()V"⟩
def RX8 : String := "CoatTraces$Tracer"
def TX8 : u_T := fun k => match k with
  | _ => ("CoatTraces$Tracer", "found", "[I", true)
def tyX8 : Nat → FieldType := fun k => match k with
  | _ => .array .int
abbrev wsX80 : List Cond := u_ws RX8 TX8 1
theorem nmX8 : ∀ a, a < 1 → ∀ b, b < 1 → a ≠ b → (TX8 a).2.1 ≠ (TX8 b).2.1 := by decide +kernel
theorem tyX8_ok : ∀ k, k < 1 → parseFieldDescriptor (TX8 k).2.2.1 = some (tyX8 k) := by decide +kernel
abbrev cX8_init : ByteArray := prog_10_method_1_code
def yX8_init : MethodName := ⟨RX8, "<init>", "()V"⟩
abbrev cX8_fits : ByteArray := prog_10_method_2_code
def yX8_fits : MethodName := ⟨RX8, "fits", "(II)Z"⟩
abbrev cX8_meantByAll : ByteArray := prog_10_method_3_code
def yX8_meantByAll : MethodName := ⟨RX8, "meantByAll", "(LCoatTraces$State;LCoatTraces$Coats;)I"⟩
abbrev cX8_fitsEach : ByteArray := prog_10_method_4_code
def yX8_fitsEach : MethodName := ⟨RX8, "fitsEach", "(LCoatTraces$State;LCoatTraces$Coats;I)Z"⟩
abbrev cX8_meantBySome : ByteArray := prog_10_method_5_code
def yX8_meantBySome : MethodName := ⟨RX8, "meantBySome", "(LCoatTraces$State;LCoatTraces$Coats;)I"⟩
abbrev cX8_holdsRest : ByteArray := prog_10_method_6_code
def yX8_holdsRest : MethodName := ⟨RX8, "holdsRest", "(LCoatTraces$State;LCoatTraces$Coats;I)Z"⟩
abbrev cX8_like : ByteArray := prog_10_method_7_code
def yX8_like : MethodName := ⟨RX8, "like", "(LCoatTraces$State;LCoatTraces$Coats;I)I"⟩
abbrev cX8_countOneMore : ByteArray := prog_10_method_8_code
def yX8_countOneMore : MethodName := ⟨RX8, "countOneMore", "(ILCoatTraces$Coats;II)V"⟩
abbrev cX8_likely : ByteArray := prog_10_method_9_code
def yX8_likely : MethodName := ⟨RX8, "likely", "(LCoatTraces$State;LCoatTraces$Coats;)I"⟩
def RX9 : String := "CoatTraces$Years"
def TX9 : u_T := fun k => match k with
  | 0 => ("CoatTraces$Years", "least", "[I", true)
  | 1 => ("CoatTraces$Years", "greatest", "[I", true)
  | 2 => ("CoatTraces$Years", "earlier", "[I", true)
  | 3 => ("CoatTraces$Years", "later", "[I", true)
  | 4 => ("CoatTraces$Years", "gap", "[I", true)
  | 5 => ("CoatTraces$Years", "moments", "I", false)
  | 6 => ("CoatTraces$Years", "gaps", "I", false)
  | _ => ("CoatTraces$Years", "spoiled", "Z", false)
def tyX9 : Nat → FieldType := fun k => match k with
  | 0 => .array .int
  | 1 => .array .int
  | 2 => .array .int
  | 3 => .array .int
  | 4 => .array .int
  | 5 => .int
  | 6 => .int
  | _ => .boolean
abbrev wsX90 : List Cond := u_ws RX9 TX9 8
theorem nmX9 : ∀ a, a < 8 → ∀ b, b < 8 → a ≠ b → (TX9 a).2.1 ≠ (TX9 b).2.1 := by decide +kernel
theorem tyX9_ok : ∀ k, k < 8 → parseFieldDescriptor (TX9 k).2.2.1 = some (tyX9 k) := by decide +kernel
abbrev cX9_init : ByteArray := prog_11_method_1_code
def yX9_init : MethodName := ⟨RX9, "<init>", "()V"⟩
abbrev cX9_birth : ByteArray := prog_11_method_2_code
def yX9_birth : MethodName := ⟨RX9, "birth", "(I)I"⟩
abbrev cX9_death : ByteArray := prog_11_method_3_code
def yX9_death : MethodName := ⟨RX9, "death", "(I)I"⟩
abbrev cX9_reckon : ByteArray := prog_11_method_4_code
def yX9_reckon : MethodName := ⟨RX9, "reckon", "(LCoatTraces$State;)V"⟩
abbrev cX9_layBounds : ByteArray := prog_11_method_5_code
def yX9_layBounds : MethodName := ⟨RX9, "layBounds", "(LCoatTraces$State;)V"⟩
abbrev cX9_layGaps : ByteArray := prog_11_method_6_code
def yX9_layGaps : MethodName := ⟨RX9, "layGaps", "(LCoatTraces$State;)V"⟩
abbrev cX9_addGap : ByteArray := prog_11_method_7_code
def yX9_addGap : MethodName := ⟨RX9, "addGap", "(III)V"⟩
abbrev cX9_raiseLeast : ByteArray := prog_11_method_8_code
def yX9_raiseLeast : MethodName := ⟨RX9, "raiseLeast", "()Z"⟩
abbrev cX9_lowerGreatest : ByteArray := prog_11_method_9_code
def yX9_lowerGreatest : MethodName := ⟨RX9, "lowerGreatest", "()V"⟩
abbrev cX9_isCrossed : ByteArray := prog_11_method_10_code
def yX9_isCrossed : MethodName := ⟨RX9, "isCrossed", "()Z"⟩
abbrev cX9_spoiledBit : ByteArray := prog_11_method_11_code
def yX9_spoiledBit : MethodName := ⟨RX9, "spoiledBit", "()I"⟩
abbrev cX9_isKnown : ByteArray := prog_11_method_12_code
def yX9_isKnown : MethodName := ⟨RX9, "isKnown", "(I)Z"⟩
abbrev cX9_leastOf : ByteArray := prog_11_method_13_code
def yX9_leastOf : MethodName := ⟨RX9, "leastOf", "(I)I"⟩
abbrev cX9_greatestOf : ByteArray := prog_11_method_14_code
def yX9_greatestOf : MethodName := ⟨RX9, "greatestOf", "(I)I"⟩
abbrev cX9_leastBirth : ByteArray := prog_11_method_15_code
def yX9_leastBirth : MethodName := ⟨RX9, "leastBirth", "(I)I"⟩
abbrev cX9_greatestBirth : ByteArray := prog_11_method_16_code
def yX9_greatestBirth : MethodName := ⟨RX9, "greatestBirth", "(I)I"⟩
abbrev cX9_leastDeath : ByteArray := prog_11_method_17_code
def yX9_leastDeath : MethodName := ⟨RX9, "leastDeath", "(I)I"⟩
abbrev cX9_greatestDeath : ByteArray := prog_11_method_18_code
def yX9_greatestDeath : MethodName := ⟨RX9, "greatestDeath", "(I)I"⟩
abbrev cX9_diedBetween : ByteArray := prog_11_method_19_code
def yX9_diedBetween : MethodName := ⟨RX9, "diedBetween", "(III)I"⟩
def RX10 : String := "CoatTraces"
def TX10 : u_T := fun k => match k with
  | 0 => ("CoatTraces", "state", "LCoatTraces$State;", true)
  | 1 => ("CoatTraces", "coats", "LCoatTraces$Coats;", true)
  | 2 => ("CoatTraces", "years", "LCoatTraces$Years;", true)
  | 3 => ("CoatTraces", "tracer", "LCoatTraces$Tracer;", true)
  | 4 => ("CoatTraces", "kinship", "LCoatTraces$Kinship;", true)
  | 5 => ("CoatTraces", "book", "LCoatTraces$Book;", true)
  | 6 => ("CoatTraces", "past", "LCoatTraces$Past;", true)
  | 7 => ("CoatTraces", "images", "LCoatTraces$Images;", true)
  | _ => ("CoatTraces", "draws", "LCoatTraces$Draws;", true)
def tyX10 : Nat → FieldType := fun k => match k with
  | 0 => .object "CoatTraces$State"
  | 1 => .object "CoatTraces$Coats"
  | 2 => .object "CoatTraces$Years"
  | 3 => .object "CoatTraces$Tracer"
  | 4 => .object "CoatTraces$Kinship"
  | 5 => .object "CoatTraces$Book"
  | 6 => .object "CoatTraces$Past"
  | 7 => .object "CoatTraces$Images"
  | _ => .object "CoatTraces$Draws"
abbrev wsX100 : List Cond := u_ws RX10 TX10 9
theorem nmX10 : ∀ a, a < 9 → ∀ b, b < 9 → a ≠ b → (TX10 a).2.1 ≠ (TX10 b).2.1 := by decide +kernel
theorem tyX10_ok : ∀ k, k < 9 → parseFieldDescriptor (TX10 k).2.2.1 = some (tyX10 k) := by decide +kernel
abbrev cX10_init : ByteArray := prog_1_method_1_code
def yX10_init : MethodName := ⟨RX10, "<init>", "()V"⟩
abbrev cX10_told : ByteArray := prog_1_method_2_code
def yX10_told : MethodName := ⟨RX10, "told", "(I)I"⟩
abbrev cX10_person : ByteArray := prog_1_method_3_code
def yX10_person : MethodName := ⟨RX10, "person", "(II)I"⟩
abbrev cX10_quarter : ByteArray := prog_1_method_4_code
def yX10_quarter : MethodName := ⟨RX10, "quarter", "(III)I"⟩
abbrev cX10_kin : ByteArray := prog_1_method_5_code
def yX10_kin : MethodName := ⟨RX10, "kin", "(III)I"⟩
abbrev cX10_would : ByteArray := prog_1_method_6_code
def yX10_would : MethodName := ⟨RX10, "would", "(II)I"⟩
abbrev cX10_dated : ByteArray := prog_1_method_7_code
def yX10_dated : MethodName := ⟨RX10, "dated", "(II)I"⟩
abbrev cX10_signAt : ByteArray := prog_1_method_8_code
def yX10_signAt : MethodName := ⟨RX10, "signAt", "(I)I"⟩
abbrev cX10_put : ByteArray := prog_1_method_9_code
def yX10_put : MethodName := ⟨RX10, "put", "(IIII)I"⟩
abbrev cX10_born : ByteArray := prog_1_method_10_code
def yX10_born : MethodName := ⟨RX10, "born", "(III)I"⟩
abbrev cX10_died : ByteArray := prog_1_method_11_code
def yX10_died : MethodName := ⟨RX10, "died", "(III)I"⟩
abbrev cX10_rule : ByteArray := prog_1_method_12_code
def yX10_rule : MethodName := ⟨RX10, "rule", "(I)I"⟩
abbrev cX10_sign : ByteArray := prog_1_method_13_code
def yX10_sign : MethodName := ⟨RX10, "sign", "(I)I"⟩
abbrev cX10_wipe : ByteArray := prog_1_method_14_code
def yX10_wipe : MethodName := ⟨RX10, "wipe", "()I"⟩
abbrev cX10_drift : ByteArray := prog_1_method_15_code
def yX10_drift : MethodName := ⟨RX10, "drift", "(I)I"⟩
abbrev cX10_undo : ByteArray := prog_1_method_16_code
def yX10_undo : MethodName := ⟨RX10, "undo", "(I)I"⟩
abbrev cX10_write : ByteArray := prog_1_method_17_code
def yX10_write : MethodName := ⟨RX10, "write", "(III)I"⟩
abbrev cX10_tear : ByteArray := prog_1_method_18_code
def yX10_tear : MethodName := ⟨RX10, "tear", "()I"⟩
abbrev cX10_seed : ByteArray := prog_1_method_19_code
def yX10_seed : MethodName := ⟨RX10, "seed", "(I)I"⟩
abbrev cX10_keep : ByteArray := prog_1_method_20_code
def yX10_keep : MethodName := ⟨RX10, "keep", "(I)I"⟩
abbrev cX10_goBack : ByteArray := prog_1_method_21_code
def yX10_goBack : MethodName := ⟨RX10, "goBack", "(I)I"⟩
abbrev cX10_boundYears : ByteArray := prog_1_method_22_code
def yX10_boundYears : MethodName := ⟨RX10, "boundYears", "(IIII)I"⟩
abbrev cX10_reckonAll : ByteArray := prog_1_method_23_code
def yX10_reckonAll : MethodName := ⟨RX10, "reckonAll", "()V"⟩
abbrev cX10_isArms : ByteArray := prog_1_method_24_code
def yX10_isArms : MethodName := ⟨RX10, "isArms", "(I)Z"⟩
abbrev cX10_areYears : ByteArray := prog_1_method_25_code
def yX10_areYears : MethodName := ⟨RX10, "areYears", "(II)Z"⟩
def RX11 : String := "CoatTracesModel"
def TX11 : u_T := fun k => match k with
  | 0 => ("CoatTracesModel", "w", "[I", true)
  | 1 => ("CoatTracesModel", "imageSeed", "[I", true)
  | 2 => ("CoatTracesModel", "isKept", "[Z", true)
  | 3 => ("CoatTracesModel", "undos", "I", false)
  | 4 => ("CoatTracesModel", "seed", "I", false)
  | 5 => ("CoatTracesModel", "entries", "I", false)
  | 6 => ("CoatTracesModel", "bookWho", "[I", true)
  | 7 => ("CoatTracesModel", "bookPlace", "[I", true)
  | 8 => ("CoatTracesModel", "bookArms", "[I", true)
  | 9 => ("CoatTracesModel", "many", "[I", true)
  | 10 => ("CoatTracesModel", "arms", "[I", true)
  | 11 => ("CoatTracesModel", "through", "[I", true)
  | 12 => ("CoatTracesModel", "least", "[I", true)
  | 13 => ("CoatTracesModel", "most", "[I", true)
  | 14 => ("CoatTracesModel", "moves", "Z", false)
  | 15 => ("CoatTracesModel", "long0", "[I", true)
  | 16 => ("CoatTracesModel", "stepsOne", "[I", true)
  | _ => ("CoatTracesModel", "stepsOther", "[I", true)
def tyX11 : Nat → FieldType := fun k => match k with
  | 0 => .array .int
  | 1 => .array .int
  | 2 => .array .boolean
  | 3 => .int
  | 4 => .int
  | 5 => .int
  | 6 => .array .int
  | 7 => .array .int
  | 8 => .array .int
  | 9 => .array .int
  | 10 => .array .int
  | 11 => .array .int
  | 12 => .array .int
  | 13 => .array .int
  | 14 => .boolean
  | 15 => .array .int
  | 16 => .array .int
  | _ => .array .int
abbrev wsX110 : List Cond := u_ws RX11 TX11 18
theorem nmX11 : ∀ a, a < 18 → ∀ b, b < 18 → a ≠ b → (TX11 a).2.1 ≠ (TX11 b).2.1 := by decide +kernel
theorem tyX11_ok : ∀ k, k < 18 → parseFieldDescriptor (TX11 k).2.2.1 = some (tyX11 k) := by decide +kernel
abbrev cX11_init : ByteArray := prog_13_method_1_code
def yX11_init : MethodName := ⟨RX11, "<init>", "()V"⟩
abbrev cX11_in : ByteArray := prog_13_method_3_code
def yX11_in : MethodName := ⟨RX11, "in", "(JJJ)Z"⟩
abbrev cX11_copy : ByteArray := prog_13_method_5_code
def yX11_copy : MethodName := ⟨RX11, "copy", "(II)V"⟩
abbrev cX11_minds : ByteArray := prog_13_method_6_code
def yX11_minds : MethodName := ⟨RX11, "minds", "()V"⟩
abbrev cX11_isOne : ByteArray := prog_13_method_7_code
def yX11_isOne : MethodName := ⟨RX11, "isOne", "(I)Z"⟩
abbrev cX11_isMan : ByteArray := prog_13_method_8_code
def yX11_isMan : MethodName := ⟨RX11, "isMan", "(I)Z"⟩
abbrev cX11_isWoman : ByteArray := prog_13_method_9_code
def yX11_isWoman : MethodName := ⟨RX11, "isWoman", "(I)Z"⟩
abbrev cX11_isHeir : ByteArray := prog_13_method_10_code
def yX11_isHeir : MethodName := ⟨RX11, "isHeir", "(I)Z"⟩
abbrev cX11_takes : ByteArray := prog_13_method_11_code
def yX11_takes : MethodName := ⟨RX11, "takes", "(III)V"⟩
abbrev cX11_takesOf : ByteArray := prog_13_method_12_code
def yX11_takesOf : MethodName := ⟨RX11, "takesOf", "(III)V"⟩
abbrev cX11_laysOne : ByteArray := prog_13_method_13_code
def yX11_laysOne : MethodName := ⟨RX11, "laysOne", "(IIII)V"⟩
abbrev cX11_lays : ByteArray := prog_13_method_14_code
def yX11_lays : MethodName := ⟨RX11, "lays", "()V"⟩
abbrev cX11_isSame : ByteArray := prog_13_method_15_code
def yX11_isSame : MethodName := ⟨RX11, "isSame", "(II)Z"⟩
abbrev cX11_same : ByteArray := prog_13_method_16_code
def yX11_same : MethodName := ⟨RX11, "same", "(I)I"⟩
abbrev cX11_coats : ByteArray := prog_13_method_17_code
def yX11_coats : MethodName := ⟨RX11, "coats", "()I"⟩
abbrev cX11_atLeast : ByteArray := prog_13_method_18_code
def yX11_atLeast : MethodName := ⟨RX11, "atLeast", "(III)V"⟩
abbrev cX11_isSpoiled : ByteArray := prog_13_method_19_code
def yX11_isSpoiled : MethodName := ⟨RX11, "isSpoiled", "()Z"⟩
abbrev cX11_narrowsOne : ByteArray := prog_13_method_20_code
def yX11_narrowsOne : MethodName := ⟨RX11, "narrowsOne", "(I)V"⟩
abbrev cX11_narrows : ByteArray := prog_13_method_21_code
def yX11_narrows : MethodName := ⟨RX11, "narrows", "()Z"⟩
abbrev cX11_isAs : ByteArray := prog_13_method_22_code
def yX11_isAs : MethodName := ⟨RX11, "isAs", "(II)Z"⟩
abbrev cX11_isAll : ByteArray := prog_13_method_23_code
def yX11_isAll : MethodName := ⟨RX11, "isAll", "(I)Z"⟩
abbrev cX11_isSome : ByteArray := prog_13_method_24_code
def yX11_isSome : MethodName := ⟨RX11, "isSome", "(I)Z"⟩
abbrev cX11_meant : ByteArray := prog_13_method_25_code
def yX11_meant : MethodName := ⟨RX11, "meant", "(Z)I"⟩
abbrev cX11_like : ByteArray := prog_13_method_26_code
def yX11_like : MethodName := ⟨RX11, "like", "(I)I"⟩
abbrev cX11_likely : ByteArray := prog_13_method_27_code
def yX11_likely : MethodName := ⟨RX11, "likely", "()I"⟩
abbrev cX11_heirs : ByteArray := prog_13_method_28_code
def yX11_heirs : MethodName := ⟨RX11, "heirs", "()I"⟩
abbrev cX11_wrong : ByteArray := prog_13_method_29_code
def yX11_wrong : MethodName := ⟨RX11, "wrong", "()I"⟩
abbrev cX11_told : ByteArray := prog_13_method_30_code
def yX11_told : MethodName := ⟨RX11, "told", "(I)I"⟩
abbrev cX11_children : ByteArray := prog_13_method_31_code
def yX11_children : MethodName := ⟨RX11, "children", "(I)I"⟩
abbrev cX11_narrowed : ByteArray := prog_13_method_32_code
def yX11_narrowed : MethodName := ⟨RX11, "narrowed", "(II)I"⟩
abbrev cX11_person : ByteArray := prog_13_method_33_code
def yX11_person : MethodName := ⟨RX11, "person", "(II)I"⟩
abbrev cX11_quarter : ByteArray := prog_13_method_34_code
def yX11_quarter : MethodName := ⟨RX11, "quarter", "(III)I"⟩
abbrev cX11_steps : ByteArray := prog_13_method_35_code
def yX11_steps : MethodName := ⟨RX11, "steps", "(I[I)V"⟩
abbrev cX11_kin : ByteArray := prog_13_method_36_code
def yX11_kin : MethodName := ⟨RX11, "kin", "(III)I"⟩
abbrev cX11_would : ByteArray := prog_13_method_37_code
def yX11_would : MethodName := ⟨RX11, "would", "(II)I"⟩
abbrev cX11_dated : ByteArray := prog_13_method_38_code
def yX11_dated : MethodName := ⟨RX11, "dated", "(II)I"⟩
abbrev cX11_signAt : ByteArray := prog_13_method_39_code
def yX11_signAt : MethodName := ⟨RX11, "signAt", "(I)I"⟩
abbrev cX11_comes : ByteArray := prog_13_method_40_code
def yX11_comes : MethodName := ⟨RX11, "comes", "(IIII)V"⟩
abbrev cX11_put : ByteArray := prog_13_method_41_code
def yX11_put : MethodName := ⟨RX11, "put", "(IIII)I"⟩
abbrev cX11_bounds : ByteArray := prog_13_method_42_code
def yX11_bounds : MethodName := ⟨RX11, "bounds", "(IIII)I"⟩
abbrev cX11_born : ByteArray := prog_13_method_43_code
def yX11_born : MethodName := ⟨RX11, "born", "(III)I"⟩
abbrev cX11_died : ByteArray := prog_13_method_44_code
def yX11_died : MethodName := ⟨RX11, "died", "(III)I"⟩
abbrev cX11_rule : ByteArray := prog_13_method_45_code
def yX11_rule : MethodName := ⟨RX11, "rule", "(I)I"⟩
abbrev cX11_sign : ByteArray := prog_13_method_46_code
def yX11_sign : MethodName := ⟨RX11, "sign", "(I)I"⟩
abbrev cX11_wipe : ByteArray := prog_13_method_47_code
def yX11_wipe : MethodName := ⟨RX11, "wipe", "()I"⟩
abbrev cX11_draw : ByteArray := prog_13_method_48_code
def yX11_draw : MethodName := ⟨RX11, "draw", "(I)I"⟩
abbrev cX11_drift : ByteArray := prog_13_method_49_code
def yX11_drift : MethodName := ⟨RX11, "drift", "(I)I"⟩
abbrev cX11_undo : ByteArray := prog_13_method_50_code
def yX11_undo : MethodName := ⟨RX11, "undo", "(I)I"⟩
abbrev cX11_write : ByteArray := prog_13_method_51_code
def yX11_write : MethodName := ⟨RX11, "write", "(III)I"⟩
abbrev cX11_tear : ByteArray := prog_13_method_52_code
def yX11_tear : MethodName := ⟨RX11, "tear", "()I"⟩
abbrev cX11_seed : ByteArray := prog_13_method_53_code
def yX11_seed : MethodName := ⟨RX11, "seed", "(I)I"⟩
abbrev cX11_keep : ByteArray := prog_13_method_54_code
def yX11_keep : MethodName := ⟨RX11, "keep", "(I)I"⟩
abbrev cX11_goBack : ByteArray := prog_13_method_55_code
def yX11_goBack : MethodName := ⟨RX11, "goBack", "(I)I"⟩
def RJ9 : String := "java/lang/Math"
def TJ9 : u_T := fun k => match k with
  | _ => ("", "", "", false)
def tyJ9 : Nat → FieldType := fun k => match k with
  | _ => .int
abbrev wsJ90 : List Cond := u_ws RJ9 TJ9 0
theorem nmJ9 : ∀ a, a < 0 → ∀ b, b < 0 → a ≠ b → (TJ9 a).2.1 ≠ (TJ9 b).2.1 := by decide +kernel
theorem tyJ9_ok : ∀ k, k < 0 → parseFieldDescriptor (TJ9 k).2.2.1 = some (tyJ9 k) := by decide +kernel
abbrev cJ9_max_7cf53 : ByteArray := prog_14_method_65_code
def yJ9_max_7cf53 : MethodName := ⟨RJ9, "max", "(II)I"⟩
abbrev cJ9_min_7cf53 : ByteArray := prog_14_method_69_code
def yJ9_min_7cf53 : MethodName := ⟨RJ9, "min", "(II)I"⟩
def RJ10 : String := "java/lang/System"
def TJ10 : u_T := fun k => match k with
  | _ => ("", "", "", false)
def tyJ10 : Nat → FieldType := fun k => match k with
  | _ => .int
abbrev wsJ100 : List Cond := u_ws RJ10 TJ10 0
theorem nmJ10 : ∀ a, a < 0 → ∀ b, b < 0 → a ≠ b → (TJ10 a).2.1 ≠ (TJ10 b).2.1 := by decide +kernel
theorem tyJ10_ok : ∀ k, k < 0 → parseFieldDescriptor (TJ10 k).2.2.1 = some (tyJ10 k) := by decide +kernel
def RL : String := "CoatTracesLaw"
abbrev cL_law : ByteArray := code
def yL_law : MethodName := ⟨RL, "law", "([I)Z"⟩
def wsX0_init : List Cond := .code yX0_init cX0_init 1 none :: ([.methodLink RX0 3 objectInit, .instanceMethod objectInit, .code objectInit ⟨#[0xb1]⟩ 1 none, .arrayClass .int, .fieldLink RX0 9 "CoatTraces$Book" "whose" "[I", .fieldLink RX0 15 "CoatTraces$Book" "which" "[I", .fieldLink RX0 18 "CoatTraces$Book" "arms" "[I"] ++ wsX00)
def wsX0_addEntry : List Cond := .code yX0_addEntry cX0_addEntry 4 none :: ([.fieldLink RX0 21 "CoatTraces$Book" "entries" "I", .fieldLink RX0 9 "CoatTraces$Book" "whose" "[I", .fieldLink RX0 15 "CoatTraces$Book" "which" "[I", .fieldLink RX0 18 "CoatTraces$Book" "arms" "[I"] ++ wsX00)
def wsX1_sizeOf : List Cond := .code yX1_sizeOf cX1_sizeOf 2 (some .int) :: ([.fieldLink RX1 11 "CoatTraces$Coats" "sizes" "[I"] ++ wsX10)
def wsX1_armsAt : List Cond := .code yX1_armsAt cX1_armsAt 3 (some .int) :: ([.fieldLink RX1 15 "CoatTraces$Coats" "arms" "[I", .methodLink RX1 56 yX1_sizeOf, .instanceMethod yX1_sizeOf, .selects RX1 yX1_sizeOf yX1_sizeOf, .initialized RX1, .code yX1_sizeOf cX1_sizeOf 2 (some .int), .fieldLink RX1 11 "CoatTraces$Coats" "sizes" "[I"] ++ wsX10)
def wsX0_firstWrong : List Cond := .code yX0_firstWrong cX0_firstWrong 4 (some .int) :: ([.fieldLink RX0 21 "CoatTraces$Book" "entries" "I", .fieldLink RX0 9 "CoatTraces$Book" "whose" "[I", .fieldLink RX0 25 "CoatTraces$Coats" "people" "I", .fieldLink RX0 15 "CoatTraces$Book" "which" "[I", .fieldLink RX0 18 "CoatTraces$Book" "arms" "[I", .methodLink RX0 30 yX1_armsAt, .instanceMethod yX1_armsAt, .selects RX1 yX1_armsAt yX1_armsAt, .initialized RX1, .code yX1_armsAt cX1_armsAt 3 (some .int), .fieldLink RX1 15 "CoatTraces$Coats" "arms" "[I", .methodLink RX1 56 yX1_sizeOf, .instanceMethod yX1_sizeOf, .selects RX1 yX1_sizeOf yX1_sizeOf, .code yX1_sizeOf cX1_sizeOf 2 (some .int), .fieldLink RX1 11 "CoatTraces$Coats" "sizes" "[I"] ++ wsX00 ++ wsX10)
def wsX1_init : List Cond := .code yX1_init cX1_init 1 none :: ([.methodLink RX1 3 objectInit, .instanceMethod objectInit, .code objectInit ⟨#[0xb1]⟩ 1 none, .arrayClass .int, .fieldLink RX1 11 "CoatTraces$Coats" "sizes" "[I", .fieldLink RX1 15 "CoatTraces$Coats" "arms" "[I", .fieldLink RX1 18 "CoatTraces$Coats" "through" "[I"] ++ wsX10)
def wsX7_people : List Cond := .code yX7_people cX7_people 1 (some .int) :: ([.fieldLink RX7 11 "CoatTraces$State" "cells" "[I"] ++ wsX70)
def wsX7_has : List Cond := .code yX7_has cX7_has 2 (some .boolean) :: ([.fieldLink RX7 11 "CoatTraces$State" "cells" "[I"] ++ wsX70)
def wsX7_fact : List Cond := .code yX7_fact cX7_fact 3 (some .int) :: ([.fieldLink RX7 11 "CoatTraces$State" "cells" "[I", .methodLink RX7 15 yX7_has, .instanceMethod yX7_has, .selects RX7 yX7_has yX7_has, .initialized RX7, .code yX7_has cX7_has 2 (some .boolean)] ++ wsX70)
def wsX7_isMan : List Cond := .code yX7_isMan cX7_isMan 2 (some .boolean) :: ([.methodLink RX7 23 yX7_fact, .instanceMethod yX7_fact, .selects RX7 yX7_fact yX7_fact, .initialized RX7, .code yX7_fact cX7_fact 3 (some .int), .fieldLink RX7 11 "CoatTraces$State" "cells" "[I", .methodLink RX7 15 yX7_has, .instanceMethod yX7_has, .selects RX7 yX7_has yX7_has, .code yX7_has cX7_has 2 (some .boolean)] ++ wsX70)
def wsX7_isWoman : List Cond := .code yX7_isWoman cX7_isWoman 2 (some .boolean) :: ([.methodLink RX7 23 yX7_fact, .instanceMethod yX7_fact, .selects RX7 yX7_fact yX7_fact, .initialized RX7, .code yX7_fact cX7_fact 3 (some .int), .fieldLink RX7 11 "CoatTraces$State" "cells" "[I", .methodLink RX7 15 yX7_has, .instanceMethod yX7_has, .selects RX7 yX7_has yX7_has, .code yX7_has cX7_has 2 (some .boolean)] ++ wsX70)
def wsX1_isIn : List Cond := .code yX1_isIn cX1_isIn 2 (some .boolean) :: ([])
def wsX1_heirsOf_r1 : List Cond := [Cond.methodLink RX1 21 yX7_people, Cond.instanceMethod yX7_people, Cond.selects RX7 yX7_people yX7_people, Cond.initialized RX7, Cond.code yX7_people cX7_people 1 (some .int), Cond.fieldLink RX7 11 "CoatTraces$State" "cells" "[I", Cond.methodLink RX1 37 yX7_fact, Cond.instanceMethod yX7_fact, Cond.selects RX7 yX7_fact yX7_fact, Cond.code yX7_fact cX7_fact 3 (some .int), Cond.methodLink RX7 15 yX7_has, Cond.instanceMethod yX7_has, Cond.selects RX7 yX7_has yX7_has, Cond.code yX7_has cX7_has 2 (some .boolean), Cond.methodLink RX1 45 yX7_isMan, Cond.instanceMethod yX7_isMan, Cond.selects RX7 yX7_isMan yX7_isMan, Cond.code yX7_isMan cX7_isMan 2 (some .boolean), Cond.methodLink RX7 23 yX7_fact, Cond.methodLink RX1 49 yX7_isWoman, Cond.instanceMethod yX7_isWoman, Cond.selects RX7 yX7_isWoman yX7_isWoman, Cond.code yX7_isWoman cX7_isWoman 2 (some .boolean), Cond.methodLink RX1 52 yX1_isIn]
def wsX1_heirsOf_r2 : List Cond := [Cond.static yX1_isIn, Cond.initialized RX1, Cond.code yX1_isIn cX1_isIn 2 (some .boolean)]
def wsX1_heirsOf : List Cond := .code yX1_heirsOf cX1_heirsOf 5 (some .int) :: ((wsX1_heirsOf_r1 ++ wsX1_heirsOf_r2) ++ wsX70)
def wsX7_ruleNow : List Cond := .code yX7_ruleNow cX7_ruleNow 1 (some .int) :: ([.fieldLink RX7 11 "CoatTraces$State" "cells" "[I"] ++ wsX70)
def wsX1_take : List Cond := .code yX1_take cX1_take 7 none :: ([.fieldLink RX1 11 "CoatTraces$Coats" "sizes" "[I", .fieldLink RX1 15 "CoatTraces$Coats" "arms" "[I", .fieldLink RX1 18 "CoatTraces$Coats" "through" "[I"] ++ wsX10)
def wsX1_throughAt : List Cond := .code yX1_throughAt cX1_throughAt 3 (some .int) :: ([.fieldLink RX1 18 "CoatTraces$Coats" "through" "[I", .methodLink RX1 56 yX1_sizeOf, .instanceMethod yX1_sizeOf, .selects RX1 yX1_sizeOf yX1_sizeOf, .initialized RX1, .code yX1_sizeOf cX1_sizeOf 2 (some .int), .fieldLink RX1 11 "CoatTraces$Coats" "sizes" "[I"] ++ wsX10)
def wsX1_takeFrom : List Cond := .code yX1_takeFrom cX1_takeFrom 5 none :: ([.methodLink RX1 67 yX1_armsAt, .instanceMethod yX1_armsAt, .selects RX1 yX1_armsAt yX1_armsAt, .initialized RX1, .code yX1_armsAt cX1_armsAt 3 (some .int), .fieldLink RX1 15 "CoatTraces$Coats" "arms" "[I", .methodLink RX1 56 yX1_sizeOf, .instanceMethod yX1_sizeOf, .selects RX1 yX1_sizeOf yX1_sizeOf, .code yX1_sizeOf cX1_sizeOf 2 (some .int), .fieldLink RX1 11 "CoatTraces$Coats" "sizes" "[I", .methodLink RX1 70 yX1_throughAt, .instanceMethod yX1_throughAt, .selects RX1 yX1_throughAt yX1_throughAt, .code yX1_throughAt cX1_throughAt 3 (some .int), .fieldLink RX1 18 "CoatTraces$Coats" "through" "[I", .methodLink RX1 63 yX1_take, .instanceMethod yX1_take, .selects RX1 yX1_take yX1_take, .code yX1_take cX1_take 7 none] ++ wsX10)
def wsX1_compose_r1 : List Cond := [Cond.fieldLink RX1 34 "CoatTraces$Coats" "heirs" "I", Cond.fieldLink RX1 11 "CoatTraces$Coats" "sizes" "[I", Cond.methodLink RX1 60 yX7_ruleNow, Cond.instanceMethod yX7_ruleNow, Cond.selects RX7 yX7_ruleNow yX7_ruleNow, Cond.initialized RX7, Cond.code yX7_ruleNow cX7_ruleNow 1 (some .int), Cond.fieldLink RX7 11 "CoatTraces$State" "cells" "[I", Cond.methodLink RX1 52 yX1_isIn, Cond.static yX1_isIn, Cond.initialized RX1, Cond.code yX1_isIn cX1_isIn 2 (some .boolean), Cond.methodLink RX1 37 yX7_fact, Cond.instanceMethod yX7_fact, Cond.selects RX7 yX7_fact yX7_fact, Cond.code yX7_fact cX7_fact 3 (some .int), Cond.methodLink RX7 15 yX7_has, Cond.instanceMethod yX7_has, Cond.selects RX7 yX7_has yX7_has, Cond.code yX7_has cX7_has 2 (some .boolean), Cond.methodLink RX1 63 yX1_take, Cond.instanceMethod yX1_take, Cond.selects RX1 yX1_take yX1_take, Cond.code yX1_take cX1_take 7 none]
def wsX1_compose_r2 : List Cond := [Cond.fieldLink RX1 15 "CoatTraces$Coats" "arms" "[I", Cond.fieldLink RX1 18 "CoatTraces$Coats" "through" "[I", Cond.methodLink RX1 67 yX1_armsAt, Cond.instanceMethod yX1_armsAt, Cond.selects RX1 yX1_armsAt yX1_armsAt, Cond.code yX1_armsAt cX1_armsAt 3 (some .int), Cond.methodLink RX1 56 yX1_sizeOf, Cond.instanceMethod yX1_sizeOf, Cond.selects RX1 yX1_sizeOf yX1_sizeOf, Cond.code yX1_sizeOf cX1_sizeOf 2 (some .int), Cond.methodLink RX1 70 yX1_throughAt, Cond.instanceMethod yX1_throughAt, Cond.selects RX1 yX1_throughAt yX1_throughAt, Cond.code yX1_throughAt cX1_throughAt 3 (some .int), Cond.methodLink RX1 73 yX1_takeFrom, Cond.instanceMethod yX1_takeFrom, Cond.selects RX1 yX1_takeFrom yX1_takeFrom, Cond.code yX1_takeFrom cX1_takeFrom 5 none]
def wsX1_compose : List Cond := .code yX1_compose cX1_compose 7 none :: ((wsX1_compose_r1 ++ wsX1_compose_r2) ++ wsX10 ++ wsX70)
def wsX1_reckon_r1 : List Cond := [Cond.fieldLink RX1 27 "CoatTraces$Coats" "people" "I", Cond.fieldLink RX1 34 "CoatTraces$Coats" "heirs" "I", Cond.methodLink RX1 21 yX7_people, Cond.instanceMethod yX7_people, Cond.selects RX7 yX7_people yX7_people, Cond.initialized RX7, Cond.code yX7_people cX7_people 1 (some .int), Cond.fieldLink RX7 11 "CoatTraces$State" "cells" "[I", Cond.methodLink RX1 30 yX1_heirsOf, Cond.static yX1_heirsOf, Cond.initialized RX1, Cond.code yX1_heirsOf cX1_heirsOf 5 (some .int), Cond.methodLink RX1 37 yX7_fact, Cond.instanceMethod yX7_fact, Cond.selects RX7 yX7_fact yX7_fact, Cond.code yX7_fact cX7_fact 3 (some .int), Cond.methodLink RX7 15 yX7_has, Cond.instanceMethod yX7_has, Cond.selects RX7 yX7_has yX7_has, Cond.code yX7_has cX7_has 2 (some .boolean), Cond.methodLink RX1 45 yX7_isMan, Cond.instanceMethod yX7_isMan, Cond.selects RX7 yX7_isMan yX7_isMan, Cond.code yX7_isMan cX7_isMan 2 (some .boolean)]
def wsX1_reckon_r2 : List Cond := [Cond.methodLink RX7 23 yX7_fact, Cond.methodLink RX1 49 yX7_isWoman, Cond.instanceMethod yX7_isWoman, Cond.selects RX7 yX7_isWoman yX7_isWoman, Cond.code yX7_isWoman cX7_isWoman 2 (some .boolean), Cond.methodLink RX1 52 yX1_isIn, Cond.static yX1_isIn, Cond.code yX1_isIn cX1_isIn 2 (some .boolean), Cond.methodLink RX1 41 yX1_compose, Cond.instanceMethod yX1_compose, Cond.selects RX1 yX1_compose yX1_compose, Cond.code yX1_compose cX1_compose 7 none, Cond.fieldLink RX1 11 "CoatTraces$Coats" "sizes" "[I", Cond.methodLink RX1 60 yX7_ruleNow, Cond.instanceMethod yX7_ruleNow, Cond.selects RX7 yX7_ruleNow yX7_ruleNow, Cond.code yX7_ruleNow cX7_ruleNow 1 (some .int), Cond.methodLink RX1 63 yX1_take, Cond.instanceMethod yX1_take, Cond.selects RX1 yX1_take yX1_take, Cond.code yX1_take cX1_take 7 none, Cond.fieldLink RX1 15 "CoatTraces$Coats" "arms" "[I", Cond.fieldLink RX1 18 "CoatTraces$Coats" "through" "[I", Cond.methodLink RX1 67 yX1_armsAt]
def wsX1_reckon_r3 : List Cond := [Cond.instanceMethod yX1_armsAt, Cond.selects RX1 yX1_armsAt yX1_armsAt, Cond.code yX1_armsAt cX1_armsAt 3 (some .int), Cond.methodLink RX1 56 yX1_sizeOf, Cond.instanceMethod yX1_sizeOf, Cond.selects RX1 yX1_sizeOf yX1_sizeOf, Cond.code yX1_sizeOf cX1_sizeOf 2 (some .int), Cond.methodLink RX1 70 yX1_throughAt, Cond.instanceMethod yX1_throughAt, Cond.selects RX1 yX1_throughAt yX1_throughAt, Cond.code yX1_throughAt cX1_throughAt 3 (some .int), Cond.methodLink RX1 73 yX1_takeFrom, Cond.instanceMethod yX1_takeFrom, Cond.selects RX1 yX1_takeFrom yX1_takeFrom, Cond.code yX1_takeFrom cX1_takeFrom 5 none]
def wsX1_reckon : List Cond := .code yX1_reckon cX1_reckon 3 none :: ((wsX1_reckon_r1 ++ (wsX1_reckon_r2 ++ wsX1_reckon_r3)) ++ wsX10 ++ wsX70)
def wsX1_sizeForChild_r1 : List Cond := [Cond.methodLink RX1 41 yX1_compose, Cond.instanceMethod yX1_compose, Cond.selects RX1 yX1_compose yX1_compose, Cond.initialized RX1, Cond.code yX1_compose cX1_compose 7 none, Cond.fieldLink RX1 34 "CoatTraces$Coats" "heirs" "I", Cond.fieldLink RX1 11 "CoatTraces$Coats" "sizes" "[I", Cond.methodLink RX1 60 yX7_ruleNow, Cond.instanceMethod yX7_ruleNow, Cond.selects RX7 yX7_ruleNow yX7_ruleNow, Cond.initialized RX7, Cond.code yX7_ruleNow cX7_ruleNow 1 (some .int), Cond.fieldLink RX7 11 "CoatTraces$State" "cells" "[I", Cond.methodLink RX1 52 yX1_isIn, Cond.static yX1_isIn, Cond.code yX1_isIn cX1_isIn 2 (some .boolean), Cond.methodLink RX1 37 yX7_fact, Cond.instanceMethod yX7_fact, Cond.selects RX7 yX7_fact yX7_fact, Cond.code yX7_fact cX7_fact 3 (some .int), Cond.methodLink RX7 15 yX7_has, Cond.instanceMethod yX7_has, Cond.selects RX7 yX7_has yX7_has, Cond.code yX7_has cX7_has 2 (some .boolean)]
def wsX1_sizeForChild_r2 : List Cond := [Cond.methodLink RX1 63 yX1_take, Cond.instanceMethod yX1_take, Cond.selects RX1 yX1_take yX1_take, Cond.code yX1_take cX1_take 7 none, Cond.fieldLink RX1 15 "CoatTraces$Coats" "arms" "[I", Cond.fieldLink RX1 18 "CoatTraces$Coats" "through" "[I", Cond.methodLink RX1 67 yX1_armsAt, Cond.instanceMethod yX1_armsAt, Cond.selects RX1 yX1_armsAt yX1_armsAt, Cond.code yX1_armsAt cX1_armsAt 3 (some .int), Cond.methodLink RX1 56 yX1_sizeOf, Cond.instanceMethod yX1_sizeOf, Cond.selects RX1 yX1_sizeOf yX1_sizeOf, Cond.code yX1_sizeOf cX1_sizeOf 2 (some .int), Cond.methodLink RX1 70 yX1_throughAt, Cond.instanceMethod yX1_throughAt, Cond.selects RX1 yX1_throughAt yX1_throughAt, Cond.code yX1_throughAt cX1_throughAt 3 (some .int), Cond.methodLink RX1 73 yX1_takeFrom, Cond.instanceMethod yX1_takeFrom, Cond.selects RX1 yX1_takeFrom yX1_takeFrom, Cond.code yX1_takeFrom cX1_takeFrom 5 none]
def wsX1_sizeForChild : List Cond := .code yX1_sizeForChild cX1_sizeForChild 4 (some .int) :: ((wsX1_sizeForChild_r1 ++ wsX1_sizeForChild_r2) ++ wsX10 ++ wsX70)
def wsX1_isSame : List Cond := .code yX1_isSame cX1_isSame 4 (some .boolean) :: ([.methodLink RX1 56 yX1_sizeOf, .instanceMethod yX1_sizeOf, .selects RX1 yX1_sizeOf yX1_sizeOf, .initialized RX1, .code yX1_sizeOf cX1_sizeOf 2 (some .int), .fieldLink RX1 11 "CoatTraces$Coats" "sizes" "[I", .methodLink RX1 67 yX1_armsAt, .instanceMethod yX1_armsAt, .selects RX1 yX1_armsAt yX1_armsAt, .code yX1_armsAt cX1_armsAt 3 (some .int), .fieldLink RX1 15 "CoatTraces$Coats" "arms" "[I"] ++ wsX10)
def wsX1_sameAs : List Cond := .code yX1_sameAs cX1_sameAs 4 (some .int) :: ([.fieldLink RX1 27 "CoatTraces$Coats" "people" "I", .methodLink RX1 76 yX1_isSame, .instanceMethod yX1_isSame, .selects RX1 yX1_isSame yX1_isSame, .initialized RX1, .code yX1_isSame cX1_isSame 4 (some .boolean), .methodLink RX1 56 yX1_sizeOf, .instanceMethod yX1_sizeOf, .selects RX1 yX1_sizeOf yX1_sizeOf, .code yX1_sizeOf cX1_sizeOf 2 (some .int), .fieldLink RX1 11 "CoatTraces$Coats" "sizes" "[I", .methodLink RX1 67 yX1_armsAt, .instanceMethod yX1_armsAt, .selects RX1 yX1_armsAt yX1_armsAt, .code yX1_armsAt cX1_armsAt 3 (some .int), .fieldLink RX1 15 "CoatTraces$Coats" "arms" "[I"] ++ wsX10)
def wsX1_unlikeCoats : List Cond := .code yX1_unlikeCoats cX1_unlikeCoats 4 (some .int) :: ([.fieldLink RX1 27 "CoatTraces$Coats" "people" "I", .methodLink RX1 52 yX1_isIn, .static yX1_isIn, .initialized RX1, .code yX1_isIn cX1_isIn 2 (some .boolean), .methodLink RX1 79 yX1_sameAs, .instanceMethod yX1_sameAs, .selects RX1 yX1_sameAs yX1_sameAs, .code yX1_sameAs cX1_sameAs 4 (some .int), .methodLink RX1 76 yX1_isSame, .instanceMethod yX1_isSame, .selects RX1 yX1_isSame yX1_isSame, .code yX1_isSame cX1_isSame 4 (some .boolean), .methodLink RX1 56 yX1_sizeOf, .instanceMethod yX1_sizeOf, .selects RX1 yX1_sizeOf yX1_sizeOf, .code yX1_sizeOf cX1_sizeOf 2 (some .int), .fieldLink RX1 11 "CoatTraces$Coats" "sizes" "[I", .methodLink RX1 67 yX1_armsAt, .instanceMethod yX1_armsAt, .selects RX1 yX1_armsAt yX1_armsAt, .code yX1_armsAt cX1_armsAt 3 (some .int), .fieldLink RX1 15 "CoatTraces$Coats" "arms" "[I"] ++ wsX10)
def wsX2_init : List Cond := .code yX2_init cX2_init 1 none :: ([.methodLink RX2 3 objectInit, .instanceMethod objectInit, .code objectInit ⟨#[0xb1]⟩ 1 none, .fieldLink RX2 9 "CoatTraces$Draws" "seedNow" "I"] ++ wsX20)
def wsX2_draw : List Cond := .code yX2_draw cX2_draw 2 (some .int) :: ([.fieldLink RX2 9 "CoatTraces$Draws" "seedNow" "I", .constant RX2 15 (1103515245), .constant RX2 16 (2147483647), .constant RX2 17 (65536)] ++ wsX20)
def wsX7_hasRoom : List Cond := .code yX7_hasRoom cX7_hasRoom 1 (some .boolean) :: ([.methodLink RX7 19 yX7_people, .instanceMethod yX7_people, .selects RX7 yX7_people yX7_people, .initialized RX7, .code yX7_people cX7_people 1 (some .int), .fieldLink RX7 11 "CoatTraces$State" "cells" "[I"] ++ wsX70)
def wsX7_addPerson : List Cond := .code yX7_addPerson cX7_addPerson 6 none :: ([.fieldLink RX7 11 "CoatTraces$State" "cells" "[I", .methodLink RX7 27 yX7_hasRoom, .instanceMethod yX7_hasRoom, .selects RX7 yX7_hasRoom yX7_hasRoom, .initialized RX7, .code yX7_hasRoom cX7_hasRoom 1 (some .boolean), .methodLink RX7 19 yX7_people, .instanceMethod yX7_people, .selects RX7 yX7_people yX7_people, .code yX7_people cX7_people 1 (some .int), .methodLink RX7 23 yX7_fact, .instanceMethod yX7_fact, .selects RX7 yX7_fact yX7_fact, .code yX7_fact cX7_fact 3 (some .int), .methodLink RX7 15 yX7_has, .instanceMethod yX7_has, .selects RX7 yX7_has yX7_has, .code yX7_has cX7_has 2 (some .boolean)] ++ wsX70)
def wsX2_addOne_r1 : List Cond := [Cond.methodLink RX2 18 yX2_draw, Cond.instanceMethod yX2_draw, Cond.selects RX2 yX2_draw yX2_draw, Cond.initialized RX2, Cond.code yX2_draw cX2_draw 2 (some .int), Cond.fieldLink RX2 9 "CoatTraces$Draws" "seedNow" "I", Cond.constant RX2 15 (1103515245), Cond.constant RX2 16 (2147483647), Cond.constant RX2 17 (65536), Cond.methodLink RX2 22 yX7_people, Cond.instanceMethod yX7_people, Cond.selects RX7 yX7_people yX7_people, Cond.initialized RX7, Cond.code yX7_people cX7_people 1 (some .int), Cond.fieldLink RX7 11 "CoatTraces$State" "cells" "[I", Cond.methodLink RX2 28 yX7_isMan, Cond.instanceMethod yX7_isMan, Cond.selects RX7 yX7_isMan yX7_isMan, Cond.code yX7_isMan cX7_isMan 2 (some .boolean), Cond.methodLink RX7 23 yX7_fact, Cond.instanceMethod yX7_fact, Cond.selects RX7 yX7_fact yX7_fact, Cond.code yX7_fact cX7_fact 3 (some .int), Cond.methodLink RX7 15 yX7_has]
def wsX2_addOne_r2 : List Cond := [Cond.instanceMethod yX7_has, Cond.selects RX7 yX7_has yX7_has, Cond.code yX7_has cX7_has 2 (some .boolean), Cond.methodLink RX2 32 yX7_isWoman, Cond.instanceMethod yX7_isWoman, Cond.selects RX7 yX7_isWoman yX7_isWoman, Cond.code yX7_isWoman cX7_isWoman 2 (some .boolean), Cond.methodLink RX2 35 yX7_addPerson, Cond.instanceMethod yX7_addPerson, Cond.selects RX7 yX7_addPerson yX7_addPerson, Cond.code yX7_addPerson cX7_addPerson 6 none, Cond.methodLink RX7 27 yX7_hasRoom, Cond.instanceMethod yX7_hasRoom, Cond.selects RX7 yX7_hasRoom yX7_hasRoom, Cond.code yX7_hasRoom cX7_hasRoom 1 (some .boolean), Cond.methodLink RX7 19 yX7_people]
def wsX2_addOne : List Cond := .code yX2_addOne cX2_addOne 6 none :: ((wsX2_addOne_r1 ++ wsX2_addOne_r2) ++ wsX20 ++ wsX70)
def wsX6_init : List Cond := .code yX6_init cX6_init 2 none :: ([.methodLink RX6 1 objectInit, .instanceMethod objectInit, .code objectInit ⟨#[0xb1]⟩ 1 none, .methodLink RX6 7 Lib.Math.max.name, .static Lib.Math.max.name, .initialized "java/lang/Math", .code Lib.Math.max.name Lib.Math.max.code 2 (some .int), .fieldLink RX6 13 "CoatTraces$Shelf" "places" "I", .arrayClass .int, .fieldLink RX6 21 "CoatTraces$Shelf" "rows" "[I"] ++ wsX60)
def wsX3_init : List Cond := .code yX3_init cX3_init 1 none :: ([.methodLink RX3 3 objectInit, .instanceMethod objectInit, .code objectInit ⟨#[0xb1]⟩ 1 none, .classLink RX3 9 RX6, .instantiable RX6 2, .initialized RX6, .fieldLink RX3 14 "CoatTraces$Images" "shelf" "LCoatTraces$Shelf;", .arrayClass .int, .fieldLink RX3 20 "CoatTraces$Images" "seeds" "[I", .arrayClass .boolean, .fieldLink RX3 24 "CoatTraces$Images" "stored" "[Z", .methodLink RX3 11 yX6_init, .instanceMethod yX6_init, .code yX6_init cX6_init 2 none, .methodLink RX6 1 objectInit, .methodLink RX6 7 Lib.Math.max.name, .static Lib.Math.max.name, .initialized "java/lang/Math", .code Lib.Math.max.name Lib.Math.max.code 2 (some .int), .fieldLink RX6 13 "CoatTraces$Shelf" "places" "I", .fieldLink RX6 21 "CoatTraces$Shelf" "rows" "[I"] ++ wsX60 ++ wsX30)
def wsX3_isStored : List Cond := .code yX3_isStored cX3_isStored 2 (some .boolean) :: ([.fieldLink RX3 24 "CoatTraces$Images" "stored" "[Z"] ++ wsX30)
def wsX6_lay : List Cond := .code yX6_lay cX6_lay 3 none :: ([.fieldLink RX6 13 "CoatTraces$Shelf" "places" "I", .fieldLink RX6 25 "CoatTraces$State" "cells" "[I", .fieldLink RX6 21 "CoatTraces$Shelf" "rows" "[I", .methodLink RX6 28 arraycopyName, .native arraycopyName, .static arraycopyName, .initialized "java/lang/System"] ++ wsX60 ++ wsX70)
def wsX3_store : List Cond := .code yX3_store cX3_store 4 none :: ([.fieldLink RX3 14 "CoatTraces$Images" "shelf" "LCoatTraces$Shelf;", .fieldLink RX3 20 "CoatTraces$Images" "seeds" "[I", .fieldLink RX3 32 "CoatTraces$Draws" "seedNow" "I", .fieldLink RX3 24 "CoatTraces$Images" "stored" "[Z", .methodLink RX3 28 yX6_lay, .instanceMethod yX6_lay, .selects RX6 yX6_lay yX6_lay, .initialized RX6, .code yX6_lay cX6_lay 3 none, .fieldLink RX6 13 "CoatTraces$Shelf" "places" "I", .fieldLink RX6 25 "CoatTraces$State" "cells" "[I", .fieldLink RX6 21 "CoatTraces$Shelf" "rows" "[I", .methodLink RX6 28 arraycopyName, .native arraycopyName, .static arraycopyName, .initialized "java/lang/System"] ++ wsX30 ++ wsX20 ++ wsX60 ++ wsX70)
def wsX6_fetch : List Cond := .code yX6_fetch cX6_fetch 3 none :: ([.fieldLink RX6 13 "CoatTraces$Shelf" "places" "I", .fieldLink RX6 21 "CoatTraces$Shelf" "rows" "[I", .fieldLink RX6 25 "CoatTraces$State" "cells" "[I", .methodLink RX6 28 arraycopyName, .native arraycopyName, .static arraycopyName, .initialized "java/lang/System"] ++ wsX60 ++ wsX70)
def wsX3_restore : List Cond := .code yX3_restore cX3_restore 4 none :: ([.fieldLink RX3 14 "CoatTraces$Images" "shelf" "LCoatTraces$Shelf;", .fieldLink RX3 20 "CoatTraces$Images" "seeds" "[I", .fieldLink RX3 32 "CoatTraces$Draws" "seedNow" "I", .methodLink RX3 38 yX3_isStored, .instanceMethod yX3_isStored, .selects RX3 yX3_isStored yX3_isStored, .initialized RX3, .code yX3_isStored cX3_isStored 2 (some .boolean), .fieldLink RX3 24 "CoatTraces$Images" "stored" "[Z", .methodLink RX3 42 yX6_fetch, .instanceMethod yX6_fetch, .selects RX6 yX6_fetch yX6_fetch, .initialized RX6, .code yX6_fetch cX6_fetch 3 none, .fieldLink RX6 13 "CoatTraces$Shelf" "places" "I", .fieldLink RX6 21 "CoatTraces$Shelf" "rows" "[I", .fieldLink RX6 25 "CoatTraces$State" "cells" "[I", .methodLink RX6 28 arraycopyName, .native arraycopyName, .static arraycopyName, .initialized "java/lang/System"] ++ wsX30 ++ wsX20 ++ wsX60 ++ wsX70)
def wsX4_init : List Cond := .code yX4_init cX4_init 1 none :: ([.methodLink RX4 3 objectInit, .instanceMethod objectInit, .code objectInit ⟨#[0xb1]⟩ 1 none, .arrayClass .int, .fieldLink RX4 9 "CoatTraces$Kinship" "stepsOfOne" "[I", .fieldLink RX4 15 "CoatTraces$Kinship" "stepsOfOther" "[I", .fieldLink RX4 18 "CoatTraces$Kinship" "steps" "I", .fieldLink RX4 22 "CoatTraces$Kinship" "nearest" "I"] ++ wsX40)
def wsX4_handOn : List Cond := .code yX4_handOn cX4_handOn 3 none :: ([])
def wsX4_countSteps : List Cond := .code yX4_countSteps cX4_countSteps 4 none :: ([.methodLink RX4 35 Lib.Math.min.name, .static Lib.Math.min.name, .initialized "java/lang/Math", .code Lib.Math.min.name Lib.Math.min.code 2 (some .int), .methodLink RX4 41 yX7_fact, .instanceMethod yX7_fact, .selects RX7 yX7_fact yX7_fact, .initialized RX7, .code yX7_fact cX7_fact 3 (some .int), .fieldLink RX7 11 "CoatTraces$State" "cells" "[I", .methodLink RX7 15 yX7_has, .instanceMethod yX7_has, .selects RX7 yX7_has yX7_has, .code yX7_has cX7_has 2 (some .boolean), .methodLink RX4 44 yX4_handOn, .static yX4_handOn, .initialized RX4, .code yX4_handOn cX4_handOn 3 none] ++ wsX70)
def wsX4_seek_r1 : List Cond := [Cond.fieldLink RX4 9 "CoatTraces$Kinship" "stepsOfOne" "[I", Cond.fieldLink RX4 15 "CoatTraces$Kinship" "stepsOfOther" "[I", Cond.fieldLink RX4 18 "CoatTraces$Kinship" "steps" "I", Cond.fieldLink RX4 22 "CoatTraces$Kinship" "nearest" "I", Cond.methodLink RX4 25 yX4_countSteps, Cond.static yX4_countSteps, Cond.initialized RX4, Cond.code yX4_countSteps cX4_countSteps 4 none, Cond.methodLink RX4 35 Lib.Math.min.name, Cond.static Lib.Math.min.name, Cond.initialized "java/lang/Math", Cond.code Lib.Math.min.name Lib.Math.min.code 2 (some .int), Cond.methodLink RX4 41 yX7_fact, Cond.instanceMethod yX7_fact, Cond.selects RX7 yX7_fact yX7_fact, Cond.initialized RX7, Cond.code yX7_fact cX7_fact 3 (some .int), Cond.fieldLink RX7 11 "CoatTraces$State" "cells" "[I", Cond.methodLink RX7 15 yX7_has, Cond.instanceMethod yX7_has, Cond.selects RX7 yX7_has yX7_has, Cond.code yX7_has cX7_has 2 (some .boolean), Cond.methodLink RX4 44 yX4_handOn, Cond.static yX4_handOn]
def wsX4_seek_r2 : List Cond := [Cond.code yX4_handOn cX4_handOn 3 none, Cond.methodLink RX4 29 yX7_people, Cond.instanceMethod yX7_people, Cond.selects RX7 yX7_people yX7_people, Cond.code yX7_people cX7_people 1 (some .int)]
def wsX4_seek : List Cond := .code yX4_seek cX4_seek 6 none :: ((wsX4_seek_r1 ++ wsX4_seek_r2) ++ wsX40 ++ wsX70)
def wsX5_init : List Cond := .code yX5_init cX5_init 1 none :: ([.methodLink RX5 3 objectInit, .instanceMethod objectInit, .code objectInit ⟨#[0xb1]⟩ 1 none, .classLink RX5 9 RX6, .instantiable RX6 2, .initialized RX6, .fieldLink RX5 14 "CoatTraces$Past" "shelf" "LCoatTraces$Shelf;", .methodLink RX5 11 yX6_init, .instanceMethod yX6_init, .code yX6_init cX6_init 2 none, .methodLink RX6 1 objectInit, .methodLink RX6 7 Lib.Math.max.name, .static Lib.Math.max.name, .initialized "java/lang/Math", .code Lib.Math.max.name Lib.Math.max.code 2 (some .int), .fieldLink RX6 13 "CoatTraces$Shelf" "places" "I", .arrayClass .int, .fieldLink RX6 21 "CoatTraces$Shelf" "rows" "[I"] ++ wsX60 ++ wsX50)
def wsX5_remember : List Cond := .code yX5_remember cX5_remember 2 none :: ([.fieldLink RX5 14 "CoatTraces$Past" "shelf" "LCoatTraces$Shelf;", .fieldLink RX5 20 "CoatTraces$Past" "next" "I", .fieldLink RX5 28 "CoatTraces$Past" "deeds" "I", .methodLink RX5 31 Lib.Math.min.name, .static Lib.Math.min.name, .initialized "java/lang/Math", .code Lib.Math.min.name Lib.Math.min.code 2 (some .int), .methodLink RX5 24 yX6_lay, .instanceMethod yX6_lay, .selects RX6 yX6_lay yX6_lay, .initialized RX6, .code yX6_lay cX6_lay 3 none, .fieldLink RX6 13 "CoatTraces$Shelf" "places" "I", .fieldLink RX6 25 "CoatTraces$State" "cells" "[I", .fieldLink RX6 21 "CoatTraces$Shelf" "rows" "[I", .methodLink RX6 28 arraycopyName, .native arraycopyName, .static arraycopyName, .initialized "java/lang/System"] ++ wsX50 ++ wsX60 ++ wsX70)
def wsX5_stepBack : List Cond := .code yX5_stepBack cX5_stepBack 3 none :: ([.fieldLink RX5 28 "CoatTraces$Past" "deeds" "I", .fieldLink RX5 20 "CoatTraces$Past" "next" "I", .fieldLink RX5 14 "CoatTraces$Past" "shelf" "LCoatTraces$Shelf;", .methodLink RX5 37 yX6_fetch, .instanceMethod yX6_fetch, .selects RX6 yX6_fetch yX6_fetch, .initialized RX6, .code yX6_fetch cX6_fetch 3 none, .fieldLink RX6 13 "CoatTraces$Shelf" "places" "I", .fieldLink RX6 21 "CoatTraces$Shelf" "rows" "[I", .fieldLink RX6 25 "CoatTraces$State" "cells" "[I", .methodLink RX6 28 arraycopyName, .native arraycopyName, .static arraycopyName, .initialized "java/lang/System"] ++ wsX50 ++ wsX60 ++ wsX70)
def wsX7_init : List Cond := .code yX7_init cX7_init 1 none :: ([.methodLink RX7 5 objectInit, .instanceMethod objectInit, .code objectInit ⟨#[0xb1]⟩ 1 none, .arrayClass .int, .fieldLink RX7 11 "CoatTraces$State" "cells" "[I"] ++ wsX70)
def wsX7_hasOrNone : List Cond := .code yX7_hasOrNone cX7_hasOrNone 2 (some .boolean) :: ([.methodLink RX7 15 yX7_has, .instanceMethod yX7_has, .selects RX7 yX7_has yX7_has, .initialized RX7, .code yX7_has cX7_has 2 (some .boolean), .fieldLink RX7 11 "CoatTraces$State" "cells" "[I"] ++ wsX70)
def wsX7_childrenOf : List Cond := .code yX7_childrenOf cX7_childrenOf 4 (some .int) :: ([.methodLink RX7 19 yX7_people, .instanceMethod yX7_people, .selects RX7 yX7_people yX7_people, .initialized RX7, .code yX7_people cX7_people 1 (some .int), .fieldLink RX7 11 "CoatTraces$State" "cells" "[I", .methodLink RX7 23 yX7_fact, .instanceMethod yX7_fact, .selects RX7 yX7_fact yX7_fact, .code yX7_fact cX7_fact 3 (some .int), .methodLink RX7 15 yX7_has, .instanceMethod yX7_has, .selects RX7 yX7_has yX7_has, .code yX7_has cX7_has 2 (some .boolean)] ++ wsX70)
def wsX7_setBounds : List Cond := .code yX7_setBounds cX7_setBounds 6 none :: ([.fieldLink RX7 11 "CoatTraces$State" "cells" "[I", .methodLink RX7 15 yX7_has, .instanceMethod yX7_has, .selects RX7 yX7_has yX7_has, .initialized RX7, .code yX7_has cX7_has 2 (some .boolean)] ++ wsX70)
def wsX7_setRule : List Cond := .code yX7_setRule cX7_setRule 2 none :: ([.fieldLink RX7 11 "CoatTraces$State" "cells" "[I"] ++ wsX70)
def wsX7_signs : List Cond := .code yX7_signs cX7_signs 1 (some .int) :: ([.fieldLink RX7 11 "CoatTraces$State" "cells" "[I"] ++ wsX70)
def wsX7_signNumber : List Cond := .code yX7_signNumber cX7_signNumber 2 (some .int) :: ([.fieldLink RX7 11 "CoatTraces$State" "cells" "[I", .methodLink RX7 31 yX7_signs, .instanceMethod yX7_signs, .selects RX7 yX7_signs yX7_signs, .initialized RX7, .code yX7_signs cX7_signs 1 (some .int)] ++ wsX70)
def wsX7_addSign : List Cond := .code yX7_addSign cX7_addSign 2 none :: ([.fieldLink RX7 11 "CoatTraces$State" "cells" "[I", .methodLink RX7 31 yX7_signs, .instanceMethod yX7_signs, .selects RX7 yX7_signs yX7_signs, .initialized RX7, .code yX7_signs cX7_signs 1 (some .int)] ++ wsX70)
def wsX7_clearSigns : List Cond := .code yX7_clearSigns cX7_clearSigns 1 none :: ([.fieldLink RX7 11 "CoatTraces$State" "cells" "[I"] ++ wsX70)
def wsX8_init : List Cond := .code yX8_init cX8_init 1 none :: ([.methodLink RX8 3 objectInit, .instanceMethod objectInit, .code objectInit ⟨#[0xb1]⟩ 1 none, .arrayClass .int, .fieldLink RX8 9 "CoatTraces$Tracer" "found" "[I"] ++ wsX80)
def wsX8_fits : List Cond := .code yX8_fits cX8_fits 2 (some .boolean) :: ([])
def wsX8_fitsEach_r1 : List Cond := [Cond.methodLink RX8 21 yX7_signs, Cond.instanceMethod yX7_signs, Cond.selects RX7 yX7_signs yX7_signs, Cond.initialized RX7, Cond.code yX7_signs cX7_signs 1 (some .int), Cond.fieldLink RX7 11 "CoatTraces$State" "cells" "[I", Cond.methodLink RX8 34 yX7_signNumber, Cond.instanceMethod yX7_signNumber, Cond.selects RX7 yX7_signNumber yX7_signNumber, Cond.code yX7_signNumber cX7_signNumber 2 (some .int), Cond.methodLink RX7 31 yX7_signs, Cond.methodLink RX8 37 yX1_armsAt, Cond.instanceMethod yX1_armsAt, Cond.selects RX1 yX1_armsAt yX1_armsAt, Cond.initialized RX1, Cond.code yX1_armsAt cX1_armsAt 3 (some .int), Cond.fieldLink RX1 15 "CoatTraces$Coats" "arms" "[I", Cond.methodLink RX1 56 yX1_sizeOf, Cond.instanceMethod yX1_sizeOf, Cond.selects RX1 yX1_sizeOf yX1_sizeOf, Cond.code yX1_sizeOf cX1_sizeOf 2 (some .int), Cond.fieldLink RX1 11 "CoatTraces$Coats" "sizes" "[I", Cond.methodLink RX8 41 yX8_fits, Cond.static yX8_fits]
def wsX8_fitsEach_r2 : List Cond := [Cond.initialized RX8, Cond.code yX8_fits cX8_fits 2 (some .boolean)]
def wsX8_fitsEach : List Cond := .code yX8_fitsEach cX8_fitsEach 4 (some .boolean) :: ((wsX8_fitsEach_r1 ++ wsX8_fitsEach_r2) ++ wsX70 ++ wsX10)
def wsX8_meantByAll_r1 : List Cond := [Cond.methodLink RX8 15 yX7_people, Cond.instanceMethod yX7_people, Cond.selects RX7 yX7_people yX7_people, Cond.initialized RX7, Cond.code yX7_people cX7_people 1 (some .int), Cond.fieldLink RX7 11 "CoatTraces$State" "cells" "[I", Cond.methodLink RX8 21 yX7_signs, Cond.instanceMethod yX7_signs, Cond.selects RX7 yX7_signs yX7_signs, Cond.code yX7_signs cX7_signs 1 (some .int), Cond.methodLink RX8 24 yX1_sizeOf, Cond.instanceMethod yX1_sizeOf, Cond.selects RX1 yX1_sizeOf yX1_sizeOf, Cond.initialized RX1, Cond.code yX1_sizeOf cX1_sizeOf 2 (some .int), Cond.fieldLink RX1 11 "CoatTraces$Coats" "sizes" "[I", Cond.methodLink RX8 30 yX8_fitsEach, Cond.static yX8_fitsEach, Cond.initialized RX8, Cond.code yX8_fitsEach cX8_fitsEach 4 (some .boolean), Cond.methodLink RX8 34 yX7_signNumber, Cond.instanceMethod yX7_signNumber, Cond.selects RX7 yX7_signNumber yX7_signNumber, Cond.code yX7_signNumber cX7_signNumber 2 (some .int)]
def wsX8_meantByAll_r2 : List Cond := [Cond.methodLink RX7 31 yX7_signs, Cond.methodLink RX8 37 yX1_armsAt, Cond.instanceMethod yX1_armsAt, Cond.selects RX1 yX1_armsAt yX1_armsAt, Cond.code yX1_armsAt cX1_armsAt 3 (some .int), Cond.fieldLink RX1 15 "CoatTraces$Coats" "arms" "[I", Cond.methodLink RX1 56 yX1_sizeOf, Cond.methodLink RX8 41 yX8_fits, Cond.static yX8_fits, Cond.code yX8_fits cX8_fits 2 (some .boolean)]
def wsX8_meantByAll : List Cond := .code yX8_meantByAll cX8_meantByAll 5 (some .int) :: ((wsX8_meantByAll_r1 ++ wsX8_meantByAll_r2) ++ wsX70 ++ wsX10)
def wsX8_holdsRest_r1 : List Cond := [Cond.methodLink RX8 24 yX1_sizeOf, Cond.instanceMethod yX1_sizeOf, Cond.selects RX1 yX1_sizeOf yX1_sizeOf, Cond.initialized RX1, Cond.code yX1_sizeOf cX1_sizeOf 2 (some .int), Cond.fieldLink RX1 11 "CoatTraces$Coats" "sizes" "[I", Cond.methodLink RX8 21 yX7_signs, Cond.instanceMethod yX7_signs, Cond.selects RX7 yX7_signs yX7_signs, Cond.initialized RX7, Cond.code yX7_signs cX7_signs 1 (some .int), Cond.fieldLink RX7 11 "CoatTraces$State" "cells" "[I", Cond.methodLink RX8 34 yX7_signNumber, Cond.instanceMethod yX7_signNumber, Cond.selects RX7 yX7_signNumber yX7_signNumber, Cond.code yX7_signNumber cX7_signNumber 2 (some .int), Cond.methodLink RX7 31 yX7_signs, Cond.methodLink RX8 37 yX1_armsAt, Cond.instanceMethod yX1_armsAt, Cond.selects RX1 yX1_armsAt yX1_armsAt, Cond.code yX1_armsAt cX1_armsAt 3 (some .int), Cond.fieldLink RX1 15 "CoatTraces$Coats" "arms" "[I", Cond.methodLink RX1 56 yX1_sizeOf, Cond.methodLink RX8 41 yX8_fits]
def wsX8_holdsRest_r2 : List Cond := [Cond.static yX8_fits, Cond.initialized RX8, Cond.code yX8_fits cX8_fits 2 (some .boolean)]
def wsX8_holdsRest : List Cond := .code yX8_holdsRest cX8_holdsRest 5 (some .boolean) :: ((wsX8_holdsRest_r1 ++ wsX8_holdsRest_r2) ++ wsX10 ++ wsX70)
def wsX8_meantBySome_r1 : List Cond := [Cond.methodLink RX8 15 yX7_people, Cond.instanceMethod yX7_people, Cond.selects RX7 yX7_people yX7_people, Cond.initialized RX7, Cond.code yX7_people cX7_people 1 (some .int), Cond.fieldLink RX7 11 "CoatTraces$State" "cells" "[I", Cond.methodLink RX8 21 yX7_signs, Cond.instanceMethod yX7_signs, Cond.selects RX7 yX7_signs yX7_signs, Cond.code yX7_signs cX7_signs 1 (some .int), Cond.methodLink RX8 34 yX7_signNumber, Cond.instanceMethod yX7_signNumber, Cond.selects RX7 yX7_signNumber yX7_signNumber, Cond.code yX7_signNumber cX7_signNumber 2 (some .int), Cond.methodLink RX7 31 yX7_signs, Cond.methodLink RX8 37 yX1_armsAt, Cond.instanceMethod yX1_armsAt, Cond.selects RX1 yX1_armsAt yX1_armsAt, Cond.initialized RX1, Cond.code yX1_armsAt cX1_armsAt 3 (some .int), Cond.fieldLink RX1 15 "CoatTraces$Coats" "arms" "[I", Cond.methodLink RX1 56 yX1_sizeOf, Cond.instanceMethod yX1_sizeOf, Cond.selects RX1 yX1_sizeOf yX1_sizeOf]
def wsX8_meantBySome_r2 : List Cond := [Cond.code yX1_sizeOf cX1_sizeOf 2 (some .int), Cond.fieldLink RX1 11 "CoatTraces$Coats" "sizes" "[I", Cond.methodLink RX8 41 yX8_fits, Cond.static yX8_fits, Cond.initialized RX8, Cond.code yX8_fits cX8_fits 2 (some .boolean), Cond.methodLink RX8 45 yX8_holdsRest, Cond.static yX8_holdsRest, Cond.code yX8_holdsRest cX8_holdsRest 5 (some .boolean), Cond.methodLink RX8 24 yX1_sizeOf]
def wsX8_meantBySome : List Cond := .code yX8_meantBySome cX8_meantBySome 5 (some .int) :: ((wsX8_meantBySome_r1 ++ wsX8_meantBySome_r2) ++ wsX70 ++ wsX10)
def wsX8_countOneMore : List Cond := .code yX8_countOneMore cX8_countOneMore 8 none :: ([.fieldLink RX8 9 "CoatTraces$Tracer" "found" "[I", .methodLink RX8 57 Lib.Math.max.name, .static Lib.Math.max.name, .initialized "java/lang/Math", .code Lib.Math.max.name Lib.Math.max.code 2 (some .int), .methodLink RX8 37 yX1_armsAt, .instanceMethod yX1_armsAt, .selects RX1 yX1_armsAt yX1_armsAt, .initialized RX1, .code yX1_armsAt cX1_armsAt 3 (some .int), .fieldLink RX1 15 "CoatTraces$Coats" "arms" "[I", .methodLink RX1 56 yX1_sizeOf, .instanceMethod yX1_sizeOf, .selects RX1 yX1_sizeOf yX1_sizeOf, .code yX1_sizeOf cX1_sizeOf 2 (some .int), .fieldLink RX1 11 "CoatTraces$Coats" "sizes" "[I"] ++ wsX80 ++ wsX10)
def wsX8_like_r1 : List Cond := [Cond.methodLink RX8 48 Lib.Math.min.name, Cond.static Lib.Math.min.name, Cond.initialized "java/lang/Math", Cond.code Lib.Math.min.name Lib.Math.min.code 2 (some .int), Cond.fieldLink RX8 9 "CoatTraces$Tracer" "found" "[I", Cond.methodLink RX8 24 yX1_sizeOf, Cond.instanceMethod yX1_sizeOf, Cond.selects RX1 yX1_sizeOf yX1_sizeOf, Cond.initialized RX1, Cond.code yX1_sizeOf cX1_sizeOf 2 (some .int), Cond.fieldLink RX1 11 "CoatTraces$Coats" "sizes" "[I", Cond.methodLink RX8 21 yX7_signs, Cond.instanceMethod yX7_signs, Cond.selects RX7 yX7_signs yX7_signs, Cond.initialized RX7, Cond.code yX7_signs cX7_signs 1 (some .int), Cond.fieldLink RX7 11 "CoatTraces$State" "cells" "[I", Cond.methodLink RX8 34 yX7_signNumber, Cond.instanceMethod yX7_signNumber, Cond.selects RX7 yX7_signNumber yX7_signNumber, Cond.code yX7_signNumber cX7_signNumber 2 (some .int), Cond.methodLink RX7 31 yX7_signs, Cond.methodLink RX8 53 yX8_countOneMore, Cond.instanceMethod yX8_countOneMore]
def wsX8_like_r2 : List Cond := [Cond.selects RX8 yX8_countOneMore yX8_countOneMore, Cond.initialized RX8, Cond.code yX8_countOneMore cX8_countOneMore 8 none, Cond.methodLink RX8 57 Lib.Math.max.name, Cond.static Lib.Math.max.name, Cond.code Lib.Math.max.name Lib.Math.max.code 2 (some .int), Cond.methodLink RX8 37 yX1_armsAt, Cond.instanceMethod yX1_armsAt, Cond.selects RX1 yX1_armsAt yX1_armsAt, Cond.code yX1_armsAt cX1_armsAt 3 (some .int), Cond.fieldLink RX1 15 "CoatTraces$Coats" "arms" "[I", Cond.methodLink RX1 56 yX1_sizeOf]
def wsX8_like : List Cond := .code yX8_like cX8_like 6 (some .int) :: ((wsX8_like_r1 ++ wsX8_like_r2) ++ wsX80 ++ wsX10 ++ wsX70)
def wsX8_likely_r1 : List Cond := [Cond.methodLink RX8 15 yX7_people, Cond.instanceMethod yX7_people, Cond.selects RX7 yX7_people yX7_people, Cond.initialized RX7, Cond.code yX7_people cX7_people 1 (some .int), Cond.fieldLink RX7 11 "CoatTraces$State" "cells" "[I", Cond.methodLink RX8 60 yX8_like, Cond.instanceMethod yX8_like, Cond.selects RX8 yX8_like yX8_like, Cond.initialized RX8, Cond.code yX8_like cX8_like 6 (some .int), Cond.methodLink RX8 48 Lib.Math.min.name, Cond.static Lib.Math.min.name, Cond.initialized "java/lang/Math", Cond.code Lib.Math.min.name Lib.Math.min.code 2 (some .int), Cond.fieldLink RX8 9 "CoatTraces$Tracer" "found" "[I", Cond.methodLink RX8 24 yX1_sizeOf, Cond.instanceMethod yX1_sizeOf, Cond.selects RX1 yX1_sizeOf yX1_sizeOf, Cond.initialized RX1, Cond.code yX1_sizeOf cX1_sizeOf 2 (some .int), Cond.fieldLink RX1 11 "CoatTraces$Coats" "sizes" "[I", Cond.methodLink RX8 21 yX7_signs, Cond.instanceMethod yX7_signs]
def wsX8_likely_r2 : List Cond := [Cond.selects RX7 yX7_signs yX7_signs, Cond.code yX7_signs cX7_signs 1 (some .int), Cond.methodLink RX8 34 yX7_signNumber, Cond.instanceMethod yX7_signNumber, Cond.selects RX7 yX7_signNumber yX7_signNumber, Cond.code yX7_signNumber cX7_signNumber 2 (some .int), Cond.methodLink RX7 31 yX7_signs, Cond.methodLink RX8 53 yX8_countOneMore, Cond.instanceMethod yX8_countOneMore, Cond.selects RX8 yX8_countOneMore yX8_countOneMore, Cond.code yX8_countOneMore cX8_countOneMore 8 none, Cond.methodLink RX8 57 Lib.Math.max.name, Cond.static Lib.Math.max.name, Cond.code Lib.Math.max.name Lib.Math.max.code 2 (some .int), Cond.methodLink RX8 37 yX1_armsAt, Cond.instanceMethod yX1_armsAt, Cond.selects RX1 yX1_armsAt yX1_armsAt, Cond.code yX1_armsAt cX1_armsAt 3 (some .int), Cond.fieldLink RX1 15 "CoatTraces$Coats" "arms" "[I", Cond.methodLink RX1 56 yX1_sizeOf]
def wsX8_likely : List Cond := .code yX8_likely cX8_likely 8 (some .int) :: ((wsX8_likely_r1 ++ wsX8_likely_r2) ++ wsX70 ++ wsX80 ++ wsX10)
def wsX9_init : List Cond := .code yX9_init cX9_init 1 none :: ([.methodLink RX9 3 objectInit, .instanceMethod objectInit, .code objectInit ⟨#[0xb1]⟩ 1 none, .arrayClass .int, .fieldLink RX9 9 "CoatTraces$Years" "least" "[I", .fieldLink RX9 15 "CoatTraces$Years" "greatest" "[I", .fieldLink RX9 18 "CoatTraces$Years" "earlier" "[I", .fieldLink RX9 21 "CoatTraces$Years" "later" "[I", .fieldLink RX9 24 "CoatTraces$Years" "gap" "[I"] ++ wsX90)
def wsX9_birth : List Cond := .code yX9_birth cX9_birth 1 (some .int) :: ([])
def wsX9_death : List Cond := .code yX9_death cX9_death 1 (some .int) :: ([])
def wsX9_layBounds : List Cond := .code yX9_layBounds cX9_layBounds 3 none :: ([.fieldLink RX9 9 "CoatTraces$Years" "least" "[I", .fieldLink RX9 15 "CoatTraces$Years" "greatest" "[I", .methodLink RX9 27 yX7_people, .instanceMethod yX7_people, .selects RX7 yX7_people yX7_people, .initialized RX7, .code yX7_people cX7_people 1 (some .int), .fieldLink RX7 11 "CoatTraces$State" "cells" "[I", .methodLink RX9 58 yX9_birth, .static yX9_birth, .initialized RX9, .code yX9_birth cX9_birth 1 (some .int), .methodLink RX9 62 yX7_fact, .instanceMethod yX7_fact, .selects RX7 yX7_fact yX7_fact, .code yX7_fact cX7_fact 3 (some .int), .methodLink RX7 15 yX7_has, .instanceMethod yX7_has, .selects RX7 yX7_has yX7_has, .code yX7_has cX7_has 2 (some .boolean), .methodLink RX9 66 yX9_death, .static yX9_death, .code yX9_death cX9_death 1 (some .int)] ++ wsX90 ++ wsX70)
def wsX9_addGap : List Cond := .code yX9_addGap cX9_addGap 4 none :: ([.fieldLink RX9 69 "CoatTraces$Years" "gaps" "I", .fieldLink RX9 24 "CoatTraces$Years" "gap" "[I", .fieldLink RX9 18 "CoatTraces$Years" "earlier" "[I", .fieldLink RX9 21 "CoatTraces$Years" "later" "[I"] ++ wsX90)
def wsX9_layGaps_r1 : List Cond := [Cond.fieldLink RX9 69 "CoatTraces$Years" "gaps" "I", Cond.methodLink RX9 27 yX7_people, Cond.instanceMethod yX7_people, Cond.selects RX7 yX7_people yX7_people, Cond.initialized RX7, Cond.code yX7_people cX7_people 1 (some .int), Cond.fieldLink RX7 11 "CoatTraces$State" "cells" "[I", Cond.methodLink RX9 62 yX7_fact, Cond.instanceMethod yX7_fact, Cond.selects RX7 yX7_fact yX7_fact, Cond.code yX7_fact cX7_fact 3 (some .int), Cond.methodLink RX7 15 yX7_has, Cond.instanceMethod yX7_has, Cond.selects RX7 yX7_has yX7_has, Cond.code yX7_has cX7_has 2 (some .boolean), Cond.methodLink RX9 58 yX9_birth, Cond.static yX9_birth, Cond.initialized RX9, Cond.code yX9_birth cX9_birth 1 (some .int), Cond.methodLink RX9 66 yX9_death, Cond.static yX9_death, Cond.code yX9_death cX9_death 1 (some .int), Cond.methodLink RX9 72 yX9_addGap, Cond.instanceMethod yX9_addGap]
def wsX9_layGaps_r2 : List Cond := [Cond.selects RX9 yX9_addGap yX9_addGap, Cond.code yX9_addGap cX9_addGap 4 none, Cond.fieldLink RX9 24 "CoatTraces$Years" "gap" "[I", Cond.fieldLink RX9 18 "CoatTraces$Years" "earlier" "[I", Cond.fieldLink RX9 21 "CoatTraces$Years" "later" "[I"]
def wsX9_layGaps : List Cond := .code yX9_layGaps cX9_layGaps 5 none :: ((wsX9_layGaps_r1 ++ wsX9_layGaps_r2) ++ wsX90 ++ wsX70)
def wsX9_raiseLeast : List Cond := .code yX9_raiseLeast cX9_raiseLeast 5 (some .boolean) :: ([.fieldLink RX9 33 "CoatTraces$Years" "moments" "I", .fieldLink RX9 69 "CoatTraces$Years" "gaps" "I", .fieldLink RX9 9 "CoatTraces$Years" "least" "[I", .fieldLink RX9 18 "CoatTraces$Years" "earlier" "[I", .fieldLink RX9 24 "CoatTraces$Years" "gap" "[I", .fieldLink RX9 21 "CoatTraces$Years" "later" "[I"] ++ wsX90)
def wsX9_isCrossed : List Cond := .code yX9_isCrossed cX9_isCrossed 2 (some .boolean) :: ([.fieldLink RX9 33 "CoatTraces$Years" "moments" "I", .fieldLink RX9 9 "CoatTraces$Years" "least" "[I", .fieldLink RX9 15 "CoatTraces$Years" "greatest" "[I"] ++ wsX90)
def wsX9_lowerGreatest : List Cond := .code yX9_lowerGreatest cX9_lowerGreatest 5 none :: ([.fieldLink RX9 33 "CoatTraces$Years" "moments" "I", .fieldLink RX9 69 "CoatTraces$Years" "gaps" "I", .fieldLink RX9 15 "CoatTraces$Years" "greatest" "[I", .fieldLink RX9 21 "CoatTraces$Years" "later" "[I", .fieldLink RX9 24 "CoatTraces$Years" "gap" "[I", .fieldLink RX9 18 "CoatTraces$Years" "earlier" "[I"] ++ wsX90)
def wsX9_reckon_r1 : List Cond := [Cond.fieldLink RX9 33 "CoatTraces$Years" "moments" "I", Cond.fieldLink RX9 51 "CoatTraces$Years" "spoiled" "Z", Cond.methodLink RX9 27 yX7_people, Cond.instanceMethod yX7_people, Cond.selects RX7 yX7_people yX7_people, Cond.initialized RX7, Cond.code yX7_people cX7_people 1 (some .int), Cond.fieldLink RX7 11 "CoatTraces$State" "cells" "[I", Cond.methodLink RX9 37 yX9_layBounds, Cond.instanceMethod yX9_layBounds, Cond.selects RX9 yX9_layBounds yX9_layBounds, Cond.initialized RX9, Cond.code yX9_layBounds cX9_layBounds 3 none, Cond.fieldLink RX9 9 "CoatTraces$Years" "least" "[I", Cond.fieldLink RX9 15 "CoatTraces$Years" "greatest" "[I", Cond.methodLink RX9 58 yX9_birth, Cond.static yX9_birth, Cond.code yX9_birth cX9_birth 1 (some .int), Cond.methodLink RX9 62 yX7_fact, Cond.instanceMethod yX7_fact, Cond.selects RX7 yX7_fact yX7_fact, Cond.code yX7_fact cX7_fact 3 (some .int), Cond.methodLink RX7 15 yX7_has, Cond.instanceMethod yX7_has]
def wsX9_reckon_r2 : List Cond := [Cond.selects RX7 yX7_has yX7_has, Cond.code yX7_has cX7_has 2 (some .boolean), Cond.methodLink RX9 66 yX9_death, Cond.static yX9_death, Cond.code yX9_death cX9_death 1 (some .int), Cond.methodLink RX9 41 yX9_layGaps, Cond.instanceMethod yX9_layGaps, Cond.selects RX9 yX9_layGaps yX9_layGaps, Cond.code yX9_layGaps cX9_layGaps 5 none, Cond.fieldLink RX9 69 "CoatTraces$Years" "gaps" "I", Cond.methodLink RX9 72 yX9_addGap, Cond.instanceMethod yX9_addGap, Cond.selects RX9 yX9_addGap yX9_addGap, Cond.code yX9_addGap cX9_addGap 4 none, Cond.fieldLink RX9 24 "CoatTraces$Years" "gap" "[I", Cond.fieldLink RX9 18 "CoatTraces$Years" "earlier" "[I", Cond.fieldLink RX9 21 "CoatTraces$Years" "later" "[I", Cond.methodLink RX9 44 yX9_raiseLeast, Cond.instanceMethod yX9_raiseLeast, Cond.selects RX9 yX9_raiseLeast yX9_raiseLeast, Cond.code yX9_raiseLeast cX9_raiseLeast 5 (some .boolean), Cond.methodLink RX9 48 yX9_isCrossed, Cond.instanceMethod yX9_isCrossed, Cond.selects RX9 yX9_isCrossed yX9_isCrossed]
def wsX9_reckon_r3 : List Cond := [Cond.code yX9_isCrossed cX9_isCrossed 2 (some .boolean), Cond.methodLink RX9 55 yX9_lowerGreatest, Cond.instanceMethod yX9_lowerGreatest, Cond.selects RX9 yX9_lowerGreatest yX9_lowerGreatest, Cond.code yX9_lowerGreatest cX9_lowerGreatest 5 none]
def wsX9_reckon : List Cond := .code yX9_reckon cX9_reckon 2 none :: ((wsX9_reckon_r1 ++ (wsX9_reckon_r2 ++ wsX9_reckon_r3)) ++ wsX90 ++ wsX70)
def wsX9_spoiledBit : List Cond := .code yX9_spoiledBit cX9_spoiledBit 1 (some .int) :: ([.fieldLink RX9 51 "CoatTraces$Years" "spoiled" "Z"] ++ wsX90)
def wsX9_isKnown : List Cond := .code yX9_isKnown cX9_isKnown 2 (some .boolean) :: ([.fieldLink RX9 51 "CoatTraces$Years" "spoiled" "Z", .fieldLink RX9 33 "CoatTraces$Years" "moments" "I"] ++ wsX90)
def wsX9_leastOf : List Cond := .code yX9_leastOf cX9_leastOf 2 (some .int) :: ([.fieldLink RX9 9 "CoatTraces$Years" "least" "[I", .methodLink RX9 76 yX9_isKnown, .instanceMethod yX9_isKnown, .selects RX9 yX9_isKnown yX9_isKnown, .initialized RX9, .code yX9_isKnown cX9_isKnown 2 (some .boolean), .fieldLink RX9 51 "CoatTraces$Years" "spoiled" "Z", .fieldLink RX9 33 "CoatTraces$Years" "moments" "I"] ++ wsX90)
def wsX9_greatestOf : List Cond := .code yX9_greatestOf cX9_greatestOf 2 (some .int) :: ([.fieldLink RX9 15 "CoatTraces$Years" "greatest" "[I", .methodLink RX9 76 yX9_isKnown, .instanceMethod yX9_isKnown, .selects RX9 yX9_isKnown yX9_isKnown, .initialized RX9, .code yX9_isKnown cX9_isKnown 2 (some .boolean), .fieldLink RX9 51 "CoatTraces$Years" "spoiled" "Z", .fieldLink RX9 33 "CoatTraces$Years" "moments" "I"] ++ wsX90)
def wsX9_leastBirth : List Cond := .code yX9_leastBirth cX9_leastBirth 2 (some .int) :: ([.methodLink RX9 58 yX9_birth, .static yX9_birth, .initialized RX9, .code yX9_birth cX9_birth 1 (some .int), .methodLink RX9 80 yX9_leastOf, .instanceMethod yX9_leastOf, .selects RX9 yX9_leastOf yX9_leastOf, .code yX9_leastOf cX9_leastOf 2 (some .int), .fieldLink RX9 9 "CoatTraces$Years" "least" "[I", .methodLink RX9 76 yX9_isKnown, .instanceMethod yX9_isKnown, .selects RX9 yX9_isKnown yX9_isKnown, .code yX9_isKnown cX9_isKnown 2 (some .boolean), .fieldLink RX9 51 "CoatTraces$Years" "spoiled" "Z", .fieldLink RX9 33 "CoatTraces$Years" "moments" "I"] ++ wsX90)
def wsX9_greatestBirth : List Cond := .code yX9_greatestBirth cX9_greatestBirth 2 (some .int) :: ([.methodLink RX9 58 yX9_birth, .static yX9_birth, .initialized RX9, .code yX9_birth cX9_birth 1 (some .int), .methodLink RX9 83 yX9_greatestOf, .instanceMethod yX9_greatestOf, .selects RX9 yX9_greatestOf yX9_greatestOf, .code yX9_greatestOf cX9_greatestOf 2 (some .int), .fieldLink RX9 15 "CoatTraces$Years" "greatest" "[I", .methodLink RX9 76 yX9_isKnown, .instanceMethod yX9_isKnown, .selects RX9 yX9_isKnown yX9_isKnown, .code yX9_isKnown cX9_isKnown 2 (some .boolean), .fieldLink RX9 51 "CoatTraces$Years" "spoiled" "Z", .fieldLink RX9 33 "CoatTraces$Years" "moments" "I"] ++ wsX90)
def wsX9_leastDeath : List Cond := .code yX9_leastDeath cX9_leastDeath 2 (some .int) :: ([.methodLink RX9 66 yX9_death, .static yX9_death, .initialized RX9, .code yX9_death cX9_death 1 (some .int), .methodLink RX9 80 yX9_leastOf, .instanceMethod yX9_leastOf, .selects RX9 yX9_leastOf yX9_leastOf, .code yX9_leastOf cX9_leastOf 2 (some .int), .fieldLink RX9 9 "CoatTraces$Years" "least" "[I", .methodLink RX9 76 yX9_isKnown, .instanceMethod yX9_isKnown, .selects RX9 yX9_isKnown yX9_isKnown, .code yX9_isKnown cX9_isKnown 2 (some .boolean), .fieldLink RX9 51 "CoatTraces$Years" "spoiled" "Z", .fieldLink RX9 33 "CoatTraces$Years" "moments" "I"] ++ wsX90)
def wsX9_greatestDeath : List Cond := .code yX9_greatestDeath cX9_greatestDeath 2 (some .int) :: ([.methodLink RX9 66 yX9_death, .static yX9_death, .initialized RX9, .code yX9_death cX9_death 1 (some .int), .methodLink RX9 83 yX9_greatestOf, .instanceMethod yX9_greatestOf, .selects RX9 yX9_greatestOf yX9_greatestOf, .code yX9_greatestOf cX9_greatestOf 2 (some .int), .fieldLink RX9 15 "CoatTraces$Years" "greatest" "[I", .methodLink RX9 76 yX9_isKnown, .instanceMethod yX9_isKnown, .selects RX9 yX9_isKnown yX9_isKnown, .code yX9_isKnown cX9_isKnown 2 (some .boolean), .fieldLink RX9 51 "CoatTraces$Years" "spoiled" "Z", .fieldLink RX9 33 "CoatTraces$Years" "moments" "I"] ++ wsX90)
def wsX9_diedBetween_r1 : List Cond := [Cond.fieldLink RX9 51 "CoatTraces$Years" "spoiled" "Z", Cond.methodLink RX9 86 yX9_leastDeath, Cond.instanceMethod yX9_leastDeath, Cond.selects RX9 yX9_leastDeath yX9_leastDeath, Cond.initialized RX9, Cond.code yX9_leastDeath cX9_leastDeath 2 (some .int), Cond.methodLink RX9 66 yX9_death, Cond.static yX9_death, Cond.code yX9_death cX9_death 1 (some .int), Cond.methodLink RX9 80 yX9_leastOf, Cond.instanceMethod yX9_leastOf, Cond.selects RX9 yX9_leastOf yX9_leastOf, Cond.code yX9_leastOf cX9_leastOf 2 (some .int), Cond.fieldLink RX9 9 "CoatTraces$Years" "least" "[I", Cond.methodLink RX9 76 yX9_isKnown, Cond.instanceMethod yX9_isKnown, Cond.selects RX9 yX9_isKnown yX9_isKnown, Cond.code yX9_isKnown cX9_isKnown 2 (some .boolean), Cond.fieldLink RX9 33 "CoatTraces$Years" "moments" "I", Cond.methodLink RX9 89 yX9_greatestDeath, Cond.instanceMethod yX9_greatestDeath, Cond.selects RX9 yX9_greatestDeath yX9_greatestDeath, Cond.code yX9_greatestDeath cX9_greatestDeath 2 (some .int), Cond.methodLink RX9 83 yX9_greatestOf]
def wsX9_diedBetween_r2 : List Cond := [Cond.instanceMethod yX9_greatestOf, Cond.selects RX9 yX9_greatestOf yX9_greatestOf, Cond.code yX9_greatestOf cX9_greatestOf 2 (some .int), Cond.fieldLink RX9 15 "CoatTraces$Years" "greatest" "[I"]
def wsX9_diedBetween : List Cond := .code yX9_diedBetween cX9_diedBetween 6 (some .int) :: ((wsX9_diedBetween_r1 ++ wsX9_diedBetween_r2) ++ wsX90)
def wsX10_init_r1 : List Cond := [Cond.methodLink RX10 1 objectInit, Cond.instanceMethod objectInit, Cond.code objectInit ⟨#[0xb1]⟩ 1 none, Cond.classLink RX10 7 RX7, Cond.instantiable RX7 1, Cond.initialized RX7, Cond.fieldLink RX10 10 "CoatTraces" "state" "LCoatTraces$State;", Cond.classLink RX10 16 RX1, Cond.instantiable RX1 5, Cond.initialized RX1, Cond.fieldLink RX10 19 "CoatTraces" "coats" "LCoatTraces$Coats;", Cond.classLink RX10 23 RX9, Cond.instantiable RX9 8, Cond.initialized RX9, Cond.fieldLink RX10 26 "CoatTraces" "years" "LCoatTraces$Years;", Cond.classLink RX10 30 RX8, Cond.instantiable RX8 1, Cond.initialized RX8, Cond.fieldLink RX10 33 "CoatTraces" "tracer" "LCoatTraces$Tracer;", Cond.classLink RX10 37 RX4, Cond.instantiable RX4 4, Cond.initialized RX4, Cond.fieldLink RX10 40 "CoatTraces" "kinship" "LCoatTraces$Kinship;", Cond.classLink RX10 44 RX0]
def wsX10_init_r2 : List Cond := [Cond.instantiable RX0 4, Cond.initialized RX0, Cond.fieldLink RX10 47 "CoatTraces" "book" "LCoatTraces$Book;", Cond.classLink RX10 51 RX5, Cond.instantiable RX5 3, Cond.initialized RX5, Cond.fieldLink RX10 54 "CoatTraces" "past" "LCoatTraces$Past;", Cond.classLink RX10 58 RX3, Cond.instantiable RX3 3, Cond.initialized RX3, Cond.fieldLink RX10 61 "CoatTraces" "images" "LCoatTraces$Images;", Cond.classLink RX10 65 RX2, Cond.instantiable RX2 1, Cond.initialized RX2, Cond.fieldLink RX10 68 "CoatTraces" "draws" "LCoatTraces$Draws;", Cond.methodLink RX10 9 yX7_init, Cond.instanceMethod yX7_init, Cond.code yX7_init cX7_init 1 none, Cond.methodLink RX7 5 objectInit, Cond.arrayClass .int, Cond.fieldLink RX7 11 "CoatTraces$State" "cells" "[I", Cond.methodLink RX10 18 yX1_init, Cond.instanceMethod yX1_init, Cond.code yX1_init cX1_init 1 none]
def wsX10_init_r3 : List Cond := [Cond.methodLink RX1 3 objectInit, Cond.fieldLink RX1 11 "CoatTraces$Coats" "sizes" "[I", Cond.fieldLink RX1 15 "CoatTraces$Coats" "arms" "[I", Cond.fieldLink RX1 18 "CoatTraces$Coats" "through" "[I", Cond.methodLink RX10 25 yX9_init, Cond.instanceMethod yX9_init, Cond.code yX9_init cX9_init 1 none, Cond.methodLink RX9 3 objectInit, Cond.fieldLink RX9 9 "CoatTraces$Years" "least" "[I", Cond.fieldLink RX9 15 "CoatTraces$Years" "greatest" "[I", Cond.fieldLink RX9 18 "CoatTraces$Years" "earlier" "[I", Cond.fieldLink RX9 21 "CoatTraces$Years" "later" "[I", Cond.fieldLink RX9 24 "CoatTraces$Years" "gap" "[I", Cond.methodLink RX10 32 yX8_init, Cond.instanceMethod yX8_init, Cond.code yX8_init cX8_init 1 none, Cond.methodLink RX8 3 objectInit, Cond.fieldLink RX8 9 "CoatTraces$Tracer" "found" "[I", Cond.methodLink RX10 39 yX4_init, Cond.instanceMethod yX4_init, Cond.code yX4_init cX4_init 1 none, Cond.methodLink RX4 3 objectInit, Cond.fieldLink RX4 9 "CoatTraces$Kinship" "stepsOfOne" "[I", Cond.fieldLink RX4 15 "CoatTraces$Kinship" "stepsOfOther" "[I"]
def wsX10_init_r4 : List Cond := [Cond.fieldLink RX4 18 "CoatTraces$Kinship" "steps" "I", Cond.fieldLink RX4 22 "CoatTraces$Kinship" "nearest" "I", Cond.methodLink RX10 46 yX0_init, Cond.instanceMethod yX0_init, Cond.code yX0_init cX0_init 1 none, Cond.methodLink RX0 3 objectInit, Cond.fieldLink RX0 9 "CoatTraces$Book" "whose" "[I", Cond.fieldLink RX0 15 "CoatTraces$Book" "which" "[I", Cond.fieldLink RX0 18 "CoatTraces$Book" "arms" "[I", Cond.methodLink RX10 53 yX5_init, Cond.instanceMethod yX5_init, Cond.code yX5_init cX5_init 1 none, Cond.methodLink RX5 3 objectInit, Cond.classLink RX5 9 RX6, Cond.instantiable RX6 2, Cond.initialized RX6, Cond.fieldLink RX5 14 "CoatTraces$Past" "shelf" "LCoatTraces$Shelf;", Cond.methodLink RX5 11 yX6_init, Cond.instanceMethod yX6_init, Cond.code yX6_init cX6_init 2 none, Cond.methodLink RX6 1 objectInit, Cond.methodLink RX6 7 Lib.Math.max.name, Cond.static Lib.Math.max.name, Cond.initialized "java/lang/Math"]
def wsX10_init_r5 : List Cond := [Cond.code Lib.Math.max.name Lib.Math.max.code 2 (some .int), Cond.fieldLink RX6 13 "CoatTraces$Shelf" "places" "I", Cond.fieldLink RX6 21 "CoatTraces$Shelf" "rows" "[I", Cond.methodLink RX10 60 yX3_init, Cond.instanceMethod yX3_init, Cond.code yX3_init cX3_init 1 none, Cond.methodLink RX3 3 objectInit, Cond.classLink RX3 9 RX6, Cond.fieldLink RX3 14 "CoatTraces$Images" "shelf" "LCoatTraces$Shelf;", Cond.fieldLink RX3 20 "CoatTraces$Images" "seeds" "[I", Cond.arrayClass .boolean, Cond.fieldLink RX3 24 "CoatTraces$Images" "stored" "[Z", Cond.methodLink RX3 11 yX6_init, Cond.methodLink RX10 67 yX2_init, Cond.instanceMethod yX2_init, Cond.code yX2_init cX2_init 1 none, Cond.methodLink RX2 3 objectInit, Cond.fieldLink RX2 9 "CoatTraces$Draws" "seedNow" "I"]
def wsX10_init : List Cond := .code yX10_init cX10_init 1 none :: ((wsX10_init_r1 ++ (wsX10_init_r2 ++ (wsX10_init_r3 ++ (wsX10_init_r4 ++ wsX10_init_r5)))) ++ wsX70 ++ wsX100 ++ wsX10 ++ wsX90 ++ wsX80 ++ wsX40 ++ wsX00 ++ wsX50 ++ wsX30 ++ wsX20 ++ wsX60)
def wsX10_told_r1 : List Cond := [Cond.fieldLink RX10 10 "CoatTraces" "state" "LCoatTraces$State;", Cond.fieldLink RX10 19 "CoatTraces" "coats" "LCoatTraces$Coats;", Cond.fieldLink RX10 82 "CoatTraces$Coats" "heirs" "I", Cond.fieldLink RX10 26 "CoatTraces" "years" "LCoatTraces$Years;", Cond.fieldLink RX10 33 "CoatTraces" "tracer" "LCoatTraces$Tracer;", Cond.fieldLink RX10 47 "CoatTraces" "book" "LCoatTraces$Book;", Cond.fieldLink RX10 102 "CoatTraces$Book" "entries" "I", Cond.fieldLink RX10 54 "CoatTraces" "past" "LCoatTraces$Past;", Cond.fieldLink RX10 109 "CoatTraces$Past" "deeds" "I", Cond.constant RX10 112 (-1000000002), Cond.methodLink RX10 72 yX7_people, Cond.instanceMethod yX7_people, Cond.selects RX7 yX7_people yX7_people, Cond.initialized RX7, Cond.code yX7_people cX7_people 1 (some .int), Cond.fieldLink RX7 11 "CoatTraces$State" "cells" "[I", Cond.methodLink RX10 76 yX7_ruleNow, Cond.instanceMethod yX7_ruleNow, Cond.selects RX7 yX7_ruleNow yX7_ruleNow, Cond.code yX7_ruleNow cX7_ruleNow 1 (some .int), Cond.methodLink RX10 79 yX7_signs, Cond.instanceMethod yX7_signs, Cond.selects RX7 yX7_signs yX7_signs, Cond.code yX7_signs cX7_signs 1 (some .int)]
def wsX10_told_r2 : List Cond := [Cond.methodLink RX10 86 yX1_unlikeCoats, Cond.instanceMethod yX1_unlikeCoats, Cond.selects RX1 yX1_unlikeCoats yX1_unlikeCoats, Cond.initialized RX1, Cond.code yX1_unlikeCoats cX1_unlikeCoats 4 (some .int), Cond.fieldLink RX1 27 "CoatTraces$Coats" "people" "I", Cond.methodLink RX1 52 yX1_isIn, Cond.static yX1_isIn, Cond.code yX1_isIn cX1_isIn 2 (some .boolean), Cond.methodLink RX1 79 yX1_sameAs, Cond.instanceMethod yX1_sameAs, Cond.selects RX1 yX1_sameAs yX1_sameAs, Cond.code yX1_sameAs cX1_sameAs 4 (some .int), Cond.methodLink RX1 76 yX1_isSame, Cond.instanceMethod yX1_isSame, Cond.selects RX1 yX1_isSame yX1_isSame, Cond.code yX1_isSame cX1_isSame 4 (some .boolean), Cond.methodLink RX1 56 yX1_sizeOf, Cond.instanceMethod yX1_sizeOf, Cond.selects RX1 yX1_sizeOf yX1_sizeOf, Cond.code yX1_sizeOf cX1_sizeOf 2 (some .int), Cond.fieldLink RX1 11 "CoatTraces$Coats" "sizes" "[I", Cond.methodLink RX1 67 yX1_armsAt, Cond.instanceMethod yX1_armsAt]
def wsX10_told_r3 : List Cond := [Cond.selects RX1 yX1_armsAt yX1_armsAt, Cond.code yX1_armsAt cX1_armsAt 3 (some .int), Cond.fieldLink RX1 15 "CoatTraces$Coats" "arms" "[I", Cond.methodLink RX10 89 yX9_spoiledBit, Cond.instanceMethod yX9_spoiledBit, Cond.selects RX9 yX9_spoiledBit yX9_spoiledBit, Cond.initialized RX9, Cond.code yX9_spoiledBit cX9_spoiledBit 1 (some .int), Cond.fieldLink RX9 51 "CoatTraces$Years" "spoiled" "Z", Cond.methodLink RX10 92 yX8_meantByAll, Cond.instanceMethod yX8_meantByAll, Cond.selects RX8 yX8_meantByAll yX8_meantByAll, Cond.initialized RX8, Cond.code yX8_meantByAll cX8_meantByAll 5 (some .int), Cond.methodLink RX8 15 yX7_people, Cond.methodLink RX8 21 yX7_signs, Cond.methodLink RX8 24 yX1_sizeOf, Cond.methodLink RX8 30 yX8_fitsEach, Cond.static yX8_fitsEach, Cond.code yX8_fitsEach cX8_fitsEach 4 (some .boolean), Cond.methodLink RX8 34 yX7_signNumber, Cond.instanceMethod yX7_signNumber, Cond.selects RX7 yX7_signNumber yX7_signNumber, Cond.code yX7_signNumber cX7_signNumber 2 (some .int)]
def wsX10_told_r4 : List Cond := [Cond.methodLink RX7 31 yX7_signs, Cond.methodLink RX8 37 yX1_armsAt, Cond.methodLink RX8 41 yX8_fits, Cond.static yX8_fits, Cond.code yX8_fits cX8_fits 2 (some .boolean), Cond.methodLink RX10 96 yX8_meantBySome, Cond.instanceMethod yX8_meantBySome, Cond.selects RX8 yX8_meantBySome yX8_meantBySome, Cond.code yX8_meantBySome cX8_meantBySome 5 (some .int), Cond.methodLink RX8 45 yX8_holdsRest, Cond.static yX8_holdsRest, Cond.code yX8_holdsRest cX8_holdsRest 5 (some .boolean), Cond.methodLink RX10 99 yX8_likely, Cond.instanceMethod yX8_likely, Cond.selects RX8 yX8_likely yX8_likely, Cond.code yX8_likely cX8_likely 8 (some .int), Cond.methodLink RX8 60 yX8_like, Cond.instanceMethod yX8_like, Cond.selects RX8 yX8_like yX8_like, Cond.code yX8_like cX8_like 6 (some .int), Cond.methodLink RX8 48 Lib.Math.min.name, Cond.static Lib.Math.min.name, Cond.initialized "java/lang/Math", Cond.code Lib.Math.min.name Lib.Math.min.code 2 (some .int)]
def wsX10_told_r5 : List Cond := [Cond.fieldLink RX8 9 "CoatTraces$Tracer" "found" "[I", Cond.methodLink RX8 53 yX8_countOneMore, Cond.instanceMethod yX8_countOneMore, Cond.selects RX8 yX8_countOneMore yX8_countOneMore, Cond.code yX8_countOneMore cX8_countOneMore 8 none, Cond.methodLink RX8 57 Lib.Math.max.name, Cond.static Lib.Math.max.name, Cond.code Lib.Math.max.name Lib.Math.max.code 2 (some .int), Cond.methodLink RX10 105 yX0_firstWrong, Cond.instanceMethod yX0_firstWrong, Cond.selects RX0 yX0_firstWrong yX0_firstWrong, Cond.initialized RX0, Cond.code yX0_firstWrong cX0_firstWrong 4 (some .int), Cond.fieldLink RX0 21 "CoatTraces$Book" "entries" "I", Cond.fieldLink RX0 9 "CoatTraces$Book" "whose" "[I", Cond.fieldLink RX0 25 "CoatTraces$Coats" "people" "I", Cond.fieldLink RX0 15 "CoatTraces$Book" "which" "[I", Cond.fieldLink RX0 18 "CoatTraces$Book" "arms" "[I", Cond.methodLink RX0 30 yX1_armsAt]
def wsX10_told : List Cond := .code yX10_told cX10_told 2 (some .int) :: ((wsX10_told_r1 ++ (wsX10_told_r2 ++ (wsX10_told_r3 ++ (wsX10_told_r4 ++ wsX10_told_r5)))) ++ wsX100 ++ wsX10 ++ wsX00 ++ wsX50 ++ wsX70 ++ wsX90 ++ wsX80)
def wsX10_person_r1 : List Cond := [Cond.fieldLink RX10 10 "CoatTraces" "state" "LCoatTraces$State;", Cond.constant RX10 117 (-1000000001), Cond.fieldLink RX10 19 "CoatTraces" "coats" "LCoatTraces$Coats;", Cond.fieldLink RX10 33 "CoatTraces" "tracer" "LCoatTraces$Tracer;", Cond.fieldLink RX10 26 "CoatTraces" "years" "LCoatTraces$Years;", Cond.constant RX10 112 (-1000000002), Cond.methodLink RX10 113 yX7_has, Cond.instanceMethod yX7_has, Cond.selects RX7 yX7_has yX7_has, Cond.initialized RX7, Cond.code yX7_has cX7_has 2 (some .boolean), Cond.fieldLink RX7 11 "CoatTraces$State" "cells" "[I", Cond.methodLink RX10 118 yX7_fact, Cond.instanceMethod yX7_fact, Cond.selects RX7 yX7_fact yX7_fact, Cond.code yX7_fact cX7_fact 3 (some .int), Cond.methodLink RX7 15 yX7_has, Cond.methodLink RX10 122 yX1_sizeOf, Cond.instanceMethod yX1_sizeOf, Cond.selects RX1 yX1_sizeOf yX1_sizeOf, Cond.initialized RX1, Cond.code yX1_sizeOf cX1_sizeOf 2 (some .int), Cond.fieldLink RX1 11 "CoatTraces$Coats" "sizes" "[I", Cond.methodLink RX10 126 yX1_sameAs]
def wsX10_person_r2 : List Cond := [Cond.instanceMethod yX1_sameAs, Cond.selects RX1 yX1_sameAs yX1_sameAs, Cond.code yX1_sameAs cX1_sameAs 4 (some .int), Cond.fieldLink RX1 27 "CoatTraces$Coats" "people" "I", Cond.methodLink RX1 76 yX1_isSame, Cond.instanceMethod yX1_isSame, Cond.selects RX1 yX1_isSame yX1_isSame, Cond.code yX1_isSame cX1_isSame 4 (some .boolean), Cond.methodLink RX1 56 yX1_sizeOf, Cond.methodLink RX1 67 yX1_armsAt, Cond.instanceMethod yX1_armsAt, Cond.selects RX1 yX1_armsAt yX1_armsAt, Cond.code yX1_armsAt cX1_armsAt 3 (some .int), Cond.fieldLink RX1 15 "CoatTraces$Coats" "arms" "[I", Cond.methodLink RX10 129 yX8_like, Cond.instanceMethod yX8_like, Cond.selects RX8 yX8_like yX8_like, Cond.initialized RX8, Cond.code yX8_like cX8_like 6 (some .int), Cond.methodLink RX8 48 Lib.Math.min.name, Cond.static Lib.Math.min.name, Cond.initialized "java/lang/Math", Cond.code Lib.Math.min.name Lib.Math.min.code 2 (some .int), Cond.fieldLink RX8 9 "CoatTraces$Tracer" "found" "[I"]
def wsX10_person_r3 : List Cond := [Cond.methodLink RX8 24 yX1_sizeOf, Cond.methodLink RX8 21 yX7_signs, Cond.instanceMethod yX7_signs, Cond.selects RX7 yX7_signs yX7_signs, Cond.code yX7_signs cX7_signs 1 (some .int), Cond.methodLink RX8 34 yX7_signNumber, Cond.instanceMethod yX7_signNumber, Cond.selects RX7 yX7_signNumber yX7_signNumber, Cond.code yX7_signNumber cX7_signNumber 2 (some .int), Cond.methodLink RX7 31 yX7_signs, Cond.methodLink RX8 53 yX8_countOneMore, Cond.instanceMethod yX8_countOneMore, Cond.selects RX8 yX8_countOneMore yX8_countOneMore, Cond.code yX8_countOneMore cX8_countOneMore 8 none, Cond.methodLink RX8 57 Lib.Math.max.name, Cond.static Lib.Math.max.name, Cond.code Lib.Math.max.name Lib.Math.max.code 2 (some .int), Cond.methodLink RX8 37 yX1_armsAt, Cond.methodLink RX10 133 yX7_childrenOf, Cond.instanceMethod yX7_childrenOf, Cond.selects RX7 yX7_childrenOf yX7_childrenOf, Cond.code yX7_childrenOf cX7_childrenOf 4 (some .int), Cond.methodLink RX7 19 yX7_people, Cond.instanceMethod yX7_people]
def wsX10_person_r4 : List Cond := [Cond.selects RX7 yX7_people yX7_people, Cond.code yX7_people cX7_people 1 (some .int), Cond.methodLink RX7 23 yX7_fact, Cond.methodLink RX10 136 yX9_leastBirth, Cond.instanceMethod yX9_leastBirth, Cond.selects RX9 yX9_leastBirth yX9_leastBirth, Cond.initialized RX9, Cond.code yX9_leastBirth cX9_leastBirth 2 (some .int), Cond.methodLink RX9 58 yX9_birth, Cond.static yX9_birth, Cond.code yX9_birth cX9_birth 1 (some .int), Cond.methodLink RX9 80 yX9_leastOf, Cond.instanceMethod yX9_leastOf, Cond.selects RX9 yX9_leastOf yX9_leastOf, Cond.code yX9_leastOf cX9_leastOf 2 (some .int), Cond.fieldLink RX9 9 "CoatTraces$Years" "least" "[I", Cond.methodLink RX9 76 yX9_isKnown, Cond.instanceMethod yX9_isKnown, Cond.selects RX9 yX9_isKnown yX9_isKnown, Cond.code yX9_isKnown cX9_isKnown 2 (some .boolean), Cond.fieldLink RX9 51 "CoatTraces$Years" "spoiled" "Z", Cond.fieldLink RX9 33 "CoatTraces$Years" "moments" "I", Cond.methodLink RX10 139 yX9_greatestBirth, Cond.instanceMethod yX9_greatestBirth]
def wsX10_person_r5 : List Cond := [Cond.selects RX9 yX9_greatestBirth yX9_greatestBirth, Cond.code yX9_greatestBirth cX9_greatestBirth 2 (some .int), Cond.methodLink RX9 83 yX9_greatestOf, Cond.instanceMethod yX9_greatestOf, Cond.selects RX9 yX9_greatestOf yX9_greatestOf, Cond.code yX9_greatestOf cX9_greatestOf 2 (some .int), Cond.fieldLink RX9 15 "CoatTraces$Years" "greatest" "[I", Cond.methodLink RX10 142 yX9_leastDeath, Cond.instanceMethod yX9_leastDeath, Cond.selects RX9 yX9_leastDeath yX9_leastDeath, Cond.code yX9_leastDeath cX9_leastDeath 2 (some .int), Cond.methodLink RX9 66 yX9_death, Cond.static yX9_death, Cond.code yX9_death cX9_death 1 (some .int), Cond.methodLink RX10 145 yX9_greatestDeath, Cond.instanceMethod yX9_greatestDeath, Cond.selects RX9 yX9_greatestDeath yX9_greatestDeath, Cond.code yX9_greatestDeath cX9_greatestDeath 2 (some .int)]
def wsX10_person : List Cond := .code yX10_person cX10_person 3 (some .int) :: ((wsX10_person_r1 ++ (wsX10_person_r2 ++ (wsX10_person_r3 ++ (wsX10_person_r4 ++ wsX10_person_r5)))) ++ wsX100 ++ wsX70 ++ wsX10 ++ wsX80 ++ wsX90)
def wsX10_quarter_r1 : List Cond := [Cond.fieldLink RX10 10 "CoatTraces" "state" "LCoatTraces$State;", Cond.constant RX10 117 (-1000000001), Cond.fieldLink RX10 19 "CoatTraces" "coats" "LCoatTraces$Coats;", Cond.constant RX10 112 (-1000000002), Cond.methodLink RX10 113 yX7_has, Cond.instanceMethod yX7_has, Cond.selects RX7 yX7_has yX7_has, Cond.initialized RX7, Cond.code yX7_has cX7_has 2 (some .boolean), Cond.fieldLink RX7 11 "CoatTraces$State" "cells" "[I", Cond.methodLink RX10 148 yX1_armsAt, Cond.instanceMethod yX1_armsAt, Cond.selects RX1 yX1_armsAt yX1_armsAt, Cond.initialized RX1, Cond.code yX1_armsAt cX1_armsAt 3 (some .int), Cond.fieldLink RX1 15 "CoatTraces$Coats" "arms" "[I", Cond.methodLink RX1 56 yX1_sizeOf, Cond.instanceMethod yX1_sizeOf, Cond.selects RX1 yX1_sizeOf yX1_sizeOf, Cond.code yX1_sizeOf cX1_sizeOf 2 (some .int), Cond.fieldLink RX1 11 "CoatTraces$Coats" "sizes" "[I", Cond.methodLink RX10 151 yX1_throughAt, Cond.instanceMethod yX1_throughAt, Cond.selects RX1 yX1_throughAt yX1_throughAt]
def wsX10_quarter_r2 : List Cond := [Cond.code yX1_throughAt cX1_throughAt 3 (some .int), Cond.fieldLink RX1 18 "CoatTraces$Coats" "through" "[I"]
def wsX10_quarter : List Cond := .code yX10_quarter cX10_quarter 4 (some .int) :: ((wsX10_quarter_r1 ++ wsX10_quarter_r2) ++ wsX100 ++ wsX70 ++ wsX10)
def wsX10_kin_r1 : List Cond := [Cond.fieldLink RX10 10 "CoatTraces" "state" "LCoatTraces$State;", Cond.constant RX10 117 (-1000000001), Cond.constant RX10 112 (-1000000002), Cond.fieldLink RX10 40 "CoatTraces" "kinship" "LCoatTraces$Kinship;", Cond.fieldLink RX10 158 "CoatTraces$Kinship" "steps" "I", Cond.fieldLink RX10 161 "CoatTraces$Kinship" "nearest" "I", Cond.methodLink RX10 113 yX7_has, Cond.instanceMethod yX7_has, Cond.selects RX7 yX7_has yX7_has, Cond.initialized RX7, Cond.code yX7_has cX7_has 2 (some .boolean), Cond.fieldLink RX7 11 "CoatTraces$State" "cells" "[I", Cond.methodLink RX10 154 yX4_seek, Cond.instanceMethod yX4_seek, Cond.selects RX4 yX4_seek yX4_seek, Cond.initialized RX4, Cond.code yX4_seek cX4_seek 6 none, Cond.fieldLink RX4 9 "CoatTraces$Kinship" "stepsOfOne" "[I", Cond.fieldLink RX4 15 "CoatTraces$Kinship" "stepsOfOther" "[I", Cond.fieldLink RX4 18 "CoatTraces$Kinship" "steps" "I", Cond.fieldLink RX4 22 "CoatTraces$Kinship" "nearest" "I", Cond.methodLink RX4 25 yX4_countSteps, Cond.static yX4_countSteps, Cond.code yX4_countSteps cX4_countSteps 4 none]
def wsX10_kin_r2 : List Cond := [Cond.methodLink RX4 35 Lib.Math.min.name, Cond.static Lib.Math.min.name, Cond.initialized "java/lang/Math", Cond.code Lib.Math.min.name Lib.Math.min.code 2 (some .int), Cond.methodLink RX4 41 yX7_fact, Cond.instanceMethod yX7_fact, Cond.selects RX7 yX7_fact yX7_fact, Cond.code yX7_fact cX7_fact 3 (some .int), Cond.methodLink RX7 15 yX7_has, Cond.methodLink RX4 44 yX4_handOn, Cond.static yX4_handOn, Cond.code yX4_handOn cX4_handOn 3 none, Cond.methodLink RX4 29 yX7_people, Cond.instanceMethod yX7_people, Cond.selects RX7 yX7_people yX7_people, Cond.code yX7_people cX7_people 1 (some .int)]
def wsX10_kin : List Cond := .code yX10_kin cX10_kin 4 (some .int) :: ((wsX10_kin_r1 ++ wsX10_kin_r2) ++ wsX100 ++ wsX40 ++ wsX70)
def wsX10_would_r1 : List Cond := [Cond.fieldLink RX10 10 "CoatTraces" "state" "LCoatTraces$State;", Cond.constant RX10 117 (-1000000001), Cond.constant RX10 170 (-1000000003), Cond.fieldLink RX10 19 "CoatTraces" "coats" "LCoatTraces$Coats;", Cond.methodLink RX10 113 yX7_has, Cond.instanceMethod yX7_has, Cond.selects RX7 yX7_has yX7_has, Cond.initialized RX7, Cond.code yX7_has cX7_has 2 (some .boolean), Cond.fieldLink RX7 11 "CoatTraces$State" "cells" "[I", Cond.methodLink RX10 164 yX7_isMan, Cond.instanceMethod yX7_isMan, Cond.selects RX7 yX7_isMan yX7_isMan, Cond.code yX7_isMan cX7_isMan 2 (some .boolean), Cond.methodLink RX7 23 yX7_fact, Cond.instanceMethod yX7_fact, Cond.selects RX7 yX7_fact yX7_fact, Cond.code yX7_fact cX7_fact 3 (some .int), Cond.methodLink RX7 15 yX7_has, Cond.methodLink RX10 167 yX7_isWoman, Cond.instanceMethod yX7_isWoman, Cond.selects RX7 yX7_isWoman yX7_isWoman, Cond.code yX7_isWoman cX7_isWoman 2 (some .boolean), Cond.methodLink RX10 171 yX1_sizeForChild]
def wsX10_would_r2 : List Cond := [Cond.instanceMethod yX1_sizeForChild, Cond.selects RX1 yX1_sizeForChild yX1_sizeForChild, Cond.initialized RX1, Cond.code yX1_sizeForChild cX1_sizeForChild 4 (some .int), Cond.methodLink RX1 41 yX1_compose, Cond.instanceMethod yX1_compose, Cond.selects RX1 yX1_compose yX1_compose, Cond.code yX1_compose cX1_compose 7 none, Cond.fieldLink RX1 34 "CoatTraces$Coats" "heirs" "I", Cond.fieldLink RX1 11 "CoatTraces$Coats" "sizes" "[I", Cond.methodLink RX1 60 yX7_ruleNow, Cond.instanceMethod yX7_ruleNow, Cond.selects RX7 yX7_ruleNow yX7_ruleNow, Cond.code yX7_ruleNow cX7_ruleNow 1 (some .int), Cond.methodLink RX1 52 yX1_isIn, Cond.static yX1_isIn, Cond.code yX1_isIn cX1_isIn 2 (some .boolean), Cond.methodLink RX1 37 yX7_fact, Cond.methodLink RX1 63 yX1_take, Cond.instanceMethod yX1_take, Cond.selects RX1 yX1_take yX1_take, Cond.code yX1_take cX1_take 7 none, Cond.fieldLink RX1 15 "CoatTraces$Coats" "arms" "[I", Cond.fieldLink RX1 18 "CoatTraces$Coats" "through" "[I"]
def wsX10_would_r3 : List Cond := [Cond.methodLink RX1 67 yX1_armsAt, Cond.instanceMethod yX1_armsAt, Cond.selects RX1 yX1_armsAt yX1_armsAt, Cond.code yX1_armsAt cX1_armsAt 3 (some .int), Cond.methodLink RX1 56 yX1_sizeOf, Cond.instanceMethod yX1_sizeOf, Cond.selects RX1 yX1_sizeOf yX1_sizeOf, Cond.code yX1_sizeOf cX1_sizeOf 2 (some .int), Cond.methodLink RX1 70 yX1_throughAt, Cond.instanceMethod yX1_throughAt, Cond.selects RX1 yX1_throughAt yX1_throughAt, Cond.code yX1_throughAt cX1_throughAt 3 (some .int), Cond.methodLink RX1 73 yX1_takeFrom, Cond.instanceMethod yX1_takeFrom, Cond.selects RX1 yX1_takeFrom yX1_takeFrom, Cond.code yX1_takeFrom cX1_takeFrom 5 none]
def wsX10_would : List Cond := .code yX10_would cX10_would 3 (some .int) :: ((wsX10_would_r1 ++ (wsX10_would_r2 ++ wsX10_would_r3)) ++ wsX100 ++ wsX70 ++ wsX10)
def wsX10_areYears : List Cond := .code yX10_areYears cX10_areYears 2 (some .boolean) :: ([])
def wsX10_dated_r1 : List Cond := [Cond.constant RX10 112 (-1000000002), Cond.fieldLink RX10 26 "CoatTraces" "years" "LCoatTraces$Years;", Cond.fieldLink RX10 10 "CoatTraces" "state" "LCoatTraces$State;", Cond.methodLink RX10 175 yX10_areYears, Cond.static yX10_areYears, Cond.initialized RX10, Cond.code yX10_areYears cX10_areYears 2 (some .boolean), Cond.methodLink RX10 72 yX7_people, Cond.instanceMethod yX7_people, Cond.selects RX7 yX7_people yX7_people, Cond.initialized RX7, Cond.code yX7_people cX7_people 1 (some .int), Cond.fieldLink RX7 11 "CoatTraces$State" "cells" "[I", Cond.methodLink RX10 179 yX9_diedBetween, Cond.instanceMethod yX9_diedBetween, Cond.selects RX9 yX9_diedBetween yX9_diedBetween, Cond.initialized RX9, Cond.code yX9_diedBetween cX9_diedBetween 6 (some .int), Cond.fieldLink RX9 51 "CoatTraces$Years" "spoiled" "Z", Cond.methodLink RX9 86 yX9_leastDeath, Cond.instanceMethod yX9_leastDeath, Cond.selects RX9 yX9_leastDeath yX9_leastDeath, Cond.code yX9_leastDeath cX9_leastDeath 2 (some .int), Cond.methodLink RX9 66 yX9_death]
def wsX10_dated_r2 : List Cond := [Cond.static yX9_death, Cond.code yX9_death cX9_death 1 (some .int), Cond.methodLink RX9 80 yX9_leastOf, Cond.instanceMethod yX9_leastOf, Cond.selects RX9 yX9_leastOf yX9_leastOf, Cond.code yX9_leastOf cX9_leastOf 2 (some .int), Cond.fieldLink RX9 9 "CoatTraces$Years" "least" "[I", Cond.methodLink RX9 76 yX9_isKnown, Cond.instanceMethod yX9_isKnown, Cond.selects RX9 yX9_isKnown yX9_isKnown, Cond.code yX9_isKnown cX9_isKnown 2 (some .boolean), Cond.fieldLink RX9 33 "CoatTraces$Years" "moments" "I", Cond.methodLink RX9 89 yX9_greatestDeath, Cond.instanceMethod yX9_greatestDeath, Cond.selects RX9 yX9_greatestDeath yX9_greatestDeath, Cond.code yX9_greatestDeath cX9_greatestDeath 2 (some .int), Cond.methodLink RX9 83 yX9_greatestOf, Cond.instanceMethod yX9_greatestOf, Cond.selects RX9 yX9_greatestOf yX9_greatestOf, Cond.code yX9_greatestOf cX9_greatestOf 2 (some .int), Cond.fieldLink RX9 15 "CoatTraces$Years" "greatest" "[I"]
def wsX10_dated : List Cond := .code yX10_dated cX10_dated 3 (some .int) :: ((wsX10_dated_r1 ++ wsX10_dated_r2) ++ wsX100 ++ wsX70 ++ wsX90)
def wsX10_signAt : List Cond := .code yX10_signAt cX10_signAt 2 (some .int) :: ([.fieldLink RX10 10 "CoatTraces" "state" "LCoatTraces$State;", .methodLink RX10 183 yX7_signNumber, .instanceMethod yX7_signNumber, .selects RX7 yX7_signNumber yX7_signNumber, .initialized RX7, .code yX7_signNumber cX7_signNumber 2 (some .int), .fieldLink RX7 11 "CoatTraces$State" "cells" "[I", .methodLink RX7 31 yX7_signs, .instanceMethod yX7_signs, .selects RX7 yX7_signs yX7_signs, .code yX7_signs cX7_signs 1 (some .int)] ++ wsX100 ++ wsX70)
def wsX10_isArms : List Cond := .code yX10_isArms cX10_isArms 1 (some .boolean) :: ([])
def wsX10_reckonAll_r1 : List Cond := [Cond.fieldLink RX10 19 "CoatTraces" "coats" "LCoatTraces$Coats;", Cond.fieldLink RX10 10 "CoatTraces" "state" "LCoatTraces$State;", Cond.fieldLink RX10 26 "CoatTraces" "years" "LCoatTraces$Years;", Cond.methodLink RX10 216 yX1_reckon, Cond.instanceMethod yX1_reckon, Cond.selects RX1 yX1_reckon yX1_reckon, Cond.initialized RX1, Cond.code yX1_reckon cX1_reckon 3 none, Cond.fieldLink RX1 27 "CoatTraces$Coats" "people" "I", Cond.fieldLink RX1 34 "CoatTraces$Coats" "heirs" "I", Cond.methodLink RX1 21 yX7_people, Cond.instanceMethod yX7_people, Cond.selects RX7 yX7_people yX7_people, Cond.initialized RX7, Cond.code yX7_people cX7_people 1 (some .int), Cond.fieldLink RX7 11 "CoatTraces$State" "cells" "[I", Cond.methodLink RX1 30 yX1_heirsOf, Cond.static yX1_heirsOf, Cond.code yX1_heirsOf cX1_heirsOf 5 (some .int), Cond.methodLink RX1 37 yX7_fact, Cond.instanceMethod yX7_fact, Cond.selects RX7 yX7_fact yX7_fact, Cond.code yX7_fact cX7_fact 3 (some .int), Cond.methodLink RX7 15 yX7_has]
def wsX10_reckonAll_r2 : List Cond := [Cond.instanceMethod yX7_has, Cond.selects RX7 yX7_has yX7_has, Cond.code yX7_has cX7_has 2 (some .boolean), Cond.methodLink RX1 45 yX7_isMan, Cond.instanceMethod yX7_isMan, Cond.selects RX7 yX7_isMan yX7_isMan, Cond.code yX7_isMan cX7_isMan 2 (some .boolean), Cond.methodLink RX7 23 yX7_fact, Cond.methodLink RX1 49 yX7_isWoman, Cond.instanceMethod yX7_isWoman, Cond.selects RX7 yX7_isWoman yX7_isWoman, Cond.code yX7_isWoman cX7_isWoman 2 (some .boolean), Cond.methodLink RX1 52 yX1_isIn, Cond.static yX1_isIn, Cond.code yX1_isIn cX1_isIn 2 (some .boolean), Cond.methodLink RX1 41 yX1_compose, Cond.instanceMethod yX1_compose, Cond.selects RX1 yX1_compose yX1_compose, Cond.code yX1_compose cX1_compose 7 none, Cond.fieldLink RX1 11 "CoatTraces$Coats" "sizes" "[I", Cond.methodLink RX1 60 yX7_ruleNow, Cond.instanceMethod yX7_ruleNow, Cond.selects RX7 yX7_ruleNow yX7_ruleNow, Cond.code yX7_ruleNow cX7_ruleNow 1 (some .int)]
def wsX10_reckonAll_r3 : List Cond := [Cond.methodLink RX1 63 yX1_take, Cond.instanceMethod yX1_take, Cond.selects RX1 yX1_take yX1_take, Cond.code yX1_take cX1_take 7 none, Cond.fieldLink RX1 15 "CoatTraces$Coats" "arms" "[I", Cond.fieldLink RX1 18 "CoatTraces$Coats" "through" "[I", Cond.methodLink RX1 67 yX1_armsAt, Cond.instanceMethod yX1_armsAt, Cond.selects RX1 yX1_armsAt yX1_armsAt, Cond.code yX1_armsAt cX1_armsAt 3 (some .int), Cond.methodLink RX1 56 yX1_sizeOf, Cond.instanceMethod yX1_sizeOf, Cond.selects RX1 yX1_sizeOf yX1_sizeOf, Cond.code yX1_sizeOf cX1_sizeOf 2 (some .int), Cond.methodLink RX1 70 yX1_throughAt, Cond.instanceMethod yX1_throughAt, Cond.selects RX1 yX1_throughAt yX1_throughAt, Cond.code yX1_throughAt cX1_throughAt 3 (some .int), Cond.methodLink RX1 73 yX1_takeFrom, Cond.instanceMethod yX1_takeFrom, Cond.selects RX1 yX1_takeFrom yX1_takeFrom, Cond.code yX1_takeFrom cX1_takeFrom 5 none, Cond.methodLink RX10 252 yX9_reckon, Cond.instanceMethod yX9_reckon]
def wsX10_reckonAll_r4 : List Cond := [Cond.selects RX9 yX9_reckon yX9_reckon, Cond.initialized RX9, Cond.code yX9_reckon cX9_reckon 2 none, Cond.fieldLink RX9 33 "CoatTraces$Years" "moments" "I", Cond.fieldLink RX9 51 "CoatTraces$Years" "spoiled" "Z", Cond.methodLink RX9 27 yX7_people, Cond.methodLink RX9 37 yX9_layBounds, Cond.instanceMethod yX9_layBounds, Cond.selects RX9 yX9_layBounds yX9_layBounds, Cond.code yX9_layBounds cX9_layBounds 3 none, Cond.fieldLink RX9 9 "CoatTraces$Years" "least" "[I", Cond.fieldLink RX9 15 "CoatTraces$Years" "greatest" "[I", Cond.methodLink RX9 58 yX9_birth, Cond.static yX9_birth, Cond.code yX9_birth cX9_birth 1 (some .int), Cond.methodLink RX9 62 yX7_fact, Cond.methodLink RX9 66 yX9_death, Cond.static yX9_death, Cond.code yX9_death cX9_death 1 (some .int), Cond.methodLink RX9 41 yX9_layGaps, Cond.instanceMethod yX9_layGaps, Cond.selects RX9 yX9_layGaps yX9_layGaps, Cond.code yX9_layGaps cX9_layGaps 5 none, Cond.fieldLink RX9 69 "CoatTraces$Years" "gaps" "I"]
def wsX10_reckonAll_r5 : List Cond := [Cond.methodLink RX9 72 yX9_addGap, Cond.instanceMethod yX9_addGap, Cond.selects RX9 yX9_addGap yX9_addGap, Cond.code yX9_addGap cX9_addGap 4 none, Cond.fieldLink RX9 24 "CoatTraces$Years" "gap" "[I", Cond.fieldLink RX9 18 "CoatTraces$Years" "earlier" "[I", Cond.fieldLink RX9 21 "CoatTraces$Years" "later" "[I", Cond.methodLink RX9 44 yX9_raiseLeast, Cond.instanceMethod yX9_raiseLeast, Cond.selects RX9 yX9_raiseLeast yX9_raiseLeast, Cond.code yX9_raiseLeast cX9_raiseLeast 5 (some .boolean), Cond.methodLink RX9 48 yX9_isCrossed, Cond.instanceMethod yX9_isCrossed, Cond.selects RX9 yX9_isCrossed yX9_isCrossed, Cond.code yX9_isCrossed cX9_isCrossed 2 (some .boolean), Cond.methodLink RX9 55 yX9_lowerGreatest, Cond.instanceMethod yX9_lowerGreatest, Cond.selects RX9 yX9_lowerGreatest yX9_lowerGreatest, Cond.code yX9_lowerGreatest cX9_lowerGreatest 5 none]
def wsX10_reckonAll : List Cond := .code yX10_reckonAll cX10_reckonAll 1 none :: ((wsX10_reckonAll_r1 ++ (wsX10_reckonAll_r2 ++ (wsX10_reckonAll_r3 ++ (wsX10_reckonAll_r4 ++ wsX10_reckonAll_r5)))) ++ wsX100 ++ wsX10 ++ wsX70 ++ wsX90)
def wsX10_put_r1 : List Cond := [Cond.fieldLink RX10 10 "CoatTraces" "state" "LCoatTraces$State;", Cond.constant RX10 117 (-1000000001), Cond.constant RX10 112 (-1000000002), Cond.constant RX10 170 (-1000000003), Cond.constant RX10 196 (-1000000004), Cond.fieldLink RX10 54 "CoatTraces" "past" "LCoatTraces$Past;", Cond.methodLink RX10 186 yX7_hasOrNone, Cond.instanceMethod yX7_hasOrNone, Cond.selects RX7 yX7_hasOrNone yX7_hasOrNone, Cond.initialized RX7, Cond.code yX7_hasOrNone cX7_hasOrNone 2 (some .boolean), Cond.methodLink RX7 15 yX7_has, Cond.instanceMethod yX7_has, Cond.selects RX7 yX7_has yX7_has, Cond.code yX7_has cX7_has 2 (some .boolean), Cond.fieldLink RX7 11 "CoatTraces$State" "cells" "[I", Cond.methodLink RX10 189 yX10_isArms, Cond.static yX10_isArms, Cond.initialized RX10, Cond.code yX10_isArms cX10_isArms 1 (some .boolean), Cond.methodLink RX10 164 yX7_isMan, Cond.instanceMethod yX7_isMan, Cond.selects RX7 yX7_isMan yX7_isMan, Cond.code yX7_isMan cX7_isMan 2 (some .boolean)]
def wsX10_put_r2 : List Cond := [Cond.methodLink RX7 23 yX7_fact, Cond.instanceMethod yX7_fact, Cond.selects RX7 yX7_fact yX7_fact, Cond.code yX7_fact cX7_fact 3 (some .int), Cond.methodLink RX10 167 yX7_isWoman, Cond.instanceMethod yX7_isWoman, Cond.selects RX7 yX7_isWoman yX7_isWoman, Cond.code yX7_isWoman cX7_isWoman 2 (some .boolean), Cond.methodLink RX10 192 yX7_hasRoom, Cond.instanceMethod yX7_hasRoom, Cond.selects RX7 yX7_hasRoom yX7_hasRoom, Cond.code yX7_hasRoom cX7_hasRoom 1 (some .boolean), Cond.methodLink RX7 19 yX7_people, Cond.instanceMethod yX7_people, Cond.selects RX7 yX7_people yX7_people, Cond.code yX7_people cX7_people 1 (some .int), Cond.methodLink RX10 197 yX5_remember, Cond.instanceMethod yX5_remember, Cond.selects RX5 yX5_remember yX5_remember, Cond.initialized RX5, Cond.code yX5_remember cX5_remember 2 none, Cond.fieldLink RX5 14 "CoatTraces$Past" "shelf" "LCoatTraces$Shelf;", Cond.fieldLink RX5 20 "CoatTraces$Past" "next" "I", Cond.fieldLink RX5 28 "CoatTraces$Past" "deeds" "I"]
def wsX10_put_r3 : List Cond := [Cond.methodLink RX5 31 Lib.Math.min.name, Cond.static Lib.Math.min.name, Cond.initialized "java/lang/Math", Cond.code Lib.Math.min.name Lib.Math.min.code 2 (some .int), Cond.methodLink RX5 24 yX6_lay, Cond.instanceMethod yX6_lay, Cond.selects RX6 yX6_lay yX6_lay, Cond.initialized RX6, Cond.code yX6_lay cX6_lay 3 none, Cond.fieldLink RX6 13 "CoatTraces$Shelf" "places" "I", Cond.fieldLink RX6 25 "CoatTraces$State" "cells" "[I", Cond.fieldLink RX6 21 "CoatTraces$Shelf" "rows" "[I", Cond.methodLink RX6 28 arraycopyName, Cond.native arraycopyName, Cond.static arraycopyName, Cond.initialized "java/lang/System", Cond.methodLink RX10 201 yX7_addPerson, Cond.instanceMethod yX7_addPerson, Cond.selects RX7 yX7_addPerson yX7_addPerson, Cond.code yX7_addPerson cX7_addPerson 6 none, Cond.methodLink RX7 27 yX7_hasRoom, Cond.methodLink RX10 205 yX10_reckonAll, Cond.instanceMethod yX10_reckonAll, Cond.selects RX10 yX10_reckonAll yX10_reckonAll]
def wsX10_put_r4 : List Cond := [Cond.code yX10_reckonAll cX10_reckonAll 1 none, Cond.fieldLink RX10 19 "CoatTraces" "coats" "LCoatTraces$Coats;", Cond.fieldLink RX10 26 "CoatTraces" "years" "LCoatTraces$Years;", Cond.methodLink RX10 216 yX1_reckon, Cond.instanceMethod yX1_reckon, Cond.selects RX1 yX1_reckon yX1_reckon, Cond.initialized RX1, Cond.code yX1_reckon cX1_reckon 3 none, Cond.fieldLink RX1 27 "CoatTraces$Coats" "people" "I", Cond.fieldLink RX1 34 "CoatTraces$Coats" "heirs" "I", Cond.methodLink RX1 21 yX7_people, Cond.methodLink RX1 30 yX1_heirsOf, Cond.static yX1_heirsOf, Cond.code yX1_heirsOf cX1_heirsOf 5 (some .int), Cond.methodLink RX1 37 yX7_fact, Cond.methodLink RX1 45 yX7_isMan, Cond.methodLink RX1 49 yX7_isWoman, Cond.methodLink RX1 52 yX1_isIn, Cond.static yX1_isIn, Cond.code yX1_isIn cX1_isIn 2 (some .boolean), Cond.methodLink RX1 41 yX1_compose, Cond.instanceMethod yX1_compose, Cond.selects RX1 yX1_compose yX1_compose, Cond.code yX1_compose cX1_compose 7 none]
def wsX10_put_r5 : List Cond := [Cond.fieldLink RX1 11 "CoatTraces$Coats" "sizes" "[I", Cond.methodLink RX1 60 yX7_ruleNow, Cond.instanceMethod yX7_ruleNow, Cond.selects RX7 yX7_ruleNow yX7_ruleNow, Cond.code yX7_ruleNow cX7_ruleNow 1 (some .int), Cond.methodLink RX1 63 yX1_take, Cond.instanceMethod yX1_take, Cond.selects RX1 yX1_take yX1_take, Cond.code yX1_take cX1_take 7 none, Cond.fieldLink RX1 15 "CoatTraces$Coats" "arms" "[I", Cond.fieldLink RX1 18 "CoatTraces$Coats" "through" "[I", Cond.methodLink RX1 67 yX1_armsAt, Cond.instanceMethod yX1_armsAt, Cond.selects RX1 yX1_armsAt yX1_armsAt, Cond.code yX1_armsAt cX1_armsAt 3 (some .int), Cond.methodLink RX1 56 yX1_sizeOf, Cond.instanceMethod yX1_sizeOf, Cond.selects RX1 yX1_sizeOf yX1_sizeOf, Cond.code yX1_sizeOf cX1_sizeOf 2 (some .int), Cond.methodLink RX1 70 yX1_throughAt, Cond.instanceMethod yX1_throughAt, Cond.selects RX1 yX1_throughAt yX1_throughAt, Cond.code yX1_throughAt cX1_throughAt 3 (some .int), Cond.methodLink RX1 73 yX1_takeFrom]
def wsX10_put_r6 : List Cond := [Cond.instanceMethod yX1_takeFrom, Cond.selects RX1 yX1_takeFrom yX1_takeFrom, Cond.code yX1_takeFrom cX1_takeFrom 5 none, Cond.methodLink RX10 252 yX9_reckon, Cond.instanceMethod yX9_reckon, Cond.selects RX9 yX9_reckon yX9_reckon, Cond.initialized RX9, Cond.code yX9_reckon cX9_reckon 2 none, Cond.fieldLink RX9 33 "CoatTraces$Years" "moments" "I", Cond.fieldLink RX9 51 "CoatTraces$Years" "spoiled" "Z", Cond.methodLink RX9 27 yX7_people, Cond.methodLink RX9 37 yX9_layBounds, Cond.instanceMethod yX9_layBounds, Cond.selects RX9 yX9_layBounds yX9_layBounds, Cond.code yX9_layBounds cX9_layBounds 3 none, Cond.fieldLink RX9 9 "CoatTraces$Years" "least" "[I", Cond.fieldLink RX9 15 "CoatTraces$Years" "greatest" "[I", Cond.methodLink RX9 58 yX9_birth, Cond.static yX9_birth, Cond.code yX9_birth cX9_birth 1 (some .int), Cond.methodLink RX9 62 yX7_fact, Cond.methodLink RX9 66 yX9_death, Cond.static yX9_death, Cond.code yX9_death cX9_death 1 (some .int)]
def wsX10_put_r7 : List Cond := [Cond.methodLink RX9 41 yX9_layGaps, Cond.instanceMethod yX9_layGaps, Cond.selects RX9 yX9_layGaps yX9_layGaps, Cond.code yX9_layGaps cX9_layGaps 5 none, Cond.fieldLink RX9 69 "CoatTraces$Years" "gaps" "I", Cond.methodLink RX9 72 yX9_addGap, Cond.instanceMethod yX9_addGap, Cond.selects RX9 yX9_addGap yX9_addGap, Cond.code yX9_addGap cX9_addGap 4 none, Cond.fieldLink RX9 24 "CoatTraces$Years" "gap" "[I", Cond.fieldLink RX9 18 "CoatTraces$Years" "earlier" "[I", Cond.fieldLink RX9 21 "CoatTraces$Years" "later" "[I", Cond.methodLink RX9 44 yX9_raiseLeast, Cond.instanceMethod yX9_raiseLeast, Cond.selects RX9 yX9_raiseLeast yX9_raiseLeast, Cond.code yX9_raiseLeast cX9_raiseLeast 5 (some .boolean), Cond.methodLink RX9 48 yX9_isCrossed, Cond.instanceMethod yX9_isCrossed, Cond.selects RX9 yX9_isCrossed yX9_isCrossed, Cond.code yX9_isCrossed cX9_isCrossed 2 (some .boolean), Cond.methodLink RX9 55 yX9_lowerGreatest, Cond.instanceMethod yX9_lowerGreatest, Cond.selects RX9 yX9_lowerGreatest yX9_lowerGreatest, Cond.code yX9_lowerGreatest cX9_lowerGreatest 5 none]
def wsX10_put_r8 : List Cond := [Cond.methodLink RX10 72 yX7_people]
def wsX10_put : List Cond := .code yX10_put cX10_put 5 (some .int) :: ((wsX10_put_r1 ++ (wsX10_put_r2 ++ (wsX10_put_r3 ++ (wsX10_put_r4 ++ (wsX10_put_r5 ++ (wsX10_put_r6 ++ (wsX10_put_r7 ++ wsX10_put_r8))))))) ++ wsX100 ++ wsX70 ++ wsX50 ++ wsX60 ++ wsX10 ++ wsX90)
def wsX10_boundYears_r1 : List Cond := [Cond.fieldLink RX10 10 "CoatTraces" "state" "LCoatTraces$State;", Cond.constant RX10 117 (-1000000001), Cond.constant RX10 112 (-1000000002), Cond.fieldLink RX10 54 "CoatTraces" "past" "LCoatTraces$Past;", Cond.fieldLink RX10 26 "CoatTraces" "years" "LCoatTraces$Years;", Cond.methodLink RX10 113 yX7_has, Cond.instanceMethod yX7_has, Cond.selects RX7 yX7_has yX7_has, Cond.initialized RX7, Cond.code yX7_has cX7_has 2 (some .boolean), Cond.fieldLink RX7 11 "CoatTraces$State" "cells" "[I", Cond.methodLink RX10 175 yX10_areYears, Cond.static yX10_areYears, Cond.initialized RX10, Cond.code yX10_areYears cX10_areYears 2 (some .boolean), Cond.methodLink RX10 197 yX5_remember, Cond.instanceMethod yX5_remember, Cond.selects RX5 yX5_remember yX5_remember, Cond.initialized RX5, Cond.code yX5_remember cX5_remember 2 none, Cond.fieldLink RX5 14 "CoatTraces$Past" "shelf" "LCoatTraces$Shelf;", Cond.fieldLink RX5 20 "CoatTraces$Past" "next" "I", Cond.fieldLink RX5 28 "CoatTraces$Past" "deeds" "I", Cond.methodLink RX5 31 Lib.Math.min.name]
def wsX10_boundYears_r2 : List Cond := [Cond.static Lib.Math.min.name, Cond.initialized "java/lang/Math", Cond.code Lib.Math.min.name Lib.Math.min.code 2 (some .int), Cond.methodLink RX5 24 yX6_lay, Cond.instanceMethod yX6_lay, Cond.selects RX6 yX6_lay yX6_lay, Cond.initialized RX6, Cond.code yX6_lay cX6_lay 3 none, Cond.fieldLink RX6 13 "CoatTraces$Shelf" "places" "I", Cond.fieldLink RX6 25 "CoatTraces$State" "cells" "[I", Cond.fieldLink RX6 21 "CoatTraces$Shelf" "rows" "[I", Cond.methodLink RX6 28 arraycopyName, Cond.native arraycopyName, Cond.static arraycopyName, Cond.initialized "java/lang/System", Cond.methodLink RX10 249 yX7_setBounds, Cond.instanceMethod yX7_setBounds, Cond.selects RX7 yX7_setBounds yX7_setBounds, Cond.code yX7_setBounds cX7_setBounds 6 none, Cond.methodLink RX7 15 yX7_has, Cond.methodLink RX10 252 yX9_reckon, Cond.instanceMethod yX9_reckon, Cond.selects RX9 yX9_reckon yX9_reckon, Cond.initialized RX9]
def wsX10_boundYears_r3 : List Cond := [Cond.code yX9_reckon cX9_reckon 2 none, Cond.fieldLink RX9 33 "CoatTraces$Years" "moments" "I", Cond.fieldLink RX9 51 "CoatTraces$Years" "spoiled" "Z", Cond.methodLink RX9 27 yX7_people, Cond.instanceMethod yX7_people, Cond.selects RX7 yX7_people yX7_people, Cond.code yX7_people cX7_people 1 (some .int), Cond.methodLink RX9 37 yX9_layBounds, Cond.instanceMethod yX9_layBounds, Cond.selects RX9 yX9_layBounds yX9_layBounds, Cond.code yX9_layBounds cX9_layBounds 3 none, Cond.fieldLink RX9 9 "CoatTraces$Years" "least" "[I", Cond.fieldLink RX9 15 "CoatTraces$Years" "greatest" "[I", Cond.methodLink RX9 58 yX9_birth, Cond.static yX9_birth, Cond.code yX9_birth cX9_birth 1 (some .int), Cond.methodLink RX9 62 yX7_fact, Cond.instanceMethod yX7_fact, Cond.selects RX7 yX7_fact yX7_fact, Cond.code yX7_fact cX7_fact 3 (some .int), Cond.methodLink RX9 66 yX9_death, Cond.static yX9_death, Cond.code yX9_death cX9_death 1 (some .int), Cond.methodLink RX9 41 yX9_layGaps]
def wsX10_boundYears_r4 : List Cond := [Cond.instanceMethod yX9_layGaps, Cond.selects RX9 yX9_layGaps yX9_layGaps, Cond.code yX9_layGaps cX9_layGaps 5 none, Cond.fieldLink RX9 69 "CoatTraces$Years" "gaps" "I", Cond.methodLink RX9 72 yX9_addGap, Cond.instanceMethod yX9_addGap, Cond.selects RX9 yX9_addGap yX9_addGap, Cond.code yX9_addGap cX9_addGap 4 none, Cond.fieldLink RX9 24 "CoatTraces$Years" "gap" "[I", Cond.fieldLink RX9 18 "CoatTraces$Years" "earlier" "[I", Cond.fieldLink RX9 21 "CoatTraces$Years" "later" "[I", Cond.methodLink RX9 44 yX9_raiseLeast, Cond.instanceMethod yX9_raiseLeast, Cond.selects RX9 yX9_raiseLeast yX9_raiseLeast, Cond.code yX9_raiseLeast cX9_raiseLeast 5 (some .boolean), Cond.methodLink RX9 48 yX9_isCrossed, Cond.instanceMethod yX9_isCrossed, Cond.selects RX9 yX9_isCrossed yX9_isCrossed, Cond.code yX9_isCrossed cX9_isCrossed 2 (some .boolean), Cond.methodLink RX9 55 yX9_lowerGreatest, Cond.instanceMethod yX9_lowerGreatest, Cond.selects RX9 yX9_lowerGreatest yX9_lowerGreatest, Cond.code yX9_lowerGreatest cX9_lowerGreatest 5 none, Cond.methodLink RX10 89 yX9_spoiledBit]
def wsX10_boundYears_r5 : List Cond := [Cond.instanceMethod yX9_spoiledBit, Cond.selects RX9 yX9_spoiledBit yX9_spoiledBit, Cond.code yX9_spoiledBit cX9_spoiledBit 1 (some .int)]
def wsX10_boundYears : List Cond := .code yX10_boundYears cX10_boundYears 5 (some .int) :: ((wsX10_boundYears_r1 ++ (wsX10_boundYears_r2 ++ (wsX10_boundYears_r3 ++ (wsX10_boundYears_r4 ++ wsX10_boundYears_r5)))) ++ wsX100 ++ wsX70 ++ wsX50 ++ wsX60 ++ wsX90)
def wsX10_born_r1 : List Cond := [Cond.methodLink RX10 208 yX10_boundYears, Cond.instanceMethod yX10_boundYears, Cond.selects RX10 yX10_boundYears yX10_boundYears, Cond.initialized RX10, Cond.code yX10_boundYears cX10_boundYears 5 (some .int), Cond.fieldLink RX10 10 "CoatTraces" "state" "LCoatTraces$State;", Cond.constant RX10 117 (-1000000001), Cond.constant RX10 112 (-1000000002), Cond.fieldLink RX10 54 "CoatTraces" "past" "LCoatTraces$Past;", Cond.fieldLink RX10 26 "CoatTraces" "years" "LCoatTraces$Years;", Cond.methodLink RX10 113 yX7_has, Cond.instanceMethod yX7_has, Cond.selects RX7 yX7_has yX7_has, Cond.initialized RX7, Cond.code yX7_has cX7_has 2 (some .boolean), Cond.fieldLink RX7 11 "CoatTraces$State" "cells" "[I", Cond.methodLink RX10 175 yX10_areYears, Cond.static yX10_areYears, Cond.code yX10_areYears cX10_areYears 2 (some .boolean), Cond.methodLink RX10 197 yX5_remember, Cond.instanceMethod yX5_remember, Cond.selects RX5 yX5_remember yX5_remember, Cond.initialized RX5, Cond.code yX5_remember cX5_remember 2 none]
def wsX10_born_r2 : List Cond := [Cond.fieldLink RX5 14 "CoatTraces$Past" "shelf" "LCoatTraces$Shelf;", Cond.fieldLink RX5 20 "CoatTraces$Past" "next" "I", Cond.fieldLink RX5 28 "CoatTraces$Past" "deeds" "I", Cond.methodLink RX5 31 Lib.Math.min.name, Cond.static Lib.Math.min.name, Cond.initialized "java/lang/Math", Cond.code Lib.Math.min.name Lib.Math.min.code 2 (some .int), Cond.methodLink RX5 24 yX6_lay, Cond.instanceMethod yX6_lay, Cond.selects RX6 yX6_lay yX6_lay, Cond.initialized RX6, Cond.code yX6_lay cX6_lay 3 none, Cond.fieldLink RX6 13 "CoatTraces$Shelf" "places" "I", Cond.fieldLink RX6 25 "CoatTraces$State" "cells" "[I", Cond.fieldLink RX6 21 "CoatTraces$Shelf" "rows" "[I", Cond.methodLink RX6 28 arraycopyName, Cond.native arraycopyName, Cond.static arraycopyName, Cond.initialized "java/lang/System", Cond.methodLink RX10 249 yX7_setBounds, Cond.instanceMethod yX7_setBounds, Cond.selects RX7 yX7_setBounds yX7_setBounds, Cond.code yX7_setBounds cX7_setBounds 6 none, Cond.methodLink RX7 15 yX7_has]
def wsX10_born_r3 : List Cond := [Cond.methodLink RX10 252 yX9_reckon, Cond.instanceMethod yX9_reckon, Cond.selects RX9 yX9_reckon yX9_reckon, Cond.initialized RX9, Cond.code yX9_reckon cX9_reckon 2 none, Cond.fieldLink RX9 33 "CoatTraces$Years" "moments" "I", Cond.fieldLink RX9 51 "CoatTraces$Years" "spoiled" "Z", Cond.methodLink RX9 27 yX7_people, Cond.instanceMethod yX7_people, Cond.selects RX7 yX7_people yX7_people, Cond.code yX7_people cX7_people 1 (some .int), Cond.methodLink RX9 37 yX9_layBounds, Cond.instanceMethod yX9_layBounds, Cond.selects RX9 yX9_layBounds yX9_layBounds, Cond.code yX9_layBounds cX9_layBounds 3 none, Cond.fieldLink RX9 9 "CoatTraces$Years" "least" "[I", Cond.fieldLink RX9 15 "CoatTraces$Years" "greatest" "[I", Cond.methodLink RX9 58 yX9_birth, Cond.static yX9_birth, Cond.code yX9_birth cX9_birth 1 (some .int), Cond.methodLink RX9 62 yX7_fact, Cond.instanceMethod yX7_fact, Cond.selects RX7 yX7_fact yX7_fact, Cond.code yX7_fact cX7_fact 3 (some .int)]
def wsX10_born_r4 : List Cond := [Cond.methodLink RX9 66 yX9_death, Cond.static yX9_death, Cond.code yX9_death cX9_death 1 (some .int), Cond.methodLink RX9 41 yX9_layGaps, Cond.instanceMethod yX9_layGaps, Cond.selects RX9 yX9_layGaps yX9_layGaps, Cond.code yX9_layGaps cX9_layGaps 5 none, Cond.fieldLink RX9 69 "CoatTraces$Years" "gaps" "I", Cond.methodLink RX9 72 yX9_addGap, Cond.instanceMethod yX9_addGap, Cond.selects RX9 yX9_addGap yX9_addGap, Cond.code yX9_addGap cX9_addGap 4 none, Cond.fieldLink RX9 24 "CoatTraces$Years" "gap" "[I", Cond.fieldLink RX9 18 "CoatTraces$Years" "earlier" "[I", Cond.fieldLink RX9 21 "CoatTraces$Years" "later" "[I", Cond.methodLink RX9 44 yX9_raiseLeast, Cond.instanceMethod yX9_raiseLeast, Cond.selects RX9 yX9_raiseLeast yX9_raiseLeast, Cond.code yX9_raiseLeast cX9_raiseLeast 5 (some .boolean), Cond.methodLink RX9 48 yX9_isCrossed, Cond.instanceMethod yX9_isCrossed, Cond.selects RX9 yX9_isCrossed yX9_isCrossed, Cond.code yX9_isCrossed cX9_isCrossed 2 (some .boolean), Cond.methodLink RX9 55 yX9_lowerGreatest]
def wsX10_born_r5 : List Cond := [Cond.instanceMethod yX9_lowerGreatest, Cond.selects RX9 yX9_lowerGreatest yX9_lowerGreatest, Cond.code yX9_lowerGreatest cX9_lowerGreatest 5 none, Cond.methodLink RX10 89 yX9_spoiledBit, Cond.instanceMethod yX9_spoiledBit, Cond.selects RX9 yX9_spoiledBit yX9_spoiledBit, Cond.code yX9_spoiledBit cX9_spoiledBit 1 (some .int)]
def wsX10_born : List Cond := .code yX10_born cX10_born 4 (some .int) :: ((wsX10_born_r1 ++ (wsX10_born_r2 ++ (wsX10_born_r3 ++ (wsX10_born_r4 ++ wsX10_born_r5)))) ++ wsX100 ++ wsX70 ++ wsX50 ++ wsX60 ++ wsX90)
def wsX10_died_r1 : List Cond := [Cond.methodLink RX10 208 yX10_boundYears, Cond.instanceMethod yX10_boundYears, Cond.selects RX10 yX10_boundYears yX10_boundYears, Cond.initialized RX10, Cond.code yX10_boundYears cX10_boundYears 5 (some .int), Cond.fieldLink RX10 10 "CoatTraces" "state" "LCoatTraces$State;", Cond.constant RX10 117 (-1000000001), Cond.constant RX10 112 (-1000000002), Cond.fieldLink RX10 54 "CoatTraces" "past" "LCoatTraces$Past;", Cond.fieldLink RX10 26 "CoatTraces" "years" "LCoatTraces$Years;", Cond.methodLink RX10 113 yX7_has, Cond.instanceMethod yX7_has, Cond.selects RX7 yX7_has yX7_has, Cond.initialized RX7, Cond.code yX7_has cX7_has 2 (some .boolean), Cond.fieldLink RX7 11 "CoatTraces$State" "cells" "[I", Cond.methodLink RX10 175 yX10_areYears, Cond.static yX10_areYears, Cond.code yX10_areYears cX10_areYears 2 (some .boolean), Cond.methodLink RX10 197 yX5_remember, Cond.instanceMethod yX5_remember, Cond.selects RX5 yX5_remember yX5_remember, Cond.initialized RX5, Cond.code yX5_remember cX5_remember 2 none]
def wsX10_died_r2 : List Cond := [Cond.fieldLink RX5 14 "CoatTraces$Past" "shelf" "LCoatTraces$Shelf;", Cond.fieldLink RX5 20 "CoatTraces$Past" "next" "I", Cond.fieldLink RX5 28 "CoatTraces$Past" "deeds" "I", Cond.methodLink RX5 31 Lib.Math.min.name, Cond.static Lib.Math.min.name, Cond.initialized "java/lang/Math", Cond.code Lib.Math.min.name Lib.Math.min.code 2 (some .int), Cond.methodLink RX5 24 yX6_lay, Cond.instanceMethod yX6_lay, Cond.selects RX6 yX6_lay yX6_lay, Cond.initialized RX6, Cond.code yX6_lay cX6_lay 3 none, Cond.fieldLink RX6 13 "CoatTraces$Shelf" "places" "I", Cond.fieldLink RX6 25 "CoatTraces$State" "cells" "[I", Cond.fieldLink RX6 21 "CoatTraces$Shelf" "rows" "[I", Cond.methodLink RX6 28 arraycopyName, Cond.native arraycopyName, Cond.static arraycopyName, Cond.initialized "java/lang/System", Cond.methodLink RX10 249 yX7_setBounds, Cond.instanceMethod yX7_setBounds, Cond.selects RX7 yX7_setBounds yX7_setBounds, Cond.code yX7_setBounds cX7_setBounds 6 none, Cond.methodLink RX7 15 yX7_has]
def wsX10_died_r3 : List Cond := [Cond.methodLink RX10 252 yX9_reckon, Cond.instanceMethod yX9_reckon, Cond.selects RX9 yX9_reckon yX9_reckon, Cond.initialized RX9, Cond.code yX9_reckon cX9_reckon 2 none, Cond.fieldLink RX9 33 "CoatTraces$Years" "moments" "I", Cond.fieldLink RX9 51 "CoatTraces$Years" "spoiled" "Z", Cond.methodLink RX9 27 yX7_people, Cond.instanceMethod yX7_people, Cond.selects RX7 yX7_people yX7_people, Cond.code yX7_people cX7_people 1 (some .int), Cond.methodLink RX9 37 yX9_layBounds, Cond.instanceMethod yX9_layBounds, Cond.selects RX9 yX9_layBounds yX9_layBounds, Cond.code yX9_layBounds cX9_layBounds 3 none, Cond.fieldLink RX9 9 "CoatTraces$Years" "least" "[I", Cond.fieldLink RX9 15 "CoatTraces$Years" "greatest" "[I", Cond.methodLink RX9 58 yX9_birth, Cond.static yX9_birth, Cond.code yX9_birth cX9_birth 1 (some .int), Cond.methodLink RX9 62 yX7_fact, Cond.instanceMethod yX7_fact, Cond.selects RX7 yX7_fact yX7_fact, Cond.code yX7_fact cX7_fact 3 (some .int)]
def wsX10_died_r4 : List Cond := [Cond.methodLink RX9 66 yX9_death, Cond.static yX9_death, Cond.code yX9_death cX9_death 1 (some .int), Cond.methodLink RX9 41 yX9_layGaps, Cond.instanceMethod yX9_layGaps, Cond.selects RX9 yX9_layGaps yX9_layGaps, Cond.code yX9_layGaps cX9_layGaps 5 none, Cond.fieldLink RX9 69 "CoatTraces$Years" "gaps" "I", Cond.methodLink RX9 72 yX9_addGap, Cond.instanceMethod yX9_addGap, Cond.selects RX9 yX9_addGap yX9_addGap, Cond.code yX9_addGap cX9_addGap 4 none, Cond.fieldLink RX9 24 "CoatTraces$Years" "gap" "[I", Cond.fieldLink RX9 18 "CoatTraces$Years" "earlier" "[I", Cond.fieldLink RX9 21 "CoatTraces$Years" "later" "[I", Cond.methodLink RX9 44 yX9_raiseLeast, Cond.instanceMethod yX9_raiseLeast, Cond.selects RX9 yX9_raiseLeast yX9_raiseLeast, Cond.code yX9_raiseLeast cX9_raiseLeast 5 (some .boolean), Cond.methodLink RX9 48 yX9_isCrossed, Cond.instanceMethod yX9_isCrossed, Cond.selects RX9 yX9_isCrossed yX9_isCrossed, Cond.code yX9_isCrossed cX9_isCrossed 2 (some .boolean), Cond.methodLink RX9 55 yX9_lowerGreatest]
def wsX10_died_r5 : List Cond := [Cond.instanceMethod yX9_lowerGreatest, Cond.selects RX9 yX9_lowerGreatest yX9_lowerGreatest, Cond.code yX9_lowerGreatest cX9_lowerGreatest 5 none, Cond.methodLink RX10 89 yX9_spoiledBit, Cond.instanceMethod yX9_spoiledBit, Cond.selects RX9 yX9_spoiledBit yX9_spoiledBit, Cond.code yX9_spoiledBit cX9_spoiledBit 1 (some .int)]
def wsX10_died : List Cond := .code yX10_died cX10_died 4 (some .int) :: ((wsX10_died_r1 ++ (wsX10_died_r2 ++ (wsX10_died_r3 ++ (wsX10_died_r4 ++ wsX10_died_r5)))) ++ wsX100 ++ wsX70 ++ wsX50 ++ wsX60 ++ wsX90)
def wsX10_rule_r1 : List Cond := [Cond.constant RX10 112 (-1000000002), Cond.fieldLink RX10 54 "CoatTraces" "past" "LCoatTraces$Past;", Cond.fieldLink RX10 10 "CoatTraces" "state" "LCoatTraces$State;", Cond.fieldLink RX10 19 "CoatTraces" "coats" "LCoatTraces$Coats;", Cond.methodLink RX10 197 yX5_remember, Cond.instanceMethod yX5_remember, Cond.selects RX5 yX5_remember yX5_remember, Cond.initialized RX5, Cond.code yX5_remember cX5_remember 2 none, Cond.fieldLink RX5 14 "CoatTraces$Past" "shelf" "LCoatTraces$Shelf;", Cond.fieldLink RX5 20 "CoatTraces$Past" "next" "I", Cond.fieldLink RX5 28 "CoatTraces$Past" "deeds" "I", Cond.methodLink RX5 31 Lib.Math.min.name, Cond.static Lib.Math.min.name, Cond.initialized "java/lang/Math", Cond.code Lib.Math.min.name Lib.Math.min.code 2 (some .int), Cond.methodLink RX5 24 yX6_lay, Cond.instanceMethod yX6_lay, Cond.selects RX6 yX6_lay yX6_lay, Cond.initialized RX6, Cond.code yX6_lay cX6_lay 3 none, Cond.fieldLink RX6 13 "CoatTraces$Shelf" "places" "I", Cond.fieldLink RX6 25 "CoatTraces$State" "cells" "[I", Cond.fieldLink RX6 21 "CoatTraces$Shelf" "rows" "[I"]
def wsX10_rule_r2 : List Cond := [Cond.methodLink RX6 28 arraycopyName, Cond.native arraycopyName, Cond.static arraycopyName, Cond.initialized "java/lang/System", Cond.methodLink RX10 212 yX7_setRule, Cond.instanceMethod yX7_setRule, Cond.selects RX7 yX7_setRule yX7_setRule, Cond.initialized RX7, Cond.code yX7_setRule cX7_setRule 2 none, Cond.fieldLink RX7 11 "CoatTraces$State" "cells" "[I", Cond.methodLink RX10 216 yX1_reckon, Cond.instanceMethod yX1_reckon, Cond.selects RX1 yX1_reckon yX1_reckon, Cond.initialized RX1, Cond.code yX1_reckon cX1_reckon 3 none, Cond.fieldLink RX1 27 "CoatTraces$Coats" "people" "I", Cond.fieldLink RX1 34 "CoatTraces$Coats" "heirs" "I", Cond.methodLink RX1 21 yX7_people, Cond.instanceMethod yX7_people, Cond.selects RX7 yX7_people yX7_people, Cond.code yX7_people cX7_people 1 (some .int), Cond.methodLink RX1 30 yX1_heirsOf, Cond.static yX1_heirsOf, Cond.code yX1_heirsOf cX1_heirsOf 5 (some .int)]
def wsX10_rule_r3 : List Cond := [Cond.methodLink RX1 37 yX7_fact, Cond.instanceMethod yX7_fact, Cond.selects RX7 yX7_fact yX7_fact, Cond.code yX7_fact cX7_fact 3 (some .int), Cond.methodLink RX7 15 yX7_has, Cond.instanceMethod yX7_has, Cond.selects RX7 yX7_has yX7_has, Cond.code yX7_has cX7_has 2 (some .boolean), Cond.methodLink RX1 45 yX7_isMan, Cond.instanceMethod yX7_isMan, Cond.selects RX7 yX7_isMan yX7_isMan, Cond.code yX7_isMan cX7_isMan 2 (some .boolean), Cond.methodLink RX7 23 yX7_fact, Cond.methodLink RX1 49 yX7_isWoman, Cond.instanceMethod yX7_isWoman, Cond.selects RX7 yX7_isWoman yX7_isWoman, Cond.code yX7_isWoman cX7_isWoman 2 (some .boolean), Cond.methodLink RX1 52 yX1_isIn, Cond.static yX1_isIn, Cond.code yX1_isIn cX1_isIn 2 (some .boolean), Cond.methodLink RX1 41 yX1_compose, Cond.instanceMethod yX1_compose, Cond.selects RX1 yX1_compose yX1_compose, Cond.code yX1_compose cX1_compose 7 none]
def wsX10_rule_r4 : List Cond := [Cond.fieldLink RX1 11 "CoatTraces$Coats" "sizes" "[I", Cond.methodLink RX1 60 yX7_ruleNow, Cond.instanceMethod yX7_ruleNow, Cond.selects RX7 yX7_ruleNow yX7_ruleNow, Cond.code yX7_ruleNow cX7_ruleNow 1 (some .int), Cond.methodLink RX1 63 yX1_take, Cond.instanceMethod yX1_take, Cond.selects RX1 yX1_take yX1_take, Cond.code yX1_take cX1_take 7 none, Cond.fieldLink RX1 15 "CoatTraces$Coats" "arms" "[I", Cond.fieldLink RX1 18 "CoatTraces$Coats" "through" "[I", Cond.methodLink RX1 67 yX1_armsAt, Cond.instanceMethod yX1_armsAt, Cond.selects RX1 yX1_armsAt yX1_armsAt, Cond.code yX1_armsAt cX1_armsAt 3 (some .int), Cond.methodLink RX1 56 yX1_sizeOf, Cond.instanceMethod yX1_sizeOf, Cond.selects RX1 yX1_sizeOf yX1_sizeOf, Cond.code yX1_sizeOf cX1_sizeOf 2 (some .int), Cond.methodLink RX1 70 yX1_throughAt, Cond.instanceMethod yX1_throughAt, Cond.selects RX1 yX1_throughAt yX1_throughAt, Cond.code yX1_throughAt cX1_throughAt 3 (some .int), Cond.methodLink RX1 73 yX1_takeFrom]
def wsX10_rule_r5 : List Cond := [Cond.instanceMethod yX1_takeFrom, Cond.selects RX1 yX1_takeFrom yX1_takeFrom, Cond.code yX1_takeFrom cX1_takeFrom 5 none, Cond.methodLink RX10 86 yX1_unlikeCoats, Cond.instanceMethod yX1_unlikeCoats, Cond.selects RX1 yX1_unlikeCoats yX1_unlikeCoats, Cond.code yX1_unlikeCoats cX1_unlikeCoats 4 (some .int), Cond.methodLink RX1 79 yX1_sameAs, Cond.instanceMethod yX1_sameAs, Cond.selects RX1 yX1_sameAs yX1_sameAs, Cond.code yX1_sameAs cX1_sameAs 4 (some .int), Cond.methodLink RX1 76 yX1_isSame, Cond.instanceMethod yX1_isSame, Cond.selects RX1 yX1_isSame yX1_isSame, Cond.code yX1_isSame cX1_isSame 4 (some .boolean)]
def wsX10_rule : List Cond := .code yX10_rule cX10_rule 2 (some .int) :: ((wsX10_rule_r1 ++ (wsX10_rule_r2 ++ (wsX10_rule_r3 ++ (wsX10_rule_r4 ++ wsX10_rule_r5)))) ++ wsX100 ++ wsX50 ++ wsX60 ++ wsX70 ++ wsX10)
def wsX10_sign_r1 : List Cond := [Cond.constant RX10 112 (-1000000002), Cond.fieldLink RX10 10 "CoatTraces" "state" "LCoatTraces$State;", Cond.constant RX10 196 (-1000000004), Cond.fieldLink RX10 54 "CoatTraces" "past" "LCoatTraces$Past;", Cond.methodLink RX10 79 yX7_signs, Cond.instanceMethod yX7_signs, Cond.selects RX7 yX7_signs yX7_signs, Cond.initialized RX7, Cond.code yX7_signs cX7_signs 1 (some .int), Cond.fieldLink RX7 11 "CoatTraces$State" "cells" "[I", Cond.methodLink RX10 197 yX5_remember, Cond.instanceMethod yX5_remember, Cond.selects RX5 yX5_remember yX5_remember, Cond.initialized RX5, Cond.code yX5_remember cX5_remember 2 none, Cond.fieldLink RX5 14 "CoatTraces$Past" "shelf" "LCoatTraces$Shelf;", Cond.fieldLink RX5 20 "CoatTraces$Past" "next" "I", Cond.fieldLink RX5 28 "CoatTraces$Past" "deeds" "I", Cond.methodLink RX5 31 Lib.Math.min.name, Cond.static Lib.Math.min.name, Cond.initialized "java/lang/Math", Cond.code Lib.Math.min.name Lib.Math.min.code 2 (some .int), Cond.methodLink RX5 24 yX6_lay, Cond.instanceMethod yX6_lay]
def wsX10_sign_r2 : List Cond := [Cond.selects RX6 yX6_lay yX6_lay, Cond.initialized RX6, Cond.code yX6_lay cX6_lay 3 none, Cond.fieldLink RX6 13 "CoatTraces$Shelf" "places" "I", Cond.fieldLink RX6 25 "CoatTraces$State" "cells" "[I", Cond.fieldLink RX6 21 "CoatTraces$Shelf" "rows" "[I", Cond.methodLink RX6 28 arraycopyName, Cond.native arraycopyName, Cond.static arraycopyName, Cond.initialized "java/lang/System", Cond.methodLink RX10 219 yX7_addSign, Cond.instanceMethod yX7_addSign, Cond.selects RX7 yX7_addSign yX7_addSign, Cond.code yX7_addSign cX7_addSign 2 none, Cond.methodLink RX7 31 yX7_signs]
def wsX10_sign : List Cond := .code yX10_sign cX10_sign 2 (some .int) :: ((wsX10_sign_r1 ++ wsX10_sign_r2) ++ wsX100 ++ wsX70 ++ wsX50 ++ wsX60)
def wsX10_wipe_r1 : List Cond := [Cond.fieldLink RX10 10 "CoatTraces" "state" "LCoatTraces$State;", Cond.fieldLink RX10 54 "CoatTraces" "past" "LCoatTraces$Past;", Cond.methodLink RX10 79 yX7_signs, Cond.instanceMethod yX7_signs, Cond.selects RX7 yX7_signs yX7_signs, Cond.initialized RX7, Cond.code yX7_signs cX7_signs 1 (some .int), Cond.fieldLink RX7 11 "CoatTraces$State" "cells" "[I", Cond.methodLink RX10 197 yX5_remember, Cond.instanceMethod yX5_remember, Cond.selects RX5 yX5_remember yX5_remember, Cond.initialized RX5, Cond.code yX5_remember cX5_remember 2 none, Cond.fieldLink RX5 14 "CoatTraces$Past" "shelf" "LCoatTraces$Shelf;", Cond.fieldLink RX5 20 "CoatTraces$Past" "next" "I", Cond.fieldLink RX5 28 "CoatTraces$Past" "deeds" "I", Cond.methodLink RX5 31 Lib.Math.min.name, Cond.static Lib.Math.min.name, Cond.initialized "java/lang/Math", Cond.code Lib.Math.min.name Lib.Math.min.code 2 (some .int), Cond.methodLink RX5 24 yX6_lay, Cond.instanceMethod yX6_lay, Cond.selects RX6 yX6_lay yX6_lay, Cond.initialized RX6]
def wsX10_wipe_r2 : List Cond := [Cond.code yX6_lay cX6_lay 3 none, Cond.fieldLink RX6 13 "CoatTraces$Shelf" "places" "I", Cond.fieldLink RX6 25 "CoatTraces$State" "cells" "[I", Cond.fieldLink RX6 21 "CoatTraces$Shelf" "rows" "[I", Cond.methodLink RX6 28 arraycopyName, Cond.native arraycopyName, Cond.static arraycopyName, Cond.initialized "java/lang/System", Cond.methodLink RX10 222 yX7_clearSigns, Cond.instanceMethod yX7_clearSigns, Cond.selects RX7 yX7_clearSigns yX7_clearSigns, Cond.code yX7_clearSigns cX7_clearSigns 1 none]
def wsX10_wipe : List Cond := .code yX10_wipe cX10_wipe 2 (some .int) :: ((wsX10_wipe_r1 ++ wsX10_wipe_r2) ++ wsX100 ++ wsX70 ++ wsX50 ++ wsX60)
def wsX10_drift_r1 : List Cond := [Cond.constant RX10 112 (-1000000002), Cond.fieldLink RX10 10 "CoatTraces" "state" "LCoatTraces$State;", Cond.fieldLink RX10 54 "CoatTraces" "past" "LCoatTraces$Past;", Cond.fieldLink RX10 68 "CoatTraces" "draws" "LCoatTraces$Draws;", Cond.methodLink RX10 192 yX7_hasRoom, Cond.instanceMethod yX7_hasRoom, Cond.selects RX7 yX7_hasRoom yX7_hasRoom, Cond.initialized RX7, Cond.code yX7_hasRoom cX7_hasRoom 1 (some .boolean), Cond.methodLink RX7 19 yX7_people, Cond.instanceMethod yX7_people, Cond.selects RX7 yX7_people yX7_people, Cond.code yX7_people cX7_people 1 (some .int), Cond.fieldLink RX7 11 "CoatTraces$State" "cells" "[I", Cond.methodLink RX10 197 yX5_remember, Cond.instanceMethod yX5_remember, Cond.selects RX5 yX5_remember yX5_remember, Cond.initialized RX5, Cond.code yX5_remember cX5_remember 2 none, Cond.fieldLink RX5 14 "CoatTraces$Past" "shelf" "LCoatTraces$Shelf;", Cond.fieldLink RX5 20 "CoatTraces$Past" "next" "I", Cond.fieldLink RX5 28 "CoatTraces$Past" "deeds" "I", Cond.methodLink RX5 31 Lib.Math.min.name, Cond.static Lib.Math.min.name]
def wsX10_drift_r2 : List Cond := [Cond.initialized "java/lang/Math", Cond.code Lib.Math.min.name Lib.Math.min.code 2 (some .int), Cond.methodLink RX5 24 yX6_lay, Cond.instanceMethod yX6_lay, Cond.selects RX6 yX6_lay yX6_lay, Cond.initialized RX6, Cond.code yX6_lay cX6_lay 3 none, Cond.fieldLink RX6 13 "CoatTraces$Shelf" "places" "I", Cond.fieldLink RX6 25 "CoatTraces$State" "cells" "[I", Cond.fieldLink RX6 21 "CoatTraces$Shelf" "rows" "[I", Cond.methodLink RX6 28 arraycopyName, Cond.native arraycopyName, Cond.static arraycopyName, Cond.initialized "java/lang/System", Cond.methodLink RX10 225 yX2_addOne, Cond.instanceMethod yX2_addOne, Cond.selects RX2 yX2_addOne yX2_addOne, Cond.initialized RX2, Cond.code yX2_addOne cX2_addOne 6 none, Cond.methodLink RX2 18 yX2_draw, Cond.instanceMethod yX2_draw, Cond.selects RX2 yX2_draw yX2_draw, Cond.code yX2_draw cX2_draw 2 (some .int), Cond.fieldLink RX2 9 "CoatTraces$Draws" "seedNow" "I"]
def wsX10_drift_r3 : List Cond := [Cond.constant RX2 15 (1103515245), Cond.constant RX2 16 (2147483647), Cond.constant RX2 17 (65536), Cond.methodLink RX2 22 yX7_people, Cond.methodLink RX2 28 yX7_isMan, Cond.instanceMethod yX7_isMan, Cond.selects RX7 yX7_isMan yX7_isMan, Cond.code yX7_isMan cX7_isMan 2 (some .boolean), Cond.methodLink RX7 23 yX7_fact, Cond.instanceMethod yX7_fact, Cond.selects RX7 yX7_fact yX7_fact, Cond.code yX7_fact cX7_fact 3 (some .int), Cond.methodLink RX7 15 yX7_has, Cond.instanceMethod yX7_has, Cond.selects RX7 yX7_has yX7_has, Cond.code yX7_has cX7_has 2 (some .boolean), Cond.methodLink RX2 32 yX7_isWoman, Cond.instanceMethod yX7_isWoman, Cond.selects RX7 yX7_isWoman yX7_isWoman, Cond.code yX7_isWoman cX7_isWoman 2 (some .boolean), Cond.methodLink RX2 35 yX7_addPerson, Cond.instanceMethod yX7_addPerson, Cond.selects RX7 yX7_addPerson yX7_addPerson, Cond.code yX7_addPerson cX7_addPerson 6 none]
def wsX10_drift_r4 : List Cond := [Cond.methodLink RX7 27 yX7_hasRoom, Cond.methodLink RX10 205 yX10_reckonAll, Cond.instanceMethod yX10_reckonAll, Cond.selects RX10 yX10_reckonAll yX10_reckonAll, Cond.initialized RX10, Cond.code yX10_reckonAll cX10_reckonAll 1 none, Cond.fieldLink RX10 19 "CoatTraces" "coats" "LCoatTraces$Coats;", Cond.fieldLink RX10 26 "CoatTraces" "years" "LCoatTraces$Years;", Cond.methodLink RX10 216 yX1_reckon, Cond.instanceMethod yX1_reckon, Cond.selects RX1 yX1_reckon yX1_reckon, Cond.initialized RX1, Cond.code yX1_reckon cX1_reckon 3 none, Cond.fieldLink RX1 27 "CoatTraces$Coats" "people" "I", Cond.fieldLink RX1 34 "CoatTraces$Coats" "heirs" "I", Cond.methodLink RX1 21 yX7_people, Cond.methodLink RX1 30 yX1_heirsOf, Cond.static yX1_heirsOf, Cond.code yX1_heirsOf cX1_heirsOf 5 (some .int), Cond.methodLink RX1 37 yX7_fact, Cond.methodLink RX1 45 yX7_isMan, Cond.methodLink RX1 49 yX7_isWoman, Cond.methodLink RX1 52 yX1_isIn, Cond.static yX1_isIn]
def wsX10_drift_r5 : List Cond := [Cond.code yX1_isIn cX1_isIn 2 (some .boolean), Cond.methodLink RX1 41 yX1_compose, Cond.instanceMethod yX1_compose, Cond.selects RX1 yX1_compose yX1_compose, Cond.code yX1_compose cX1_compose 7 none, Cond.fieldLink RX1 11 "CoatTraces$Coats" "sizes" "[I", Cond.methodLink RX1 60 yX7_ruleNow, Cond.instanceMethod yX7_ruleNow, Cond.selects RX7 yX7_ruleNow yX7_ruleNow, Cond.code yX7_ruleNow cX7_ruleNow 1 (some .int), Cond.methodLink RX1 63 yX1_take, Cond.instanceMethod yX1_take, Cond.selects RX1 yX1_take yX1_take, Cond.code yX1_take cX1_take 7 none, Cond.fieldLink RX1 15 "CoatTraces$Coats" "arms" "[I", Cond.fieldLink RX1 18 "CoatTraces$Coats" "through" "[I", Cond.methodLink RX1 67 yX1_armsAt, Cond.instanceMethod yX1_armsAt, Cond.selects RX1 yX1_armsAt yX1_armsAt, Cond.code yX1_armsAt cX1_armsAt 3 (some .int), Cond.methodLink RX1 56 yX1_sizeOf, Cond.instanceMethod yX1_sizeOf, Cond.selects RX1 yX1_sizeOf yX1_sizeOf, Cond.code yX1_sizeOf cX1_sizeOf 2 (some .int)]
def wsX10_drift_r6 : List Cond := [Cond.methodLink RX1 70 yX1_throughAt, Cond.instanceMethod yX1_throughAt, Cond.selects RX1 yX1_throughAt yX1_throughAt, Cond.code yX1_throughAt cX1_throughAt 3 (some .int), Cond.methodLink RX1 73 yX1_takeFrom, Cond.instanceMethod yX1_takeFrom, Cond.selects RX1 yX1_takeFrom yX1_takeFrom, Cond.code yX1_takeFrom cX1_takeFrom 5 none, Cond.methodLink RX10 252 yX9_reckon, Cond.instanceMethod yX9_reckon, Cond.selects RX9 yX9_reckon yX9_reckon, Cond.initialized RX9, Cond.code yX9_reckon cX9_reckon 2 none, Cond.fieldLink RX9 33 "CoatTraces$Years" "moments" "I", Cond.fieldLink RX9 51 "CoatTraces$Years" "spoiled" "Z", Cond.methodLink RX9 27 yX7_people, Cond.methodLink RX9 37 yX9_layBounds, Cond.instanceMethod yX9_layBounds, Cond.selects RX9 yX9_layBounds yX9_layBounds, Cond.code yX9_layBounds cX9_layBounds 3 none, Cond.fieldLink RX9 9 "CoatTraces$Years" "least" "[I", Cond.fieldLink RX9 15 "CoatTraces$Years" "greatest" "[I", Cond.methodLink RX9 58 yX9_birth, Cond.static yX9_birth]
def wsX10_drift_r7 : List Cond := [Cond.code yX9_birth cX9_birth 1 (some .int), Cond.methodLink RX9 62 yX7_fact, Cond.methodLink RX9 66 yX9_death, Cond.static yX9_death, Cond.code yX9_death cX9_death 1 (some .int), Cond.methodLink RX9 41 yX9_layGaps, Cond.instanceMethod yX9_layGaps, Cond.selects RX9 yX9_layGaps yX9_layGaps, Cond.code yX9_layGaps cX9_layGaps 5 none, Cond.fieldLink RX9 69 "CoatTraces$Years" "gaps" "I", Cond.methodLink RX9 72 yX9_addGap, Cond.instanceMethod yX9_addGap, Cond.selects RX9 yX9_addGap yX9_addGap, Cond.code yX9_addGap cX9_addGap 4 none, Cond.fieldLink RX9 24 "CoatTraces$Years" "gap" "[I", Cond.fieldLink RX9 18 "CoatTraces$Years" "earlier" "[I", Cond.fieldLink RX9 21 "CoatTraces$Years" "later" "[I", Cond.methodLink RX9 44 yX9_raiseLeast, Cond.instanceMethod yX9_raiseLeast, Cond.selects RX9 yX9_raiseLeast yX9_raiseLeast, Cond.code yX9_raiseLeast cX9_raiseLeast 5 (some .boolean), Cond.methodLink RX9 48 yX9_isCrossed, Cond.instanceMethod yX9_isCrossed, Cond.selects RX9 yX9_isCrossed yX9_isCrossed]
def wsX10_drift_r8 : List Cond := [Cond.code yX9_isCrossed cX9_isCrossed 2 (some .boolean), Cond.methodLink RX9 55 yX9_lowerGreatest, Cond.instanceMethod yX9_lowerGreatest, Cond.selects RX9 yX9_lowerGreatest yX9_lowerGreatest, Cond.code yX9_lowerGreatest cX9_lowerGreatest 5 none, Cond.methodLink RX10 72 yX7_people]
def wsX10_drift : List Cond := .code yX10_drift cX10_drift 3 (some .int) :: ((wsX10_drift_r1 ++ (wsX10_drift_r2 ++ (wsX10_drift_r3 ++ (wsX10_drift_r4 ++ (wsX10_drift_r5 ++ (wsX10_drift_r6 ++ (wsX10_drift_r7 ++ wsX10_drift_r8))))))) ++ wsX100 ++ wsX70 ++ wsX50 ++ wsX60 ++ wsX20 ++ wsX10 ++ wsX90)
def wsX10_undo_r1 : List Cond := [Cond.constant RX10 112 (-1000000002), Cond.fieldLink RX10 54 "CoatTraces" "past" "LCoatTraces$Past;", Cond.fieldLink RX10 109 "CoatTraces$Past" "deeds" "I", Cond.constant RX10 170 (-1000000003), Cond.fieldLink RX10 10 "CoatTraces" "state" "LCoatTraces$State;", Cond.methodLink RX10 228 yX5_stepBack, Cond.instanceMethod yX5_stepBack, Cond.selects RX5 yX5_stepBack yX5_stepBack, Cond.initialized RX5, Cond.code yX5_stepBack cX5_stepBack 3 none, Cond.fieldLink RX5 28 "CoatTraces$Past" "deeds" "I", Cond.fieldLink RX5 20 "CoatTraces$Past" "next" "I", Cond.fieldLink RX5 14 "CoatTraces$Past" "shelf" "LCoatTraces$Shelf;", Cond.methodLink RX5 37 yX6_fetch, Cond.instanceMethod yX6_fetch, Cond.selects RX6 yX6_fetch yX6_fetch, Cond.initialized RX6, Cond.code yX6_fetch cX6_fetch 3 none, Cond.fieldLink RX6 13 "CoatTraces$Shelf" "places" "I", Cond.fieldLink RX6 21 "CoatTraces$Shelf" "rows" "[I", Cond.fieldLink RX6 25 "CoatTraces$State" "cells" "[I", Cond.methodLink RX6 28 arraycopyName, Cond.native arraycopyName, Cond.static arraycopyName]
def wsX10_undo_r2 : List Cond := [Cond.initialized "java/lang/System", Cond.methodLink RX10 205 yX10_reckonAll, Cond.instanceMethod yX10_reckonAll, Cond.selects RX10 yX10_reckonAll yX10_reckonAll, Cond.initialized RX10, Cond.code yX10_reckonAll cX10_reckonAll 1 none, Cond.fieldLink RX10 19 "CoatTraces" "coats" "LCoatTraces$Coats;", Cond.fieldLink RX10 26 "CoatTraces" "years" "LCoatTraces$Years;", Cond.methodLink RX10 216 yX1_reckon, Cond.instanceMethod yX1_reckon, Cond.selects RX1 yX1_reckon yX1_reckon, Cond.initialized RX1, Cond.code yX1_reckon cX1_reckon 3 none, Cond.fieldLink RX1 27 "CoatTraces$Coats" "people" "I", Cond.fieldLink RX1 34 "CoatTraces$Coats" "heirs" "I", Cond.methodLink RX1 21 yX7_people, Cond.instanceMethod yX7_people, Cond.selects RX7 yX7_people yX7_people, Cond.initialized RX7, Cond.code yX7_people cX7_people 1 (some .int), Cond.fieldLink RX7 11 "CoatTraces$State" "cells" "[I", Cond.methodLink RX1 30 yX1_heirsOf, Cond.static yX1_heirsOf, Cond.code yX1_heirsOf cX1_heirsOf 5 (some .int)]
def wsX10_undo_r3 : List Cond := [Cond.methodLink RX1 37 yX7_fact, Cond.instanceMethod yX7_fact, Cond.selects RX7 yX7_fact yX7_fact, Cond.code yX7_fact cX7_fact 3 (some .int), Cond.methodLink RX7 15 yX7_has, Cond.instanceMethod yX7_has, Cond.selects RX7 yX7_has yX7_has, Cond.code yX7_has cX7_has 2 (some .boolean), Cond.methodLink RX1 45 yX7_isMan, Cond.instanceMethod yX7_isMan, Cond.selects RX7 yX7_isMan yX7_isMan, Cond.code yX7_isMan cX7_isMan 2 (some .boolean), Cond.methodLink RX7 23 yX7_fact, Cond.methodLink RX1 49 yX7_isWoman, Cond.instanceMethod yX7_isWoman, Cond.selects RX7 yX7_isWoman yX7_isWoman, Cond.code yX7_isWoman cX7_isWoman 2 (some .boolean), Cond.methodLink RX1 52 yX1_isIn, Cond.static yX1_isIn, Cond.code yX1_isIn cX1_isIn 2 (some .boolean), Cond.methodLink RX1 41 yX1_compose, Cond.instanceMethod yX1_compose, Cond.selects RX1 yX1_compose yX1_compose, Cond.code yX1_compose cX1_compose 7 none]
def wsX10_undo_r4 : List Cond := [Cond.fieldLink RX1 11 "CoatTraces$Coats" "sizes" "[I", Cond.methodLink RX1 60 yX7_ruleNow, Cond.instanceMethod yX7_ruleNow, Cond.selects RX7 yX7_ruleNow yX7_ruleNow, Cond.code yX7_ruleNow cX7_ruleNow 1 (some .int), Cond.methodLink RX1 63 yX1_take, Cond.instanceMethod yX1_take, Cond.selects RX1 yX1_take yX1_take, Cond.code yX1_take cX1_take 7 none, Cond.fieldLink RX1 15 "CoatTraces$Coats" "arms" "[I", Cond.fieldLink RX1 18 "CoatTraces$Coats" "through" "[I", Cond.methodLink RX1 67 yX1_armsAt, Cond.instanceMethod yX1_armsAt, Cond.selects RX1 yX1_armsAt yX1_armsAt, Cond.code yX1_armsAt cX1_armsAt 3 (some .int), Cond.methodLink RX1 56 yX1_sizeOf, Cond.instanceMethod yX1_sizeOf, Cond.selects RX1 yX1_sizeOf yX1_sizeOf, Cond.code yX1_sizeOf cX1_sizeOf 2 (some .int), Cond.methodLink RX1 70 yX1_throughAt, Cond.instanceMethod yX1_throughAt, Cond.selects RX1 yX1_throughAt yX1_throughAt, Cond.code yX1_throughAt cX1_throughAt 3 (some .int), Cond.methodLink RX1 73 yX1_takeFrom]
def wsX10_undo_r5 : List Cond := [Cond.instanceMethod yX1_takeFrom, Cond.selects RX1 yX1_takeFrom yX1_takeFrom, Cond.code yX1_takeFrom cX1_takeFrom 5 none, Cond.methodLink RX10 252 yX9_reckon, Cond.instanceMethod yX9_reckon, Cond.selects RX9 yX9_reckon yX9_reckon, Cond.initialized RX9, Cond.code yX9_reckon cX9_reckon 2 none, Cond.fieldLink RX9 33 "CoatTraces$Years" "moments" "I", Cond.fieldLink RX9 51 "CoatTraces$Years" "spoiled" "Z", Cond.methodLink RX9 27 yX7_people, Cond.methodLink RX9 37 yX9_layBounds, Cond.instanceMethod yX9_layBounds, Cond.selects RX9 yX9_layBounds yX9_layBounds, Cond.code yX9_layBounds cX9_layBounds 3 none, Cond.fieldLink RX9 9 "CoatTraces$Years" "least" "[I", Cond.fieldLink RX9 15 "CoatTraces$Years" "greatest" "[I", Cond.methodLink RX9 58 yX9_birth, Cond.static yX9_birth, Cond.code yX9_birth cX9_birth 1 (some .int), Cond.methodLink RX9 62 yX7_fact, Cond.methodLink RX9 66 yX9_death, Cond.static yX9_death, Cond.code yX9_death cX9_death 1 (some .int)]
def wsX10_undo_r6 : List Cond := [Cond.methodLink RX9 41 yX9_layGaps, Cond.instanceMethod yX9_layGaps, Cond.selects RX9 yX9_layGaps yX9_layGaps, Cond.code yX9_layGaps cX9_layGaps 5 none, Cond.fieldLink RX9 69 "CoatTraces$Years" "gaps" "I", Cond.methodLink RX9 72 yX9_addGap, Cond.instanceMethod yX9_addGap, Cond.selects RX9 yX9_addGap yX9_addGap, Cond.code yX9_addGap cX9_addGap 4 none, Cond.fieldLink RX9 24 "CoatTraces$Years" "gap" "[I", Cond.fieldLink RX9 18 "CoatTraces$Years" "earlier" "[I", Cond.fieldLink RX9 21 "CoatTraces$Years" "later" "[I", Cond.methodLink RX9 44 yX9_raiseLeast, Cond.instanceMethod yX9_raiseLeast, Cond.selects RX9 yX9_raiseLeast yX9_raiseLeast, Cond.code yX9_raiseLeast cX9_raiseLeast 5 (some .boolean), Cond.methodLink RX9 48 yX9_isCrossed, Cond.instanceMethod yX9_isCrossed, Cond.selects RX9 yX9_isCrossed yX9_isCrossed, Cond.code yX9_isCrossed cX9_isCrossed 2 (some .boolean), Cond.methodLink RX9 55 yX9_lowerGreatest, Cond.instanceMethod yX9_lowerGreatest, Cond.selects RX9 yX9_lowerGreatest yX9_lowerGreatest, Cond.code yX9_lowerGreatest cX9_lowerGreatest 5 none]
def wsX10_undo_r7 : List Cond := [Cond.methodLink RX10 72 yX7_people]
def wsX10_undo : List Cond := .code yX10_undo cX10_undo 2 (some .int) :: ((wsX10_undo_r1 ++ (wsX10_undo_r2 ++ (wsX10_undo_r3 ++ (wsX10_undo_r4 ++ (wsX10_undo_r5 ++ (wsX10_undo_r6 ++ wsX10_undo_r7)))))) ++ wsX100 ++ wsX50 ++ wsX60 ++ wsX70 ++ wsX10 ++ wsX90)
def wsX10_write_r1 : List Cond := [Cond.fieldLink RX10 10 "CoatTraces" "state" "LCoatTraces$State;", Cond.constant RX10 117 (-1000000001), Cond.constant RX10 112 (-1000000002), Cond.fieldLink RX10 47 "CoatTraces" "book" "LCoatTraces$Book;", Cond.fieldLink RX10 102 "CoatTraces$Book" "entries" "I", Cond.constant RX10 196 (-1000000004), Cond.methodLink RX10 113 yX7_has, Cond.instanceMethod yX7_has, Cond.selects RX7 yX7_has yX7_has, Cond.initialized RX7, Cond.code yX7_has cX7_has 2 (some .boolean), Cond.fieldLink RX7 11 "CoatTraces$State" "cells" "[I", Cond.methodLink RX10 189 yX10_isArms, Cond.static yX10_isArms, Cond.initialized RX10, Cond.code yX10_isArms cX10_isArms 1 (some .boolean), Cond.methodLink RX10 232 yX0_addEntry, Cond.instanceMethod yX0_addEntry, Cond.selects RX0 yX0_addEntry yX0_addEntry, Cond.initialized RX0, Cond.code yX0_addEntry cX0_addEntry 4 none, Cond.fieldLink RX0 21 "CoatTraces$Book" "entries" "I", Cond.fieldLink RX0 9 "CoatTraces$Book" "whose" "[I", Cond.fieldLink RX0 15 "CoatTraces$Book" "which" "[I"]
def wsX10_write_r2 : List Cond := [Cond.fieldLink RX0 18 "CoatTraces$Book" "arms" "[I"]
def wsX10_write : List Cond := .code yX10_write cX10_write 4 (some .int) :: ((wsX10_write_r1 ++ wsX10_write_r2) ++ wsX100 ++ wsX00 ++ wsX70)
def wsX10_tear : List Cond := .code yX10_tear cX10_tear 2 (some .int) :: ([.fieldLink RX10 47 "CoatTraces" "book" "LCoatTraces$Book;", .fieldLink RX10 102 "CoatTraces$Book" "entries" "I"] ++ wsX100 ++ wsX00)
def wsX10_seed : List Cond := .code yX10_seed cX10_seed 3 (some .int) :: ([.constant RX10 112 (-1000000002), .fieldLink RX10 68 "CoatTraces" "draws" "LCoatTraces$Draws;", .fieldLink RX10 236 "CoatTraces$Draws" "seedNow" "I"] ++ wsX100 ++ wsX20)
def wsX10_keep_r1 : List Cond := [Cond.constant RX10 117 (-1000000001), Cond.fieldLink RX10 61 "CoatTraces" "images" "LCoatTraces$Images;", Cond.fieldLink RX10 10 "CoatTraces" "state" "LCoatTraces$State;", Cond.fieldLink RX10 68 "CoatTraces" "draws" "LCoatTraces$Draws;", Cond.fieldLink RX10 54 "CoatTraces" "past" "LCoatTraces$Past;", Cond.fieldLink RX10 109 "CoatTraces$Past" "deeds" "I", Cond.methodLink RX10 239 yX3_store, Cond.instanceMethod yX3_store, Cond.selects RX3 yX3_store yX3_store, Cond.initialized RX3, Cond.code yX3_store cX3_store 4 none, Cond.fieldLink RX3 14 "CoatTraces$Images" "shelf" "LCoatTraces$Shelf;", Cond.fieldLink RX3 20 "CoatTraces$Images" "seeds" "[I", Cond.fieldLink RX3 32 "CoatTraces$Draws" "seedNow" "I", Cond.fieldLink RX3 24 "CoatTraces$Images" "stored" "[Z", Cond.methodLink RX3 28 yX6_lay, Cond.instanceMethod yX6_lay, Cond.selects RX6 yX6_lay yX6_lay, Cond.initialized RX6, Cond.code yX6_lay cX6_lay 3 none, Cond.fieldLink RX6 13 "CoatTraces$Shelf" "places" "I", Cond.fieldLink RX6 25 "CoatTraces$State" "cells" "[I", Cond.fieldLink RX6 21 "CoatTraces$Shelf" "rows" "[I", Cond.methodLink RX6 28 arraycopyName]
def wsX10_keep_r2 : List Cond := [Cond.native arraycopyName, Cond.static arraycopyName, Cond.initialized "java/lang/System"]
def wsX10_keep : List Cond := .code yX10_keep cX10_keep 2 (some .int) :: ((wsX10_keep_r1 ++ wsX10_keep_r2) ++ wsX100 ++ wsX50 ++ wsX30 ++ wsX20 ++ wsX60 ++ wsX70)
def wsX10_goBack_r1 : List Cond := [Cond.constant RX10 117 (-1000000001), Cond.fieldLink RX10 61 "CoatTraces" "images" "LCoatTraces$Images;", Cond.constant RX10 170 (-1000000003), Cond.fieldLink RX10 10 "CoatTraces" "state" "LCoatTraces$State;", Cond.fieldLink RX10 68 "CoatTraces" "draws" "LCoatTraces$Draws;", Cond.fieldLink RX10 54 "CoatTraces" "past" "LCoatTraces$Past;", Cond.fieldLink RX10 109 "CoatTraces$Past" "deeds" "I", Cond.methodLink RX10 243 yX3_isStored, Cond.instanceMethod yX3_isStored, Cond.selects RX3 yX3_isStored yX3_isStored, Cond.initialized RX3, Cond.code yX3_isStored cX3_isStored 2 (some .boolean), Cond.fieldLink RX3 24 "CoatTraces$Images" "stored" "[Z", Cond.methodLink RX10 246 yX3_restore, Cond.instanceMethod yX3_restore, Cond.selects RX3 yX3_restore yX3_restore, Cond.code yX3_restore cX3_restore 4 none, Cond.fieldLink RX3 14 "CoatTraces$Images" "shelf" "LCoatTraces$Shelf;", Cond.fieldLink RX3 20 "CoatTraces$Images" "seeds" "[I", Cond.fieldLink RX3 32 "CoatTraces$Draws" "seedNow" "I", Cond.methodLink RX3 38 yX3_isStored, Cond.methodLink RX3 42 yX6_fetch, Cond.instanceMethod yX6_fetch, Cond.selects RX6 yX6_fetch yX6_fetch]
def wsX10_goBack_r2 : List Cond := [Cond.initialized RX6, Cond.code yX6_fetch cX6_fetch 3 none, Cond.fieldLink RX6 13 "CoatTraces$Shelf" "places" "I", Cond.fieldLink RX6 21 "CoatTraces$Shelf" "rows" "[I", Cond.fieldLink RX6 25 "CoatTraces$State" "cells" "[I", Cond.methodLink RX6 28 arraycopyName, Cond.native arraycopyName, Cond.static arraycopyName, Cond.initialized "java/lang/System", Cond.methodLink RX10 205 yX10_reckonAll, Cond.instanceMethod yX10_reckonAll, Cond.selects RX10 yX10_reckonAll yX10_reckonAll, Cond.initialized RX10, Cond.code yX10_reckonAll cX10_reckonAll 1 none, Cond.fieldLink RX10 19 "CoatTraces" "coats" "LCoatTraces$Coats;", Cond.fieldLink RX10 26 "CoatTraces" "years" "LCoatTraces$Years;", Cond.methodLink RX10 216 yX1_reckon, Cond.instanceMethod yX1_reckon, Cond.selects RX1 yX1_reckon yX1_reckon, Cond.initialized RX1, Cond.code yX1_reckon cX1_reckon 3 none, Cond.fieldLink RX1 27 "CoatTraces$Coats" "people" "I", Cond.fieldLink RX1 34 "CoatTraces$Coats" "heirs" "I", Cond.methodLink RX1 21 yX7_people]
def wsX10_goBack_r3 : List Cond := [Cond.instanceMethod yX7_people, Cond.selects RX7 yX7_people yX7_people, Cond.initialized RX7, Cond.code yX7_people cX7_people 1 (some .int), Cond.fieldLink RX7 11 "CoatTraces$State" "cells" "[I", Cond.methodLink RX1 30 yX1_heirsOf, Cond.static yX1_heirsOf, Cond.code yX1_heirsOf cX1_heirsOf 5 (some .int), Cond.methodLink RX1 37 yX7_fact, Cond.instanceMethod yX7_fact, Cond.selects RX7 yX7_fact yX7_fact, Cond.code yX7_fact cX7_fact 3 (some .int), Cond.methodLink RX7 15 yX7_has, Cond.instanceMethod yX7_has, Cond.selects RX7 yX7_has yX7_has, Cond.code yX7_has cX7_has 2 (some .boolean), Cond.methodLink RX1 45 yX7_isMan, Cond.instanceMethod yX7_isMan, Cond.selects RX7 yX7_isMan yX7_isMan, Cond.code yX7_isMan cX7_isMan 2 (some .boolean), Cond.methodLink RX7 23 yX7_fact, Cond.methodLink RX1 49 yX7_isWoman, Cond.instanceMethod yX7_isWoman, Cond.selects RX7 yX7_isWoman yX7_isWoman]
def wsX10_goBack_r4 : List Cond := [Cond.code yX7_isWoman cX7_isWoman 2 (some .boolean), Cond.methodLink RX1 52 yX1_isIn, Cond.static yX1_isIn, Cond.code yX1_isIn cX1_isIn 2 (some .boolean), Cond.methodLink RX1 41 yX1_compose, Cond.instanceMethod yX1_compose, Cond.selects RX1 yX1_compose yX1_compose, Cond.code yX1_compose cX1_compose 7 none, Cond.fieldLink RX1 11 "CoatTraces$Coats" "sizes" "[I", Cond.methodLink RX1 60 yX7_ruleNow, Cond.instanceMethod yX7_ruleNow, Cond.selects RX7 yX7_ruleNow yX7_ruleNow, Cond.code yX7_ruleNow cX7_ruleNow 1 (some .int), Cond.methodLink RX1 63 yX1_take, Cond.instanceMethod yX1_take, Cond.selects RX1 yX1_take yX1_take, Cond.code yX1_take cX1_take 7 none, Cond.fieldLink RX1 15 "CoatTraces$Coats" "arms" "[I", Cond.fieldLink RX1 18 "CoatTraces$Coats" "through" "[I", Cond.methodLink RX1 67 yX1_armsAt, Cond.instanceMethod yX1_armsAt, Cond.selects RX1 yX1_armsAt yX1_armsAt, Cond.code yX1_armsAt cX1_armsAt 3 (some .int), Cond.methodLink RX1 56 yX1_sizeOf]
def wsX10_goBack_r5 : List Cond := [Cond.instanceMethod yX1_sizeOf, Cond.selects RX1 yX1_sizeOf yX1_sizeOf, Cond.code yX1_sizeOf cX1_sizeOf 2 (some .int), Cond.methodLink RX1 70 yX1_throughAt, Cond.instanceMethod yX1_throughAt, Cond.selects RX1 yX1_throughAt yX1_throughAt, Cond.code yX1_throughAt cX1_throughAt 3 (some .int), Cond.methodLink RX1 73 yX1_takeFrom, Cond.instanceMethod yX1_takeFrom, Cond.selects RX1 yX1_takeFrom yX1_takeFrom, Cond.code yX1_takeFrom cX1_takeFrom 5 none, Cond.methodLink RX10 252 yX9_reckon, Cond.instanceMethod yX9_reckon, Cond.selects RX9 yX9_reckon yX9_reckon, Cond.initialized RX9, Cond.code yX9_reckon cX9_reckon 2 none, Cond.fieldLink RX9 33 "CoatTraces$Years" "moments" "I", Cond.fieldLink RX9 51 "CoatTraces$Years" "spoiled" "Z", Cond.methodLink RX9 27 yX7_people, Cond.methodLink RX9 37 yX9_layBounds, Cond.instanceMethod yX9_layBounds, Cond.selects RX9 yX9_layBounds yX9_layBounds, Cond.code yX9_layBounds cX9_layBounds 3 none, Cond.fieldLink RX9 9 "CoatTraces$Years" "least" "[I"]
def wsX10_goBack_r6 : List Cond := [Cond.fieldLink RX9 15 "CoatTraces$Years" "greatest" "[I", Cond.methodLink RX9 58 yX9_birth, Cond.static yX9_birth, Cond.code yX9_birth cX9_birth 1 (some .int), Cond.methodLink RX9 62 yX7_fact, Cond.methodLink RX9 66 yX9_death, Cond.static yX9_death, Cond.code yX9_death cX9_death 1 (some .int), Cond.methodLink RX9 41 yX9_layGaps, Cond.instanceMethod yX9_layGaps, Cond.selects RX9 yX9_layGaps yX9_layGaps, Cond.code yX9_layGaps cX9_layGaps 5 none, Cond.fieldLink RX9 69 "CoatTraces$Years" "gaps" "I", Cond.methodLink RX9 72 yX9_addGap, Cond.instanceMethod yX9_addGap, Cond.selects RX9 yX9_addGap yX9_addGap, Cond.code yX9_addGap cX9_addGap 4 none, Cond.fieldLink RX9 24 "CoatTraces$Years" "gap" "[I", Cond.fieldLink RX9 18 "CoatTraces$Years" "earlier" "[I", Cond.fieldLink RX9 21 "CoatTraces$Years" "later" "[I", Cond.methodLink RX9 44 yX9_raiseLeast, Cond.instanceMethod yX9_raiseLeast, Cond.selects RX9 yX9_raiseLeast yX9_raiseLeast, Cond.code yX9_raiseLeast cX9_raiseLeast 5 (some .boolean)]
def wsX10_goBack_r7 : List Cond := [Cond.methodLink RX9 48 yX9_isCrossed, Cond.instanceMethod yX9_isCrossed, Cond.selects RX9 yX9_isCrossed yX9_isCrossed, Cond.code yX9_isCrossed cX9_isCrossed 2 (some .boolean), Cond.methodLink RX9 55 yX9_lowerGreatest, Cond.instanceMethod yX9_lowerGreatest, Cond.selects RX9 yX9_lowerGreatest yX9_lowerGreatest, Cond.code yX9_lowerGreatest cX9_lowerGreatest 5 none]
def wsX10_goBack : List Cond := .code yX10_goBack cX10_goBack 2 (some .int) :: ((wsX10_goBack_r1 ++ (wsX10_goBack_r2 ++ (wsX10_goBack_r3 ++ (wsX10_goBack_r4 ++ (wsX10_goBack_r5 ++ (wsX10_goBack_r6 ++ wsX10_goBack_r7)))))) ++ wsX100 ++ wsX50 ++ wsX30 ++ wsX20 ++ wsX60 ++ wsX70 ++ wsX10 ++ wsX90)
def wsX11_init : List Cond := .code yX11_init cX11_init 1 none :: ([.methodLink RX11 1 objectInit, .instanceMethod objectInit, .code objectInit ⟨#[0xb1]⟩ 1 none, .arrayClass .int, .fieldLink RX11 7 "CoatTracesModel" "w" "[I", .fieldLink RX11 13 "CoatTracesModel" "imageSeed" "[I", .arrayClass .boolean, .fieldLink RX11 16 "CoatTracesModel" "isKept" "[Z", .fieldLink RX11 20 "CoatTracesModel" "bookWho" "[I", .fieldLink RX11 23 "CoatTracesModel" "bookPlace" "[I", .fieldLink RX11 26 "CoatTracesModel" "bookArms" "[I", .fieldLink RX11 29 "CoatTracesModel" "many" "[I", .fieldLink RX11 32 "CoatTracesModel" "arms" "[I", .fieldLink RX11 35 "CoatTracesModel" "through" "[I", .fieldLink RX11 38 "CoatTracesModel" "least" "[I", .fieldLink RX11 41 "CoatTracesModel" "most" "[I", .fieldLink RX11 44 "CoatTracesModel" "long0" "[I", .fieldLink RX11 47 "CoatTracesModel" "stepsOne" "[I", .fieldLink RX11 50 "CoatTracesModel" "stepsOther" "[I"] ++ wsX110)
def wsX11_in : List Cond := .code yX11_in cX11_in 6 (some .boolean) :: ([])
def wsX11_copy : List Cond := .code yX11_copy cX11_copy 4 none :: ([.fieldLink RX11 7 "CoatTracesModel" "w" "[I"] ++ wsX110)
def wsX11_minds : List Cond := .code yX11_minds cX11_minds 2 none :: ([.fieldLink RX11 53 "CoatTracesModel" "undos" "I", .fieldLink RX11 7 "CoatTracesModel" "w" "[I", .methodLink RX11 57 yX11_copy, .instanceMethod yX11_copy, .selects RX11 yX11_copy yX11_copy, .initialized RX11, .code yX11_copy cX11_copy 4 none] ++ wsX110)
def wsX11_isOne : List Cond := .code yX11_isOne cX11_isOne 2 (some .boolean) :: ([.fieldLink RX11 7 "CoatTracesModel" "w" "[I", .methodLink RX11 61 yX11_in, .static yX11_in, .initialized RX11, .code yX11_in cX11_in 6 (some .boolean)] ++ wsX110)
def wsX11_isMan : List Cond := .code yX11_isMan cX11_isMan 2 (some .boolean) :: ([.fieldLink RX11 7 "CoatTracesModel" "w" "[I", .methodLink RX11 65 yX11_isOne, .instanceMethod yX11_isOne, .selects RX11 yX11_isOne yX11_isOne, .initialized RX11, .code yX11_isOne cX11_isOne 2 (some .boolean), .methodLink RX11 61 yX11_in, .static yX11_in, .code yX11_in cX11_in 6 (some .boolean)] ++ wsX110)
def wsX11_isWoman : List Cond := .code yX11_isWoman cX11_isWoman 2 (some .boolean) :: ([.fieldLink RX11 7 "CoatTracesModel" "w" "[I", .methodLink RX11 65 yX11_isOne, .instanceMethod yX11_isOne, .selects RX11 yX11_isOne yX11_isOne, .initialized RX11, .code yX11_isOne cX11_isOne 2 (some .boolean), .methodLink RX11 61 yX11_in, .static yX11_in, .code yX11_in cX11_in 6 (some .boolean)] ++ wsX110)
def wsX11_isHeir : List Cond := .code yX11_isHeir cX11_isHeir 4 (some .boolean) :: ([.fieldLink RX11 7 "CoatTracesModel" "w" "[I", .methodLink RX11 69 yX11_isWoman, .instanceMethod yX11_isWoman, .selects RX11 yX11_isWoman yX11_isWoman, .initialized RX11, .code yX11_isWoman cX11_isWoman 2 (some .boolean), .methodLink RX11 65 yX11_isOne, .instanceMethod yX11_isOne, .selects RX11 yX11_isOne yX11_isOne, .code yX11_isOne cX11_isOne 2 (some .boolean), .methodLink RX11 61 yX11_in, .static yX11_in, .code yX11_in cX11_in 6 (some .boolean)] ++ wsX110)
def wsX11_takes : List Cond := .code yX11_takes cX11_takes 6 none :: ([.fieldLink RX11 29 "CoatTracesModel" "many" "[I", .fieldLink RX11 32 "CoatTracesModel" "arms" "[I", .fieldLink RX11 35 "CoatTracesModel" "through" "[I"] ++ wsX110)
def wsX11_takesOf : List Cond := .code yX11_takesOf cX11_takesOf 5 none :: ([.fieldLink RX11 29 "CoatTracesModel" "many" "[I", .fieldLink RX11 32 "CoatTracesModel" "arms" "[I", .fieldLink RX11 35 "CoatTracesModel" "through" "[I", .methodLink RX11 72 yX11_takes, .instanceMethod yX11_takes, .selects RX11 yX11_takes yX11_takes, .initialized RX11, .code yX11_takes cX11_takes 6 none] ++ wsX110)
def wsX11_laysOne_r1 : List Cond := [Cond.fieldLink RX11 29 "CoatTracesModel" "many" "[I", Cond.fieldLink RX11 7 "CoatTracesModel" "w" "[I", Cond.methodLink RX11 76 yX11_isHeir, Cond.instanceMethod yX11_isHeir, Cond.selects RX11 yX11_isHeir yX11_isHeir, Cond.initialized RX11, Cond.code yX11_isHeir cX11_isHeir 4 (some .boolean), Cond.methodLink RX11 69 yX11_isWoman, Cond.instanceMethod yX11_isWoman, Cond.selects RX11 yX11_isWoman yX11_isWoman, Cond.code yX11_isWoman cX11_isWoman 2 (some .boolean), Cond.methodLink RX11 65 yX11_isOne, Cond.instanceMethod yX11_isOne, Cond.selects RX11 yX11_isOne yX11_isOne, Cond.code yX11_isOne cX11_isOne 2 (some .boolean), Cond.methodLink RX11 61 yX11_in, Cond.static yX11_in, Cond.code yX11_in cX11_in 6 (some .boolean), Cond.methodLink RX11 72 yX11_takes, Cond.instanceMethod yX11_takes, Cond.selects RX11 yX11_takes yX11_takes, Cond.code yX11_takes cX11_takes 6 none, Cond.fieldLink RX11 32 "CoatTracesModel" "arms" "[I", Cond.fieldLink RX11 35 "CoatTracesModel" "through" "[I"]
def wsX11_laysOne_r2 : List Cond := [Cond.methodLink RX11 79 yX11_takesOf, Cond.instanceMethod yX11_takesOf, Cond.selects RX11 yX11_takesOf yX11_takesOf, Cond.code yX11_takesOf cX11_takesOf 5 none]
def wsX11_laysOne : List Cond := .code yX11_laysOne cX11_laysOne 6 none :: ((wsX11_laysOne_r1 ++ wsX11_laysOne_r2) ++ wsX110)
def wsX11_lays_r1 : List Cond := [Cond.fieldLink RX11 7 "CoatTracesModel" "w" "[I", Cond.methodLink RX11 82 yX11_laysOne, Cond.instanceMethod yX11_laysOne, Cond.selects RX11 yX11_laysOne yX11_laysOne, Cond.initialized RX11, Cond.code yX11_laysOne cX11_laysOne 6 none, Cond.fieldLink RX11 29 "CoatTracesModel" "many" "[I", Cond.methodLink RX11 76 yX11_isHeir, Cond.instanceMethod yX11_isHeir, Cond.selects RX11 yX11_isHeir yX11_isHeir, Cond.code yX11_isHeir cX11_isHeir 4 (some .boolean), Cond.methodLink RX11 69 yX11_isWoman, Cond.instanceMethod yX11_isWoman, Cond.selects RX11 yX11_isWoman yX11_isWoman, Cond.code yX11_isWoman cX11_isWoman 2 (some .boolean), Cond.methodLink RX11 65 yX11_isOne, Cond.instanceMethod yX11_isOne, Cond.selects RX11 yX11_isOne yX11_isOne, Cond.code yX11_isOne cX11_isOne 2 (some .boolean), Cond.methodLink RX11 61 yX11_in, Cond.static yX11_in, Cond.code yX11_in cX11_in 6 (some .boolean), Cond.methodLink RX11 72 yX11_takes, Cond.instanceMethod yX11_takes]
def wsX11_lays_r2 : List Cond := [Cond.selects RX11 yX11_takes yX11_takes, Cond.code yX11_takes cX11_takes 6 none, Cond.fieldLink RX11 32 "CoatTracesModel" "arms" "[I", Cond.fieldLink RX11 35 "CoatTracesModel" "through" "[I", Cond.methodLink RX11 79 yX11_takesOf, Cond.instanceMethod yX11_takesOf, Cond.selects RX11 yX11_takesOf yX11_takesOf, Cond.code yX11_takesOf cX11_takesOf 5 none]
def wsX11_lays : List Cond := .code yX11_lays cX11_lays 2 none :: ((wsX11_lays_r1 ++ wsX11_lays_r2) ++ wsX110)
def wsX11_isSame : List Cond := .code yX11_isSame cX11_isSame 5 (some .boolean) :: ([.fieldLink RX11 29 "CoatTracesModel" "many" "[I", .fieldLink RX11 32 "CoatTracesModel" "arms" "[I"] ++ wsX110)
def wsX11_same : List Cond := .code yX11_same cX11_same 4 (some .int) :: ([.fieldLink RX11 7 "CoatTracesModel" "w" "[I", .methodLink RX11 86 yX11_isSame, .instanceMethod yX11_isSame, .selects RX11 yX11_isSame yX11_isSame, .initialized RX11, .code yX11_isSame cX11_isSame 5 (some .boolean), .fieldLink RX11 29 "CoatTracesModel" "many" "[I", .fieldLink RX11 32 "CoatTracesModel" "arms" "[I"] ++ wsX110)
def wsX11_coats_r1 : List Cond := [Cond.fieldLink RX11 7 "CoatTracesModel" "w" "[I", Cond.methodLink RX11 90 yX11_lays, Cond.instanceMethod yX11_lays, Cond.selects RX11 yX11_lays yX11_lays, Cond.initialized RX11, Cond.code yX11_lays cX11_lays 2 none, Cond.methodLink RX11 82 yX11_laysOne, Cond.instanceMethod yX11_laysOne, Cond.selects RX11 yX11_laysOne yX11_laysOne, Cond.code yX11_laysOne cX11_laysOne 6 none, Cond.fieldLink RX11 29 "CoatTracesModel" "many" "[I", Cond.methodLink RX11 76 yX11_isHeir, Cond.instanceMethod yX11_isHeir, Cond.selects RX11 yX11_isHeir yX11_isHeir, Cond.code yX11_isHeir cX11_isHeir 4 (some .boolean), Cond.methodLink RX11 69 yX11_isWoman, Cond.instanceMethod yX11_isWoman, Cond.selects RX11 yX11_isWoman yX11_isWoman, Cond.code yX11_isWoman cX11_isWoman 2 (some .boolean), Cond.methodLink RX11 65 yX11_isOne, Cond.instanceMethod yX11_isOne, Cond.selects RX11 yX11_isOne yX11_isOne, Cond.code yX11_isOne cX11_isOne 2 (some .boolean), Cond.methodLink RX11 61 yX11_in]
def wsX11_coats_r2 : List Cond := [Cond.static yX11_in, Cond.code yX11_in cX11_in 6 (some .boolean), Cond.methodLink RX11 72 yX11_takes, Cond.instanceMethod yX11_takes, Cond.selects RX11 yX11_takes yX11_takes, Cond.code yX11_takes cX11_takes 6 none, Cond.fieldLink RX11 32 "CoatTracesModel" "arms" "[I", Cond.fieldLink RX11 35 "CoatTracesModel" "through" "[I", Cond.methodLink RX11 79 yX11_takesOf, Cond.instanceMethod yX11_takesOf, Cond.selects RX11 yX11_takesOf yX11_takesOf, Cond.code yX11_takesOf cX11_takesOf 5 none, Cond.methodLink RX11 93 yX11_same, Cond.instanceMethod yX11_same, Cond.selects RX11 yX11_same yX11_same, Cond.code yX11_same cX11_same 4 (some .int), Cond.methodLink RX11 86 yX11_isSame, Cond.instanceMethod yX11_isSame, Cond.selects RX11 yX11_isSame yX11_isSame, Cond.code yX11_isSame cX11_isSame 5 (some .boolean)]
def wsX11_coats : List Cond := .code yX11_coats cX11_coats 3 (some .int) :: ((wsX11_coats_r1 ++ wsX11_coats_r2) ++ wsX110)
def wsX11_atLeast : List Cond := .code yX11_atLeast cX11_atLeast 4 none :: ([.fieldLink RX11 38 "CoatTracesModel" "least" "[I", .fieldLink RX11 97 "CoatTracesModel" "moves" "Z", .fieldLink RX11 41 "CoatTracesModel" "most" "[I"] ++ wsX110)
def wsX11_isSpoiled : List Cond := .code yX11_isSpoiled cX11_isSpoiled 3 (some .boolean) :: ([.fieldLink RX11 7 "CoatTracesModel" "w" "[I", .fieldLink RX11 38 "CoatTracesModel" "least" "[I", .fieldLink RX11 41 "CoatTracesModel" "most" "[I"] ++ wsX110)
def wsX11_narrowsOne : List Cond := .code yX11_narrowsOne cX11_narrowsOne 5 none :: ([.fieldLink RX11 7 "CoatTracesModel" "w" "[I", .methodLink RX11 101 yX11_atLeast, .instanceMethod yX11_atLeast, .selects RX11 yX11_atLeast yX11_atLeast, .initialized RX11, .code yX11_atLeast cX11_atLeast 4 none, .fieldLink RX11 38 "CoatTracesModel" "least" "[I", .fieldLink RX11 97 "CoatTracesModel" "moves" "Z", .fieldLink RX11 41 "CoatTracesModel" "most" "[I"] ++ wsX110)
def wsX11_narrows : List Cond := .code yX11_narrows cX11_narrows 2 (some .boolean) :: ([.fieldLink RX11 7 "CoatTracesModel" "w" "[I", .fieldLink RX11 38 "CoatTracesModel" "least" "[I", .fieldLink RX11 41 "CoatTracesModel" "most" "[I", .fieldLink RX11 97 "CoatTracesModel" "moves" "Z", .methodLink RX11 104 yX11_isSpoiled, .instanceMethod yX11_isSpoiled, .selects RX11 yX11_isSpoiled yX11_isSpoiled, .initialized RX11, .code yX11_isSpoiled cX11_isSpoiled 3 (some .boolean), .methodLink RX11 108 yX11_narrowsOne, .instanceMethod yX11_narrowsOne, .selects RX11 yX11_narrowsOne yX11_narrowsOne, .code yX11_narrowsOne cX11_narrowsOne 5 none, .methodLink RX11 101 yX11_atLeast, .instanceMethod yX11_atLeast, .selects RX11 yX11_atLeast yX11_atLeast, .code yX11_atLeast cX11_atLeast 4 none] ++ wsX110)
def wsX11_isAs : List Cond := .code yX11_isAs cX11_isAs 3 (some .boolean) :: ([.fieldLink RX11 7 "CoatTracesModel" "w" "[I"] ++ wsX110)
def wsX11_isAll : List Cond := .code yX11_isAll cX11_isAll 4 (some .boolean) :: ([.fieldLink RX11 7 "CoatTracesModel" "w" "[I", .fieldLink RX11 29 "CoatTracesModel" "many" "[I", .fieldLink RX11 32 "CoatTracesModel" "arms" "[I", .methodLink RX11 112 yX11_isAs, .instanceMethod yX11_isAs, .selects RX11 yX11_isAs yX11_isAs, .initialized RX11, .code yX11_isAs cX11_isAs 3 (some .boolean)] ++ wsX110)
def wsX11_isSome : List Cond := .code yX11_isSome cX11_isSome 4 (some .boolean) :: ([.fieldLink RX11 7 "CoatTracesModel" "w" "[I", .fieldLink RX11 32 "CoatTracesModel" "arms" "[I", .fieldLink RX11 29 "CoatTracesModel" "many" "[I", .methodLink RX11 112 yX11_isAs, .instanceMethod yX11_isAs, .selects RX11 yX11_isAs yX11_isAs, .initialized RX11, .code yX11_isAs cX11_isAs 3 (some .boolean)] ++ wsX110)
def wsX11_meant_r1 : List Cond := [Cond.fieldLink RX11 7 "CoatTracesModel" "w" "[I", Cond.methodLink RX11 90 yX11_lays, Cond.instanceMethod yX11_lays, Cond.selects RX11 yX11_lays yX11_lays, Cond.initialized RX11, Cond.code yX11_lays cX11_lays 2 none, Cond.methodLink RX11 82 yX11_laysOne, Cond.instanceMethod yX11_laysOne, Cond.selects RX11 yX11_laysOne yX11_laysOne, Cond.code yX11_laysOne cX11_laysOne 6 none, Cond.fieldLink RX11 29 "CoatTracesModel" "many" "[I", Cond.methodLink RX11 76 yX11_isHeir, Cond.instanceMethod yX11_isHeir, Cond.selects RX11 yX11_isHeir yX11_isHeir, Cond.code yX11_isHeir cX11_isHeir 4 (some .boolean), Cond.methodLink RX11 69 yX11_isWoman, Cond.instanceMethod yX11_isWoman, Cond.selects RX11 yX11_isWoman yX11_isWoman, Cond.code yX11_isWoman cX11_isWoman 2 (some .boolean), Cond.methodLink RX11 65 yX11_isOne, Cond.instanceMethod yX11_isOne, Cond.selects RX11 yX11_isOne yX11_isOne, Cond.code yX11_isOne cX11_isOne 2 (some .boolean), Cond.methodLink RX11 61 yX11_in]
def wsX11_meant_r2 : List Cond := [Cond.static yX11_in, Cond.code yX11_in cX11_in 6 (some .boolean), Cond.methodLink RX11 72 yX11_takes, Cond.instanceMethod yX11_takes, Cond.selects RX11 yX11_takes yX11_takes, Cond.code yX11_takes cX11_takes 6 none, Cond.fieldLink RX11 32 "CoatTracesModel" "arms" "[I", Cond.fieldLink RX11 35 "CoatTracesModel" "through" "[I", Cond.methodLink RX11 79 yX11_takesOf, Cond.instanceMethod yX11_takesOf, Cond.selects RX11 yX11_takesOf yX11_takesOf, Cond.code yX11_takesOf cX11_takesOf 5 none, Cond.methodLink RX11 115 yX11_isAll, Cond.instanceMethod yX11_isAll, Cond.selects RX11 yX11_isAll yX11_isAll, Cond.code yX11_isAll cX11_isAll 4 (some .boolean), Cond.methodLink RX11 112 yX11_isAs, Cond.instanceMethod yX11_isAs, Cond.selects RX11 yX11_isAs yX11_isAs, Cond.code yX11_isAs cX11_isAs 3 (some .boolean), Cond.methodLink RX11 118 yX11_isSome, Cond.instanceMethod yX11_isSome, Cond.selects RX11 yX11_isSome yX11_isSome, Cond.code yX11_isSome cX11_isSome 4 (some .boolean)]
def wsX11_meant : List Cond := .code yX11_meant cX11_meant 4 (some .int) :: ((wsX11_meant_r1 ++ wsX11_meant_r2) ++ wsX110)
def wsX11_like : List Cond := .code yX11_like cX11_like 7 (some .int) :: ([.fieldLink RX11 29 "CoatTracesModel" "many" "[I", .fieldLink RX11 44 "CoatTracesModel" "long0" "[I", .fieldLink RX11 7 "CoatTracesModel" "w" "[I", .fieldLink RX11 32 "CoatTracesModel" "arms" "[I"] ++ wsX110)
def wsX11_likely_r1 : List Cond := [Cond.fieldLink RX11 7 "CoatTracesModel" "w" "[I", Cond.fieldLink RX11 29 "CoatTracesModel" "many" "[I", Cond.methodLink RX11 90 yX11_lays, Cond.instanceMethod yX11_lays, Cond.selects RX11 yX11_lays yX11_lays, Cond.initialized RX11, Cond.code yX11_lays cX11_lays 2 none, Cond.methodLink RX11 82 yX11_laysOne, Cond.instanceMethod yX11_laysOne, Cond.selects RX11 yX11_laysOne yX11_laysOne, Cond.code yX11_laysOne cX11_laysOne 6 none, Cond.methodLink RX11 76 yX11_isHeir, Cond.instanceMethod yX11_isHeir, Cond.selects RX11 yX11_isHeir yX11_isHeir, Cond.code yX11_isHeir cX11_isHeir 4 (some .boolean), Cond.methodLink RX11 69 yX11_isWoman, Cond.instanceMethod yX11_isWoman, Cond.selects RX11 yX11_isWoman yX11_isWoman, Cond.code yX11_isWoman cX11_isWoman 2 (some .boolean), Cond.methodLink RX11 65 yX11_isOne, Cond.instanceMethod yX11_isOne, Cond.selects RX11 yX11_isOne yX11_isOne, Cond.code yX11_isOne cX11_isOne 2 (some .boolean), Cond.methodLink RX11 61 yX11_in]
def wsX11_likely_r2 : List Cond := [Cond.static yX11_in, Cond.code yX11_in cX11_in 6 (some .boolean), Cond.methodLink RX11 72 yX11_takes, Cond.instanceMethod yX11_takes, Cond.selects RX11 yX11_takes yX11_takes, Cond.code yX11_takes cX11_takes 6 none, Cond.fieldLink RX11 32 "CoatTracesModel" "arms" "[I", Cond.fieldLink RX11 35 "CoatTracesModel" "through" "[I", Cond.methodLink RX11 79 yX11_takesOf, Cond.instanceMethod yX11_takesOf, Cond.selects RX11 yX11_takesOf yX11_takesOf, Cond.code yX11_takesOf cX11_takesOf 5 none, Cond.methodLink RX11 121 yX11_like, Cond.instanceMethod yX11_like, Cond.selects RX11 yX11_like yX11_like, Cond.code yX11_like cX11_like 7 (some .int), Cond.fieldLink RX11 44 "CoatTracesModel" "long0" "[I"]
def wsX11_likely : List Cond := .code yX11_likely cX11_likely 5 (some .int) :: ((wsX11_likely_r1 ++ wsX11_likely_r2) ++ wsX110)
def wsX11_heirs : List Cond := .code yX11_heirs cX11_heirs 3 (some .int) :: ([.fieldLink RX11 7 "CoatTracesModel" "w" "[I", .methodLink RX11 76 yX11_isHeir, .instanceMethod yX11_isHeir, .selects RX11 yX11_isHeir yX11_isHeir, .initialized RX11, .code yX11_isHeir cX11_isHeir 4 (some .boolean), .methodLink RX11 69 yX11_isWoman, .instanceMethod yX11_isWoman, .selects RX11 yX11_isWoman yX11_isWoman, .code yX11_isWoman cX11_isWoman 2 (some .boolean), .methodLink RX11 65 yX11_isOne, .instanceMethod yX11_isOne, .selects RX11 yX11_isOne yX11_isOne, .code yX11_isOne cX11_isOne 2 (some .boolean), .methodLink RX11 61 yX11_in, .static yX11_in, .code yX11_in cX11_in 6 (some .boolean)] ++ wsX110)
def wsX11_wrong_r1 : List Cond := [Cond.fieldLink RX11 124 "CoatTracesModel" "entries" "I", Cond.fieldLink RX11 20 "CoatTracesModel" "bookWho" "[I", Cond.fieldLink RX11 23 "CoatTracesModel" "bookPlace" "[I", Cond.fieldLink RX11 29 "CoatTracesModel" "many" "[I", Cond.fieldLink RX11 32 "CoatTracesModel" "arms" "[I", Cond.fieldLink RX11 26 "CoatTracesModel" "bookArms" "[I", Cond.methodLink RX11 90 yX11_lays, Cond.instanceMethod yX11_lays, Cond.selects RX11 yX11_lays yX11_lays, Cond.initialized RX11, Cond.code yX11_lays cX11_lays 2 none, Cond.fieldLink RX11 7 "CoatTracesModel" "w" "[I", Cond.methodLink RX11 82 yX11_laysOne, Cond.instanceMethod yX11_laysOne, Cond.selects RX11 yX11_laysOne yX11_laysOne, Cond.code yX11_laysOne cX11_laysOne 6 none, Cond.methodLink RX11 76 yX11_isHeir, Cond.instanceMethod yX11_isHeir, Cond.selects RX11 yX11_isHeir yX11_isHeir, Cond.code yX11_isHeir cX11_isHeir 4 (some .boolean), Cond.methodLink RX11 69 yX11_isWoman, Cond.instanceMethod yX11_isWoman, Cond.selects RX11 yX11_isWoman yX11_isWoman, Cond.code yX11_isWoman cX11_isWoman 2 (some .boolean)]
def wsX11_wrong_r2 : List Cond := [Cond.methodLink RX11 65 yX11_isOne, Cond.instanceMethod yX11_isOne, Cond.selects RX11 yX11_isOne yX11_isOne, Cond.code yX11_isOne cX11_isOne 2 (some .boolean), Cond.methodLink RX11 61 yX11_in, Cond.static yX11_in, Cond.code yX11_in cX11_in 6 (some .boolean), Cond.methodLink RX11 72 yX11_takes, Cond.instanceMethod yX11_takes, Cond.selects RX11 yX11_takes yX11_takes, Cond.code yX11_takes cX11_takes 6 none, Cond.fieldLink RX11 35 "CoatTracesModel" "through" "[I", Cond.methodLink RX11 79 yX11_takesOf, Cond.instanceMethod yX11_takesOf, Cond.selects RX11 yX11_takesOf yX11_takesOf, Cond.code yX11_takesOf cX11_takesOf 5 none]
def wsX11_wrong : List Cond := .code yX11_wrong cX11_wrong 3 (some .int) :: ((wsX11_wrong_r1 ++ wsX11_wrong_r2) ++ wsX110)
def wsX11_told_r1 : List Cond := [Cond.fieldLink RX11 7 "CoatTracesModel" "w" "[I", Cond.fieldLink RX11 124 "CoatTracesModel" "entries" "I", Cond.fieldLink RX11 53 "CoatTracesModel" "undos" "I", Cond.constant RX11 147 (-1000000002), Cond.methodLink RX11 127 yX11_heirs, Cond.instanceMethod yX11_heirs, Cond.selects RX11 yX11_heirs yX11_heirs, Cond.initialized RX11, Cond.code yX11_heirs cX11_heirs 3 (some .int), Cond.methodLink RX11 76 yX11_isHeir, Cond.instanceMethod yX11_isHeir, Cond.selects RX11 yX11_isHeir yX11_isHeir, Cond.code yX11_isHeir cX11_isHeir 4 (some .boolean), Cond.methodLink RX11 69 yX11_isWoman, Cond.instanceMethod yX11_isWoman, Cond.selects RX11 yX11_isWoman yX11_isWoman, Cond.code yX11_isWoman cX11_isWoman 2 (some .boolean), Cond.methodLink RX11 65 yX11_isOne, Cond.instanceMethod yX11_isOne, Cond.selects RX11 yX11_isOne yX11_isOne, Cond.code yX11_isOne cX11_isOne 2 (some .boolean), Cond.methodLink RX11 61 yX11_in, Cond.static yX11_in, Cond.code yX11_in cX11_in 6 (some .boolean)]
def wsX11_told_r2 : List Cond := [Cond.methodLink RX11 131 yX11_coats, Cond.instanceMethod yX11_coats, Cond.selects RX11 yX11_coats yX11_coats, Cond.code yX11_coats cX11_coats 3 (some .int), Cond.methodLink RX11 90 yX11_lays, Cond.instanceMethod yX11_lays, Cond.selects RX11 yX11_lays yX11_lays, Cond.code yX11_lays cX11_lays 2 none, Cond.methodLink RX11 82 yX11_laysOne, Cond.instanceMethod yX11_laysOne, Cond.selects RX11 yX11_laysOne yX11_laysOne, Cond.code yX11_laysOne cX11_laysOne 6 none, Cond.fieldLink RX11 29 "CoatTracesModel" "many" "[I", Cond.methodLink RX11 72 yX11_takes, Cond.instanceMethod yX11_takes, Cond.selects RX11 yX11_takes yX11_takes, Cond.code yX11_takes cX11_takes 6 none, Cond.fieldLink RX11 32 "CoatTracesModel" "arms" "[I", Cond.fieldLink RX11 35 "CoatTracesModel" "through" "[I", Cond.methodLink RX11 79 yX11_takesOf, Cond.instanceMethod yX11_takesOf, Cond.selects RX11 yX11_takesOf yX11_takesOf, Cond.code yX11_takesOf cX11_takesOf 5 none, Cond.methodLink RX11 93 yX11_same]
def wsX11_told_r3 : List Cond := [Cond.instanceMethod yX11_same, Cond.selects RX11 yX11_same yX11_same, Cond.code yX11_same cX11_same 4 (some .int), Cond.methodLink RX11 86 yX11_isSame, Cond.instanceMethod yX11_isSame, Cond.selects RX11 yX11_isSame yX11_isSame, Cond.code yX11_isSame cX11_isSame 5 (some .boolean), Cond.methodLink RX11 134 yX11_narrows, Cond.instanceMethod yX11_narrows, Cond.selects RX11 yX11_narrows yX11_narrows, Cond.code yX11_narrows cX11_narrows 2 (some .boolean), Cond.fieldLink RX11 38 "CoatTracesModel" "least" "[I", Cond.fieldLink RX11 41 "CoatTracesModel" "most" "[I", Cond.fieldLink RX11 97 "CoatTracesModel" "moves" "Z", Cond.methodLink RX11 104 yX11_isSpoiled, Cond.instanceMethod yX11_isSpoiled, Cond.selects RX11 yX11_isSpoiled yX11_isSpoiled, Cond.code yX11_isSpoiled cX11_isSpoiled 3 (some .boolean), Cond.methodLink RX11 108 yX11_narrowsOne, Cond.instanceMethod yX11_narrowsOne, Cond.selects RX11 yX11_narrowsOne yX11_narrowsOne, Cond.code yX11_narrowsOne cX11_narrowsOne 5 none, Cond.methodLink RX11 101 yX11_atLeast, Cond.instanceMethod yX11_atLeast]
def wsX11_told_r4 : List Cond := [Cond.selects RX11 yX11_atLeast yX11_atLeast, Cond.code yX11_atLeast cX11_atLeast 4 none, Cond.methodLink RX11 137 yX11_meant, Cond.instanceMethod yX11_meant, Cond.selects RX11 yX11_meant yX11_meant, Cond.code yX11_meant cX11_meant 4 (some .int), Cond.methodLink RX11 115 yX11_isAll, Cond.instanceMethod yX11_isAll, Cond.selects RX11 yX11_isAll yX11_isAll, Cond.code yX11_isAll cX11_isAll 4 (some .boolean), Cond.methodLink RX11 112 yX11_isAs, Cond.instanceMethod yX11_isAs, Cond.selects RX11 yX11_isAs yX11_isAs, Cond.code yX11_isAs cX11_isAs 3 (some .boolean), Cond.methodLink RX11 118 yX11_isSome, Cond.instanceMethod yX11_isSome, Cond.selects RX11 yX11_isSome yX11_isSome, Cond.code yX11_isSome cX11_isSome 4 (some .boolean), Cond.methodLink RX11 141 yX11_likely, Cond.instanceMethod yX11_likely, Cond.selects RX11 yX11_likely yX11_likely, Cond.code yX11_likely cX11_likely 5 (some .int), Cond.methodLink RX11 121 yX11_like, Cond.instanceMethod yX11_like]
def wsX11_told_r5 : List Cond := [Cond.selects RX11 yX11_like yX11_like, Cond.code yX11_like cX11_like 7 (some .int), Cond.fieldLink RX11 44 "CoatTracesModel" "long0" "[I", Cond.methodLink RX11 144 yX11_wrong, Cond.instanceMethod yX11_wrong, Cond.selects RX11 yX11_wrong yX11_wrong, Cond.code yX11_wrong cX11_wrong 3 (some .int), Cond.fieldLink RX11 20 "CoatTracesModel" "bookWho" "[I", Cond.fieldLink RX11 23 "CoatTracesModel" "bookPlace" "[I", Cond.fieldLink RX11 26 "CoatTracesModel" "bookArms" "[I"]
def wsX11_told : List Cond := .code yX11_told cX11_told 2 (some .int) :: ((wsX11_told_r1 ++ (wsX11_told_r2 ++ (wsX11_told_r3 ++ (wsX11_told_r4 ++ wsX11_told_r5)))) ++ wsX110)
def wsX11_children : List Cond := .code yX11_children cX11_children 4 (some .int) :: ([.fieldLink RX11 7 "CoatTracesModel" "w" "[I"] ++ wsX110)
def wsX11_narrowed : List Cond := .code yX11_narrowed cX11_narrowed 4 (some .int) :: ([.fieldLink RX11 38 "CoatTracesModel" "least" "[I", .fieldLink RX11 41 "CoatTracesModel" "most" "[I", .methodLink RX11 134 yX11_narrows, .instanceMethod yX11_narrows, .selects RX11 yX11_narrows yX11_narrows, .initialized RX11, .code yX11_narrows cX11_narrows 2 (some .boolean), .fieldLink RX11 7 "CoatTracesModel" "w" "[I", .fieldLink RX11 97 "CoatTracesModel" "moves" "Z", .methodLink RX11 104 yX11_isSpoiled, .instanceMethod yX11_isSpoiled, .selects RX11 yX11_isSpoiled yX11_isSpoiled, .code yX11_isSpoiled cX11_isSpoiled 3 (some .boolean), .methodLink RX11 108 yX11_narrowsOne, .instanceMethod yX11_narrowsOne, .selects RX11 yX11_narrowsOne yX11_narrowsOne, .code yX11_narrowsOne cX11_narrowsOne 5 none, .methodLink RX11 101 yX11_atLeast, .instanceMethod yX11_atLeast, .selects RX11 yX11_atLeast yX11_atLeast, .code yX11_atLeast cX11_atLeast 4 none] ++ wsX110)
def wsX11_person_r1 : List Cond := [Cond.constant RX11 148 (-1000000001), Cond.fieldLink RX11 7 "CoatTracesModel" "w" "[I", Cond.fieldLink RX11 29 "CoatTracesModel" "many" "[I", Cond.constantLong RX11 152 (12), Cond.constantLong RX11 154 (15), Cond.constant RX11 147 (-1000000002), Cond.methodLink RX11 65 yX11_isOne, Cond.instanceMethod yX11_isOne, Cond.selects RX11 yX11_isOne yX11_isOne, Cond.initialized RX11, Cond.code yX11_isOne cX11_isOne 2 (some .boolean), Cond.methodLink RX11 61 yX11_in, Cond.static yX11_in, Cond.code yX11_in cX11_in 6 (some .boolean), Cond.methodLink RX11 90 yX11_lays, Cond.instanceMethod yX11_lays, Cond.selects RX11 yX11_lays yX11_lays, Cond.code yX11_lays cX11_lays 2 none, Cond.methodLink RX11 82 yX11_laysOne, Cond.instanceMethod yX11_laysOne, Cond.selects RX11 yX11_laysOne yX11_laysOne, Cond.code yX11_laysOne cX11_laysOne 6 none, Cond.methodLink RX11 76 yX11_isHeir, Cond.instanceMethod yX11_isHeir]
def wsX11_person_r2 : List Cond := [Cond.selects RX11 yX11_isHeir yX11_isHeir, Cond.code yX11_isHeir cX11_isHeir 4 (some .boolean), Cond.methodLink RX11 69 yX11_isWoman, Cond.instanceMethod yX11_isWoman, Cond.selects RX11 yX11_isWoman yX11_isWoman, Cond.code yX11_isWoman cX11_isWoman 2 (some .boolean), Cond.methodLink RX11 72 yX11_takes, Cond.instanceMethod yX11_takes, Cond.selects RX11 yX11_takes yX11_takes, Cond.code yX11_takes cX11_takes 6 none, Cond.fieldLink RX11 32 "CoatTracesModel" "arms" "[I", Cond.fieldLink RX11 35 "CoatTracesModel" "through" "[I", Cond.methodLink RX11 79 yX11_takesOf, Cond.instanceMethod yX11_takesOf, Cond.selects RX11 yX11_takesOf yX11_takesOf, Cond.code yX11_takesOf cX11_takesOf 5 none, Cond.methodLink RX11 93 yX11_same, Cond.instanceMethod yX11_same, Cond.selects RX11 yX11_same yX11_same, Cond.code yX11_same cX11_same 4 (some .int), Cond.methodLink RX11 86 yX11_isSame, Cond.instanceMethod yX11_isSame, Cond.selects RX11 yX11_isSame yX11_isSame, Cond.code yX11_isSame cX11_isSame 5 (some .boolean)]
def wsX11_person_r3 : List Cond := [Cond.methodLink RX11 121 yX11_like, Cond.instanceMethod yX11_like, Cond.selects RX11 yX11_like yX11_like, Cond.code yX11_like cX11_like 7 (some .int), Cond.fieldLink RX11 44 "CoatTracesModel" "long0" "[I", Cond.methodLink RX11 149 yX11_children, Cond.instanceMethod yX11_children, Cond.selects RX11 yX11_children yX11_children, Cond.code yX11_children cX11_children 4 (some .int), Cond.methodLink RX11 156 yX11_narrowed, Cond.instanceMethod yX11_narrowed, Cond.selects RX11 yX11_narrowed yX11_narrowed, Cond.code yX11_narrowed cX11_narrowed 4 (some .int), Cond.fieldLink RX11 38 "CoatTracesModel" "least" "[I", Cond.fieldLink RX11 41 "CoatTracesModel" "most" "[I", Cond.methodLink RX11 134 yX11_narrows, Cond.instanceMethod yX11_narrows, Cond.selects RX11 yX11_narrows yX11_narrows, Cond.code yX11_narrows cX11_narrows 2 (some .boolean), Cond.fieldLink RX11 97 "CoatTracesModel" "moves" "Z", Cond.methodLink RX11 104 yX11_isSpoiled, Cond.instanceMethod yX11_isSpoiled, Cond.selects RX11 yX11_isSpoiled yX11_isSpoiled, Cond.code yX11_isSpoiled cX11_isSpoiled 3 (some .boolean)]
def wsX11_person_r4 : List Cond := [Cond.methodLink RX11 108 yX11_narrowsOne, Cond.instanceMethod yX11_narrowsOne, Cond.selects RX11 yX11_narrowsOne yX11_narrowsOne, Cond.code yX11_narrowsOne cX11_narrowsOne 5 none, Cond.methodLink RX11 101 yX11_atLeast, Cond.instanceMethod yX11_atLeast, Cond.selects RX11 yX11_atLeast yX11_atLeast, Cond.code yX11_atLeast cX11_atLeast 4 none]
def wsX11_person : List Cond := .code yX11_person cX11_person 3 (some .int) :: ((wsX11_person_r1 ++ (wsX11_person_r2 ++ (wsX11_person_r3 ++ wsX11_person_r4))) ++ wsX110)
def wsX11_quarter_r1 : List Cond := [Cond.constant RX11 148 (-1000000001), Cond.constant RX11 147 (-1000000002), Cond.fieldLink RX11 29 "CoatTracesModel" "many" "[I", Cond.fieldLink RX11 32 "CoatTracesModel" "arms" "[I", Cond.fieldLink RX11 35 "CoatTracesModel" "through" "[I", Cond.methodLink RX11 65 yX11_isOne, Cond.instanceMethod yX11_isOne, Cond.selects RX11 yX11_isOne yX11_isOne, Cond.initialized RX11, Cond.code yX11_isOne cX11_isOne 2 (some .boolean), Cond.fieldLink RX11 7 "CoatTracesModel" "w" "[I", Cond.methodLink RX11 61 yX11_in, Cond.static yX11_in, Cond.code yX11_in cX11_in 6 (some .boolean), Cond.methodLink RX11 90 yX11_lays, Cond.instanceMethod yX11_lays, Cond.selects RX11 yX11_lays yX11_lays, Cond.code yX11_lays cX11_lays 2 none, Cond.methodLink RX11 82 yX11_laysOne, Cond.instanceMethod yX11_laysOne, Cond.selects RX11 yX11_laysOne yX11_laysOne, Cond.code yX11_laysOne cX11_laysOne 6 none, Cond.methodLink RX11 76 yX11_isHeir, Cond.instanceMethod yX11_isHeir]
def wsX11_quarter_r2 : List Cond := [Cond.selects RX11 yX11_isHeir yX11_isHeir, Cond.code yX11_isHeir cX11_isHeir 4 (some .boolean), Cond.methodLink RX11 69 yX11_isWoman, Cond.instanceMethod yX11_isWoman, Cond.selects RX11 yX11_isWoman yX11_isWoman, Cond.code yX11_isWoman cX11_isWoman 2 (some .boolean), Cond.methodLink RX11 72 yX11_takes, Cond.instanceMethod yX11_takes, Cond.selects RX11 yX11_takes yX11_takes, Cond.code yX11_takes cX11_takes 6 none, Cond.methodLink RX11 79 yX11_takesOf, Cond.instanceMethod yX11_takesOf, Cond.selects RX11 yX11_takesOf yX11_takesOf, Cond.code yX11_takesOf cX11_takesOf 5 none]
def wsX11_quarter : List Cond := .code yX11_quarter cX11_quarter 4 (some .int) :: ((wsX11_quarter_r1 ++ wsX11_quarter_r2) ++ wsX110)
def wsX11_steps : List Cond := .code yX11_steps cX11_steps 7 none :: ([.fieldLink RX11 7 "CoatTracesModel" "w" "[I"] ++ wsX110)
def wsX11_kin : List Cond := .code yX11_kin cX11_kin 9 (some .int) :: ([.constant RX11 148 (-1000000001), .constant RX11 147 (-1000000002), .fieldLink RX11 47 "CoatTracesModel" "stepsOne" "[I", .fieldLink RX11 50 "CoatTracesModel" "stepsOther" "[I", .fieldLink RX11 7 "CoatTracesModel" "w" "[I", .methodLink RX11 65 yX11_isOne, .instanceMethod yX11_isOne, .selects RX11 yX11_isOne yX11_isOne, .initialized RX11, .code yX11_isOne cX11_isOne 2 (some .boolean), .methodLink RX11 61 yX11_in, .static yX11_in, .code yX11_in cX11_in 6 (some .boolean), .methodLink RX11 160 yX11_steps, .instanceMethod yX11_steps, .selects RX11 yX11_steps yX11_steps, .code yX11_steps cX11_steps 7 none] ++ wsX110)
def wsX11_would_r1 : List Cond := [Cond.constant RX11 148 (-1000000001), Cond.constant RX11 167 (-1000000003), Cond.fieldLink RX11 7 "CoatTracesModel" "w" "[I", Cond.fieldLink RX11 29 "CoatTracesModel" "many" "[I", Cond.methodLink RX11 65 yX11_isOne, Cond.instanceMethod yX11_isOne, Cond.selects RX11 yX11_isOne yX11_isOne, Cond.initialized RX11, Cond.code yX11_isOne cX11_isOne 2 (some .boolean), Cond.methodLink RX11 61 yX11_in, Cond.static yX11_in, Cond.code yX11_in cX11_in 6 (some .boolean), Cond.methodLink RX11 164 yX11_isMan, Cond.instanceMethod yX11_isMan, Cond.selects RX11 yX11_isMan yX11_isMan, Cond.code yX11_isMan cX11_isMan 2 (some .boolean), Cond.methodLink RX11 69 yX11_isWoman, Cond.instanceMethod yX11_isWoman, Cond.selects RX11 yX11_isWoman yX11_isWoman, Cond.code yX11_isWoman cX11_isWoman 2 (some .boolean), Cond.methodLink RX11 90 yX11_lays, Cond.instanceMethod yX11_lays, Cond.selects RX11 yX11_lays yX11_lays, Cond.code yX11_lays cX11_lays 2 none]
def wsX11_would_r2 : List Cond := [Cond.methodLink RX11 82 yX11_laysOne, Cond.instanceMethod yX11_laysOne, Cond.selects RX11 yX11_laysOne yX11_laysOne, Cond.code yX11_laysOne cX11_laysOne 6 none, Cond.methodLink RX11 76 yX11_isHeir, Cond.instanceMethod yX11_isHeir, Cond.selects RX11 yX11_isHeir yX11_isHeir, Cond.code yX11_isHeir cX11_isHeir 4 (some .boolean), Cond.methodLink RX11 72 yX11_takes, Cond.instanceMethod yX11_takes, Cond.selects RX11 yX11_takes yX11_takes, Cond.code yX11_takes cX11_takes 6 none, Cond.fieldLink RX11 32 "CoatTracesModel" "arms" "[I", Cond.fieldLink RX11 35 "CoatTracesModel" "through" "[I", Cond.methodLink RX11 79 yX11_takesOf, Cond.instanceMethod yX11_takesOf, Cond.selects RX11 yX11_takesOf yX11_takesOf, Cond.code yX11_takesOf cX11_takesOf 5 none]
def wsX11_would : List Cond := .code yX11_would cX11_would 3 (some .int) :: ((wsX11_would_r1 ++ wsX11_would_r2) ++ wsX110)
def wsX11_dated_r1 : List Cond := [Cond.constantLong RX11 168 (999), Cond.constant RX11 147 (-1000000002), Cond.fieldLink RX11 7 "CoatTracesModel" "w" "[I", Cond.fieldLink RX11 38 "CoatTracesModel" "least" "[I", Cond.fieldLink RX11 41 "CoatTracesModel" "most" "[I", Cond.methodLink RX11 61 yX11_in, Cond.static yX11_in, Cond.initialized RX11, Cond.code yX11_in cX11_in 6 (some .boolean), Cond.methodLink RX11 134 yX11_narrows, Cond.instanceMethod yX11_narrows, Cond.selects RX11 yX11_narrows yX11_narrows, Cond.code yX11_narrows cX11_narrows 2 (some .boolean), Cond.fieldLink RX11 97 "CoatTracesModel" "moves" "Z", Cond.methodLink RX11 104 yX11_isSpoiled, Cond.instanceMethod yX11_isSpoiled, Cond.selects RX11 yX11_isSpoiled yX11_isSpoiled, Cond.code yX11_isSpoiled cX11_isSpoiled 3 (some .boolean), Cond.methodLink RX11 108 yX11_narrowsOne, Cond.instanceMethod yX11_narrowsOne, Cond.selects RX11 yX11_narrowsOne yX11_narrowsOne, Cond.code yX11_narrowsOne cX11_narrowsOne 5 none, Cond.methodLink RX11 101 yX11_atLeast, Cond.instanceMethod yX11_atLeast]
def wsX11_dated_r2 : List Cond := [Cond.selects RX11 yX11_atLeast yX11_atLeast, Cond.code yX11_atLeast cX11_atLeast 4 none]
def wsX11_dated : List Cond := .code yX11_dated cX11_dated 6 (some .int) :: ((wsX11_dated_r1 ++ wsX11_dated_r2) ++ wsX110)
def wsX11_signAt : List Cond := .code yX11_signAt cX11_signAt 2 (some .int) :: ([.fieldLink RX11 7 "CoatTracesModel" "w" "[I", .methodLink RX11 61 yX11_in, .static yX11_in, .initialized RX11, .code yX11_in cX11_in 6 (some .boolean)] ++ wsX110)
def wsX11_comes : List Cond := .code yX11_comes cX11_comes 6 none :: ([.fieldLink RX11 7 "CoatTracesModel" "w" "[I"] ++ wsX110)
def wsX11_put_r1 : List Cond := [Cond.constant RX11 148 (-1000000001), Cond.constantLong RX11 170 (9), Cond.constant RX11 147 (-1000000002), Cond.constant RX11 167 (-1000000003), Cond.fieldLink RX11 7 "CoatTracesModel" "w" "[I", Cond.constant RX11 172 (-1000000004), Cond.methodLink RX11 65 yX11_isOne, Cond.instanceMethod yX11_isOne, Cond.selects RX11 yX11_isOne yX11_isOne, Cond.initialized RX11, Cond.code yX11_isOne cX11_isOne 2 (some .boolean), Cond.methodLink RX11 61 yX11_in, Cond.static yX11_in, Cond.code yX11_in cX11_in 6 (some .boolean), Cond.methodLink RX11 164 yX11_isMan, Cond.instanceMethod yX11_isMan, Cond.selects RX11 yX11_isMan yX11_isMan, Cond.code yX11_isMan cX11_isMan 2 (some .boolean), Cond.methodLink RX11 69 yX11_isWoman, Cond.instanceMethod yX11_isWoman, Cond.selects RX11 yX11_isWoman yX11_isWoman, Cond.code yX11_isWoman cX11_isWoman 2 (some .boolean), Cond.methodLink RX11 173 yX11_minds, Cond.instanceMethod yX11_minds]
def wsX11_put_r2 : List Cond := [Cond.selects RX11 yX11_minds yX11_minds, Cond.code yX11_minds cX11_minds 2 none, Cond.fieldLink RX11 53 "CoatTracesModel" "undos" "I", Cond.methodLink RX11 57 yX11_copy, Cond.instanceMethod yX11_copy, Cond.selects RX11 yX11_copy yX11_copy, Cond.code yX11_copy cX11_copy 4 none, Cond.methodLink RX11 176 yX11_comes, Cond.instanceMethod yX11_comes, Cond.selects RX11 yX11_comes yX11_comes, Cond.code yX11_comes cX11_comes 6 none]
def wsX11_put : List Cond := .code yX11_put cX11_put 5 (some .int) :: ((wsX11_put_r1 ++ wsX11_put_r2) ++ wsX110)
def wsX11_bounds_r1 : List Cond := [Cond.constant RX11 148 (-1000000001), Cond.constantLong RX11 168 (999), Cond.constant RX11 147 (-1000000002), Cond.fieldLink RX11 7 "CoatTracesModel" "w" "[I", Cond.methodLink RX11 65 yX11_isOne, Cond.instanceMethod yX11_isOne, Cond.selects RX11 yX11_isOne yX11_isOne, Cond.initialized RX11, Cond.code yX11_isOne cX11_isOne 2 (some .boolean), Cond.methodLink RX11 61 yX11_in, Cond.static yX11_in, Cond.code yX11_in cX11_in 6 (some .boolean), Cond.methodLink RX11 173 yX11_minds, Cond.instanceMethod yX11_minds, Cond.selects RX11 yX11_minds yX11_minds, Cond.code yX11_minds cX11_minds 2 none, Cond.fieldLink RX11 53 "CoatTracesModel" "undos" "I", Cond.methodLink RX11 57 yX11_copy, Cond.instanceMethod yX11_copy, Cond.selects RX11 yX11_copy yX11_copy, Cond.code yX11_copy cX11_copy 4 none, Cond.methodLink RX11 134 yX11_narrows, Cond.instanceMethod yX11_narrows, Cond.selects RX11 yX11_narrows yX11_narrows]
def wsX11_bounds_r2 : List Cond := [Cond.code yX11_narrows cX11_narrows 2 (some .boolean), Cond.fieldLink RX11 38 "CoatTracesModel" "least" "[I", Cond.fieldLink RX11 41 "CoatTracesModel" "most" "[I", Cond.fieldLink RX11 97 "CoatTracesModel" "moves" "Z", Cond.methodLink RX11 104 yX11_isSpoiled, Cond.instanceMethod yX11_isSpoiled, Cond.selects RX11 yX11_isSpoiled yX11_isSpoiled, Cond.code yX11_isSpoiled cX11_isSpoiled 3 (some .boolean), Cond.methodLink RX11 108 yX11_narrowsOne, Cond.instanceMethod yX11_narrowsOne, Cond.selects RX11 yX11_narrowsOne yX11_narrowsOne, Cond.code yX11_narrowsOne cX11_narrowsOne 5 none, Cond.methodLink RX11 101 yX11_atLeast, Cond.instanceMethod yX11_atLeast, Cond.selects RX11 yX11_atLeast yX11_atLeast, Cond.code yX11_atLeast cX11_atLeast 4 none]
def wsX11_bounds : List Cond := .code yX11_bounds cX11_bounds 5 (some .int) :: ((wsX11_bounds_r1 ++ wsX11_bounds_r2) ++ wsX110)
def wsX11_born_r1 : List Cond := [Cond.methodLink RX11 179 yX11_bounds, Cond.instanceMethod yX11_bounds, Cond.selects RX11 yX11_bounds yX11_bounds, Cond.initialized RX11, Cond.code yX11_bounds cX11_bounds 5 (some .int), Cond.constant RX11 148 (-1000000001), Cond.constantLong RX11 168 (999), Cond.constant RX11 147 (-1000000002), Cond.fieldLink RX11 7 "CoatTracesModel" "w" "[I", Cond.methodLink RX11 65 yX11_isOne, Cond.instanceMethod yX11_isOne, Cond.selects RX11 yX11_isOne yX11_isOne, Cond.code yX11_isOne cX11_isOne 2 (some .boolean), Cond.methodLink RX11 61 yX11_in, Cond.static yX11_in, Cond.code yX11_in cX11_in 6 (some .boolean), Cond.methodLink RX11 173 yX11_minds, Cond.instanceMethod yX11_minds, Cond.selects RX11 yX11_minds yX11_minds, Cond.code yX11_minds cX11_minds 2 none, Cond.fieldLink RX11 53 "CoatTracesModel" "undos" "I", Cond.methodLink RX11 57 yX11_copy, Cond.instanceMethod yX11_copy, Cond.selects RX11 yX11_copy yX11_copy]
def wsX11_born_r2 : List Cond := [Cond.code yX11_copy cX11_copy 4 none, Cond.methodLink RX11 134 yX11_narrows, Cond.instanceMethod yX11_narrows, Cond.selects RX11 yX11_narrows yX11_narrows, Cond.code yX11_narrows cX11_narrows 2 (some .boolean), Cond.fieldLink RX11 38 "CoatTracesModel" "least" "[I", Cond.fieldLink RX11 41 "CoatTracesModel" "most" "[I", Cond.fieldLink RX11 97 "CoatTracesModel" "moves" "Z", Cond.methodLink RX11 104 yX11_isSpoiled, Cond.instanceMethod yX11_isSpoiled, Cond.selects RX11 yX11_isSpoiled yX11_isSpoiled, Cond.code yX11_isSpoiled cX11_isSpoiled 3 (some .boolean), Cond.methodLink RX11 108 yX11_narrowsOne, Cond.instanceMethod yX11_narrowsOne, Cond.selects RX11 yX11_narrowsOne yX11_narrowsOne, Cond.code yX11_narrowsOne cX11_narrowsOne 5 none, Cond.methodLink RX11 101 yX11_atLeast, Cond.instanceMethod yX11_atLeast, Cond.selects RX11 yX11_atLeast yX11_atLeast, Cond.code yX11_atLeast cX11_atLeast 4 none]
def wsX11_born : List Cond := .code yX11_born cX11_born 4 (some .int) :: ((wsX11_born_r1 ++ wsX11_born_r2) ++ wsX110)
def wsX11_died_r1 : List Cond := [Cond.methodLink RX11 179 yX11_bounds, Cond.instanceMethod yX11_bounds, Cond.selects RX11 yX11_bounds yX11_bounds, Cond.initialized RX11, Cond.code yX11_bounds cX11_bounds 5 (some .int), Cond.constant RX11 148 (-1000000001), Cond.constantLong RX11 168 (999), Cond.constant RX11 147 (-1000000002), Cond.fieldLink RX11 7 "CoatTracesModel" "w" "[I", Cond.methodLink RX11 65 yX11_isOne, Cond.instanceMethod yX11_isOne, Cond.selects RX11 yX11_isOne yX11_isOne, Cond.code yX11_isOne cX11_isOne 2 (some .boolean), Cond.methodLink RX11 61 yX11_in, Cond.static yX11_in, Cond.code yX11_in cX11_in 6 (some .boolean), Cond.methodLink RX11 173 yX11_minds, Cond.instanceMethod yX11_minds, Cond.selects RX11 yX11_minds yX11_minds, Cond.code yX11_minds cX11_minds 2 none, Cond.fieldLink RX11 53 "CoatTracesModel" "undos" "I", Cond.methodLink RX11 57 yX11_copy, Cond.instanceMethod yX11_copy, Cond.selects RX11 yX11_copy yX11_copy]
def wsX11_died_r2 : List Cond := [Cond.code yX11_copy cX11_copy 4 none, Cond.methodLink RX11 134 yX11_narrows, Cond.instanceMethod yX11_narrows, Cond.selects RX11 yX11_narrows yX11_narrows, Cond.code yX11_narrows cX11_narrows 2 (some .boolean), Cond.fieldLink RX11 38 "CoatTracesModel" "least" "[I", Cond.fieldLink RX11 41 "CoatTracesModel" "most" "[I", Cond.fieldLink RX11 97 "CoatTracesModel" "moves" "Z", Cond.methodLink RX11 104 yX11_isSpoiled, Cond.instanceMethod yX11_isSpoiled, Cond.selects RX11 yX11_isSpoiled yX11_isSpoiled, Cond.code yX11_isSpoiled cX11_isSpoiled 3 (some .boolean), Cond.methodLink RX11 108 yX11_narrowsOne, Cond.instanceMethod yX11_narrowsOne, Cond.selects RX11 yX11_narrowsOne yX11_narrowsOne, Cond.code yX11_narrowsOne cX11_narrowsOne 5 none, Cond.methodLink RX11 101 yX11_atLeast, Cond.instanceMethod yX11_atLeast, Cond.selects RX11 yX11_atLeast yX11_atLeast, Cond.code yX11_atLeast cX11_atLeast 4 none]
def wsX11_died : List Cond := .code yX11_died cX11_died 4 (some .int) :: ((wsX11_died_r1 ++ wsX11_died_r2) ++ wsX110)
def wsX11_rule_r1 : List Cond := [Cond.constantLong RX11 183 (2), Cond.constant RX11 147 (-1000000002), Cond.fieldLink RX11 7 "CoatTracesModel" "w" "[I", Cond.methodLink RX11 61 yX11_in, Cond.static yX11_in, Cond.initialized RX11, Cond.code yX11_in cX11_in 6 (some .boolean), Cond.methodLink RX11 173 yX11_minds, Cond.instanceMethod yX11_minds, Cond.selects RX11 yX11_minds yX11_minds, Cond.code yX11_minds cX11_minds 2 none, Cond.fieldLink RX11 53 "CoatTracesModel" "undos" "I", Cond.methodLink RX11 57 yX11_copy, Cond.instanceMethod yX11_copy, Cond.selects RX11 yX11_copy yX11_copy, Cond.code yX11_copy cX11_copy 4 none, Cond.methodLink RX11 131 yX11_coats, Cond.instanceMethod yX11_coats, Cond.selects RX11 yX11_coats yX11_coats, Cond.code yX11_coats cX11_coats 3 (some .int), Cond.methodLink RX11 90 yX11_lays, Cond.instanceMethod yX11_lays, Cond.selects RX11 yX11_lays yX11_lays, Cond.code yX11_lays cX11_lays 2 none]
def wsX11_rule_r2 : List Cond := [Cond.methodLink RX11 82 yX11_laysOne, Cond.instanceMethod yX11_laysOne, Cond.selects RX11 yX11_laysOne yX11_laysOne, Cond.code yX11_laysOne cX11_laysOne 6 none, Cond.fieldLink RX11 29 "CoatTracesModel" "many" "[I", Cond.methodLink RX11 76 yX11_isHeir, Cond.instanceMethod yX11_isHeir, Cond.selects RX11 yX11_isHeir yX11_isHeir, Cond.code yX11_isHeir cX11_isHeir 4 (some .boolean), Cond.methodLink RX11 69 yX11_isWoman, Cond.instanceMethod yX11_isWoman, Cond.selects RX11 yX11_isWoman yX11_isWoman, Cond.code yX11_isWoman cX11_isWoman 2 (some .boolean), Cond.methodLink RX11 65 yX11_isOne, Cond.instanceMethod yX11_isOne, Cond.selects RX11 yX11_isOne yX11_isOne, Cond.code yX11_isOne cX11_isOne 2 (some .boolean), Cond.methodLink RX11 72 yX11_takes, Cond.instanceMethod yX11_takes, Cond.selects RX11 yX11_takes yX11_takes, Cond.code yX11_takes cX11_takes 6 none, Cond.fieldLink RX11 32 "CoatTracesModel" "arms" "[I", Cond.fieldLink RX11 35 "CoatTracesModel" "through" "[I", Cond.methodLink RX11 79 yX11_takesOf]
def wsX11_rule_r3 : List Cond := [Cond.instanceMethod yX11_takesOf, Cond.selects RX11 yX11_takesOf yX11_takesOf, Cond.code yX11_takesOf cX11_takesOf 5 none, Cond.methodLink RX11 93 yX11_same, Cond.instanceMethod yX11_same, Cond.selects RX11 yX11_same yX11_same, Cond.code yX11_same cX11_same 4 (some .int), Cond.methodLink RX11 86 yX11_isSame, Cond.instanceMethod yX11_isSame, Cond.selects RX11 yX11_isSame yX11_isSame, Cond.code yX11_isSame cX11_isSame 5 (some .boolean)]
def wsX11_rule : List Cond := .code yX11_rule cX11_rule 2 (some .int) :: ((wsX11_rule_r1 ++ (wsX11_rule_r2 ++ wsX11_rule_r3)) ++ wsX110)
def wsX11_sign : List Cond := .code yX11_sign cX11_sign 2 (some .int) :: ([.constantLong RX11 185 (10), .constant RX11 147 (-1000000002), .fieldLink RX11 7 "CoatTracesModel" "w" "[I", .constant RX11 172 (-1000000004), .methodLink RX11 61 yX11_in, .static yX11_in, .initialized RX11, .code yX11_in cX11_in 6 (some .boolean), .methodLink RX11 173 yX11_minds, .instanceMethod yX11_minds, .selects RX11 yX11_minds yX11_minds, .code yX11_minds cX11_minds 2 none, .fieldLink RX11 53 "CoatTracesModel" "undos" "I", .methodLink RX11 57 yX11_copy, .instanceMethod yX11_copy, .selects RX11 yX11_copy yX11_copy, .code yX11_copy cX11_copy 4 none] ++ wsX110)
def wsX11_wipe : List Cond := .code yX11_wipe cX11_wipe 2 (some .int) :: ([.fieldLink RX11 7 "CoatTracesModel" "w" "[I", .methodLink RX11 173 yX11_minds, .instanceMethod yX11_minds, .selects RX11 yX11_minds yX11_minds, .initialized RX11, .code yX11_minds cX11_minds 2 none, .fieldLink RX11 53 "CoatTracesModel" "undos" "I", .methodLink RX11 57 yX11_copy, .instanceMethod yX11_copy, .selects RX11 yX11_copy yX11_copy, .code yX11_copy cX11_copy 4 none] ++ wsX110)
def wsX11_draw : List Cond := .code yX11_draw cX11_draw 2 (some .int) :: ([.fieldLink RX11 187 "CoatTracesModel" "seed" "I", .constantLong RX11 190 (1103515245), .constantLong RX11 192 (12345), .constantLong RX11 194 (2147483648), .constant RX11 196 (65536)] ++ wsX110)
def wsX11_drift_r1 : List Cond := [Cond.constantLong RX11 197 (16), Cond.constant RX11 147 (-1000000002), Cond.fieldLink RX11 7 "CoatTracesModel" "w" "[I", Cond.methodLink RX11 61 yX11_in, Cond.static yX11_in, Cond.initialized RX11, Cond.code yX11_in cX11_in 6 (some .boolean), Cond.methodLink RX11 173 yX11_minds, Cond.instanceMethod yX11_minds, Cond.selects RX11 yX11_minds yX11_minds, Cond.code yX11_minds cX11_minds 2 none, Cond.fieldLink RX11 53 "CoatTracesModel" "undos" "I", Cond.methodLink RX11 57 yX11_copy, Cond.instanceMethod yX11_copy, Cond.selects RX11 yX11_copy yX11_copy, Cond.code yX11_copy cX11_copy 4 none, Cond.methodLink RX11 199 yX11_draw, Cond.instanceMethod yX11_draw, Cond.selects RX11 yX11_draw yX11_draw, Cond.code yX11_draw cX11_draw 2 (some .int), Cond.fieldLink RX11 187 "CoatTracesModel" "seed" "I", Cond.constantLong RX11 190 (1103515245), Cond.constantLong RX11 192 (12345), Cond.constantLong RX11 194 (2147483648)]
def wsX11_drift_r2 : List Cond := [Cond.constant RX11 196 (65536), Cond.methodLink RX11 164 yX11_isMan, Cond.instanceMethod yX11_isMan, Cond.selects RX11 yX11_isMan yX11_isMan, Cond.code yX11_isMan cX11_isMan 2 (some .boolean), Cond.methodLink RX11 65 yX11_isOne, Cond.instanceMethod yX11_isOne, Cond.selects RX11 yX11_isOne yX11_isOne, Cond.code yX11_isOne cX11_isOne 2 (some .boolean), Cond.methodLink RX11 69 yX11_isWoman, Cond.instanceMethod yX11_isWoman, Cond.selects RX11 yX11_isWoman yX11_isWoman, Cond.code yX11_isWoman cX11_isWoman 2 (some .boolean), Cond.methodLink RX11 176 yX11_comes, Cond.instanceMethod yX11_comes, Cond.selects RX11 yX11_comes yX11_comes, Cond.code yX11_comes cX11_comes 6 none]
def wsX11_drift : List Cond := .code yX11_drift cX11_drift 7 (some .int) :: ((wsX11_drift_r1 ++ wsX11_drift_r2) ++ wsX110)
def wsX11_undo : List Cond := .code yX11_undo cX11_undo 2 (some .int) :: ([.constantLong RX11 202 (20), .constant RX11 147 (-1000000002), .fieldLink RX11 53 "CoatTracesModel" "undos" "I", .constant RX11 167 (-1000000003), .fieldLink RX11 7 "CoatTracesModel" "w" "[I", .methodLink RX11 61 yX11_in, .static yX11_in, .initialized RX11, .code yX11_in cX11_in 6 (some .boolean), .methodLink RX11 57 yX11_copy, .instanceMethod yX11_copy, .selects RX11 yX11_copy yX11_copy, .code yX11_copy cX11_copy 4 none] ++ wsX110)
def wsX11_write : List Cond := .code yX11_write cX11_write 4 (some .int) :: ([.constant RX11 148 (-1000000001), .constantLong RX11 170 (9), .constant RX11 147 (-1000000002), .fieldLink RX11 124 "CoatTracesModel" "entries" "I", .constant RX11 172 (-1000000004), .fieldLink RX11 20 "CoatTracesModel" "bookWho" "[I", .fieldLink RX11 23 "CoatTracesModel" "bookPlace" "[I", .fieldLink RX11 26 "CoatTracesModel" "bookArms" "[I", .methodLink RX11 65 yX11_isOne, .instanceMethod yX11_isOne, .selects RX11 yX11_isOne yX11_isOne, .initialized RX11, .code yX11_isOne cX11_isOne 2 (some .boolean), .fieldLink RX11 7 "CoatTracesModel" "w" "[I", .methodLink RX11 61 yX11_in, .static yX11_in, .code yX11_in cX11_in 6 (some .boolean)] ++ wsX110)
def wsX11_tear : List Cond := .code yX11_tear cX11_tear 2 (some .int) :: ([.fieldLink RX11 124 "CoatTracesModel" "entries" "I"] ++ wsX110)
def wsX11_seed : List Cond := .code yX11_seed cX11_seed 3 (some .int) :: ([.constant RX11 147 (-1000000002), .fieldLink RX11 187 "CoatTracesModel" "seed" "I"] ++ wsX110)
def wsX11_keep : List Cond := .code yX11_keep cX11_keep 2 (some .int) :: ([.constant RX11 148 (-1000000001), .fieldLink RX11 13 "CoatTracesModel" "imageSeed" "[I", .fieldLink RX11 187 "CoatTracesModel" "seed" "I", .fieldLink RX11 16 "CoatTracesModel" "isKept" "[Z", .fieldLink RX11 53 "CoatTracesModel" "undos" "I", .methodLink RX11 61 yX11_in, .static yX11_in, .initialized RX11, .code yX11_in cX11_in 6 (some .boolean), .methodLink RX11 57 yX11_copy, .instanceMethod yX11_copy, .selects RX11 yX11_copy yX11_copy, .code yX11_copy cX11_copy 4 none, .fieldLink RX11 7 "CoatTracesModel" "w" "[I"] ++ wsX110)
def wsX11_goBack : List Cond := .code yX11_goBack cX11_goBack 2 (some .int) :: ([.constant RX11 148 (-1000000001), .fieldLink RX11 16 "CoatTracesModel" "isKept" "[Z", .constant RX11 167 (-1000000003), .fieldLink RX11 13 "CoatTracesModel" "imageSeed" "[I", .fieldLink RX11 187 "CoatTracesModel" "seed" "I", .fieldLink RX11 53 "CoatTracesModel" "undos" "I", .methodLink RX11 61 yX11_in, .static yX11_in, .initialized RX11, .code yX11_in cX11_in 6 (some .boolean), .methodLink RX11 57 yX11_copy, .instanceMethod yX11_copy, .selects RX11 yX11_copy yX11_copy, .code yX11_copy cX11_copy 4 none, .fieldLink RX11 7 "CoatTracesModel" "w" "[I"] ++ wsX110)
def wsJ9_max_7cf53 : List Cond := .code yJ9_max_7cf53 cJ9_max_7cf53 2 (some .int) :: ([])
def wsJ9_min_7cf53 : List Cond := .code yJ9_min_7cf53 cJ9_min_7cf53 2 (some .int) :: ([])
def wsL_law_r1 : List Cond := [Cond.classLink RL 7 RX10, Cond.instantiable RX10 9, Cond.initialized RX10, Cond.classLink RL 10 RX11, Cond.instantiable RX11 18, Cond.initialized RX11, Cond.methodLink RL 9 yX10_init, Cond.instanceMethod yX10_init, Cond.code yX10_init cX10_init 1 none, Cond.methodLink RX10 1 objectInit, Cond.instanceMethod objectInit, Cond.code objectInit ⟨#[0xb1]⟩ 1 none, Cond.classLink RX10 7 RX7, Cond.instantiable RX7 1, Cond.initialized RX7, Cond.fieldLink RX10 10 "CoatTraces" "state" "LCoatTraces$State;", Cond.classLink RX10 16 RX1, Cond.instantiable RX1 5, Cond.initialized RX1, Cond.fieldLink RX10 19 "CoatTraces" "coats" "LCoatTraces$Coats;", Cond.classLink RX10 23 RX9, Cond.instantiable RX9 8, Cond.initialized RX9, Cond.fieldLink RX10 26 "CoatTraces" "years" "LCoatTraces$Years;"]
def wsL_law_r2 : List Cond := [Cond.classLink RX10 30 RX8, Cond.instantiable RX8 1, Cond.initialized RX8, Cond.fieldLink RX10 33 "CoatTraces" "tracer" "LCoatTraces$Tracer;", Cond.classLink RX10 37 RX4, Cond.instantiable RX4 4, Cond.initialized RX4, Cond.fieldLink RX10 40 "CoatTraces" "kinship" "LCoatTraces$Kinship;", Cond.classLink RX10 44 RX0, Cond.instantiable RX0 4, Cond.initialized RX0, Cond.fieldLink RX10 47 "CoatTraces" "book" "LCoatTraces$Book;", Cond.classLink RX10 51 RX5, Cond.instantiable RX5 3, Cond.initialized RX5, Cond.fieldLink RX10 54 "CoatTraces" "past" "LCoatTraces$Past;", Cond.classLink RX10 58 RX3, Cond.instantiable RX3 3, Cond.initialized RX3, Cond.fieldLink RX10 61 "CoatTraces" "images" "LCoatTraces$Images;", Cond.classLink RX10 65 RX2, Cond.instantiable RX2 1, Cond.initialized RX2, Cond.fieldLink RX10 68 "CoatTraces" "draws" "LCoatTraces$Draws;"]
def wsL_law_r3 : List Cond := [Cond.methodLink RX10 9 yX7_init, Cond.instanceMethod yX7_init, Cond.code yX7_init cX7_init 1 none, Cond.methodLink RX7 5 objectInit, Cond.arrayClass .int, Cond.fieldLink RX7 11 "CoatTraces$State" "cells" "[I", Cond.methodLink RX10 18 yX1_init, Cond.instanceMethod yX1_init, Cond.code yX1_init cX1_init 1 none, Cond.methodLink RX1 3 objectInit, Cond.fieldLink RX1 11 "CoatTraces$Coats" "sizes" "[I", Cond.fieldLink RX1 15 "CoatTraces$Coats" "arms" "[I", Cond.fieldLink RX1 18 "CoatTraces$Coats" "through" "[I", Cond.methodLink RX10 25 yX9_init, Cond.instanceMethod yX9_init, Cond.code yX9_init cX9_init 1 none, Cond.methodLink RX9 3 objectInit, Cond.fieldLink RX9 9 "CoatTraces$Years" "least" "[I", Cond.fieldLink RX9 15 "CoatTraces$Years" "greatest" "[I", Cond.fieldLink RX9 18 "CoatTraces$Years" "earlier" "[I", Cond.fieldLink RX9 21 "CoatTraces$Years" "later" "[I", Cond.fieldLink RX9 24 "CoatTraces$Years" "gap" "[I", Cond.methodLink RX10 32 yX8_init, Cond.instanceMethod yX8_init]
def wsL_law_r4 : List Cond := [Cond.code yX8_init cX8_init 1 none, Cond.methodLink RX8 3 objectInit, Cond.fieldLink RX8 9 "CoatTraces$Tracer" "found" "[I", Cond.methodLink RX10 39 yX4_init, Cond.instanceMethod yX4_init, Cond.code yX4_init cX4_init 1 none, Cond.methodLink RX4 3 objectInit, Cond.fieldLink RX4 9 "CoatTraces$Kinship" "stepsOfOne" "[I", Cond.fieldLink RX4 15 "CoatTraces$Kinship" "stepsOfOther" "[I", Cond.fieldLink RX4 18 "CoatTraces$Kinship" "steps" "I", Cond.fieldLink RX4 22 "CoatTraces$Kinship" "nearest" "I", Cond.methodLink RX10 46 yX0_init, Cond.instanceMethod yX0_init, Cond.code yX0_init cX0_init 1 none, Cond.methodLink RX0 3 objectInit, Cond.fieldLink RX0 9 "CoatTraces$Book" "whose" "[I", Cond.fieldLink RX0 15 "CoatTraces$Book" "which" "[I", Cond.fieldLink RX0 18 "CoatTraces$Book" "arms" "[I", Cond.methodLink RX10 53 yX5_init, Cond.instanceMethod yX5_init, Cond.code yX5_init cX5_init 1 none, Cond.methodLink RX5 3 objectInit, Cond.classLink RX5 9 RX6, Cond.instantiable RX6 2]
def wsL_law_r5 : List Cond := [Cond.initialized RX6, Cond.fieldLink RX5 14 "CoatTraces$Past" "shelf" "LCoatTraces$Shelf;", Cond.methodLink RX5 11 yX6_init, Cond.instanceMethod yX6_init, Cond.code yX6_init cX6_init 2 none, Cond.methodLink RX6 1 objectInit, Cond.methodLink RX6 7 Lib.Math.max.name, Cond.static Lib.Math.max.name, Cond.initialized "java/lang/Math", Cond.code Lib.Math.max.name Lib.Math.max.code 2 (some .int), Cond.fieldLink RX6 13 "CoatTraces$Shelf" "places" "I", Cond.fieldLink RX6 21 "CoatTraces$Shelf" "rows" "[I", Cond.methodLink RX10 60 yX3_init, Cond.instanceMethod yX3_init, Cond.code yX3_init cX3_init 1 none, Cond.methodLink RX3 3 objectInit, Cond.classLink RX3 9 RX6, Cond.fieldLink RX3 14 "CoatTraces$Images" "shelf" "LCoatTraces$Shelf;", Cond.fieldLink RX3 20 "CoatTraces$Images" "seeds" "[I", Cond.arrayClass .boolean, Cond.fieldLink RX3 24 "CoatTraces$Images" "stored" "[Z", Cond.methodLink RX3 11 yX6_init, Cond.methodLink RX10 67 yX2_init, Cond.instanceMethod yX2_init]
def wsL_law_r6 : List Cond := [Cond.code yX2_init cX2_init 1 none, Cond.methodLink RX2 3 objectInit, Cond.fieldLink RX2 9 "CoatTraces$Draws" "seedNow" "I", Cond.methodLink RL 12 yX11_init, Cond.instanceMethod yX11_init, Cond.code yX11_init cX11_init 1 none, Cond.methodLink RX11 1 objectInit, Cond.fieldLink RX11 7 "CoatTracesModel" "w" "[I", Cond.fieldLink RX11 13 "CoatTracesModel" "imageSeed" "[I", Cond.fieldLink RX11 16 "CoatTracesModel" "isKept" "[Z", Cond.fieldLink RX11 20 "CoatTracesModel" "bookWho" "[I", Cond.fieldLink RX11 23 "CoatTracesModel" "bookPlace" "[I", Cond.fieldLink RX11 26 "CoatTracesModel" "bookArms" "[I", Cond.fieldLink RX11 29 "CoatTracesModel" "many" "[I", Cond.fieldLink RX11 32 "CoatTracesModel" "arms" "[I", Cond.fieldLink RX11 35 "CoatTracesModel" "through" "[I", Cond.fieldLink RX11 38 "CoatTracesModel" "least" "[I", Cond.fieldLink RX11 41 "CoatTracesModel" "most" "[I", Cond.fieldLink RX11 44 "CoatTracesModel" "long0" "[I", Cond.fieldLink RX11 47 "CoatTracesModel" "stepsOne" "[I", Cond.fieldLink RX11 50 "CoatTracesModel" "stepsOther" "[I", Cond.methodLink RL 13 yX10_told, Cond.instanceMethod yX10_told, Cond.selects RX10 yX10_told yX10_told]
def wsL_law_r7 : List Cond := [Cond.code yX10_told cX10_told 2 (some .int), Cond.fieldLink RX10 82 "CoatTraces$Coats" "heirs" "I", Cond.fieldLink RX10 102 "CoatTraces$Book" "entries" "I", Cond.fieldLink RX10 109 "CoatTraces$Past" "deeds" "I", Cond.constant RX10 112 (-1000000002), Cond.methodLink RX10 72 yX7_people, Cond.instanceMethod yX7_people, Cond.selects RX7 yX7_people yX7_people, Cond.code yX7_people cX7_people 1 (some .int), Cond.methodLink RX10 76 yX7_ruleNow, Cond.instanceMethod yX7_ruleNow, Cond.selects RX7 yX7_ruleNow yX7_ruleNow, Cond.code yX7_ruleNow cX7_ruleNow 1 (some .int), Cond.methodLink RX10 79 yX7_signs, Cond.instanceMethod yX7_signs, Cond.selects RX7 yX7_signs yX7_signs, Cond.code yX7_signs cX7_signs 1 (some .int), Cond.methodLink RX10 86 yX1_unlikeCoats, Cond.instanceMethod yX1_unlikeCoats, Cond.selects RX1 yX1_unlikeCoats yX1_unlikeCoats, Cond.code yX1_unlikeCoats cX1_unlikeCoats 4 (some .int), Cond.fieldLink RX1 27 "CoatTraces$Coats" "people" "I", Cond.methodLink RX1 52 yX1_isIn, Cond.static yX1_isIn]
def wsL_law_r8 : List Cond := [Cond.code yX1_isIn cX1_isIn 2 (some .boolean), Cond.methodLink RX1 79 yX1_sameAs, Cond.instanceMethod yX1_sameAs, Cond.selects RX1 yX1_sameAs yX1_sameAs, Cond.code yX1_sameAs cX1_sameAs 4 (some .int), Cond.methodLink RX1 76 yX1_isSame, Cond.instanceMethod yX1_isSame, Cond.selects RX1 yX1_isSame yX1_isSame, Cond.code yX1_isSame cX1_isSame 4 (some .boolean), Cond.methodLink RX1 56 yX1_sizeOf, Cond.instanceMethod yX1_sizeOf, Cond.selects RX1 yX1_sizeOf yX1_sizeOf, Cond.code yX1_sizeOf cX1_sizeOf 2 (some .int), Cond.methodLink RX1 67 yX1_armsAt, Cond.instanceMethod yX1_armsAt, Cond.selects RX1 yX1_armsAt yX1_armsAt, Cond.code yX1_armsAt cX1_armsAt 3 (some .int), Cond.methodLink RX10 89 yX9_spoiledBit, Cond.instanceMethod yX9_spoiledBit, Cond.selects RX9 yX9_spoiledBit yX9_spoiledBit, Cond.code yX9_spoiledBit cX9_spoiledBit 1 (some .int), Cond.fieldLink RX9 51 "CoatTraces$Years" "spoiled" "Z", Cond.methodLink RX10 92 yX8_meantByAll, Cond.instanceMethod yX8_meantByAll]
def wsL_law_r9 : List Cond := [Cond.selects RX8 yX8_meantByAll yX8_meantByAll, Cond.code yX8_meantByAll cX8_meantByAll 5 (some .int), Cond.methodLink RX8 15 yX7_people, Cond.methodLink RX8 21 yX7_signs, Cond.methodLink RX8 24 yX1_sizeOf, Cond.methodLink RX8 30 yX8_fitsEach, Cond.static yX8_fitsEach, Cond.code yX8_fitsEach cX8_fitsEach 4 (some .boolean), Cond.methodLink RX8 34 yX7_signNumber, Cond.instanceMethod yX7_signNumber, Cond.selects RX7 yX7_signNumber yX7_signNumber, Cond.code yX7_signNumber cX7_signNumber 2 (some .int), Cond.methodLink RX7 31 yX7_signs, Cond.methodLink RX8 37 yX1_armsAt, Cond.methodLink RX8 41 yX8_fits, Cond.static yX8_fits, Cond.code yX8_fits cX8_fits 2 (some .boolean), Cond.methodLink RX10 96 yX8_meantBySome, Cond.instanceMethod yX8_meantBySome, Cond.selects RX8 yX8_meantBySome yX8_meantBySome, Cond.code yX8_meantBySome cX8_meantBySome 5 (some .int), Cond.methodLink RX8 45 yX8_holdsRest, Cond.static yX8_holdsRest, Cond.code yX8_holdsRest cX8_holdsRest 5 (some .boolean)]
def wsL_law_r10 : List Cond := [Cond.methodLink RX10 99 yX8_likely, Cond.instanceMethod yX8_likely, Cond.selects RX8 yX8_likely yX8_likely, Cond.code yX8_likely cX8_likely 8 (some .int), Cond.methodLink RX8 60 yX8_like, Cond.instanceMethod yX8_like, Cond.selects RX8 yX8_like yX8_like, Cond.code yX8_like cX8_like 6 (some .int), Cond.methodLink RX8 48 Lib.Math.min.name, Cond.static Lib.Math.min.name, Cond.code Lib.Math.min.name Lib.Math.min.code 2 (some .int), Cond.methodLink RX8 53 yX8_countOneMore, Cond.instanceMethod yX8_countOneMore, Cond.selects RX8 yX8_countOneMore yX8_countOneMore, Cond.code yX8_countOneMore cX8_countOneMore 8 none, Cond.methodLink RX8 57 Lib.Math.max.name, Cond.methodLink RX10 105 yX0_firstWrong, Cond.instanceMethod yX0_firstWrong, Cond.selects RX0 yX0_firstWrong yX0_firstWrong, Cond.code yX0_firstWrong cX0_firstWrong 4 (some .int), Cond.fieldLink RX0 21 "CoatTraces$Book" "entries" "I", Cond.fieldLink RX0 25 "CoatTraces$Coats" "people" "I", Cond.methodLink RX0 30 yX1_armsAt, Cond.methodLink RL 17 yX11_told]
def wsL_law_r11 : List Cond := [Cond.instanceMethod yX11_told, Cond.selects RX11 yX11_told yX11_told, Cond.code yX11_told cX11_told 2 (some .int), Cond.fieldLink RX11 124 "CoatTracesModel" "entries" "I", Cond.fieldLink RX11 53 "CoatTracesModel" "undos" "I", Cond.constant RX11 147 (-1000000002), Cond.methodLink RX11 127 yX11_heirs, Cond.instanceMethod yX11_heirs, Cond.selects RX11 yX11_heirs yX11_heirs, Cond.code yX11_heirs cX11_heirs 3 (some .int), Cond.methodLink RX11 76 yX11_isHeir, Cond.instanceMethod yX11_isHeir, Cond.selects RX11 yX11_isHeir yX11_isHeir, Cond.code yX11_isHeir cX11_isHeir 4 (some .boolean), Cond.methodLink RX11 69 yX11_isWoman, Cond.instanceMethod yX11_isWoman, Cond.selects RX11 yX11_isWoman yX11_isWoman, Cond.code yX11_isWoman cX11_isWoman 2 (some .boolean), Cond.methodLink RX11 65 yX11_isOne, Cond.instanceMethod yX11_isOne, Cond.selects RX11 yX11_isOne yX11_isOne, Cond.code yX11_isOne cX11_isOne 2 (some .boolean), Cond.methodLink RX11 61 yX11_in, Cond.static yX11_in]
def wsL_law_r12 : List Cond := [Cond.code yX11_in cX11_in 6 (some .boolean), Cond.methodLink RX11 131 yX11_coats, Cond.instanceMethod yX11_coats, Cond.selects RX11 yX11_coats yX11_coats, Cond.code yX11_coats cX11_coats 3 (some .int), Cond.methodLink RX11 90 yX11_lays, Cond.instanceMethod yX11_lays, Cond.selects RX11 yX11_lays yX11_lays, Cond.code yX11_lays cX11_lays 2 none, Cond.methodLink RX11 82 yX11_laysOne, Cond.instanceMethod yX11_laysOne, Cond.selects RX11 yX11_laysOne yX11_laysOne, Cond.code yX11_laysOne cX11_laysOne 6 none, Cond.methodLink RX11 72 yX11_takes, Cond.instanceMethod yX11_takes, Cond.selects RX11 yX11_takes yX11_takes, Cond.code yX11_takes cX11_takes 6 none, Cond.methodLink RX11 79 yX11_takesOf, Cond.instanceMethod yX11_takesOf, Cond.selects RX11 yX11_takesOf yX11_takesOf, Cond.code yX11_takesOf cX11_takesOf 5 none, Cond.methodLink RX11 93 yX11_same, Cond.instanceMethod yX11_same, Cond.selects RX11 yX11_same yX11_same]
def wsL_law_r13 : List Cond := [Cond.code yX11_same cX11_same 4 (some .int), Cond.methodLink RX11 86 yX11_isSame, Cond.instanceMethod yX11_isSame, Cond.selects RX11 yX11_isSame yX11_isSame, Cond.code yX11_isSame cX11_isSame 5 (some .boolean), Cond.methodLink RX11 134 yX11_narrows, Cond.instanceMethod yX11_narrows, Cond.selects RX11 yX11_narrows yX11_narrows, Cond.code yX11_narrows cX11_narrows 2 (some .boolean), Cond.fieldLink RX11 97 "CoatTracesModel" "moves" "Z", Cond.methodLink RX11 104 yX11_isSpoiled, Cond.instanceMethod yX11_isSpoiled, Cond.selects RX11 yX11_isSpoiled yX11_isSpoiled, Cond.code yX11_isSpoiled cX11_isSpoiled 3 (some .boolean), Cond.methodLink RX11 108 yX11_narrowsOne, Cond.instanceMethod yX11_narrowsOne, Cond.selects RX11 yX11_narrowsOne yX11_narrowsOne, Cond.code yX11_narrowsOne cX11_narrowsOne 5 none, Cond.methodLink RX11 101 yX11_atLeast, Cond.instanceMethod yX11_atLeast, Cond.selects RX11 yX11_atLeast yX11_atLeast, Cond.code yX11_atLeast cX11_atLeast 4 none, Cond.methodLink RX11 137 yX11_meant, Cond.instanceMethod yX11_meant]
def wsL_law_r14 : List Cond := [Cond.selects RX11 yX11_meant yX11_meant, Cond.code yX11_meant cX11_meant 4 (some .int), Cond.methodLink RX11 115 yX11_isAll, Cond.instanceMethod yX11_isAll, Cond.selects RX11 yX11_isAll yX11_isAll, Cond.code yX11_isAll cX11_isAll 4 (some .boolean), Cond.methodLink RX11 112 yX11_isAs, Cond.instanceMethod yX11_isAs, Cond.selects RX11 yX11_isAs yX11_isAs, Cond.code yX11_isAs cX11_isAs 3 (some .boolean), Cond.methodLink RX11 118 yX11_isSome, Cond.instanceMethod yX11_isSome, Cond.selects RX11 yX11_isSome yX11_isSome, Cond.code yX11_isSome cX11_isSome 4 (some .boolean), Cond.methodLink RX11 141 yX11_likely, Cond.instanceMethod yX11_likely, Cond.selects RX11 yX11_likely yX11_likely, Cond.code yX11_likely cX11_likely 5 (some .int), Cond.methodLink RX11 121 yX11_like, Cond.instanceMethod yX11_like, Cond.selects RX11 yX11_like yX11_like, Cond.code yX11_like cX11_like 7 (some .int), Cond.methodLink RX11 144 yX11_wrong, Cond.instanceMethod yX11_wrong]
def wsL_law_r15 : List Cond := [Cond.selects RX11 yX11_wrong yX11_wrong, Cond.code yX11_wrong cX11_wrong 3 (some .int), Cond.methodLink RL 18 yX10_person, Cond.instanceMethod yX10_person, Cond.selects RX10 yX10_person yX10_person, Cond.code yX10_person cX10_person 3 (some .int), Cond.constant RX10 117 (-1000000001), Cond.methodLink RX10 113 yX7_has, Cond.instanceMethod yX7_has, Cond.selects RX7 yX7_has yX7_has, Cond.code yX7_has cX7_has 2 (some .boolean), Cond.methodLink RX10 118 yX7_fact, Cond.instanceMethod yX7_fact, Cond.selects RX7 yX7_fact yX7_fact, Cond.code yX7_fact cX7_fact 3 (some .int), Cond.methodLink RX7 15 yX7_has, Cond.methodLink RX10 122 yX1_sizeOf, Cond.methodLink RX10 126 yX1_sameAs, Cond.methodLink RX10 129 yX8_like, Cond.methodLink RX10 133 yX7_childrenOf, Cond.instanceMethod yX7_childrenOf, Cond.selects RX7 yX7_childrenOf yX7_childrenOf, Cond.code yX7_childrenOf cX7_childrenOf 4 (some .int), Cond.methodLink RX7 19 yX7_people]
def wsL_law_r16 : List Cond := [Cond.methodLink RX7 23 yX7_fact, Cond.methodLink RX10 136 yX9_leastBirth, Cond.instanceMethod yX9_leastBirth, Cond.selects RX9 yX9_leastBirth yX9_leastBirth, Cond.code yX9_leastBirth cX9_leastBirth 2 (some .int), Cond.methodLink RX9 58 yX9_birth, Cond.static yX9_birth, Cond.code yX9_birth cX9_birth 1 (some .int), Cond.methodLink RX9 80 yX9_leastOf, Cond.instanceMethod yX9_leastOf, Cond.selects RX9 yX9_leastOf yX9_leastOf, Cond.code yX9_leastOf cX9_leastOf 2 (some .int), Cond.methodLink RX9 76 yX9_isKnown, Cond.instanceMethod yX9_isKnown, Cond.selects RX9 yX9_isKnown yX9_isKnown, Cond.code yX9_isKnown cX9_isKnown 2 (some .boolean), Cond.fieldLink RX9 33 "CoatTraces$Years" "moments" "I", Cond.methodLink RX10 139 yX9_greatestBirth, Cond.instanceMethod yX9_greatestBirth, Cond.selects RX9 yX9_greatestBirth yX9_greatestBirth, Cond.code yX9_greatestBirth cX9_greatestBirth 2 (some .int), Cond.methodLink RX9 83 yX9_greatestOf, Cond.instanceMethod yX9_greatestOf, Cond.selects RX9 yX9_greatestOf yX9_greatestOf]
def wsL_law_r17 : List Cond := [Cond.code yX9_greatestOf cX9_greatestOf 2 (some .int), Cond.methodLink RX10 142 yX9_leastDeath, Cond.instanceMethod yX9_leastDeath, Cond.selects RX9 yX9_leastDeath yX9_leastDeath, Cond.code yX9_leastDeath cX9_leastDeath 2 (some .int), Cond.methodLink RX9 66 yX9_death, Cond.static yX9_death, Cond.code yX9_death cX9_death 1 (some .int), Cond.methodLink RX10 145 yX9_greatestDeath, Cond.instanceMethod yX9_greatestDeath, Cond.selects RX9 yX9_greatestDeath yX9_greatestDeath, Cond.code yX9_greatestDeath cX9_greatestDeath 2 (some .int), Cond.methodLink RL 22 yX11_person, Cond.instanceMethod yX11_person, Cond.selects RX11 yX11_person yX11_person, Cond.code yX11_person cX11_person 3 (some .int), Cond.constant RX11 148 (-1000000001), Cond.constantLong RX11 152 (12), Cond.constantLong RX11 154 (15), Cond.methodLink RX11 149 yX11_children, Cond.instanceMethod yX11_children, Cond.selects RX11 yX11_children yX11_children, Cond.code yX11_children cX11_children 4 (some .int), Cond.methodLink RX11 156 yX11_narrowed]
def wsL_law_r18 : List Cond := [Cond.instanceMethod yX11_narrowed, Cond.selects RX11 yX11_narrowed yX11_narrowed, Cond.code yX11_narrowed cX11_narrowed 4 (some .int), Cond.methodLink RL 23 yX10_quarter, Cond.instanceMethod yX10_quarter, Cond.selects RX10 yX10_quarter yX10_quarter, Cond.code yX10_quarter cX10_quarter 4 (some .int), Cond.methodLink RX10 148 yX1_armsAt, Cond.methodLink RX10 151 yX1_throughAt, Cond.instanceMethod yX1_throughAt, Cond.selects RX1 yX1_throughAt yX1_throughAt, Cond.code yX1_throughAt cX1_throughAt 3 (some .int), Cond.methodLink RL 27 yX11_quarter, Cond.instanceMethod yX11_quarter, Cond.selects RX11 yX11_quarter yX11_quarter, Cond.code yX11_quarter cX11_quarter 4 (some .int), Cond.methodLink RL 28 yX10_kin, Cond.instanceMethod yX10_kin, Cond.selects RX10 yX10_kin yX10_kin, Cond.code yX10_kin cX10_kin 4 (some .int), Cond.fieldLink RX10 158 "CoatTraces$Kinship" "steps" "I", Cond.fieldLink RX10 161 "CoatTraces$Kinship" "nearest" "I", Cond.methodLink RX10 154 yX4_seek, Cond.instanceMethod yX4_seek]
def wsL_law_r19 : List Cond := [Cond.selects RX4 yX4_seek yX4_seek, Cond.code yX4_seek cX4_seek 6 none, Cond.methodLink RX4 25 yX4_countSteps, Cond.static yX4_countSteps, Cond.code yX4_countSteps cX4_countSteps 4 none, Cond.methodLink RX4 35 Lib.Math.min.name, Cond.methodLink RX4 41 yX7_fact, Cond.methodLink RX4 44 yX4_handOn, Cond.static yX4_handOn, Cond.code yX4_handOn cX4_handOn 3 none, Cond.methodLink RX4 29 yX7_people, Cond.methodLink RL 31 yX11_kin, Cond.instanceMethod yX11_kin, Cond.selects RX11 yX11_kin yX11_kin, Cond.code yX11_kin cX11_kin 9 (some .int), Cond.methodLink RX11 160 yX11_steps, Cond.instanceMethod yX11_steps, Cond.selects RX11 yX11_steps yX11_steps, Cond.code yX11_steps cX11_steps 7 none, Cond.methodLink RL 32 yX10_would, Cond.instanceMethod yX10_would, Cond.selects RX10 yX10_would yX10_would, Cond.code yX10_would cX10_would 3 (some .int), Cond.constant RX10 170 (-1000000003)]
def wsL_law_r20 : List Cond := [Cond.methodLink RX10 164 yX7_isMan, Cond.instanceMethod yX7_isMan, Cond.selects RX7 yX7_isMan yX7_isMan, Cond.code yX7_isMan cX7_isMan 2 (some .boolean), Cond.methodLink RX10 167 yX7_isWoman, Cond.instanceMethod yX7_isWoman, Cond.selects RX7 yX7_isWoman yX7_isWoman, Cond.code yX7_isWoman cX7_isWoman 2 (some .boolean), Cond.methodLink RX10 171 yX1_sizeForChild, Cond.instanceMethod yX1_sizeForChild, Cond.selects RX1 yX1_sizeForChild yX1_sizeForChild, Cond.code yX1_sizeForChild cX1_sizeForChild 4 (some .int), Cond.methodLink RX1 41 yX1_compose, Cond.instanceMethod yX1_compose, Cond.selects RX1 yX1_compose yX1_compose, Cond.code yX1_compose cX1_compose 7 none, Cond.fieldLink RX1 34 "CoatTraces$Coats" "heirs" "I", Cond.methodLink RX1 60 yX7_ruleNow, Cond.methodLink RX1 37 yX7_fact, Cond.methodLink RX1 63 yX1_take, Cond.instanceMethod yX1_take, Cond.selects RX1 yX1_take yX1_take, Cond.code yX1_take cX1_take 7 none, Cond.methodLink RX1 70 yX1_throughAt]
def wsL_law_r21 : List Cond := [Cond.methodLink RX1 73 yX1_takeFrom, Cond.instanceMethod yX1_takeFrom, Cond.selects RX1 yX1_takeFrom yX1_takeFrom, Cond.code yX1_takeFrom cX1_takeFrom 5 none, Cond.methodLink RL 35 yX11_would, Cond.instanceMethod yX11_would, Cond.selects RX11 yX11_would yX11_would, Cond.code yX11_would cX11_would 3 (some .int), Cond.constant RX11 167 (-1000000003), Cond.methodLink RX11 164 yX11_isMan, Cond.instanceMethod yX11_isMan, Cond.selects RX11 yX11_isMan yX11_isMan, Cond.code yX11_isMan cX11_isMan 2 (some .boolean), Cond.methodLink RL 36 yX10_dated, Cond.instanceMethod yX10_dated, Cond.selects RX10 yX10_dated yX10_dated, Cond.code yX10_dated cX10_dated 3 (some .int), Cond.methodLink RX10 175 yX10_areYears, Cond.static yX10_areYears, Cond.code yX10_areYears cX10_areYears 2 (some .boolean), Cond.methodLink RX10 179 yX9_diedBetween, Cond.instanceMethod yX9_diedBetween, Cond.selects RX9 yX9_diedBetween yX9_diedBetween, Cond.code yX9_diedBetween cX9_diedBetween 6 (some .int)]
def wsL_law_r22 : List Cond := [Cond.methodLink RX9 86 yX9_leastDeath, Cond.methodLink RX9 89 yX9_greatestDeath, Cond.methodLink RL 39 yX11_dated, Cond.instanceMethod yX11_dated, Cond.selects RX11 yX11_dated yX11_dated, Cond.code yX11_dated cX11_dated 6 (some .int), Cond.constantLong RX11 168 (999), Cond.methodLink RL 40 yX10_signAt, Cond.instanceMethod yX10_signAt, Cond.selects RX10 yX10_signAt yX10_signAt, Cond.code yX10_signAt cX10_signAt 2 (some .int), Cond.methodLink RX10 183 yX7_signNumber, Cond.methodLink RL 43 yX11_signAt, Cond.instanceMethod yX11_signAt, Cond.selects RX11 yX11_signAt yX11_signAt, Cond.code yX11_signAt cX11_signAt 2 (some .int), Cond.methodLink RL 44 yX10_put, Cond.instanceMethod yX10_put, Cond.selects RX10 yX10_put yX10_put, Cond.code yX10_put cX10_put 5 (some .int), Cond.constant RX10 196 (-1000000004), Cond.methodLink RX10 186 yX7_hasOrNone, Cond.instanceMethod yX7_hasOrNone, Cond.selects RX7 yX7_hasOrNone yX7_hasOrNone]
def wsL_law_r23 : List Cond := [Cond.code yX7_hasOrNone cX7_hasOrNone 2 (some .boolean), Cond.methodLink RX10 189 yX10_isArms, Cond.static yX10_isArms, Cond.code yX10_isArms cX10_isArms 1 (some .boolean), Cond.methodLink RX10 192 yX7_hasRoom, Cond.instanceMethod yX7_hasRoom, Cond.selects RX7 yX7_hasRoom yX7_hasRoom, Cond.code yX7_hasRoom cX7_hasRoom 1 (some .boolean), Cond.methodLink RX10 197 yX5_remember, Cond.instanceMethod yX5_remember, Cond.selects RX5 yX5_remember yX5_remember, Cond.code yX5_remember cX5_remember 2 none, Cond.fieldLink RX5 20 "CoatTraces$Past" "next" "I", Cond.fieldLink RX5 28 "CoatTraces$Past" "deeds" "I", Cond.methodLink RX5 31 Lib.Math.min.name, Cond.methodLink RX5 24 yX6_lay, Cond.instanceMethod yX6_lay, Cond.selects RX6 yX6_lay yX6_lay, Cond.code yX6_lay cX6_lay 3 none, Cond.fieldLink RX6 25 "CoatTraces$State" "cells" "[I", Cond.methodLink RX6 28 arraycopyName, Cond.native arraycopyName, Cond.static arraycopyName, Cond.initialized "java/lang/System"]
def wsL_law_r24 : List Cond := [Cond.methodLink RX10 201 yX7_addPerson, Cond.instanceMethod yX7_addPerson, Cond.selects RX7 yX7_addPerson yX7_addPerson, Cond.code yX7_addPerson cX7_addPerson 6 none, Cond.methodLink RX7 27 yX7_hasRoom, Cond.methodLink RX10 205 yX10_reckonAll, Cond.instanceMethod yX10_reckonAll, Cond.selects RX10 yX10_reckonAll yX10_reckonAll, Cond.code yX10_reckonAll cX10_reckonAll 1 none, Cond.methodLink RX10 216 yX1_reckon, Cond.instanceMethod yX1_reckon, Cond.selects RX1 yX1_reckon yX1_reckon, Cond.code yX1_reckon cX1_reckon 3 none, Cond.methodLink RX1 21 yX7_people, Cond.methodLink RX1 30 yX1_heirsOf, Cond.static yX1_heirsOf, Cond.code yX1_heirsOf cX1_heirsOf 5 (some .int), Cond.methodLink RX1 45 yX7_isMan, Cond.methodLink RX1 49 yX7_isWoman, Cond.methodLink RX10 252 yX9_reckon, Cond.instanceMethod yX9_reckon, Cond.selects RX9 yX9_reckon yX9_reckon, Cond.code yX9_reckon cX9_reckon 2 none, Cond.methodLink RX9 27 yX7_people]
def wsL_law_r25 : List Cond := [Cond.methodLink RX9 37 yX9_layBounds, Cond.instanceMethod yX9_layBounds, Cond.selects RX9 yX9_layBounds yX9_layBounds, Cond.code yX9_layBounds cX9_layBounds 3 none, Cond.methodLink RX9 62 yX7_fact, Cond.methodLink RX9 41 yX9_layGaps, Cond.instanceMethod yX9_layGaps, Cond.selects RX9 yX9_layGaps yX9_layGaps, Cond.code yX9_layGaps cX9_layGaps 5 none, Cond.fieldLink RX9 69 "CoatTraces$Years" "gaps" "I", Cond.methodLink RX9 72 yX9_addGap, Cond.instanceMethod yX9_addGap, Cond.selects RX9 yX9_addGap yX9_addGap, Cond.code yX9_addGap cX9_addGap 4 none, Cond.methodLink RX9 44 yX9_raiseLeast, Cond.instanceMethod yX9_raiseLeast, Cond.selects RX9 yX9_raiseLeast yX9_raiseLeast, Cond.code yX9_raiseLeast cX9_raiseLeast 5 (some .boolean), Cond.methodLink RX9 48 yX9_isCrossed, Cond.instanceMethod yX9_isCrossed, Cond.selects RX9 yX9_isCrossed yX9_isCrossed, Cond.code yX9_isCrossed cX9_isCrossed 2 (some .boolean), Cond.methodLink RX9 55 yX9_lowerGreatest, Cond.instanceMethod yX9_lowerGreatest]
def wsL_law_r26 : List Cond := [Cond.selects RX9 yX9_lowerGreatest yX9_lowerGreatest, Cond.code yX9_lowerGreatest cX9_lowerGreatest 5 none, Cond.methodLink RL 48 yX11_put, Cond.instanceMethod yX11_put, Cond.selects RX11 yX11_put yX11_put, Cond.code yX11_put cX11_put 5 (some .int), Cond.constantLong RX11 170 (9), Cond.constant RX11 172 (-1000000004), Cond.methodLink RX11 173 yX11_minds, Cond.instanceMethod yX11_minds, Cond.selects RX11 yX11_minds yX11_minds, Cond.code yX11_minds cX11_minds 2 none, Cond.methodLink RX11 57 yX11_copy, Cond.instanceMethod yX11_copy, Cond.selects RX11 yX11_copy yX11_copy, Cond.code yX11_copy cX11_copy 4 none, Cond.methodLink RX11 176 yX11_comes, Cond.instanceMethod yX11_comes, Cond.selects RX11 yX11_comes yX11_comes, Cond.code yX11_comes cX11_comes 6 none, Cond.methodLink RL 49 yX10_born, Cond.instanceMethod yX10_born, Cond.selects RX10 yX10_born yX10_born, Cond.code yX10_born cX10_born 4 (some .int)]
def wsL_law_r27 : List Cond := [Cond.methodLink RX10 208 yX10_boundYears, Cond.instanceMethod yX10_boundYears, Cond.selects RX10 yX10_boundYears yX10_boundYears, Cond.code yX10_boundYears cX10_boundYears 5 (some .int), Cond.methodLink RX10 249 yX7_setBounds, Cond.instanceMethod yX7_setBounds, Cond.selects RX7 yX7_setBounds yX7_setBounds, Cond.code yX7_setBounds cX7_setBounds 6 none, Cond.methodLink RL 52 yX11_born, Cond.instanceMethod yX11_born, Cond.selects RX11 yX11_born yX11_born, Cond.code yX11_born cX11_born 4 (some .int), Cond.methodLink RX11 179 yX11_bounds, Cond.instanceMethod yX11_bounds, Cond.selects RX11 yX11_bounds yX11_bounds, Cond.code yX11_bounds cX11_bounds 5 (some .int), Cond.methodLink RL 53 yX10_died, Cond.instanceMethod yX10_died, Cond.selects RX10 yX10_died yX10_died, Cond.code yX10_died cX10_died 4 (some .int), Cond.methodLink RL 56 yX11_died, Cond.instanceMethod yX11_died, Cond.selects RX11 yX11_died yX11_died, Cond.code yX11_died cX11_died 4 (some .int)]
def wsL_law_r28 : List Cond := [Cond.methodLink RL 57 yX10_rule, Cond.instanceMethod yX10_rule, Cond.selects RX10 yX10_rule yX10_rule, Cond.code yX10_rule cX10_rule 2 (some .int), Cond.methodLink RX10 212 yX7_setRule, Cond.instanceMethod yX7_setRule, Cond.selects RX7 yX7_setRule yX7_setRule, Cond.code yX7_setRule cX7_setRule 2 none, Cond.methodLink RL 60 yX11_rule, Cond.instanceMethod yX11_rule, Cond.selects RX11 yX11_rule yX11_rule, Cond.code yX11_rule cX11_rule 2 (some .int), Cond.constantLong RX11 183 (2), Cond.methodLink RL 61 yX10_sign, Cond.instanceMethod yX10_sign, Cond.selects RX10 yX10_sign yX10_sign, Cond.code yX10_sign cX10_sign 2 (some .int), Cond.methodLink RX10 219 yX7_addSign, Cond.instanceMethod yX7_addSign, Cond.selects RX7 yX7_addSign yX7_addSign, Cond.code yX7_addSign cX7_addSign 2 none, Cond.methodLink RL 64 yX11_sign, Cond.instanceMethod yX11_sign, Cond.selects RX11 yX11_sign yX11_sign]
def wsL_law_r29 : List Cond := [Cond.code yX11_sign cX11_sign 2 (some .int), Cond.constantLong RX11 185 (10), Cond.methodLink RL 65 yX10_wipe, Cond.instanceMethod yX10_wipe, Cond.selects RX10 yX10_wipe yX10_wipe, Cond.code yX10_wipe cX10_wipe 2 (some .int), Cond.methodLink RX10 222 yX7_clearSigns, Cond.instanceMethod yX7_clearSigns, Cond.selects RX7 yX7_clearSigns yX7_clearSigns, Cond.code yX7_clearSigns cX7_clearSigns 1 none, Cond.methodLink RL 69 yX11_wipe, Cond.instanceMethod yX11_wipe, Cond.selects RX11 yX11_wipe yX11_wipe, Cond.code yX11_wipe cX11_wipe 2 (some .int), Cond.methodLink RL 70 yX10_drift, Cond.instanceMethod yX10_drift, Cond.selects RX10 yX10_drift yX10_drift, Cond.code yX10_drift cX10_drift 3 (some .int), Cond.methodLink RX10 225 yX2_addOne, Cond.instanceMethod yX2_addOne, Cond.selects RX2 yX2_addOne yX2_addOne, Cond.code yX2_addOne cX2_addOne 6 none, Cond.methodLink RX2 18 yX2_draw, Cond.instanceMethod yX2_draw]
def wsL_law_r30 : List Cond := [Cond.selects RX2 yX2_draw yX2_draw, Cond.code yX2_draw cX2_draw 2 (some .int), Cond.constant RX2 15 (1103515245), Cond.constant RX2 16 (2147483647), Cond.constant RX2 17 (65536), Cond.methodLink RX2 22 yX7_people, Cond.methodLink RX2 28 yX7_isMan, Cond.methodLink RX2 32 yX7_isWoman, Cond.methodLink RX2 35 yX7_addPerson, Cond.methodLink RL 73 yX11_drift, Cond.instanceMethod yX11_drift, Cond.selects RX11 yX11_drift yX11_drift, Cond.code yX11_drift cX11_drift 7 (some .int), Cond.constantLong RX11 197 (16), Cond.methodLink RX11 199 yX11_draw, Cond.instanceMethod yX11_draw, Cond.selects RX11 yX11_draw yX11_draw, Cond.code yX11_draw cX11_draw 2 (some .int), Cond.fieldLink RX11 187 "CoatTracesModel" "seed" "I", Cond.constantLong RX11 190 (1103515245), Cond.constantLong RX11 192 (12345), Cond.constantLong RX11 194 (2147483648), Cond.constant RX11 196 (65536), Cond.methodLink RL 74 yX10_undo]
def wsL_law_r31 : List Cond := [Cond.instanceMethod yX10_undo, Cond.selects RX10 yX10_undo yX10_undo, Cond.code yX10_undo cX10_undo 2 (some .int), Cond.methodLink RX10 228 yX5_stepBack, Cond.instanceMethod yX5_stepBack, Cond.selects RX5 yX5_stepBack yX5_stepBack, Cond.code yX5_stepBack cX5_stepBack 3 none, Cond.methodLink RX5 37 yX6_fetch, Cond.instanceMethod yX6_fetch, Cond.selects RX6 yX6_fetch yX6_fetch, Cond.code yX6_fetch cX6_fetch 3 none, Cond.methodLink RL 77 yX11_undo, Cond.instanceMethod yX11_undo, Cond.selects RX11 yX11_undo yX11_undo, Cond.code yX11_undo cX11_undo 2 (some .int), Cond.constantLong RX11 202 (20), Cond.methodLink RL 78 yX10_write, Cond.instanceMethod yX10_write, Cond.selects RX10 yX10_write yX10_write, Cond.code yX10_write cX10_write 4 (some .int), Cond.methodLink RX10 232 yX0_addEntry, Cond.instanceMethod yX0_addEntry, Cond.selects RX0 yX0_addEntry yX0_addEntry, Cond.code yX0_addEntry cX0_addEntry 4 none]
def wsL_law_r32 : List Cond := [Cond.methodLink RL 81 yX11_write, Cond.instanceMethod yX11_write, Cond.selects RX11 yX11_write yX11_write, Cond.code yX11_write cX11_write 4 (some .int), Cond.methodLink RL 82 yX10_tear, Cond.instanceMethod yX10_tear, Cond.selects RX10 yX10_tear yX10_tear, Cond.code yX10_tear cX10_tear 2 (some .int), Cond.methodLink RL 85 yX11_tear, Cond.instanceMethod yX11_tear, Cond.selects RX11 yX11_tear yX11_tear, Cond.code yX11_tear cX11_tear 2 (some .int), Cond.methodLink RL 86 yX10_seed, Cond.instanceMethod yX10_seed, Cond.selects RX10 yX10_seed yX10_seed, Cond.code yX10_seed cX10_seed 3 (some .int), Cond.fieldLink RX10 236 "CoatTraces$Draws" "seedNow" "I", Cond.methodLink RL 89 yX11_seed, Cond.instanceMethod yX11_seed, Cond.selects RX11 yX11_seed yX11_seed, Cond.code yX11_seed cX11_seed 3 (some .int), Cond.methodLink RL 90 yX10_keep, Cond.instanceMethod yX10_keep, Cond.selects RX10 yX10_keep yX10_keep]
def wsL_law_r33 : List Cond := [Cond.code yX10_keep cX10_keep 2 (some .int), Cond.methodLink RX10 239 yX3_store, Cond.instanceMethod yX3_store, Cond.selects RX3 yX3_store yX3_store, Cond.code yX3_store cX3_store 4 none, Cond.fieldLink RX3 32 "CoatTraces$Draws" "seedNow" "I", Cond.methodLink RX3 28 yX6_lay, Cond.methodLink RL 93 yX11_keep, Cond.instanceMethod yX11_keep, Cond.selects RX11 yX11_keep yX11_keep, Cond.code yX11_keep cX11_keep 2 (some .int), Cond.methodLink RL 94 yX10_goBack, Cond.instanceMethod yX10_goBack, Cond.selects RX10 yX10_goBack yX10_goBack, Cond.code yX10_goBack cX10_goBack 2 (some .int), Cond.methodLink RX10 243 yX3_isStored, Cond.instanceMethod yX3_isStored, Cond.selects RX3 yX3_isStored yX3_isStored, Cond.code yX3_isStored cX3_isStored 2 (some .boolean), Cond.methodLink RX10 246 yX3_restore, Cond.instanceMethod yX3_restore, Cond.selects RX3 yX3_restore yX3_restore, Cond.code yX3_restore cX3_restore 4 none, Cond.methodLink RX3 38 yX3_isStored]
def wsL_law_r34 : List Cond := [Cond.methodLink RX3 42 yX6_fetch, Cond.methodLink RL 97 yX11_goBack, Cond.instanceMethod yX11_goBack, Cond.selects RX11 yX11_goBack yX11_goBack, Cond.code yX11_goBack cX11_goBack 2 (some .int)]
def wsL_law : List Cond := (wsL_law_r1 ++ (wsL_law_r2 ++ (wsL_law_r3 ++ (wsL_law_r4 ++ (wsL_law_r5 ++ (wsL_law_r6 ++ (wsL_law_r7 ++ (wsL_law_r8 ++ (wsL_law_r9 ++ (wsL_law_r10 ++ (wsL_law_r11 ++ (wsL_law_r12 ++ (wsL_law_r13 ++ (wsL_law_r14 ++ (wsL_law_r15 ++ (wsL_law_r16 ++ (wsL_law_r17 ++ (wsL_law_r18 ++ (wsL_law_r19 ++ (wsL_law_r20 ++ (wsL_law_r21 ++ (wsL_law_r22 ++ (wsL_law_r23 ++ (wsL_law_r24 ++ (wsL_law_r25 ++ (wsL_law_r26 ++ (wsL_law_r27 ++ (wsL_law_r28 ++ (wsL_law_r29 ++ (wsL_law_r30 ++ (wsL_law_r31 ++ (wsL_law_r32 ++ (wsL_law_r33 ++ wsL_law_r34))))))))))))))))))))))))))))))))) ++ wsX100 ++ wsX110 ++ wsX70 ++ wsX10 ++ wsX90 ++ wsX80 ++ wsX40 ++ wsX00 ++ wsX50 ++ wsX30 ++ wsX20 ++ wsX60 ++ ([] : List Cond)
abbrev vwCl : List vw_C := [(RX0, TX0, 4), (RX1, TX1, 5), (RX2, TX2, 1), (RX3, TX3, 3), (RX4, TX4, 4), (RX5, TX5, 3), (RX6, TX6, 2), (RX7, TX7, 1), (RX8, TX8, 1), (RX9, TX9, 8), (RX10, TX10, 9), (RX11, TX11, 18)]
end
section
theorem dX0_init_0 : decode cX0_init 0 = .ok (.aload_n 0, 1) := by decide +kernel
theorem dX0_init_1 : decode cX0_init 1 = .ok (.invokespecial 3, 3) := by decide +kernel
theorem dX0_init_4 : decode cX0_init 4 = .ok (.aload_n 0, 1) := by decide +kernel
theorem dX0_init_5 : decode cX0_init 5 = .ok (.bipush 20, 2) := by decide +kernel
theorem dX0_init_7 : decode cX0_init 7 = .ok (.newarray .int, 2) := by decide +kernel
theorem dX0_init_9 : decode cX0_init 9 = .ok (.putfield 9, 3) := by decide +kernel
theorem dX0_init_12 : decode cX0_init 12 = .ok (.aload_n 0, 1) := by decide +kernel
theorem dX0_init_13 : decode cX0_init 13 = .ok (.bipush 20, 2) := by decide +kernel
theorem dX0_init_15 : decode cX0_init 15 = .ok (.newarray .int, 2) := by decide +kernel
theorem dX0_init_17 : decode cX0_init 17 = .ok (.putfield 15, 3) := by decide +kernel
theorem dX0_init_20 : decode cX0_init 20 = .ok (.aload_n 0, 1) := by decide +kernel
theorem dX0_init_21 : decode cX0_init 21 = .ok (.bipush 20, 2) := by decide +kernel
theorem dX0_init_23 : decode cX0_init 23 = .ok (.newarray .int, 2) := by decide +kernel
theorem dX0_init_25 : decode cX0_init 25 = .ok (.putfield 18, 3) := by decide +kernel
theorem dX0_init_28 : decode cX0_init 28 = .ok (.return_, 1) := by decide +kernel
theorem dX0_addEntry_0 : decode cX0_addEntry 0 = .ok (.aload_n 0, 1) := by decide +kernel
theorem dX0_addEntry_1 : decode cX0_addEntry 1 = .ok (.getfield 21, 3) := by decide +kernel
theorem dX0_addEntry_4 : decode cX0_addEntry 4 = .ok (.bipush 20, 2) := by decide +kernel
theorem dX0_addEntry_6 : decode cX0_addEntry 6 = .ok (.if_icmp .ge 43, 3) := by decide +kernel
theorem dX0_addEntry_9 : decode cX0_addEntry 9 = .ok (.aload_n 0, 1) := by decide +kernel
theorem dX0_addEntry_10 : decode cX0_addEntry 10 = .ok (.getfield 9, 3) := by decide +kernel
theorem dX0_addEntry_13 : decode cX0_addEntry 13 = .ok (.aload_n 0, 1) := by decide +kernel
theorem dX0_addEntry_14 : decode cX0_addEntry 14 = .ok (.getfield 21, 3) := by decide +kernel
theorem dX0_addEntry_17 : decode cX0_addEntry 17 = .ok (.iload_n 1, 1) := by decide +kernel
theorem dX0_addEntry_18 : decode cX0_addEntry 18 = .ok (.iastore, 1) := by decide +kernel
theorem dX0_addEntry_19 : decode cX0_addEntry 19 = .ok (.aload_n 0, 1) := by decide +kernel
theorem dX0_addEntry_20 : decode cX0_addEntry 20 = .ok (.getfield 15, 3) := by decide +kernel
theorem dX0_addEntry_23 : decode cX0_addEntry 23 = .ok (.aload_n 0, 1) := by decide +kernel
theorem dX0_addEntry_24 : decode cX0_addEntry 24 = .ok (.getfield 21, 3) := by decide +kernel
theorem dX0_addEntry_27 : decode cX0_addEntry 27 = .ok (.iload_n 2, 1) := by decide +kernel
theorem dX0_addEntry_28 : decode cX0_addEntry 28 = .ok (.iastore, 1) := by decide +kernel
theorem dX0_addEntry_29 : decode cX0_addEntry 29 = .ok (.aload_n 0, 1) := by decide +kernel
theorem dX0_addEntry_30 : decode cX0_addEntry 30 = .ok (.getfield 18, 3) := by decide +kernel
theorem dX0_addEntry_33 : decode cX0_addEntry 33 = .ok (.aload_n 0, 1) := by decide +kernel
theorem dX0_addEntry_34 : decode cX0_addEntry 34 = .ok (.getfield 21, 3) := by decide +kernel
theorem dX0_addEntry_37 : decode cX0_addEntry 37 = .ok (.iload_n 3, 1) := by decide +kernel
theorem dX0_addEntry_38 : decode cX0_addEntry 38 = .ok (.iastore, 1) := by decide +kernel
theorem dX0_addEntry_39 : decode cX0_addEntry 39 = .ok (.aload_n 0, 1) := by decide +kernel
theorem dX0_addEntry_40 : decode cX0_addEntry 40 = .ok (.dup, 1) := by decide +kernel
theorem dX0_addEntry_41 : decode cX0_addEntry 41 = .ok (.getfield 21, 3) := by decide +kernel
theorem dX0_addEntry_44 : decode cX0_addEntry 44 = .ok (.iconst 1, 1) := by decide +kernel
theorem dX0_addEntry_45 : decode cX0_addEntry 45 = .ok (.iadd, 1) := by decide +kernel
theorem dX0_addEntry_46 : decode cX0_addEntry 46 = .ok (.putfield 21, 3) := by decide +kernel
theorem dX0_addEntry_49 : decode cX0_addEntry 49 = .ok (.return_, 1) := by decide +kernel
set_option maxRecDepth 20000 in
theorem ggX0_firstWrong_X1_armsAt : GoodIn wsX0_firstWrong wsX1_armsAt := goodIn_r _ [10, 11, 12, 13, 14, 9, 15, 16, 21, 22, 23, 24, 25] (by decide +kernel) (by decide +kernel)
set_option maxRecDepth 20000 in
theorem gX0_firstWrong_X1_armsAt : GoodIn wsX0_firstWrong (wsV RX0 30 RX1 yX1_armsAt wsX1_armsAt) := goodIn_app (goodIn_of _ (by decide +kernel)) ggX0_firstWrong_X1_armsAt
theorem dX0_firstWrong_0 : decode cX0_firstWrong 0 = .ok (.iconst 0, 1) := by decide +kernel
theorem dX0_firstWrong_1 : decode cX0_firstWrong 1 = .ok (.istore_n 2, 1) := by decide +kernel
theorem dX0_firstWrong_2 : decode cX0_firstWrong 2 = .ok (.iload_n 2, 1) := by decide +kernel
theorem dX0_firstWrong_3 : decode cX0_firstWrong 3 = .ok (.aload_n 0, 1) := by decide +kernel
theorem dX0_firstWrong_4 : decode cX0_firstWrong 4 = .ok (.getfield 21, 3) := by decide +kernel
theorem dX0_firstWrong_7 : decode cX0_firstWrong 7 = .ok (.if_icmp .ge 65, 3) := by decide +kernel
theorem dX0_firstWrong_10 : decode cX0_firstWrong 10 = .ok (.iload_n 2, 1) := by decide +kernel
theorem dX0_firstWrong_11 : decode cX0_firstWrong 11 = .ok (.bipush 20, 2) := by decide +kernel
theorem dX0_firstWrong_13 : decode cX0_firstWrong 13 = .ok (.if_icmp .ge 59, 3) := by decide +kernel
theorem dX0_firstWrong_16 : decode cX0_firstWrong 16 = .ok (.aload_n 0, 1) := by decide +kernel
theorem dX0_firstWrong_17 : decode cX0_firstWrong 17 = .ok (.getfield 9, 3) := by decide +kernel
theorem dX0_firstWrong_20 : decode cX0_firstWrong 20 = .ok (.iload_n 2, 1) := by decide +kernel
theorem dX0_firstWrong_21 : decode cX0_firstWrong 21 = .ok (.iaload, 1) := by decide +kernel
theorem dX0_firstWrong_22 : decode cX0_firstWrong 22 = .ok (.aload_n 1, 1) := by decide +kernel
theorem dX0_firstWrong_23 : decode cX0_firstWrong 23 = .ok (.getfield 25, 3) := by decide +kernel
theorem dX0_firstWrong_26 : decode cX0_firstWrong 26 = .ok (.if_icmp .lt 7, 3) := by decide +kernel
theorem dX0_firstWrong_29 : decode cX0_firstWrong 29 = .ok (.iconst 1, 1) := by decide +kernel
theorem dX0_firstWrong_30 : decode cX0_firstWrong 30 = .ok (.goto 4, 3) := by decide +kernel
theorem dX0_firstWrong_33 : decode cX0_firstWrong 33 = .ok (.iconst 0, 1) := by decide +kernel
theorem dX0_firstWrong_34 : decode cX0_firstWrong 34 = .ok (.istore_n 3, 1) := by decide +kernel
theorem dX0_firstWrong_35 : decode cX0_firstWrong 35 = .ok (.iload_n 3, 1) := by decide +kernel
theorem dX0_firstWrong_36 : decode cX0_firstWrong 36 = .ok (.ifCond .ne 28, 3) := by decide +kernel
theorem dX0_firstWrong_39 : decode cX0_firstWrong 39 = .ok (.aload_n 1, 1) := by decide +kernel
theorem dX0_firstWrong_40 : decode cX0_firstWrong 40 = .ok (.aload_n 0, 1) := by decide +kernel
theorem dX0_firstWrong_41 : decode cX0_firstWrong 41 = .ok (.getfield 9, 3) := by decide +kernel
theorem dX0_firstWrong_44 : decode cX0_firstWrong 44 = .ok (.iload_n 2, 1) := by decide +kernel
theorem dX0_firstWrong_45 : decode cX0_firstWrong 45 = .ok (.iaload, 1) := by decide +kernel
theorem dX0_firstWrong_46 : decode cX0_firstWrong 46 = .ok (.aload_n 0, 1) := by decide +kernel
theorem dX0_firstWrong_47 : decode cX0_firstWrong 47 = .ok (.getfield 15, 3) := by decide +kernel
theorem dX0_firstWrong_50 : decode cX0_firstWrong 50 = .ok (.iload_n 2, 1) := by decide +kernel
theorem dX0_firstWrong_51 : decode cX0_firstWrong 51 = .ok (.iaload, 1) := by decide +kernel
theorem dX0_firstWrong_52 : decode cX0_firstWrong 52 = .ok (.invokevirtual 30, 3) := by decide +kernel
theorem dX0_firstWrong_55 : decode cX0_firstWrong 55 = .ok (.aload_n 0, 1) := by decide +kernel
theorem dX0_firstWrong_56 : decode cX0_firstWrong 56 = .ok (.getfield 18, 3) := by decide +kernel
theorem dX0_firstWrong_59 : decode cX0_firstWrong 59 = .ok (.iload_n 2, 1) := by decide +kernel
theorem dX0_firstWrong_60 : decode cX0_firstWrong 60 = .ok (.iaload, 1) := by decide +kernel
theorem dX0_firstWrong_61 : decode cX0_firstWrong 61 = .ok (.if_icmp .eq 5, 3) := by decide +kernel
theorem dX0_firstWrong_64 : decode cX0_firstWrong 64 = .ok (.iload_n 2, 1) := by decide +kernel
theorem dX0_firstWrong_65 : decode cX0_firstWrong 65 = .ok (.ireturn, 1) := by decide +kernel
theorem dX0_firstWrong_66 : decode cX0_firstWrong 66 = .ok (.iinc 2 1, 3) := by decide +kernel
theorem dX0_firstWrong_69 : decode cX0_firstWrong 69 = .ok (.goto (-67), 3) := by decide +kernel
theorem dX0_firstWrong_72 : decode cX0_firstWrong 72 = .ok (.iconst (-1), 1) := by decide +kernel
theorem dX0_firstWrong_73 : decode cX0_firstWrong 73 = .ok (.ireturn, 1) := by decide +kernel
theorem dX1_init_0 : decode cX1_init 0 = .ok (.aload_n 0, 1) := by decide +kernel
theorem dX1_init_1 : decode cX1_init 1 = .ok (.invokespecial 3, 3) := by decide +kernel
theorem dX1_init_4 : decode cX1_init 4 = .ok (.aload_n 0, 1) := by decide +kernel
theorem dX1_init_5 : decode cX1_init 5 = .ok (.bipush 17, 2) := by decide +kernel
theorem dX1_init_7 : decode cX1_init 7 = .ok (.newarray .int, 2) := by decide +kernel
theorem dX1_init_9 : decode cX1_init 9 = .ok (.putfield 11, 3) := by decide +kernel
theorem dX1_init_12 : decode cX1_init 12 = .ok (.aload_n 0, 1) := by decide +kernel
theorem dX1_init_13 : decode cX1_init 13 = .ok (.sipush 170, 3) := by decide +kernel
theorem dX1_init_16 : decode cX1_init 16 = .ok (.newarray .int, 2) := by decide +kernel
theorem dX1_init_18 : decode cX1_init 18 = .ok (.putfield 15, 3) := by decide +kernel
theorem dX1_init_21 : decode cX1_init 21 = .ok (.aload_n 0, 1) := by decide +kernel
theorem dX1_init_22 : decode cX1_init 22 = .ok (.sipush 170, 3) := by decide +kernel
theorem dX1_init_25 : decode cX1_init 25 = .ok (.newarray .int, 2) := by decide +kernel
theorem dX1_init_27 : decode cX1_init 27 = .ok (.putfield 18, 3) := by decide +kernel
theorem dX1_init_30 : decode cX1_init 30 = .ok (.return_, 1) := by decide +kernel
set_option maxRecDepth 20000 in
theorem ggX1_reckon_X7_people : GoodIn wsX1_reckon wsX7_people := goodIn_r _ [7, 8, 69] (by decide +kernel) (by decide +kernel)
set_option maxRecDepth 20000 in
theorem gX1_reckon_X7_people : GoodIn wsX1_reckon (wsV RX1 21 RX7 yX7_people wsX7_people) := goodIn_app (goodIn_of _ (by decide +kernel)) ggX1_reckon_X7_people
set_option maxRecDepth 20000 in
theorem ggX1_reckon_X1_heirsOf : GoodIn wsX1_reckon wsX1_heirsOf := goodIn_r _ [12, 3, 4, 5, 6, 7, 8, 13, 14, 15, 16, 17, 18, 19, 20, 21, 22, 23, 24, 25, 26, 27, 28, 29, 30, 31, 11, 32, 69] (by decide +kernel) (by decide +kernel)
set_option maxRecDepth 20000 in
theorem gX1_reckon_X1_heirsOf : GoodIn wsX1_reckon (va_wsS RX1 30 yX1_heirsOf wsX1_heirsOf) := goodIn_app (goodIn_of _ (by decide +kernel)) ggX1_reckon_X1_heirsOf
set_option maxRecDepth 20000 in
theorem ggX1_reckon_X7_fact : GoodIn wsX1_reckon wsX7_fact := goodIn_r _ [16, 8, 17, 18, 19, 6, 20, 69] (by decide +kernel) (by decide +kernel)
set_option maxRecDepth 20000 in
theorem gX1_reckon_X7_fact : GoodIn wsX1_reckon (wsV RX1 37 RX7 yX7_fact wsX7_fact) := goodIn_app (goodIn_of _ (by decide +kernel)) ggX1_reckon_X7_fact
set_option maxRecDepth 20000 in
theorem ggX1_reckon_X1_compose : GoodIn wsX1_reckon wsX1_compose := goodIn_r _ [36, 2, 37, 38, 39, 40, 6, 41, 8, 30, 31, 11, 32, 13, 14, 15, 16, 17, 18, 19, 20, 42, 43, 44, 45, 46, 47, 48, 49, 50, 51, 52, 53, 54, 55, 56, 57, 58, 59, 60, 61, 62, 63, 64, 65, 66, 67, 68, 69] (by decide +kernel) (by decide +kernel)
set_option maxRecDepth 20000 in
theorem gX1_reckon_X1_compose : GoodIn wsX1_reckon (wsV RX1 41 RX1 yX1_compose wsX1_compose) := goodIn_app (goodIn_of _ (by decide +kernel)) ggX1_reckon_X1_compose
theorem dX1_reckon_0 : decode cX1_reckon 0 = .ok (.aload_n 0, 1) := by decide +kernel
theorem dX1_reckon_1 : decode cX1_reckon 1 = .ok (.aload_n 1, 1) := by decide +kernel
theorem dX1_reckon_2 : decode cX1_reckon 2 = .ok (.invokevirtual 21, 3) := by decide +kernel
theorem dX1_reckon_5 : decode cX1_reckon 5 = .ok (.putfield 27, 3) := by decide +kernel
theorem dX1_reckon_8 : decode cX1_reckon 8 = .ok (.aload_n 0, 1) := by decide +kernel
theorem dX1_reckon_9 : decode cX1_reckon 9 = .ok (.aload_n 1, 1) := by decide +kernel
theorem dX1_reckon_10 : decode cX1_reckon 10 = .ok (.invokestatic 30, 3) := by decide +kernel
theorem dX1_reckon_13 : decode cX1_reckon 13 = .ok (.putfield 34, 3) := by decide +kernel
theorem dX1_reckon_16 : decode cX1_reckon 16 = .ok (.iconst 0, 1) := by decide +kernel
theorem dX1_reckon_17 : decode cX1_reckon 17 = .ok (.istore_n 2, 1) := by decide +kernel
theorem dX1_reckon_18 : decode cX1_reckon 18 = .ok (.iload_n 2, 1) := by decide +kernel
theorem dX1_reckon_19 : decode cX1_reckon 19 = .ok (.aload_n 0, 1) := by decide +kernel
theorem dX1_reckon_20 : decode cX1_reckon 20 = .ok (.getfield 27, 3) := by decide +kernel
theorem dX1_reckon_23 : decode cX1_reckon 23 = .ok (.if_icmp .ge 27, 3) := by decide +kernel
theorem dX1_reckon_26 : decode cX1_reckon 26 = .ok (.aload_n 0, 1) := by decide +kernel
theorem dX1_reckon_27 : decode cX1_reckon 27 = .ok (.iload_n 2, 1) := by decide +kernel
theorem dX1_reckon_28 : decode cX1_reckon 28 = .ok (.aload_n 1, 1) := by decide +kernel
theorem dX1_reckon_29 : decode cX1_reckon 29 = .ok (.aload_n 1, 1) := by decide +kernel
theorem dX1_reckon_30 : decode cX1_reckon 30 = .ok (.iload_n 2, 1) := by decide +kernel
theorem dX1_reckon_31 : decode cX1_reckon 31 = .ok (.iconst 2, 1) := by decide +kernel
theorem dX1_reckon_32 : decode cX1_reckon 32 = .ok (.invokevirtual 37, 3) := by decide +kernel
theorem dX1_reckon_35 : decode cX1_reckon 35 = .ok (.aload_n 1, 1) := by decide +kernel
theorem dX1_reckon_36 : decode cX1_reckon 36 = .ok (.iload_n 2, 1) := by decide +kernel
theorem dX1_reckon_37 : decode cX1_reckon 37 = .ok (.iconst 3, 1) := by decide +kernel
theorem dX1_reckon_38 : decode cX1_reckon 38 = .ok (.invokevirtual 37, 3) := by decide +kernel
theorem dX1_reckon_41 : decode cX1_reckon 41 = .ok (.invokevirtual 41, 3) := by decide +kernel
theorem dX1_reckon_44 : decode cX1_reckon 44 = .ok (.iinc 2 1, 3) := by decide +kernel
theorem dX1_reckon_47 : decode cX1_reckon 47 = .ok (.goto (-29), 3) := by decide +kernel
theorem dX1_reckon_50 : decode cX1_reckon 50 = .ok (.return_, 1) := by decide +kernel
set_option maxRecDepth 20000 in
theorem ggX1_heirsOf_X7_people : GoodIn wsX1_heirsOf wsX7_people := goodIn_r _ [5, 6, 28] (by decide +kernel) (by decide +kernel)
set_option maxRecDepth 20000 in
theorem gX1_heirsOf_X7_people : GoodIn wsX1_heirsOf (wsV RX1 21 RX7 yX7_people wsX7_people) := goodIn_app (goodIn_of _ (by decide +kernel)) ggX1_heirsOf_X7_people
set_option maxRecDepth 20000 in
theorem ggX1_heirsOf_X7_fact : GoodIn wsX1_heirsOf wsX7_fact := goodIn_r _ [10, 6, 11, 12, 13, 4, 14, 28] (by decide +kernel) (by decide +kernel)
set_option maxRecDepth 20000 in
theorem gX1_heirsOf_X7_fact : GoodIn wsX1_heirsOf (wsV RX1 37 RX7 yX7_fact wsX7_fact) := goodIn_app (goodIn_of _ (by decide +kernel)) ggX1_heirsOf_X7_fact
set_option maxRecDepth 20000 in
theorem ggX1_heirsOf_X7_isMan : GoodIn wsX1_heirsOf wsX7_isMan := goodIn_r _ [18, 19, 8, 9, 4, 10, 6, 11, 12, 13, 14, 28] (by decide +kernel) (by decide +kernel)
set_option maxRecDepth 20000 in
theorem gX1_heirsOf_X7_isMan : GoodIn wsX1_heirsOf (wsV RX1 45 RX7 yX7_isMan wsX7_isMan) := goodIn_app (goodIn_of _ (by decide +kernel)) ggX1_heirsOf_X7_isMan
set_option maxRecDepth 20000 in
theorem ggX1_heirsOf_X7_isWoman : GoodIn wsX1_heirsOf wsX7_isWoman := goodIn_r _ [23, 19, 8, 9, 4, 10, 6, 11, 12, 13, 14, 28] (by decide +kernel) (by decide +kernel)
set_option maxRecDepth 20000 in
theorem gX1_heirsOf_X7_isWoman : GoodIn wsX1_heirsOf (wsV RX1 49 RX7 yX7_isWoman wsX7_isWoman) := goodIn_app (goodIn_of _ (by decide +kernel)) ggX1_heirsOf_X7_isWoman
set_option maxRecDepth 20000 in
theorem ggX1_heirsOf_X1_isIn : GoodIn wsX1_heirsOf wsX1_isIn := goodIn_r _ [27] (by decide +kernel) (by decide +kernel)
set_option maxRecDepth 20000 in
theorem gX1_heirsOf_X1_isIn : GoodIn wsX1_heirsOf (va_wsS RX1 52 yX1_isIn wsX1_isIn) := goodIn_app (goodIn_of _ (by decide +kernel)) ggX1_heirsOf_X1_isIn
theorem dX1_heirsOf_0 : decode cX1_heirsOf 0 = .ok (.iconst 0, 1) := by decide +kernel
theorem dX1_heirsOf_1 : decode cX1_heirsOf 1 = .ok (.istore_n 1, 1) := by decide +kernel
theorem dX1_heirsOf_2 : decode cX1_heirsOf 2 = .ok (.iconst 0, 1) := by decide +kernel
theorem dX1_heirsOf_3 : decode cX1_heirsOf 3 = .ok (.istore_n 2, 1) := by decide +kernel
theorem dX1_heirsOf_4 : decode cX1_heirsOf 4 = .ok (.iload_n 2, 1) := by decide +kernel
theorem dX1_heirsOf_5 : decode cX1_heirsOf 5 = .ok (.aload_n 0, 1) := by decide +kernel
theorem dX1_heirsOf_6 : decode cX1_heirsOf 6 = .ok (.invokevirtual 21, 3) := by decide +kernel
theorem dX1_heirsOf_9 : decode cX1_heirsOf 9 = .ok (.if_icmp .ge 35, 3) := by decide +kernel
theorem dX1_heirsOf_12 : decode cX1_heirsOf 12 = .ok (.aload_n 0, 1) := by decide +kernel
theorem dX1_heirsOf_13 : decode cX1_heirsOf 13 = .ok (.iload_n 2, 1) := by decide +kernel
theorem dX1_heirsOf_14 : decode cX1_heirsOf 14 = .ok (.iconst 2, 1) := by decide +kernel
theorem dX1_heirsOf_15 : decode cX1_heirsOf 15 = .ok (.invokevirtual 37, 3) := by decide +kernel
theorem dX1_heirsOf_18 : decode cX1_heirsOf 18 = .ok (.istore_n 3, 1) := by decide +kernel
theorem dX1_heirsOf_19 : decode cX1_heirsOf 19 = .ok (.iload_n 3, 1) := by decide +kernel
theorem dX1_heirsOf_20 : decode cX1_heirsOf 20 = .ok (.iconst (-1), 1) := by decide +kernel
theorem dX1_heirsOf_21 : decode cX1_heirsOf 21 = .ok (.if_icmp .eq 17, 3) := by decide +kernel
theorem dX1_heirsOf_24 : decode cX1_heirsOf 24 = .ok (.aload_n 0, 1) := by decide +kernel
theorem dX1_heirsOf_25 : decode cX1_heirsOf 25 = .ok (.iload_n 2, 1) := by decide +kernel
theorem dX1_heirsOf_26 : decode cX1_heirsOf 26 = .ok (.invokevirtual 45, 3) := by decide +kernel
theorem dX1_heirsOf_29 : decode cX1_heirsOf 29 = .ok (.ifCond .eq 9, 3) := by decide +kernel
theorem dX1_heirsOf_32 : decode cX1_heirsOf 32 = .ok (.iload_n 1, 1) := by decide +kernel
theorem dX1_heirsOf_33 : decode cX1_heirsOf 33 = .ok (.iconst 1, 1) := by decide +kernel
theorem dX1_heirsOf_34 : decode cX1_heirsOf 34 = .ok (.iload_n 3, 1) := by decide +kernel
theorem dX1_heirsOf_35 : decode cX1_heirsOf 35 = .ok (.ishl, 1) := by decide +kernel
theorem dX1_heirsOf_36 : decode cX1_heirsOf 36 = .ok (.ior, 1) := by decide +kernel
theorem dX1_heirsOf_37 : decode cX1_heirsOf 37 = .ok (.istore_n 1, 1) := by decide +kernel
theorem dX1_heirsOf_38 : decode cX1_heirsOf 38 = .ok (.iinc 2 1, 3) := by decide +kernel
theorem dX1_heirsOf_41 : decode cX1_heirsOf 41 = .ok (.goto (-37), 3) := by decide +kernel
theorem dX1_heirsOf_44 : decode cX1_heirsOf 44 = .ok (.iconst 0, 1) := by decide +kernel
theorem dX1_heirsOf_45 : decode cX1_heirsOf 45 = .ok (.istore_n 2, 1) := by decide +kernel
theorem dX1_heirsOf_46 : decode cX1_heirsOf 46 = .ok (.iconst 0, 1) := by decide +kernel
theorem dX1_heirsOf_47 : decode cX1_heirsOf 47 = .ok (.istore_n 3, 1) := by decide +kernel
theorem dX1_heirsOf_48 : decode cX1_heirsOf 48 = .ok (.iload_n 3, 1) := by decide +kernel
theorem dX1_heirsOf_49 : decode cX1_heirsOf 49 = .ok (.aload_n 0, 1) := by decide +kernel
theorem dX1_heirsOf_50 : decode cX1_heirsOf 50 = .ok (.invokevirtual 21, 3) := by decide +kernel
theorem dX1_heirsOf_53 : decode cX1_heirsOf 53 = .ok (.if_icmp .ge 46, 3) := by decide +kernel
theorem dX1_heirsOf_56 : decode cX1_heirsOf 56 = .ok (.aload_n 0, 1) := by decide +kernel
theorem dX1_heirsOf_57 : decode cX1_heirsOf 57 = .ok (.iload_n 3, 1) := by decide +kernel
theorem dX1_heirsOf_58 : decode cX1_heirsOf 58 = .ok (.iconst 2, 1) := by decide +kernel
theorem dX1_heirsOf_59 : decode cX1_heirsOf 59 = .ok (.invokevirtual 37, 3) := by decide +kernel
theorem dX1_heirsOf_62 : decode cX1_heirsOf 62 = .ok (.istore 4, 2) := by decide +kernel
theorem dX1_heirsOf_64 : decode cX1_heirsOf 64 = .ok (.iload 4, 2) := by decide +kernel
theorem dX1_heirsOf_66 : decode cX1_heirsOf 66 = .ok (.iconst (-1), 1) := by decide +kernel
theorem dX1_heirsOf_67 : decode cX1_heirsOf 67 = .ok (.if_icmp .eq 26, 3) := by decide +kernel
theorem dX1_heirsOf_70 : decode cX1_heirsOf 70 = .ok (.aload_n 0, 1) := by decide +kernel
theorem dX1_heirsOf_71 : decode cX1_heirsOf 71 = .ok (.iload_n 3, 1) := by decide +kernel
theorem dX1_heirsOf_72 : decode cX1_heirsOf 72 = .ok (.invokevirtual 49, 3) := by decide +kernel
theorem dX1_heirsOf_75 : decode cX1_heirsOf 75 = .ok (.ifCond .eq 18, 3) := by decide +kernel
theorem dX1_heirsOf_78 : decode cX1_heirsOf 78 = .ok (.iload_n 1, 1) := by decide +kernel
theorem dX1_heirsOf_79 : decode cX1_heirsOf 79 = .ok (.iload 4, 2) := by decide +kernel
theorem dX1_heirsOf_81 : decode cX1_heirsOf 81 = .ok (.invokestatic 52, 3) := by decide +kernel
theorem dX1_heirsOf_84 : decode cX1_heirsOf 84 = .ok (.ifCond .ne 9, 3) := by decide +kernel
theorem dX1_heirsOf_87 : decode cX1_heirsOf 87 = .ok (.iload_n 2, 1) := by decide +kernel
theorem dX1_heirsOf_88 : decode cX1_heirsOf 88 = .ok (.iconst 1, 1) := by decide +kernel
theorem dX1_heirsOf_89 : decode cX1_heirsOf 89 = .ok (.iload_n 3, 1) := by decide +kernel
theorem dX1_heirsOf_90 : decode cX1_heirsOf 90 = .ok (.ishl, 1) := by decide +kernel
theorem dX1_heirsOf_91 : decode cX1_heirsOf 91 = .ok (.ior, 1) := by decide +kernel
theorem dX1_heirsOf_92 : decode cX1_heirsOf 92 = .ok (.istore_n 2, 1) := by decide +kernel
theorem dX1_heirsOf_93 : decode cX1_heirsOf 93 = .ok (.iinc 3 1, 3) := by decide +kernel
theorem dX1_heirsOf_96 : decode cX1_heirsOf 96 = .ok (.goto (-48), 3) := by decide +kernel
theorem dX1_heirsOf_99 : decode cX1_heirsOf 99 = .ok (.iload_n 2, 1) := by decide +kernel
theorem dX1_heirsOf_100 : decode cX1_heirsOf 100 = .ok (.ireturn, 1) := by decide +kernel
set_option maxRecDepth 20000 in
theorem ggX1_sizeForChild_X1_compose : GoodIn wsX1_sizeForChild wsX1_compose := goodIn_r _ [5, 6, 7, 8, 9, 10, 11, 12, 13, 14, 15, 4, 16, 17, 18, 19, 20, 21, 22, 23, 24, 25, 26, 27, 28, 29, 30, 31, 32, 33, 34, 35, 36, 37, 38, 39, 40, 41, 42, 43, 44, 45, 46, 47, 48, 49, 50, 51, 52] (by decide +kernel) (by decide +kernel)
set_option maxRecDepth 20000 in
theorem gX1_sizeForChild_X1_compose : GoodIn wsX1_sizeForChild (wsV RX1 41 RX1 yX1_compose wsX1_compose) := goodIn_app (goodIn_of _ (by decide +kernel)) ggX1_sizeForChild_X1_compose
set_option maxRecDepth 20000 in
theorem ggX1_sizeForChild_X1_sizeOf : GoodIn wsX1_sizeForChild wsX1_sizeOf := goodIn_r _ [38, 7, 47, 48, 49, 50, 51] (by decide +kernel) (by decide +kernel)
set_option maxRecDepth 20000 in
theorem gX1_sizeForChild_X1_sizeOf : GoodIn wsX1_sizeForChild (wsV RX1 56 RX1 yX1_sizeOf wsX1_sizeOf) := goodIn_app (goodIn_of _ (by decide +kernel)) ggX1_sizeForChild_X1_sizeOf
theorem dX1_sizeForChild_0 : decode cX1_sizeForChild 0 = .ok (.aload_n 0, 1) := by decide +kernel
theorem dX1_sizeForChild_1 : decode cX1_sizeForChild 1 = .ok (.bipush 16, 2) := by decide +kernel
theorem dX1_sizeForChild_3 : decode cX1_sizeForChild 3 = .ok (.aload_n 1, 1) := by decide +kernel
theorem dX1_sizeForChild_4 : decode cX1_sizeForChild 4 = .ok (.iload_n 2, 1) := by decide +kernel
theorem dX1_sizeForChild_5 : decode cX1_sizeForChild 5 = .ok (.iload_n 3, 1) := by decide +kernel
theorem dX1_sizeForChild_6 : decode cX1_sizeForChild 6 = .ok (.invokevirtual 41, 3) := by decide +kernel
theorem dX1_sizeForChild_9 : decode cX1_sizeForChild 9 = .ok (.aload_n 0, 1) := by decide +kernel
theorem dX1_sizeForChild_10 : decode cX1_sizeForChild 10 = .ok (.bipush 16, 2) := by decide +kernel
theorem dX1_sizeForChild_12 : decode cX1_sizeForChild 12 = .ok (.invokevirtual 56, 3) := by decide +kernel
theorem dX1_sizeForChild_15 : decode cX1_sizeForChild 15 = .ok (.ireturn, 1) := by decide +kernel
set_option maxRecDepth 20000 in
theorem ggX1_compose_X7_ruleNow : GoodIn wsX1_compose wsX7_ruleNow := goodIn_r _ [7, 8, 48] (by decide +kernel) (by decide +kernel)
set_option maxRecDepth 20000 in
theorem gX1_compose_X7_ruleNow : GoodIn wsX1_compose (wsV RX1 60 RX7 yX7_ruleNow wsX7_ruleNow) := goodIn_app (goodIn_of _ (by decide +kernel)) ggX1_compose_X7_ruleNow
set_option maxRecDepth 20000 in
theorem ggX1_compose_X1_isIn : GoodIn wsX1_compose wsX1_isIn := goodIn_r _ [12] (by decide +kernel) (by decide +kernel)
set_option maxRecDepth 20000 in
theorem gX1_compose_X1_isIn : GoodIn wsX1_compose (va_wsS RX1 52 yX1_isIn wsX1_isIn) := goodIn_app (goodIn_of _ (by decide +kernel)) ggX1_compose_X1_isIn
set_option maxRecDepth 20000 in
theorem ggX1_compose_X7_fact : GoodIn wsX1_compose wsX7_fact := goodIn_r _ [16, 8, 17, 18, 19, 6, 20, 48] (by decide +kernel) (by decide +kernel)
set_option maxRecDepth 20000 in
theorem gX1_compose_X7_fact : GoodIn wsX1_compose (wsV RX1 37 RX7 yX7_fact wsX7_fact) := goodIn_app (goodIn_of _ (by decide +kernel)) ggX1_compose_X7_fact
set_option maxRecDepth 20000 in
theorem ggX1_compose_X1_take : GoodIn wsX1_compose wsX1_take := goodIn_r _ [24, 2, 25, 26, 43, 44, 45, 46, 47] (by decide +kernel) (by decide +kernel)
set_option maxRecDepth 20000 in
theorem gX1_compose_X1_take : GoodIn wsX1_compose (wsV RX1 63 RX1 yX1_take wsX1_take) := goodIn_app (goodIn_of _ (by decide +kernel)) ggX1_compose_X1_take
set_option maxRecDepth 20000 in
theorem ggX1_compose_X1_armsAt : GoodIn wsX1_compose wsX1_armsAt := goodIn_r _ [30, 25, 31, 32, 33, 11, 34, 2, 43, 44, 45, 46, 47] (by decide +kernel) (by decide +kernel)
set_option maxRecDepth 20000 in
theorem gX1_compose_X1_armsAt : GoodIn wsX1_compose (wsV RX1 67 RX1 yX1_armsAt wsX1_armsAt) := goodIn_app (goodIn_of _ (by decide +kernel)) ggX1_compose_X1_armsAt
set_option maxRecDepth 20000 in
theorem ggX1_compose_X1_throughAt : GoodIn wsX1_compose wsX1_throughAt := goodIn_r _ [38, 26, 31, 32, 33, 11, 34, 2, 43, 44, 45, 46, 47] (by decide +kernel) (by decide +kernel)
set_option maxRecDepth 20000 in
theorem gX1_compose_X1_throughAt : GoodIn wsX1_compose (wsV RX1 70 RX1 yX1_throughAt wsX1_throughAt) := goodIn_app (goodIn_of _ (by decide +kernel)) ggX1_compose_X1_throughAt
set_option maxRecDepth 20000 in
theorem ggX1_compose_X1_sizeOf : GoodIn wsX1_compose wsX1_sizeOf := goodIn_r _ [34, 2, 43, 44, 45, 46, 47] (by decide +kernel) (by decide +kernel)
set_option maxRecDepth 20000 in
theorem gX1_compose_X1_sizeOf : GoodIn wsX1_compose (wsV RX1 56 RX1 yX1_sizeOf wsX1_sizeOf) := goodIn_app (goodIn_of _ (by decide +kernel)) ggX1_compose_X1_sizeOf
set_option maxRecDepth 20000 in
theorem ggX1_compose_X1_takeFrom : GoodIn wsX1_compose wsX1_takeFrom := goodIn_r _ [42, 27, 28, 29, 11, 30, 25, 31, 32, 33, 34, 2, 35, 36, 37, 38, 26, 21, 22, 23, 24, 43, 44, 45, 46, 47] (by decide +kernel) (by decide +kernel)
set_option maxRecDepth 20000 in
theorem gX1_compose_X1_takeFrom : GoodIn wsX1_compose (wsV RX1 73 RX1 yX1_takeFrom wsX1_takeFrom) := goodIn_app (goodIn_of _ (by decide +kernel)) ggX1_compose_X1_takeFrom
theorem dX1_compose_0 : decode cX1_compose 0 = .ok (.iload_n 1, 1) := by decide +kernel
theorem dX1_compose_1 : decode cX1_compose 1 = .ok (.ifCond .lt 9, 3) := by decide +kernel
theorem dX1_compose_4 : decode cX1_compose 4 = .ok (.iload_n 1, 1) := by decide +kernel
theorem dX1_compose_5 : decode cX1_compose 5 = .ok (.bipush 17, 2) := by decide +kernel
theorem dX1_compose_7 : decode cX1_compose 7 = .ok (.if_icmp .lt 4, 3) := by decide +kernel
theorem dX1_compose_10 : decode cX1_compose 10 = .ok (.return_, 1) := by decide +kernel
theorem dX1_compose_11 : decode cX1_compose 11 = .ok (.aload_n 2, 1) := by decide +kernel
theorem dX1_compose_12 : decode cX1_compose 12 = .ok (.invokevirtual 60, 3) := by decide +kernel
theorem dX1_compose_15 : decode cX1_compose 15 = .ok (.istore 5, 2) := by decide +kernel
theorem dX1_compose_17 : decode cX1_compose 17 = .ok (.iload 4, 2) := by decide +kernel
theorem dX1_compose_19 : decode cX1_compose 19 = .ok (.iconst (-1), 1) := by decide +kernel
theorem dX1_compose_20 : decode cX1_compose 20 = .ok (.if_icmp .eq 19, 3) := by decide +kernel
theorem dX1_compose_23 : decode cX1_compose 23 = .ok (.aload_n 0, 1) := by decide +kernel
theorem dX1_compose_24 : decode cX1_compose 24 = .ok (.getfield 34, 3) := by decide +kernel
theorem dX1_compose_27 : decode cX1_compose 27 = .ok (.iload 4, 2) := by decide +kernel
theorem dX1_compose_29 : decode cX1_compose 29 = .ok (.invokestatic 52, 3) := by decide +kernel
theorem dX1_compose_32 : decode cX1_compose 32 = .ok (.ifCond .eq 7, 3) := by decide +kernel
theorem dX1_compose_35 : decode cX1_compose 35 = .ok (.iconst 1, 1) := by decide +kernel
theorem dX1_compose_36 : decode cX1_compose 36 = .ok (.goto 4, 3) := by decide +kernel
theorem dX1_compose_39 : decode cX1_compose 39 = .ok (.iconst 0, 1) := by decide +kernel
theorem dX1_compose_40 : decode cX1_compose 40 = .ok (.istore 6, 2) := by decide +kernel
theorem dX1_compose_42 : decode cX1_compose 42 = .ok (.aload_n 0, 1) := by decide +kernel
theorem dX1_compose_43 : decode cX1_compose 43 = .ok (.getfield 11, 3) := by decide +kernel
theorem dX1_compose_46 : decode cX1_compose 46 = .ok (.iload_n 1, 1) := by decide +kernel
theorem dX1_compose_47 : decode cX1_compose 47 = .ok (.iconst 0, 1) := by decide +kernel
theorem dX1_compose_48 : decode cX1_compose 48 = .ok (.iastore, 1) := by decide +kernel
theorem dX1_compose_49 : decode cX1_compose 49 = .ok (.iload_n 3, 1) := by decide +kernel
theorem dX1_compose_50 : decode cX1_compose 50 = .ok (.iconst (-1), 1) := by decide +kernel
theorem dX1_compose_51 : decode cX1_compose 51 = .ok (.if_icmp .ne 18, 3) := by decide +kernel
theorem dX1_compose_54 : decode cX1_compose 54 = .ok (.aload_n 0, 1) := by decide +kernel
theorem dX1_compose_55 : decode cX1_compose 55 = .ok (.iload_n 1, 1) := by decide +kernel
theorem dX1_compose_56 : decode cX1_compose 56 = .ok (.aload_n 2, 1) := by decide +kernel
theorem dX1_compose_57 : decode cX1_compose 57 = .ok (.iload_n 1, 1) := by decide +kernel
theorem dX1_compose_58 : decode cX1_compose 58 = .ok (.iconst 1, 1) := by decide +kernel
theorem dX1_compose_59 : decode cX1_compose 59 = .ok (.invokevirtual 37, 3) := by decide +kernel
theorem dX1_compose_62 : decode cX1_compose 62 = .ok (.iload_n 1, 1) := by decide +kernel
theorem dX1_compose_63 : decode cX1_compose 63 = .ok (.invokevirtual 63, 3) := by decide +kernel
theorem dX1_compose_66 : decode cX1_compose 66 = .ok (.goto 20, 3) := by decide +kernel
theorem dX1_compose_69 : decode cX1_compose 69 = .ok (.aload_n 0, 1) := by decide +kernel
theorem dX1_compose_70 : decode cX1_compose 70 = .ok (.iload_n 1, 1) := by decide +kernel
theorem dX1_compose_71 : decode cX1_compose 71 = .ok (.aload_n 0, 1) := by decide +kernel
theorem dX1_compose_72 : decode cX1_compose 72 = .ok (.iload_n 3, 1) := by decide +kernel
theorem dX1_compose_73 : decode cX1_compose 73 = .ok (.iconst 0, 1) := by decide +kernel
theorem dX1_compose_74 : decode cX1_compose 74 = .ok (.invokevirtual 67, 3) := by decide +kernel
theorem dX1_compose_77 : decode cX1_compose 77 = .ok (.aload_n 0, 1) := by decide +kernel
theorem dX1_compose_78 : decode cX1_compose 78 = .ok (.iload_n 3, 1) := by decide +kernel
theorem dX1_compose_79 : decode cX1_compose 79 = .ok (.iconst 0, 1) := by decide +kernel
theorem dX1_compose_80 : decode cX1_compose 80 = .ok (.invokevirtual 70, 3) := by decide +kernel
theorem dX1_compose_83 : decode cX1_compose 83 = .ok (.invokevirtual 63, 3) := by decide +kernel
theorem dX1_compose_86 : decode cX1_compose 86 = .ok (.iload 6, 2) := by decide +kernel
theorem dX1_compose_88 : decode cX1_compose 88 = .ok (.ifCond .eq 22, 3) := by decide +kernel
theorem dX1_compose_91 : decode cX1_compose 91 = .ok (.iload 5, 2) := by decide +kernel
theorem dX1_compose_93 : decode cX1_compose 93 = .ok (.iconst 2, 1) := by decide +kernel
theorem dX1_compose_94 : decode cX1_compose 94 = .ok (.if_icmp .ne 16, 3) := by decide +kernel
theorem dX1_compose_97 : decode cX1_compose 97 = .ok (.aload_n 0, 1) := by decide +kernel
theorem dX1_compose_98 : decode cX1_compose 98 = .ok (.iload_n 1, 1) := by decide +kernel
theorem dX1_compose_99 : decode cX1_compose 99 = .ok (.iload 4, 2) := by decide +kernel
theorem dX1_compose_101 : decode cX1_compose 101 = .ok (.aload_n 0, 1) := by decide +kernel
theorem dX1_compose_102 : decode cX1_compose 102 = .ok (.iload 4, 2) := by decide +kernel
theorem dX1_compose_104 : decode cX1_compose 104 = .ok (.invokevirtual 56, 3) := by decide +kernel
theorem dX1_compose_107 : decode cX1_compose 107 = .ok (.invokevirtual 73, 3) := by decide +kernel
theorem dX1_compose_110 : decode cX1_compose 110 = .ok (.aload_n 0, 1) := by decide +kernel
theorem dX1_compose_111 : decode cX1_compose 111 = .ok (.iload_n 1, 1) := by decide +kernel
theorem dX1_compose_112 : decode cX1_compose 112 = .ok (.iload_n 3, 1) := by decide +kernel
theorem dX1_compose_113 : decode cX1_compose 113 = .ok (.aload_n 0, 1) := by decide +kernel
theorem dX1_compose_114 : decode cX1_compose 114 = .ok (.iload_n 3, 1) := by decide +kernel
theorem dX1_compose_115 : decode cX1_compose 115 = .ok (.invokevirtual 56, 3) := by decide +kernel
theorem dX1_compose_118 : decode cX1_compose 118 = .ok (.invokevirtual 73, 3) := by decide +kernel
theorem dX1_compose_121 : decode cX1_compose 121 = .ok (.iload 6, 2) := by decide +kernel
theorem dX1_compose_123 : decode cX1_compose 123 = .ok (.ifCond .eq 31, 3) := by decide +kernel
theorem dX1_compose_126 : decode cX1_compose 126 = .ok (.iload 5, 2) := by decide +kernel
theorem dX1_compose_128 : decode cX1_compose 128 = .ok (.iconst 2, 1) := by decide +kernel
theorem dX1_compose_129 : decode cX1_compose 129 = .ok (.if_icmp .eq 25, 3) := by decide +kernel
theorem dX1_compose_132 : decode cX1_compose 132 = .ok (.aload_n 0, 1) := by decide +kernel
theorem dX1_compose_133 : decode cX1_compose 133 = .ok (.iload_n 1, 1) := by decide +kernel
theorem dX1_compose_134 : decode cX1_compose 134 = .ok (.iload 4, 2) := by decide +kernel
theorem dX1_compose_136 : decode cX1_compose 136 = .ok (.iload 5, 2) := by decide +kernel
theorem dX1_compose_138 : decode cX1_compose 138 = .ok (.ifCond .ne 12, 3) := by decide +kernel
theorem dX1_compose_141 : decode cX1_compose 141 = .ok (.aload_n 0, 1) := by decide +kernel
theorem dX1_compose_142 : decode cX1_compose 142 = .ok (.iload 4, 2) := by decide +kernel
theorem dX1_compose_144 : decode cX1_compose 144 = .ok (.invokevirtual 56, 3) := by decide +kernel
theorem dX1_compose_147 : decode cX1_compose 147 = .ok (.goto 4, 3) := by decide +kernel
theorem dX1_compose_150 : decode cX1_compose 150 = .ok (.iconst 1, 1) := by decide +kernel
theorem dX1_compose_151 : decode cX1_compose 151 = .ok (.invokevirtual 73, 3) := by decide +kernel
theorem dX1_compose_154 : decode cX1_compose 154 = .ok (.return_, 1) := by decide +kernel
set_option maxRecDepth 20000 in
theorem ggX1_takeFrom_X1_armsAt : GoodIn wsX1_takeFrom wsX1_armsAt := goodIn_r _ [5, 6, 7, 8, 9, 4, 10, 11, 21, 22, 23, 24, 25] (by decide +kernel) (by decide +kernel)
set_option maxRecDepth 20000 in
theorem gX1_takeFrom_X1_armsAt : GoodIn wsX1_takeFrom (wsV RX1 67 RX1 yX1_armsAt wsX1_armsAt) := goodIn_app (goodIn_of _ (by decide +kernel)) ggX1_takeFrom_X1_armsAt
set_option maxRecDepth 20000 in
theorem ggX1_takeFrom_X1_throughAt : GoodIn wsX1_takeFrom wsX1_throughAt := goodIn_r _ [15, 16, 7, 8, 9, 4, 10, 11, 21, 22, 23, 24, 25] (by decide +kernel) (by decide +kernel)
set_option maxRecDepth 20000 in
theorem gX1_takeFrom_X1_throughAt : GoodIn wsX1_takeFrom (wsV RX1 70 RX1 yX1_throughAt wsX1_throughAt) := goodIn_app (goodIn_of _ (by decide +kernel)) ggX1_takeFrom_X1_throughAt
set_option maxRecDepth 20000 in
theorem ggX1_takeFrom_X1_take : GoodIn wsX1_takeFrom wsX1_take := goodIn_r _ [20, 11, 6, 16, 21, 22, 23, 24, 25] (by decide +kernel) (by decide +kernel)
set_option maxRecDepth 20000 in
theorem gX1_takeFrom_X1_take : GoodIn wsX1_takeFrom (wsV RX1 63 RX1 yX1_take wsX1_take) := goodIn_app (goodIn_of _ (by decide +kernel)) ggX1_takeFrom_X1_take
theorem dX1_takeFrom_0 : decode cX1_takeFrom 0 = .ok (.iconst 0, 1) := by decide +kernel
theorem dX1_takeFrom_1 : decode cX1_takeFrom 1 = .ok (.istore 4, 2) := by decide +kernel
theorem dX1_takeFrom_3 : decode cX1_takeFrom 3 = .ok (.iload 4, 2) := by decide +kernel
theorem dX1_takeFrom_5 : decode cX1_takeFrom 5 = .ok (.iload_n 3, 1) := by decide +kernel
theorem dX1_takeFrom_6 : decode cX1_takeFrom 6 = .ok (.if_icmp .ge 28, 3) := by decide +kernel
theorem dX1_takeFrom_9 : decode cX1_takeFrom 9 = .ok (.aload_n 0, 1) := by decide +kernel
theorem dX1_takeFrom_10 : decode cX1_takeFrom 10 = .ok (.iload_n 1, 1) := by decide +kernel
theorem dX1_takeFrom_11 : decode cX1_takeFrom 11 = .ok (.aload_n 0, 1) := by decide +kernel
theorem dX1_takeFrom_12 : decode cX1_takeFrom 12 = .ok (.iload_n 2, 1) := by decide +kernel
theorem dX1_takeFrom_13 : decode cX1_takeFrom 13 = .ok (.iload 4, 2) := by decide +kernel
theorem dX1_takeFrom_15 : decode cX1_takeFrom 15 = .ok (.invokevirtual 67, 3) := by decide +kernel
theorem dX1_takeFrom_18 : decode cX1_takeFrom 18 = .ok (.aload_n 0, 1) := by decide +kernel
theorem dX1_takeFrom_19 : decode cX1_takeFrom 19 = .ok (.iload_n 2, 1) := by decide +kernel
theorem dX1_takeFrom_20 : decode cX1_takeFrom 20 = .ok (.iload 4, 2) := by decide +kernel
theorem dX1_takeFrom_22 : decode cX1_takeFrom 22 = .ok (.invokevirtual 70, 3) := by decide +kernel
theorem dX1_takeFrom_25 : decode cX1_takeFrom 25 = .ok (.invokevirtual 63, 3) := by decide +kernel
theorem dX1_takeFrom_28 : decode cX1_takeFrom 28 = .ok (.iinc 4 1, 3) := by decide +kernel
theorem dX1_takeFrom_31 : decode cX1_takeFrom 31 = .ok (.goto (-28), 3) := by decide +kernel
theorem dX1_takeFrom_34 : decode cX1_takeFrom 34 = .ok (.return_, 1) := by decide +kernel
theorem dX1_take_0 : decode cX1_take 0 = .ok (.iload_n 1, 1) := by decide +kernel
theorem dX1_take_1 : decode cX1_take 1 = .ok (.ifCond .lt 20, 3) := by decide +kernel
theorem dX1_take_4 : decode cX1_take 4 = .ok (.iload_n 1, 1) := by decide +kernel
theorem dX1_take_5 : decode cX1_take 5 = .ok (.bipush 17, 2) := by decide +kernel
theorem dX1_take_7 : decode cX1_take 7 = .ok (.if_icmp .ge 14, 3) := by decide +kernel
theorem dX1_take_10 : decode cX1_take 10 = .ok (.aload_n 0, 1) := by decide +kernel
theorem dX1_take_11 : decode cX1_take 11 = .ok (.getfield 11, 3) := by decide +kernel
theorem dX1_take_14 : decode cX1_take 14 = .ok (.iload_n 1, 1) := by decide +kernel
theorem dX1_take_15 : decode cX1_take 15 = .ok (.iaload, 1) := by decide +kernel
theorem dX1_take_16 : decode cX1_take 16 = .ok (.bipush 10, 2) := by decide +kernel
theorem dX1_take_18 : decode cX1_take 18 = .ok (.if_icmp .lt 4, 3) := by decide +kernel
theorem dX1_take_21 : decode cX1_take 21 = .ok (.return_, 1) := by decide +kernel
theorem dX1_take_22 : decode cX1_take 22 = .ok (.iload_n 1, 1) := by decide +kernel
theorem dX1_take_23 : decode cX1_take 23 = .ok (.bipush 10, 2) := by decide +kernel
theorem dX1_take_25 : decode cX1_take 25 = .ok (.imul, 1) := by decide +kernel
theorem dX1_take_26 : decode cX1_take 26 = .ok (.istore 4, 2) := by decide +kernel
theorem dX1_take_28 : decode cX1_take 28 = .ok (.iload 4, 2) := by decide +kernel
theorem dX1_take_30 : decode cX1_take 30 = .ok (.aload_n 0, 1) := by decide +kernel
theorem dX1_take_31 : decode cX1_take 31 = .ok (.getfield 11, 3) := by decide +kernel
theorem dX1_take_34 : decode cX1_take 34 = .ok (.iload_n 1, 1) := by decide +kernel
theorem dX1_take_35 : decode cX1_take 35 = .ok (.iaload, 1) := by decide +kernel
theorem dX1_take_36 : decode cX1_take 36 = .ok (.iadd, 1) := by decide +kernel
theorem dX1_take_37 : decode cX1_take 37 = .ok (.istore 5, 2) := by decide +kernel
theorem dX1_take_39 : decode cX1_take 39 = .ok (.iload 4, 2) := by decide +kernel
theorem dX1_take_41 : decode cX1_take 41 = .ok (.istore 6, 2) := by decide +kernel
theorem dX1_take_43 : decode cX1_take 43 = .ok (.iload 6, 2) := by decide +kernel
theorem dX1_take_45 : decode cX1_take 45 = .ok (.iload 5, 2) := by decide +kernel
theorem dX1_take_47 : decode cX1_take 47 = .ok (.if_icmp .ge 21, 3) := by decide +kernel
theorem dX1_take_50 : decode cX1_take 50 = .ok (.aload_n 0, 1) := by decide +kernel
theorem dX1_take_51 : decode cX1_take 51 = .ok (.getfield 15, 3) := by decide +kernel
theorem dX1_take_54 : decode cX1_take 54 = .ok (.iload 6, 2) := by decide +kernel
theorem dX1_take_56 : decode cX1_take 56 = .ok (.iaload, 1) := by decide +kernel
theorem dX1_take_57 : decode cX1_take 57 = .ok (.iload_n 2, 1) := by decide +kernel
theorem dX1_take_58 : decode cX1_take 58 = .ok (.if_icmp .ne 4, 3) := by decide +kernel
theorem dX1_take_61 : decode cX1_take 61 = .ok (.return_, 1) := by decide +kernel
theorem dX1_take_62 : decode cX1_take 62 = .ok (.iinc 6 1, 3) := by decide +kernel
theorem dX1_take_65 : decode cX1_take 65 = .ok (.goto (-22), 3) := by decide +kernel
theorem dX1_take_68 : decode cX1_take 68 = .ok (.aload_n 0, 1) := by decide +kernel
theorem dX1_take_69 : decode cX1_take 69 = .ok (.getfield 15, 3) := by decide +kernel
theorem dX1_take_72 : decode cX1_take 72 = .ok (.iload 5, 2) := by decide +kernel
theorem dX1_take_74 : decode cX1_take 74 = .ok (.iload_n 2, 1) := by decide +kernel
theorem dX1_take_75 : decode cX1_take 75 = .ok (.iastore, 1) := by decide +kernel
theorem dX1_take_76 : decode cX1_take 76 = .ok (.aload_n 0, 1) := by decide +kernel
theorem dX1_take_77 : decode cX1_take 77 = .ok (.getfield 18, 3) := by decide +kernel
theorem dX1_take_80 : decode cX1_take 80 = .ok (.iload 5, 2) := by decide +kernel
theorem dX1_take_82 : decode cX1_take 82 = .ok (.iload_n 3, 1) := by decide +kernel
theorem dX1_take_83 : decode cX1_take 83 = .ok (.iastore, 1) := by decide +kernel
theorem dX1_take_84 : decode cX1_take 84 = .ok (.aload_n 0, 1) := by decide +kernel
theorem dX1_take_85 : decode cX1_take 85 = .ok (.getfield 11, 3) := by decide +kernel
theorem dX1_take_88 : decode cX1_take 88 = .ok (.iload_n 1, 1) := by decide +kernel
theorem dX1_take_89 : decode cX1_take 89 = .ok (.dup2, 1) := by decide +kernel
theorem dX1_take_90 : decode cX1_take 90 = .ok (.iaload, 1) := by decide +kernel
theorem dX1_take_91 : decode cX1_take 91 = .ok (.iconst 1, 1) := by decide +kernel
theorem dX1_take_92 : decode cX1_take 92 = .ok (.iadd, 1) := by decide +kernel
theorem dX1_take_93 : decode cX1_take 93 = .ok (.iastore, 1) := by decide +kernel
theorem dX1_take_94 : decode cX1_take 94 = .ok (.return_, 1) := by decide +kernel
theorem dX1_sizeOf_0 : decode cX1_sizeOf 0 = .ok (.iload_n 1, 1) := by decide +kernel
theorem dX1_sizeOf_1 : decode cX1_sizeOf 1 = .ok (.ifCond .lt 18, 3) := by decide +kernel
theorem dX1_sizeOf_4 : decode cX1_sizeOf 4 = .ok (.iload_n 1, 1) := by decide +kernel
theorem dX1_sizeOf_5 : decode cX1_sizeOf 5 = .ok (.bipush 17, 2) := by decide +kernel
theorem dX1_sizeOf_7 : decode cX1_sizeOf 7 = .ok (.if_icmp .ge 12, 3) := by decide +kernel
theorem dX1_sizeOf_10 : decode cX1_sizeOf 10 = .ok (.aload_n 0, 1) := by decide +kernel
theorem dX1_sizeOf_11 : decode cX1_sizeOf 11 = .ok (.getfield 11, 3) := by decide +kernel
theorem dX1_sizeOf_14 : decode cX1_sizeOf 14 = .ok (.iload_n 1, 1) := by decide +kernel
theorem dX1_sizeOf_15 : decode cX1_sizeOf 15 = .ok (.iaload, 1) := by decide +kernel
theorem dX1_sizeOf_16 : decode cX1_sizeOf 16 = .ok (.goto 4, 3) := by decide +kernel
theorem dX1_sizeOf_19 : decode cX1_sizeOf 19 = .ok (.iconst 0, 1) := by decide +kernel
theorem dX1_sizeOf_20 : decode cX1_sizeOf 20 = .ok (.ireturn, 1) := by decide +kernel
set_option maxRecDepth 20000 in
theorem ggX1_armsAt_X1_sizeOf : GoodIn wsX1_armsAt wsX1_sizeOf := goodIn_r _ [6, 7, 8, 9, 10, 11, 12] (by decide +kernel) (by decide +kernel)
set_option maxRecDepth 20000 in
theorem gX1_armsAt_X1_sizeOf : GoodIn wsX1_armsAt (wsV RX1 56 RX1 yX1_sizeOf wsX1_sizeOf) := goodIn_app (goodIn_of _ (by decide +kernel)) ggX1_armsAt_X1_sizeOf
theorem dX1_armsAt_0 : decode cX1_armsAt 0 = .ok (.iload_n 2, 1) := by decide +kernel
theorem dX1_armsAt_1 : decode cX1_armsAt 1 = .ok (.ifCond .lt 26, 3) := by decide +kernel
theorem dX1_armsAt_4 : decode cX1_armsAt 4 = .ok (.iload_n 2, 1) := by decide +kernel
theorem dX1_armsAt_5 : decode cX1_armsAt 5 = .ok (.aload_n 0, 1) := by decide +kernel
theorem dX1_armsAt_6 : decode cX1_armsAt 6 = .ok (.iload_n 1, 1) := by decide +kernel
theorem dX1_armsAt_7 : decode cX1_armsAt 7 = .ok (.invokevirtual 56, 3) := by decide +kernel
theorem dX1_armsAt_10 : decode cX1_armsAt 10 = .ok (.if_icmp .ge 17, 3) := by decide +kernel
theorem dX1_armsAt_13 : decode cX1_armsAt 13 = .ok (.aload_n 0, 1) := by decide +kernel
theorem dX1_armsAt_14 : decode cX1_armsAt 14 = .ok (.getfield 15, 3) := by decide +kernel
theorem dX1_armsAt_17 : decode cX1_armsAt 17 = .ok (.iload_n 1, 1) := by decide +kernel
theorem dX1_armsAt_18 : decode cX1_armsAt 18 = .ok (.bipush 10, 2) := by decide +kernel
theorem dX1_armsAt_20 : decode cX1_armsAt 20 = .ok (.imul, 1) := by decide +kernel
theorem dX1_armsAt_21 : decode cX1_armsAt 21 = .ok (.iload_n 2, 1) := by decide +kernel
theorem dX1_armsAt_22 : decode cX1_armsAt 22 = .ok (.iadd, 1) := by decide +kernel
theorem dX1_armsAt_23 : decode cX1_armsAt 23 = .ok (.iaload, 1) := by decide +kernel
theorem dX1_armsAt_24 : decode cX1_armsAt 24 = .ok (.goto 4, 3) := by decide +kernel
theorem dX1_armsAt_27 : decode cX1_armsAt 27 = .ok (.iconst (-1), 1) := by decide +kernel
theorem dX1_armsAt_28 : decode cX1_armsAt 28 = .ok (.ireturn, 1) := by decide +kernel
set_option maxRecDepth 20000 in
theorem ggX1_throughAt_X1_sizeOf : GoodIn wsX1_throughAt wsX1_sizeOf := goodIn_r _ [6, 7, 8, 9, 10, 11, 12] (by decide +kernel) (by decide +kernel)
set_option maxRecDepth 20000 in
theorem gX1_throughAt_X1_sizeOf : GoodIn wsX1_throughAt (wsV RX1 56 RX1 yX1_sizeOf wsX1_sizeOf) := goodIn_app (goodIn_of _ (by decide +kernel)) ggX1_throughAt_X1_sizeOf
theorem dX1_throughAt_0 : decode cX1_throughAt 0 = .ok (.iload_n 2, 1) := by decide +kernel
theorem dX1_throughAt_1 : decode cX1_throughAt 1 = .ok (.ifCond .lt 26, 3) := by decide +kernel
theorem dX1_throughAt_4 : decode cX1_throughAt 4 = .ok (.iload_n 2, 1) := by decide +kernel
theorem dX1_throughAt_5 : decode cX1_throughAt 5 = .ok (.aload_n 0, 1) := by decide +kernel
theorem dX1_throughAt_6 : decode cX1_throughAt 6 = .ok (.iload_n 1, 1) := by decide +kernel
theorem dX1_throughAt_7 : decode cX1_throughAt 7 = .ok (.invokevirtual 56, 3) := by decide +kernel
theorem dX1_throughAt_10 : decode cX1_throughAt 10 = .ok (.if_icmp .ge 17, 3) := by decide +kernel
theorem dX1_throughAt_13 : decode cX1_throughAt 13 = .ok (.aload_n 0, 1) := by decide +kernel
theorem dX1_throughAt_14 : decode cX1_throughAt 14 = .ok (.getfield 18, 3) := by decide +kernel
theorem dX1_throughAt_17 : decode cX1_throughAt 17 = .ok (.iload_n 1, 1) := by decide +kernel
theorem dX1_throughAt_18 : decode cX1_throughAt 18 = .ok (.bipush 10, 2) := by decide +kernel
theorem dX1_throughAt_20 : decode cX1_throughAt 20 = .ok (.imul, 1) := by decide +kernel
theorem dX1_throughAt_21 : decode cX1_throughAt 21 = .ok (.iload_n 2, 1) := by decide +kernel
theorem dX1_throughAt_22 : decode cX1_throughAt 22 = .ok (.iadd, 1) := by decide +kernel
theorem dX1_throughAt_23 : decode cX1_throughAt 23 = .ok (.iaload, 1) := by decide +kernel
theorem dX1_throughAt_24 : decode cX1_throughAt 24 = .ok (.goto 4, 3) := by decide +kernel
theorem dX1_throughAt_27 : decode cX1_throughAt 27 = .ok (.iconst (-1), 1) := by decide +kernel
theorem dX1_throughAt_28 : decode cX1_throughAt 28 = .ok (.ireturn, 1) := by decide +kernel
set_option maxRecDepth 20000 in
theorem ggX1_isSame_X1_sizeOf : GoodIn wsX1_isSame wsX1_sizeOf := goodIn_r _ [5, 6, 12, 13, 14, 15, 16] (by decide +kernel) (by decide +kernel)
set_option maxRecDepth 20000 in
theorem gX1_isSame_X1_sizeOf : GoodIn wsX1_isSame (wsV RX1 56 RX1 yX1_sizeOf wsX1_sizeOf) := goodIn_app (goodIn_of _ (by decide +kernel)) ggX1_isSame_X1_sizeOf
set_option maxRecDepth 20000 in
theorem ggX1_isSame_X1_armsAt : GoodIn wsX1_isSame wsX1_armsAt := goodIn_r _ [10, 11, 1, 2, 3, 4, 5, 6, 12, 13, 14, 15, 16] (by decide +kernel) (by decide +kernel)
set_option maxRecDepth 20000 in
theorem gX1_isSame_X1_armsAt : GoodIn wsX1_isSame (wsV RX1 67 RX1 yX1_armsAt wsX1_armsAt) := goodIn_app (goodIn_of _ (by decide +kernel)) ggX1_isSame_X1_armsAt
theorem dX1_isSame_0 : decode cX1_isSame 0 = .ok (.aload_n 0, 1) := by decide +kernel
theorem dX1_isSame_1 : decode cX1_isSame 1 = .ok (.iload_n 1, 1) := by decide +kernel
theorem dX1_isSame_2 : decode cX1_isSame 2 = .ok (.invokevirtual 56, 3) := by decide +kernel
theorem dX1_isSame_5 : decode cX1_isSame 5 = .ok (.aload_n 0, 1) := by decide +kernel
theorem dX1_isSame_6 : decode cX1_isSame 6 = .ok (.iload_n 2, 1) := by decide +kernel
theorem dX1_isSame_7 : decode cX1_isSame 7 = .ok (.invokevirtual 56, 3) := by decide +kernel
theorem dX1_isSame_10 : decode cX1_isSame 10 = .ok (.if_icmp .eq 5, 3) := by decide +kernel
theorem dX1_isSame_13 : decode cX1_isSame 13 = .ok (.iconst 0, 1) := by decide +kernel
theorem dX1_isSame_14 : decode cX1_isSame 14 = .ok (.ireturn, 1) := by decide +kernel
theorem dX1_isSame_15 : decode cX1_isSame 15 = .ok (.iconst 0, 1) := by decide +kernel
theorem dX1_isSame_16 : decode cX1_isSame 16 = .ok (.istore_n 3, 1) := by decide +kernel
theorem dX1_isSame_17 : decode cX1_isSame 17 = .ok (.iload_n 3, 1) := by decide +kernel
theorem dX1_isSame_18 : decode cX1_isSame 18 = .ok (.aload_n 0, 1) := by decide +kernel
theorem dX1_isSame_19 : decode cX1_isSame 19 = .ok (.iload_n 1, 1) := by decide +kernel
theorem dX1_isSame_20 : decode cX1_isSame 20 = .ok (.invokevirtual 56, 3) := by decide +kernel
theorem dX1_isSame_23 : decode cX1_isSame 23 = .ok (.if_icmp .ge 26, 3) := by decide +kernel
theorem dX1_isSame_26 : decode cX1_isSame 26 = .ok (.aload_n 0, 1) := by decide +kernel
theorem dX1_isSame_27 : decode cX1_isSame 27 = .ok (.iload_n 1, 1) := by decide +kernel
theorem dX1_isSame_28 : decode cX1_isSame 28 = .ok (.iload_n 3, 1) := by decide +kernel
theorem dX1_isSame_29 : decode cX1_isSame 29 = .ok (.invokevirtual 67, 3) := by decide +kernel
theorem dX1_isSame_32 : decode cX1_isSame 32 = .ok (.aload_n 0, 1) := by decide +kernel
theorem dX1_isSame_33 : decode cX1_isSame 33 = .ok (.iload_n 2, 1) := by decide +kernel
theorem dX1_isSame_34 : decode cX1_isSame 34 = .ok (.iload_n 3, 1) := by decide +kernel
theorem dX1_isSame_35 : decode cX1_isSame 35 = .ok (.invokevirtual 67, 3) := by decide +kernel
theorem dX1_isSame_38 : decode cX1_isSame 38 = .ok (.if_icmp .eq 5, 3) := by decide +kernel
theorem dX1_isSame_41 : decode cX1_isSame 41 = .ok (.iconst 0, 1) := by decide +kernel
theorem dX1_isSame_42 : decode cX1_isSame 42 = .ok (.ireturn, 1) := by decide +kernel
theorem dX1_isSame_43 : decode cX1_isSame 43 = .ok (.iinc 3 1, 3) := by decide +kernel
theorem dX1_isSame_46 : decode cX1_isSame 46 = .ok (.goto (-29), 3) := by decide +kernel
theorem dX1_isSame_49 : decode cX1_isSame 49 = .ok (.iconst 1, 1) := by decide +kernel
theorem dX1_isSame_50 : decode cX1_isSame 50 = .ok (.ireturn, 1) := by decide +kernel
set_option maxRecDepth 20000 in
theorem ggX1_sameAs_X1_isSame : GoodIn wsX1_sameAs wsX1_isSame := goodIn_r _ [6, 7, 8, 9, 5, 10, 11, 12, 13, 14, 15, 16, 17, 18, 19, 20, 21] (by decide +kernel) (by decide +kernel)
set_option maxRecDepth 20000 in
theorem gX1_sameAs_X1_isSame : GoodIn wsX1_sameAs (wsV RX1 76 RX1 yX1_isSame wsX1_isSame) := goodIn_app (goodIn_of _ (by decide +kernel)) ggX1_sameAs_X1_isSame
theorem dX1_sameAs_0 : decode cX1_sameAs 0 = .ok (.iconst 0, 1) := by decide +kernel
theorem dX1_sameAs_1 : decode cX1_sameAs 1 = .ok (.istore_n 2, 1) := by decide +kernel
theorem dX1_sameAs_2 : decode cX1_sameAs 2 = .ok (.iconst 0, 1) := by decide +kernel
theorem dX1_sameAs_3 : decode cX1_sameAs 3 = .ok (.istore_n 3, 1) := by decide +kernel
theorem dX1_sameAs_4 : decode cX1_sameAs 4 = .ok (.iload_n 3, 1) := by decide +kernel
theorem dX1_sameAs_5 : decode cX1_sameAs 5 = .ok (.aload_n 0, 1) := by decide +kernel
theorem dX1_sameAs_6 : decode cX1_sameAs 6 = .ok (.getfield 27, 3) := by decide +kernel
theorem dX1_sameAs_9 : decode cX1_sameAs 9 = .ok (.if_icmp .ge 24, 3) := by decide +kernel
theorem dX1_sameAs_12 : decode cX1_sameAs 12 = .ok (.aload_n 0, 1) := by decide +kernel
theorem dX1_sameAs_13 : decode cX1_sameAs 13 = .ok (.iload_n 1, 1) := by decide +kernel
theorem dX1_sameAs_14 : decode cX1_sameAs 14 = .ok (.iload_n 3, 1) := by decide +kernel
theorem dX1_sameAs_15 : decode cX1_sameAs 15 = .ok (.invokevirtual 76, 3) := by decide +kernel
theorem dX1_sameAs_18 : decode cX1_sameAs 18 = .ok (.ifCond .eq 9, 3) := by decide +kernel
theorem dX1_sameAs_21 : decode cX1_sameAs 21 = .ok (.iload_n 2, 1) := by decide +kernel
theorem dX1_sameAs_22 : decode cX1_sameAs 22 = .ok (.iconst 1, 1) := by decide +kernel
theorem dX1_sameAs_23 : decode cX1_sameAs 23 = .ok (.iload_n 3, 1) := by decide +kernel
theorem dX1_sameAs_24 : decode cX1_sameAs 24 = .ok (.ishl, 1) := by decide +kernel
theorem dX1_sameAs_25 : decode cX1_sameAs 25 = .ok (.ior, 1) := by decide +kernel
theorem dX1_sameAs_26 : decode cX1_sameAs 26 = .ok (.istore_n 2, 1) := by decide +kernel
theorem dX1_sameAs_27 : decode cX1_sameAs 27 = .ok (.iinc 3 1, 3) := by decide +kernel
theorem dX1_sameAs_30 : decode cX1_sameAs 30 = .ok (.goto (-26), 3) := by decide +kernel
theorem dX1_sameAs_33 : decode cX1_sameAs 33 = .ok (.iload_n 2, 1) := by decide +kernel
theorem dX1_sameAs_34 : decode cX1_sameAs 34 = .ok (.ireturn, 1) := by decide +kernel
set_option maxRecDepth 20000 in
theorem ggX1_unlikeCoats_X1_isIn : GoodIn wsX1_unlikeCoats wsX1_isIn := goodIn_r _ [5] (by decide +kernel) (by decide +kernel)
set_option maxRecDepth 20000 in
theorem gX1_unlikeCoats_X1_isIn : GoodIn wsX1_unlikeCoats (va_wsS RX1 52 yX1_isIn wsX1_isIn) := goodIn_app (goodIn_of _ (by decide +kernel)) ggX1_unlikeCoats_X1_isIn
set_option maxRecDepth 20000 in
theorem ggX1_unlikeCoats_X1_sameAs : GoodIn wsX1_unlikeCoats wsX1_sameAs := goodIn_r _ [9, 1, 10, 11, 12, 4, 13, 14, 15, 16, 17, 18, 19, 20, 21, 22, 23, 24, 25, 26, 27, 28] (by decide +kernel) (by decide +kernel)
set_option maxRecDepth 20000 in
theorem gX1_unlikeCoats_X1_sameAs : GoodIn wsX1_unlikeCoats (wsV RX1 79 RX1 yX1_sameAs wsX1_sameAs) := goodIn_app (goodIn_of _ (by decide +kernel)) ggX1_unlikeCoats_X1_sameAs
theorem dX1_unlikeCoats_0 : decode cX1_unlikeCoats 0 = .ok (.iconst 0, 1) := by decide +kernel
theorem dX1_unlikeCoats_1 : decode cX1_unlikeCoats 1 = .ok (.istore_n 1, 1) := by decide +kernel
theorem dX1_unlikeCoats_2 : decode cX1_unlikeCoats 2 = .ok (.iconst 0, 1) := by decide +kernel
theorem dX1_unlikeCoats_3 : decode cX1_unlikeCoats 3 = .ok (.istore_n 2, 1) := by decide +kernel
theorem dX1_unlikeCoats_4 : decode cX1_unlikeCoats 4 = .ok (.iconst 0, 1) := by decide +kernel
theorem dX1_unlikeCoats_5 : decode cX1_unlikeCoats 5 = .ok (.istore_n 3, 1) := by decide +kernel
theorem dX1_unlikeCoats_6 : decode cX1_unlikeCoats 6 = .ok (.iload_n 3, 1) := by decide +kernel
theorem dX1_unlikeCoats_7 : decode cX1_unlikeCoats 7 = .ok (.aload_n 0, 1) := by decide +kernel
theorem dX1_unlikeCoats_8 : decode cX1_unlikeCoats 8 = .ok (.getfield 27, 3) := by decide +kernel
theorem dX1_unlikeCoats_11 : decode cX1_unlikeCoats 11 = .ok (.if_icmp .ge 28, 3) := by decide +kernel
theorem dX1_unlikeCoats_14 : decode cX1_unlikeCoats 14 = .ok (.iload_n 1, 1) := by decide +kernel
theorem dX1_unlikeCoats_15 : decode cX1_unlikeCoats 15 = .ok (.iload_n 3, 1) := by decide +kernel
theorem dX1_unlikeCoats_16 : decode cX1_unlikeCoats 16 = .ok (.invokestatic 52, 3) := by decide +kernel
theorem dX1_unlikeCoats_19 : decode cX1_unlikeCoats 19 = .ok (.ifCond .ne 14, 3) := by decide +kernel
theorem dX1_unlikeCoats_22 : decode cX1_unlikeCoats 22 = .ok (.iinc 2 1, 3) := by decide +kernel
theorem dX1_unlikeCoats_25 : decode cX1_unlikeCoats 25 = .ok (.iload_n 1, 1) := by decide +kernel
theorem dX1_unlikeCoats_26 : decode cX1_unlikeCoats 26 = .ok (.aload_n 0, 1) := by decide +kernel
theorem dX1_unlikeCoats_27 : decode cX1_unlikeCoats 27 = .ok (.iload_n 3, 1) := by decide +kernel
theorem dX1_unlikeCoats_28 : decode cX1_unlikeCoats 28 = .ok (.invokevirtual 79, 3) := by decide +kernel
theorem dX1_unlikeCoats_31 : decode cX1_unlikeCoats 31 = .ok (.ior, 1) := by decide +kernel
theorem dX1_unlikeCoats_32 : decode cX1_unlikeCoats 32 = .ok (.istore_n 1, 1) := by decide +kernel
theorem dX1_unlikeCoats_33 : decode cX1_unlikeCoats 33 = .ok (.iinc 3 1, 3) := by decide +kernel
theorem dX1_unlikeCoats_36 : decode cX1_unlikeCoats 36 = .ok (.goto (-30), 3) := by decide +kernel
theorem dX1_unlikeCoats_39 : decode cX1_unlikeCoats 39 = .ok (.iload_n 2, 1) := by decide +kernel
theorem dX1_unlikeCoats_40 : decode cX1_unlikeCoats 40 = .ok (.ireturn, 1) := by decide +kernel
theorem dX1_isIn_0 : decode cX1_isIn 0 = .ok (.iload_n 0, 1) := by decide +kernel
theorem dX1_isIn_1 : decode cX1_isIn 1 = .ok (.iload_n 1, 1) := by decide +kernel
theorem dX1_isIn_2 : decode cX1_isIn 2 = .ok (.ishr, 1) := by decide +kernel
theorem dX1_isIn_3 : decode cX1_isIn 3 = .ok (.iconst 1, 1) := by decide +kernel
theorem dX1_isIn_4 : decode cX1_isIn 4 = .ok (.iand, 1) := by decide +kernel
theorem dX1_isIn_5 : decode cX1_isIn 5 = .ok (.iconst 1, 1) := by decide +kernel
theorem dX1_isIn_6 : decode cX1_isIn 6 = .ok (.if_icmp .ne 7, 3) := by decide +kernel
theorem dX1_isIn_9 : decode cX1_isIn 9 = .ok (.iconst 1, 1) := by decide +kernel
theorem dX1_isIn_10 : decode cX1_isIn 10 = .ok (.goto 4, 3) := by decide +kernel
theorem dX1_isIn_13 : decode cX1_isIn 13 = .ok (.iconst 0, 1) := by decide +kernel
theorem dX1_isIn_14 : decode cX1_isIn 14 = .ok (.ireturn, 1) := by decide +kernel
theorem dX2_init_0 : decode cX2_init 0 = .ok (.aload_n 0, 1) := by decide +kernel
theorem dX2_init_1 : decode cX2_init 1 = .ok (.invokespecial 3, 3) := by decide +kernel
theorem dX2_init_4 : decode cX2_init 4 = .ok (.aload_n 0, 1) := by decide +kernel
theorem dX2_init_5 : decode cX2_init 5 = .ok (.iconst 0, 1) := by decide +kernel
theorem dX2_init_6 : decode cX2_init 6 = .ok (.putfield 9, 3) := by decide +kernel
theorem dX2_init_9 : decode cX2_init 9 = .ok (.return_, 1) := by decide +kernel
theorem dX2_draw_0 : decode cX2_draw 0 = .ok (.aload_n 0, 1) := by decide +kernel
theorem dX2_draw_1 : decode cX2_draw 1 = .ok (.aload_n 0, 1) := by decide +kernel
theorem dX2_draw_2 : decode cX2_draw 2 = .ok (.getfield 9, 3) := by decide +kernel
theorem dX2_draw_5 : decode cX2_draw 5 = .ok (.ldc 15, 2) := by decide +kernel
theorem dX2_draw_7 : decode cX2_draw 7 = .ok (.imul, 1) := by decide +kernel
theorem dX2_draw_8 : decode cX2_draw 8 = .ok (.sipush 12345, 3) := by decide +kernel
theorem dX2_draw_11 : decode cX2_draw 11 = .ok (.iadd, 1) := by decide +kernel
theorem dX2_draw_12 : decode cX2_draw 12 = .ok (.ldc 16, 2) := by decide +kernel
theorem dX2_draw_14 : decode cX2_draw 14 = .ok (.iand, 1) := by decide +kernel
theorem dX2_draw_15 : decode cX2_draw 15 = .ok (.putfield 9, 3) := by decide +kernel
theorem dX2_draw_18 : decode cX2_draw 18 = .ok (.iload_n 1, 1) := by decide +kernel
theorem dX2_draw_19 : decode cX2_draw 19 = .ok (.ifCond .le 15, 3) := by decide +kernel
theorem dX2_draw_22 : decode cX2_draw 22 = .ok (.aload_n 0, 1) := by decide +kernel
theorem dX2_draw_23 : decode cX2_draw 23 = .ok (.getfield 9, 3) := by decide +kernel
theorem dX2_draw_26 : decode cX2_draw 26 = .ok (.ldc 17, 2) := by decide +kernel
theorem dX2_draw_28 : decode cX2_draw 28 = .ok (.idiv, 1) := by decide +kernel
theorem dX2_draw_29 : decode cX2_draw 29 = .ok (.iload_n 1, 1) := by decide +kernel
theorem dX2_draw_30 : decode cX2_draw 30 = .ok (.irem, 1) := by decide +kernel
theorem dX2_draw_31 : decode cX2_draw 31 = .ok (.goto 4, 3) := by decide +kernel
theorem dX2_draw_34 : decode cX2_draw 34 = .ok (.iconst 0, 1) := by decide +kernel
theorem dX2_draw_35 : decode cX2_draw 35 = .ok (.ireturn, 1) := by decide +kernel
set_option maxRecDepth 20000 in
theorem ggX2_addOne_X2_draw : GoodIn wsX2_addOne wsX2_draw := goodIn_r _ [5, 6, 7, 8, 9, 41] (by decide +kernel) (by decide +kernel)
set_option maxRecDepth 20000 in
theorem gX2_addOne_X2_draw : GoodIn wsX2_addOne (wsV RX2 18 RX2 yX2_draw wsX2_draw) := goodIn_app (goodIn_of _ (by decide +kernel)) ggX2_addOne_X2_draw
set_option maxRecDepth 20000 in
theorem ggX2_addOne_X7_people : GoodIn wsX2_addOne wsX7_people := goodIn_r _ [14, 15, 42] (by decide +kernel) (by decide +kernel)
set_option maxRecDepth 20000 in
theorem gX2_addOne_X7_people : GoodIn wsX2_addOne (wsV RX2 22 RX7 yX7_people wsX7_people) := goodIn_app (goodIn_of _ (by decide +kernel)) ggX2_addOne_X7_people
set_option maxRecDepth 20000 in
theorem ggX2_addOne_X7_isMan : GoodIn wsX2_addOne wsX7_isMan := goodIn_r _ [19, 20, 21, 22, 13, 23, 15, 24, 25, 26, 27, 42] (by decide +kernel) (by decide +kernel)
set_option maxRecDepth 20000 in
theorem gX2_addOne_X7_isMan : GoodIn wsX2_addOne (wsV RX2 28 RX7 yX7_isMan wsX7_isMan) := goodIn_app (goodIn_of _ (by decide +kernel)) ggX2_addOne_X7_isMan
set_option maxRecDepth 20000 in
theorem ggX2_addOne_X7_isWoman : GoodIn wsX2_addOne wsX7_isWoman := goodIn_r _ [31, 20, 21, 22, 13, 23, 15, 24, 25, 26, 27, 42] (by decide +kernel) (by decide +kernel)
set_option maxRecDepth 20000 in
theorem gX2_addOne_X7_isWoman : GoodIn wsX2_addOne (wsV RX2 32 RX7 yX7_isWoman wsX7_isWoman) := goodIn_app (goodIn_of _ (by decide +kernel)) ggX2_addOne_X7_isWoman
set_option maxRecDepth 20000 in
theorem ggX2_addOne_X7_addPerson : GoodIn wsX2_addOne wsX7_addPerson := goodIn_r _ [35, 15, 36, 37, 38, 13, 39, 40, 11, 12, 14, 20, 21, 22, 23, 24, 25, 26, 27, 42] (by decide +kernel) (by decide +kernel)
set_option maxRecDepth 20000 in
theorem gX2_addOne_X7_addPerson : GoodIn wsX2_addOne (wsV RX2 35 RX7 yX7_addPerson wsX7_addPerson) := goodIn_app (goodIn_of _ (by decide +kernel)) ggX2_addOne_X7_addPerson
theorem dX2_addOne_0 : decode cX2_addOne 0 = .ok (.aload_n 0, 1) := by decide +kernel
theorem dX2_addOne_1 : decode cX2_addOne 1 = .ok (.iconst 2, 1) := by decide +kernel
theorem dX2_addOne_2 : decode cX2_addOne 2 = .ok (.invokevirtual 18, 3) := by decide +kernel
theorem dX2_addOne_5 : decode cX2_addOne 5 = .ok (.istore_n 2, 1) := by decide +kernel
theorem dX2_addOne_6 : decode cX2_addOne 6 = .ok (.aload_n 0, 1) := by decide +kernel
theorem dX2_addOne_7 : decode cX2_addOne 7 = .ok (.bipush 10, 2) := by decide +kernel
theorem dX2_addOne_9 : decode cX2_addOne 9 = .ok (.invokevirtual 18, 3) := by decide +kernel
theorem dX2_addOne_12 : decode cX2_addOne 12 = .ok (.istore_n 3, 1) := by decide +kernel
theorem dX2_addOne_13 : decode cX2_addOne 13 = .ok (.aload_n 0, 1) := by decide +kernel
theorem dX2_addOne_14 : decode cX2_addOne 14 = .ok (.aload_n 1, 1) := by decide +kernel
theorem dX2_addOne_15 : decode cX2_addOne 15 = .ok (.invokevirtual 22, 3) := by decide +kernel
theorem dX2_addOne_18 : decode cX2_addOne 18 = .ok (.iconst 1, 1) := by decide +kernel
theorem dX2_addOne_19 : decode cX2_addOne 19 = .ok (.iadd, 1) := by decide +kernel
theorem dX2_addOne_20 : decode cX2_addOne 20 = .ok (.invokevirtual 18, 3) := by decide +kernel
theorem dX2_addOne_23 : decode cX2_addOne 23 = .ok (.iconst 1, 1) := by decide +kernel
theorem dX2_addOne_24 : decode cX2_addOne 24 = .ok (.isub, 1) := by decide +kernel
theorem dX2_addOne_25 : decode cX2_addOne 25 = .ok (.istore 4, 2) := by decide +kernel
theorem dX2_addOne_27 : decode cX2_addOne 27 = .ok (.aload_n 0, 1) := by decide +kernel
theorem dX2_addOne_28 : decode cX2_addOne 28 = .ok (.aload_n 1, 1) := by decide +kernel
theorem dX2_addOne_29 : decode cX2_addOne 29 = .ok (.invokevirtual 22, 3) := by decide +kernel
theorem dX2_addOne_32 : decode cX2_addOne 32 = .ok (.iconst 1, 1) := by decide +kernel
theorem dX2_addOne_33 : decode cX2_addOne 33 = .ok (.iadd, 1) := by decide +kernel
theorem dX2_addOne_34 : decode cX2_addOne 34 = .ok (.invokevirtual 18, 3) := by decide +kernel
theorem dX2_addOne_37 : decode cX2_addOne 37 = .ok (.iconst 1, 1) := by decide +kernel
theorem dX2_addOne_38 : decode cX2_addOne 38 = .ok (.isub, 1) := by decide +kernel
theorem dX2_addOne_39 : decode cX2_addOne 39 = .ok (.istore 5, 2) := by decide +kernel
theorem dX2_addOne_41 : decode cX2_addOne 41 = .ok (.aload_n 1, 1) := by decide +kernel
theorem dX2_addOne_42 : decode cX2_addOne 42 = .ok (.iload_n 2, 1) := by decide +kernel
theorem dX2_addOne_43 : decode cX2_addOne 43 = .ok (.iload_n 3, 1) := by decide +kernel
theorem dX2_addOne_44 : decode cX2_addOne 44 = .ok (.aload_n 1, 1) := by decide +kernel
theorem dX2_addOne_45 : decode cX2_addOne 45 = .ok (.iload 4, 2) := by decide +kernel
theorem dX2_addOne_47 : decode cX2_addOne 47 = .ok (.invokevirtual 28, 3) := by decide +kernel
theorem dX2_addOne_50 : decode cX2_addOne 50 = .ok (.ifCond .eq 8, 3) := by decide +kernel
theorem dX2_addOne_53 : decode cX2_addOne 53 = .ok (.iload 4, 2) := by decide +kernel
theorem dX2_addOne_55 : decode cX2_addOne 55 = .ok (.goto 4, 3) := by decide +kernel
theorem dX2_addOne_58 : decode cX2_addOne 58 = .ok (.iconst (-1), 1) := by decide +kernel
theorem dX2_addOne_59 : decode cX2_addOne 59 = .ok (.aload_n 1, 1) := by decide +kernel
theorem dX2_addOne_60 : decode cX2_addOne 60 = .ok (.iload 5, 2) := by decide +kernel
theorem dX2_addOne_62 : decode cX2_addOne 62 = .ok (.invokevirtual 32, 3) := by decide +kernel
theorem dX2_addOne_65 : decode cX2_addOne 65 = .ok (.ifCond .eq 8, 3) := by decide +kernel
theorem dX2_addOne_68 : decode cX2_addOne 68 = .ok (.iload 5, 2) := by decide +kernel
theorem dX2_addOne_70 : decode cX2_addOne 70 = .ok (.goto 4, 3) := by decide +kernel
theorem dX2_addOne_73 : decode cX2_addOne 73 = .ok (.iconst (-1), 1) := by decide +kernel
theorem dX2_addOne_74 : decode cX2_addOne 74 = .ok (.invokevirtual 35, 3) := by decide +kernel
theorem dX2_addOne_77 : decode cX2_addOne 77 = .ok (.return_, 1) := by decide +kernel
set_option maxRecDepth 20000 in
theorem ggX3_init_X6_init : GoodIn wsX3_init wsX6_init := goodIn_r _ [14, 15, 2, 3, 16, 17, 18, 19, 20, 8, 21, 22, 23] (by decide +kernel) (by decide +kernel)
set_option maxRecDepth 20000 in
theorem gX3_init_X6_init : GoodIn wsX3_init (wsX6_init) := ggX3_init_X6_init
theorem dX3_init_0 : decode cX3_init 0 = .ok (.aload_n 0, 1) := by decide +kernel
theorem dX3_init_1 : decode cX3_init 1 = .ok (.invokespecial 3, 3) := by decide +kernel
theorem dX3_init_4 : decode cX3_init 4 = .ok (.aload_n 0, 1) := by decide +kernel
theorem dX3_init_5 : decode cX3_init 5 = .ok (.new 9, 3) := by decide +kernel
theorem dX3_init_8 : decode cX3_init 8 = .ok (.dup, 1) := by decide +kernel
theorem dX3_init_9 : decode cX3_init 9 = .ok (.iconst 2, 1) := by decide +kernel
theorem dX3_init_10 : decode cX3_init 10 = .ok (.invokespecial 11, 3) := by decide +kernel
theorem dX3_init_13 : decode cX3_init 13 = .ok (.putfield 14, 3) := by decide +kernel
theorem dX3_init_16 : decode cX3_init 16 = .ok (.aload_n 0, 1) := by decide +kernel
theorem dX3_init_17 : decode cX3_init 17 = .ok (.iconst 2, 1) := by decide +kernel
theorem dX3_init_18 : decode cX3_init 18 = .ok (.newarray .int, 2) := by decide +kernel
theorem dX3_init_20 : decode cX3_init 20 = .ok (.putfield 20, 3) := by decide +kernel
theorem dX3_init_23 : decode cX3_init 23 = .ok (.aload_n 0, 1) := by decide +kernel
theorem dX3_init_24 : decode cX3_init 24 = .ok (.iconst 2, 1) := by decide +kernel
theorem dX3_init_25 : decode cX3_init 25 = .ok (.newarray .boolean, 2) := by decide +kernel
theorem dX3_init_27 : decode cX3_init 27 = .ok (.putfield 24, 3) := by decide +kernel
theorem dX3_init_30 : decode cX3_init 30 = .ok (.return_, 1) := by decide +kernel
theorem dX3_isStored_0 : decode cX3_isStored 0 = .ok (.iload_n 1, 1) := by decide +kernel
theorem dX3_isStored_1 : decode cX3_isStored 1 = .ok (.ifCond .lt 21, 3) := by decide +kernel
theorem dX3_isStored_4 : decode cX3_isStored 4 = .ok (.iload_n 1, 1) := by decide +kernel
theorem dX3_isStored_5 : decode cX3_isStored 5 = .ok (.iconst 2, 1) := by decide +kernel
theorem dX3_isStored_6 : decode cX3_isStored 6 = .ok (.if_icmp .ge 16, 3) := by decide +kernel
theorem dX3_isStored_9 : decode cX3_isStored 9 = .ok (.aload_n 0, 1) := by decide +kernel
theorem dX3_isStored_10 : decode cX3_isStored 10 = .ok (.getfield 24, 3) := by decide +kernel
theorem dX3_isStored_13 : decode cX3_isStored 13 = .ok (.iload_n 1, 1) := by decide +kernel
theorem dX3_isStored_14 : decode cX3_isStored 14 = .ok (.baload, 1) := by decide +kernel
theorem dX3_isStored_15 : decode cX3_isStored 15 = .ok (.ifCond .eq 7, 3) := by decide +kernel
theorem dX3_isStored_18 : decode cX3_isStored 18 = .ok (.iconst 1, 1) := by decide +kernel
theorem dX3_isStored_19 : decode cX3_isStored 19 = .ok (.goto 4, 3) := by decide +kernel
theorem dX3_isStored_22 : decode cX3_isStored 22 = .ok (.iconst 0, 1) := by decide +kernel
theorem dX3_isStored_23 : decode cX3_isStored 23 = .ok (.ireturn, 1) := by decide +kernel
set_option maxRecDepth 20000 in
theorem ggX3_store_X6_lay : GoodIn wsX3_store wsX6_lay := goodIn_r _ [9, 10, 11, 12, 13, 14, 15, 16, 21, 22, 23] (by decide +kernel) (by decide +kernel)
set_option maxRecDepth 20000 in
theorem gX3_store_X6_lay : GoodIn wsX3_store (wsV RX3 28 RX6 yX6_lay wsX6_lay) := goodIn_app (goodIn_of _ (by decide +kernel)) ggX3_store_X6_lay
theorem dX3_store_0 : decode cX3_store 0 = .ok (.iload_n 1, 1) := by decide +kernel
theorem dX3_store_1 : decode cX3_store 1 = .ok (.ifCond .lt 8, 3) := by decide +kernel
theorem dX3_store_4 : decode cX3_store 4 = .ok (.iload_n 1, 1) := by decide +kernel
theorem dX3_store_5 : decode cX3_store 5 = .ok (.iconst 2, 1) := by decide +kernel
theorem dX3_store_6 : decode cX3_store 6 = .ok (.if_icmp .lt 4, 3) := by decide +kernel
theorem dX3_store_9 : decode cX3_store 9 = .ok (.return_, 1) := by decide +kernel
theorem dX3_store_10 : decode cX3_store 10 = .ok (.aload_n 0, 1) := by decide +kernel
theorem dX3_store_11 : decode cX3_store 11 = .ok (.getfield 14, 3) := by decide +kernel
theorem dX3_store_14 : decode cX3_store 14 = .ok (.iload_n 1, 1) := by decide +kernel
theorem dX3_store_15 : decode cX3_store 15 = .ok (.aload_n 2, 1) := by decide +kernel
theorem dX3_store_16 : decode cX3_store 16 = .ok (.invokevirtual 28, 3) := by decide +kernel
theorem dX3_store_19 : decode cX3_store 19 = .ok (.aload_n 0, 1) := by decide +kernel
theorem dX3_store_20 : decode cX3_store 20 = .ok (.getfield 20, 3) := by decide +kernel
theorem dX3_store_23 : decode cX3_store 23 = .ok (.iload_n 1, 1) := by decide +kernel
theorem dX3_store_24 : decode cX3_store 24 = .ok (.aload_n 3, 1) := by decide +kernel
theorem dX3_store_25 : decode cX3_store 25 = .ok (.getfield 32, 3) := by decide +kernel
theorem dX3_store_28 : decode cX3_store 28 = .ok (.iastore, 1) := by decide +kernel
theorem dX3_store_29 : decode cX3_store 29 = .ok (.aload_n 0, 1) := by decide +kernel
theorem dX3_store_30 : decode cX3_store 30 = .ok (.getfield 24, 3) := by decide +kernel
theorem dX3_store_33 : decode cX3_store 33 = .ok (.iload_n 1, 1) := by decide +kernel
theorem dX3_store_34 : decode cX3_store 34 = .ok (.iconst 1, 1) := by decide +kernel
theorem dX3_store_35 : decode cX3_store 35 = .ok (.bastore, 1) := by decide +kernel
theorem dX3_store_36 : decode cX3_store 36 = .ok (.return_, 1) := by decide +kernel
set_option maxRecDepth 20000 in
theorem ggX3_restore_X3_isStored : GoodIn wsX3_restore wsX3_isStored := goodIn_r _ [8, 9, 22, 23, 24] (by decide +kernel) (by decide +kernel)
set_option maxRecDepth 20000 in
theorem gX3_restore_X3_isStored : GoodIn wsX3_restore (wsV RX3 38 RX3 yX3_isStored wsX3_isStored) := goodIn_app (goodIn_of _ (by decide +kernel)) ggX3_restore_X3_isStored
set_option maxRecDepth 20000 in
theorem ggX3_restore_X6_fetch : GoodIn wsX3_restore wsX6_fetch := goodIn_r _ [14, 15, 16, 17, 18, 19, 20, 21, 26, 27, 28] (by decide +kernel) (by decide +kernel)
set_option maxRecDepth 20000 in
theorem gX3_restore_X6_fetch : GoodIn wsX3_restore (wsV RX3 42 RX6 yX6_fetch wsX6_fetch) := goodIn_app (goodIn_of _ (by decide +kernel)) ggX3_restore_X6_fetch
theorem dX3_restore_0 : decode cX3_restore 0 = .ok (.aload_n 0, 1) := by decide +kernel
theorem dX3_restore_1 : decode cX3_restore 1 = .ok (.iload_n 1, 1) := by decide +kernel
theorem dX3_restore_2 : decode cX3_restore 2 = .ok (.invokevirtual 38, 3) := by decide +kernel
theorem dX3_restore_5 : decode cX3_restore 5 = .ok (.ifCond .ne 4, 3) := by decide +kernel
theorem dX3_restore_8 : decode cX3_restore 8 = .ok (.return_, 1) := by decide +kernel
theorem dX3_restore_9 : decode cX3_restore 9 = .ok (.aload_n 0, 1) := by decide +kernel
theorem dX3_restore_10 : decode cX3_restore 10 = .ok (.getfield 14, 3) := by decide +kernel
theorem dX3_restore_13 : decode cX3_restore 13 = .ok (.iload_n 1, 1) := by decide +kernel
theorem dX3_restore_14 : decode cX3_restore 14 = .ok (.aload_n 2, 1) := by decide +kernel
theorem dX3_restore_15 : decode cX3_restore 15 = .ok (.invokevirtual 42, 3) := by decide +kernel
theorem dX3_restore_18 : decode cX3_restore 18 = .ok (.aload_n 3, 1) := by decide +kernel
theorem dX3_restore_19 : decode cX3_restore 19 = .ok (.aload_n 0, 1) := by decide +kernel
theorem dX3_restore_20 : decode cX3_restore 20 = .ok (.getfield 20, 3) := by decide +kernel
theorem dX3_restore_23 : decode cX3_restore 23 = .ok (.iload_n 1, 1) := by decide +kernel
theorem dX3_restore_24 : decode cX3_restore 24 = .ok (.iaload, 1) := by decide +kernel
theorem dX3_restore_25 : decode cX3_restore 25 = .ok (.putfield 32, 3) := by decide +kernel
theorem dX3_restore_28 : decode cX3_restore 28 = .ok (.return_, 1) := by decide +kernel
theorem dX4_init_0 : decode cX4_init 0 = .ok (.aload_n 0, 1) := by decide +kernel
theorem dX4_init_1 : decode cX4_init 1 = .ok (.invokespecial 3, 3) := by decide +kernel
theorem dX4_init_4 : decode cX4_init 4 = .ok (.aload_n 0, 1) := by decide +kernel
theorem dX4_init_5 : decode cX4_init 5 = .ok (.bipush 16, 2) := by decide +kernel
theorem dX4_init_7 : decode cX4_init 7 = .ok (.newarray .int, 2) := by decide +kernel
theorem dX4_init_9 : decode cX4_init 9 = .ok (.putfield 9, 3) := by decide +kernel
theorem dX4_init_12 : decode cX4_init 12 = .ok (.aload_n 0, 1) := by decide +kernel
theorem dX4_init_13 : decode cX4_init 13 = .ok (.bipush 16, 2) := by decide +kernel
theorem dX4_init_15 : decode cX4_init 15 = .ok (.newarray .int, 2) := by decide +kernel
theorem dX4_init_17 : decode cX4_init 17 = .ok (.putfield 15, 3) := by decide +kernel
theorem dX4_init_20 : decode cX4_init 20 = .ok (.aload_n 0, 1) := by decide +kernel
theorem dX4_init_21 : decode cX4_init 21 = .ok (.iconst (-1), 1) := by decide +kernel
theorem dX4_init_22 : decode cX4_init 22 = .ok (.putfield 18, 3) := by decide +kernel
theorem dX4_init_25 : decode cX4_init 25 = .ok (.aload_n 0, 1) := by decide +kernel
theorem dX4_init_26 : decode cX4_init 26 = .ok (.iconst (-1), 1) := by decide +kernel
theorem dX4_init_27 : decode cX4_init 27 = .ok (.putfield 22, 3) := by decide +kernel
theorem dX4_init_30 : decode cX4_init 30 = .ok (.return_, 1) := by decide +kernel
set_option maxRecDepth 20000 in
theorem ggX4_seek_X4_countSteps : GoodIn wsX4_seek wsX4_countSteps := goodIn_r _ [8, 9, 10, 11, 12, 13, 14, 15, 16, 17, 18, 19, 20, 21, 22, 23, 24, 7, 25, 34] (by decide +kernel) (by decide +kernel)
set_option maxRecDepth 20000 in
theorem gX4_seek_X4_countSteps : GoodIn wsX4_seek (va_wsS RX4 25 yX4_countSteps wsX4_countSteps) := goodIn_app (goodIn_of _ (by decide +kernel)) ggX4_seek_X4_countSteps
set_option maxRecDepth 20000 in
theorem ggX4_seek_X7_people : GoodIn wsX4_seek wsX7_people := goodIn_r _ [29, 18, 34] (by decide +kernel) (by decide +kernel)
set_option maxRecDepth 20000 in
theorem gX4_seek_X7_people : GoodIn wsX4_seek (wsV RX4 29 RX7 yX7_people wsX7_people) := goodIn_app (goodIn_of _ (by decide +kernel)) ggX4_seek_X7_people
theorem dX4_seek_0 : decode cX4_seek 0 = .ok (.aload_n 1, 1) := by decide +kernel
theorem dX4_seek_1 : decode cX4_seek 1 = .ok (.iload_n 2, 1) := by decide +kernel
theorem dX4_seek_2 : decode cX4_seek 2 = .ok (.aload_n 0, 1) := by decide +kernel
theorem dX4_seek_3 : decode cX4_seek 3 = .ok (.getfield 9, 3) := by decide +kernel
theorem dX4_seek_6 : decode cX4_seek 6 = .ok (.invokestatic 25, 3) := by decide +kernel
theorem dX4_seek_9 : decode cX4_seek 9 = .ok (.aload_n 1, 1) := by decide +kernel
theorem dX4_seek_10 : decode cX4_seek 10 = .ok (.iload_n 3, 1) := by decide +kernel
theorem dX4_seek_11 : decode cX4_seek 11 = .ok (.aload_n 0, 1) := by decide +kernel
theorem dX4_seek_12 : decode cX4_seek 12 = .ok (.getfield 15, 3) := by decide +kernel
theorem dX4_seek_15 : decode cX4_seek 15 = .ok (.invokestatic 25, 3) := by decide +kernel
theorem dX4_seek_18 : decode cX4_seek 18 = .ok (.aload_n 0, 1) := by decide +kernel
theorem dX4_seek_19 : decode cX4_seek 19 = .ok (.iconst (-1), 1) := by decide +kernel
theorem dX4_seek_20 : decode cX4_seek 20 = .ok (.putfield 18, 3) := by decide +kernel
theorem dX4_seek_23 : decode cX4_seek 23 = .ok (.aload_n 0, 1) := by decide +kernel
theorem dX4_seek_24 : decode cX4_seek 24 = .ok (.iconst (-1), 1) := by decide +kernel
theorem dX4_seek_25 : decode cX4_seek 25 = .ok (.putfield 22, 3) := by decide +kernel
theorem dX4_seek_28 : decode cX4_seek 28 = .ok (.iconst 0, 1) := by decide +kernel
theorem dX4_seek_29 : decode cX4_seek 29 = .ok (.istore 4, 2) := by decide +kernel
theorem dX4_seek_31 : decode cX4_seek 31 = .ok (.iload 4, 2) := by decide +kernel
theorem dX4_seek_33 : decode cX4_seek 33 = .ok (.aload_n 1, 1) := by decide +kernel
theorem dX4_seek_34 : decode cX4_seek 34 = .ok (.invokevirtual 29, 3) := by decide +kernel
theorem dX4_seek_37 : decode cX4_seek 37 = .ok (.if_icmp .ge 84, 3) := by decide +kernel
theorem dX4_seek_40 : decode cX4_seek 40 = .ok (.iload 4, 2) := by decide +kernel
theorem dX4_seek_42 : decode cX4_seek 42 = .ok (.bipush 16, 2) := by decide +kernel
theorem dX4_seek_44 : decode cX4_seek 44 = .ok (.if_icmp .ge 77, 3) := by decide +kernel
theorem dX4_seek_47 : decode cX4_seek 47 = .ok (.aload_n 0, 1) := by decide +kernel
theorem dX4_seek_48 : decode cX4_seek 48 = .ok (.getfield 9, 3) := by decide +kernel
theorem dX4_seek_51 : decode cX4_seek 51 = .ok (.iload 4, 2) := by decide +kernel
theorem dX4_seek_53 : decode cX4_seek 53 = .ok (.iaload, 1) := by decide +kernel
theorem dX4_seek_54 : decode cX4_seek 54 = .ok (.aload_n 0, 1) := by decide +kernel
theorem dX4_seek_55 : decode cX4_seek 55 = .ok (.getfield 15, 3) := by decide +kernel
theorem dX4_seek_58 : decode cX4_seek 58 = .ok (.iload 4, 2) := by decide +kernel
theorem dX4_seek_60 : decode cX4_seek 60 = .ok (.iaload, 1) := by decide +kernel
theorem dX4_seek_61 : decode cX4_seek 61 = .ok (.iadd, 1) := by decide +kernel
theorem dX4_seek_62 : decode cX4_seek 62 = .ok (.istore 5, 2) := by decide +kernel
theorem dX4_seek_64 : decode cX4_seek 64 = .ok (.aload_n 0, 1) := by decide +kernel
theorem dX4_seek_65 : decode cX4_seek 65 = .ok (.getfield 9, 3) := by decide +kernel
theorem dX4_seek_68 : decode cX4_seek 68 = .ok (.iload 4, 2) := by decide +kernel
theorem dX4_seek_70 : decode cX4_seek 70 = .ok (.iaload, 1) := by decide +kernel
theorem dX4_seek_71 : decode cX4_seek 71 = .ok (.iconst (-1), 1) := by decide +kernel
theorem dX4_seek_72 : decode cX4_seek 72 = .ok (.if_icmp .eq 43, 3) := by decide +kernel
theorem dX4_seek_75 : decode cX4_seek 75 = .ok (.aload_n 0, 1) := by decide +kernel
theorem dX4_seek_76 : decode cX4_seek 76 = .ok (.getfield 15, 3) := by decide +kernel
theorem dX4_seek_79 : decode cX4_seek 79 = .ok (.iload 4, 2) := by decide +kernel
theorem dX4_seek_81 : decode cX4_seek 81 = .ok (.iaload, 1) := by decide +kernel
theorem dX4_seek_82 : decode cX4_seek 82 = .ok (.iconst (-1), 1) := by decide +kernel
theorem dX4_seek_83 : decode cX4_seek 83 = .ok (.if_icmp .eq 32, 3) := by decide +kernel
theorem dX4_seek_86 : decode cX4_seek 86 = .ok (.aload_n 0, 1) := by decide +kernel
theorem dX4_seek_87 : decode cX4_seek 87 = .ok (.getfield 18, 3) := by decide +kernel
theorem dX4_seek_90 : decode cX4_seek 90 = .ok (.iconst (-1), 1) := by decide +kernel
theorem dX4_seek_91 : decode cX4_seek 91 = .ok (.if_icmp .eq 12, 3) := by decide +kernel
theorem dX4_seek_94 : decode cX4_seek 94 = .ok (.iload 5, 2) := by decide +kernel
theorem dX4_seek_96 : decode cX4_seek 96 = .ok (.aload_n 0, 1) := by decide +kernel
theorem dX4_seek_97 : decode cX4_seek 97 = .ok (.getfield 18, 3) := by decide +kernel
theorem dX4_seek_100 : decode cX4_seek 100 = .ok (.if_icmp .gt 15, 3) := by decide +kernel
theorem dX4_seek_103 : decode cX4_seek 103 = .ok (.aload_n 0, 1) := by decide +kernel
theorem dX4_seek_104 : decode cX4_seek 104 = .ok (.iload 5, 2) := by decide +kernel
theorem dX4_seek_106 : decode cX4_seek 106 = .ok (.putfield 18, 3) := by decide +kernel
theorem dX4_seek_109 : decode cX4_seek 109 = .ok (.aload_n 0, 1) := by decide +kernel
theorem dX4_seek_110 : decode cX4_seek 110 = .ok (.iload 4, 2) := by decide +kernel
theorem dX4_seek_112 : decode cX4_seek 112 = .ok (.putfield 22, 3) := by decide +kernel
theorem dX4_seek_115 : decode cX4_seek 115 = .ok (.iinc 4 1, 3) := by decide +kernel
theorem dX4_seek_118 : decode cX4_seek 118 = .ok (.goto (-87), 3) := by decide +kernel
theorem dX4_seek_121 : decode cX4_seek 121 = .ok (.return_, 1) := by decide +kernel
set_option maxRecDepth 20000 in
theorem ggX4_countSteps_X7_fact : GoodIn wsX4_countSteps wsX7_fact := goodIn_r _ [9, 10, 11, 12, 13, 8, 14, 19] (by decide +kernel) (by decide +kernel)
set_option maxRecDepth 20000 in
theorem gX4_countSteps_X7_fact : GoodIn wsX4_countSteps (wsV RX4 41 RX7 yX7_fact wsX7_fact) := goodIn_app (goodIn_of _ (by decide +kernel)) ggX4_countSteps_X7_fact
set_option maxRecDepth 20000 in
theorem ggX4_countSteps_X4_handOn : GoodIn wsX4_countSteps wsX4_handOn := goodIn_r _ [18] (by decide +kernel) (by decide +kernel)
set_option maxRecDepth 20000 in
theorem gX4_countSteps_X4_handOn : GoodIn wsX4_countSteps (va_wsS RX4 44 yX4_handOn wsX4_handOn) := goodIn_app (goodIn_of _ (by decide +kernel)) ggX4_countSteps_X4_handOn
theorem dX4_countSteps_0 : decode cX4_countSteps 0 = .ok (.iconst 0, 1) := by decide +kernel
theorem dX4_countSteps_1 : decode cX4_countSteps 1 = .ok (.istore_n 3, 1) := by decide +kernel
theorem dX4_countSteps_2 : decode cX4_countSteps 2 = .ok (.iload_n 3, 1) := by decide +kernel
theorem dX4_countSteps_3 : decode cX4_countSteps 3 = .ok (.aload_n 2, 1) := by decide +kernel
theorem dX4_countSteps_4 : decode cX4_countSteps 4 = .ok (.arraylength, 1) := by decide +kernel
theorem dX4_countSteps_5 : decode cX4_countSteps 5 = .ok (.if_icmp .ge 22, 3) := by decide +kernel
theorem dX4_countSteps_8 : decode cX4_countSteps 8 = .ok (.aload_n 2, 1) := by decide +kernel
theorem dX4_countSteps_9 : decode cX4_countSteps 9 = .ok (.iload_n 3, 1) := by decide +kernel
theorem dX4_countSteps_10 : decode cX4_countSteps 10 = .ok (.iload_n 3, 1) := by decide +kernel
theorem dX4_countSteps_11 : decode cX4_countSteps 11 = .ok (.iload_n 1, 1) := by decide +kernel
theorem dX4_countSteps_12 : decode cX4_countSteps 12 = .ok (.if_icmp .ne 7, 3) := by decide +kernel
theorem dX4_countSteps_15 : decode cX4_countSteps 15 = .ok (.iconst 0, 1) := by decide +kernel
theorem dX4_countSteps_16 : decode cX4_countSteps 16 = .ok (.goto 4, 3) := by decide +kernel
theorem dX4_countSteps_19 : decode cX4_countSteps 19 = .ok (.iconst (-1), 1) := by decide +kernel
theorem dX4_countSteps_20 : decode cX4_countSteps 20 = .ok (.iastore, 1) := by decide +kernel
theorem dX4_countSteps_21 : decode cX4_countSteps 21 = .ok (.iinc 3 1, 3) := by decide +kernel
theorem dX4_countSteps_24 : decode cX4_countSteps 24 = .ok (.goto (-22), 3) := by decide +kernel
theorem dX4_countSteps_27 : decode cX4_countSteps 27 = .ok (.iload_n 1, 1) := by decide +kernel
theorem dX4_countSteps_28 : decode cX4_countSteps 28 = .ok (.aload_n 2, 1) := by decide +kernel
theorem dX4_countSteps_29 : decode cX4_countSteps 29 = .ok (.arraylength, 1) := by decide +kernel
theorem dX4_countSteps_30 : decode cX4_countSteps 30 = .ok (.iconst 1, 1) := by decide +kernel
theorem dX4_countSteps_31 : decode cX4_countSteps 31 = .ok (.isub, 1) := by decide +kernel
theorem dX4_countSteps_32 : decode cX4_countSteps 32 = .ok (.invokestatic 35, 3) := by decide +kernel
theorem dX4_countSteps_35 : decode cX4_countSteps 35 = .ok (.istore_n 3, 1) := by decide +kernel
theorem dX4_countSteps_36 : decode cX4_countSteps 36 = .ok (.iload_n 3, 1) := by decide +kernel
theorem dX4_countSteps_37 : decode cX4_countSteps 37 = .ok (.ifCond .lt 46, 3) := by decide +kernel
theorem dX4_countSteps_40 : decode cX4_countSteps 40 = .ok (.aload_n 2, 1) := by decide +kernel
theorem dX4_countSteps_41 : decode cX4_countSteps 41 = .ok (.iload_n 3, 1) := by decide +kernel
theorem dX4_countSteps_42 : decode cX4_countSteps 42 = .ok (.iaload, 1) := by decide +kernel
theorem dX4_countSteps_43 : decode cX4_countSteps 43 = .ok (.iconst (-1), 1) := by decide +kernel
theorem dX4_countSteps_44 : decode cX4_countSteps 44 = .ok (.if_icmp .eq 33, 3) := by decide +kernel
theorem dX4_countSteps_47 : decode cX4_countSteps 47 = .ok (.aload_n 2, 1) := by decide +kernel
theorem dX4_countSteps_48 : decode cX4_countSteps 48 = .ok (.aload_n 0, 1) := by decide +kernel
theorem dX4_countSteps_49 : decode cX4_countSteps 49 = .ok (.iload_n 3, 1) := by decide +kernel
theorem dX4_countSteps_50 : decode cX4_countSteps 50 = .ok (.iconst 2, 1) := by decide +kernel
theorem dX4_countSteps_51 : decode cX4_countSteps 51 = .ok (.invokevirtual 41, 3) := by decide +kernel
theorem dX4_countSteps_54 : decode cX4_countSteps 54 = .ok (.aload_n 2, 1) := by decide +kernel
theorem dX4_countSteps_55 : decode cX4_countSteps 55 = .ok (.iload_n 3, 1) := by decide +kernel
theorem dX4_countSteps_56 : decode cX4_countSteps 56 = .ok (.iaload, 1) := by decide +kernel
theorem dX4_countSteps_57 : decode cX4_countSteps 57 = .ok (.iconst 1, 1) := by decide +kernel
theorem dX4_countSteps_58 : decode cX4_countSteps 58 = .ok (.iadd, 1) := by decide +kernel
theorem dX4_countSteps_59 : decode cX4_countSteps 59 = .ok (.invokestatic 44, 3) := by decide +kernel
theorem dX4_countSteps_62 : decode cX4_countSteps 62 = .ok (.aload_n 2, 1) := by decide +kernel
theorem dX4_countSteps_63 : decode cX4_countSteps 63 = .ok (.aload_n 0, 1) := by decide +kernel
theorem dX4_countSteps_64 : decode cX4_countSteps 64 = .ok (.iload_n 3, 1) := by decide +kernel
theorem dX4_countSteps_65 : decode cX4_countSteps 65 = .ok (.iconst 3, 1) := by decide +kernel
theorem dX4_countSteps_66 : decode cX4_countSteps 66 = .ok (.invokevirtual 41, 3) := by decide +kernel
theorem dX4_countSteps_69 : decode cX4_countSteps 69 = .ok (.aload_n 2, 1) := by decide +kernel
theorem dX4_countSteps_70 : decode cX4_countSteps 70 = .ok (.iload_n 3, 1) := by decide +kernel
theorem dX4_countSteps_71 : decode cX4_countSteps 71 = .ok (.iaload, 1) := by decide +kernel
theorem dX4_countSteps_72 : decode cX4_countSteps 72 = .ok (.iconst 1, 1) := by decide +kernel
theorem dX4_countSteps_73 : decode cX4_countSteps 73 = .ok (.iadd, 1) := by decide +kernel
theorem dX4_countSteps_74 : decode cX4_countSteps 74 = .ok (.invokestatic 44, 3) := by decide +kernel
theorem dX4_countSteps_77 : decode cX4_countSteps 77 = .ok (.iinc 3 (-1), 3) := by decide +kernel
theorem dX4_countSteps_80 : decode cX4_countSteps 80 = .ok (.goto (-44), 3) := by decide +kernel
theorem dX4_countSteps_83 : decode cX4_countSteps 83 = .ok (.return_, 1) := by decide +kernel
theorem dX4_handOn_0 : decode cX4_handOn 0 = .ok (.iload_n 1, 1) := by decide +kernel
theorem dX4_handOn_1 : decode cX4_handOn 1 = .ok (.ifCond .lt 27, 3) := by decide +kernel
theorem dX4_handOn_4 : decode cX4_handOn 4 = .ok (.iload_n 1, 1) := by decide +kernel
theorem dX4_handOn_5 : decode cX4_handOn 5 = .ok (.aload_n 0, 1) := by decide +kernel
theorem dX4_handOn_6 : decode cX4_handOn 6 = .ok (.arraylength, 1) := by decide +kernel
theorem dX4_handOn_7 : decode cX4_handOn 7 = .ok (.if_icmp .ge 21, 3) := by decide +kernel
theorem dX4_handOn_10 : decode cX4_handOn 10 = .ok (.aload_n 0, 1) := by decide +kernel
theorem dX4_handOn_11 : decode cX4_handOn 11 = .ok (.iload_n 1, 1) := by decide +kernel
theorem dX4_handOn_12 : decode cX4_handOn 12 = .ok (.iaload, 1) := by decide +kernel
theorem dX4_handOn_13 : decode cX4_handOn 13 = .ok (.iconst (-1), 1) := by decide +kernel
theorem dX4_handOn_14 : decode cX4_handOn 14 = .ok (.if_icmp .eq 10, 3) := by decide +kernel
theorem dX4_handOn_17 : decode cX4_handOn 17 = .ok (.iload_n 2, 1) := by decide +kernel
theorem dX4_handOn_18 : decode cX4_handOn 18 = .ok (.aload_n 0, 1) := by decide +kernel
theorem dX4_handOn_19 : decode cX4_handOn 19 = .ok (.iload_n 1, 1) := by decide +kernel
theorem dX4_handOn_20 : decode cX4_handOn 20 = .ok (.iaload, 1) := by decide +kernel
theorem dX4_handOn_21 : decode cX4_handOn 21 = .ok (.if_icmp .ge 7, 3) := by decide +kernel
theorem dX4_handOn_24 : decode cX4_handOn 24 = .ok (.aload_n 0, 1) := by decide +kernel
theorem dX4_handOn_25 : decode cX4_handOn 25 = .ok (.iload_n 1, 1) := by decide +kernel
theorem dX4_handOn_26 : decode cX4_handOn 26 = .ok (.iload_n 2, 1) := by decide +kernel
theorem dX4_handOn_27 : decode cX4_handOn 27 = .ok (.iastore, 1) := by decide +kernel
theorem dX4_handOn_28 : decode cX4_handOn 28 = .ok (.return_, 1) := by decide +kernel
set_option maxRecDepth 20000 in
theorem ggX5_init_X6_init : GoodIn wsX5_init wsX6_init := goodIn_r _ [10, 11, 2, 3, 12, 13, 14, 15, 16, 17, 18, 19, 20] (by decide +kernel) (by decide +kernel)
set_option maxRecDepth 20000 in
theorem gX5_init_X6_init : GoodIn wsX5_init (wsX6_init) := ggX5_init_X6_init
theorem dX5_init_0 : decode cX5_init 0 = .ok (.aload_n 0, 1) := by decide +kernel
theorem dX5_init_1 : decode cX5_init 1 = .ok (.invokespecial 3, 3) := by decide +kernel
theorem dX5_init_4 : decode cX5_init 4 = .ok (.aload_n 0, 1) := by decide +kernel
theorem dX5_init_5 : decode cX5_init 5 = .ok (.new 9, 3) := by decide +kernel
theorem dX5_init_8 : decode cX5_init 8 = .ok (.dup, 1) := by decide +kernel
theorem dX5_init_9 : decode cX5_init 9 = .ok (.bipush 20, 2) := by decide +kernel
theorem dX5_init_11 : decode cX5_init 11 = .ok (.invokespecial 11, 3) := by decide +kernel
theorem dX5_init_14 : decode cX5_init 14 = .ok (.putfield 14, 3) := by decide +kernel
theorem dX5_init_17 : decode cX5_init 17 = .ok (.return_, 1) := by decide +kernel
set_option maxRecDepth 20000 in
theorem ggX5_remember_X6_lay : GoodIn wsX5_remember wsX6_lay := goodIn_r _ [12, 13, 14, 15, 16, 17, 18, 19, 23, 24, 25] (by decide +kernel) (by decide +kernel)
set_option maxRecDepth 20000 in
theorem gX5_remember_X6_lay : GoodIn wsX5_remember (wsV RX5 24 RX6 yX6_lay wsX6_lay) := goodIn_app (goodIn_of _ (by decide +kernel)) ggX5_remember_X6_lay
theorem dX5_remember_0 : decode cX5_remember 0 = .ok (.aload_n 0, 1) := by decide +kernel
theorem dX5_remember_1 : decode cX5_remember 1 = .ok (.getfield 14, 3) := by decide +kernel
theorem dX5_remember_4 : decode cX5_remember 4 = .ok (.aload_n 0, 1) := by decide +kernel
theorem dX5_remember_5 : decode cX5_remember 5 = .ok (.getfield 20, 3) := by decide +kernel
theorem dX5_remember_8 : decode cX5_remember 8 = .ok (.aload_n 1, 1) := by decide +kernel
theorem dX5_remember_9 : decode cX5_remember 9 = .ok (.invokevirtual 24, 3) := by decide +kernel
theorem dX5_remember_12 : decode cX5_remember 12 = .ok (.aload_n 0, 1) := by decide +kernel
theorem dX5_remember_13 : decode cX5_remember 13 = .ok (.aload_n 0, 1) := by decide +kernel
theorem dX5_remember_14 : decode cX5_remember 14 = .ok (.getfield 20, 3) := by decide +kernel
theorem dX5_remember_17 : decode cX5_remember 17 = .ok (.iconst 1, 1) := by decide +kernel
theorem dX5_remember_18 : decode cX5_remember 18 = .ok (.iadd, 1) := by decide +kernel
theorem dX5_remember_19 : decode cX5_remember 19 = .ok (.bipush 20, 2) := by decide +kernel
theorem dX5_remember_21 : decode cX5_remember 21 = .ok (.irem, 1) := by decide +kernel
theorem dX5_remember_22 : decode cX5_remember 22 = .ok (.putfield 20, 3) := by decide +kernel
theorem dX5_remember_25 : decode cX5_remember 25 = .ok (.aload_n 0, 1) := by decide +kernel
theorem dX5_remember_26 : decode cX5_remember 26 = .ok (.aload_n 0, 1) := by decide +kernel
theorem dX5_remember_27 : decode cX5_remember 27 = .ok (.getfield 28, 3) := by decide +kernel
theorem dX5_remember_30 : decode cX5_remember 30 = .ok (.iconst 1, 1) := by decide +kernel
theorem dX5_remember_31 : decode cX5_remember 31 = .ok (.iadd, 1) := by decide +kernel
theorem dX5_remember_32 : decode cX5_remember 32 = .ok (.bipush 20, 2) := by decide +kernel
theorem dX5_remember_34 : decode cX5_remember 34 = .ok (.invokestatic 31, 3) := by decide +kernel
theorem dX5_remember_37 : decode cX5_remember 37 = .ok (.putfield 28, 3) := by decide +kernel
theorem dX5_remember_40 : decode cX5_remember 40 = .ok (.return_, 1) := by decide +kernel
set_option maxRecDepth 20000 in
theorem ggX5_stepBack_X6_fetch : GoodIn wsX5_stepBack wsX6_fetch := goodIn_r _ [8, 9, 10, 11, 12, 13, 14, 15, 19, 20, 21] (by decide +kernel) (by decide +kernel)
set_option maxRecDepth 20000 in
theorem gX5_stepBack_X6_fetch : GoodIn wsX5_stepBack (wsV RX5 37 RX6 yX6_fetch wsX6_fetch) := goodIn_app (goodIn_of _ (by decide +kernel)) ggX5_stepBack_X6_fetch
theorem dX5_stepBack_0 : decode cX5_stepBack 0 = .ok (.iload_n 2, 1) := by decide +kernel
theorem dX5_stepBack_1 : decode cX5_stepBack 1 = .ok (.iconst 1, 1) := by decide +kernel
theorem dX5_stepBack_2 : decode cX5_stepBack 2 = .ok (.if_icmp .lt 11, 3) := by decide +kernel
theorem dX5_stepBack_5 : decode cX5_stepBack 5 = .ok (.iload_n 2, 1) := by decide +kernel
theorem dX5_stepBack_6 : decode cX5_stepBack 6 = .ok (.aload_n 0, 1) := by decide +kernel
theorem dX5_stepBack_7 : decode cX5_stepBack 7 = .ok (.getfield 28, 3) := by decide +kernel
theorem dX5_stepBack_10 : decode cX5_stepBack 10 = .ok (.if_icmp .le 4, 3) := by decide +kernel
theorem dX5_stepBack_13 : decode cX5_stepBack 13 = .ok (.return_, 1) := by decide +kernel
theorem dX5_stepBack_14 : decode cX5_stepBack 14 = .ok (.aload_n 0, 1) := by decide +kernel
theorem dX5_stepBack_15 : decode cX5_stepBack 15 = .ok (.aload_n 0, 1) := by decide +kernel
theorem dX5_stepBack_16 : decode cX5_stepBack 16 = .ok (.getfield 20, 3) := by decide +kernel
theorem dX5_stepBack_19 : decode cX5_stepBack 19 = .ok (.bipush 20, 2) := by decide +kernel
theorem dX5_stepBack_21 : decode cX5_stepBack 21 = .ok (.iadd, 1) := by decide +kernel
theorem dX5_stepBack_22 : decode cX5_stepBack 22 = .ok (.iload_n 2, 1) := by decide +kernel
theorem dX5_stepBack_23 : decode cX5_stepBack 23 = .ok (.isub, 1) := by decide +kernel
theorem dX5_stepBack_24 : decode cX5_stepBack 24 = .ok (.bipush 20, 2) := by decide +kernel
theorem dX5_stepBack_26 : decode cX5_stepBack 26 = .ok (.irem, 1) := by decide +kernel
theorem dX5_stepBack_27 : decode cX5_stepBack 27 = .ok (.putfield 20, 3) := by decide +kernel
theorem dX5_stepBack_30 : decode cX5_stepBack 30 = .ok (.aload_n 0, 1) := by decide +kernel
theorem dX5_stepBack_31 : decode cX5_stepBack 31 = .ok (.dup, 1) := by decide +kernel
theorem dX5_stepBack_32 : decode cX5_stepBack 32 = .ok (.getfield 28, 3) := by decide +kernel
theorem dX5_stepBack_35 : decode cX5_stepBack 35 = .ok (.iload_n 2, 1) := by decide +kernel
theorem dX5_stepBack_36 : decode cX5_stepBack 36 = .ok (.isub, 1) := by decide +kernel
theorem dX5_stepBack_37 : decode cX5_stepBack 37 = .ok (.putfield 28, 3) := by decide +kernel
theorem dX5_stepBack_40 : decode cX5_stepBack 40 = .ok (.aload_n 0, 1) := by decide +kernel
theorem dX5_stepBack_41 : decode cX5_stepBack 41 = .ok (.getfield 14, 3) := by decide +kernel
theorem dX5_stepBack_44 : decode cX5_stepBack 44 = .ok (.aload_n 0, 1) := by decide +kernel
theorem dX5_stepBack_45 : decode cX5_stepBack 45 = .ok (.getfield 20, 3) := by decide +kernel
theorem dX5_stepBack_48 : decode cX5_stepBack 48 = .ok (.aload_n 1, 1) := by decide +kernel
theorem dX5_stepBack_49 : decode cX5_stepBack 49 = .ok (.invokevirtual 37, 3) := by decide +kernel
theorem dX5_stepBack_52 : decode cX5_stepBack 52 = .ok (.return_, 1) := by decide +kernel
theorem dX6_init_0 : decode cX6_init 0 = .ok (.aload_n 0, 1) := by decide +kernel
theorem dX6_init_1 : decode cX6_init 1 = .ok (.invokespecial 1, 3) := by decide +kernel
theorem dX6_init_4 : decode cX6_init 4 = .ok (.aload_n 0, 1) := by decide +kernel
theorem dX6_init_5 : decode cX6_init 5 = .ok (.iload_n 1, 1) := by decide +kernel
theorem dX6_init_6 : decode cX6_init 6 = .ok (.iconst 0, 1) := by decide +kernel
theorem dX6_init_7 : decode cX6_init 7 = .ok (.invokestatic 7, 3) := by decide +kernel
theorem dX6_init_10 : decode cX6_init 10 = .ok (.putfield 13, 3) := by decide +kernel
theorem dX6_init_13 : decode cX6_init 13 = .ok (.aload_n 0, 1) := by decide +kernel
theorem dX6_init_14 : decode cX6_init 14 = .ok (.aload_n 0, 1) := by decide +kernel
theorem dX6_init_15 : decode cX6_init 15 = .ok (.getfield 13, 3) := by decide +kernel
theorem dX6_init_18 : decode cX6_init 18 = .ok (.sipush 141, 3) := by decide +kernel
theorem dX6_init_21 : decode cX6_init 21 = .ok (.imul, 1) := by decide +kernel
theorem dX6_init_22 : decode cX6_init 22 = .ok (.newarray .int, 2) := by decide +kernel
theorem dX6_init_24 : decode cX6_init 24 = .ok (.putfield 21, 3) := by decide +kernel
theorem dX6_init_27 : decode cX6_init 27 = .ok (.return_, 1) := by decide +kernel
theorem dX6_lay_0 : decode cX6_lay 0 = .ok (.iload_n 1, 1) := by decide +kernel
theorem dX6_lay_1 : decode cX6_lay 1 = .ok (.ifCond .lt 31, 3) := by decide +kernel
theorem dX6_lay_4 : decode cX6_lay 4 = .ok (.iload_n 1, 1) := by decide +kernel
theorem dX6_lay_5 : decode cX6_lay 5 = .ok (.aload_n 0, 1) := by decide +kernel
theorem dX6_lay_6 : decode cX6_lay 6 = .ok (.getfield 13, 3) := by decide +kernel
theorem dX6_lay_9 : decode cX6_lay 9 = .ok (.if_icmp .ge 23, 3) := by decide +kernel
theorem dX6_lay_12 : decode cX6_lay 12 = .ok (.aload_n 2, 1) := by decide +kernel
theorem dX6_lay_13 : decode cX6_lay 13 = .ok (.getfield 25, 3) := by decide +kernel
theorem dX6_lay_16 : decode cX6_lay 16 = .ok (.iconst 0, 1) := by decide +kernel
theorem dX6_lay_17 : decode cX6_lay 17 = .ok (.aload_n 0, 1) := by decide +kernel
theorem dX6_lay_18 : decode cX6_lay 18 = .ok (.getfield 21, 3) := by decide +kernel
theorem dX6_lay_21 : decode cX6_lay 21 = .ok (.iload_n 1, 1) := by decide +kernel
theorem dX6_lay_22 : decode cX6_lay 22 = .ok (.sipush 141, 3) := by decide +kernel
theorem dX6_lay_25 : decode cX6_lay 25 = .ok (.imul, 1) := by decide +kernel
theorem dX6_lay_26 : decode cX6_lay 26 = .ok (.sipush 141, 3) := by decide +kernel
theorem dX6_lay_29 : decode cX6_lay 29 = .ok (.invokestatic 28, 3) := by decide +kernel
theorem dX6_lay_32 : decode cX6_lay 32 = .ok (.return_, 1) := by decide +kernel
theorem dX6_fetch_0 : decode cX6_fetch 0 = .ok (.iload_n 1, 1) := by decide +kernel
theorem dX6_fetch_1 : decode cX6_fetch 1 = .ok (.ifCond .lt 31, 3) := by decide +kernel
theorem dX6_fetch_4 : decode cX6_fetch 4 = .ok (.iload_n 1, 1) := by decide +kernel
theorem dX6_fetch_5 : decode cX6_fetch 5 = .ok (.aload_n 0, 1) := by decide +kernel
theorem dX6_fetch_6 : decode cX6_fetch 6 = .ok (.getfield 13, 3) := by decide +kernel
theorem dX6_fetch_9 : decode cX6_fetch 9 = .ok (.if_icmp .ge 23, 3) := by decide +kernel
theorem dX6_fetch_12 : decode cX6_fetch 12 = .ok (.aload_n 0, 1) := by decide +kernel
theorem dX6_fetch_13 : decode cX6_fetch 13 = .ok (.getfield 21, 3) := by decide +kernel
theorem dX6_fetch_16 : decode cX6_fetch 16 = .ok (.iload_n 1, 1) := by decide +kernel
theorem dX6_fetch_17 : decode cX6_fetch 17 = .ok (.sipush 141, 3) := by decide +kernel
theorem dX6_fetch_20 : decode cX6_fetch 20 = .ok (.imul, 1) := by decide +kernel
theorem dX6_fetch_21 : decode cX6_fetch 21 = .ok (.aload_n 2, 1) := by decide +kernel
theorem dX6_fetch_22 : decode cX6_fetch 22 = .ok (.getfield 25, 3) := by decide +kernel
theorem dX6_fetch_25 : decode cX6_fetch 25 = .ok (.iconst 0, 1) := by decide +kernel
theorem dX6_fetch_26 : decode cX6_fetch 26 = .ok (.sipush 141, 3) := by decide +kernel
theorem dX6_fetch_29 : decode cX6_fetch 29 = .ok (.invokestatic 28, 3) := by decide +kernel
theorem dX6_fetch_32 : decode cX6_fetch 32 = .ok (.return_, 1) := by decide +kernel
end
section
theorem dX7_init_0 : decode cX7_init 0 = .ok (.aload_n 0, 1) := by decide +kernel
theorem dX7_init_1 : decode cX7_init 1 = .ok (.invokespecial 5, 3) := by decide +kernel
theorem dX7_init_4 : decode cX7_init 4 = .ok (.aload_n 0, 1) := by decide +kernel
theorem dX7_init_5 : decode cX7_init 5 = .ok (.sipush 141, 3) := by decide +kernel
theorem dX7_init_8 : decode cX7_init 8 = .ok (.newarray .int, 2) := by decide +kernel
theorem dX7_init_10 : decode cX7_init 10 = .ok (.putfield 11, 3) := by decide +kernel
theorem dX7_init_13 : decode cX7_init 13 = .ok (.return_, 1) := by decide +kernel
theorem dX7_people_0 : decode cX7_people 0 = .ok (.aload_n 0, 1) := by decide +kernel
theorem dX7_people_1 : decode cX7_people 1 = .ok (.getfield 11, 3) := by decide +kernel
theorem dX7_people_4 : decode cX7_people 4 = .ok (.iconst 0, 1) := by decide +kernel
theorem dX7_people_5 : decode cX7_people 5 = .ok (.iaload, 1) := by decide +kernel
theorem dX7_people_6 : decode cX7_people 6 = .ok (.ireturn, 1) := by decide +kernel
theorem dX7_has_0 : decode cX7_has 0 = .ok (.iload_n 1, 1) := by decide +kernel
theorem dX7_has_1 : decode cX7_has 1 = .ok (.ifCond .lt 17, 3) := by decide +kernel
theorem dX7_has_4 : decode cX7_has 4 = .ok (.iload_n 1, 1) := by decide +kernel
theorem dX7_has_5 : decode cX7_has 5 = .ok (.aload_n 0, 1) := by decide +kernel
theorem dX7_has_6 : decode cX7_has 6 = .ok (.getfield 11, 3) := by decide +kernel
theorem dX7_has_9 : decode cX7_has 9 = .ok (.iconst 0, 1) := by decide +kernel
theorem dX7_has_10 : decode cX7_has 10 = .ok (.iaload, 1) := by decide +kernel
theorem dX7_has_11 : decode cX7_has 11 = .ok (.if_icmp .ge 7, 3) := by decide +kernel
theorem dX7_has_14 : decode cX7_has 14 = .ok (.iconst 1, 1) := by decide +kernel
theorem dX7_has_15 : decode cX7_has 15 = .ok (.goto 4, 3) := by decide +kernel
theorem dX7_has_18 : decode cX7_has 18 = .ok (.iconst 0, 1) := by decide +kernel
theorem dX7_has_19 : decode cX7_has 19 = .ok (.ireturn, 1) := by decide +kernel
set_option maxRecDepth 20000 in
theorem ggX7_hasOrNone_X7_has : GoodIn wsX7_hasOrNone wsX7_has := goodIn_r _ [5, 6, 7] (by decide +kernel) (by decide +kernel)
set_option maxRecDepth 20000 in
theorem gX7_hasOrNone_X7_has : GoodIn wsX7_hasOrNone (wsV RX7 15 RX7 yX7_has wsX7_has) := goodIn_app (goodIn_of _ (by decide +kernel)) ggX7_hasOrNone_X7_has
theorem dX7_hasOrNone_0 : decode cX7_hasOrNone 0 = .ok (.iload_n 1, 1) := by decide +kernel
theorem dX7_hasOrNone_1 : decode cX7_hasOrNone 1 = .ok (.iconst (-1), 1) := by decide +kernel
theorem dX7_hasOrNone_2 : decode cX7_hasOrNone 2 = .ok (.if_icmp .eq 11, 3) := by decide +kernel
theorem dX7_hasOrNone_5 : decode cX7_hasOrNone 5 = .ok (.aload_n 0, 1) := by decide +kernel
theorem dX7_hasOrNone_6 : decode cX7_hasOrNone 6 = .ok (.iload_n 1, 1) := by decide +kernel
theorem dX7_hasOrNone_7 : decode cX7_hasOrNone 7 = .ok (.invokevirtual 15, 3) := by decide +kernel
theorem dX7_hasOrNone_10 : decode cX7_hasOrNone 10 = .ok (.ifCond .eq 7, 3) := by decide +kernel
theorem dX7_hasOrNone_13 : decode cX7_hasOrNone 13 = .ok (.iconst 1, 1) := by decide +kernel
theorem dX7_hasOrNone_14 : decode cX7_hasOrNone 14 = .ok (.goto 4, 3) := by decide +kernel
theorem dX7_hasOrNone_17 : decode cX7_hasOrNone 17 = .ok (.iconst 0, 1) := by decide +kernel
theorem dX7_hasOrNone_18 : decode cX7_hasOrNone 18 = .ok (.ireturn, 1) := by decide +kernel
set_option maxRecDepth 20000 in
theorem ggX7_hasRoom_X7_people : GoodIn wsX7_hasRoom wsX7_people := goodIn_r _ [5, 6, 7] (by decide +kernel) (by decide +kernel)
set_option maxRecDepth 20000 in
theorem gX7_hasRoom_X7_people : GoodIn wsX7_hasRoom (wsV RX7 19 RX7 yX7_people wsX7_people) := goodIn_app (goodIn_of _ (by decide +kernel)) ggX7_hasRoom_X7_people
theorem dX7_hasRoom_0 : decode cX7_hasRoom 0 = .ok (.aload_n 0, 1) := by decide +kernel
theorem dX7_hasRoom_1 : decode cX7_hasRoom 1 = .ok (.invokevirtual 19, 3) := by decide +kernel
theorem dX7_hasRoom_4 : decode cX7_hasRoom 4 = .ok (.bipush 16, 2) := by decide +kernel
theorem dX7_hasRoom_6 : decode cX7_hasRoom 6 = .ok (.if_icmp .ge 7, 3) := by decide +kernel
theorem dX7_hasRoom_9 : decode cX7_hasRoom 9 = .ok (.iconst 1, 1) := by decide +kernel
theorem dX7_hasRoom_10 : decode cX7_hasRoom 10 = .ok (.goto 4, 3) := by decide +kernel
theorem dX7_hasRoom_13 : decode cX7_hasRoom 13 = .ok (.iconst 0, 1) := by decide +kernel
theorem dX7_hasRoom_14 : decode cX7_hasRoom 14 = .ok (.ireturn, 1) := by decide +kernel
set_option maxRecDepth 20000 in
theorem ggX7_fact_X7_has : GoodIn wsX7_fact wsX7_has := goodIn_r _ [6, 1, 7] (by decide +kernel) (by decide +kernel)
set_option maxRecDepth 20000 in
theorem gX7_fact_X7_has : GoodIn wsX7_fact (wsV RX7 15 RX7 yX7_has wsX7_has) := goodIn_app (goodIn_of _ (by decide +kernel)) ggX7_fact_X7_has
theorem dX7_fact_0 : decode cX7_fact 0 = .ok (.aload_n 0, 1) := by decide +kernel
theorem dX7_fact_1 : decode cX7_fact 1 = .ok (.iload_n 1, 1) := by decide +kernel
theorem dX7_fact_2 : decode cX7_fact 2 = .ok (.invokevirtual 15, 3) := by decide +kernel
theorem dX7_fact_5 : decode cX7_fact 5 = .ok (.ifCond .eq 13, 3) := by decide +kernel
theorem dX7_fact_8 : decode cX7_fact 8 = .ok (.iload_n 2, 1) := by decide +kernel
theorem dX7_fact_9 : decode cX7_fact 9 = .ok (.ifCond .lt 9, 3) := by decide +kernel
theorem dX7_fact_12 : decode cX7_fact 12 = .ok (.iload_n 2, 1) := by decide +kernel
theorem dX7_fact_13 : decode cX7_fact 13 = .ok (.bipush 8, 2) := by decide +kernel
theorem dX7_fact_15 : decode cX7_fact 15 = .ok (.if_icmp .lt 5, 3) := by decide +kernel
theorem dX7_fact_18 : decode cX7_fact 18 = .ok (.iconst (-1), 1) := by decide +kernel
theorem dX7_fact_19 : decode cX7_fact 19 = .ok (.ireturn, 1) := by decide +kernel
theorem dX7_fact_20 : decode cX7_fact 20 = .ok (.aload_n 0, 1) := by decide +kernel
theorem dX7_fact_21 : decode cX7_fact 21 = .ok (.getfield 11, 3) := by decide +kernel
theorem dX7_fact_24 : decode cX7_fact 24 = .ok (.bipush 13, 2) := by decide +kernel
theorem dX7_fact_26 : decode cX7_fact 26 = .ok (.iload_n 1, 1) := by decide +kernel
theorem dX7_fact_27 : decode cX7_fact 27 = .ok (.bipush 8, 2) := by decide +kernel
theorem dX7_fact_29 : decode cX7_fact 29 = .ok (.imul, 1) := by decide +kernel
theorem dX7_fact_30 : decode cX7_fact 30 = .ok (.iadd, 1) := by decide +kernel
theorem dX7_fact_31 : decode cX7_fact 31 = .ok (.iload_n 2, 1) := by decide +kernel
theorem dX7_fact_32 : decode cX7_fact 32 = .ok (.iadd, 1) := by decide +kernel
theorem dX7_fact_33 : decode cX7_fact 33 = .ok (.iaload, 1) := by decide +kernel
theorem dX7_fact_34 : decode cX7_fact 34 = .ok (.ireturn, 1) := by decide +kernel
set_option maxRecDepth 20000 in
theorem ggX7_isMan_X7_fact : GoodIn wsX7_isMan wsX7_fact := goodIn_r _ [5, 6, 7, 8, 9, 4, 10, 11] (by decide +kernel) (by decide +kernel)
set_option maxRecDepth 20000 in
theorem gX7_isMan_X7_fact : GoodIn wsX7_isMan (wsV RX7 23 RX7 yX7_fact wsX7_fact) := goodIn_app (goodIn_of _ (by decide +kernel)) ggX7_isMan_X7_fact
theorem dX7_isMan_0 : decode cX7_isMan 0 = .ok (.aload_n 0, 1) := by decide +kernel
theorem dX7_isMan_1 : decode cX7_isMan 1 = .ok (.iload_n 1, 1) := by decide +kernel
theorem dX7_isMan_2 : decode cX7_isMan 2 = .ok (.iconst 0, 1) := by decide +kernel
theorem dX7_isMan_3 : decode cX7_isMan 3 = .ok (.invokevirtual 23, 3) := by decide +kernel
theorem dX7_isMan_6 : decode cX7_isMan 6 = .ok (.ifCond .ne 7, 3) := by decide +kernel
theorem dX7_isMan_9 : decode cX7_isMan 9 = .ok (.iconst 1, 1) := by decide +kernel
theorem dX7_isMan_10 : decode cX7_isMan 10 = .ok (.goto 4, 3) := by decide +kernel
theorem dX7_isMan_13 : decode cX7_isMan 13 = .ok (.iconst 0, 1) := by decide +kernel
theorem dX7_isMan_14 : decode cX7_isMan 14 = .ok (.ireturn, 1) := by decide +kernel
set_option maxRecDepth 20000 in
theorem ggX7_isWoman_X7_fact : GoodIn wsX7_isWoman wsX7_fact := goodIn_r _ [5, 6, 7, 8, 9, 4, 10, 11] (by decide +kernel) (by decide +kernel)
set_option maxRecDepth 20000 in
theorem gX7_isWoman_X7_fact : GoodIn wsX7_isWoman (wsV RX7 23 RX7 yX7_fact wsX7_fact) := goodIn_app (goodIn_of _ (by decide +kernel)) ggX7_isWoman_X7_fact
theorem dX7_isWoman_0 : decode cX7_isWoman 0 = .ok (.aload_n 0, 1) := by decide +kernel
theorem dX7_isWoman_1 : decode cX7_isWoman 1 = .ok (.iload_n 1, 1) := by decide +kernel
theorem dX7_isWoman_2 : decode cX7_isWoman 2 = .ok (.iconst 0, 1) := by decide +kernel
theorem dX7_isWoman_3 : decode cX7_isWoman 3 = .ok (.invokevirtual 23, 3) := by decide +kernel
theorem dX7_isWoman_6 : decode cX7_isWoman 6 = .ok (.iconst 1, 1) := by decide +kernel
theorem dX7_isWoman_7 : decode cX7_isWoman 7 = .ok (.if_icmp .ne 7, 3) := by decide +kernel
theorem dX7_isWoman_10 : decode cX7_isWoman 10 = .ok (.iconst 1, 1) := by decide +kernel
theorem dX7_isWoman_11 : decode cX7_isWoman 11 = .ok (.goto 4, 3) := by decide +kernel
theorem dX7_isWoman_14 : decode cX7_isWoman 14 = .ok (.iconst 0, 1) := by decide +kernel
theorem dX7_isWoman_15 : decode cX7_isWoman 15 = .ok (.ireturn, 1) := by decide +kernel
set_option maxRecDepth 20000 in
theorem ggX7_childrenOf_X7_people : GoodIn wsX7_childrenOf wsX7_people := goodIn_r _ [5, 6, 15] (by decide +kernel) (by decide +kernel)
set_option maxRecDepth 20000 in
theorem gX7_childrenOf_X7_people : GoodIn wsX7_childrenOf (wsV RX7 19 RX7 yX7_people wsX7_people) := goodIn_app (goodIn_of _ (by decide +kernel)) ggX7_childrenOf_X7_people
set_option maxRecDepth 20000 in
theorem ggX7_childrenOf_X7_fact : GoodIn wsX7_childrenOf wsX7_fact := goodIn_r _ [10, 6, 11, 12, 13, 4, 14, 15] (by decide +kernel) (by decide +kernel)
set_option maxRecDepth 20000 in
theorem gX7_childrenOf_X7_fact : GoodIn wsX7_childrenOf (wsV RX7 23 RX7 yX7_fact wsX7_fact) := goodIn_app (goodIn_of _ (by decide +kernel)) ggX7_childrenOf_X7_fact
theorem dX7_childrenOf_0 : decode cX7_childrenOf 0 = .ok (.iconst 0, 1) := by decide +kernel
theorem dX7_childrenOf_1 : decode cX7_childrenOf 1 = .ok (.istore_n 2, 1) := by decide +kernel
theorem dX7_childrenOf_2 : decode cX7_childrenOf 2 = .ok (.iconst 0, 1) := by decide +kernel
theorem dX7_childrenOf_3 : decode cX7_childrenOf 3 = .ok (.istore_n 3, 1) := by decide +kernel
theorem dX7_childrenOf_4 : decode cX7_childrenOf 4 = .ok (.iload_n 3, 1) := by decide +kernel
theorem dX7_childrenOf_5 : decode cX7_childrenOf 5 = .ok (.aload_n 0, 1) := by decide +kernel
theorem dX7_childrenOf_6 : decode cX7_childrenOf 6 = .ok (.invokevirtual 19, 3) := by decide +kernel
theorem dX7_childrenOf_9 : decode cX7_childrenOf 9 = .ok (.if_icmp .ge 35, 3) := by decide +kernel
theorem dX7_childrenOf_12 : decode cX7_childrenOf 12 = .ok (.aload_n 0, 1) := by decide +kernel
theorem dX7_childrenOf_13 : decode cX7_childrenOf 13 = .ok (.iload_n 3, 1) := by decide +kernel
theorem dX7_childrenOf_14 : decode cX7_childrenOf 14 = .ok (.iconst 2, 1) := by decide +kernel
theorem dX7_childrenOf_15 : decode cX7_childrenOf 15 = .ok (.invokevirtual 23, 3) := by decide +kernel
theorem dX7_childrenOf_18 : decode cX7_childrenOf 18 = .ok (.iload_n 1, 1) := by decide +kernel
theorem dX7_childrenOf_19 : decode cX7_childrenOf 19 = .ok (.if_icmp .eq 13, 3) := by decide +kernel
theorem dX7_childrenOf_22 : decode cX7_childrenOf 22 = .ok (.aload_n 0, 1) := by decide +kernel
theorem dX7_childrenOf_23 : decode cX7_childrenOf 23 = .ok (.iload_n 3, 1) := by decide +kernel
theorem dX7_childrenOf_24 : decode cX7_childrenOf 24 = .ok (.iconst 3, 1) := by decide +kernel
theorem dX7_childrenOf_25 : decode cX7_childrenOf 25 = .ok (.invokevirtual 23, 3) := by decide +kernel
theorem dX7_childrenOf_28 : decode cX7_childrenOf 28 = .ok (.iload_n 1, 1) := by decide +kernel
theorem dX7_childrenOf_29 : decode cX7_childrenOf 29 = .ok (.if_icmp .ne 9, 3) := by decide +kernel
theorem dX7_childrenOf_32 : decode cX7_childrenOf 32 = .ok (.iload_n 2, 1) := by decide +kernel
theorem dX7_childrenOf_33 : decode cX7_childrenOf 33 = .ok (.iconst 1, 1) := by decide +kernel
theorem dX7_childrenOf_34 : decode cX7_childrenOf 34 = .ok (.iload_n 3, 1) := by decide +kernel
theorem dX7_childrenOf_35 : decode cX7_childrenOf 35 = .ok (.ishl, 1) := by decide +kernel
theorem dX7_childrenOf_36 : decode cX7_childrenOf 36 = .ok (.ior, 1) := by decide +kernel
theorem dX7_childrenOf_37 : decode cX7_childrenOf 37 = .ok (.istore_n 2, 1) := by decide +kernel
theorem dX7_childrenOf_38 : decode cX7_childrenOf 38 = .ok (.iinc 3 1, 3) := by decide +kernel
theorem dX7_childrenOf_41 : decode cX7_childrenOf 41 = .ok (.goto (-37), 3) := by decide +kernel
theorem dX7_childrenOf_44 : decode cX7_childrenOf 44 = .ok (.iload_n 2, 1) := by decide +kernel
theorem dX7_childrenOf_45 : decode cX7_childrenOf 45 = .ok (.ireturn, 1) := by decide +kernel
set_option maxRecDepth 20000 in
theorem ggX7_addPerson_X7_hasRoom : GoodIn wsX7_addPerson wsX7_hasRoom := goodIn_r _ [6, 7, 8, 9, 5, 10, 1, 19] (by decide +kernel) (by decide +kernel)
set_option maxRecDepth 20000 in
theorem gX7_addPerson_X7_hasRoom : GoodIn wsX7_addPerson (wsV RX7 27 RX7 yX7_hasRoom wsX7_hasRoom) := goodIn_app (goodIn_of _ (by decide +kernel)) ggX7_addPerson_X7_hasRoom
set_option maxRecDepth 20000 in
theorem ggX7_addPerson_X7_people : GoodIn wsX7_addPerson wsX7_people := goodIn_r _ [10, 1, 19] (by decide +kernel) (by decide +kernel)
set_option maxRecDepth 20000 in
theorem gX7_addPerson_X7_people : GoodIn wsX7_addPerson (wsV RX7 19 RX7 yX7_people wsX7_people) := goodIn_app (goodIn_of _ (by decide +kernel)) ggX7_addPerson_X7_people
set_option maxRecDepth 20000 in
theorem ggX7_addPerson_X7_fact : GoodIn wsX7_addPerson wsX7_fact := goodIn_r _ [14, 1, 15, 16, 17, 5, 18, 19] (by decide +kernel) (by decide +kernel)
set_option maxRecDepth 20000 in
theorem gX7_addPerson_X7_fact : GoodIn wsX7_addPerson (wsV RX7 23 RX7 yX7_fact wsX7_fact) := goodIn_app (goodIn_of _ (by decide +kernel)) ggX7_addPerson_X7_fact
theorem dX7_addPerson_0 : decode cX7_addPerson 0 = .ok (.aload_n 0, 1) := by decide +kernel
theorem dX7_addPerson_1 : decode cX7_addPerson 1 = .ok (.invokevirtual 27, 3) := by decide +kernel
theorem dX7_addPerson_4 : decode cX7_addPerson 4 = .ok (.ifCond .ne 4, 3) := by decide +kernel
theorem dX7_addPerson_7 : decode cX7_addPerson 7 = .ok (.return_, 1) := by decide +kernel
theorem dX7_addPerson_8 : decode cX7_addPerson 8 = .ok (.bipush 13, 2) := by decide +kernel
theorem dX7_addPerson_10 : decode cX7_addPerson 10 = .ok (.aload_n 0, 1) := by decide +kernel
theorem dX7_addPerson_11 : decode cX7_addPerson 11 = .ok (.invokevirtual 19, 3) := by decide +kernel
theorem dX7_addPerson_14 : decode cX7_addPerson 14 = .ok (.bipush 8, 2) := by decide +kernel
theorem dX7_addPerson_16 : decode cX7_addPerson 16 = .ok (.imul, 1) := by decide +kernel
theorem dX7_addPerson_17 : decode cX7_addPerson 17 = .ok (.iadd, 1) := by decide +kernel
theorem dX7_addPerson_18 : decode cX7_addPerson 18 = .ok (.istore 5, 2) := by decide +kernel
theorem dX7_addPerson_20 : decode cX7_addPerson 20 = .ok (.aload_n 0, 1) := by decide +kernel
theorem dX7_addPerson_21 : decode cX7_addPerson 21 = .ok (.getfield 11, 3) := by decide +kernel
theorem dX7_addPerson_24 : decode cX7_addPerson 24 = .ok (.iload 5, 2) := by decide +kernel
theorem dX7_addPerson_26 : decode cX7_addPerson 26 = .ok (.iconst 0, 1) := by decide +kernel
theorem dX7_addPerson_27 : decode cX7_addPerson 27 = .ok (.iadd, 1) := by decide +kernel
theorem dX7_addPerson_28 : decode cX7_addPerson 28 = .ok (.iload_n 1, 1) := by decide +kernel
theorem dX7_addPerson_29 : decode cX7_addPerson 29 = .ok (.iastore, 1) := by decide +kernel
theorem dX7_addPerson_30 : decode cX7_addPerson 30 = .ok (.aload_n 0, 1) := by decide +kernel
theorem dX7_addPerson_31 : decode cX7_addPerson 31 = .ok (.getfield 11, 3) := by decide +kernel
theorem dX7_addPerson_34 : decode cX7_addPerson 34 = .ok (.iload 5, 2) := by decide +kernel
theorem dX7_addPerson_36 : decode cX7_addPerson 36 = .ok (.iconst 1, 1) := by decide +kernel
theorem dX7_addPerson_37 : decode cX7_addPerson 37 = .ok (.iadd, 1) := by decide +kernel
theorem dX7_addPerson_38 : decode cX7_addPerson 38 = .ok (.iload_n 3, 1) := by decide +kernel
theorem dX7_addPerson_39 : decode cX7_addPerson 39 = .ok (.iconst (-1), 1) := by decide +kernel
theorem dX7_addPerson_40 : decode cX7_addPerson 40 = .ok (.if_icmp .ne 7, 3) := by decide +kernel
theorem dX7_addPerson_43 : decode cX7_addPerson 43 = .ok (.iload_n 2, 1) := by decide +kernel
theorem dX7_addPerson_44 : decode cX7_addPerson 44 = .ok (.goto 9, 3) := by decide +kernel
theorem dX7_addPerson_47 : decode cX7_addPerson 47 = .ok (.aload_n 0, 1) := by decide +kernel
theorem dX7_addPerson_48 : decode cX7_addPerson 48 = .ok (.iload_n 3, 1) := by decide +kernel
theorem dX7_addPerson_49 : decode cX7_addPerson 49 = .ok (.iconst 1, 1) := by decide +kernel
theorem dX7_addPerson_50 : decode cX7_addPerson 50 = .ok (.invokevirtual 23, 3) := by decide +kernel
theorem dX7_addPerson_53 : decode cX7_addPerson 53 = .ok (.iastore, 1) := by decide +kernel
theorem dX7_addPerson_54 : decode cX7_addPerson 54 = .ok (.aload_n 0, 1) := by decide +kernel
theorem dX7_addPerson_55 : decode cX7_addPerson 55 = .ok (.getfield 11, 3) := by decide +kernel
theorem dX7_addPerson_58 : decode cX7_addPerson 58 = .ok (.iload 5, 2) := by decide +kernel
theorem dX7_addPerson_60 : decode cX7_addPerson 60 = .ok (.iconst 2, 1) := by decide +kernel
theorem dX7_addPerson_61 : decode cX7_addPerson 61 = .ok (.iadd, 1) := by decide +kernel
theorem dX7_addPerson_62 : decode cX7_addPerson 62 = .ok (.iload_n 3, 1) := by decide +kernel
theorem dX7_addPerson_63 : decode cX7_addPerson 63 = .ok (.iastore, 1) := by decide +kernel
theorem dX7_addPerson_64 : decode cX7_addPerson 64 = .ok (.aload_n 0, 1) := by decide +kernel
theorem dX7_addPerson_65 : decode cX7_addPerson 65 = .ok (.getfield 11, 3) := by decide +kernel
theorem dX7_addPerson_68 : decode cX7_addPerson 68 = .ok (.iload 5, 2) := by decide +kernel
theorem dX7_addPerson_70 : decode cX7_addPerson 70 = .ok (.iconst 3, 1) := by decide +kernel
theorem dX7_addPerson_71 : decode cX7_addPerson 71 = .ok (.iadd, 1) := by decide +kernel
theorem dX7_addPerson_72 : decode cX7_addPerson 72 = .ok (.iload 4, 2) := by decide +kernel
theorem dX7_addPerson_74 : decode cX7_addPerson 74 = .ok (.iastore, 1) := by decide +kernel
theorem dX7_addPerson_75 : decode cX7_addPerson 75 = .ok (.aload_n 0, 1) := by decide +kernel
theorem dX7_addPerson_76 : decode cX7_addPerson 76 = .ok (.getfield 11, 3) := by decide +kernel
theorem dX7_addPerson_79 : decode cX7_addPerson 79 = .ok (.iload 5, 2) := by decide +kernel
theorem dX7_addPerson_81 : decode cX7_addPerson 81 = .ok (.iconst 4, 1) := by decide +kernel
theorem dX7_addPerson_82 : decode cX7_addPerson 82 = .ok (.iadd, 1) := by decide +kernel
theorem dX7_addPerson_83 : decode cX7_addPerson 83 = .ok (.iconst 0, 1) := by decide +kernel
theorem dX7_addPerson_84 : decode cX7_addPerson 84 = .ok (.iastore, 1) := by decide +kernel
theorem dX7_addPerson_85 : decode cX7_addPerson 85 = .ok (.aload_n 0, 1) := by decide +kernel
theorem dX7_addPerson_86 : decode cX7_addPerson 86 = .ok (.getfield 11, 3) := by decide +kernel
theorem dX7_addPerson_89 : decode cX7_addPerson 89 = .ok (.iload 5, 2) := by decide +kernel
theorem dX7_addPerson_91 : decode cX7_addPerson 91 = .ok (.iconst 5, 1) := by decide +kernel
theorem dX7_addPerson_92 : decode cX7_addPerson 92 = .ok (.iadd, 1) := by decide +kernel
theorem dX7_addPerson_93 : decode cX7_addPerson 93 = .ok (.sipush 999, 3) := by decide +kernel
theorem dX7_addPerson_96 : decode cX7_addPerson 96 = .ok (.iastore, 1) := by decide +kernel
theorem dX7_addPerson_97 : decode cX7_addPerson 97 = .ok (.aload_n 0, 1) := by decide +kernel
theorem dX7_addPerson_98 : decode cX7_addPerson 98 = .ok (.getfield 11, 3) := by decide +kernel
theorem dX7_addPerson_101 : decode cX7_addPerson 101 = .ok (.iload 5, 2) := by decide +kernel
theorem dX7_addPerson_103 : decode cX7_addPerson 103 = .ok (.bipush 6, 2) := by decide +kernel
theorem dX7_addPerson_105 : decode cX7_addPerson 105 = .ok (.iadd, 1) := by decide +kernel
theorem dX7_addPerson_106 : decode cX7_addPerson 106 = .ok (.iconst 0, 1) := by decide +kernel
theorem dX7_addPerson_107 : decode cX7_addPerson 107 = .ok (.iastore, 1) := by decide +kernel
theorem dX7_addPerson_108 : decode cX7_addPerson 108 = .ok (.aload_n 0, 1) := by decide +kernel
theorem dX7_addPerson_109 : decode cX7_addPerson 109 = .ok (.getfield 11, 3) := by decide +kernel
theorem dX7_addPerson_112 : decode cX7_addPerson 112 = .ok (.iload 5, 2) := by decide +kernel
theorem dX7_addPerson_114 : decode cX7_addPerson 114 = .ok (.bipush 7, 2) := by decide +kernel
theorem dX7_addPerson_116 : decode cX7_addPerson 116 = .ok (.iadd, 1) := by decide +kernel
theorem dX7_addPerson_117 : decode cX7_addPerson 117 = .ok (.sipush 999, 3) := by decide +kernel
theorem dX7_addPerson_120 : decode cX7_addPerson 120 = .ok (.iastore, 1) := by decide +kernel
theorem dX7_addPerson_121 : decode cX7_addPerson 121 = .ok (.aload_n 0, 1) := by decide +kernel
theorem dX7_addPerson_122 : decode cX7_addPerson 122 = .ok (.getfield 11, 3) := by decide +kernel
theorem dX7_addPerson_125 : decode cX7_addPerson 125 = .ok (.iconst 0, 1) := by decide +kernel
theorem dX7_addPerson_126 : decode cX7_addPerson 126 = .ok (.dup2, 1) := by decide +kernel
theorem dX7_addPerson_127 : decode cX7_addPerson 127 = .ok (.iaload, 1) := by decide +kernel
theorem dX7_addPerson_128 : decode cX7_addPerson 128 = .ok (.iconst 1, 1) := by decide +kernel
theorem dX7_addPerson_129 : decode cX7_addPerson 129 = .ok (.iadd, 1) := by decide +kernel
theorem dX7_addPerson_130 : decode cX7_addPerson 130 = .ok (.iastore, 1) := by decide +kernel
theorem dX7_addPerson_131 : decode cX7_addPerson 131 = .ok (.return_, 1) := by decide +kernel
set_option maxRecDepth 20000 in
theorem ggX7_setBounds_X7_has : GoodIn wsX7_setBounds wsX7_has := goodIn_r _ [6, 1, 7] (by decide +kernel) (by decide +kernel)
set_option maxRecDepth 20000 in
theorem gX7_setBounds_X7_has : GoodIn wsX7_setBounds (wsV RX7 15 RX7 yX7_has wsX7_has) := goodIn_app (goodIn_of _ (by decide +kernel)) ggX7_setBounds_X7_has
theorem dX7_setBounds_0 : decode cX7_setBounds 0 = .ok (.aload_n 0, 1) := by decide +kernel
theorem dX7_setBounds_1 : decode cX7_setBounds 1 = .ok (.iload_n 1, 1) := by decide +kernel
theorem dX7_setBounds_2 : decode cX7_setBounds 2 = .ok (.invokevirtual 15, 3) := by decide +kernel
theorem dX7_setBounds_5 : decode cX7_setBounds 5 = .ok (.ifCond .eq 14, 3) := by decide +kernel
theorem dX7_setBounds_8 : decode cX7_setBounds 8 = .ok (.iload_n 2, 1) := by decide +kernel
theorem dX7_setBounds_9 : decode cX7_setBounds 9 = .ok (.iconst 4, 1) := by decide +kernel
theorem dX7_setBounds_10 : decode cX7_setBounds 10 = .ok (.if_icmp .lt 9, 3) := by decide +kernel
theorem dX7_setBounds_13 : decode cX7_setBounds 13 = .ok (.iload_n 2, 1) := by decide +kernel
theorem dX7_setBounds_14 : decode cX7_setBounds 14 = .ok (.bipush 6, 2) := by decide +kernel
theorem dX7_setBounds_16 : decode cX7_setBounds 16 = .ok (.if_icmp .le 4, 3) := by decide +kernel
theorem dX7_setBounds_19 : decode cX7_setBounds 19 = .ok (.return_, 1) := by decide +kernel
theorem dX7_setBounds_20 : decode cX7_setBounds 20 = .ok (.bipush 13, 2) := by decide +kernel
theorem dX7_setBounds_22 : decode cX7_setBounds 22 = .ok (.iload_n 1, 1) := by decide +kernel
theorem dX7_setBounds_23 : decode cX7_setBounds 23 = .ok (.bipush 8, 2) := by decide +kernel
theorem dX7_setBounds_25 : decode cX7_setBounds 25 = .ok (.imul, 1) := by decide +kernel
theorem dX7_setBounds_26 : decode cX7_setBounds 26 = .ok (.iadd, 1) := by decide +kernel
theorem dX7_setBounds_27 : decode cX7_setBounds 27 = .ok (.iload_n 2, 1) := by decide +kernel
theorem dX7_setBounds_28 : decode cX7_setBounds 28 = .ok (.iadd, 1) := by decide +kernel
theorem dX7_setBounds_29 : decode cX7_setBounds 29 = .ok (.istore 5, 2) := by decide +kernel
theorem dX7_setBounds_31 : decode cX7_setBounds 31 = .ok (.aload_n 0, 1) := by decide +kernel
theorem dX7_setBounds_32 : decode cX7_setBounds 32 = .ok (.getfield 11, 3) := by decide +kernel
theorem dX7_setBounds_35 : decode cX7_setBounds 35 = .ok (.iload 5, 2) := by decide +kernel
theorem dX7_setBounds_37 : decode cX7_setBounds 37 = .ok (.iload_n 3, 1) := by decide +kernel
theorem dX7_setBounds_38 : decode cX7_setBounds 38 = .ok (.iastore, 1) := by decide +kernel
theorem dX7_setBounds_39 : decode cX7_setBounds 39 = .ok (.aload_n 0, 1) := by decide +kernel
theorem dX7_setBounds_40 : decode cX7_setBounds 40 = .ok (.getfield 11, 3) := by decide +kernel
theorem dX7_setBounds_43 : decode cX7_setBounds 43 = .ok (.iload 5, 2) := by decide +kernel
theorem dX7_setBounds_45 : decode cX7_setBounds 45 = .ok (.iconst 1, 1) := by decide +kernel
theorem dX7_setBounds_46 : decode cX7_setBounds 46 = .ok (.iadd, 1) := by decide +kernel
theorem dX7_setBounds_47 : decode cX7_setBounds 47 = .ok (.iload 4, 2) := by decide +kernel
theorem dX7_setBounds_49 : decode cX7_setBounds 49 = .ok (.iastore, 1) := by decide +kernel
theorem dX7_setBounds_50 : decode cX7_setBounds 50 = .ok (.return_, 1) := by decide +kernel
theorem dX7_ruleNow_0 : decode cX7_ruleNow 0 = .ok (.aload_n 0, 1) := by decide +kernel
theorem dX7_ruleNow_1 : decode cX7_ruleNow 1 = .ok (.getfield 11, 3) := by decide +kernel
theorem dX7_ruleNow_4 : decode cX7_ruleNow 4 = .ok (.iconst 1, 1) := by decide +kernel
theorem dX7_ruleNow_5 : decode cX7_ruleNow 5 = .ok (.iaload, 1) := by decide +kernel
theorem dX7_ruleNow_6 : decode cX7_ruleNow 6 = .ok (.ireturn, 1) := by decide +kernel
theorem dX7_setRule_0 : decode cX7_setRule 0 = .ok (.aload_n 0, 1) := by decide +kernel
theorem dX7_setRule_1 : decode cX7_setRule 1 = .ok (.getfield 11, 3) := by decide +kernel
theorem dX7_setRule_4 : decode cX7_setRule 4 = .ok (.iconst 1, 1) := by decide +kernel
theorem dX7_setRule_5 : decode cX7_setRule 5 = .ok (.iload_n 1, 1) := by decide +kernel
theorem dX7_setRule_6 : decode cX7_setRule 6 = .ok (.iastore, 1) := by decide +kernel
theorem dX7_setRule_7 : decode cX7_setRule 7 = .ok (.return_, 1) := by decide +kernel
theorem dX7_signs_0 : decode cX7_signs 0 = .ok (.aload_n 0, 1) := by decide +kernel
theorem dX7_signs_1 : decode cX7_signs 1 = .ok (.getfield 11, 3) := by decide +kernel
theorem dX7_signs_4 : decode cX7_signs 4 = .ok (.iconst 2, 1) := by decide +kernel
theorem dX7_signs_5 : decode cX7_signs 5 = .ok (.iaload, 1) := by decide +kernel
theorem dX7_signs_6 : decode cX7_signs 6 = .ok (.ireturn, 1) := by decide +kernel
set_option maxRecDepth 20000 in
theorem ggX7_signNumber_X7_signs : GoodIn wsX7_signNumber wsX7_signs := goodIn_r _ [6, 1, 7] (by decide +kernel) (by decide +kernel)
set_option maxRecDepth 20000 in
theorem gX7_signNumber_X7_signs : GoodIn wsX7_signNumber (wsV RX7 31 RX7 yX7_signs wsX7_signs) := goodIn_app (goodIn_of _ (by decide +kernel)) ggX7_signNumber_X7_signs
theorem dX7_signNumber_0 : decode cX7_signNumber 0 = .ok (.iload_n 1, 1) := by decide +kernel
theorem dX7_signNumber_1 : decode cX7_signNumber 1 = .ok (.ifCond .lt 22, 3) := by decide +kernel
theorem dX7_signNumber_4 : decode cX7_signNumber 4 = .ok (.iload_n 1, 1) := by decide +kernel
theorem dX7_signNumber_5 : decode cX7_signNumber 5 = .ok (.aload_n 0, 1) := by decide +kernel
theorem dX7_signNumber_6 : decode cX7_signNumber 6 = .ok (.invokevirtual 31, 3) := by decide +kernel
theorem dX7_signNumber_9 : decode cX7_signNumber 9 = .ok (.if_icmp .ge 14, 3) := by decide +kernel
theorem dX7_signNumber_12 : decode cX7_signNumber 12 = .ok (.aload_n 0, 1) := by decide +kernel
theorem dX7_signNumber_13 : decode cX7_signNumber 13 = .ok (.getfield 11, 3) := by decide +kernel
theorem dX7_signNumber_16 : decode cX7_signNumber 16 = .ok (.iconst 3, 1) := by decide +kernel
theorem dX7_signNumber_17 : decode cX7_signNumber 17 = .ok (.iload_n 1, 1) := by decide +kernel
theorem dX7_signNumber_18 : decode cX7_signNumber 18 = .ok (.iadd, 1) := by decide +kernel
theorem dX7_signNumber_19 : decode cX7_signNumber 19 = .ok (.iaload, 1) := by decide +kernel
theorem dX7_signNumber_20 : decode cX7_signNumber 20 = .ok (.goto 4, 3) := by decide +kernel
theorem dX7_signNumber_23 : decode cX7_signNumber 23 = .ok (.iconst (-1), 1) := by decide +kernel
theorem dX7_signNumber_24 : decode cX7_signNumber 24 = .ok (.ireturn, 1) := by decide +kernel
set_option maxRecDepth 20000 in
theorem ggX7_addSign_X7_signs : GoodIn wsX7_addSign wsX7_signs := goodIn_r _ [6, 1, 7] (by decide +kernel) (by decide +kernel)
set_option maxRecDepth 20000 in
theorem gX7_addSign_X7_signs : GoodIn wsX7_addSign (wsV RX7 31 RX7 yX7_signs wsX7_signs) := goodIn_app (goodIn_of _ (by decide +kernel)) ggX7_addSign_X7_signs
theorem dX7_addSign_0 : decode cX7_addSign 0 = .ok (.aload_n 0, 1) := by decide +kernel
theorem dX7_addSign_1 : decode cX7_addSign 1 = .ok (.invokevirtual 31, 3) := by decide +kernel
theorem dX7_addSign_4 : decode cX7_addSign 4 = .ok (.bipush 10, 2) := by decide +kernel
theorem dX7_addSign_6 : decode cX7_addSign 6 = .ok (.if_icmp .ge 25, 3) := by decide +kernel
theorem dX7_addSign_9 : decode cX7_addSign 9 = .ok (.aload_n 0, 1) := by decide +kernel
theorem dX7_addSign_10 : decode cX7_addSign 10 = .ok (.getfield 11, 3) := by decide +kernel
theorem dX7_addSign_13 : decode cX7_addSign 13 = .ok (.iconst 3, 1) := by decide +kernel
theorem dX7_addSign_14 : decode cX7_addSign 14 = .ok (.aload_n 0, 1) := by decide +kernel
theorem dX7_addSign_15 : decode cX7_addSign 15 = .ok (.invokevirtual 31, 3) := by decide +kernel
theorem dX7_addSign_18 : decode cX7_addSign 18 = .ok (.iadd, 1) := by decide +kernel
theorem dX7_addSign_19 : decode cX7_addSign 19 = .ok (.iload_n 1, 1) := by decide +kernel
theorem dX7_addSign_20 : decode cX7_addSign 20 = .ok (.iastore, 1) := by decide +kernel
theorem dX7_addSign_21 : decode cX7_addSign 21 = .ok (.aload_n 0, 1) := by decide +kernel
theorem dX7_addSign_22 : decode cX7_addSign 22 = .ok (.getfield 11, 3) := by decide +kernel
theorem dX7_addSign_25 : decode cX7_addSign 25 = .ok (.iconst 2, 1) := by decide +kernel
theorem dX7_addSign_26 : decode cX7_addSign 26 = .ok (.dup2, 1) := by decide +kernel
theorem dX7_addSign_27 : decode cX7_addSign 27 = .ok (.iaload, 1) := by decide +kernel
theorem dX7_addSign_28 : decode cX7_addSign 28 = .ok (.iconst 1, 1) := by decide +kernel
theorem dX7_addSign_29 : decode cX7_addSign 29 = .ok (.iadd, 1) := by decide +kernel
theorem dX7_addSign_30 : decode cX7_addSign 30 = .ok (.iastore, 1) := by decide +kernel
theorem dX7_addSign_31 : decode cX7_addSign 31 = .ok (.return_, 1) := by decide +kernel
theorem dX7_clearSigns_0 : decode cX7_clearSigns 0 = .ok (.aload_n 0, 1) := by decide +kernel
theorem dX7_clearSigns_1 : decode cX7_clearSigns 1 = .ok (.getfield 11, 3) := by decide +kernel
theorem dX7_clearSigns_4 : decode cX7_clearSigns 4 = .ok (.iconst 2, 1) := by decide +kernel
theorem dX7_clearSigns_5 : decode cX7_clearSigns 5 = .ok (.iconst 0, 1) := by decide +kernel
theorem dX7_clearSigns_6 : decode cX7_clearSigns 6 = .ok (.iastore, 1) := by decide +kernel
theorem dX7_clearSigns_7 : decode cX7_clearSigns 7 = .ok (.return_, 1) := by decide +kernel
theorem dX8_init_0 : decode cX8_init 0 = .ok (.aload_n 0, 1) := by decide +kernel
theorem dX8_init_1 : decode cX8_init 1 = .ok (.invokespecial 3, 3) := by decide +kernel
theorem dX8_init_4 : decode cX8_init 4 = .ok (.aload_n 0, 1) := by decide +kernel
theorem dX8_init_5 : decode cX8_init 5 = .ok (.bipush 11, 2) := by decide +kernel
theorem dX8_init_7 : decode cX8_init 7 = .ok (.newarray .int, 2) := by decide +kernel
theorem dX8_init_9 : decode cX8_init 9 = .ok (.putfield 9, 3) := by decide +kernel
theorem dX8_init_12 : decode cX8_init 12 = .ok (.return_, 1) := by decide +kernel
theorem dX8_fits_0 : decode cX8_fits 0 = .ok (.iload_n 0, 1) := by decide +kernel
theorem dX8_fits_1 : decode cX8_fits 1 = .ok (.bipush 10, 2) := by decide +kernel
theorem dX8_fits_3 : decode cX8_fits 3 = .ok (.if_icmp .eq 8, 3) := by decide +kernel
theorem dX8_fits_6 : decode cX8_fits 6 = .ok (.iload_n 0, 1) := by decide +kernel
theorem dX8_fits_7 : decode cX8_fits 7 = .ok (.iload_n 1, 1) := by decide +kernel
theorem dX8_fits_8 : decode cX8_fits 8 = .ok (.if_icmp .ne 7, 3) := by decide +kernel
theorem dX8_fits_11 : decode cX8_fits 11 = .ok (.iconst 1, 1) := by decide +kernel
theorem dX8_fits_12 : decode cX8_fits 12 = .ok (.goto 4, 3) := by decide +kernel
theorem dX8_fits_15 : decode cX8_fits 15 = .ok (.iconst 0, 1) := by decide +kernel
theorem dX8_fits_16 : decode cX8_fits 16 = .ok (.ireturn, 1) := by decide +kernel
set_option maxRecDepth 20000 in
theorem ggX8_meantByAll_X7_people : GoodIn wsX8_meantByAll wsX7_people := goodIn_r _ [5, 6, 35] (by decide +kernel) (by decide +kernel)
set_option maxRecDepth 20000 in
theorem gX8_meantByAll_X7_people : GoodIn wsX8_meantByAll (wsV RX8 15 RX7 yX7_people wsX7_people) := goodIn_app (goodIn_of _ (by decide +kernel)) ggX8_meantByAll_X7_people
set_option maxRecDepth 20000 in
theorem ggX8_meantByAll_X7_signs : GoodIn wsX8_meantByAll wsX7_signs := goodIn_r _ [10, 6, 35] (by decide +kernel) (by decide +kernel)
set_option maxRecDepth 20000 in
theorem gX8_meantByAll_X7_signs : GoodIn wsX8_meantByAll (wsV RX8 21 RX7 yX7_signs wsX7_signs) := goodIn_app (goodIn_of _ (by decide +kernel)) ggX8_meantByAll_X7_signs
set_option maxRecDepth 20000 in
theorem ggX8_meantByAll_X1_sizeOf : GoodIn wsX8_meantByAll wsX1_sizeOf := goodIn_r _ [15, 16, 36, 37, 38, 39, 40] (by decide +kernel) (by decide +kernel)
set_option maxRecDepth 20000 in
theorem gX8_meantByAll_X1_sizeOf : GoodIn wsX8_meantByAll (wsV RX8 24 RX1 yX1_sizeOf wsX1_sizeOf) := goodIn_app (goodIn_of _ (by decide +kernel)) ggX8_meantByAll_X1_sizeOf
set_option maxRecDepth 20000 in
theorem ggX8_meantByAll_X8_fitsEach : GoodIn wsX8_meantByAll wsX8_fitsEach := goodIn_r _ [20, 7, 8, 9, 4, 10, 6, 21, 22, 23, 24, 25, 26, 27, 28, 14, 29, 30, 31, 12, 13, 15, 16, 32, 33, 19, 34, 35, 36, 37, 38, 39, 40] (by decide +kernel) (by decide +kernel)
set_option maxRecDepth 20000 in
theorem gX8_meantByAll_X8_fitsEach : GoodIn wsX8_meantByAll (va_wsS RX8 30 yX8_fitsEach wsX8_fitsEach) := goodIn_app (goodIn_of _ (by decide +kernel)) ggX8_meantByAll_X8_fitsEach
theorem dX8_meantByAll_0 : decode cX8_meantByAll 0 = .ok (.iconst 0, 1) := by decide +kernel
theorem dX8_meantByAll_1 : decode cX8_meantByAll 1 = .ok (.istore_n 3, 1) := by decide +kernel
theorem dX8_meantByAll_2 : decode cX8_meantByAll 2 = .ok (.iconst 0, 1) := by decide +kernel
theorem dX8_meantByAll_3 : decode cX8_meantByAll 3 = .ok (.istore 4, 2) := by decide +kernel
theorem dX8_meantByAll_5 : decode cX8_meantByAll 5 = .ok (.iload 4, 2) := by decide +kernel
theorem dX8_meantByAll_7 : decode cX8_meantByAll 7 = .ok (.aload_n 1, 1) := by decide +kernel
theorem dX8_meantByAll_8 : decode cX8_meantByAll 8 = .ok (.invokevirtual 15, 3) := by decide +kernel
theorem dX8_meantByAll_11 : decode cX8_meantByAll 11 = .ok (.if_icmp .ge 46, 3) := by decide +kernel
theorem dX8_meantByAll_14 : decode cX8_meantByAll 14 = .ok (.aload_n 1, 1) := by decide +kernel
theorem dX8_meantByAll_15 : decode cX8_meantByAll 15 = .ok (.invokevirtual 21, 3) := by decide +kernel
theorem dX8_meantByAll_18 : decode cX8_meantByAll 18 = .ok (.ifCond .le 33, 3) := by decide +kernel
theorem dX8_meantByAll_21 : decode cX8_meantByAll 21 = .ok (.aload_n 2, 1) := by decide +kernel
theorem dX8_meantByAll_22 : decode cX8_meantByAll 22 = .ok (.iload 4, 2) := by decide +kernel
theorem dX8_meantByAll_24 : decode cX8_meantByAll 24 = .ok (.invokevirtual 24, 3) := by decide +kernel
theorem dX8_meantByAll_27 : decode cX8_meantByAll 27 = .ok (.aload_n 1, 1) := by decide +kernel
theorem dX8_meantByAll_28 : decode cX8_meantByAll 28 = .ok (.invokevirtual 21, 3) := by decide +kernel
theorem dX8_meantByAll_31 : decode cX8_meantByAll 31 = .ok (.if_icmp .ne 20, 3) := by decide +kernel
theorem dX8_meantByAll_34 : decode cX8_meantByAll 34 = .ok (.aload_n 1, 1) := by decide +kernel
theorem dX8_meantByAll_35 : decode cX8_meantByAll 35 = .ok (.aload_n 2, 1) := by decide +kernel
theorem dX8_meantByAll_36 : decode cX8_meantByAll 36 = .ok (.iload 4, 2) := by decide +kernel
theorem dX8_meantByAll_38 : decode cX8_meantByAll 38 = .ok (.invokestatic 30, 3) := by decide +kernel
theorem dX8_meantByAll_41 : decode cX8_meantByAll 41 = .ok (.ifCond .eq 10, 3) := by decide +kernel
theorem dX8_meantByAll_44 : decode cX8_meantByAll 44 = .ok (.iload_n 3, 1) := by decide +kernel
theorem dX8_meantByAll_45 : decode cX8_meantByAll 45 = .ok (.iconst 1, 1) := by decide +kernel
theorem dX8_meantByAll_46 : decode cX8_meantByAll 46 = .ok (.iload 4, 2) := by decide +kernel
theorem dX8_meantByAll_48 : decode cX8_meantByAll 48 = .ok (.ishl, 1) := by decide +kernel
theorem dX8_meantByAll_49 : decode cX8_meantByAll 49 = .ok (.ior, 1) := by decide +kernel
theorem dX8_meantByAll_50 : decode cX8_meantByAll 50 = .ok (.istore_n 3, 1) := by decide +kernel
theorem dX8_meantByAll_51 : decode cX8_meantByAll 51 = .ok (.iinc 4 1, 3) := by decide +kernel
theorem dX8_meantByAll_54 : decode cX8_meantByAll 54 = .ok (.goto (-49), 3) := by decide +kernel
theorem dX8_meantByAll_57 : decode cX8_meantByAll 57 = .ok (.iload_n 3, 1) := by decide +kernel
theorem dX8_meantByAll_58 : decode cX8_meantByAll 58 = .ok (.ireturn, 1) := by decide +kernel
set_option maxRecDepth 20000 in
theorem ggX8_fitsEach_X7_signs : GoodIn wsX8_fitsEach wsX7_signs := goodIn_r _ [5, 6, 27] (by decide +kernel) (by decide +kernel)
set_option maxRecDepth 20000 in
theorem gX8_fitsEach_X7_signs : GoodIn wsX8_fitsEach (wsV RX8 21 RX7 yX7_signs wsX7_signs) := goodIn_app (goodIn_of _ (by decide +kernel)) ggX8_fitsEach_X7_signs
set_option maxRecDepth 20000 in
theorem ggX8_fitsEach_X7_signNumber : GoodIn wsX8_fitsEach wsX7_signNumber := goodIn_r _ [10, 6, 11, 2, 3, 4, 5, 27] (by decide +kernel) (by decide +kernel)
set_option maxRecDepth 20000 in
theorem gX8_fitsEach_X7_signNumber : GoodIn wsX8_fitsEach (wsV RX8 34 RX7 yX7_signNumber wsX7_signNumber) := goodIn_app (goodIn_of _ (by decide +kernel)) ggX8_fitsEach_X7_signNumber
set_option maxRecDepth 20000 in
theorem ggX8_fitsEach_X1_armsAt : GoodIn wsX8_fitsEach wsX1_armsAt := goodIn_r _ [16, 17, 18, 19, 20, 15, 21, 22, 28, 29, 30, 31, 32] (by decide +kernel) (by decide +kernel)
set_option maxRecDepth 20000 in
theorem gX8_fitsEach_X1_armsAt : GoodIn wsX8_fitsEach (wsV RX8 37 RX1 yX1_armsAt wsX1_armsAt) := goodIn_app (goodIn_of _ (by decide +kernel)) ggX8_fitsEach_X1_armsAt
set_option maxRecDepth 20000 in
theorem ggX8_fitsEach_X8_fits : GoodIn wsX8_fitsEach wsX8_fits := goodIn_r _ [26] (by decide +kernel) (by decide +kernel)
set_option maxRecDepth 20000 in
theorem gX8_fitsEach_X8_fits : GoodIn wsX8_fitsEach (va_wsS RX8 41 yX8_fits wsX8_fits) := goodIn_app (goodIn_of _ (by decide +kernel)) ggX8_fitsEach_X8_fits
theorem dX8_fitsEach_0 : decode cX8_fitsEach 0 = .ok (.iconst 0, 1) := by decide +kernel
theorem dX8_fitsEach_1 : decode cX8_fitsEach 1 = .ok (.istore_n 3, 1) := by decide +kernel
theorem dX8_fitsEach_2 : decode cX8_fitsEach 2 = .ok (.iload_n 3, 1) := by decide +kernel
theorem dX8_fitsEach_3 : decode cX8_fitsEach 3 = .ok (.aload_n 0, 1) := by decide +kernel
theorem dX8_fitsEach_4 : decode cX8_fitsEach 4 = .ok (.invokevirtual 21, 3) := by decide +kernel
theorem dX8_fitsEach_7 : decode cX8_fitsEach 7 = .ok (.if_icmp .ge 28, 3) := by decide +kernel
theorem dX8_fitsEach_10 : decode cX8_fitsEach 10 = .ok (.aload_n 0, 1) := by decide +kernel
theorem dX8_fitsEach_11 : decode cX8_fitsEach 11 = .ok (.iload_n 3, 1) := by decide +kernel
theorem dX8_fitsEach_12 : decode cX8_fitsEach 12 = .ok (.invokevirtual 34, 3) := by decide +kernel
theorem dX8_fitsEach_15 : decode cX8_fitsEach 15 = .ok (.aload_n 1, 1) := by decide +kernel
theorem dX8_fitsEach_16 : decode cX8_fitsEach 16 = .ok (.iload_n 2, 1) := by decide +kernel
theorem dX8_fitsEach_17 : decode cX8_fitsEach 17 = .ok (.iload_n 3, 1) := by decide +kernel
theorem dX8_fitsEach_18 : decode cX8_fitsEach 18 = .ok (.invokevirtual 37, 3) := by decide +kernel
theorem dX8_fitsEach_21 : decode cX8_fitsEach 21 = .ok (.invokestatic 41, 3) := by decide +kernel
theorem dX8_fitsEach_24 : decode cX8_fitsEach 24 = .ok (.ifCond .ne 5, 3) := by decide +kernel
theorem dX8_fitsEach_27 : decode cX8_fitsEach 27 = .ok (.iconst 0, 1) := by decide +kernel
theorem dX8_fitsEach_28 : decode cX8_fitsEach 28 = .ok (.ireturn, 1) := by decide +kernel
theorem dX8_fitsEach_29 : decode cX8_fitsEach 29 = .ok (.iinc 3 1, 3) := by decide +kernel
theorem dX8_fitsEach_32 : decode cX8_fitsEach 32 = .ok (.goto (-30), 3) := by decide +kernel
theorem dX8_fitsEach_35 : decode cX8_fitsEach 35 = .ok (.iconst 1, 1) := by decide +kernel
theorem dX8_fitsEach_36 : decode cX8_fitsEach 36 = .ok (.ireturn, 1) := by decide +kernel
set_option maxRecDepth 20000 in
theorem ggX8_meantBySome_X7_people : GoodIn wsX8_meantBySome wsX7_people := goodIn_r _ [5, 6, 35] (by decide +kernel) (by decide +kernel)
set_option maxRecDepth 20000 in
theorem gX8_meantBySome_X7_people : GoodIn wsX8_meantBySome (wsV RX8 15 RX7 yX7_people wsX7_people) := goodIn_app (goodIn_of _ (by decide +kernel)) ggX8_meantBySome_X7_people
set_option maxRecDepth 20000 in
theorem ggX8_meantBySome_X7_signs : GoodIn wsX8_meantBySome wsX7_signs := goodIn_r _ [10, 6, 35] (by decide +kernel) (by decide +kernel)
set_option maxRecDepth 20000 in
theorem gX8_meantBySome_X7_signs : GoodIn wsX8_meantBySome (wsV RX8 21 RX7 yX7_signs wsX7_signs) := goodIn_app (goodIn_of _ (by decide +kernel)) ggX8_meantBySome_X7_signs
set_option maxRecDepth 20000 in
theorem ggX8_meantBySome_X7_signNumber : GoodIn wsX8_meantBySome wsX7_signNumber := goodIn_r _ [14, 6, 15, 8, 9, 4, 10, 35] (by decide +kernel) (by decide +kernel)
set_option maxRecDepth 20000 in
theorem gX8_meantBySome_X7_signNumber : GoodIn wsX8_meantBySome (wsV RX8 34 RX7 yX7_signNumber wsX7_signNumber) := goodIn_app (goodIn_of _ (by decide +kernel)) ggX8_meantBySome_X7_signNumber
set_option maxRecDepth 20000 in
theorem ggX8_meantBySome_X1_armsAt : GoodIn wsX8_meantBySome wsX1_armsAt := goodIn_r _ [20, 21, 22, 23, 24, 19, 25, 26, 36, 37, 38, 39, 40] (by decide +kernel) (by decide +kernel)
set_option maxRecDepth 20000 in
theorem gX8_meantBySome_X1_armsAt : GoodIn wsX8_meantBySome (wsV RX8 37 RX1 yX1_armsAt wsX1_armsAt) := goodIn_app (goodIn_of _ (by decide +kernel)) ggX8_meantBySome_X1_armsAt
set_option maxRecDepth 20000 in
theorem ggX8_meantBySome_X8_fits : GoodIn wsX8_meantBySome wsX8_fits := goodIn_r _ [30] (by decide +kernel) (by decide +kernel)
set_option maxRecDepth 20000 in
theorem gX8_meantBySome_X8_fits : GoodIn wsX8_meantBySome (va_wsS RX8 41 yX8_fits wsX8_fits) := goodIn_app (goodIn_of _ (by decide +kernel)) ggX8_meantBySome_X8_fits
set_option maxRecDepth 20000 in
theorem ggX8_meantBySome_X8_holdsRest : GoodIn wsX8_meantBySome wsX8_holdsRest := goodIn_r _ [33, 34, 23, 24, 19, 25, 26, 7, 8, 9, 4, 10, 6, 11, 12, 13, 14, 15, 16, 17, 18, 20, 21, 22, 27, 28, 29, 30, 36, 37, 38, 39, 40, 35] (by decide +kernel) (by decide +kernel)
set_option maxRecDepth 20000 in
theorem gX8_meantBySome_X8_holdsRest : GoodIn wsX8_meantBySome (va_wsS RX8 45 yX8_holdsRest wsX8_holdsRest) := goodIn_app (goodIn_of _ (by decide +kernel)) ggX8_meantBySome_X8_holdsRest
theorem dX8_meantBySome_0 : decode cX8_meantBySome 0 = .ok (.iconst 0, 1) := by decide +kernel
theorem dX8_meantBySome_1 : decode cX8_meantBySome 1 = .ok (.istore_n 3, 1) := by decide +kernel
theorem dX8_meantBySome_2 : decode cX8_meantBySome 2 = .ok (.iconst 0, 1) := by decide +kernel
theorem dX8_meantBySome_3 : decode cX8_meantBySome 3 = .ok (.istore 4, 2) := by decide +kernel
theorem dX8_meantBySome_5 : decode cX8_meantBySome 5 = .ok (.iload 4, 2) := by decide +kernel
theorem dX8_meantBySome_7 : decode cX8_meantBySome 7 = .ok (.aload_n 1, 1) := by decide +kernel
theorem dX8_meantBySome_8 : decode cX8_meantBySome 8 = .ok (.invokevirtual 15, 3) := by decide +kernel
theorem dX8_meantBySome_11 : decode cX8_meantBySome 11 = .ok (.if_icmp .ge 51, 3) := by decide +kernel
theorem dX8_meantBySome_14 : decode cX8_meantBySome 14 = .ok (.aload_n 1, 1) := by decide +kernel
theorem dX8_meantBySome_15 : decode cX8_meantBySome 15 = .ok (.invokevirtual 21, 3) := by decide +kernel
theorem dX8_meantBySome_18 : decode cX8_meantBySome 18 = .ok (.ifCond .le 38, 3) := by decide +kernel
theorem dX8_meantBySome_21 : decode cX8_meantBySome 21 = .ok (.aload_n 1, 1) := by decide +kernel
theorem dX8_meantBySome_22 : decode cX8_meantBySome 22 = .ok (.iconst 0, 1) := by decide +kernel
theorem dX8_meantBySome_23 : decode cX8_meantBySome 23 = .ok (.invokevirtual 34, 3) := by decide +kernel
theorem dX8_meantBySome_26 : decode cX8_meantBySome 26 = .ok (.aload_n 2, 1) := by decide +kernel
theorem dX8_meantBySome_27 : decode cX8_meantBySome 27 = .ok (.iload 4, 2) := by decide +kernel
theorem dX8_meantBySome_29 : decode cX8_meantBySome 29 = .ok (.iconst 0, 1) := by decide +kernel
theorem dX8_meantBySome_30 : decode cX8_meantBySome 30 = .ok (.invokevirtual 37, 3) := by decide +kernel
theorem dX8_meantBySome_33 : decode cX8_meantBySome 33 = .ok (.invokestatic 41, 3) := by decide +kernel
theorem dX8_meantBySome_36 : decode cX8_meantBySome 36 = .ok (.ifCond .eq 20, 3) := by decide +kernel
theorem dX8_meantBySome_39 : decode cX8_meantBySome 39 = .ok (.aload_n 1, 1) := by decide +kernel
theorem dX8_meantBySome_40 : decode cX8_meantBySome 40 = .ok (.aload_n 2, 1) := by decide +kernel
theorem dX8_meantBySome_41 : decode cX8_meantBySome 41 = .ok (.iload 4, 2) := by decide +kernel
theorem dX8_meantBySome_43 : decode cX8_meantBySome 43 = .ok (.invokestatic 45, 3) := by decide +kernel
theorem dX8_meantBySome_46 : decode cX8_meantBySome 46 = .ok (.ifCond .eq 10, 3) := by decide +kernel
theorem dX8_meantBySome_49 : decode cX8_meantBySome 49 = .ok (.iload_n 3, 1) := by decide +kernel
theorem dX8_meantBySome_50 : decode cX8_meantBySome 50 = .ok (.iconst 1, 1) := by decide +kernel
theorem dX8_meantBySome_51 : decode cX8_meantBySome 51 = .ok (.iload 4, 2) := by decide +kernel
theorem dX8_meantBySome_53 : decode cX8_meantBySome 53 = .ok (.ishl, 1) := by decide +kernel
theorem dX8_meantBySome_54 : decode cX8_meantBySome 54 = .ok (.ior, 1) := by decide +kernel
theorem dX8_meantBySome_55 : decode cX8_meantBySome 55 = .ok (.istore_n 3, 1) := by decide +kernel
theorem dX8_meantBySome_56 : decode cX8_meantBySome 56 = .ok (.iinc 4 1, 3) := by decide +kernel
theorem dX8_meantBySome_59 : decode cX8_meantBySome 59 = .ok (.goto (-54), 3) := by decide +kernel
theorem dX8_meantBySome_62 : decode cX8_meantBySome 62 = .ok (.iload_n 3, 1) := by decide +kernel
theorem dX8_meantBySome_63 : decode cX8_meantBySome 63 = .ok (.ireturn, 1) := by decide +kernel
set_option maxRecDepth 20000 in
theorem ggX8_holdsRest_X1_sizeOf : GoodIn wsX8_holdsRest wsX1_sizeOf := goodIn_r _ [5, 6, 28, 29, 30, 31, 32] (by decide +kernel) (by decide +kernel)
set_option maxRecDepth 20000 in
theorem gX8_holdsRest_X1_sizeOf : GoodIn wsX8_holdsRest (wsV RX8 24 RX1 yX1_sizeOf wsX1_sizeOf) := goodIn_app (goodIn_of _ (by decide +kernel)) ggX8_holdsRest_X1_sizeOf
set_option maxRecDepth 20000 in
theorem ggX8_holdsRest_X7_signs : GoodIn wsX8_holdsRest wsX7_signs := goodIn_r _ [11, 12, 33] (by decide +kernel) (by decide +kernel)
set_option maxRecDepth 20000 in
theorem gX8_holdsRest_X7_signs : GoodIn wsX8_holdsRest (wsV RX8 21 RX7 yX7_signs wsX7_signs) := goodIn_app (goodIn_of _ (by decide +kernel)) ggX8_holdsRest_X7_signs
set_option maxRecDepth 20000 in
theorem ggX8_holdsRest_X7_signNumber : GoodIn wsX8_holdsRest wsX7_signNumber := goodIn_r _ [16, 12, 17, 8, 9, 10, 11, 33] (by decide +kernel) (by decide +kernel)
set_option maxRecDepth 20000 in
theorem gX8_holdsRest_X7_signNumber : GoodIn wsX8_holdsRest (wsV RX8 34 RX7 yX7_signNumber wsX7_signNumber) := goodIn_app (goodIn_of _ (by decide +kernel)) ggX8_holdsRest_X7_signNumber
set_option maxRecDepth 20000 in
theorem ggX8_holdsRest_X1_armsAt : GoodIn wsX8_holdsRest wsX1_armsAt := goodIn_r _ [21, 22, 23, 2, 3, 4, 5, 6, 28, 29, 30, 31, 32] (by decide +kernel) (by decide +kernel)
set_option maxRecDepth 20000 in
theorem gX8_holdsRest_X1_armsAt : GoodIn wsX8_holdsRest (wsV RX8 37 RX1 yX1_armsAt wsX1_armsAt) := goodIn_app (goodIn_of _ (by decide +kernel)) ggX8_holdsRest_X1_armsAt
set_option maxRecDepth 20000 in
theorem ggX8_holdsRest_X8_fits : GoodIn wsX8_holdsRest wsX8_fits := goodIn_r _ [27] (by decide +kernel) (by decide +kernel)
set_option maxRecDepth 20000 in
theorem gX8_holdsRest_X8_fits : GoodIn wsX8_holdsRest (va_wsS RX8 41 yX8_fits wsX8_fits) := goodIn_app (goodIn_of _ (by decide +kernel)) ggX8_holdsRest_X8_fits
theorem dX8_holdsRest_0 : decode cX8_holdsRest 0 = .ok (.iconst 1, 1) := by decide +kernel
theorem dX8_holdsRest_1 : decode cX8_holdsRest 1 = .ok (.istore_n 3, 1) := by decide +kernel
theorem dX8_holdsRest_2 : decode cX8_holdsRest 2 = .ok (.iconst 1, 1) := by decide +kernel
theorem dX8_holdsRest_3 : decode cX8_holdsRest 3 = .ok (.istore 4, 2) := by decide +kernel
theorem dX8_holdsRest_5 : decode cX8_holdsRest 5 = .ok (.iload 4, 2) := by decide +kernel
theorem dX8_holdsRest_7 : decode cX8_holdsRest 7 = .ok (.aload_n 1, 1) := by decide +kernel
theorem dX8_holdsRest_8 : decode cX8_holdsRest 8 = .ok (.iload_n 2, 1) := by decide +kernel
theorem dX8_holdsRest_9 : decode cX8_holdsRest 9 = .ok (.invokevirtual 24, 3) := by decide +kernel
theorem dX8_holdsRest_12 : decode cX8_holdsRest 12 = .ok (.if_icmp .ge 38, 3) := by decide +kernel
theorem dX8_holdsRest_15 : decode cX8_holdsRest 15 = .ok (.iload_n 3, 1) := by decide +kernel
theorem dX8_holdsRest_16 : decode cX8_holdsRest 16 = .ok (.aload_n 0, 1) := by decide +kernel
theorem dX8_holdsRest_17 : decode cX8_holdsRest 17 = .ok (.invokevirtual 21, 3) := by decide +kernel
theorem dX8_holdsRest_20 : decode cX8_holdsRest 20 = .ok (.if_icmp .ge 30, 3) := by decide +kernel
theorem dX8_holdsRest_23 : decode cX8_holdsRest 23 = .ok (.aload_n 0, 1) := by decide +kernel
theorem dX8_holdsRest_24 : decode cX8_holdsRest 24 = .ok (.iload_n 3, 1) := by decide +kernel
theorem dX8_holdsRest_25 : decode cX8_holdsRest 25 = .ok (.invokevirtual 34, 3) := by decide +kernel
theorem dX8_holdsRest_28 : decode cX8_holdsRest 28 = .ok (.aload_n 1, 1) := by decide +kernel
theorem dX8_holdsRest_29 : decode cX8_holdsRest 29 = .ok (.iload_n 2, 1) := by decide +kernel
theorem dX8_holdsRest_30 : decode cX8_holdsRest 30 = .ok (.iload 4, 2) := by decide +kernel
theorem dX8_holdsRest_32 : decode cX8_holdsRest 32 = .ok (.invokevirtual 37, 3) := by decide +kernel
theorem dX8_holdsRest_35 : decode cX8_holdsRest 35 = .ok (.invokestatic 41, 3) := by decide +kernel
theorem dX8_holdsRest_38 : decode cX8_holdsRest 38 = .ok (.ifCond .eq 6, 3) := by decide +kernel
theorem dX8_holdsRest_41 : decode cX8_holdsRest 41 = .ok (.iinc 3 1, 3) := by decide +kernel
theorem dX8_holdsRest_44 : decode cX8_holdsRest 44 = .ok (.iinc 4 1, 3) := by decide +kernel
theorem dX8_holdsRest_47 : decode cX8_holdsRest 47 = .ok (.goto (-42), 3) := by decide +kernel
theorem dX8_holdsRest_50 : decode cX8_holdsRest 50 = .ok (.iload_n 3, 1) := by decide +kernel
theorem dX8_holdsRest_51 : decode cX8_holdsRest 51 = .ok (.aload_n 0, 1) := by decide +kernel
theorem dX8_holdsRest_52 : decode cX8_holdsRest 52 = .ok (.invokevirtual 21, 3) := by decide +kernel
theorem dX8_holdsRest_55 : decode cX8_holdsRest 55 = .ok (.if_icmp .lt 7, 3) := by decide +kernel
theorem dX8_holdsRest_58 : decode cX8_holdsRest 58 = .ok (.iconst 1, 1) := by decide +kernel
theorem dX8_holdsRest_59 : decode cX8_holdsRest 59 = .ok (.goto 4, 3) := by decide +kernel
theorem dX8_holdsRest_62 : decode cX8_holdsRest 62 = .ok (.iconst 0, 1) := by decide +kernel
theorem dX8_holdsRest_63 : decode cX8_holdsRest 63 = .ok (.ireturn, 1) := by decide +kernel
set_option maxRecDepth 20000 in
theorem ggX8_like_X1_sizeOf : GoodIn wsX8_like wsX1_sizeOf := goodIn_r _ [10, 11, 38, 39, 40, 41, 42] (by decide +kernel) (by decide +kernel)
set_option maxRecDepth 20000 in
theorem gX8_like_X1_sizeOf : GoodIn wsX8_like (wsV RX8 24 RX1 yX1_sizeOf wsX1_sizeOf) := goodIn_app (goodIn_of _ (by decide +kernel)) ggX8_like_X1_sizeOf
set_option maxRecDepth 20000 in
theorem ggX8_like_X7_signs : GoodIn wsX8_like wsX7_signs := goodIn_r _ [16, 17, 43] (by decide +kernel) (by decide +kernel)
set_option maxRecDepth 20000 in
theorem gX8_like_X7_signs : GoodIn wsX8_like (wsV RX8 21 RX7 yX7_signs wsX7_signs) := goodIn_app (goodIn_of _ (by decide +kernel)) ggX8_like_X7_signs
set_option maxRecDepth 20000 in
theorem ggX8_like_X7_signNumber : GoodIn wsX8_like wsX7_signNumber := goodIn_r _ [21, 17, 22, 13, 14, 15, 16, 43] (by decide +kernel) (by decide +kernel)
set_option maxRecDepth 20000 in
theorem gX8_like_X7_signNumber : GoodIn wsX8_like (wsV RX8 34 RX7 yX7_signNumber wsX7_signNumber) := goodIn_app (goodIn_of _ (by decide +kernel)) ggX8_like_X7_signNumber
set_option maxRecDepth 20000 in
theorem ggX8_like_X8_countOneMore : GoodIn wsX8_like wsX8_countOneMore := goodIn_r _ [27, 5, 28, 29, 3, 30, 31, 32, 33, 9, 34, 35, 36, 7, 8, 10, 11, 37, 38, 39, 40, 41, 42] (by decide +kernel) (by decide +kernel)
set_option maxRecDepth 20000 in
theorem gX8_like_X8_countOneMore : GoodIn wsX8_like (wsV RX8 53 RX8 yX8_countOneMore wsX8_countOneMore) := goodIn_app (goodIn_of _ (by decide +kernel)) ggX8_like_X8_countOneMore
theorem dX8_like_0 : decode cX8_like 0 = .ok (.aload_n 2, 1) := by decide +kernel
theorem dX8_like_1 : decode cX8_like 1 = .ok (.iload_n 3, 1) := by decide +kernel
theorem dX8_like_2 : decode cX8_like 2 = .ok (.invokevirtual 24, 3) := by decide +kernel
theorem dX8_like_5 : decode cX8_like 5 = .ok (.bipush 10, 2) := by decide +kernel
theorem dX8_like_7 : decode cX8_like 7 = .ok (.invokestatic 48, 3) := by decide +kernel
theorem dX8_like_10 : decode cX8_like 10 = .ok (.istore 4, 2) := by decide +kernel
theorem dX8_like_12 : decode cX8_like 12 = .ok (.iconst 0, 1) := by decide +kernel
theorem dX8_like_13 : decode cX8_like 13 = .ok (.istore 5, 2) := by decide +kernel
theorem dX8_like_15 : decode cX8_like 15 = .ok (.iload 5, 2) := by decide +kernel
theorem dX8_like_17 : decode cX8_like 17 = .ok (.iload 4, 2) := by decide +kernel
theorem dX8_like_19 : decode cX8_like 19 = .ok (.if_icmp .gt 17, 3) := by decide +kernel
theorem dX8_like_22 : decode cX8_like 22 = .ok (.aload_n 0, 1) := by decide +kernel
theorem dX8_like_23 : decode cX8_like 23 = .ok (.getfield 9, 3) := by decide +kernel
theorem dX8_like_26 : decode cX8_like 26 = .ok (.iload 5, 2) := by decide +kernel
theorem dX8_like_28 : decode cX8_like 28 = .ok (.iconst 0, 1) := by decide +kernel
theorem dX8_like_29 : decode cX8_like 29 = .ok (.iastore, 1) := by decide +kernel
theorem dX8_like_30 : decode cX8_like 30 = .ok (.iinc 5 1, 3) := by decide +kernel
theorem dX8_like_33 : decode cX8_like 33 = .ok (.goto (-18), 3) := by decide +kernel
theorem dX8_like_36 : decode cX8_like 36 = .ok (.iconst 0, 1) := by decide +kernel
theorem dX8_like_37 : decode cX8_like 37 = .ok (.istore 5, 2) := by decide +kernel
theorem dX8_like_39 : decode cX8_like 39 = .ok (.iload 5, 2) := by decide +kernel
theorem dX8_like_41 : decode cX8_like 41 = .ok (.aload_n 1, 1) := by decide +kernel
theorem dX8_like_42 : decode cX8_like 42 = .ok (.invokevirtual 21, 3) := by decide +kernel
theorem dX8_like_45 : decode cX8_like 45 = .ok (.if_icmp .ge 34, 3) := by decide +kernel
theorem dX8_like_48 : decode cX8_like 48 = .ok (.aload_n 1, 1) := by decide +kernel
theorem dX8_like_49 : decode cX8_like 49 = .ok (.iload 5, 2) := by decide +kernel
theorem dX8_like_51 : decode cX8_like 51 = .ok (.invokevirtual 34, 3) := by decide +kernel
theorem dX8_like_54 : decode cX8_like 54 = .ok (.bipush 10, 2) := by decide +kernel
theorem dX8_like_56 : decode cX8_like 56 = .ok (.if_icmp .eq 17, 3) := by decide +kernel
theorem dX8_like_59 : decode cX8_like 59 = .ok (.aload_n 0, 1) := by decide +kernel
theorem dX8_like_60 : decode cX8_like 60 = .ok (.aload_n 1, 1) := by decide +kernel
theorem dX8_like_61 : decode cX8_like 61 = .ok (.iload 5, 2) := by decide +kernel
theorem dX8_like_63 : decode cX8_like 63 = .ok (.invokevirtual 34, 3) := by decide +kernel
theorem dX8_like_66 : decode cX8_like 66 = .ok (.aload_n 2, 1) := by decide +kernel
theorem dX8_like_67 : decode cX8_like 67 = .ok (.iload_n 3, 1) := by decide +kernel
theorem dX8_like_68 : decode cX8_like 68 = .ok (.iload 4, 2) := by decide +kernel
theorem dX8_like_70 : decode cX8_like 70 = .ok (.invokevirtual 53, 3) := by decide +kernel
theorem dX8_like_73 : decode cX8_like 73 = .ok (.iinc 5 1, 3) := by decide +kernel
theorem dX8_like_76 : decode cX8_like 76 = .ok (.goto (-37), 3) := by decide +kernel
theorem dX8_like_79 : decode cX8_like 79 = .ok (.aload_n 0, 1) := by decide +kernel
theorem dX8_like_80 : decode cX8_like 80 = .ok (.getfield 9, 3) := by decide +kernel
theorem dX8_like_83 : decode cX8_like 83 = .ok (.iload 4, 2) := by decide +kernel
theorem dX8_like_85 : decode cX8_like 85 = .ok (.iaload, 1) := by decide +kernel
theorem dX8_like_86 : decode cX8_like 86 = .ok (.ireturn, 1) := by decide +kernel
set_option maxRecDepth 20000 in
theorem ggX8_countOneMore_X1_armsAt : GoodIn wsX8_countOneMore wsX1_armsAt := goodIn_r _ [10, 11, 12, 13, 14, 9, 15, 16, 18, 19, 20, 21, 22] (by decide +kernel) (by decide +kernel)
set_option maxRecDepth 20000 in
theorem gX8_countOneMore_X1_armsAt : GoodIn wsX8_countOneMore (wsV RX8 37 RX1 yX1_armsAt wsX1_armsAt) := goodIn_app (goodIn_of _ (by decide +kernel)) ggX8_countOneMore_X1_armsAt
theorem dX8_countOneMore_0 : decode cX8_countOneMore 0 = .ok (.iconst 0, 1) := by decide +kernel
theorem dX8_countOneMore_1 : decode cX8_countOneMore 1 = .ok (.istore 5, 2) := by decide +kernel
theorem dX8_countOneMore_3 : decode cX8_countOneMore 3 = .ok (.iconst 1, 1) := by decide +kernel
theorem dX8_countOneMore_4 : decode cX8_countOneMore 4 = .ok (.istore 6, 2) := by decide +kernel
theorem dX8_countOneMore_6 : decode cX8_countOneMore 6 = .ok (.iload 6, 2) := by decide +kernel
theorem dX8_countOneMore_8 : decode cX8_countOneMore 8 = .ok (.iload 4, 2) := by decide +kernel
theorem dX8_countOneMore_10 : decode cX8_countOneMore 10 = .ok (.if_icmp .gt 85, 3) := by decide +kernel
theorem dX8_countOneMore_13 : decode cX8_countOneMore 13 = .ok (.iload 6, 2) := by decide +kernel
theorem dX8_countOneMore_15 : decode cX8_countOneMore 15 = .ok (.aload_n 0, 1) := by decide +kernel
theorem dX8_countOneMore_16 : decode cX8_countOneMore 16 = .ok (.getfield 9, 3) := by decide +kernel
theorem dX8_countOneMore_19 : decode cX8_countOneMore 19 = .ok (.arraylength, 1) := by decide +kernel
theorem dX8_countOneMore_20 : decode cX8_countOneMore 20 = .ok (.if_icmp .ge 75, 3) := by decide +kernel
theorem dX8_countOneMore_23 : decode cX8_countOneMore 23 = .ok (.aload_n 0, 1) := by decide +kernel
theorem dX8_countOneMore_24 : decode cX8_countOneMore 24 = .ok (.getfield 9, 3) := by decide +kernel
theorem dX8_countOneMore_27 : decode cX8_countOneMore 27 = .ok (.iload 6, 2) := by decide +kernel
theorem dX8_countOneMore_29 : decode cX8_countOneMore 29 = .ok (.iaload, 1) := by decide +kernel
theorem dX8_countOneMore_30 : decode cX8_countOneMore 30 = .ok (.istore 7, 2) := by decide +kernel
theorem dX8_countOneMore_32 : decode cX8_countOneMore 32 = .ok (.aload_n 2, 1) := by decide +kernel
theorem dX8_countOneMore_33 : decode cX8_countOneMore 33 = .ok (.iload_n 3, 1) := by decide +kernel
theorem dX8_countOneMore_34 : decode cX8_countOneMore 34 = .ok (.iload 6, 2) := by decide +kernel
theorem dX8_countOneMore_36 : decode cX8_countOneMore 36 = .ok (.iconst 1, 1) := by decide +kernel
theorem dX8_countOneMore_37 : decode cX8_countOneMore 37 = .ok (.isub, 1) := by decide +kernel
theorem dX8_countOneMore_38 : decode cX8_countOneMore 38 = .ok (.invokevirtual 37, 3) := by decide +kernel
theorem dX8_countOneMore_41 : decode cX8_countOneMore 41 = .ok (.iload_n 1, 1) := by decide +kernel
theorem dX8_countOneMore_42 : decode cX8_countOneMore 42 = .ok (.if_icmp .ne 17, 3) := by decide +kernel
theorem dX8_countOneMore_45 : decode cX8_countOneMore 45 = .ok (.aload_n 0, 1) := by decide +kernel
theorem dX8_countOneMore_46 : decode cX8_countOneMore 46 = .ok (.getfield 9, 3) := by decide +kernel
theorem dX8_countOneMore_49 : decode cX8_countOneMore 49 = .ok (.iload 6, 2) := by decide +kernel
theorem dX8_countOneMore_51 : decode cX8_countOneMore 51 = .ok (.iload 5, 2) := by decide +kernel
theorem dX8_countOneMore_53 : decode cX8_countOneMore 53 = .ok (.iconst 1, 1) := by decide +kernel
theorem dX8_countOneMore_54 : decode cX8_countOneMore 54 = .ok (.iadd, 1) := by decide +kernel
theorem dX8_countOneMore_55 : decode cX8_countOneMore 55 = .ok (.iastore, 1) := by decide +kernel
theorem dX8_countOneMore_56 : decode cX8_countOneMore 56 = .ok (.goto 29, 3) := by decide +kernel
theorem dX8_countOneMore_59 : decode cX8_countOneMore 59 = .ok (.aload_n 0, 1) := by decide +kernel
theorem dX8_countOneMore_60 : decode cX8_countOneMore 60 = .ok (.getfield 9, 3) := by decide +kernel
theorem dX8_countOneMore_63 : decode cX8_countOneMore 63 = .ok (.iload 6, 2) := by decide +kernel
theorem dX8_countOneMore_65 : decode cX8_countOneMore 65 = .ok (.aload_n 0, 1) := by decide +kernel
theorem dX8_countOneMore_66 : decode cX8_countOneMore 66 = .ok (.getfield 9, 3) := by decide +kernel
theorem dX8_countOneMore_69 : decode cX8_countOneMore 69 = .ok (.iload 6, 2) := by decide +kernel
theorem dX8_countOneMore_71 : decode cX8_countOneMore 71 = .ok (.iaload, 1) := by decide +kernel
theorem dX8_countOneMore_72 : decode cX8_countOneMore 72 = .ok (.aload_n 0, 1) := by decide +kernel
theorem dX8_countOneMore_73 : decode cX8_countOneMore 73 = .ok (.getfield 9, 3) := by decide +kernel
theorem dX8_countOneMore_76 : decode cX8_countOneMore 76 = .ok (.iload 6, 2) := by decide +kernel
theorem dX8_countOneMore_78 : decode cX8_countOneMore 78 = .ok (.iconst 1, 1) := by decide +kernel
theorem dX8_countOneMore_79 : decode cX8_countOneMore 79 = .ok (.isub, 1) := by decide +kernel
theorem dX8_countOneMore_80 : decode cX8_countOneMore 80 = .ok (.iaload, 1) := by decide +kernel
theorem dX8_countOneMore_81 : decode cX8_countOneMore 81 = .ok (.invokestatic 57, 3) := by decide +kernel
theorem dX8_countOneMore_84 : decode cX8_countOneMore 84 = .ok (.iastore, 1) := by decide +kernel
theorem dX8_countOneMore_85 : decode cX8_countOneMore 85 = .ok (.iload 7, 2) := by decide +kernel
theorem dX8_countOneMore_87 : decode cX8_countOneMore 87 = .ok (.istore 5, 2) := by decide +kernel
theorem dX8_countOneMore_89 : decode cX8_countOneMore 89 = .ok (.iinc 6 1, 3) := by decide +kernel
theorem dX8_countOneMore_92 : decode cX8_countOneMore 92 = .ok (.goto (-86), 3) := by decide +kernel
theorem dX8_countOneMore_95 : decode cX8_countOneMore 95 = .ok (.return_, 1) := by decide +kernel
set_option maxRecDepth 20000 in
theorem ggX8_likely_X7_people : GoodIn wsX8_likely wsX7_people := goodIn_r _ [5, 6, 45] (by decide +kernel) (by decide +kernel)
set_option maxRecDepth 20000 in
theorem gX8_likely_X7_people : GoodIn wsX8_likely (wsV RX8 15 RX7 yX7_people wsX7_people) := goodIn_app (goodIn_of _ (by decide +kernel)) ggX8_likely_X7_people
set_option maxRecDepth 20000 in
theorem ggX8_likely_X8_like : GoodIn wsX8_likely wsX8_like := goodIn_r _ [11, 12, 13, 14, 15, 16, 17, 18, 19, 20, 21, 22, 23, 24, 25, 4, 26, 6, 27, 28, 29, 30, 31, 32, 33, 34, 10, 35, 36, 37, 38, 39, 40, 41, 42, 43, 44, 46, 47, 48, 49, 50, 51, 45] (by decide +kernel) (by decide +kernel)
set_option maxRecDepth 20000 in
theorem gX8_likely_X8_like : GoodIn wsX8_likely (wsV RX8 60 RX8 yX8_like wsX8_like) := goodIn_app (goodIn_of _ (by decide +kernel)) ggX8_likely_X8_like
set_option maxRecDepth 20000 in
theorem ggX8_likely_X1_sizeOf : GoodIn wsX8_likely wsX1_sizeOf := goodIn_r _ [21, 22, 47, 48, 49, 50, 51] (by decide +kernel) (by decide +kernel)
set_option maxRecDepth 20000 in
theorem gX8_likely_X1_sizeOf : GoodIn wsX8_likely (wsV RX8 24 RX1 yX1_sizeOf wsX1_sizeOf) := goodIn_app (goodIn_of _ (by decide +kernel)) ggX8_likely_X1_sizeOf
theorem dX8_likely_0 : decode cX8_likely 0 = .ok (.iconst (-1), 1) := by decide +kernel
theorem dX8_likely_1 : decode cX8_likely 1 = .ok (.istore_n 3, 1) := by decide +kernel
theorem dX8_likely_2 : decode cX8_likely 2 = .ok (.iconst 0, 1) := by decide +kernel
theorem dX8_likely_3 : decode cX8_likely 3 = .ok (.istore 4, 2) := by decide +kernel
theorem dX8_likely_5 : decode cX8_likely 5 = .ok (.iconst 0, 1) := by decide +kernel
theorem dX8_likely_6 : decode cX8_likely 6 = .ok (.istore 5, 2) := by decide +kernel
theorem dX8_likely_8 : decode cX8_likely 8 = .ok (.iload 5, 2) := by decide +kernel
theorem dX8_likely_10 : decode cX8_likely 10 = .ok (.aload_n 1, 1) := by decide +kernel
theorem dX8_likely_11 : decode cX8_likely 11 = .ok (.invokevirtual 15, 3) := by decide +kernel
theorem dX8_likely_14 : decode cX8_likely 14 = .ok (.if_icmp .ge 71, 3) := by decide +kernel
theorem dX8_likely_17 : decode cX8_likely 17 = .ok (.aload_n 0, 1) := by decide +kernel
theorem dX8_likely_18 : decode cX8_likely 18 = .ok (.aload_n 1, 1) := by decide +kernel
theorem dX8_likely_19 : decode cX8_likely 19 = .ok (.aload_n 2, 1) := by decide +kernel
theorem dX8_likely_20 : decode cX8_likely 20 = .ok (.iload 5, 2) := by decide +kernel
theorem dX8_likely_22 : decode cX8_likely 22 = .ok (.invokevirtual 60, 3) := by decide +kernel
theorem dX8_likely_25 : decode cX8_likely 25 = .ok (.istore 6, 2) := by decide +kernel
theorem dX8_likely_27 : decode cX8_likely 27 = .ok (.iload_n 3, 1) := by decide +kernel
theorem dX8_likely_28 : decode cX8_likely 28 = .ok (.iconst (-1), 1) := by decide +kernel
theorem dX8_likely_29 : decode cX8_likely 29 = .ok (.if_icmp .eq 28, 3) := by decide +kernel
theorem dX8_likely_32 : decode cX8_likely 32 = .ok (.iload 6, 2) := by decide +kernel
theorem dX8_likely_34 : decode cX8_likely 34 = .ok (.iload 4, 2) := by decide +kernel
theorem dX8_likely_36 : decode cX8_likely 36 = .ok (.if_icmp .ne 21, 3) := by decide +kernel
theorem dX8_likely_39 : decode cX8_likely 39 = .ok (.aload_n 2, 1) := by decide +kernel
theorem dX8_likely_40 : decode cX8_likely 40 = .ok (.iload 5, 2) := by decide +kernel
theorem dX8_likely_42 : decode cX8_likely 42 = .ok (.invokevirtual 24, 3) := by decide +kernel
theorem dX8_likely_45 : decode cX8_likely 45 = .ok (.aload_n 2, 1) := by decide +kernel
theorem dX8_likely_46 : decode cX8_likely 46 = .ok (.iload_n 3, 1) := by decide +kernel
theorem dX8_likely_47 : decode cX8_likely 47 = .ok (.invokevirtual 24, 3) := by decide +kernel
theorem dX8_likely_50 : decode cX8_likely 50 = .ok (.if_icmp .ge 7, 3) := by decide +kernel
theorem dX8_likely_53 : decode cX8_likely 53 = .ok (.iconst 1, 1) := by decide +kernel
theorem dX8_likely_54 : decode cX8_likely 54 = .ok (.goto 4, 3) := by decide +kernel
theorem dX8_likely_57 : decode cX8_likely 57 = .ok (.iconst 0, 1) := by decide +kernel
theorem dX8_likely_58 : decode cX8_likely 58 = .ok (.istore 7, 2) := by decide +kernel
theorem dX8_likely_60 : decode cX8_likely 60 = .ok (.iload 6, 2) := by decide +kernel
theorem dX8_likely_62 : decode cX8_likely 62 = .ok (.iload 4, 2) := by decide +kernel
theorem dX8_likely_64 : decode cX8_likely 64 = .ok (.if_icmp .gt 8, 3) := by decide +kernel
theorem dX8_likely_67 : decode cX8_likely 67 = .ok (.iload 7, 2) := by decide +kernel
theorem dX8_likely_69 : decode cX8_likely 69 = .ok (.ifCond .eq 10, 3) := by decide +kernel
theorem dX8_likely_72 : decode cX8_likely 72 = .ok (.iload 5, 2) := by decide +kernel
theorem dX8_likely_74 : decode cX8_likely 74 = .ok (.istore_n 3, 1) := by decide +kernel
theorem dX8_likely_75 : decode cX8_likely 75 = .ok (.iload 6, 2) := by decide +kernel
theorem dX8_likely_77 : decode cX8_likely 77 = .ok (.istore 4, 2) := by decide +kernel
theorem dX8_likely_79 : decode cX8_likely 79 = .ok (.iinc 5 1, 3) := by decide +kernel
theorem dX8_likely_82 : decode cX8_likely 82 = .ok (.goto (-74), 3) := by decide +kernel
theorem dX8_likely_85 : decode cX8_likely 85 = .ok (.iload_n 3, 1) := by decide +kernel
theorem dX8_likely_86 : decode cX8_likely 86 = .ok (.ireturn, 1) := by decide +kernel
theorem dX9_init_0 : decode cX9_init 0 = .ok (.aload_n 0, 1) := by decide +kernel
theorem dX9_init_1 : decode cX9_init 1 = .ok (.invokespecial 3, 3) := by decide +kernel
theorem dX9_init_4 : decode cX9_init 4 = .ok (.aload_n 0, 1) := by decide +kernel
theorem dX9_init_5 : decode cX9_init 5 = .ok (.bipush 32, 2) := by decide +kernel
theorem dX9_init_7 : decode cX9_init 7 = .ok (.newarray .int, 2) := by decide +kernel
theorem dX9_init_9 : decode cX9_init 9 = .ok (.putfield 9, 3) := by decide +kernel
theorem dX9_init_12 : decode cX9_init 12 = .ok (.aload_n 0, 1) := by decide +kernel
theorem dX9_init_13 : decode cX9_init 13 = .ok (.bipush 32, 2) := by decide +kernel
theorem dX9_init_15 : decode cX9_init 15 = .ok (.newarray .int, 2) := by decide +kernel
theorem dX9_init_17 : decode cX9_init 17 = .ok (.putfield 15, 3) := by decide +kernel
theorem dX9_init_20 : decode cX9_init 20 = .ok (.aload_n 0, 1) := by decide +kernel
theorem dX9_init_21 : decode cX9_init 21 = .ok (.bipush 112, 2) := by decide +kernel
theorem dX9_init_23 : decode cX9_init 23 = .ok (.newarray .int, 2) := by decide +kernel
theorem dX9_init_25 : decode cX9_init 25 = .ok (.putfield 18, 3) := by decide +kernel
theorem dX9_init_28 : decode cX9_init 28 = .ok (.aload_n 0, 1) := by decide +kernel
theorem dX9_init_29 : decode cX9_init 29 = .ok (.bipush 112, 2) := by decide +kernel
theorem dX9_init_31 : decode cX9_init 31 = .ok (.newarray .int, 2) := by decide +kernel
theorem dX9_init_33 : decode cX9_init 33 = .ok (.putfield 21, 3) := by decide +kernel
theorem dX9_init_36 : decode cX9_init 36 = .ok (.aload_n 0, 1) := by decide +kernel
theorem dX9_init_37 : decode cX9_init 37 = .ok (.bipush 112, 2) := by decide +kernel
theorem dX9_init_39 : decode cX9_init 39 = .ok (.newarray .int, 2) := by decide +kernel
theorem dX9_init_41 : decode cX9_init 41 = .ok (.putfield 24, 3) := by decide +kernel
theorem dX9_init_44 : decode cX9_init 44 = .ok (.return_, 1) := by decide +kernel
theorem dX9_birth_0 : decode cX9_birth 0 = .ok (.iconst 2, 1) := by decide +kernel
theorem dX9_birth_1 : decode cX9_birth 1 = .ok (.iload_n 0, 1) := by decide +kernel
theorem dX9_birth_2 : decode cX9_birth 2 = .ok (.imul, 1) := by decide +kernel
theorem dX9_birth_3 : decode cX9_birth 3 = .ok (.ireturn, 1) := by decide +kernel
theorem dX9_death_0 : decode cX9_death 0 = .ok (.iconst 2, 1) := by decide +kernel
theorem dX9_death_1 : decode cX9_death 1 = .ok (.iload_n 0, 1) := by decide +kernel
theorem dX9_death_2 : decode cX9_death 2 = .ok (.imul, 1) := by decide +kernel
theorem dX9_death_3 : decode cX9_death 3 = .ok (.iconst 1, 1) := by decide +kernel
theorem dX9_death_4 : decode cX9_death 4 = .ok (.iadd, 1) := by decide +kernel
theorem dX9_death_5 : decode cX9_death 5 = .ok (.ireturn, 1) := by decide +kernel
set_option maxRecDepth 20000 in
theorem ggX9_reckon_X7_people : GoodIn wsX9_reckon wsX7_people := goodIn_r _ [7, 8, 62] (by decide +kernel) (by decide +kernel)
set_option maxRecDepth 20000 in
theorem gX9_reckon_X7_people : GoodIn wsX9_reckon (wsV RX9 27 RX7 yX7_people wsX7_people) := goodIn_app (goodIn_of _ (by decide +kernel)) ggX9_reckon_X7_people
set_option maxRecDepth 20000 in
theorem ggX9_reckon_X9_layBounds : GoodIn wsX9_reckon wsX9_layBounds := goodIn_r _ [13, 14, 15, 3, 4, 5, 6, 7, 8, 16, 17, 12, 18, 19, 20, 21, 22, 23, 24, 25, 26, 27, 28, 29, 54, 55, 56, 57, 58, 59, 60, 61, 62] (by decide +kernel) (by decide +kernel)
set_option maxRecDepth 20000 in
theorem gX9_reckon_X9_layBounds : GoodIn wsX9_reckon (wsV RX9 37 RX9 yX9_layBounds wsX9_layBounds) := goodIn_app (goodIn_of _ (by decide +kernel)) ggX9_reckon_X9_layBounds
set_option maxRecDepth 20000 in
theorem ggX9_reckon_X9_layGaps : GoodIn wsX9_reckon wsX9_layGaps := goodIn_r _ [33, 34, 3, 4, 5, 6, 7, 8, 19, 20, 21, 22, 23, 24, 25, 26, 16, 17, 12, 18, 27, 28, 29, 35, 36, 37, 38, 39, 40, 41, 54, 55, 56, 57, 58, 59, 60, 61, 62] (by decide +kernel) (by decide +kernel)
set_option maxRecDepth 20000 in
theorem gX9_reckon_X9_layGaps : GoodIn wsX9_reckon (wsV RX9 41 RX9 yX9_layGaps wsX9_layGaps) := goodIn_app (goodIn_of _ (by decide +kernel)) ggX9_reckon_X9_layGaps
set_option maxRecDepth 20000 in
theorem ggX9_reckon_X9_raiseLeast : GoodIn wsX9_reckon wsX9_raiseLeast := goodIn_r _ [45, 1, 34, 14, 40, 39, 41, 54, 55, 56, 57, 58, 59, 60, 61] (by decide +kernel) (by decide +kernel)
set_option maxRecDepth 20000 in
theorem gX9_reckon_X9_raiseLeast : GoodIn wsX9_reckon (wsV RX9 44 RX9 yX9_raiseLeast wsX9_raiseLeast) := goodIn_app (goodIn_of _ (by decide +kernel)) ggX9_reckon_X9_raiseLeast
set_option maxRecDepth 20000 in
theorem ggX9_reckon_X9_isCrossed : GoodIn wsX9_reckon wsX9_isCrossed := goodIn_r _ [49, 1, 14, 15, 54, 55, 56, 57, 58, 59, 60, 61] (by decide +kernel) (by decide +kernel)
set_option maxRecDepth 20000 in
theorem gX9_reckon_X9_isCrossed : GoodIn wsX9_reckon (wsV RX9 48 RX9 yX9_isCrossed wsX9_isCrossed) := goodIn_app (goodIn_of _ (by decide +kernel)) ggX9_reckon_X9_isCrossed
set_option maxRecDepth 20000 in
theorem ggX9_reckon_X9_lowerGreatest : GoodIn wsX9_reckon wsX9_lowerGreatest := goodIn_r _ [53, 1, 34, 15, 41, 39, 40, 54, 55, 56, 57, 58, 59, 60, 61] (by decide +kernel) (by decide +kernel)
set_option maxRecDepth 20000 in
theorem gX9_reckon_X9_lowerGreatest : GoodIn wsX9_reckon (wsV RX9 55 RX9 yX9_lowerGreatest wsX9_lowerGreatest) := goodIn_app (goodIn_of _ (by decide +kernel)) ggX9_reckon_X9_lowerGreatest
theorem dX9_reckon_0 : decode cX9_reckon 0 = .ok (.aload_n 0, 1) := by decide +kernel
theorem dX9_reckon_1 : decode cX9_reckon 1 = .ok (.iconst 2, 1) := by decide +kernel
theorem dX9_reckon_2 : decode cX9_reckon 2 = .ok (.aload_n 1, 1) := by decide +kernel
theorem dX9_reckon_3 : decode cX9_reckon 3 = .ok (.invokevirtual 27, 3) := by decide +kernel
theorem dX9_reckon_6 : decode cX9_reckon 6 = .ok (.imul, 1) := by decide +kernel
theorem dX9_reckon_7 : decode cX9_reckon 7 = .ok (.putfield 33, 3) := by decide +kernel
theorem dX9_reckon_10 : decode cX9_reckon 10 = .ok (.aload_n 0, 1) := by decide +kernel
theorem dX9_reckon_11 : decode cX9_reckon 11 = .ok (.aload_n 1, 1) := by decide +kernel
theorem dX9_reckon_12 : decode cX9_reckon 12 = .ok (.invokevirtual 37, 3) := by decide +kernel
theorem dX9_reckon_15 : decode cX9_reckon 15 = .ok (.aload_n 0, 1) := by decide +kernel
theorem dX9_reckon_16 : decode cX9_reckon 16 = .ok (.aload_n 1, 1) := by decide +kernel
theorem dX9_reckon_17 : decode cX9_reckon 17 = .ok (.invokevirtual 41, 3) := by decide +kernel
theorem dX9_reckon_20 : decode cX9_reckon 20 = .ok (.aload_n 0, 1) := by decide +kernel
theorem dX9_reckon_21 : decode cX9_reckon 21 = .ok (.aload_n 0, 1) := by decide +kernel
theorem dX9_reckon_22 : decode cX9_reckon 22 = .ok (.invokevirtual 44, 3) := by decide +kernel
theorem dX9_reckon_25 : decode cX9_reckon 25 = .ok (.ifCond .eq 10, 3) := by decide +kernel
theorem dX9_reckon_28 : decode cX9_reckon 28 = .ok (.aload_n 0, 1) := by decide +kernel
theorem dX9_reckon_29 : decode cX9_reckon 29 = .ok (.invokevirtual 48, 3) := by decide +kernel
theorem dX9_reckon_32 : decode cX9_reckon 32 = .ok (.ifCond .eq 7, 3) := by decide +kernel
theorem dX9_reckon_35 : decode cX9_reckon 35 = .ok (.iconst 1, 1) := by decide +kernel
theorem dX9_reckon_36 : decode cX9_reckon 36 = .ok (.goto 4, 3) := by decide +kernel
theorem dX9_reckon_39 : decode cX9_reckon 39 = .ok (.iconst 0, 1) := by decide +kernel
theorem dX9_reckon_40 : decode cX9_reckon 40 = .ok (.putfield 51, 3) := by decide +kernel
theorem dX9_reckon_43 : decode cX9_reckon 43 = .ok (.aload_n 0, 1) := by decide +kernel
theorem dX9_reckon_44 : decode cX9_reckon 44 = .ok (.getfield 51, 3) := by decide +kernel
theorem dX9_reckon_47 : decode cX9_reckon 47 = .ok (.ifCond .ne 7, 3) := by decide +kernel
theorem dX9_reckon_50 : decode cX9_reckon 50 = .ok (.aload_n 0, 1) := by decide +kernel
theorem dX9_reckon_51 : decode cX9_reckon 51 = .ok (.invokevirtual 55, 3) := by decide +kernel
theorem dX9_reckon_54 : decode cX9_reckon 54 = .ok (.return_, 1) := by decide +kernel
set_option maxRecDepth 20000 in
theorem ggX9_layBounds_X7_people : GoodIn wsX9_layBounds wsX7_people := goodIn_r _ [7, 8, 32] (by decide +kernel) (by decide +kernel)
set_option maxRecDepth 20000 in
theorem gX9_layBounds_X7_people : GoodIn wsX9_layBounds (wsV RX9 27 RX7 yX7_people wsX7_people) := goodIn_app (goodIn_of _ (by decide +kernel)) ggX9_layBounds_X7_people
set_option maxRecDepth 20000 in
theorem ggX9_layBounds_X9_birth : GoodIn wsX9_layBounds wsX9_birth := goodIn_r _ [12] (by decide +kernel) (by decide +kernel)
set_option maxRecDepth 20000 in
theorem gX9_layBounds_X9_birth : GoodIn wsX9_layBounds (va_wsS RX9 58 yX9_birth wsX9_birth) := goodIn_app (goodIn_of _ (by decide +kernel)) ggX9_layBounds_X9_birth
set_option maxRecDepth 20000 in
theorem ggX9_layBounds_X7_fact : GoodIn wsX9_layBounds wsX7_fact := goodIn_r _ [16, 8, 17, 18, 19, 6, 20, 32] (by decide +kernel) (by decide +kernel)
set_option maxRecDepth 20000 in
theorem gX9_layBounds_X7_fact : GoodIn wsX9_layBounds (wsV RX9 62 RX7 yX7_fact wsX7_fact) := goodIn_app (goodIn_of _ (by decide +kernel)) ggX9_layBounds_X7_fact
set_option maxRecDepth 20000 in
theorem ggX9_layBounds_X9_death : GoodIn wsX9_layBounds wsX9_death := goodIn_r _ [23] (by decide +kernel) (by decide +kernel)
set_option maxRecDepth 20000 in
theorem gX9_layBounds_X9_death : GoodIn wsX9_layBounds (va_wsS RX9 66 yX9_death wsX9_death) := goodIn_app (goodIn_of _ (by decide +kernel)) ggX9_layBounds_X9_death
theorem dX9_layBounds_0 : decode cX9_layBounds 0 = .ok (.iconst 0, 1) := by decide +kernel
theorem dX9_layBounds_1 : decode cX9_layBounds 1 = .ok (.istore_n 2, 1) := by decide +kernel
theorem dX9_layBounds_2 : decode cX9_layBounds 2 = .ok (.iload_n 2, 1) := by decide +kernel
theorem dX9_layBounds_3 : decode cX9_layBounds 3 = .ok (.aload_n 1, 1) := by decide +kernel
theorem dX9_layBounds_4 : decode cX9_layBounds 4 = .ok (.invokevirtual 27, 3) := by decide +kernel
theorem dX9_layBounds_7 : decode cX9_layBounds 7 = .ok (.if_icmp .ge 71, 3) := by decide +kernel
theorem dX9_layBounds_10 : decode cX9_layBounds 10 = .ok (.aload_n 0, 1) := by decide +kernel
theorem dX9_layBounds_11 : decode cX9_layBounds 11 = .ok (.getfield 9, 3) := by decide +kernel
theorem dX9_layBounds_14 : decode cX9_layBounds 14 = .ok (.iload_n 2, 1) := by decide +kernel
theorem dX9_layBounds_15 : decode cX9_layBounds 15 = .ok (.invokestatic 58, 3) := by decide +kernel
theorem dX9_layBounds_18 : decode cX9_layBounds 18 = .ok (.aload_n 1, 1) := by decide +kernel
theorem dX9_layBounds_19 : decode cX9_layBounds 19 = .ok (.iload_n 2, 1) := by decide +kernel
theorem dX9_layBounds_20 : decode cX9_layBounds 20 = .ok (.iconst 4, 1) := by decide +kernel
theorem dX9_layBounds_21 : decode cX9_layBounds 21 = .ok (.invokevirtual 62, 3) := by decide +kernel
theorem dX9_layBounds_24 : decode cX9_layBounds 24 = .ok (.iastore, 1) := by decide +kernel
theorem dX9_layBounds_25 : decode cX9_layBounds 25 = .ok (.aload_n 0, 1) := by decide +kernel
theorem dX9_layBounds_26 : decode cX9_layBounds 26 = .ok (.getfield 15, 3) := by decide +kernel
theorem dX9_layBounds_29 : decode cX9_layBounds 29 = .ok (.iload_n 2, 1) := by decide +kernel
theorem dX9_layBounds_30 : decode cX9_layBounds 30 = .ok (.invokestatic 58, 3) := by decide +kernel
theorem dX9_layBounds_33 : decode cX9_layBounds 33 = .ok (.aload_n 1, 1) := by decide +kernel
theorem dX9_layBounds_34 : decode cX9_layBounds 34 = .ok (.iload_n 2, 1) := by decide +kernel
theorem dX9_layBounds_35 : decode cX9_layBounds 35 = .ok (.iconst 5, 1) := by decide +kernel
theorem dX9_layBounds_36 : decode cX9_layBounds 36 = .ok (.invokevirtual 62, 3) := by decide +kernel
theorem dX9_layBounds_39 : decode cX9_layBounds 39 = .ok (.iastore, 1) := by decide +kernel
theorem dX9_layBounds_40 : decode cX9_layBounds 40 = .ok (.aload_n 0, 1) := by decide +kernel
theorem dX9_layBounds_41 : decode cX9_layBounds 41 = .ok (.getfield 9, 3) := by decide +kernel
theorem dX9_layBounds_44 : decode cX9_layBounds 44 = .ok (.iload_n 2, 1) := by decide +kernel
theorem dX9_layBounds_45 : decode cX9_layBounds 45 = .ok (.invokestatic 66, 3) := by decide +kernel
theorem dX9_layBounds_48 : decode cX9_layBounds 48 = .ok (.aload_n 1, 1) := by decide +kernel
theorem dX9_layBounds_49 : decode cX9_layBounds 49 = .ok (.iload_n 2, 1) := by decide +kernel
theorem dX9_layBounds_50 : decode cX9_layBounds 50 = .ok (.bipush 6, 2) := by decide +kernel
theorem dX9_layBounds_52 : decode cX9_layBounds 52 = .ok (.invokevirtual 62, 3) := by decide +kernel
theorem dX9_layBounds_55 : decode cX9_layBounds 55 = .ok (.iastore, 1) := by decide +kernel
theorem dX9_layBounds_56 : decode cX9_layBounds 56 = .ok (.aload_n 0, 1) := by decide +kernel
theorem dX9_layBounds_57 : decode cX9_layBounds 57 = .ok (.getfield 15, 3) := by decide +kernel
theorem dX9_layBounds_60 : decode cX9_layBounds 60 = .ok (.iload_n 2, 1) := by decide +kernel
theorem dX9_layBounds_61 : decode cX9_layBounds 61 = .ok (.invokestatic 66, 3) := by decide +kernel
theorem dX9_layBounds_64 : decode cX9_layBounds 64 = .ok (.aload_n 1, 1) := by decide +kernel
theorem dX9_layBounds_65 : decode cX9_layBounds 65 = .ok (.iload_n 2, 1) := by decide +kernel
theorem dX9_layBounds_66 : decode cX9_layBounds 66 = .ok (.bipush 7, 2) := by decide +kernel
theorem dX9_layBounds_68 : decode cX9_layBounds 68 = .ok (.invokevirtual 62, 3) := by decide +kernel
theorem dX9_layBounds_71 : decode cX9_layBounds 71 = .ok (.iastore, 1) := by decide +kernel
theorem dX9_layBounds_72 : decode cX9_layBounds 72 = .ok (.iinc 2 1, 3) := by decide +kernel
theorem dX9_layBounds_75 : decode cX9_layBounds 75 = .ok (.goto (-73), 3) := by decide +kernel
theorem dX9_layBounds_78 : decode cX9_layBounds 78 = .ok (.return_, 1) := by decide +kernel
set_option maxRecDepth 20000 in
theorem ggX9_layGaps_X7_people : GoodIn wsX9_layGaps wsX7_people := goodIn_r _ [6, 7, 38] (by decide +kernel) (by decide +kernel)
set_option maxRecDepth 20000 in
theorem gX9_layGaps_X7_people : GoodIn wsX9_layGaps (wsV RX9 27 RX7 yX7_people wsX7_people) := goodIn_app (goodIn_of _ (by decide +kernel)) ggX9_layGaps_X7_people
set_option maxRecDepth 20000 in
theorem ggX9_layGaps_X7_fact : GoodIn wsX9_layGaps wsX7_fact := goodIn_r _ [11, 7, 12, 13, 14, 5, 15, 38] (by decide +kernel) (by decide +kernel)
set_option maxRecDepth 20000 in
theorem gX9_layGaps_X7_fact : GoodIn wsX9_layGaps (wsV RX9 62 RX7 yX7_fact wsX7_fact) := goodIn_app (goodIn_of _ (by decide +kernel)) ggX9_layGaps_X7_fact
set_option maxRecDepth 20000 in
theorem ggX9_layGaps_X9_birth : GoodIn wsX9_layGaps wsX9_birth := goodIn_r _ [19] (by decide +kernel) (by decide +kernel)
set_option maxRecDepth 20000 in
theorem gX9_layGaps_X9_birth : GoodIn wsX9_layGaps (va_wsS RX9 58 yX9_birth wsX9_birth) := goodIn_app (goodIn_of _ (by decide +kernel)) ggX9_layGaps_X9_birth
set_option maxRecDepth 20000 in
theorem ggX9_layGaps_X9_death : GoodIn wsX9_layGaps wsX9_death := goodIn_r _ [22] (by decide +kernel) (by decide +kernel)
set_option maxRecDepth 20000 in
theorem gX9_layGaps_X9_death : GoodIn wsX9_layGaps (va_wsS RX9 66 yX9_death wsX9_death) := goodIn_app (goodIn_of _ (by decide +kernel)) ggX9_layGaps_X9_death
set_option maxRecDepth 20000 in
theorem ggX9_layGaps_X9_addGap : GoodIn wsX9_layGaps wsX9_addGap := goodIn_r _ [26, 1, 27, 28, 29, 30, 31, 32, 33, 34, 35, 36, 37] (by decide +kernel) (by decide +kernel)
set_option maxRecDepth 20000 in
theorem gX9_layGaps_X9_addGap : GoodIn wsX9_layGaps (wsV RX9 72 RX9 yX9_addGap wsX9_addGap) := goodIn_app (goodIn_of _ (by decide +kernel)) ggX9_layGaps_X9_addGap
theorem dX9_layGaps_0 : decode cX9_layGaps 0 = .ok (.aload_n 0, 1) := by decide +kernel
theorem dX9_layGaps_1 : decode cX9_layGaps 1 = .ok (.iconst 0, 1) := by decide +kernel
theorem dX9_layGaps_2 : decode cX9_layGaps 2 = .ok (.putfield 69, 3) := by decide +kernel
theorem dX9_layGaps_5 : decode cX9_layGaps 5 = .ok (.iconst 0, 1) := by decide +kernel
theorem dX9_layGaps_6 : decode cX9_layGaps 6 = .ok (.istore_n 2, 1) := by decide +kernel
theorem dX9_layGaps_7 : decode cX9_layGaps 7 = .ok (.iload_n 2, 1) := by decide +kernel
theorem dX9_layGaps_8 : decode cX9_layGaps 8 = .ok (.aload_n 1, 1) := by decide +kernel
theorem dX9_layGaps_9 : decode cX9_layGaps 9 = .ok (.invokevirtual 27, 3) := by decide +kernel
theorem dX9_layGaps_12 : decode cX9_layGaps 12 = .ok (.if_icmp .ge 133, 3) := by decide +kernel
theorem dX9_layGaps_15 : decode cX9_layGaps 15 = .ok (.aload_n 1, 1) := by decide +kernel
theorem dX9_layGaps_16 : decode cX9_layGaps 16 = .ok (.iload_n 2, 1) := by decide +kernel
theorem dX9_layGaps_17 : decode cX9_layGaps 17 = .ok (.iconst 2, 1) := by decide +kernel
theorem dX9_layGaps_18 : decode cX9_layGaps 18 = .ok (.invokevirtual 62, 3) := by decide +kernel
theorem dX9_layGaps_21 : decode cX9_layGaps 21 = .ok (.istore_n 3, 1) := by decide +kernel
theorem dX9_layGaps_22 : decode cX9_layGaps 22 = .ok (.aload_n 1, 1) := by decide +kernel
theorem dX9_layGaps_23 : decode cX9_layGaps 23 = .ok (.iload_n 2, 1) := by decide +kernel
theorem dX9_layGaps_24 : decode cX9_layGaps 24 = .ok (.iconst 3, 1) := by decide +kernel
theorem dX9_layGaps_25 : decode cX9_layGaps 25 = .ok (.invokevirtual 62, 3) := by decide +kernel
theorem dX9_layGaps_28 : decode cX9_layGaps 28 = .ok (.istore 4, 2) := by decide +kernel
theorem dX9_layGaps_30 : decode cX9_layGaps 30 = .ok (.aload_n 0, 1) := by decide +kernel
theorem dX9_layGaps_31 : decode cX9_layGaps 31 = .ok (.iload_n 2, 1) := by decide +kernel
theorem dX9_layGaps_32 : decode cX9_layGaps 32 = .ok (.invokestatic 58, 3) := by decide +kernel
theorem dX9_layGaps_35 : decode cX9_layGaps 35 = .ok (.iload_n 2, 1) := by decide +kernel
theorem dX9_layGaps_36 : decode cX9_layGaps 36 = .ok (.invokestatic 66, 3) := by decide +kernel
theorem dX9_layGaps_39 : decode cX9_layGaps 39 = .ok (.iconst 0, 1) := by decide +kernel
theorem dX9_layGaps_40 : decode cX9_layGaps 40 = .ok (.invokevirtual 72, 3) := by decide +kernel
theorem dX9_layGaps_43 : decode cX9_layGaps 43 = .ok (.aload_n 0, 1) := by decide +kernel
theorem dX9_layGaps_44 : decode cX9_layGaps 44 = .ok (.iload_n 2, 1) := by decide +kernel
theorem dX9_layGaps_45 : decode cX9_layGaps 45 = .ok (.invokestatic 66, 3) := by decide +kernel
theorem dX9_layGaps_48 : decode cX9_layGaps 48 = .ok (.iload_n 2, 1) := by decide +kernel
theorem dX9_layGaps_49 : decode cX9_layGaps 49 = .ok (.invokestatic 58, 3) := by decide +kernel
theorem dX9_layGaps_52 : decode cX9_layGaps 52 = .ok (.bipush (-100), 2) := by decide +kernel
theorem dX9_layGaps_54 : decode cX9_layGaps 54 = .ok (.invokevirtual 72, 3) := by decide +kernel
theorem dX9_layGaps_57 : decode cX9_layGaps 57 = .ok (.iload_n 3, 1) := by decide +kernel
theorem dX9_layGaps_58 : decode cX9_layGaps 58 = .ok (.iconst (-1), 1) := by decide +kernel
theorem dX9_layGaps_59 : decode cX9_layGaps 59 = .ok (.if_icmp .eq 30, 3) := by decide +kernel
theorem dX9_layGaps_62 : decode cX9_layGaps 62 = .ok (.aload_n 0, 1) := by decide +kernel
theorem dX9_layGaps_63 : decode cX9_layGaps 63 = .ok (.iload_n 3, 1) := by decide +kernel
theorem dX9_layGaps_64 : decode cX9_layGaps 64 = .ok (.invokestatic 58, 3) := by decide +kernel
theorem dX9_layGaps_67 : decode cX9_layGaps 67 = .ok (.iload_n 2, 1) := by decide +kernel
theorem dX9_layGaps_68 : decode cX9_layGaps 68 = .ok (.invokestatic 58, 3) := by decide +kernel
theorem dX9_layGaps_71 : decode cX9_layGaps 71 = .ok (.bipush 15, 2) := by decide +kernel
theorem dX9_layGaps_73 : decode cX9_layGaps 73 = .ok (.invokevirtual 72, 3) := by decide +kernel
theorem dX9_layGaps_76 : decode cX9_layGaps 76 = .ok (.aload_n 0, 1) := by decide +kernel
theorem dX9_layGaps_77 : decode cX9_layGaps 77 = .ok (.iload_n 2, 1) := by decide +kernel
theorem dX9_layGaps_78 : decode cX9_layGaps 78 = .ok (.invokestatic 58, 3) := by decide +kernel
theorem dX9_layGaps_81 : decode cX9_layGaps 81 = .ok (.iload_n 3, 1) := by decide +kernel
theorem dX9_layGaps_82 : decode cX9_layGaps 82 = .ok (.invokestatic 66, 3) := by decide +kernel
theorem dX9_layGaps_85 : decode cX9_layGaps 85 = .ok (.iconst (-1), 1) := by decide +kernel
theorem dX9_layGaps_86 : decode cX9_layGaps 86 = .ok (.invokevirtual 72, 3) := by decide +kernel
theorem dX9_layGaps_89 : decode cX9_layGaps 89 = .ok (.iload 4, 2) := by decide +kernel
theorem dX9_layGaps_91 : decode cX9_layGaps 91 = .ok (.iconst (-1), 1) := by decide +kernel
theorem dX9_layGaps_92 : decode cX9_layGaps 92 = .ok (.if_icmp .eq 47, 3) := by decide +kernel
theorem dX9_layGaps_95 : decode cX9_layGaps 95 = .ok (.aload_n 0, 1) := by decide +kernel
theorem dX9_layGaps_96 : decode cX9_layGaps 96 = .ok (.iload 4, 2) := by decide +kernel
theorem dX9_layGaps_98 : decode cX9_layGaps 98 = .ok (.invokestatic 58, 3) := by decide +kernel
theorem dX9_layGaps_101 : decode cX9_layGaps 101 = .ok (.iload_n 2, 1) := by decide +kernel
theorem dX9_layGaps_102 : decode cX9_layGaps 102 = .ok (.invokestatic 58, 3) := by decide +kernel
theorem dX9_layGaps_105 : decode cX9_layGaps 105 = .ok (.bipush 15, 2) := by decide +kernel
theorem dX9_layGaps_107 : decode cX9_layGaps 107 = .ok (.invokevirtual 72, 3) := by decide +kernel
theorem dX9_layGaps_110 : decode cX9_layGaps 110 = .ok (.aload_n 0, 1) := by decide +kernel
theorem dX9_layGaps_111 : decode cX9_layGaps 111 = .ok (.iload_n 2, 1) := by decide +kernel
theorem dX9_layGaps_112 : decode cX9_layGaps 112 = .ok (.invokestatic 58, 3) := by decide +kernel
theorem dX9_layGaps_115 : decode cX9_layGaps 115 = .ok (.iload 4, 2) := by decide +kernel
theorem dX9_layGaps_117 : decode cX9_layGaps 117 = .ok (.invokestatic 58, 3) := by decide +kernel
theorem dX9_layGaps_120 : decode cX9_layGaps 120 = .ok (.bipush (-50), 2) := by decide +kernel
theorem dX9_layGaps_122 : decode cX9_layGaps 122 = .ok (.invokevirtual 72, 3) := by decide +kernel
theorem dX9_layGaps_125 : decode cX9_layGaps 125 = .ok (.aload_n 0, 1) := by decide +kernel
theorem dX9_layGaps_126 : decode cX9_layGaps 126 = .ok (.iload_n 2, 1) := by decide +kernel
theorem dX9_layGaps_127 : decode cX9_layGaps 127 = .ok (.invokestatic 58, 3) := by decide +kernel
theorem dX9_layGaps_130 : decode cX9_layGaps 130 = .ok (.iload 4, 2) := by decide +kernel
theorem dX9_layGaps_132 : decode cX9_layGaps 132 = .ok (.invokestatic 66, 3) := by decide +kernel
theorem dX9_layGaps_135 : decode cX9_layGaps 135 = .ok (.iconst 0, 1) := by decide +kernel
theorem dX9_layGaps_136 : decode cX9_layGaps 136 = .ok (.invokevirtual 72, 3) := by decide +kernel
theorem dX9_layGaps_139 : decode cX9_layGaps 139 = .ok (.iinc 2 1, 3) := by decide +kernel
theorem dX9_layGaps_142 : decode cX9_layGaps 142 = .ok (.goto (-135), 3) := by decide +kernel
theorem dX9_layGaps_145 : decode cX9_layGaps 145 = .ok (.return_, 1) := by decide +kernel
theorem dX9_addGap_0 : decode cX9_addGap 0 = .ok (.aload_n 0, 1) := by decide +kernel
theorem dX9_addGap_1 : decode cX9_addGap 1 = .ok (.getfield 69, 3) := by decide +kernel
theorem dX9_addGap_4 : decode cX9_addGap 4 = .ok (.aload_n 0, 1) := by decide +kernel
theorem dX9_addGap_5 : decode cX9_addGap 5 = .ok (.getfield 24, 3) := by decide +kernel
theorem dX9_addGap_8 : decode cX9_addGap 8 = .ok (.arraylength, 1) := by decide +kernel
theorem dX9_addGap_9 : decode cX9_addGap 9 = .ok (.if_icmp .ge 43, 3) := by decide +kernel
theorem dX9_addGap_12 : decode cX9_addGap 12 = .ok (.aload_n 0, 1) := by decide +kernel
theorem dX9_addGap_13 : decode cX9_addGap 13 = .ok (.getfield 18, 3) := by decide +kernel
theorem dX9_addGap_16 : decode cX9_addGap 16 = .ok (.aload_n 0, 1) := by decide +kernel
theorem dX9_addGap_17 : decode cX9_addGap 17 = .ok (.getfield 69, 3) := by decide +kernel
theorem dX9_addGap_20 : decode cX9_addGap 20 = .ok (.iload_n 1, 1) := by decide +kernel
theorem dX9_addGap_21 : decode cX9_addGap 21 = .ok (.iastore, 1) := by decide +kernel
theorem dX9_addGap_22 : decode cX9_addGap 22 = .ok (.aload_n 0, 1) := by decide +kernel
theorem dX9_addGap_23 : decode cX9_addGap 23 = .ok (.getfield 21, 3) := by decide +kernel
theorem dX9_addGap_26 : decode cX9_addGap 26 = .ok (.aload_n 0, 1) := by decide +kernel
theorem dX9_addGap_27 : decode cX9_addGap 27 = .ok (.getfield 69, 3) := by decide +kernel
theorem dX9_addGap_30 : decode cX9_addGap 30 = .ok (.iload_n 2, 1) := by decide +kernel
theorem dX9_addGap_31 : decode cX9_addGap 31 = .ok (.iastore, 1) := by decide +kernel
theorem dX9_addGap_32 : decode cX9_addGap 32 = .ok (.aload_n 0, 1) := by decide +kernel
theorem dX9_addGap_33 : decode cX9_addGap 33 = .ok (.getfield 24, 3) := by decide +kernel
theorem dX9_addGap_36 : decode cX9_addGap 36 = .ok (.aload_n 0, 1) := by decide +kernel
theorem dX9_addGap_37 : decode cX9_addGap 37 = .ok (.getfield 69, 3) := by decide +kernel
theorem dX9_addGap_40 : decode cX9_addGap 40 = .ok (.iload_n 3, 1) := by decide +kernel
theorem dX9_addGap_41 : decode cX9_addGap 41 = .ok (.iastore, 1) := by decide +kernel
theorem dX9_addGap_42 : decode cX9_addGap 42 = .ok (.aload_n 0, 1) := by decide +kernel
theorem dX9_addGap_43 : decode cX9_addGap 43 = .ok (.dup, 1) := by decide +kernel
theorem dX9_addGap_44 : decode cX9_addGap 44 = .ok (.getfield 69, 3) := by decide +kernel
theorem dX9_addGap_47 : decode cX9_addGap 47 = .ok (.iconst 1, 1) := by decide +kernel
theorem dX9_addGap_48 : decode cX9_addGap 48 = .ok (.iadd, 1) := by decide +kernel
theorem dX9_addGap_49 : decode cX9_addGap 49 = .ok (.putfield 69, 3) := by decide +kernel
theorem dX9_addGap_52 : decode cX9_addGap 52 = .ok (.return_, 1) := by decide +kernel
theorem dX9_raiseLeast_0 : decode cX9_raiseLeast 0 = .ok (.iconst 0, 1) := by decide +kernel
theorem dX9_raiseLeast_1 : decode cX9_raiseLeast 1 = .ok (.istore_n 1, 1) := by decide +kernel
theorem dX9_raiseLeast_2 : decode cX9_raiseLeast 2 = .ok (.iconst 0, 1) := by decide +kernel
theorem dX9_raiseLeast_3 : decode cX9_raiseLeast 3 = .ok (.istore_n 2, 1) := by decide +kernel
theorem dX9_raiseLeast_4 : decode cX9_raiseLeast 4 = .ok (.iload_n 2, 1) := by decide +kernel
theorem dX9_raiseLeast_5 : decode cX9_raiseLeast 5 = .ok (.aload_n 0, 1) := by decide +kernel
theorem dX9_raiseLeast_6 : decode cX9_raiseLeast 6 = .ok (.getfield 33, 3) := by decide +kernel
theorem dX9_raiseLeast_9 : decode cX9_raiseLeast 9 = .ok (.if_icmp .ge 84, 3) := by decide +kernel
theorem dX9_raiseLeast_12 : decode cX9_raiseLeast 12 = .ok (.iconst 0, 1) := by decide +kernel
theorem dX9_raiseLeast_13 : decode cX9_raiseLeast 13 = .ok (.istore_n 1, 1) := by decide +kernel
theorem dX9_raiseLeast_14 : decode cX9_raiseLeast 14 = .ok (.iconst 0, 1) := by decide +kernel
theorem dX9_raiseLeast_15 : decode cX9_raiseLeast 15 = .ok (.istore_n 3, 1) := by decide +kernel
theorem dX9_raiseLeast_16 : decode cX9_raiseLeast 16 = .ok (.iload_n 3, 1) := by decide +kernel
theorem dX9_raiseLeast_17 : decode cX9_raiseLeast 17 = .ok (.aload_n 0, 1) := by decide +kernel
theorem dX9_raiseLeast_18 : decode cX9_raiseLeast 18 = .ok (.getfield 69, 3) := by decide +kernel
theorem dX9_raiseLeast_21 : decode cX9_raiseLeast 21 = .ok (.if_icmp .ge 60, 3) := by decide +kernel
theorem dX9_raiseLeast_24 : decode cX9_raiseLeast 24 = .ok (.aload_n 0, 1) := by decide +kernel
theorem dX9_raiseLeast_25 : decode cX9_raiseLeast 25 = .ok (.getfield 9, 3) := by decide +kernel
theorem dX9_raiseLeast_28 : decode cX9_raiseLeast 28 = .ok (.aload_n 0, 1) := by decide +kernel
theorem dX9_raiseLeast_29 : decode cX9_raiseLeast 29 = .ok (.getfield 18, 3) := by decide +kernel
theorem dX9_raiseLeast_32 : decode cX9_raiseLeast 32 = .ok (.iload_n 3, 1) := by decide +kernel
theorem dX9_raiseLeast_33 : decode cX9_raiseLeast 33 = .ok (.iaload, 1) := by decide +kernel
theorem dX9_raiseLeast_34 : decode cX9_raiseLeast 34 = .ok (.iaload, 1) := by decide +kernel
theorem dX9_raiseLeast_35 : decode cX9_raiseLeast 35 = .ok (.aload_n 0, 1) := by decide +kernel
theorem dX9_raiseLeast_36 : decode cX9_raiseLeast 36 = .ok (.getfield 24, 3) := by decide +kernel
theorem dX9_raiseLeast_39 : decode cX9_raiseLeast 39 = .ok (.iload_n 3, 1) := by decide +kernel
theorem dX9_raiseLeast_40 : decode cX9_raiseLeast 40 = .ok (.iaload, 1) := by decide +kernel
theorem dX9_raiseLeast_41 : decode cX9_raiseLeast 41 = .ok (.iadd, 1) := by decide +kernel
theorem dX9_raiseLeast_42 : decode cX9_raiseLeast 42 = .ok (.istore 4, 2) := by decide +kernel
theorem dX9_raiseLeast_44 : decode cX9_raiseLeast 44 = .ok (.iload 4, 2) := by decide +kernel
theorem dX9_raiseLeast_46 : decode cX9_raiseLeast 46 = .ok (.aload_n 0, 1) := by decide +kernel
theorem dX9_raiseLeast_47 : decode cX9_raiseLeast 47 = .ok (.getfield 9, 3) := by decide +kernel
theorem dX9_raiseLeast_50 : decode cX9_raiseLeast 50 = .ok (.aload_n 0, 1) := by decide +kernel
theorem dX9_raiseLeast_51 : decode cX9_raiseLeast 51 = .ok (.getfield 21, 3) := by decide +kernel
theorem dX9_raiseLeast_54 : decode cX9_raiseLeast 54 = .ok (.iload_n 3, 1) := by decide +kernel
theorem dX9_raiseLeast_55 : decode cX9_raiseLeast 55 = .ok (.iaload, 1) := by decide +kernel
theorem dX9_raiseLeast_56 : decode cX9_raiseLeast 56 = .ok (.iaload, 1) := by decide +kernel
theorem dX9_raiseLeast_57 : decode cX9_raiseLeast 57 = .ok (.if_icmp .le 18, 3) := by decide +kernel
theorem dX9_raiseLeast_60 : decode cX9_raiseLeast 60 = .ok (.aload_n 0, 1) := by decide +kernel
theorem dX9_raiseLeast_61 : decode cX9_raiseLeast 61 = .ok (.getfield 9, 3) := by decide +kernel
theorem dX9_raiseLeast_64 : decode cX9_raiseLeast 64 = .ok (.aload_n 0, 1) := by decide +kernel
theorem dX9_raiseLeast_65 : decode cX9_raiseLeast 65 = .ok (.getfield 21, 3) := by decide +kernel
theorem dX9_raiseLeast_68 : decode cX9_raiseLeast 68 = .ok (.iload_n 3, 1) := by decide +kernel
theorem dX9_raiseLeast_69 : decode cX9_raiseLeast 69 = .ok (.iaload, 1) := by decide +kernel
theorem dX9_raiseLeast_70 : decode cX9_raiseLeast 70 = .ok (.iload 4, 2) := by decide +kernel
theorem dX9_raiseLeast_72 : decode cX9_raiseLeast 72 = .ok (.iastore, 1) := by decide +kernel
theorem dX9_raiseLeast_73 : decode cX9_raiseLeast 73 = .ok (.iconst 1, 1) := by decide +kernel
theorem dX9_raiseLeast_74 : decode cX9_raiseLeast 74 = .ok (.istore_n 1, 1) := by decide +kernel
theorem dX9_raiseLeast_75 : decode cX9_raiseLeast 75 = .ok (.iinc 3 1, 3) := by decide +kernel
theorem dX9_raiseLeast_78 : decode cX9_raiseLeast 78 = .ok (.goto (-62), 3) := by decide +kernel
theorem dX9_raiseLeast_81 : decode cX9_raiseLeast 81 = .ok (.iload_n 1, 1) := by decide +kernel
theorem dX9_raiseLeast_82 : decode cX9_raiseLeast 82 = .ok (.ifCond .ne 5, 3) := by decide +kernel
theorem dX9_raiseLeast_85 : decode cX9_raiseLeast 85 = .ok (.iconst 1, 1) := by decide +kernel
theorem dX9_raiseLeast_86 : decode cX9_raiseLeast 86 = .ok (.ireturn, 1) := by decide +kernel
theorem dX9_raiseLeast_87 : decode cX9_raiseLeast 87 = .ok (.iinc 2 1, 3) := by decide +kernel
theorem dX9_raiseLeast_90 : decode cX9_raiseLeast 90 = .ok (.goto (-86), 3) := by decide +kernel
theorem dX9_raiseLeast_93 : decode cX9_raiseLeast 93 = .ok (.iload_n 1, 1) := by decide +kernel
theorem dX9_raiseLeast_94 : decode cX9_raiseLeast 94 = .ok (.ifCond .ne 7, 3) := by decide +kernel
theorem dX9_raiseLeast_97 : decode cX9_raiseLeast 97 = .ok (.iconst 1, 1) := by decide +kernel
theorem dX9_raiseLeast_98 : decode cX9_raiseLeast 98 = .ok (.goto 4, 3) := by decide +kernel
theorem dX9_raiseLeast_101 : decode cX9_raiseLeast 101 = .ok (.iconst 0, 1) := by decide +kernel
theorem dX9_raiseLeast_102 : decode cX9_raiseLeast 102 = .ok (.ireturn, 1) := by decide +kernel
theorem dX9_lowerGreatest_0 : decode cX9_lowerGreatest 0 = .ok (.iconst 1, 1) := by decide +kernel
theorem dX9_lowerGreatest_1 : decode cX9_lowerGreatest 1 = .ok (.istore_n 1, 1) := by decide +kernel
theorem dX9_lowerGreatest_2 : decode cX9_lowerGreatest 2 = .ok (.iconst 0, 1) := by decide +kernel
theorem dX9_lowerGreatest_3 : decode cX9_lowerGreatest 3 = .ok (.istore_n 2, 1) := by decide +kernel
theorem dX9_lowerGreatest_4 : decode cX9_lowerGreatest 4 = .ok (.iload_n 2, 1) := by decide +kernel
theorem dX9_lowerGreatest_5 : decode cX9_lowerGreatest 5 = .ok (.aload_n 0, 1) := by decide +kernel
theorem dX9_lowerGreatest_6 : decode cX9_lowerGreatest 6 = .ok (.getfield 33, 3) := by decide +kernel
theorem dX9_lowerGreatest_9 : decode cX9_lowerGreatest 9 = .ok (.if_icmp .ge 82, 3) := by decide +kernel
theorem dX9_lowerGreatest_12 : decode cX9_lowerGreatest 12 = .ok (.iload_n 1, 1) := by decide +kernel
theorem dX9_lowerGreatest_13 : decode cX9_lowerGreatest 13 = .ok (.ifCond .eq 78, 3) := by decide +kernel
theorem dX9_lowerGreatest_16 : decode cX9_lowerGreatest 16 = .ok (.iconst 0, 1) := by decide +kernel
theorem dX9_lowerGreatest_17 : decode cX9_lowerGreatest 17 = .ok (.istore_n 1, 1) := by decide +kernel
theorem dX9_lowerGreatest_18 : decode cX9_lowerGreatest 18 = .ok (.iconst 0, 1) := by decide +kernel
theorem dX9_lowerGreatest_19 : decode cX9_lowerGreatest 19 = .ok (.istore_n 3, 1) := by decide +kernel
theorem dX9_lowerGreatest_20 : decode cX9_lowerGreatest 20 = .ok (.iload_n 3, 1) := by decide +kernel
theorem dX9_lowerGreatest_21 : decode cX9_lowerGreatest 21 = .ok (.aload_n 0, 1) := by decide +kernel
theorem dX9_lowerGreatest_22 : decode cX9_lowerGreatest 22 = .ok (.getfield 69, 3) := by decide +kernel
theorem dX9_lowerGreatest_25 : decode cX9_lowerGreatest 25 = .ok (.if_icmp .ge 60, 3) := by decide +kernel
theorem dX9_lowerGreatest_28 : decode cX9_lowerGreatest 28 = .ok (.aload_n 0, 1) := by decide +kernel
theorem dX9_lowerGreatest_29 : decode cX9_lowerGreatest 29 = .ok (.getfield 15, 3) := by decide +kernel
theorem dX9_lowerGreatest_32 : decode cX9_lowerGreatest 32 = .ok (.aload_n 0, 1) := by decide +kernel
theorem dX9_lowerGreatest_33 : decode cX9_lowerGreatest 33 = .ok (.getfield 21, 3) := by decide +kernel
theorem dX9_lowerGreatest_36 : decode cX9_lowerGreatest 36 = .ok (.iload_n 3, 1) := by decide +kernel
theorem dX9_lowerGreatest_37 : decode cX9_lowerGreatest 37 = .ok (.iaload, 1) := by decide +kernel
theorem dX9_lowerGreatest_38 : decode cX9_lowerGreatest 38 = .ok (.iaload, 1) := by decide +kernel
theorem dX9_lowerGreatest_39 : decode cX9_lowerGreatest 39 = .ok (.aload_n 0, 1) := by decide +kernel
theorem dX9_lowerGreatest_40 : decode cX9_lowerGreatest 40 = .ok (.getfield 24, 3) := by decide +kernel
theorem dX9_lowerGreatest_43 : decode cX9_lowerGreatest 43 = .ok (.iload_n 3, 1) := by decide +kernel
theorem dX9_lowerGreatest_44 : decode cX9_lowerGreatest 44 = .ok (.iaload, 1) := by decide +kernel
theorem dX9_lowerGreatest_45 : decode cX9_lowerGreatest 45 = .ok (.isub, 1) := by decide +kernel
theorem dX9_lowerGreatest_46 : decode cX9_lowerGreatest 46 = .ok (.istore 4, 2) := by decide +kernel
theorem dX9_lowerGreatest_48 : decode cX9_lowerGreatest 48 = .ok (.iload 4, 2) := by decide +kernel
theorem dX9_lowerGreatest_50 : decode cX9_lowerGreatest 50 = .ok (.aload_n 0, 1) := by decide +kernel
theorem dX9_lowerGreatest_51 : decode cX9_lowerGreatest 51 = .ok (.getfield 15, 3) := by decide +kernel
theorem dX9_lowerGreatest_54 : decode cX9_lowerGreatest 54 = .ok (.aload_n 0, 1) := by decide +kernel
theorem dX9_lowerGreatest_55 : decode cX9_lowerGreatest 55 = .ok (.getfield 18, 3) := by decide +kernel
theorem dX9_lowerGreatest_58 : decode cX9_lowerGreatest 58 = .ok (.iload_n 3, 1) := by decide +kernel
theorem dX9_lowerGreatest_59 : decode cX9_lowerGreatest 59 = .ok (.iaload, 1) := by decide +kernel
theorem dX9_lowerGreatest_60 : decode cX9_lowerGreatest 60 = .ok (.iaload, 1) := by decide +kernel
theorem dX9_lowerGreatest_61 : decode cX9_lowerGreatest 61 = .ok (.if_icmp .ge 18, 3) := by decide +kernel
theorem dX9_lowerGreatest_64 : decode cX9_lowerGreatest 64 = .ok (.aload_n 0, 1) := by decide +kernel
theorem dX9_lowerGreatest_65 : decode cX9_lowerGreatest 65 = .ok (.getfield 15, 3) := by decide +kernel
theorem dX9_lowerGreatest_68 : decode cX9_lowerGreatest 68 = .ok (.aload_n 0, 1) := by decide +kernel
theorem dX9_lowerGreatest_69 : decode cX9_lowerGreatest 69 = .ok (.getfield 18, 3) := by decide +kernel
theorem dX9_lowerGreatest_72 : decode cX9_lowerGreatest 72 = .ok (.iload_n 3, 1) := by decide +kernel
theorem dX9_lowerGreatest_73 : decode cX9_lowerGreatest 73 = .ok (.iaload, 1) := by decide +kernel
theorem dX9_lowerGreatest_74 : decode cX9_lowerGreatest 74 = .ok (.iload 4, 2) := by decide +kernel
theorem dX9_lowerGreatest_76 : decode cX9_lowerGreatest 76 = .ok (.iastore, 1) := by decide +kernel
theorem dX9_lowerGreatest_77 : decode cX9_lowerGreatest 77 = .ok (.iconst 1, 1) := by decide +kernel
theorem dX9_lowerGreatest_78 : decode cX9_lowerGreatest 78 = .ok (.istore_n 1, 1) := by decide +kernel
theorem dX9_lowerGreatest_79 : decode cX9_lowerGreatest 79 = .ok (.iinc 3 1, 3) := by decide +kernel
theorem dX9_lowerGreatest_82 : decode cX9_lowerGreatest 82 = .ok (.goto (-62), 3) := by decide +kernel
theorem dX9_lowerGreatest_85 : decode cX9_lowerGreatest 85 = .ok (.iinc 2 1, 3) := by decide +kernel
theorem dX9_lowerGreatest_88 : decode cX9_lowerGreatest 88 = .ok (.goto (-84), 3) := by decide +kernel
theorem dX9_lowerGreatest_91 : decode cX9_lowerGreatest 91 = .ok (.return_, 1) := by decide +kernel
theorem dX9_isCrossed_0 : decode cX9_isCrossed 0 = .ok (.iconst 0, 1) := by decide +kernel
theorem dX9_isCrossed_1 : decode cX9_isCrossed 1 = .ok (.istore_n 1, 1) := by decide +kernel
theorem dX9_isCrossed_2 : decode cX9_isCrossed 2 = .ok (.iload_n 1, 1) := by decide +kernel
theorem dX9_isCrossed_3 : decode cX9_isCrossed 3 = .ok (.aload_n 0, 1) := by decide +kernel
theorem dX9_isCrossed_4 : decode cX9_isCrossed 4 = .ok (.getfield 33, 3) := by decide +kernel
theorem dX9_isCrossed_7 : decode cX9_isCrossed 7 = .ok (.if_icmp .ge 26, 3) := by decide +kernel
theorem dX9_isCrossed_10 : decode cX9_isCrossed 10 = .ok (.aload_n 0, 1) := by decide +kernel
theorem dX9_isCrossed_11 : decode cX9_isCrossed 11 = .ok (.getfield 9, 3) := by decide +kernel
theorem dX9_isCrossed_14 : decode cX9_isCrossed 14 = .ok (.iload_n 1, 1) := by decide +kernel
theorem dX9_isCrossed_15 : decode cX9_isCrossed 15 = .ok (.iaload, 1) := by decide +kernel
theorem dX9_isCrossed_16 : decode cX9_isCrossed 16 = .ok (.aload_n 0, 1) := by decide +kernel
theorem dX9_isCrossed_17 : decode cX9_isCrossed 17 = .ok (.getfield 15, 3) := by decide +kernel
theorem dX9_isCrossed_20 : decode cX9_isCrossed 20 = .ok (.iload_n 1, 1) := by decide +kernel
theorem dX9_isCrossed_21 : decode cX9_isCrossed 21 = .ok (.iaload, 1) := by decide +kernel
theorem dX9_isCrossed_22 : decode cX9_isCrossed 22 = .ok (.if_icmp .le 5, 3) := by decide +kernel
theorem dX9_isCrossed_25 : decode cX9_isCrossed 25 = .ok (.iconst 1, 1) := by decide +kernel
theorem dX9_isCrossed_26 : decode cX9_isCrossed 26 = .ok (.ireturn, 1) := by decide +kernel
theorem dX9_isCrossed_27 : decode cX9_isCrossed 27 = .ok (.iinc 1 1, 3) := by decide +kernel
theorem dX9_isCrossed_30 : decode cX9_isCrossed 30 = .ok (.goto (-28), 3) := by decide +kernel
theorem dX9_isCrossed_33 : decode cX9_isCrossed 33 = .ok (.iconst 0, 1) := by decide +kernel
theorem dX9_isCrossed_34 : decode cX9_isCrossed 34 = .ok (.ireturn, 1) := by decide +kernel
theorem dX9_spoiledBit_0 : decode cX9_spoiledBit 0 = .ok (.aload_n 0, 1) := by decide +kernel
theorem dX9_spoiledBit_1 : decode cX9_spoiledBit 1 = .ok (.getfield 51, 3) := by decide +kernel
theorem dX9_spoiledBit_4 : decode cX9_spoiledBit 4 = .ok (.ifCond .eq 7, 3) := by decide +kernel
theorem dX9_spoiledBit_7 : decode cX9_spoiledBit 7 = .ok (.iconst 1, 1) := by decide +kernel
theorem dX9_spoiledBit_8 : decode cX9_spoiledBit 8 = .ok (.goto 4, 3) := by decide +kernel
theorem dX9_spoiledBit_11 : decode cX9_spoiledBit 11 = .ok (.iconst 0, 1) := by decide +kernel
theorem dX9_spoiledBit_12 : decode cX9_spoiledBit 12 = .ok (.ireturn, 1) := by decide +kernel
theorem dX9_isKnown_0 : decode cX9_isKnown 0 = .ok (.aload_n 0, 1) := by decide +kernel
theorem dX9_isKnown_1 : decode cX9_isKnown 1 = .ok (.getfield 51, 3) := by decide +kernel
theorem dX9_isKnown_4 : decode cX9_isKnown 4 = .ok (.ifCond .ne 19, 3) := by decide +kernel
theorem dX9_isKnown_7 : decode cX9_isKnown 7 = .ok (.iload_n 1, 1) := by decide +kernel
theorem dX9_isKnown_8 : decode cX9_isKnown 8 = .ok (.ifCond .lt 15, 3) := by decide +kernel
theorem dX9_isKnown_11 : decode cX9_isKnown 11 = .ok (.iload_n 1, 1) := by decide +kernel
theorem dX9_isKnown_12 : decode cX9_isKnown 12 = .ok (.aload_n 0, 1) := by decide +kernel
theorem dX9_isKnown_13 : decode cX9_isKnown 13 = .ok (.getfield 33, 3) := by decide +kernel
theorem dX9_isKnown_16 : decode cX9_isKnown 16 = .ok (.if_icmp .ge 7, 3) := by decide +kernel
theorem dX9_isKnown_19 : decode cX9_isKnown 19 = .ok (.iconst 1, 1) := by decide +kernel
theorem dX9_isKnown_20 : decode cX9_isKnown 20 = .ok (.goto 4, 3) := by decide +kernel
theorem dX9_isKnown_23 : decode cX9_isKnown 23 = .ok (.iconst 0, 1) := by decide +kernel
theorem dX9_isKnown_24 : decode cX9_isKnown 24 = .ok (.ireturn, 1) := by decide +kernel
set_option maxRecDepth 20000 in
theorem ggX9_leastOf_X9_isKnown : GoodIn wsX9_leastOf wsX9_isKnown := goodIn_r _ [6, 7, 8, 9, 10, 11, 12, 13, 14, 15, 16] (by decide +kernel) (by decide +kernel)
set_option maxRecDepth 20000 in
theorem gX9_leastOf_X9_isKnown : GoodIn wsX9_leastOf (wsV RX9 76 RX9 yX9_isKnown wsX9_isKnown) := goodIn_app (goodIn_of _ (by decide +kernel)) ggX9_leastOf_X9_isKnown
theorem dX9_leastOf_0 : decode cX9_leastOf 0 = .ok (.aload_n 0, 1) := by decide +kernel
theorem dX9_leastOf_1 : decode cX9_leastOf 1 = .ok (.iload_n 1, 1) := by decide +kernel
theorem dX9_leastOf_2 : decode cX9_leastOf 2 = .ok (.invokevirtual 76, 3) := by decide +kernel
theorem dX9_leastOf_5 : decode cX9_leastOf 5 = .ok (.ifCond .eq 12, 3) := by decide +kernel
theorem dX9_leastOf_8 : decode cX9_leastOf 8 = .ok (.aload_n 0, 1) := by decide +kernel
theorem dX9_leastOf_9 : decode cX9_leastOf 9 = .ok (.getfield 9, 3) := by decide +kernel
theorem dX9_leastOf_12 : decode cX9_leastOf 12 = .ok (.iload_n 1, 1) := by decide +kernel
theorem dX9_leastOf_13 : decode cX9_leastOf 13 = .ok (.iaload, 1) := by decide +kernel
theorem dX9_leastOf_14 : decode cX9_leastOf 14 = .ok (.goto 4, 3) := by decide +kernel
theorem dX9_leastOf_17 : decode cX9_leastOf 17 = .ok (.iconst (-1), 1) := by decide +kernel
theorem dX9_leastOf_18 : decode cX9_leastOf 18 = .ok (.ireturn, 1) := by decide +kernel
set_option maxRecDepth 20000 in
theorem ggX9_greatestOf_X9_isKnown : GoodIn wsX9_greatestOf wsX9_isKnown := goodIn_r _ [6, 7, 8, 9, 10, 11, 12, 13, 14, 15, 16] (by decide +kernel) (by decide +kernel)
set_option maxRecDepth 20000 in
theorem gX9_greatestOf_X9_isKnown : GoodIn wsX9_greatestOf (wsV RX9 76 RX9 yX9_isKnown wsX9_isKnown) := goodIn_app (goodIn_of _ (by decide +kernel)) ggX9_greatestOf_X9_isKnown
theorem dX9_greatestOf_0 : decode cX9_greatestOf 0 = .ok (.aload_n 0, 1) := by decide +kernel
theorem dX9_greatestOf_1 : decode cX9_greatestOf 1 = .ok (.iload_n 1, 1) := by decide +kernel
theorem dX9_greatestOf_2 : decode cX9_greatestOf 2 = .ok (.invokevirtual 76, 3) := by decide +kernel
theorem dX9_greatestOf_5 : decode cX9_greatestOf 5 = .ok (.ifCond .eq 12, 3) := by decide +kernel
theorem dX9_greatestOf_8 : decode cX9_greatestOf 8 = .ok (.aload_n 0, 1) := by decide +kernel
theorem dX9_greatestOf_9 : decode cX9_greatestOf 9 = .ok (.getfield 15, 3) := by decide +kernel
theorem dX9_greatestOf_12 : decode cX9_greatestOf 12 = .ok (.iload_n 1, 1) := by decide +kernel
theorem dX9_greatestOf_13 : decode cX9_greatestOf 13 = .ok (.iaload, 1) := by decide +kernel
theorem dX9_greatestOf_14 : decode cX9_greatestOf 14 = .ok (.goto 4, 3) := by decide +kernel
theorem dX9_greatestOf_17 : decode cX9_greatestOf 17 = .ok (.iconst (-1), 1) := by decide +kernel
theorem dX9_greatestOf_18 : decode cX9_greatestOf 18 = .ok (.ireturn, 1) := by decide +kernel
set_option maxRecDepth 20000 in
theorem ggX9_leastBirth_X9_birth : GoodIn wsX9_leastBirth wsX9_birth := goodIn_r _ [4] (by decide +kernel) (by decide +kernel)
set_option maxRecDepth 20000 in
theorem gX9_leastBirth_X9_birth : GoodIn wsX9_leastBirth (va_wsS RX9 58 yX9_birth wsX9_birth) := goodIn_app (goodIn_of _ (by decide +kernel)) ggX9_leastBirth_X9_birth
set_option maxRecDepth 20000 in
theorem ggX9_leastBirth_X9_leastOf : GoodIn wsX9_leastBirth wsX9_leastOf := goodIn_r _ [8, 9, 10, 11, 12, 3, 13, 14, 15, 16, 17, 18, 19, 20, 21, 22, 23] (by decide +kernel) (by decide +kernel)
set_option maxRecDepth 20000 in
theorem gX9_leastBirth_X9_leastOf : GoodIn wsX9_leastBirth (wsV RX9 80 RX9 yX9_leastOf wsX9_leastOf) := goodIn_app (goodIn_of _ (by decide +kernel)) ggX9_leastBirth_X9_leastOf
theorem dX9_leastBirth_0 : decode cX9_leastBirth 0 = .ok (.aload_n 0, 1) := by decide +kernel
theorem dX9_leastBirth_1 : decode cX9_leastBirth 1 = .ok (.iload_n 1, 1) := by decide +kernel
theorem dX9_leastBirth_2 : decode cX9_leastBirth 2 = .ok (.invokestatic 58, 3) := by decide +kernel
theorem dX9_leastBirth_5 : decode cX9_leastBirth 5 = .ok (.invokevirtual 80, 3) := by decide +kernel
theorem dX9_leastBirth_8 : decode cX9_leastBirth 8 = .ok (.ireturn, 1) := by decide +kernel
set_option maxRecDepth 20000 in
theorem ggX9_greatestBirth_X9_birth : GoodIn wsX9_greatestBirth wsX9_birth := goodIn_r _ [4] (by decide +kernel) (by decide +kernel)
set_option maxRecDepth 20000 in
theorem gX9_greatestBirth_X9_birth : GoodIn wsX9_greatestBirth (va_wsS RX9 58 yX9_birth wsX9_birth) := goodIn_app (goodIn_of _ (by decide +kernel)) ggX9_greatestBirth_X9_birth
set_option maxRecDepth 20000 in
theorem ggX9_greatestBirth_X9_greatestOf : GoodIn wsX9_greatestBirth wsX9_greatestOf := goodIn_r _ [8, 9, 10, 11, 12, 3, 13, 14, 15, 16, 17, 18, 19, 20, 21, 22, 23] (by decide +kernel) (by decide +kernel)
set_option maxRecDepth 20000 in
theorem gX9_greatestBirth_X9_greatestOf : GoodIn wsX9_greatestBirth (wsV RX9 83 RX9 yX9_greatestOf wsX9_greatestOf) := goodIn_app (goodIn_of _ (by decide +kernel)) ggX9_greatestBirth_X9_greatestOf
theorem dX9_greatestBirth_0 : decode cX9_greatestBirth 0 = .ok (.aload_n 0, 1) := by decide +kernel
theorem dX9_greatestBirth_1 : decode cX9_greatestBirth 1 = .ok (.iload_n 1, 1) := by decide +kernel
theorem dX9_greatestBirth_2 : decode cX9_greatestBirth 2 = .ok (.invokestatic 58, 3) := by decide +kernel
theorem dX9_greatestBirth_5 : decode cX9_greatestBirth 5 = .ok (.invokevirtual 83, 3) := by decide +kernel
theorem dX9_greatestBirth_8 : decode cX9_greatestBirth 8 = .ok (.ireturn, 1) := by decide +kernel
set_option maxRecDepth 20000 in
theorem ggX9_leastDeath_X9_death : GoodIn wsX9_leastDeath wsX9_death := goodIn_r _ [4] (by decide +kernel) (by decide +kernel)
set_option maxRecDepth 20000 in
theorem gX9_leastDeath_X9_death : GoodIn wsX9_leastDeath (va_wsS RX9 66 yX9_death wsX9_death) := goodIn_app (goodIn_of _ (by decide +kernel)) ggX9_leastDeath_X9_death
set_option maxRecDepth 20000 in
theorem ggX9_leastDeath_X9_leastOf : GoodIn wsX9_leastDeath wsX9_leastOf := goodIn_r _ [8, 9, 10, 11, 12, 3, 13, 14, 15, 16, 17, 18, 19, 20, 21, 22, 23] (by decide +kernel) (by decide +kernel)
set_option maxRecDepth 20000 in
theorem gX9_leastDeath_X9_leastOf : GoodIn wsX9_leastDeath (wsV RX9 80 RX9 yX9_leastOf wsX9_leastOf) := goodIn_app (goodIn_of _ (by decide +kernel)) ggX9_leastDeath_X9_leastOf
theorem dX9_leastDeath_0 : decode cX9_leastDeath 0 = .ok (.aload_n 0, 1) := by decide +kernel
theorem dX9_leastDeath_1 : decode cX9_leastDeath 1 = .ok (.iload_n 1, 1) := by decide +kernel
theorem dX9_leastDeath_2 : decode cX9_leastDeath 2 = .ok (.invokestatic 66, 3) := by decide +kernel
theorem dX9_leastDeath_5 : decode cX9_leastDeath 5 = .ok (.invokevirtual 80, 3) := by decide +kernel
theorem dX9_leastDeath_8 : decode cX9_leastDeath 8 = .ok (.ireturn, 1) := by decide +kernel
set_option maxRecDepth 20000 in
theorem ggX9_greatestDeath_X9_death : GoodIn wsX9_greatestDeath wsX9_death := goodIn_r _ [4] (by decide +kernel) (by decide +kernel)
set_option maxRecDepth 20000 in
theorem gX9_greatestDeath_X9_death : GoodIn wsX9_greatestDeath (va_wsS RX9 66 yX9_death wsX9_death) := goodIn_app (goodIn_of _ (by decide +kernel)) ggX9_greatestDeath_X9_death
set_option maxRecDepth 20000 in
theorem ggX9_greatestDeath_X9_greatestOf : GoodIn wsX9_greatestDeath wsX9_greatestOf := goodIn_r _ [8, 9, 10, 11, 12, 3, 13, 14, 15, 16, 17, 18, 19, 20, 21, 22, 23] (by decide +kernel) (by decide +kernel)
set_option maxRecDepth 20000 in
theorem gX9_greatestDeath_X9_greatestOf : GoodIn wsX9_greatestDeath (wsV RX9 83 RX9 yX9_greatestOf wsX9_greatestOf) := goodIn_app (goodIn_of _ (by decide +kernel)) ggX9_greatestDeath_X9_greatestOf
theorem dX9_greatestDeath_0 : decode cX9_greatestDeath 0 = .ok (.aload_n 0, 1) := by decide +kernel
theorem dX9_greatestDeath_1 : decode cX9_greatestDeath 1 = .ok (.iload_n 1, 1) := by decide +kernel
theorem dX9_greatestDeath_2 : decode cX9_greatestDeath 2 = .ok (.invokestatic 66, 3) := by decide +kernel
theorem dX9_greatestDeath_5 : decode cX9_greatestDeath 5 = .ok (.invokevirtual 83, 3) := by decide +kernel
theorem dX9_greatestDeath_8 : decode cX9_greatestDeath 8 = .ok (.ireturn, 1) := by decide +kernel
set_option maxRecDepth 20000 in
theorem ggX9_diedBetween_X9_leastDeath : GoodIn wsX9_diedBetween wsX9_leastDeath := goodIn_r _ [6, 7, 8, 5, 9, 10, 11, 12, 13, 14, 15, 16, 17, 18, 1, 19, 29, 30, 31, 32, 33, 34, 35, 36] (by decide +kernel) (by decide +kernel)
set_option maxRecDepth 20000 in
theorem gX9_diedBetween_X9_leastDeath : GoodIn wsX9_diedBetween (wsV RX9 86 RX9 yX9_leastDeath wsX9_leastDeath) := goodIn_app (goodIn_of _ (by decide +kernel)) ggX9_diedBetween_X9_leastDeath
set_option maxRecDepth 20000 in
theorem ggX9_diedBetween_X9_greatestDeath : GoodIn wsX9_diedBetween wsX9_greatestDeath := goodIn_r _ [23, 7, 8, 5, 9, 24, 25, 26, 27, 28, 15, 16, 17, 18, 1, 19, 29, 30, 31, 32, 33, 34, 35, 36] (by decide +kernel) (by decide +kernel)
set_option maxRecDepth 20000 in
theorem gX9_diedBetween_X9_greatestDeath : GoodIn wsX9_diedBetween (wsV RX9 89 RX9 yX9_greatestDeath wsX9_greatestDeath) := goodIn_app (goodIn_of _ (by decide +kernel)) ggX9_diedBetween_X9_greatestDeath
theorem dX9_diedBetween_0 : decode cX9_diedBetween 0 = .ok (.iconst 0, 1) := by decide +kernel
theorem dX9_diedBetween_1 : decode cX9_diedBetween 1 = .ok (.istore 4, 2) := by decide +kernel
theorem dX9_diedBetween_3 : decode cX9_diedBetween 3 = .ok (.iconst 0, 1) := by decide +kernel
theorem dX9_diedBetween_4 : decode cX9_diedBetween 4 = .ok (.istore 5, 2) := by decide +kernel
theorem dX9_diedBetween_6 : decode cX9_diedBetween 6 = .ok (.iload 5, 2) := by decide +kernel
theorem dX9_diedBetween_8 : decode cX9_diedBetween 8 = .ok (.iload_n 1, 1) := by decide +kernel
theorem dX9_diedBetween_9 : decode cX9_diedBetween 9 = .ok (.if_icmp .ge 45, 3) := by decide +kernel
theorem dX9_diedBetween_12 : decode cX9_diedBetween 12 = .ok (.aload_n 0, 1) := by decide +kernel
theorem dX9_diedBetween_13 : decode cX9_diedBetween 13 = .ok (.getfield 51, 3) := by decide +kernel
theorem dX9_diedBetween_16 : decode cX9_diedBetween 16 = .ok (.ifCond .ne 38, 3) := by decide +kernel
theorem dX9_diedBetween_19 : decode cX9_diedBetween 19 = .ok (.aload_n 0, 1) := by decide +kernel
theorem dX9_diedBetween_20 : decode cX9_diedBetween 20 = .ok (.iload 5, 2) := by decide +kernel
theorem dX9_diedBetween_22 : decode cX9_diedBetween 22 = .ok (.invokevirtual 86, 3) := by decide +kernel
theorem dX9_diedBetween_25 : decode cX9_diedBetween 25 = .ok (.iload_n 3, 1) := by decide +kernel
theorem dX9_diedBetween_26 : decode cX9_diedBetween 26 = .ok (.if_icmp .gt 22, 3) := by decide +kernel
theorem dX9_diedBetween_29 : decode cX9_diedBetween 29 = .ok (.aload_n 0, 1) := by decide +kernel
theorem dX9_diedBetween_30 : decode cX9_diedBetween 30 = .ok (.iload 5, 2) := by decide +kernel
theorem dX9_diedBetween_32 : decode cX9_diedBetween 32 = .ok (.invokevirtual 89, 3) := by decide +kernel
theorem dX9_diedBetween_35 : decode cX9_diedBetween 35 = .ok (.iload_n 2, 1) := by decide +kernel
theorem dX9_diedBetween_36 : decode cX9_diedBetween 36 = .ok (.if_icmp .lt 12, 3) := by decide +kernel
theorem dX9_diedBetween_39 : decode cX9_diedBetween 39 = .ok (.iload 4, 2) := by decide +kernel
theorem dX9_diedBetween_41 : decode cX9_diedBetween 41 = .ok (.iconst 1, 1) := by decide +kernel
theorem dX9_diedBetween_42 : decode cX9_diedBetween 42 = .ok (.iload 5, 2) := by decide +kernel
theorem dX9_diedBetween_44 : decode cX9_diedBetween 44 = .ok (.ishl, 1) := by decide +kernel
theorem dX9_diedBetween_45 : decode cX9_diedBetween 45 = .ok (.ior, 1) := by decide +kernel
theorem dX9_diedBetween_46 : decode cX9_diedBetween 46 = .ok (.istore 4, 2) := by decide +kernel
theorem dX9_diedBetween_48 : decode cX9_diedBetween 48 = .ok (.iinc 5 1, 3) := by decide +kernel
theorem dX9_diedBetween_51 : decode cX9_diedBetween 51 = .ok (.goto (-45), 3) := by decide +kernel
theorem dX9_diedBetween_54 : decode cX9_diedBetween 54 = .ok (.iload 4, 2) := by decide +kernel
theorem dX9_diedBetween_56 : decode cX9_diedBetween 56 = .ok (.ireturn, 1) := by decide +kernel
set_option maxRecDepth 20000 in
theorem ggX10_init_X7_init : GoodIn wsX10_init wsX7_init := goodIn_r _ [42, 43, 2, 3, 44, 45, 115] (by decide +kernel) (by decide +kernel)
set_option maxRecDepth 20000 in
theorem gX10_init_X7_init : GoodIn wsX10_init (wsX7_init) := ggX10_init_X7_init
set_option maxRecDepth 20000 in
theorem ggX10_init_X1_init : GoodIn wsX10_init wsX1_init := goodIn_r _ [48, 49, 2, 3, 44, 50, 51, 52, 125, 126, 127, 128, 129] (by decide +kernel) (by decide +kernel)
set_option maxRecDepth 20000 in
theorem gX10_init_X1_init : GoodIn wsX10_init (wsX1_init) := ggX10_init_X1_init
set_option maxRecDepth 20000 in
theorem ggX10_init_X9_init : GoodIn wsX10_init wsX9_init := goodIn_r _ [55, 56, 2, 3, 44, 57, 58, 59, 60, 61, 130, 131, 132, 133, 134, 135, 136, 137] (by decide +kernel) (by decide +kernel)
set_option maxRecDepth 20000 in
theorem gX10_init_X9_init : GoodIn wsX10_init (wsX9_init) := ggX10_init_X9_init
set_option maxRecDepth 20000 in
theorem ggX10_init_X8_init : GoodIn wsX10_init wsX8_init := goodIn_r _ [64, 65, 2, 3, 44, 66, 138] (by decide +kernel) (by decide +kernel)
set_option maxRecDepth 20000 in
theorem gX10_init_X8_init : GoodIn wsX10_init (wsX8_init) := ggX10_init_X8_init
set_option maxRecDepth 20000 in
theorem ggX10_init_X4_init : GoodIn wsX10_init wsX4_init := goodIn_r _ [69, 70, 2, 3, 44, 71, 72, 73, 74, 139, 140, 141, 142] (by decide +kernel) (by decide +kernel)
set_option maxRecDepth 20000 in
theorem gX10_init_X4_init : GoodIn wsX10_init (wsX4_init) := ggX10_init_X4_init
set_option maxRecDepth 20000 in
theorem ggX10_init_X0_init : GoodIn wsX10_init wsX0_init := goodIn_r _ [77, 78, 2, 3, 44, 79, 80, 81, 143, 144, 145, 146] (by decide +kernel) (by decide +kernel)
set_option maxRecDepth 20000 in
theorem gX10_init_X0_init : GoodIn wsX10_init (wsX0_init) := ggX10_init_X0_init
set_option maxRecDepth 20000 in
theorem ggX10_init_X5_init : GoodIn wsX10_init wsX5_init := goodIn_r _ [84, 85, 2, 3, 86, 87, 88, 89, 90, 91, 92, 93, 94, 95, 96, 97, 98, 44, 99, 154, 155, 147, 148, 149] (by decide +kernel) (by decide +kernel)
set_option maxRecDepth 20000 in
theorem gX10_init_X5_init : GoodIn wsX10_init (wsX5_init) := ggX10_init_X5_init
set_option maxRecDepth 20000 in
theorem ggX10_init_X3_init : GoodIn wsX10_init wsX3_init := goodIn_r _ [102, 103, 2, 3, 104, 87, 88, 105, 44, 106, 107, 108, 109, 91, 92, 93, 94, 95, 96, 97, 98, 99, 154, 155, 150, 151, 152] (by decide +kernel) (by decide +kernel)
set_option maxRecDepth 20000 in
theorem gX10_init_X3_init : GoodIn wsX10_init (wsX3_init) := ggX10_init_X3_init
set_option maxRecDepth 20000 in
theorem ggX10_init_X2_init : GoodIn wsX10_init wsX2_init := goodIn_r _ [112, 113, 2, 3, 114, 153] (by decide +kernel) (by decide +kernel)
set_option maxRecDepth 20000 in
theorem gX10_init_X2_init : GoodIn wsX10_init (wsX2_init) := ggX10_init_X2_init
end
section
theorem dX10_init_0 : decode cX10_init 0 = .ok (.aload_n 0, 1) := by decide +kernel
theorem dX10_init_1 : decode cX10_init 1 = .ok (.invokespecial 1, 3) := by decide +kernel
theorem dX10_init_4 : decode cX10_init 4 = .ok (.aload_n 0, 1) := by decide +kernel
theorem dX10_init_5 : decode cX10_init 5 = .ok (.new 7, 3) := by decide +kernel
theorem dX10_init_8 : decode cX10_init 8 = .ok (.dup, 1) := by decide +kernel
theorem dX10_init_9 : decode cX10_init 9 = .ok (.invokespecial 9, 3) := by decide +kernel
theorem dX10_init_12 : decode cX10_init 12 = .ok (.putfield 10, 3) := by decide +kernel
theorem dX10_init_15 : decode cX10_init 15 = .ok (.aload_n 0, 1) := by decide +kernel
theorem dX10_init_16 : decode cX10_init 16 = .ok (.new 16, 3) := by decide +kernel
theorem dX10_init_19 : decode cX10_init 19 = .ok (.dup, 1) := by decide +kernel
theorem dX10_init_20 : decode cX10_init 20 = .ok (.invokespecial 18, 3) := by decide +kernel
theorem dX10_init_23 : decode cX10_init 23 = .ok (.putfield 19, 3) := by decide +kernel
theorem dX10_init_26 : decode cX10_init 26 = .ok (.aload_n 0, 1) := by decide +kernel
theorem dX10_init_27 : decode cX10_init 27 = .ok (.new 23, 3) := by decide +kernel
theorem dX10_init_30 : decode cX10_init 30 = .ok (.dup, 1) := by decide +kernel
theorem dX10_init_31 : decode cX10_init 31 = .ok (.invokespecial 25, 3) := by decide +kernel
theorem dX10_init_34 : decode cX10_init 34 = .ok (.putfield 26, 3) := by decide +kernel
theorem dX10_init_37 : decode cX10_init 37 = .ok (.aload_n 0, 1) := by decide +kernel
theorem dX10_init_38 : decode cX10_init 38 = .ok (.new 30, 3) := by decide +kernel
theorem dX10_init_41 : decode cX10_init 41 = .ok (.dup, 1) := by decide +kernel
theorem dX10_init_42 : decode cX10_init 42 = .ok (.invokespecial 32, 3) := by decide +kernel
theorem dX10_init_45 : decode cX10_init 45 = .ok (.putfield 33, 3) := by decide +kernel
theorem dX10_init_48 : decode cX10_init 48 = .ok (.aload_n 0, 1) := by decide +kernel
theorem dX10_init_49 : decode cX10_init 49 = .ok (.new 37, 3) := by decide +kernel
theorem dX10_init_52 : decode cX10_init 52 = .ok (.dup, 1) := by decide +kernel
theorem dX10_init_53 : decode cX10_init 53 = .ok (.invokespecial 39, 3) := by decide +kernel
theorem dX10_init_56 : decode cX10_init 56 = .ok (.putfield 40, 3) := by decide +kernel
theorem dX10_init_59 : decode cX10_init 59 = .ok (.aload_n 0, 1) := by decide +kernel
theorem dX10_init_60 : decode cX10_init 60 = .ok (.new 44, 3) := by decide +kernel
theorem dX10_init_63 : decode cX10_init 63 = .ok (.dup, 1) := by decide +kernel
theorem dX10_init_64 : decode cX10_init 64 = .ok (.invokespecial 46, 3) := by decide +kernel
theorem dX10_init_67 : decode cX10_init 67 = .ok (.putfield 47, 3) := by decide +kernel
theorem dX10_init_70 : decode cX10_init 70 = .ok (.aload_n 0, 1) := by decide +kernel
theorem dX10_init_71 : decode cX10_init 71 = .ok (.new 51, 3) := by decide +kernel
theorem dX10_init_74 : decode cX10_init 74 = .ok (.dup, 1) := by decide +kernel
theorem dX10_init_75 : decode cX10_init 75 = .ok (.invokespecial 53, 3) := by decide +kernel
theorem dX10_init_78 : decode cX10_init 78 = .ok (.putfield 54, 3) := by decide +kernel
theorem dX10_init_81 : decode cX10_init 81 = .ok (.aload_n 0, 1) := by decide +kernel
theorem dX10_init_82 : decode cX10_init 82 = .ok (.new 58, 3) := by decide +kernel
theorem dX10_init_85 : decode cX10_init 85 = .ok (.dup, 1) := by decide +kernel
theorem dX10_init_86 : decode cX10_init 86 = .ok (.invokespecial 60, 3) := by decide +kernel
theorem dX10_init_89 : decode cX10_init 89 = .ok (.putfield 61, 3) := by decide +kernel
theorem dX10_init_92 : decode cX10_init 92 = .ok (.aload_n 0, 1) := by decide +kernel
theorem dX10_init_93 : decode cX10_init 93 = .ok (.new 65, 3) := by decide +kernel
theorem dX10_init_96 : decode cX10_init 96 = .ok (.dup, 1) := by decide +kernel
theorem dX10_init_97 : decode cX10_init 97 = .ok (.invokespecial 67, 3) := by decide +kernel
theorem dX10_init_100 : decode cX10_init 100 = .ok (.putfield 68, 3) := by decide +kernel
theorem dX10_init_103 : decode cX10_init 103 = .ok (.return_, 1) := by decide +kernel
set_option maxRecDepth 20000 in
theorem ggX10_told_X7_people : GoodIn wsX10_told wsX7_people := goodIn_r _ [15, 16, 137] (by decide +kernel) (by decide +kernel)
set_option maxRecDepth 20000 in
theorem gX10_told_X7_people : GoodIn wsX10_told (wsV RX10 72 RX7 yX7_people wsX7_people) := goodIn_app (goodIn_of _ (by decide +kernel)) ggX10_told_X7_people
set_option maxRecDepth 20000 in
theorem ggX10_told_X7_ruleNow : GoodIn wsX10_told wsX7_ruleNow := goodIn_r _ [20, 16, 137] (by decide +kernel) (by decide +kernel)
set_option maxRecDepth 20000 in
theorem gX10_told_X7_ruleNow : GoodIn wsX10_told (wsV RX10 76 RX7 yX7_ruleNow wsX7_ruleNow) := goodIn_app (goodIn_of _ (by decide +kernel)) ggX10_told_X7_ruleNow
set_option maxRecDepth 20000 in
theorem ggX10_told_X7_signs : GoodIn wsX10_told wsX7_signs := goodIn_r _ [24, 16, 137] (by decide +kernel) (by decide +kernel)
set_option maxRecDepth 20000 in
theorem gX10_told_X7_signs : GoodIn wsX10_told (wsV RX10 79 RX7 yX7_signs wsX7_signs) := goodIn_app (goodIn_of _ (by decide +kernel)) ggX10_told_X7_signs
set_option maxRecDepth 20000 in
theorem ggX10_told_X1_unlikeCoats : GoodIn wsX10_told wsX1_unlikeCoats := goodIn_r _ [29, 30, 31, 32, 28, 33, 34, 35, 36, 37, 38, 39, 40, 41, 42, 43, 44, 45, 46, 47, 48, 49, 50, 51, 125, 126, 127, 128, 129] (by decide +kernel) (by decide +kernel)
set_option maxRecDepth 20000 in
theorem gX10_told_X1_unlikeCoats : GoodIn wsX10_told (wsV RX10 86 RX1 yX1_unlikeCoats wsX1_unlikeCoats) := goodIn_app (goodIn_of _ (by decide +kernel)) ggX10_told_X1_unlikeCoats
set_option maxRecDepth 20000 in
theorem ggX10_told_X9_spoiledBit : GoodIn wsX10_told wsX9_spoiledBit := goodIn_r _ [56, 57, 138, 139, 140, 141, 142, 143, 144, 145] (by decide +kernel) (by decide +kernel)
set_option maxRecDepth 20000 in
theorem gX10_told_X9_spoiledBit : GoodIn wsX10_told (wsV RX10 89 RX9 yX9_spoiledBit wsX9_spoiledBit) := goodIn_app (goodIn_of _ (by decide +kernel)) ggX10_told_X9_spoiledBit
set_option maxRecDepth 20000 in
theorem ggX10_told_X8_meantByAll : GoodIn wsX10_told wsX8_meantByAll := goodIn_r _ [62, 63, 12, 13, 14, 15, 16, 64, 22, 23, 24, 65, 43, 44, 28, 45, 46, 66, 67, 61, 68, 69, 70, 71, 72, 73, 74, 48, 49, 50, 51, 42, 75, 76, 77, 137, 125, 126, 127, 128, 129] (by decide +kernel) (by decide +kernel)
set_option maxRecDepth 20000 in
theorem gX10_told_X8_meantByAll : GoodIn wsX10_told (wsV RX10 92 RX8 yX8_meantByAll wsX8_meantByAll) := goodIn_app (goodIn_of _ (by decide +kernel)) ggX10_told_X8_meantByAll
set_option maxRecDepth 20000 in
theorem ggX10_told_X8_meantBySome : GoodIn wsX10_told wsX8_meantBySome := goodIn_r _ [81, 63, 12, 13, 14, 15, 16, 64, 22, 23, 24, 69, 70, 71, 72, 73, 74, 48, 49, 28, 50, 51, 42, 43, 44, 45, 46, 75, 76, 61, 77, 82, 83, 84, 65, 137, 125, 126, 127, 128, 129] (by decide +kernel) (by decide +kernel)
set_option maxRecDepth 20000 in
theorem gX10_told_X8_meantBySome : GoodIn wsX10_told (wsV RX10 96 RX8 yX8_meantBySome wsX8_meantBySome) := goodIn_app (goodIn_of _ (by decide +kernel)) ggX10_told_X8_meantBySome
set_option maxRecDepth 20000 in
theorem ggX10_told_X8_likely : GoodIn wsX10_told wsX8_likely := goodIn_r _ [88, 63, 12, 13, 14, 15, 16, 89, 90, 91, 61, 92, 93, 94, 95, 96, 97, 65, 43, 44, 28, 45, 46, 64, 22, 23, 24, 69, 70, 71, 72, 73, 98, 99, 100, 101, 102, 103, 104, 74, 48, 49, 50, 51, 42, 137, 146, 125, 126, 127, 128, 129] (by decide +kernel) (by decide +kernel)
set_option maxRecDepth 20000 in
theorem gX10_told_X8_likely : GoodIn wsX10_told (wsV RX10 99 RX8 yX8_likely wsX8_likely) := goodIn_app (goodIn_of _ (by decide +kernel)) ggX10_told_X8_likely
set_option maxRecDepth 20000 in
theorem ggX10_told_X0_firstWrong : GoodIn wsX10_told wsX0_firstWrong := goodIn_r _ [109, 110, 111, 112, 113, 114, 115, 48, 49, 28, 50, 51, 42, 43, 44, 45, 46, 130, 131, 132, 133, 125, 126, 127, 128, 129] (by decide +kernel) (by decide +kernel)
set_option maxRecDepth 20000 in
theorem gX10_told_X0_firstWrong : GoodIn wsX10_told (wsV RX10 105 RX0 yX0_firstWrong wsX0_firstWrong) := goodIn_app (goodIn_of _ (by decide +kernel)) ggX10_told_X0_firstWrong
theorem dX10_told_0 : decode cX10_told 0 = .ok (.iload_n 1, 1) := by decide +kernel
theorem dX10_told_1 : decode cX10_told 1 = .ok (.tableswitch 187 0 11 #[63, 71, 79, 87, 95, 103, 111, 127, 143, 159, 167, 179], 63) := by decide +kernel
theorem dX10_told_64 : decode cX10_told 64 = .ok (.aload_n 0, 1) := by decide +kernel
theorem dX10_told_65 : decode cX10_told 65 = .ok (.getfield 10, 3) := by decide +kernel
theorem dX10_told_68 : decode cX10_told 68 = .ok (.invokevirtual 72, 3) := by decide +kernel
theorem dX10_told_71 : decode cX10_told 71 = .ok (.ireturn, 1) := by decide +kernel
theorem dX10_told_72 : decode cX10_told 72 = .ok (.aload_n 0, 1) := by decide +kernel
theorem dX10_told_73 : decode cX10_told 73 = .ok (.getfield 10, 3) := by decide +kernel
theorem dX10_told_76 : decode cX10_told 76 = .ok (.invokevirtual 76, 3) := by decide +kernel
theorem dX10_told_79 : decode cX10_told 79 = .ok (.ireturn, 1) := by decide +kernel
theorem dX10_told_80 : decode cX10_told 80 = .ok (.aload_n 0, 1) := by decide +kernel
theorem dX10_told_81 : decode cX10_told 81 = .ok (.getfield 10, 3) := by decide +kernel
theorem dX10_told_84 : decode cX10_told 84 = .ok (.invokevirtual 79, 3) := by decide +kernel
theorem dX10_told_87 : decode cX10_told 87 = .ok (.ireturn, 1) := by decide +kernel
theorem dX10_told_88 : decode cX10_told 88 = .ok (.aload_n 0, 1) := by decide +kernel
theorem dX10_told_89 : decode cX10_told 89 = .ok (.getfield 19, 3) := by decide +kernel
theorem dX10_told_92 : decode cX10_told 92 = .ok (.getfield 82, 3) := by decide +kernel
theorem dX10_told_95 : decode cX10_told 95 = .ok (.ireturn, 1) := by decide +kernel
theorem dX10_told_96 : decode cX10_told 96 = .ok (.aload_n 0, 1) := by decide +kernel
theorem dX10_told_97 : decode cX10_told 97 = .ok (.getfield 19, 3) := by decide +kernel
theorem dX10_told_100 : decode cX10_told 100 = .ok (.invokevirtual 86, 3) := by decide +kernel
theorem dX10_told_103 : decode cX10_told 103 = .ok (.ireturn, 1) := by decide +kernel
theorem dX10_told_104 : decode cX10_told 104 = .ok (.aload_n 0, 1) := by decide +kernel
theorem dX10_told_105 : decode cX10_told 105 = .ok (.getfield 26, 3) := by decide +kernel
theorem dX10_told_108 : decode cX10_told 108 = .ok (.invokevirtual 89, 3) := by decide +kernel
theorem dX10_told_111 : decode cX10_told 111 = .ok (.ireturn, 1) := by decide +kernel
theorem dX10_told_112 : decode cX10_told 112 = .ok (.aload_n 0, 1) := by decide +kernel
theorem dX10_told_113 : decode cX10_told 113 = .ok (.getfield 33, 3) := by decide +kernel
theorem dX10_told_116 : decode cX10_told 116 = .ok (.aload_n 0, 1) := by decide +kernel
theorem dX10_told_117 : decode cX10_told 117 = .ok (.getfield 10, 3) := by decide +kernel
theorem dX10_told_120 : decode cX10_told 120 = .ok (.aload_n 0, 1) := by decide +kernel
theorem dX10_told_121 : decode cX10_told 121 = .ok (.getfield 19, 3) := by decide +kernel
theorem dX10_told_124 : decode cX10_told 124 = .ok (.invokevirtual 92, 3) := by decide +kernel
theorem dX10_told_127 : decode cX10_told 127 = .ok (.ireturn, 1) := by decide +kernel
theorem dX10_told_128 : decode cX10_told 128 = .ok (.aload_n 0, 1) := by decide +kernel
theorem dX10_told_129 : decode cX10_told 129 = .ok (.getfield 33, 3) := by decide +kernel
theorem dX10_told_132 : decode cX10_told 132 = .ok (.aload_n 0, 1) := by decide +kernel
theorem dX10_told_133 : decode cX10_told 133 = .ok (.getfield 10, 3) := by decide +kernel
theorem dX10_told_136 : decode cX10_told 136 = .ok (.aload_n 0, 1) := by decide +kernel
theorem dX10_told_137 : decode cX10_told 137 = .ok (.getfield 19, 3) := by decide +kernel
theorem dX10_told_140 : decode cX10_told 140 = .ok (.invokevirtual 96, 3) := by decide +kernel
theorem dX10_told_143 : decode cX10_told 143 = .ok (.ireturn, 1) := by decide +kernel
theorem dX10_told_144 : decode cX10_told 144 = .ok (.aload_n 0, 1) := by decide +kernel
theorem dX10_told_145 : decode cX10_told 145 = .ok (.getfield 33, 3) := by decide +kernel
theorem dX10_told_148 : decode cX10_told 148 = .ok (.aload_n 0, 1) := by decide +kernel
theorem dX10_told_149 : decode cX10_told 149 = .ok (.getfield 10, 3) := by decide +kernel
theorem dX10_told_152 : decode cX10_told 152 = .ok (.aload_n 0, 1) := by decide +kernel
theorem dX10_told_153 : decode cX10_told 153 = .ok (.getfield 19, 3) := by decide +kernel
theorem dX10_told_156 : decode cX10_told 156 = .ok (.invokevirtual 99, 3) := by decide +kernel
theorem dX10_told_159 : decode cX10_told 159 = .ok (.ireturn, 1) := by decide +kernel
theorem dX10_told_160 : decode cX10_told 160 = .ok (.aload_n 0, 1) := by decide +kernel
theorem dX10_told_161 : decode cX10_told 161 = .ok (.getfield 47, 3) := by decide +kernel
theorem dX10_told_164 : decode cX10_told 164 = .ok (.getfield 102, 3) := by decide +kernel
theorem dX10_told_167 : decode cX10_told 167 = .ok (.ireturn, 1) := by decide +kernel
theorem dX10_told_168 : decode cX10_told 168 = .ok (.aload_n 0, 1) := by decide +kernel
theorem dX10_told_169 : decode cX10_told 169 = .ok (.getfield 47, 3) := by decide +kernel
theorem dX10_told_172 : decode cX10_told 172 = .ok (.aload_n 0, 1) := by decide +kernel
theorem dX10_told_173 : decode cX10_told 173 = .ok (.getfield 19, 3) := by decide +kernel
theorem dX10_told_176 : decode cX10_told 176 = .ok (.invokevirtual 105, 3) := by decide +kernel
theorem dX10_told_179 : decode cX10_told 179 = .ok (.ireturn, 1) := by decide +kernel
theorem dX10_told_180 : decode cX10_told 180 = .ok (.aload_n 0, 1) := by decide +kernel
theorem dX10_told_181 : decode cX10_told 181 = .ok (.getfield 54, 3) := by decide +kernel
theorem dX10_told_184 : decode cX10_told 184 = .ok (.getfield 109, 3) := by decide +kernel
theorem dX10_told_187 : decode cX10_told 187 = .ok (.ireturn, 1) := by decide +kernel
theorem dX10_told_188 : decode cX10_told 188 = .ok (.ldc 112, 2) := by decide +kernel
theorem dX10_told_190 : decode cX10_told 190 = .ok (.ireturn, 1) := by decide +kernel
set_option maxRecDepth 20000 in
theorem ggX10_person_X7_has : GoodIn wsX10_person wsX7_has := goodIn_r _ [11, 12, 124] (by decide +kernel) (by decide +kernel)
set_option maxRecDepth 20000 in
theorem gX10_person_X7_has : GoodIn wsX10_person (wsV RX10 113 RX7 yX7_has wsX7_has) := goodIn_app (goodIn_of _ (by decide +kernel)) ggX10_person_X7_has
set_option maxRecDepth 20000 in
theorem ggX10_person_X7_fact : GoodIn wsX10_person wsX7_fact := goodIn_r _ [16, 12, 17, 8, 9, 10, 11, 124] (by decide +kernel) (by decide +kernel)
set_option maxRecDepth 20000 in
theorem gX10_person_X7_fact : GoodIn wsX10_person (wsV RX10 118 RX7 yX7_fact wsX7_fact) := goodIn_app (goodIn_of _ (by decide +kernel)) ggX10_person_X7_fact
set_option maxRecDepth 20000 in
theorem ggX10_person_X1_sizeOf : GoodIn wsX10_person wsX1_sizeOf := goodIn_r _ [22, 23, 125, 126, 127, 128, 129] (by decide +kernel) (by decide +kernel)
set_option maxRecDepth 20000 in
theorem gX10_person_X1_sizeOf : GoodIn wsX10_person (wsV RX10 122 RX1 yX1_sizeOf wsX1_sizeOf) := goodIn_app (goodIn_of _ (by decide +kernel)) ggX10_person_X1_sizeOf
set_option maxRecDepth 20000 in
theorem ggX10_person_X1_sameAs : GoodIn wsX10_person wsX1_sameAs := goodIn_r _ [27, 28, 29, 30, 31, 21, 32, 33, 19, 20, 22, 23, 34, 35, 36, 37, 38, 125, 126, 127, 128, 129] (by decide +kernel) (by decide +kernel)
set_option maxRecDepth 20000 in
theorem gX10_person_X1_sameAs : GoodIn wsX10_person (wsV RX10 126 RX1 yX1_sameAs wsX1_sameAs) := goodIn_app (goodIn_of _ (by decide +kernel)) ggX10_person_X1_sameAs
set_option maxRecDepth 20000 in
theorem ggX10_person_X8_like : GoodIn wsX10_person wsX8_like := goodIn_r _ [43, 44, 45, 46, 47, 48, 49, 19, 20, 21, 22, 23, 50, 51, 52, 10, 53, 12, 54, 55, 56, 57, 58, 59, 60, 61, 42, 62, 63, 64, 65, 66, 35, 36, 37, 38, 33, 130, 125, 126, 127, 128, 129, 124] (by decide +kernel) (by decide +kernel)
set_option maxRecDepth 20000 in
theorem gX10_person_X8_like : GoodIn wsX10_person (wsV RX10 129 RX8 yX8_like wsX8_like) := goodIn_app (goodIn_of _ (by decide +kernel)) ggX10_person_X8_like
set_option maxRecDepth 20000 in
theorem ggX10_person_X7_childrenOf : GoodIn wsX10_person wsX7_childrenOf := goodIn_r _ [70, 71, 72, 73, 10, 74, 12, 75, 14, 15, 16, 17, 8, 9, 11, 124] (by decide +kernel) (by decide +kernel)
set_option maxRecDepth 20000 in
theorem gX10_person_X7_childrenOf : GoodIn wsX10_person (wsV RX10 133 RX7 yX7_childrenOf wsX7_childrenOf) := goodIn_app (goodIn_of _ (by decide +kernel)) ggX10_person_X7_childrenOf
set_option maxRecDepth 20000 in
theorem ggX10_person_X9_leastBirth : GoodIn wsX10_person wsX9_leastBirth := goodIn_r _ [80, 81, 82, 79, 83, 84, 85, 86, 87, 88, 89, 90, 91, 92, 93, 94, 131, 132, 133, 134, 135, 136, 137, 138] (by decide +kernel) (by decide +kernel)
set_option maxRecDepth 20000 in
theorem gX10_person_X9_leastBirth : GoodIn wsX10_person (wsV RX10 136 RX9 yX9_leastBirth wsX9_leastBirth) := goodIn_app (goodIn_of _ (by decide +kernel)) ggX10_person_X9_leastBirth
set_option maxRecDepth 20000 in
theorem ggX10_person_X9_greatestBirth : GoodIn wsX10_person wsX9_greatestBirth := goodIn_r _ [98, 81, 82, 79, 83, 99, 100, 101, 102, 103, 89, 90, 91, 92, 93, 94, 131, 132, 133, 134, 135, 136, 137, 138] (by decide +kernel) (by decide +kernel)
set_option maxRecDepth 20000 in
theorem gX10_person_X9_greatestBirth : GoodIn wsX10_person (wsV RX10 139 RX9 yX9_greatestBirth wsX9_greatestBirth) := goodIn_app (goodIn_of _ (by decide +kernel)) ggX10_person_X9_greatestBirth
set_option maxRecDepth 20000 in
theorem ggX10_person_X9_leastDeath : GoodIn wsX10_person wsX9_leastDeath := goodIn_r _ [107, 108, 109, 79, 110, 84, 85, 86, 87, 88, 89, 90, 91, 92, 93, 94, 131, 132, 133, 134, 135, 136, 137, 138] (by decide +kernel) (by decide +kernel)
set_option maxRecDepth 20000 in
theorem gX10_person_X9_leastDeath : GoodIn wsX10_person (wsV RX10 142 RX9 yX9_leastDeath wsX9_leastDeath) := goodIn_app (goodIn_of _ (by decide +kernel)) ggX10_person_X9_leastDeath
set_option maxRecDepth 20000 in
theorem ggX10_person_X9_greatestDeath : GoodIn wsX10_person wsX9_greatestDeath := goodIn_r _ [114, 108, 109, 79, 110, 99, 100, 101, 102, 103, 89, 90, 91, 92, 93, 94, 131, 132, 133, 134, 135, 136, 137, 138] (by decide +kernel) (by decide +kernel)
set_option maxRecDepth 20000 in
theorem gX10_person_X9_greatestDeath : GoodIn wsX10_person (wsV RX10 145 RX9 yX9_greatestDeath wsX9_greatestDeath) := goodIn_app (goodIn_of _ (by decide +kernel)) ggX10_person_X9_greatestDeath
theorem dX10_person_0 : decode cX10_person 0 = .ok (.aload_n 0, 1) := by decide +kernel
theorem dX10_person_1 : decode cX10_person 1 = .ok (.getfield 10, 3) := by decide +kernel
theorem dX10_person_4 : decode cX10_person 4 = .ok (.iload_n 1, 1) := by decide +kernel
theorem dX10_person_5 : decode cX10_person 5 = .ok (.invokevirtual 113, 3) := by decide +kernel
theorem dX10_person_8 : decode cX10_person 8 = .ok (.ifCond .ne 6, 3) := by decide +kernel
theorem dX10_person_11 : decode cX10_person 11 = .ok (.ldc 117, 2) := by decide +kernel
theorem dX10_person_13 : decode cX10_person 13 = .ok (.ireturn, 1) := by decide +kernel
theorem dX10_person_14 : decode cX10_person 14 = .ok (.iload_n 2, 1) := by decide +kernel
theorem dX10_person_15 : decode cX10_person 15 = .ok (.tableswitch 239 0 15 #[77, 87, 97, 107, 117, 126, 135, 152, 161, 171, 181, 192, 203, 212, 221, 230], 77) := by decide +kernel
theorem dX10_person_92 : decode cX10_person 92 = .ok (.aload_n 0, 1) := by decide +kernel
theorem dX10_person_93 : decode cX10_person 93 = .ok (.getfield 10, 3) := by decide +kernel
theorem dX10_person_96 : decode cX10_person 96 = .ok (.iload_n 1, 1) := by decide +kernel
theorem dX10_person_97 : decode cX10_person 97 = .ok (.iconst 0, 1) := by decide +kernel
theorem dX10_person_98 : decode cX10_person 98 = .ok (.invokevirtual 118, 3) := by decide +kernel
theorem dX10_person_101 : decode cX10_person 101 = .ok (.ireturn, 1) := by decide +kernel
theorem dX10_person_102 : decode cX10_person 102 = .ok (.aload_n 0, 1) := by decide +kernel
theorem dX10_person_103 : decode cX10_person 103 = .ok (.getfield 10, 3) := by decide +kernel
theorem dX10_person_106 : decode cX10_person 106 = .ok (.iload_n 1, 1) := by decide +kernel
theorem dX10_person_107 : decode cX10_person 107 = .ok (.iconst 1, 1) := by decide +kernel
theorem dX10_person_108 : decode cX10_person 108 = .ok (.invokevirtual 118, 3) := by decide +kernel
theorem dX10_person_111 : decode cX10_person 111 = .ok (.ireturn, 1) := by decide +kernel
theorem dX10_person_112 : decode cX10_person 112 = .ok (.aload_n 0, 1) := by decide +kernel
theorem dX10_person_113 : decode cX10_person 113 = .ok (.getfield 10, 3) := by decide +kernel
theorem dX10_person_116 : decode cX10_person 116 = .ok (.iload_n 1, 1) := by decide +kernel
theorem dX10_person_117 : decode cX10_person 117 = .ok (.iconst 2, 1) := by decide +kernel
theorem dX10_person_118 : decode cX10_person 118 = .ok (.invokevirtual 118, 3) := by decide +kernel
theorem dX10_person_121 : decode cX10_person 121 = .ok (.ireturn, 1) := by decide +kernel
theorem dX10_person_122 : decode cX10_person 122 = .ok (.aload_n 0, 1) := by decide +kernel
theorem dX10_person_123 : decode cX10_person 123 = .ok (.getfield 10, 3) := by decide +kernel
theorem dX10_person_126 : decode cX10_person 126 = .ok (.iload_n 1, 1) := by decide +kernel
theorem dX10_person_127 : decode cX10_person 127 = .ok (.iconst 3, 1) := by decide +kernel
theorem dX10_person_128 : decode cX10_person 128 = .ok (.invokevirtual 118, 3) := by decide +kernel
theorem dX10_person_131 : decode cX10_person 131 = .ok (.ireturn, 1) := by decide +kernel
theorem dX10_person_132 : decode cX10_person 132 = .ok (.aload_n 0, 1) := by decide +kernel
theorem dX10_person_133 : decode cX10_person 133 = .ok (.getfield 19, 3) := by decide +kernel
theorem dX10_person_136 : decode cX10_person 136 = .ok (.iload_n 1, 1) := by decide +kernel
theorem dX10_person_137 : decode cX10_person 137 = .ok (.invokevirtual 122, 3) := by decide +kernel
theorem dX10_person_140 : decode cX10_person 140 = .ok (.ireturn, 1) := by decide +kernel
theorem dX10_person_141 : decode cX10_person 141 = .ok (.aload_n 0, 1) := by decide +kernel
theorem dX10_person_142 : decode cX10_person 142 = .ok (.getfield 19, 3) := by decide +kernel
theorem dX10_person_145 : decode cX10_person 145 = .ok (.iload_n 1, 1) := by decide +kernel
theorem dX10_person_146 : decode cX10_person 146 = .ok (.invokevirtual 126, 3) := by decide +kernel
theorem dX10_person_149 : decode cX10_person 149 = .ok (.ireturn, 1) := by decide +kernel
theorem dX10_person_150 : decode cX10_person 150 = .ok (.aload_n 0, 1) := by decide +kernel
theorem dX10_person_151 : decode cX10_person 151 = .ok (.getfield 33, 3) := by decide +kernel
theorem dX10_person_154 : decode cX10_person 154 = .ok (.aload_n 0, 1) := by decide +kernel
theorem dX10_person_155 : decode cX10_person 155 = .ok (.getfield 10, 3) := by decide +kernel
theorem dX10_person_158 : decode cX10_person 158 = .ok (.aload_n 0, 1) := by decide +kernel
theorem dX10_person_159 : decode cX10_person 159 = .ok (.getfield 19, 3) := by decide +kernel
theorem dX10_person_162 : decode cX10_person 162 = .ok (.iload_n 1, 1) := by decide +kernel
theorem dX10_person_163 : decode cX10_person 163 = .ok (.invokevirtual 129, 3) := by decide +kernel
theorem dX10_person_166 : decode cX10_person 166 = .ok (.ireturn, 1) := by decide +kernel
theorem dX10_person_167 : decode cX10_person 167 = .ok (.aload_n 0, 1) := by decide +kernel
theorem dX10_person_168 : decode cX10_person 168 = .ok (.getfield 10, 3) := by decide +kernel
theorem dX10_person_171 : decode cX10_person 171 = .ok (.iload_n 1, 1) := by decide +kernel
theorem dX10_person_172 : decode cX10_person 172 = .ok (.invokevirtual 133, 3) := by decide +kernel
theorem dX10_person_175 : decode cX10_person 175 = .ok (.ireturn, 1) := by decide +kernel
theorem dX10_person_176 : decode cX10_person 176 = .ok (.aload_n 0, 1) := by decide +kernel
theorem dX10_person_177 : decode cX10_person 177 = .ok (.getfield 10, 3) := by decide +kernel
theorem dX10_person_180 : decode cX10_person 180 = .ok (.iload_n 1, 1) := by decide +kernel
theorem dX10_person_181 : decode cX10_person 181 = .ok (.iconst 4, 1) := by decide +kernel
theorem dX10_person_182 : decode cX10_person 182 = .ok (.invokevirtual 118, 3) := by decide +kernel
theorem dX10_person_185 : decode cX10_person 185 = .ok (.ireturn, 1) := by decide +kernel
theorem dX10_person_186 : decode cX10_person 186 = .ok (.aload_n 0, 1) := by decide +kernel
theorem dX10_person_187 : decode cX10_person 187 = .ok (.getfield 10, 3) := by decide +kernel
theorem dX10_person_190 : decode cX10_person 190 = .ok (.iload_n 1, 1) := by decide +kernel
theorem dX10_person_191 : decode cX10_person 191 = .ok (.iconst 5, 1) := by decide +kernel
theorem dX10_person_192 : decode cX10_person 192 = .ok (.invokevirtual 118, 3) := by decide +kernel
theorem dX10_person_195 : decode cX10_person 195 = .ok (.ireturn, 1) := by decide +kernel
theorem dX10_person_196 : decode cX10_person 196 = .ok (.aload_n 0, 1) := by decide +kernel
theorem dX10_person_197 : decode cX10_person 197 = .ok (.getfield 10, 3) := by decide +kernel
theorem dX10_person_200 : decode cX10_person 200 = .ok (.iload_n 1, 1) := by decide +kernel
theorem dX10_person_201 : decode cX10_person 201 = .ok (.bipush 6, 2) := by decide +kernel
theorem dX10_person_203 : decode cX10_person 203 = .ok (.invokevirtual 118, 3) := by decide +kernel
theorem dX10_person_206 : decode cX10_person 206 = .ok (.ireturn, 1) := by decide +kernel
theorem dX10_person_207 : decode cX10_person 207 = .ok (.aload_n 0, 1) := by decide +kernel
theorem dX10_person_208 : decode cX10_person 208 = .ok (.getfield 10, 3) := by decide +kernel
theorem dX10_person_211 : decode cX10_person 211 = .ok (.iload_n 1, 1) := by decide +kernel
theorem dX10_person_212 : decode cX10_person 212 = .ok (.bipush 7, 2) := by decide +kernel
theorem dX10_person_214 : decode cX10_person 214 = .ok (.invokevirtual 118, 3) := by decide +kernel
theorem dX10_person_217 : decode cX10_person 217 = .ok (.ireturn, 1) := by decide +kernel
theorem dX10_person_218 : decode cX10_person 218 = .ok (.aload_n 0, 1) := by decide +kernel
theorem dX10_person_219 : decode cX10_person 219 = .ok (.getfield 26, 3) := by decide +kernel
theorem dX10_person_222 : decode cX10_person 222 = .ok (.iload_n 1, 1) := by decide +kernel
theorem dX10_person_223 : decode cX10_person 223 = .ok (.invokevirtual 136, 3) := by decide +kernel
theorem dX10_person_226 : decode cX10_person 226 = .ok (.ireturn, 1) := by decide +kernel
theorem dX10_person_227 : decode cX10_person 227 = .ok (.aload_n 0, 1) := by decide +kernel
theorem dX10_person_228 : decode cX10_person 228 = .ok (.getfield 26, 3) := by decide +kernel
theorem dX10_person_231 : decode cX10_person 231 = .ok (.iload_n 1, 1) := by decide +kernel
theorem dX10_person_232 : decode cX10_person 232 = .ok (.invokevirtual 139, 3) := by decide +kernel
theorem dX10_person_235 : decode cX10_person 235 = .ok (.ireturn, 1) := by decide +kernel
theorem dX10_person_236 : decode cX10_person 236 = .ok (.aload_n 0, 1) := by decide +kernel
theorem dX10_person_237 : decode cX10_person 237 = .ok (.getfield 26, 3) := by decide +kernel
theorem dX10_person_240 : decode cX10_person 240 = .ok (.iload_n 1, 1) := by decide +kernel
theorem dX10_person_241 : decode cX10_person 241 = .ok (.invokevirtual 142, 3) := by decide +kernel
theorem dX10_person_244 : decode cX10_person 244 = .ok (.ireturn, 1) := by decide +kernel
theorem dX10_person_245 : decode cX10_person 245 = .ok (.aload_n 0, 1) := by decide +kernel
theorem dX10_person_246 : decode cX10_person 246 = .ok (.getfield 26, 3) := by decide +kernel
theorem dX10_person_249 : decode cX10_person 249 = .ok (.iload_n 1, 1) := by decide +kernel
theorem dX10_person_250 : decode cX10_person 250 = .ok (.invokevirtual 145, 3) := by decide +kernel
theorem dX10_person_253 : decode cX10_person 253 = .ok (.ireturn, 1) := by decide +kernel
theorem dX10_person_254 : decode cX10_person 254 = .ok (.ldc 112, 2) := by decide +kernel
theorem dX10_person_256 : decode cX10_person 256 = .ok (.ireturn, 1) := by decide +kernel
set_option maxRecDepth 20000 in
theorem ggX10_quarter_X7_has : GoodIn wsX10_quarter wsX7_has := goodIn_r _ [9, 10, 36] (by decide +kernel) (by decide +kernel)
set_option maxRecDepth 20000 in
theorem gX10_quarter_X7_has : GoodIn wsX10_quarter (wsV RX10 113 RX7 yX7_has wsX7_has) := goodIn_app (goodIn_of _ (by decide +kernel)) ggX10_quarter_X7_has
set_option maxRecDepth 20000 in
theorem ggX10_quarter_X1_armsAt : GoodIn wsX10_quarter wsX1_armsAt := goodIn_r _ [15, 16, 17, 18, 19, 14, 20, 21, 37, 38, 39, 40, 41] (by decide +kernel) (by decide +kernel)
set_option maxRecDepth 20000 in
theorem gX10_quarter_X1_armsAt : GoodIn wsX10_quarter (wsV RX10 148 RX1 yX1_armsAt wsX1_armsAt) := goodIn_app (goodIn_of _ (by decide +kernel)) ggX10_quarter_X1_armsAt
set_option maxRecDepth 20000 in
theorem ggX10_quarter_X1_throughAt : GoodIn wsX10_quarter wsX1_throughAt := goodIn_r _ [25, 26, 17, 18, 19, 14, 20, 21, 37, 38, 39, 40, 41] (by decide +kernel) (by decide +kernel)
set_option maxRecDepth 20000 in
theorem gX10_quarter_X1_throughAt : GoodIn wsX10_quarter (wsV RX10 151 RX1 yX1_throughAt wsX1_throughAt) := goodIn_app (goodIn_of _ (by decide +kernel)) ggX10_quarter_X1_throughAt
theorem dX10_quarter_0 : decode cX10_quarter 0 = .ok (.aload_n 0, 1) := by decide +kernel
theorem dX10_quarter_1 : decode cX10_quarter 1 = .ok (.getfield 10, 3) := by decide +kernel
theorem dX10_quarter_4 : decode cX10_quarter 4 = .ok (.iload_n 1, 1) := by decide +kernel
theorem dX10_quarter_5 : decode cX10_quarter 5 = .ok (.invokevirtual 113, 3) := by decide +kernel
theorem dX10_quarter_8 : decode cX10_quarter 8 = .ok (.ifCond .ne 6, 3) := by decide +kernel
theorem dX10_quarter_11 : decode cX10_quarter 11 = .ok (.ldc 117, 2) := by decide +kernel
theorem dX10_quarter_13 : decode cX10_quarter 13 = .ok (.ireturn, 1) := by decide +kernel
theorem dX10_quarter_14 : decode cX10_quarter 14 = .ok (.iload_n 3, 1) := by decide +kernel
theorem dX10_quarter_15 : decode cX10_quarter 15 = .ok (.ifCond .ne 13, 3) := by decide +kernel
theorem dX10_quarter_18 : decode cX10_quarter 18 = .ok (.aload_n 0, 1) := by decide +kernel
theorem dX10_quarter_19 : decode cX10_quarter 19 = .ok (.getfield 19, 3) := by decide +kernel
theorem dX10_quarter_22 : decode cX10_quarter 22 = .ok (.iload_n 1, 1) := by decide +kernel
theorem dX10_quarter_23 : decode cX10_quarter 23 = .ok (.iload_n 2, 1) := by decide +kernel
theorem dX10_quarter_24 : decode cX10_quarter 24 = .ok (.invokevirtual 148, 3) := by decide +kernel
theorem dX10_quarter_27 : decode cX10_quarter 27 = .ok (.ireturn, 1) := by decide +kernel
theorem dX10_quarter_28 : decode cX10_quarter 28 = .ok (.iload_n 3, 1) := by decide +kernel
theorem dX10_quarter_29 : decode cX10_quarter 29 = .ok (.iconst 1, 1) := by decide +kernel
theorem dX10_quarter_30 : decode cX10_quarter 30 = .ok (.if_icmp .ne 13, 3) := by decide +kernel
theorem dX10_quarter_33 : decode cX10_quarter 33 = .ok (.aload_n 0, 1) := by decide +kernel
theorem dX10_quarter_34 : decode cX10_quarter 34 = .ok (.getfield 19, 3) := by decide +kernel
theorem dX10_quarter_37 : decode cX10_quarter 37 = .ok (.iload_n 1, 1) := by decide +kernel
theorem dX10_quarter_38 : decode cX10_quarter 38 = .ok (.iload_n 2, 1) := by decide +kernel
theorem dX10_quarter_39 : decode cX10_quarter 39 = .ok (.invokevirtual 151, 3) := by decide +kernel
theorem dX10_quarter_42 : decode cX10_quarter 42 = .ok (.ireturn, 1) := by decide +kernel
theorem dX10_quarter_43 : decode cX10_quarter 43 = .ok (.ldc 112, 2) := by decide +kernel
theorem dX10_quarter_45 : decode cX10_quarter 45 = .ok (.ireturn, 1) := by decide +kernel
set_option maxRecDepth 20000 in
theorem ggX10_kin_X7_has : GoodIn wsX10_kin wsX7_has := goodIn_r _ [11, 12, 54] (by decide +kernel) (by decide +kernel)
set_option maxRecDepth 20000 in
theorem gX10_kin_X7_has : GoodIn wsX10_kin (wsV RX10 113 RX7 yX7_has wsX7_has) := goodIn_app (goodIn_of _ (by decide +kernel)) ggX10_kin_X7_has
set_option maxRecDepth 20000 in
theorem ggX10_kin_X4_seek : GoodIn wsX10_kin wsX4_seek := goodIn_r _ [17, 18, 19, 20, 21, 22, 23, 16, 24, 25, 26, 27, 28, 29, 30, 31, 10, 32, 12, 33, 8, 9, 11, 34, 35, 36, 37, 38, 39, 40, 50, 51, 52, 53, 54] (by decide +kernel) (by decide +kernel)
set_option maxRecDepth 20000 in
theorem gX10_kin_X4_seek : GoodIn wsX10_kin (wsV RX10 154 RX4 yX4_seek wsX4_seek) := goodIn_app (goodIn_of _ (by decide +kernel)) ggX10_kin_X4_seek
theorem dX10_kin_0 : decode cX10_kin 0 = .ok (.aload_n 0, 1) := by decide +kernel
theorem dX10_kin_1 : decode cX10_kin 1 = .ok (.getfield 10, 3) := by decide +kernel
theorem dX10_kin_4 : decode cX10_kin 4 = .ok (.iload_n 1, 1) := by decide +kernel
theorem dX10_kin_5 : decode cX10_kin 5 = .ok (.invokevirtual 113, 3) := by decide +kernel
theorem dX10_kin_8 : decode cX10_kin 8 = .ok (.ifCond .eq 14, 3) := by decide +kernel
theorem dX10_kin_11 : decode cX10_kin 11 = .ok (.aload_n 0, 1) := by decide +kernel
theorem dX10_kin_12 : decode cX10_kin 12 = .ok (.getfield 10, 3) := by decide +kernel
theorem dX10_kin_15 : decode cX10_kin 15 = .ok (.iload_n 2, 1) := by decide +kernel
theorem dX10_kin_16 : decode cX10_kin 16 = .ok (.invokevirtual 113, 3) := by decide +kernel
theorem dX10_kin_19 : decode cX10_kin 19 = .ok (.ifCond .ne 6, 3) := by decide +kernel
theorem dX10_kin_22 : decode cX10_kin 22 = .ok (.ldc 117, 2) := by decide +kernel
theorem dX10_kin_24 : decode cX10_kin 24 = .ok (.ireturn, 1) := by decide +kernel
theorem dX10_kin_25 : decode cX10_kin 25 = .ok (.iload_n 3, 1) := by decide +kernel
theorem dX10_kin_26 : decode cX10_kin 26 = .ok (.ifCond .lt 8, 3) := by decide +kernel
theorem dX10_kin_29 : decode cX10_kin 29 = .ok (.iload_n 3, 1) := by decide +kernel
theorem dX10_kin_30 : decode cX10_kin 30 = .ok (.iconst 1, 1) := by decide +kernel
theorem dX10_kin_31 : decode cX10_kin 31 = .ok (.if_icmp .le 6, 3) := by decide +kernel
theorem dX10_kin_34 : decode cX10_kin 34 = .ok (.ldc 112, 2) := by decide +kernel
theorem dX10_kin_36 : decode cX10_kin 36 = .ok (.ireturn, 1) := by decide +kernel
theorem dX10_kin_37 : decode cX10_kin 37 = .ok (.aload_n 0, 1) := by decide +kernel
theorem dX10_kin_38 : decode cX10_kin 38 = .ok (.getfield 40, 3) := by decide +kernel
theorem dX10_kin_41 : decode cX10_kin 41 = .ok (.aload_n 0, 1) := by decide +kernel
theorem dX10_kin_42 : decode cX10_kin 42 = .ok (.getfield 10, 3) := by decide +kernel
theorem dX10_kin_45 : decode cX10_kin 45 = .ok (.iload_n 1, 1) := by decide +kernel
theorem dX10_kin_46 : decode cX10_kin 46 = .ok (.iload_n 2, 1) := by decide +kernel
theorem dX10_kin_47 : decode cX10_kin 47 = .ok (.invokevirtual 154, 3) := by decide +kernel
theorem dX10_kin_50 : decode cX10_kin 50 = .ok (.iload_n 3, 1) := by decide +kernel
theorem dX10_kin_51 : decode cX10_kin 51 = .ok (.ifCond .ne 13, 3) := by decide +kernel
theorem dX10_kin_54 : decode cX10_kin 54 = .ok (.aload_n 0, 1) := by decide +kernel
theorem dX10_kin_55 : decode cX10_kin 55 = .ok (.getfield 40, 3) := by decide +kernel
theorem dX10_kin_58 : decode cX10_kin 58 = .ok (.getfield 158, 3) := by decide +kernel
theorem dX10_kin_61 : decode cX10_kin 61 = .ok (.goto 10, 3) := by decide +kernel
theorem dX10_kin_64 : decode cX10_kin 64 = .ok (.aload_n 0, 1) := by decide +kernel
theorem dX10_kin_65 : decode cX10_kin 65 = .ok (.getfield 40, 3) := by decide +kernel
theorem dX10_kin_68 : decode cX10_kin 68 = .ok (.getfield 161, 3) := by decide +kernel
theorem dX10_kin_71 : decode cX10_kin 71 = .ok (.ireturn, 1) := by decide +kernel
set_option maxRecDepth 20000 in
theorem ggX10_would_X7_has : GoodIn wsX10_would wsX7_has := goodIn_r _ [9, 10, 74] (by decide +kernel) (by decide +kernel)
set_option maxRecDepth 20000 in
theorem gX10_would_X7_has : GoodIn wsX10_would (wsV RX10 113 RX7 yX7_has wsX7_has) := goodIn_app (goodIn_of _ (by decide +kernel)) ggX10_would_X7_has
set_option maxRecDepth 20000 in
theorem ggX10_would_X7_isMan : GoodIn wsX10_would wsX7_isMan := goodIn_r _ [14, 15, 16, 17, 8, 18, 10, 19, 6, 7, 9, 74] (by decide +kernel) (by decide +kernel)
set_option maxRecDepth 20000 in
theorem gX10_would_X7_isMan : GoodIn wsX10_would (wsV RX10 164 RX7 yX7_isMan wsX7_isMan) := goodIn_app (goodIn_of _ (by decide +kernel)) ggX10_would_X7_isMan
set_option maxRecDepth 20000 in
theorem ggX10_would_X7_isWoman : GoodIn wsX10_would wsX7_isWoman := goodIn_r _ [23, 15, 16, 17, 8, 18, 10, 19, 6, 7, 9, 74] (by decide +kernel) (by decide +kernel)
set_option maxRecDepth 20000 in
theorem gX10_would_X7_isWoman : GoodIn wsX10_would (wsV RX10 167 RX7 yX7_isWoman wsX7_isWoman) := goodIn_app (goodIn_of _ (by decide +kernel)) ggX10_would_X7_isWoman
set_option maxRecDepth 20000 in
theorem ggX10_would_X1_sizeForChild : GoodIn wsX10_would wsX1_sizeForChild := goodIn_r _ [28, 29, 30, 31, 27, 32, 33, 34, 35, 36, 37, 8, 38, 10, 39, 40, 41, 42, 16, 17, 18, 19, 6, 7, 9, 43, 44, 45, 46, 47, 48, 49, 50, 51, 52, 53, 54, 55, 56, 57, 58, 59, 60, 61, 62, 63, 64, 75, 76, 77, 78, 79, 74] (by decide +kernel) (by decide +kernel)
set_option maxRecDepth 20000 in
theorem gX10_would_X1_sizeForChild : GoodIn wsX10_would (wsV RX10 171 RX1 yX1_sizeForChild wsX1_sizeForChild) := goodIn_app (goodIn_of _ (by decide +kernel)) ggX10_would_X1_sizeForChild
theorem dX10_would_0 : decode cX10_would 0 = .ok (.aload_n 0, 1) := by decide +kernel
theorem dX10_would_1 : decode cX10_would 1 = .ok (.getfield 10, 3) := by decide +kernel
theorem dX10_would_4 : decode cX10_would 4 = .ok (.iload_n 1, 1) := by decide +kernel
theorem dX10_would_5 : decode cX10_would 5 = .ok (.invokevirtual 113, 3) := by decide +kernel
theorem dX10_would_8 : decode cX10_would 8 = .ok (.ifCond .eq 19, 3) := by decide +kernel
theorem dX10_would_11 : decode cX10_would 11 = .ok (.aload_n 0, 1) := by decide +kernel
theorem dX10_would_12 : decode cX10_would 12 = .ok (.getfield 10, 3) := by decide +kernel
theorem dX10_would_15 : decode cX10_would 15 = .ok (.iload_n 2, 1) := by decide +kernel
theorem dX10_would_16 : decode cX10_would 16 = .ok (.invokevirtual 113, 3) := by decide +kernel
theorem dX10_would_19 : decode cX10_would 19 = .ok (.ifCond .eq 8, 3) := by decide +kernel
theorem dX10_would_22 : decode cX10_would 22 = .ok (.iload_n 1, 1) := by decide +kernel
theorem dX10_would_23 : decode cX10_would 23 = .ok (.iload_n 2, 1) := by decide +kernel
theorem dX10_would_24 : decode cX10_would 24 = .ok (.if_icmp .ne 6, 3) := by decide +kernel
theorem dX10_would_27 : decode cX10_would 27 = .ok (.ldc 117, 2) := by decide +kernel
theorem dX10_would_29 : decode cX10_would 29 = .ok (.ireturn, 1) := by decide +kernel
theorem dX10_would_30 : decode cX10_would 30 = .ok (.aload_n 0, 1) := by decide +kernel
theorem dX10_would_31 : decode cX10_would 31 = .ok (.getfield 10, 3) := by decide +kernel
theorem dX10_would_34 : decode cX10_would 34 = .ok (.iload_n 1, 1) := by decide +kernel
theorem dX10_would_35 : decode cX10_would 35 = .ok (.invokevirtual 164, 3) := by decide +kernel
theorem dX10_would_38 : decode cX10_would 38 = .ok (.ifCond .eq 14, 3) := by decide +kernel
theorem dX10_would_41 : decode cX10_would 41 = .ok (.aload_n 0, 1) := by decide +kernel
theorem dX10_would_42 : decode cX10_would 42 = .ok (.getfield 10, 3) := by decide +kernel
theorem dX10_would_45 : decode cX10_would 45 = .ok (.iload_n 2, 1) := by decide +kernel
theorem dX10_would_46 : decode cX10_would 46 = .ok (.invokevirtual 167, 3) := by decide +kernel
theorem dX10_would_49 : decode cX10_would 49 = .ok (.ifCond .ne 6, 3) := by decide +kernel
theorem dX10_would_52 : decode cX10_would 52 = .ok (.ldc 170, 2) := by decide +kernel
theorem dX10_would_54 : decode cX10_would 54 = .ok (.ireturn, 1) := by decide +kernel
theorem dX10_would_55 : decode cX10_would 55 = .ok (.aload_n 0, 1) := by decide +kernel
theorem dX10_would_56 : decode cX10_would 56 = .ok (.getfield 19, 3) := by decide +kernel
theorem dX10_would_59 : decode cX10_would 59 = .ok (.aload_n 0, 1) := by decide +kernel
theorem dX10_would_60 : decode cX10_would 60 = .ok (.getfield 10, 3) := by decide +kernel
theorem dX10_would_63 : decode cX10_would 63 = .ok (.iload_n 1, 1) := by decide +kernel
theorem dX10_would_64 : decode cX10_would 64 = .ok (.iload_n 2, 1) := by decide +kernel
theorem dX10_would_65 : decode cX10_would 65 = .ok (.invokevirtual 171, 3) := by decide +kernel
theorem dX10_would_68 : decode cX10_would 68 = .ok (.ireturn, 1) := by decide +kernel
set_option maxRecDepth 20000 in
theorem ggX10_dated_X10_areYears : GoodIn wsX10_dated wsX10_areYears := goodIn_r _ [7] (by decide +kernel) (by decide +kernel)
set_option maxRecDepth 20000 in
theorem gX10_dated_X10_areYears : GoodIn wsX10_dated (va_wsS RX10 175 yX10_areYears wsX10_areYears) := goodIn_app (goodIn_of _ (by decide +kernel)) ggX10_dated_X10_areYears
set_option maxRecDepth 20000 in
theorem ggX10_dated_X7_people : GoodIn wsX10_dated wsX7_people := goodIn_r _ [12, 13, 55] (by decide +kernel) (by decide +kernel)
set_option maxRecDepth 20000 in
theorem gX10_dated_X7_people : GoodIn wsX10_dated (wsV RX10 72 RX7 yX7_people wsX7_people) := goodIn_app (goodIn_of _ (by decide +kernel)) ggX10_dated_X7_people
set_option maxRecDepth 20000 in
theorem ggX10_dated_X9_diedBetween : GoodIn wsX10_dated wsX9_diedBetween := goodIn_r _ [18, 19, 20, 21, 22, 17, 23, 24, 25, 26, 27, 28, 29, 30, 31, 32, 33, 34, 35, 36, 37, 38, 39, 40, 41, 42, 43, 44, 45, 56, 57, 58, 59, 60, 61, 62, 63] (by decide +kernel) (by decide +kernel)
set_option maxRecDepth 20000 in
theorem gX10_dated_X9_diedBetween : GoodIn wsX10_dated (wsV RX10 179 RX9 yX9_diedBetween wsX9_diedBetween) := goodIn_app (goodIn_of _ (by decide +kernel)) ggX10_dated_X9_diedBetween
theorem dX10_dated_0 : decode cX10_dated 0 = .ok (.iload_n 1, 1) := by decide +kernel
theorem dX10_dated_1 : decode cX10_dated 1 = .ok (.iload_n 2, 1) := by decide +kernel
theorem dX10_dated_2 : decode cX10_dated 2 = .ok (.invokestatic 175, 3) := by decide +kernel
theorem dX10_dated_5 : decode cX10_dated 5 = .ok (.ifCond .ne 6, 3) := by decide +kernel
theorem dX10_dated_8 : decode cX10_dated 8 = .ok (.ldc 112, 2) := by decide +kernel
theorem dX10_dated_10 : decode cX10_dated 10 = .ok (.ireturn, 1) := by decide +kernel
theorem dX10_dated_11 : decode cX10_dated 11 = .ok (.aload_n 0, 1) := by decide +kernel
theorem dX10_dated_12 : decode cX10_dated 12 = .ok (.getfield 26, 3) := by decide +kernel
theorem dX10_dated_15 : decode cX10_dated 15 = .ok (.aload_n 0, 1) := by decide +kernel
theorem dX10_dated_16 : decode cX10_dated 16 = .ok (.getfield 10, 3) := by decide +kernel
theorem dX10_dated_19 : decode cX10_dated 19 = .ok (.invokevirtual 72, 3) := by decide +kernel
theorem dX10_dated_22 : decode cX10_dated 22 = .ok (.iload_n 1, 1) := by decide +kernel
theorem dX10_dated_23 : decode cX10_dated 23 = .ok (.iload_n 2, 1) := by decide +kernel
theorem dX10_dated_24 : decode cX10_dated 24 = .ok (.invokevirtual 179, 3) := by decide +kernel
theorem dX10_dated_27 : decode cX10_dated 27 = .ok (.ireturn, 1) := by decide +kernel
set_option maxRecDepth 20000 in
theorem ggX10_signAt_X7_signNumber : GoodIn wsX10_signAt wsX7_signNumber := goodIn_r _ [6, 7, 8, 9, 10, 5, 11, 21] (by decide +kernel) (by decide +kernel)
set_option maxRecDepth 20000 in
theorem gX10_signAt_X7_signNumber : GoodIn wsX10_signAt (wsV RX10 183 RX7 yX7_signNumber wsX7_signNumber) := goodIn_app (goodIn_of _ (by decide +kernel)) ggX10_signAt_X7_signNumber
theorem dX10_signAt_0 : decode cX10_signAt 0 = .ok (.aload_n 0, 1) := by decide +kernel
theorem dX10_signAt_1 : decode cX10_signAt 1 = .ok (.getfield 10, 3) := by decide +kernel
theorem dX10_signAt_4 : decode cX10_signAt 4 = .ok (.iload_n 1, 1) := by decide +kernel
theorem dX10_signAt_5 : decode cX10_signAt 5 = .ok (.invokevirtual 183, 3) := by decide +kernel
theorem dX10_signAt_8 : decode cX10_signAt 8 = .ok (.ireturn, 1) := by decide +kernel
set_option maxRecDepth 20000 in
theorem ggX10_put_X7_hasOrNone : GoodIn wsX10_put wsX7_hasOrNone := goodIn_r _ [11, 12, 13, 14, 10, 15, 16, 179] (by decide +kernel) (by decide +kernel)
set_option maxRecDepth 20000 in
theorem gX10_put_X7_hasOrNone : GoodIn wsX10_put (wsV RX10 186 RX7 yX7_hasOrNone wsX7_hasOrNone) := goodIn_app (goodIn_of _ (by decide +kernel)) ggX10_put_X7_hasOrNone
set_option maxRecDepth 20000 in
theorem ggX10_put_X10_isArms : GoodIn wsX10_put wsX10_isArms := goodIn_r _ [20] (by decide +kernel) (by decide +kernel)
set_option maxRecDepth 20000 in
theorem gX10_put_X10_isArms : GoodIn wsX10_put (va_wsS RX10 189 yX10_isArms wsX10_isArms) := goodIn_app (goodIn_of _ (by decide +kernel)) ggX10_put_X10_isArms
set_option maxRecDepth 20000 in
theorem ggX10_put_X7_isMan : GoodIn wsX10_put wsX7_isMan := goodIn_r _ [24, 25, 26, 27, 10, 28, 16, 12, 13, 14, 15, 179] (by decide +kernel) (by decide +kernel)
set_option maxRecDepth 20000 in
theorem gX10_put_X7_isMan : GoodIn wsX10_put (wsV RX10 164 RX7 yX7_isMan wsX7_isMan) := goodIn_app (goodIn_of _ (by decide +kernel)) ggX10_put_X7_isMan
set_option maxRecDepth 20000 in
theorem ggX10_put_X7_isWoman : GoodIn wsX10_put wsX7_isWoman := goodIn_r _ [32, 25, 26, 27, 10, 28, 16, 12, 13, 14, 15, 179] (by decide +kernel) (by decide +kernel)
set_option maxRecDepth 20000 in
theorem gX10_put_X7_isWoman : GoodIn wsX10_put (wsV RX10 167 RX7 yX7_isWoman wsX7_isWoman) := goodIn_app (goodIn_of _ (by decide +kernel)) ggX10_put_X7_isWoman
set_option maxRecDepth 20000 in
theorem ggX10_put_X7_hasRoom : GoodIn wsX10_put wsX7_hasRoom := goodIn_r _ [36, 37, 38, 39, 10, 40, 16, 179] (by decide +kernel) (by decide +kernel)
set_option maxRecDepth 20000 in
theorem gX10_put_X7_hasRoom : GoodIn wsX10_put (wsV RX10 192 RX7 yX7_hasRoom wsX7_hasRoom) := goodIn_app (goodIn_of _ (by decide +kernel)) ggX10_put_X7_hasRoom
set_option maxRecDepth 20000 in
theorem ggX10_put_X5_remember : GoodIn wsX10_put wsX5_remember := goodIn_r _ [45, 46, 47, 48, 49, 50, 51, 52, 53, 54, 55, 56, 57, 58, 59, 60, 61, 62, 63, 64, 180, 181, 182, 183, 184, 179] (by decide +kernel) (by decide +kernel)
set_option maxRecDepth 20000 in
theorem gX10_put_X5_remember : GoodIn wsX10_put (wsV RX10 197 RX5 yX5_remember wsX5_remember) := goodIn_app (goodIn_of _ (by decide +kernel)) ggX10_put_X5_remember
set_option maxRecDepth 20000 in
theorem ggX10_put_X7_addPerson : GoodIn wsX10_put wsX7_addPerson := goodIn_r _ [68, 16, 69, 34, 35, 10, 36, 37, 38, 39, 40, 25, 26, 27, 28, 12, 13, 14, 15, 179] (by decide +kernel) (by decide +kernel)
set_option maxRecDepth 20000 in
theorem gX10_put_X7_addPerson : GoodIn wsX10_put (wsV RX10 201 RX7 yX7_addPerson wsX7_addPerson) := goodIn_app (goodIn_of _ (by decide +kernel)) ggX10_put_X7_addPerson
set_option maxRecDepth 20000 in
theorem ggX10_put_X10_reckonAll : GoodIn wsX10_put wsX10_reckonAll := goodIn_r _ [73, 74, 1, 75, 76, 77, 78, 79, 80, 81, 82, 83, 38, 39, 10, 40, 16, 84, 85, 86, 87, 26, 27, 28, 12, 13, 14, 15, 88, 22, 23, 24, 25, 89, 30, 31, 32, 90, 91, 92, 93, 94, 95, 96, 97, 98, 99, 100, 101, 102, 103, 104, 105, 106, 107, 108, 109, 110, 111, 112, 113, 114, 115, 116, 117, 118, 119, 120, 121, 122, 123, 124, 125, 126, 127, 128, 129, 130, 131, 132, 133, 134, 135, 136, 137, 138, 139, 140, 141, 142, 143, 144, 145, 146, 147, 148, 149, 150, 151, 152, 153, 154, 155, 156, 157, 158, 159, 160, 161, 162, 163, 164, 165, 166, 167, 168, 170, 171, 172, 173, 174, 175, 176, 177, 178, 185, 186, 187, 188, 189, 179, 190, 191, 192, 193, 194, 195, 196, 197] (by decide +kernel) (by decide +kernel)
set_option maxRecDepth 20000 in
theorem gX10_put_X10_reckonAll : GoodIn wsX10_put (wsV RX10 205 RX10 yX10_reckonAll wsX10_reckonAll) := goodIn_app (goodIn_of _ (by decide +kernel)) ggX10_put_X10_reckonAll
set_option maxRecDepth 20000 in
theorem ggX10_put_X7_people : GoodIn wsX10_put wsX7_people := goodIn_r _ [40, 16, 179] (by decide +kernel) (by decide +kernel)
set_option maxRecDepth 20000 in
theorem gX10_put_X7_people : GoodIn wsX10_put (wsV RX10 72 RX7 yX7_people wsX7_people) := goodIn_app (goodIn_of _ (by decide +kernel)) ggX10_put_X7_people
theorem dX10_put_0 : decode cX10_put 0 = .ok (.aload_n 0, 1) := by decide +kernel
theorem dX10_put_1 : decode cX10_put 1 = .ok (.getfield 10, 3) := by decide +kernel
theorem dX10_put_4 : decode cX10_put 4 = .ok (.iload_n 3, 1) := by decide +kernel
theorem dX10_put_5 : decode cX10_put 5 = .ok (.invokevirtual 186, 3) := by decide +kernel
theorem dX10_put_8 : decode cX10_put 8 = .ok (.ifCond .eq 15, 3) := by decide +kernel
theorem dX10_put_11 : decode cX10_put 11 = .ok (.aload_n 0, 1) := by decide +kernel
theorem dX10_put_12 : decode cX10_put 12 = .ok (.getfield 10, 3) := by decide +kernel
theorem dX10_put_15 : decode cX10_put 15 = .ok (.iload 4, 2) := by decide +kernel
theorem dX10_put_17 : decode cX10_put 17 = .ok (.invokevirtual 186, 3) := by decide +kernel
theorem dX10_put_20 : decode cX10_put 20 = .ok (.ifCond .ne 6, 3) := by decide +kernel
theorem dX10_put_23 : decode cX10_put 23 = .ok (.ldc 117, 2) := by decide +kernel
theorem dX10_put_25 : decode cX10_put 25 = .ok (.ireturn, 1) := by decide +kernel
theorem dX10_put_26 : decode cX10_put 26 = .ok (.iload_n 1, 1) := by decide +kernel
theorem dX10_put_27 : decode cX10_put 27 = .ok (.ifCond .lt 15, 3) := by decide +kernel
theorem dX10_put_30 : decode cX10_put 30 = .ok (.iload_n 1, 1) := by decide +kernel
theorem dX10_put_31 : decode cX10_put 31 = .ok (.iconst 1, 1) := by decide +kernel
theorem dX10_put_32 : decode cX10_put 32 = .ok (.if_icmp .gt 10, 3) := by decide +kernel
theorem dX10_put_35 : decode cX10_put 35 = .ok (.iload_n 2, 1) := by decide +kernel
theorem dX10_put_36 : decode cX10_put 36 = .ok (.invokestatic 189, 3) := by decide +kernel
theorem dX10_put_39 : decode cX10_put 39 = .ok (.ifCond .ne 6, 3) := by decide +kernel
theorem dX10_put_42 : decode cX10_put 42 = .ok (.ldc 112, 2) := by decide +kernel
theorem dX10_put_44 : decode cX10_put 44 = .ok (.ireturn, 1) := by decide +kernel
theorem dX10_put_45 : decode cX10_put 45 = .ok (.iload_n 3, 1) := by decide +kernel
theorem dX10_put_46 : decode cX10_put 46 = .ok (.iconst (-1), 1) := by decide +kernel
theorem dX10_put_47 : decode cX10_put 47 = .ok (.if_icmp .eq 14, 3) := by decide +kernel
theorem dX10_put_50 : decode cX10_put 50 = .ok (.aload_n 0, 1) := by decide +kernel
theorem dX10_put_51 : decode cX10_put 51 = .ok (.getfield 10, 3) := by decide +kernel
theorem dX10_put_54 : decode cX10_put 54 = .ok (.iload_n 3, 1) := by decide +kernel
theorem dX10_put_55 : decode cX10_put 55 = .ok (.invokevirtual 164, 3) := by decide +kernel
theorem dX10_put_58 : decode cX10_put 58 = .ok (.ifCond .eq 21, 3) := by decide +kernel
theorem dX10_put_61 : decode cX10_put 61 = .ok (.iload 4, 2) := by decide +kernel
theorem dX10_put_63 : decode cX10_put 63 = .ok (.iconst (-1), 1) := by decide +kernel
theorem dX10_put_64 : decode cX10_put 64 = .ok (.if_icmp .eq 18, 3) := by decide +kernel
theorem dX10_put_67 : decode cX10_put 67 = .ok (.aload_n 0, 1) := by decide +kernel
theorem dX10_put_68 : decode cX10_put 68 = .ok (.getfield 10, 3) := by decide +kernel
theorem dX10_put_71 : decode cX10_put 71 = .ok (.iload 4, 2) := by decide +kernel
theorem dX10_put_73 : decode cX10_put 73 = .ok (.invokevirtual 167, 3) := by decide +kernel
theorem dX10_put_76 : decode cX10_put 76 = .ok (.ifCond .ne 6, 3) := by decide +kernel
theorem dX10_put_79 : decode cX10_put 79 = .ok (.ldc 170, 2) := by decide +kernel
theorem dX10_put_81 : decode cX10_put 81 = .ok (.ireturn, 1) := by decide +kernel
theorem dX10_put_82 : decode cX10_put 82 = .ok (.aload_n 0, 1) := by decide +kernel
theorem dX10_put_83 : decode cX10_put 83 = .ok (.getfield 10, 3) := by decide +kernel
theorem dX10_put_86 : decode cX10_put 86 = .ok (.invokevirtual 192, 3) := by decide +kernel
theorem dX10_put_89 : decode cX10_put 89 = .ok (.ifCond .ne 6, 3) := by decide +kernel
theorem dX10_put_92 : decode cX10_put 92 = .ok (.ldc 196, 2) := by decide +kernel
theorem dX10_put_94 : decode cX10_put 94 = .ok (.ireturn, 1) := by decide +kernel
theorem dX10_put_95 : decode cX10_put 95 = .ok (.aload_n 0, 1) := by decide +kernel
theorem dX10_put_96 : decode cX10_put 96 = .ok (.getfield 54, 3) := by decide +kernel
theorem dX10_put_99 : decode cX10_put 99 = .ok (.aload_n 0, 1) := by decide +kernel
theorem dX10_put_100 : decode cX10_put 100 = .ok (.getfield 10, 3) := by decide +kernel
theorem dX10_put_103 : decode cX10_put 103 = .ok (.invokevirtual 197, 3) := by decide +kernel
theorem dX10_put_106 : decode cX10_put 106 = .ok (.aload_n 0, 1) := by decide +kernel
theorem dX10_put_107 : decode cX10_put 107 = .ok (.getfield 10, 3) := by decide +kernel
theorem dX10_put_110 : decode cX10_put 110 = .ok (.iload_n 1, 1) := by decide +kernel
theorem dX10_put_111 : decode cX10_put 111 = .ok (.iload_n 2, 1) := by decide +kernel
theorem dX10_put_112 : decode cX10_put 112 = .ok (.iload_n 3, 1) := by decide +kernel
theorem dX10_put_113 : decode cX10_put 113 = .ok (.iload 4, 2) := by decide +kernel
theorem dX10_put_115 : decode cX10_put 115 = .ok (.invokevirtual 201, 3) := by decide +kernel
theorem dX10_put_118 : decode cX10_put 118 = .ok (.aload_n 0, 1) := by decide +kernel
theorem dX10_put_119 : decode cX10_put 119 = .ok (.invokevirtual 205, 3) := by decide +kernel
theorem dX10_put_122 : decode cX10_put 122 = .ok (.aload_n 0, 1) := by decide +kernel
theorem dX10_put_123 : decode cX10_put 123 = .ok (.getfield 10, 3) := by decide +kernel
theorem dX10_put_126 : decode cX10_put 126 = .ok (.invokevirtual 72, 3) := by decide +kernel
theorem dX10_put_129 : decode cX10_put 129 = .ok (.iconst 1, 1) := by decide +kernel
theorem dX10_put_130 : decode cX10_put 130 = .ok (.isub, 1) := by decide +kernel
theorem dX10_put_131 : decode cX10_put 131 = .ok (.ireturn, 1) := by decide +kernel
set_option maxRecDepth 20000 in
theorem ggX10_born_X10_boundYears : GoodIn wsX10_born wsX10_boundYears := goodIn_r _ [5, 6, 7, 8, 9, 10, 11, 12, 13, 14, 15, 16, 17, 18, 4, 19, 20, 21, 22, 23, 24, 25, 26, 27, 28, 29, 30, 31, 32, 33, 34, 35, 36, 37, 38, 39, 40, 41, 42, 43, 44, 45, 46, 47, 48, 49, 50, 51, 52, 53, 54, 55, 56, 57, 58, 59, 60, 61, 62, 63, 64, 65, 66, 67, 68, 69, 70, 71, 72, 73, 74, 75, 76, 77, 78, 79, 80, 81, 82, 83, 84, 85, 86, 87, 88, 89, 90, 91, 92, 93, 94, 95, 96, 97, 98, 99, 100, 101, 102, 103, 104, 105, 106, 107, 108, 109, 110, 111, 112, 113, 114, 115, 116, 117, 118, 119, 120, 121, 122, 123, 124, 125, 126] (by decide +kernel) (by decide +kernel)
set_option maxRecDepth 20000 in
theorem gX10_born_X10_boundYears : GoodIn wsX10_born (wsV RX10 208 RX10 yX10_boundYears wsX10_boundYears) := goodIn_app (goodIn_of _ (by decide +kernel)) ggX10_born_X10_boundYears
theorem dX10_born_0 : decode cX10_born 0 = .ok (.aload_n 0, 1) := by decide +kernel
theorem dX10_born_1 : decode cX10_born 1 = .ok (.iload_n 1, 1) := by decide +kernel
theorem dX10_born_2 : decode cX10_born 2 = .ok (.iconst 4, 1) := by decide +kernel
theorem dX10_born_3 : decode cX10_born 3 = .ok (.iload_n 2, 1) := by decide +kernel
theorem dX10_born_4 : decode cX10_born 4 = .ok (.iload_n 3, 1) := by decide +kernel
theorem dX10_born_5 : decode cX10_born 5 = .ok (.invokevirtual 208, 3) := by decide +kernel
theorem dX10_born_8 : decode cX10_born 8 = .ok (.ireturn, 1) := by decide +kernel
set_option maxRecDepth 20000 in
theorem ggX10_died_X10_boundYears : GoodIn wsX10_died wsX10_boundYears := goodIn_r _ [5, 6, 7, 8, 9, 10, 11, 12, 13, 14, 15, 16, 17, 18, 4, 19, 20, 21, 22, 23, 24, 25, 26, 27, 28, 29, 30, 31, 32, 33, 34, 35, 36, 37, 38, 39, 40, 41, 42, 43, 44, 45, 46, 47, 48, 49, 50, 51, 52, 53, 54, 55, 56, 57, 58, 59, 60, 61, 62, 63, 64, 65, 66, 67, 68, 69, 70, 71, 72, 73, 74, 75, 76, 77, 78, 79, 80, 81, 82, 83, 84, 85, 86, 87, 88, 89, 90, 91, 92, 93, 94, 95, 96, 97, 98, 99, 100, 101, 102, 103, 104, 105, 106, 107, 108, 109, 110, 111, 112, 113, 114, 115, 116, 117, 118, 119, 120, 121, 122, 123, 124, 125, 126] (by decide +kernel) (by decide +kernel)
set_option maxRecDepth 20000 in
theorem gX10_died_X10_boundYears : GoodIn wsX10_died (wsV RX10 208 RX10 yX10_boundYears wsX10_boundYears) := goodIn_app (goodIn_of _ (by decide +kernel)) ggX10_died_X10_boundYears
theorem dX10_died_0 : decode cX10_died 0 = .ok (.aload_n 0, 1) := by decide +kernel
theorem dX10_died_1 : decode cX10_died 1 = .ok (.iload_n 1, 1) := by decide +kernel
theorem dX10_died_2 : decode cX10_died 2 = .ok (.bipush 6, 2) := by decide +kernel
theorem dX10_died_4 : decode cX10_died 4 = .ok (.iload_n 2, 1) := by decide +kernel
theorem dX10_died_5 : decode cX10_died 5 = .ok (.iload_n 3, 1) := by decide +kernel
theorem dX10_died_6 : decode cX10_died 6 = .ok (.invokevirtual 208, 3) := by decide +kernel
theorem dX10_died_9 : decode cX10_died 9 = .ok (.ireturn, 1) := by decide +kernel
set_option maxRecDepth 20000 in
theorem ggX10_rule_X5_remember : GoodIn wsX10_rule wsX5_remember := goodIn_r _ [9, 10, 11, 12, 13, 14, 15, 16, 17, 18, 19, 20, 21, 22, 23, 24, 25, 26, 27, 28, 121, 122, 123, 124, 125, 126] (by decide +kernel) (by decide +kernel)
set_option maxRecDepth 20000 in
theorem gX10_rule_X5_remember : GoodIn wsX10_rule (wsV RX10 197 RX5 yX5_remember wsX5_remember) := goodIn_app (goodIn_of _ (by decide +kernel)) ggX10_rule_X5_remember
set_option maxRecDepth 20000 in
theorem ggX10_rule_X7_setRule : GoodIn wsX10_rule wsX7_setRule := goodIn_r _ [33, 34, 126] (by decide +kernel) (by decide +kernel)
set_option maxRecDepth 20000 in
theorem gX10_rule_X7_setRule : GoodIn wsX10_rule (wsV RX10 212 RX7 yX7_setRule wsX7_setRule) := goodIn_app (goodIn_of _ (by decide +kernel)) ggX10_rule_X7_setRule
set_option maxRecDepth 20000 in
theorem ggX10_rule_X1_reckon : GoodIn wsX10_rule wsX1_reckon := goodIn_r _ [39, 40, 41, 42, 43, 44, 32, 45, 34, 46, 47, 38, 48, 49, 50, 51, 52, 53, 54, 55, 56, 57, 58, 59, 60, 61, 62, 63, 64, 65, 66, 67, 68, 69, 70, 71, 72, 73, 74, 75, 76, 77, 78, 79, 80, 81, 82, 83, 84, 85, 86, 87, 88, 89, 90, 91, 92, 93, 94, 95, 96, 97, 98, 99, 127, 128, 129, 130, 131, 126] (by decide +kernel) (by decide +kernel)
set_option maxRecDepth 20000 in
theorem gX10_rule_X1_reckon : GoodIn wsX10_rule (wsV RX10 216 RX1 yX1_reckon wsX1_reckon) := goodIn_app (goodIn_of _ (by decide +kernel)) ggX10_rule_X1_reckon
set_option maxRecDepth 20000 in
theorem ggX10_rule_X1_unlikeCoats : GoodIn wsX10_rule wsX1_unlikeCoats := goodIn_r _ [103, 40, 66, 67, 38, 68, 104, 105, 106, 107, 108, 109, 110, 111, 88, 89, 90, 91, 73, 84, 85, 86, 87, 82, 127, 128, 129, 130, 131] (by decide +kernel) (by decide +kernel)
set_option maxRecDepth 20000 in
theorem gX10_rule_X1_unlikeCoats : GoodIn wsX10_rule (wsV RX10 86 RX1 yX1_unlikeCoats wsX1_unlikeCoats) := goodIn_app (goodIn_of _ (by decide +kernel)) ggX10_rule_X1_unlikeCoats
theorem dX10_rule_0 : decode cX10_rule 0 = .ok (.iload_n 1, 1) := by decide +kernel
theorem dX10_rule_1 : decode cX10_rule 1 = .ok (.ifCond .lt 8, 3) := by decide +kernel
theorem dX10_rule_4 : decode cX10_rule 4 = .ok (.iload_n 1, 1) := by decide +kernel
theorem dX10_rule_5 : decode cX10_rule 5 = .ok (.iconst 2, 1) := by decide +kernel
theorem dX10_rule_6 : decode cX10_rule 6 = .ok (.if_icmp .le 6, 3) := by decide +kernel
theorem dX10_rule_9 : decode cX10_rule 9 = .ok (.ldc 112, 2) := by decide +kernel
theorem dX10_rule_11 : decode cX10_rule 11 = .ok (.ireturn, 1) := by decide +kernel
theorem dX10_rule_12 : decode cX10_rule 12 = .ok (.aload_n 0, 1) := by decide +kernel
theorem dX10_rule_13 : decode cX10_rule 13 = .ok (.getfield 54, 3) := by decide +kernel
theorem dX10_rule_16 : decode cX10_rule 16 = .ok (.aload_n 0, 1) := by decide +kernel
theorem dX10_rule_17 : decode cX10_rule 17 = .ok (.getfield 10, 3) := by decide +kernel
theorem dX10_rule_20 : decode cX10_rule 20 = .ok (.invokevirtual 197, 3) := by decide +kernel
theorem dX10_rule_23 : decode cX10_rule 23 = .ok (.aload_n 0, 1) := by decide +kernel
theorem dX10_rule_24 : decode cX10_rule 24 = .ok (.getfield 10, 3) := by decide +kernel
theorem dX10_rule_27 : decode cX10_rule 27 = .ok (.iload_n 1, 1) := by decide +kernel
theorem dX10_rule_28 : decode cX10_rule 28 = .ok (.invokevirtual 212, 3) := by decide +kernel
theorem dX10_rule_31 : decode cX10_rule 31 = .ok (.aload_n 0, 1) := by decide +kernel
theorem dX10_rule_32 : decode cX10_rule 32 = .ok (.getfield 19, 3) := by decide +kernel
theorem dX10_rule_35 : decode cX10_rule 35 = .ok (.aload_n 0, 1) := by decide +kernel
theorem dX10_rule_36 : decode cX10_rule 36 = .ok (.getfield 10, 3) := by decide +kernel
theorem dX10_rule_39 : decode cX10_rule 39 = .ok (.invokevirtual 216, 3) := by decide +kernel
theorem dX10_rule_42 : decode cX10_rule 42 = .ok (.aload_n 0, 1) := by decide +kernel
theorem dX10_rule_43 : decode cX10_rule 43 = .ok (.getfield 19, 3) := by decide +kernel
theorem dX10_rule_46 : decode cX10_rule 46 = .ok (.invokevirtual 86, 3) := by decide +kernel
theorem dX10_rule_49 : decode cX10_rule 49 = .ok (.ireturn, 1) := by decide +kernel
set_option maxRecDepth 20000 in
theorem ggX10_sign_X7_signs : GoodIn wsX10_sign wsX7_signs := goodIn_r _ [9, 10, 49] (by decide +kernel) (by decide +kernel)
set_option maxRecDepth 20000 in
theorem gX10_sign_X7_signs : GoodIn wsX10_sign (wsV RX10 79 RX7 yX7_signs wsX7_signs) := goodIn_app (goodIn_of _ (by decide +kernel)) ggX10_sign_X7_signs
set_option maxRecDepth 20000 in
theorem ggX10_sign_X5_remember : GoodIn wsX10_sign wsX5_remember := goodIn_r _ [15, 16, 17, 18, 19, 20, 21, 22, 23, 24, 25, 26, 27, 28, 29, 30, 31, 32, 33, 34, 50, 51, 52, 53, 54, 49] (by decide +kernel) (by decide +kernel)
set_option maxRecDepth 20000 in
theorem gX10_sign_X5_remember : GoodIn wsX10_sign (wsV RX10 197 RX5 yX5_remember wsX5_remember) := goodIn_app (goodIn_of _ (by decide +kernel)) ggX10_sign_X5_remember
set_option maxRecDepth 20000 in
theorem ggX10_sign_X7_addSign : GoodIn wsX10_sign wsX7_addSign := goodIn_r _ [38, 10, 39, 6, 7, 8, 9, 49] (by decide +kernel) (by decide +kernel)
set_option maxRecDepth 20000 in
theorem gX10_sign_X7_addSign : GoodIn wsX10_sign (wsV RX10 219 RX7 yX7_addSign wsX7_addSign) := goodIn_app (goodIn_of _ (by decide +kernel)) ggX10_sign_X7_addSign
theorem dX10_sign_0 : decode cX10_sign 0 = .ok (.iload_n 1, 1) := by decide +kernel
theorem dX10_sign_1 : decode cX10_sign 1 = .ok (.ifCond .lt 9, 3) := by decide +kernel
theorem dX10_sign_4 : decode cX10_sign 4 = .ok (.iload_n 1, 1) := by decide +kernel
theorem dX10_sign_5 : decode cX10_sign 5 = .ok (.bipush 10, 2) := by decide +kernel
theorem dX10_sign_7 : decode cX10_sign 7 = .ok (.if_icmp .le 6, 3) := by decide +kernel
theorem dX10_sign_10 : decode cX10_sign 10 = .ok (.ldc 112, 2) := by decide +kernel
theorem dX10_sign_12 : decode cX10_sign 12 = .ok (.ireturn, 1) := by decide +kernel
theorem dX10_sign_13 : decode cX10_sign 13 = .ok (.aload_n 0, 1) := by decide +kernel
theorem dX10_sign_14 : decode cX10_sign 14 = .ok (.getfield 10, 3) := by decide +kernel
theorem dX10_sign_17 : decode cX10_sign 17 = .ok (.invokevirtual 79, 3) := by decide +kernel
theorem dX10_sign_20 : decode cX10_sign 20 = .ok (.bipush 10, 2) := by decide +kernel
theorem dX10_sign_22 : decode cX10_sign 22 = .ok (.if_icmp .lt 6, 3) := by decide +kernel
theorem dX10_sign_25 : decode cX10_sign 25 = .ok (.ldc 196, 2) := by decide +kernel
theorem dX10_sign_27 : decode cX10_sign 27 = .ok (.ireturn, 1) := by decide +kernel
theorem dX10_sign_28 : decode cX10_sign 28 = .ok (.aload_n 0, 1) := by decide +kernel
theorem dX10_sign_29 : decode cX10_sign 29 = .ok (.getfield 54, 3) := by decide +kernel
theorem dX10_sign_32 : decode cX10_sign 32 = .ok (.aload_n 0, 1) := by decide +kernel
theorem dX10_sign_33 : decode cX10_sign 33 = .ok (.getfield 10, 3) := by decide +kernel
theorem dX10_sign_36 : decode cX10_sign 36 = .ok (.invokevirtual 197, 3) := by decide +kernel
theorem dX10_sign_39 : decode cX10_sign 39 = .ok (.aload_n 0, 1) := by decide +kernel
theorem dX10_sign_40 : decode cX10_sign 40 = .ok (.getfield 10, 3) := by decide +kernel
theorem dX10_sign_43 : decode cX10_sign 43 = .ok (.iload_n 1, 1) := by decide +kernel
theorem dX10_sign_44 : decode cX10_sign 44 = .ok (.invokevirtual 219, 3) := by decide +kernel
theorem dX10_sign_47 : decode cX10_sign 47 = .ok (.aload_n 0, 1) := by decide +kernel
theorem dX10_sign_48 : decode cX10_sign 48 = .ok (.getfield 10, 3) := by decide +kernel
theorem dX10_sign_51 : decode cX10_sign 51 = .ok (.invokevirtual 79, 3) := by decide +kernel
theorem dX10_sign_54 : decode cX10_sign 54 = .ok (.ireturn, 1) := by decide +kernel
set_option maxRecDepth 20000 in
theorem ggX10_wipe_X7_signs : GoodIn wsX10_wipe wsX7_signs := goodIn_r _ [7, 8, 46] (by decide +kernel) (by decide +kernel)
set_option maxRecDepth 20000 in
theorem gX10_wipe_X7_signs : GoodIn wsX10_wipe (wsV RX10 79 RX7 yX7_signs wsX7_signs) := goodIn_app (goodIn_of _ (by decide +kernel)) ggX10_wipe_X7_signs
set_option maxRecDepth 20000 in
theorem ggX10_wipe_X5_remember : GoodIn wsX10_wipe wsX5_remember := goodIn_r _ [13, 14, 15, 16, 17, 18, 19, 20, 21, 22, 23, 24, 25, 26, 27, 28, 29, 30, 31, 32, 47, 48, 49, 50, 51, 46] (by decide +kernel) (by decide +kernel)
set_option maxRecDepth 20000 in
theorem gX10_wipe_X5_remember : GoodIn wsX10_wipe (wsV RX10 197 RX5 yX5_remember wsX5_remember) := goodIn_app (goodIn_of _ (by decide +kernel)) ggX10_wipe_X5_remember
set_option maxRecDepth 20000 in
theorem ggX10_wipe_X7_clearSigns : GoodIn wsX10_wipe wsX7_clearSigns := goodIn_r _ [36, 8, 46] (by decide +kernel) (by decide +kernel)
set_option maxRecDepth 20000 in
theorem gX10_wipe_X7_clearSigns : GoodIn wsX10_wipe (wsV RX10 222 RX7 yX7_clearSigns wsX7_clearSigns) := goodIn_app (goodIn_of _ (by decide +kernel)) ggX10_wipe_X7_clearSigns
theorem dX10_wipe_0 : decode cX10_wipe 0 = .ok (.aload_n 0, 1) := by decide +kernel
theorem dX10_wipe_1 : decode cX10_wipe 1 = .ok (.getfield 10, 3) := by decide +kernel
theorem dX10_wipe_4 : decode cX10_wipe 4 = .ok (.invokevirtual 79, 3) := by decide +kernel
theorem dX10_wipe_7 : decode cX10_wipe 7 = .ok (.istore_n 1, 1) := by decide +kernel
theorem dX10_wipe_8 : decode cX10_wipe 8 = .ok (.aload_n 0, 1) := by decide +kernel
theorem dX10_wipe_9 : decode cX10_wipe 9 = .ok (.getfield 54, 3) := by decide +kernel
theorem dX10_wipe_12 : decode cX10_wipe 12 = .ok (.aload_n 0, 1) := by decide +kernel
theorem dX10_wipe_13 : decode cX10_wipe 13 = .ok (.getfield 10, 3) := by decide +kernel
theorem dX10_wipe_16 : decode cX10_wipe 16 = .ok (.invokevirtual 197, 3) := by decide +kernel
theorem dX10_wipe_19 : decode cX10_wipe 19 = .ok (.aload_n 0, 1) := by decide +kernel
theorem dX10_wipe_20 : decode cX10_wipe 20 = .ok (.getfield 10, 3) := by decide +kernel
theorem dX10_wipe_23 : decode cX10_wipe 23 = .ok (.invokevirtual 222, 3) := by decide +kernel
theorem dX10_wipe_26 : decode cX10_wipe 26 = .ok (.iload_n 1, 1) := by decide +kernel
theorem dX10_wipe_27 : decode cX10_wipe 27 = .ok (.ireturn, 1) := by decide +kernel
set_option maxRecDepth 20000 in
theorem ggX10_drift_X7_hasRoom : GoodIn wsX10_drift wsX7_hasRoom := goodIn_r _ [9, 10, 11, 12, 8, 13, 14, 184] (by decide +kernel) (by decide +kernel)
set_option maxRecDepth 20000 in
theorem gX10_drift_X7_hasRoom : GoodIn wsX10_drift (wsV RX10 192 RX7 yX7_hasRoom wsX7_hasRoom) := goodIn_app (goodIn_of _ (by decide +kernel)) ggX10_drift_X7_hasRoom
set_option maxRecDepth 20000 in
theorem ggX10_drift_X5_remember : GoodIn wsX10_drift wsX5_remember := goodIn_r _ [19, 20, 21, 22, 23, 24, 25, 26, 27, 28, 29, 30, 31, 32, 33, 34, 35, 36, 37, 38, 185, 186, 187, 188, 189, 184] (by decide +kernel) (by decide +kernel)
set_option maxRecDepth 20000 in
theorem gX10_drift_X5_remember : GoodIn wsX10_drift (wsV RX10 197 RX5 yX5_remember wsX5_remember) := goodIn_app (goodIn_of _ (by decide +kernel)) ggX10_drift_X5_remember
set_option maxRecDepth 20000 in
theorem ggX10_drift_X2_addOne : GoodIn wsX10_drift wsX2_addOne := goodIn_r _ [43, 44, 45, 46, 42, 47, 48, 49, 50, 51, 52, 11, 12, 8, 13, 14, 53, 54, 55, 56, 57, 58, 59, 60, 61, 62, 63, 64, 65, 66, 67, 68, 69, 70, 71, 72, 73, 6, 7, 9, 10, 190, 184] (by decide +kernel) (by decide +kernel)
set_option maxRecDepth 20000 in
theorem gX10_drift_X2_addOne : GoodIn wsX10_drift (wsV RX10 225 RX2 yX2_addOne wsX2_addOne) := goodIn_app (goodIn_of _ (by decide +kernel)) ggX10_drift_X2_addOne
set_option maxRecDepth 20000 in
theorem ggX10_drift_X10_reckonAll : GoodIn wsX10_drift wsX10_reckonAll := goodIn_r _ [78, 79, 2, 80, 81, 82, 83, 84, 85, 86, 87, 88, 11, 12, 8, 13, 14, 89, 90, 91, 92, 58, 59, 60, 61, 62, 63, 64, 93, 54, 55, 56, 57, 94, 66, 67, 68, 95, 96, 97, 98, 99, 100, 101, 102, 103, 104, 105, 106, 107, 108, 109, 110, 111, 112, 113, 114, 115, 116, 117, 118, 119, 120, 121, 122, 123, 124, 125, 126, 127, 128, 129, 130, 131, 132, 133, 134, 135, 136, 137, 138, 139, 140, 141, 142, 143, 144, 145, 146, 147, 148, 149, 150, 151, 152, 153, 154, 155, 156, 157, 158, 159, 160, 161, 162, 163, 164, 165, 166, 167, 168, 169, 170, 171, 172, 173, 175, 176, 177, 178, 179, 180, 181, 182, 183, 191, 192, 193, 194, 195, 184, 196, 197, 198, 199, 200, 201, 202, 203] (by decide +kernel) (by decide +kernel)
set_option maxRecDepth 20000 in
theorem gX10_drift_X10_reckonAll : GoodIn wsX10_drift (wsV RX10 205 RX10 yX10_reckonAll wsX10_reckonAll) := goodIn_app (goodIn_of _ (by decide +kernel)) ggX10_drift_X10_reckonAll
set_option maxRecDepth 20000 in
theorem ggX10_drift_X7_people : GoodIn wsX10_drift wsX7_people := goodIn_r _ [13, 14, 184] (by decide +kernel) (by decide +kernel)
set_option maxRecDepth 20000 in
theorem gX10_drift_X7_people : GoodIn wsX10_drift (wsV RX10 72 RX7 yX7_people wsX7_people) := goodIn_app (goodIn_of _ (by decide +kernel)) ggX10_drift_X7_people
theorem dX10_drift_0 : decode cX10_drift 0 = .ok (.iload_n 1, 1) := by decide +kernel
theorem dX10_drift_1 : decode cX10_drift 1 = .ok (.iconst 1, 1) := by decide +kernel
theorem dX10_drift_2 : decode cX10_drift 2 = .ok (.if_icmp .lt 9, 3) := by decide +kernel
theorem dX10_drift_5 : decode cX10_drift 5 = .ok (.iload_n 1, 1) := by decide +kernel
theorem dX10_drift_6 : decode cX10_drift 6 = .ok (.bipush 16, 2) := by decide +kernel
theorem dX10_drift_8 : decode cX10_drift 8 = .ok (.if_icmp .le 6, 3) := by decide +kernel
theorem dX10_drift_11 : decode cX10_drift 11 = .ok (.ldc 112, 2) := by decide +kernel
theorem dX10_drift_13 : decode cX10_drift 13 = .ok (.ireturn, 1) := by decide +kernel
theorem dX10_drift_14 : decode cX10_drift 14 = .ok (.iconst 0, 1) := by decide +kernel
theorem dX10_drift_15 : decode cX10_drift 15 = .ok (.istore_n 2, 1) := by decide +kernel
theorem dX10_drift_16 : decode cX10_drift 16 = .ok (.iload_n 2, 1) := by decide +kernel
theorem dX10_drift_17 : decode cX10_drift 17 = .ok (.iload_n 1, 1) := by decide +kernel
theorem dX10_drift_18 : decode cX10_drift 18 = .ok (.if_icmp .ge 41, 3) := by decide +kernel
theorem dX10_drift_21 : decode cX10_drift 21 = .ok (.aload_n 0, 1) := by decide +kernel
theorem dX10_drift_22 : decode cX10_drift 22 = .ok (.getfield 10, 3) := by decide +kernel
theorem dX10_drift_25 : decode cX10_drift 25 = .ok (.invokevirtual 192, 3) := by decide +kernel
theorem dX10_drift_28 : decode cX10_drift 28 = .ok (.ifCond .eq 31, 3) := by decide +kernel
theorem dX10_drift_31 : decode cX10_drift 31 = .ok (.aload_n 0, 1) := by decide +kernel
theorem dX10_drift_32 : decode cX10_drift 32 = .ok (.getfield 54, 3) := by decide +kernel
theorem dX10_drift_35 : decode cX10_drift 35 = .ok (.aload_n 0, 1) := by decide +kernel
theorem dX10_drift_36 : decode cX10_drift 36 = .ok (.getfield 10, 3) := by decide +kernel
theorem dX10_drift_39 : decode cX10_drift 39 = .ok (.invokevirtual 197, 3) := by decide +kernel
theorem dX10_drift_42 : decode cX10_drift 42 = .ok (.aload_n 0, 1) := by decide +kernel
theorem dX10_drift_43 : decode cX10_drift 43 = .ok (.getfield 68, 3) := by decide +kernel
theorem dX10_drift_46 : decode cX10_drift 46 = .ok (.aload_n 0, 1) := by decide +kernel
theorem dX10_drift_47 : decode cX10_drift 47 = .ok (.getfield 10, 3) := by decide +kernel
theorem dX10_drift_50 : decode cX10_drift 50 = .ok (.invokevirtual 225, 3) := by decide +kernel
theorem dX10_drift_53 : decode cX10_drift 53 = .ok (.iinc 2 1, 3) := by decide +kernel
theorem dX10_drift_56 : decode cX10_drift 56 = .ok (.goto (-40), 3) := by decide +kernel
theorem dX10_drift_59 : decode cX10_drift 59 = .ok (.aload_n 0, 1) := by decide +kernel
theorem dX10_drift_60 : decode cX10_drift 60 = .ok (.invokevirtual 205, 3) := by decide +kernel
theorem dX10_drift_63 : decode cX10_drift 63 = .ok (.aload_n 0, 1) := by decide +kernel
theorem dX10_drift_64 : decode cX10_drift 64 = .ok (.getfield 10, 3) := by decide +kernel
theorem dX10_drift_67 : decode cX10_drift 67 = .ok (.invokevirtual 72, 3) := by decide +kernel
theorem dX10_drift_70 : decode cX10_drift 70 = .ok (.ireturn, 1) := by decide +kernel
set_option maxRecDepth 20000 in
theorem ggX10_undo_X5_stepBack : GoodIn wsX10_undo wsX5_stepBack := goodIn_r _ [10, 11, 12, 13, 14, 15, 16, 17, 18, 19, 20, 21, 22, 23, 24, 25, 155, 156, 157, 158, 159, 160] (by decide +kernel) (by decide +kernel)
set_option maxRecDepth 20000 in
theorem gX10_undo_X5_stepBack : GoodIn wsX10_undo (wsV RX10 228 RX5 yX5_stepBack wsX5_stepBack) := goodIn_app (goodIn_of _ (by decide +kernel)) ggX10_undo_X5_stepBack
set_option maxRecDepth 20000 in
theorem ggX10_undo_X10_reckonAll : GoodIn wsX10_undo wsX10_reckonAll := goodIn_r _ [30, 31, 5, 32, 33, 34, 35, 36, 37, 38, 39, 40, 41, 42, 43, 44, 45, 46, 47, 48, 49, 50, 51, 52, 53, 54, 55, 56, 57, 58, 59, 60, 61, 62, 63, 64, 65, 66, 67, 68, 69, 70, 71, 72, 73, 74, 75, 76, 77, 78, 79, 80, 81, 82, 83, 84, 85, 86, 87, 88, 89, 90, 91, 92, 93, 94, 95, 96, 97, 98, 99, 100, 101, 102, 103, 104, 105, 106, 107, 108, 109, 110, 111, 112, 113, 114, 115, 116, 117, 118, 119, 120, 121, 122, 123, 124, 125, 126, 127, 128, 129, 130, 131, 132, 133, 134, 135, 136, 137, 138, 139, 140, 141, 142, 143, 144, 146, 147, 148, 149, 150, 151, 152, 153, 154, 161, 162, 163, 164, 165, 160, 166, 167, 168, 169, 170, 171, 172, 173] (by decide +kernel) (by decide +kernel)
set_option maxRecDepth 20000 in
theorem gX10_undo_X10_reckonAll : GoodIn wsX10_undo (wsV RX10 205 RX10 yX10_reckonAll wsX10_reckonAll) := goodIn_app (goodIn_of _ (by decide +kernel)) ggX10_undo_X10_reckonAll
set_option maxRecDepth 20000 in
theorem ggX10_undo_X7_people : GoodIn wsX10_undo wsX7_people := goodIn_r _ [44, 45, 160] (by decide +kernel) (by decide +kernel)
set_option maxRecDepth 20000 in
theorem gX10_undo_X7_people : GoodIn wsX10_undo (wsV RX10 72 RX7 yX7_people wsX7_people) := goodIn_app (goodIn_of _ (by decide +kernel)) ggX10_undo_X7_people
theorem dX10_undo_0 : decode cX10_undo 0 = .ok (.iload_n 1, 1) := by decide +kernel
theorem dX10_undo_1 : decode cX10_undo 1 = .ok (.iconst 1, 1) := by decide +kernel
theorem dX10_undo_2 : decode cX10_undo 2 = .ok (.if_icmp .lt 9, 3) := by decide +kernel
theorem dX10_undo_5 : decode cX10_undo 5 = .ok (.iload_n 1, 1) := by decide +kernel
theorem dX10_undo_6 : decode cX10_undo 6 = .ok (.bipush 20, 2) := by decide +kernel
theorem dX10_undo_8 : decode cX10_undo 8 = .ok (.if_icmp .le 6, 3) := by decide +kernel
theorem dX10_undo_11 : decode cX10_undo 11 = .ok (.ldc 112, 2) := by decide +kernel
theorem dX10_undo_13 : decode cX10_undo 13 = .ok (.ireturn, 1) := by decide +kernel
theorem dX10_undo_14 : decode cX10_undo 14 = .ok (.iload_n 1, 1) := by decide +kernel
theorem dX10_undo_15 : decode cX10_undo 15 = .ok (.aload_n 0, 1) := by decide +kernel
theorem dX10_undo_16 : decode cX10_undo 16 = .ok (.getfield 54, 3) := by decide +kernel
theorem dX10_undo_19 : decode cX10_undo 19 = .ok (.getfield 109, 3) := by decide +kernel
theorem dX10_undo_22 : decode cX10_undo 22 = .ok (.if_icmp .le 6, 3) := by decide +kernel
theorem dX10_undo_25 : decode cX10_undo 25 = .ok (.ldc 170, 2) := by decide +kernel
theorem dX10_undo_27 : decode cX10_undo 27 = .ok (.ireturn, 1) := by decide +kernel
theorem dX10_undo_28 : decode cX10_undo 28 = .ok (.aload_n 0, 1) := by decide +kernel
theorem dX10_undo_29 : decode cX10_undo 29 = .ok (.getfield 54, 3) := by decide +kernel
theorem dX10_undo_32 : decode cX10_undo 32 = .ok (.aload_n 0, 1) := by decide +kernel
theorem dX10_undo_33 : decode cX10_undo 33 = .ok (.getfield 10, 3) := by decide +kernel
theorem dX10_undo_36 : decode cX10_undo 36 = .ok (.iload_n 1, 1) := by decide +kernel
theorem dX10_undo_37 : decode cX10_undo 37 = .ok (.invokevirtual 228, 3) := by decide +kernel
theorem dX10_undo_40 : decode cX10_undo 40 = .ok (.aload_n 0, 1) := by decide +kernel
theorem dX10_undo_41 : decode cX10_undo 41 = .ok (.invokevirtual 205, 3) := by decide +kernel
theorem dX10_undo_44 : decode cX10_undo 44 = .ok (.aload_n 0, 1) := by decide +kernel
theorem dX10_undo_45 : decode cX10_undo 45 = .ok (.getfield 10, 3) := by decide +kernel
theorem dX10_undo_48 : decode cX10_undo 48 = .ok (.invokevirtual 72, 3) := by decide +kernel
theorem dX10_undo_51 : decode cX10_undo 51 = .ok (.ireturn, 1) := by decide +kernel
set_option maxRecDepth 20000 in
theorem ggX10_write_X7_has : GoodIn wsX10_write wsX7_has := goodIn_r _ [11, 12, 39] (by decide +kernel) (by decide +kernel)
set_option maxRecDepth 20000 in
theorem gX10_write_X7_has : GoodIn wsX10_write (wsV RX10 113 RX7 yX7_has wsX7_has) := goodIn_app (goodIn_of _ (by decide +kernel)) ggX10_write_X7_has
set_option maxRecDepth 20000 in
theorem ggX10_write_X10_isArms : GoodIn wsX10_write wsX10_isArms := goodIn_r _ [16] (by decide +kernel) (by decide +kernel)
set_option maxRecDepth 20000 in
theorem gX10_write_X10_isArms : GoodIn wsX10_write (va_wsS RX10 189 yX10_isArms wsX10_isArms) := goodIn_app (goodIn_of _ (by decide +kernel)) ggX10_write_X10_isArms
set_option maxRecDepth 20000 in
theorem ggX10_write_X0_addEntry : GoodIn wsX10_write wsX0_addEntry := goodIn_r _ [21, 22, 23, 24, 25, 35, 36, 37, 38] (by decide +kernel) (by decide +kernel)
set_option maxRecDepth 20000 in
theorem gX10_write_X0_addEntry : GoodIn wsX10_write (wsV RX10 232 RX0 yX0_addEntry wsX0_addEntry) := goodIn_app (goodIn_of _ (by decide +kernel)) ggX10_write_X0_addEntry
theorem dX10_write_0 : decode cX10_write 0 = .ok (.aload_n 0, 1) := by decide +kernel
theorem dX10_write_1 : decode cX10_write 1 = .ok (.getfield 10, 3) := by decide +kernel
theorem dX10_write_4 : decode cX10_write 4 = .ok (.iload_n 1, 1) := by decide +kernel
theorem dX10_write_5 : decode cX10_write 5 = .ok (.invokevirtual 113, 3) := by decide +kernel
theorem dX10_write_8 : decode cX10_write 8 = .ok (.ifCond .ne 6, 3) := by decide +kernel
theorem dX10_write_11 : decode cX10_write 11 = .ok (.ldc 117, 2) := by decide +kernel
theorem dX10_write_13 : decode cX10_write 13 = .ok (.ireturn, 1) := by decide +kernel
theorem dX10_write_14 : decode cX10_write 14 = .ok (.iload_n 2, 1) := by decide +kernel
theorem dX10_write_15 : decode cX10_write 15 = .ok (.ifCond .lt 16, 3) := by decide +kernel
theorem dX10_write_18 : decode cX10_write 18 = .ok (.iload_n 2, 1) := by decide +kernel
theorem dX10_write_19 : decode cX10_write 19 = .ok (.bipush 10, 2) := by decide +kernel
theorem dX10_write_21 : decode cX10_write 21 = .ok (.if_icmp .ge 10, 3) := by decide +kernel
theorem dX10_write_24 : decode cX10_write 24 = .ok (.iload_n 3, 1) := by decide +kernel
theorem dX10_write_25 : decode cX10_write 25 = .ok (.invokestatic 189, 3) := by decide +kernel
theorem dX10_write_28 : decode cX10_write 28 = .ok (.ifCond .ne 6, 3) := by decide +kernel
theorem dX10_write_31 : decode cX10_write 31 = .ok (.ldc 112, 2) := by decide +kernel
theorem dX10_write_33 : decode cX10_write 33 = .ok (.ireturn, 1) := by decide +kernel
theorem dX10_write_34 : decode cX10_write 34 = .ok (.aload_n 0, 1) := by decide +kernel
theorem dX10_write_35 : decode cX10_write 35 = .ok (.getfield 47, 3) := by decide +kernel
theorem dX10_write_38 : decode cX10_write 38 = .ok (.getfield 102, 3) := by decide +kernel
theorem dX10_write_41 : decode cX10_write 41 = .ok (.bipush 20, 2) := by decide +kernel
theorem dX10_write_43 : decode cX10_write 43 = .ok (.if_icmp .lt 6, 3) := by decide +kernel
theorem dX10_write_46 : decode cX10_write 46 = .ok (.ldc 196, 2) := by decide +kernel
theorem dX10_write_48 : decode cX10_write 48 = .ok (.ireturn, 1) := by decide +kernel
theorem dX10_write_49 : decode cX10_write 49 = .ok (.aload_n 0, 1) := by decide +kernel
theorem dX10_write_50 : decode cX10_write 50 = .ok (.getfield 47, 3) := by decide +kernel
theorem dX10_write_53 : decode cX10_write 53 = .ok (.iload_n 1, 1) := by decide +kernel
theorem dX10_write_54 : decode cX10_write 54 = .ok (.iload_n 2, 1) := by decide +kernel
theorem dX10_write_55 : decode cX10_write 55 = .ok (.iload_n 3, 1) := by decide +kernel
theorem dX10_write_56 : decode cX10_write 56 = .ok (.invokevirtual 232, 3) := by decide +kernel
theorem dX10_write_59 : decode cX10_write 59 = .ok (.aload_n 0, 1) := by decide +kernel
theorem dX10_write_60 : decode cX10_write 60 = .ok (.getfield 47, 3) := by decide +kernel
theorem dX10_write_63 : decode cX10_write 63 = .ok (.getfield 102, 3) := by decide +kernel
theorem dX10_write_66 : decode cX10_write 66 = .ok (.ireturn, 1) := by decide +kernel
theorem dX10_tear_0 : decode cX10_tear 0 = .ok (.aload_n 0, 1) := by decide +kernel
theorem dX10_tear_1 : decode cX10_tear 1 = .ok (.getfield 47, 3) := by decide +kernel
theorem dX10_tear_4 : decode cX10_tear 4 = .ok (.getfield 102, 3) := by decide +kernel
theorem dX10_tear_7 : decode cX10_tear 7 = .ok (.istore_n 1, 1) := by decide +kernel
theorem dX10_tear_8 : decode cX10_tear 8 = .ok (.aload_n 0, 1) := by decide +kernel
theorem dX10_tear_9 : decode cX10_tear 9 = .ok (.getfield 47, 3) := by decide +kernel
theorem dX10_tear_12 : decode cX10_tear 12 = .ok (.iconst 0, 1) := by decide +kernel
theorem dX10_tear_13 : decode cX10_tear 13 = .ok (.putfield 102, 3) := by decide +kernel
theorem dX10_tear_16 : decode cX10_tear 16 = .ok (.iload_n 1, 1) := by decide +kernel
theorem dX10_tear_17 : decode cX10_tear 17 = .ok (.ireturn, 1) := by decide +kernel
theorem dX10_seed_0 : decode cX10_seed 0 = .ok (.iload_n 1, 1) := by decide +kernel
theorem dX10_seed_1 : decode cX10_seed 1 = .ok (.ifCond .ge 6, 3) := by decide +kernel
theorem dX10_seed_4 : decode cX10_seed 4 = .ok (.ldc 112, 2) := by decide +kernel
theorem dX10_seed_6 : decode cX10_seed 6 = .ok (.ireturn, 1) := by decide +kernel
theorem dX10_seed_7 : decode cX10_seed 7 = .ok (.aload_n 0, 1) := by decide +kernel
theorem dX10_seed_8 : decode cX10_seed 8 = .ok (.getfield 68, 3) := by decide +kernel
theorem dX10_seed_11 : decode cX10_seed 11 = .ok (.getfield 236, 3) := by decide +kernel
theorem dX10_seed_14 : decode cX10_seed 14 = .ok (.istore_n 2, 1) := by decide +kernel
theorem dX10_seed_15 : decode cX10_seed 15 = .ok (.aload_n 0, 1) := by decide +kernel
theorem dX10_seed_16 : decode cX10_seed 16 = .ok (.getfield 68, 3) := by decide +kernel
theorem dX10_seed_19 : decode cX10_seed 19 = .ok (.iload_n 1, 1) := by decide +kernel
theorem dX10_seed_20 : decode cX10_seed 20 = .ok (.putfield 236, 3) := by decide +kernel
theorem dX10_seed_23 : decode cX10_seed 23 = .ok (.iload_n 2, 1) := by decide +kernel
theorem dX10_seed_24 : decode cX10_seed 24 = .ok (.ireturn, 1) := by decide +kernel
set_option maxRecDepth 20000 in
theorem ggX10_keep_X3_store : GoodIn wsX10_keep wsX3_store := goodIn_r _ [11, 12, 13, 14, 15, 16, 17, 18, 19, 20, 21, 22, 23, 24, 25, 26, 27, 40, 41, 42, 43, 44, 45, 46] (by decide +kernel) (by decide +kernel)
set_option maxRecDepth 20000 in
theorem gX10_keep_X3_store : GoodIn wsX10_keep (wsV RX10 239 RX3 yX3_store wsX3_store) := goodIn_app (goodIn_of _ (by decide +kernel)) ggX10_keep_X3_store
theorem dX10_keep_0 : decode cX10_keep 0 = .ok (.iload_n 1, 1) := by decide +kernel
theorem dX10_keep_1 : decode cX10_keep 1 = .ok (.ifCond .lt 8, 3) := by decide +kernel
theorem dX10_keep_4 : decode cX10_keep 4 = .ok (.iload_n 1, 1) := by decide +kernel
theorem dX10_keep_5 : decode cX10_keep 5 = .ok (.iconst 2, 1) := by decide +kernel
theorem dX10_keep_6 : decode cX10_keep 6 = .ok (.if_icmp .lt 6, 3) := by decide +kernel
theorem dX10_keep_9 : decode cX10_keep 9 = .ok (.ldc 117, 2) := by decide +kernel
theorem dX10_keep_11 : decode cX10_keep 11 = .ok (.ireturn, 1) := by decide +kernel
theorem dX10_keep_12 : decode cX10_keep 12 = .ok (.aload_n 0, 1) := by decide +kernel
theorem dX10_keep_13 : decode cX10_keep 13 = .ok (.getfield 61, 3) := by decide +kernel
theorem dX10_keep_16 : decode cX10_keep 16 = .ok (.iload_n 1, 1) := by decide +kernel
theorem dX10_keep_17 : decode cX10_keep 17 = .ok (.aload_n 0, 1) := by decide +kernel
theorem dX10_keep_18 : decode cX10_keep 18 = .ok (.getfield 10, 3) := by decide +kernel
theorem dX10_keep_21 : decode cX10_keep 21 = .ok (.aload_n 0, 1) := by decide +kernel
theorem dX10_keep_22 : decode cX10_keep 22 = .ok (.getfield 68, 3) := by decide +kernel
theorem dX10_keep_25 : decode cX10_keep 25 = .ok (.invokevirtual 239, 3) := by decide +kernel
theorem dX10_keep_28 : decode cX10_keep 28 = .ok (.aload_n 0, 1) := by decide +kernel
theorem dX10_keep_29 : decode cX10_keep 29 = .ok (.getfield 54, 3) := by decide +kernel
theorem dX10_keep_32 : decode cX10_keep 32 = .ok (.iconst 0, 1) := by decide +kernel
theorem dX10_keep_33 : decode cX10_keep 33 = .ok (.putfield 109, 3) := by decide +kernel
theorem dX10_keep_36 : decode cX10_keep 36 = .ok (.iconst 1, 1) := by decide +kernel
theorem dX10_keep_37 : decode cX10_keep 37 = .ok (.ireturn, 1) := by decide +kernel
set_option maxRecDepth 20000 in
theorem ggX10_goBack_X3_isStored : GoodIn wsX10_goBack wsX3_isStored := goodIn_r _ [12, 13, 165, 166, 167] (by decide +kernel) (by decide +kernel)
set_option maxRecDepth 20000 in
theorem gX10_goBack_X3_isStored : GoodIn wsX10_goBack (wsV RX10 243 RX3 yX3_isStored wsX3_isStored) := goodIn_app (goodIn_of _ (by decide +kernel)) ggX10_goBack_X3_isStored
set_option maxRecDepth 20000 in
theorem ggX10_goBack_X3_restore : GoodIn wsX10_goBack wsX3_restore := goodIn_r _ [17, 18, 19, 20, 21, 9, 10, 11, 12, 13, 22, 23, 24, 25, 26, 27, 28, 29, 30, 31, 32, 33, 165, 166, 167, 168, 169, 170, 171] (by decide +kernel) (by decide +kernel)
set_option maxRecDepth 20000 in
theorem gX10_goBack_X3_restore : GoodIn wsX10_goBack (wsV RX10 246 RX3 yX3_restore wsX3_restore) := goodIn_app (goodIn_of _ (by decide +kernel)) ggX10_goBack_X3_restore
set_option maxRecDepth 20000 in
theorem ggX10_goBack_X10_reckonAll : GoodIn wsX10_goBack wsX10_reckonAll := goodIn_r _ [38, 39, 4, 40, 41, 42, 43, 44, 45, 46, 47, 48, 49, 50, 51, 52, 53, 54, 55, 56, 57, 58, 59, 60, 61, 62, 63, 64, 65, 66, 67, 68, 69, 70, 71, 72, 73, 74, 75, 76, 77, 78, 79, 80, 81, 82, 83, 84, 85, 86, 87, 88, 89, 90, 91, 92, 93, 94, 95, 96, 97, 98, 99, 100, 101, 102, 103, 104, 105, 106, 107, 108, 109, 110, 111, 112, 113, 114, 115, 116, 117, 118, 119, 120, 121, 122, 123, 124, 125, 126, 127, 128, 129, 130, 131, 132, 133, 134, 135, 136, 137, 138, 139, 140, 141, 142, 143, 144, 145, 146, 147, 148, 149, 150, 151, 152, 153, 154, 155, 156, 157, 158, 159, 160, 161, 172, 173, 174, 175, 176, 171, 177, 178, 179, 180, 181, 182, 183, 184] (by decide +kernel) (by decide +kernel)
set_option maxRecDepth 20000 in
theorem gX10_goBack_X10_reckonAll : GoodIn wsX10_goBack (wsV RX10 205 RX10 yX10_reckonAll wsX10_reckonAll) := goodIn_app (goodIn_of _ (by decide +kernel)) ggX10_goBack_X10_reckonAll
theorem dX10_goBack_0 : decode cX10_goBack 0 = .ok (.iload_n 1, 1) := by decide +kernel
theorem dX10_goBack_1 : decode cX10_goBack 1 = .ok (.ifCond .lt 8, 3) := by decide +kernel
theorem dX10_goBack_4 : decode cX10_goBack 4 = .ok (.iload_n 1, 1) := by decide +kernel
theorem dX10_goBack_5 : decode cX10_goBack 5 = .ok (.iconst 2, 1) := by decide +kernel
theorem dX10_goBack_6 : decode cX10_goBack 6 = .ok (.if_icmp .lt 6, 3) := by decide +kernel
theorem dX10_goBack_9 : decode cX10_goBack 9 = .ok (.ldc 117, 2) := by decide +kernel
theorem dX10_goBack_11 : decode cX10_goBack 11 = .ok (.ireturn, 1) := by decide +kernel
theorem dX10_goBack_12 : decode cX10_goBack 12 = .ok (.aload_n 0, 1) := by decide +kernel
theorem dX10_goBack_13 : decode cX10_goBack 13 = .ok (.getfield 61, 3) := by decide +kernel
theorem dX10_goBack_16 : decode cX10_goBack 16 = .ok (.iload_n 1, 1) := by decide +kernel
theorem dX10_goBack_17 : decode cX10_goBack 17 = .ok (.invokevirtual 243, 3) := by decide +kernel
theorem dX10_goBack_20 : decode cX10_goBack 20 = .ok (.ifCond .ne 6, 3) := by decide +kernel
theorem dX10_goBack_23 : decode cX10_goBack 23 = .ok (.ldc 170, 2) := by decide +kernel
theorem dX10_goBack_25 : decode cX10_goBack 25 = .ok (.ireturn, 1) := by decide +kernel
theorem dX10_goBack_26 : decode cX10_goBack 26 = .ok (.aload_n 0, 1) := by decide +kernel
theorem dX10_goBack_27 : decode cX10_goBack 27 = .ok (.getfield 61, 3) := by decide +kernel
theorem dX10_goBack_30 : decode cX10_goBack 30 = .ok (.iload_n 1, 1) := by decide +kernel
theorem dX10_goBack_31 : decode cX10_goBack 31 = .ok (.aload_n 0, 1) := by decide +kernel
theorem dX10_goBack_32 : decode cX10_goBack 32 = .ok (.getfield 10, 3) := by decide +kernel
theorem dX10_goBack_35 : decode cX10_goBack 35 = .ok (.aload_n 0, 1) := by decide +kernel
theorem dX10_goBack_36 : decode cX10_goBack 36 = .ok (.getfield 68, 3) := by decide +kernel
theorem dX10_goBack_39 : decode cX10_goBack 39 = .ok (.invokevirtual 246, 3) := by decide +kernel
theorem dX10_goBack_42 : decode cX10_goBack 42 = .ok (.aload_n 0, 1) := by decide +kernel
theorem dX10_goBack_43 : decode cX10_goBack 43 = .ok (.getfield 54, 3) := by decide +kernel
theorem dX10_goBack_46 : decode cX10_goBack 46 = .ok (.iconst 0, 1) := by decide +kernel
theorem dX10_goBack_47 : decode cX10_goBack 47 = .ok (.putfield 109, 3) := by decide +kernel
theorem dX10_goBack_50 : decode cX10_goBack 50 = .ok (.aload_n 0, 1) := by decide +kernel
theorem dX10_goBack_51 : decode cX10_goBack 51 = .ok (.invokevirtual 205, 3) := by decide +kernel
theorem dX10_goBack_54 : decode cX10_goBack 54 = .ok (.iconst 1, 1) := by decide +kernel
theorem dX10_goBack_55 : decode cX10_goBack 55 = .ok (.ireturn, 1) := by decide +kernel
set_option maxRecDepth 20000 in
theorem ggX10_boundYears_X7_has : GoodIn wsX10_boundYears wsX7_has := goodIn_r _ [10, 11, 109] (by decide +kernel) (by decide +kernel)
set_option maxRecDepth 20000 in
theorem gX10_boundYears_X7_has : GoodIn wsX10_boundYears (wsV RX10 113 RX7 yX7_has wsX7_has) := goodIn_app (goodIn_of _ (by decide +kernel)) ggX10_boundYears_X7_has
set_option maxRecDepth 20000 in
theorem ggX10_boundYears_X10_areYears : GoodIn wsX10_boundYears wsX10_areYears := goodIn_r _ [15] (by decide +kernel) (by decide +kernel)
set_option maxRecDepth 20000 in
theorem gX10_boundYears_X10_areYears : GoodIn wsX10_boundYears (va_wsS RX10 175 yX10_areYears wsX10_areYears) := goodIn_app (goodIn_of _ (by decide +kernel)) ggX10_boundYears_X10_areYears
set_option maxRecDepth 20000 in
theorem ggX10_boundYears_X5_remember : GoodIn wsX10_boundYears wsX5_remember := goodIn_r _ [20, 21, 22, 23, 24, 25, 26, 27, 28, 29, 30, 31, 32, 33, 34, 35, 36, 37, 38, 39, 110, 111, 112, 113, 114, 109] (by decide +kernel) (by decide +kernel)
set_option maxRecDepth 20000 in
theorem gX10_boundYears_X5_remember : GoodIn wsX10_boundYears (wsV RX10 197 RX5 yX5_remember wsX5_remember) := goodIn_app (goodIn_of _ (by decide +kernel)) ggX10_boundYears_X5_remember
set_option maxRecDepth 20000 in
theorem ggX10_boundYears_X7_setBounds : GoodIn wsX10_boundYears wsX7_setBounds := goodIn_r _ [43, 11, 44, 7, 8, 9, 10, 109] (by decide +kernel) (by decide +kernel)
set_option maxRecDepth 20000 in
theorem gX10_boundYears_X7_setBounds : GoodIn wsX10_boundYears (wsV RX10 249 RX7 yX7_setBounds wsX7_setBounds) := goodIn_app (goodIn_of _ (by decide +kernel)) ggX10_boundYears_X7_setBounds
set_option maxRecDepth 20000 in
theorem ggX10_boundYears_X9_reckon : GoodIn wsX10_boundYears wsX9_reckon := goodIn_r _ [49, 50, 51, 52, 53, 54, 9, 55, 11, 56, 57, 58, 48, 59, 60, 61, 62, 63, 64, 65, 66, 67, 68, 44, 7, 8, 10, 69, 70, 71, 72, 73, 74, 75, 76, 77, 78, 79, 80, 81, 82, 83, 84, 85, 86, 87, 88, 89, 90, 91, 92, 93, 94, 95, 115, 116, 117, 118, 119, 120, 121, 122, 109] (by decide +kernel) (by decide +kernel)
set_option maxRecDepth 20000 in
theorem gX10_boundYears_X9_reckon : GoodIn wsX10_boundYears (wsV RX10 252 RX9 yX9_reckon wsX9_reckon) := goodIn_app (goodIn_of _ (by decide +kernel)) ggX10_boundYears_X9_reckon
set_option maxRecDepth 20000 in
theorem ggX10_boundYears_X9_spoiledBit : GoodIn wsX10_boundYears wsX9_spoiledBit := goodIn_r _ [99, 51, 115, 116, 117, 118, 119, 120, 121, 122] (by decide +kernel) (by decide +kernel)
set_option maxRecDepth 20000 in
theorem gX10_boundYears_X9_spoiledBit : GoodIn wsX10_boundYears (wsV RX10 89 RX9 yX9_spoiledBit wsX9_spoiledBit) := goodIn_app (goodIn_of _ (by decide +kernel)) ggX10_boundYears_X9_spoiledBit
theorem dX10_boundYears_0 : decode cX10_boundYears 0 = .ok (.aload_n 0, 1) := by decide +kernel
theorem dX10_boundYears_1 : decode cX10_boundYears 1 = .ok (.getfield 10, 3) := by decide +kernel
theorem dX10_boundYears_4 : decode cX10_boundYears 4 = .ok (.iload_n 1, 1) := by decide +kernel
theorem dX10_boundYears_5 : decode cX10_boundYears 5 = .ok (.invokevirtual 113, 3) := by decide +kernel
theorem dX10_boundYears_8 : decode cX10_boundYears 8 = .ok (.ifCond .ne 6, 3) := by decide +kernel
theorem dX10_boundYears_11 : decode cX10_boundYears 11 = .ok (.ldc 117, 2) := by decide +kernel
theorem dX10_boundYears_13 : decode cX10_boundYears 13 = .ok (.ireturn, 1) := by decide +kernel
theorem dX10_boundYears_14 : decode cX10_boundYears 14 = .ok (.iload_n 3, 1) := by decide +kernel
theorem dX10_boundYears_15 : decode cX10_boundYears 15 = .ok (.iload 4, 2) := by decide +kernel
theorem dX10_boundYears_17 : decode cX10_boundYears 17 = .ok (.invokestatic 175, 3) := by decide +kernel
theorem dX10_boundYears_20 : decode cX10_boundYears 20 = .ok (.ifCond .ne 6, 3) := by decide +kernel
theorem dX10_boundYears_23 : decode cX10_boundYears 23 = .ok (.ldc 112, 2) := by decide +kernel
theorem dX10_boundYears_25 : decode cX10_boundYears 25 = .ok (.ireturn, 1) := by decide +kernel
theorem dX10_boundYears_26 : decode cX10_boundYears 26 = .ok (.aload_n 0, 1) := by decide +kernel
theorem dX10_boundYears_27 : decode cX10_boundYears 27 = .ok (.getfield 54, 3) := by decide +kernel
theorem dX10_boundYears_30 : decode cX10_boundYears 30 = .ok (.aload_n 0, 1) := by decide +kernel
theorem dX10_boundYears_31 : decode cX10_boundYears 31 = .ok (.getfield 10, 3) := by decide +kernel
theorem dX10_boundYears_34 : decode cX10_boundYears 34 = .ok (.invokevirtual 197, 3) := by decide +kernel
theorem dX10_boundYears_37 : decode cX10_boundYears 37 = .ok (.aload_n 0, 1) := by decide +kernel
theorem dX10_boundYears_38 : decode cX10_boundYears 38 = .ok (.getfield 10, 3) := by decide +kernel
theorem dX10_boundYears_41 : decode cX10_boundYears 41 = .ok (.iload_n 1, 1) := by decide +kernel
theorem dX10_boundYears_42 : decode cX10_boundYears 42 = .ok (.iload_n 2, 1) := by decide +kernel
theorem dX10_boundYears_43 : decode cX10_boundYears 43 = .ok (.iload_n 3, 1) := by decide +kernel
theorem dX10_boundYears_44 : decode cX10_boundYears 44 = .ok (.iload 4, 2) := by decide +kernel
theorem dX10_boundYears_46 : decode cX10_boundYears 46 = .ok (.invokevirtual 249, 3) := by decide +kernel
theorem dX10_boundYears_49 : decode cX10_boundYears 49 = .ok (.aload_n 0, 1) := by decide +kernel
theorem dX10_boundYears_50 : decode cX10_boundYears 50 = .ok (.getfield 26, 3) := by decide +kernel
theorem dX10_boundYears_53 : decode cX10_boundYears 53 = .ok (.aload_n 0, 1) := by decide +kernel
theorem dX10_boundYears_54 : decode cX10_boundYears 54 = .ok (.getfield 10, 3) := by decide +kernel
theorem dX10_boundYears_57 : decode cX10_boundYears 57 = .ok (.invokevirtual 252, 3) := by decide +kernel
theorem dX10_boundYears_60 : decode cX10_boundYears 60 = .ok (.aload_n 0, 1) := by decide +kernel
theorem dX10_boundYears_61 : decode cX10_boundYears 61 = .ok (.getfield 26, 3) := by decide +kernel
theorem dX10_boundYears_64 : decode cX10_boundYears 64 = .ok (.invokevirtual 89, 3) := by decide +kernel
theorem dX10_boundYears_67 : decode cX10_boundYears 67 = .ok (.ireturn, 1) := by decide +kernel
set_option maxRecDepth 20000 in
theorem ggX10_reckonAll_X1_reckon : GoodIn wsX10_reckonAll wsX1_reckon := goodIn_r _ [8, 9, 10, 11, 12, 13, 14, 15, 16, 17, 18, 7, 19, 20, 21, 22, 23, 24, 25, 26, 27, 28, 29, 30, 31, 32, 33, 34, 35, 36, 37, 38, 39, 40, 41, 42, 43, 44, 45, 46, 47, 48, 49, 50, 51, 52, 53, 54, 55, 56, 57, 58, 59, 60, 61, 62, 63, 64, 65, 66, 67, 68, 69, 70, 125, 126, 127, 128, 129, 130] (by decide +kernel) (by decide +kernel)
set_option maxRecDepth 20000 in
theorem gX10_reckonAll_X1_reckon : GoodIn wsX10_reckonAll (wsV RX10 216 RX1 yX1_reckon wsX1_reckon) := goodIn_app (goodIn_of _ (by decide +kernel)) ggX10_reckonAll_X1_reckon
set_option maxRecDepth 20000 in
theorem ggX10_reckonAll_X9_reckon : GoodIn wsX10_reckonAll wsX9_reckon := goodIn_r _ [75, 76, 77, 78, 12, 13, 14, 15, 16, 79, 80, 81, 74, 82, 83, 84, 85, 86, 87, 88, 21, 22, 23, 24, 25, 26, 27, 89, 90, 91, 92, 93, 94, 95, 96, 97, 98, 99, 100, 101, 102, 103, 104, 105, 106, 107, 108, 109, 110, 111, 112, 113, 114, 115, 131, 132, 133, 134, 135, 136, 137, 138, 130] (by decide +kernel) (by decide +kernel)
set_option maxRecDepth 20000 in
theorem gX10_reckonAll_X9_reckon : GoodIn wsX10_reckonAll (wsV RX10 252 RX9 yX9_reckon wsX9_reckon) := goodIn_app (goodIn_of _ (by decide +kernel)) ggX10_reckonAll_X9_reckon
theorem dX10_reckonAll_0 : decode cX10_reckonAll 0 = .ok (.aload_n 0, 1) := by decide +kernel
theorem dX10_reckonAll_1 : decode cX10_reckonAll 1 = .ok (.getfield 19, 3) := by decide +kernel
theorem dX10_reckonAll_4 : decode cX10_reckonAll 4 = .ok (.aload_n 0, 1) := by decide +kernel
theorem dX10_reckonAll_5 : decode cX10_reckonAll 5 = .ok (.getfield 10, 3) := by decide +kernel
theorem dX10_reckonAll_8 : decode cX10_reckonAll 8 = .ok (.invokevirtual 216, 3) := by decide +kernel
theorem dX10_reckonAll_11 : decode cX10_reckonAll 11 = .ok (.aload_n 0, 1) := by decide +kernel
theorem dX10_reckonAll_12 : decode cX10_reckonAll 12 = .ok (.getfield 26, 3) := by decide +kernel
theorem dX10_reckonAll_15 : decode cX10_reckonAll 15 = .ok (.aload_n 0, 1) := by decide +kernel
theorem dX10_reckonAll_16 : decode cX10_reckonAll 16 = .ok (.getfield 10, 3) := by decide +kernel
theorem dX10_reckonAll_19 : decode cX10_reckonAll 19 = .ok (.invokevirtual 252, 3) := by decide +kernel
theorem dX10_reckonAll_22 : decode cX10_reckonAll 22 = .ok (.return_, 1) := by decide +kernel
theorem dX10_isArms_0 : decode cX10_isArms 0 = .ok (.iload_n 0, 1) := by decide +kernel
theorem dX10_isArms_1 : decode cX10_isArms 1 = .ok (.ifCond .lt 13, 3) := by decide +kernel
theorem dX10_isArms_4 : decode cX10_isArms 4 = .ok (.iload_n 0, 1) := by decide +kernel
theorem dX10_isArms_5 : decode cX10_isArms 5 = .ok (.bipush 10, 2) := by decide +kernel
theorem dX10_isArms_7 : decode cX10_isArms 7 = .ok (.if_icmp .ge 7, 3) := by decide +kernel
theorem dX10_isArms_10 : decode cX10_isArms 10 = .ok (.iconst 1, 1) := by decide +kernel
theorem dX10_isArms_11 : decode cX10_isArms 11 = .ok (.goto 4, 3) := by decide +kernel
theorem dX10_isArms_14 : decode cX10_isArms 14 = .ok (.iconst 0, 1) := by decide +kernel
theorem dX10_isArms_15 : decode cX10_isArms 15 = .ok (.ireturn, 1) := by decide +kernel
theorem dX10_areYears_0 : decode cX10_areYears 0 = .ok (.iload_n 0, 1) := by decide +kernel
theorem dX10_areYears_1 : decode cX10_areYears 1 = .ok (.ifCond .lt 19, 3) := by decide +kernel
theorem dX10_areYears_4 : decode cX10_areYears 4 = .ok (.iload_n 0, 1) := by decide +kernel
theorem dX10_areYears_5 : decode cX10_areYears 5 = .ok (.iload_n 1, 1) := by decide +kernel
theorem dX10_areYears_6 : decode cX10_areYears 6 = .ok (.if_icmp .gt 14, 3) := by decide +kernel
theorem dX10_areYears_9 : decode cX10_areYears 9 = .ok (.iload_n 1, 1) := by decide +kernel
theorem dX10_areYears_10 : decode cX10_areYears 10 = .ok (.sipush 999, 3) := by decide +kernel
theorem dX10_areYears_13 : decode cX10_areYears 13 = .ok (.if_icmp .gt 7, 3) := by decide +kernel
theorem dX10_areYears_16 : decode cX10_areYears 16 = .ok (.iconst 1, 1) := by decide +kernel
theorem dX10_areYears_17 : decode cX10_areYears 17 = .ok (.goto 4, 3) := by decide +kernel
theorem dX10_areYears_20 : decode cX10_areYears 20 = .ok (.iconst 0, 1) := by decide +kernel
theorem dX10_areYears_21 : decode cX10_areYears 21 = .ok (.ireturn, 1) := by decide +kernel
end
section
theorem dX11_init_0 : decode cX11_init 0 = .ok (.aload_n 0, 1) := by decide +kernel
theorem dX11_init_1 : decode cX11_init 1 = .ok (.invokespecial 1, 3) := by decide +kernel
theorem dX11_init_4 : decode cX11_init 4 = .ok (.aload_n 0, 1) := by decide +kernel
theorem dX11_init_5 : decode cX11_init 5 = .ok (.sipush 3243, 3) := by decide +kernel
theorem dX11_init_8 : decode cX11_init 8 = .ok (.newarray .int, 2) := by decide +kernel
theorem dX11_init_10 : decode cX11_init 10 = .ok (.putfield 7, 3) := by decide +kernel
theorem dX11_init_13 : decode cX11_init 13 = .ok (.aload_n 0, 1) := by decide +kernel
theorem dX11_init_14 : decode cX11_init 14 = .ok (.iconst 2, 1) := by decide +kernel
theorem dX11_init_15 : decode cX11_init 15 = .ok (.newarray .int, 2) := by decide +kernel
theorem dX11_init_17 : decode cX11_init 17 = .ok (.putfield 13, 3) := by decide +kernel
theorem dX11_init_20 : decode cX11_init 20 = .ok (.aload_n 0, 1) := by decide +kernel
theorem dX11_init_21 : decode cX11_init 21 = .ok (.iconst 2, 1) := by decide +kernel
theorem dX11_init_22 : decode cX11_init 22 = .ok (.newarray .boolean, 2) := by decide +kernel
theorem dX11_init_24 : decode cX11_init 24 = .ok (.putfield 16, 3) := by decide +kernel
theorem dX11_init_27 : decode cX11_init 27 = .ok (.aload_n 0, 1) := by decide +kernel
theorem dX11_init_28 : decode cX11_init 28 = .ok (.bipush 20, 2) := by decide +kernel
theorem dX11_init_30 : decode cX11_init 30 = .ok (.newarray .int, 2) := by decide +kernel
theorem dX11_init_32 : decode cX11_init 32 = .ok (.putfield 20, 3) := by decide +kernel
theorem dX11_init_35 : decode cX11_init 35 = .ok (.aload_n 0, 1) := by decide +kernel
theorem dX11_init_36 : decode cX11_init 36 = .ok (.bipush 20, 2) := by decide +kernel
theorem dX11_init_38 : decode cX11_init 38 = .ok (.newarray .int, 2) := by decide +kernel
theorem dX11_init_40 : decode cX11_init 40 = .ok (.putfield 23, 3) := by decide +kernel
theorem dX11_init_43 : decode cX11_init 43 = .ok (.aload_n 0, 1) := by decide +kernel
theorem dX11_init_44 : decode cX11_init 44 = .ok (.bipush 20, 2) := by decide +kernel
theorem dX11_init_46 : decode cX11_init 46 = .ok (.newarray .int, 2) := by decide +kernel
theorem dX11_init_48 : decode cX11_init 48 = .ok (.putfield 26, 3) := by decide +kernel
theorem dX11_init_51 : decode cX11_init 51 = .ok (.aload_n 0, 1) := by decide +kernel
theorem dX11_init_52 : decode cX11_init 52 = .ok (.bipush 17, 2) := by decide +kernel
theorem dX11_init_54 : decode cX11_init 54 = .ok (.newarray .int, 2) := by decide +kernel
theorem dX11_init_56 : decode cX11_init 56 = .ok (.putfield 29, 3) := by decide +kernel
theorem dX11_init_59 : decode cX11_init 59 = .ok (.aload_n 0, 1) := by decide +kernel
theorem dX11_init_60 : decode cX11_init 60 = .ok (.sipush 170, 3) := by decide +kernel
theorem dX11_init_63 : decode cX11_init 63 = .ok (.newarray .int, 2) := by decide +kernel
theorem dX11_init_65 : decode cX11_init 65 = .ok (.putfield 32, 3) := by decide +kernel
theorem dX11_init_68 : decode cX11_init 68 = .ok (.aload_n 0, 1) := by decide +kernel
theorem dX11_init_69 : decode cX11_init 69 = .ok (.sipush 170, 3) := by decide +kernel
theorem dX11_init_72 : decode cX11_init 72 = .ok (.newarray .int, 2) := by decide +kernel
theorem dX11_init_74 : decode cX11_init 74 = .ok (.putfield 35, 3) := by decide +kernel
theorem dX11_init_77 : decode cX11_init 77 = .ok (.aload_n 0, 1) := by decide +kernel
theorem dX11_init_78 : decode cX11_init 78 = .ok (.bipush 32, 2) := by decide +kernel
theorem dX11_init_80 : decode cX11_init 80 = .ok (.newarray .int, 2) := by decide +kernel
theorem dX11_init_82 : decode cX11_init 82 = .ok (.putfield 38, 3) := by decide +kernel
theorem dX11_init_85 : decode cX11_init 85 = .ok (.aload_n 0, 1) := by decide +kernel
theorem dX11_init_86 : decode cX11_init 86 = .ok (.bipush 32, 2) := by decide +kernel
theorem dX11_init_88 : decode cX11_init 88 = .ok (.newarray .int, 2) := by decide +kernel
theorem dX11_init_90 : decode cX11_init 90 = .ok (.putfield 41, 3) := by decide +kernel
theorem dX11_init_93 : decode cX11_init 93 = .ok (.aload_n 0, 1) := by decide +kernel
theorem dX11_init_94 : decode cX11_init 94 = .ok (.bipush 11, 2) := by decide +kernel
theorem dX11_init_96 : decode cX11_init 96 = .ok (.newarray .int, 2) := by decide +kernel
theorem dX11_init_98 : decode cX11_init 98 = .ok (.putfield 44, 3) := by decide +kernel
theorem dX11_init_101 : decode cX11_init 101 = .ok (.aload_n 0, 1) := by decide +kernel
theorem dX11_init_102 : decode cX11_init 102 = .ok (.bipush 16, 2) := by decide +kernel
theorem dX11_init_104 : decode cX11_init 104 = .ok (.newarray .int, 2) := by decide +kernel
theorem dX11_init_106 : decode cX11_init 106 = .ok (.putfield 47, 3) := by decide +kernel
theorem dX11_init_109 : decode cX11_init 109 = .ok (.aload_n 0, 1) := by decide +kernel
theorem dX11_init_110 : decode cX11_init 110 = .ok (.bipush 16, 2) := by decide +kernel
theorem dX11_init_112 : decode cX11_init 112 = .ok (.newarray .int, 2) := by decide +kernel
theorem dX11_init_114 : decode cX11_init 114 = .ok (.putfield 50, 3) := by decide +kernel
theorem dX11_init_117 : decode cX11_init 117 = .ok (.return_, 1) := by decide +kernel
theorem dX11_in_0 : decode cX11_in 0 = .ok (.lload_n 0, 1) := by decide +kernel
theorem dX11_in_1 : decode cX11_in 1 = .ok (.lload_n 2, 1) := by decide +kernel
theorem dX11_in_2 : decode cX11_in 2 = .ok (.lcmp, 1) := by decide +kernel
theorem dX11_in_3 : decode cX11_in 3 = .ok (.ifCond .lt 14, 3) := by decide +kernel
theorem dX11_in_6 : decode cX11_in 6 = .ok (.lload_n 0, 1) := by decide +kernel
theorem dX11_in_7 : decode cX11_in 7 = .ok (.lload 4, 2) := by decide +kernel
theorem dX11_in_9 : decode cX11_in 9 = .ok (.lcmp, 1) := by decide +kernel
theorem dX11_in_10 : decode cX11_in 10 = .ok (.ifCond .gt 7, 3) := by decide +kernel
theorem dX11_in_13 : decode cX11_in 13 = .ok (.iconst 1, 1) := by decide +kernel
theorem dX11_in_14 : decode cX11_in 14 = .ok (.goto 4, 3) := by decide +kernel
theorem dX11_in_17 : decode cX11_in 17 = .ok (.iconst 0, 1) := by decide +kernel
theorem dX11_in_18 : decode cX11_in 18 = .ok (.ireturn, 1) := by decide +kernel
theorem dX11_copy_0 : decode cX11_copy 0 = .ok (.iconst 0, 1) := by decide +kernel
theorem dX11_copy_1 : decode cX11_copy 1 = .ok (.istore_n 3, 1) := by decide +kernel
theorem dX11_copy_2 : decode cX11_copy 2 = .ok (.iload_n 3, 1) := by decide +kernel
theorem dX11_copy_3 : decode cX11_copy 3 = .ok (.sipush 141, 3) := by decide +kernel
theorem dX11_copy_6 : decode cX11_copy 6 = .ok (.if_icmp .ge 25, 3) := by decide +kernel
theorem dX11_copy_9 : decode cX11_copy 9 = .ok (.aload_n 0, 1) := by decide +kernel
theorem dX11_copy_10 : decode cX11_copy 10 = .ok (.getfield 7, 3) := by decide +kernel
theorem dX11_copy_13 : decode cX11_copy 13 = .ok (.iload_n 2, 1) := by decide +kernel
theorem dX11_copy_14 : decode cX11_copy 14 = .ok (.iload_n 3, 1) := by decide +kernel
theorem dX11_copy_15 : decode cX11_copy 15 = .ok (.iadd, 1) := by decide +kernel
theorem dX11_copy_16 : decode cX11_copy 16 = .ok (.aload_n 0, 1) := by decide +kernel
theorem dX11_copy_17 : decode cX11_copy 17 = .ok (.getfield 7, 3) := by decide +kernel
theorem dX11_copy_20 : decode cX11_copy 20 = .ok (.iload_n 1, 1) := by decide +kernel
theorem dX11_copy_21 : decode cX11_copy 21 = .ok (.iload_n 3, 1) := by decide +kernel
theorem dX11_copy_22 : decode cX11_copy 22 = .ok (.iadd, 1) := by decide +kernel
theorem dX11_copy_23 : decode cX11_copy 23 = .ok (.iaload, 1) := by decide +kernel
theorem dX11_copy_24 : decode cX11_copy 24 = .ok (.iastore, 1) := by decide +kernel
theorem dX11_copy_25 : decode cX11_copy 25 = .ok (.iinc 3 1, 3) := by decide +kernel
theorem dX11_copy_28 : decode cX11_copy 28 = .ok (.goto (-26), 3) := by decide +kernel
theorem dX11_copy_31 : decode cX11_copy 31 = .ok (.return_, 1) := by decide +kernel
set_option maxRecDepth 20000 in
theorem ggX11_minds_X11_copy : GoodIn wsX11_minds wsX11_copy := goodIn_r _ [7, 2, 8, 9, 10, 11, 12, 13, 14, 15, 16, 17, 18, 19, 20, 21, 22, 23, 24, 25] (by decide +kernel) (by decide +kernel)
set_option maxRecDepth 20000 in
theorem gX11_minds_X11_copy : GoodIn wsX11_minds (wsV RX11 57 RX11 yX11_copy wsX11_copy) := goodIn_app (goodIn_of _ (by decide +kernel)) ggX11_minds_X11_copy
theorem dX11_minds_0 : decode cX11_minds 0 = .ok (.aload_n 0, 1) := by decide +kernel
theorem dX11_minds_1 : decode cX11_minds 1 = .ok (.getfield 53, 3) := by decide +kernel
theorem dX11_minds_4 : decode cX11_minds 4 = .ok (.bipush 20, 2) := by decide +kernel
theorem dX11_minds_6 : decode cX11_minds 6 = .ok (.if_icmp .ne 52, 3) := by decide +kernel
theorem dX11_minds_9 : decode cX11_minds 9 = .ok (.iconst 0, 1) := by decide +kernel
theorem dX11_minds_10 : decode cX11_minds 10 = .ok (.istore_n 1, 1) := by decide +kernel
theorem dX11_minds_11 : decode cX11_minds 11 = .ok (.iload_n 1, 1) := by decide +kernel
theorem dX11_minds_12 : decode cX11_minds 12 = .ok (.sipush 2679, 3) := by decide +kernel
theorem dX11_minds_15 : decode cX11_minds 15 = .ok (.if_icmp .ge 33, 3) := by decide +kernel
theorem dX11_minds_18 : decode cX11_minds 18 = .ok (.aload_n 0, 1) := by decide +kernel
theorem dX11_minds_19 : decode cX11_minds 19 = .ok (.getfield 7, 3) := by decide +kernel
theorem dX11_minds_22 : decode cX11_minds 22 = .ok (.sipush 423, 3) := by decide +kernel
theorem dX11_minds_25 : decode cX11_minds 25 = .ok (.iload_n 1, 1) := by decide +kernel
theorem dX11_minds_26 : decode cX11_minds 26 = .ok (.iadd, 1) := by decide +kernel
theorem dX11_minds_27 : decode cX11_minds 27 = .ok (.aload_n 0, 1) := by decide +kernel
theorem dX11_minds_28 : decode cX11_minds 28 = .ok (.getfield 7, 3) := by decide +kernel
theorem dX11_minds_31 : decode cX11_minds 31 = .ok (.sipush 423, 3) := by decide +kernel
theorem dX11_minds_34 : decode cX11_minds 34 = .ok (.iload_n 1, 1) := by decide +kernel
theorem dX11_minds_35 : decode cX11_minds 35 = .ok (.iadd, 1) := by decide +kernel
theorem dX11_minds_36 : decode cX11_minds 36 = .ok (.sipush 141, 3) := by decide +kernel
theorem dX11_minds_39 : decode cX11_minds 39 = .ok (.iadd, 1) := by decide +kernel
theorem dX11_minds_40 : decode cX11_minds 40 = .ok (.iaload, 1) := by decide +kernel
theorem dX11_minds_41 : decode cX11_minds 41 = .ok (.iastore, 1) := by decide +kernel
theorem dX11_minds_42 : decode cX11_minds 42 = .ok (.iinc 1 1, 3) := by decide +kernel
theorem dX11_minds_45 : decode cX11_minds 45 = .ok (.goto (-34), 3) := by decide +kernel
theorem dX11_minds_48 : decode cX11_minds 48 = .ok (.aload_n 0, 1) := by decide +kernel
theorem dX11_minds_49 : decode cX11_minds 49 = .ok (.dup, 1) := by decide +kernel
theorem dX11_minds_50 : decode cX11_minds 50 = .ok (.getfield 53, 3) := by decide +kernel
theorem dX11_minds_53 : decode cX11_minds 53 = .ok (.iconst 1, 1) := by decide +kernel
theorem dX11_minds_54 : decode cX11_minds 54 = .ok (.isub, 1) := by decide +kernel
theorem dX11_minds_55 : decode cX11_minds 55 = .ok (.putfield 53, 3) := by decide +kernel
theorem dX11_minds_58 : decode cX11_minds 58 = .ok (.aload_n 0, 1) := by decide +kernel
theorem dX11_minds_59 : decode cX11_minds 59 = .ok (.iconst 0, 1) := by decide +kernel
theorem dX11_minds_60 : decode cX11_minds 60 = .ok (.sipush 423, 3) := by decide +kernel
theorem dX11_minds_63 : decode cX11_minds 63 = .ok (.sipush 141, 3) := by decide +kernel
theorem dX11_minds_66 : decode cX11_minds 66 = .ok (.aload_n 0, 1) := by decide +kernel
theorem dX11_minds_67 : decode cX11_minds 67 = .ok (.getfield 53, 3) := by decide +kernel
theorem dX11_minds_70 : decode cX11_minds 70 = .ok (.imul, 1) := by decide +kernel
theorem dX11_minds_71 : decode cX11_minds 71 = .ok (.iadd, 1) := by decide +kernel
theorem dX11_minds_72 : decode cX11_minds 72 = .ok (.invokevirtual 57, 3) := by decide +kernel
theorem dX11_minds_75 : decode cX11_minds 75 = .ok (.aload_n 0, 1) := by decide +kernel
theorem dX11_minds_76 : decode cX11_minds 76 = .ok (.dup, 1) := by decide +kernel
theorem dX11_minds_77 : decode cX11_minds 77 = .ok (.getfield 53, 3) := by decide +kernel
theorem dX11_minds_80 : decode cX11_minds 80 = .ok (.iconst 1, 1) := by decide +kernel
theorem dX11_minds_81 : decode cX11_minds 81 = .ok (.iadd, 1) := by decide +kernel
theorem dX11_minds_82 : decode cX11_minds 82 = .ok (.putfield 53, 3) := by decide +kernel
theorem dX11_minds_85 : decode cX11_minds 85 = .ok (.return_, 1) := by decide +kernel
set_option maxRecDepth 20000 in
theorem ggX11_isOne_X11_in : GoodIn wsX11_isOne wsX11_in := goodIn_r _ [5] (by decide +kernel) (by decide +kernel)
set_option maxRecDepth 20000 in
theorem gX11_isOne_X11_in : GoodIn wsX11_isOne (va_wsS RX11 61 yX11_in wsX11_in) := goodIn_app (goodIn_of _ (by decide +kernel)) ggX11_isOne_X11_in
theorem dX11_isOne_0 : decode cX11_isOne 0 = .ok (.iload_n 1, 1) := by decide +kernel
theorem dX11_isOne_1 : decode cX11_isOne 1 = .ok (.i2l, 1) := by decide +kernel
theorem dX11_isOne_2 : decode cX11_isOne 2 = .ok (.lconst 0, 1) := by decide +kernel
theorem dX11_isOne_3 : decode cX11_isOne 3 = .ok (.aload_n 0, 1) := by decide +kernel
theorem dX11_isOne_4 : decode cX11_isOne 4 = .ok (.getfield 7, 3) := by decide +kernel
theorem dX11_isOne_7 : decode cX11_isOne 7 = .ok (.iconst 0, 1) := by decide +kernel
theorem dX11_isOne_8 : decode cX11_isOne 8 = .ok (.iaload, 1) := by decide +kernel
theorem dX11_isOne_9 : decode cX11_isOne 9 = .ok (.iconst 1, 1) := by decide +kernel
theorem dX11_isOne_10 : decode cX11_isOne 10 = .ok (.isub, 1) := by decide +kernel
theorem dX11_isOne_11 : decode cX11_isOne 11 = .ok (.i2l, 1) := by decide +kernel
theorem dX11_isOne_12 : decode cX11_isOne 12 = .ok (.invokestatic 61, 3) := by decide +kernel
theorem dX11_isOne_15 : decode cX11_isOne 15 = .ok (.ireturn, 1) := by decide +kernel
set_option maxRecDepth 20000 in
theorem ggX11_isMan_X11_isOne : GoodIn wsX11_isMan wsX11_isOne := goodIn_r _ [6, 1, 7, 8, 5, 9, 10, 11, 12, 13, 14, 15, 16, 17, 18, 19, 20, 21, 22, 23, 24, 25, 26, 27] (by decide +kernel) (by decide +kernel)
set_option maxRecDepth 20000 in
theorem gX11_isMan_X11_isOne : GoodIn wsX11_isMan (wsV RX11 65 RX11 yX11_isOne wsX11_isOne) := goodIn_app (goodIn_of _ (by decide +kernel)) ggX11_isMan_X11_isOne
theorem dX11_isMan_0 : decode cX11_isMan 0 = .ok (.aload_n 0, 1) := by decide +kernel
theorem dX11_isMan_1 : decode cX11_isMan 1 = .ok (.iload_n 1, 1) := by decide +kernel
theorem dX11_isMan_2 : decode cX11_isMan 2 = .ok (.invokevirtual 65, 3) := by decide +kernel
theorem dX11_isMan_5 : decode cX11_isMan 5 = .ok (.ifCond .eq 19, 3) := by decide +kernel
theorem dX11_isMan_8 : decode cX11_isMan 8 = .ok (.aload_n 0, 1) := by decide +kernel
theorem dX11_isMan_9 : decode cX11_isMan 9 = .ok (.getfield 7, 3) := by decide +kernel
theorem dX11_isMan_12 : decode cX11_isMan 12 = .ok (.bipush 13, 2) := by decide +kernel
theorem dX11_isMan_14 : decode cX11_isMan 14 = .ok (.iload_n 1, 1) := by decide +kernel
theorem dX11_isMan_15 : decode cX11_isMan 15 = .ok (.iadd, 1) := by decide +kernel
theorem dX11_isMan_16 : decode cX11_isMan 16 = .ok (.iaload, 1) := by decide +kernel
theorem dX11_isMan_17 : decode cX11_isMan 17 = .ok (.ifCond .ne 7, 3) := by decide +kernel
theorem dX11_isMan_20 : decode cX11_isMan 20 = .ok (.iconst 1, 1) := by decide +kernel
theorem dX11_isMan_21 : decode cX11_isMan 21 = .ok (.goto 4, 3) := by decide +kernel
theorem dX11_isMan_24 : decode cX11_isMan 24 = .ok (.iconst 0, 1) := by decide +kernel
theorem dX11_isMan_25 : decode cX11_isMan 25 = .ok (.ireturn, 1) := by decide +kernel
set_option maxRecDepth 20000 in
theorem ggX11_isWoman_X11_isOne : GoodIn wsX11_isWoman wsX11_isOne := goodIn_r _ [6, 1, 7, 8, 5, 9, 10, 11, 12, 13, 14, 15, 16, 17, 18, 19, 20, 21, 22, 23, 24, 25, 26, 27] (by decide +kernel) (by decide +kernel)
set_option maxRecDepth 20000 in
theorem gX11_isWoman_X11_isOne : GoodIn wsX11_isWoman (wsV RX11 65 RX11 yX11_isOne wsX11_isOne) := goodIn_app (goodIn_of _ (by decide +kernel)) ggX11_isWoman_X11_isOne
theorem dX11_isWoman_0 : decode cX11_isWoman 0 = .ok (.aload_n 0, 1) := by decide +kernel
theorem dX11_isWoman_1 : decode cX11_isWoman 1 = .ok (.iload_n 1, 1) := by decide +kernel
theorem dX11_isWoman_2 : decode cX11_isWoman 2 = .ok (.invokevirtual 65, 3) := by decide +kernel
theorem dX11_isWoman_5 : decode cX11_isWoman 5 = .ok (.ifCond .eq 20, 3) := by decide +kernel
theorem dX11_isWoman_8 : decode cX11_isWoman 8 = .ok (.aload_n 0, 1) := by decide +kernel
theorem dX11_isWoman_9 : decode cX11_isWoman 9 = .ok (.getfield 7, 3) := by decide +kernel
theorem dX11_isWoman_12 : decode cX11_isWoman 12 = .ok (.bipush 13, 2) := by decide +kernel
theorem dX11_isWoman_14 : decode cX11_isWoman 14 = .ok (.iload_n 1, 1) := by decide +kernel
theorem dX11_isWoman_15 : decode cX11_isWoman 15 = .ok (.iadd, 1) := by decide +kernel
theorem dX11_isWoman_16 : decode cX11_isWoman 16 = .ok (.iaload, 1) := by decide +kernel
theorem dX11_isWoman_17 : decode cX11_isWoman 17 = .ok (.iconst 1, 1) := by decide +kernel
theorem dX11_isWoman_18 : decode cX11_isWoman 18 = .ok (.if_icmp .ne 7, 3) := by decide +kernel
theorem dX11_isWoman_21 : decode cX11_isWoman 21 = .ok (.iconst 1, 1) := by decide +kernel
theorem dX11_isWoman_22 : decode cX11_isWoman 22 = .ok (.goto 4, 3) := by decide +kernel
theorem dX11_isWoman_25 : decode cX11_isWoman 25 = .ok (.iconst 0, 1) := by decide +kernel
theorem dX11_isWoman_26 : decode cX11_isWoman 26 = .ok (.ireturn, 1) := by decide +kernel
set_option maxRecDepth 20000 in
theorem ggX11_isHeir_X11_isWoman : GoodIn wsX11_isHeir wsX11_isWoman := goodIn_r _ [6, 1, 7, 8, 9, 5, 10, 11, 12, 13, 14, 15, 16, 17, 18, 19, 20, 21, 22, 23, 24, 25, 26, 27, 28, 29, 30, 31] (by decide +kernel) (by decide +kernel)
set_option maxRecDepth 20000 in
theorem gX11_isHeir_X11_isWoman : GoodIn wsX11_isHeir (wsV RX11 69 RX11 yX11_isWoman wsX11_isWoman) := goodIn_app (goodIn_of _ (by decide +kernel)) ggX11_isHeir_X11_isWoman
theorem dX11_isHeir_0 : decode cX11_isHeir 0 = .ok (.aload_n 0, 1) := by decide +kernel
theorem dX11_isHeir_1 : decode cX11_isHeir 1 = .ok (.iload_n 1, 1) := by decide +kernel
theorem dX11_isHeir_2 : decode cX11_isHeir 2 = .ok (.invokevirtual 69, 3) := by decide +kernel
theorem dX11_isHeir_5 : decode cX11_isHeir 5 = .ok (.ifCond .eq 20, 3) := by decide +kernel
theorem dX11_isHeir_8 : decode cX11_isHeir 8 = .ok (.aload_n 0, 1) := by decide +kernel
theorem dX11_isHeir_9 : decode cX11_isHeir 9 = .ok (.getfield 7, 3) := by decide +kernel
theorem dX11_isHeir_12 : decode cX11_isHeir 12 = .ok (.bipush 45, 2) := by decide +kernel
theorem dX11_isHeir_14 : decode cX11_isHeir 14 = .ok (.iload_n 1, 1) := by decide +kernel
theorem dX11_isHeir_15 : decode cX11_isHeir 15 = .ok (.iadd, 1) := by decide +kernel
theorem dX11_isHeir_16 : decode cX11_isHeir 16 = .ok (.iaload, 1) := by decide +kernel
theorem dX11_isHeir_17 : decode cX11_isHeir 17 = .ok (.iconst (-1), 1) := by decide +kernel
theorem dX11_isHeir_18 : decode cX11_isHeir 18 = .ok (.if_icmp .eq 7, 3) := by decide +kernel
theorem dX11_isHeir_21 : decode cX11_isHeir 21 = .ok (.iconst 1, 1) := by decide +kernel
theorem dX11_isHeir_22 : decode cX11_isHeir 22 = .ok (.goto 4, 3) := by decide +kernel
theorem dX11_isHeir_25 : decode cX11_isHeir 25 = .ok (.iconst 0, 1) := by decide +kernel
theorem dX11_isHeir_26 : decode cX11_isHeir 26 = .ok (.istore_n 2, 1) := by decide +kernel
theorem dX11_isHeir_27 : decode cX11_isHeir 27 = .ok (.iconst 0, 1) := by decide +kernel
theorem dX11_isHeir_28 : decode cX11_isHeir 28 = .ok (.istore_n 3, 1) := by decide +kernel
theorem dX11_isHeir_29 : decode cX11_isHeir 29 = .ok (.iload_n 3, 1) := by decide +kernel
theorem dX11_isHeir_30 : decode cX11_isHeir 30 = .ok (.aload_n 0, 1) := by decide +kernel
theorem dX11_isHeir_31 : decode cX11_isHeir 31 = .ok (.getfield 7, 3) := by decide +kernel
theorem dX11_isHeir_34 : decode cX11_isHeir 34 = .ok (.iconst 0, 1) := by decide +kernel
theorem dX11_isHeir_35 : decode cX11_isHeir 35 = .ok (.iaload, 1) := by decide +kernel
theorem dX11_isHeir_36 : decode cX11_isHeir 36 = .ok (.if_icmp .ge 53, 3) := by decide +kernel
theorem dX11_isHeir_39 : decode cX11_isHeir 39 = .ok (.iload_n 2, 1) := by decide +kernel
theorem dX11_isHeir_40 : decode cX11_isHeir 40 = .ok (.ifCond .eq 49, 3) := by decide +kernel
theorem dX11_isHeir_43 : decode cX11_isHeir 43 = .ok (.aload_n 0, 1) := by decide +kernel
theorem dX11_isHeir_44 : decode cX11_isHeir 44 = .ok (.getfield 7, 3) := by decide +kernel
theorem dX11_isHeir_47 : decode cX11_isHeir 47 = .ok (.bipush 13, 2) := by decide +kernel
theorem dX11_isHeir_49 : decode cX11_isHeir 49 = .ok (.iload_n 3, 1) := by decide +kernel
theorem dX11_isHeir_50 : decode cX11_isHeir 50 = .ok (.iadd, 1) := by decide +kernel
theorem dX11_isHeir_51 : decode cX11_isHeir 51 = .ok (.iaload, 1) := by decide +kernel
theorem dX11_isHeir_52 : decode cX11_isHeir 52 = .ok (.iconst 1, 1) := by decide +kernel
theorem dX11_isHeir_53 : decode cX11_isHeir 53 = .ok (.if_icmp .eq 24, 3) := by decide +kernel
theorem dX11_isHeir_56 : decode cX11_isHeir 56 = .ok (.aload_n 0, 1) := by decide +kernel
theorem dX11_isHeir_57 : decode cX11_isHeir 57 = .ok (.getfield 7, 3) := by decide +kernel
theorem dX11_isHeir_60 : decode cX11_isHeir 60 = .ok (.bipush 45, 2) := by decide +kernel
theorem dX11_isHeir_62 : decode cX11_isHeir 62 = .ok (.iload_n 3, 1) := by decide +kernel
theorem dX11_isHeir_63 : decode cX11_isHeir 63 = .ok (.iadd, 1) := by decide +kernel
theorem dX11_isHeir_64 : decode cX11_isHeir 64 = .ok (.iaload, 1) := by decide +kernel
theorem dX11_isHeir_65 : decode cX11_isHeir 65 = .ok (.aload_n 0, 1) := by decide +kernel
theorem dX11_isHeir_66 : decode cX11_isHeir 66 = .ok (.getfield 7, 3) := by decide +kernel
theorem dX11_isHeir_69 : decode cX11_isHeir 69 = .ok (.bipush 45, 2) := by decide +kernel
theorem dX11_isHeir_71 : decode cX11_isHeir 71 = .ok (.iload_n 1, 1) := by decide +kernel
theorem dX11_isHeir_72 : decode cX11_isHeir 72 = .ok (.iadd, 1) := by decide +kernel
theorem dX11_isHeir_73 : decode cX11_isHeir 73 = .ok (.iaload, 1) := by decide +kernel
theorem dX11_isHeir_74 : decode cX11_isHeir 74 = .ok (.if_icmp .eq 7, 3) := by decide +kernel
theorem dX11_isHeir_77 : decode cX11_isHeir 77 = .ok (.iconst 1, 1) := by decide +kernel
theorem dX11_isHeir_78 : decode cX11_isHeir 78 = .ok (.goto 4, 3) := by decide +kernel
theorem dX11_isHeir_81 : decode cX11_isHeir 81 = .ok (.iconst 0, 1) := by decide +kernel
theorem dX11_isHeir_82 : decode cX11_isHeir 82 = .ok (.istore_n 2, 1) := by decide +kernel
theorem dX11_isHeir_83 : decode cX11_isHeir 83 = .ok (.iinc 3 1, 3) := by decide +kernel
theorem dX11_isHeir_86 : decode cX11_isHeir 86 = .ok (.goto (-57), 3) := by decide +kernel
theorem dX11_isHeir_89 : decode cX11_isHeir 89 = .ok (.iload_n 2, 1) := by decide +kernel
theorem dX11_isHeir_90 : decode cX11_isHeir 90 = .ok (.ireturn, 1) := by decide +kernel
theorem dX11_takes_0 : decode cX11_takes 0 = .ok (.iconst 0, 1) := by decide +kernel
theorem dX11_takes_1 : decode cX11_takes 1 = .ok (.istore 4, 2) := by decide +kernel
theorem dX11_takes_3 : decode cX11_takes 3 = .ok (.iconst 0, 1) := by decide +kernel
theorem dX11_takes_4 : decode cX11_takes 4 = .ok (.istore 5, 2) := by decide +kernel
theorem dX11_takes_6 : decode cX11_takes 6 = .ok (.iload 5, 2) := by decide +kernel
theorem dX11_takes_8 : decode cX11_takes 8 = .ok (.aload_n 0, 1) := by decide +kernel
theorem dX11_takes_9 : decode cX11_takes 9 = .ok (.getfield 29, 3) := by decide +kernel
theorem dX11_takes_12 : decode cX11_takes 12 = .ok (.iload_n 1, 1) := by decide +kernel
theorem dX11_takes_13 : decode cX11_takes 13 = .ok (.iaload, 1) := by decide +kernel
theorem dX11_takes_14 : decode cX11_takes 14 = .ok (.if_icmp .ge 37, 3) := by decide +kernel
theorem dX11_takes_17 : decode cX11_takes 17 = .ok (.iload 4, 2) := by decide +kernel
theorem dX11_takes_19 : decode cX11_takes 19 = .ok (.ifCond .ne 19, 3) := by decide +kernel
theorem dX11_takes_22 : decode cX11_takes 22 = .ok (.aload_n 0, 1) := by decide +kernel
theorem dX11_takes_23 : decode cX11_takes 23 = .ok (.getfield 32, 3) := by decide +kernel
theorem dX11_takes_26 : decode cX11_takes 26 = .ok (.bipush 10, 2) := by decide +kernel
theorem dX11_takes_28 : decode cX11_takes 28 = .ok (.iload_n 1, 1) := by decide +kernel
theorem dX11_takes_29 : decode cX11_takes 29 = .ok (.imul, 1) := by decide +kernel
theorem dX11_takes_30 : decode cX11_takes 30 = .ok (.iload 5, 2) := by decide +kernel
theorem dX11_takes_32 : decode cX11_takes 32 = .ok (.iadd, 1) := by decide +kernel
theorem dX11_takes_33 : decode cX11_takes 33 = .ok (.iaload, 1) := by decide +kernel
theorem dX11_takes_34 : decode cX11_takes 34 = .ok (.iload_n 2, 1) := by decide +kernel
theorem dX11_takes_35 : decode cX11_takes 35 = .ok (.if_icmp .ne 7, 3) := by decide +kernel
theorem dX11_takes_38 : decode cX11_takes 38 = .ok (.iconst 1, 1) := by decide +kernel
theorem dX11_takes_39 : decode cX11_takes 39 = .ok (.goto 4, 3) := by decide +kernel
theorem dX11_takes_42 : decode cX11_takes 42 = .ok (.iconst 0, 1) := by decide +kernel
theorem dX11_takes_43 : decode cX11_takes 43 = .ok (.istore 4, 2) := by decide +kernel
theorem dX11_takes_45 : decode cX11_takes 45 = .ok (.iinc 5 1, 3) := by decide +kernel
theorem dX11_takes_48 : decode cX11_takes 48 = .ok (.goto (-42), 3) := by decide +kernel
theorem dX11_takes_51 : decode cX11_takes 51 = .ok (.iload 4, 2) := by decide +kernel
theorem dX11_takes_53 : decode cX11_takes 53 = .ok (.ifCond .ne 47, 3) := by decide +kernel
theorem dX11_takes_56 : decode cX11_takes 56 = .ok (.aload_n 0, 1) := by decide +kernel
theorem dX11_takes_57 : decode cX11_takes 57 = .ok (.getfield 32, 3) := by decide +kernel
theorem dX11_takes_60 : decode cX11_takes 60 = .ok (.bipush 10, 2) := by decide +kernel
theorem dX11_takes_62 : decode cX11_takes 62 = .ok (.iload_n 1, 1) := by decide +kernel
theorem dX11_takes_63 : decode cX11_takes 63 = .ok (.imul, 1) := by decide +kernel
theorem dX11_takes_64 : decode cX11_takes 64 = .ok (.aload_n 0, 1) := by decide +kernel
theorem dX11_takes_65 : decode cX11_takes 65 = .ok (.getfield 29, 3) := by decide +kernel
theorem dX11_takes_68 : decode cX11_takes 68 = .ok (.iload_n 1, 1) := by decide +kernel
theorem dX11_takes_69 : decode cX11_takes 69 = .ok (.iaload, 1) := by decide +kernel
theorem dX11_takes_70 : decode cX11_takes 70 = .ok (.iadd, 1) := by decide +kernel
theorem dX11_takes_71 : decode cX11_takes 71 = .ok (.iload_n 2, 1) := by decide +kernel
theorem dX11_takes_72 : decode cX11_takes 72 = .ok (.iastore, 1) := by decide +kernel
theorem dX11_takes_73 : decode cX11_takes 73 = .ok (.aload_n 0, 1) := by decide +kernel
theorem dX11_takes_74 : decode cX11_takes 74 = .ok (.getfield 35, 3) := by decide +kernel
theorem dX11_takes_77 : decode cX11_takes 77 = .ok (.bipush 10, 2) := by decide +kernel
theorem dX11_takes_79 : decode cX11_takes 79 = .ok (.iload_n 1, 1) := by decide +kernel
theorem dX11_takes_80 : decode cX11_takes 80 = .ok (.imul, 1) := by decide +kernel
theorem dX11_takes_81 : decode cX11_takes 81 = .ok (.aload_n 0, 1) := by decide +kernel
theorem dX11_takes_82 : decode cX11_takes 82 = .ok (.getfield 29, 3) := by decide +kernel
theorem dX11_takes_85 : decode cX11_takes 85 = .ok (.iload_n 1, 1) := by decide +kernel
theorem dX11_takes_86 : decode cX11_takes 86 = .ok (.iaload, 1) := by decide +kernel
theorem dX11_takes_87 : decode cX11_takes 87 = .ok (.iadd, 1) := by decide +kernel
theorem dX11_takes_88 : decode cX11_takes 88 = .ok (.iload_n 3, 1) := by decide +kernel
theorem dX11_takes_89 : decode cX11_takes 89 = .ok (.iastore, 1) := by decide +kernel
theorem dX11_takes_90 : decode cX11_takes 90 = .ok (.aload_n 0, 1) := by decide +kernel
theorem dX11_takes_91 : decode cX11_takes 91 = .ok (.getfield 29, 3) := by decide +kernel
theorem dX11_takes_94 : decode cX11_takes 94 = .ok (.iload_n 1, 1) := by decide +kernel
theorem dX11_takes_95 : decode cX11_takes 95 = .ok (.dup2, 1) := by decide +kernel
theorem dX11_takes_96 : decode cX11_takes 96 = .ok (.iaload, 1) := by decide +kernel
theorem dX11_takes_97 : decode cX11_takes 97 = .ok (.iconst 1, 1) := by decide +kernel
theorem dX11_takes_98 : decode cX11_takes 98 = .ok (.iadd, 1) := by decide +kernel
theorem dX11_takes_99 : decode cX11_takes 99 = .ok (.iastore, 1) := by decide +kernel
theorem dX11_takes_100 : decode cX11_takes 100 = .ok (.return_, 1) := by decide +kernel
set_option maxRecDepth 20000 in
theorem ggX11_takesOf_X11_takes : GoodIn wsX11_takesOf wsX11_takes := goodIn_r _ [8, 1, 2, 3, 9, 10, 11, 12, 13, 14, 15, 16, 17, 18, 19, 20, 21, 22, 23, 24, 25, 26] (by decide +kernel) (by decide +kernel)
set_option maxRecDepth 20000 in
theorem gX11_takesOf_X11_takes : GoodIn wsX11_takesOf (wsV RX11 72 RX11 yX11_takes wsX11_takes) := goodIn_app (goodIn_of _ (by decide +kernel)) ggX11_takesOf_X11_takes
theorem dX11_takesOf_0 : decode cX11_takesOf 0 = .ok (.iconst 0, 1) := by decide +kernel
theorem dX11_takesOf_1 : decode cX11_takesOf 1 = .ok (.istore 4, 2) := by decide +kernel
theorem dX11_takesOf_3 : decode cX11_takesOf 3 = .ok (.iload 4, 2) := by decide +kernel
theorem dX11_takesOf_5 : decode cX11_takesOf 5 = .ok (.iload_n 3, 1) := by decide +kernel
theorem dX11_takesOf_6 : decode cX11_takesOf 6 = .ok (.if_icmp .ge 49, 3) := by decide +kernel
theorem dX11_takesOf_9 : decode cX11_takesOf 9 = .ok (.iload 4, 2) := by decide +kernel
theorem dX11_takesOf_11 : decode cX11_takesOf 11 = .ok (.aload_n 0, 1) := by decide +kernel
theorem dX11_takesOf_12 : decode cX11_takesOf 12 = .ok (.getfield 29, 3) := by decide +kernel
theorem dX11_takesOf_15 : decode cX11_takesOf 15 = .ok (.iload_n 2, 1) := by decide +kernel
theorem dX11_takesOf_16 : decode cX11_takesOf 16 = .ok (.iaload, 1) := by decide +kernel
theorem dX11_takesOf_17 : decode cX11_takesOf 17 = .ok (.if_icmp .ge 38, 3) := by decide +kernel
theorem dX11_takesOf_20 : decode cX11_takesOf 20 = .ok (.aload_n 0, 1) := by decide +kernel
theorem dX11_takesOf_21 : decode cX11_takesOf 21 = .ok (.iload_n 1, 1) := by decide +kernel
theorem dX11_takesOf_22 : decode cX11_takesOf 22 = .ok (.aload_n 0, 1) := by decide +kernel
theorem dX11_takesOf_23 : decode cX11_takesOf 23 = .ok (.getfield 32, 3) := by decide +kernel
theorem dX11_takesOf_26 : decode cX11_takesOf 26 = .ok (.bipush 10, 2) := by decide +kernel
theorem dX11_takesOf_28 : decode cX11_takesOf 28 = .ok (.iload_n 2, 1) := by decide +kernel
theorem dX11_takesOf_29 : decode cX11_takesOf 29 = .ok (.imul, 1) := by decide +kernel
theorem dX11_takesOf_30 : decode cX11_takesOf 30 = .ok (.iload 4, 2) := by decide +kernel
theorem dX11_takesOf_32 : decode cX11_takesOf 32 = .ok (.iadd, 1) := by decide +kernel
theorem dX11_takesOf_33 : decode cX11_takesOf 33 = .ok (.iaload, 1) := by decide +kernel
theorem dX11_takesOf_34 : decode cX11_takesOf 34 = .ok (.aload_n 0, 1) := by decide +kernel
theorem dX11_takesOf_35 : decode cX11_takesOf 35 = .ok (.getfield 35, 3) := by decide +kernel
theorem dX11_takesOf_38 : decode cX11_takesOf 38 = .ok (.bipush 10, 2) := by decide +kernel
theorem dX11_takesOf_40 : decode cX11_takesOf 40 = .ok (.iload_n 2, 1) := by decide +kernel
theorem dX11_takesOf_41 : decode cX11_takesOf 41 = .ok (.imul, 1) := by decide +kernel
theorem dX11_takesOf_42 : decode cX11_takesOf 42 = .ok (.iload 4, 2) := by decide +kernel
theorem dX11_takesOf_44 : decode cX11_takesOf 44 = .ok (.iadd, 1) := by decide +kernel
theorem dX11_takesOf_45 : decode cX11_takesOf 45 = .ok (.iaload, 1) := by decide +kernel
theorem dX11_takesOf_46 : decode cX11_takesOf 46 = .ok (.invokevirtual 72, 3) := by decide +kernel
theorem dX11_takesOf_49 : decode cX11_takesOf 49 = .ok (.iinc 4 1, 3) := by decide +kernel
theorem dX11_takesOf_52 : decode cX11_takesOf 52 = .ok (.goto (-49), 3) := by decide +kernel
theorem dX11_takesOf_55 : decode cX11_takesOf 55 = .ok (.return_, 1) := by decide +kernel
set_option maxRecDepth 20000 in
theorem ggX11_laysOne_X11_isHeir : GoodIn wsX11_laysOne wsX11_isHeir := goodIn_r _ [7, 2, 8, 9, 10, 6, 11, 12, 13, 14, 15, 16, 17, 18, 29, 30, 31, 32, 33, 34, 35, 36, 37, 38, 39, 40, 41, 42, 43, 44, 45, 46] (by decide +kernel) (by decide +kernel)
set_option maxRecDepth 20000 in
theorem gX11_laysOne_X11_isHeir : GoodIn wsX11_laysOne (wsV RX11 76 RX11 yX11_isHeir wsX11_isHeir) := goodIn_app (goodIn_of _ (by decide +kernel)) ggX11_laysOne_X11_isHeir
set_option maxRecDepth 20000 in
theorem ggX11_laysOne_X11_takes : GoodIn wsX11_laysOne wsX11_takes := goodIn_r _ [22, 1, 23, 24, 29, 30, 31, 32, 33, 34, 35, 36, 37, 38, 39, 40, 41, 42, 43, 44, 45, 46] (by decide +kernel) (by decide +kernel)
set_option maxRecDepth 20000 in
theorem gX11_laysOne_X11_takes : GoodIn wsX11_laysOne (wsV RX11 72 RX11 yX11_takes wsX11_takes) := goodIn_app (goodIn_of _ (by decide +kernel)) ggX11_laysOne_X11_takes
set_option maxRecDepth 20000 in
theorem ggX11_laysOne_X11_takesOf : GoodIn wsX11_laysOne wsX11_takesOf := goodIn_r _ [28, 1, 23, 24, 19, 20, 21, 6, 22, 29, 30, 31, 32, 33, 34, 35, 36, 37, 38, 39, 40, 41, 42, 43, 44, 45, 46] (by decide +kernel) (by decide +kernel)
set_option maxRecDepth 20000 in
theorem gX11_laysOne_X11_takesOf : GoodIn wsX11_laysOne (wsV RX11 79 RX11 yX11_takesOf wsX11_takesOf) := goodIn_app (goodIn_of _ (by decide +kernel)) ggX11_laysOne_X11_takesOf
theorem dX11_laysOne_0 : decode cX11_laysOne 0 = .ok (.iload 4, 2) := by decide +kernel
theorem dX11_laysOne_2 : decode cX11_laysOne 2 = .ok (.iconst (-1), 1) := by decide +kernel
theorem dX11_laysOne_3 : decode cX11_laysOne 3 = .ok (.if_icmp .eq 16, 3) := by decide +kernel
theorem dX11_laysOne_6 : decode cX11_laysOne 6 = .ok (.aload_n 0, 1) := by decide +kernel
theorem dX11_laysOne_7 : decode cX11_laysOne 7 = .ok (.iload 4, 2) := by decide +kernel
theorem dX11_laysOne_9 : decode cX11_laysOne 9 = .ok (.invokevirtual 76, 3) := by decide +kernel
theorem dX11_laysOne_12 : decode cX11_laysOne 12 = .ok (.ifCond .eq 7, 3) := by decide +kernel
theorem dX11_laysOne_15 : decode cX11_laysOne 15 = .ok (.iconst 1, 1) := by decide +kernel
theorem dX11_laysOne_16 : decode cX11_laysOne 16 = .ok (.goto 4, 3) := by decide +kernel
theorem dX11_laysOne_19 : decode cX11_laysOne 19 = .ok (.iconst 0, 1) := by decide +kernel
theorem dX11_laysOne_20 : decode cX11_laysOne 20 = .ok (.istore 5, 2) := by decide +kernel
theorem dX11_laysOne_22 : decode cX11_laysOne 22 = .ok (.aload_n 0, 1) := by decide +kernel
theorem dX11_laysOne_23 : decode cX11_laysOne 23 = .ok (.getfield 29, 3) := by decide +kernel
theorem dX11_laysOne_26 : decode cX11_laysOne 26 = .ok (.iload_n 1, 1) := by decide +kernel
theorem dX11_laysOne_27 : decode cX11_laysOne 27 = .ok (.iconst 0, 1) := by decide +kernel
theorem dX11_laysOne_28 : decode cX11_laysOne 28 = .ok (.iastore, 1) := by decide +kernel
theorem dX11_laysOne_29 : decode cX11_laysOne 29 = .ok (.iload_n 3, 1) := by decide +kernel
theorem dX11_laysOne_30 : decode cX11_laysOne 30 = .ok (.iconst (-1), 1) := by decide +kernel
theorem dX11_laysOne_31 : decode cX11_laysOne 31 = .ok (.if_icmp .ne 13, 3) := by decide +kernel
theorem dX11_laysOne_34 : decode cX11_laysOne 34 = .ok (.aload_n 0, 1) := by decide +kernel
theorem dX11_laysOne_35 : decode cX11_laysOne 35 = .ok (.iload_n 1, 1) := by decide +kernel
theorem dX11_laysOne_36 : decode cX11_laysOne 36 = .ok (.iload_n 2, 1) := by decide +kernel
theorem dX11_laysOne_37 : decode cX11_laysOne 37 = .ok (.iload_n 1, 1) := by decide +kernel
theorem dX11_laysOne_38 : decode cX11_laysOne 38 = .ok (.invokevirtual 72, 3) := by decide +kernel
theorem dX11_laysOne_41 : decode cX11_laysOne 41 = .ok (.goto 25, 3) := by decide +kernel
theorem dX11_laysOne_44 : decode cX11_laysOne 44 = .ok (.aload_n 0, 1) := by decide +kernel
theorem dX11_laysOne_45 : decode cX11_laysOne 45 = .ok (.iload_n 1, 1) := by decide +kernel
theorem dX11_laysOne_46 : decode cX11_laysOne 46 = .ok (.iload_n 3, 1) := by decide +kernel
theorem dX11_laysOne_47 : decode cX11_laysOne 47 = .ok (.aload_n 0, 1) := by decide +kernel
theorem dX11_laysOne_48 : decode cX11_laysOne 48 = .ok (.getfield 7, 3) := by decide +kernel
theorem dX11_laysOne_51 : decode cX11_laysOne 51 = .ok (.iconst 1, 1) := by decide +kernel
theorem dX11_laysOne_52 : decode cX11_laysOne 52 = .ok (.iaload, 1) := by decide +kernel
theorem dX11_laysOne_53 : decode cX11_laysOne 53 = .ok (.iconst 2, 1) := by decide +kernel
theorem dX11_laysOne_54 : decode cX11_laysOne 54 = .ok (.if_icmp .ne 7, 3) := by decide +kernel
theorem dX11_laysOne_57 : decode cX11_laysOne 57 = .ok (.iconst 1, 1) := by decide +kernel
theorem dX11_laysOne_58 : decode cX11_laysOne 58 = .ok (.goto 5, 3) := by decide +kernel
theorem dX11_laysOne_61 : decode cX11_laysOne 61 = .ok (.bipush 10, 2) := by decide +kernel
theorem dX11_laysOne_63 : decode cX11_laysOne 63 = .ok (.invokevirtual 79, 3) := by decide +kernel
theorem dX11_laysOne_66 : decode cX11_laysOne 66 = .ok (.iload 5, 2) := by decide +kernel
theorem dX11_laysOne_68 : decode cX11_laysOne 68 = .ok (.ifCond .eq 26, 3) := by decide +kernel
theorem dX11_laysOne_71 : decode cX11_laysOne 71 = .ok (.aload_n 0, 1) := by decide +kernel
theorem dX11_laysOne_72 : decode cX11_laysOne 72 = .ok (.iload_n 1, 1) := by decide +kernel
theorem dX11_laysOne_73 : decode cX11_laysOne 73 = .ok (.iload 4, 2) := by decide +kernel
theorem dX11_laysOne_75 : decode cX11_laysOne 75 = .ok (.aload_n 0, 1) := by decide +kernel
theorem dX11_laysOne_76 : decode cX11_laysOne 76 = .ok (.getfield 7, 3) := by decide +kernel
theorem dX11_laysOne_79 : decode cX11_laysOne 79 = .ok (.iconst 1, 1) := by decide +kernel
theorem dX11_laysOne_80 : decode cX11_laysOne 80 = .ok (.iaload, 1) := by decide +kernel
theorem dX11_laysOne_81 : decode cX11_laysOne 81 = .ok (.iconst 1, 1) := by decide +kernel
theorem dX11_laysOne_82 : decode cX11_laysOne 82 = .ok (.if_icmp .ne 7, 3) := by decide +kernel
theorem dX11_laysOne_85 : decode cX11_laysOne 85 = .ok (.iconst 1, 1) := by decide +kernel
theorem dX11_laysOne_86 : decode cX11_laysOne 86 = .ok (.goto 5, 3) := by decide +kernel
theorem dX11_laysOne_89 : decode cX11_laysOne 89 = .ok (.bipush 10, 2) := by decide +kernel
theorem dX11_laysOne_91 : decode cX11_laysOne 91 = .ok (.invokevirtual 79, 3) := by decide +kernel
theorem dX11_laysOne_94 : decode cX11_laysOne 94 = .ok (.aload_n 0, 1) := by decide +kernel
theorem dX11_laysOne_95 : decode cX11_laysOne 95 = .ok (.getfield 7, 3) := by decide +kernel
theorem dX11_laysOne_98 : decode cX11_laysOne 98 = .ok (.iconst 1, 1) := by decide +kernel
theorem dX11_laysOne_99 : decode cX11_laysOne 99 = .ok (.iaload, 1) := by decide +kernel
theorem dX11_laysOne_100 : decode cX11_laysOne 100 = .ok (.iconst 2, 1) := by decide +kernel
theorem dX11_laysOne_101 : decode cX11_laysOne 101 = .ok (.if_icmp .ne 16, 3) := by decide +kernel
theorem dX11_laysOne_104 : decode cX11_laysOne 104 = .ok (.iload_n 3, 1) := by decide +kernel
theorem dX11_laysOne_105 : decode cX11_laysOne 105 = .ok (.iconst (-1), 1) := by decide +kernel
theorem dX11_laysOne_106 : decode cX11_laysOne 106 = .ok (.if_icmp .eq 11, 3) := by decide +kernel
theorem dX11_laysOne_109 : decode cX11_laysOne 109 = .ok (.aload_n 0, 1) := by decide +kernel
theorem dX11_laysOne_110 : decode cX11_laysOne 110 = .ok (.iload_n 1, 1) := by decide +kernel
theorem dX11_laysOne_111 : decode cX11_laysOne 111 = .ok (.iload_n 3, 1) := by decide +kernel
theorem dX11_laysOne_112 : decode cX11_laysOne 112 = .ok (.bipush 10, 2) := by decide +kernel
theorem dX11_laysOne_114 : decode cX11_laysOne 114 = .ok (.invokevirtual 79, 3) := by decide +kernel
theorem dX11_laysOne_117 : decode cX11_laysOne 117 = .ok (.return_, 1) := by decide +kernel
set_option maxRecDepth 20000 in
theorem ggX11_lays_X11_laysOne : GoodIn wsX11_lays wsX11_laysOne := goodIn_r _ [6, 7, 1, 8, 9, 10, 5, 11, 12, 13, 14, 15, 16, 17, 18, 19, 20, 21, 22, 23, 24, 25, 26, 27, 28, 29, 30, 31, 32, 33, 34, 35, 36, 37, 38, 39, 40, 41, 42, 43, 44, 45, 46, 47, 48, 49, 50] (by decide +kernel) (by decide +kernel)
set_option maxRecDepth 20000 in
theorem gX11_lays_X11_laysOne : GoodIn wsX11_lays (wsV RX11 82 RX11 yX11_laysOne wsX11_laysOne) := goodIn_app (goodIn_of _ (by decide +kernel)) ggX11_lays_X11_laysOne
theorem dX11_lays_0 : decode cX11_lays 0 = .ok (.iconst 0, 1) := by decide +kernel
theorem dX11_lays_1 : decode cX11_lays 1 = .ok (.istore_n 1, 1) := by decide +kernel
theorem dX11_lays_2 : decode cX11_lays 2 = .ok (.iload_n 1, 1) := by decide +kernel
theorem dX11_lays_3 : decode cX11_lays 3 = .ok (.aload_n 0, 1) := by decide +kernel
theorem dX11_lays_4 : decode cX11_lays 4 = .ok (.getfield 7, 3) := by decide +kernel
theorem dX11_lays_7 : decode cX11_lays 7 = .ok (.iconst 0, 1) := by decide +kernel
theorem dX11_lays_8 : decode cX11_lays 8 = .ok (.iaload, 1) := by decide +kernel
theorem dX11_lays_9 : decode cX11_lays 9 = .ok (.if_icmp .ge 41, 3) := by decide +kernel
theorem dX11_lays_12 : decode cX11_lays 12 = .ok (.aload_n 0, 1) := by decide +kernel
theorem dX11_lays_13 : decode cX11_lays 13 = .ok (.iload_n 1, 1) := by decide +kernel
theorem dX11_lays_14 : decode cX11_lays 14 = .ok (.aload_n 0, 1) := by decide +kernel
theorem dX11_lays_15 : decode cX11_lays 15 = .ok (.getfield 7, 3) := by decide +kernel
theorem dX11_lays_18 : decode cX11_lays 18 = .ok (.bipush 29, 2) := by decide +kernel
theorem dX11_lays_20 : decode cX11_lays 20 = .ok (.iload_n 1, 1) := by decide +kernel
theorem dX11_lays_21 : decode cX11_lays 21 = .ok (.iadd, 1) := by decide +kernel
theorem dX11_lays_22 : decode cX11_lays 22 = .ok (.iaload, 1) := by decide +kernel
theorem dX11_lays_23 : decode cX11_lays 23 = .ok (.aload_n 0, 1) := by decide +kernel
theorem dX11_lays_24 : decode cX11_lays 24 = .ok (.getfield 7, 3) := by decide +kernel
theorem dX11_lays_27 : decode cX11_lays 27 = .ok (.bipush 45, 2) := by decide +kernel
theorem dX11_lays_29 : decode cX11_lays 29 = .ok (.iload_n 1, 1) := by decide +kernel
theorem dX11_lays_30 : decode cX11_lays 30 = .ok (.iadd, 1) := by decide +kernel
theorem dX11_lays_31 : decode cX11_lays 31 = .ok (.iaload, 1) := by decide +kernel
theorem dX11_lays_32 : decode cX11_lays 32 = .ok (.aload_n 0, 1) := by decide +kernel
theorem dX11_lays_33 : decode cX11_lays 33 = .ok (.getfield 7, 3) := by decide +kernel
theorem dX11_lays_36 : decode cX11_lays 36 = .ok (.bipush 61, 2) := by decide +kernel
theorem dX11_lays_38 : decode cX11_lays 38 = .ok (.iload_n 1, 1) := by decide +kernel
theorem dX11_lays_39 : decode cX11_lays 39 = .ok (.iadd, 1) := by decide +kernel
theorem dX11_lays_40 : decode cX11_lays 40 = .ok (.iaload, 1) := by decide +kernel
theorem dX11_lays_41 : decode cX11_lays 41 = .ok (.invokevirtual 82, 3) := by decide +kernel
theorem dX11_lays_44 : decode cX11_lays 44 = .ok (.iinc 1 1, 3) := by decide +kernel
theorem dX11_lays_47 : decode cX11_lays 47 = .ok (.goto (-45), 3) := by decide +kernel
theorem dX11_lays_50 : decode cX11_lays 50 = .ok (.return_, 1) := by decide +kernel
theorem dX11_isSame_0 : decode cX11_isSame 0 = .ok (.aload_n 0, 1) := by decide +kernel
theorem dX11_isSame_1 : decode cX11_isSame 1 = .ok (.getfield 29, 3) := by decide +kernel
theorem dX11_isSame_4 : decode cX11_isSame 4 = .ok (.iload_n 1, 1) := by decide +kernel
theorem dX11_isSame_5 : decode cX11_isSame 5 = .ok (.iaload, 1) := by decide +kernel
theorem dX11_isSame_6 : decode cX11_isSame 6 = .ok (.aload_n 0, 1) := by decide +kernel
theorem dX11_isSame_7 : decode cX11_isSame 7 = .ok (.getfield 29, 3) := by decide +kernel
theorem dX11_isSame_10 : decode cX11_isSame 10 = .ok (.iload_n 2, 1) := by decide +kernel
theorem dX11_isSame_11 : decode cX11_isSame 11 = .ok (.iaload, 1) := by decide +kernel
theorem dX11_isSame_12 : decode cX11_isSame 12 = .ok (.if_icmp .ne 7, 3) := by decide +kernel
theorem dX11_isSame_15 : decode cX11_isSame 15 = .ok (.iconst 1, 1) := by decide +kernel
theorem dX11_isSame_16 : decode cX11_isSame 16 = .ok (.goto 4, 3) := by decide +kernel
theorem dX11_isSame_19 : decode cX11_isSame 19 = .ok (.iconst 0, 1) := by decide +kernel
theorem dX11_isSame_20 : decode cX11_isSame 20 = .ok (.istore_n 3, 1) := by decide +kernel
theorem dX11_isSame_21 : decode cX11_isSame 21 = .ok (.iconst 0, 1) := by decide +kernel
theorem dX11_isSame_22 : decode cX11_isSame 22 = .ok (.istore 4, 2) := by decide +kernel
theorem dX11_isSame_24 : decode cX11_isSame 24 = .ok (.iload 4, 2) := by decide +kernel
theorem dX11_isSame_26 : decode cX11_isSame 26 = .ok (.aload_n 0, 1) := by decide +kernel
theorem dX11_isSame_27 : decode cX11_isSame 27 = .ok (.getfield 29, 3) := by decide +kernel
theorem dX11_isSame_30 : decode cX11_isSame 30 = .ok (.iload_n 1, 1) := by decide +kernel
theorem dX11_isSame_31 : decode cX11_isSame 31 = .ok (.iaload, 1) := by decide +kernel
theorem dX11_isSame_32 : decode cX11_isSame 32 = .ok (.if_icmp .ge 46, 3) := by decide +kernel
theorem dX11_isSame_35 : decode cX11_isSame 35 = .ok (.iload_n 3, 1) := by decide +kernel
theorem dX11_isSame_36 : decode cX11_isSame 36 = .ok (.ifCond .eq 42, 3) := by decide +kernel
theorem dX11_isSame_39 : decode cX11_isSame 39 = .ok (.aload_n 0, 1) := by decide +kernel
theorem dX11_isSame_40 : decode cX11_isSame 40 = .ok (.getfield 32, 3) := by decide +kernel
theorem dX11_isSame_43 : decode cX11_isSame 43 = .ok (.bipush 10, 2) := by decide +kernel
theorem dX11_isSame_45 : decode cX11_isSame 45 = .ok (.iload_n 1, 1) := by decide +kernel
theorem dX11_isSame_46 : decode cX11_isSame 46 = .ok (.imul, 1) := by decide +kernel
theorem dX11_isSame_47 : decode cX11_isSame 47 = .ok (.iload 4, 2) := by decide +kernel
theorem dX11_isSame_49 : decode cX11_isSame 49 = .ok (.iadd, 1) := by decide +kernel
theorem dX11_isSame_50 : decode cX11_isSame 50 = .ok (.iaload, 1) := by decide +kernel
theorem dX11_isSame_51 : decode cX11_isSame 51 = .ok (.aload_n 0, 1) := by decide +kernel
theorem dX11_isSame_52 : decode cX11_isSame 52 = .ok (.getfield 32, 3) := by decide +kernel
theorem dX11_isSame_55 : decode cX11_isSame 55 = .ok (.bipush 10, 2) := by decide +kernel
theorem dX11_isSame_57 : decode cX11_isSame 57 = .ok (.iload_n 2, 1) := by decide +kernel
theorem dX11_isSame_58 : decode cX11_isSame 58 = .ok (.imul, 1) := by decide +kernel
theorem dX11_isSame_59 : decode cX11_isSame 59 = .ok (.iload 4, 2) := by decide +kernel
theorem dX11_isSame_61 : decode cX11_isSame 61 = .ok (.iadd, 1) := by decide +kernel
theorem dX11_isSame_62 : decode cX11_isSame 62 = .ok (.iaload, 1) := by decide +kernel
theorem dX11_isSame_63 : decode cX11_isSame 63 = .ok (.if_icmp .ne 7, 3) := by decide +kernel
theorem dX11_isSame_66 : decode cX11_isSame 66 = .ok (.iconst 1, 1) := by decide +kernel
theorem dX11_isSame_67 : decode cX11_isSame 67 = .ok (.goto 4, 3) := by decide +kernel
theorem dX11_isSame_70 : decode cX11_isSame 70 = .ok (.iconst 0, 1) := by decide +kernel
theorem dX11_isSame_71 : decode cX11_isSame 71 = .ok (.istore_n 3, 1) := by decide +kernel
theorem dX11_isSame_72 : decode cX11_isSame 72 = .ok (.iinc 4 1, 3) := by decide +kernel
theorem dX11_isSame_75 : decode cX11_isSame 75 = .ok (.goto (-51), 3) := by decide +kernel
theorem dX11_isSame_78 : decode cX11_isSame 78 = .ok (.iload_n 3, 1) := by decide +kernel
theorem dX11_isSame_79 : decode cX11_isSame 79 = .ok (.ireturn, 1) := by decide +kernel
set_option maxRecDepth 20000 in
theorem ggX11_same_X11_isSame : GoodIn wsX11_same wsX11_isSame := goodIn_r _ [6, 7, 8, 9, 10, 11, 12, 13, 14, 15, 16, 17, 18, 19, 20, 21, 22, 23, 24, 25, 26] (by decide +kernel) (by decide +kernel)
set_option maxRecDepth 20000 in
theorem gX11_same_X11_isSame : GoodIn wsX11_same (wsV RX11 86 RX11 yX11_isSame wsX11_isSame) := goodIn_app (goodIn_of _ (by decide +kernel)) ggX11_same_X11_isSame
theorem dX11_same_0 : decode cX11_same 0 = .ok (.iconst 0, 1) := by decide +kernel
theorem dX11_same_1 : decode cX11_same 1 = .ok (.istore_n 2, 1) := by decide +kernel
theorem dX11_same_2 : decode cX11_same 2 = .ok (.iconst 0, 1) := by decide +kernel
theorem dX11_same_3 : decode cX11_same 3 = .ok (.istore_n 3, 1) := by decide +kernel
theorem dX11_same_4 : decode cX11_same 4 = .ok (.iload_n 3, 1) := by decide +kernel
theorem dX11_same_5 : decode cX11_same 5 = .ok (.aload_n 0, 1) := by decide +kernel
theorem dX11_same_6 : decode cX11_same 6 = .ok (.getfield 7, 3) := by decide +kernel
theorem dX11_same_9 : decode cX11_same 9 = .ok (.iconst 0, 1) := by decide +kernel
theorem dX11_same_10 : decode cX11_same 10 = .ok (.iaload, 1) := by decide +kernel
theorem dX11_same_11 : decode cX11_same 11 = .ok (.if_icmp .ge 28, 3) := by decide +kernel
theorem dX11_same_14 : decode cX11_same 14 = .ok (.iload_n 2, 1) := by decide +kernel
theorem dX11_same_15 : decode cX11_same 15 = .ok (.aload_n 0, 1) := by decide +kernel
theorem dX11_same_16 : decode cX11_same 16 = .ok (.iload_n 1, 1) := by decide +kernel
theorem dX11_same_17 : decode cX11_same 17 = .ok (.iload_n 3, 1) := by decide +kernel
theorem dX11_same_18 : decode cX11_same 18 = .ok (.invokevirtual 86, 3) := by decide +kernel
theorem dX11_same_21 : decode cX11_same 21 = .ok (.ifCond .eq 9, 3) := by decide +kernel
theorem dX11_same_24 : decode cX11_same 24 = .ok (.iconst 1, 1) := by decide +kernel
theorem dX11_same_25 : decode cX11_same 25 = .ok (.iload_n 3, 1) := by decide +kernel
theorem dX11_same_26 : decode cX11_same 26 = .ok (.ishl, 1) := by decide +kernel
theorem dX11_same_27 : decode cX11_same 27 = .ok (.goto 4, 3) := by decide +kernel
theorem dX11_same_30 : decode cX11_same 30 = .ok (.iconst 0, 1) := by decide +kernel
theorem dX11_same_31 : decode cX11_same 31 = .ok (.ior, 1) := by decide +kernel
theorem dX11_same_32 : decode cX11_same 32 = .ok (.istore_n 2, 1) := by decide +kernel
theorem dX11_same_33 : decode cX11_same 33 = .ok (.iinc 3 1, 3) := by decide +kernel
theorem dX11_same_36 : decode cX11_same 36 = .ok (.goto (-32), 3) := by decide +kernel
theorem dX11_same_39 : decode cX11_same 39 = .ok (.iload_n 2, 1) := by decide +kernel
theorem dX11_same_40 : decode cX11_same 40 = .ok (.ireturn, 1) := by decide +kernel
set_option maxRecDepth 20000 in
theorem ggX11_coats_X11_lays : GoodIn wsX11_coats wsX11_lays := goodIn_r _ [6, 1, 7, 8, 9, 5, 10, 11, 12, 13, 14, 15, 16, 17, 18, 19, 20, 21, 22, 23, 24, 25, 26, 27, 28, 29, 30, 31, 32, 33, 34, 35, 36, 45, 46, 47, 48, 49, 50, 51, 52, 53, 54, 55, 56, 57, 58, 59, 60, 61, 62] (by decide +kernel) (by decide +kernel)
set_option maxRecDepth 20000 in
theorem gX11_coats_X11_lays : GoodIn wsX11_coats (wsV RX11 90 RX11 yX11_lays wsX11_lays) := goodIn_app (goodIn_of _ (by decide +kernel)) ggX11_coats_X11_lays
set_option maxRecDepth 20000 in
theorem ggX11_coats_X11_same : GoodIn wsX11_coats wsX11_same := goodIn_r _ [40, 1, 41, 42, 43, 5, 44, 11, 31, 45, 46, 47, 48, 49, 50, 51, 52, 53, 54, 55, 56, 57, 58, 59, 60, 61, 62] (by decide +kernel) (by decide +kernel)
set_option maxRecDepth 20000 in
theorem gX11_coats_X11_same : GoodIn wsX11_coats (wsV RX11 93 RX11 yX11_same wsX11_same) := goodIn_app (goodIn_of _ (by decide +kernel)) ggX11_coats_X11_same
theorem dX11_coats_0 : decode cX11_coats 0 = .ok (.aload_n 0, 1) := by decide +kernel
theorem dX11_coats_1 : decode cX11_coats 1 = .ok (.invokevirtual 90, 3) := by decide +kernel
theorem dX11_coats_4 : decode cX11_coats 4 = .ok (.iconst 0, 1) := by decide +kernel
theorem dX11_coats_5 : decode cX11_coats 5 = .ok (.istore_n 1, 1) := by decide +kernel
theorem dX11_coats_6 : decode cX11_coats 6 = .ok (.iconst 0, 1) := by decide +kernel
theorem dX11_coats_7 : decode cX11_coats 7 = .ok (.istore_n 2, 1) := by decide +kernel
theorem dX11_coats_8 : decode cX11_coats 8 = .ok (.iload_n 2, 1) := by decide +kernel
theorem dX11_coats_9 : decode cX11_coats 9 = .ok (.aload_n 0, 1) := by decide +kernel
theorem dX11_coats_10 : decode cX11_coats 10 = .ok (.getfield 7, 3) := by decide +kernel
theorem dX11_coats_13 : decode cX11_coats 13 = .ok (.iconst 0, 1) := by decide +kernel
theorem dX11_coats_14 : decode cX11_coats 14 = .ok (.iaload, 1) := by decide +kernel
theorem dX11_coats_15 : decode cX11_coats 15 = .ok (.if_icmp .ge 31, 3) := by decide +kernel
theorem dX11_coats_18 : decode cX11_coats 18 = .ok (.iload_n 1, 1) := by decide +kernel
theorem dX11_coats_19 : decode cX11_coats 19 = .ok (.aload_n 0, 1) := by decide +kernel
theorem dX11_coats_20 : decode cX11_coats 20 = .ok (.iload_n 2, 1) := by decide +kernel
theorem dX11_coats_21 : decode cX11_coats 21 = .ok (.invokevirtual 93, 3) := by decide +kernel
theorem dX11_coats_24 : decode cX11_coats 24 = .ok (.iconst 1, 1) := by decide +kernel
theorem dX11_coats_25 : decode cX11_coats 25 = .ok (.iload_n 2, 1) := by decide +kernel
theorem dX11_coats_26 : decode cX11_coats 26 = .ok (.ishl, 1) := by decide +kernel
theorem dX11_coats_27 : decode cX11_coats 27 = .ok (.iconst 1, 1) := by decide +kernel
theorem dX11_coats_28 : decode cX11_coats 28 = .ok (.isub, 1) := by decide +kernel
theorem dX11_coats_29 : decode cX11_coats 29 = .ok (.iand, 1) := by decide +kernel
theorem dX11_coats_30 : decode cX11_coats 30 = .ok (.ifCond .ne 7, 3) := by decide +kernel
theorem dX11_coats_33 : decode cX11_coats 33 = .ok (.iconst 1, 1) := by decide +kernel
theorem dX11_coats_34 : decode cX11_coats 34 = .ok (.goto 4, 3) := by decide +kernel
theorem dX11_coats_37 : decode cX11_coats 37 = .ok (.iconst 0, 1) := by decide +kernel
theorem dX11_coats_38 : decode cX11_coats 38 = .ok (.iadd, 1) := by decide +kernel
theorem dX11_coats_39 : decode cX11_coats 39 = .ok (.istore_n 1, 1) := by decide +kernel
theorem dX11_coats_40 : decode cX11_coats 40 = .ok (.iinc 2 1, 3) := by decide +kernel
theorem dX11_coats_43 : decode cX11_coats 43 = .ok (.goto (-35), 3) := by decide +kernel
theorem dX11_coats_46 : decode cX11_coats 46 = .ok (.iload_n 1, 1) := by decide +kernel
theorem dX11_coats_47 : decode cX11_coats 47 = .ok (.ireturn, 1) := by decide +kernel
theorem dX11_atLeast_0 : decode cX11_atLeast 0 = .ok (.aload_n 0, 1) := by decide +kernel
theorem dX11_atLeast_1 : decode cX11_atLeast 1 = .ok (.getfield 38, 3) := by decide +kernel
theorem dX11_atLeast_4 : decode cX11_atLeast 4 = .ok (.iload_n 1, 1) := by decide +kernel
theorem dX11_atLeast_5 : decode cX11_atLeast 5 = .ok (.iaload, 1) := by decide +kernel
theorem dX11_atLeast_6 : decode cX11_atLeast 6 = .ok (.iload_n 3, 1) := by decide +kernel
theorem dX11_atLeast_7 : decode cX11_atLeast 7 = .ok (.iadd, 1) := by decide +kernel
theorem dX11_atLeast_8 : decode cX11_atLeast 8 = .ok (.aload_n 0, 1) := by decide +kernel
theorem dX11_atLeast_9 : decode cX11_atLeast 9 = .ok (.getfield 38, 3) := by decide +kernel
theorem dX11_atLeast_12 : decode cX11_atLeast 12 = .ok (.iload_n 2, 1) := by decide +kernel
theorem dX11_atLeast_13 : decode cX11_atLeast 13 = .ok (.iaload, 1) := by decide +kernel
theorem dX11_atLeast_14 : decode cX11_atLeast 14 = .ok (.if_icmp .le 22, 3) := by decide +kernel
theorem dX11_atLeast_17 : decode cX11_atLeast 17 = .ok (.aload_n 0, 1) := by decide +kernel
theorem dX11_atLeast_18 : decode cX11_atLeast 18 = .ok (.getfield 38, 3) := by decide +kernel
theorem dX11_atLeast_21 : decode cX11_atLeast 21 = .ok (.iload_n 2, 1) := by decide +kernel
theorem dX11_atLeast_22 : decode cX11_atLeast 22 = .ok (.aload_n 0, 1) := by decide +kernel
theorem dX11_atLeast_23 : decode cX11_atLeast 23 = .ok (.getfield 38, 3) := by decide +kernel
theorem dX11_atLeast_26 : decode cX11_atLeast 26 = .ok (.iload_n 1, 1) := by decide +kernel
theorem dX11_atLeast_27 : decode cX11_atLeast 27 = .ok (.iaload, 1) := by decide +kernel
theorem dX11_atLeast_28 : decode cX11_atLeast 28 = .ok (.iload_n 3, 1) := by decide +kernel
theorem dX11_atLeast_29 : decode cX11_atLeast 29 = .ok (.iadd, 1) := by decide +kernel
theorem dX11_atLeast_30 : decode cX11_atLeast 30 = .ok (.iastore, 1) := by decide +kernel
theorem dX11_atLeast_31 : decode cX11_atLeast 31 = .ok (.aload_n 0, 1) := by decide +kernel
theorem dX11_atLeast_32 : decode cX11_atLeast 32 = .ok (.iconst 1, 1) := by decide +kernel
theorem dX11_atLeast_33 : decode cX11_atLeast 33 = .ok (.putfield 97, 3) := by decide +kernel
theorem dX11_atLeast_36 : decode cX11_atLeast 36 = .ok (.aload_n 0, 1) := by decide +kernel
theorem dX11_atLeast_37 : decode cX11_atLeast 37 = .ok (.getfield 41, 3) := by decide +kernel
theorem dX11_atLeast_40 : decode cX11_atLeast 40 = .ok (.iload_n 2, 1) := by decide +kernel
theorem dX11_atLeast_41 : decode cX11_atLeast 41 = .ok (.iaload, 1) := by decide +kernel
theorem dX11_atLeast_42 : decode cX11_atLeast 42 = .ok (.iload_n 3, 1) := by decide +kernel
theorem dX11_atLeast_43 : decode cX11_atLeast 43 = .ok (.isub, 1) := by decide +kernel
theorem dX11_atLeast_44 : decode cX11_atLeast 44 = .ok (.aload_n 0, 1) := by decide +kernel
theorem dX11_atLeast_45 : decode cX11_atLeast 45 = .ok (.getfield 41, 3) := by decide +kernel
theorem dX11_atLeast_48 : decode cX11_atLeast 48 = .ok (.iload_n 1, 1) := by decide +kernel
theorem dX11_atLeast_49 : decode cX11_atLeast 49 = .ok (.iaload, 1) := by decide +kernel
theorem dX11_atLeast_50 : decode cX11_atLeast 50 = .ok (.if_icmp .ge 22, 3) := by decide +kernel
theorem dX11_atLeast_53 : decode cX11_atLeast 53 = .ok (.aload_n 0, 1) := by decide +kernel
theorem dX11_atLeast_54 : decode cX11_atLeast 54 = .ok (.getfield 41, 3) := by decide +kernel
theorem dX11_atLeast_57 : decode cX11_atLeast 57 = .ok (.iload_n 1, 1) := by decide +kernel
theorem dX11_atLeast_58 : decode cX11_atLeast 58 = .ok (.aload_n 0, 1) := by decide +kernel
theorem dX11_atLeast_59 : decode cX11_atLeast 59 = .ok (.getfield 41, 3) := by decide +kernel
theorem dX11_atLeast_62 : decode cX11_atLeast 62 = .ok (.iload_n 2, 1) := by decide +kernel
theorem dX11_atLeast_63 : decode cX11_atLeast 63 = .ok (.iaload, 1) := by decide +kernel
theorem dX11_atLeast_64 : decode cX11_atLeast 64 = .ok (.iload_n 3, 1) := by decide +kernel
theorem dX11_atLeast_65 : decode cX11_atLeast 65 = .ok (.isub, 1) := by decide +kernel
theorem dX11_atLeast_66 : decode cX11_atLeast 66 = .ok (.iastore, 1) := by decide +kernel
theorem dX11_atLeast_67 : decode cX11_atLeast 67 = .ok (.aload_n 0, 1) := by decide +kernel
theorem dX11_atLeast_68 : decode cX11_atLeast 68 = .ok (.iconst 1, 1) := by decide +kernel
theorem dX11_atLeast_69 : decode cX11_atLeast 69 = .ok (.putfield 97, 3) := by decide +kernel
theorem dX11_atLeast_72 : decode cX11_atLeast 72 = .ok (.return_, 1) := by decide +kernel
theorem dX11_isSpoiled_0 : decode cX11_isSpoiled 0 = .ok (.iconst 0, 1) := by decide +kernel
theorem dX11_isSpoiled_1 : decode cX11_isSpoiled 1 = .ok (.istore_n 1, 1) := by decide +kernel
theorem dX11_isSpoiled_2 : decode cX11_isSpoiled 2 = .ok (.iconst 0, 1) := by decide +kernel
theorem dX11_isSpoiled_3 : decode cX11_isSpoiled 3 = .ok (.istore_n 2, 1) := by decide +kernel
theorem dX11_isSpoiled_4 : decode cX11_isSpoiled 4 = .ok (.iload_n 2, 1) := by decide +kernel
theorem dX11_isSpoiled_5 : decode cX11_isSpoiled 5 = .ok (.aload_n 0, 1) := by decide +kernel
theorem dX11_isSpoiled_6 : decode cX11_isSpoiled 6 = .ok (.getfield 7, 3) := by decide +kernel
theorem dX11_isSpoiled_9 : decode cX11_isSpoiled 9 = .ok (.iconst 0, 1) := by decide +kernel
theorem dX11_isSpoiled_10 : decode cX11_isSpoiled 10 = .ok (.iaload, 1) := by decide +kernel
theorem dX11_isSpoiled_11 : decode cX11_isSpoiled 11 = .ok (.if_icmp .ge 55, 3) := by decide +kernel
theorem dX11_isSpoiled_14 : decode cX11_isSpoiled 14 = .ok (.iload_n 1, 1) := by decide +kernel
theorem dX11_isSpoiled_15 : decode cX11_isSpoiled 15 = .ok (.ifCond .ne 39, 3) := by decide +kernel
theorem dX11_isSpoiled_18 : decode cX11_isSpoiled 18 = .ok (.aload_n 0, 1) := by decide +kernel
theorem dX11_isSpoiled_19 : decode cX11_isSpoiled 19 = .ok (.getfield 38, 3) := by decide +kernel
theorem dX11_isSpoiled_22 : decode cX11_isSpoiled 22 = .ok (.iload_n 2, 1) := by decide +kernel
theorem dX11_isSpoiled_23 : decode cX11_isSpoiled 23 = .ok (.iaload, 1) := by decide +kernel
theorem dX11_isSpoiled_24 : decode cX11_isSpoiled 24 = .ok (.aload_n 0, 1) := by decide +kernel
theorem dX11_isSpoiled_25 : decode cX11_isSpoiled 25 = .ok (.getfield 41, 3) := by decide +kernel
theorem dX11_isSpoiled_28 : decode cX11_isSpoiled 28 = .ok (.iload_n 2, 1) := by decide +kernel
theorem dX11_isSpoiled_29 : decode cX11_isSpoiled 29 = .ok (.iaload, 1) := by decide +kernel
theorem dX11_isSpoiled_30 : decode cX11_isSpoiled 30 = .ok (.if_icmp .gt 24, 3) := by decide +kernel
theorem dX11_isSpoiled_33 : decode cX11_isSpoiled 33 = .ok (.aload_n 0, 1) := by decide +kernel
theorem dX11_isSpoiled_34 : decode cX11_isSpoiled 34 = .ok (.getfield 38, 3) := by decide +kernel
theorem dX11_isSpoiled_37 : decode cX11_isSpoiled 37 = .ok (.bipush 16, 2) := by decide +kernel
theorem dX11_isSpoiled_39 : decode cX11_isSpoiled 39 = .ok (.iload_n 2, 1) := by decide +kernel
theorem dX11_isSpoiled_40 : decode cX11_isSpoiled 40 = .ok (.iadd, 1) := by decide +kernel
theorem dX11_isSpoiled_41 : decode cX11_isSpoiled 41 = .ok (.iaload, 1) := by decide +kernel
theorem dX11_isSpoiled_42 : decode cX11_isSpoiled 42 = .ok (.aload_n 0, 1) := by decide +kernel
theorem dX11_isSpoiled_43 : decode cX11_isSpoiled 43 = .ok (.getfield 41, 3) := by decide +kernel
theorem dX11_isSpoiled_46 : decode cX11_isSpoiled 46 = .ok (.bipush 16, 2) := by decide +kernel
theorem dX11_isSpoiled_48 : decode cX11_isSpoiled 48 = .ok (.iload_n 2, 1) := by decide +kernel
theorem dX11_isSpoiled_49 : decode cX11_isSpoiled 49 = .ok (.iadd, 1) := by decide +kernel
theorem dX11_isSpoiled_50 : decode cX11_isSpoiled 50 = .ok (.iaload, 1) := by decide +kernel
theorem dX11_isSpoiled_51 : decode cX11_isSpoiled 51 = .ok (.if_icmp .le 7, 3) := by decide +kernel
theorem dX11_isSpoiled_54 : decode cX11_isSpoiled 54 = .ok (.iconst 1, 1) := by decide +kernel
theorem dX11_isSpoiled_55 : decode cX11_isSpoiled 55 = .ok (.goto 4, 3) := by decide +kernel
theorem dX11_isSpoiled_58 : decode cX11_isSpoiled 58 = .ok (.iconst 0, 1) := by decide +kernel
theorem dX11_isSpoiled_59 : decode cX11_isSpoiled 59 = .ok (.istore_n 1, 1) := by decide +kernel
theorem dX11_isSpoiled_60 : decode cX11_isSpoiled 60 = .ok (.iinc 2 1, 3) := by decide +kernel
theorem dX11_isSpoiled_63 : decode cX11_isSpoiled 63 = .ok (.goto (-59), 3) := by decide +kernel
theorem dX11_isSpoiled_66 : decode cX11_isSpoiled 66 = .ok (.iload_n 1, 1) := by decide +kernel
theorem dX11_isSpoiled_67 : decode cX11_isSpoiled 67 = .ok (.ireturn, 1) := by decide +kernel
set_option maxRecDepth 20000 in
theorem ggX11_narrowsOne_X11_atLeast : GoodIn wsX11_narrowsOne wsX11_atLeast := goodIn_r _ [6, 7, 8, 9, 10, 11, 12, 13, 14, 15, 16, 17, 18, 19, 20, 21, 22, 23, 24, 25, 26, 27] (by decide +kernel) (by decide +kernel)
set_option maxRecDepth 20000 in
theorem gX11_narrowsOne_X11_atLeast : GoodIn wsX11_narrowsOne (wsV RX11 101 RX11 yX11_atLeast wsX11_atLeast) := goodIn_app (goodIn_of _ (by decide +kernel)) ggX11_narrowsOne_X11_atLeast
theorem dX11_narrowsOne_0 : decode cX11_narrowsOne 0 = .ok (.bipush 16, 2) := by decide +kernel
theorem dX11_narrowsOne_2 : decode cX11_narrowsOne 2 = .ok (.iload_n 1, 1) := by decide +kernel
theorem dX11_narrowsOne_3 : decode cX11_narrowsOne 3 = .ok (.iadd, 1) := by decide +kernel
theorem dX11_narrowsOne_4 : decode cX11_narrowsOne 4 = .ok (.istore_n 2, 1) := by decide +kernel
theorem dX11_narrowsOne_5 : decode cX11_narrowsOne 5 = .ok (.aload_n 0, 1) := by decide +kernel
theorem dX11_narrowsOne_6 : decode cX11_narrowsOne 6 = .ok (.getfield 7, 3) := by decide +kernel
theorem dX11_narrowsOne_9 : decode cX11_narrowsOne 9 = .ok (.bipush 45, 2) := by decide +kernel
theorem dX11_narrowsOne_11 : decode cX11_narrowsOne 11 = .ok (.iload_n 1, 1) := by decide +kernel
theorem dX11_narrowsOne_12 : decode cX11_narrowsOne 12 = .ok (.iadd, 1) := by decide +kernel
theorem dX11_narrowsOne_13 : decode cX11_narrowsOne 13 = .ok (.iaload, 1) := by decide +kernel
theorem dX11_narrowsOne_14 : decode cX11_narrowsOne 14 = .ok (.istore_n 3, 1) := by decide +kernel
theorem dX11_narrowsOne_15 : decode cX11_narrowsOne 15 = .ok (.aload_n 0, 1) := by decide +kernel
theorem dX11_narrowsOne_16 : decode cX11_narrowsOne 16 = .ok (.getfield 7, 3) := by decide +kernel
theorem dX11_narrowsOne_19 : decode cX11_narrowsOne 19 = .ok (.bipush 61, 2) := by decide +kernel
theorem dX11_narrowsOne_21 : decode cX11_narrowsOne 21 = .ok (.iload_n 1, 1) := by decide +kernel
theorem dX11_narrowsOne_22 : decode cX11_narrowsOne 22 = .ok (.iadd, 1) := by decide +kernel
theorem dX11_narrowsOne_23 : decode cX11_narrowsOne 23 = .ok (.iaload, 1) := by decide +kernel
theorem dX11_narrowsOne_24 : decode cX11_narrowsOne 24 = .ok (.istore 4, 2) := by decide +kernel
theorem dX11_narrowsOne_26 : decode cX11_narrowsOne 26 = .ok (.aload_n 0, 1) := by decide +kernel
theorem dX11_narrowsOne_27 : decode cX11_narrowsOne 27 = .ok (.iload_n 1, 1) := by decide +kernel
theorem dX11_narrowsOne_28 : decode cX11_narrowsOne 28 = .ok (.iload_n 2, 1) := by decide +kernel
theorem dX11_narrowsOne_29 : decode cX11_narrowsOne 29 = .ok (.iconst 0, 1) := by decide +kernel
theorem dX11_narrowsOne_30 : decode cX11_narrowsOne 30 = .ok (.invokevirtual 101, 3) := by decide +kernel
theorem dX11_narrowsOne_33 : decode cX11_narrowsOne 33 = .ok (.aload_n 0, 1) := by decide +kernel
theorem dX11_narrowsOne_34 : decode cX11_narrowsOne 34 = .ok (.iload_n 2, 1) := by decide +kernel
theorem dX11_narrowsOne_35 : decode cX11_narrowsOne 35 = .ok (.iload_n 1, 1) := by decide +kernel
theorem dX11_narrowsOne_36 : decode cX11_narrowsOne 36 = .ok (.bipush (-100), 2) := by decide +kernel
theorem dX11_narrowsOne_38 : decode cX11_narrowsOne 38 = .ok (.invokevirtual 101, 3) := by decide +kernel
theorem dX11_narrowsOne_41 : decode cX11_narrowsOne 41 = .ok (.iload_n 3, 1) := by decide +kernel
theorem dX11_narrowsOne_42 : decode cX11_narrowsOne 42 = .ok (.iconst (-1), 1) := by decide +kernel
theorem dX11_narrowsOne_43 : decode cX11_narrowsOne 43 = .ok (.if_icmp .eq 21, 3) := by decide +kernel
theorem dX11_narrowsOne_46 : decode cX11_narrowsOne 46 = .ok (.aload_n 0, 1) := by decide +kernel
theorem dX11_narrowsOne_47 : decode cX11_narrowsOne 47 = .ok (.iload_n 3, 1) := by decide +kernel
theorem dX11_narrowsOne_48 : decode cX11_narrowsOne 48 = .ok (.iload_n 1, 1) := by decide +kernel
theorem dX11_narrowsOne_49 : decode cX11_narrowsOne 49 = .ok (.bipush 15, 2) := by decide +kernel
theorem dX11_narrowsOne_51 : decode cX11_narrowsOne 51 = .ok (.invokevirtual 101, 3) := by decide +kernel
theorem dX11_narrowsOne_54 : decode cX11_narrowsOne 54 = .ok (.aload_n 0, 1) := by decide +kernel
theorem dX11_narrowsOne_55 : decode cX11_narrowsOne 55 = .ok (.iload_n 1, 1) := by decide +kernel
theorem dX11_narrowsOne_56 : decode cX11_narrowsOne 56 = .ok (.bipush 16, 2) := by decide +kernel
theorem dX11_narrowsOne_58 : decode cX11_narrowsOne 58 = .ok (.iload_n 3, 1) := by decide +kernel
theorem dX11_narrowsOne_59 : decode cX11_narrowsOne 59 = .ok (.iadd, 1) := by decide +kernel
theorem dX11_narrowsOne_60 : decode cX11_narrowsOne 60 = .ok (.iconst (-1), 1) := by decide +kernel
theorem dX11_narrowsOne_61 : decode cX11_narrowsOne 61 = .ok (.invokevirtual 101, 3) := by decide +kernel
theorem dX11_narrowsOne_64 : decode cX11_narrowsOne 64 = .ok (.iload 4, 2) := by decide +kernel
theorem dX11_narrowsOne_66 : decode cX11_narrowsOne 66 = .ok (.iconst (-1), 1) := by decide +kernel
theorem dX11_narrowsOne_67 : decode cX11_narrowsOne 67 = .ok (.if_icmp .eq 32, 3) := by decide +kernel
theorem dX11_narrowsOne_70 : decode cX11_narrowsOne 70 = .ok (.aload_n 0, 1) := by decide +kernel
theorem dX11_narrowsOne_71 : decode cX11_narrowsOne 71 = .ok (.iload 4, 2) := by decide +kernel
theorem dX11_narrowsOne_73 : decode cX11_narrowsOne 73 = .ok (.iload_n 1, 1) := by decide +kernel
theorem dX11_narrowsOne_74 : decode cX11_narrowsOne 74 = .ok (.bipush 15, 2) := by decide +kernel
theorem dX11_narrowsOne_76 : decode cX11_narrowsOne 76 = .ok (.invokevirtual 101, 3) := by decide +kernel
theorem dX11_narrowsOne_79 : decode cX11_narrowsOne 79 = .ok (.aload_n 0, 1) := by decide +kernel
theorem dX11_narrowsOne_80 : decode cX11_narrowsOne 80 = .ok (.iload_n 1, 1) := by decide +kernel
theorem dX11_narrowsOne_81 : decode cX11_narrowsOne 81 = .ok (.iload 4, 2) := by decide +kernel
theorem dX11_narrowsOne_83 : decode cX11_narrowsOne 83 = .ok (.bipush (-50), 2) := by decide +kernel
theorem dX11_narrowsOne_85 : decode cX11_narrowsOne 85 = .ok (.invokevirtual 101, 3) := by decide +kernel
theorem dX11_narrowsOne_88 : decode cX11_narrowsOne 88 = .ok (.aload_n 0, 1) := by decide +kernel
theorem dX11_narrowsOne_89 : decode cX11_narrowsOne 89 = .ok (.iload_n 1, 1) := by decide +kernel
theorem dX11_narrowsOne_90 : decode cX11_narrowsOne 90 = .ok (.bipush 16, 2) := by decide +kernel
theorem dX11_narrowsOne_92 : decode cX11_narrowsOne 92 = .ok (.iload 4, 2) := by decide +kernel
theorem dX11_narrowsOne_94 : decode cX11_narrowsOne 94 = .ok (.iadd, 1) := by decide +kernel
theorem dX11_narrowsOne_95 : decode cX11_narrowsOne 95 = .ok (.iconst 0, 1) := by decide +kernel
theorem dX11_narrowsOne_96 : decode cX11_narrowsOne 96 = .ok (.invokevirtual 101, 3) := by decide +kernel
theorem dX11_narrowsOne_99 : decode cX11_narrowsOne 99 = .ok (.return_, 1) := by decide +kernel
set_option maxRecDepth 20000 in
theorem ggX11_narrows_X11_isSpoiled : GoodIn wsX11_narrows wsX11_isSpoiled := goodIn_r _ [9, 1, 2, 3, 18, 19, 20, 21, 22, 23, 24, 25, 26, 27, 28, 29, 30, 31, 32, 33, 34, 35] (by decide +kernel) (by decide +kernel)
set_option maxRecDepth 20000 in
theorem gX11_narrows_X11_isSpoiled : GoodIn wsX11_narrows (wsV RX11 104 RX11 yX11_isSpoiled wsX11_isSpoiled) := goodIn_app (goodIn_of _ (by decide +kernel)) ggX11_narrows_X11_isSpoiled
set_option maxRecDepth 20000 in
theorem ggX11_narrows_X11_narrowsOne : GoodIn wsX11_narrows wsX11_narrowsOne := goodIn_r _ [13, 1, 14, 15, 16, 8, 17, 2, 4, 3, 18, 19, 20, 21, 22, 23, 24, 25, 26, 27, 28, 29, 30, 31, 32, 33, 34, 35] (by decide +kernel) (by decide +kernel)
set_option maxRecDepth 20000 in
theorem gX11_narrows_X11_narrowsOne : GoodIn wsX11_narrows (wsV RX11 108 RX11 yX11_narrowsOne wsX11_narrowsOne) := goodIn_app (goodIn_of _ (by decide +kernel)) ggX11_narrows_X11_narrowsOne
end
section
theorem dX11_narrows_0 : decode cX11_narrows 0 = .ok (.iconst 0, 1) := by decide +kernel
theorem dX11_narrows_1 : decode cX11_narrows 1 = .ok (.istore_n 1, 1) := by decide +kernel
theorem dX11_narrows_2 : decode cX11_narrows 2 = .ok (.iload_n 1, 1) := by decide +kernel
theorem dX11_narrows_3 : decode cX11_narrows 3 = .ok (.aload_n 0, 1) := by decide +kernel
theorem dX11_narrows_4 : decode cX11_narrows 4 = .ok (.getfield 7, 3) := by decide +kernel
theorem dX11_narrows_7 : decode cX11_narrows 7 = .ok (.iconst 0, 1) := by decide +kernel
theorem dX11_narrows_8 : decode cX11_narrows 8 = .ok (.iaload, 1) := by decide +kernel
theorem dX11_narrows_9 : decode cX11_narrows 9 = .ok (.if_icmp .ge 87, 3) := by decide +kernel
theorem dX11_narrows_12 : decode cX11_narrows 12 = .ok (.aload_n 0, 1) := by decide +kernel
theorem dX11_narrows_13 : decode cX11_narrows 13 = .ok (.getfield 38, 3) := by decide +kernel
theorem dX11_narrows_16 : decode cX11_narrows 16 = .ok (.iload_n 1, 1) := by decide +kernel
theorem dX11_narrows_17 : decode cX11_narrows 17 = .ok (.aload_n 0, 1) := by decide +kernel
theorem dX11_narrows_18 : decode cX11_narrows 18 = .ok (.getfield 7, 3) := by decide +kernel
theorem dX11_narrows_21 : decode cX11_narrows 21 = .ok (.bipush 77, 2) := by decide +kernel
theorem dX11_narrows_23 : decode cX11_narrows 23 = .ok (.iconst 2, 1) := by decide +kernel
theorem dX11_narrows_24 : decode cX11_narrows 24 = .ok (.iload_n 1, 1) := by decide +kernel
theorem dX11_narrows_25 : decode cX11_narrows 25 = .ok (.imul, 1) := by decide +kernel
theorem dX11_narrows_26 : decode cX11_narrows 26 = .ok (.iadd, 1) := by decide +kernel
theorem dX11_narrows_27 : decode cX11_narrows 27 = .ok (.iaload, 1) := by decide +kernel
theorem dX11_narrows_28 : decode cX11_narrows 28 = .ok (.iastore, 1) := by decide +kernel
theorem dX11_narrows_29 : decode cX11_narrows 29 = .ok (.aload_n 0, 1) := by decide +kernel
theorem dX11_narrows_30 : decode cX11_narrows 30 = .ok (.getfield 41, 3) := by decide +kernel
theorem dX11_narrows_33 : decode cX11_narrows 33 = .ok (.iload_n 1, 1) := by decide +kernel
theorem dX11_narrows_34 : decode cX11_narrows 34 = .ok (.aload_n 0, 1) := by decide +kernel
theorem dX11_narrows_35 : decode cX11_narrows 35 = .ok (.getfield 7, 3) := by decide +kernel
theorem dX11_narrows_38 : decode cX11_narrows 38 = .ok (.bipush 77, 2) := by decide +kernel
theorem dX11_narrows_40 : decode cX11_narrows 40 = .ok (.iconst 2, 1) := by decide +kernel
theorem dX11_narrows_41 : decode cX11_narrows 41 = .ok (.iload_n 1, 1) := by decide +kernel
theorem dX11_narrows_42 : decode cX11_narrows 42 = .ok (.imul, 1) := by decide +kernel
theorem dX11_narrows_43 : decode cX11_narrows 43 = .ok (.iadd, 1) := by decide +kernel
theorem dX11_narrows_44 : decode cX11_narrows 44 = .ok (.iconst 1, 1) := by decide +kernel
theorem dX11_narrows_45 : decode cX11_narrows 45 = .ok (.iadd, 1) := by decide +kernel
theorem dX11_narrows_46 : decode cX11_narrows 46 = .ok (.iaload, 1) := by decide +kernel
theorem dX11_narrows_47 : decode cX11_narrows 47 = .ok (.iastore, 1) := by decide +kernel
theorem dX11_narrows_48 : decode cX11_narrows 48 = .ok (.aload_n 0, 1) := by decide +kernel
theorem dX11_narrows_49 : decode cX11_narrows 49 = .ok (.getfield 38, 3) := by decide +kernel
theorem dX11_narrows_52 : decode cX11_narrows 52 = .ok (.bipush 16, 2) := by decide +kernel
theorem dX11_narrows_54 : decode cX11_narrows 54 = .ok (.iload_n 1, 1) := by decide +kernel
theorem dX11_narrows_55 : decode cX11_narrows 55 = .ok (.iadd, 1) := by decide +kernel
theorem dX11_narrows_56 : decode cX11_narrows 56 = .ok (.aload_n 0, 1) := by decide +kernel
theorem dX11_narrows_57 : decode cX11_narrows 57 = .ok (.getfield 7, 3) := by decide +kernel
theorem dX11_narrows_60 : decode cX11_narrows 60 = .ok (.bipush 109, 2) := by decide +kernel
theorem dX11_narrows_62 : decode cX11_narrows 62 = .ok (.iconst 2, 1) := by decide +kernel
theorem dX11_narrows_63 : decode cX11_narrows 63 = .ok (.iload_n 1, 1) := by decide +kernel
theorem dX11_narrows_64 : decode cX11_narrows 64 = .ok (.imul, 1) := by decide +kernel
theorem dX11_narrows_65 : decode cX11_narrows 65 = .ok (.iadd, 1) := by decide +kernel
theorem dX11_narrows_66 : decode cX11_narrows 66 = .ok (.iaload, 1) := by decide +kernel
theorem dX11_narrows_67 : decode cX11_narrows 67 = .ok (.iastore, 1) := by decide +kernel
theorem dX11_narrows_68 : decode cX11_narrows 68 = .ok (.aload_n 0, 1) := by decide +kernel
theorem dX11_narrows_69 : decode cX11_narrows 69 = .ok (.getfield 41, 3) := by decide +kernel
theorem dX11_narrows_72 : decode cX11_narrows 72 = .ok (.bipush 16, 2) := by decide +kernel
theorem dX11_narrows_74 : decode cX11_narrows 74 = .ok (.iload_n 1, 1) := by decide +kernel
theorem dX11_narrows_75 : decode cX11_narrows 75 = .ok (.iadd, 1) := by decide +kernel
theorem dX11_narrows_76 : decode cX11_narrows 76 = .ok (.aload_n 0, 1) := by decide +kernel
theorem dX11_narrows_77 : decode cX11_narrows 77 = .ok (.getfield 7, 3) := by decide +kernel
theorem dX11_narrows_80 : decode cX11_narrows 80 = .ok (.bipush 109, 2) := by decide +kernel
theorem dX11_narrows_82 : decode cX11_narrows 82 = .ok (.iconst 2, 1) := by decide +kernel
theorem dX11_narrows_83 : decode cX11_narrows 83 = .ok (.iload_n 1, 1) := by decide +kernel
theorem dX11_narrows_84 : decode cX11_narrows 84 = .ok (.imul, 1) := by decide +kernel
theorem dX11_narrows_85 : decode cX11_narrows 85 = .ok (.iadd, 1) := by decide +kernel
theorem dX11_narrows_86 : decode cX11_narrows 86 = .ok (.iconst 1, 1) := by decide +kernel
theorem dX11_narrows_87 : decode cX11_narrows 87 = .ok (.iadd, 1) := by decide +kernel
theorem dX11_narrows_88 : decode cX11_narrows 88 = .ok (.iaload, 1) := by decide +kernel
theorem dX11_narrows_89 : decode cX11_narrows 89 = .ok (.iastore, 1) := by decide +kernel
theorem dX11_narrows_90 : decode cX11_narrows 90 = .ok (.iinc 1 1, 3) := by decide +kernel
theorem dX11_narrows_93 : decode cX11_narrows 93 = .ok (.goto (-91), 3) := by decide +kernel
theorem dX11_narrows_96 : decode cX11_narrows 96 = .ok (.aload_n 0, 1) := by decide +kernel
theorem dX11_narrows_97 : decode cX11_narrows 97 = .ok (.iconst 1, 1) := by decide +kernel
theorem dX11_narrows_98 : decode cX11_narrows 98 = .ok (.putfield 97, 3) := by decide +kernel
theorem dX11_narrows_101 : decode cX11_narrows 101 = .ok (.aload_n 0, 1) := by decide +kernel
theorem dX11_narrows_102 : decode cX11_narrows 102 = .ok (.getfield 97, 3) := by decide +kernel
theorem dX11_narrows_105 : decode cX11_narrows 105 = .ok (.ifCond .eq 41, 3) := by decide +kernel
theorem dX11_narrows_108 : decode cX11_narrows 108 = .ok (.aload_n 0, 1) := by decide +kernel
theorem dX11_narrows_109 : decode cX11_narrows 109 = .ok (.invokevirtual 104, 3) := by decide +kernel
theorem dX11_narrows_112 : decode cX11_narrows 112 = .ok (.ifCond .ne 34, 3) := by decide +kernel
theorem dX11_narrows_115 : decode cX11_narrows 115 = .ok (.aload_n 0, 1) := by decide +kernel
theorem dX11_narrows_116 : decode cX11_narrows 116 = .ok (.iconst 0, 1) := by decide +kernel
theorem dX11_narrows_117 : decode cX11_narrows 117 = .ok (.putfield 97, 3) := by decide +kernel
theorem dX11_narrows_120 : decode cX11_narrows 120 = .ok (.iconst 0, 1) := by decide +kernel
theorem dX11_narrows_121 : decode cX11_narrows 121 = .ok (.istore_n 1, 1) := by decide +kernel
theorem dX11_narrows_122 : decode cX11_narrows 122 = .ok (.iload_n 1, 1) := by decide +kernel
theorem dX11_narrows_123 : decode cX11_narrows 123 = .ok (.aload_n 0, 1) := by decide +kernel
theorem dX11_narrows_124 : decode cX11_narrows 124 = .ok (.getfield 7, 3) := by decide +kernel
theorem dX11_narrows_127 : decode cX11_narrows 127 = .ok (.iconst 0, 1) := by decide +kernel
theorem dX11_narrows_128 : decode cX11_narrows 128 = .ok (.iaload, 1) := by decide +kernel
theorem dX11_narrows_129 : decode cX11_narrows 129 = .ok (.if_icmp .ge 14, 3) := by decide +kernel
theorem dX11_narrows_132 : decode cX11_narrows 132 = .ok (.aload_n 0, 1) := by decide +kernel
theorem dX11_narrows_133 : decode cX11_narrows 133 = .ok (.iload_n 1, 1) := by decide +kernel
theorem dX11_narrows_134 : decode cX11_narrows 134 = .ok (.invokevirtual 108, 3) := by decide +kernel
theorem dX11_narrows_137 : decode cX11_narrows 137 = .ok (.iinc 1 1, 3) := by decide +kernel
theorem dX11_narrows_140 : decode cX11_narrows 140 = .ok (.goto (-18), 3) := by decide +kernel
theorem dX11_narrows_143 : decode cX11_narrows 143 = .ok (.goto (-42), 3) := by decide +kernel
theorem dX11_narrows_146 : decode cX11_narrows 146 = .ok (.aload_n 0, 1) := by decide +kernel
theorem dX11_narrows_147 : decode cX11_narrows 147 = .ok (.invokevirtual 104, 3) := by decide +kernel
theorem dX11_narrows_150 : decode cX11_narrows 150 = .ok (.ifCond .ne 7, 3) := by decide +kernel
theorem dX11_narrows_153 : decode cX11_narrows 153 = .ok (.iconst 1, 1) := by decide +kernel
theorem dX11_narrows_154 : decode cX11_narrows 154 = .ok (.goto 4, 3) := by decide +kernel
theorem dX11_narrows_157 : decode cX11_narrows 157 = .ok (.iconst 0, 1) := by decide +kernel
theorem dX11_narrows_158 : decode cX11_narrows 158 = .ok (.ireturn, 1) := by decide +kernel
theorem dX11_isAs_0 : decode cX11_isAs 0 = .ok (.aload_n 0, 1) := by decide +kernel
theorem dX11_isAs_1 : decode cX11_isAs 1 = .ok (.getfield 7, 3) := by decide +kernel
theorem dX11_isAs_4 : decode cX11_isAs 4 = .ok (.iconst 3, 1) := by decide +kernel
theorem dX11_isAs_5 : decode cX11_isAs 5 = .ok (.iload_n 1, 1) := by decide +kernel
theorem dX11_isAs_6 : decode cX11_isAs 6 = .ok (.iadd, 1) := by decide +kernel
theorem dX11_isAs_7 : decode cX11_isAs 7 = .ok (.iaload, 1) := by decide +kernel
theorem dX11_isAs_8 : decode cX11_isAs 8 = .ok (.bipush 10, 2) := by decide +kernel
theorem dX11_isAs_10 : decode cX11_isAs 10 = .ok (.if_icmp .eq 15, 3) := by decide +kernel
theorem dX11_isAs_13 : decode cX11_isAs 13 = .ok (.aload_n 0, 1) := by decide +kernel
theorem dX11_isAs_14 : decode cX11_isAs 14 = .ok (.getfield 7, 3) := by decide +kernel
theorem dX11_isAs_17 : decode cX11_isAs 17 = .ok (.iconst 3, 1) := by decide +kernel
theorem dX11_isAs_18 : decode cX11_isAs 18 = .ok (.iload_n 1, 1) := by decide +kernel
theorem dX11_isAs_19 : decode cX11_isAs 19 = .ok (.iadd, 1) := by decide +kernel
theorem dX11_isAs_20 : decode cX11_isAs 20 = .ok (.iaload, 1) := by decide +kernel
theorem dX11_isAs_21 : decode cX11_isAs 21 = .ok (.iload_n 2, 1) := by decide +kernel
theorem dX11_isAs_22 : decode cX11_isAs 22 = .ok (.if_icmp .ne 7, 3) := by decide +kernel
theorem dX11_isAs_25 : decode cX11_isAs 25 = .ok (.iconst 1, 1) := by decide +kernel
theorem dX11_isAs_26 : decode cX11_isAs 26 = .ok (.goto 4, 3) := by decide +kernel
theorem dX11_isAs_29 : decode cX11_isAs 29 = .ok (.iconst 0, 1) := by decide +kernel
theorem dX11_isAs_30 : decode cX11_isAs 30 = .ok (.ireturn, 1) := by decide +kernel
set_option maxRecDepth 20000 in
theorem ggX11_isAll_X11_isAs : GoodIn wsX11_isAll wsX11_isAs := goodIn_r _ [8, 1, 9, 10, 11, 12, 13, 14, 15, 16, 17, 18, 19, 20, 21, 22, 23, 24, 25, 26] (by decide +kernel) (by decide +kernel)
set_option maxRecDepth 20000 in
theorem gX11_isAll_X11_isAs : GoodIn wsX11_isAll (wsV RX11 112 RX11 yX11_isAs wsX11_isAs) := goodIn_app (goodIn_of _ (by decide +kernel)) ggX11_isAll_X11_isAs
theorem dX11_isAll_0 : decode cX11_isAll 0 = .ok (.aload_n 0, 1) := by decide +kernel
theorem dX11_isAll_1 : decode cX11_isAll 1 = .ok (.getfield 7, 3) := by decide +kernel
theorem dX11_isAll_4 : decode cX11_isAll 4 = .ok (.iconst 2, 1) := by decide +kernel
theorem dX11_isAll_5 : decode cX11_isAll 5 = .ok (.iaload, 1) := by decide +kernel
theorem dX11_isAll_6 : decode cX11_isAll 6 = .ok (.ifCond .le 22, 3) := by decide +kernel
theorem dX11_isAll_9 : decode cX11_isAll 9 = .ok (.aload_n 0, 1) := by decide +kernel
theorem dX11_isAll_10 : decode cX11_isAll 10 = .ok (.getfield 29, 3) := by decide +kernel
theorem dX11_isAll_13 : decode cX11_isAll 13 = .ok (.iload_n 1, 1) := by decide +kernel
theorem dX11_isAll_14 : decode cX11_isAll 14 = .ok (.iaload, 1) := by decide +kernel
theorem dX11_isAll_15 : decode cX11_isAll 15 = .ok (.aload_n 0, 1) := by decide +kernel
theorem dX11_isAll_16 : decode cX11_isAll 16 = .ok (.getfield 7, 3) := by decide +kernel
theorem dX11_isAll_19 : decode cX11_isAll 19 = .ok (.iconst 2, 1) := by decide +kernel
theorem dX11_isAll_20 : decode cX11_isAll 20 = .ok (.iaload, 1) := by decide +kernel
theorem dX11_isAll_21 : decode cX11_isAll 21 = .ok (.if_icmp .ne 7, 3) := by decide +kernel
theorem dX11_isAll_24 : decode cX11_isAll 24 = .ok (.iconst 1, 1) := by decide +kernel
theorem dX11_isAll_25 : decode cX11_isAll 25 = .ok (.goto 4, 3) := by decide +kernel
theorem dX11_isAll_28 : decode cX11_isAll 28 = .ok (.iconst 0, 1) := by decide +kernel
theorem dX11_isAll_29 : decode cX11_isAll 29 = .ok (.istore_n 2, 1) := by decide +kernel
theorem dX11_isAll_30 : decode cX11_isAll 30 = .ok (.iconst 0, 1) := by decide +kernel
theorem dX11_isAll_31 : decode cX11_isAll 31 = .ok (.istore_n 3, 1) := by decide +kernel
theorem dX11_isAll_32 : decode cX11_isAll 32 = .ok (.iload_n 3, 1) := by decide +kernel
theorem dX11_isAll_33 : decode cX11_isAll 33 = .ok (.aload_n 0, 1) := by decide +kernel
theorem dX11_isAll_34 : decode cX11_isAll 34 = .ok (.getfield 29, 3) := by decide +kernel
theorem dX11_isAll_37 : decode cX11_isAll 37 = .ok (.iload_n 1, 1) := by decide +kernel
theorem dX11_isAll_38 : decode cX11_isAll 38 = .ok (.iaload, 1) := by decide +kernel
theorem dX11_isAll_39 : decode cX11_isAll 39 = .ok (.if_icmp .ge 30, 3) := by decide +kernel
theorem dX11_isAll_42 : decode cX11_isAll 42 = .ok (.iload_n 2, 1) := by decide +kernel
theorem dX11_isAll_43 : decode cX11_isAll 43 = .ok (.ifCond .eq 26, 3) := by decide +kernel
theorem dX11_isAll_46 : decode cX11_isAll 46 = .ok (.aload_n 0, 1) := by decide +kernel
theorem dX11_isAll_47 : decode cX11_isAll 47 = .ok (.iload_n 3, 1) := by decide +kernel
theorem dX11_isAll_48 : decode cX11_isAll 48 = .ok (.aload_n 0, 1) := by decide +kernel
theorem dX11_isAll_49 : decode cX11_isAll 49 = .ok (.getfield 32, 3) := by decide +kernel
theorem dX11_isAll_52 : decode cX11_isAll 52 = .ok (.bipush 10, 2) := by decide +kernel
theorem dX11_isAll_54 : decode cX11_isAll 54 = .ok (.iload_n 1, 1) := by decide +kernel
theorem dX11_isAll_55 : decode cX11_isAll 55 = .ok (.imul, 1) := by decide +kernel
theorem dX11_isAll_56 : decode cX11_isAll 56 = .ok (.iload_n 3, 1) := by decide +kernel
theorem dX11_isAll_57 : decode cX11_isAll 57 = .ok (.iadd, 1) := by decide +kernel
theorem dX11_isAll_58 : decode cX11_isAll 58 = .ok (.iaload, 1) := by decide +kernel
theorem dX11_isAll_59 : decode cX11_isAll 59 = .ok (.invokevirtual 112, 3) := by decide +kernel
theorem dX11_isAll_62 : decode cX11_isAll 62 = .ok (.istore_n 2, 1) := by decide +kernel
theorem dX11_isAll_63 : decode cX11_isAll 63 = .ok (.iinc 3 1, 3) := by decide +kernel
theorem dX11_isAll_66 : decode cX11_isAll 66 = .ok (.goto (-34), 3) := by decide +kernel
theorem dX11_isAll_69 : decode cX11_isAll 69 = .ok (.iload_n 2, 1) := by decide +kernel
theorem dX11_isAll_70 : decode cX11_isAll 70 = .ok (.ireturn, 1) := by decide +kernel
set_option maxRecDepth 20000 in
theorem ggX11_isSome_X11_isAs : GoodIn wsX11_isSome wsX11_isAs := goodIn_r _ [8, 1, 9, 10, 11, 12, 13, 14, 15, 16, 17, 18, 19, 20, 21, 22, 23, 24, 25, 26] (by decide +kernel) (by decide +kernel)
set_option maxRecDepth 20000 in
theorem gX11_isSome_X11_isAs : GoodIn wsX11_isSome (wsV RX11 112 RX11 yX11_isAs wsX11_isAs) := goodIn_app (goodIn_of _ (by decide +kernel)) ggX11_isSome_X11_isAs
theorem dX11_isSome_0 : decode cX11_isSome 0 = .ok (.aload_n 0, 1) := by decide +kernel
theorem dX11_isSome_1 : decode cX11_isSome 1 = .ok (.getfield 7, 3) := by decide +kernel
theorem dX11_isSome_4 : decode cX11_isSome 4 = .ok (.iconst 2, 1) := by decide +kernel
theorem dX11_isSome_5 : decode cX11_isSome 5 = .ok (.iaload, 1) := by decide +kernel
theorem dX11_isSome_6 : decode cX11_isSome 6 = .ok (.ifCond .eq 20, 3) := by decide +kernel
theorem dX11_isSome_9 : decode cX11_isSome 9 = .ok (.aload_n 0, 1) := by decide +kernel
theorem dX11_isSome_10 : decode cX11_isSome 10 = .ok (.iconst 0, 1) := by decide +kernel
theorem dX11_isSome_11 : decode cX11_isSome 11 = .ok (.aload_n 0, 1) := by decide +kernel
theorem dX11_isSome_12 : decode cX11_isSome 12 = .ok (.getfield 32, 3) := by decide +kernel
theorem dX11_isSome_15 : decode cX11_isSome 15 = .ok (.bipush 10, 2) := by decide +kernel
theorem dX11_isSome_17 : decode cX11_isSome 17 = .ok (.iload_n 1, 1) := by decide +kernel
theorem dX11_isSome_18 : decode cX11_isSome 18 = .ok (.imul, 1) := by decide +kernel
theorem dX11_isSome_19 : decode cX11_isSome 19 = .ok (.iaload, 1) := by decide +kernel
theorem dX11_isSome_20 : decode cX11_isSome 20 = .ok (.invokevirtual 112, 3) := by decide +kernel
theorem dX11_isSome_23 : decode cX11_isSome 23 = .ok (.ifCond .ne 5, 3) := by decide +kernel
theorem dX11_isSome_26 : decode cX11_isSome 26 = .ok (.iconst 0, 1) := by decide +kernel
theorem dX11_isSome_27 : decode cX11_isSome 27 = .ok (.ireturn, 1) := by decide +kernel
theorem dX11_isSome_28 : decode cX11_isSome 28 = .ok (.iconst 1, 1) := by decide +kernel
theorem dX11_isSome_29 : decode cX11_isSome 29 = .ok (.istore_n 2, 1) := by decide +kernel
theorem dX11_isSome_30 : decode cX11_isSome 30 = .ok (.iconst 1, 1) := by decide +kernel
theorem dX11_isSome_31 : decode cX11_isSome 31 = .ok (.istore_n 3, 1) := by decide +kernel
theorem dX11_isSome_32 : decode cX11_isSome 32 = .ok (.iload_n 3, 1) := by decide +kernel
theorem dX11_isSome_33 : decode cX11_isSome 33 = .ok (.aload_n 0, 1) := by decide +kernel
theorem dX11_isSome_34 : decode cX11_isSome 34 = .ok (.getfield 29, 3) := by decide +kernel
theorem dX11_isSome_37 : decode cX11_isSome 37 = .ok (.iload_n 1, 1) := by decide +kernel
theorem dX11_isSome_38 : decode cX11_isSome 38 = .ok (.iaload, 1) := by decide +kernel
theorem dX11_isSome_39 : decode cX11_isSome 39 = .ok (.if_icmp .ge 46, 3) := by decide +kernel
theorem dX11_isSome_42 : decode cX11_isSome 42 = .ok (.iload_n 2, 1) := by decide +kernel
theorem dX11_isSome_43 : decode cX11_isSome 43 = .ok (.iload_n 2, 1) := by decide +kernel
theorem dX11_isSome_44 : decode cX11_isSome 44 = .ok (.aload_n 0, 1) := by decide +kernel
theorem dX11_isSome_45 : decode cX11_isSome 45 = .ok (.getfield 7, 3) := by decide +kernel
theorem dX11_isSome_48 : decode cX11_isSome 48 = .ok (.iconst 2, 1) := by decide +kernel
theorem dX11_isSome_49 : decode cX11_isSome 49 = .ok (.iaload, 1) := by decide +kernel
theorem dX11_isSome_50 : decode cX11_isSome 50 = .ok (.if_icmp .ge 26, 3) := by decide +kernel
theorem dX11_isSome_53 : decode cX11_isSome 53 = .ok (.aload_n 0, 1) := by decide +kernel
theorem dX11_isSome_54 : decode cX11_isSome 54 = .ok (.iload_n 2, 1) := by decide +kernel
theorem dX11_isSome_55 : decode cX11_isSome 55 = .ok (.aload_n 0, 1) := by decide +kernel
theorem dX11_isSome_56 : decode cX11_isSome 56 = .ok (.getfield 32, 3) := by decide +kernel
theorem dX11_isSome_59 : decode cX11_isSome 59 = .ok (.bipush 10, 2) := by decide +kernel
theorem dX11_isSome_61 : decode cX11_isSome 61 = .ok (.iload_n 1, 1) := by decide +kernel
theorem dX11_isSome_62 : decode cX11_isSome 62 = .ok (.imul, 1) := by decide +kernel
theorem dX11_isSome_63 : decode cX11_isSome 63 = .ok (.iload_n 3, 1) := by decide +kernel
theorem dX11_isSome_64 : decode cX11_isSome 64 = .ok (.iadd, 1) := by decide +kernel
theorem dX11_isSome_65 : decode cX11_isSome 65 = .ok (.iaload, 1) := by decide +kernel
theorem dX11_isSome_66 : decode cX11_isSome 66 = .ok (.invokevirtual 112, 3) := by decide +kernel
theorem dX11_isSome_69 : decode cX11_isSome 69 = .ok (.ifCond .eq 7, 3) := by decide +kernel
theorem dX11_isSome_72 : decode cX11_isSome 72 = .ok (.iconst 1, 1) := by decide +kernel
theorem dX11_isSome_73 : decode cX11_isSome 73 = .ok (.goto 4, 3) := by decide +kernel
theorem dX11_isSome_76 : decode cX11_isSome 76 = .ok (.iconst 0, 1) := by decide +kernel
theorem dX11_isSome_77 : decode cX11_isSome 77 = .ok (.iadd, 1) := by decide +kernel
theorem dX11_isSome_78 : decode cX11_isSome 78 = .ok (.istore_n 2, 1) := by decide +kernel
theorem dX11_isSome_79 : decode cX11_isSome 79 = .ok (.iinc 3 1, 3) := by decide +kernel
theorem dX11_isSome_82 : decode cX11_isSome 82 = .ok (.goto (-50), 3) := by decide +kernel
theorem dX11_isSome_85 : decode cX11_isSome 85 = .ok (.iload_n 2, 1) := by decide +kernel
theorem dX11_isSome_86 : decode cX11_isSome 86 = .ok (.aload_n 0, 1) := by decide +kernel
theorem dX11_isSome_87 : decode cX11_isSome 87 = .ok (.getfield 7, 3) := by decide +kernel
theorem dX11_isSome_90 : decode cX11_isSome 90 = .ok (.iconst 2, 1) := by decide +kernel
theorem dX11_isSome_91 : decode cX11_isSome 91 = .ok (.iaload, 1) := by decide +kernel
theorem dX11_isSome_92 : decode cX11_isSome 92 = .ok (.if_icmp .ne 7, 3) := by decide +kernel
theorem dX11_isSome_95 : decode cX11_isSome 95 = .ok (.iconst 1, 1) := by decide +kernel
theorem dX11_isSome_96 : decode cX11_isSome 96 = .ok (.goto 4, 3) := by decide +kernel
theorem dX11_isSome_99 : decode cX11_isSome 99 = .ok (.iconst 0, 1) := by decide +kernel
theorem dX11_isSome_100 : decode cX11_isSome 100 = .ok (.ireturn, 1) := by decide +kernel
set_option maxRecDepth 20000 in
theorem ggX11_meant_X11_lays : GoodIn wsX11_meant wsX11_lays := goodIn_r _ [6, 1, 7, 8, 9, 5, 10, 11, 12, 13, 14, 15, 16, 17, 18, 19, 20, 21, 22, 23, 24, 25, 26, 27, 28, 29, 30, 31, 32, 33, 34, 35, 36, 49, 50, 51, 52, 53, 54, 55, 56, 57, 58, 59, 60, 61, 62, 63, 64, 65, 66] (by decide +kernel) (by decide +kernel)
set_option maxRecDepth 20000 in
theorem gX11_meant_X11_lays : GoodIn wsX11_meant (wsV RX11 90 RX11 yX11_lays wsX11_lays) := goodIn_app (goodIn_of _ (by decide +kernel)) ggX11_meant_X11_lays
set_option maxRecDepth 20000 in
theorem ggX11_meant_X11_isAll : GoodIn wsX11_meant wsX11_isAll := goodIn_r _ [40, 1, 11, 31, 41, 42, 43, 5, 44, 49, 50, 51, 52, 53, 54, 55, 56, 57, 58, 59, 60, 61, 62, 63, 64, 65, 66] (by decide +kernel) (by decide +kernel)
set_option maxRecDepth 20000 in
theorem gX11_meant_X11_isAll : GoodIn wsX11_meant (wsV RX11 115 RX11 yX11_isAll wsX11_isAll) := goodIn_app (goodIn_of _ (by decide +kernel)) ggX11_meant_X11_isAll
set_option maxRecDepth 20000 in
theorem ggX11_meant_X11_isSome : GoodIn wsX11_meant wsX11_isSome := goodIn_r _ [48, 1, 31, 11, 41, 42, 43, 5, 44, 49, 50, 51, 52, 53, 54, 55, 56, 57, 58, 59, 60, 61, 62, 63, 64, 65, 66] (by decide +kernel) (by decide +kernel)
set_option maxRecDepth 20000 in
theorem gX11_meant_X11_isSome : GoodIn wsX11_meant (wsV RX11 118 RX11 yX11_isSome wsX11_isSome) := goodIn_app (goodIn_of _ (by decide +kernel)) ggX11_meant_X11_isSome
theorem dX11_meant_0 : decode cX11_meant 0 = .ok (.aload_n 0, 1) := by decide +kernel
theorem dX11_meant_1 : decode cX11_meant 1 = .ok (.invokevirtual 90, 3) := by decide +kernel
theorem dX11_meant_4 : decode cX11_meant 4 = .ok (.iconst 0, 1) := by decide +kernel
theorem dX11_meant_5 : decode cX11_meant 5 = .ok (.istore_n 2, 1) := by decide +kernel
theorem dX11_meant_6 : decode cX11_meant 6 = .ok (.iconst 0, 1) := by decide +kernel
theorem dX11_meant_7 : decode cX11_meant 7 = .ok (.istore_n 3, 1) := by decide +kernel
theorem dX11_meant_8 : decode cX11_meant 8 = .ok (.iload_n 3, 1) := by decide +kernel
theorem dX11_meant_9 : decode cX11_meant 9 = .ok (.aload_n 0, 1) := by decide +kernel
theorem dX11_meant_10 : decode cX11_meant 10 = .ok (.getfield 7, 3) := by decide +kernel
theorem dX11_meant_13 : decode cX11_meant 13 = .ok (.iconst 0, 1) := by decide +kernel
theorem dX11_meant_14 : decode cX11_meant 14 = .ok (.iaload, 1) := by decide +kernel
theorem dX11_meant_15 : decode cX11_meant 15 = .ok (.if_icmp .ge 42, 3) := by decide +kernel
theorem dX11_meant_18 : decode cX11_meant 18 = .ok (.iload_n 2, 1) := by decide +kernel
theorem dX11_meant_19 : decode cX11_meant 19 = .ok (.iload_n 1, 1) := by decide +kernel
theorem dX11_meant_20 : decode cX11_meant 20 = .ok (.ifCond .eq 14, 3) := by decide +kernel
theorem dX11_meant_23 : decode cX11_meant 23 = .ok (.aload_n 0, 1) := by decide +kernel
theorem dX11_meant_24 : decode cX11_meant 24 = .ok (.iload_n 3, 1) := by decide +kernel
theorem dX11_meant_25 : decode cX11_meant 25 = .ok (.invokevirtual 115, 3) := by decide +kernel
theorem dX11_meant_28 : decode cX11_meant 28 = .ok (.ifCond .eq 20, 3) := by decide +kernel
theorem dX11_meant_31 : decode cX11_meant 31 = .ok (.goto 11, 3) := by decide +kernel
theorem dX11_meant_34 : decode cX11_meant 34 = .ok (.aload_n 0, 1) := by decide +kernel
theorem dX11_meant_35 : decode cX11_meant 35 = .ok (.iload_n 3, 1) := by decide +kernel
theorem dX11_meant_36 : decode cX11_meant 36 = .ok (.invokevirtual 118, 3) := by decide +kernel
theorem dX11_meant_39 : decode cX11_meant 39 = .ok (.ifCond .eq 9, 3) := by decide +kernel
theorem dX11_meant_42 : decode cX11_meant 42 = .ok (.iconst 1, 1) := by decide +kernel
theorem dX11_meant_43 : decode cX11_meant 43 = .ok (.iload_n 3, 1) := by decide +kernel
theorem dX11_meant_44 : decode cX11_meant 44 = .ok (.ishl, 1) := by decide +kernel
theorem dX11_meant_45 : decode cX11_meant 45 = .ok (.goto 4, 3) := by decide +kernel
theorem dX11_meant_48 : decode cX11_meant 48 = .ok (.iconst 0, 1) := by decide +kernel
theorem dX11_meant_49 : decode cX11_meant 49 = .ok (.ior, 1) := by decide +kernel
theorem dX11_meant_50 : decode cX11_meant 50 = .ok (.istore_n 2, 1) := by decide +kernel
theorem dX11_meant_51 : decode cX11_meant 51 = .ok (.iinc 3 1, 3) := by decide +kernel
theorem dX11_meant_54 : decode cX11_meant 54 = .ok (.goto (-46), 3) := by decide +kernel
theorem dX11_meant_57 : decode cX11_meant 57 = .ok (.iload_n 2, 1) := by decide +kernel
theorem dX11_meant_58 : decode cX11_meant 58 = .ok (.ireturn, 1) := by decide +kernel
theorem dX11_like_0 : decode cX11_like 0 = .ok (.iconst 0, 1) := by decide +kernel
theorem dX11_like_1 : decode cX11_like 1 = .ok (.istore_n 2, 1) := by decide +kernel
theorem dX11_like_2 : decode cX11_like 2 = .ok (.iload_n 2, 1) := by decide +kernel
theorem dX11_like_3 : decode cX11_like 3 = .ok (.aload_n 0, 1) := by decide +kernel
theorem dX11_like_4 : decode cX11_like 4 = .ok (.getfield 29, 3) := by decide +kernel
theorem dX11_like_7 : decode cX11_like 7 = .ok (.iload_n 1, 1) := by decide +kernel
theorem dX11_like_8 : decode cX11_like 8 = .ok (.iaload, 1) := by decide +kernel
theorem dX11_like_9 : decode cX11_like 9 = .ok (.if_icmp .gt 16, 3) := by decide +kernel
theorem dX11_like_12 : decode cX11_like 12 = .ok (.aload_n 0, 1) := by decide +kernel
theorem dX11_like_13 : decode cX11_like 13 = .ok (.getfield 44, 3) := by decide +kernel
theorem dX11_like_16 : decode cX11_like 16 = .ok (.iload_n 2, 1) := by decide +kernel
theorem dX11_like_17 : decode cX11_like 17 = .ok (.iconst 0, 1) := by decide +kernel
theorem dX11_like_18 : decode cX11_like 18 = .ok (.iastore, 1) := by decide +kernel
theorem dX11_like_19 : decode cX11_like 19 = .ok (.iinc 2 1, 3) := by decide +kernel
theorem dX11_like_22 : decode cX11_like 22 = .ok (.goto (-20), 3) := by decide +kernel
theorem dX11_like_25 : decode cX11_like 25 = .ok (.iconst 0, 1) := by decide +kernel
theorem dX11_like_26 : decode cX11_like 26 = .ok (.istore_n 2, 1) := by decide +kernel
theorem dX11_like_27 : decode cX11_like 27 = .ok (.iload_n 2, 1) := by decide +kernel
theorem dX11_like_28 : decode cX11_like 28 = .ok (.aload_n 0, 1) := by decide +kernel
theorem dX11_like_29 : decode cX11_like 29 = .ok (.getfield 7, 3) := by decide +kernel
theorem dX11_like_32 : decode cX11_like 32 = .ok (.iconst 2, 1) := by decide +kernel
theorem dX11_like_33 : decode cX11_like 33 = .ok (.iaload, 1) := by decide +kernel
theorem dX11_like_34 : decode cX11_like 34 = .ok (.if_icmp .ge 140, 3) := by decide +kernel
theorem dX11_like_37 : decode cX11_like 37 = .ok (.iconst 0, 1) := by decide +kernel
theorem dX11_like_38 : decode cX11_like 38 = .ok (.istore_n 3, 1) := by decide +kernel
theorem dX11_like_39 : decode cX11_like 39 = .ok (.iconst 0, 1) := by decide +kernel
theorem dX11_like_40 : decode cX11_like 40 = .ok (.istore 4, 2) := by decide +kernel
theorem dX11_like_42 : decode cX11_like 42 = .ok (.iload 4, 2) := by decide +kernel
theorem dX11_like_44 : decode cX11_like 44 = .ok (.aload_n 0, 1) := by decide +kernel
theorem dX11_like_45 : decode cX11_like 45 = .ok (.getfield 29, 3) := by decide +kernel
theorem dX11_like_48 : decode cX11_like 48 = .ok (.iload_n 1, 1) := by decide +kernel
theorem dX11_like_49 : decode cX11_like 49 = .ok (.iaload, 1) := by decide +kernel
theorem dX11_like_50 : decode cX11_like 50 = .ok (.if_icmp .ge 118, 3) := by decide +kernel
theorem dX11_like_53 : decode cX11_like 53 = .ok (.aload_n 0, 1) := by decide +kernel
theorem dX11_like_54 : decode cX11_like 54 = .ok (.getfield 7, 3) := by decide +kernel
theorem dX11_like_57 : decode cX11_like 57 = .ok (.iconst 3, 1) := by decide +kernel
theorem dX11_like_58 : decode cX11_like 58 = .ok (.iload_n 2, 1) := by decide +kernel
theorem dX11_like_59 : decode cX11_like 59 = .ok (.iadd, 1) := by decide +kernel
theorem dX11_like_60 : decode cX11_like 60 = .ok (.iaload, 1) := by decide +kernel
theorem dX11_like_61 : decode cX11_like 61 = .ok (.bipush 10, 2) := by decide +kernel
theorem dX11_like_63 : decode cX11_like 63 = .ok (.if_icmp .eq 105, 3) := by decide +kernel
theorem dX11_like_66 : decode cX11_like 66 = .ok (.aload_n 0, 1) := by decide +kernel
theorem dX11_like_67 : decode cX11_like 67 = .ok (.getfield 44, 3) := by decide +kernel
theorem dX11_like_70 : decode cX11_like 70 = .ok (.iload 4, 2) := by decide +kernel
theorem dX11_like_72 : decode cX11_like 72 = .ok (.iconst 1, 1) := by decide +kernel
theorem dX11_like_73 : decode cX11_like 73 = .ok (.iadd, 1) := by decide +kernel
theorem dX11_like_74 : decode cX11_like 74 = .ok (.iaload, 1) := by decide +kernel
theorem dX11_like_75 : decode cX11_like 75 = .ok (.istore 5, 2) := by decide +kernel
theorem dX11_like_77 : decode cX11_like 77 = .ok (.aload_n 0, 1) := by decide +kernel
theorem dX11_like_78 : decode cX11_like 78 = .ok (.getfield 32, 3) := by decide +kernel
theorem dX11_like_81 : decode cX11_like 81 = .ok (.bipush 10, 2) := by decide +kernel
theorem dX11_like_83 : decode cX11_like 83 = .ok (.iload_n 1, 1) := by decide +kernel
theorem dX11_like_84 : decode cX11_like 84 = .ok (.imul, 1) := by decide +kernel
theorem dX11_like_85 : decode cX11_like 85 = .ok (.iload 4, 2) := by decide +kernel
theorem dX11_like_87 : decode cX11_like 87 = .ok (.iadd, 1) := by decide +kernel
theorem dX11_like_88 : decode cX11_like 88 = .ok (.iaload, 1) := by decide +kernel
theorem dX11_like_89 : decode cX11_like 89 = .ok (.aload_n 0, 1) := by decide +kernel
theorem dX11_like_90 : decode cX11_like 90 = .ok (.getfield 7, 3) := by decide +kernel
theorem dX11_like_93 : decode cX11_like 93 = .ok (.iconst 3, 1) := by decide +kernel
theorem dX11_like_94 : decode cX11_like 94 = .ok (.iload_n 2, 1) := by decide +kernel
theorem dX11_like_95 : decode cX11_like 95 = .ok (.iadd, 1) := by decide +kernel
theorem dX11_like_96 : decode cX11_like 96 = .ok (.iaload, 1) := by decide +kernel
theorem dX11_like_97 : decode cX11_like 97 = .ok (.if_icmp .ne 9, 3) := by decide +kernel
theorem dX11_like_100 : decode cX11_like 100 = .ok (.iload_n 3, 1) := by decide +kernel
theorem dX11_like_101 : decode cX11_like 101 = .ok (.iconst 1, 1) := by decide +kernel
theorem dX11_like_102 : decode cX11_like 102 = .ok (.iadd, 1) := by decide +kernel
theorem dX11_like_103 : decode cX11_like 103 = .ok (.goto 5, 3) := by decide +kernel
theorem dX11_like_106 : decode cX11_like 106 = .ok (.iload 5, 2) := by decide +kernel
theorem dX11_like_108 : decode cX11_like 108 = .ok (.istore 6, 2) := by decide +kernel
theorem dX11_like_110 : decode cX11_like 110 = .ok (.iload 6, 2) := by decide +kernel
theorem dX11_like_112 : decode cX11_like 112 = .ok (.iload 5, 2) := by decide +kernel
theorem dX11_like_114 : decode cX11_like 114 = .ok (.if_icmp .ge 8, 3) := by decide +kernel
theorem dX11_like_117 : decode cX11_like 117 = .ok (.iload 5, 2) := by decide +kernel
theorem dX11_like_119 : decode cX11_like 119 = .ok (.goto 5, 3) := by decide +kernel
theorem dX11_like_122 : decode cX11_like 122 = .ok (.iload 6, 2) := by decide +kernel
theorem dX11_like_124 : decode cX11_like 124 = .ok (.istore 6, 2) := by decide +kernel
theorem dX11_like_126 : decode cX11_like 126 = .ok (.aload_n 0, 1) := by decide +kernel
theorem dX11_like_127 : decode cX11_like 127 = .ok (.getfield 44, 3) := by decide +kernel
theorem dX11_like_130 : decode cX11_like 130 = .ok (.iload 4, 2) := by decide +kernel
theorem dX11_like_132 : decode cX11_like 132 = .ok (.iconst 1, 1) := by decide +kernel
theorem dX11_like_133 : decode cX11_like 133 = .ok (.iadd, 1) := by decide +kernel
theorem dX11_like_134 : decode cX11_like 134 = .ok (.iload 6, 2) := by decide +kernel
theorem dX11_like_136 : decode cX11_like 136 = .ok (.aload_n 0, 1) := by decide +kernel
theorem dX11_like_137 : decode cX11_like 137 = .ok (.getfield 44, 3) := by decide +kernel
theorem dX11_like_140 : decode cX11_like 140 = .ok (.iload 4, 2) := by decide +kernel
theorem dX11_like_142 : decode cX11_like 142 = .ok (.iaload, 1) := by decide +kernel
theorem dX11_like_143 : decode cX11_like 143 = .ok (.if_icmp .ge 13, 3) := by decide +kernel
theorem dX11_like_146 : decode cX11_like 146 = .ok (.aload_n 0, 1) := by decide +kernel
theorem dX11_like_147 : decode cX11_like 147 = .ok (.getfield 44, 3) := by decide +kernel
theorem dX11_like_150 : decode cX11_like 150 = .ok (.iload 4, 2) := by decide +kernel
theorem dX11_like_152 : decode cX11_like 152 = .ok (.iaload, 1) := by decide +kernel
theorem dX11_like_153 : decode cX11_like 153 = .ok (.goto 5, 3) := by decide +kernel
theorem dX11_like_156 : decode cX11_like 156 = .ok (.iload 6, 2) := by decide +kernel
theorem dX11_like_158 : decode cX11_like 158 = .ok (.iastore, 1) := by decide +kernel
theorem dX11_like_159 : decode cX11_like 159 = .ok (.iload 5, 2) := by decide +kernel
theorem dX11_like_161 : decode cX11_like 161 = .ok (.istore_n 3, 1) := by decide +kernel
theorem dX11_like_162 : decode cX11_like 162 = .ok (.iinc 4 1, 3) := by decide +kernel
theorem dX11_like_165 : decode cX11_like 165 = .ok (.goto (-123), 3) := by decide +kernel
theorem dX11_like_168 : decode cX11_like 168 = .ok (.iinc 2 1, 3) := by decide +kernel
theorem dX11_like_171 : decode cX11_like 171 = .ok (.goto (-144), 3) := by decide +kernel
theorem dX11_like_174 : decode cX11_like 174 = .ok (.aload_n 0, 1) := by decide +kernel
theorem dX11_like_175 : decode cX11_like 175 = .ok (.getfield 44, 3) := by decide +kernel
theorem dX11_like_178 : decode cX11_like 178 = .ok (.aload_n 0, 1) := by decide +kernel
theorem dX11_like_179 : decode cX11_like 179 = .ok (.getfield 29, 3) := by decide +kernel
theorem dX11_like_182 : decode cX11_like 182 = .ok (.iload_n 1, 1) := by decide +kernel
theorem dX11_like_183 : decode cX11_like 183 = .ok (.iaload, 1) := by decide +kernel
theorem dX11_like_184 : decode cX11_like 184 = .ok (.iaload, 1) := by decide +kernel
theorem dX11_like_185 : decode cX11_like 185 = .ok (.ireturn, 1) := by decide +kernel
set_option maxRecDepth 20000 in
theorem ggX11_likely_X11_lays : GoodIn wsX11_likely wsX11_lays := goodIn_r _ [7, 1, 8, 9, 10, 6, 11, 2, 12, 13, 14, 15, 16, 17, 18, 19, 20, 21, 22, 23, 24, 25, 26, 27, 28, 29, 30, 31, 32, 33, 34, 35, 36, 42, 43, 44, 45, 46, 47, 48, 49, 50, 51, 52, 53, 54, 55, 56, 57, 58, 59] (by decide +kernel) (by decide +kernel)
set_option maxRecDepth 20000 in
theorem gX11_likely_X11_lays : GoodIn wsX11_likely (wsV RX11 90 RX11 yX11_lays wsX11_lays) := goodIn_app (goodIn_of _ (by decide +kernel)) ggX11_likely_X11_lays
set_option maxRecDepth 20000 in
theorem ggX11_likely_X11_like : GoodIn wsX11_likely wsX11_like := goodIn_r _ [40, 2, 41, 1, 31, 42, 43, 44, 45, 46, 47, 48, 49, 50, 51, 52, 53, 54, 55, 56, 57, 58, 59] (by decide +kernel) (by decide +kernel)
set_option maxRecDepth 20000 in
theorem gX11_likely_X11_like : GoodIn wsX11_likely (wsV RX11 121 RX11 yX11_like wsX11_like) := goodIn_app (goodIn_of _ (by decide +kernel)) ggX11_likely_X11_like
theorem dX11_likely_0 : decode cX11_likely 0 = .ok (.aload_n 0, 1) := by decide +kernel
theorem dX11_likely_1 : decode cX11_likely 1 = .ok (.invokevirtual 90, 3) := by decide +kernel
theorem dX11_likely_4 : decode cX11_likely 4 = .ok (.iconst (-1), 1) := by decide +kernel
theorem dX11_likely_5 : decode cX11_likely 5 = .ok (.istore_n 1, 1) := by decide +kernel
theorem dX11_likely_6 : decode cX11_likely 6 = .ok (.iconst 0, 1) := by decide +kernel
theorem dX11_likely_7 : decode cX11_likely 7 = .ok (.istore_n 2, 1) := by decide +kernel
theorem dX11_likely_8 : decode cX11_likely 8 = .ok (.iconst 0, 1) := by decide +kernel
theorem dX11_likely_9 : decode cX11_likely 9 = .ok (.istore_n 3, 1) := by decide +kernel
theorem dX11_likely_10 : decode cX11_likely 10 = .ok (.iload_n 3, 1) := by decide +kernel
theorem dX11_likely_11 : decode cX11_likely 11 = .ok (.aload_n 0, 1) := by decide +kernel
theorem dX11_likely_12 : decode cX11_likely 12 = .ok (.getfield 7, 3) := by decide +kernel
theorem dX11_likely_15 : decode cX11_likely 15 = .ok (.iconst 0, 1) := by decide +kernel
theorem dX11_likely_16 : decode cX11_likely 16 = .ok (.iaload, 1) := by decide +kernel
theorem dX11_likely_17 : decode cX11_likely 17 = .ok (.if_icmp .ge 53, 3) := by decide +kernel
theorem dX11_likely_20 : decode cX11_likely 20 = .ok (.aload_n 0, 1) := by decide +kernel
theorem dX11_likely_21 : decode cX11_likely 21 = .ok (.iload_n 3, 1) := by decide +kernel
theorem dX11_likely_22 : decode cX11_likely 22 = .ok (.invokevirtual 121, 3) := by decide +kernel
theorem dX11_likely_25 : decode cX11_likely 25 = .ok (.istore 4, 2) := by decide +kernel
theorem dX11_likely_27 : decode cX11_likely 27 = .ok (.iload 4, 2) := by decide +kernel
theorem dX11_likely_29 : decode cX11_likely 29 = .ok (.iload_n 2, 1) := by decide +kernel
theorem dX11_likely_30 : decode cX11_likely 30 = .ok (.if_icmp .gt 29, 3) := by decide +kernel
theorem dX11_likely_33 : decode cX11_likely 33 = .ok (.iload 4, 2) := by decide +kernel
theorem dX11_likely_35 : decode cX11_likely 35 = .ok (.iload_n 2, 1) := by decide +kernel
theorem dX11_likely_36 : decode cX11_likely 36 = .ok (.if_icmp .ne 28, 3) := by decide +kernel
theorem dX11_likely_39 : decode cX11_likely 39 = .ok (.iload_n 1, 1) := by decide +kernel
theorem dX11_likely_40 : decode cX11_likely 40 = .ok (.iconst (-1), 1) := by decide +kernel
theorem dX11_likely_41 : decode cX11_likely 41 = .ok (.if_icmp .eq 23, 3) := by decide +kernel
theorem dX11_likely_44 : decode cX11_likely 44 = .ok (.aload_n 0, 1) := by decide +kernel
theorem dX11_likely_45 : decode cX11_likely 45 = .ok (.getfield 29, 3) := by decide +kernel
theorem dX11_likely_48 : decode cX11_likely 48 = .ok (.iload_n 3, 1) := by decide +kernel
theorem dX11_likely_49 : decode cX11_likely 49 = .ok (.iaload, 1) := by decide +kernel
theorem dX11_likely_50 : decode cX11_likely 50 = .ok (.aload_n 0, 1) := by decide +kernel
theorem dX11_likely_51 : decode cX11_likely 51 = .ok (.getfield 29, 3) := by decide +kernel
theorem dX11_likely_54 : decode cX11_likely 54 = .ok (.iload_n 1, 1) := by decide +kernel
theorem dX11_likely_55 : decode cX11_likely 55 = .ok (.iaload, 1) := by decide +kernel
theorem dX11_likely_56 : decode cX11_likely 56 = .ok (.if_icmp .ge 8, 3) := by decide +kernel
theorem dX11_likely_59 : decode cX11_likely 59 = .ok (.iload_n 3, 1) := by decide +kernel
theorem dX11_likely_60 : decode cX11_likely 60 = .ok (.istore_n 1, 1) := by decide +kernel
theorem dX11_likely_61 : decode cX11_likely 61 = .ok (.iload 4, 2) := by decide +kernel
theorem dX11_likely_63 : decode cX11_likely 63 = .ok (.istore_n 2, 1) := by decide +kernel
theorem dX11_likely_64 : decode cX11_likely 64 = .ok (.iinc 3 1, 3) := by decide +kernel
theorem dX11_likely_67 : decode cX11_likely 67 = .ok (.goto (-57), 3) := by decide +kernel
theorem dX11_likely_70 : decode cX11_likely 70 = .ok (.iload_n 1, 1) := by decide +kernel
theorem dX11_likely_71 : decode cX11_likely 71 = .ok (.ireturn, 1) := by decide +kernel
set_option maxRecDepth 20000 in
theorem ggX11_heirs_X11_isHeir : GoodIn wsX11_heirs wsX11_isHeir := goodIn_r _ [6, 1, 7, 8, 9, 5, 10, 11, 12, 13, 14, 15, 16, 17, 18, 19, 20, 21, 22, 23, 24, 25, 26, 27, 28, 29, 30, 31, 32, 33, 34, 35] (by decide +kernel) (by decide +kernel)
set_option maxRecDepth 20000 in
theorem gX11_heirs_X11_isHeir : GoodIn wsX11_heirs (wsV RX11 76 RX11 yX11_isHeir wsX11_isHeir) := goodIn_app (goodIn_of _ (by decide +kernel)) ggX11_heirs_X11_isHeir
theorem dX11_heirs_0 : decode cX11_heirs 0 = .ok (.iconst 0, 1) := by decide +kernel
theorem dX11_heirs_1 : decode cX11_heirs 1 = .ok (.istore_n 1, 1) := by decide +kernel
theorem dX11_heirs_2 : decode cX11_heirs 2 = .ok (.iconst 0, 1) := by decide +kernel
theorem dX11_heirs_3 : decode cX11_heirs 3 = .ok (.istore_n 2, 1) := by decide +kernel
theorem dX11_heirs_4 : decode cX11_heirs 4 = .ok (.iload_n 2, 1) := by decide +kernel
theorem dX11_heirs_5 : decode cX11_heirs 5 = .ok (.aload_n 0, 1) := by decide +kernel
theorem dX11_heirs_6 : decode cX11_heirs 6 = .ok (.getfield 7, 3) := by decide +kernel
theorem dX11_heirs_9 : decode cX11_heirs 9 = .ok (.iconst 0, 1) := by decide +kernel
theorem dX11_heirs_10 : decode cX11_heirs 10 = .ok (.iaload, 1) := by decide +kernel
theorem dX11_heirs_11 : decode cX11_heirs 11 = .ok (.if_icmp .ge 27, 3) := by decide +kernel
theorem dX11_heirs_14 : decode cX11_heirs 14 = .ok (.iload_n 1, 1) := by decide +kernel
theorem dX11_heirs_15 : decode cX11_heirs 15 = .ok (.aload_n 0, 1) := by decide +kernel
theorem dX11_heirs_16 : decode cX11_heirs 16 = .ok (.iload_n 2, 1) := by decide +kernel
theorem dX11_heirs_17 : decode cX11_heirs 17 = .ok (.invokevirtual 76, 3) := by decide +kernel
theorem dX11_heirs_20 : decode cX11_heirs 20 = .ok (.ifCond .eq 9, 3) := by decide +kernel
theorem dX11_heirs_23 : decode cX11_heirs 23 = .ok (.iconst 1, 1) := by decide +kernel
theorem dX11_heirs_24 : decode cX11_heirs 24 = .ok (.iload_n 2, 1) := by decide +kernel
theorem dX11_heirs_25 : decode cX11_heirs 25 = .ok (.ishl, 1) := by decide +kernel
theorem dX11_heirs_26 : decode cX11_heirs 26 = .ok (.goto 4, 3) := by decide +kernel
theorem dX11_heirs_29 : decode cX11_heirs 29 = .ok (.iconst 0, 1) := by decide +kernel
theorem dX11_heirs_30 : decode cX11_heirs 30 = .ok (.ior, 1) := by decide +kernel
theorem dX11_heirs_31 : decode cX11_heirs 31 = .ok (.istore_n 1, 1) := by decide +kernel
theorem dX11_heirs_32 : decode cX11_heirs 32 = .ok (.iinc 2 1, 3) := by decide +kernel
theorem dX11_heirs_35 : decode cX11_heirs 35 = .ok (.goto (-31), 3) := by decide +kernel
theorem dX11_heirs_38 : decode cX11_heirs 38 = .ok (.iload_n 1, 1) := by decide +kernel
theorem dX11_heirs_39 : decode cX11_heirs 39 = .ok (.ireturn, 1) := by decide +kernel
set_option maxRecDepth 20000 in
theorem ggX11_wrong_X11_lays : GoodIn wsX11_wrong wsX11_lays := goodIn_r _ [11, 12, 13, 14, 15, 10, 16, 4, 17, 18, 19, 20, 21, 22, 23, 24, 25, 26, 27, 28, 29, 30, 31, 32, 33, 34, 35, 5, 36, 37, 38, 39, 40, 41, 42, 43, 44, 45, 46, 47, 48, 49, 50, 51, 52, 53, 54, 55, 56, 57, 58] (by decide +kernel) (by decide +kernel)
set_option maxRecDepth 20000 in
theorem gX11_wrong_X11_lays : GoodIn wsX11_wrong (wsV RX11 90 RX11 yX11_lays wsX11_lays) := goodIn_app (goodIn_of _ (by decide +kernel)) ggX11_wrong_X11_lays
set_option maxRecDepth 20000 in
theorem ggX11_wrong_X11_isOne : GoodIn wsX11_wrong wsX11_isOne := goodIn_r _ [28, 12, 29, 30, 10, 31, 41, 42, 43, 44, 45, 46, 47, 48, 49, 50, 51, 52, 53, 54, 55, 56, 57, 58] (by decide +kernel) (by decide +kernel)
set_option maxRecDepth 20000 in
theorem gX11_wrong_X11_isOne : GoodIn wsX11_wrong (wsV RX11 65 RX11 yX11_isOne wsX11_isOne) := goodIn_app (goodIn_of _ (by decide +kernel)) ggX11_wrong_X11_isOne
theorem dX11_wrong_0 : decode cX11_wrong 0 = .ok (.aload_n 0, 1) := by decide +kernel
theorem dX11_wrong_1 : decode cX11_wrong 1 = .ok (.invokevirtual 90, 3) := by decide +kernel
theorem dX11_wrong_4 : decode cX11_wrong 4 = .ok (.iconst 0, 1) := by decide +kernel
theorem dX11_wrong_5 : decode cX11_wrong 5 = .ok (.istore_n 1, 1) := by decide +kernel
theorem dX11_wrong_6 : decode cX11_wrong 6 = .ok (.iload_n 1, 1) := by decide +kernel
theorem dX11_wrong_7 : decode cX11_wrong 7 = .ok (.aload_n 0, 1) := by decide +kernel
theorem dX11_wrong_8 : decode cX11_wrong 8 = .ok (.getfield 124, 3) := by decide +kernel
theorem dX11_wrong_11 : decode cX11_wrong 11 = .ok (.if_icmp .ge 66, 3) := by decide +kernel
theorem dX11_wrong_14 : decode cX11_wrong 14 = .ok (.aload_n 0, 1) := by decide +kernel
theorem dX11_wrong_15 : decode cX11_wrong 15 = .ok (.getfield 20, 3) := by decide +kernel
theorem dX11_wrong_18 : decode cX11_wrong 18 = .ok (.iload_n 1, 1) := by decide +kernel
theorem dX11_wrong_19 : decode cX11_wrong 19 = .ok (.iaload, 1) := by decide +kernel
theorem dX11_wrong_20 : decode cX11_wrong 20 = .ok (.istore_n 2, 1) := by decide +kernel
theorem dX11_wrong_21 : decode cX11_wrong 21 = .ok (.aload_n 0, 1) := by decide +kernel
theorem dX11_wrong_22 : decode cX11_wrong 22 = .ok (.iload_n 2, 1) := by decide +kernel
theorem dX11_wrong_23 : decode cX11_wrong 23 = .ok (.invokevirtual 65, 3) := by decide +kernel
theorem dX11_wrong_26 : decode cX11_wrong 26 = .ok (.ifCond .eq 43, 3) := by decide +kernel
theorem dX11_wrong_29 : decode cX11_wrong 29 = .ok (.aload_n 0, 1) := by decide +kernel
theorem dX11_wrong_30 : decode cX11_wrong 30 = .ok (.getfield 23, 3) := by decide +kernel
theorem dX11_wrong_33 : decode cX11_wrong 33 = .ok (.iload_n 1, 1) := by decide +kernel
theorem dX11_wrong_34 : decode cX11_wrong 34 = .ok (.iaload, 1) := by decide +kernel
theorem dX11_wrong_35 : decode cX11_wrong 35 = .ok (.aload_n 0, 1) := by decide +kernel
theorem dX11_wrong_36 : decode cX11_wrong 36 = .ok (.getfield 29, 3) := by decide +kernel
theorem dX11_wrong_39 : decode cX11_wrong 39 = .ok (.iload_n 2, 1) := by decide +kernel
theorem dX11_wrong_40 : decode cX11_wrong 40 = .ok (.iaload, 1) := by decide +kernel
theorem dX11_wrong_41 : decode cX11_wrong 41 = .ok (.if_icmp .ge 28, 3) := by decide +kernel
theorem dX11_wrong_44 : decode cX11_wrong 44 = .ok (.aload_n 0, 1) := by decide +kernel
theorem dX11_wrong_45 : decode cX11_wrong 45 = .ok (.getfield 32, 3) := by decide +kernel
theorem dX11_wrong_48 : decode cX11_wrong 48 = .ok (.bipush 10, 2) := by decide +kernel
theorem dX11_wrong_50 : decode cX11_wrong 50 = .ok (.iload_n 2, 1) := by decide +kernel
theorem dX11_wrong_51 : decode cX11_wrong 51 = .ok (.imul, 1) := by decide +kernel
theorem dX11_wrong_52 : decode cX11_wrong 52 = .ok (.aload_n 0, 1) := by decide +kernel
theorem dX11_wrong_53 : decode cX11_wrong 53 = .ok (.getfield 23, 3) := by decide +kernel
theorem dX11_wrong_56 : decode cX11_wrong 56 = .ok (.iload_n 1, 1) := by decide +kernel
theorem dX11_wrong_57 : decode cX11_wrong 57 = .ok (.iaload, 1) := by decide +kernel
theorem dX11_wrong_58 : decode cX11_wrong 58 = .ok (.iadd, 1) := by decide +kernel
theorem dX11_wrong_59 : decode cX11_wrong 59 = .ok (.iaload, 1) := by decide +kernel
theorem dX11_wrong_60 : decode cX11_wrong 60 = .ok (.aload_n 0, 1) := by decide +kernel
theorem dX11_wrong_61 : decode cX11_wrong 61 = .ok (.getfield 26, 3) := by decide +kernel
theorem dX11_wrong_64 : decode cX11_wrong 64 = .ok (.iload_n 1, 1) := by decide +kernel
theorem dX11_wrong_65 : decode cX11_wrong 65 = .ok (.iaload, 1) := by decide +kernel
theorem dX11_wrong_66 : decode cX11_wrong 66 = .ok (.if_icmp .eq 5, 3) := by decide +kernel
theorem dX11_wrong_69 : decode cX11_wrong 69 = .ok (.iload_n 1, 1) := by decide +kernel
theorem dX11_wrong_70 : decode cX11_wrong 70 = .ok (.ireturn, 1) := by decide +kernel
theorem dX11_wrong_71 : decode cX11_wrong 71 = .ok (.iinc 1 1, 3) := by decide +kernel
theorem dX11_wrong_74 : decode cX11_wrong 74 = .ok (.goto (-68), 3) := by decide +kernel
theorem dX11_wrong_77 : decode cX11_wrong 77 = .ok (.iconst (-1), 1) := by decide +kernel
theorem dX11_wrong_78 : decode cX11_wrong 78 = .ok (.ireturn, 1) := by decide +kernel
set_option maxRecDepth 20000 in
theorem ggX11_told_X11_heirs : GoodIn wsX11_told wsX11_heirs := goodIn_r _ [9, 1, 10, 11, 12, 8, 13, 14, 15, 16, 17, 18, 19, 20, 21, 22, 23, 24, 107, 108, 109, 110, 111, 112, 113, 114, 115, 116, 117, 118, 119, 120, 121, 122, 123, 124] (by decide +kernel) (by decide +kernel)
set_option maxRecDepth 20000 in
theorem gX11_told_X11_heirs : GoodIn wsX11_told (wsV RX11 127 RX11 yX11_heirs wsX11_heirs) := goodIn_app (goodIn_of _ (by decide +kernel)) ggX11_told_X11_heirs
set_option maxRecDepth 20000 in
theorem ggX11_told_X11_coats : GoodIn wsX11_told wsX11_coats := goodIn_r _ [28, 1, 29, 30, 31, 8, 32, 33, 34, 35, 36, 37, 10, 11, 12, 13, 14, 15, 16, 17, 18, 19, 20, 21, 22, 23, 24, 38, 39, 40, 41, 42, 43, 44, 45, 46, 47, 48, 49, 50, 51, 52, 53, 54, 55, 107, 108, 109, 110, 111, 112, 113, 114, 115, 116, 117, 118, 119, 120, 121, 122, 123, 124] (by decide +kernel) (by decide +kernel)
set_option maxRecDepth 20000 in
theorem gX11_told_X11_coats : GoodIn wsX11_told (wsV RX11 131 RX11 yX11_coats wsX11_coats) := goodIn_app (goodIn_of _ (by decide +kernel)) ggX11_told_X11_coats
set_option maxRecDepth 20000 in
theorem ggX11_told_X11_narrows : GoodIn wsX11_told wsX11_narrows := goodIn_r _ [59, 1, 60, 61, 62, 63, 64, 65, 8, 66, 67, 68, 69, 70, 71, 72, 73, 74, 107, 108, 109, 110, 111, 112, 113, 114, 115, 116, 117, 118, 119, 120, 121, 122, 123, 124] (by decide +kernel) (by decide +kernel)
set_option maxRecDepth 20000 in
theorem gX11_told_X11_narrows : GoodIn wsX11_told (wsV RX11 134 RX11 yX11_narrows wsX11_narrows) := goodIn_app (goodIn_of _ (by decide +kernel)) ggX11_told_X11_narrows
set_option maxRecDepth 20000 in
theorem ggX11_told_X11_meant : GoodIn wsX11_told wsX11_meant := goodIn_r _ [78, 1, 29, 30, 31, 8, 32, 33, 34, 35, 36, 37, 10, 11, 12, 13, 14, 15, 16, 17, 18, 19, 20, 21, 22, 23, 24, 38, 39, 40, 41, 42, 43, 44, 45, 46, 47, 79, 80, 81, 82, 83, 84, 85, 86, 87, 88, 89, 90, 107, 108, 109, 110, 111, 112, 113, 114, 115, 116, 117, 118, 119, 120, 121, 122, 123, 124] (by decide +kernel) (by decide +kernel)
set_option maxRecDepth 20000 in
theorem gX11_told_X11_meant : GoodIn wsX11_told (wsV RX11 137 RX11 yX11_meant wsX11_meant) := goodIn_app (goodIn_of _ (by decide +kernel)) ggX11_told_X11_meant
set_option maxRecDepth 20000 in
theorem ggX11_told_X11_likely : GoodIn wsX11_told wsX11_likely := goodIn_r _ [94, 1, 37, 29, 30, 31, 8, 32, 33, 34, 35, 36, 10, 11, 12, 13, 14, 15, 16, 17, 18, 19, 20, 21, 22, 23, 24, 38, 39, 40, 41, 42, 43, 44, 45, 46, 47, 95, 96, 97, 98, 99, 107, 108, 109, 110, 111, 112, 113, 114, 115, 116, 117, 118, 119, 120, 121, 122, 123, 124] (by decide +kernel) (by decide +kernel)
set_option maxRecDepth 20000 in
theorem gX11_told_X11_likely : GoodIn wsX11_told (wsV RX11 141 RX11 yX11_likely wsX11_likely) := goodIn_app (goodIn_of _ (by decide +kernel)) ggX11_told_X11_likely
set_option maxRecDepth 20000 in
theorem ggX11_told_X11_wrong : GoodIn wsX11_told wsX11_wrong := goodIn_r _ [103, 2, 104, 105, 37, 42, 106, 29, 30, 31, 8, 32, 1, 33, 34, 35, 36, 10, 11, 12, 13, 14, 15, 16, 17, 18, 19, 20, 21, 22, 23, 24, 38, 39, 40, 41, 43, 44, 45, 46, 47, 107, 108, 109, 110, 111, 112, 113, 114, 115, 116, 117, 118, 119, 120, 121, 122, 123, 124] (by decide +kernel) (by decide +kernel)
set_option maxRecDepth 20000 in
theorem gX11_told_X11_wrong : GoodIn wsX11_told (wsV RX11 144 RX11 yX11_wrong wsX11_wrong) := goodIn_app (goodIn_of _ (by decide +kernel)) ggX11_told_X11_wrong
theorem dX11_told_0 : decode cX11_told 0 = .ok (.iload_n 1, 1) := by decide +kernel
theorem dX11_told_1 : decode cX11_told 1 = .ok (.tableswitch 139 0 11 #[63, 70, 77, 84, 89, 94, 107, 113, 119, 124, 129, 134], 63) := by decide +kernel
theorem dX11_told_64 : decode cX11_told 64 = .ok (.aload_n 0, 1) := by decide +kernel
theorem dX11_told_65 : decode cX11_told 65 = .ok (.getfield 7, 3) := by decide +kernel
theorem dX11_told_68 : decode cX11_told 68 = .ok (.iconst 0, 1) := by decide +kernel
theorem dX11_told_69 : decode cX11_told 69 = .ok (.iaload, 1) := by decide +kernel
theorem dX11_told_70 : decode cX11_told 70 = .ok (.ireturn, 1) := by decide +kernel
theorem dX11_told_71 : decode cX11_told 71 = .ok (.aload_n 0, 1) := by decide +kernel
theorem dX11_told_72 : decode cX11_told 72 = .ok (.getfield 7, 3) := by decide +kernel
theorem dX11_told_75 : decode cX11_told 75 = .ok (.iconst 1, 1) := by decide +kernel
theorem dX11_told_76 : decode cX11_told 76 = .ok (.iaload, 1) := by decide +kernel
theorem dX11_told_77 : decode cX11_told 77 = .ok (.ireturn, 1) := by decide +kernel
theorem dX11_told_78 : decode cX11_told 78 = .ok (.aload_n 0, 1) := by decide +kernel
theorem dX11_told_79 : decode cX11_told 79 = .ok (.getfield 7, 3) := by decide +kernel
theorem dX11_told_82 : decode cX11_told 82 = .ok (.iconst 2, 1) := by decide +kernel
theorem dX11_told_83 : decode cX11_told 83 = .ok (.iaload, 1) := by decide +kernel
theorem dX11_told_84 : decode cX11_told 84 = .ok (.ireturn, 1) := by decide +kernel
theorem dX11_told_85 : decode cX11_told 85 = .ok (.aload_n 0, 1) := by decide +kernel
theorem dX11_told_86 : decode cX11_told 86 = .ok (.invokevirtual 127, 3) := by decide +kernel
theorem dX11_told_89 : decode cX11_told 89 = .ok (.ireturn, 1) := by decide +kernel
theorem dX11_told_90 : decode cX11_told 90 = .ok (.aload_n 0, 1) := by decide +kernel
theorem dX11_told_91 : decode cX11_told 91 = .ok (.invokevirtual 131, 3) := by decide +kernel
theorem dX11_told_94 : decode cX11_told 94 = .ok (.ireturn, 1) := by decide +kernel
theorem dX11_told_95 : decode cX11_told 95 = .ok (.aload_n 0, 1) := by decide +kernel
theorem dX11_told_96 : decode cX11_told 96 = .ok (.invokevirtual 134, 3) := by decide +kernel
theorem dX11_told_99 : decode cX11_told 99 = .ok (.ifCond .eq 7, 3) := by decide +kernel
theorem dX11_told_102 : decode cX11_told 102 = .ok (.iconst 0, 1) := by decide +kernel
theorem dX11_told_103 : decode cX11_told 103 = .ok (.goto 4, 3) := by decide +kernel
theorem dX11_told_106 : decode cX11_told 106 = .ok (.iconst 1, 1) := by decide +kernel
theorem dX11_told_107 : decode cX11_told 107 = .ok (.ireturn, 1) := by decide +kernel
theorem dX11_told_108 : decode cX11_told 108 = .ok (.aload_n 0, 1) := by decide +kernel
theorem dX11_told_109 : decode cX11_told 109 = .ok (.iconst 1, 1) := by decide +kernel
theorem dX11_told_110 : decode cX11_told 110 = .ok (.invokevirtual 137, 3) := by decide +kernel
theorem dX11_told_113 : decode cX11_told 113 = .ok (.ireturn, 1) := by decide +kernel
theorem dX11_told_114 : decode cX11_told 114 = .ok (.aload_n 0, 1) := by decide +kernel
theorem dX11_told_115 : decode cX11_told 115 = .ok (.iconst 0, 1) := by decide +kernel
theorem dX11_told_116 : decode cX11_told 116 = .ok (.invokevirtual 137, 3) := by decide +kernel
theorem dX11_told_119 : decode cX11_told 119 = .ok (.ireturn, 1) := by decide +kernel
theorem dX11_told_120 : decode cX11_told 120 = .ok (.aload_n 0, 1) := by decide +kernel
theorem dX11_told_121 : decode cX11_told 121 = .ok (.invokevirtual 141, 3) := by decide +kernel
theorem dX11_told_124 : decode cX11_told 124 = .ok (.ireturn, 1) := by decide +kernel
theorem dX11_told_125 : decode cX11_told 125 = .ok (.aload_n 0, 1) := by decide +kernel
theorem dX11_told_126 : decode cX11_told 126 = .ok (.getfield 124, 3) := by decide +kernel
theorem dX11_told_129 : decode cX11_told 129 = .ok (.ireturn, 1) := by decide +kernel
theorem dX11_told_130 : decode cX11_told 130 = .ok (.aload_n 0, 1) := by decide +kernel
theorem dX11_told_131 : decode cX11_told 131 = .ok (.invokevirtual 144, 3) := by decide +kernel
theorem dX11_told_134 : decode cX11_told 134 = .ok (.ireturn, 1) := by decide +kernel
theorem dX11_told_135 : decode cX11_told 135 = .ok (.aload_n 0, 1) := by decide +kernel
theorem dX11_told_136 : decode cX11_told 136 = .ok (.getfield 53, 3) := by decide +kernel
theorem dX11_told_139 : decode cX11_told 139 = .ok (.ireturn, 1) := by decide +kernel
theorem dX11_told_140 : decode cX11_told 140 = .ok (.ldc 147, 2) := by decide +kernel
theorem dX11_told_142 : decode cX11_told 142 = .ok (.ireturn, 1) := by decide +kernel
theorem dX11_children_0 : decode cX11_children 0 = .ok (.iconst 0, 1) := by decide +kernel
theorem dX11_children_1 : decode cX11_children 1 = .ok (.istore_n 2, 1) := by decide +kernel
theorem dX11_children_2 : decode cX11_children 2 = .ok (.iconst 0, 1) := by decide +kernel
theorem dX11_children_3 : decode cX11_children 3 = .ok (.istore_n 3, 1) := by decide +kernel
theorem dX11_children_4 : decode cX11_children 4 = .ok (.iload_n 3, 1) := by decide +kernel
theorem dX11_children_5 : decode cX11_children 5 = .ok (.aload_n 0, 1) := by decide +kernel
theorem dX11_children_6 : decode cX11_children 6 = .ok (.getfield 7, 3) := by decide +kernel
theorem dX11_children_9 : decode cX11_children 9 = .ok (.iconst 0, 1) := by decide +kernel
theorem dX11_children_10 : decode cX11_children 10 = .ok (.iaload, 1) := by decide +kernel
theorem dX11_children_11 : decode cX11_children 11 = .ok (.if_icmp .ge 45, 3) := by decide +kernel
theorem dX11_children_14 : decode cX11_children 14 = .ok (.iload_n 2, 1) := by decide +kernel
theorem dX11_children_15 : decode cX11_children 15 = .ok (.aload_n 0, 1) := by decide +kernel
theorem dX11_children_16 : decode cX11_children 16 = .ok (.getfield 7, 3) := by decide +kernel
theorem dX11_children_19 : decode cX11_children 19 = .ok (.bipush 45, 2) := by decide +kernel
theorem dX11_children_21 : decode cX11_children 21 = .ok (.iload_n 3, 1) := by decide +kernel
theorem dX11_children_22 : decode cX11_children 22 = .ok (.iadd, 1) := by decide +kernel
theorem dX11_children_23 : decode cX11_children 23 = .ok (.iaload, 1) := by decide +kernel
theorem dX11_children_24 : decode cX11_children 24 = .ok (.iload_n 1, 1) := by decide +kernel
theorem dX11_children_25 : decode cX11_children 25 = .ok (.if_icmp .eq 16, 3) := by decide +kernel
theorem dX11_children_28 : decode cX11_children 28 = .ok (.aload_n 0, 1) := by decide +kernel
theorem dX11_children_29 : decode cX11_children 29 = .ok (.getfield 7, 3) := by decide +kernel
theorem dX11_children_32 : decode cX11_children 32 = .ok (.bipush 61, 2) := by decide +kernel
theorem dX11_children_34 : decode cX11_children 34 = .ok (.iload_n 3, 1) := by decide +kernel
theorem dX11_children_35 : decode cX11_children 35 = .ok (.iadd, 1) := by decide +kernel
theorem dX11_children_36 : decode cX11_children 36 = .ok (.iaload, 1) := by decide +kernel
theorem dX11_children_37 : decode cX11_children 37 = .ok (.iload_n 1, 1) := by decide +kernel
theorem dX11_children_38 : decode cX11_children 38 = .ok (.if_icmp .ne 9, 3) := by decide +kernel
theorem dX11_children_41 : decode cX11_children 41 = .ok (.iconst 1, 1) := by decide +kernel
theorem dX11_children_42 : decode cX11_children 42 = .ok (.iload_n 3, 1) := by decide +kernel
theorem dX11_children_43 : decode cX11_children 43 = .ok (.ishl, 1) := by decide +kernel
theorem dX11_children_44 : decode cX11_children 44 = .ok (.goto 4, 3) := by decide +kernel
theorem dX11_children_47 : decode cX11_children 47 = .ok (.iconst 0, 1) := by decide +kernel
theorem dX11_children_48 : decode cX11_children 48 = .ok (.ior, 1) := by decide +kernel
theorem dX11_children_49 : decode cX11_children 49 = .ok (.istore_n 2, 1) := by decide +kernel
theorem dX11_children_50 : decode cX11_children 50 = .ok (.iinc 3 1, 3) := by decide +kernel
theorem dX11_children_53 : decode cX11_children 53 = .ok (.goto (-49), 3) := by decide +kernel
theorem dX11_children_56 : decode cX11_children 56 = .ok (.iload_n 2, 1) := by decide +kernel
theorem dX11_children_57 : decode cX11_children 57 = .ok (.ireturn, 1) := by decide +kernel
set_option maxRecDepth 20000 in
theorem ggX11_narrowed_X11_narrows : GoodIn wsX11_narrowed wsX11_narrows := goodIn_r _ [7, 8, 1, 2, 9, 10, 11, 12, 6, 13, 14, 15, 16, 17, 18, 19, 20, 21, 22, 23, 24, 25, 26, 27, 28, 29, 30, 31, 32, 33, 34, 35, 36, 37, 38, 39] (by decide +kernel) (by decide +kernel)
set_option maxRecDepth 20000 in
theorem gX11_narrowed_X11_narrows : GoodIn wsX11_narrowed (wsV RX11 134 RX11 yX11_narrows wsX11_narrows) := goodIn_app (goodIn_of _ (by decide +kernel)) ggX11_narrowed_X11_narrows
theorem dX11_narrowed_0 : decode cX11_narrowed 0 = .ok (.aload_n 0, 1) := by decide +kernel
theorem dX11_narrowed_1 : decode cX11_narrowed 1 = .ok (.invokevirtual 134, 3) := by decide +kernel
theorem dX11_narrowed_4 : decode cX11_narrowed 4 = .ok (.ifCond .ne 5, 3) := by decide +kernel
theorem dX11_narrowed_7 : decode cX11_narrowed 7 = .ok (.iconst (-1), 1) := by decide +kernel
theorem dX11_narrowed_8 : decode cX11_narrowed 8 = .ok (.ireturn, 1) := by decide +kernel
theorem dX11_narrowed_9 : decode cX11_narrowed 9 = .ok (.iload_n 2, 1) := by decide +kernel
theorem dX11_narrowed_10 : decode cX11_narrowed 10 = .ok (.bipush 14, 2) := by decide +kernel
theorem dX11_narrowed_12 : decode cX11_narrowed 12 = .ok (.if_icmp .ge 7, 3) := by decide +kernel
theorem dX11_narrowed_15 : decode cX11_narrowed 15 = .ok (.iload_n 1, 1) := by decide +kernel
theorem dX11_narrowed_16 : decode cX11_narrowed 16 = .ok (.goto 7, 3) := by decide +kernel
theorem dX11_narrowed_19 : decode cX11_narrowed 19 = .ok (.bipush 16, 2) := by decide +kernel
theorem dX11_narrowed_21 : decode cX11_narrowed 21 = .ok (.iload_n 1, 1) := by decide +kernel
theorem dX11_narrowed_22 : decode cX11_narrowed 22 = .ok (.iadd, 1) := by decide +kernel
theorem dX11_narrowed_23 : decode cX11_narrowed 23 = .ok (.istore_n 3, 1) := by decide +kernel
theorem dX11_narrowed_24 : decode cX11_narrowed 24 = .ok (.iload_n 2, 1) := by decide +kernel
theorem dX11_narrowed_25 : decode cX11_narrowed 25 = .ok (.iconst 2, 1) := by decide +kernel
theorem dX11_narrowed_26 : decode cX11_narrowed 26 = .ok (.irem, 1) := by decide +kernel
theorem dX11_narrowed_27 : decode cX11_narrowed 27 = .ok (.ifCond .ne 12, 3) := by decide +kernel
theorem dX11_narrowed_30 : decode cX11_narrowed 30 = .ok (.aload_n 0, 1) := by decide +kernel
theorem dX11_narrowed_31 : decode cX11_narrowed 31 = .ok (.getfield 38, 3) := by decide +kernel
theorem dX11_narrowed_34 : decode cX11_narrowed 34 = .ok (.iload_n 3, 1) := by decide +kernel
theorem dX11_narrowed_35 : decode cX11_narrowed 35 = .ok (.iaload, 1) := by decide +kernel
theorem dX11_narrowed_36 : decode cX11_narrowed 36 = .ok (.goto 9, 3) := by decide +kernel
theorem dX11_narrowed_39 : decode cX11_narrowed 39 = .ok (.aload_n 0, 1) := by decide +kernel
theorem dX11_narrowed_40 : decode cX11_narrowed 40 = .ok (.getfield 41, 3) := by decide +kernel
theorem dX11_narrowed_43 : decode cX11_narrowed 43 = .ok (.iload_n 3, 1) := by decide +kernel
theorem dX11_narrowed_44 : decode cX11_narrowed 44 = .ok (.iaload, 1) := by decide +kernel
theorem dX11_narrowed_45 : decode cX11_narrowed 45 = .ok (.ireturn, 1) := by decide +kernel
set_option maxRecDepth 20000 in
theorem ggX11_person_X11_isOne : GoodIn wsX11_person wsX11_isOne := goodIn_r _ [11, 2, 12, 13, 10, 14, 81, 82, 83, 84, 85, 86, 87, 88, 89, 90, 91, 92, 93, 94, 95, 96, 97, 98] (by decide +kernel) (by decide +kernel)
set_option maxRecDepth 20000 in
theorem gX11_person_X11_isOne : GoodIn wsX11_person (wsV RX11 65 RX11 yX11_isOne wsX11_isOne) := goodIn_app (goodIn_of _ (by decide +kernel)) ggX11_person_X11_isOne
set_option maxRecDepth 20000 in
theorem ggX11_person_X11_lays : GoodIn wsX11_person wsX11_lays := goodIn_r _ [18, 2, 19, 20, 21, 10, 22, 3, 23, 24, 25, 26, 27, 28, 29, 30, 7, 8, 9, 11, 12, 13, 14, 31, 32, 33, 34, 35, 36, 37, 38, 39, 40, 81, 82, 83, 84, 85, 86, 87, 88, 89, 90, 91, 92, 93, 94, 95, 96, 97, 98] (by decide +kernel) (by decide +kernel)
set_option maxRecDepth 20000 in
theorem gX11_person_X11_lays : GoodIn wsX11_person (wsV RX11 90 RX11 yX11_lays wsX11_lays) := goodIn_app (goodIn_of _ (by decide +kernel)) ggX11_person_X11_lays
set_option maxRecDepth 20000 in
theorem ggX11_person_X11_same : GoodIn wsX11_person wsX11_same := goodIn_r _ [44, 2, 45, 46, 47, 10, 48, 3, 35, 81, 82, 83, 84, 85, 86, 87, 88, 89, 90, 91, 92, 93, 94, 95, 96, 97, 98] (by decide +kernel) (by decide +kernel)
set_option maxRecDepth 20000 in
theorem gX11_person_X11_same : GoodIn wsX11_person (wsV RX11 93 RX11 yX11_same wsX11_same) := goodIn_app (goodIn_of _ (by decide +kernel)) ggX11_person_X11_same
set_option maxRecDepth 20000 in
theorem ggX11_person_X11_like : GoodIn wsX11_person wsX11_like := goodIn_r _ [52, 3, 53, 2, 35, 81, 82, 83, 84, 85, 86, 87, 88, 89, 90, 91, 92, 93, 94, 95, 96, 97, 98] (by decide +kernel) (by decide +kernel)
set_option maxRecDepth 20000 in
theorem gX11_person_X11_like : GoodIn wsX11_person (wsV RX11 121 RX11 yX11_like wsX11_like) := goodIn_app (goodIn_of _ (by decide +kernel)) ggX11_person_X11_like
set_option maxRecDepth 20000 in
theorem ggX11_person_X11_children : GoodIn wsX11_person wsX11_children := goodIn_r _ [57, 2, 81, 82, 83, 84, 85, 86, 87, 88, 89, 90, 91, 92, 93, 94, 95, 96, 97, 98] (by decide +kernel) (by decide +kernel)
set_option maxRecDepth 20000 in
theorem gX11_person_X11_children : GoodIn wsX11_person (wsV RX11 149 RX11 yX11_children wsX11_children) := goodIn_app (goodIn_of _ (by decide +kernel)) ggX11_person_X11_children
set_option maxRecDepth 20000 in
theorem ggX11_person_X11_in : GoodIn wsX11_person wsX11_in := goodIn_r _ [14] (by decide +kernel) (by decide +kernel)
set_option maxRecDepth 20000 in
theorem gX11_person_X11_in : GoodIn wsX11_person (va_wsS RX11 61 yX11_in wsX11_in) := goodIn_app (goodIn_of _ (by decide +kernel)) ggX11_person_X11_in
set_option maxRecDepth 20000 in
theorem ggX11_person_X11_narrowed : GoodIn wsX11_person wsX11_narrowed := goodIn_r _ [61, 62, 63, 64, 65, 66, 10, 67, 2, 68, 69, 70, 71, 72, 73, 74, 75, 76, 77, 78, 79, 80, 81, 82, 83, 84, 85, 86, 87, 88, 89, 90, 91, 92, 93, 94, 95, 96, 97, 98] (by decide +kernel) (by decide +kernel)
set_option maxRecDepth 20000 in
theorem gX11_person_X11_narrowed : GoodIn wsX11_person (wsV RX11 156 RX11 yX11_narrowed wsX11_narrowed) := goodIn_app (goodIn_of _ (by decide +kernel)) ggX11_person_X11_narrowed
theorem dX11_person_0 : decode cX11_person 0 = .ok (.aload_n 0, 1) := by decide +kernel
theorem dX11_person_1 : decode cX11_person 1 = .ok (.iload_n 1, 1) := by decide +kernel
theorem dX11_person_2 : decode cX11_person 2 = .ok (.invokevirtual 65, 3) := by decide +kernel
theorem dX11_person_5 : decode cX11_person 5 = .ok (.ifCond .ne 6, 3) := by decide +kernel
theorem dX11_person_8 : decode cX11_person 8 = .ok (.ldc 148, 2) := by decide +kernel
theorem dX11_person_10 : decode cX11_person 10 = .ok (.ireturn, 1) := by decide +kernel
theorem dX11_person_11 : decode cX11_person 11 = .ok (.aload_n 0, 1) := by decide +kernel
theorem dX11_person_12 : decode cX11_person 12 = .ok (.invokevirtual 90, 3) := by decide +kernel
theorem dX11_person_15 : decode cX11_person 15 = .ok (.iload_n 2, 1) := by decide +kernel
theorem dX11_person_16 : decode cX11_person 16 = .ok (.tableswitch 181 0 11 #[64, 74, 84, 94, 104, 111, 117, 123, 129, 141, 155, 167], 64) := by decide +kernel
theorem dX11_person_80 : decode cX11_person 80 = .ok (.aload_n 0, 1) := by decide +kernel
theorem dX11_person_81 : decode cX11_person 81 = .ok (.getfield 7, 3) := by decide +kernel
theorem dX11_person_84 : decode cX11_person 84 = .ok (.bipush 13, 2) := by decide +kernel
theorem dX11_person_86 : decode cX11_person 86 = .ok (.iload_n 1, 1) := by decide +kernel
theorem dX11_person_87 : decode cX11_person 87 = .ok (.iadd, 1) := by decide +kernel
theorem dX11_person_88 : decode cX11_person 88 = .ok (.iaload, 1) := by decide +kernel
theorem dX11_person_89 : decode cX11_person 89 = .ok (.ireturn, 1) := by decide +kernel
theorem dX11_person_90 : decode cX11_person 90 = .ok (.aload_n 0, 1) := by decide +kernel
theorem dX11_person_91 : decode cX11_person 91 = .ok (.getfield 7, 3) := by decide +kernel
theorem dX11_person_94 : decode cX11_person 94 = .ok (.bipush 29, 2) := by decide +kernel
theorem dX11_person_96 : decode cX11_person 96 = .ok (.iload_n 1, 1) := by decide +kernel
theorem dX11_person_97 : decode cX11_person 97 = .ok (.iadd, 1) := by decide +kernel
theorem dX11_person_98 : decode cX11_person 98 = .ok (.iaload, 1) := by decide +kernel
theorem dX11_person_99 : decode cX11_person 99 = .ok (.ireturn, 1) := by decide +kernel
theorem dX11_person_100 : decode cX11_person 100 = .ok (.aload_n 0, 1) := by decide +kernel
theorem dX11_person_101 : decode cX11_person 101 = .ok (.getfield 7, 3) := by decide +kernel
theorem dX11_person_104 : decode cX11_person 104 = .ok (.bipush 45, 2) := by decide +kernel
theorem dX11_person_106 : decode cX11_person 106 = .ok (.iload_n 1, 1) := by decide +kernel
theorem dX11_person_107 : decode cX11_person 107 = .ok (.iadd, 1) := by decide +kernel
theorem dX11_person_108 : decode cX11_person 108 = .ok (.iaload, 1) := by decide +kernel
theorem dX11_person_109 : decode cX11_person 109 = .ok (.ireturn, 1) := by decide +kernel
theorem dX11_person_110 : decode cX11_person 110 = .ok (.aload_n 0, 1) := by decide +kernel
theorem dX11_person_111 : decode cX11_person 111 = .ok (.getfield 7, 3) := by decide +kernel
theorem dX11_person_114 : decode cX11_person 114 = .ok (.bipush 61, 2) := by decide +kernel
theorem dX11_person_116 : decode cX11_person 116 = .ok (.iload_n 1, 1) := by decide +kernel
theorem dX11_person_117 : decode cX11_person 117 = .ok (.iadd, 1) := by decide +kernel
theorem dX11_person_118 : decode cX11_person 118 = .ok (.iaload, 1) := by decide +kernel
theorem dX11_person_119 : decode cX11_person 119 = .ok (.ireturn, 1) := by decide +kernel
theorem dX11_person_120 : decode cX11_person 120 = .ok (.aload_n 0, 1) := by decide +kernel
theorem dX11_person_121 : decode cX11_person 121 = .ok (.getfield 29, 3) := by decide +kernel
theorem dX11_person_124 : decode cX11_person 124 = .ok (.iload_n 1, 1) := by decide +kernel
theorem dX11_person_125 : decode cX11_person 125 = .ok (.iaload, 1) := by decide +kernel
theorem dX11_person_126 : decode cX11_person 126 = .ok (.ireturn, 1) := by decide +kernel
theorem dX11_person_127 : decode cX11_person 127 = .ok (.aload_n 0, 1) := by decide +kernel
theorem dX11_person_128 : decode cX11_person 128 = .ok (.iload_n 1, 1) := by decide +kernel
theorem dX11_person_129 : decode cX11_person 129 = .ok (.invokevirtual 93, 3) := by decide +kernel
theorem dX11_person_132 : decode cX11_person 132 = .ok (.ireturn, 1) := by decide +kernel
theorem dX11_person_133 : decode cX11_person 133 = .ok (.aload_n 0, 1) := by decide +kernel
theorem dX11_person_134 : decode cX11_person 134 = .ok (.iload_n 1, 1) := by decide +kernel
theorem dX11_person_135 : decode cX11_person 135 = .ok (.invokevirtual 121, 3) := by decide +kernel
theorem dX11_person_138 : decode cX11_person 138 = .ok (.ireturn, 1) := by decide +kernel
theorem dX11_person_139 : decode cX11_person 139 = .ok (.aload_n 0, 1) := by decide +kernel
theorem dX11_person_140 : decode cX11_person 140 = .ok (.iload_n 1, 1) := by decide +kernel
theorem dX11_person_141 : decode cX11_person 141 = .ok (.invokevirtual 149, 3) := by decide +kernel
theorem dX11_person_144 : decode cX11_person 144 = .ok (.ireturn, 1) := by decide +kernel
theorem dX11_person_145 : decode cX11_person 145 = .ok (.aload_n 0, 1) := by decide +kernel
theorem dX11_person_146 : decode cX11_person 146 = .ok (.getfield 7, 3) := by decide +kernel
theorem dX11_person_149 : decode cX11_person 149 = .ok (.bipush 77, 2) := by decide +kernel
theorem dX11_person_151 : decode cX11_person 151 = .ok (.iconst 2, 1) := by decide +kernel
theorem dX11_person_152 : decode cX11_person 152 = .ok (.iload_n 1, 1) := by decide +kernel
theorem dX11_person_153 : decode cX11_person 153 = .ok (.imul, 1) := by decide +kernel
theorem dX11_person_154 : decode cX11_person 154 = .ok (.iadd, 1) := by decide +kernel
theorem dX11_person_155 : decode cX11_person 155 = .ok (.iaload, 1) := by decide +kernel
theorem dX11_person_156 : decode cX11_person 156 = .ok (.ireturn, 1) := by decide +kernel
theorem dX11_person_157 : decode cX11_person 157 = .ok (.aload_n 0, 1) := by decide +kernel
theorem dX11_person_158 : decode cX11_person 158 = .ok (.getfield 7, 3) := by decide +kernel
theorem dX11_person_161 : decode cX11_person 161 = .ok (.bipush 77, 2) := by decide +kernel
theorem dX11_person_163 : decode cX11_person 163 = .ok (.iconst 2, 1) := by decide +kernel
theorem dX11_person_164 : decode cX11_person 164 = .ok (.iload_n 1, 1) := by decide +kernel
theorem dX11_person_165 : decode cX11_person 165 = .ok (.imul, 1) := by decide +kernel
theorem dX11_person_166 : decode cX11_person 166 = .ok (.iadd, 1) := by decide +kernel
theorem dX11_person_167 : decode cX11_person 167 = .ok (.iconst 1, 1) := by decide +kernel
theorem dX11_person_168 : decode cX11_person 168 = .ok (.iadd, 1) := by decide +kernel
theorem dX11_person_169 : decode cX11_person 169 = .ok (.iaload, 1) := by decide +kernel
theorem dX11_person_170 : decode cX11_person 170 = .ok (.ireturn, 1) := by decide +kernel
theorem dX11_person_171 : decode cX11_person 171 = .ok (.aload_n 0, 1) := by decide +kernel
theorem dX11_person_172 : decode cX11_person 172 = .ok (.getfield 7, 3) := by decide +kernel
theorem dX11_person_175 : decode cX11_person 175 = .ok (.bipush 109, 2) := by decide +kernel
theorem dX11_person_177 : decode cX11_person 177 = .ok (.iconst 2, 1) := by decide +kernel
theorem dX11_person_178 : decode cX11_person 178 = .ok (.iload_n 1, 1) := by decide +kernel
theorem dX11_person_179 : decode cX11_person 179 = .ok (.imul, 1) := by decide +kernel
theorem dX11_person_180 : decode cX11_person 180 = .ok (.iadd, 1) := by decide +kernel
theorem dX11_person_181 : decode cX11_person 181 = .ok (.iaload, 1) := by decide +kernel
theorem dX11_person_182 : decode cX11_person 182 = .ok (.ireturn, 1) := by decide +kernel
theorem dX11_person_183 : decode cX11_person 183 = .ok (.aload_n 0, 1) := by decide +kernel
theorem dX11_person_184 : decode cX11_person 184 = .ok (.getfield 7, 3) := by decide +kernel
theorem dX11_person_187 : decode cX11_person 187 = .ok (.bipush 109, 2) := by decide +kernel
theorem dX11_person_189 : decode cX11_person 189 = .ok (.iconst 2, 1) := by decide +kernel
theorem dX11_person_190 : decode cX11_person 190 = .ok (.iload_n 1, 1) := by decide +kernel
theorem dX11_person_191 : decode cX11_person 191 = .ok (.imul, 1) := by decide +kernel
theorem dX11_person_192 : decode cX11_person 192 = .ok (.iadd, 1) := by decide +kernel
theorem dX11_person_193 : decode cX11_person 193 = .ok (.iconst 1, 1) := by decide +kernel
theorem dX11_person_194 : decode cX11_person 194 = .ok (.iadd, 1) := by decide +kernel
theorem dX11_person_195 : decode cX11_person 195 = .ok (.iaload, 1) := by decide +kernel
theorem dX11_person_196 : decode cX11_person 196 = .ok (.ireturn, 1) := by decide +kernel
theorem dX11_person_197 : decode cX11_person 197 = .ok (.iload_n 2, 1) := by decide +kernel
theorem dX11_person_198 : decode cX11_person 198 = .ok (.i2l, 1) := by decide +kernel
theorem dX11_person_199 : decode cX11_person 199 = .ok (.ldc2_w 152, 3) := by decide +kernel
theorem dX11_person_202 : decode cX11_person 202 = .ok (.ldc2_w 154, 3) := by decide +kernel
theorem dX11_person_205 : decode cX11_person 205 = .ok (.invokestatic 61, 3) := by decide +kernel
theorem dX11_person_208 : decode cX11_person 208 = .ok (.ifCond .eq 12, 3) := by decide +kernel
theorem dX11_person_211 : decode cX11_person 211 = .ok (.aload_n 0, 1) := by decide +kernel
theorem dX11_person_212 : decode cX11_person 212 = .ok (.iload_n 1, 1) := by decide +kernel
theorem dX11_person_213 : decode cX11_person 213 = .ok (.iload_n 2, 1) := by decide +kernel
theorem dX11_person_214 : decode cX11_person 214 = .ok (.invokevirtual 156, 3) := by decide +kernel
theorem dX11_person_217 : decode cX11_person 217 = .ok (.goto 5, 3) := by decide +kernel
theorem dX11_person_220 : decode cX11_person 220 = .ok (.ldc 147, 2) := by decide +kernel
theorem dX11_person_222 : decode cX11_person 222 = .ok (.ireturn, 1) := by decide +kernel
set_option maxRecDepth 20000 in
theorem ggX11_quarter_X11_isOne : GoodIn wsX11_quarter wsX11_isOne := goodIn_r _ [10, 11, 12, 13, 9, 14, 39, 40, 41, 42, 43, 44, 45, 46, 47, 48, 49, 50, 51, 52, 53, 54, 55, 56] (by decide +kernel) (by decide +kernel)
set_option maxRecDepth 20000 in
theorem gX11_quarter_X11_isOne : GoodIn wsX11_quarter (wsV RX11 65 RX11 yX11_isOne wsX11_isOne) := goodIn_app (goodIn_of _ (by decide +kernel)) ggX11_quarter_X11_isOne
set_option maxRecDepth 20000 in
theorem ggX11_quarter_X11_in : GoodIn wsX11_quarter wsX11_in := goodIn_r _ [14] (by decide +kernel) (by decide +kernel)
set_option maxRecDepth 20000 in
theorem gX11_quarter_X11_in : GoodIn wsX11_quarter (va_wsS RX11 61 yX11_in wsX11_in) := goodIn_app (goodIn_of _ (by decide +kernel)) ggX11_quarter_X11_in
set_option maxRecDepth 20000 in
theorem ggX11_quarter_X11_lays : GoodIn wsX11_quarter wsX11_lays := goodIn_r _ [18, 11, 19, 20, 21, 9, 22, 3, 23, 24, 25, 26, 27, 28, 29, 30, 6, 7, 8, 10, 12, 13, 14, 31, 32, 33, 34, 4, 5, 35, 36, 37, 38, 39, 40, 41, 42, 43, 44, 45, 46, 47, 48, 49, 50, 51, 52, 53, 54, 55, 56] (by decide +kernel) (by decide +kernel)
set_option maxRecDepth 20000 in
theorem gX11_quarter_X11_lays : GoodIn wsX11_quarter (wsV RX11 90 RX11 yX11_lays wsX11_lays) := goodIn_app (goodIn_of _ (by decide +kernel)) ggX11_quarter_X11_lays
theorem dX11_quarter_0 : decode cX11_quarter 0 = .ok (.aload_n 0, 1) := by decide +kernel
theorem dX11_quarter_1 : decode cX11_quarter 1 = .ok (.iload_n 1, 1) := by decide +kernel
theorem dX11_quarter_2 : decode cX11_quarter 2 = .ok (.invokevirtual 65, 3) := by decide +kernel
theorem dX11_quarter_5 : decode cX11_quarter 5 = .ok (.ifCond .ne 6, 3) := by decide +kernel
theorem dX11_quarter_8 : decode cX11_quarter 8 = .ok (.ldc 148, 2) := by decide +kernel
theorem dX11_quarter_10 : decode cX11_quarter 10 = .ok (.ireturn, 1) := by decide +kernel
theorem dX11_quarter_11 : decode cX11_quarter 11 = .ok (.iload_n 3, 1) := by decide +kernel
theorem dX11_quarter_12 : decode cX11_quarter 12 = .ok (.i2l, 1) := by decide +kernel
theorem dX11_quarter_13 : decode cX11_quarter 13 = .ok (.lconst 0, 1) := by decide +kernel
theorem dX11_quarter_14 : decode cX11_quarter 14 = .ok (.lconst 1, 1) := by decide +kernel
theorem dX11_quarter_15 : decode cX11_quarter 15 = .ok (.invokestatic 61, 3) := by decide +kernel
theorem dX11_quarter_18 : decode cX11_quarter 18 = .ok (.ifCond .ne 6, 3) := by decide +kernel
theorem dX11_quarter_21 : decode cX11_quarter 21 = .ok (.ldc 147, 2) := by decide +kernel
theorem dX11_quarter_23 : decode cX11_quarter 23 = .ok (.ireturn, 1) := by decide +kernel
theorem dX11_quarter_24 : decode cX11_quarter 24 = .ok (.aload_n 0, 1) := by decide +kernel
theorem dX11_quarter_25 : decode cX11_quarter 25 = .ok (.invokevirtual 90, 3) := by decide +kernel
theorem dX11_quarter_28 : decode cX11_quarter 28 = .ok (.iload_n 2, 1) := by decide +kernel
theorem dX11_quarter_29 : decode cX11_quarter 29 = .ok (.i2l, 1) := by decide +kernel
theorem dX11_quarter_30 : decode cX11_quarter 30 = .ok (.lconst 0, 1) := by decide +kernel
theorem dX11_quarter_31 : decode cX11_quarter 31 = .ok (.aload_n 0, 1) := by decide +kernel
theorem dX11_quarter_32 : decode cX11_quarter 32 = .ok (.getfield 29, 3) := by decide +kernel
theorem dX11_quarter_35 : decode cX11_quarter 35 = .ok (.iload_n 1, 1) := by decide +kernel
theorem dX11_quarter_36 : decode cX11_quarter 36 = .ok (.iaload, 1) := by decide +kernel
theorem dX11_quarter_37 : decode cX11_quarter 37 = .ok (.iconst 1, 1) := by decide +kernel
theorem dX11_quarter_38 : decode cX11_quarter 38 = .ok (.isub, 1) := by decide +kernel
theorem dX11_quarter_39 : decode cX11_quarter 39 = .ok (.i2l, 1) := by decide +kernel
theorem dX11_quarter_40 : decode cX11_quarter 40 = .ok (.invokestatic 61, 3) := by decide +kernel
theorem dX11_quarter_43 : decode cX11_quarter 43 = .ok (.ifCond .ne 7, 3) := by decide +kernel
theorem dX11_quarter_46 : decode cX11_quarter 46 = .ok (.iconst (-1), 1) := by decide +kernel
theorem dX11_quarter_47 : decode cX11_quarter 47 = .ok (.goto 32, 3) := by decide +kernel
theorem dX11_quarter_50 : decode cX11_quarter 50 = .ok (.iload_n 3, 1) := by decide +kernel
theorem dX11_quarter_51 : decode cX11_quarter 51 = .ok (.ifCond .ne 17, 3) := by decide +kernel
theorem dX11_quarter_54 : decode cX11_quarter 54 = .ok (.aload_n 0, 1) := by decide +kernel
theorem dX11_quarter_55 : decode cX11_quarter 55 = .ok (.getfield 32, 3) := by decide +kernel
theorem dX11_quarter_58 : decode cX11_quarter 58 = .ok (.bipush 10, 2) := by decide +kernel
theorem dX11_quarter_60 : decode cX11_quarter 60 = .ok (.iload_n 1, 1) := by decide +kernel
theorem dX11_quarter_61 : decode cX11_quarter 61 = .ok (.imul, 1) := by decide +kernel
theorem dX11_quarter_62 : decode cX11_quarter 62 = .ok (.iload_n 2, 1) := by decide +kernel
theorem dX11_quarter_63 : decode cX11_quarter 63 = .ok (.iadd, 1) := by decide +kernel
theorem dX11_quarter_64 : decode cX11_quarter 64 = .ok (.iaload, 1) := by decide +kernel
theorem dX11_quarter_65 : decode cX11_quarter 65 = .ok (.goto 14, 3) := by decide +kernel
theorem dX11_quarter_68 : decode cX11_quarter 68 = .ok (.aload_n 0, 1) := by decide +kernel
theorem dX11_quarter_69 : decode cX11_quarter 69 = .ok (.getfield 35, 3) := by decide +kernel
theorem dX11_quarter_72 : decode cX11_quarter 72 = .ok (.bipush 10, 2) := by decide +kernel
theorem dX11_quarter_74 : decode cX11_quarter 74 = .ok (.iload_n 1, 1) := by decide +kernel
theorem dX11_quarter_75 : decode cX11_quarter 75 = .ok (.imul, 1) := by decide +kernel
theorem dX11_quarter_76 : decode cX11_quarter 76 = .ok (.iload_n 2, 1) := by decide +kernel
theorem dX11_quarter_77 : decode cX11_quarter 77 = .ok (.iadd, 1) := by decide +kernel
theorem dX11_quarter_78 : decode cX11_quarter 78 = .ok (.iaload, 1) := by decide +kernel
theorem dX11_quarter_79 : decode cX11_quarter 79 = .ok (.ireturn, 1) := by decide +kernel
theorem dX11_steps_0 : decode cX11_steps 0 = .ok (.iconst 0, 1) := by decide +kernel
theorem dX11_steps_1 : decode cX11_steps 1 = .ok (.istore_n 3, 1) := by decide +kernel
theorem dX11_steps_2 : decode cX11_steps 2 = .ok (.iload_n 3, 1) := by decide +kernel
theorem dX11_steps_3 : decode cX11_steps 3 = .ok (.bipush 16, 2) := by decide +kernel
theorem dX11_steps_5 : decode cX11_steps 5 = .ok (.if_icmp .ge 22, 3) := by decide +kernel
theorem dX11_steps_8 : decode cX11_steps 8 = .ok (.aload_n 2, 1) := by decide +kernel
theorem dX11_steps_9 : decode cX11_steps 9 = .ok (.iload_n 3, 1) := by decide +kernel
theorem dX11_steps_10 : decode cX11_steps 10 = .ok (.iload_n 3, 1) := by decide +kernel
theorem dX11_steps_11 : decode cX11_steps 11 = .ok (.iload_n 1, 1) := by decide +kernel
theorem dX11_steps_12 : decode cX11_steps 12 = .ok (.if_icmp .ne 7, 3) := by decide +kernel
theorem dX11_steps_15 : decode cX11_steps 15 = .ok (.iconst 0, 1) := by decide +kernel
theorem dX11_steps_16 : decode cX11_steps 16 = .ok (.goto 4, 3) := by decide +kernel
theorem dX11_steps_19 : decode cX11_steps 19 = .ok (.iconst (-1), 1) := by decide +kernel
theorem dX11_steps_20 : decode cX11_steps 20 = .ok (.iastore, 1) := by decide +kernel
theorem dX11_steps_21 : decode cX11_steps 21 = .ok (.iinc 3 1, 3) := by decide +kernel
theorem dX11_steps_24 : decode cX11_steps 24 = .ok (.goto (-22), 3) := by decide +kernel
theorem dX11_steps_27 : decode cX11_steps 27 = .ok (.iload_n 1, 1) := by decide +kernel
theorem dX11_steps_28 : decode cX11_steps 28 = .ok (.istore_n 3, 1) := by decide +kernel
theorem dX11_steps_29 : decode cX11_steps 29 = .ok (.iload_n 3, 1) := by decide +kernel
theorem dX11_steps_30 : decode cX11_steps 30 = .ok (.ifCond .lt 112, 3) := by decide +kernel
theorem dX11_steps_33 : decode cX11_steps 33 = .ok (.iconst 0, 1) := by decide +kernel
theorem dX11_steps_34 : decode cX11_steps 34 = .ok (.istore 4, 2) := by decide +kernel
theorem dX11_steps_36 : decode cX11_steps 36 = .ok (.iload 4, 2) := by decide +kernel
theorem dX11_steps_38 : decode cX11_steps 38 = .ok (.iconst 2, 1) := by decide +kernel
theorem dX11_steps_39 : decode cX11_steps 39 = .ok (.if_icmp .ge 97, 3) := by decide +kernel
theorem dX11_steps_42 : decode cX11_steps 42 = .ok (.aload_n 0, 1) := by decide +kernel
theorem dX11_steps_43 : decode cX11_steps 43 = .ok (.getfield 7, 3) := by decide +kernel
theorem dX11_steps_46 : decode cX11_steps 46 = .ok (.iload 4, 2) := by decide +kernel
theorem dX11_steps_48 : decode cX11_steps 48 = .ok (.ifCond .ne 8, 3) := by decide +kernel
theorem dX11_steps_51 : decode cX11_steps 51 = .ok (.bipush 45, 2) := by decide +kernel
theorem dX11_steps_53 : decode cX11_steps 53 = .ok (.goto 5, 3) := by decide +kernel
theorem dX11_steps_56 : decode cX11_steps 56 = .ok (.bipush 61, 2) := by decide +kernel
theorem dX11_steps_58 : decode cX11_steps 58 = .ok (.iload_n 3, 1) := by decide +kernel
theorem dX11_steps_59 : decode cX11_steps 59 = .ok (.iadd, 1) := by decide +kernel
theorem dX11_steps_60 : decode cX11_steps 60 = .ok (.iaload, 1) := by decide +kernel
theorem dX11_steps_61 : decode cX11_steps 61 = .ok (.istore 5, 2) := by decide +kernel
theorem dX11_steps_63 : decode cX11_steps 63 = .ok (.aload_n 2, 1) := by decide +kernel
theorem dX11_steps_64 : decode cX11_steps 64 = .ok (.iload_n 3, 1) := by decide +kernel
theorem dX11_steps_65 : decode cX11_steps 65 = .ok (.iaload, 1) := by decide +kernel
theorem dX11_steps_66 : decode cX11_steps 66 = .ok (.ifCond .lt 32, 3) := by decide +kernel
theorem dX11_steps_69 : decode cX11_steps 69 = .ok (.iload 5, 2) := by decide +kernel
theorem dX11_steps_71 : decode cX11_steps 71 = .ok (.iconst (-1), 1) := by decide +kernel
theorem dX11_steps_72 : decode cX11_steps 72 = .ok (.if_icmp .eq 26, 3) := by decide +kernel
theorem dX11_steps_75 : decode cX11_steps 75 = .ok (.aload_n 2, 1) := by decide +kernel
theorem dX11_steps_76 : decode cX11_steps 76 = .ok (.iload 5, 2) := by decide +kernel
theorem dX11_steps_78 : decode cX11_steps 78 = .ok (.iaload, 1) := by decide +kernel
theorem dX11_steps_79 : decode cX11_steps 79 = .ok (.ifCond .lt 15, 3) := by decide +kernel
theorem dX11_steps_82 : decode cX11_steps 82 = .ok (.aload_n 2, 1) := by decide +kernel
theorem dX11_steps_83 : decode cX11_steps 83 = .ok (.iload_n 3, 1) := by decide +kernel
theorem dX11_steps_84 : decode cX11_steps 84 = .ok (.iaload, 1) := by decide +kernel
theorem dX11_steps_85 : decode cX11_steps 85 = .ok (.iconst 1, 1) := by decide +kernel
theorem dX11_steps_86 : decode cX11_steps 86 = .ok (.iadd, 1) := by decide +kernel
theorem dX11_steps_87 : decode cX11_steps 87 = .ok (.aload_n 2, 1) := by decide +kernel
theorem dX11_steps_88 : decode cX11_steps 88 = .ok (.iload 5, 2) := by decide +kernel
theorem dX11_steps_90 : decode cX11_steps 90 = .ok (.iaload, 1) := by decide +kernel
theorem dX11_steps_91 : decode cX11_steps 91 = .ok (.if_icmp .ge 7, 3) := by decide +kernel
theorem dX11_steps_94 : decode cX11_steps 94 = .ok (.iconst 1, 1) := by decide +kernel
theorem dX11_steps_95 : decode cX11_steps 95 = .ok (.goto 4, 3) := by decide +kernel
theorem dX11_steps_98 : decode cX11_steps 98 = .ok (.iconst 0, 1) := by decide +kernel
theorem dX11_steps_99 : decode cX11_steps 99 = .ok (.istore 6, 2) := by decide +kernel
theorem dX11_steps_101 : decode cX11_steps 101 = .ok (.aload_n 2, 1) := by decide +kernel
theorem dX11_steps_102 : decode cX11_steps 102 = .ok (.iload 6, 2) := by decide +kernel
theorem dX11_steps_104 : decode cX11_steps 104 = .ok (.ifCond .eq 8, 3) := by decide +kernel
theorem dX11_steps_107 : decode cX11_steps 107 = .ok (.iload 5, 2) := by decide +kernel
theorem dX11_steps_109 : decode cX11_steps 109 = .ok (.goto 4, 3) := by decide +kernel
theorem dX11_steps_112 : decode cX11_steps 112 = .ok (.iload_n 3, 1) := by decide +kernel
theorem dX11_steps_113 : decode cX11_steps 113 = .ok (.iload 6, 2) := by decide +kernel
theorem dX11_steps_115 : decode cX11_steps 115 = .ok (.ifCond .eq 11, 3) := by decide +kernel
theorem dX11_steps_118 : decode cX11_steps 118 = .ok (.aload_n 2, 1) := by decide +kernel
theorem dX11_steps_119 : decode cX11_steps 119 = .ok (.iload_n 3, 1) := by decide +kernel
theorem dX11_steps_120 : decode cX11_steps 120 = .ok (.iaload, 1) := by decide +kernel
theorem dX11_steps_121 : decode cX11_steps 121 = .ok (.iconst 1, 1) := by decide +kernel
theorem dX11_steps_122 : decode cX11_steps 122 = .ok (.iadd, 1) := by decide +kernel
theorem dX11_steps_123 : decode cX11_steps 123 = .ok (.goto 6, 3) := by decide +kernel
theorem dX11_steps_126 : decode cX11_steps 126 = .ok (.aload_n 2, 1) := by decide +kernel
theorem dX11_steps_127 : decode cX11_steps 127 = .ok (.iload_n 3, 1) := by decide +kernel
theorem dX11_steps_128 : decode cX11_steps 128 = .ok (.iaload, 1) := by decide +kernel
theorem dX11_steps_129 : decode cX11_steps 129 = .ok (.iastore, 1) := by decide +kernel
theorem dX11_steps_130 : decode cX11_steps 130 = .ok (.iinc 4 1, 3) := by decide +kernel
theorem dX11_steps_133 : decode cX11_steps 133 = .ok (.goto (-97), 3) := by decide +kernel
theorem dX11_steps_136 : decode cX11_steps 136 = .ok (.iinc 3 (-1), 3) := by decide +kernel
theorem dX11_steps_139 : decode cX11_steps 139 = .ok (.goto (-110), 3) := by decide +kernel
theorem dX11_steps_142 : decode cX11_steps 142 = .ok (.return_, 1) := by decide +kernel
set_option maxRecDepth 20000 in
theorem ggX11_kin_X11_isOne : GoodIn wsX11_kin wsX11_isOne := goodIn_r _ [10, 5, 11, 12, 9, 13, 18, 19, 20, 21, 22, 23, 24, 25, 26, 27, 28, 29, 30, 31, 32, 33, 34, 35] (by decide +kernel) (by decide +kernel)
set_option maxRecDepth 20000 in
theorem gX11_kin_X11_isOne : GoodIn wsX11_kin (wsV RX11 65 RX11 yX11_isOne wsX11_isOne) := goodIn_app (goodIn_of _ (by decide +kernel)) ggX11_kin_X11_isOne
set_option maxRecDepth 20000 in
theorem ggX11_kin_X11_in : GoodIn wsX11_kin wsX11_in := goodIn_r _ [13] (by decide +kernel) (by decide +kernel)
set_option maxRecDepth 20000 in
theorem gX11_kin_X11_in : GoodIn wsX11_kin (va_wsS RX11 61 yX11_in wsX11_in) := goodIn_app (goodIn_of _ (by decide +kernel)) ggX11_kin_X11_in
set_option maxRecDepth 20000 in
theorem ggX11_kin_X11_steps : GoodIn wsX11_kin wsX11_steps := goodIn_r _ [17, 5, 18, 19, 20, 21, 22, 23, 24, 25, 26, 27, 28, 29, 30, 31, 32, 33, 34, 35] (by decide +kernel) (by decide +kernel)
set_option maxRecDepth 20000 in
theorem gX11_kin_X11_steps : GoodIn wsX11_kin (wsV RX11 160 RX11 yX11_steps wsX11_steps) := goodIn_app (goodIn_of _ (by decide +kernel)) ggX11_kin_X11_steps
end
section
theorem dX11_kin_0 : decode cX11_kin 0 = .ok (.aload_n 0, 1) := by decide +kernel
theorem dX11_kin_1 : decode cX11_kin 1 = .ok (.iload_n 1, 1) := by decide +kernel
theorem dX11_kin_2 : decode cX11_kin 2 = .ok (.invokevirtual 65, 3) := by decide +kernel
theorem dX11_kin_5 : decode cX11_kin 5 = .ok (.ifCond .eq 11, 3) := by decide +kernel
theorem dX11_kin_8 : decode cX11_kin 8 = .ok (.aload_n 0, 1) := by decide +kernel
theorem dX11_kin_9 : decode cX11_kin 9 = .ok (.iload_n 2, 1) := by decide +kernel
theorem dX11_kin_10 : decode cX11_kin 10 = .ok (.invokevirtual 65, 3) := by decide +kernel
theorem dX11_kin_13 : decode cX11_kin 13 = .ok (.ifCond .ne 6, 3) := by decide +kernel
theorem dX11_kin_16 : decode cX11_kin 16 = .ok (.ldc 148, 2) := by decide +kernel
theorem dX11_kin_18 : decode cX11_kin 18 = .ok (.ireturn, 1) := by decide +kernel
theorem dX11_kin_19 : decode cX11_kin 19 = .ok (.iload_n 3, 1) := by decide +kernel
theorem dX11_kin_20 : decode cX11_kin 20 = .ok (.i2l, 1) := by decide +kernel
theorem dX11_kin_21 : decode cX11_kin 21 = .ok (.lconst 0, 1) := by decide +kernel
theorem dX11_kin_22 : decode cX11_kin 22 = .ok (.lconst 1, 1) := by decide +kernel
theorem dX11_kin_23 : decode cX11_kin 23 = .ok (.invokestatic 61, 3) := by decide +kernel
theorem dX11_kin_26 : decode cX11_kin 26 = .ok (.ifCond .ne 6, 3) := by decide +kernel
theorem dX11_kin_29 : decode cX11_kin 29 = .ok (.ldc 147, 2) := by decide +kernel
theorem dX11_kin_31 : decode cX11_kin 31 = .ok (.ireturn, 1) := by decide +kernel
theorem dX11_kin_32 : decode cX11_kin 32 = .ok (.aload_n 0, 1) := by decide +kernel
theorem dX11_kin_33 : decode cX11_kin 33 = .ok (.iload_n 1, 1) := by decide +kernel
theorem dX11_kin_34 : decode cX11_kin 34 = .ok (.aload_n 0, 1) := by decide +kernel
theorem dX11_kin_35 : decode cX11_kin 35 = .ok (.getfield 47, 3) := by decide +kernel
theorem dX11_kin_38 : decode cX11_kin 38 = .ok (.invokevirtual 160, 3) := by decide +kernel
theorem dX11_kin_41 : decode cX11_kin 41 = .ok (.aload_n 0, 1) := by decide +kernel
theorem dX11_kin_42 : decode cX11_kin 42 = .ok (.iload_n 2, 1) := by decide +kernel
theorem dX11_kin_43 : decode cX11_kin 43 = .ok (.aload_n 0, 1) := by decide +kernel
theorem dX11_kin_44 : decode cX11_kin 44 = .ok (.getfield 50, 3) := by decide +kernel
theorem dX11_kin_47 : decode cX11_kin 47 = .ok (.invokevirtual 160, 3) := by decide +kernel
theorem dX11_kin_50 : decode cX11_kin 50 = .ok (.iconst (-1), 1) := by decide +kernel
theorem dX11_kin_51 : decode cX11_kin 51 = .ok (.istore 4, 2) := by decide +kernel
theorem dX11_kin_53 : decode cX11_kin 53 = .ok (.iconst (-1), 1) := by decide +kernel
theorem dX11_kin_54 : decode cX11_kin 54 = .ok (.istore 5, 2) := by decide +kernel
theorem dX11_kin_56 : decode cX11_kin 56 = .ok (.iconst 0, 1) := by decide +kernel
theorem dX11_kin_57 : decode cX11_kin 57 = .ok (.istore 6, 2) := by decide +kernel
theorem dX11_kin_59 : decode cX11_kin 59 = .ok (.iload 6, 2) := by decide +kernel
theorem dX11_kin_61 : decode cX11_kin 61 = .ok (.aload_n 0, 1) := by decide +kernel
theorem dX11_kin_62 : decode cX11_kin 62 = .ok (.getfield 7, 3) := by decide +kernel
theorem dX11_kin_65 : decode cX11_kin 65 = .ok (.iconst 0, 1) := by decide +kernel
theorem dX11_kin_66 : decode cX11_kin 66 = .ok (.iaload, 1) := by decide +kernel
theorem dX11_kin_67 : decode cX11_kin 67 = .ok (.if_icmp .ge 94, 3) := by decide +kernel
theorem dX11_kin_70 : decode cX11_kin 70 = .ok (.aload_n 0, 1) := by decide +kernel
theorem dX11_kin_71 : decode cX11_kin 71 = .ok (.getfield 47, 3) := by decide +kernel
theorem dX11_kin_74 : decode cX11_kin 74 = .ok (.iload 6, 2) := by decide +kernel
theorem dX11_kin_76 : decode cX11_kin 76 = .ok (.iaload, 1) := by decide +kernel
theorem dX11_kin_77 : decode cX11_kin 77 = .ok (.aload_n 0, 1) := by decide +kernel
theorem dX11_kin_78 : decode cX11_kin 78 = .ok (.getfield 50, 3) := by decide +kernel
theorem dX11_kin_81 : decode cX11_kin 81 = .ok (.iload 6, 2) := by decide +kernel
theorem dX11_kin_83 : decode cX11_kin 83 = .ok (.iaload, 1) := by decide +kernel
theorem dX11_kin_84 : decode cX11_kin 84 = .ok (.iadd, 1) := by decide +kernel
theorem dX11_kin_85 : decode cX11_kin 85 = .ok (.istore 7, 2) := by decide +kernel
theorem dX11_kin_87 : decode cX11_kin 87 = .ok (.aload_n 0, 1) := by decide +kernel
theorem dX11_kin_88 : decode cX11_kin 88 = .ok (.getfield 47, 3) := by decide +kernel
theorem dX11_kin_91 : decode cX11_kin 91 = .ok (.iload 6, 2) := by decide +kernel
theorem dX11_kin_93 : decode cX11_kin 93 = .ok (.iaload, 1) := by decide +kernel
theorem dX11_kin_94 : decode cX11_kin 94 = .ok (.ifCond .lt 30, 3) := by decide +kernel
theorem dX11_kin_97 : decode cX11_kin 97 = .ok (.aload_n 0, 1) := by decide +kernel
theorem dX11_kin_98 : decode cX11_kin 98 = .ok (.getfield 50, 3) := by decide +kernel
theorem dX11_kin_101 : decode cX11_kin 101 = .ok (.iload 6, 2) := by decide +kernel
theorem dX11_kin_103 : decode cX11_kin 103 = .ok (.iaload, 1) := by decide +kernel
theorem dX11_kin_104 : decode cX11_kin 104 = .ok (.ifCond .lt 20, 3) := by decide +kernel
theorem dX11_kin_107 : decode cX11_kin 107 = .ok (.iload 4, 2) := by decide +kernel
theorem dX11_kin_109 : decode cX11_kin 109 = .ok (.iconst (-1), 1) := by decide +kernel
theorem dX11_kin_110 : decode cX11_kin 110 = .ok (.if_icmp .eq 10, 3) := by decide +kernel
theorem dX11_kin_113 : decode cX11_kin 113 = .ok (.iload 7, 2) := by decide +kernel
theorem dX11_kin_115 : decode cX11_kin 115 = .ok (.iload 4, 2) := by decide +kernel
theorem dX11_kin_117 : decode cX11_kin 117 = .ok (.if_icmp .gt 7, 3) := by decide +kernel
theorem dX11_kin_120 : decode cX11_kin 120 = .ok (.iconst 1, 1) := by decide +kernel
theorem dX11_kin_121 : decode cX11_kin 121 = .ok (.goto 4, 3) := by decide +kernel
theorem dX11_kin_124 : decode cX11_kin 124 = .ok (.iconst 0, 1) := by decide +kernel
theorem dX11_kin_125 : decode cX11_kin 125 = .ok (.istore 8, 2) := by decide +kernel
theorem dX11_kin_127 : decode cX11_kin 127 = .ok (.iload 8, 2) := by decide +kernel
theorem dX11_kin_129 : decode cX11_kin 129 = .ok (.ifCond .eq 8, 3) := by decide +kernel
theorem dX11_kin_132 : decode cX11_kin 132 = .ok (.iload 7, 2) := by decide +kernel
theorem dX11_kin_134 : decode cX11_kin 134 = .ok (.goto 5, 3) := by decide +kernel
theorem dX11_kin_137 : decode cX11_kin 137 = .ok (.iload 4, 2) := by decide +kernel
theorem dX11_kin_139 : decode cX11_kin 139 = .ok (.istore 4, 2) := by decide +kernel
theorem dX11_kin_141 : decode cX11_kin 141 = .ok (.iload 8, 2) := by decide +kernel
theorem dX11_kin_143 : decode cX11_kin 143 = .ok (.ifCond .eq 8, 3) := by decide +kernel
theorem dX11_kin_146 : decode cX11_kin 146 = .ok (.iload 6, 2) := by decide +kernel
theorem dX11_kin_148 : decode cX11_kin 148 = .ok (.goto 5, 3) := by decide +kernel
theorem dX11_kin_151 : decode cX11_kin 151 = .ok (.iload 5, 2) := by decide +kernel
theorem dX11_kin_153 : decode cX11_kin 153 = .ok (.istore 5, 2) := by decide +kernel
theorem dX11_kin_155 : decode cX11_kin 155 = .ok (.iinc 6 1, 3) := by decide +kernel
theorem dX11_kin_158 : decode cX11_kin 158 = .ok (.goto (-99), 3) := by decide +kernel
theorem dX11_kin_161 : decode cX11_kin 161 = .ok (.iload_n 3, 1) := by decide +kernel
theorem dX11_kin_162 : decode cX11_kin 162 = .ok (.ifCond .ne 8, 3) := by decide +kernel
theorem dX11_kin_165 : decode cX11_kin 165 = .ok (.iload 4, 2) := by decide +kernel
theorem dX11_kin_167 : decode cX11_kin 167 = .ok (.goto 5, 3) := by decide +kernel
theorem dX11_kin_170 : decode cX11_kin 170 = .ok (.iload 5, 2) := by decide +kernel
theorem dX11_kin_172 : decode cX11_kin 172 = .ok (.ireturn, 1) := by decide +kernel
set_option maxRecDepth 20000 in
theorem ggX11_would_X11_isOne : GoodIn wsX11_would wsX11_isOne := goodIn_r _ [9, 3, 10, 11, 8, 12, 43, 44, 45, 46, 47, 48, 49, 50, 51, 52, 53, 54, 55, 56, 57, 58, 59, 60] (by decide +kernel) (by decide +kernel)
set_option maxRecDepth 20000 in
theorem gX11_would_X11_isOne : GoodIn wsX11_would (wsV RX11 65 RX11 yX11_isOne wsX11_isOne) := goodIn_app (goodIn_of _ (by decide +kernel)) ggX11_would_X11_isOne
set_option maxRecDepth 20000 in
theorem ggX11_would_X11_isMan : GoodIn wsX11_would wsX11_isMan := goodIn_r _ [16, 3, 5, 6, 7, 8, 9, 10, 11, 12, 43, 44, 45, 46, 47, 48, 49, 50, 51, 52, 53, 54, 55, 56, 57, 58, 59, 60] (by decide +kernel) (by decide +kernel)
set_option maxRecDepth 20000 in
theorem gX11_would_X11_isMan : GoodIn wsX11_would (wsV RX11 164 RX11 yX11_isMan wsX11_isMan) := goodIn_app (goodIn_of _ (by decide +kernel)) ggX11_would_X11_isMan
set_option maxRecDepth 20000 in
theorem ggX11_would_X11_isWoman : GoodIn wsX11_would wsX11_isWoman := goodIn_r _ [20, 3, 5, 6, 7, 8, 9, 10, 11, 12, 43, 44, 45, 46, 47, 48, 49, 50, 51, 52, 53, 54, 55, 56, 57, 58, 59, 60] (by decide +kernel) (by decide +kernel)
set_option maxRecDepth 20000 in
theorem gX11_would_X11_isWoman : GoodIn wsX11_would (wsV RX11 69 RX11 yX11_isWoman wsX11_isWoman) := goodIn_app (goodIn_of _ (by decide +kernel)) ggX11_would_X11_isWoman
set_option maxRecDepth 20000 in
theorem ggX11_would_X11_lays : GoodIn wsX11_would wsX11_lays := goodIn_r _ [24, 3, 25, 26, 27, 8, 28, 4, 29, 30, 31, 32, 17, 18, 19, 20, 5, 6, 7, 9, 10, 11, 12, 33, 34, 35, 36, 37, 38, 39, 40, 41, 42, 43, 44, 45, 46, 47, 48, 49, 50, 51, 52, 53, 54, 55, 56, 57, 58, 59, 60] (by decide +kernel) (by decide +kernel)
set_option maxRecDepth 20000 in
theorem gX11_would_X11_lays : GoodIn wsX11_would (wsV RX11 90 RX11 yX11_lays wsX11_lays) := goodIn_app (goodIn_of _ (by decide +kernel)) ggX11_would_X11_lays
set_option maxRecDepth 20000 in
theorem ggX11_would_X11_laysOne : GoodIn wsX11_would wsX11_laysOne := goodIn_r _ [28, 4, 3, 29, 30, 31, 8, 32, 17, 18, 19, 20, 5, 6, 7, 9, 10, 11, 12, 33, 34, 35, 36, 37, 38, 39, 40, 41, 42, 43, 44, 45, 46, 47, 48, 49, 50, 51, 52, 53, 54, 55, 56, 57, 58, 59, 60] (by decide +kernel) (by decide +kernel)
set_option maxRecDepth 20000 in
theorem gX11_would_X11_laysOne : GoodIn wsX11_would (wsV RX11 82 RX11 yX11_laysOne wsX11_laysOne) := goodIn_app (goodIn_of _ (by decide +kernel)) ggX11_would_X11_laysOne
theorem dX11_would_0 : decode cX11_would 0 = .ok (.aload_n 0, 1) := by decide +kernel
theorem dX11_would_1 : decode cX11_would 1 = .ok (.iload_n 1, 1) := by decide +kernel
theorem dX11_would_2 : decode cX11_would 2 = .ok (.invokevirtual 65, 3) := by decide +kernel
theorem dX11_would_5 : decode cX11_would 5 = .ok (.ifCond .eq 16, 3) := by decide +kernel
theorem dX11_would_8 : decode cX11_would 8 = .ok (.aload_n 0, 1) := by decide +kernel
theorem dX11_would_9 : decode cX11_would 9 = .ok (.iload_n 2, 1) := by decide +kernel
theorem dX11_would_10 : decode cX11_would 10 = .ok (.invokevirtual 65, 3) := by decide +kernel
theorem dX11_would_13 : decode cX11_would 13 = .ok (.ifCond .eq 8, 3) := by decide +kernel
theorem dX11_would_16 : decode cX11_would 16 = .ok (.iload_n 1, 1) := by decide +kernel
theorem dX11_would_17 : decode cX11_would 17 = .ok (.iload_n 2, 1) := by decide +kernel
theorem dX11_would_18 : decode cX11_would 18 = .ok (.if_icmp .ne 6, 3) := by decide +kernel
theorem dX11_would_21 : decode cX11_would 21 = .ok (.ldc 148, 2) := by decide +kernel
theorem dX11_would_23 : decode cX11_would 23 = .ok (.ireturn, 1) := by decide +kernel
theorem dX11_would_24 : decode cX11_would 24 = .ok (.aload_n 0, 1) := by decide +kernel
theorem dX11_would_25 : decode cX11_would 25 = .ok (.iload_n 1, 1) := by decide +kernel
theorem dX11_would_26 : decode cX11_would 26 = .ok (.invokevirtual 164, 3) := by decide +kernel
theorem dX11_would_29 : decode cX11_would 29 = .ok (.ifCond .eq 11, 3) := by decide +kernel
theorem dX11_would_32 : decode cX11_would 32 = .ok (.aload_n 0, 1) := by decide +kernel
theorem dX11_would_33 : decode cX11_would 33 = .ok (.iload_n 2, 1) := by decide +kernel
theorem dX11_would_34 : decode cX11_would 34 = .ok (.invokevirtual 69, 3) := by decide +kernel
theorem dX11_would_37 : decode cX11_would 37 = .ok (.ifCond .ne 6, 3) := by decide +kernel
theorem dX11_would_40 : decode cX11_would 40 = .ok (.ldc 167, 2) := by decide +kernel
theorem dX11_would_42 : decode cX11_would 42 = .ok (.ireturn, 1) := by decide +kernel
theorem dX11_would_43 : decode cX11_would 43 = .ok (.aload_n 0, 1) := by decide +kernel
theorem dX11_would_44 : decode cX11_would 44 = .ok (.invokevirtual 90, 3) := by decide +kernel
theorem dX11_would_47 : decode cX11_would 47 = .ok (.aload_n 0, 1) := by decide +kernel
theorem dX11_would_48 : decode cX11_would 48 = .ok (.bipush 16, 2) := by decide +kernel
theorem dX11_would_50 : decode cX11_would 50 = .ok (.aload_n 0, 1) := by decide +kernel
theorem dX11_would_51 : decode cX11_would 51 = .ok (.getfield 7, 3) := by decide +kernel
theorem dX11_would_54 : decode cX11_would 54 = .ok (.bipush 29, 2) := by decide +kernel
theorem dX11_would_56 : decode cX11_would 56 = .ok (.iload_n 1, 1) := by decide +kernel
theorem dX11_would_57 : decode cX11_would 57 = .ok (.iadd, 1) := by decide +kernel
theorem dX11_would_58 : decode cX11_would 58 = .ok (.iaload, 1) := by decide +kernel
theorem dX11_would_59 : decode cX11_would 59 = .ok (.iload_n 1, 1) := by decide +kernel
theorem dX11_would_60 : decode cX11_would 60 = .ok (.iload_n 2, 1) := by decide +kernel
theorem dX11_would_61 : decode cX11_would 61 = .ok (.invokevirtual 82, 3) := by decide +kernel
theorem dX11_would_64 : decode cX11_would 64 = .ok (.aload_n 0, 1) := by decide +kernel
theorem dX11_would_65 : decode cX11_would 65 = .ok (.getfield 29, 3) := by decide +kernel
theorem dX11_would_68 : decode cX11_would 68 = .ok (.bipush 16, 2) := by decide +kernel
theorem dX11_would_70 : decode cX11_would 70 = .ok (.iaload, 1) := by decide +kernel
theorem dX11_would_71 : decode cX11_would 71 = .ok (.ireturn, 1) := by decide +kernel
set_option maxRecDepth 20000 in
theorem ggX11_dated_X11_in : GoodIn wsX11_dated wsX11_in := goodIn_r _ [9] (by decide +kernel) (by decide +kernel)
set_option maxRecDepth 20000 in
theorem gX11_dated_X11_in : GoodIn wsX11_dated (va_wsS RX11 61 yX11_in wsX11_in) := goodIn_app (goodIn_of _ (by decide +kernel)) ggX11_dated_X11_in
set_option maxRecDepth 20000 in
theorem ggX11_dated_X11_narrows : GoodIn wsX11_dated wsX11_narrows := goodIn_r _ [13, 3, 4, 5, 14, 15, 16, 17, 8, 18, 19, 20, 21, 22, 23, 24, 25, 26, 27, 28, 29, 30, 31, 32, 33, 34, 35, 36, 37, 38, 39, 40, 41, 42, 43, 44] (by decide +kernel) (by decide +kernel)
set_option maxRecDepth 20000 in
theorem gX11_dated_X11_narrows : GoodIn wsX11_dated (wsV RX11 134 RX11 yX11_narrows wsX11_narrows) := goodIn_app (goodIn_of _ (by decide +kernel)) ggX11_dated_X11_narrows
theorem dX11_dated_0 : decode cX11_dated 0 = .ok (.iload_n 1, 1) := by decide +kernel
theorem dX11_dated_1 : decode cX11_dated 1 = .ok (.i2l, 1) := by decide +kernel
theorem dX11_dated_2 : decode cX11_dated 2 = .ok (.lconst 0, 1) := by decide +kernel
theorem dX11_dated_3 : decode cX11_dated 3 = .ok (.ldc2_w 168, 3) := by decide +kernel
theorem dX11_dated_6 : decode cX11_dated 6 = .ok (.invokestatic 61, 3) := by decide +kernel
theorem dX11_dated_9 : decode cX11_dated 9 = .ok (.ifCond .eq 16, 3) := by decide +kernel
theorem dX11_dated_12 : decode cX11_dated 12 = .ok (.iload_n 2, 1) := by decide +kernel
theorem dX11_dated_13 : decode cX11_dated 13 = .ok (.i2l, 1) := by decide +kernel
theorem dX11_dated_14 : decode cX11_dated 14 = .ok (.iload_n 1, 1) := by decide +kernel
theorem dX11_dated_15 : decode cX11_dated 15 = .ok (.i2l, 1) := by decide +kernel
theorem dX11_dated_16 : decode cX11_dated 16 = .ok (.ldc2_w 168, 3) := by decide +kernel
theorem dX11_dated_19 : decode cX11_dated 19 = .ok (.invokestatic 61, 3) := by decide +kernel
theorem dX11_dated_22 : decode cX11_dated 22 = .ok (.ifCond .ne 6, 3) := by decide +kernel
theorem dX11_dated_25 : decode cX11_dated 25 = .ok (.ldc 147, 2) := by decide +kernel
theorem dX11_dated_27 : decode cX11_dated 27 = .ok (.ireturn, 1) := by decide +kernel
theorem dX11_dated_28 : decode cX11_dated 28 = .ok (.aload_n 0, 1) := by decide +kernel
theorem dX11_dated_29 : decode cX11_dated 29 = .ok (.invokevirtual 134, 3) := by decide +kernel
theorem dX11_dated_32 : decode cX11_dated 32 = .ok (.istore_n 3, 1) := by decide +kernel
theorem dX11_dated_33 : decode cX11_dated 33 = .ok (.iconst 0, 1) := by decide +kernel
theorem dX11_dated_34 : decode cX11_dated 34 = .ok (.istore 4, 2) := by decide +kernel
theorem dX11_dated_36 : decode cX11_dated 36 = .ok (.iconst 0, 1) := by decide +kernel
theorem dX11_dated_37 : decode cX11_dated 37 = .ok (.istore 5, 2) := by decide +kernel
theorem dX11_dated_39 : decode cX11_dated 39 = .ok (.iload 5, 2) := by decide +kernel
theorem dX11_dated_41 : decode cX11_dated 41 = .ok (.aload_n 0, 1) := by decide +kernel
theorem dX11_dated_42 : decode cX11_dated 42 = .ok (.getfield 7, 3) := by decide +kernel
theorem dX11_dated_45 : decode cX11_dated 45 = .ok (.iconst 0, 1) := by decide +kernel
theorem dX11_dated_46 : decode cX11_dated 46 = .ok (.iaload, 1) := by decide +kernel
theorem dX11_dated_47 : decode cX11_dated 47 = .ok (.if_icmp .ge 54, 3) := by decide +kernel
theorem dX11_dated_50 : decode cX11_dated 50 = .ok (.iload_n 3, 1) := by decide +kernel
theorem dX11_dated_51 : decode cX11_dated 51 = .ok (.ifCond .eq 50, 3) := by decide +kernel
theorem dX11_dated_54 : decode cX11_dated 54 = .ok (.iload 4, 2) := by decide +kernel
theorem dX11_dated_56 : decode cX11_dated 56 = .ok (.aload_n 0, 1) := by decide +kernel
theorem dX11_dated_57 : decode cX11_dated 57 = .ok (.getfield 38, 3) := by decide +kernel
theorem dX11_dated_60 : decode cX11_dated 60 = .ok (.bipush 16, 2) := by decide +kernel
theorem dX11_dated_62 : decode cX11_dated 62 = .ok (.iload 5, 2) := by decide +kernel
theorem dX11_dated_64 : decode cX11_dated 64 = .ok (.iadd, 1) := by decide +kernel
theorem dX11_dated_65 : decode cX11_dated 65 = .ok (.iaload, 1) := by decide +kernel
theorem dX11_dated_66 : decode cX11_dated 66 = .ok (.iload_n 2, 1) := by decide +kernel
theorem dX11_dated_67 : decode cX11_dated 67 = .ok (.if_icmp .gt 24, 3) := by decide +kernel
theorem dX11_dated_70 : decode cX11_dated 70 = .ok (.aload_n 0, 1) := by decide +kernel
theorem dX11_dated_71 : decode cX11_dated 71 = .ok (.getfield 41, 3) := by decide +kernel
theorem dX11_dated_74 : decode cX11_dated 74 = .ok (.bipush 16, 2) := by decide +kernel
theorem dX11_dated_76 : decode cX11_dated 76 = .ok (.iload 5, 2) := by decide +kernel
theorem dX11_dated_78 : decode cX11_dated 78 = .ok (.iadd, 1) := by decide +kernel
theorem dX11_dated_79 : decode cX11_dated 79 = .ok (.iaload, 1) := by decide +kernel
theorem dX11_dated_80 : decode cX11_dated 80 = .ok (.iload_n 1, 1) := by decide +kernel
theorem dX11_dated_81 : decode cX11_dated 81 = .ok (.if_icmp .lt 10, 3) := by decide +kernel
theorem dX11_dated_84 : decode cX11_dated 84 = .ok (.iconst 1, 1) := by decide +kernel
theorem dX11_dated_85 : decode cX11_dated 85 = .ok (.iload 5, 2) := by decide +kernel
theorem dX11_dated_87 : decode cX11_dated 87 = .ok (.ishl, 1) := by decide +kernel
theorem dX11_dated_88 : decode cX11_dated 88 = .ok (.goto 4, 3) := by decide +kernel
theorem dX11_dated_91 : decode cX11_dated 91 = .ok (.iconst 0, 1) := by decide +kernel
theorem dX11_dated_92 : decode cX11_dated 92 = .ok (.ior, 1) := by decide +kernel
theorem dX11_dated_93 : decode cX11_dated 93 = .ok (.istore 4, 2) := by decide +kernel
theorem dX11_dated_95 : decode cX11_dated 95 = .ok (.iinc 5 1, 3) := by decide +kernel
theorem dX11_dated_98 : decode cX11_dated 98 = .ok (.goto (-59), 3) := by decide +kernel
theorem dX11_dated_101 : decode cX11_dated 101 = .ok (.iload 4, 2) := by decide +kernel
theorem dX11_dated_103 : decode cX11_dated 103 = .ok (.ireturn, 1) := by decide +kernel
set_option maxRecDepth 20000 in
theorem ggX11_signAt_X11_in : GoodIn wsX11_signAt wsX11_in := goodIn_r _ [5] (by decide +kernel) (by decide +kernel)
set_option maxRecDepth 20000 in
theorem gX11_signAt_X11_in : GoodIn wsX11_signAt (va_wsS RX11 61 yX11_in wsX11_in) := goodIn_app (goodIn_of _ (by decide +kernel)) ggX11_signAt_X11_in
theorem dX11_signAt_0 : decode cX11_signAt 0 = .ok (.iload_n 1, 1) := by decide +kernel
theorem dX11_signAt_1 : decode cX11_signAt 1 = .ok (.i2l, 1) := by decide +kernel
theorem dX11_signAt_2 : decode cX11_signAt 2 = .ok (.lconst 0, 1) := by decide +kernel
theorem dX11_signAt_3 : decode cX11_signAt 3 = .ok (.aload_n 0, 1) := by decide +kernel
theorem dX11_signAt_4 : decode cX11_signAt 4 = .ok (.getfield 7, 3) := by decide +kernel
theorem dX11_signAt_7 : decode cX11_signAt 7 = .ok (.iconst 2, 1) := by decide +kernel
theorem dX11_signAt_8 : decode cX11_signAt 8 = .ok (.iaload, 1) := by decide +kernel
theorem dX11_signAt_9 : decode cX11_signAt 9 = .ok (.iconst 1, 1) := by decide +kernel
theorem dX11_signAt_10 : decode cX11_signAt 10 = .ok (.isub, 1) := by decide +kernel
theorem dX11_signAt_11 : decode cX11_signAt 11 = .ok (.i2l, 1) := by decide +kernel
theorem dX11_signAt_12 : decode cX11_signAt 12 = .ok (.invokestatic 61, 3) := by decide +kernel
theorem dX11_signAt_15 : decode cX11_signAt 15 = .ok (.ifCond .eq 14, 3) := by decide +kernel
theorem dX11_signAt_18 : decode cX11_signAt 18 = .ok (.aload_n 0, 1) := by decide +kernel
theorem dX11_signAt_19 : decode cX11_signAt 19 = .ok (.getfield 7, 3) := by decide +kernel
theorem dX11_signAt_22 : decode cX11_signAt 22 = .ok (.iconst 3, 1) := by decide +kernel
theorem dX11_signAt_23 : decode cX11_signAt 23 = .ok (.iload_n 1, 1) := by decide +kernel
theorem dX11_signAt_24 : decode cX11_signAt 24 = .ok (.iadd, 1) := by decide +kernel
theorem dX11_signAt_25 : decode cX11_signAt 25 = .ok (.iaload, 1) := by decide +kernel
theorem dX11_signAt_26 : decode cX11_signAt 26 = .ok (.goto 4, 3) := by decide +kernel
theorem dX11_signAt_29 : decode cX11_signAt 29 = .ok (.iconst (-1), 1) := by decide +kernel
theorem dX11_signAt_30 : decode cX11_signAt 30 = .ok (.ireturn, 1) := by decide +kernel
theorem dX11_comes_0 : decode cX11_comes 0 = .ok (.aload_n 0, 1) := by decide +kernel
theorem dX11_comes_1 : decode cX11_comes 1 = .ok (.getfield 7, 3) := by decide +kernel
theorem dX11_comes_4 : decode cX11_comes 4 = .ok (.iconst 0, 1) := by decide +kernel
theorem dX11_comes_5 : decode cX11_comes 5 = .ok (.iaload, 1) := by decide +kernel
theorem dX11_comes_6 : decode cX11_comes 6 = .ok (.istore 5, 2) := by decide +kernel
theorem dX11_comes_8 : decode cX11_comes 8 = .ok (.aload_n 0, 1) := by decide +kernel
theorem dX11_comes_9 : decode cX11_comes 9 = .ok (.getfield 7, 3) := by decide +kernel
theorem dX11_comes_12 : decode cX11_comes 12 = .ok (.bipush 13, 2) := by decide +kernel
theorem dX11_comes_14 : decode cX11_comes 14 = .ok (.iload 5, 2) := by decide +kernel
theorem dX11_comes_16 : decode cX11_comes 16 = .ok (.iadd, 1) := by decide +kernel
theorem dX11_comes_17 : decode cX11_comes 17 = .ok (.iload_n 1, 1) := by decide +kernel
theorem dX11_comes_18 : decode cX11_comes 18 = .ok (.iastore, 1) := by decide +kernel
theorem dX11_comes_19 : decode cX11_comes 19 = .ok (.aload_n 0, 1) := by decide +kernel
theorem dX11_comes_20 : decode cX11_comes 20 = .ok (.getfield 7, 3) := by decide +kernel
theorem dX11_comes_23 : decode cX11_comes 23 = .ok (.bipush 29, 2) := by decide +kernel
theorem dX11_comes_25 : decode cX11_comes 25 = .ok (.iload 5, 2) := by decide +kernel
theorem dX11_comes_27 : decode cX11_comes 27 = .ok (.iadd, 1) := by decide +kernel
theorem dX11_comes_28 : decode cX11_comes 28 = .ok (.iload_n 3, 1) := by decide +kernel
theorem dX11_comes_29 : decode cX11_comes 29 = .ok (.iconst (-1), 1) := by decide +kernel
theorem dX11_comes_30 : decode cX11_comes 30 = .ok (.if_icmp .ne 7, 3) := by decide +kernel
theorem dX11_comes_33 : decode cX11_comes 33 = .ok (.iload_n 2, 1) := by decide +kernel
theorem dX11_comes_34 : decode cX11_comes 34 = .ok (.goto 12, 3) := by decide +kernel
theorem dX11_comes_37 : decode cX11_comes 37 = .ok (.aload_n 0, 1) := by decide +kernel
theorem dX11_comes_38 : decode cX11_comes 38 = .ok (.getfield 7, 3) := by decide +kernel
theorem dX11_comes_41 : decode cX11_comes 41 = .ok (.bipush 29, 2) := by decide +kernel
theorem dX11_comes_43 : decode cX11_comes 43 = .ok (.iload_n 3, 1) := by decide +kernel
theorem dX11_comes_44 : decode cX11_comes 44 = .ok (.iadd, 1) := by decide +kernel
theorem dX11_comes_45 : decode cX11_comes 45 = .ok (.iaload, 1) := by decide +kernel
theorem dX11_comes_46 : decode cX11_comes 46 = .ok (.iastore, 1) := by decide +kernel
theorem dX11_comes_47 : decode cX11_comes 47 = .ok (.aload_n 0, 1) := by decide +kernel
theorem dX11_comes_48 : decode cX11_comes 48 = .ok (.getfield 7, 3) := by decide +kernel
theorem dX11_comes_51 : decode cX11_comes 51 = .ok (.bipush 45, 2) := by decide +kernel
theorem dX11_comes_53 : decode cX11_comes 53 = .ok (.iload 5, 2) := by decide +kernel
theorem dX11_comes_55 : decode cX11_comes 55 = .ok (.iadd, 1) := by decide +kernel
theorem dX11_comes_56 : decode cX11_comes 56 = .ok (.iload_n 3, 1) := by decide +kernel
theorem dX11_comes_57 : decode cX11_comes 57 = .ok (.iastore, 1) := by decide +kernel
theorem dX11_comes_58 : decode cX11_comes 58 = .ok (.aload_n 0, 1) := by decide +kernel
theorem dX11_comes_59 : decode cX11_comes 59 = .ok (.getfield 7, 3) := by decide +kernel
theorem dX11_comes_62 : decode cX11_comes 62 = .ok (.bipush 61, 2) := by decide +kernel
theorem dX11_comes_64 : decode cX11_comes 64 = .ok (.iload 5, 2) := by decide +kernel
theorem dX11_comes_66 : decode cX11_comes 66 = .ok (.iadd, 1) := by decide +kernel
theorem dX11_comes_67 : decode cX11_comes 67 = .ok (.iload 4, 2) := by decide +kernel
theorem dX11_comes_69 : decode cX11_comes 69 = .ok (.iastore, 1) := by decide +kernel
theorem dX11_comes_70 : decode cX11_comes 70 = .ok (.aload_n 0, 1) := by decide +kernel
theorem dX11_comes_71 : decode cX11_comes 71 = .ok (.getfield 7, 3) := by decide +kernel
theorem dX11_comes_74 : decode cX11_comes 74 = .ok (.bipush 77, 2) := by decide +kernel
theorem dX11_comes_76 : decode cX11_comes 76 = .ok (.iconst 2, 1) := by decide +kernel
theorem dX11_comes_77 : decode cX11_comes 77 = .ok (.iload 5, 2) := by decide +kernel
theorem dX11_comes_79 : decode cX11_comes 79 = .ok (.imul, 1) := by decide +kernel
theorem dX11_comes_80 : decode cX11_comes 80 = .ok (.iadd, 1) := by decide +kernel
theorem dX11_comes_81 : decode cX11_comes 81 = .ok (.iconst 0, 1) := by decide +kernel
theorem dX11_comes_82 : decode cX11_comes 82 = .ok (.iastore, 1) := by decide +kernel
theorem dX11_comes_83 : decode cX11_comes 83 = .ok (.aload_n 0, 1) := by decide +kernel
theorem dX11_comes_84 : decode cX11_comes 84 = .ok (.getfield 7, 3) := by decide +kernel
theorem dX11_comes_87 : decode cX11_comes 87 = .ok (.bipush 77, 2) := by decide +kernel
theorem dX11_comes_89 : decode cX11_comes 89 = .ok (.iconst 2, 1) := by decide +kernel
theorem dX11_comes_90 : decode cX11_comes 90 = .ok (.iload 5, 2) := by decide +kernel
theorem dX11_comes_92 : decode cX11_comes 92 = .ok (.imul, 1) := by decide +kernel
theorem dX11_comes_93 : decode cX11_comes 93 = .ok (.iadd, 1) := by decide +kernel
theorem dX11_comes_94 : decode cX11_comes 94 = .ok (.iconst 1, 1) := by decide +kernel
theorem dX11_comes_95 : decode cX11_comes 95 = .ok (.iadd, 1) := by decide +kernel
theorem dX11_comes_96 : decode cX11_comes 96 = .ok (.sipush 999, 3) := by decide +kernel
theorem dX11_comes_99 : decode cX11_comes 99 = .ok (.iastore, 1) := by decide +kernel
theorem dX11_comes_100 : decode cX11_comes 100 = .ok (.aload_n 0, 1) := by decide +kernel
theorem dX11_comes_101 : decode cX11_comes 101 = .ok (.getfield 7, 3) := by decide +kernel
theorem dX11_comes_104 : decode cX11_comes 104 = .ok (.bipush 109, 2) := by decide +kernel
theorem dX11_comes_106 : decode cX11_comes 106 = .ok (.iconst 2, 1) := by decide +kernel
theorem dX11_comes_107 : decode cX11_comes 107 = .ok (.iload 5, 2) := by decide +kernel
theorem dX11_comes_109 : decode cX11_comes 109 = .ok (.imul, 1) := by decide +kernel
theorem dX11_comes_110 : decode cX11_comes 110 = .ok (.iadd, 1) := by decide +kernel
theorem dX11_comes_111 : decode cX11_comes 111 = .ok (.iconst 0, 1) := by decide +kernel
theorem dX11_comes_112 : decode cX11_comes 112 = .ok (.iastore, 1) := by decide +kernel
theorem dX11_comes_113 : decode cX11_comes 113 = .ok (.aload_n 0, 1) := by decide +kernel
theorem dX11_comes_114 : decode cX11_comes 114 = .ok (.getfield 7, 3) := by decide +kernel
theorem dX11_comes_117 : decode cX11_comes 117 = .ok (.bipush 109, 2) := by decide +kernel
theorem dX11_comes_119 : decode cX11_comes 119 = .ok (.iconst 2, 1) := by decide +kernel
theorem dX11_comes_120 : decode cX11_comes 120 = .ok (.iload 5, 2) := by decide +kernel
theorem dX11_comes_122 : decode cX11_comes 122 = .ok (.imul, 1) := by decide +kernel
theorem dX11_comes_123 : decode cX11_comes 123 = .ok (.iadd, 1) := by decide +kernel
theorem dX11_comes_124 : decode cX11_comes 124 = .ok (.iconst 1, 1) := by decide +kernel
theorem dX11_comes_125 : decode cX11_comes 125 = .ok (.iadd, 1) := by decide +kernel
theorem dX11_comes_126 : decode cX11_comes 126 = .ok (.sipush 999, 3) := by decide +kernel
theorem dX11_comes_129 : decode cX11_comes 129 = .ok (.iastore, 1) := by decide +kernel
theorem dX11_comes_130 : decode cX11_comes 130 = .ok (.aload_n 0, 1) := by decide +kernel
theorem dX11_comes_131 : decode cX11_comes 131 = .ok (.getfield 7, 3) := by decide +kernel
theorem dX11_comes_134 : decode cX11_comes 134 = .ok (.iconst 0, 1) := by decide +kernel
theorem dX11_comes_135 : decode cX11_comes 135 = .ok (.dup2, 1) := by decide +kernel
theorem dX11_comes_136 : decode cX11_comes 136 = .ok (.iaload, 1) := by decide +kernel
theorem dX11_comes_137 : decode cX11_comes 137 = .ok (.iconst 1, 1) := by decide +kernel
theorem dX11_comes_138 : decode cX11_comes 138 = .ok (.iadd, 1) := by decide +kernel
theorem dX11_comes_139 : decode cX11_comes 139 = .ok (.iastore, 1) := by decide +kernel
theorem dX11_comes_140 : decode cX11_comes 140 = .ok (.return_, 1) := by decide +kernel
set_option maxRecDepth 20000 in
theorem ggX11_put_X11_isOne : GoodIn wsX11_put wsX11_isOne := goodIn_r _ [11, 5, 12, 13, 10, 14, 36, 37, 38, 39, 40, 41, 42, 43, 44, 45, 46, 47, 48, 49, 50, 51, 52, 53] (by decide +kernel) (by decide +kernel)
set_option maxRecDepth 20000 in
theorem gX11_put_X11_isOne : GoodIn wsX11_put (wsV RX11 65 RX11 yX11_isOne wsX11_isOne) := goodIn_app (goodIn_of _ (by decide +kernel)) ggX11_put_X11_isOne
set_option maxRecDepth 20000 in
theorem ggX11_put_X11_in : GoodIn wsX11_put wsX11_in := goodIn_r _ [14] (by decide +kernel) (by decide +kernel)
set_option maxRecDepth 20000 in
theorem gX11_put_X11_in : GoodIn wsX11_put (va_wsS RX11 61 yX11_in wsX11_in) := goodIn_app (goodIn_of _ (by decide +kernel)) ggX11_put_X11_in
set_option maxRecDepth 20000 in
theorem ggX11_put_X11_isMan : GoodIn wsX11_put wsX11_isMan := goodIn_r _ [18, 5, 7, 8, 9, 10, 11, 12, 13, 14, 36, 37, 38, 39, 40, 41, 42, 43, 44, 45, 46, 47, 48, 49, 50, 51, 52, 53] (by decide +kernel) (by decide +kernel)
set_option maxRecDepth 20000 in
theorem gX11_put_X11_isMan : GoodIn wsX11_put (wsV RX11 164 RX11 yX11_isMan wsX11_isMan) := goodIn_app (goodIn_of _ (by decide +kernel)) ggX11_put_X11_isMan
set_option maxRecDepth 20000 in
theorem ggX11_put_X11_isWoman : GoodIn wsX11_put wsX11_isWoman := goodIn_r _ [22, 5, 7, 8, 9, 10, 11, 12, 13, 14, 36, 37, 38, 39, 40, 41, 42, 43, 44, 45, 46, 47, 48, 49, 50, 51, 52, 53] (by decide +kernel) (by decide +kernel)
set_option maxRecDepth 20000 in
theorem gX11_put_X11_isWoman : GoodIn wsX11_put (wsV RX11 69 RX11 yX11_isWoman wsX11_isWoman) := goodIn_app (goodIn_of _ (by decide +kernel)) ggX11_put_X11_isWoman
set_option maxRecDepth 20000 in
theorem ggX11_put_X11_minds : GoodIn wsX11_put wsX11_minds := goodIn_r _ [26, 27, 5, 28, 29, 30, 10, 31, 36, 37, 38, 39, 40, 41, 42, 43, 44, 45, 46, 47, 48, 49, 50, 51, 52, 53] (by decide +kernel) (by decide +kernel)
set_option maxRecDepth 20000 in
theorem gX11_put_X11_minds : GoodIn wsX11_put (wsV RX11 173 RX11 yX11_minds wsX11_minds) := goodIn_app (goodIn_of _ (by decide +kernel)) ggX11_put_X11_minds
set_option maxRecDepth 20000 in
theorem ggX11_put_X11_comes : GoodIn wsX11_put wsX11_comes := goodIn_r _ [35, 5, 36, 37, 38, 39, 40, 41, 42, 43, 44, 45, 46, 47, 48, 49, 50, 51, 52, 53] (by decide +kernel) (by decide +kernel)
set_option maxRecDepth 20000 in
theorem gX11_put_X11_comes : GoodIn wsX11_put (wsV RX11 176 RX11 yX11_comes wsX11_comes) := goodIn_app (goodIn_of _ (by decide +kernel)) ggX11_put_X11_comes
theorem dX11_put_0 : decode cX11_put 0 = .ok (.iload_n 3, 1) := by decide +kernel
theorem dX11_put_1 : decode cX11_put 1 = .ok (.iconst (-1), 1) := by decide +kernel
theorem dX11_put_2 : decode cX11_put 2 = .ok (.if_icmp .eq 11, 3) := by decide +kernel
theorem dX11_put_5 : decode cX11_put 5 = .ok (.aload_n 0, 1) := by decide +kernel
theorem dX11_put_6 : decode cX11_put 6 = .ok (.iload_n 3, 1) := by decide +kernel
theorem dX11_put_7 : decode cX11_put 7 = .ok (.invokevirtual 65, 3) := by decide +kernel
theorem dX11_put_10 : decode cX11_put 10 = .ok (.ifCond .eq 18, 3) := by decide +kernel
theorem dX11_put_13 : decode cX11_put 13 = .ok (.iload 4, 2) := by decide +kernel
theorem dX11_put_15 : decode cX11_put 15 = .ok (.iconst (-1), 1) := by decide +kernel
theorem dX11_put_16 : decode cX11_put 16 = .ok (.if_icmp .eq 15, 3) := by decide +kernel
theorem dX11_put_19 : decode cX11_put 19 = .ok (.aload_n 0, 1) := by decide +kernel
theorem dX11_put_20 : decode cX11_put 20 = .ok (.iload 4, 2) := by decide +kernel
theorem dX11_put_22 : decode cX11_put 22 = .ok (.invokevirtual 65, 3) := by decide +kernel
theorem dX11_put_25 : decode cX11_put 25 = .ok (.ifCond .ne 6, 3) := by decide +kernel
theorem dX11_put_28 : decode cX11_put 28 = .ok (.ldc 148, 2) := by decide +kernel
theorem dX11_put_30 : decode cX11_put 30 = .ok (.ireturn, 1) := by decide +kernel
theorem dX11_put_31 : decode cX11_put 31 = .ok (.iload_n 1, 1) := by decide +kernel
theorem dX11_put_32 : decode cX11_put 32 = .ok (.i2l, 1) := by decide +kernel
theorem dX11_put_33 : decode cX11_put 33 = .ok (.lconst 0, 1) := by decide +kernel
theorem dX11_put_34 : decode cX11_put 34 = .ok (.lconst 1, 1) := by decide +kernel
theorem dX11_put_35 : decode cX11_put 35 = .ok (.invokestatic 61, 3) := by decide +kernel
theorem dX11_put_38 : decode cX11_put 38 = .ok (.ifCond .eq 15, 3) := by decide +kernel
theorem dX11_put_41 : decode cX11_put 41 = .ok (.iload_n 2, 1) := by decide +kernel
theorem dX11_put_42 : decode cX11_put 42 = .ok (.i2l, 1) := by decide +kernel
theorem dX11_put_43 : decode cX11_put 43 = .ok (.lconst 0, 1) := by decide +kernel
theorem dX11_put_44 : decode cX11_put 44 = .ok (.ldc2_w 170, 3) := by decide +kernel
theorem dX11_put_47 : decode cX11_put 47 = .ok (.invokestatic 61, 3) := by decide +kernel
theorem dX11_put_50 : decode cX11_put 50 = .ok (.ifCond .ne 6, 3) := by decide +kernel
theorem dX11_put_53 : decode cX11_put 53 = .ok (.ldc 147, 2) := by decide +kernel
theorem dX11_put_55 : decode cX11_put 55 = .ok (.ireturn, 1) := by decide +kernel
theorem dX11_put_56 : decode cX11_put 56 = .ok (.iload_n 3, 1) := by decide +kernel
theorem dX11_put_57 : decode cX11_put 57 = .ok (.iconst (-1), 1) := by decide +kernel
theorem dX11_put_58 : decode cX11_put 58 = .ok (.if_icmp .eq 11, 3) := by decide +kernel
theorem dX11_put_61 : decode cX11_put 61 = .ok (.aload_n 0, 1) := by decide +kernel
theorem dX11_put_62 : decode cX11_put 62 = .ok (.iload_n 3, 1) := by decide +kernel
theorem dX11_put_63 : decode cX11_put 63 = .ok (.invokevirtual 164, 3) := by decide +kernel
theorem dX11_put_66 : decode cX11_put 66 = .ok (.ifCond .eq 18, 3) := by decide +kernel
theorem dX11_put_69 : decode cX11_put 69 = .ok (.iload 4, 2) := by decide +kernel
theorem dX11_put_71 : decode cX11_put 71 = .ok (.iconst (-1), 1) := by decide +kernel
theorem dX11_put_72 : decode cX11_put 72 = .ok (.if_icmp .eq 15, 3) := by decide +kernel
theorem dX11_put_75 : decode cX11_put 75 = .ok (.aload_n 0, 1) := by decide +kernel
theorem dX11_put_76 : decode cX11_put 76 = .ok (.iload 4, 2) := by decide +kernel
theorem dX11_put_78 : decode cX11_put 78 = .ok (.invokevirtual 69, 3) := by decide +kernel
theorem dX11_put_81 : decode cX11_put 81 = .ok (.ifCond .ne 6, 3) := by decide +kernel
theorem dX11_put_84 : decode cX11_put 84 = .ok (.ldc 167, 2) := by decide +kernel
theorem dX11_put_86 : decode cX11_put 86 = .ok (.ireturn, 1) := by decide +kernel
theorem dX11_put_87 : decode cX11_put 87 = .ok (.aload_n 0, 1) := by decide +kernel
theorem dX11_put_88 : decode cX11_put 88 = .ok (.getfield 7, 3) := by decide +kernel
theorem dX11_put_91 : decode cX11_put 91 = .ok (.iconst 0, 1) := by decide +kernel
theorem dX11_put_92 : decode cX11_put 92 = .ok (.iaload, 1) := by decide +kernel
theorem dX11_put_93 : decode cX11_put 93 = .ok (.bipush 16, 2) := by decide +kernel
theorem dX11_put_95 : decode cX11_put 95 = .ok (.if_icmp .ne 6, 3) := by decide +kernel
theorem dX11_put_98 : decode cX11_put 98 = .ok (.ldc 172, 2) := by decide +kernel
theorem dX11_put_100 : decode cX11_put 100 = .ok (.ireturn, 1) := by decide +kernel
theorem dX11_put_101 : decode cX11_put 101 = .ok (.aload_n 0, 1) := by decide +kernel
theorem dX11_put_102 : decode cX11_put 102 = .ok (.invokevirtual 173, 3) := by decide +kernel
theorem dX11_put_105 : decode cX11_put 105 = .ok (.aload_n 0, 1) := by decide +kernel
theorem dX11_put_106 : decode cX11_put 106 = .ok (.iload_n 1, 1) := by decide +kernel
theorem dX11_put_107 : decode cX11_put 107 = .ok (.iload_n 2, 1) := by decide +kernel
theorem dX11_put_108 : decode cX11_put 108 = .ok (.iload_n 3, 1) := by decide +kernel
theorem dX11_put_109 : decode cX11_put 109 = .ok (.iload 4, 2) := by decide +kernel
theorem dX11_put_111 : decode cX11_put 111 = .ok (.invokevirtual 176, 3) := by decide +kernel
theorem dX11_put_114 : decode cX11_put 114 = .ok (.aload_n 0, 1) := by decide +kernel
theorem dX11_put_115 : decode cX11_put 115 = .ok (.getfield 7, 3) := by decide +kernel
theorem dX11_put_118 : decode cX11_put 118 = .ok (.iconst 0, 1) := by decide +kernel
theorem dX11_put_119 : decode cX11_put 119 = .ok (.iaload, 1) := by decide +kernel
theorem dX11_put_120 : decode cX11_put 120 = .ok (.iconst 1, 1) := by decide +kernel
theorem dX11_put_121 : decode cX11_put 121 = .ok (.isub, 1) := by decide +kernel
theorem dX11_put_122 : decode cX11_put 122 = .ok (.ireturn, 1) := by decide +kernel
set_option maxRecDepth 20000 in
theorem ggX11_bounds_X11_isOne : GoodIn wsX11_bounds wsX11_isOne := goodIn_r _ [9, 4, 10, 11, 8, 12, 41, 42, 43, 44, 45, 46, 47, 48, 49, 50, 51, 52, 53, 54, 55, 56, 57, 58] (by decide +kernel) (by decide +kernel)
set_option maxRecDepth 20000 in
theorem gX11_bounds_X11_isOne : GoodIn wsX11_bounds (wsV RX11 65 RX11 yX11_isOne wsX11_isOne) := goodIn_app (goodIn_of _ (by decide +kernel)) ggX11_bounds_X11_isOne
set_option maxRecDepth 20000 in
theorem ggX11_bounds_X11_in : GoodIn wsX11_bounds wsX11_in := goodIn_r _ [12] (by decide +kernel) (by decide +kernel)
set_option maxRecDepth 20000 in
theorem gX11_bounds_X11_in : GoodIn wsX11_bounds (va_wsS RX11 61 yX11_in wsX11_in) := goodIn_app (goodIn_of _ (by decide +kernel)) ggX11_bounds_X11_in
set_option maxRecDepth 20000 in
theorem ggX11_bounds_X11_minds : GoodIn wsX11_bounds wsX11_minds := goodIn_r _ [16, 17, 4, 18, 19, 20, 8, 21, 41, 42, 43, 44, 45, 46, 47, 48, 49, 50, 51, 52, 53, 54, 55, 56, 57, 58] (by decide +kernel) (by decide +kernel)
set_option maxRecDepth 20000 in
theorem gX11_bounds_X11_minds : GoodIn wsX11_bounds (wsV RX11 173 RX11 yX11_minds wsX11_minds) := goodIn_app (goodIn_of _ (by decide +kernel)) ggX11_bounds_X11_minds
set_option maxRecDepth 20000 in
theorem ggX11_bounds_X11_narrows : GoodIn wsX11_bounds wsX11_narrows := goodIn_r _ [25, 4, 26, 27, 28, 29, 30, 31, 8, 32, 33, 34, 35, 36, 37, 38, 39, 40, 41, 42, 43, 44, 45, 46, 47, 48, 49, 50, 51, 52, 53, 54, 55, 56, 57, 58] (by decide +kernel) (by decide +kernel)
set_option maxRecDepth 20000 in
theorem gX11_bounds_X11_narrows : GoodIn wsX11_bounds (wsV RX11 134 RX11 yX11_narrows wsX11_narrows) := goodIn_app (goodIn_of _ (by decide +kernel)) ggX11_bounds_X11_narrows
theorem dX11_bounds_0 : decode cX11_bounds 0 = .ok (.aload_n 0, 1) := by decide +kernel
theorem dX11_bounds_1 : decode cX11_bounds 1 = .ok (.iload_n 2, 1) := by decide +kernel
theorem dX11_bounds_2 : decode cX11_bounds 2 = .ok (.invokevirtual 65, 3) := by decide +kernel
theorem dX11_bounds_5 : decode cX11_bounds 5 = .ok (.ifCond .ne 6, 3) := by decide +kernel
theorem dX11_bounds_8 : decode cX11_bounds 8 = .ok (.ldc 148, 2) := by decide +kernel
theorem dX11_bounds_10 : decode cX11_bounds 10 = .ok (.ireturn, 1) := by decide +kernel
theorem dX11_bounds_11 : decode cX11_bounds 11 = .ok (.iload_n 3, 1) := by decide +kernel
theorem dX11_bounds_12 : decode cX11_bounds 12 = .ok (.i2l, 1) := by decide +kernel
theorem dX11_bounds_13 : decode cX11_bounds 13 = .ok (.lconst 0, 1) := by decide +kernel
theorem dX11_bounds_14 : decode cX11_bounds 14 = .ok (.ldc2_w 168, 3) := by decide +kernel
theorem dX11_bounds_17 : decode cX11_bounds 17 = .ok (.invokestatic 61, 3) := by decide +kernel
theorem dX11_bounds_20 : decode cX11_bounds 20 = .ok (.ifCond .eq 17, 3) := by decide +kernel
theorem dX11_bounds_23 : decode cX11_bounds 23 = .ok (.iload 4, 2) := by decide +kernel
theorem dX11_bounds_25 : decode cX11_bounds 25 = .ok (.i2l, 1) := by decide +kernel
theorem dX11_bounds_26 : decode cX11_bounds 26 = .ok (.iload_n 3, 1) := by decide +kernel
theorem dX11_bounds_27 : decode cX11_bounds 27 = .ok (.i2l, 1) := by decide +kernel
theorem dX11_bounds_28 : decode cX11_bounds 28 = .ok (.ldc2_w 168, 3) := by decide +kernel
theorem dX11_bounds_31 : decode cX11_bounds 31 = .ok (.invokestatic 61, 3) := by decide +kernel
theorem dX11_bounds_34 : decode cX11_bounds 34 = .ok (.ifCond .ne 6, 3) := by decide +kernel
theorem dX11_bounds_37 : decode cX11_bounds 37 = .ok (.ldc 147, 2) := by decide +kernel
theorem dX11_bounds_39 : decode cX11_bounds 39 = .ok (.ireturn, 1) := by decide +kernel
theorem dX11_bounds_40 : decode cX11_bounds 40 = .ok (.aload_n 0, 1) := by decide +kernel
theorem dX11_bounds_41 : decode cX11_bounds 41 = .ok (.invokevirtual 173, 3) := by decide +kernel
theorem dX11_bounds_44 : decode cX11_bounds 44 = .ok (.aload_n 0, 1) := by decide +kernel
theorem dX11_bounds_45 : decode cX11_bounds 45 = .ok (.getfield 7, 3) := by decide +kernel
theorem dX11_bounds_48 : decode cX11_bounds 48 = .ok (.iload_n 1, 1) := by decide +kernel
theorem dX11_bounds_49 : decode cX11_bounds 49 = .ok (.iconst 2, 1) := by decide +kernel
theorem dX11_bounds_50 : decode cX11_bounds 50 = .ok (.iload_n 2, 1) := by decide +kernel
theorem dX11_bounds_51 : decode cX11_bounds 51 = .ok (.imul, 1) := by decide +kernel
theorem dX11_bounds_52 : decode cX11_bounds 52 = .ok (.iadd, 1) := by decide +kernel
theorem dX11_bounds_53 : decode cX11_bounds 53 = .ok (.iload_n 3, 1) := by decide +kernel
theorem dX11_bounds_54 : decode cX11_bounds 54 = .ok (.iastore, 1) := by decide +kernel
theorem dX11_bounds_55 : decode cX11_bounds 55 = .ok (.aload_n 0, 1) := by decide +kernel
theorem dX11_bounds_56 : decode cX11_bounds 56 = .ok (.getfield 7, 3) := by decide +kernel
theorem dX11_bounds_59 : decode cX11_bounds 59 = .ok (.iload_n 1, 1) := by decide +kernel
theorem dX11_bounds_60 : decode cX11_bounds 60 = .ok (.iconst 2, 1) := by decide +kernel
theorem dX11_bounds_61 : decode cX11_bounds 61 = .ok (.iload_n 2, 1) := by decide +kernel
theorem dX11_bounds_62 : decode cX11_bounds 62 = .ok (.imul, 1) := by decide +kernel
theorem dX11_bounds_63 : decode cX11_bounds 63 = .ok (.iadd, 1) := by decide +kernel
theorem dX11_bounds_64 : decode cX11_bounds 64 = .ok (.iconst 1, 1) := by decide +kernel
theorem dX11_bounds_65 : decode cX11_bounds 65 = .ok (.iadd, 1) := by decide +kernel
theorem dX11_bounds_66 : decode cX11_bounds 66 = .ok (.iload 4, 2) := by decide +kernel
theorem dX11_bounds_68 : decode cX11_bounds 68 = .ok (.iastore, 1) := by decide +kernel
theorem dX11_bounds_69 : decode cX11_bounds 69 = .ok (.aload_n 0, 1) := by decide +kernel
theorem dX11_bounds_70 : decode cX11_bounds 70 = .ok (.invokevirtual 134, 3) := by decide +kernel
theorem dX11_bounds_73 : decode cX11_bounds 73 = .ok (.ifCond .eq 7, 3) := by decide +kernel
theorem dX11_bounds_76 : decode cX11_bounds 76 = .ok (.iconst 0, 1) := by decide +kernel
theorem dX11_bounds_77 : decode cX11_bounds 77 = .ok (.goto 4, 3) := by decide +kernel
theorem dX11_bounds_80 : decode cX11_bounds 80 = .ok (.iconst 1, 1) := by decide +kernel
theorem dX11_bounds_81 : decode cX11_bounds 81 = .ok (.ireturn, 1) := by decide +kernel
set_option maxRecDepth 20000 in
theorem ggX11_born_X11_bounds : GoodIn wsX11_born wsX11_bounds := goodIn_r _ [5, 6, 7, 8, 9, 10, 11, 12, 4, 13, 14, 15, 16, 17, 18, 19, 20, 21, 22, 23, 24, 25, 26, 27, 28, 29, 30, 31, 32, 33, 34, 35, 36, 37, 38, 39, 40, 41, 42, 43, 44, 45, 46, 47, 48, 49, 50, 51, 52, 53, 54, 55, 56, 57, 58, 59, 60, 61, 62] (by decide +kernel) (by decide +kernel)
set_option maxRecDepth 20000 in
theorem gX11_born_X11_bounds : GoodIn wsX11_born (wsV RX11 179 RX11 yX11_bounds wsX11_bounds) := goodIn_app (goodIn_of _ (by decide +kernel)) ggX11_born_X11_bounds
theorem dX11_born_0 : decode cX11_born 0 = .ok (.aload_n 0, 1) := by decide +kernel
theorem dX11_born_1 : decode cX11_born 1 = .ok (.bipush 77, 2) := by decide +kernel
theorem dX11_born_3 : decode cX11_born 3 = .ok (.iload_n 1, 1) := by decide +kernel
theorem dX11_born_4 : decode cX11_born 4 = .ok (.iload_n 2, 1) := by decide +kernel
theorem dX11_born_5 : decode cX11_born 5 = .ok (.iload_n 3, 1) := by decide +kernel
theorem dX11_born_6 : decode cX11_born 6 = .ok (.invokevirtual 179, 3) := by decide +kernel
theorem dX11_born_9 : decode cX11_born 9 = .ok (.ireturn, 1) := by decide +kernel
set_option maxRecDepth 20000 in
theorem ggX11_died_X11_bounds : GoodIn wsX11_died wsX11_bounds := goodIn_r _ [5, 6, 7, 8, 9, 10, 11, 12, 4, 13, 14, 15, 16, 17, 18, 19, 20, 21, 22, 23, 24, 25, 26, 27, 28, 29, 30, 31, 32, 33, 34, 35, 36, 37, 38, 39, 40, 41, 42, 43, 44, 45, 46, 47, 48, 49, 50, 51, 52, 53, 54, 55, 56, 57, 58, 59, 60, 61, 62] (by decide +kernel) (by decide +kernel)
set_option maxRecDepth 20000 in
theorem gX11_died_X11_bounds : GoodIn wsX11_died (wsV RX11 179 RX11 yX11_bounds wsX11_bounds) := goodIn_app (goodIn_of _ (by decide +kernel)) ggX11_died_X11_bounds
theorem dX11_died_0 : decode cX11_died 0 = .ok (.aload_n 0, 1) := by decide +kernel
theorem dX11_died_1 : decode cX11_died 1 = .ok (.bipush 109, 2) := by decide +kernel
theorem dX11_died_3 : decode cX11_died 3 = .ok (.iload_n 1, 1) := by decide +kernel
theorem dX11_died_4 : decode cX11_died 4 = .ok (.iload_n 2, 1) := by decide +kernel
theorem dX11_died_5 : decode cX11_died 5 = .ok (.iload_n 3, 1) := by decide +kernel
theorem dX11_died_6 : decode cX11_died 6 = .ok (.invokevirtual 179, 3) := by decide +kernel
theorem dX11_died_9 : decode cX11_died 9 = .ok (.ireturn, 1) := by decide +kernel
set_option maxRecDepth 20000 in
theorem ggX11_rule_X11_in : GoodIn wsX11_rule wsX11_in := goodIn_r _ [7] (by decide +kernel) (by decide +kernel)
set_option maxRecDepth 20000 in
theorem gX11_rule_X11_in : GoodIn wsX11_rule (va_wsS RX11 61 yX11_in wsX11_in) := goodIn_app (goodIn_of _ (by decide +kernel)) ggX11_rule_X11_in
set_option maxRecDepth 20000 in
theorem ggX11_rule_X11_minds : GoodIn wsX11_rule wsX11_minds := goodIn_r _ [11, 12, 3, 13, 14, 15, 6, 16, 60, 61, 62, 63, 64, 65, 66, 67, 68, 69, 70, 71, 72, 73, 74, 75, 76, 77] (by decide +kernel) (by decide +kernel)
set_option maxRecDepth 20000 in
theorem gX11_rule_X11_minds : GoodIn wsX11_rule (wsV RX11 173 RX11 yX11_minds wsX11_minds) := goodIn_app (goodIn_of _ (by decide +kernel)) ggX11_rule_X11_minds
set_option maxRecDepth 20000 in
theorem ggX11_rule_X11_coats : GoodIn wsX11_rule wsX11_coats := goodIn_r _ [20, 3, 21, 22, 23, 6, 24, 25, 26, 27, 28, 29, 30, 31, 32, 33, 34, 35, 36, 37, 38, 39, 40, 41, 4, 5, 7, 42, 43, 44, 45, 46, 47, 48, 49, 50, 51, 52, 53, 54, 55, 56, 57, 58, 59, 60, 61, 62, 63, 64, 65, 66, 67, 68, 69, 70, 71, 72, 73, 74, 75, 76, 77] (by decide +kernel) (by decide +kernel)
set_option maxRecDepth 20000 in
theorem gX11_rule_X11_coats : GoodIn wsX11_rule (wsV RX11 131 RX11 yX11_coats wsX11_coats) := goodIn_app (goodIn_of _ (by decide +kernel)) ggX11_rule_X11_coats
theorem dX11_rule_0 : decode cX11_rule 0 = .ok (.iload_n 1, 1) := by decide +kernel
theorem dX11_rule_1 : decode cX11_rule 1 = .ok (.i2l, 1) := by decide +kernel
theorem dX11_rule_2 : decode cX11_rule 2 = .ok (.lconst 0, 1) := by decide +kernel
theorem dX11_rule_3 : decode cX11_rule 3 = .ok (.ldc2_w 183, 3) := by decide +kernel
theorem dX11_rule_6 : decode cX11_rule 6 = .ok (.invokestatic 61, 3) := by decide +kernel
theorem dX11_rule_9 : decode cX11_rule 9 = .ok (.ifCond .ne 6, 3) := by decide +kernel
theorem dX11_rule_12 : decode cX11_rule 12 = .ok (.ldc 147, 2) := by decide +kernel
theorem dX11_rule_14 : decode cX11_rule 14 = .ok (.ireturn, 1) := by decide +kernel
theorem dX11_rule_15 : decode cX11_rule 15 = .ok (.aload_n 0, 1) := by decide +kernel
theorem dX11_rule_16 : decode cX11_rule 16 = .ok (.invokevirtual 173, 3) := by decide +kernel
theorem dX11_rule_19 : decode cX11_rule 19 = .ok (.aload_n 0, 1) := by decide +kernel
theorem dX11_rule_20 : decode cX11_rule 20 = .ok (.getfield 7, 3) := by decide +kernel
theorem dX11_rule_23 : decode cX11_rule 23 = .ok (.iconst 1, 1) := by decide +kernel
theorem dX11_rule_24 : decode cX11_rule 24 = .ok (.iload_n 1, 1) := by decide +kernel
theorem dX11_rule_25 : decode cX11_rule 25 = .ok (.iastore, 1) := by decide +kernel
theorem dX11_rule_26 : decode cX11_rule 26 = .ok (.aload_n 0, 1) := by decide +kernel
theorem dX11_rule_27 : decode cX11_rule 27 = .ok (.invokevirtual 131, 3) := by decide +kernel
theorem dX11_rule_30 : decode cX11_rule 30 = .ok (.ireturn, 1) := by decide +kernel
set_option maxRecDepth 20000 in
theorem ggX11_sign_X11_in : GoodIn wsX11_sign wsX11_in := goodIn_r _ [8] (by decide +kernel) (by decide +kernel)
set_option maxRecDepth 20000 in
theorem gX11_sign_X11_in : GoodIn wsX11_sign (va_wsS RX11 61 yX11_in wsX11_in) := goodIn_app (goodIn_of _ (by decide +kernel)) ggX11_sign_X11_in
set_option maxRecDepth 20000 in
theorem ggX11_sign_X11_minds : GoodIn wsX11_sign wsX11_minds := goodIn_r _ [12, 13, 3, 14, 15, 16, 7, 17, 18, 19, 20, 21, 22, 23, 24, 25, 26, 27, 28, 29, 30, 31, 32, 33, 34, 35] (by decide +kernel) (by decide +kernel)
set_option maxRecDepth 20000 in
theorem gX11_sign_X11_minds : GoodIn wsX11_sign (wsV RX11 173 RX11 yX11_minds wsX11_minds) := goodIn_app (goodIn_of _ (by decide +kernel)) ggX11_sign_X11_minds
theorem dX11_sign_0 : decode cX11_sign 0 = .ok (.iload_n 1, 1) := by decide +kernel
theorem dX11_sign_1 : decode cX11_sign 1 = .ok (.i2l, 1) := by decide +kernel
theorem dX11_sign_2 : decode cX11_sign 2 = .ok (.lconst 0, 1) := by decide +kernel
theorem dX11_sign_3 : decode cX11_sign 3 = .ok (.ldc2_w 185, 3) := by decide +kernel
theorem dX11_sign_6 : decode cX11_sign 6 = .ok (.invokestatic 61, 3) := by decide +kernel
theorem dX11_sign_9 : decode cX11_sign 9 = .ok (.ifCond .ne 6, 3) := by decide +kernel
theorem dX11_sign_12 : decode cX11_sign 12 = .ok (.ldc 147, 2) := by decide +kernel
theorem dX11_sign_14 : decode cX11_sign 14 = .ok (.ireturn, 1) := by decide +kernel
theorem dX11_sign_15 : decode cX11_sign 15 = .ok (.aload_n 0, 1) := by decide +kernel
theorem dX11_sign_16 : decode cX11_sign 16 = .ok (.getfield 7, 3) := by decide +kernel
theorem dX11_sign_19 : decode cX11_sign 19 = .ok (.iconst 2, 1) := by decide +kernel
theorem dX11_sign_20 : decode cX11_sign 20 = .ok (.iaload, 1) := by decide +kernel
theorem dX11_sign_21 : decode cX11_sign 21 = .ok (.bipush 10, 2) := by decide +kernel
theorem dX11_sign_23 : decode cX11_sign 23 = .ok (.if_icmp .ne 6, 3) := by decide +kernel
theorem dX11_sign_26 : decode cX11_sign 26 = .ok (.ldc 172, 2) := by decide +kernel
theorem dX11_sign_28 : decode cX11_sign 28 = .ok (.ireturn, 1) := by decide +kernel
theorem dX11_sign_29 : decode cX11_sign 29 = .ok (.aload_n 0, 1) := by decide +kernel
theorem dX11_sign_30 : decode cX11_sign 30 = .ok (.invokevirtual 173, 3) := by decide +kernel
theorem dX11_sign_33 : decode cX11_sign 33 = .ok (.aload_n 0, 1) := by decide +kernel
theorem dX11_sign_34 : decode cX11_sign 34 = .ok (.getfield 7, 3) := by decide +kernel
theorem dX11_sign_37 : decode cX11_sign 37 = .ok (.iconst 3, 1) := by decide +kernel
theorem dX11_sign_38 : decode cX11_sign 38 = .ok (.aload_n 0, 1) := by decide +kernel
theorem dX11_sign_39 : decode cX11_sign 39 = .ok (.getfield 7, 3) := by decide +kernel
theorem dX11_sign_42 : decode cX11_sign 42 = .ok (.iconst 2, 1) := by decide +kernel
theorem dX11_sign_43 : decode cX11_sign 43 = .ok (.iaload, 1) := by decide +kernel
theorem dX11_sign_44 : decode cX11_sign 44 = .ok (.iadd, 1) := by decide +kernel
theorem dX11_sign_45 : decode cX11_sign 45 = .ok (.iload_n 1, 1) := by decide +kernel
theorem dX11_sign_46 : decode cX11_sign 46 = .ok (.iastore, 1) := by decide +kernel
theorem dX11_sign_47 : decode cX11_sign 47 = .ok (.aload_n 0, 1) := by decide +kernel
theorem dX11_sign_48 : decode cX11_sign 48 = .ok (.getfield 7, 3) := by decide +kernel
theorem dX11_sign_51 : decode cX11_sign 51 = .ok (.iconst 2, 1) := by decide +kernel
theorem dX11_sign_52 : decode cX11_sign 52 = .ok (.dup2, 1) := by decide +kernel
theorem dX11_sign_53 : decode cX11_sign 53 = .ok (.iaload, 1) := by decide +kernel
theorem dX11_sign_54 : decode cX11_sign 54 = .ok (.iconst 1, 1) := by decide +kernel
theorem dX11_sign_55 : decode cX11_sign 55 = .ok (.iadd, 1) := by decide +kernel
theorem dX11_sign_56 : decode cX11_sign 56 = .ok (.iastore, 1) := by decide +kernel
theorem dX11_sign_57 : decode cX11_sign 57 = .ok (.aload_n 0, 1) := by decide +kernel
theorem dX11_sign_58 : decode cX11_sign 58 = .ok (.getfield 7, 3) := by decide +kernel
theorem dX11_sign_61 : decode cX11_sign 61 = .ok (.iconst 2, 1) := by decide +kernel
theorem dX11_sign_62 : decode cX11_sign 62 = .ok (.iaload, 1) := by decide +kernel
theorem dX11_sign_63 : decode cX11_sign 63 = .ok (.ireturn, 1) := by decide +kernel
set_option maxRecDepth 20000 in
theorem ggX11_wipe_X11_minds : GoodIn wsX11_wipe wsX11_minds := goodIn_r _ [6, 7, 1, 8, 9, 10, 5, 11, 12, 13, 14, 15, 16, 17, 18, 19, 20, 21, 22, 23, 24, 25, 26, 27, 28, 29] (by decide +kernel) (by decide +kernel)
set_option maxRecDepth 20000 in
theorem gX11_wipe_X11_minds : GoodIn wsX11_wipe (wsV RX11 173 RX11 yX11_minds wsX11_minds) := goodIn_app (goodIn_of _ (by decide +kernel)) ggX11_wipe_X11_minds
theorem dX11_wipe_0 : decode cX11_wipe 0 = .ok (.aload_n 0, 1) := by decide +kernel
theorem dX11_wipe_1 : decode cX11_wipe 1 = .ok (.invokevirtual 173, 3) := by decide +kernel
theorem dX11_wipe_4 : decode cX11_wipe 4 = .ok (.aload_n 0, 1) := by decide +kernel
theorem dX11_wipe_5 : decode cX11_wipe 5 = .ok (.getfield 7, 3) := by decide +kernel
theorem dX11_wipe_8 : decode cX11_wipe 8 = .ok (.iconst 2, 1) := by decide +kernel
theorem dX11_wipe_9 : decode cX11_wipe 9 = .ok (.iaload, 1) := by decide +kernel
theorem dX11_wipe_10 : decode cX11_wipe 10 = .ok (.istore_n 1, 1) := by decide +kernel
theorem dX11_wipe_11 : decode cX11_wipe 11 = .ok (.aload_n 0, 1) := by decide +kernel
theorem dX11_wipe_12 : decode cX11_wipe 12 = .ok (.getfield 7, 3) := by decide +kernel
theorem dX11_wipe_15 : decode cX11_wipe 15 = .ok (.iconst 2, 1) := by decide +kernel
theorem dX11_wipe_16 : decode cX11_wipe 16 = .ok (.iconst 0, 1) := by decide +kernel
theorem dX11_wipe_17 : decode cX11_wipe 17 = .ok (.iastore, 1) := by decide +kernel
theorem dX11_wipe_18 : decode cX11_wipe 18 = .ok (.iload_n 1, 1) := by decide +kernel
theorem dX11_wipe_19 : decode cX11_wipe 19 = .ok (.ireturn, 1) := by decide +kernel
theorem dX11_draw_0 : decode cX11_draw 0 = .ok (.aload_n 0, 1) := by decide +kernel
theorem dX11_draw_1 : decode cX11_draw 1 = .ok (.aload_n 0, 1) := by decide +kernel
theorem dX11_draw_2 : decode cX11_draw 2 = .ok (.getfield 187, 3) := by decide +kernel
theorem dX11_draw_5 : decode cX11_draw 5 = .ok (.i2l, 1) := by decide +kernel
theorem dX11_draw_6 : decode cX11_draw 6 = .ok (.ldc2_w 190, 3) := by decide +kernel
theorem dX11_draw_9 : decode cX11_draw 9 = .ok (.lmul, 1) := by decide +kernel
theorem dX11_draw_10 : decode cX11_draw 10 = .ok (.ldc2_w 192, 3) := by decide +kernel
theorem dX11_draw_13 : decode cX11_draw 13 = .ok (.ladd, 1) := by decide +kernel
theorem dX11_draw_14 : decode cX11_draw 14 = .ok (.ldc2_w 194, 3) := by decide +kernel
theorem dX11_draw_17 : decode cX11_draw 17 = .ok (.lrem, 1) := by decide +kernel
theorem dX11_draw_18 : decode cX11_draw 18 = .ok (.l2i, 1) := by decide +kernel
theorem dX11_draw_19 : decode cX11_draw 19 = .ok (.putfield 187, 3) := by decide +kernel
theorem dX11_draw_22 : decode cX11_draw 22 = .ok (.aload_n 0, 1) := by decide +kernel
theorem dX11_draw_23 : decode cX11_draw 23 = .ok (.getfield 187, 3) := by decide +kernel
theorem dX11_draw_26 : decode cX11_draw 26 = .ok (.ldc 196, 2) := by decide +kernel
theorem dX11_draw_28 : decode cX11_draw 28 = .ok (.idiv, 1) := by decide +kernel
theorem dX11_draw_29 : decode cX11_draw 29 = .ok (.iload_n 1, 1) := by decide +kernel
theorem dX11_draw_30 : decode cX11_draw 30 = .ok (.irem, 1) := by decide +kernel
theorem dX11_draw_31 : decode cX11_draw 31 = .ok (.ireturn, 1) := by decide +kernel
set_option maxRecDepth 20000 in
theorem ggX11_drift_X11_in : GoodIn wsX11_drift wsX11_in := goodIn_r _ [7] (by decide +kernel) (by decide +kernel)
set_option maxRecDepth 20000 in
theorem gX11_drift_X11_in : GoodIn wsX11_drift (va_wsS RX11 61 yX11_in wsX11_in) := goodIn_app (goodIn_of _ (by decide +kernel)) ggX11_drift_X11_in
set_option maxRecDepth 20000 in
theorem ggX11_drift_X11_minds : GoodIn wsX11_drift wsX11_minds := goodIn_r _ [11, 12, 3, 13, 14, 15, 6, 16, 42, 43, 44, 45, 46, 47, 48, 49, 50, 51, 52, 53, 54, 55, 56, 57, 58, 59] (by decide +kernel) (by decide +kernel)
set_option maxRecDepth 20000 in
theorem gX11_drift_X11_minds : GoodIn wsX11_drift (wsV RX11 173 RX11 yX11_minds wsX11_minds) := goodIn_app (goodIn_of _ (by decide +kernel)) ggX11_drift_X11_minds
set_option maxRecDepth 20000 in
theorem ggX11_drift_X11_draw : GoodIn wsX11_drift wsX11_draw := goodIn_r _ [20, 21, 22, 23, 24, 25, 42, 43, 44, 45, 46, 47, 48, 49, 50, 51, 52, 53, 54, 55, 56, 57, 58, 59] (by decide +kernel) (by decide +kernel)
set_option maxRecDepth 20000 in
theorem gX11_drift_X11_draw : GoodIn wsX11_drift (wsV RX11 199 RX11 yX11_draw wsX11_draw) := goodIn_app (goodIn_of _ (by decide +kernel)) ggX11_drift_X11_draw
set_option maxRecDepth 20000 in
theorem ggX11_drift_X11_isMan : GoodIn wsX11_drift wsX11_isMan := goodIn_r _ [29, 3, 30, 31, 32, 6, 33, 4, 5, 7, 42, 43, 44, 45, 46, 47, 48, 49, 50, 51, 52, 53, 54, 55, 56, 57, 58, 59] (by decide +kernel) (by decide +kernel)
set_option maxRecDepth 20000 in
theorem gX11_drift_X11_isMan : GoodIn wsX11_drift (wsV RX11 164 RX11 yX11_isMan wsX11_isMan) := goodIn_app (goodIn_of _ (by decide +kernel)) ggX11_drift_X11_isMan
set_option maxRecDepth 20000 in
theorem ggX11_drift_X11_isWoman : GoodIn wsX11_drift wsX11_isWoman := goodIn_r _ [37, 3, 30, 31, 32, 6, 33, 4, 5, 7, 42, 43, 44, 45, 46, 47, 48, 49, 50, 51, 52, 53, 54, 55, 56, 57, 58, 59] (by decide +kernel) (by decide +kernel)
set_option maxRecDepth 20000 in
theorem gX11_drift_X11_isWoman : GoodIn wsX11_drift (wsV RX11 69 RX11 yX11_isWoman wsX11_isWoman) := goodIn_app (goodIn_of _ (by decide +kernel)) ggX11_drift_X11_isWoman
set_option maxRecDepth 20000 in
theorem ggX11_drift_X11_comes : GoodIn wsX11_drift wsX11_comes := goodIn_r _ [41, 3, 42, 43, 44, 45, 46, 47, 48, 49, 50, 51, 52, 53, 54, 55, 56, 57, 58, 59] (by decide +kernel) (by decide +kernel)
set_option maxRecDepth 20000 in
theorem gX11_drift_X11_comes : GoodIn wsX11_drift (wsV RX11 176 RX11 yX11_comes wsX11_comes) := goodIn_app (goodIn_of _ (by decide +kernel)) ggX11_drift_X11_comes
theorem dX11_drift_0 : decode cX11_drift 0 = .ok (.iload_n 1, 1) := by decide +kernel
theorem dX11_drift_1 : decode cX11_drift 1 = .ok (.i2l, 1) := by decide +kernel
theorem dX11_drift_2 : decode cX11_drift 2 = .ok (.lconst 1, 1) := by decide +kernel
theorem dX11_drift_3 : decode cX11_drift 3 = .ok (.ldc2_w 197, 3) := by decide +kernel
theorem dX11_drift_6 : decode cX11_drift 6 = .ok (.invokestatic 61, 3) := by decide +kernel
theorem dX11_drift_9 : decode cX11_drift 9 = .ok (.ifCond .ne 6, 3) := by decide +kernel
theorem dX11_drift_12 : decode cX11_drift 12 = .ok (.ldc 147, 2) := by decide +kernel
theorem dX11_drift_14 : decode cX11_drift 14 = .ok (.ireturn, 1) := by decide +kernel
theorem dX11_drift_15 : decode cX11_drift 15 = .ok (.iconst 0, 1) := by decide +kernel
theorem dX11_drift_16 : decode cX11_drift 16 = .ok (.istore_n 2, 1) := by decide +kernel
theorem dX11_drift_17 : decode cX11_drift 17 = .ok (.iload_n 2, 1) := by decide +kernel
theorem dX11_drift_18 : decode cX11_drift 18 = .ok (.iload_n 1, 1) := by decide +kernel
theorem dX11_drift_19 : decode cX11_drift 19 = .ok (.if_icmp .ge 107, 3) := by decide +kernel
theorem dX11_drift_22 : decode cX11_drift 22 = .ok (.aload_n 0, 1) := by decide +kernel
theorem dX11_drift_23 : decode cX11_drift 23 = .ok (.getfield 7, 3) := by decide +kernel
theorem dX11_drift_26 : decode cX11_drift 26 = .ok (.iconst 0, 1) := by decide +kernel
theorem dX11_drift_27 : decode cX11_drift 27 = .ok (.iaload, 1) := by decide +kernel
theorem dX11_drift_28 : decode cX11_drift 28 = .ok (.bipush 16, 2) := by decide +kernel
theorem dX11_drift_30 : decode cX11_drift 30 = .ok (.if_icmp .ge 96, 3) := by decide +kernel
theorem dX11_drift_33 : decode cX11_drift 33 = .ok (.aload_n 0, 1) := by decide +kernel
theorem dX11_drift_34 : decode cX11_drift 34 = .ok (.invokevirtual 173, 3) := by decide +kernel
theorem dX11_drift_37 : decode cX11_drift 37 = .ok (.aload_n 0, 1) := by decide +kernel
theorem dX11_drift_38 : decode cX11_drift 38 = .ok (.iconst 2, 1) := by decide +kernel
theorem dX11_drift_39 : decode cX11_drift 39 = .ok (.invokevirtual 199, 3) := by decide +kernel
theorem dX11_drift_42 : decode cX11_drift 42 = .ok (.istore_n 3, 1) := by decide +kernel
theorem dX11_drift_43 : decode cX11_drift 43 = .ok (.aload_n 0, 1) := by decide +kernel
theorem dX11_drift_44 : decode cX11_drift 44 = .ok (.bipush 10, 2) := by decide +kernel
theorem dX11_drift_46 : decode cX11_drift 46 = .ok (.invokevirtual 199, 3) := by decide +kernel
theorem dX11_drift_49 : decode cX11_drift 49 = .ok (.istore 4, 2) := by decide +kernel
theorem dX11_drift_51 : decode cX11_drift 51 = .ok (.aload_n 0, 1) := by decide +kernel
theorem dX11_drift_52 : decode cX11_drift 52 = .ok (.aload_n 0, 1) := by decide +kernel
theorem dX11_drift_53 : decode cX11_drift 53 = .ok (.getfield 7, 3) := by decide +kernel
theorem dX11_drift_56 : decode cX11_drift 56 = .ok (.iconst 0, 1) := by decide +kernel
theorem dX11_drift_57 : decode cX11_drift 57 = .ok (.iaload, 1) := by decide +kernel
theorem dX11_drift_58 : decode cX11_drift 58 = .ok (.iconst 1, 1) := by decide +kernel
theorem dX11_drift_59 : decode cX11_drift 59 = .ok (.iadd, 1) := by decide +kernel
theorem dX11_drift_60 : decode cX11_drift 60 = .ok (.invokevirtual 199, 3) := by decide +kernel
theorem dX11_drift_63 : decode cX11_drift 63 = .ok (.iconst 1, 1) := by decide +kernel
theorem dX11_drift_64 : decode cX11_drift 64 = .ok (.isub, 1) := by decide +kernel
theorem dX11_drift_65 : decode cX11_drift 65 = .ok (.istore 5, 2) := by decide +kernel
theorem dX11_drift_67 : decode cX11_drift 67 = .ok (.aload_n 0, 1) := by decide +kernel
theorem dX11_drift_68 : decode cX11_drift 68 = .ok (.aload_n 0, 1) := by decide +kernel
theorem dX11_drift_69 : decode cX11_drift 69 = .ok (.getfield 7, 3) := by decide +kernel
theorem dX11_drift_72 : decode cX11_drift 72 = .ok (.iconst 0, 1) := by decide +kernel
theorem dX11_drift_73 : decode cX11_drift 73 = .ok (.iaload, 1) := by decide +kernel
theorem dX11_drift_74 : decode cX11_drift 74 = .ok (.iconst 1, 1) := by decide +kernel
theorem dX11_drift_75 : decode cX11_drift 75 = .ok (.iadd, 1) := by decide +kernel
theorem dX11_drift_76 : decode cX11_drift 76 = .ok (.invokevirtual 199, 3) := by decide +kernel
theorem dX11_drift_79 : decode cX11_drift 79 = .ok (.iconst 1, 1) := by decide +kernel
theorem dX11_drift_80 : decode cX11_drift 80 = .ok (.isub, 1) := by decide +kernel
theorem dX11_drift_81 : decode cX11_drift 81 = .ok (.istore 6, 2) := by decide +kernel
theorem dX11_drift_83 : decode cX11_drift 83 = .ok (.aload_n 0, 1) := by decide +kernel
theorem dX11_drift_84 : decode cX11_drift 84 = .ok (.iload_n 3, 1) := by decide +kernel
theorem dX11_drift_85 : decode cX11_drift 85 = .ok (.iload 4, 2) := by decide +kernel
theorem dX11_drift_87 : decode cX11_drift 87 = .ok (.aload_n 0, 1) := by decide +kernel
theorem dX11_drift_88 : decode cX11_drift 88 = .ok (.iload 5, 2) := by decide +kernel
theorem dX11_drift_90 : decode cX11_drift 90 = .ok (.invokevirtual 164, 3) := by decide +kernel
theorem dX11_drift_93 : decode cX11_drift 93 = .ok (.ifCond .eq 8, 3) := by decide +kernel
theorem dX11_drift_96 : decode cX11_drift 96 = .ok (.iload 5, 2) := by decide +kernel
theorem dX11_drift_98 : decode cX11_drift 98 = .ok (.goto 4, 3) := by decide +kernel
theorem dX11_drift_101 : decode cX11_drift 101 = .ok (.iconst (-1), 1) := by decide +kernel
theorem dX11_drift_102 : decode cX11_drift 102 = .ok (.aload_n 0, 1) := by decide +kernel
theorem dX11_drift_103 : decode cX11_drift 103 = .ok (.iload 6, 2) := by decide +kernel
theorem dX11_drift_105 : decode cX11_drift 105 = .ok (.invokevirtual 69, 3) := by decide +kernel
theorem dX11_drift_108 : decode cX11_drift 108 = .ok (.ifCond .eq 8, 3) := by decide +kernel
theorem dX11_drift_111 : decode cX11_drift 111 = .ok (.iload 6, 2) := by decide +kernel
theorem dX11_drift_113 : decode cX11_drift 113 = .ok (.goto 4, 3) := by decide +kernel
theorem dX11_drift_116 : decode cX11_drift 116 = .ok (.iconst (-1), 1) := by decide +kernel
theorem dX11_drift_117 : decode cX11_drift 117 = .ok (.invokevirtual 176, 3) := by decide +kernel
theorem dX11_drift_120 : decode cX11_drift 120 = .ok (.iinc 2 1, 3) := by decide +kernel
theorem dX11_drift_123 : decode cX11_drift 123 = .ok (.goto (-106), 3) := by decide +kernel
theorem dX11_drift_126 : decode cX11_drift 126 = .ok (.aload_n 0, 1) := by decide +kernel
theorem dX11_drift_127 : decode cX11_drift 127 = .ok (.getfield 7, 3) := by decide +kernel
theorem dX11_drift_130 : decode cX11_drift 130 = .ok (.iconst 0, 1) := by decide +kernel
theorem dX11_drift_131 : decode cX11_drift 131 = .ok (.iaload, 1) := by decide +kernel
theorem dX11_drift_132 : decode cX11_drift 132 = .ok (.ireturn, 1) := by decide +kernel
set_option maxRecDepth 20000 in
theorem ggX11_undo_X11_in : GoodIn wsX11_undo wsX11_in := goodIn_r _ [9] (by decide +kernel) (by decide +kernel)
set_option maxRecDepth 20000 in
theorem gX11_undo_X11_in : GoodIn wsX11_undo (va_wsS RX11 61 yX11_in wsX11_in) := goodIn_app (goodIn_of _ (by decide +kernel)) ggX11_undo_X11_in
set_option maxRecDepth 20000 in
theorem ggX11_undo_X11_copy : GoodIn wsX11_undo wsX11_copy := goodIn_r _ [13, 5, 14, 15, 16, 17, 18, 19, 20, 21, 22, 23, 24, 25, 26, 27, 28, 29, 30, 31] (by decide +kernel) (by decide +kernel)
set_option maxRecDepth 20000 in
theorem gX11_undo_X11_copy : GoodIn wsX11_undo (wsV RX11 57 RX11 yX11_copy wsX11_copy) := goodIn_app (goodIn_of _ (by decide +kernel)) ggX11_undo_X11_copy
theorem dX11_undo_0 : decode cX11_undo 0 = .ok (.iload_n 1, 1) := by decide +kernel
theorem dX11_undo_1 : decode cX11_undo 1 = .ok (.i2l, 1) := by decide +kernel
theorem dX11_undo_2 : decode cX11_undo 2 = .ok (.lconst 1, 1) := by decide +kernel
theorem dX11_undo_3 : decode cX11_undo 3 = .ok (.ldc2_w 202, 3) := by decide +kernel
theorem dX11_undo_6 : decode cX11_undo 6 = .ok (.invokestatic 61, 3) := by decide +kernel
theorem dX11_undo_9 : decode cX11_undo 9 = .ok (.ifCond .ne 6, 3) := by decide +kernel
theorem dX11_undo_12 : decode cX11_undo 12 = .ok (.ldc 147, 2) := by decide +kernel
theorem dX11_undo_14 : decode cX11_undo 14 = .ok (.ireturn, 1) := by decide +kernel
theorem dX11_undo_15 : decode cX11_undo 15 = .ok (.iload_n 1, 1) := by decide +kernel
theorem dX11_undo_16 : decode cX11_undo 16 = .ok (.aload_n 0, 1) := by decide +kernel
theorem dX11_undo_17 : decode cX11_undo 17 = .ok (.getfield 53, 3) := by decide +kernel
theorem dX11_undo_20 : decode cX11_undo 20 = .ok (.if_icmp .le 6, 3) := by decide +kernel
theorem dX11_undo_23 : decode cX11_undo 23 = .ok (.ldc 167, 2) := by decide +kernel
theorem dX11_undo_25 : decode cX11_undo 25 = .ok (.ireturn, 1) := by decide +kernel
theorem dX11_undo_26 : decode cX11_undo 26 = .ok (.aload_n 0, 1) := by decide +kernel
theorem dX11_undo_27 : decode cX11_undo 27 = .ok (.dup, 1) := by decide +kernel
theorem dX11_undo_28 : decode cX11_undo 28 = .ok (.getfield 53, 3) := by decide +kernel
theorem dX11_undo_31 : decode cX11_undo 31 = .ok (.iload_n 1, 1) := by decide +kernel
theorem dX11_undo_32 : decode cX11_undo 32 = .ok (.isub, 1) := by decide +kernel
theorem dX11_undo_33 : decode cX11_undo 33 = .ok (.putfield 53, 3) := by decide +kernel
theorem dX11_undo_36 : decode cX11_undo 36 = .ok (.aload_n 0, 1) := by decide +kernel
theorem dX11_undo_37 : decode cX11_undo 37 = .ok (.sipush 423, 3) := by decide +kernel
theorem dX11_undo_40 : decode cX11_undo 40 = .ok (.sipush 141, 3) := by decide +kernel
theorem dX11_undo_43 : decode cX11_undo 43 = .ok (.aload_n 0, 1) := by decide +kernel
theorem dX11_undo_44 : decode cX11_undo 44 = .ok (.getfield 53, 3) := by decide +kernel
theorem dX11_undo_47 : decode cX11_undo 47 = .ok (.imul, 1) := by decide +kernel
theorem dX11_undo_48 : decode cX11_undo 48 = .ok (.iadd, 1) := by decide +kernel
theorem dX11_undo_49 : decode cX11_undo 49 = .ok (.iconst 0, 1) := by decide +kernel
theorem dX11_undo_50 : decode cX11_undo 50 = .ok (.invokevirtual 57, 3) := by decide +kernel
theorem dX11_undo_53 : decode cX11_undo 53 = .ok (.aload_n 0, 1) := by decide +kernel
theorem dX11_undo_54 : decode cX11_undo 54 = .ok (.getfield 7, 3) := by decide +kernel
theorem dX11_undo_57 : decode cX11_undo 57 = .ok (.iconst 0, 1) := by decide +kernel
theorem dX11_undo_58 : decode cX11_undo 58 = .ok (.iaload, 1) := by decide +kernel
theorem dX11_undo_59 : decode cX11_undo 59 = .ok (.ireturn, 1) := by decide +kernel
set_option maxRecDepth 20000 in
theorem ggX11_write_X11_isOne : GoodIn wsX11_write wsX11_isOne := goodIn_r _ [13, 14, 15, 16, 12, 17, 18, 19, 20, 21, 22, 23, 24, 25, 26, 27, 28, 29, 30, 31, 32, 33, 34, 35] (by decide +kernel) (by decide +kernel)
set_option maxRecDepth 20000 in
theorem gX11_write_X11_isOne : GoodIn wsX11_write (wsV RX11 65 RX11 yX11_isOne wsX11_isOne) := goodIn_app (goodIn_of _ (by decide +kernel)) ggX11_write_X11_isOne
set_option maxRecDepth 20000 in
theorem ggX11_write_X11_in : GoodIn wsX11_write wsX11_in := goodIn_r _ [17] (by decide +kernel) (by decide +kernel)
set_option maxRecDepth 20000 in
theorem gX11_write_X11_in : GoodIn wsX11_write (va_wsS RX11 61 yX11_in wsX11_in) := goodIn_app (goodIn_of _ (by decide +kernel)) ggX11_write_X11_in
theorem dX11_write_0 : decode cX11_write 0 = .ok (.aload_n 0, 1) := by decide +kernel
theorem dX11_write_1 : decode cX11_write 1 = .ok (.iload_n 1, 1) := by decide +kernel
theorem dX11_write_2 : decode cX11_write 2 = .ok (.invokevirtual 65, 3) := by decide +kernel
theorem dX11_write_5 : decode cX11_write 5 = .ok (.ifCond .ne 6, 3) := by decide +kernel
theorem dX11_write_8 : decode cX11_write 8 = .ok (.ldc 148, 2) := by decide +kernel
theorem dX11_write_10 : decode cX11_write 10 = .ok (.ireturn, 1) := by decide +kernel
theorem dX11_write_11 : decode cX11_write 11 = .ok (.iload_n 2, 1) := by decide +kernel
theorem dX11_write_12 : decode cX11_write 12 = .ok (.i2l, 1) := by decide +kernel
theorem dX11_write_13 : decode cX11_write 13 = .ok (.lconst 0, 1) := by decide +kernel
theorem dX11_write_14 : decode cX11_write 14 = .ok (.ldc2_w 170, 3) := by decide +kernel
theorem dX11_write_17 : decode cX11_write 17 = .ok (.invokestatic 61, 3) := by decide +kernel
theorem dX11_write_20 : decode cX11_write 20 = .ok (.ifCond .eq 15, 3) := by decide +kernel
theorem dX11_write_23 : decode cX11_write 23 = .ok (.iload_n 3, 1) := by decide +kernel
theorem dX11_write_24 : decode cX11_write 24 = .ok (.i2l, 1) := by decide +kernel
theorem dX11_write_25 : decode cX11_write 25 = .ok (.lconst 0, 1) := by decide +kernel
theorem dX11_write_26 : decode cX11_write 26 = .ok (.ldc2_w 170, 3) := by decide +kernel
theorem dX11_write_29 : decode cX11_write 29 = .ok (.invokestatic 61, 3) := by decide +kernel
theorem dX11_write_32 : decode cX11_write 32 = .ok (.ifCond .ne 6, 3) := by decide +kernel
theorem dX11_write_35 : decode cX11_write 35 = .ok (.ldc 147, 2) := by decide +kernel
theorem dX11_write_37 : decode cX11_write 37 = .ok (.ireturn, 1) := by decide +kernel
theorem dX11_write_38 : decode cX11_write 38 = .ok (.aload_n 0, 1) := by decide +kernel
theorem dX11_write_39 : decode cX11_write 39 = .ok (.getfield 124, 3) := by decide +kernel
theorem dX11_write_42 : decode cX11_write 42 = .ok (.bipush 20, 2) := by decide +kernel
theorem dX11_write_44 : decode cX11_write 44 = .ok (.if_icmp .ne 6, 3) := by decide +kernel
theorem dX11_write_47 : decode cX11_write 47 = .ok (.ldc 172, 2) := by decide +kernel
theorem dX11_write_49 : decode cX11_write 49 = .ok (.ireturn, 1) := by decide +kernel
theorem dX11_write_50 : decode cX11_write 50 = .ok (.aload_n 0, 1) := by decide +kernel
theorem dX11_write_51 : decode cX11_write 51 = .ok (.getfield 20, 3) := by decide +kernel
theorem dX11_write_54 : decode cX11_write 54 = .ok (.aload_n 0, 1) := by decide +kernel
theorem dX11_write_55 : decode cX11_write 55 = .ok (.getfield 124, 3) := by decide +kernel
theorem dX11_write_58 : decode cX11_write 58 = .ok (.iload_n 1, 1) := by decide +kernel
theorem dX11_write_59 : decode cX11_write 59 = .ok (.iastore, 1) := by decide +kernel
theorem dX11_write_60 : decode cX11_write 60 = .ok (.aload_n 0, 1) := by decide +kernel
theorem dX11_write_61 : decode cX11_write 61 = .ok (.getfield 23, 3) := by decide +kernel
theorem dX11_write_64 : decode cX11_write 64 = .ok (.aload_n 0, 1) := by decide +kernel
theorem dX11_write_65 : decode cX11_write 65 = .ok (.getfield 124, 3) := by decide +kernel
theorem dX11_write_68 : decode cX11_write 68 = .ok (.iload_n 2, 1) := by decide +kernel
theorem dX11_write_69 : decode cX11_write 69 = .ok (.iastore, 1) := by decide +kernel
theorem dX11_write_70 : decode cX11_write 70 = .ok (.aload_n 0, 1) := by decide +kernel
theorem dX11_write_71 : decode cX11_write 71 = .ok (.getfield 26, 3) := by decide +kernel
theorem dX11_write_74 : decode cX11_write 74 = .ok (.aload_n 0, 1) := by decide +kernel
theorem dX11_write_75 : decode cX11_write 75 = .ok (.getfield 124, 3) := by decide +kernel
theorem dX11_write_78 : decode cX11_write 78 = .ok (.iload_n 3, 1) := by decide +kernel
theorem dX11_write_79 : decode cX11_write 79 = .ok (.iastore, 1) := by decide +kernel
theorem dX11_write_80 : decode cX11_write 80 = .ok (.aload_n 0, 1) := by decide +kernel
theorem dX11_write_81 : decode cX11_write 81 = .ok (.dup, 1) := by decide +kernel
theorem dX11_write_82 : decode cX11_write 82 = .ok (.getfield 124, 3) := by decide +kernel
theorem dX11_write_85 : decode cX11_write 85 = .ok (.iconst 1, 1) := by decide +kernel
theorem dX11_write_86 : decode cX11_write 86 = .ok (.iadd, 1) := by decide +kernel
theorem dX11_write_87 : decode cX11_write 87 = .ok (.putfield 124, 3) := by decide +kernel
theorem dX11_write_90 : decode cX11_write 90 = .ok (.aload_n 0, 1) := by decide +kernel
theorem dX11_write_91 : decode cX11_write 91 = .ok (.getfield 124, 3) := by decide +kernel
theorem dX11_write_94 : decode cX11_write 94 = .ok (.ireturn, 1) := by decide +kernel
theorem dX11_tear_0 : decode cX11_tear 0 = .ok (.aload_n 0, 1) := by decide +kernel
theorem dX11_tear_1 : decode cX11_tear 1 = .ok (.getfield 124, 3) := by decide +kernel
theorem dX11_tear_4 : decode cX11_tear 4 = .ok (.istore_n 1, 1) := by decide +kernel
theorem dX11_tear_5 : decode cX11_tear 5 = .ok (.aload_n 0, 1) := by decide +kernel
theorem dX11_tear_6 : decode cX11_tear 6 = .ok (.iconst 0, 1) := by decide +kernel
theorem dX11_tear_7 : decode cX11_tear 7 = .ok (.putfield 124, 3) := by decide +kernel
theorem dX11_tear_10 : decode cX11_tear 10 = .ok (.iload_n 1, 1) := by decide +kernel
theorem dX11_tear_11 : decode cX11_tear 11 = .ok (.ireturn, 1) := by decide +kernel
theorem dX11_seed_0 : decode cX11_seed 0 = .ok (.iload_n 1, 1) := by decide +kernel
theorem dX11_seed_1 : decode cX11_seed 1 = .ok (.ifCond .ge 6, 3) := by decide +kernel
theorem dX11_seed_4 : decode cX11_seed 4 = .ok (.ldc 147, 2) := by decide +kernel
theorem dX11_seed_6 : decode cX11_seed 6 = .ok (.ireturn, 1) := by decide +kernel
theorem dX11_seed_7 : decode cX11_seed 7 = .ok (.aload_n 0, 1) := by decide +kernel
theorem dX11_seed_8 : decode cX11_seed 8 = .ok (.getfield 187, 3) := by decide +kernel
theorem dX11_seed_11 : decode cX11_seed 11 = .ok (.istore_n 2, 1) := by decide +kernel
theorem dX11_seed_12 : decode cX11_seed 12 = .ok (.aload_n 0, 1) := by decide +kernel
theorem dX11_seed_13 : decode cX11_seed 13 = .ok (.iload_n 1, 1) := by decide +kernel
theorem dX11_seed_14 : decode cX11_seed 14 = .ok (.putfield 187, 3) := by decide +kernel
theorem dX11_seed_17 : decode cX11_seed 17 = .ok (.iload_n 2, 1) := by decide +kernel
theorem dX11_seed_18 : decode cX11_seed 18 = .ok (.ireturn, 1) := by decide +kernel
set_option maxRecDepth 20000 in
theorem ggX11_keep_X11_in : GoodIn wsX11_keep wsX11_in := goodIn_r _ [9] (by decide +kernel) (by decide +kernel)
set_option maxRecDepth 20000 in
theorem gX11_keep_X11_in : GoodIn wsX11_keep (va_wsS RX11 61 yX11_in wsX11_in) := goodIn_app (goodIn_of _ (by decide +kernel)) ggX11_keep_X11_in
set_option maxRecDepth 20000 in
theorem ggX11_keep_X11_copy : GoodIn wsX11_keep wsX11_copy := goodIn_r _ [13, 14, 15, 16, 17, 18, 19, 20, 21, 22, 23, 24, 25, 26, 27, 28, 29, 30, 31, 32] (by decide +kernel) (by decide +kernel)
set_option maxRecDepth 20000 in
theorem gX11_keep_X11_copy : GoodIn wsX11_keep (wsV RX11 57 RX11 yX11_copy wsX11_copy) := goodIn_app (goodIn_of _ (by decide +kernel)) ggX11_keep_X11_copy
theorem dX11_keep_0 : decode cX11_keep 0 = .ok (.iload_n 1, 1) := by decide +kernel
theorem dX11_keep_1 : decode cX11_keep 1 = .ok (.i2l, 1) := by decide +kernel
theorem dX11_keep_2 : decode cX11_keep 2 = .ok (.lconst 0, 1) := by decide +kernel
theorem dX11_keep_3 : decode cX11_keep 3 = .ok (.lconst 1, 1) := by decide +kernel
theorem dX11_keep_4 : decode cX11_keep 4 = .ok (.invokestatic 61, 3) := by decide +kernel
theorem dX11_keep_7 : decode cX11_keep 7 = .ok (.ifCond .ne 6, 3) := by decide +kernel
theorem dX11_keep_10 : decode cX11_keep 10 = .ok (.ldc 148, 2) := by decide +kernel
theorem dX11_keep_12 : decode cX11_keep 12 = .ok (.ireturn, 1) := by decide +kernel
theorem dX11_keep_13 : decode cX11_keep 13 = .ok (.aload_n 0, 1) := by decide +kernel
theorem dX11_keep_14 : decode cX11_keep 14 = .ok (.iconst 0, 1) := by decide +kernel
theorem dX11_keep_15 : decode cX11_keep 15 = .ok (.sipush 141, 3) := by decide +kernel
theorem dX11_keep_18 : decode cX11_keep 18 = .ok (.sipush 141, 3) := by decide +kernel
theorem dX11_keep_21 : decode cX11_keep 21 = .ok (.iload_n 1, 1) := by decide +kernel
theorem dX11_keep_22 : decode cX11_keep 22 = .ok (.imul, 1) := by decide +kernel
theorem dX11_keep_23 : decode cX11_keep 23 = .ok (.iadd, 1) := by decide +kernel
theorem dX11_keep_24 : decode cX11_keep 24 = .ok (.invokevirtual 57, 3) := by decide +kernel
theorem dX11_keep_27 : decode cX11_keep 27 = .ok (.aload_n 0, 1) := by decide +kernel
theorem dX11_keep_28 : decode cX11_keep 28 = .ok (.getfield 13, 3) := by decide +kernel
theorem dX11_keep_31 : decode cX11_keep 31 = .ok (.iload_n 1, 1) := by decide +kernel
theorem dX11_keep_32 : decode cX11_keep 32 = .ok (.aload_n 0, 1) := by decide +kernel
theorem dX11_keep_33 : decode cX11_keep 33 = .ok (.getfield 187, 3) := by decide +kernel
theorem dX11_keep_36 : decode cX11_keep 36 = .ok (.iastore, 1) := by decide +kernel
theorem dX11_keep_37 : decode cX11_keep 37 = .ok (.aload_n 0, 1) := by decide +kernel
theorem dX11_keep_38 : decode cX11_keep 38 = .ok (.getfield 16, 3) := by decide +kernel
theorem dX11_keep_41 : decode cX11_keep 41 = .ok (.iload_n 1, 1) := by decide +kernel
theorem dX11_keep_42 : decode cX11_keep 42 = .ok (.iconst 1, 1) := by decide +kernel
theorem dX11_keep_43 : decode cX11_keep 43 = .ok (.bastore, 1) := by decide +kernel
theorem dX11_keep_44 : decode cX11_keep 44 = .ok (.aload_n 0, 1) := by decide +kernel
theorem dX11_keep_45 : decode cX11_keep 45 = .ok (.iconst 0, 1) := by decide +kernel
theorem dX11_keep_46 : decode cX11_keep 46 = .ok (.putfield 53, 3) := by decide +kernel
theorem dX11_keep_49 : decode cX11_keep 49 = .ok (.iconst 1, 1) := by decide +kernel
theorem dX11_keep_50 : decode cX11_keep 50 = .ok (.ireturn, 1) := by decide +kernel
set_option maxRecDepth 20000 in
theorem ggX11_goBack_X11_in : GoodIn wsX11_goBack wsX11_in := goodIn_r _ [10] (by decide +kernel) (by decide +kernel)
set_option maxRecDepth 20000 in
theorem gX11_goBack_X11_in : GoodIn wsX11_goBack (va_wsS RX11 61 yX11_in wsX11_in) := goodIn_app (goodIn_of _ (by decide +kernel)) ggX11_goBack_X11_in
set_option maxRecDepth 20000 in
theorem ggX11_goBack_X11_copy : GoodIn wsX11_goBack wsX11_copy := goodIn_r _ [14, 15, 16, 17, 18, 19, 20, 21, 22, 23, 24, 25, 26, 27, 28, 29, 30, 31, 32, 33] (by decide +kernel) (by decide +kernel)
set_option maxRecDepth 20000 in
theorem gX11_goBack_X11_copy : GoodIn wsX11_goBack (wsV RX11 57 RX11 yX11_copy wsX11_copy) := goodIn_app (goodIn_of _ (by decide +kernel)) ggX11_goBack_X11_copy
theorem dX11_goBack_0 : decode cX11_goBack 0 = .ok (.iload_n 1, 1) := by decide +kernel
theorem dX11_goBack_1 : decode cX11_goBack 1 = .ok (.i2l, 1) := by decide +kernel
theorem dX11_goBack_2 : decode cX11_goBack 2 = .ok (.lconst 0, 1) := by decide +kernel
theorem dX11_goBack_3 : decode cX11_goBack 3 = .ok (.lconst 1, 1) := by decide +kernel
theorem dX11_goBack_4 : decode cX11_goBack 4 = .ok (.invokestatic 61, 3) := by decide +kernel
theorem dX11_goBack_7 : decode cX11_goBack 7 = .ok (.ifCond .ne 6, 3) := by decide +kernel
theorem dX11_goBack_10 : decode cX11_goBack 10 = .ok (.ldc 148, 2) := by decide +kernel
theorem dX11_goBack_12 : decode cX11_goBack 12 = .ok (.ireturn, 1) := by decide +kernel
theorem dX11_goBack_13 : decode cX11_goBack 13 = .ok (.aload_n 0, 1) := by decide +kernel
theorem dX11_goBack_14 : decode cX11_goBack 14 = .ok (.getfield 16, 3) := by decide +kernel
theorem dX11_goBack_17 : decode cX11_goBack 17 = .ok (.iload_n 1, 1) := by decide +kernel
theorem dX11_goBack_18 : decode cX11_goBack 18 = .ok (.baload, 1) := by decide +kernel
theorem dX11_goBack_19 : decode cX11_goBack 19 = .ok (.ifCond .ne 6, 3) := by decide +kernel
theorem dX11_goBack_22 : decode cX11_goBack 22 = .ok (.ldc 167, 2) := by decide +kernel
theorem dX11_goBack_24 : decode cX11_goBack 24 = .ok (.ireturn, 1) := by decide +kernel
theorem dX11_goBack_25 : decode cX11_goBack 25 = .ok (.aload_n 0, 1) := by decide +kernel
theorem dX11_goBack_26 : decode cX11_goBack 26 = .ok (.sipush 141, 3) := by decide +kernel
theorem dX11_goBack_29 : decode cX11_goBack 29 = .ok (.sipush 141, 3) := by decide +kernel
theorem dX11_goBack_32 : decode cX11_goBack 32 = .ok (.iload_n 1, 1) := by decide +kernel
theorem dX11_goBack_33 : decode cX11_goBack 33 = .ok (.imul, 1) := by decide +kernel
theorem dX11_goBack_34 : decode cX11_goBack 34 = .ok (.iadd, 1) := by decide +kernel
theorem dX11_goBack_35 : decode cX11_goBack 35 = .ok (.iconst 0, 1) := by decide +kernel
theorem dX11_goBack_36 : decode cX11_goBack 36 = .ok (.invokevirtual 57, 3) := by decide +kernel
theorem dX11_goBack_39 : decode cX11_goBack 39 = .ok (.aload_n 0, 1) := by decide +kernel
theorem dX11_goBack_40 : decode cX11_goBack 40 = .ok (.aload_n 0, 1) := by decide +kernel
theorem dX11_goBack_41 : decode cX11_goBack 41 = .ok (.getfield 13, 3) := by decide +kernel
theorem dX11_goBack_44 : decode cX11_goBack 44 = .ok (.iload_n 1, 1) := by decide +kernel
theorem dX11_goBack_45 : decode cX11_goBack 45 = .ok (.iaload, 1) := by decide +kernel
theorem dX11_goBack_46 : decode cX11_goBack 46 = .ok (.putfield 187, 3) := by decide +kernel
theorem dX11_goBack_49 : decode cX11_goBack 49 = .ok (.aload_n 0, 1) := by decide +kernel
theorem dX11_goBack_50 : decode cX11_goBack 50 = .ok (.iconst 0, 1) := by decide +kernel
theorem dX11_goBack_51 : decode cX11_goBack 51 = .ok (.putfield 53, 3) := by decide +kernel
theorem dX11_goBack_54 : decode cX11_goBack 54 = .ok (.iconst 1, 1) := by decide +kernel
theorem dX11_goBack_55 : decode cX11_goBack 55 = .ok (.ireturn, 1) := by decide +kernel
theorem dJ9_max_7cf53_0 : decode cJ9_max_7cf53 0 = .ok (.iload_n 0, 1) := by decide +kernel
theorem dJ9_max_7cf53_1 : decode cJ9_max_7cf53 1 = .ok (.iload_n 1, 1) := by decide +kernel
theorem dJ9_max_7cf53_2 : decode cJ9_max_7cf53 2 = .ok (.if_icmp .lt 7, 3) := by decide +kernel
theorem dJ9_max_7cf53_5 : decode cJ9_max_7cf53 5 = .ok (.iload_n 0, 1) := by decide +kernel
theorem dJ9_max_7cf53_6 : decode cJ9_max_7cf53 6 = .ok (.goto 4, 3) := by decide +kernel
theorem dJ9_max_7cf53_9 : decode cJ9_max_7cf53 9 = .ok (.iload_n 1, 1) := by decide +kernel
theorem dJ9_max_7cf53_10 : decode cJ9_max_7cf53 10 = .ok (.ireturn, 1) := by decide +kernel
theorem dJ9_min_7cf53_0 : decode cJ9_min_7cf53 0 = .ok (.iload_n 0, 1) := by decide +kernel
theorem dJ9_min_7cf53_1 : decode cJ9_min_7cf53 1 = .ok (.iload_n 1, 1) := by decide +kernel
theorem dJ9_min_7cf53_2 : decode cJ9_min_7cf53 2 = .ok (.if_icmp .gt 7, 3) := by decide +kernel
theorem dJ9_min_7cf53_5 : decode cJ9_min_7cf53 5 = .ok (.iload_n 0, 1) := by decide +kernel
theorem dJ9_min_7cf53_6 : decode cJ9_min_7cf53 6 = .ok (.goto 4, 3) := by decide +kernel
theorem dJ9_min_7cf53_9 : decode cJ9_min_7cf53 9 = .ok (.iload_n 1, 1) := by decide +kernel
theorem dJ9_min_7cf53_10 : decode cJ9_min_7cf53 10 = .ok (.ireturn, 1) := by decide +kernel
set_option maxRecDepth 20000 in
theorem ggL_law_X10_init : GoodIn wsL_law wsX10_init := goodIn_r _ [8, 9, 10, 11, 12, 13, 14, 15, 16, 17, 18, 19, 20, 21, 22, 23, 24, 25, 26, 27, 28, 29, 30, 31, 32, 33, 34, 35, 36, 37, 38, 39, 40, 41, 42, 43, 44, 45, 46, 47, 48, 49, 50, 51, 52, 53, 54, 55, 56, 57, 58, 59, 60, 61, 62, 63, 64, 65, 66, 67, 68, 69, 70, 71, 72, 73, 74, 75, 76, 77, 78, 79, 80, 81, 82, 83, 84, 85, 86, 87, 88, 89, 90, 91, 92, 93, 94, 95, 96, 97, 98, 99, 100, 101, 102, 103, 104, 105, 106, 107, 108, 109, 110, 111, 112, 113, 114, 115, 116, 117, 118, 119, 120, 121, 122, 824, 797, 798, 799, 800, 801, 802, 803, 804, 805, 825, 826, 827, 828, 829, 830, 831, 832, 833, 834, 835, 836, 837, 838, 839, 840, 841, 842, 843, 844, 845, 846, 847, 848, 849, 850, 851, 852, 853, 854, 855] (by decide +kernel) (by decide +kernel)
set_option maxRecDepth 20000 in
theorem gL_law_X10_init : GoodIn wsL_law (wsX10_init) := ggL_law_X10_init
set_option maxRecDepth 20000 in
theorem ggL_law_X11_init : GoodIn wsL_law wsX11_init := goodIn_r _ [125, 126, 10, 11, 52, 127, 128, 115, 129, 130, 131, 132, 133, 134, 135, 136, 137, 138, 139, 140, 806, 807, 808, 809, 810, 811, 812, 813, 814, 815, 816, 817, 818, 819, 820, 821, 822, 823] (by decide +kernel) (by decide +kernel)
set_option maxRecDepth 20000 in
theorem gL_law_X11_init : GoodIn wsL_law (wsX11_init) := ggL_law_X11_init
set_option maxRecDepth 20000 in
theorem ggL_law_X10_told : GoodIn wsL_law wsX10_told := goodIn_r _ [144, 15, 19, 145, 23, 27, 35, 146, 39, 147, 148, 149, 150, 151, 14, 152, 53, 153, 154, 155, 156, 157, 158, 159, 160, 161, 162, 163, 18, 164, 165, 166, 167, 168, 169, 170, 171, 172, 173, 174, 175, 176, 177, 178, 179, 180, 58, 181, 182, 183, 184, 59, 185, 186, 187, 22, 188, 189, 190, 191, 192, 26, 193, 194, 195, 196, 197, 198, 199, 200, 201, 202, 203, 204, 205, 206, 207, 208, 209, 210, 211, 212, 213, 214, 215, 216, 217, 218, 219, 220, 221, 222, 223, 224, 225, 104, 226, 74, 227, 228, 229, 230, 231, 103, 105, 232, 233, 234, 34, 235, 236, 87, 237, 88, 89, 238, 797, 798, 799, 800, 801, 802, 803, 804, 805, 825, 826, 827, 828, 829, 843, 844, 845, 846, 847, 848, 849, 824, 830, 831, 832, 833, 834, 835, 836, 837, 838] (by decide +kernel) (by decide +kernel)
set_option maxRecDepth 20000 in
theorem gL_law_X10_told : GoodIn wsL_law (wsV RL 13 RX10 yX10_told wsX10_told) := goodIn_app (goodIn_of _ (by decide +kernel)) ggL_law_X10_told
set_option maxRecDepth 20000 in
theorem ggL_law_X11_told : GoodIn wsL_law wsX11_told := goodIn_r _ [242, 127, 243, 244, 245, 246, 247, 248, 5, 249, 250, 251, 252, 253, 254, 255, 256, 257, 258, 259, 260, 261, 262, 263, 264, 265, 266, 267, 268, 269, 270, 271, 272, 273, 274, 275, 276, 133, 277, 278, 279, 280, 134, 135, 281, 282, 283, 284, 285, 286, 287, 288, 289, 290, 291, 292, 293, 294, 295, 296, 136, 137, 297, 298, 299, 300, 301, 302, 303, 304, 305, 306, 307, 308, 309, 310, 311, 312, 313, 314, 315, 316, 317, 318, 319, 320, 321, 322, 323, 324, 325, 326, 327, 328, 329, 330, 331, 332, 333, 138, 334, 335, 336, 337, 130, 131, 132, 806, 807, 808, 809, 810, 811, 812, 813, 814, 815, 816, 817, 818, 819, 820, 821, 822, 823] (by decide +kernel) (by decide +kernel)
set_option maxRecDepth 20000 in
theorem gL_law_X11_told : GoodIn wsL_law (wsV RL 17 RX11 yX11_told wsX11_told) := goodIn_app (goodIn_of _ (by decide +kernel)) ggL_law_X11_told
set_option maxRecDepth 20000 in
theorem ggL_law_X10_person : GoodIn wsL_law wsX10_person := goodIn_r _ [341, 15, 342, 19, 27, 23, 148, 343, 344, 345, 14, 346, 53, 347, 348, 349, 350, 351, 352, 178, 179, 18, 180, 58, 353, 170, 171, 172, 165, 173, 174, 175, 176, 177, 181, 182, 183, 184, 59, 354, 221, 222, 26, 223, 224, 225, 104, 226, 74, 196, 195, 158, 159, 160, 200, 201, 202, 203, 204, 227, 228, 229, 230, 231, 103, 105, 205, 355, 356, 357, 358, 359, 150, 151, 152, 360, 361, 362, 363, 22, 364, 365, 366, 367, 368, 369, 370, 371, 65, 372, 373, 374, 375, 189, 376, 377, 378, 379, 380, 381, 382, 383, 384, 66, 385, 386, 387, 388, 389, 390, 391, 392, 393, 394, 395, 797, 798, 799, 800, 801, 802, 803, 804, 805, 824, 825, 826, 827, 828, 829, 838, 830, 831, 832, 833, 834, 835, 836, 837] (by decide +kernel) (by decide +kernel)
set_option maxRecDepth 20000 in
theorem gL_law_X10_person : GoodIn wsL_law (wsV RL 18 RX10 yX10_person wsX10_person) := goodIn_app (goodIn_of _ (by decide +kernel)) ggL_law_X10_person
set_option maxRecDepth 20000 in
theorem ggL_law_X11_person : GoodIn wsL_law wsX11_person := goodIn_r _ [399, 400, 127, 133, 401, 402, 245, 258, 259, 260, 5, 261, 262, 263, 264, 269, 270, 271, 272, 273, 274, 275, 276, 250, 251, 252, 253, 254, 255, 256, 257, 277, 278, 279, 280, 134, 135, 281, 282, 283, 284, 285, 286, 287, 288, 289, 290, 291, 292, 330, 331, 332, 333, 138, 403, 404, 405, 406, 407, 408, 409, 410, 136, 137, 293, 294, 295, 296, 297, 298, 299, 300, 301, 302, 303, 304, 305, 306, 307, 308, 309, 806, 807, 808, 809, 810, 811, 812, 813, 814, 815, 816, 817, 818, 819, 820, 821, 822, 823] (by decide +kernel) (by decide +kernel)
set_option maxRecDepth 20000 in
theorem gL_law_X11_person : GoodIn wsL_law (wsV RL 22 RX11 yX11_person wsX11_person) := goodIn_app (goodIn_of _ (by decide +kernel)) ggL_law_X11_person
set_option maxRecDepth 20000 in
theorem ggL_law_X10_quarter : GoodIn wsL_law wsX10_quarter := goodIn_r _ [414, 15, 342, 19, 148, 343, 344, 345, 14, 346, 53, 415, 182, 183, 18, 184, 59, 177, 178, 179, 180, 58, 416, 417, 418, 419, 60, 797, 798, 799, 800, 801, 802, 803, 804, 805, 824, 825, 826, 827, 828, 829] (by decide +kernel) (by decide +kernel)
set_option maxRecDepth 20000 in
theorem gL_law_X10_quarter : GoodIn wsL_law (wsV RL 23 RX10 yX10_quarter wsX10_quarter) := goodIn_app (goodIn_of _ (by decide +kernel)) ggL_law_X10_quarter
set_option maxRecDepth 20000 in
theorem ggL_law_X11_quarter : GoodIn wsL_law wsX11_quarter := goodIn_r _ [423, 400, 245, 133, 134, 135, 258, 259, 260, 5, 261, 127, 262, 263, 264, 269, 270, 271, 272, 273, 274, 275, 276, 250, 251, 252, 253, 254, 255, 256, 257, 277, 278, 279, 280, 281, 282, 283, 284, 806, 807, 808, 809, 810, 811, 812, 813, 814, 815, 816, 817, 818, 819, 820, 821, 822, 823] (by decide +kernel) (by decide +kernel)
set_option maxRecDepth 20000 in
theorem gL_law_X11_quarter : GoodIn wsL_law (wsV RL 27 RX11 yX11_quarter wsX11_quarter) := goodIn_app (goodIn_of _ (by decide +kernel)) ggL_law_X11_quarter
set_option maxRecDepth 20000 in
theorem ggL_law_X10_kin : GoodIn wsL_law wsX10_kin := goodIn_r _ [427, 15, 342, 148, 31, 428, 429, 343, 344, 345, 14, 346, 53, 430, 431, 432, 30, 433, 79, 80, 81, 82, 434, 435, 436, 437, 225, 104, 226, 438, 348, 349, 350, 351, 439, 440, 441, 442, 150, 151, 152, 797, 798, 799, 800, 801, 802, 803, 804, 805, 839, 840, 841, 842, 824] (by decide +kernel) (by decide +kernel)
set_option maxRecDepth 20000 in
theorem gL_law_X10_kin : GoodIn wsL_law (wsV RL 28 RX10 yX10_kin wsX10_kin) := goodIn_app (goodIn_of _ (by decide +kernel)) ggL_law_X10_kin
set_option maxRecDepth 20000 in
theorem ggL_law_X11_kin : GoodIn wsL_law wsX11_kin := goodIn_r _ [446, 400, 245, 139, 140, 127, 258, 259, 260, 5, 261, 262, 263, 264, 447, 448, 449, 450, 806, 807, 808, 809, 810, 811, 812, 813, 814, 815, 816, 817, 818, 819, 820, 821, 822, 823] (by decide +kernel) (by decide +kernel)
set_option maxRecDepth 20000 in
theorem gL_law_X11_kin : GoodIn wsL_law (wsV RL 31 RX11 yX11_kin wsX11_kin) := goodIn_app (goodIn_of _ (by decide +kernel)) ggL_law_X11_kin
set_option maxRecDepth 20000 in
theorem ggL_law_X10_would : GoodIn wsL_law wsX10_would := goodIn_r _ [454, 15, 342, 455, 19, 343, 344, 345, 14, 346, 53, 456, 457, 458, 459, 360, 348, 349, 350, 351, 460, 461, 462, 463, 464, 465, 466, 18, 467, 468, 469, 470, 471, 472, 58, 473, 154, 155, 156, 166, 167, 168, 474, 475, 476, 477, 478, 59, 60, 181, 182, 183, 184, 177, 178, 179, 180, 479, 417, 418, 419, 480, 481, 482, 483, 797, 798, 799, 800, 801, 802, 803, 804, 805, 824, 825, 826, 827, 828, 829] (by decide +kernel) (by decide +kernel)
set_option maxRecDepth 20000 in
theorem gL_law_X10_would : GoodIn wsL_law (wsV RL 32 RX10 yX10_would wsX10_would) := goodIn_app (goodIn_of _ (by decide +kernel)) ggL_law_X10_would
set_option maxRecDepth 20000 in
theorem ggL_law_X11_would : GoodIn wsL_law wsX11_would := goodIn_r _ [487, 400, 488, 127, 133, 258, 259, 260, 5, 261, 262, 263, 264, 489, 490, 491, 492, 254, 255, 256, 257, 269, 270, 271, 272, 273, 274, 275, 276, 250, 251, 252, 253, 277, 278, 279, 280, 134, 135, 281, 282, 283, 284, 806, 807, 808, 809, 810, 811, 812, 813, 814, 815, 816, 817, 818, 819, 820, 821, 822, 823] (by decide +kernel) (by decide +kernel)
set_option maxRecDepth 20000 in
theorem gL_law_X11_would : GoodIn wsL_law (wsV RL 35 RX11 yX11_would wsX11_would) := goodIn_app (goodIn_of _ (by decide +kernel)) ggL_law_X11_would
set_option maxRecDepth 20000 in
theorem ggL_law_X10_dated : GoodIn wsL_law wsX10_dated := goodIn_r _ [496, 148, 23, 15, 497, 498, 2, 499, 149, 150, 151, 14, 152, 53, 500, 501, 502, 22, 503, 189, 504, 386, 387, 388, 389, 390, 391, 368, 369, 370, 371, 65, 372, 373, 374, 375, 376, 505, 393, 394, 395, 381, 382, 383, 384, 66, 797, 798, 799, 800, 801, 802, 803, 804, 805, 824, 830, 831, 832, 833, 834, 835, 836, 837] (by decide +kernel) (by decide +kernel)
set_option maxRecDepth 20000 in
theorem gL_law_X10_dated : GoodIn wsL_law (wsV RL 36 RX10 yX10_dated wsX10_dated) := goodIn_app (goodIn_of _ (by decide +kernel)) ggL_law_X10_dated
set_option maxRecDepth 20000 in
theorem ggL_law_X11_dated : GoodIn wsL_law wsX11_dated := goodIn_r _ [509, 510, 245, 127, 136, 137, 262, 263, 5, 264, 293, 294, 295, 296, 297, 298, 299, 300, 301, 302, 303, 304, 305, 306, 307, 308, 309, 806, 807, 808, 809, 810, 811, 812, 813, 814, 815, 816, 817, 818, 819, 820, 821, 822, 823] (by decide +kernel) (by decide +kernel)
set_option maxRecDepth 20000 in
theorem gL_law_X11_dated : GoodIn wsL_law (wsV RL 39 RX11 yX11_dated wsX11_dated) := goodIn_app (goodIn_of _ (by decide +kernel)) ggL_law_X11_dated
set_option maxRecDepth 20000 in
theorem ggL_law_X10_signAt : GoodIn wsL_law wsX10_signAt := goodIn_r _ [514, 15, 515, 201, 202, 14, 203, 53, 204, 158, 159, 160, 797, 798, 799, 800, 801, 802, 803, 804, 805, 824] (by decide +kernel) (by decide +kernel)
set_option maxRecDepth 20000 in
theorem gL_law_X10_signAt : GoodIn wsL_law (wsV RL 40 RX10 yX10_signAt wsX10_signAt) := goodIn_app (goodIn_of _ (by decide +kernel)) ggL_law_X10_signAt
set_option maxRecDepth 20000 in
theorem ggL_law_X11_signAt : GoodIn wsL_law wsX11_signAt := goodIn_r _ [519, 127, 262, 263, 5, 264, 806, 807, 808, 809, 810, 811, 812, 813, 814, 815, 816, 817, 818, 819, 820, 821, 822, 823] (by decide +kernel) (by decide +kernel)
set_option maxRecDepth 20000 in
theorem gL_law_X11_signAt : GoodIn wsL_law (wsV RL 43 RX11 yX11_signAt wsX11_signAt) := goodIn_app (goodIn_of _ (by decide +kernel)) ggL_law_X11_signAt
set_option maxRecDepth 20000 in
theorem ggL_law_X10_put : GoodIn wsL_law wsX10_put := goodIn_r _ [523, 15, 342, 148, 455, 524, 39, 525, 526, 527, 14, 528, 351, 344, 345, 346, 53, 529, 530, 2, 531, 456, 457, 458, 459, 360, 348, 349, 350, 460, 461, 462, 463, 532, 533, 534, 535, 359, 150, 151, 152, 536, 537, 538, 38, 539, 97, 540, 541, 542, 225, 104, 226, 543, 544, 545, 96, 546, 106, 547, 107, 548, 549, 550, 551, 552, 553, 554, 555, 556, 557, 558, 559, 560, 19, 23, 561, 562, 563, 18, 564, 165, 472, 565, 566, 567, 568, 474, 569, 570, 166, 167, 168, 468, 469, 470, 471, 58, 473, 154, 155, 156, 475, 476, 477, 478, 59, 60, 181, 182, 183, 184, 177, 178, 179, 180, 479, 417, 418, 419, 480, 481, 482, 483, 571, 572, 573, 22, 574, 376, 189, 575, 576, 577, 578, 579, 65, 66, 365, 366, 367, 580, 389, 390, 391, 581, 582, 583, 584, 585, 586, 587, 588, 589, 69, 67, 68, 590, 591, 592, 593, 594, 595, 596, 597, 598, 599, 600, 601, 149, 797, 798, 799, 800, 801, 802, 803, 804, 805, 824, 847, 848, 849, 854, 855, 825, 826, 827, 828, 829, 830, 831, 832, 833, 834, 835, 836, 837] (by decide +kernel) (by decide +kernel)
set_option maxRecDepth 20000 in
theorem gL_law_X10_put : GoodIn wsL_law (wsV RL 44 RX10 yX10_put wsX10_put) := goodIn_app (goodIn_of _ (by decide +kernel)) ggL_law_X10_put
set_option maxRecDepth 20000 in
theorem ggL_law_X11_put : GoodIn wsL_law wsX11_put := goodIn_r _ [605, 400, 606, 245, 488, 127, 607, 258, 259, 260, 5, 261, 262, 263, 264, 489, 490, 491, 492, 254, 255, 256, 257, 608, 609, 610, 611, 244, 612, 613, 614, 615, 616, 617, 618, 619, 806, 807, 808, 809, 810, 811, 812, 813, 814, 815, 816, 817, 818, 819, 820, 821, 822, 823] (by decide +kernel) (by decide +kernel)
set_option maxRecDepth 20000 in
theorem gL_law_X11_put : GoodIn wsL_law (wsV RL 48 RX11 yX11_put wsX11_put) := goodIn_app (goodIn_of _ (by decide +kernel)) ggL_law_X11_put
set_option maxRecDepth 20000 in
theorem ggL_law_X10_born : GoodIn wsL_law wsX10_born := goodIn_r _ [623, 624, 625, 626, 2, 627, 15, 342, 148, 39, 23, 343, 344, 345, 14, 346, 53, 497, 498, 499, 536, 537, 538, 38, 539, 97, 540, 541, 542, 225, 104, 226, 543, 544, 545, 96, 546, 106, 547, 107, 548, 549, 550, 551, 628, 629, 630, 631, 351, 571, 572, 573, 22, 574, 376, 189, 575, 150, 151, 152, 576, 577, 578, 579, 65, 66, 365, 366, 367, 580, 348, 349, 350, 389, 390, 391, 581, 582, 583, 584, 585, 586, 587, 588, 589, 69, 67, 68, 590, 591, 592, 593, 594, 595, 596, 597, 598, 599, 600, 601, 185, 186, 187, 188, 797, 798, 799, 800, 801, 802, 803, 804, 805, 824, 847, 848, 849, 854, 855, 830, 831, 832, 833, 834, 835, 836, 837] (by decide +kernel) (by decide +kernel)
set_option maxRecDepth 20000 in
theorem gL_law_X10_born : GoodIn wsL_law (wsV RL 49 RX10 yX10_born wsX10_born) := goodIn_app (goodIn_of _ (by decide +kernel)) ggL_law_X10_born
set_option maxRecDepth 20000 in
theorem ggL_law_X11_born : GoodIn wsL_law wsX11_born := goodIn_r _ [635, 636, 637, 638, 5, 639, 400, 510, 245, 127, 258, 259, 260, 261, 262, 263, 264, 608, 609, 610, 611, 244, 612, 613, 614, 615, 293, 294, 295, 296, 136, 137, 297, 298, 299, 300, 301, 302, 303, 304, 305, 306, 307, 308, 309, 806, 807, 808, 809, 810, 811, 812, 813, 814, 815, 816, 817, 818, 819, 820, 821, 822, 823] (by decide +kernel) (by decide +kernel)
set_option maxRecDepth 20000 in
theorem gL_law_X11_born : GoodIn wsL_law (wsV RL 52 RX11 yX11_born wsX11_born) := goodIn_app (goodIn_of _ (by decide +kernel)) ggL_law_X11_born
set_option maxRecDepth 20000 in
theorem ggL_law_X10_died : GoodIn wsL_law wsX10_died := goodIn_r _ [643, 624, 625, 626, 2, 627, 15, 342, 148, 39, 23, 343, 344, 345, 14, 346, 53, 497, 498, 499, 536, 537, 538, 38, 539, 97, 540, 541, 542, 225, 104, 226, 543, 544, 545, 96, 546, 106, 547, 107, 548, 549, 550, 551, 628, 629, 630, 631, 351, 571, 572, 573, 22, 574, 376, 189, 575, 150, 151, 152, 576, 577, 578, 579, 65, 66, 365, 366, 367, 580, 348, 349, 350, 389, 390, 391, 581, 582, 583, 584, 585, 586, 587, 588, 589, 69, 67, 68, 590, 591, 592, 593, 594, 595, 596, 597, 598, 599, 600, 601, 185, 186, 187, 188, 797, 798, 799, 800, 801, 802, 803, 804, 805, 824, 847, 848, 849, 854, 855, 830, 831, 832, 833, 834, 835, 836, 837] (by decide +kernel) (by decide +kernel)
set_option maxRecDepth 20000 in
theorem gL_law_X10_died : GoodIn wsL_law (wsV RL 53 RX10 yX10_died wsX10_died) := goodIn_app (goodIn_of _ (by decide +kernel)) ggL_law_X10_died
set_option maxRecDepth 20000 in
theorem ggL_law_X11_died : GoodIn wsL_law wsX11_died := goodIn_r _ [647, 636, 637, 638, 5, 639, 400, 510, 245, 127, 258, 259, 260, 261, 262, 263, 264, 608, 609, 610, 611, 244, 612, 613, 614, 615, 293, 294, 295, 296, 136, 137, 297, 298, 299, 300, 301, 302, 303, 304, 305, 306, 307, 308, 309, 806, 807, 808, 809, 810, 811, 812, 813, 814, 815, 816, 817, 818, 819, 820, 821, 822, 823] (by decide +kernel) (by decide +kernel)
set_option maxRecDepth 20000 in
theorem gL_law_X11_died : GoodIn wsL_law (wsV RL 56 RX11 yX11_died wsX11_died) := goodIn_app (goodIn_of _ (by decide +kernel)) ggL_law_X11_died
set_option maxRecDepth 20000 in
theorem ggL_law_X10_rule : GoodIn wsL_law wsX10_rule := goodIn_r _ [651, 148, 39, 15, 19, 536, 537, 538, 38, 539, 97, 540, 541, 542, 225, 104, 226, 543, 544, 545, 96, 546, 106, 547, 107, 548, 549, 550, 551, 652, 653, 654, 14, 655, 53, 561, 562, 563, 18, 564, 165, 472, 565, 150, 151, 152, 566, 567, 568, 474, 348, 349, 350, 351, 344, 345, 346, 569, 457, 458, 459, 360, 570, 461, 462, 463, 166, 167, 168, 468, 469, 470, 471, 58, 473, 154, 155, 156, 475, 476, 477, 478, 59, 60, 181, 182, 183, 184, 177, 178, 179, 180, 479, 417, 418, 419, 480, 481, 482, 483, 161, 162, 163, 164, 169, 170, 171, 172, 173, 174, 175, 176, 797, 798, 799, 800, 801, 802, 803, 804, 805, 847, 848, 849, 854, 855, 824, 825, 826, 827, 828, 829] (by decide +kernel) (by decide +kernel)
set_option maxRecDepth 20000 in
theorem gL_law_X10_rule : GoodIn wsL_law (wsV RL 57 RX10 yX10_rule wsX10_rule) := goodIn_app (goodIn_of _ (by decide +kernel)) ggL_law_X10_rule
set_option maxRecDepth 20000 in
theorem ggL_law_X11_rule : GoodIn wsL_law wsX11_rule := goodIn_r _ [659, 660, 245, 127, 262, 263, 5, 264, 608, 609, 610, 611, 244, 612, 613, 614, 615, 265, 266, 267, 268, 269, 270, 271, 272, 273, 274, 275, 276, 133, 250, 251, 252, 253, 254, 255, 256, 257, 258, 259, 260, 261, 277, 278, 279, 280, 134, 135, 281, 282, 283, 284, 285, 286, 287, 288, 289, 290, 291, 292, 806, 807, 808, 809, 810, 811, 812, 813, 814, 815, 816, 817, 818, 819, 820, 821, 822, 823] (by decide +kernel) (by decide +kernel)
set_option maxRecDepth 20000 in
theorem gL_law_X11_rule : GoodIn wsL_law (wsV RL 60 RX11 yX11_rule wsX11_rule) := goodIn_app (goodIn_of _ (by decide +kernel)) ggL_law_X11_rule
set_option maxRecDepth 20000 in
theorem ggL_law_X10_sign : GoodIn wsL_law wsX10_sign := goodIn_r _ [664, 148, 15, 524, 39, 157, 158, 159, 14, 160, 53, 536, 537, 538, 38, 539, 97, 540, 541, 542, 225, 104, 226, 543, 544, 545, 96, 546, 106, 547, 107, 548, 549, 550, 551, 665, 666, 667, 668, 204, 797, 798, 799, 800, 801, 802, 803, 804, 805, 824, 847, 848, 849, 854, 855] (by decide +kernel) (by decide +kernel)
set_option maxRecDepth 20000 in
theorem gL_law_X10_sign : GoodIn wsL_law (wsV RL 61 RX10 yX10_sign wsX10_sign) := goodIn_app (goodIn_of _ (by decide +kernel)) ggL_law_X10_sign
set_option maxRecDepth 20000 in
theorem ggL_law_X11_sign : GoodIn wsL_law wsX11_sign := goodIn_r _ [672, 673, 245, 127, 607, 262, 263, 5, 264, 608, 609, 610, 611, 244, 612, 613, 614, 615, 806, 807, 808, 809, 810, 811, 812, 813, 814, 815, 816, 817, 818, 819, 820, 821, 822, 823] (by decide +kernel) (by decide +kernel)
set_option maxRecDepth 20000 in
theorem gL_law_X11_sign : GoodIn wsL_law (wsV RL 64 RX11 yX11_sign wsX11_sign) := goodIn_app (goodIn_of _ (by decide +kernel)) ggL_law_X11_sign
set_option maxRecDepth 20000 in
theorem ggL_law_X10_wipe : GoodIn wsL_law wsX10_wipe := goodIn_r _ [677, 15, 39, 157, 158, 159, 14, 160, 53, 536, 537, 538, 38, 539, 97, 540, 541, 542, 225, 104, 226, 543, 544, 545, 96, 546, 106, 547, 107, 548, 549, 550, 551, 678, 679, 680, 681, 797, 798, 799, 800, 801, 802, 803, 804, 805, 824, 847, 848, 849, 854, 855] (by decide +kernel) (by decide +kernel)
set_option maxRecDepth 20000 in
theorem gL_law_X10_wipe : GoodIn wsL_law (wsV RL 65 RX10 yX10_wipe wsX10_wipe) := goodIn_app (goodIn_of _ (by decide +kernel)) ggL_law_X10_wipe
set_option maxRecDepth 20000 in
theorem ggL_law_X11_wipe : GoodIn wsL_law wsX11_wipe := goodIn_r _ [685, 127, 608, 609, 610, 5, 611, 244, 612, 613, 614, 615, 806, 807, 808, 809, 810, 811, 812, 813, 814, 815, 816, 817, 818, 819, 820, 821, 822, 823] (by decide +kernel) (by decide +kernel)
set_option maxRecDepth 20000 in
theorem gL_law_X11_wipe : GoodIn wsL_law (wsV RL 69 RX11 yX11_wipe wsX11_wipe) := goodIn_app (goodIn_of _ (by decide +kernel)) ggL_law_X11_wipe
set_option maxRecDepth 20000 in
theorem ggL_law_X10_drift : GoodIn wsL_law wsX10_drift := goodIn_r _ [689, 148, 15, 39, 47, 532, 533, 534, 14, 535, 359, 150, 151, 152, 53, 536, 537, 538, 38, 539, 97, 540, 541, 542, 225, 104, 226, 543, 544, 545, 96, 546, 106, 547, 107, 548, 549, 550, 551, 690, 691, 692, 46, 693, 694, 695, 696, 697, 122, 698, 699, 700, 701, 702, 457, 458, 459, 360, 348, 349, 350, 351, 344, 345, 346, 703, 461, 462, 463, 704, 553, 554, 555, 556, 557, 558, 559, 2, 560, 19, 23, 561, 562, 563, 18, 564, 165, 472, 565, 566, 567, 568, 474, 569, 570, 166, 167, 168, 468, 469, 470, 471, 58, 473, 154, 155, 156, 475, 476, 477, 478, 59, 60, 181, 182, 183, 184, 177, 178, 179, 180, 479, 417, 418, 419, 480, 481, 482, 483, 571, 572, 573, 22, 574, 376, 189, 575, 576, 577, 578, 579, 65, 66, 365, 366, 367, 580, 389, 390, 391, 581, 582, 583, 584, 585, 586, 587, 588, 589, 69, 67, 68, 590, 591, 592, 593, 594, 595, 596, 597, 598, 599, 600, 601, 149, 797, 798, 799, 800, 801, 802, 803, 804, 805, 824, 847, 848, 849, 854, 855, 853, 825, 826, 827, 828, 829, 830, 831, 832, 833, 834, 835, 836, 837] (by decide +kernel) (by decide +kernel)
set_option maxRecDepth 20000 in
theorem gL_law_X10_drift : GoodIn wsL_law (wsV RL 70 RX10 yX10_drift wsX10_drift) := goodIn_app (goodIn_of _ (by decide +kernel)) ggL_law_X10_drift
set_option maxRecDepth 20000 in
theorem ggL_law_X11_drift : GoodIn wsL_law wsX11_drift := goodIn_r _ [708, 709, 245, 127, 262, 263, 5, 264, 608, 609, 610, 611, 244, 612, 613, 614, 615, 710, 711, 712, 713, 714, 715, 716, 717, 718, 489, 490, 491, 492, 258, 259, 260, 261, 254, 255, 256, 257, 616, 617, 618, 619, 806, 807, 808, 809, 810, 811, 812, 813, 814, 815, 816, 817, 818, 819, 820, 821, 822, 823] (by decide +kernel) (by decide +kernel)
set_option maxRecDepth 20000 in
theorem gL_law_X11_drift : GoodIn wsL_law (wsV RL 73 RX11 yX11_drift wsX11_drift) := goodIn_app (goodIn_of _ (by decide +kernel)) ggL_law_X11_drift
set_option maxRecDepth 20000 in
theorem ggL_law_X10_undo : GoodIn wsL_law wsX10_undo := goodIn_r _ [722, 148, 39, 147, 455, 15, 723, 724, 725, 38, 726, 541, 540, 97, 727, 728, 729, 96, 730, 106, 107, 547, 548, 549, 550, 551, 557, 558, 559, 2, 560, 19, 23, 561, 562, 563, 18, 564, 165, 472, 565, 150, 151, 14, 152, 53, 566, 567, 568, 474, 348, 349, 350, 351, 344, 345, 346, 569, 457, 458, 459, 360, 570, 461, 462, 463, 166, 167, 168, 468, 469, 470, 471, 58, 473, 154, 155, 156, 475, 476, 477, 478, 59, 60, 181, 182, 183, 184, 177, 178, 179, 180, 479, 417, 418, 419, 480, 481, 482, 483, 571, 572, 573, 22, 574, 376, 189, 575, 576, 577, 578, 579, 65, 66, 365, 366, 367, 580, 389, 390, 391, 581, 582, 583, 584, 585, 586, 587, 588, 589, 69, 67, 68, 590, 591, 592, 593, 594, 595, 596, 597, 598, 599, 600, 601, 149, 797, 798, 799, 800, 801, 802, 803, 804, 805, 847, 848, 849, 854, 855, 824, 825, 826, 827, 828, 829, 830, 831, 832, 833, 834, 835, 836, 837] (by decide +kernel) (by decide +kernel)
set_option maxRecDepth 20000 in
theorem gL_law_X10_undo : GoodIn wsL_law (wsV RL 74 RX10 yX10_undo wsX10_undo) := goodIn_app (goodIn_of _ (by decide +kernel)) ggL_law_X10_undo
set_option maxRecDepth 20000 in
theorem ggL_law_X11_undo : GoodIn wsL_law wsX11_undo := goodIn_r _ [734, 735, 245, 244, 488, 127, 262, 263, 5, 264, 612, 613, 614, 615, 806, 807, 808, 809, 810, 811, 812, 813, 814, 815, 816, 817, 818, 819, 820, 821, 822, 823] (by decide +kernel) (by decide +kernel)
set_option maxRecDepth 20000 in
theorem gL_law_X11_undo : GoodIn wsL_law (wsV RL 77 RX11 yX11_undo wsX11_undo) := goodIn_app (goodIn_of _ (by decide +kernel)) ggL_law_X11_undo
set_option maxRecDepth 20000 in
theorem ggL_law_X10_write : GoodIn wsL_law wsX10_write := goodIn_r _ [739, 15, 342, 148, 35, 146, 524, 343, 344, 345, 14, 346, 53, 529, 530, 2, 531, 740, 741, 742, 34, 743, 236, 87, 88, 89, 797, 798, 799, 800, 801, 802, 803, 804, 805, 843, 844, 845, 846, 824] (by decide +kernel) (by decide +kernel)
set_option maxRecDepth 20000 in
theorem gL_law_X10_write : GoodIn wsL_law (wsV RL 78 RX10 yX10_write wsX10_write) := goodIn_app (goodIn_of _ (by decide +kernel)) ggL_law_X10_write
set_option maxRecDepth 20000 in
theorem ggL_law_X11_write : GoodIn wsL_law wsX11_write := goodIn_r _ [747, 400, 606, 245, 243, 607, 130, 131, 132, 258, 259, 260, 5, 261, 127, 262, 263, 264, 806, 807, 808, 809, 810, 811, 812, 813, 814, 815, 816, 817, 818, 819, 820, 821, 822, 823] (by decide +kernel) (by decide +kernel)
set_option maxRecDepth 20000 in
theorem gL_law_X11_write : GoodIn wsL_law (wsV RL 81 RX11 yX11_write wsX11_write) := goodIn_app (goodIn_of _ (by decide +kernel)) ggL_law_X11_write
set_option maxRecDepth 20000 in
theorem ggL_law_X10_tear : GoodIn wsL_law wsX10_tear := goodIn_r _ [751, 35, 146, 797, 798, 799, 800, 801, 802, 803, 804, 805, 843, 844, 845, 846] (by decide +kernel) (by decide +kernel)
set_option maxRecDepth 20000 in
theorem gL_law_X10_tear : GoodIn wsL_law (wsV RL 82 RX10 yX10_tear wsX10_tear) := goodIn_app (goodIn_of _ (by decide +kernel)) ggL_law_X10_tear
set_option maxRecDepth 20000 in
theorem ggL_law_X11_tear : GoodIn wsL_law wsX11_tear := goodIn_r _ [755, 243, 806, 807, 808, 809, 810, 811, 812, 813, 814, 815, 816, 817, 818, 819, 820, 821, 822, 823] (by decide +kernel) (by decide +kernel)
set_option maxRecDepth 20000 in
theorem gL_law_X11_tear : GoodIn wsL_law (wsV RL 85 RX11 yX11_tear wsX11_tear) := goodIn_app (goodIn_of _ (by decide +kernel)) ggL_law_X11_tear
set_option maxRecDepth 20000 in
theorem ggL_law_X10_seed : GoodIn wsL_law wsX10_seed := goodIn_r _ [759, 148, 47, 760, 797, 798, 799, 800, 801, 802, 803, 804, 805, 853] (by decide +kernel) (by decide +kernel)
set_option maxRecDepth 20000 in
theorem gL_law_X10_seed : GoodIn wsL_law (wsV RL 86 RX10 yX10_seed wsX10_seed) := goodIn_app (goodIn_of _ (by decide +kernel)) ggL_law_X10_seed
set_option maxRecDepth 20000 in
theorem ggL_law_X11_seed : GoodIn wsL_law wsX11_seed := goodIn_r _ [764, 245, 714, 806, 807, 808, 809, 810, 811, 812, 813, 814, 815, 816, 817, 818, 819, 820, 821, 822, 823] (by decide +kernel) (by decide +kernel)
set_option maxRecDepth 20000 in
theorem gL_law_X11_seed : GoodIn wsL_law (wsV RL 89 RX11 yX11_seed wsX11_seed) := goodIn_app (goodIn_of _ (by decide +kernel)) ggL_law_X11_seed
set_option maxRecDepth 20000 in
theorem ggL_law_X10_keep : GoodIn wsL_law wsX10_keep := goodIn_r _ [768, 342, 43, 15, 47, 39, 147, 769, 770, 771, 42, 772, 113, 114, 773, 116, 774, 544, 545, 96, 546, 106, 547, 107, 548, 549, 550, 551, 797, 798, 799, 800, 801, 802, 803, 804, 805, 847, 848, 849, 850, 851, 852, 853, 854, 855, 824] (by decide +kernel) (by decide +kernel)
set_option maxRecDepth 20000 in
theorem gL_law_X10_keep : GoodIn wsL_law (wsV RL 90 RX10 yX10_keep wsX10_keep) := goodIn_app (goodIn_of _ (by decide +kernel)) ggL_law_X10_keep
set_option maxRecDepth 20000 in
theorem ggL_law_X11_keep : GoodIn wsL_law wsX11_keep := goodIn_r _ [778, 400, 128, 714, 129, 244, 262, 263, 5, 264, 612, 613, 614, 615, 127, 806, 807, 808, 809, 810, 811, 812, 813, 814, 815, 816, 817, 818, 819, 820, 821, 822, 823] (by decide +kernel) (by decide +kernel)
set_option maxRecDepth 20000 in
theorem gL_law_X11_keep : GoodIn wsL_law (wsV RL 93 RX11 yX11_keep wsX11_keep) := goodIn_app (goodIn_of _ (by decide +kernel)) ggL_law_X11_keep
set_option maxRecDepth 20000 in
theorem ggL_law_X10_goBack : GoodIn wsL_law wsX10_goBack := goodIn_r _ [782, 342, 43, 455, 15, 47, 39, 147, 783, 784, 785, 42, 786, 116, 787, 788, 789, 790, 113, 114, 773, 791, 792, 728, 729, 96, 730, 106, 107, 547, 548, 549, 550, 551, 557, 558, 559, 2, 560, 19, 23, 561, 562, 563, 18, 564, 165, 472, 565, 150, 151, 14, 152, 53, 566, 567, 568, 474, 348, 349, 350, 351, 344, 345, 346, 569, 457, 458, 459, 360, 570, 461, 462, 463, 166, 167, 168, 468, 469, 470, 471, 58, 473, 154, 155, 156, 475, 476, 477, 478, 59, 60, 181, 182, 183, 184, 177, 178, 179, 180, 479, 417, 418, 419, 480, 481, 482, 483, 571, 572, 573, 22, 574, 376, 189, 575, 576, 577, 578, 579, 65, 66, 365, 366, 367, 580, 389, 390, 391, 581, 582, 583, 584, 585, 586, 587, 588, 589, 69, 67, 68, 590, 591, 592, 593, 594, 595, 596, 597, 598, 599, 600, 601, 797, 798, 799, 800, 801, 802, 803, 804, 805, 847, 848, 849, 850, 851, 852, 853, 854, 855, 824, 825, 826, 827, 828, 829, 830, 831, 832, 833, 834, 835, 836, 837] (by decide +kernel) (by decide +kernel)
set_option maxRecDepth 20000 in
theorem gL_law_X10_goBack : GoodIn wsL_law (wsV RL 94 RX10 yX10_goBack wsX10_goBack) := goodIn_app (goodIn_of _ (by decide +kernel)) ggL_law_X10_goBack
set_option maxRecDepth 20000 in
theorem ggL_law_X11_goBack : GoodIn wsL_law wsX11_goBack := goodIn_r _ [796, 400, 129, 488, 128, 714, 244, 262, 263, 5, 264, 612, 613, 614, 615, 127, 806, 807, 808, 809, 810, 811, 812, 813, 814, 815, 816, 817, 818, 819, 820, 821, 822, 823] (by decide +kernel) (by decide +kernel)
set_option maxRecDepth 20000 in
theorem gL_law_X11_goBack : GoodIn wsL_law (wsV RL 97 RX11 yX11_goBack wsX11_goBack) := goodIn_app (goodIn_of _ (by decide +kernel)) ggL_law_X11_goBack
end
