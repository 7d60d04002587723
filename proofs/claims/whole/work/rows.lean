section
-- ===== PART A: goes FIRST, ahead of the names: the tables' words, and 'selects' of the private methods out of them =====
/-- a private method of a class that the tables say can be made, by its rows of tables_1 -/
def lw_okq (q : MethodName × Nat) : Prop := (q.1.cls ≠ "java/lang/invoke/MethodHandle" ∧ q.1.cls ≠ "java/lang/invoke/VarHandle") ∧ Cond.instantiable q.1.cls q.2 ∈ tables_1 ∧ Cond.privateMethod q.1 ∈ tables_1 ∧ Cond.instanceMethod q.1 ∈ tables_1
theorem lw_p0 : lw_okq (⟨"RemakeShelf$Rounds", "makeRule", "(LRemakeShelf$Rule;)LRemakeShelf$Outcome;"⟩, 10) := ⟨⟨by decide +kernel, by decide +kernel⟩, List.mem_of_getElem? (i := 37) (by decide +kernel), List.mem_of_getElem? (i := 353) (by decide +kernel), List.mem_of_getElem? (i := 354) (by decide +kernel)⟩
theorem lw_p1 : lw_okq (⟨"RemakeShelf$Rounds", "lookAt", "(LRemakeShelf$Rule;)LRemakeShelf$Outcome;"⟩, 10) := ⟨⟨by decide +kernel, by decide +kernel⟩, List.mem_of_getElem? (i := 37) (by decide +kernel), List.mem_of_getElem? (i := 357) (by decide +kernel), List.mem_of_getElem? (i := 358) (by decide +kernel)⟩
theorem lw_p2 : lw_okq (⟨"RemakeShelf$Rounds", "firstOther", "(LRemakeShelf$Rule;LRemakeShelf$Trace;)I"⟩, 10) := ⟨⟨by decide +kernel, by decide +kernel⟩, List.mem_of_getElem? (i := 37) (by decide +kernel), List.mem_of_getElem? (i := 362) (by decide +kernel), List.mem_of_getElem? (i := 363) (by decide +kernel)⟩
theorem lw_p3 : lw_okq (⟨"RemakeShelf$Rounds", "outcomeOf", "(I)LRemakeShelf$Outcome;"⟩, 10) := ⟨⟨by decide +kernel, by decide +kernel⟩, List.mem_of_getElem? (i := 37) (by decide +kernel), List.mem_of_getElem? (i := 367) (by decide +kernel), List.mem_of_getElem? (i := 368) (by decide +kernel)⟩
theorem lw_p4 : lw_okq (⟨"RemakeShelf$Rounds", "closeRing", "(LRemakeShelf$Rule;)LRemakeShelf$Outcome;"⟩, 10) := ⟨⟨by decide +kernel, by decide +kernel⟩, List.mem_of_getElem? (i := 37) (by decide +kernel), List.mem_of_getElem? (i := 372) (by decide +kernel), List.mem_of_getElem? (i := 373) (by decide +kernel)⟩
theorem lw_p5 : lw_okq (⟨"RemakeShelf$Rounds", "work", "(LRemakeShelf$Rule;)LRemakeShelf$Outcome;"⟩, 10) := ⟨⟨by decide +kernel, by decide +kernel⟩, List.mem_of_getElem? (i := 37) (by decide +kernel), List.mem_of_getElem? (i := 388) (by decide +kernel), List.mem_of_getElem? (i := 389) (by decide +kernel)⟩
theorem lw_p6 : lw_okq (⟨"RemakeShelf$Rounds", "noteWorked", "(LRemakeShelf$Rule;)V"⟩, 10) := ⟨⟨by decide +kernel, by decide +kernel⟩, List.mem_of_getElem? (i := 37) (by decide +kernel), List.mem_of_getElem? (i := 392) (by decide +kernel), List.mem_of_getElem? (i := 393) (by decide +kernel)⟩
theorem lw_p7 : lw_okq (⟨"RemakeShelf$Rounds", "readPicked", "(LRemakeShelf$Rule;I)LRemakeShelf$Outcome;"⟩, 10) := ⟨⟨by decide +kernel, by decide +kernel⟩, List.mem_of_getElem? (i := 37) (by decide +kernel), List.mem_of_getElem? (i := 422) (by decide +kernel), List.mem_of_getElem? (i := 423) (by decide +kernel)⟩
theorem lw_p8 : lw_okq (⟨"RemakeShelf$Rounds", "readInput", "(LRemakeShelf$Rule;I)LRemakeShelf$Outcome;"⟩, 10) := ⟨⟨by decide +kernel, by decide +kernel⟩, List.mem_of_getElem? (i := 37) (by decide +kernel), List.mem_of_getElem? (i := 426) (by decide +kernel), List.mem_of_getElem? (i := 427) (by decide +kernel)⟩
theorem lw_p9 : lw_okq (⟨"RemakeShelf$Rounds", "readInOrder", "(LRemakeShelf$Rule;)LRemakeShelf$Outcome;"⟩, 10) := ⟨⟨by decide +kernel, by decide +kernel⟩, List.mem_of_getElem? (i := 37) (by decide +kernel), List.mem_of_getElem? (i := 450) (by decide +kernel), List.mem_of_getElem? (i := 451) (by decide +kernel)⟩
theorem lw_p10 : lw_okq (⟨"RemakeShelf$Rounds", "ringBehind", "(LRemakeShelf$Outcome;)I"⟩, 10) := ⟨⟨by decide +kernel, by decide +kernel⟩, List.mem_of_getElem? (i := 37) (by decide +kernel), List.mem_of_getElem? (i := 470) (by decide +kernel), List.mem_of_getElem? (i := 471) (by decide +kernel)⟩
theorem lw_p11 : lw_okq (⟨"RemakeShelfModel", "find", "(I)I"⟩, 61) := ⟨⟨by decide +kernel, by decide +kernel⟩, List.mem_of_getElem? (i := 517) (by decide +kernel), List.mem_of_getElem? (i := 716) (by decide +kernel), List.mem_of_getElem? (i := 717) (by decide +kernel)⟩
theorem lw_p12 : lw_okq (⟨"RemakeShelfModel", "isRule", "(I)Z"⟩, 61) := ⟨⟨by decide +kernel, by decide +kernel⟩, List.mem_of_getElem? (i := 517) (by decide +kernel), List.mem_of_getElem? (i := 748) (by decide +kernel), List.mem_of_getElem? (i := 749) (by decide +kernel)⟩
theorem lw_p13 : lw_okq (⟨"RemakeShelfModel", "slotOf", "(II)I"⟩, 61) := ⟨⟨by decide +kernel, by decide +kernel⟩, List.mem_of_getElem? (i := 517) (by decide +kernel), List.mem_of_getElem? (i := 775) (by decide +kernel), List.mem_of_getElem? (i := 776) (by decide +kernel)⟩
theorem lw_p14 : lw_okq (⟨"RemakeShelfModel", "goRound", "(I)V"⟩, 61) := ⟨⟨by decide +kernel, by decide +kernel⟩, List.mem_of_getElem? (i := 517) (by decide +kernel), List.mem_of_getElem? (i := 783) (by decide +kernel), List.mem_of_getElem? (i := 784) (by decide +kernel)⟩
theorem lw_p15 : lw_okq (⟨"RemakeShelfModel", "opened", "(I)V"⟩, 61) := ⟨⟨by decide +kernel, by decide +kernel⟩, List.mem_of_getElem? (i := 517) (by decide +kernel), List.mem_of_getElem? (i := 787) (by decide +kernel), List.mem_of_getElem? (i := 788) (by decide +kernel)⟩
def lw_privs_1 : List (MethodName × Nat) := [(⟨"RemakeShelf$Rounds", "makeRule", "(LRemakeShelf$Rule;)LRemakeShelf$Outcome;"⟩, 10), (⟨"RemakeShelf$Rounds", "lookAt", "(LRemakeShelf$Rule;)LRemakeShelf$Outcome;"⟩, 10), (⟨"RemakeShelf$Rounds", "firstOther", "(LRemakeShelf$Rule;LRemakeShelf$Trace;)I"⟩, 10), (⟨"RemakeShelf$Rounds", "outcomeOf", "(I)LRemakeShelf$Outcome;"⟩, 10), (⟨"RemakeShelf$Rounds", "closeRing", "(LRemakeShelf$Rule;)LRemakeShelf$Outcome;"⟩, 10), (⟨"RemakeShelf$Rounds", "work", "(LRemakeShelf$Rule;)LRemakeShelf$Outcome;"⟩, 10), (⟨"RemakeShelf$Rounds", "noteWorked", "(LRemakeShelf$Rule;)V"⟩, 10), (⟨"RemakeShelf$Rounds", "readPicked", "(LRemakeShelf$Rule;I)LRemakeShelf$Outcome;"⟩, 10), (⟨"RemakeShelf$Rounds", "readInput", "(LRemakeShelf$Rule;I)LRemakeShelf$Outcome;"⟩, 10), (⟨"RemakeShelf$Rounds", "readInOrder", "(LRemakeShelf$Rule;)LRemakeShelf$Outcome;"⟩, 10), (⟨"RemakeShelf$Rounds", "ringBehind", "(LRemakeShelf$Outcome;)I"⟩, 10), (⟨"RemakeShelfModel", "find", "(I)I"⟩, 61), (⟨"RemakeShelfModel", "isRule", "(I)Z"⟩, 61), (⟨"RemakeShelfModel", "slotOf", "(II)I"⟩, 61), (⟨"RemakeShelfModel", "goRound", "(I)V"⟩, 61), (⟨"RemakeShelfModel", "opened", "(I)V"⟩, 61)]
theorem lw_r1 : ∀ q ∈ lw_privs_1, lw_okq q := List.forall_mem_cons.mpr ⟨lw_p0, List.forall_mem_cons.mpr ⟨lw_p1, List.forall_mem_cons.mpr ⟨lw_p2, List.forall_mem_cons.mpr ⟨lw_p3, List.forall_mem_cons.mpr ⟨lw_p4, List.forall_mem_cons.mpr ⟨lw_p5, List.forall_mem_cons.mpr ⟨lw_p6, List.forall_mem_cons.mpr ⟨lw_p7, List.forall_mem_cons.mpr ⟨lw_p8, List.forall_mem_cons.mpr ⟨lw_p9, List.forall_mem_cons.mpr ⟨lw_p10, List.forall_mem_cons.mpr ⟨lw_p11, List.forall_mem_cons.mpr ⟨lw_p12, List.forall_mem_cons.mpr ⟨lw_p13, List.forall_mem_cons.mpr ⟨lw_p14, List.forall_mem_cons.mpr ⟨lw_p15, fun _ h => absurd h List.not_mem_nil⟩⟩⟩⟩⟩⟩⟩⟩⟩⟩⟩⟩⟩⟩⟩⟩
theorem lw_p16 : lw_okq (⟨"RemakeShelfModel", "goes", "()V"⟩, 61) := ⟨⟨by decide +kernel, by decide +kernel⟩, List.mem_of_getElem? (i := 517) (by decide +kernel), List.mem_of_getElem? (i := 791) (by decide +kernel), List.mem_of_getElem? (i := 792) (by decide +kernel)⟩
theorem lw_p17 : lw_okq (⟨"RemakeShelfModel", "begins", "(I)V"⟩, 61) := ⟨⟨by decide +kernel, by decide +kernel⟩, List.mem_of_getElem? (i := 517) (by decide +kernel), List.mem_of_getElem? (i := 795) (by decide +kernel), List.mem_of_getElem? (i := 796) (by decide +kernel)⟩
theorem lw_p18 : lw_okq (⟨"RemakeShelfModel", "nextRead", "(I)I"⟩, 61) := ⟨⟨by decide +kernel, by decide +kernel⟩, List.mem_of_getElem? (i := 517) (by decide +kernel), List.mem_of_getElem? (i := 799) (by decide +kernel), List.mem_of_getElem? (i := 800) (by decide +kernel)⟩
theorem lw_p19 : lw_okq (⟨"RemakeShelfModel", "nextOld", "(I)I"⟩, 61) := ⟨⟨by decide +kernel, by decide +kernel⟩, List.mem_of_getElem? (i := 517) (by decide +kernel), List.mem_of_getElem? (i := 803) (by decide +kernel), List.mem_of_getElem? (i := 804) (by decide +kernel)⟩
theorem lw_p20 : lw_okq (⟨"RemakeShelfModel", "finishes", "(I)V"⟩, 61) := ⟨⟨by decide +kernel, by decide +kernel⟩, List.mem_of_getElem? (i := 517) (by decide +kernel), List.mem_of_getElem? (i := 807) (by decide +kernel), List.mem_of_getElem? (i := 808) (by decide +kernel)⟩
theorem lw_p21 : lw_okq (⟨"RemakeShelfModel", "sorts", "(I)V"⟩, 61) := ⟨⟨by decide +kernel, by decide +kernel⟩, List.mem_of_getElem? (i := 517) (by decide +kernel), List.mem_of_getElem? (i := 811) (by decide +kernel), List.mem_of_getElem? (i := 812) (by decide +kernel)⟩
theorem lw_p22 : lw_okq (⟨"RemakeShelfModel", "keeps", "(I)V"⟩, 61) := ⟨⟨by decide +kernel, by decide +kernel⟩, List.mem_of_getElem? (i := 517) (by decide +kernel), List.mem_of_getElem? (i := 815) (by decide +kernel), List.mem_of_getElem? (i := 816) (by decide +kernel)⟩
theorem lw_p23 : lw_okq (⟨"RemakeShelfModel", "freeSlot", "(I)I"⟩, 61) := ⟨⟨by decide +kernel, by decide +kernel⟩, List.mem_of_getElem? (i := 517) (by decide +kernel), List.mem_of_getElem? (i := 819) (by decide +kernel), List.mem_of_getElem? (i := 820) (by decide +kernel)⟩
theorem lw_p24 : lw_okq (⟨"RemakeShelfModel", "used", "(III)V"⟩, 61) := ⟨⟨by decide +kernel, by decide +kernel⟩, List.mem_of_getElem? (i := 517) (by decide +kernel), List.mem_of_getElem? (i := 823) (by decide +kernel), List.mem_of_getElem? (i := 824) (by decide +kernel)⟩
theorem lw_p25 : lw_okq (⟨"RemakeShelfModel", "keepsRead", "(II)V"⟩, 61) := ⟨⟨by decide +kernel, by decide +kernel⟩, List.mem_of_getElem? (i := 517) (by decide +kernel), List.mem_of_getElem? (i := 827) (by decide +kernel), List.mem_of_getElem? (i := 828) (by decide +kernel)⟩
theorem lw_p26 : lw_okq (⟨"RemakeShelfModel", "closed", "(I)V"⟩, 61) := ⟨⟨by decide +kernel, by decide +kernel⟩, List.mem_of_getElem? (i := 517) (by decide +kernel), List.mem_of_getElem? (i := 831) (by decide +kernel), List.mem_of_getElem? (i := 832) (by decide +kernel)⟩
theorem lw_p27 : lw_okq (⟨"RemakeShelfModel", "isFit", "(I)V"⟩, 61) := ⟨⟨by decide +kernel, by decide +kernel⟩, List.mem_of_getElem? (i := 517) (by decide +kernel), List.mem_of_getElem? (i := 835) (by decide +kernel), List.mem_of_getElem? (i := 836) (by decide +kernel)⟩
theorem lw_p28 : lw_okq (⟨"RemakeShelfModel", "get", "(I)Z"⟩, 61) := ⟨⟨by decide +kernel, by decide +kernel⟩, List.mem_of_getElem? (i := 517) (by decide +kernel), List.mem_of_getElem? (i := 839) (by decide +kernel), List.mem_of_getElem? (i := 840) (by decide +kernel)⟩
theorem lw_p29 : lw_okq (⟨"RemakeShelfModel", "gotFailure", "(II)V"⟩, 61) := ⟨⟨by decide +kernel, by decide +kernel⟩, List.mem_of_getElem? (i := 517) (by decide +kernel), List.mem_of_getElem? (i := 843) (by decide +kernel), List.mem_of_getElem? (i := 844) (by decide +kernel)⟩
theorem lw_p30 : lw_okq (⟨"RemakeShelfModel", "gotRow", "([III)V"⟩, 61) := ⟨⟨by decide +kernel, by decide +kernel⟩, List.mem_of_getElem? (i := 517) (by decide +kernel), List.mem_of_getElem? (i := 847) (by decide +kernel), List.mem_of_getElem? (i := 848) (by decide +kernel)⟩
theorem lw_p31 : lw_okq (⟨"RemakeShelfModel", "isRing", "(I)V"⟩, 61) := ⟨⟨by decide +kernel, by decide +kernel⟩, List.mem_of_getElem? (i := 517) (by decide +kernel), List.mem_of_getElem? (i := 851) (by decide +kernel), List.mem_of_getElem? (i := 852) (by decide +kernel)⟩
def lw_privs_2 : List (MethodName × Nat) := [(⟨"RemakeShelfModel", "goes", "()V"⟩, 61), (⟨"RemakeShelfModel", "begins", "(I)V"⟩, 61), (⟨"RemakeShelfModel", "nextRead", "(I)I"⟩, 61), (⟨"RemakeShelfModel", "nextOld", "(I)I"⟩, 61), (⟨"RemakeShelfModel", "finishes", "(I)V"⟩, 61), (⟨"RemakeShelfModel", "sorts", "(I)V"⟩, 61), (⟨"RemakeShelfModel", "keeps", "(I)V"⟩, 61), (⟨"RemakeShelfModel", "freeSlot", "(I)I"⟩, 61), (⟨"RemakeShelfModel", "used", "(III)V"⟩, 61), (⟨"RemakeShelfModel", "keepsRead", "(II)V"⟩, 61), (⟨"RemakeShelfModel", "closed", "(I)V"⟩, 61), (⟨"RemakeShelfModel", "isFit", "(I)V"⟩, 61), (⟨"RemakeShelfModel", "get", "(I)Z"⟩, 61), (⟨"RemakeShelfModel", "gotFailure", "(II)V"⟩, 61), (⟨"RemakeShelfModel", "gotRow", "([III)V"⟩, 61), (⟨"RemakeShelfModel", "isRing", "(I)V"⟩, 61)]
theorem lw_r2 : ∀ q ∈ lw_privs_2, lw_okq q := List.forall_mem_cons.mpr ⟨lw_p16, List.forall_mem_cons.mpr ⟨lw_p17, List.forall_mem_cons.mpr ⟨lw_p18, List.forall_mem_cons.mpr ⟨lw_p19, List.forall_mem_cons.mpr ⟨lw_p20, List.forall_mem_cons.mpr ⟨lw_p21, List.forall_mem_cons.mpr ⟨lw_p22, List.forall_mem_cons.mpr ⟨lw_p23, List.forall_mem_cons.mpr ⟨lw_p24, List.forall_mem_cons.mpr ⟨lw_p25, List.forall_mem_cons.mpr ⟨lw_p26, List.forall_mem_cons.mpr ⟨lw_p27, List.forall_mem_cons.mpr ⟨lw_p28, List.forall_mem_cons.mpr ⟨lw_p29, List.forall_mem_cons.mpr ⟨lw_p30, List.forall_mem_cons.mpr ⟨lw_p31, fun _ h => absurd h List.not_mem_nil⟩⟩⟩⟩⟩⟩⟩⟩⟩⟩⟩⟩⟩⟩⟩⟩
theorem lw_p32 : lw_okq (⟨"RemakeShelfModel", "takes", "(II)V"⟩, 61) := ⟨⟨by decide +kernel, by decide +kernel⟩, List.mem_of_getElem? (i := 517) (by decide +kernel), List.mem_of_getElem? (i := 858) (by decide +kernel), List.mem_of_getElem? (i := 859) (by decide +kernel)⟩
theorem lw_p33 : lw_okq (⟨"RemakeShelfModel", "endsWith", "(III)V"⟩, 61) := ⟨⟨by decide +kernel, by decide +kernel⟩, List.mem_of_getElem? (i := 517) (by decide +kernel), List.mem_of_getElem? (i := 862) (by decide +kernel), List.mem_of_getElem? (i := 863) (by decide +kernel)⟩
theorem lw_p34 : lw_okq (⟨"RemakeShelfModel", "appends", "(I)V"⟩, 61) := ⟨⟨by decide +kernel, by decide +kernel⟩, List.mem_of_getElem? (i := 517) (by decide +kernel), List.mem_of_getElem? (i := 866) (by decide +kernel), List.mem_of_getElem? (i := 867) (by decide +kernel)⟩
theorem lw_p35 : lw_okq (⟨"RemakeShelfModel", "compares", "(I)V"⟩, 61) := ⟨⟨by decide +kernel, by decide +kernel⟩, List.mem_of_getElem? (i := 517) (by decide +kernel), List.mem_of_getElem? (i := 870) (by decide +kernel), List.mem_of_getElem? (i := 871) (by decide +kernel)⟩
theorem lw_p36 : lw_okq (⟨"RemakeShelfModel", "answer", "()I"⟩, 61) := ⟨⟨by decide +kernel, by decide +kernel⟩, List.mem_of_getElem? (i := 517) (by decide +kernel), List.mem_of_getElem? (i := 874) (by decide +kernel), List.mem_of_getElem? (i := 875) (by decide +kernel)⟩
def lw_privs_3 : List (MethodName × Nat) := [(⟨"RemakeShelfModel", "takes", "(II)V"⟩, 61), (⟨"RemakeShelfModel", "endsWith", "(III)V"⟩, 61), (⟨"RemakeShelfModel", "appends", "(I)V"⟩, 61), (⟨"RemakeShelfModel", "compares", "(I)V"⟩, 61), (⟨"RemakeShelfModel", "answer", "()I"⟩, 61)]
theorem lw_r3 : ∀ q ∈ lw_privs_3, lw_okq q := List.forall_mem_cons.mpr ⟨lw_p32, List.forall_mem_cons.mpr ⟨lw_p33, List.forall_mem_cons.mpr ⟨lw_p34, List.forall_mem_cons.mpr ⟨lw_p35, List.forall_mem_cons.mpr ⟨lw_p36, fun _ h => absurd h List.not_mem_nil⟩⟩⟩⟩⟩
def lw_privs : List (MethodName × Nat) := lw_privs_1 ++ (lw_privs_2 ++ (lw_privs_3))
def lw_tbl : List Cond := k2_sels lw_privs ++ tables_1
theorem lw_privs_ok : ∀ q ∈ lw_privs, lw_okq q := by
  show ∀ q ∈ lw_privs_1 ++ (lw_privs_2 ++ (lw_privs_3)), lw_okq q
  exact List.forall_mem_append.mpr ⟨lw_r1, List.forall_mem_append.mpr ⟨lw_r2, lw_r3⟩⟩
end
section
def RX0 : String := "RemakeShelf$Findings"
def TX0 : u_T := fun k => match k with
  | 0 => ("RemakeShelf$Findings", "latest", "I", false)
  | _ => ("RemakeShelf$Findings", "counts", "[I", true)
def tyX0 : Nat → FieldType := fun k => match k with
  | 0 => .int
  | _ => .array .int
theorem nmX0 : ∀ a, a < 2 → ∀ b, b < 2 → a ≠ b → (TX0 a).2.1 ≠ (TX0 b).2.1 := by decide +kernel
theorem tyX0_ok : ∀ k, k < 2 → parseFieldDescriptor (TX0 k).2.2.1 = some (tyX0 k) := by decide +kernel
abbrev cX0_init : ByteArray := prog_2_method_1_code
def yX0_init : MethodName := ⟨RX0, "<init>", "()V"⟩
abbrev cX0_add : ByteArray := prog_2_method_2_code
def yX0_add : MethodName := ⟨RX0, "add", "(I)I"⟩
def RX1 : String := "RemakeShelf$Outcome"
def TX1 : u_T := fun k => match k with
  | 0 => ("RemakeShelf$Outcome", "failure", "I", true)
  | 1 => ("RemakeShelf$Outcome", "name", "I", true)
  | _ => ("RemakeShelf$Outcome", "row", "[I", true)
def tyX1 : Nat → FieldType := fun k => match k with
  | 0 => .int
  | 1 => .int
  | _ => .array .int
theorem nmX1 : ∀ a, a < 3 → ∀ b, b < 3 → a ≠ b → (TX1 a).2.1 ≠ (TX1 b).2.1 := by decide +kernel
theorem tyX1_ok : ∀ k, k < 3 → parseFieldDescriptor (TX1 k).2.2.1 = some (tyX1 k) := by decide +kernel
abbrev cX1_init : ByteArray := prog_3_method_1_code
def yX1_init : MethodName := ⟨RX1, "<init>", "(II[I)V"⟩
abbrev cX1_isFailure : ByteArray := prog_3_method_2_code
def yX1_isFailure : MethodName := ⟨RX1, "isFailure", "()Z"⟩
abbrev cX1_hasInt : ByteArray := prog_3_method_3_code
def yX1_hasInt : MethodName := ⟨RX1, "hasInt", "(I)Z"⟩
abbrev cX1_intAt : ByteArray := prog_3_method_4_code
def yX1_intAt : MethodName := ⟨RX1, "intAt", "(I)I"⟩
abbrev cX1_hasStretch : ByteArray := prog_3_method_5_code
def yX1_hasStretch : MethodName := ⟨RX1, "hasStretch", "(II)Z"⟩
abbrev cX1_isSameAs : ByteArray := prog_3_method_6_code
def yX1_isSameAs : MethodName := ⟨RX1, "isSameAs", "(LRemakeShelf$Outcome;)Z"⟩
def RX2 : String := "RemakeShelf$Rounds"
def TX2 : u_T := fun k => match k with
  | 0 => ("RemakeShelf$Rounds", "shelf", "LRemakeShelf$Shelf;", true)
  | 1 => ("RemakeShelf$Rounds", "latest", "LRemakeShelf$Outcome;", false)
  | 2 => ("RemakeShelf$Rounds", "latestRing", "I", false)
  | 3 => ("RemakeShelf$Rounds", "worked", "[I", true)
  | 4 => ("RemakeShelf$Rounds", "workedCount", "I", false)
  | 5 => ("RemakeShelf$Rounds", "looked", "I", false)
  | 6 => ("RemakeShelf$Rounds", "makes", "I", false)
  | 7 => ("RemakeShelf$Rounds", "workedInAll", "I", false)
  | 8 => ("RemakeShelf$Rounds", "fromNothing", "Z", false)
  | _ => ("RemakeShelf$Rounds", "openCount", "I", false)
def tyX2 : Nat → FieldType := fun k => match k with
  | 0 => .object "RemakeShelf$Shelf"
  | 1 => .object "RemakeShelf$Outcome"
  | 2 => .int
  | 3 => .array .int
  | 4 => .int
  | 5 => .int
  | 6 => .int
  | 7 => .int
  | 8 => .boolean
  | _ => .int
theorem nmX2 : ∀ a, a < 10 → ∀ b, b < 10 → a ≠ b → (TX2 a).2.1 ≠ (TX2 b).2.1 := by decide +kernel
theorem tyX2_ok : ∀ k, k < 10 → parseFieldDescriptor (TX2 k).2.2.1 = some (tyX2 k) := by decide +kernel
abbrev cX2_init : ByteArray := prog_4_method_1_code
def yX2_init : MethodName := ⟨RX2, "<init>", "()V"⟩
abbrev cX2_run : ByteArray := prog_4_method_2_code
def yX2_run : MethodName := ⟨RX2, "run", "(LRemakeShelf$Rule;Z)I"⟩
abbrev cX2_ringBehind : ByteArray := prog_4_method_3_code
def yX2_ringBehind : MethodName := ⟨RX2, "ringBehind", "(LRemakeShelf$Outcome;)I"⟩
abbrev cX2_outcomeOf : ByteArray := prog_4_method_4_code
def yX2_outcomeOf : MethodName := ⟨RX2, "outcomeOf", "(I)LRemakeShelf$Outcome;"⟩
abbrev cX2_closeRing : ByteArray := prog_4_method_5_code
def yX2_closeRing : MethodName := ⟨RX2, "closeRing", "(LRemakeShelf$Rule;)LRemakeShelf$Outcome;"⟩
abbrev cX2_makeRule : ByteArray := prog_4_method_6_code
def yX2_makeRule : MethodName := ⟨RX2, "makeRule", "(LRemakeShelf$Rule;)LRemakeShelf$Outcome;"⟩
abbrev cX2_lookAt : ByteArray := prog_4_method_7_code
def yX2_lookAt : MethodName := ⟨RX2, "lookAt", "(LRemakeShelf$Rule;)LRemakeShelf$Outcome;"⟩
abbrev cX2_firstOther : ByteArray := prog_4_method_8_code
def yX2_firstOther : MethodName := ⟨RX2, "firstOther", "(LRemakeShelf$Rule;LRemakeShelf$Trace;)I"⟩
abbrev cX2_work : ByteArray := prog_4_method_9_code
def yX2_work : MethodName := ⟨RX2, "work", "(LRemakeShelf$Rule;)LRemakeShelf$Outcome;"⟩
abbrev cX2_noteWorked : ByteArray := prog_4_method_10_code
def yX2_noteWorked : MethodName := ⟨RX2, "noteWorked", "(LRemakeShelf$Rule;)V"⟩
abbrev cX2_readInOrder : ByteArray := prog_4_method_11_code
def yX2_readInOrder : MethodName := ⟨RX2, "readInOrder", "(LRemakeShelf$Rule;)LRemakeShelf$Outcome;"⟩
abbrev cX2_rowOf : ByteArray := prog_4_method_12_code
def yX2_rowOf : MethodName := ⟨RX2, "rowOf", "(ILRemakeShelf$Trace;)[I"⟩
abbrev cX2_sort : ByteArray := prog_4_method_13_code
def yX2_sort : MethodName := ⟨RX2, "sort", "([I)V"⟩
abbrev cX2_readPicked : ByteArray := prog_4_method_14_code
def yX2_readPicked : MethodName := ⟨RX2, "readPicked", "(LRemakeShelf$Rule;I)LRemakeShelf$Outcome;"⟩
abbrev cX2_readInput : ByteArray := prog_4_method_15_code
def yX2_readInput : MethodName := ⟨RX2, "readInput", "(LRemakeShelf$Rule;I)LRemakeShelf$Outcome;"⟩
def RX3 : String := "RemakeShelf$Rule"
def TX3 : u_T := fun k => match k with
  | 0 => ("RemakeShelf$Rule", "number", "I", true)
  | 1 => ("RemakeShelf$Rule", "kind", "I", false)
  | 2 => ("RemakeShelf$Rule", "strict", "Z", false)
  | 3 => ("RemakeShelf$Rule", "inputs", "[I", true)
  | 4 => ("RemakeShelf$Rule", "inputCount", "I", false)
  | 5 => ("RemakeShelf$Rule", "kept", "I", false)
  | 6 => ("RemakeShelf$Rule", "traces", "[LRemakeShelf$Trace;", true)
  | 7 => ("RemakeShelf$Rule", "stale", "[I", true)
  | 8 => ("RemakeShelf$Rule", "made", "LRemakeShelf$Outcome;", false)
  | 9 => ("RemakeShelf$Rule", "hit", "LRemakeShelf$Outcome;", false)
  | 10 => ("RemakeShelf$Rule", "ring", "I", false)
  | 11 => ("RemakeShelf$Rule", "openedAt", "I", false)
  | 12 => ("RemakeShelf$Rule", "tooLong", "LRemakeShelf$Outcome;", true)
  | _ => ("RemakeShelf$Rule", "leastOfRing", "LRemakeShelf$Outcome;", true)
def tyX3 : Nat → FieldType := fun k => match k with
  | 0 => .int
  | 1 => .int
  | 2 => .boolean
  | 3 => .array .int
  | 4 => .int
  | 5 => .int
  | 6 => .array (.object "RemakeShelf$Trace")
  | 7 => .array .int
  | 8 => .object "RemakeShelf$Outcome"
  | 9 => .object "RemakeShelf$Outcome"
  | 10 => .int
  | 11 => .int
  | 12 => .object "RemakeShelf$Outcome"
  | _ => .object "RemakeShelf$Outcome"
theorem nmX3 : ∀ a, a < 14 → ∀ b, b < 14 → a ≠ b → (TX3 a).2.1 ≠ (TX3 b).2.1 := by decide +kernel
theorem tyX3_ok : ∀ k, k < 14 → parseFieldDescriptor (TX3 k).2.2.1 = some (tyX3 k) := by decide +kernel
abbrev cX3_init : ByteArray := prog_5_method_1_code
def yX3_init : MethodName := ⟨RX3, "<init>", "(IIZ)V"⟩
abbrev cX3_hasInput : ByteArray := prog_5_method_2_code
def yX3_hasInput : MethodName := ⟨RX3, "hasInput", "(I)Z"⟩
abbrev cX3_traceAt : ByteArray := prog_5_method_3_code
def yX3_traceAt : MethodName := ⟨RX3, "traceAt", "(I)LRemakeShelf$Trace;"⟩
abbrev cX3_dropTraces : ByteArray := prog_5_method_4_code
def yX3_dropTraces : MethodName := ⟨RX3, "dropTraces", "()V"⟩
abbrev cX3_spareTrace : ByteArray := prog_5_method_5_code
def yX3_spareTrace : MethodName := ⟨RX3, "spareTrace", "()LRemakeShelf$Trace;"⟩
abbrev cX3_keepSpare : ByteArray := prog_5_method_6_code
def yX3_keepSpare : MethodName := ⟨RX3, "keepSpare", "(LRemakeShelf$Outcome;)V"⟩
abbrev cX3_bringForward : ByteArray := prog_5_method_7_code
def yX3_bringForward : MethodName := ⟨RX3, "bringForward", "(I)V"⟩
abbrev cX3_beginRound : ByteArray := prog_5_method_8_code
def yX3_beginRound : MethodName := ⟨RX3, "beginRound", "(Z)V"⟩
def RX4 : String := "RemakeShelf$Shelf"
def TX4 : u_T := fun k => match k with
  | 0 => ("RemakeShelf$Shelf", "sources", "[LRemakeShelf$Outcome;", true)
  | 1 => ("RemakeShelf$Shelf", "rules", "[LRemakeShelf$Rule;", true)
  | 2 => ("RemakeShelf$Shelf", "ruleCount", "I", false)
  | _ => ("RemakeShelf$Shelf", "nobody", "[LRemakeShelf$Outcome;", true)
def tyX4 : Nat → FieldType := fun k => match k with
  | 0 => .array (.object "RemakeShelf$Outcome")
  | 1 => .array (.object "RemakeShelf$Rule")
  | 2 => .int
  | _ => .array (.object "RemakeShelf$Outcome")
theorem nmX4 : ∀ a, a < 4 → ∀ b, b < 4 → a ≠ b → (TX4 a).2.1 ≠ (TX4 b).2.1 := by decide +kernel
theorem tyX4_ok : ∀ k, k < 4 → parseFieldDescriptor (TX4 k).2.2.1 = some (tyX4 k) := by decide +kernel
abbrev cX4_init : ByteArray := prog_6_method_1_code
def yX4_init : MethodName := ⟨RX4, "<init>", "()V"⟩
abbrev cX4_sourceAt : ByteArray := prog_6_method_2_code
def yX4_sourceAt : MethodName := ⟨RX4, "sourceAt", "(I)LRemakeShelf$Outcome;"⟩
abbrev cX4_putRow : ByteArray := prog_6_method_3_code
def yX4_putRow : MethodName := ⟨RX4, "putRow", "(I[I)V"⟩
abbrev cX4_ruleAt : ByteArray := prog_6_method_4_code
def yX4_ruleAt : MethodName := ⟨RX4, "ruleAt", "(I)LRemakeShelf$Rule;"⟩
abbrev cX4_addRule : ByteArray := prog_6_method_5_code
def yX4_addRule : MethodName := ⟨RX4, "addRule", "(IZ)I"⟩
abbrev cX4_keptTraces : ByteArray := prog_6_method_6_code
def yX4_keptTraces : MethodName := ⟨RX4, "keptTraces", "()I"⟩
def RX5 : String := "RemakeShelf$Trace"
def TX5 : u_T := fun k => match k with
  | 0 => ("RemakeShelf$Trace", "reads", "I", false)
  | 1 => ("RemakeShelf$Trace", "came", "LRemakeShelf$Outcome;", false)
  | 2 => ("RemakeShelf$Trace", "names", "[I", true)
  | _ => ("RemakeShelf$Trace", "outcomes", "[LRemakeShelf$Outcome;", true)
def tyX5 : Nat → FieldType := fun k => match k with
  | 0 => .int
  | 1 => .object "RemakeShelf$Outcome"
  | 2 => .array .int
  | _ => .array (.object "RemakeShelf$Outcome")
theorem nmX5 : ∀ a, a < 4 → ∀ b, b < 4 → a ≠ b → (TX5 a).2.1 ≠ (TX5 b).2.1 := by decide +kernel
theorem tyX5_ok : ∀ k, k < 4 → parseFieldDescriptor (TX5 k).2.2.1 = some (tyX5 k) := by decide +kernel
abbrev cX5_init : ByteArray := prog_7_method_1_code
def yX5_init : MethodName := ⟨RX5, "<init>", "()V"⟩
abbrev cX5_addRead : ByteArray := prog_7_method_2_code
def yX5_addRead : MethodName := ⟨RX5, "addRead", "(ILRemakeShelf$Outcome;)V"⟩
abbrev cX5_nameAt : ByteArray := prog_7_method_3_code
def yX5_nameAt : MethodName := ⟨RX5, "nameAt", "(I)I"⟩
abbrev cX5_outcomeAt : ByteArray := prog_7_method_4_code
def yX5_outcomeAt : MethodName := ⟨RX5, "outcomeAt", "(I)LRemakeShelf$Outcome;"⟩
abbrev cX5_lengthAt : ByteArray := prog_7_method_5_code
def yX5_lengthAt : MethodName := ⟨RX5, "lengthAt", "(I)I"⟩
abbrev cX5_joinedFrom : ByteArray := prog_7_method_6_code
def yX5_joinedFrom : MethodName := ⟨RX5, "joinedFrom", "(I)[I"⟩
abbrev cX5_sum : ByteArray := prog_7_method_7_code
def yX5_sum : MethodName := ⟨RX5, "sum", "()I"⟩
def RX6 : String := "RemakeShelf"
def TX6 : u_T := fun k => match k with
  | 0 => ("RemakeShelf", "findings", "LRemakeShelf$Findings;", true)
  | 1 => ("RemakeShelf", "rounds", "LRemakeShelf$Rounds;", true)
  | _ => ("RemakeShelf", "shelf", "LRemakeShelf$Shelf;", true)
def tyX6 : Nat → FieldType := fun k => match k with
  | 0 => .object "RemakeShelf$Findings"
  | 1 => .object "RemakeShelf$Rounds"
  | _ => .object "RemakeShelf$Shelf"
theorem nmX6 : ∀ a, a < 3 → ∀ b, b < 3 → a ≠ b → (TX6 a).2.1 ≠ (TX6 b).2.1 := by decide +kernel
theorem tyX6_ok : ∀ k, k < 3 → parseFieldDescriptor (TX6 k).2.2.1 = some (tyX6 k) := by decide +kernel
abbrev cX6_init : ByteArray := prog_1_method_1_code
def yX6_init : MethodName := ⟨RX6, "<init>", "()V"⟩
abbrev cX6_source : ByteArray := prog_1_method_2_code
def yX6_source : MethodName := ⟨RX6, "source", "(II)I"⟩
abbrev cX6_set : ByteArray := prog_1_method_3_code
def yX6_set : MethodName := ⟨RX6, "set", "(III)I"⟩
abbrev cX6_miss : ByteArray := prog_1_method_4_code
def yX6_miss : MethodName := ⟨RX6, "miss", "(I)I"⟩
abbrev cX6_copy : ByteArray := prog_1_method_5_code
def yX6_copy : MethodName := ⟨RX6, "copy", "(IIIII)I"⟩
abbrev cX6_size : ByteArray := prog_1_method_6_code
def yX6_size : MethodName := ⟨RX6, "size", "(I)I"⟩
abbrev cX6_told : ByteArray := prog_1_method_7_code
def yX6_told : MethodName := ⟨RX6, "told", "(II)I"⟩
abbrev cX6_rule : ByteArray := prog_1_method_8_code
def yX6_rule : MethodName := ⟨RX6, "rule", "(IZ)I"⟩
abbrev cX6_input : ByteArray := prog_1_method_9_code
def yX6_input : MethodName := ⟨RX6, "input", "(II)I"⟩
abbrev cX6_turn : ByteArray := prog_1_method_10_code
def yX6_turn : MethodName := ⟨RX6, "turn", "(III)I"⟩
abbrev cX6_become : ByteArray := prog_1_method_11_code
def yX6_become : MethodName := ⟨RX6, "become", "(IIZ)I"⟩
abbrev cX6_forget : ByteArray := prog_1_method_12_code
def yX6_forget : MethodName := ⟨RX6, "forget", "(I)I"⟩
abbrev cX6_of : ByteArray := prog_1_method_13_code
def yX6_of : MethodName := ⟨RX6, "of", "(II)I"⟩
abbrev cX6_trace : ByteArray := prog_1_method_14_code
def yX6_trace : MethodName := ⟨RX6, "trace", "(III)I"⟩
abbrev cX6_make : ByteArray := prog_1_method_15_code
def yX6_make : MethodName := ⟨RX6, "make", "(I)I"⟩
abbrev cX6_anew : ByteArray := prog_1_method_16_code
def yX6_anew : MethodName := ⟨RX6, "anew", "(I)I"⟩
abbrev cX6_outcome : ByteArray := prog_1_method_17_code
def yX6_outcome : MethodName := ⟨RX6, "outcome", "(I)I"⟩
abbrev cX6_part : ByteArray := prog_1_method_18_code
def yX6_part : MethodName := ⟨RX6, "part", "(I)I"⟩
abbrev cX6_ring : ByteArray := prog_1_method_19_code
def yX6_ring : MethodName := ⟨RX6, "ring", "(I)I"⟩
abbrev cX6_worked : ByteArray := prog_1_method_20_code
def yX6_worked : MethodName := ⟨RX6, "worked", "(I)I"⟩
abbrev cX6_looked : ByteArray := prog_1_method_21_code
def yX6_looked : MethodName := ⟨RX6, "looked", "()I"⟩
abbrev cX6_stale : ByteArray := prog_1_method_22_code
def yX6_stale : MethodName := ⟨RX6, "stale", "(II)I"⟩
abbrev cX6_count : ByteArray := prog_1_method_23_code
def yX6_count : MethodName := ⟨RX6, "count", "(I)I"⟩
abbrev cX6_found : ByteArray := prog_1_method_24_code
def yX6_found : MethodName := ⟨RX6, "found", "(I)I"⟩
abbrev cX6_isKind : ByteArray := prog_1_method_25_code
def yX6_isKind : MethodName := ⟨RX6, "isKind", "(I)Z"⟩
abbrev cX6_isName : ByteArray := prog_1_method_26_code
def yX6_isName : MethodName := ⟨RX6, "isName", "(I)Z"⟩
abbrev cX6_isIn : ByteArray := prog_1_method_27_code
def yX6_isIn : MethodName := ⟨RX6, "isIn", "(II)Z"⟩
abbrev cX6_failureOf : ByteArray := prog_1_method_28_code
def yX6_failureOf : MethodName := ⟨RX6, "failureOf", "(II)LRemakeShelf$Outcome;"⟩
def RX7 : String := "RemakeShelfModel"
def TX7 : u_T := fun k => match k with
  | 0 => ("RemakeShelfModel", "size", "[I", true)
  | 1 => ("RemakeShelfModel", "cells", "[I", true)
  | 2 => ("RemakeShelfModel", "kind", "[I", true)
  | 3 => ("RemakeShelfModel", "inputs", "[I", true)
  | 4 => ("RemakeShelfModel", "input", "[I", true)
  | 5 => ("RemakeShelfModel", "strict", "[Z", true)
  | 6 => ("RemakeShelfModel", "rules", "I", false)
  | 7 => ("RemakeShelfModel", "traces", "[I", true)
  | 8 => ("RemakeShelfModel", "order", "[I", true)
  | 9 => ("RemakeShelfModel", "slotReads", "[I", true)
  | 10 => ("RemakeShelfModel", "slotLength", "[I", true)
  | 11 => ("RemakeShelfModel", "slotKind", "[I", true)
  | 12 => ("RemakeShelfModel", "slotName", "[I", true)
  | 13 => ("RemakeShelfModel", "slotCells", "[I", true)
  | 14 => ("RemakeShelfModel", "readOf", "[I", true)
  | 15 => ("RemakeShelfModel", "readLength", "[I", true)
  | 16 => ("RemakeShelfModel", "readKind", "[I", true)
  | 17 => ("RemakeShelfModel", "readName", "[I", true)
  | 18 => ("RemakeShelfModel", "readCells", "[I", true)
  | 19 => ("RemakeShelfModel", "outLength", "[I", true)
  | 20 => ("RemakeShelfModel", "outKind", "[I", true)
  | 21 => ("RemakeShelfModel", "outName", "[I", true)
  | 22 => ("RemakeShelfModel", "outCells", "[I", true)
  | 23 => ("RemakeShelfModel", "ringOf", "[I", true)
  | 24 => ("RemakeShelfModel", "done", "[Z", true)
  | 25 => ("RemakeShelfModel", "open", "[Z", true)
  | 26 => ("RemakeShelfModel", "hit", "[Z", true)
  | 27 => ("RemakeShelfModel", "fresh", "Z", false)
  | 28 => ("RemakeShelfModel", "stack", "[I", true)
  | 29 => ("RemakeShelfModel", "traceAt", "[I", true)
  | 30 => ("RemakeShelfModel", "at", "[I", true)
  | 31 => ("RemakeShelfModel", "works", "[Z", true)
  | 32 => ("RemakeShelfModel", "deep", "I", false)
  | 33 => ("RemakeShelfModel", "nowOf", "[I", true)
  | 34 => ("RemakeShelfModel", "nowLength", "[I", true)
  | 35 => ("RemakeShelfModel", "nowKind", "[I", true)
  | 36 => ("RemakeShelfModel", "nowName", "[I", true)
  | 37 => ("RemakeShelfModel", "nowCells", "[I", true)
  | 38 => ("RemakeShelfModel", "rowLength", "[I", true)
  | 39 => ("RemakeShelfModel", "rowCells", "[I", true)
  | 40 => ("RemakeShelfModel", "sum", "[I", true)
  | 41 => ("RemakeShelfModel", "endKind", "[I", true)
  | 42 => ("RemakeShelfModel", "endName", "[I", true)
  | 43 => ("RemakeShelfModel", "ends", "[Z", true)
  | 44 => ("RemakeShelfModel", "gotLength", "I", false)
  | 45 => ("RemakeShelfModel", "gotKind", "I", false)
  | 46 => ("RemakeShelfModel", "gotName", "I", false)
  | 47 => ("RemakeShelfModel", "got", "[I", true)
  | 48 => ("RemakeShelfModel", "lastLength", "I", false)
  | 49 => ("RemakeShelfModel", "lastKind", "I", false)
  | 50 => ("RemakeShelfModel", "lastName", "I", false)
  | 51 => ("RemakeShelfModel", "lastRing", "I", false)
  | 52 => ("RemakeShelfModel", "workedMany", "I", false)
  | 53 => ("RemakeShelfModel", "looked", "I", false)
  | 54 => ("RemakeShelfModel", "makes", "I", false)
  | 55 => ("RemakeShelfModel", "workedInAll", "I", false)
  | 56 => ("RemakeShelfModel", "last", "[I", true)
  | 57 => ("RemakeShelfModel", "worked", "[I", true)
  | 58 => ("RemakeShelfModel", "stale", "[I", true)
  | 59 => ("RemakeShelfModel", "latest", "I", false)
  | _ => ("RemakeShelfModel", "findings", "[I", true)
def tyX7 : Nat → FieldType := fun k => match k with
  | 0 => .array .int
  | 1 => .array .int
  | 2 => .array .int
  | 3 => .array .int
  | 4 => .array .int
  | 5 => .array .boolean
  | 6 => .int
  | 7 => .array .int
  | 8 => .array .int
  | 9 => .array .int
  | 10 => .array .int
  | 11 => .array .int
  | 12 => .array .int
  | 13 => .array .int
  | 14 => .array .int
  | 15 => .array .int
  | 16 => .array .int
  | 17 => .array .int
  | 18 => .array .int
  | 19 => .array .int
  | 20 => .array .int
  | 21 => .array .int
  | 22 => .array .int
  | 23 => .array .int
  | 24 => .array .boolean
  | 25 => .array .boolean
  | 26 => .array .boolean
  | 27 => .boolean
  | 28 => .array .int
  | 29 => .array .int
  | 30 => .array .int
  | 31 => .array .boolean
  | 32 => .int
  | 33 => .array .int
  | 34 => .array .int
  | 35 => .array .int
  | 36 => .array .int
  | 37 => .array .int
  | 38 => .array .int
  | 39 => .array .int
  | 40 => .array .int
  | 41 => .array .int
  | 42 => .array .int
  | 43 => .array .boolean
  | 44 => .int
  | 45 => .int
  | 46 => .int
  | 47 => .array .int
  | 48 => .int
  | 49 => .int
  | 50 => .int
  | 51 => .int
  | 52 => .int
  | 53 => .int
  | 54 => .int
  | 55 => .int
  | 56 => .array .int
  | 57 => .array .int
  | 58 => .array .int
  | 59 => .int
  | _ => .array .int
theorem nmX7 : ∀ a, a < 61 → ∀ b, b < 61 → a ≠ b → (TX7 a).2.1 ≠ (TX7 b).2.1 := by decide +kernel
theorem tyX7_ok : ∀ k, k < 61 → parseFieldDescriptor (TX7 k).2.2.1 = some (tyX7 k) := by decide +kernel
abbrev cX7_init : ByteArray := prog_9_method_1_code
def yX7_init : MethodName := ⟨RX7, "<init>", "()V"⟩
abbrev cX7_find : ByteArray := prog_9_method_3_code
def yX7_find : MethodName := ⟨RX7, "find", "(I)I"⟩
abbrev cX7_isSource : ByteArray := prog_9_method_4_code
def yX7_isSource : MethodName := ⟨RX7, "isSource", "(I)Z"⟩
abbrev cX7_isRule : ByteArray := prog_9_method_5_code
def yX7_isRule : MethodName := ⟨RX7, "isRule", "(I)Z"⟩
abbrev cX7_isName : ByteArray := prog_9_method_6_code
def yX7_isName : MethodName := ⟨RX7, "isName", "(I)Z"⟩
abbrev cX7_source : ByteArray := prog_9_method_7_code
def yX7_source : MethodName := ⟨RX7, "source", "(II)I"⟩
abbrev cX7_set : ByteArray := prog_9_method_8_code
def yX7_set : MethodName := ⟨RX7, "set", "(III)I"⟩
abbrev cX7_miss : ByteArray := prog_9_method_9_code
def yX7_miss : MethodName := ⟨RX7, "miss", "(I)I"⟩
abbrev cX7_copy : ByteArray := prog_9_method_10_code
def yX7_copy : MethodName := ⟨RX7, "copy", "(IIIII)I"⟩
abbrev cX7_size : ByteArray := prog_9_method_11_code
def yX7_size : MethodName := ⟨RX7, "size", "(I)I"⟩
abbrev cX7_told : ByteArray := prog_9_method_12_code
def yX7_told : MethodName := ⟨RX7, "told", "(II)I"⟩
abbrev cX7_rule : ByteArray := prog_9_method_13_code
def yX7_rule : MethodName := ⟨RX7, "rule", "(IZ)I"⟩
abbrev cX7_input : ByteArray := prog_9_method_14_code
def yX7_input : MethodName := ⟨RX7, "input", "(II)I"⟩
abbrev cX7_turn : ByteArray := prog_9_method_15_code
def yX7_turn : MethodName := ⟨RX7, "turn", "(III)I"⟩
abbrev cX7_become : ByteArray := prog_9_method_16_code
def yX7_become : MethodName := ⟨RX7, "become", "(IIZ)I"⟩
abbrev cX7_forget : ByteArray := prog_9_method_17_code
def yX7_forget : MethodName := ⟨RX7, "forget", "(I)I"⟩
abbrev cX7_of : ByteArray := prog_9_method_18_code
def yX7_of : MethodName := ⟨RX7, "of", "(II)I"⟩
abbrev cX7_trace : ByteArray := prog_9_method_19_code
def yX7_trace : MethodName := ⟨RX7, "trace", "(III)I"⟩
abbrev cX7_slotOf : ByteArray := prog_9_method_20_code
def yX7_slotOf : MethodName := ⟨RX7, "slotOf", "(II)I"⟩
abbrev cX7_gotFailure : ByteArray := prog_9_method_21_code
def yX7_gotFailure : MethodName := ⟨RX7, "gotFailure", "(II)V"⟩
abbrev cX7_gotRow : ByteArray := prog_9_method_22_code
def yX7_gotRow : MethodName := ⟨RX7, "gotRow", "([III)V"⟩
abbrev cX7_get : ByteArray := prog_9_method_23_code
def yX7_get : MethodName := ⟨RX7, "get", "(I)Z"⟩
abbrev cX7_isRing : ByteArray := prog_9_method_24_code
def yX7_isRing : MethodName := ⟨RX7, "isRing", "(I)V"⟩
abbrev cX7_least : ByteArray := prog_9_method_25_code
def yX7_least : MethodName := ⟨RX7, "least", "(I)I"⟩
abbrev cX7_opened : ByteArray := prog_9_method_26_code
def yX7_opened : MethodName := ⟨RX7, "opened", "(I)V"⟩
abbrev cX7_closed : ByteArray := prog_9_method_27_code
def yX7_closed : MethodName := ⟨RX7, "closed", "(I)V"⟩
abbrev cX7_goRound : ByteArray := prog_9_method_28_code
def yX7_goRound : MethodName := ⟨RX7, "goRound", "(I)V"⟩
abbrev cX7_goes : ByteArray := prog_9_method_29_code
def yX7_goes : MethodName := ⟨RX7, "goes", "()V"⟩
abbrev cX7_nextOld : ByteArray := prog_9_method_30_code
def yX7_nextOld : MethodName := ⟨RX7, "nextOld", "(I)I"⟩
abbrev cX7_compares : ByteArray := prog_9_method_31_code
def yX7_compares : MethodName := ⟨RX7, "compares", "(I)V"⟩
abbrev cX7_isFit : ByteArray := prog_9_method_32_code
def yX7_isFit : MethodName := ⟨RX7, "isFit", "(I)V"⟩
abbrev cX7_used : ByteArray := prog_9_method_33_code
def yX7_used : MethodName := ⟨RX7, "used", "(III)V"⟩
abbrev cX7_freeSlot : ByteArray := prog_9_method_34_code
def yX7_freeSlot : MethodName := ⟨RX7, "freeSlot", "(I)I"⟩
abbrev cX7_keeps : ByteArray := prog_9_method_35_code
def yX7_keeps : MethodName := ⟨RX7, "keeps", "(I)V"⟩
abbrev cX7_keepsRead : ByteArray := prog_9_method_36_code
def yX7_keepsRead : MethodName := ⟨RX7, "keepsRead", "(II)V"⟩
abbrev cX7_begins : ByteArray := prog_9_method_37_code
def yX7_begins : MethodName := ⟨RX7, "begins", "(I)V"⟩
abbrev cX7_nextRead : ByteArray := prog_9_method_38_code
def yX7_nextRead : MethodName := ⟨RX7, "nextRead", "(I)I"⟩
abbrev cX7_takes : ByteArray := prog_9_method_39_code
def yX7_takes : MethodName := ⟨RX7, "takes", "(II)V"⟩
abbrev cX7_endsWith : ByteArray := prog_9_method_40_code
def yX7_endsWith : MethodName := ⟨RX7, "endsWith", "(III)V"⟩
abbrev cX7_appends : ByteArray := prog_9_method_41_code
def yX7_appends : MethodName := ⟨RX7, "appends", "(I)V"⟩
abbrev cX7_finishes : ByteArray := prog_9_method_42_code
def yX7_finishes : MethodName := ⟨RX7, "finishes", "(I)V"⟩
abbrev cX7_sorts : ByteArray := prog_9_method_43_code
def yX7_sorts : MethodName := ⟨RX7, "sorts", "(I)V"⟩
abbrev cX7_answer : ByteArray := prog_9_method_44_code
def yX7_answer : MethodName := ⟨RX7, "answer", "()I"⟩
abbrev cX7_make : ByteArray := prog_9_method_45_code
def yX7_make : MethodName := ⟨RX7, "make", "(I)I"⟩
abbrev cX7_anew : ByteArray := prog_9_method_46_code
def yX7_anew : MethodName := ⟨RX7, "anew", "(I)I"⟩
abbrev cX7_outcome : ByteArray := prog_9_method_47_code
def yX7_outcome : MethodName := ⟨RX7, "outcome", "(I)I"⟩
abbrev cX7_part : ByteArray := prog_9_method_48_code
def yX7_part : MethodName := ⟨RX7, "part", "(I)I"⟩
abbrev cX7_ring : ByteArray := prog_9_method_49_code
def yX7_ring : MethodName := ⟨RX7, "ring", "(I)I"⟩
abbrev cX7_worked : ByteArray := prog_9_method_50_code
def yX7_worked : MethodName := ⟨RX7, "worked", "(I)I"⟩
abbrev cX7_looked : ByteArray := prog_9_method_51_code
def yX7_looked : MethodName := ⟨RX7, "looked", "()I"⟩
abbrev cX7_stale : ByteArray := prog_9_method_52_code
def yX7_stale : MethodName := ⟨RX7, "stale", "(II)I"⟩
abbrev cX7_count : ByteArray := prog_9_method_53_code
def yX7_count : MethodName := ⟨RX7, "count", "(I)I"⟩
abbrev cX7_found : ByteArray := prog_9_method_54_code
def yX7_found : MethodName := ⟨RX7, "found", "(I)I"⟩
def RJx8e188 : String := "java/lang/Cloneable"
def RJ9 : String := "java/lang/Math"
abbrev cJ9_floorMod_7cf53 : ByteArray := prog_11_method_50_code
def yJ9_floorMod_7cf53 : MethodName := ⟨RJ9, "floorMod", "(II)I"⟩
def RJ10 : String := "java/lang/System"
def RJ7 : String := "java/util/Arrays"
abbrev cJ7_fill_53178 : ByteArray := prog_13_method_103_code
def yJ7_fill_53178 : MethodName := ⟨RJ7, "fill", "([II)V"⟩
def RL : String := "RemakeShelfLaw"
abbrev cL_law : ByteArray := code
def yL_law : MethodName := ⟨RL, "law", "([I)Z"⟩
abbrev vwCl : List vw_C := [(RX0, TX0, 2), (RX1, TX1, 3), (RX2, TX2, 10), (RX3, TX3, 14), (RX4, TX4, 4), (RX5, TX5, 4), (RX6, TX6, 3), (RX7, TX7, 61)]
end
section
def sm (M : Nat) : MethodName × ByteArray × Nat × Option FieldType := match M with
  | 0 => (yX0_init, cX0_init, 1, none)
  | 1 => (yX0_add, cX0_add, 2, some FieldType.int)
  | 2 => (yX1_init, cX1_init, 4, none)
  | 3 => (yX1_isFailure, cX1_isFailure, 1, some FieldType.boolean)
  | 4 => (yX1_hasInt, cX1_hasInt, 2, some FieldType.boolean)
  | 5 => (yX1_intAt, cX1_intAt, 2, some FieldType.int)
  | 6 => (yX1_hasStretch, cX1_hasStretch, 3, some FieldType.boolean)
  | 7 => (yX1_isSameAs, cX1_isSameAs, 3, some FieldType.boolean)
  | 8 => (yX2_init, cX2_init, 1, none)
  | 9 => (yX2_run, cX2_run, 7, some FieldType.int)
  | 10 => (yX2_ringBehind, cX2_ringBehind, 3, some FieldType.int)
  | 11 => (yX2_outcomeOf, cX2_outcomeOf, 3, some (FieldType.object "RemakeShelf$Outcome"))
  | 12 => (yX2_closeRing, cX2_closeRing, 8, some (FieldType.object "RemakeShelf$Outcome"))
  | 13 => (yX2_makeRule, cX2_makeRule, 3, some (FieldType.object "RemakeShelf$Outcome"))
  | 14 => (yX2_lookAt, cX2_lookAt, 5, some (FieldType.object "RemakeShelf$Outcome"))
  | 15 => (yX2_firstOther, cX2_firstOther, 5, some FieldType.int)
  | 16 => (yX2_work, cX2_work, 3, some (FieldType.object "RemakeShelf$Outcome"))
  | 17 => (yX2_noteWorked, cX2_noteWorked, 2, none)
  | 18 => (yX2_readInOrder, cX2_readInOrder, 6, some (FieldType.object "RemakeShelf$Outcome"))
  | 19 => (yX2_rowOf, cX2_rowOf, 3, some (FieldType.array FieldType.int))
  | 20 => (yX2_sort, cX2_sort, 4, none)
  | 21 => (yX2_readPicked, cX2_readPicked, 9, some (FieldType.object "RemakeShelf$Outcome"))
  | 22 => (yX2_readInput, cX2_readInput, 5, some (FieldType.object "RemakeShelf$Outcome"))
  | 23 => (yX3_init, cX3_init, 4, none)
  | 24 => (yX3_hasInput, cX3_hasInput, 2, some FieldType.boolean)
  | 25 => (yX3_traceAt, cX3_traceAt, 2, some (FieldType.object "RemakeShelf$Trace"))
  | 26 => (yX3_dropTraces, cX3_dropTraces, 1, none)
  | 27 => (yX3_spareTrace, cX3_spareTrace, 2, some (FieldType.object "RemakeShelf$Trace"))
  | 28 => (yX3_keepSpare, cX3_keepSpare, 2, none)
  | 29 => (yX3_bringForward, cX3_bringForward, 4, none)
  | 30 => (yX3_beginRound, cX3_beginRound, 2, none)
  | 31 => (yX4_init, cX4_init, 2, none)
  | 32 => (yX4_sourceAt, cX4_sourceAt, 2, some (FieldType.object "RemakeShelf$Outcome"))
  | 33 => (yX4_putRow, cX4_putRow, 3, none)
  | 34 => (yX4_ruleAt, cX4_ruleAt, 2, some (FieldType.object "RemakeShelf$Rule"))
  | 35 => (yX4_addRule, cX4_addRule, 4, some FieldType.int)
  | 36 => (yX4_keptTraces, cX4_keptTraces, 6, some FieldType.int)
  | 37 => (yX5_init, cX5_init, 1, none)
  | 38 => (yX5_addRead, cX5_addRead, 3, none)
  | 39 => (yX5_nameAt, cX5_nameAt, 2, some FieldType.int)
  | 40 => (yX5_outcomeAt, cX5_outcomeAt, 2, some (FieldType.object "RemakeShelf$Outcome"))
  | 41 => (yX5_lengthAt, cX5_lengthAt, 3, some FieldType.int)
  | 42 => (yX5_joinedFrom, cX5_joinedFrom, 7, some (FieldType.array FieldType.int))
  | 43 => (yX5_sum, cX5_sum, 5, some FieldType.int)
  | 44 => (yX6_init, cX6_init, 1, none)
  | 45 => (yX6_source, cX6_source, 3, some FieldType.int)
  | 46 => (yX6_set, cX6_set, 6, some FieldType.int)
  | 47 => (yX6_miss, cX6_miss, 3, some FieldType.int)
  | 48 => (yX6_copy, cX6_copy, 9, some FieldType.int)
  | 49 => (yX6_size, cX6_size, 3, some FieldType.int)
  | 50 => (yX6_told, cX6_told, 4, some FieldType.int)
  | 51 => (yX6_rule, cX6_rule, 3, some FieldType.int)
  | 52 => (yX6_input, cX6_input, 4, some FieldType.int)
  | 53 => (yX6_turn, cX6_turn, 5, some FieldType.int)
  | 54 => (yX6_become, cX6_become, 5, some FieldType.int)
  | 55 => (yX6_forget, cX6_forget, 4, some FieldType.int)
  | 56 => (yX6_of, cX6_of, 4, some FieldType.int)
  | 57 => (yX6_trace, cX6_trace, 6, some FieldType.int)
  | 58 => (yX6_make, cX6_make, 3, some FieldType.int)
  | 59 => (yX6_anew, cX6_anew, 3, some FieldType.int)
  | 60 => (yX6_outcome, cX6_outcome, 3, some FieldType.int)
  | 61 => (yX6_part, cX6_part, 3, some FieldType.int)
  | 62 => (yX6_ring, cX6_ring, 4, some FieldType.int)
  | 63 => (yX6_worked, cX6_worked, 2, some FieldType.int)
  | 64 => (yX6_looked, cX6_looked, 1, some FieldType.int)
  | 65 => (yX6_stale, cX6_stale, 4, some FieldType.int)
  | 66 => (yX6_count, cX6_count, 2, some FieldType.int)
  | 67 => (yX6_found, cX6_found, 2, some FieldType.int)
  | 68 => (yX6_isKind, cX6_isKind, 1, some FieldType.boolean)
  | 69 => (yX6_isName, cX6_isName, 1, some FieldType.boolean)
  | 70 => (yX6_isIn, cX6_isIn, 2, some FieldType.boolean)
  | 71 => (yX6_failureOf, cX6_failureOf, 2, some (FieldType.object "RemakeShelf$Outcome"))
  | 72 => (yX7_init, cX7_init, 2, none)
  | 73 => (yX7_find, cX7_find, 2, some FieldType.int)
  | 74 => (yX7_isSource, cX7_isSource, 1, some FieldType.boolean)
  | 75 => (yX7_isRule, cX7_isRule, 2, some FieldType.boolean)
  | 76 => (yX7_isName, cX7_isName, 1, some FieldType.boolean)
  | 77 => (yX7_source, cX7_source, 4, some FieldType.int)
  | 78 => (yX7_set, cX7_set, 4, some FieldType.int)
  | 79 => (yX7_miss, cX7_miss, 3, some FieldType.int)
  | 80 => (yX7_copy, cX7_copy, 7, some FieldType.int)
  | 81 => (yX7_size, cX7_size, 2, some FieldType.int)
  | 82 => (yX7_told, cX7_told, 3, some FieldType.int)
  | 83 => (yX7_rule, cX7_rule, 3, some FieldType.int)
  | 84 => (yX7_input, cX7_input, 3, some FieldType.int)
  | 85 => (yX7_turn, cX7_turn, 4, some FieldType.int)
  | 86 => (yX7_become, cX7_become, 4, some FieldType.int)
  | 87 => (yX7_forget, cX7_forget, 3, some FieldType.int)
  | 88 => (yX7_of, cX7_of, 3, some FieldType.int)
  | 89 => (yX7_trace, cX7_trace, 5, some FieldType.int)
  | 90 => (yX7_slotOf, cX7_slotOf, 3, some FieldType.int)
  | 91 => (yX7_gotFailure, cX7_gotFailure, 3, none)
  | 92 => (yX7_gotRow, cX7_gotRow, 5, none)
  | 93 => (yX7_get, cX7_get, 3, some FieldType.boolean)
  | 94 => (yX7_isRing, cX7_isRing, 4, none)
  | 95 => (yX7_least, cX7_least, 2, some FieldType.int)
  | 96 => (yX7_opened, cX7_opened, 2, none)
  | 97 => (yX7_closed, cX7_closed, 2, none)
  | 98 => (yX7_goRound, cX7_goRound, 3, none)
  | 99 => (yX7_goes, cX7_goes, 4, none)
  | 100 => (yX7_nextOld, cX7_nextOld, 3, some FieldType.int)
  | 101 => (yX7_compares, cX7_compares, 6, none)
  | 102 => (yX7_isFit, cX7_isFit, 5, none)
  | 103 => (yX7_used, cX7_used, 5, none)
  | 104 => (yX7_freeSlot, cX7_freeSlot, 5, some FieldType.int)
  | 105 => (yX7_keeps, cX7_keeps, 6, none)
  | 106 => (yX7_keepsRead, cX7_keepsRead, 4, none)
  | 107 => (yX7_begins, cX7_begins, 2, none)
  | 108 => (yX7_nextRead, cX7_nextRead, 7, some FieldType.int)
  | 109 => (yX7_takes, cX7_takes, 7, none)
  | 110 => (yX7_endsWith, cX7_endsWith, 4, none)
  | 111 => (yX7_appends, cX7_appends, 3, none)
  | 112 => (yX7_finishes, cX7_finishes, 4, none)
  | 113 => (yX7_sorts, cX7_sorts, 5, none)
  | 114 => (yX7_answer, cX7_answer, 1, some FieldType.int)
  | 115 => (yX7_make, cX7_make, 3, some FieldType.int)
  | 116 => (yX7_anew, cX7_anew, 2, some FieldType.int)
  | 117 => (yX7_outcome, cX7_outcome, 2, some FieldType.int)
  | 118 => (yX7_part, cX7_part, 2, some FieldType.int)
  | 119 => (yX7_ring, cX7_ring, 4, some FieldType.int)
  | 120 => (yX7_worked, cX7_worked, 2, some FieldType.int)
  | 121 => (yX7_looked, cX7_looked, 1, some FieldType.int)
  | 122 => (yX7_stale, cX7_stale, 3, some FieldType.int)
  | 123 => (yX7_count, cX7_count, 4, some FieldType.int)
  | 124 => (yX7_found, cX7_found, 2, some FieldType.int)
  | 125 => (yJ9_floorMod_7cf53, cJ9_floorMod_7cf53, 3, some FieldType.int)
  | 126 => (yJ7_fill_53178, cJ7_fill_53178, 4, none)
  | 200 => (yL_law, cL_law, 4, some .boolean)
  | _ => (yL_law, cL_law, 4, some .boolean)
def sT (c : Nat) : Nat → FieldType := match c with
  | 0 => tyX0
  | 1 => tyX1
  | 2 => tyX2
  | 3 => tyX3
  | 4 => tyX4
  | 5 => tyX5
  | 6 => tyX6
  | _ => tyX7
end
section
/-! A small machine: values, a heap of typed fields, the step of an instruction as a predicate transformer; its least fixed point is sWP -/
abbrev sV : Type := Int32 ⊕ (Option Nat ⊕ (Int64 ⊕ Unit))
abbrev sI (x : Int32) : sV := Sum.inl x
abbrev sR (r : Option Nat) : sV := Sum.inr (Sum.inl r)
abbrev sL (x : Int64) : sV := Sum.inr (Sum.inr (Sum.inl x))
abbrev sU : sV := Sum.inr (Sum.inr (Sum.inr ()))
def sv (v : sV) : Value := match v with
  | .inl x => .int x
  | .inr (.inl r) => va_rf r
  | .inr (.inr (.inl x)) => .long x
  | .inr (.inr (.inr _)) => .null
def sw (v : sV) : Nat := match v with
  | .inl _ => 1
  | .inr (.inl _) => 1
  | .inr (.inr (.inl _)) => 2
  | .inr (.inr (.inr _)) => 1
def sset (v : sV) : Bool := match v with
  | .inl _ => true
  | .inr (.inl _) => true
  | .inr (.inr _) => false
theorem sw_cat (v : sV) : (sv v).category = sw v := by
  rcases v with x | ⟨(_ | a)⟩ | x | x <;> rfl
abbrev hp : Type := (Nat → Nat) × (Nat → Nat → Int32) × (Nat → Nat → Option Nat) × (Nat → Nat) × (Nat → Nat → Int32) × (Nat → Nat → Option Nat)
def gk (h : hp) (a : Nat) : Nat := h.1 a
def gi (h : hp) (f a : Nat) : Int32 := h.2.1 f a
def gr (h : hp) (f a : Nat) : Option Nat := h.2.2.1 f a
def gl (h : hp) (a : Nat) : Nat := h.2.2.2.1 a
def ga (h : hp) (a j : Nat) : Int32 := h.2.2.2.2.1 a j
def gq (h : hp) (a j : Nat) : Option Nat := h.2.2.2.2.2 a j
def wi (h : hp) (f a : Nat) (v : Int32) : hp := (h.1, (fun g b => if g = f ∧ b = a then v else h.2.1 g b), h.2.2)
def wr (h : hp) (f a : Nat) (v : Option Nat) : hp := (h.1, h.2.1, (fun g b => if g = f ∧ b = a then v else h.2.2.1 g b), h.2.2.2)
def wA (h : hp) (a : Nat) (f : Nat → Int32) : hp := (h.1, h.2.1, h.2.2.1, h.2.2.2.1, (fun b => if b = a then f else h.2.2.2.2.1 b), h.2.2.2.2.2)
def wa (h : hp) (a j : Nat) (v : Int32) : hp := wA h a (upd (ga h a) j v)
def wq (h : hp) (a j : Nat) (v : Option Nat) : hp := (h.1, h.2.1, h.2.2.1, h.2.2.2.1, h.2.2.2.2.1, (fun b => if b = a then va_up (gq h a) j v else h.2.2.2.2.2 b))
def nw (h : hp) (a k n : Nat) : hp := ((fun b => if b = a then k else h.1 b), (fun g b => if b = a then 0 else h.2.1 g b), (fun g b => if b = a then none else h.2.2.1 g b), (fun b => if b = a then n else h.2.2.2.1 b), (fun b => if b = a then (fun _ => 0) else h.2.2.2.2.1 b), (fun b => if b = a then (fun _ => none) else h.2.2.2.2.2 b))
-- fields
def sB (ty : FieldType) : Bool := match ty with
  | .int => true
  | .boolean => true
  | _ => false
def sN (c : Nat) : Nat := match vwCl[c]? with
  | some q => q.2.2
  | none => 0
def sF (h : hp) (c k a : Nat) : sV := if sB (sT c k) = true then sI (gi h (100 * c + k) a) else sR (gr h (100 * c + k) a)
def sE (cy : Nat → ClassId) (h : hp) (a : Nat) : va_E :=
  if gk h a < 20 then .inr (gk h a - 1, (List.range (sN (gk h a - 1))).map (fun k => sv (sF h (gk h a - 1) k a)))
  else if gk h a < 22 then .inl (cy (gk h a - 20), gl h a, .inl (ga h a))
  else .inl (cy (gk h a - 20), gl h a, .inr (.inr (.inr (.inr (gq h a)))))
def sy (cy : Nat → ClassId) : List (ClassId × FieldType) := [(cy 0, .int), (cy 1, .boolean), (cy 2, .object RX1), (cy 3, .object RX3), (cy 4, .object RX5)]
/-- the element class of the arrays of references: kinds 22, 23, 24 hold objects of classes 1, 3, 5 -/
def sAe (k : Nat) : Nat := match k with
  | 22 => 1
  | 23 => 3
  | _ => 5
def sWd (A : Nat → Prop) (D : va_G) (cy : Nat → ClassId) (h : hp) (H : Heap) : Prop :=
  ∃ L : List Nat, (∀ a, a ∈ L ↔ gk h a ≠ 0) ∧ (∀ a, gk h a ≤ 24) ∧ va_P D vwCl ([] ++ va_pl L (sE cy h)) H ∧ va_D A ([] ++ va_pl L (sE cy h))
-- words
def sW : List Cond := lw_tbl.filter goodWord
def sws (M : Nat) : List Cond := Cond.code (sm M).1 (sm M).2.1 (sm M).2.2.1 (sm M).2.2.2 :: sW
def sNest : List (String × Nat × MethodName × String) := [(RX6, 11, yX0_init, RX6), (RX6, 18, yX2_init, RX6), (RX4, 26, yX6_failureOf, RX6), (RX3, 35, yX6_failureOf, RX6), (RX3, 58, yX5_init, RX6)]
def sX (U : State) : Prop := va_AO RX1 U ∧ va_AO RX3 U ∧ va_AO RX5 U ∧ va_Nw (.castable "[I" "java/lang/Cloneable") U ∧ ∀ q ∈ sNest, va_Nw (.methodLinkNest q.1 q.2.1 q.2.2.1 q.2.2.2) U
-- links
def sLf (own : String) (idx c k : Nat) : Prop := ∃ q, vwCl[c]? = some q ∧ k < q.2.2 ∧ Cond.fieldLink own idx (q.2.1 k).1 (q.2.1 k).2.1 (q.2.1 k).2.2.1 ∈ sW
def sLp (own : String) (ini : String) (idx c k : Nat) : Prop := ∃ q, vwCl[c]? = some q ∧ k < q.2.2 ∧ Cond.fieldLink own idx (q.2.1 k).1 (q.2.1 k).2.1 (q.2.1 k).2.2.1 ∈ sW ∧ ((q.2.1 k).2.2.2 = false ∨ ((q.2.1 k).2.2.2 = true ∧ ini = "<init>" ∧ (q.2.1 k).1 = own))
def sOk (M n : Nat) : Prop := plainFor (sm M).1 = true ∧ Cond.code (sm M).1 (sm M).2.1 (sm M).2.2.1 (sm M).2.2.2 ∈ sW ∧ Cond.initialized (sm M).1.cls ∈ sW ∧ (sm M).1.cls ≠ "java/lang/invoke/MethodHandle" ∧ (sm M).1.cls ≠ "java/lang/invoke/VarHandle" ∧ (parseMethodDescriptor (sm M).1.desc).map (fun d => d.parameters.length) = some n ∧ (sm M).2.2.1 ≤ 21
def sLv (own : String) (idx M n c : Nat) : Prop := sOk M n ∧ Cond.methodLink own idx (sm M).1 ∈ sW ∧ Cond.instanceMethod (sm M).1 ∈ sW ∧ Cond.selects (sm M).1.cls (sm M).1 (sm M).1 ∈ sW ∧ ∃ q, vwCl[c]? = some q ∧ q.1 = (sm M).1.cls
def sLs (own : String) (idx M n : Nat) : Prop := sOk M n ∧ Cond.static (sm M).1 ∈ sW ∧ (Cond.methodLink own idx (sm M).1 ∈ sW ∨ ∃ host, (own, idx, (sm M).1, host) ∈ sNest)
def sLi (own : String) (idx M n : Nat) : Prop := sOk M n ∧ Cond.instanceMethod (sm M).1 ∈ sW ∧ (sm M).1.name = "<init>" ∧ (sm M).2.2.2 = none ∧ (Cond.methodLink own idx (sm M).1 ∈ sW ∨ ∃ host, (own, idx, (sm M).1, host) ∈ sNest)
def sLo (own : String) (idx : Nat) : Prop := Cond.methodLink own idx objectInit ∈ sW
def sLc (own : String) (idx : Nat) : Prop := Cond.methodLink own idx arraycopyName ∈ sW
def sLn (own : String) (idx c : Nat) : Prop := ∃ q, vwCl[c]? = some q ∧ Cond.classLink own idx q.1 ∈ sW
def sLk (own : String) (idx : Nat) : Prop := Cond.methodLink own idx ⟨"[I", "clone", "()Ljava/lang/Object;"⟩ ∈ sW
abbrev sO : Type := Nat → List sV → hp → Nat → Nat → (Option sV → hp → Prop) → Prop
abbrev sZ : Type := Option (Nat × Nat × (Nat → Int32))
abbrev sCf : Type := Nat → List sV → List sV → hp → Nat → Nat → Prop
def sC0 (c : ClassFile.Cond) (x : Int32) : Prop := match c with
  | .eq => x = 0
  | .ne => ¬ x = 0
  | .lt => x < 0
  | .ge => 0 ≤ x
  | .gt => 0 < x
  | .le => x ≤ 0
def sC2 (c : ClassFile.Cond) (x y : Int32) : Prop := match c with
  | .eq => x = y
  | .ne => ¬ x = y
  | .lt => x < y
  | .ge => y ≤ x
  | .gt => y < x
  | .le => x ≤ y
def sbin (i : Instr) (x y : Int32) : Option Int32 := match i with
  | .iadd => some (x + y)
  | .isub => some (x - y)
  | .imul => some (x * y)
  | .iand => some (x &&& y)
  | .ior => some (x ||| y)
  | .ixor => some (x ^^^ y)
  | .ishl => some (x <<< (y &&& 31))
  | .ishr => some (x >>> (y &&& 31))
  | .irem => if y = 0 then none else some (x - x / y * y)
  | _ => none
def slen (i : Instr) : Nat := match i with
  | .aconst_null => 1
  | .iload_n _ => 1
  | .aload_n _ => 1
  | .istore_n _ => 1
  | .astore_n _ => 1
  | .iadd => 1
  | .isub => 1
  | .imul => 1
  | .iand => 1
  | .ior => 1
  | .ixor => 1
  | .ishl => 1
  | .ishr => 1
  | .irem => 1
  | .i2l => 1
  | .ladd => 1
  | .lcmp => 1
  | .dup => 1
  | .dup2 => 1
  | .iaload => 1
  | .baload => 1
  | .aaload => 1
  | .iastore => 1
  | .bastore => 1
  | .aastore => 1
  | .arraylength => 1
  | .ireturn => 1
  | .areturn => 1
  | .return_ => 1
  | .iconst _ => 1
  | .bipush _ => 2
  | .ldc _ => 2
  | .iload _ => 2
  | .aload _ => 2
  | .istore _ => 2
  | .astore _ => 2
  | .newarray _ => 2
  | .sipush _ => 3
  | .iinc _ _ => 3
  | .goto _ => 3
  | .ifCond _ _ => 3
  | .if_icmp _ _ => 3
  | .ifnull _ => 3
  | .ifnonnull _ => 3
  | .getfield _ => 3
  | .putfield _ => 3
  | .anewarray _ => 3
  | .new _ => 3
  | .checkcast _ => 3
  | .invokevirtual _ => 3
  | .invokestatic _ => 3
  | .invokespecial _ => 3
  | _ => 0
/-- one instruction, backwards: what must hold ahead of it, X being what must hold behind it -/
def sP (O : sO) (Z : sZ) (M : Nat) (Q : Option sV → hp → Prop) (X : sCf) (pc : Nat) (ls st : List sV) (h : hp) (bc bs : Nat) (i : Instr) (n : Nat) : Prop := match i with
  | .iconst k => X (pc + n) ls (sI (Int32.ofInt k) :: st) h bc bs
  | .bipush k => X (pc + n) ls (sI (Int8.ofInt k).toInt32 :: st) h bc bs
  | .sipush k => X (pc + n) ls (sI (Int16.ofInt k).toInt32 :: st) h bc bs
  | .ldc idx => ∃ v, Cond.constant (sm M).1.cls idx v ∈ sW ∧ X (pc + n) ls (sI v :: st) h bc bs
  | .aconst_null => X (pc + n) ls (sR none :: st) h bc bs
  | .iload_n k => ∃ x, ls[k.val]? = some (sI x) ∧ X (pc + n) ls (sI x :: st) h bc bs
  | .iload k => ∃ x, ls[k]? = some (sI x) ∧ X (pc + n) ls (sI x :: st) h bc bs
  | .aload_n k => ∃ r, ls[k.val]? = some (sR r) ∧ X (pc + n) ls (sR r :: st) h bc bs
  | .aload k => ∃ r, ls[k]? = some (sR r) ∧ X (pc + n) ls (sR r :: st) h bc bs
  | .istore_n k => ∃ x st', st = sI x :: st' ∧ k.val < ls.length ∧ X (pc + n) (ls.set k.val (sI x)) st' h bc bs
  | .istore k => ∃ x st', st = sI x :: st' ∧ k < ls.length ∧ X (pc + n) (ls.set k (sI x)) st' h bc bs
  | .astore_n k => ∃ r st', st = sR r :: st' ∧ k.val < ls.length ∧ X (pc + n) (ls.set k.val (sR r)) st' h bc bs
  | .astore k => ∃ r st', st = sR r :: st' ∧ k < ls.length ∧ X (pc + n) (ls.set k (sR r)) st' h bc bs
  | .iinc k z => ∃ x, ls[k]? = some (sI x) ∧ X (pc + n) (ls.set k (sI (x + Int32.ofInt z))) st h bc bs
  | .i2l => ∃ x st', st = sI x :: st' ∧ X (pc + n) ls (sL x.toInt64 :: st') h bc bs
  | .ladd => ∃ x y st', st = sL y :: sL x :: st' ∧ X (pc + n) ls (sL (x + y) :: st') h bc bs
  | .lcmp => ∃ x y st', st = sL y :: sL x :: st' ∧ X (pc + n) ls (sI (lg_cmp x y) :: st') h bc bs
  | .dup => ∃ v st', st = v :: st' ∧ sw v = 1 ∧ X (pc + n) ls (v :: v :: st') h bc bs
  | .dup2 => ∃ v u st', st = v :: u :: st' ∧ sw v = 1 ∧ sw u = 1 ∧ X (pc + n) ls (v :: u :: v :: u :: st') h bc bs
  | .goto off => ∃ t : Nat, (pc : Int) + off = (t : Int) ∧ X t ls st h bc bs
  | .ifCond c off => ∃ (x : Int32) (st' : List sV) (t : Nat), st = sI x :: st' ∧ (pc : Int) + off = (t : Int) ∧ (sC0 c x → X t ls st' h bc bs) ∧ (¬ sC0 c x → X (pc + n) ls st' h bc bs)
  | .if_icmp c off => ∃ (x y : Int32) (st' : List sV) (t : Nat), st = sI y :: sI x :: st' ∧ (pc : Int) + off = (t : Int) ∧ (sC2 c x y → X t ls st' h bc bs) ∧ (¬ sC2 c x y → X (pc + n) ls st' h bc bs)
  | .ifnull off => ∃ (r : Option Nat) (st' : List sV) (t : Nat), st = sR r :: st' ∧ (pc : Int) + off = (t : Int) ∧ (r = none → X t ls st' h bc bs) ∧ (¬ r = none → X (pc + n) ls st' h bc bs)
  | .ifnonnull off => ∃ (r : Option Nat) (st' : List sV) (t : Nat), st = sR r :: st' ∧ (pc : Int) + off = (t : Int) ∧ (r = none → X (pc + n) ls st' h bc bs) ∧ (¬ r = none → X t ls st' h bc bs)
  | .tableswitch d lo hi offs => ∃ (x : Int32) (st' : List sV), st = sI x :: st' ∧ (x.toInt < lo ∨ hi < x.toInt → ∃ t : Nat, (pc : Int) + d = (t : Int) ∧ X t ls st' h bc bs) ∧ (¬ (x.toInt < lo ∨ hi < x.toInt) → ∃ (off : Int) (t : Nat), offs[(x.toInt - lo).toNat]? = some off ∧ (pc : Int) + off = (t : Int) ∧ X t ls st' h bc bs)
  | .lookupswitch d ps => ∃ (x : Int32) (st' : List sV) (t : Nat), st = sI x :: st' ∧ (ps.toList.zip (ps.toList.drop 1)).all (fun (a, next) => a.1 < next.1) = true ∧ (pc : Int) + Op.lookupswitch.offset ps.toList d x.toInt = (t : Int) ∧ X t ls st' h bc bs
  | .getfield idx => ∃ (c k a : Nat) (st' : List sV), st = sR (some a) :: st' ∧ sLf (sm M).1.cls idx c k ∧ gk h a = c + 1 ∧ X (pc + n) ls (sF h c k a :: st') h bc bs
  | .putfield idx => ∃ (c k a : Nat) (v : sV) (st' : List sV), st = v :: sR (some a) :: st' ∧ sLp (sm M).1.cls (sm M).1.name idx c k ∧ gk h a = c + 1 ∧ ((sB (sT c k) = true ∧ ∃ x, v = sI x ∧ narrow (sT c k) (.int x) = .int x ∧ fits (sT c k) (.int x) = true ∧ X (pc + n) ls st' (wi h (100 * c + k) a x) bc bs) ∨ (sB (sT c k) = false ∧ ∃ r, v = sR r ∧ narrow (sT c k) (va_rf r) = va_rf r ∧ fits (sT c k) (va_rf r) = true ∧ X (pc + n) ls st' (wr h (100 * c + k) a r) bc bs))
  | .iaload => ∃ (j : Int32) (a : Nat) (st' : List sV), st = sI j :: sR (some a) :: st' ∧ ((gk h a = 20 ∧ vp_in j (gl h a) ∧ X (pc + n) ls (sI (ga h a j.toNatClampNeg) :: st') h bc bs) ∨ ∃ (L : Nat) (xs : Nat → Int32), Z = some (a, L, xs) ∧ vp_in j L ∧ X (pc + n) ls (sI (xs j.toNatClampNeg) :: st') h bc bs)
  | .baload => ∃ (j : Int32) (a : Nat) (st' : List sV), st = sI j :: sR (some a) :: st' ∧ gk h a = 21 ∧ vp_in j (gl h a) ∧ X (pc + n) ls (sI (ga h a j.toNatClampNeg) :: st') h bc bs
  | .aaload => ∃ (j : Int32) (a : Nat) (st' : List sV), st = sI j :: sR (some a) :: st' ∧ 22 ≤ gk h a ∧ vp_in j (gl h a) ∧ X (pc + n) ls (sR (gq h a j.toNatClampNeg) :: st') h bc bs
  | .iastore => ∃ (x j : Int32) (a : Nat) (st' : List sV), st = sI x :: sI j :: sR (some a) :: st' ∧ gk h a = 20 ∧ vp_in j (gl h a) ∧ X (pc + n) ls st' (wa h a j.toNatClampNeg x) bc bs
  | .bastore => ∃ (x j : Int32) (a : Nat) (st' : List sV), st = sI x :: sI j :: sR (some a) :: st' ∧ gk h a = 21 ∧ vp_in j (gl h a) ∧ vp_nar .boolean x = x ∧ X (pc + n) ls st' (wa h a j.toNatClampNeg x) bc bs
  | .aastore => ∃ (r : Option Nat) (j : Int32) (a : Nat) (st' : List sV), st = sR r :: sI j :: sR (some a) :: st' ∧ 22 ≤ gk h a ∧ vp_in j (gl h a) ∧ (∀ b, r = some b → gk h b = sAe (gk h a) + 1) ∧ X (pc + n) ls st' (wq h a j.toNatClampNeg r) bc bs
  | .arraylength => ∃ (a : Nat) (st' : List sV), st = sR (some a) :: st' ∧ ((20 ≤ gk h a ∧ X (pc + n) ls (sI (Int32.ofNat (gl h a)) :: st') h bc bs) ∨ ∃ (L : Nat) (xs : Nat → Int32), Z = some (a, L, xs) ∧ X (pc + n) ls (sI (Int32.ofNat L) :: st') h bc bs)
  | .newarray ty => ∃ (k : Nat) (j : Int32) (N : Nat) (st' : List sV), st = sI j :: st' ∧ ((ty = .int ∧ k = 20) ∨ (ty = .boolean ∧ k = 21)) ∧ ¬ j < 0 ∧ j.toNatClampNeg = N ∧ N ≤ 100000 ∧ 1 ≤ bc ∧ N ≤ bs ∧ ∀ q, gk h q = 0 → X (pc + n) ls (sR (some q) :: st') (nw h q k N) (bc - 1) (bs - N)
  | .anewarray idx => ∃ (c k : Nat) (j : Int32) (N : Nat) (st' : List sV), st = sI j :: st' ∧ 22 ≤ k ∧ k ≤ 24 ∧ sAe k = c ∧ sLn (sm M).1.cls idx c ∧ ¬ j < 0 ∧ j.toNatClampNeg = N ∧ N ≤ 100000 ∧ 1 ≤ bc ∧ N ≤ bs ∧ ∀ q, gk h q = 0 → X (pc + n) ls (sR (some q) :: st') (nw h q k N) (bc - 1) (bs - N)
  | .new idx => ∃ c : Nat, sLn (sm M).1.cls idx c ∧ 1 ≤ bc ∧ sN c ≤ bs ∧ ∀ q, gk h q = 0 → X (pc + n) ls (sR (some q) :: st) (nw h q (c + 1) 0) (bc - 1) (bs - sN c)
  | .checkcast idx => ∃ (a : Nat) (st' : List sV), st = sR (some a) :: st' ∧ Cond.classLink (sm M).1.cls idx "[I" ∈ sW ∧ gk h a = 20 ∧ X (pc + n) ls st h bc bs
  | .invokevirtual idx => (∃ (N k c a : Nat) (As st' : List sV) (bc' bs' : Nat) (P : Option sV → hp → Prop), st = As.reverse ++ sR (some a) :: st' ∧ As.length = k ∧ As.all sset = true ∧ sLv (sm M).1.cls idx N k c ∧ gk h a = c + 1 ∧ (st'.map sw).sum ≤ 8 ∧ bc' ≤ bc ∧ bs' ≤ bs ∧ O N (sR (some a) :: As) h bc' bs' P ∧ ∀ r h', P r h' → X (pc + n) ls (r.toList ++ st') h' (bc - bc') (bs - bs'))
      ∨ (∃ (a : Nat) (st' : List sV), st = sR (some a) :: st' ∧ sLk (sm M).1.cls idx ∧ gk h a = 20 ∧ (st'.map sw).sum ≤ 8 ∧ 1 ≤ bc ∧ gl h a ≤ bs ∧ ∀ q, gk h q = 0 → X (pc + n) ls (sR (some q) :: st') (wA (nw h q 20 (gl h a)) q (ga h a)) (bc - 1) (bs - gl h a))
  | .invokestatic idx => (∃ (N k : Nat) (As st' : List sV) (bc' bs' : Nat) (P : Option sV → hp → Prop), st = As.reverse ++ st' ∧ As.length = k ∧ As.all sset = true ∧ sLs (sm M).1.cls idx N k ∧ (st'.map sw).sum ≤ 8 ∧ bc' ≤ bc ∧ bs' ≤ bs ∧ O N As h bc' bs' P ∧ ∀ r h', P r h' → X (pc + n) ls (r.toList ++ st') h' (bc - bc') (bs - bs'))
      ∨ (∃ (a b : Nat) (u v w : Int32) (st' : List sV), st = sI w :: sI v :: sR (some b) :: sI u :: sR (some a) :: st' ∧ sLc (sm M).1.cls idx ∧ gk h a = 20 ∧ gk h b = 20 ∧ (st'.map sw).sum ≤ 8 ∧ ¬ u < 0 ∧ ¬ v < 0 ∧ ¬ w < 0 ∧ u.toNatClampNeg + w.toNatClampNeg ≤ gl h a ∧ v.toNatClampNeg + w.toNatClampNeg ≤ gl h b ∧ X (pc + n) ls st' (wA h b (va_cpy (ga h a) (ga h b) u.toNatClampNeg v.toNatClampNeg w.toNatClampNeg)) bc bs)
  | .invokespecial idx => (∃ (N k a : Nat) (As st' : List sV) (bc' bs' : Nat) (P : Option sV → hp → Prop), st = As.reverse ++ sR (some a) :: st' ∧ As.length = k ∧ As.all sset = true ∧ sLi (sm M).1.cls idx N k ∧ (st'.map sw).sum ≤ 8 ∧ bc' ≤ bc ∧ bs' ≤ bs ∧ O N (sR (some a) :: As) h bc' bs' P ∧ ∀ r h', P r h' → X (pc + n) ls (r.toList ++ st') h' (bc - bc') (bs - bs'))
      ∨ (∃ (a : Nat) (st' : List sV), st = sR (some a) :: st' ∧ sLo (sm M).1.cls idx ∧ (st'.map sw).sum ≤ 8 ∧ X (pc + n) ls st' h bc bs)
  | .ireturn => ∃ (x : Int32) (ty : FieldType), st = [sI x] ∧ (sm M).2.2.2 = some ty ∧ narrow ty (.int x) = .int x ∧ Q (some (sI x)) h
  | .areturn => ∃ (r : Option Nat) (ty : FieldType), st = [sR r] ∧ (sm M).2.2.2 = some ty ∧ ((∃ z, ty = .object z) ∨ ∃ z, ty = .array z) ∧ Q (some (sR r)) h
  | .return_ => st = [] ∧ (sm M).2.2.2 = none ∧ Q none h
  | i => ∃ (x y z : Int32) (st' : List sV), st = sI y :: sI x :: st' ∧ sbin i x y = some z ∧ X (pc + n) ls (sI z :: st') h bc bs
def sSt (O : sO) (Z : sZ) (M : Nat) (Q : Option sV → hp → Prop) (X : sCf) (pc : Nat) (ls st : List sV) (h : hp) (bc bs : Nat) : Prop := ∃ i n, decode (sm M).2.1 pc = .ok (i, n) ∧ (slen i = 0 ∨ n = slen i) ∧ sP O Z M Q X pc ls st h bc bs i n
def sWP (O : sO) (Z : sZ) (M : Nat) (Q : Option sV → hp → Prop) (pc : Nat) (ls st : List sV) (h : hp) (bc bs : Nat) : Prop := ∀ X : sCf, (∀ pc ls st h bc bs, sSt O Z M Q X pc ls st h bc bs → X pc ls st h bc bs) → X pc ls st h bc bs
/-- a call, at most d calls deep -/
def sCall : Nat → sO
  | 0 => fun _ _ _ _ _ _ => False
  | d + 1 => fun M vs h bc bs Q => vs.all sset = true ∧ vs.length ≤ (sm M).2.2.1 ∧ sWP (sCall d) none M Q 0 (vs ++ List.replicate ((sm M).2.2.1 - vs.length) sU) [] h bc bs
end
section
theorem sP_mono {O : sO} {Z : sZ} {M : Nat} {Q Q' : Option sV → hp → Prop} {X Y : sCf} (hX : ∀ pc ls st h bc bs, X pc ls st h bc bs → Y pc ls st h bc bs) (hQ : ∀ r h, Q r h → Q' r h) {pc : Nat} {ls st : List sV} {h : hp} {bc bs : Nat} {i : Instr} {n : Nat} (H : sP O Z M Q X pc ls st h bc bs i n) : sP O Z M Q' Y pc ls st h bc bs i n := by
  cases i <;> (dsimp only [sP] at H ⊢) <;> first
    | exact hX _ _ _ _ _ _ H
    | (obtain ⟨a1, a2, a3⟩ := H; exact ⟨a1, a2, hX _ _ _ _ _ _ a3⟩)
    | (obtain ⟨a1, a2, a3, a4⟩ := H; exact ⟨a1, a2, a3, hX _ _ _ _ _ _ a4⟩)
    | (obtain ⟨a1, a2, a3, a4, a5⟩ := H; exact ⟨a1, a2, a3, a4, hX _ _ _ _ _ _ a5⟩)
    | (obtain ⟨a1, a2, a3, a4, a5, a6⟩ := H; exact ⟨a1, a2, a3, a4, a5, hX _ _ _ _ _ _ a6⟩)
    | (obtain ⟨a1, a2, a3, a4, a5, a6, a7⟩ := H; exact ⟨a1, a2, a3, a4, a5, a6, hX _ _ _ _ _ _ a7⟩)
    | (obtain ⟨a1, a2, a3, a4, a5, a6, a7, a8⟩ := H; exact ⟨a1, a2, a3, a4, a5, a6, a7, hX _ _ _ _ _ _ a8⟩)
    | (obtain ⟨a1, a2, a3, a4, a5, a6, a7, a8, a9⟩ := H; exact ⟨a1, a2, a3, a4, a5, a6, a7, a8, hX _ _ _ _ _ _ a9⟩)
    | (obtain ⟨a1, a2, a3, a4, a5, a6, a7⟩ := H; exact ⟨a1, a2, a3, a4, a5, fun z => hX _ _ _ _ _ _ (a6 z), fun z => hX _ _ _ _ _ _ (a7 z)⟩)
    | (obtain ⟨a1, a2, a3, a4, a5, a6, a7, a8⟩ := H; exact ⟨a1, a2, a3, a4, a5, a6, fun z => hX _ _ _ _ _ _ (a7 z), fun z => hX _ _ _ _ _ _ (a8 z)⟩)
    | (obtain ⟨a1, a2, a3, a4, a5⟩ := H; exact ⟨a1, a2, a3, fun z => (a4 z).elim fun t q => ⟨t, q.1, hX _ _ _ _ _ _ q.2⟩, fun z => by obtain ⟨o, t, q1, q2, q3⟩ := a5 z; exact ⟨o, t, q1, q2, hX _ _ _ _ _ _ q3⟩⟩)
    | (obtain ⟨a1, a2, a3, a4, a5, a6, a7, a8, a9⟩ := H; refine ⟨a1, a2, a3, a4, a5, a6, a7, a8, ?_⟩; rcases a9 with ⟨z1, x, z2, z3, z4, z5⟩ | ⟨z1, x, z2, z3, z4, z5⟩; exact Or.inl ⟨z1, x, z2, z3, z4, hX _ _ _ _ _ _ z5⟩; exact Or.inr ⟨z1, x, z2, z3, z4, hX _ _ _ _ _ _ z5⟩)
    | (obtain ⟨a1, a2, a3, a4, a5⟩ := H; refine ⟨a1, a2, a3, a4, ?_⟩; rcases a5 with ⟨z1, z2, z3⟩ | ⟨z1, z2, z3, z4, z5⟩; exact Or.inl ⟨z1, z2, hX _ _ _ _ _ _ z3⟩; exact Or.inr ⟨z1, z2, z3, z4, hX _ _ _ _ _ _ z5⟩)
    | (obtain ⟨a1, a2, a3, a4⟩ := H; refine ⟨a1, a2, a3, ?_⟩; rcases a4 with ⟨z1, z2⟩ | ⟨z1, z2, z3, z4⟩; exact Or.inl ⟨z1, hX _ _ _ _ _ _ z2⟩; exact Or.inr ⟨z1, z2, z3, hX _ _ _ _ _ _ z4⟩)
    | (obtain ⟨a1, a2, a3, a4, a5, a6, a7, a8, a9, a10, a11, a12⟩ := H; exact ⟨a1, a2, a3, a4, a5, a6, a7, a8, a9, a10, a11, fun q z => hX _ _ _ _ _ _ (a12 q z)⟩)
    | (obtain ⟨a1, a2, a3, a4, a5, a6, a7, a8, a9, a10, a11, a12, a13, a14, a15, a16⟩ := H; exact ⟨a1, a2, a3, a4, a5, a6, a7, a8, a9, a10, a11, a12, a13, a14, a15, fun q z => hX _ _ _ _ _ _ (a16 q z)⟩)
    | (obtain ⟨a1, a2, a3, a4, a5⟩ := H; exact ⟨a1, a2, a3, a4, fun q z => hX _ _ _ _ _ _ (a5 q z)⟩)
    | (obtain ⟨a1, a2, a3, a4, a5⟩ := H; exact ⟨a1, a2, a3, a4, hQ _ _ a5⟩)
    | (obtain ⟨a1, a2, a3, a4, a5, a6⟩ := H; exact ⟨a1, a2, a3, a4, a5, hQ _ _ a6⟩)
    | (obtain ⟨a1, a2, a3⟩ := H; exact ⟨a1, a2, hQ _ _ a3⟩)
    | skip
  · rcases H with H | H
    · obtain ⟨a1, a2, a3, a4, a5, a6, a7, a8, a9, a10, a11, a12, a13, a14, a15, a16, a17⟩ := H
      exact Or.inl ⟨a1, a2, a3, a4, a5, a6, a7, a8, a9, a10, a11, a12, a13, a14, a15, a16, fun r h' z => hX _ _ _ _ _ _ (a17 r h' z)⟩
    · obtain ⟨a1, a2, a3, a4, a5, a6⟩ := H
      exact Or.inr ⟨a1, a2, a3, a4, a5, hX _ _ _ _ _ _ a6⟩
  · rcases H with H | H
    · obtain ⟨a1, a2, a3, a4, a5, a6, a7, a8, a9, a10, a11, a12, a13, a14, a15, a16⟩ := H
      exact Or.inl ⟨a1, a2, a3, a4, a5, a6, a7, a8, a9, a10, a11, a12, a13, a14, a15, fun r h' z => hX _ _ _ _ _ _ (a16 r h' z)⟩
    · obtain ⟨a1, a2, a3, a4, a5, a6, a7, a8, a9, a10, a11, a12, a13, a14, a15, a16, a17⟩ := H
      exact Or.inr ⟨a1, a2, a3, a4, a5, a6, a7, a8, a9, a10, a11, a12, a13, a14, a15, a16, hX _ _ _ _ _ _ a17⟩
  · rcases H with H | H
    · obtain ⟨a1, a2, a3, a4, a5, a6, a7, a8, a9, a10, a11, a12, a13, a14, a15, a16, a17, a18, a19⟩ := H
      exact Or.inl ⟨a1, a2, a3, a4, a5, a6, a7, a8, a9, a10, a11, a12, a13, a14, a15, a16, a17, a18, fun r h' z => hX _ _ _ _ _ _ (a19 r h' z)⟩
    · obtain ⟨a1, a2, a3, a4, a5, a6, a7, a8, a9⟩ := H
      exact Or.inr ⟨a1, a2, a3, a4, a5, a6, a7, a8, fun q z => hX _ _ _ _ _ _ (a9 q z)⟩
theorem sSt_mono {O : sO} {Z : sZ} {M : Nat} {Q Q' : Option sV → hp → Prop} {X Y : sCf} (hX : ∀ pc ls st h bc bs, X pc ls st h bc bs → Y pc ls st h bc bs) (hQ : ∀ r h, Q r h → Q' r h) {pc : Nat} {ls st : List sV} {h : hp} {bc bs : Nat} (H : sSt O Z M Q X pc ls st h bc bs) : sSt O Z M Q' Y pc ls st h bc bs := by
  obtain ⟨i, n, h1, h2, h3⟩ := H
  exact ⟨i, n, h1, h2, sP_mono hX hQ h3⟩
theorem sWP_fold {O : sO} {Z : sZ} {M : Nat} {Q : Option sV → hp → Prop} {pc : Nat} {ls st : List sV} {h : hp} {bc bs : Nat} (H : sSt O Z M Q (sWP O Z M Q) pc ls st h bc bs) : sWP O Z M Q pc ls st h bc bs := fun X hX => hX _ _ _ _ _ _ (sSt_mono (fun _ _ _ _ _ _ z => z X hX) (fun _ _ z => z) H)
theorem sWP_unfold {O : sO} {Z : sZ} {M : Nat} {Q : Option sV → hp → Prop} {pc : Nat} {ls st : List sV} {h : hp} {bc bs : Nat} (H : sWP O Z M Q pc ls st h bc bs) : sSt O Z M Q (sWP O Z M Q) pc ls st h bc bs := H (fun pc ls st h bc bs => sSt O Z M Q (sWP O Z M Q) pc ls st h bc bs) (fun _ _ _ _ _ _ z => sSt_mono (fun _ _ _ _ _ _ y => sWP_fold y) (fun _ _ y => y) z)
/-- at an instruction whose decoding is known -/
theorem sWP_at {O : sO} {Z : sZ} {M : Nat} {Q : Option sV → hp → Prop} {pc : Nat} {ls st : List sV} {h : hp} {bc bs : Nat} {cc : ByteArray} {i : Instr} {n : Nat} (hb : (sm M).2.1 = cc) (hd : decode cc pc = .ok (i, n)) (hn : slen i = 0 ∨ n = slen i) : sWP O Z M Q pc ls st h bc bs = sP O Z M Q (sWP O Z M Q) pc ls st h bc bs i n := by
  apply propext
  constructor
  · intro H
    obtain ⟨j, k, h1, -, h3⟩ := sWP_unfold H
    rw [hb, hd] at h1
    cases h1
    exact h3
  · intro H
    exact sWP_fold ⟨i, n, by rw [hb]; exact hd, hn, H⟩
theorem sWP_mono {O : sO} {Z : sZ} {M : Nat} {Q Q' : Option sV → hp → Prop} (hQ : ∀ r h, Q r h → Q' r h) {pc : Nat} {ls st : List sV} {h : hp} {bc bs : Nat} (H : sWP O Z M Q pc ls st h bc bs) : sWP O Z M Q' pc ls st h bc bs := H (sWP O Z M Q') (fun _ _ _ _ _ _ z => sWP_fold (sSt_mono (fun _ _ _ _ _ _ y => y) hQ z))
theorem sCall_mono {d M : Nat} {vs : List sV} {h : hp} {bc bs : Nat} {Q Q' : Option sV → hp → Prop} (hQ : ∀ r h, Q r h → Q' r h) (H : sCall d M vs h bc bs Q) : sCall d M vs h bc bs Q' := by
  cases d with
  | zero => exact H
  | succ d => exact ⟨H.1, H.2.1, sWP_mono hQ H.2.2⟩
end
section
theorem gk_wi {h : hp} {f a b : Nat} {v : Int32} : gk (wi h f a v) b = gk h b := rfl
theorem gl_wi {h : hp} {f a b : Nat} {v : Int32} : gl (wi h f a v) b = gl h b := rfl
theorem ga_wi {h : hp} {f a : Nat} {v : Int32} : ga (wi h f a v) = ga h := rfl
theorem gq_wi {h : hp} {f a : Nat} {v : Int32} : gq (wi h f a v) = gq h := rfl
theorem gi_wi {h : hp} {f a g b : Nat} {v : Int32} : gi (wi h f a v) g b = if g = f ∧ b = a then v else gi h g b := rfl
theorem gr_wi {h : hp} {f a g b : Nat} {v : Int32} : gr (wi h f a v) g b = gr h g b := rfl
theorem gk_wr {h : hp} {f a b : Nat} {v : Option Nat} : gk (wr h f a v) b = gk h b := rfl
theorem gl_wr {h : hp} {f a b : Nat} {v : Option Nat} : gl (wr h f a v) b = gl h b := rfl
theorem ga_wr {h : hp} {f a : Nat} {v : Option Nat} : ga (wr h f a v) = ga h := rfl
theorem gq_wr {h : hp} {f a : Nat} {v : Option Nat} : gq (wr h f a v) = gq h := rfl
theorem gi_wr {h : hp} {f a g b : Nat} {v : Option Nat} : gi (wr h f a v) g b = gi h g b := rfl
theorem gr_wr {h : hp} {f a g b : Nat} {v : Option Nat} : gr (wr h f a v) g b = if g = f ∧ b = a then v else gr h g b := rfl
theorem gk_wA {h : hp} {a b : Nat} {f : Nat → Int32} : gk (wA h a f) b = gk h b := rfl
theorem gl_wA {h : hp} {a b : Nat} {f : Nat → Int32} : gl (wA h a f) b = gl h b := rfl
theorem gi_wA {h : hp} {a g b : Nat} {f : Nat → Int32} : gi (wA h a f) g b = gi h g b := rfl
theorem gr_wA {h : hp} {a g b : Nat} {f : Nat → Int32} : gr (wA h a f) g b = gr h g b := rfl
theorem gq_wA {h : hp} {a : Nat} {f : Nat → Int32} : gq (wA h a f) = gq h := rfl
theorem ga_wA {h : hp} {a b : Nat} {f : Nat → Int32} : ga (wA h a f) b = if b = a then f else ga h b := rfl
theorem gk_wq {h : hp} {a j b : Nat} {v : Option Nat} : gk (wq h a j v) b = gk h b := rfl
theorem gl_wq {h : hp} {a j b : Nat} {v : Option Nat} : gl (wq h a j v) b = gl h b := rfl
theorem gi_wq {h : hp} {a j g b : Nat} {v : Option Nat} : gi (wq h a j v) g b = gi h g b := rfl
theorem gr_wq {h : hp} {a j g b : Nat} {v : Option Nat} : gr (wq h a j v) g b = gr h g b := rfl
theorem ga_wq {h : hp} {a j : Nat} {v : Option Nat} : ga (wq h a j v) = ga h := rfl
theorem gq_wq {h : hp} {a j b : Nat} {v : Option Nat} : gq (wq h a j v) b = if b = a then va_up (gq h a) j v else gq h b := rfl
theorem gk_nw {h : hp} {a k n b : Nat} : gk (nw h a k n) b = if b = a then k else gk h b := rfl
theorem gl_nw {h : hp} {a k n b : Nat} : gl (nw h a k n) b = if b = a then n else gl h b := rfl
theorem gi_nw {h : hp} {a k n g b : Nat} : gi (nw h a k n) g b = if b = a then 0 else gi h g b := rfl
theorem gr_nw {h : hp} {a k n g b : Nat} : gr (nw h a k n) g b = if b = a then none else gr h g b := rfl
theorem ga_nw {h : hp} {a k n b : Nat} : ga (nw h a k n) b = if b = a then (fun _ => 0) else ga h b := rfl
theorem gq_nw {h : hp} {a k n b : Nat} : gq (nw h a k n) b = if b = a then (fun _ => none) else gq h b := rfl
theorem sE_obj {cy : Nat → ClassId} {h : hp} {a c : Nat} (hk : gk h a = c + 1) (hc : c < 8) : sE cy h a = .inr (c, (List.range (sN c)).map (fun k => sv (sF h c k a))) := by
  unfold sE
  rw [if_pos (by omega), hk, Nat.add_sub_cancel]
theorem sE_int {cy : Nat → ClassId} {h : hp} {a : Nat} (hk : gk h a = 20) : sE cy h a = .inl (cy 0, gl h a, .inl (ga h a)) := by
  unfold sE
  rw [if_neg (by omega), if_pos (by omega), hk]
theorem sE_bool {cy : Nat → ClassId} {h : hp} {a : Nat} (hk : gk h a = 21) : sE cy h a = .inl (cy 1, gl h a, .inl (ga h a)) := by
  unfold sE
  rw [if_neg (by omega), if_pos (by omega), hk]
theorem sE_ref {cy : Nat → ClassId} {h : hp} {a : Nat} (hk : 22 ≤ gk h a) : sE cy h a = .inl (cy (gk h a - 20), gl h a, .inr (.inr (.inr (.inr (gq h a))))) := by
  unfold sE
  rw [if_neg (by omega), if_neg (by omega)]
theorem sE_congr {cy : Nat → ClassId} {h h' : hp} {a : Nat} (h1 : gk h' a = gk h a) (h2 : ∀ f, gi h' f a = gi h f a) (h3 : ∀ f, gr h' f a = gr h f a) (h4 : gl h' a = gl h a) (h5 : ga h' a = ga h a) (h6 : gq h' a = gq h a) : sE cy h' a = sE cy h a := by
  unfold sE sF
  simp only [h1, h2, h3, h4, h5, h6]
theorem sRange_set {N k : Nat} {f g : Nat → Value} {v : Value} (hk : k < N) (h1 : g k = v) (h2 : ∀ j, j ≠ k → g j = f j) : ((List.range N).map f).set k v = (List.range N).map g := by
  apply List.ext_getElem?
  intro j
  by_cases hj : j = k
  · subst hj
    rw [List.getElem?_set_self (by simpa using hk)]
    simp [hk, h1]
  · rw [List.getElem?_set_ne (Ne.symm hj)]
    by_cases hl : j < N
    · simp [hl, h2 j hj]
    · simp [hl]
theorem sE_wi {cy : Nat → ClassId} {h : hp} {a c k : Nat} {x : Int32} (hk : gk h a = c + 1) (hc : c < 8) (hN : k < sN c) (hB : sB (sT c k) = true) (b : Nat) : va_up (sE cy h) a (.inr (c, ((List.range (sN c)).map (fun k => sv (sF h c k a))).set k (.int x))) b = sE cy (wi h (100 * c + k) a x) b := by
  by_cases hb : b = a
  · subst hb
    rw [va_up_self, sE_obj (h := wi h (100 * c + k) b x) (by rw [gk_wi]; exact hk) hc]
    congr 2
    apply sRange_set hN
    · simp [sF, hB, gi_wi, sv]
    · intro j hj
      have e1 : ¬ (100 * c + j = 100 * c + k ∧ b = b) := fun z => hj (by have := z.1; omega)
      unfold sF
      have e2 : ¬ (100 * c + j = 100 * c + k) := fun z => e1 ⟨z, rfl⟩
      simp [gi_wi, gr_wi, hj]
  · rw [va_up_ne _ _ hb]
    symm
    apply sE_congr <;> first | rfl | (intro f; rfl) | (intro f; rw [gi_wi, if_neg (fun z => hb z.2)])
theorem sE_wr {cy : Nat → ClassId} {h : hp} {a c k : Nat} {x : Option Nat} (hk : gk h a = c + 1) (hc : c < 8) (hN : k < sN c) (hB : sB (sT c k) = false) (b : Nat) : va_up (sE cy h) a (.inr (c, ((List.range (sN c)).map (fun k => sv (sF h c k a))).set k (va_rf x))) b = sE cy (wr h (100 * c + k) a x) b := by
  by_cases hb : b = a
  · subst hb
    rw [va_up_self, sE_obj (h := wr h (100 * c + k) b x) (by rw [gk_wr]; exact hk) hc]
    congr 2
    apply sRange_set hN
    · simp [sF, hB, gr_wr, sv]
    · intro j hj
      have e1 : ¬ (100 * c + j = 100 * c + k ∧ b = b) := fun z => hj (by have := z.1; omega)
      unfold sF
      have e2 : ¬ (100 * c + j = 100 * c + k) := fun z => e1 ⟨z, rfl⟩
      simp [gi_wr, gr_wr, hj]
  · rw [va_up_ne _ _ hb]
    symm
    apply sE_congr <;> first | rfl | (intro f; rfl) | (intro f; rw [gr_wr, if_neg (fun z => hb z.2)])
theorem sE_wA {cy : Nat → ClassId} {h : hp} {a : Nat} {f : Nat → Int32} {t : Nat} (hk : gk h a = 20 + t) (ht : t < 2) (b : Nat) : va_up (sE cy h) a (.inl (cy t, gl h a, .inl f)) b = sE cy (wA h a f) b := by
  by_cases hb : b = a
  · subst hb
    rw [va_up_self]
    rcases (show t = 0 ∨ t = 1 by omega) with rfl | rfl
    · rw [sE_int (h := wA h b f) (by rw [gk_wA]; exact hk), gl_wA, ga_wA, if_pos rfl]
    · rw [sE_bool (h := wA h b f) (by rw [gk_wA]; exact hk), gl_wA, ga_wA, if_pos rfl]
  · rw [va_up_ne _ _ hb]
    symm
    apply sE_congr <;> first | rfl | (intro f; rfl) | (rw [ga_wA, if_neg hb])
theorem sE_wq {cy : Nat → ClassId} {h : hp} {a j : Nat} {v : Option Nat} (hk : 22 ≤ gk h a) (b : Nat) : va_up (sE cy h) a (.inl (cy (gk h a - 20), gl h a, .inr (.inr (.inr (.inr (va_up (gq h a) j v)))))) b = sE cy (wq h a j v) b := by
  by_cases hb : b = a
  · subst hb
    rw [va_up_self, sE_ref (h := wq h b j v) (by rw [gk_wq]; exact hk), gl_wq, gk_wq, gq_wq, if_pos rfl]
  · rw [va_up_ne _ _ hb]
    symm
    apply sE_congr <;> first | rfl | (intro f; rfl) | (rw [gq_wq, if_neg hb])
theorem sE_nw {cy : Nat → ClassId} {h : hp} {a k n : Nat} {e : va_E} (he : sE cy (nw h a k n) a = e) (b : Nat) : va_up (sE cy h) a e b = sE cy (nw h a k n) b := by
  by_cases hb : b = a
  · subst hb
    rw [va_up_self, he]
  · rw [va_up_ne _ _ hb]
    symm
    apply sE_congr
    · rw [gk_nw, if_neg hb]
    · intro f; rw [gi_nw, if_neg hb]
    · intro f; rw [gr_nw, if_neg hb]
    · rw [gl_nw, if_neg hb]
    · rw [ga_nw, if_neg hb]
    · rw [gq_nw, if_neg hb]
theorem sE_nwA {cy : Nat → ClassId} {h : hp} {a n : Nat} {f : Nat → Int32} (b : Nat) : va_up (sE cy h) a (.inl (cy 0, n, .inl f)) b = sE cy (wA (nw h a 20 n) a f) b := by
  by_cases hb : b = a
  · subst hb
    rw [va_up_self, sE_int (by rw [gk_wA, gk_nw, if_pos rfl]), gl_wA, gl_nw, if_pos rfl, ga_wA, if_pos rfl]
  · rw [va_up_ne _ _ hb]
    symm
    apply sE_congr
    · rw [gk_wA, gk_nw, if_neg hb]
    · intro f; rw [gi_wA, gi_nw, if_neg hb]
    · intro f; rw [gr_wA, gr_nw, if_neg hb]
    · rw [gl_wA, gl_nw, if_neg hb]
    · rw [ga_wA, if_neg hb, ga_nw, if_neg hb]
    · rw [gq_wA, gq_nw, if_neg hb]
-- worlds: a cell changes, a cell comes
theorem sWd.put {A : Nat → Prop} {D : va_G} {cy : Nat → ClassId} {h h' : hp} {L : List Nat} {H1 : Heap} {a k : Nat} {e : va_E} (hL : ∀ a, a ∈ L ↔ gk h a ≠ 0) (h24 : ∀ a, gk h a ≤ 24) (hD : va_D A ([] ++ va_pl L (sE cy h))) (hk : ([] ++ va_pl L (sE cy h))[k]? = some (a, sE cy h a)) (ha : a ∈ L) (hg : ∀ b, gk h' b = gk h b) (he : ∀ b, va_up (sE cy h) a e b = sE cy h' b) (hP1 : va_P D vwCl (([] ++ va_pl L (sE cy h)).set k (a, e)) H1) (hD1 : va_D A (([] ++ va_pl L (sE cy h)).set k (a, e))) : sWd A D cy h' H1 := by
  have e1 : ([] ++ va_pl L (sE cy h)).set k (a, e) = [] ++ va_pl L (sE cy h') := by
    rw [va_pl_set hD ha hk]
    exact congrArg (fun l => [] ++ l) (va_pl_congr he)
  rw [e1] at hP1 hD1
  exact ⟨L, fun b => by rw [hg]; exact hL b, fun b => by rw [hg]; exact h24 b, hP1, hD1⟩
theorem sWd.new {A : Nat → Prop} {D : va_G} {cy : Nat → ClassId} {h h' : hp} {L : List Nat} {H1 : Heap} {q kn : Nat} {e : va_E} (hL : ∀ a, a ∈ L ↔ gk h a ≠ 0) (h24 : ∀ a, gk h a ≤ 24) (hkn : kn ≠ 0 ∧ kn ≤ 24) (hq : q ∉ L) (hg : ∀ b, gk h' b = if b = q then kn else gk h b) (he : ∀ b, va_up (sE cy h) q e b = sE cy h' b) (hP1 : va_P D vwCl (([] ++ va_pl L (sE cy h)) ++ [(q, e)]) H1) (hD1 : va_D A (([] ++ va_pl L (sE cy h)) ++ [(q, e)])) : sWd A D cy h' H1 := by
  have e1 : ([] ++ va_pl L (sE cy h)) ++ [(q, e)] = [] ++ va_pl (L ++ [q]) (sE cy h') := by
    rw [List.append_assoc, va_pl_push hq]
    exact congrArg (fun l => [] ++ l) (va_pl_congr he)
  rw [e1] at hP1 hD1
  refine ⟨L ++ [q], fun b => ?_, fun b => ?_, hP1, hD1⟩
  · rw [hg]
    by_cases hb : b = q
    · subst hb
      simp [hkn.1]
    · simp [hb, hL b]
  · rw [hg]
    by_cases hb : b = q
    · subst hb
      simp [hkn.2]
    · simp [hb, h24 b]
-- an object that has just come
theorem sE_born {cy : Nat → ClassId} {h : hp} {q c : Nat} (hc : c < 8) : sE cy (nw h q (c + 1) 0) q = .inr (c, (List.range (sN c)).map (fun k => sv (if sB (sT c k) = true then sI 0 else sR none))) := by
  rw [sE_obj (c := c) (by rw [gk_nw, if_pos rfl]) hc]
  congr 2
  apply List.map_congr_left
  intro k _
  unfold sF
  rw [gi_nw, gr_nw, if_pos rfl, if_pos rfl]
-- locals
def sprs (ls : List sV) : List (Nat × Value) := (List.range ls.length).filterMap (fun i => (ls[i]?).bind (fun v => if sset v = true then some (i, sv v) else none))
theorem sprs_mem {ls : List sV} {q : Nat × Value} : q ∈ sprs ls ↔ ∃ v, ls[q.1]? = some v ∧ sset v = true ∧ q.2 = sv v := by
  unfold sprs
  rw [List.mem_filterMap]
  constructor
  · rintro ⟨i, -, hi⟩
    cases hv : ls[i]? with
    | none => rw [hv] at hi; cases hi
    | some v =>
      rw [hv, Option.bind_some] at hi
      by_cases hs : sset v = true
      · rw [if_pos hs] at hi
        cases hi
        exact ⟨v, hv, hs, rfl⟩
      · rw [if_neg hs] at hi
        cases hi
  · rintro ⟨v, h1, h2, h3⟩
    refine ⟨q.1, List.mem_range.mpr (List.getElem?_eq_some_iff.mp h1).1, ?_⟩
    rw [h1, Option.bind_some, if_pos h2, ← h3]
theorem sset_cat {v : sV} (h : sset v = true) : (sv v).category = 1 := by
  rcases v with x | ⟨(_ | a)⟩ | x | x <;> first | rfl | cases h
theorem sLs_get {lsM : Array Slot} {n i : Nat} {ls : List sV} {v : sV} (h : lv_has lsM n (sprs ls)) (hi : ls[i]? = some v) (hs : sset v = true) : lsM[i]? = some (.val (sv v)) := h.2.2 (i, sv v) (sprs_mem.mpr ⟨v, hi, hs, rfl⟩)
theorem lv_mono {lsM : Array Slot} {n : Nat} {l l' : List (Nat × Value)} (h : lv_has lsM n l) (hs : ∀ q ∈ l', q ∈ l) : lv_has lsM n l' := ⟨h.1, h.2.1, fun q hq => h.2.2 q (hs q hq)⟩
theorem sLs_set {lsM : Array Slot} {n i : Nat} {ls : List sV} {v : sV} (hs : sset v = true) (h : lv_has lsM n ((i, sv v) :: (sprs ls).filter (fun q => !(q.1 == i) && !(q.1 + 1 == i && q.2.category == 2)))) : lv_has lsM n (sprs (ls.set i v)) := by
  apply lv_mono h
  intro q hq
  obtain ⟨w, h1, h2, h3⟩ := sprs_mem.mp hq
  by_cases hi : q.1 = i
  · rw [hi] at h1
    have hl : i < (ls.set i v).length := (List.getElem?_eq_some_iff.mp h1).1
    rw [List.length_set] at hl
    rw [List.getElem?_set_self hl] at h1
    cases h1
    exact List.mem_cons.mpr (Or.inl (by rw [← hi, ← h3]))
  · rw [List.getElem?_set_ne (Ne.symm hi)] at h1
    refine List.mem_cons.mpr (Or.inr (List.mem_filter.mpr ⟨sprs_mem.mpr ⟨w, h1, h2, h3⟩, ?_⟩))
    have hc : q.2.category = 1 := by rw [h3]; exact sset_cat h2
    simp [hi, hc]
theorem slg_len (vs : List sV) (h : vs.all sset = true) : (lg_sl (vs.map sv)).length = vs.length := by
  induction vs with
  | nil => rfl
  | cons v vs ih =>
    simp only [List.all_cons, Bool.and_eq_true] at h
    have := ih h.2
    simp only [lg_sl, List.map_cons, List.flatMap_cons, List.length_append, List.length_cons] at this ⊢
    rw [this, sset_cat h.1]
    simp
    omega
theorem slv_args (vs : List sV) (h : vs.all sset = true) : ∀ (i j : Nat) (v : sV), vs[j]? = some v → (i + j, sv v) ∈ lv_args i (vs.map sv) := by
  induction vs with
  | nil => intro i j v hv; simp at hv
  | cons w vs ih =>
    intro i j v hv
    simp only [List.all_cons, Bool.and_eq_true] at h
    rw [List.map_cons, lv_args, sset_cat h.1]
    cases j with
    | zero =>
      rw [List.getElem?_cons_zero] at hv
      cases hv
      exact List.mem_cons_self
    | succ j =>
      rw [List.getElem?_cons_succ] at hv
      refine List.mem_cons_of_mem _ ?_
      have := ih h.2 (i + 1) j v hv
      rw [show i + (j + 1) = i + 1 + j by omega]
      simpa using this
theorem sLs_entry {vs : List sV} {n : Nat} (h : vs.all sset = true) (hn : vs.length ≤ n) : lv_has ((lg_sl (vs.map sv) ++ List.replicate (n - (lg_sl (vs.map sv)).length) Slot.unset).toArray) n (sprs (vs ++ List.replicate (n - vs.length) sU)) := by
  apply lv_mono (lv_entry (vs.map sv) (n := n) (by rw [slg_len vs h]; exact hn))
  intro q hq
  obtain ⟨w, h1, h2, h3⟩ := sprs_mem.mp hq
  by_cases hl : q.1 < vs.length
  · rw [List.getElem?_append_left hl] at h1
    have := slv_args vs h 0 q.1 w h1
    rw [Nat.zero_add, ← h3] at this
    exact this
  · rw [List.getElem?_append_right (by omega), List.getElem?_replicate] at h1
    split at h1
    · cases h1
      cases h2
    · cases h1
end
section
def sRm (d mc ms : Nat) : Room := { frames := d, cells := mc, slots := ms, locals := 40 * d }
def sPre (A : Nat → Prop) (D : va_G) (cy : Nat → ClassId) (vs : List sV) (h : hp) : Array Value → State → Prop := va_Pc (vs.map sv) (fun U => sWd A D cy h U.heap ∧ va_K D vwCl (sy cy) U ∧ sX U ∧ ∀ q, U.heap.size ≤ q → A q)
def sPost (A : Nat → Prop) (D : va_G) (cy : Nat → ClassId) (P : Option sV → hp → Prop) : Array Value → State → Outcome → State → Prop := fun _ st oc t => (∃ (r : Option sV) (h : hp), oc = .returned (r.map sv) ∧ P r h ∧ sWd A D cy h t.heap) ∧ va_F A st t
theorem sX.moved {u U : State} (hW : u.WarmedH U.vm) (h : sX u) : sX U := ⟨h.1.moved hW.alike, h.2.1.moved hW.alike, h.2.2.1.moved hW.alike, va_Nw.warmC hW h.2.2.2.1, fun q hq => va_Nw.warmM hW (h.2.2.2.2 q hq)⟩
theorem sX.same {u U : State} (hv : u.vm = U.vm) (h : sX u) : sX U := ⟨h.1.moved (by rw [hv]; exact Vm.Alike.refl _), h.2.1.moved (by rw [hv]; exact Vm.Alike.refl _), h.2.2.1.moved (by rw [hv]; exact Vm.Alike.refl _), va_Nw.same rfl hv h.2.2.2.1, fun q hq => va_Nw.same rfl hv (h.2.2.2.2 q hq)⟩
theorem sPre_blind {A : Nat → Prop} {D : va_G} {cy : Nat → ClassId} {vs : List sV} {h : hp} : FrameBlind (sPre A D cy vs h) := fun a U g mk q => ⟨q.1, q.2.1, va_K.moved (u := U) (U := U.calling g mk a) (Vm.Alike.refl U.vm) q.2.2.1, sX.same (u := U) (U := U.calling g mk a) rfl q.2.2.2.1, q.2.2.2.2⟩
theorem sW_good : ∀ w ∈ sW, goodWord w = true := fun w hw => (List.mem_filter.mp hw).2
theorem sW_in {w : Cond} (h : w ∈ lw_tbl) (hg : goodWord w = true) : w ∈ sW := List.mem_filter.mpr ⟨h, hg⟩
theorem sGoodIn {M : Nat} (h : Cond.code (sm M).1 (sm M).2.1 (sm M).2.2.1 (sm M).2.2.2 ∈ sW) : GoodIn sW (sws M) := fun w hw => by
  rcases List.mem_cons.mp hw with rfl | hw
  · exact ⟨h, good_of_word (sW_good _ h)⟩
  · exact ⟨hw, good_of_word (sW_good _ hw)⟩
-- the classes, once for all
theorem sCl (c : Nat) (q : vw_C) (hq : vwCl[c]? = some q) : c < 8 ∧ sN c = q.2.2 ∧ (∀ w ∈ u_ws q.1 q.2.1 q.2.2, w ∈ sW) ∧ (∀ k, k < q.2.2 → parseFieldDescriptor (q.2.1 k).2.2.1 = some (sT c k)) ∧ (∀ a, a < q.2.2 → ∀ b, b < q.2.2 → a ≠ b → (q.2.1 a).2.1 ≠ (q.2.1 b).2.1) ∧ Cond.instantiable q.1 q.2.2 ∈ sW ∧ Cond.initialized q.1 ∈ sW := by
  match c, hq with
  | 0, hq => cases hq; exact ⟨by decide, rfl, by decide +kernel, tyX0_ok, nmX0, by decide +kernel, by decide +kernel⟩
  | 1, hq => cases hq; exact ⟨by decide, rfl, by decide +kernel, tyX1_ok, nmX1, by decide +kernel, by decide +kernel⟩
  | 2, hq => cases hq; exact ⟨by decide, rfl, by decide +kernel, tyX2_ok, nmX2, by decide +kernel, by decide +kernel⟩
  | 3, hq => cases hq; exact ⟨by decide, rfl, by decide +kernel, tyX3_ok, nmX3, by decide +kernel, by decide +kernel⟩
  | 4, hq => cases hq; exact ⟨by decide, rfl, by decide +kernel, tyX4_ok, nmX4, by decide +kernel, by decide +kernel⟩
  | 5, hq => cases hq; exact ⟨by decide, rfl, by decide +kernel, tyX5_ok, nmX5, by decide +kernel, by decide +kernel⟩
  | 6, hq => cases hq; exact ⟨by decide, rfl, by decide +kernel, tyX6_ok, nmX6, by decide +kernel, by decide +kernel⟩
  | 7, hq => cases hq; exact ⟨by decide, rfl, by decide +kernel, tyX7_ok, nmX7, by decide +kernel, by decide +kernel⟩
  | c + 8, hq => simp [vwCl] at hq
theorem sObjI : Cond.instanceMethod objectInit ∈ sW := by decide +kernel
theorem sObjC : Cond.code objectInit ⟨#[0xb1]⟩ 1 none ∈ sW := by decide +kernel
theorem sCpN : Cond.native arraycopyName ∈ sW := by decide +kernel
theorem sCpS : Cond.static arraycopyName ∈ sW := by decide +kernel
theorem sCpI : Cond.initialized "java/lang/System" ∈ sW := by decide +kernel
theorem sClS : Cond.sameMethod "[I" "java/lang/Object" "clone" "()Ljava/lang/Object;" ∈ sW := by decide +kernel
theorem sClN : Cond.native ⟨"java/lang/Object", "clone", "()Ljava/lang/Object;"⟩ ∈ sW := by decide +kernel
theorem sClI : Cond.instanceMethod ⟨"java/lang/Object", "clone", "()Ljava/lang/Object;"⟩ ∈ sW := by decide +kernel
theorem sClX : Cond.selects "[I" ⟨"[I", "clone", "()Ljava/lang/Object;"⟩ ⟨"java/lang/Object", "clone", "()Ljava/lang/Object;"⟩ ∈ sW := by decide +kernel
theorem sArI : Cond.arrayClass .int ∈ sW := by decide +kernel
theorem sArZ : Cond.arrayClass .boolean ∈ sW := by decide +kernel
end
section
section SOUND
variable {p : Program} {l : Launch} {e : Env} {s : State} {m : MethodId} {args : Array Value} {below : List Frame} {meth : Method} {c : Code} {R : Room} {A : Nat → Prop} {D : va_G} {cy : Nat → ClassId} {M d mc ms : Nat} {Q : Option sV → hp → Prop} {Z : sZ} {O : sO} {Qw : State → Prop}
/-- what the machine must come to, from a configuration -/
def sGo (p : Program) (l : Launch) (e : Env) (R : Room) (s : State) (m : MethodId) (args : Array Value) (below : List Frame) (meth : Method) (c : Code) (A : Nat → Prop) (D : va_G) (cy : Nat → ClassId) (nL mc ms : Nat) (Qw : State → Prop) : sCf := fun pc ls st h bc bs => ∀ (H : Heap) (locs : List Loc) (cells slots : Nat) (lsM : Array Slot), sWd A D cy h H → va_S A s.heap H locs → lv_has lsM nL (sprs ls) → ls.length = nL → cells + bc ≤ mc → slots + bs ≤ ms → W p l e R s m args below meth c H locs cells slots Qw (F0 m pc lsM (st.map sv))
def sFix (p : Program) (s : State) (m : MethodId) (args : Array Value) (meth : Method) (c : Code) (R : Room) (A : Nat → Prop) (D : va_G) (cy : Nat → ClassId) (M d mc ms : Nat) (Z : sZ) : Prop :=
  p.tables.exec = Jvm.exec ∧ c.code = (sm M).2.1 ∧ c.maxLocals = (sm M).2.2.1 ∧ s.vm.findClass (sm M).1.cls = some m.cls ∧ meth.name = (sm M).1.name ∧ (∀ w ∈ sW, w.before args s = true) ∧ va_K D vwCl (sy cy) s ∧ sX s ∧ (∀ q, s.heap.size ≤ q → A q) ∧ R.cells = mc ∧ R.slots = ms ∧ d + 1 ≤ R.frames ∧ 40 * (d + 1) ≤ R.locals ∧ ∀ b L xs, Z = some (b, L, xs) → va_X b L xs s s.heap ∧ b < s.heap.size ∧ ¬ A b
/-- a call, whatever it answers -/
theorem sCallRow {mcc msc : Nat} {pc : Nat} {ls : Array Slot} {st0 rest : List Value} {H H0 : Heap} {locs : List Loc} {cells slots : Nat} {P : Option sV → hp → Prop} {a : Array Value} (hr : va_Run p l e R s m args below meth c H locs cells slots mcc msc (F0 m pc ls st0) rest (sPost A D cy P a) A) (hS : va_S A H0 H locs)
    (kk : ∀ (r : Option sV) (h : hp) (H1 : Heap) (locs1 : List Loc), P r h → sWd A D cy h H1 → va_S A H0 H1 locs1 → W p l e R s m args below meth c H1 locs1 (cells + mcc) (slots + msc) Qw (F0 m (pc + 3) ls ((r.map sv).toList ++ rest))) : W p l e R s m args below meth c H locs cells slots Qw (F0 m pc ls st0) := by
  intro T hT X
  obtain ⟨v, st₀, t, T', L, h0, X', hL, e1, e2, ⟨⟨r, h, hv, hp, hw⟩, hz, hk⟩, st⟩ := hr T hT X
  cases hv
  rw [h0] at hz hk
  obtain ⟨t2, a1, b1⟩ := kk r h T'.heap (locs ++ L) hp (by rw [e1]; exact hw)
    ⟨Nat.le_trans hS.1 (by rw [e1]; exact hz), fun q h1 h2 => by rw [e1, hk q (Nat.lt_of_lt_of_le h1 hS.1) h2]; exact hS.2.1 q h1 h2, fun q hq => by
      rcases List.mem_append.mp hq with h | h
      · exact hS.2.2 q h
      · exact hL q h⟩ T' rfl X'
  exact ⟨t2, st t2 a1, b1⟩
theorem sCat (st : List sV) : ((st.map sv).map fun v => v.category).sum = (st.map sw).sum := by
  rw [List.map_map]
  congr 1
  apply List.map_congr_left
  intro v _
  exact sw_cat v
theorem sfree {h : hp} {H : Heap} {L : List Nat} (hL : ∀ a, a ∈ L ↔ gk h a ≠ 0) {q : Nat} (hq : q ∉ L) : gk h q = 0 := by
  by_cases h0 : gk h q = 0
  · exact h0
  · exact absurd ((hL q).mpr h0) hq
theorem snotin {ws : va_W} {L : List Nat} {f : Nat → va_E} {q : Nat} {x : va_E} (hw : ws = [] ++ va_pl L f) (hD : va_D A (ws ++ [(q, x)])) : q ∉ L := by
  intro hq
  subst hw
  obtain ⟨k, hk⟩ := va_pl_get (X := []) (f := f) hq
  have hl := (List.getElem?_eq_some_iff.mp hk).1
  have h1 : (([] ++ va_pl L f) ++ [(q, x)])[k]? = some (q, f q) := by rw [List.getElem?_append_left hl]; exact hk
  have h2 : (([] ++ va_pl L f) ++ [(q, x)])[([] ++ va_pl L f).length]? = some (q, x) := by rw [List.getElem?_append_right (Nat.le_refl _), Nat.sub_self]; rfl
  have := hD.1 _ _ _ _ h1 h2 rfl
  omega
theorem stys {t : Nat} (cy : Nat → ClassId) (h1 : 22 ≤ t) (h2 : t ≤ 24) : ∃ q, vwCl[sAe t]? = some q ∧ (sy cy)[t - 20]? = some (cy (t - 20), .object q.1) := by
  rcases (show t = 22 ∨ t = 23 ∨ t = 24 by omega) with rfl | rfl | rfl
  · exact ⟨_, rfl, rfl⟩
  · exact ⟨_, rfl, rfl⟩
  · exact ⟨_, rfl, rfl⟩
end SOUND
end
section
section SOUND2
variable {p : Program} {l : Launch} {e : Env} {s : State} {m : MethodId} {args : Array Value} {below : List Frame} {meth : Method} {c : Code} {R : Room} {A : Nat → Prop} {D : va_G} {cy : Nat → ClassId} {M d mc ms : Nat} {Q : Option sV → hp → Prop} {Z : sZ} {O : sO} {Qw : State → Prop} {pc : Nat} {ls st : List sV} {h : hp} {bc bs : Nat}
theorem sS_getfield {idx : Nat} (F : sFix p s m args meth c R A D cy M d mc ms Z) (hd : decode (sm M).2.1 pc = .ok (.getfield idx, 3)) (hp : sP O Z M Q (sGo p l e R s m args below meth c A D cy (sm M).2.2.1 mc ms Qw) pc ls st h bc bs (.getfield idx) 3) : sGo p l e R s m args below meth c A D cy (sm M).2.2.1 mc ms Qw pc ls st h bc bs := by
  obtain ⟨hx, hb, hml, hown, hnm, hts, hK, hX, hA, hRc, hRs, hRf, hRl, hZ⟩ := F
  obtain ⟨c0, k, a, st', rfl, ⟨q, hq, hkN, hlink⟩, hg, hk⟩ := hp
  intro H locs cells slots lsM hW hS hl hll hc hs
  obtain ⟨L, hL, h24, hP, hD⟩ := id hW
  obtain ⟨c8, cN, cW, cT, cM, cI, cZ⟩ := sCl c0 q hq
  have haL : a ∈ L := (hL a).mpr (by rw [hg]; omega)
  obtain ⟨pk, hpk⟩ := va_pl_get (X := []) (f := sE cy h) haL
  have he := hpk
  rw [sE_obj hg c8] at he
  show W p l e R s m args below meth c H locs cells slots Qw (F0 m pc lsM (.ref a :: st'.map sv))
  refine va_get (D := D) (ci := c0) (v := sv (sF h c0 k a)) (C := q.1) (T := q.2.1) (N := q.2.2) hx hb hts cW hown hK hP pk he hq k hkN (hts _ hlink) (fun _ z => z) ?_ hd (hk H locs cells slots lsM hW hS hl hll hc hs)
  rw [cN]
  simp [hkN]
theorem sS_putfield {idx : Nat} (F : sFix p s m args meth c R A D cy M d mc ms Z) (hd : decode (sm M).2.1 pc = .ok (.putfield idx, 3)) (hp : sP O Z M Q (sGo p l e R s m args below meth c A D cy (sm M).2.2.1 mc ms Qw) pc ls st h bc bs (.putfield idx) 3) : sGo p l e R s m args below meth c A D cy (sm M).2.2.1 mc ms Qw pc ls st h bc bs := by
  obtain ⟨hx, hb, hml, hown, hnm, hts, hK, hX, hA, hRc, hRs, hRf, hRl, hZ⟩ := F
  obtain ⟨c0, k, a, v, st', rfl, ⟨q, hq, hkN, hlink, hfin⟩, hg, hk⟩ := hp
  intro H locs cells slots lsM hW hS hl hll hc hs
  obtain ⟨L, hL, h24, hP, hD⟩ := id hW
  obtain ⟨c8, cN, cW, cT, cM, cI, cZ⟩ := sCl c0 q hq
  have haL : a ∈ L := (hL a).mpr (by rw [hg]; omega)
  obtain ⟨pk, hpk⟩ := va_pl_get (X := []) (f := sE cy h) haL
  have he := hpk
  rw [sE_obj hg c8] at he
  have hkN' : k < sN c0 := by rw [cN]; exact hkN
  show W p l e R s m args below meth c H locs cells slots Qw (F0 m pc lsM (sv v :: .ref a :: st'.map sv))
  have key : narrow (sT c0 k) (sv v) = sv v → fits (sT c0 k) (sv v) = true → (∀ (H1 : Heap) (locs1 : List Loc), va_P D vwCl (([] ++ va_pl L (sE cy h)).set pk (a, .inr (c0, ((List.range (sN c0)).map (fun k => sv (sF h c0 k a))).set k (sv v)))) H1 → va_D A (([] ++ va_pl L (sE cy h)).set pk (a, .inr (c0, ((List.range (sN c0)).map (fun k => sv (sF h c0 k a))).set k (sv v)))) → va_S A s.heap H1 locs1 → W p l e R s m args below meth c H1 locs1 cells slots Qw (F0 m (pc + 3) lsM (st'.map sv))) → W p l e R s m args below meth c H locs cells slots Qw (F0 m pc lsM (sv v :: .ref a :: st'.map sv)) := by
    intro hn hfit kk
    rcases hfin with hf | ⟨hf, hi, ho⟩
    · exact va_put (D := D) (ci := c0) (v := sv v) (ty := sT c0 k) (C := q.1) (T := q.2.1) (N := q.2.2) hx hb hts cW (sT c0) cT cM hown hK hP hD hS pk he hq k hkN (hts _ hlink) (fun _ z => z) hf (cT k hkN) hn hfit (by simpa using hkN') hd kk
    · exact va_putF (D := D) (ci := c0) (v := sv v) (ty := sT c0 k) (C := q.1) (T := q.2.1) (N := q.2.2) hx hb hts cW (sT c0) cT cM hown hK hP hD hS pk he hq k hkN (hts _ hlink) (fun _ z => z) hf (hnm.trans hi) ho (cT k hkN) hn hfit (by simpa using hkN') hd kk
  rcases hk with ⟨hB, x, rfl, hn, hfit, hk⟩ | ⟨hB, r, rfl, hn, hfit, hk⟩
  · exact key hn hfit (fun H1 locs1 hP1 hD1 hS1 => hk H1 locs1 cells slots lsM (sWd.put hL h24 hD hpk haL (fun b => gk_wi) (sE_wi hg c8 hkN' hB) hP1 hD1) hS1 hl hll hc hs)
  · exact key hn hfit (fun H1 locs1 hP1 hD1 hS1 => hk H1 locs1 cells slots lsM (sWd.put hL h24 hD hpk haL (fun b => gk_wr) (sE_wr hg c8 hkN' hB) hP1 hD1) hS1 hl hll hc hs)
theorem sS_iaload (F : sFix p s m args meth c R A D cy M d mc ms Z) (hd : decode (sm M).2.1 pc = .ok (.iaload, 1)) (hp : sP O Z M Q (sGo p l e R s m args below meth c A D cy (sm M).2.2.1 mc ms Qw) pc ls st h bc bs .iaload 1) : sGo p l e R s m args below meth c A D cy (sm M).2.2.1 mc ms Qw pc ls st h bc bs := by
  obtain ⟨hx, hb, hml, hown, hnm, hts, hK, hX, hA, hRc, hRs, hRf, hRl, hZ⟩ := F
  obtain ⟨j, a, st', rfl, hk⟩ := hp
  intro H locs cells slots lsM hW hS hl hll hc hs
  show W p l e R s m args below meth c H locs cells slots Qw (F0 m pc lsM (.int j :: .ref a :: st'.map sv))
  rcases hk with ⟨hg, hin, hk⟩ | ⟨L0, xs, rfl, hin, hk⟩
  · obtain ⟨L, hL, h24, hP, hD⟩ := id hW
    have haL : a ∈ L := (hL a).mpr (by rw [hg]; omega)
    obtain ⟨pk, hpk⟩ := va_pl_get (X := []) (f := sE cy h) haL
    rw [sE_int hg] at hpk
    exact va_iald hx hb hK hP pk 0 hpk rfl hin hd (hk H locs cells slots lsM hW hS hl hll hc hs)
  · obtain ⟨z1, z2, z3⟩ := hZ _ _ _ rfl
    exact va_sld hx hb z1 z2 z3 hS hin hd (hk H locs cells slots lsM hW hS hl hll hc hs)
theorem sS_baload (F : sFix p s m args meth c R A D cy M d mc ms Z) (hd : decode (sm M).2.1 pc = .ok (.baload, 1)) (hp : sP O Z M Q (sGo p l e R s m args below meth c A D cy (sm M).2.2.1 mc ms Qw) pc ls st h bc bs .baload 1) : sGo p l e R s m args below meth c A D cy (sm M).2.2.1 mc ms Qw pc ls st h bc bs := by
  obtain ⟨hx, hb, hml, hown, hnm, hts, hK, hX, hA, hRc, hRs, hRf, hRl, hZ⟩ := F
  obtain ⟨j, a, st', rfl, hg, hin, hk⟩ := hp
  intro H locs cells slots lsM hW hS hl hll hc hs
  show W p l e R s m args below meth c H locs cells slots Qw (F0 m pc lsM (.int j :: .ref a :: st'.map sv))
  obtain ⟨L, hL, h24, hP, hD⟩ := id hW
  have haL : a ∈ L := (hL a).mpr (by rw [hg]; omega)
  obtain ⟨pk, hpk⟩ := va_pl_get (X := []) (f := sE cy h) haL
  rw [sE_bool hg] at hpk
  exact va_zald hx hb hK hP pk 1 hpk rfl hin hd (hk H locs cells slots lsM hW hS hl hll hc hs)
theorem sS_aaload (F : sFix p s m args meth c R A D cy M d mc ms Z) (hd : decode (sm M).2.1 pc = .ok (.aaload, 1)) (hp : sP O Z M Q (sGo p l e R s m args below meth c A D cy (sm M).2.2.1 mc ms Qw) pc ls st h bc bs .aaload 1) : sGo p l e R s m args below meth c A D cy (sm M).2.2.1 mc ms Qw pc ls st h bc bs := by
  obtain ⟨hx, hb, hml, hown, hnm, hts, hK, hX, hA, hRc, hRs, hRf, hRl, hZ⟩ := F
  obtain ⟨j, a, st', rfl, hg, hin, hk⟩ := hp
  intro H locs cells slots lsM hW hS hl hll hc hs
  show W p l e R s m args below meth c H locs cells slots Qw (F0 m pc lsM (.int j :: .ref a :: st'.map sv))
  obtain ⟨L, hL, h24, hP, hD⟩ := id hW
  have haL : a ∈ L := (hL a).mpr (by omega)
  obtain ⟨pk, hpk⟩ := va_pl_get (X := []) (f := sE cy h) haL
  rw [sE_ref hg] at hpk
  obtain ⟨q, -, hty⟩ := stys cy hg (h24 a)
  exact va_aldq hx hb hK hP pk _ hpk hty hin hd (hk H locs cells slots lsM hW hS hl hll hc hs)
theorem sS_iastore (F : sFix p s m args meth c R A D cy M d mc ms Z) (hd : decode (sm M).2.1 pc = .ok (.iastore, 1)) (hp : sP O Z M Q (sGo p l e R s m args below meth c A D cy (sm M).2.2.1 mc ms Qw) pc ls st h bc bs .iastore 1) : sGo p l e R s m args below meth c A D cy (sm M).2.2.1 mc ms Qw pc ls st h bc bs := by
  obtain ⟨hx, hb, hml, hown, hnm, hts, hK, hX, hA, hRc, hRs, hRf, hRl, hZ⟩ := F
  obtain ⟨x, j, a, st', rfl, hg, hin, hk⟩ := hp
  intro H locs cells slots lsM hW hS hl hll hc hs
  show W p l e R s m args below meth c H locs cells slots Qw (F0 m pc lsM (.int x :: .int j :: .ref a :: st'.map sv))
  obtain ⟨L, hL, h24, hP, hD⟩ := id hW
  have haL : a ∈ L := (hL a).mpr (by rw [hg]; omega)
  obtain ⟨pk, hpk⟩ := va_pl_get (X := []) (f := sE cy h) haL
  have he := hpk
  rw [sE_int hg] at he
  exact va_iast hx hb hK hP hD hS pk 0 he rfl hin hd (fun H1 locs1 hP1 hD1 hS1 => hk H1 locs1 cells slots lsM (sWd.put hL h24 hD hpk haL (fun b => gk_wA) (sE_wA (t := 0) hg (by omega)) hP1 hD1) hS1 hl hll hc hs)
theorem sS_bastore (F : sFix p s m args meth c R A D cy M d mc ms Z) (hd : decode (sm M).2.1 pc = .ok (.bastore, 1)) (hp : sP O Z M Q (sGo p l e R s m args below meth c A D cy (sm M).2.2.1 mc ms Qw) pc ls st h bc bs .bastore 1) : sGo p l e R s m args below meth c A D cy (sm M).2.2.1 mc ms Qw pc ls st h bc bs := by
  obtain ⟨hx, hb, hml, hown, hnm, hts, hK, hX, hA, hRc, hRs, hRf, hRl, hZ⟩ := F
  obtain ⟨x, j, a, st', rfl, hg, hin, hnr, hk⟩ := hp
  intro H locs cells slots lsM hW hS hl hll hc hs
  show W p l e R s m args below meth c H locs cells slots Qw (F0 m pc lsM (.int x :: .int j :: .ref a :: st'.map sv))
  obtain ⟨L, hL, h24, hP, hD⟩ := id hW
  have haL : a ∈ L := (hL a).mpr (by rw [hg]; omega)
  obtain ⟨pk, hpk⟩ := va_pl_get (X := []) (f := sE cy h) haL
  have he := hpk
  rw [sE_bool hg] at he
  refine va_zast hx hb hK hP hD hS pk 1 he rfl hin hd (fun H1 locs1 hP1 hD1 hS1 => ?_)
  rw [hnr] at hP1 hD1
  exact hk H1 locs1 cells slots lsM (sWd.put hL h24 hD hpk haL (fun b => gk_wA) (sE_wA (t := 1) hg (by omega)) hP1 hD1) hS1 hl hll hc hs
theorem sS_aastore (F : sFix p s m args meth c R A D cy M d mc ms Z) (hd : decode (sm M).2.1 pc = .ok (.aastore, 1)) (hp : sP O Z M Q (sGo p l e R s m args below meth c A D cy (sm M).2.2.1 mc ms Qw) pc ls st h bc bs .aastore 1) : sGo p l e R s m args below meth c A D cy (sm M).2.2.1 mc ms Qw pc ls st h bc bs := by
  obtain ⟨hx, hb, hml, hown, hnm, hts, hK, hX, hA, hRc, hRs, hRf, hRl, hZ⟩ := F
  obtain ⟨r, j, a, st', rfl, hg, hin, hv, hk⟩ := hp
  intro H locs cells slots lsM hW hS hl hll hc hs
  obtain ⟨L, hL, h24, hP, hD⟩ := id hW
  have haL : a ∈ L := (hL a).mpr (by omega)
  obtain ⟨pk, hpk⟩ := va_pl_get (X := []) (f := sE cy h) haL
  have he := hpk
  rw [sE_ref hg] at he
  obtain ⟨q, hq, hty⟩ := stys cy hg (h24 a)
  obtain ⟨c8, -⟩ := sCl _ q hq
  cases r with
  | none =>
    show W p l e R s m args below meth c H locs cells slots Qw (F0 m pc lsM (.null :: .int j :: .ref a :: st'.map sv))
    exact va_astqN hx hb hK hP hD hS pk _ he hty hin hd (fun H1 locs1 hP1 hD1 hS1 => hk H1 locs1 cells slots lsM (sWd.put hL h24 hD hpk haL (fun b => gk_wq) (sE_wq hg) hP1 hD1) hS1 hl hll hc hs)
  | some b =>
    show W p l e R s m args below meth c H locs cells slots Qw (F0 m pc lsM (.ref b :: .int j :: .ref a :: st'.map sv))
    have hgb := hv b rfl
    have hbL : b ∈ L := (hL b).mpr (by rw [hgb]; omega)
    obtain ⟨pb, hpb⟩ := va_pl_get (X := []) (f := sE cy h) hbL
    rw [sE_obj hgb c8] at hpb
    exact va_astq hx hb hK hP hD hS pk _ pb _ he hty hpb hq hin hd (fun H1 locs1 hP1 hD1 hS1 => hk H1 locs1 cells slots lsM (sWd.put hL h24 hD hpk haL (fun b => gk_wq) (sE_wq hg) hP1 hD1) hS1 hl hll hc hs)
theorem sS_arraylength (F : sFix p s m args meth c R A D cy M d mc ms Z) (hd : decode (sm M).2.1 pc = .ok (.arraylength, 1)) (hp : sP O Z M Q (sGo p l e R s m args below meth c A D cy (sm M).2.2.1 mc ms Qw) pc ls st h bc bs .arraylength 1) : sGo p l e R s m args below meth c A D cy (sm M).2.2.1 mc ms Qw pc ls st h bc bs := by
  obtain ⟨hx, hb, hml, hown, hnm, hts, hK, hX, hA, hRc, hRs, hRf, hRl, hZ⟩ := F
  obtain ⟨a, st', rfl, hk⟩ := hp
  intro H locs cells slots lsM hW hS hl hll hc hs
  show W p l e R s m args below meth c H locs cells slots Qw (F0 m pc lsM (.ref a :: st'.map sv))
  rcases hk with ⟨hg, hk⟩ | ⟨L0, xs, rfl, hk⟩
  · obtain ⟨L, hL, h24, hP, hD⟩ := id hW
    have haL : a ∈ L := (hL a).mpr (by omega)
    obtain ⟨pk, hpk⟩ := va_pl_get (X := []) (f := sE cy h) haL
    rcases (show gk h a = 20 ∨ gk h a = 21 ∨ 22 ≤ gk h a by omega) with h1 | h1 | h1
    · rw [sE_int h1] at hpk
      exact va_alen hx hb hK hP pk 0 hpk (ty := .int) rfl rfl hd (hk H locs cells slots lsM hW hS hl hll hc hs)
    · rw [sE_bool h1] at hpk
      exact va_alen hx hb hK hP pk 1 hpk (ty := .boolean) rfl rfl hd (hk H locs cells slots lsM hW hS hl hll hc hs)
    · rw [sE_ref h1] at hpk
      obtain ⟨q, -, hty⟩ := stys cy h1 (h24 a)
      exact va_alen hx hb hK hP pk _ hpk hty rfl hd (hk H locs cells slots lsM hW hS hl hll hc hs)
  · obtain ⟨z1, z2, z3⟩ := hZ _ _ _ rfl
    exact va_slen hx hb z1 z2 z3 hS hd (hk H locs cells slots lsM hW hS hl hll hc hs)
theorem sS_newarray {ty : ArrayType} (F : sFix p s m args meth c R A D cy M d mc ms Z) (hd : decode (sm M).2.1 pc = .ok (.newarray ty, 2)) (hp : sP O Z M Q (sGo p l e R s m args below meth c A D cy (sm M).2.2.1 mc ms Qw) pc ls st h bc bs (.newarray ty) 2) : sGo p l e R s m args below meth c A D cy (sm M).2.2.1 mc ms Qw pc ls st h bc bs := by
  obtain ⟨hx, hb, hml, hown, hnm, hts, hK, hX, hA, hRc, hRs, hRf, hRl, hZ⟩ := F
  obtain ⟨k, j, N, st', rfl, hty, hj, hN, hN1, hbc, hbs, hk⟩ := hp
  intro H locs cells slots lsM hW hS hl hll hc hs
  show W p l e R s m args below meth c H locs cells slots Qw (F0 m pc lsM (.int j :: st'.map sv))
  obtain ⟨L, hL, h24, hP, hD⟩ := id hW
  rcases hty with ⟨rfl, rfl⟩ | ⟨rfl, rfl⟩
  · refine va_newa (atype := .int) (ty := .int) (a0 := (N, .inl (fun _ => 0))) hx hb (hts _ sArI) rfl hK hP hD hS hA (fun _ => rfl) hj hN (by show N * 4 ≤ _; omega) (by rw [hRc]; omega) (by rw [hRs]; omega) hd (fun q cA H1 hK1 hP1 hD1 hS1 => ?_)
    have hq := snotin rfl hD1
    have hcA : cA = cy 0 := by
      have h1 := (hK1.2 5 (cA, .int) rfl).2
      have h2 := (hK1.2 0 (cy 0, .int) rfl).2
      exact Option.some.inj (h1.symm.trans h2)
    subst hcA
    exact hk q (sfree (H := H) hL hq) H1 locs (cells + 1) (slots + N) lsM (sWd.new hL h24 (by decide) hq (fun b => gk_nw) (sE_nw (by rw [sE_int (by rw [gk_nw, if_pos rfl]), gl_nw, ga_nw, if_pos rfl, if_pos rfl])) hP1 hD1) hS1 hl hll (by omega) (by omega)
  · refine va_newa (atype := .boolean) (ty := .boolean) (a0 := (N, .inl (fun _ => 0))) hx hb (hts _ sArZ) rfl hK hP hD hS hA (fun _ => rfl) hj hN (by show N * 1 ≤ _; omega) (by rw [hRc]; omega) (by rw [hRs]; omega) hd (fun q cA H1 hK1 hP1 hD1 hS1 => ?_)
    have hq := snotin rfl hD1
    have hcA : cA = cy 1 := by
      have h1 := (hK1.2 5 (cA, .boolean) rfl).2
      have h2 := (hK1.2 1 (cy 1, .boolean) rfl).2
      exact Option.some.inj (h1.symm.trans h2)
    subst hcA
    exact hk q (sfree (H := H) hL hq) H1 locs (cells + 1) (slots + N) lsM (sWd.new hL h24 (by decide) hq (fun b => gk_nw) (sE_nw (by rw [sE_bool (by rw [gk_nw, if_pos rfl]), gl_nw, ga_nw, if_pos rfl, if_pos rfl])) hP1 hD1) hS1 hl hll (by omega) (by omega)
theorem sAO {t : Nat} {s : State} (hX : sX s) {q : vw_C} (hq : vwCl[sAe t]? = some q) : va_AO q.1 s := by
  unfold sAe at hq
  split at hq
  · cases hq; exact hX.1
  · cases hq; exact hX.2.1
  · cases hq; exact hX.2.2.1
theorem sS_anewarray {idx : Nat} (F : sFix p s m args meth c R A D cy M d mc ms Z) (hd : decode (sm M).2.1 pc = .ok (.anewarray idx, 3)) (hp : sP O Z M Q (sGo p l e R s m args below meth c A D cy (sm M).2.2.1 mc ms Qw) pc ls st h bc bs (.anewarray idx) 3) : sGo p l e R s m args below meth c A D cy (sm M).2.2.1 mc ms Qw pc ls st h bc bs := by
  obtain ⟨hx, hb, hml, hown, hnm, hts, hK, hX, hA, hRc, hRs, hRf, hRl, hZ⟩ := F
  obtain ⟨c0, k, j, N, st', rfl, hk1, hk2, rfl, ⟨q0, hq0, hlink⟩, hj, hN, hN1, hbc, hbs, hk⟩ := hp
  intro H locs cells slots lsM hW hS hl hll hc hs
  show W p l e R s m args below meth c H locs cells slots Qw (F0 m pc lsM (.int j :: st'.map sv))
  obtain ⟨L, hL, h24, hP, hD⟩ := id hW
  obtain ⟨q1, hq1, hty⟩ := stys cy hk1 hk2
  cases hq0.symm.trans hq1
  refine va_newq hx hb hown (hts _ hlink) (sAO hX hq0) hK hP hD hS hA hj hN (by omega) (by rw [hRc]; omega) (by rw [hRs]; omega) hd (fun q cA H1 hK1 hP1 hD1 hS1 => ?_)
  have hq := snotin rfl hD1
  have hcA : cA = cy (k - 20) := by
    obtain ⟨_, _, _, _, _, h1⟩ := (hK1.2 5 (cA, .object q0.1) rfl).2
    have h3 : (sy cy ++ [(cA, FieldType.object q0.1)])[k - 20]? = some (cy (k - 20), .object q0.1) := by
      rw [List.getElem?_append_left (by show k - 20 < 5; omega)]
      exact hty
    obtain ⟨_, _, _, _, _, h2⟩ := (hK1.2 (k - 20) _ h3).2
    exact Option.some.inj (h1.symm.trans h2)
  subst hcA
  exact hk q (sfree (H := H) hL hq) H1 locs (cells + 1) (slots + N) lsM (sWd.new hL h24 ⟨by omega, hk2⟩ hq (fun b => gk_nw) (sE_nw (by rw [sE_ref (by rw [gk_nw, if_pos rfl]; exact hk1), gl_nw, gq_nw, gk_nw, if_pos rfl, if_pos rfl, if_pos rfl])) hP1 hD1) hS1 hl hll (by omega) (by omega)
theorem sDef (ty : FieldType) (h : sB ty = true ∨ (∃ n, ty = .object n) ∨ ∃ t, ty = .array t) : defaultValue ty = sv (if sB ty = true then sI 0 else sR none) := by
  rcases h with h | ⟨n, rfl⟩ | ⟨t, rfl⟩
  · cases ty <;> first | rfl | cases h
  · rfl
  · rfl
theorem sTk (c k : Nat) : sB (sT c k) = true ∨ (∃ n, sT c k = .object n) ∨ ∃ t, sT c k = .array t := by
  unfold sT
  split <;> first
    | (unfold tyX0; split <;> first | exact Or.inl rfl | exact Or.inr (Or.inl ⟨_, rfl⟩) | exact Or.inr (Or.inr ⟨_, rfl⟩))
    | (unfold tyX1; split <;> first | exact Or.inl rfl | exact Or.inr (Or.inl ⟨_, rfl⟩) | exact Or.inr (Or.inr ⟨_, rfl⟩))
    | (unfold tyX2; split <;> first | exact Or.inl rfl | exact Or.inr (Or.inl ⟨_, rfl⟩) | exact Or.inr (Or.inr ⟨_, rfl⟩))
    | (unfold tyX3; split <;> first | exact Or.inl rfl | exact Or.inr (Or.inl ⟨_, rfl⟩) | exact Or.inr (Or.inr ⟨_, rfl⟩))
    | (unfold tyX4; split <;> first | exact Or.inl rfl | exact Or.inr (Or.inl ⟨_, rfl⟩) | exact Or.inr (Or.inr ⟨_, rfl⟩))
    | (unfold tyX5; split <;> first | exact Or.inl rfl | exact Or.inr (Or.inl ⟨_, rfl⟩) | exact Or.inr (Or.inr ⟨_, rfl⟩))
    | (unfold tyX6; split <;> first | exact Or.inl rfl | exact Or.inr (Or.inl ⟨_, rfl⟩) | exact Or.inr (Or.inr ⟨_, rfl⟩))
    | (unfold tyX7; split <;> first | exact Or.inl rfl | exact Or.inr (Or.inl ⟨_, rfl⟩) | exact Or.inr (Or.inr ⟨_, rfl⟩))
theorem sS_new {idx : Nat} (F : sFix p s m args meth c R A D cy M d mc ms Z) (hd : decode (sm M).2.1 pc = .ok (.new idx, 3)) (hp : sP O Z M Q (sGo p l e R s m args below meth c A D cy (sm M).2.2.1 mc ms Qw) pc ls st h bc bs (.new idx) 3) : sGo p l e R s m args below meth c A D cy (sm M).2.2.1 mc ms Qw pc ls st h bc bs := by
  obtain ⟨hx, hb, hml, hown, hnm, hts, hK, hX, hA, hRc, hRs, hRf, hRl, hZ⟩ := F
  obtain ⟨c0, ⟨q0, hq0, hlink⟩, hbc, hbs, hk⟩ := hp
  intro H locs cells slots lsM hW hS hl hll hc hs
  obtain ⟨L, hL, h24, hP, hD⟩ := id hW
  obtain ⟨c8, cN, cW, cT, cM, cI, cZ⟩ := sCl c0 q0 hq0
  refine va_new (ci := c0) (fs := (List.range (sN c0)).map (fun k => sv (if sB (sT c0 k) = true then sI 0 else sR none))) (C := q0.1) (T := q0.2.1) (N := q0.2.2) hx hb hts cW (sT c0) cT hown (hts _ hlink) (hts _ cI) (hts _ cZ) hK hP hD hS hA hq0 (fun j hj => ?_) (by rw [hRc]; omega) (by rw [hRs]; omega) hd (fun q H1 hP1 hD1 hS1 => ?_)
  · have hj' : j < sN c0 := by rw [cN]; exact hj
    rw [sDef _ (sTk c0 j)]
    simp [vp_V, hj']
  · have hq := snotin rfl hD1
    have := hk q (sfree (H := H) hL hq) H1 locs (cells + 1) (slots + sN c0) lsM (sWd.new hL h24 ⟨by omega, by omega⟩ hq (fun b => gk_nw) (sE_nw (sE_born c8)) hP1 hD1) hS1 hl hll (by omega) (by omega)
    rw [cN] at this
    exact this
theorem sS_checkcast {idx : Nat} (F : sFix p s m args meth c R A D cy M d mc ms Z) (hd : decode (sm M).2.1 pc = .ok (.checkcast idx, 3)) (hp : sP O Z M Q (sGo p l e R s m args below meth c A D cy (sm M).2.2.1 mc ms Qw) pc ls st h bc bs (.checkcast idx) 3) : sGo p l e R s m args below meth c A D cy (sm M).2.2.1 mc ms Qw pc ls st h bc bs := by
  obtain ⟨hx, hb, hml, hown, hnm, hts, hK, hX, hA, hRc, hRs, hRf, hRl, hZ⟩ := F
  obtain ⟨a, st', rfl, hlink, hg, hk⟩ := hp
  intro H locs cells slots lsM hW hS hl hll hc hs
  show W p l e R s m args below meth c H locs cells slots Qw (F0 m pc lsM (.ref a :: st'.map sv))
  obtain ⟨L, hL, h24, hP, hD⟩ := id hW
  have haL : a ∈ L := (hL a).mpr (by rw [hg]; omega)
  obtain ⟨pk, hpk⟩ := va_pl_get (X := []) (f := sE cy h) haL
  rw [sE_int hg] at hpk
  exact va_castA hx hb hown (hts _ hlink) hP pk hpk (va_nm_int (hK.2 0 (cy 0, .int) rfl).2) hd (hk H locs cells slots lsM hW hS hl hll hc hs)
end SOUND2
end
section
section SOUND3
variable {p : Program} {l : Launch} {e : Env} {s : State} {m : MethodId} {args : Array Value} {below : List Frame} {meth : Method} {c : Code} {R : Room} {A : Nat → Prop} {D : va_G} {cy : Nat → ClassId} {M d mc ms : Nat} {Q : Option sV → hp → Prop} {Z : sZ} {O : sO} {Qw : State → Prop} {pc : Nat} {ls st : List sV} {h : hp} {bc bs : Nat}
def sOr (l : Launch) (A : Nat → Prop) (D : va_G) (cy : Nat → ClassId) (d : Nat) (O : sO) : Prop := ∀ (N : Nat) (vs : List sV) (h : hp) (bc bs : Nat) (P : Option sV → hp → Prop), O N vs h bc bs P → ∀ n, sOk N n → Met l (sm N).1 (sws N) (sRm d bc bs) (sPre A D cy vs h) (sPost A D cy P) bc bs A
theorem sNfw : nativeFrameWords "java/lang/System" "arraycopy" 5 = 7 := by decide +kernel
theorem sTop (r : Option sV) (st : List sV) : (r.map sv).toList ++ st.map sv = (r.toList ++ st).map sv := by cases r <;> rfl
theorem sS_virtual {idx : Nat} (F : sFix p s m args meth c R A D cy M d mc ms Z) (hO : sOr l A D cy d O) (hd : decode (sm M).2.1 pc = .ok (.invokevirtual idx, 3)) (hp : sP O Z M Q (sGo p l e R s m args below meth c A D cy (sm M).2.2.1 mc ms Qw) pc ls st h bc bs (.invokevirtual idx) 3) : sGo p l e R s m args below meth c A D cy (sm M).2.2.1 mc ms Qw pc ls st h bc bs := by
  obtain ⟨hx, hb, hml, hown, hnm, hts, hK, hX, hA, hRc, hRs, hRf, hRl, hZ⟩ := F
  rcases hp with ⟨N, k, c0, a, As, st', bc', bs', P, rfl, hlen, hset, ⟨hok, hlk, hin, hsel, q, hq, hqn⟩, hg, hsum, hbc, hbs, hcall, hk⟩ | ⟨a, st', rfl, hlk, hg, hsum, hbc, hbs, hk⟩
  · intro H locs cells slots lsM hW hS hl hll hc hs
    obtain ⟨L, hL, h24, hP, hD⟩ := id hW
    obtain ⟨c8, -⟩ := sCl c0 q hq
    have haL : a ∈ L := (hL a).mpr (by rw [hg]; omega)
    obtain ⟨pk, hpk⟩ := va_pl_get (X := []) (f := sE cy h) haL
    rw [sE_obj hg c8] at hpk
    have hM := hO N _ h bc' bs' P hcall k hok
    obtain ⟨o1, o2, o3, o4, o5, o6, o7⟩ := hok
    refine sCallRow (rest := st'.map sv) (va_runV (C := q.1) (As := As.map sv) (rest := st'.map sv) (Ts := sW) ⟨hx, hb, hml, hown, hts⟩ hM (n := k) (bytes := (sm N).2.1) (maxL := (sm N).2.2.1) (ret := (sm N).2.2.2) ⟨⟨rfl, rfl, hRf, by show 8 + ((sm N).2.2.1 + 11) + 40 * d ≤ R.locals; omega, pay_in hts (sGoodIn o2), List.mem_cons_self, hts _ o2, hts _ o3, ⟨o4, o5⟩, fun sig h => ?_, hts _ hlk⟩, hts _ hin, by rw [hqn]; exact hts _ hsel⟩ ⟨sPre_blind, va_recv hK hP hq hpk, fun U hU hWm => ⟨rfl, by rw [hU]; exact hW, va_K.moved hWm.alike hK, sX.moved hWm hX, fun z hz => hA z (Nat.le_trans hS.1 (by rw [← hU]; exact hz))⟩⟩ rfl (by rw [List.length_map]; exact hlen) hl.1 ?_ ?_ hd ?_) hS (fun r h' H1 locs1 hPr hW1 hS1 => ?_)
    · rw [h] at o6
      exact (Option.some.inj o6).symm
    · show ((As.reverse ++ sR (some a) :: st').map sv) = _
      rw [List.map_append, List.map_reverse]
      rfl
    · exact lv_room (by rw [sCat]; exact hsum)
    · rw [hRc, hRs]; omega
    · have := hk r h' hPr H1 locs1 (cells + bc') (slots + bs') lsM hW1 hS1 hl hll (by omega) (by omega)
      rw [← sTop] at this
      exact this
  · intro H locs cells slots lsM hW hS hl hll hc hs
    show W p l e R s m args below meth c H locs cells slots Qw (F0 m pc lsM (.ref a :: st'.map sv))
    obtain ⟨L, hL, h24, hP, hD⟩ := id hW
    have haL : a ∈ L := (hL a).mpr (by rw [hg]; omega)
    obtain ⟨pk, hpk⟩ := va_pl_get (X := []) (f := sE cy h) haL
    rw [sE_int hg] at hpk
    refine va_clone (ty := .int) hx hb (hml.trans hl.1.symm) hown (hts _ hlk) (hts _ sClS) (hts _ sClN) (hts _ sClI) (hts _ sClX) hX.2.2.2.1 hK hP hD hS hA pk 0 hpk rfl (va_nm_int (hK.2 0 (cy 0, .int) rfl).2) (va_fit (fun i _ => rfl)) (by omega) (by rw [sCat]; omega) (by rw [hRc]; omega) (by rw [hRs]; show slots + gl h a ≤ ms; omega) hd (fun q H1 hK1 hP1 hD1 hS1 => ?_)
    have hq := snotin rfl hD1
    exact hk q (sfree (H := H) hL hq) H1 locs (cells + 1) (slots + gl h a) lsM (sWd.new hL h24 (kn := 20) (by decide) hq (fun b => by rw [gk_wA, gk_nw]) sE_nwA hP1 hD1) hS1 hl hll (by omega) (by omega)
end SOUND3
end
section
section SOUND3
variable {p : Program} {l : Launch} {e : Env} {s : State} {m : MethodId} {args : Array Value} {below : List Frame} {meth : Method} {c : Code} {R : Room} {A : Nat → Prop} {D : va_G} {cy : Nat → ClassId} {M d mc ms : Nat} {Q : Option sV → hp → Prop} {Z : sZ} {O : sO} {Qw : State → Prop} {pc : Nat} {ls st : List sV} {h : hp} {bc bs : Nat}
theorem sS_static {idx : Nat} (F : sFix p s m args meth c R A D cy M d mc ms Z) (hO : sOr l A D cy d O) (hd : decode (sm M).2.1 pc = .ok (.invokestatic idx, 3)) (hp : sP O Z M Q (sGo p l e R s m args below meth c A D cy (sm M).2.2.1 mc ms Qw) pc ls st h bc bs (.invokestatic idx) 3) : sGo p l e R s m args below meth c A D cy (sm M).2.2.1 mc ms Qw pc ls st h bc bs := by
  obtain ⟨hx, hb, hml, hown, hnm, hts, hK, hX, hA, hRc, hRs, hRf, hRl, hZ⟩ := F
  rcases hp with ⟨N, k, As, st', bc', bs', P, rfl, hlen, hset, ⟨hok, hstt, hlk⟩, hsum, hbc, hbs, hcall, hk⟩ | ⟨a, b, u, v, w, st', rfl, hlk, hg, hg2, hsum, hu, hv, hw, hu2, hv2, hk⟩
  · intro H locs cells slots lsM hW hS hl hll hc hs
    have hM := hO N _ h bc' bs' P hcall k hok
    obtain ⟨o1, o2, o3, o4, o5, o6, o7⟩ := hok
    have hpre : PreS s H (sPre A D cy As h) (As.map sv) := ⟨sPre_blind, fun U hU hWm => ⟨rfl, by rw [hU]; exact hW, va_K.moved hWm.alike hK, sX.moved hWm hX, fun z hz => hA z (Nat.le_trans hS.1 (by rw [← hU]; exact hz))⟩⟩
    have hst : (F0 m pc lsM ((As.reverse ++ st').map sv)).stack = (As.map sv).reverse ++ st'.map sv := by
      show (As.reverse ++ st').map sv = _
      rw [List.map_append, List.map_reverse]
    have hln : ∀ sig, parseMethodDescriptor (sm N).1.desc = some sig → k = sig.parameters.length := fun sig h => by
      rw [h] at o6
      exact (Option.some.inj o6).symm
    have hrun : va_Run p l e R s m args below meth c H locs cells slots bc' bs' (F0 m pc lsM ((As.reverse ++ st').map sv)) (st'.map sv) (sPost A D cy P (As.map sv).toArray) A := by
      rcases hlk with hlk | ⟨host, hlk⟩
      · exact va_runS (As := As.map sv) (rest := st'.map sv) (Ts := sW) ⟨hx, hb, hml, hown, hts⟩ hM (n := k) (bytes := (sm N).2.1) (maxL := (sm N).2.2.1) (ret := (sm N).2.2.2) ⟨⟨rfl, rfl, hRf, by show 8 + ((sm N).2.2.1 + 11) + 40 * d ≤ R.locals; omega, pay_in hts (sGoodIn o2), List.mem_cons_self, hts _ o2, hts _ o3, ⟨o4, o5⟩, hln, hts _ hlk⟩, hts _ hstt⟩ hpre rfl (by rw [List.length_map]; exact hlen) hl.1 hst (lv_room (by rw [sCat]; exact hsum)) hd (by rw [hRc, hRs]; omega)
      · exact va_runSN (As := As.map sv) (rest := st'.map sv) (Ts := sW) ⟨hx, hb, hml, hown, hts⟩ hM (n := k) (bytes := (sm N).2.1) (maxL := (sm N).2.2.1) (ret := (sm N).2.2.2) (host := host) ⟨⟨⟨rfl, rfl, hRf, by show 8 + ((sm N).2.2.1 + 11) + 40 * d ≤ R.locals; omega, pay_in hts (sGoodIn o2), List.mem_cons_self⟩, hts _ o2, hts _ o3, ⟨o4, o5⟩, hln, va_Nw.use rfl (hX.2.2.2.2 _ hlk)⟩, hts _ hstt, trivial⟩ hpre rfl (by rw [List.length_map]; exact hlen) hl.1 hst (lv_room (by rw [sCat]; exact hsum)) hd (by rw [hRc, hRs]; omega)
    refine sCallRow hrun hS (fun r h' H1 locs1 hPr hW1 hS1 => ?_)
    have := hk r h' hPr H1 locs1 (cells + bc') (slots + bs') lsM hW1 hS1 hl hll (by omega) (by omega)
    rw [← sTop] at this
    exact this
  · intro H locs cells slots lsM hW hS hl hll hc hs
    show W p l e R s m args below meth c H locs cells slots Qw (F0 m pc lsM (.int w :: .int v :: .ref b :: .int u :: .ref a :: st'.map sv))
    obtain ⟨L, hL, h24, hP, hD⟩ := id hW
    have haL : a ∈ L := (hL a).mpr (by rw [hg]; omega)
    obtain ⟨pk, hpk⟩ := va_pl_get (X := []) (f := sE cy h) haL
    rw [sE_int hg] at hpk
    have hbL : b ∈ L := (hL b).mpr (by rw [hg2]; omega)
    obtain ⟨pb, hpb⟩ := va_pl_get (X := []) (f := sE cy h) hbL
    have he := hpb
    rw [sE_int hg2] at he
    exact va_copyi (ty := .int) hx hb (hml.trans hl.1.symm) hown (hts _ hlk) (hts _ sCpN) (hts _ sCpS) (hts _ sCpI) hK hP hD hS pk pb 0 0 hpk he rfl rfl rfl hu hv hw hu2 hv2 (fun i _ => rfl) (by omega) (by rw [sCat, sNfw]; omega) hd (fun H1 locs1 hP1 hD1 hS1 => hk H1 locs1 cells slots lsM (sWd.put hL h24 hD hpb hbL (fun b => gk_wA) (sE_wA (t := 0) hg2 (by omega)) hP1 hD1) hS1 hl hll hc hs)
end SOUND3
end
section
section SOUND3
variable {p : Program} {l : Launch} {e : Env} {s : State} {m : MethodId} {args : Array Value} {below : List Frame} {meth : Method} {c : Code} {R : Room} {A : Nat → Prop} {D : va_G} {cy : Nat → ClassId} {M d mc ms : Nat} {Q : Option sV → hp → Prop} {Z : sZ} {O : sO} {Qw : State → Prop} {pc : Nat} {ls st : List sV} {h : hp} {bc bs : Nat}
theorem sS_special {idx : Nat} (F : sFix p s m args meth c R A D cy M d mc ms Z) (hO : sOr l A D cy d O) (hd : decode (sm M).2.1 pc = .ok (.invokespecial idx, 3)) (hp : sP O Z M Q (sGo p l e R s m args below meth c A D cy (sm M).2.2.1 mc ms Qw) pc ls st h bc bs (.invokespecial idx) 3) : sGo p l e R s m args below meth c A D cy (sm M).2.2.1 mc ms Qw pc ls st h bc bs := by
  obtain ⟨hx, hb, hml, hown, hnm, hts, hK, hX, hA, hRc, hRs, hRf, hRl, hZ⟩ := F
  rcases hp with ⟨N, k, a, As, st', bc', bs', P, rfl, hlen, hset, ⟨hok, hin, hni, hrn, hlk⟩, hsum, hbc, hbs, hcall, hk⟩ | ⟨a, st', rfl, hlk, hsum, hk⟩
  · intro H locs cells slots lsM hW hS hl hll hc hs
    have hM := hO N _ h bc' bs' P hcall k hok
    obtain ⟨o1, o2, o3, o4, o5, o6, o7⟩ := hok
    have hpre : PreS s H (sPre A D cy (sR (some a) :: As) h) (.ref a :: As.map sv) := ⟨sPre_blind, fun U hU hWm => ⟨rfl, by rw [hU]; exact hW, va_K.moved hWm.alike hK, sX.moved hWm hX, fun z hz => hA z (Nat.le_trans hS.1 (by rw [← hU]; exact hz))⟩⟩
    have hst : (F0 m pc lsM ((As.reverse ++ sR (some a) :: st').map sv)).stack = (As.map sv).reverse ++ .ref a :: st'.map sv := by
      show (As.reverse ++ sR (some a) :: st').map sv = _
      rw [List.map_append, List.map_reverse]
      rfl
    have hln : ∀ sig, parseMethodDescriptor (sm N).1.desc = some sig → k = sig.parameters.length := fun sig h => by
      rw [h] at o6
      exact (Option.some.inj o6).symm
    have o2' : Cond.code (sm N).1 (sm N).2.1 (sm N).2.2.1 none ∈ sW := by rw [← hrn]; exact o2
    have o2'' : Cond.code (sm N).1 (sm N).2.1 (sm N).2.2.1 none ∈ sws N := by unfold sws; rw [hrn]; exact List.mem_cons_self
    have hrun : va_Run p l e R s m args below meth c H locs cells slots bc' bs' (F0 m pc lsM ((As.reverse ++ sR (some a) :: st').map sv)) (st'.map sv) (sPost A D cy P (Value.ref a :: As.map sv).toArray) A := by
      rcases hlk with hlk | ⟨host, hlk⟩
      · exact va_runI (b := a) (As := As.map sv) (rest := st'.map sv) (Ts := sW) ⟨hx, hb, hml, hown, hts⟩ hM (n := k) (bytes := (sm N).2.1) (maxL := (sm N).2.2.1) ⟨⟨rfl, rfl, hRf, by show 8 + ((sm N).2.2.1 + 11) + 40 * d ≤ R.locals; omega, pay_in hts (sGoodIn o2), o2'', hts _ o2', hts _ o3, ⟨o4, o5⟩, hln, hts _ hlk⟩, hni, hts _ hin⟩ hpre rfl (by rw [List.length_map]; exact hlen) hl.1 hst (lv_room (by rw [sCat]; exact hsum)) hd (by rw [hRc, hRs]; omega)
      · exact va_runIN (b := a) (As := As.map sv) (rest := st'.map sv) (Ts := sW) ⟨hx, hb, hml, hown, hts⟩ hM (n := k) (bytes := (sm N).2.1) (maxL := (sm N).2.2.1) (host := host) ⟨⟨⟨rfl, rfl, hRf, by show 8 + ((sm N).2.2.1 + 11) + 40 * d ≤ R.locals; omega, pay_in hts (sGoodIn o2), o2''⟩, hts _ o2', hts _ o3, ⟨o4, o5⟩, hln, va_Nw.use rfl (hX.2.2.2.2 _ hlk)⟩, hni, hts _ hin⟩ hpre rfl (by rw [List.length_map]; exact hlen) hl.1 hst (lv_room (by rw [sCat]; exact hsum)) hd (by rw [hRc, hRs]; omega)
    refine sCallRow hrun hS (fun r h' H1 locs1 hPr hW1 hS1 => ?_)
    have := hk r h' hPr H1 locs1 (cells + bc') (slots + bs') lsM hW1 hS1 hl hll (by omega) (by omega)
    rw [← sTop] at this
    exact this
  · intro H locs cells slots lsM hW hS hl hll hc hs
    show W p l e R s m args below meth c H locs cells slots Qw (F0 m pc lsM (.ref a :: st'.map sv))
    refine W.objInit hx hb hown (hts _ hlk) (hts _ sObjI) (hts _ sObjC) rfl (by rw [hml]; exact hl.1) rfl hd (by omega) ?_ ?_
    · have h1 := lv_room (m := m) (pc := pc) (ls := lsM) (rest := .ref a :: st'.map sv) (st := st'.map sv) (by rw [sCat]; exact hsum)
      omega
    · exact hk H locs cells slots lsM hW hS hl hll hc hs
end SOUND3
end
section
section SOUND4
variable {p : Program} {l : Launch} {e : Env} {s : State} {m : MethodId} {args : Array Value} {below : List Frame} {meth : Method} {c : Code} {R : Room} {A : Nat → Prop} {D : va_G} {cy : Nat → ClassId} {M d mc ms : Nat} {Q : Option sV → hp → Prop} {Z : sZ} {O : sO} {Qw : State → Prop}
def sRet (p : Program) (l : Launch) (e : Env) (R : Room) (s : State) (m : MethodId) (args : Array Value) (below : List Frame) (meth : Method) (c : Code) (A : Nat → Prop) (D : va_G) (cy : Nat → ClassId) (M mc ms : Nat) (Q : Option sV → hp → Prop) (Qw : State → Prop) : Prop := ∀ (pc : Nat) (lsM : Array Slot) (h : hp) (H : Heap) (locs : List Loc) (cells slots : Nat), sWd A D cy h H → va_S A s.heap H locs → cells ≤ mc → slots ≤ ms →
  (∀ (x : Int32) (ty : FieldType), decode (sm M).2.1 pc = .ok (.ireturn, 1) → (sm M).2.2.2 = some ty → narrow ty (.int x) = .int x → Q (some (sI x)) h → W p l e R s m args below meth c H locs cells slots Qw (F0 m pc lsM [.int x])) ∧
  (∀ (r : Option Nat) (ty : FieldType), decode (sm M).2.1 pc = .ok (.areturn, 1) → (sm M).2.2.2 = some ty → ((∃ z, ty = .object z) ∨ ∃ z, ty = .array z) → Q (some (sR r)) h → W p l e R s m args below meth c H locs cells slots Qw (F0 m pc lsM [va_rf r])) ∧
  (decode (sm M).2.1 pc = .ok (.return_, 1) → (sm M).2.2.2 = none → Q none h → W p l e R s m args below meth c H locs cells slots Qw (F0 m pc lsM []))
theorem sLen {i : Instr} {n k : Nat} (h : slen i = 0 ∨ n = slen i) (hk : slen i = k) (h0 : k ≠ 0) : n = k := by
  rcases h with h | h
  · exact absurd (hk.symm.trans h) h0
  · exact h.trans hk
theorem sStore {pc n i : Nat} {ls st' : List sV} {h : hp} {bc bs : Nat} {v : sV} {H : Heap} {locs : List Loc} {cells slots : Nat} {nL : Nat} (hv : sset v = true) (hk : sGo p l e R s m args below meth c A D cy nL mc ms Qw (pc + n) (ls.set i v) st' h bc bs) (hW : sWd A D cy h H) (hS : va_S A s.heap H locs) (hll : ls.length = nL) (hc : cells + bc ≤ mc) (hs : slots + bs ≤ ms) (lsM : Array Slot) (hl : lv_has lsM nL ((i, sv v) :: (sprs ls).filter (fun q => !(q.1 == i) && !(q.1 + 1 == i && q.2.category == 2)))) : W p l e R s m args below meth c H locs cells slots Qw (F0 m (pc + n) lsM (st'.map sv)) :=
  hk H locs cells slots lsM hW hS (sLs_set hv hl) (by rw [List.length_set]; exact hll) hc hs
set_option maxHeartbeats 4000000 in
theorem sSound (F : sFix p s m args meth c R A D cy M d mc ms Z) (hO : sOr l A D cy d O) (hret : sRet p l e R s m args below meth c A D cy M mc ms Q Qw) {pc : Nat} {ls st : List sV} {h : hp} {bc bs : Nat} (HW : sWP O Z M Q pc ls st h bc bs) : sGo p l e R s m args below meth c A D cy (sm M).2.2.1 mc ms Qw pc ls st h bc bs := by
  apply HW (sGo p l e R s m args below meth c A D cy (sm M).2.2.1 mc ms Qw)
  clear HW pc ls st h bc bs
  rintro pc ls st h bc bs ⟨i, n, hd, hn, hp⟩
  have hx := F.1
  have hb := F.2.1
  have hown := F.2.2.2.1
  have hts := F.2.2.2.2.2.1
  cases i
  case iconst k =>
    obtain rfl := sLen (k := 1) hn rfl (by decide)
    intro H locs cells slots lsM hW hS hl hll hc hs
    exact lv_iconst hx hb hd rfl (hp H locs cells slots lsM hW hS hl hll hc hs)
  case bipush k =>
    obtain rfl := sLen (k := 2) hn rfl (by decide)
    intro H locs cells slots lsM hW hS hl hll hc hs
    exact lv_bipush hx hb hd rfl (hp H locs cells slots lsM hW hS hl hll hc hs)
  case sipush k =>
    obtain rfl := sLen (k := 3) hn rfl (by decide)
    intro H locs cells slots lsM hW hS hl hll hc hs
    exact lv_sipush hx hb hd rfl (hp H locs cells slots lsM hW hS hl hll hc hs)
  case ldc k =>
    obtain rfl := sLen (k := 2) hn rfl (by decide)
    obtain ⟨v, hv, hp⟩ := hp
    intro H locs cells slots lsM hW hS hl hll hc hs
    exact lv_ldc hx hb hown (hts _ hv) hd (hp H locs cells slots lsM hW hS hl hll hc hs)
  case aconst_null =>
    obtain rfl := sLen (k := 1) hn rfl (by decide)
    intro H locs cells slots lsM hW hS hl hll hc hs
    exact lv_null hx hb hd (hp H locs cells slots lsM hW hS hl hll hc hs)
  case iload_n k =>
    obtain rfl := sLen (k := 1) hn rfl (by decide)
    obtain ⟨x, hi, hp⟩ := hp
    intro H locs cells slots lsM hW hS hl hll hc hs
    exact lv_iload_n hx hb hd rfl (sLs_get hl hi rfl) (hp H locs cells slots lsM hW hS hl hll hc hs)
  case iload k =>
    obtain rfl := sLen (k := 2) hn rfl (by decide)
    obtain ⟨x, hi, hp⟩ := hp
    intro H locs cells slots lsM hW hS hl hll hc hs
    exact lv_iload hx hb hd (sLs_get hl hi rfl) (hp H locs cells slots lsM hW hS hl hll hc hs)
  case aload_n k =>
    obtain rfl := sLen (k := 1) hn rfl (by decide)
    obtain ⟨r, hi, hp⟩ := hp
    intro H locs cells slots lsM hW hS hl hll hc hs
    cases r with
    | none => exact lv_aload_nN hx hb hd rfl (sLs_get hl hi rfl) (hp H locs cells slots lsM hW hS hl hll hc hs)
    | some a => exact lv_aload_n hx hb hd rfl (sLs_get hl hi rfl) (hp H locs cells slots lsM hW hS hl hll hc hs)
  case aload k =>
    obtain rfl := sLen (k := 2) hn rfl (by decide)
    obtain ⟨r, hi, hp⟩ := hp
    intro H locs cells slots lsM hW hS hl hll hc hs
    cases r with
    | none => exact lv_aloadN hx hb hd (sLs_get hl hi rfl) (hp H locs cells slots lsM hW hS hl hll hc hs)
    | some a => exact lv_aload hx hb hd (sLs_get hl hi rfl) (hp H locs cells slots lsM hW hS hl hll hc hs)
  case istore_n k =>
    obtain rfl := sLen (k := 1) hn rfl (by decide)
    obtain ⟨x, st', rfl, hi, hp⟩ := hp
    intro H locs cells slots lsM hW hS hl hll hc hs
    exact lv_istore_n hx hb hd rfl hl (by rw [← hll]; exact hi) rfl (fun ls' hl' => sStore rfl hp hW hS hll hc hs ls' hl')
  case istore k =>
    obtain rfl := sLen (k := 2) hn rfl (by decide)
    obtain ⟨x, st', rfl, hi, hp⟩ := hp
    intro H locs cells slots lsM hW hS hl hll hc hs
    exact lv_istore hx hb hd hl (by rw [← hll]; exact hi) rfl (fun ls' hl' => sStore rfl hp hW hS hll hc hs ls' hl')
  case astore_n k =>
    obtain rfl := sLen (k := 1) hn rfl (by decide)
    obtain ⟨r, st', rfl, hi, hp⟩ := hp
    intro H locs cells slots lsM hW hS hl hll hc hs
    cases r with
    | none => exact lv_astore_nN hx hb hd rfl hl (by rw [← hll]; exact hi) rfl (fun ls' hl' => sStore rfl hp hW hS hll hc hs ls' hl')
    | some a => exact lv_astore_n hx hb hd rfl hl (by rw [← hll]; exact hi) rfl (fun ls' hl' => sStore rfl hp hW hS hll hc hs ls' hl')
  case astore k =>
    obtain rfl := sLen (k := 2) hn rfl (by decide)
    obtain ⟨r, st', rfl, hi, hp⟩ := hp
    intro H locs cells slots lsM hW hS hl hll hc hs
    cases r with
    | none => exact lv_astoreN hx hb hd hl (by rw [← hll]; exact hi) rfl (fun ls' hl' => sStore rfl hp hW hS hll hc hs ls' hl')
    | some a => exact lv_astore hx hb hd hl (by rw [← hll]; exact hi) rfl (fun ls' hl' => sStore rfl hp hW hS hll hc hs ls' hl')
  case iinc k z =>
    obtain rfl := sLen (k := 3) hn rfl (by decide)
    obtain ⟨x, hi, hp⟩ := hp
    intro H locs cells slots lsM hW hS hl hll hc hs
    obtain ⟨j, hj⟩ := List.getElem?_of_mem (sprs_mem.mpr ⟨sI x, hi, rfl, rfl⟩ : (k, Value.int x) ∈ sprs ls)
    exact lv_iinc hx hb hd hl hj rfl (by rw [← hll]; exact (List.getElem?_eq_some_iff.mp hi).1) rfl (fun ls' hl' => sStore (v := sI (x + Int32.ofInt z)) rfl hp hW hS hll hc hs ls' hl')
  case i2l =>
    obtain rfl := sLen (k := 1) hn rfl (by decide)
    obtain ⟨x, st', rfl, hp⟩ := hp
    intro H locs cells slots lsM hW hS hl hll hc hs
    exact lv_i2l hx hb hd rfl (hp H locs cells slots lsM hW hS hl hll hc hs)
  case ladd =>
    obtain rfl := sLen (k := 1) hn rfl (by decide)
    obtain ⟨x, y, st', rfl, hp⟩ := hp
    intro H locs cells slots lsM hW hS hl hll hc hs
    exact lv_ladd hx hb hd (hp H locs cells slots lsM hW hS hl hll hc hs)
  case lcmp =>
    obtain rfl := sLen (k := 1) hn rfl (by decide)
    obtain ⟨x, y, st', rfl, hp⟩ := hp
    intro H locs cells slots lsM hW hS hl hll hc hs
    exact W.lcmp hx hb hd (hp H locs cells slots lsM hW hS hl hll hc hs)
  case dup =>
    obtain rfl := sLen (k := 1) hn rfl (by decide)
    obtain ⟨v, st', rfl, hv, hp⟩ := hp
    intro H locs cells slots lsM hW hS hl hll hc hs
    exact lv_dup hx hb hd ((sw_cat v).trans hv) (hp H locs cells slots lsM hW hS hl hll hc hs)
  case dup2 =>
    obtain rfl := sLen (k := 1) hn rfl (by decide)
    obtain ⟨v, u, st', rfl, hv, hu, hp⟩ := hp
    intro H locs cells slots lsM hW hS hl hll hc hs
    exact lv_dup2_11 hx hb hd ((sw_cat v).trans hv) ((sw_cat u).trans hu) (hp H locs cells slots lsM hW hS hl hll hc hs)
  case goto off =>
    obtain rfl := sLen (k := 3) hn rfl (by decide)
    obtain ⟨t, ht, hp⟩ := hp
    intro H locs cells slots lsM hW hS hl hll hc hs
    exact lv_goto hx hb hd ht (hp H locs cells slots lsM hW hS hl hll hc hs)
  case ifCond cnd off =>
    obtain rfl := sLen (k := 3) hn rfl (by decide)
    obtain ⟨x, st', t, rfl, ht, k1, k2⟩ := hp
    intro H locs cells slots lsM hW hS hl hll hc hs
    cases cnd
    · exact lv_if_eq hx hb hd ht (fun z => k1 z H locs cells slots lsM hW hS hl hll hc hs) (fun z => k2 z H locs cells slots lsM hW hS hl hll hc hs)
    · exact lv_if_ne hx hb hd ht (fun z => k1 z H locs cells slots lsM hW hS hl hll hc hs) (fun z => k2 (fun y => y z) H locs cells slots lsM hW hS hl hll hc hs)
    · exact lv_if_lt hx hb hd ht (fun z => k1 z H locs cells slots lsM hW hS hl hll hc hs) (fun z => k2 z H locs cells slots lsM hW hS hl hll hc hs)
    · exact lv_if_ge hx hb hd ht (fun z => k1 z H locs cells slots lsM hW hS hl hll hc hs) (fun z => k2 z H locs cells slots lsM hW hS hl hll hc hs)
    · exact lv_if_gt hx hb hd ht (fun z => k1 z H locs cells slots lsM hW hS hl hll hc hs) (fun z => k2 z H locs cells slots lsM hW hS hl hll hc hs)
    · exact lv_if_le hx hb hd ht (fun z => k1 z H locs cells slots lsM hW hS hl hll hc hs) (fun z => k2 z H locs cells slots lsM hW hS hl hll hc hs)
  case if_icmp cnd off =>
    obtain rfl := sLen (k := 3) hn rfl (by decide)
    obtain ⟨x, y, st', t, rfl, ht, k1, k2⟩ := hp
    intro H locs cells slots lsM hW hS hl hll hc hs
    cases cnd
    · exact lv_icmp_eq hx hb hd ht (fun z => k1 z H locs cells slots lsM hW hS hl hll hc hs) (fun z => k2 z H locs cells slots lsM hW hS hl hll hc hs)
    · exact lv_icmp_ne hx hb hd ht (fun z => k1 z H locs cells slots lsM hW hS hl hll hc hs) (fun z => k2 (fun y => y z) H locs cells slots lsM hW hS hl hll hc hs)
    · exact lv_icmp_lt hx hb hd ht (fun z => k1 z H locs cells slots lsM hW hS hl hll hc hs) (fun z => k2 z H locs cells slots lsM hW hS hl hll hc hs)
    · exact lv_icmp_ge hx hb hd ht (fun z => k1 z H locs cells slots lsM hW hS hl hll hc hs) (fun z => k2 z H locs cells slots lsM hW hS hl hll hc hs)
    · exact lv_icmp_gt hx hb hd ht (fun z => k1 z H locs cells slots lsM hW hS hl hll hc hs) (fun z => k2 z H locs cells slots lsM hW hS hl hll hc hs)
    · exact lv_icmp_le hx hb hd ht (fun z => k1 z H locs cells slots lsM hW hS hl hll hc hs) (fun z => k2 z H locs cells slots lsM hW hS hl hll hc hs)
  case ifnull off =>
    obtain rfl := sLen (k := 3) hn rfl (by decide)
    obtain ⟨r, st', t, rfl, ht, k1, k2⟩ := hp
    intro H locs cells slots lsM hW hS hl hll hc hs
    cases r with
    | none => exact lv_ifnullN hx hb hd ht (k1 rfl H locs cells slots lsM hW hS hl hll hc hs)
    | some a => exact lv_ifnull hx hb hd (k2 (fun z => by cases z) H locs cells slots lsM hW hS hl hll hc hs)
  case ifnonnull off =>
    obtain rfl := sLen (k := 3) hn rfl (by decide)
    obtain ⟨r, st', t, rfl, ht, k1, k2⟩ := hp
    intro H locs cells slots lsM hW hS hl hll hc hs
    cases r with
    | none => exact lv_ifnonnullN hx hb hd (k1 rfl H locs cells slots lsM hW hS hl hll hc hs)
    | some a => exact lv_ifnonnull hx hb hd ht (k2 (fun z => by cases z) H locs cells slots lsM hW hS hl hll hc hs)
  case tableswitch df lo hi offs =>
    obtain ⟨x, st', rfl, k1, k2⟩ := hp
    intro H locs cells slots lsM hW hS hl hll hc hs
    by_cases hx2 : x.toInt < lo ∨ hi < x.toInt
    · obtain ⟨t, ht, hk⟩ := k1 hx2
      exact lv_tableOut hx hb hd hx2 ht (hk H locs cells slots lsM hW hS hl hll hc hs)
    · obtain ⟨off, t, ho, ht, hk⟩ := k2 hx2
      exact lv_tableIn hx hb hd (fun z => hx2 (Or.inl z)) (fun z => hx2 (Or.inr z)) ho ht (hk H locs cells slots lsM hW hS hl hll hc hs)
  case lookupswitch df ps =>
    obtain ⟨x, st', t, rfl, h1, h2, hk⟩ := hp
    intro H locs cells slots lsM hW hS hl hll hc hs
    exact lv_lookup hx hb hd h1 rfl h2 (hk H locs cells slots lsM hW hS hl hll hc hs)
  case getfield idx => obtain rfl := sLen (k := 3) hn rfl (by decide); exact sS_getfield F hd hp
  case putfield idx => obtain rfl := sLen (k := 3) hn rfl (by decide); exact sS_putfield F hd hp
  case iaload => obtain rfl := sLen (k := 1) hn rfl (by decide); exact sS_iaload F hd hp
  case baload => obtain rfl := sLen (k := 1) hn rfl (by decide); exact sS_baload F hd hp
  case aaload => obtain rfl := sLen (k := 1) hn rfl (by decide); exact sS_aaload F hd hp
  case iastore => obtain rfl := sLen (k := 1) hn rfl (by decide); exact sS_iastore F hd hp
  case bastore => obtain rfl := sLen (k := 1) hn rfl (by decide); exact sS_bastore F hd hp
  case aastore => obtain rfl := sLen (k := 1) hn rfl (by decide); exact sS_aastore F hd hp
  case arraylength => obtain rfl := sLen (k := 1) hn rfl (by decide); exact sS_arraylength F hd hp
  case newarray ty => obtain rfl := sLen (k := 2) hn rfl (by decide); exact sS_newarray F hd hp
  case anewarray idx => obtain rfl := sLen (k := 3) hn rfl (by decide); exact sS_anewarray F hd hp
  case new idx => obtain rfl := sLen (k := 3) hn rfl (by decide); exact sS_new F hd hp
  case checkcast idx => obtain rfl := sLen (k := 3) hn rfl (by decide); exact sS_checkcast F hd hp
  case invokevirtual idx => obtain rfl := sLen (k := 3) hn rfl (by decide); exact sS_virtual F hO hd hp
  case invokestatic idx => obtain rfl := sLen (k := 3) hn rfl (by decide); exact sS_static F hO hd hp
  case invokespecial idx => obtain rfl := sLen (k := 3) hn rfl (by decide); exact sS_special F hO hd hp
  case ireturn =>
    obtain rfl := sLen (k := 1) hn rfl (by decide)
    obtain ⟨x, ty, rfl, h1, h2, h3⟩ := hp
    intro H locs cells slots lsM hW hS hl hll hc hs
    exact (hret pc lsM h H locs cells slots hW hS (by omega) (by omega)).1 x ty hd h1 h2 h3
  case areturn =>
    obtain rfl := sLen (k := 1) hn rfl (by decide)
    obtain ⟨x, ty, rfl, h1, h2, h3⟩ := hp
    intro H locs cells slots lsM hW hS hl hll hc hs
    exact (hret pc lsM h H locs cells slots hW hS (by omega) (by omega)).2.1 x ty hd h1 h2 h3
  case return_ =>
    obtain rfl := sLen (k := 1) hn rfl (by decide)
    obtain ⟨rfl, h1, h3⟩ := hp
    intro H locs cells slots lsM hW hS hl hll hc hs
    exact (hret pc lsM h H locs cells slots hW hS (by omega) (by omega)).2.2 hd h1 h3
  case iadd =>
    obtain rfl := sLen (k := 1) hn rfl (by decide)
    obtain ⟨x, y, z, st', rfl, hz, hp⟩ := hp
    cases hz
    intro H locs cells slots lsM hW hS hl hll hc hs
    exact lv_iadd hx hb hd (hp H locs cells slots lsM hW hS hl hll hc hs)
  case isub =>
    obtain rfl := sLen (k := 1) hn rfl (by decide)
    obtain ⟨x, y, z, st', rfl, hz, hp⟩ := hp
    cases hz
    intro H locs cells slots lsM hW hS hl hll hc hs
    exact lv_isub hx hb hd (hp H locs cells slots lsM hW hS hl hll hc hs)
  case imul =>
    obtain rfl := sLen (k := 1) hn rfl (by decide)
    obtain ⟨x, y, z, st', rfl, hz, hp⟩ := hp
    cases hz
    intro H locs cells slots lsM hW hS hl hll hc hs
    exact lv_imul hx hb hd (hp H locs cells slots lsM hW hS hl hll hc hs)
  case iand =>
    obtain rfl := sLen (k := 1) hn rfl (by decide)
    obtain ⟨x, y, z, st', rfl, hz, hp⟩ := hp
    cases hz
    intro H locs cells slots lsM hW hS hl hll hc hs
    exact lv_iand hx hb hd (hp H locs cells slots lsM hW hS hl hll hc hs)
  case ior =>
    obtain rfl := sLen (k := 1) hn rfl (by decide)
    obtain ⟨x, y, z, st', rfl, hz, hp⟩ := hp
    cases hz
    intro H locs cells slots lsM hW hS hl hll hc hs
    exact lv_ior hx hb hd (hp H locs cells slots lsM hW hS hl hll hc hs)
  case ixor =>
    obtain rfl := sLen (k := 1) hn rfl (by decide)
    obtain ⟨x, y, z, st', rfl, hz, hp⟩ := hp
    cases hz
    intro H locs cells slots lsM hW hS hl hll hc hs
    exact lv_ixor hx hb hd (hp H locs cells slots lsM hW hS hl hll hc hs)
  case ishl =>
    obtain rfl := sLen (k := 1) hn rfl (by decide)
    obtain ⟨x, y, z, st', rfl, hz, hp⟩ := hp
    cases hz
    intro H locs cells slots lsM hW hS hl hll hc hs
    exact lv_ishl hx hb hd (hp H locs cells slots lsM hW hS hl hll hc hs)
  case ishr =>
    obtain rfl := sLen (k := 1) hn rfl (by decide)
    obtain ⟨x, y, z, st', rfl, hz, hp⟩ := hp
    cases hz
    intro H locs cells slots lsM hW hS hl hll hc hs
    exact lv_ishr hx hb hd (hp H locs cells slots lsM hW hS hl hll hc hs)
  case irem =>
    obtain rfl := sLen (k := 1) hn rfl (by decide)
    obtain ⟨x, y, z, st', rfl, hz, hp⟩ := hp
    by_cases hy : y = 0
    · simp [sbin, hy] at hz
    · simp only [sbin, if_neg hy, Option.some.injEq] at hz
      subst hz
      intro H locs cells slots lsM hW hS hl hll hc hs
      exact lv_irem hx hb hd hy (hp H locs cells slots lsM hW hS hl hll hc hs)
  all_goals (obtain ⟨x, y, z, st', _, hz, _⟩ := hp; cases hz)
/-- THE CONTRACT: what sCall says of a method holds of the machine -/
theorem sMet (l : Launch) (A : Nat → Prop) (D : va_G) (cy : Nat → ClassId) : ∀ d, sOr l A D cy d (sCall d) := by
  intro d
  induction d with
  | zero => intro N vs h bc bs P hc; exact hc.elim
  | succ d ih =>
    intro N vs h bc bs P hc n hok
    obtain ⟨h1, h2, h3⟩ := hc
    refine MetFree.of_bodySF (code := (sm N).2.1) (maxLocals := (sm N).2.2.1) (ret := (sm N).2.2.2) hok.1 ?_ ?_
    · intro args s m h hn
      obtain ⟨meth, c, h1, h2, h3, h4, h5, h6, -, -⟩ := Cond.code_spec hn (atoms_spec (ws := sws N) h _ List.mem_cons_self)
      exact ⟨meth, c, h1, h2, h3, h4, h5, h6⟩
    intro p e s m args below meth c s₁ B hml hv _
    obtain ⟨rfl, hW, hK, hX, hA⟩ := hv
    have hts0 := atoms_spec (ws := sws N) B.pre
    have hF : sFix p s m (vs.map sv).toArray meth c (sRm (d + 1) bc bs) A D cy N d bc bs none := ⟨B.exec, B.bytes, hml, findClass_of_methodNamed B.named, (name_of_methodNamed B.named B.method).1, fun w hw => hts0 w (List.mem_cons_of_mem _ hw), hK, hX, hA, rfl, rfl, Nat.le_refl _, Nat.le_refl _, fun b L xs z => by cases z⟩
    have hlocks := B.notSynchronized
    have hret : sRet p l e (sRm (d + 1) bc bs) s m (vs.map sv).toArray below meth c A D cy N bc bs P (MQ below (sPost A D cy P) (vs.map sv).toArray s bc bs A) := by
      intro pc lsM h H locs cells slots hW hS hc hs
      refine ⟨fun x ty hd hr hn hq => ?_, fun r ty hd hr hn hq => ?_, fun hd hr hq => ?_⟩
      · refine W.widen hc hs ?_
        exact W.zret B.exec B.bytes (B.returns.trans hr) hn (fun t ht hWm => ⟨⟨some (sI x), h, rfl, hq, by rw [ht]; exact hW⟩, hS.F ht⟩) hS.2.2 hd hlocks
      · refine W.widen hc hs ?_
        refine W.aret B.exec B.bytes (B.returns.trans hr) hn (by cases r with | none => exact Or.inl rfl | some a => exact Or.inr ⟨a, rfl⟩) (fun t ht hWm => ⟨⟨some (sR r), h, rfl, hq, by rw [ht]; exact hW⟩, hS.F ht⟩) hS.2.2 hd hlocks
      · refine W.widen hc hs ?_
        exact W.vret B.exec B.bytes (B.returns.trans hr) (fun t ht hWm => ⟨⟨none, h, rfl, hq, by rw [ht]; exact hW⟩, hS.F ht⟩) hS.2.2 hd hlocks
    have key : W p l e (headSpec (sws N) (sRm (d + 1) bc bs)).room s m (vs.map sv).toArray below meth c s.heap [] 0 0 (MQ below (sPost A D cy P) (vs.map sv).toArray s bc bs A) (entryFrame m (vs.map sv).toArray (sm N).2.2.1) := by
      rw [lg_entry_eq]
      exact sSound (below := below) hF ih hret h3 s.heap [] 0 0 _ hW va_S.rf (sLs_entry h1 h2) (by rw [List.length_append, List.length_replicate]; omega) (by omega) (by omega)
    have hh0 : s₁.heap = s.heap := by rw [B.state]; rfl
    obtain ⟨t, a1, o, b1, b2, b3⟩ := key s₁ hh0 (Stand.of_body B)
    exact ⟨t, o, a1, b1, b2, ⟨b3.1, b3.2⟩⟩
end SOUND4
end
