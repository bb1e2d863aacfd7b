section
-- ===== PART A: goes FIRST, ahead of the names: the tables' words, and 'selects' of the private methods out of them =====
/-- a private method of a class that the tables say can be made, by its rows of tables_1 -/
def lw_okq (q : MethodName × Nat) : Prop := (q.1.cls ≠ "java/lang/invoke/MethodHandle" ∧ q.1.cls ≠ "java/lang/invoke/VarHandle") ∧ Cond.instantiable q.1.cls q.2 ∈ tables_1 ∧ Cond.privateMethod q.1 ∈ tables_1 ∧ Cond.instanceMethod q.1 ∈ tables_1
theorem lw_p0 : lw_okq (⟨"ConditionRows", "hasParts", "(III)Z"⟩, 10) := ⟨⟨by decide +kernel, by decide +kernel⟩, List.mem_of_getElem? (i := 18) (by decide +kernel), List.mem_of_getElem? (i := 258) (by decide +kernel), List.mem_of_getElem? (i := 259) (by decide +kernel)⟩
theorem lw_p1 : lw_okq (⟨"ConditionRows", "isAbove", "(IJJ)Z"⟩, 10) := ⟨⟨by decide +kernel, by decide +kernel⟩, List.mem_of_getElem? (i := 18) (by decide +kernel), List.mem_of_getElem? (i := 278) (by decide +kernel), List.mem_of_getElem? (i := 279) (by decide +kernel)⟩
theorem lw_p2 : lw_okq (⟨"ConditionRows", "unfoldRow", "()I"⟩, 10) := ⟨⟨by decide +kernel, by decide +kernel⟩, List.mem_of_getElem? (i := 18) (by decide +kernel), List.mem_of_getElem? (i := 331) (by decide +kernel), List.mem_of_getElem? (i := 332) (by decide +kernel)⟩
theorem lw_p3 : lw_okq (⟨"ConditionRows", "joined", "(III)I"⟩, 10) := ⟨⟨by decide +kernel, by decide +kernel⟩, List.mem_of_getElem? (i := 18) (by decide +kernel), List.mem_of_getElem? (i := 335) (by decide +kernel), List.mem_of_getElem? (i := 336) (by decide +kernel)⟩
theorem lw_p4 : lw_okq (⟨"ConditionRows", "relationNode", "(I)I"⟩, 10) := ⟨⟨by decide +kernel, by decide +kernel⟩, List.mem_of_getElem? (i := 18) (by decide +kernel), List.mem_of_getElem? (i := 339) (by decide +kernel), List.mem_of_getElem? (i := 340) (by decide +kernel)⟩
theorem lw_p5 : lw_okq (⟨"ConditionRows", "switchesOn", "()I"⟩, 10) := ⟨⟨by decide +kernel, by decide +kernel⟩, List.mem_of_getElem? (i := 18) (by decide +kernel), List.mem_of_getElem? (i := 355) (by decide +kernel), List.mem_of_getElem? (i := 356) (by decide +kernel)⟩
theorem lw_p6 : lw_okq (⟨"java/lang/Throwable", "fillInStackTrace", "(I)Ljava/lang/Throwable;"⟩, 6) := ⟨⟨by decide +kernel, by decide +kernel⟩, List.mem_of_getElem? (i := 408) (by decide +kernel), List.mem_of_getElem? (i := 406) (by decide +kernel), List.mem_of_getElem? (i := 407) (by decide +kernel)⟩
theorem lw_p7 : lw_okq (⟨"ConditionRows", "outcomeOf", "(I)I"⟩, 10) := ⟨⟨by decide +kernel, by decide +kernel⟩, List.mem_of_getElem? (i := 18) (by decide +kernel), List.mem_of_getElem? (i := 438) (by decide +kernel), List.mem_of_getElem? (i := 439) (by decide +kernel)⟩
theorem lw_p8 : lw_okq (⟨"ConditionRows", "partToTest", "(I)I"⟩, 10) := ⟨⟨by decide +kernel, by decide +kernel⟩, List.mem_of_getElem? (i := 18) (by decide +kernel), List.mem_of_getElem? (i := 450) (by decide +kernel), List.mem_of_getElem? (i := 451) (by decide +kernel)⟩
theorem lw_p9 : lw_okq (⟨"ConditionRows", "leafOutcome", "(I)I"⟩, 10) := ⟨⟨by decide +kernel, by decide +kernel⟩, List.mem_of_getElem? (i := 18) (by decide +kernel), List.mem_of_getElem? (i := 457) (by decide +kernel), List.mem_of_getElem? (i := 458) (by decide +kernel)⟩
theorem lw_p10 : lw_okq (⟨"ConditionRows$Fields", "digitsValue", "(I)J"⟩, 5) := ⟨⟨by decide +kernel, by decide +kernel⟩, List.mem_of_getElem? (i := 26) (by decide +kernel), List.mem_of_getElem? (i := 487) (by decide +kernel), List.mem_of_getElem? (i := 488) (by decide +kernel)⟩
theorem lw_p11 : lw_okq (⟨"ConditionRows$Fields", "binaryValue", "(I)J"⟩, 5) := ⟨⟨by decide +kernel, by decide +kernel⟩, List.mem_of_getElem? (i := 26) (by decide +kernel), List.mem_of_getElem? (i := 492) (by decide +kernel), List.mem_of_getElem? (i := 493) (by decide +kernel)⟩
theorem lw_p12 : lw_okq (⟨"ConditionRows", "holds", "(I)Z"⟩, 10) := ⟨⟨by decide +kernel, by decide +kernel⟩, List.mem_of_getElem? (i := 18) (by decide +kernel), List.mem_of_getElem? (i := 500) (by decide +kernel), List.mem_of_getElem? (i := 501) (by decide +kernel)⟩
theorem lw_p13 : lw_okq (⟨"ConditionRows", "relationOutcome", "(III)I"⟩, 10) := ⟨⟨by decide +kernel, by decide +kernel⟩, List.mem_of_getElem? (i := 18) (by decide +kernel), List.mem_of_getElem? (i := 517) (by decide +kernel), List.mem_of_getElem? (i := 518) (by decide +kernel)⟩
theorem lw_p14 : lw_okq (⟨"ConditionRows", "compareFields", "(II)I"⟩, 10) := ⟨⟨by decide +kernel, by decide +kernel⟩, List.mem_of_getElem? (i := 18) (by decide +kernel), List.mem_of_getElem? (i := 521) (by decide +kernel), List.mem_of_getElem? (i := 522) (by decide +kernel)⟩
theorem lw_p15 : lw_okq (⟨"ConditionRows$Fields", "spellBytes", "(I[I)I"⟩, 5) := ⟨⟨by decide +kernel, by decide +kernel⟩, List.mem_of_getElem? (i := 26) (by decide +kernel), List.mem_of_getElem? (i := 548) (by decide +kernel), List.mem_of_getElem? (i := 549) (by decide +kernel)⟩
def lw_privs_1 : List (MethodName × Nat) := [(⟨"ConditionRows", "hasParts", "(III)Z"⟩, 10), (⟨"ConditionRows", "isAbove", "(IJJ)Z"⟩, 10), (⟨"ConditionRows", "unfoldRow", "()I"⟩, 10), (⟨"ConditionRows", "joined", "(III)I"⟩, 10), (⟨"ConditionRows", "relationNode", "(I)I"⟩, 10), (⟨"ConditionRows", "switchesOn", "()I"⟩, 10), (⟨"java/lang/Throwable", "fillInStackTrace", "(I)Ljava/lang/Throwable;"⟩, 6), (⟨"ConditionRows", "outcomeOf", "(I)I"⟩, 10), (⟨"ConditionRows", "partToTest", "(I)I"⟩, 10), (⟨"ConditionRows", "leafOutcome", "(I)I"⟩, 10), (⟨"ConditionRows$Fields", "digitsValue", "(I)J"⟩, 5), (⟨"ConditionRows$Fields", "binaryValue", "(I)J"⟩, 5), (⟨"ConditionRows", "holds", "(I)Z"⟩, 10), (⟨"ConditionRows", "relationOutcome", "(III)I"⟩, 10), (⟨"ConditionRows", "compareFields", "(II)I"⟩, 10), (⟨"ConditionRows$Fields", "spellBytes", "(I[I)I"⟩, 5)]
theorem lw_r1 : ∀ q ∈ lw_privs_1, lw_okq q := List.forall_mem_cons.mpr ⟨lw_p0, List.forall_mem_cons.mpr ⟨lw_p1, List.forall_mem_cons.mpr ⟨lw_p2, List.forall_mem_cons.mpr ⟨lw_p3, List.forall_mem_cons.mpr ⟨lw_p4, List.forall_mem_cons.mpr ⟨lw_p5, List.forall_mem_cons.mpr ⟨lw_p6, List.forall_mem_cons.mpr ⟨lw_p7, List.forall_mem_cons.mpr ⟨lw_p8, List.forall_mem_cons.mpr ⟨lw_p9, List.forall_mem_cons.mpr ⟨lw_p10, List.forall_mem_cons.mpr ⟨lw_p11, List.forall_mem_cons.mpr ⟨lw_p12, List.forall_mem_cons.mpr ⟨lw_p13, List.forall_mem_cons.mpr ⟨lw_p14, List.forall_mem_cons.mpr ⟨lw_p15, fun _ h => absurd h List.not_mem_nil⟩⟩⟩⟩⟩⟩⟩⟩⟩⟩⟩⟩⟩⟩⟩⟩
theorem lw_p16 : lw_okq (⟨"ConditionRows", "joinedOutcome", "(I)I"⟩, 10) := ⟨⟨by decide +kernel, by decide +kernel⟩, List.mem_of_getElem? (i := 18) (by decide +kernel), List.mem_of_getElem? (i := 559) (by decide +kernel), List.mem_of_getElem? (i := 560) (by decide +kernel)⟩
theorem lw_p17 : lw_okq (⟨"ConditionRowsModel", "isField", "(I)Z"⟩, 30) := ⟨⟨by decide +kernel, by decide +kernel⟩, List.mem_of_getElem? (i := 592) (by decide +kernel), List.mem_of_getElem? (i := 697) (by decide +kernel), List.mem_of_getElem? (i := 698) (by decide +kernel)⟩
theorem lw_p18 : lw_okq (⟨"ConditionRowsModel", "refusal", "(III)I"⟩, 30) := ⟨⟨by decide +kernel, by decide +kernel⟩, List.mem_of_getElem? (i := 592) (by decide +kernel), List.mem_of_getElem? (i := 716) (by decide +kernel), List.mem_of_getElem? (i := 717) (by decide +kernel)⟩
theorem lw_p19 : lw_okq (⟨"ConditionRowsModel", "isName", "(I)Z"⟩, 30) := ⟨⟨by decide +kernel, by decide +kernel⟩, List.mem_of_getElem? (i := 592) (by decide +kernel), List.mem_of_getElem? (i := 720) (by decide +kernel), List.mem_of_getElem? (i := 721) (by decide +kernel)⟩
theorem lw_p20 : lw_okq (⟨"ConditionRowsModel", "isNode", "(I)Z"⟩, 30) := ⟨⟨by decide +kernel, by decide +kernel⟩, List.mem_of_getElem? (i := 592) (by decide +kernel), List.mem_of_getElem? (i := 724) (by decide +kernel), List.mem_of_getElem? (i := 725) (by decide +kernel)⟩
theorem lw_p21 : lw_okq (⟨"ConditionRowsModel", "made", "(III)I"⟩, 30) := ⟨⟨by decide +kernel, by decide +kernel⟩, List.mem_of_getElem? (i := 592) (by decide +kernel), List.mem_of_getElem? (i := 728) (by decide +kernel), List.mem_of_getElem? (i := 729) (by decide +kernel)⟩
theorem lw_p22 : lw_okq (⟨"ConditionRowsModel", "isTurned", "(IJJ)Z"⟩, 30) := ⟨⟨by decide +kernel, by decide +kernel⟩, List.mem_of_getElem? (i := 592) (by decide +kernel), List.mem_of_getElem? (i := 736) (by decide +kernel), List.mem_of_getElem? (i := 737) (by decide +kernel)⟩
theorem lw_p23 : lw_okq (⟨"ConditionRowsModel", "relation", "(I)I"⟩, 30) := ⟨⟨by decide +kernel, by decide +kernel⟩, List.mem_of_getElem? (i := 592) (by decide +kernel), List.mem_of_getElem? (i := 763) (by decide +kernel), List.mem_of_getElem? (i := 764) (by decide +kernel)⟩
theorem lw_p24 : lw_okq (⟨"ConditionRowsModel", "leaf", "(I)Z"⟩, 30) := ⟨⟨by decide +kernel, by decide +kernel⟩, List.mem_of_getElem? (i := 592) (by decide +kernel), List.mem_of_getElem? (i := 771) (by decide +kernel), List.mem_of_getElem? (i := 772) (by decide +kernel)⟩
theorem lw_p25 : lw_okq (⟨"ConditionRowsModel", "isBad", "(I)Z"⟩, 30) := ⟨⟨by decide +kernel, by decide +kernel⟩, List.mem_of_getElem? (i := 592) (by decide +kernel), List.mem_of_getElem? (i := 775) (by decide +kernel), List.mem_of_getElem? (i := 776) (by decide +kernel)⟩
theorem lw_p26 : lw_okq (⟨"ConditionRowsModel", "read", "(II)I"⟩, 30) := ⟨⟨by decide +kernel, by decide +kernel⟩, List.mem_of_getElem? (i := 592) (by decide +kernel), List.mem_of_getElem? (i := 779) (by decide +kernel), List.mem_of_getElem? (i := 780) (by decide +kernel)⟩
theorem lw_p27 : lw_okq (⟨"ConditionRowsModel", "related", "(III)Z"⟩, 30) := ⟨⟨by decide +kernel, by decide +kernel⟩, List.mem_of_getElem? (i := 592) (by decide +kernel), List.mem_of_getElem? (i := 783) (by decide +kernel), List.mem_of_getElem? (i := 784) (by decide +kernel)⟩
theorem lw_p28 : lw_okq (⟨"ConditionRowsModel", "order", "(II)I"⟩, 30) := ⟨⟨by decide +kernel, by decide +kernel⟩, List.mem_of_getElem? (i := 592) (by decide +kernel), List.mem_of_getElem? (i := 787) (by decide +kernel), List.mem_of_getElem? (i := 788) (by decide +kernel)⟩
theorem lw_p29 : lw_okq (⟨"ConditionRowsModel", "part", "(I)J"⟩, 30) := ⟨⟨by decide +kernel, by decide +kernel⟩, List.mem_of_getElem? (i := 592) (by decide +kernel), List.mem_of_getElem? (i := 791) (by decide +kernel), List.mem_of_getElem? (i := 792) (by decide +kernel)⟩
theorem lw_p30 : lw_okq (⟨"ConditionRowsModel", "whole", "(I)J"⟩, 30) := ⟨⟨by decide +kernel, by decide +kernel⟩, List.mem_of_getElem? (i := 592) (by decide +kernel), List.mem_of_getElem? (i := 795) (by decide +kernel), List.mem_of_getElem? (i := 796) (by decide +kernel)⟩
theorem lw_p31 : lw_okq (⟨"ConditionRowsModel", "rest", "(I)J"⟩, 30) := ⟨⟨by decide +kernel, by decide +kernel⟩, List.mem_of_getElem? (i := 592) (by decide +kernel), List.mem_of_getElem? (i := 807) (by decide +kernel), List.mem_of_getElem? (i := 808) (by decide +kernel)⟩
def lw_privs_2 : List (MethodName × Nat) := [(⟨"ConditionRows", "joinedOutcome", "(I)I"⟩, 10), (⟨"ConditionRowsModel", "isField", "(I)Z"⟩, 30), (⟨"ConditionRowsModel", "refusal", "(III)I"⟩, 30), (⟨"ConditionRowsModel", "isName", "(I)Z"⟩, 30), (⟨"ConditionRowsModel", "isNode", "(I)Z"⟩, 30), (⟨"ConditionRowsModel", "made", "(III)I"⟩, 30), (⟨"ConditionRowsModel", "isTurned", "(IJJ)Z"⟩, 30), (⟨"ConditionRowsModel", "relation", "(I)I"⟩, 30), (⟨"ConditionRowsModel", "leaf", "(I)Z"⟩, 30), (⟨"ConditionRowsModel", "isBad", "(I)Z"⟩, 30), (⟨"ConditionRowsModel", "read", "(II)I"⟩, 30), (⟨"ConditionRowsModel", "related", "(III)Z"⟩, 30), (⟨"ConditionRowsModel", "order", "(II)I"⟩, 30), (⟨"ConditionRowsModel", "part", "(I)J"⟩, 30), (⟨"ConditionRowsModel", "whole", "(I)J"⟩, 30), (⟨"ConditionRowsModel", "rest", "(I)J"⟩, 30)]
theorem lw_r2 : ∀ q ∈ lw_privs_2, lw_okq q := List.forall_mem_cons.mpr ⟨lw_p16, List.forall_mem_cons.mpr ⟨lw_p17, List.forall_mem_cons.mpr ⟨lw_p18, List.forall_mem_cons.mpr ⟨lw_p19, List.forall_mem_cons.mpr ⟨lw_p20, List.forall_mem_cons.mpr ⟨lw_p21, List.forall_mem_cons.mpr ⟨lw_p22, List.forall_mem_cons.mpr ⟨lw_p23, List.forall_mem_cons.mpr ⟨lw_p24, List.forall_mem_cons.mpr ⟨lw_p25, List.forall_mem_cons.mpr ⟨lw_p26, List.forall_mem_cons.mpr ⟨lw_p27, List.forall_mem_cons.mpr ⟨lw_p28, List.forall_mem_cons.mpr ⟨lw_p29, List.forall_mem_cons.mpr ⟨lw_p30, List.forall_mem_cons.mpr ⟨lw_p31, fun _ h => absurd h List.not_mem_nil⟩⟩⟩⟩⟩⟩⟩⟩⟩⟩⟩⟩⟩⟩⟩⟩
theorem lw_p32 : lw_okq (⟨"ConditionRowsModel", "spell", "(I)V"⟩, 30) := ⟨⟨by decide +kernel, by decide +kernel⟩, List.mem_of_getElem? (i := 592) (by decide +kernel), List.mem_of_getElem? (i := 811) (by decide +kernel), List.mem_of_getElem? (i := 812) (by decide +kernel)⟩
theorem lw_p33 : lw_okq (⟨"ConditionRowsModel", "isOf", "(II)Z"⟩, 30) := ⟨⟨by decide +kernel, by decide +kernel⟩, List.mem_of_getElem? (i := 592) (by decide +kernel), List.mem_of_getElem? (i := 816) (by decide +kernel), List.mem_of_getElem? (i := 817) (by decide +kernel)⟩
theorem lw_p34 : lw_okq (⟨"ConditionRowsModel", "isIn", "(I)Z"⟩, 30) := ⟨⟨by decide +kernel, by decide +kernel⟩, List.mem_of_getElem? (i := 592) (by decide +kernel), List.mem_of_getElem? (i := 820) (by decide +kernel), List.mem_of_getElem? (i := 821) (by decide +kernel)⟩
theorem lw_p35 : lw_okq (⟨"ConditionRowsModel", "settled", "(I)I"⟩, 30) := ⟨⟨by decide +kernel, by decide +kernel⟩, List.mem_of_getElem? (i := 592) (by decide +kernel), List.mem_of_getElem? (i := 824) (by decide +kernel), List.mem_of_getElem? (i := 825) (by decide +kernel)⟩
def lw_privs_3 : List (MethodName × Nat) := [(⟨"ConditionRowsModel", "spell", "(I)V"⟩, 30), (⟨"ConditionRowsModel", "isOf", "(II)Z"⟩, 30), (⟨"ConditionRowsModel", "isIn", "(I)Z"⟩, 30), (⟨"ConditionRowsModel", "settled", "(I)I"⟩, 30)]
theorem lw_r3 : ∀ q ∈ lw_privs_3, lw_okq q := List.forall_mem_cons.mpr ⟨lw_p32, List.forall_mem_cons.mpr ⟨lw_p33, List.forall_mem_cons.mpr ⟨lw_p34, List.forall_mem_cons.mpr ⟨lw_p35, fun _ h => absurd h List.not_mem_nil⟩⟩⟩⟩
def lw_privs : List (MethodName × Nat) := lw_privs_1 ++ (lw_privs_2 ++ (lw_privs_3))
def lw_tbl : List Cond := k2_sels lw_privs ++ tables_1
theorem lw_privs_ok : ∀ q ∈ lw_privs, lw_okq q := by
  show ∀ q ∈ lw_privs_1 ++ (lw_privs_2 ++ (lw_privs_3)), lw_okq q
  exact List.forall_mem_append.mpr ⟨lw_r1, List.forall_mem_append.mpr ⟨lw_r2, lw_r3⟩⟩
end
section
def RX : String := "ConditionRows"
def TX : u_T := fun k => match k with
  | 0 => ("ConditionRows", "whole", "Z", true)
  | 1 => ("ConditionRows", "fields", "LConditionRows$Fields;", true)
  | 2 => ("ConditionRows", "weights", "LConditionRows$Weights;", true)
  | 3 => ("ConditionRows", "names", "LConditionRows$Names;", true)
  | 4 => ("ConditionRows", "nodes", "LConditionRows$Nodes;", true)
  | 5 => ("ConditionRows", "row", "LConditionRows$Row;", true)
  | 6 => ("ConditionRows", "testing", "LConditionRows$Testing;", true)
  | 7 => ("ConditionRows", "switches", "[Z", true)
  | 8 => ("ConditionRows", "leftText", "[I", true)
  | _ => ("ConditionRows", "rightText", "[I", true)
def tyX : Nat → FieldType := fun k => match k with
  | 0 => .boolean
  | 1 => .object "ConditionRows$Fields"
  | 2 => .object "ConditionRows$Weights"
  | 3 => .object "ConditionRows$Names"
  | 4 => .object "ConditionRows$Nodes"
  | 5 => .object "ConditionRows$Row"
  | 6 => .object "ConditionRows$Testing"
  | 7 => .array .boolean
  | 8 => .array .int
  | _ => .array .int
theorem nmX : ∀ a, a < 10 → ∀ b, b < 10 → a ≠ b → (TX a).2.1 ≠ (TX b).2.1 := by decide +kernel
theorem tyX_ok : ∀ k, k < 10 → parseFieldDescriptor (TX k).2.2.1 = some (tyX k) := by decide +kernel
def RXF : String := "ConditionRows$Fields"
def TXF : u_T := fun k => match k with
  | 0 => ("ConditionRows$Fields", "category", "[I", true)
  | 1 => ("ConditionRows$Fields", "size", "[I", true)
  | 2 => ("ConditionRows$Fields", "scale", "[I", true)
  | 3 => ("ConditionRows$Fields", "bytes", "[I", true)
  | _ => ("ConditionRows$Fields", "made", "I", false)
def tyXF : Nat → FieldType := fun k => match k with
  | 0 => .array .int
  | 1 => .array .int
  | 2 => .array .int
  | 3 => .array .int
  | _ => .int
theorem nmXF : ∀ a, a < 5 → ∀ b, b < 5 → a ≠ b → (TXF a).2.1 ≠ (TXF b).2.1 := by decide +kernel
theorem tyXF_ok : ∀ k, k < 5 → parseFieldDescriptor (TXF k).2.2.1 = some (tyXF k) := by decide +kernel
def RXW : String := "ConditionRows$Weights"
def TXW : u_T := fun k => match k with
  | _ => ("ConditionRows$Weights", "of", "[I", true)
def tyXW : Nat → FieldType := fun k => match k with
  | _ => .array .int
theorem nmXW : ∀ a, a < 1 → ∀ b, b < 1 → a ≠ b → (TXW a).2.1 ≠ (TXW b).2.1 := by decide +kernel
theorem tyXW_ok : ∀ k, k < 1 → parseFieldDescriptor (TXW k).2.2.1 = some (tyXW k) := by decide +kernel
def RXN : String := "ConditionRows$Names"
def TXN : u_T := fun k => match k with
  | 0 => ("ConditionRows$Names", "field", "[I", true)
  | 1 => ("ConditionRows$Names", "ranges", "[I", true)
  | 2 => ("ConditionRows$Names", "low", "[J", true)
  | 3 => ("ConditionRows$Names", "high", "[J", true)
  | _ => ("ConditionRows$Names", "made", "I", false)
def tyXN : Nat → FieldType := fun k => match k with
  | 0 => .array .int
  | 1 => .array .int
  | 2 => .array .long
  | 3 => .array .long
  | _ => .int
theorem nmXN : ∀ a, a < 5 → ∀ b, b < 5 → a ≠ b → (TXN a).2.1 ≠ (TXN b).2.1 := by decide +kernel
theorem tyXN_ok : ∀ k, k < 5 → parseFieldDescriptor (TXN k).2.2.1 = some (tyXN k) := by decide +kernel
def RXO : String := "ConditionRows$Nodes"
def TXO : u_T := fun k => match k with
  | 0 => ("ConditionRows$Nodes", "op", "[I", true)
  | 1 => ("ConditionRows$Nodes", "a", "[I", true)
  | 2 => ("ConditionRows$Nodes", "b", "[I", true)
  | _ => ("ConditionRows$Nodes", "made", "I", false)
def tyXO : Nat → FieldType := fun k => match k with
  | 0 => .array .int
  | 1 => .array .int
  | 2 => .array .int
  | _ => .int
theorem nmXO : ∀ a, a < 4 → ∀ b, b < 4 → a ≠ b → (TXO a).2.1 ≠ (TXO b).2.1 := by decide +kernel
theorem tyXO_ok : ∀ k, k < 4 → parseFieldDescriptor (TXO k).2.2.1 = some (tyXO k) := by decide +kernel
def RXR : String := "ConditionRows$Row"
def TXR : u_T := fun k => match k with
  | 0 => ("ConditionRows$Row", "with", "[I", true)
  | 1 => ("ConditionRows$Row", "op", "[I", true)
  | 2 => ("ConditionRows$Row", "negated", "[Z", true)
  | 3 => ("ConditionRows$Row", "object", "[I", true)
  | 4 => ("ConditionRows$Row", "subject", "I", false)
  | 5 => ("ConditionRows$Row", "carried", "I", false)
  | _ => ("ConditionRows$Row", "length", "I", false)
def tyXR : Nat → FieldType := fun k => match k with
  | 0 => .array .int
  | 1 => .array .int
  | 2 => .array .boolean
  | 3 => .array .int
  | 4 => .int
  | 5 => .int
  | _ => .int
theorem nmXR : ∀ a, a < 7 → ∀ b, b < 7 → a ≠ b → (TXR a).2.1 ≠ (TXR b).2.1 := by decide +kernel
theorem tyXR_ok : ∀ k, k < 7 → parseFieldDescriptor (TXR k).2.2.1 = some (tyXR k) := by decide +kernel
def RXT : String := "ConditionRows$Testing"
def TXT : u_T := fun k => match k with
  | 0 => ("ConditionRows$Testing", "outcome", "[I", true)
  | 1 => ("ConditionRows$Testing", "leaves", "[I", true)
  | 2 => ("ConditionRows$Testing", "waiting", "[I", true)
  | 3 => ("ConditionRows$Testing", "noted", "I", false)
  | _ => ("ConditionRows$Testing", "depth", "I", false)
def tyXT : Nat → FieldType := fun k => match k with
  | 0 => .array .int
  | 1 => .array .int
  | 2 => .array .int
  | 3 => .int
  | _ => .int
theorem nmXT : ∀ a, a < 5 → ∀ b, b < 5 → a ≠ b → (TXT a).2.1 ≠ (TXT b).2.1 := by decide +kernel
theorem tyXT_ok : ∀ k, k < 5 → parseFieldDescriptor (TXT k).2.2.1 = some (tyXT k) := by decide +kernel
def RM : String := "ConditionRowsModel"
def TM : u_T := fun k => match k with
  | 0 => ("ConditionRowsModel", "whole", "Z", true)
  | 1 => ("ConditionRowsModel", "thrown", "I", false)
  | 2 => ("ConditionRowsModel", "bytes", "[I", true)
  | 3 => ("ConditionRowsModel", "categories", "[I", true)
  | 4 => ("ConditionRowsModel", "sizes", "[I", true)
  | 5 => ("ConditionRowsModel", "scales", "[I", true)
  | 6 => ("ConditionRowsModel", "weights", "[I", true)
  | 7 => ("ConditionRowsModel", "fields", "I", false)
  | 8 => ("ConditionRowsModel", "ops", "[I", true)
  | 9 => ("ConditionRowsModel", "as", "[I", true)
  | 10 => ("ConditionRowsModel", "bs", "[I", true)
  | 11 => ("ConditionRowsModel", "nodes", "I", false)
  | 12 => ("ConditionRowsModel", "nameFields", "[I", true)
  | 13 => ("ConditionRowsModel", "ranges", "[I", true)
  | 14 => ("ConditionRowsModel", "lows", "[J", true)
  | 15 => ("ConditionRowsModel", "highs", "[J", true)
  | 16 => ("ConditionRowsModel", "names", "I", false)
  | 17 => ("ConditionRowsModel", "switches", "[Z", true)
  | 18 => ("ConditionRowsModel", "ways", "[I", true)
  | 19 => ("ConditionRowsModel", "rowOps", "[I", true)
  | 20 => ("ConditionRowsModel", "objects", "[I", true)
  | 21 => ("ConditionRowsModel", "turned", "[Z", true)
  | 22 => ("ConditionRowsModel", "row", "I", false)
  | 23 => ("ConditionRowsModel", "subject", "I", false)
  | 24 => ("ConditionRowsModel", "known", "[I", true)
  | 25 => ("ConditionRowsModel", "pile", "[I", true)
  | 26 => ("ConditionRowsModel", "leaves", "[I", true)
  | 27 => ("ConditionRowsModel", "noted", "I", false)
  | 28 => ("ConditionRowsModel", "fault", "Z", false)
  | _ => ("ConditionRowsModel", "digits", "[I", true)
def tyM : Nat → FieldType := fun k => match k with
  | 0 => .boolean
  | 1 => .int
  | 2 => .array .int
  | 3 => .array .int
  | 4 => .array .int
  | 5 => .array .int
  | 6 => .array .int
  | 7 => .int
  | 8 => .array .int
  | 9 => .array .int
  | 10 => .array .int
  | 11 => .int
  | 12 => .array .int
  | 13 => .array .int
  | 14 => .array .long
  | 15 => .array .long
  | 16 => .int
  | 17 => .array .boolean
  | 18 => .array .int
  | 19 => .array .int
  | 20 => .array .int
  | 21 => .array .boolean
  | 22 => .int
  | 23 => .int
  | 24 => .array .int
  | 25 => .array .int
  | 26 => .array .int
  | 27 => .int
  | 28 => .boolean
  | _ => .array .int
theorem nmM : ∀ a, a < 30 → ∀ b, b < 30 → a ≠ b → (TM a).2.1 ≠ (TM b).2.1 := by decide +kernel
theorem tyM_ok : ∀ k, k < 30 → parseFieldDescriptor (TM k).2.2.1 = some (tyM k) := by decide +kernel
def RJM : String := "java/lang/Math"
def RJL : String := "java/lang/Long"
def RJI : String := "java/lang/Integer"
def RL : String := "ConditionRowsLaw"
abbrev vwCl : List vw_C := [(RX, TX, 10), (RXF, TXF, 5), (RXW, TXW, 1), (RXN, TXN, 5), (RXO, TXO, 4), (RXR, TXR, 7), (RXT, TXT, 5), (RM, TM, 30)]
abbrev cX_init : ByteArray := prog_1_method_1_code
def yX_init : MethodName := ⟨RX, "<init>", "(I)V"⟩
abbrev cXF_init : ByteArray := prog_2_method_1_code
def yXF_init : MethodName := ⟨RXF, "<init>", "()V"⟩
abbrev cXW_init : ByteArray := prog_7_method_1_code
def yXW_init : MethodName := ⟨RXW, "<init>", "()V"⟩
abbrev cXN_init : ByteArray := prog_3_method_1_code
def yXN_init : MethodName := ⟨RXN, "<init>", "()V"⟩
abbrev cXO_init : ByteArray := prog_4_method_1_code
def yXO_init : MethodName := ⟨RXO, "<init>", "()V"⟩
abbrev cXR_init : ByteArray := prog_5_method_1_code
def yXR_init : MethodName := ⟨RXR, "<init>", "()V"⟩
abbrev cXT_init : ByteArray := prog_6_method_1_code
def yXT_init : MethodName := ⟨RXT, "<init>", "()V"⟩
abbrev cX_field : ByteArray := prog_1_method_2_code
def yX_field : MethodName := ⟨RX, "field", "(II)I"⟩
abbrev cX_mostBytes : ByteArray := prog_1_method_17_code
def yX_mostBytes : MethodName := ⟨RX, "mostBytes", "(I)I"⟩
abbrev cXF_add : ByteArray := prog_2_method_5_code
def yXF_add : MethodName := ⟨RXF, "add", "(II)I"⟩
abbrev cXF_firstByte : ByteArray := prog_2_method_6_code
def yXF_firstByte : MethodName := ⟨RXF, "firstByte", "(I)I"⟩
abbrev cX_octet : ByteArray := prog_1_method_3_code
def yX_octet : MethodName := ⟨RX, "octet", "(III)I"⟩
abbrev cXF_has : ByteArray := prog_2_method_2_code
def yXF_has : MethodName := ⟨RXF, "has", "(I)Z"⟩
abbrev cX_scale : ByteArray := prog_1_method_4_code
def yX_scale : MethodName := ⟨RX, "scale", "(II)I"⟩
abbrev cXF_hasNumber : ByteArray := prog_2_method_4_code
def yXF_hasNumber : MethodName := ⟨RXF, "hasNumber", "(I)Z"⟩
abbrev cXF_isText : ByteArray := prog_2_method_3_code
def yXF_isText : MethodName := ⟨RXF, "isText", "(I)Z"⟩
abbrev cX_weight : ByteArray := prog_1_method_5_code
def yX_weight : MethodName := ⟨RX, "weight", "(II)I"⟩
abbrev cX_isByte : ByteArray := prog_1_method_18_code
def yX_isByte : MethodName := ⟨RX, "isByte", "(I)Z"⟩
abbrev cX_node : ByteArray := prog_1_method_6_code
def yX_node : MethodName := ⟨RX, "node", "(III)I"⟩
abbrev cX_isInside : ByteArray := prog_1_method_22_code
def yX_isInside : MethodName := ⟨RX, "isInside", "(III)Z"⟩
abbrev cX_isSwitch : ByteArray := prog_1_method_19_code
def yX_isSwitch : MethodName := ⟨RX, "isSwitch", "(I)Z"⟩
abbrev cX_hasParts : ByteArray := prog_1_method_23_code
def yX_hasParts : MethodName := ⟨RX, "hasParts", "(III)Z"⟩
abbrev cXN_has : ByteArray := prog_3_method_2_code
def yXN_has : MethodName := ⟨RXN, "has", "(I)Z"⟩
abbrev cXO_has : ByteArray := prog_4_method_2_code
def yXO_has : MethodName := ⟨RXO, "has", "(I)Z"⟩
abbrev cXO_add : ByteArray := prog_4_method_3_code
def yXO_add : MethodName := ⟨RXO, "add", "(III)I"⟩
abbrev cX_name88 : ByteArray := prog_1_method_7_code
def yX_name88 : MethodName := ⟨RX, "name88", "(IJJ)I"⟩
abbrev cX_isAbove : ByteArray := prog_1_method_24_code
def yX_isAbove : MethodName := ⟨RX, "isAbove", "(IJJ)Z"⟩
abbrev cX_isBelowUnsigned : ByteArray := prog_1_method_25_code
def yX_isBelowUnsigned : MethodName := ⟨RX, "isBelowUnsigned", "(JJ)Z"⟩
abbrev cXN_add : ByteArray := prog_3_method_3_code
def yXN_add : MethodName := ⟨RXN, "add", "(IJJ)I"⟩
abbrev cXN_widen : ByteArray := prog_3_method_4_code
def yXN_widen : MethodName := ⟨RXN, "widen", "(IJJ)I"⟩
abbrev cX_range : ByteArray := prog_1_method_8_code
def yX_range : MethodName := ⟨RX, "range", "(IJJ)I"⟩
abbrev cX_short0 : ByteArray := prog_1_method_9_code
def yX_short0 : MethodName := ⟨RX, "short0", "(III)I"⟩
abbrev cX_isRelation : ByteArray := prog_1_method_20_code
def yX_isRelation : MethodName := ⟨RX, "isRelation", "(I)Z"⟩
abbrev cXR_begin : ByteArray := prog_5_method_2_code
def yXR_begin : MethodName := ⟨RXR, "begin", "(III)V"⟩
abbrev cXR_append : ByteArray := prog_5_method_3_code
def yXR_append : MethodName := ⟨RXR, "append", "(IIZI)V"⟩
abbrev cX_more : ByteArray := prog_1_method_10_code
def yX_more : MethodName := ⟨RX, "more", "(IZII)I"⟩
abbrev cX_turned : ByteArray := prog_1_method_21_code
def yX_turned : MethodName := ⟨RX, "turned", "(I)I"⟩
abbrev cX_unfold : ByteArray := prog_1_method_11_code
def yX_unfold : MethodName := ⟨RX, "unfold", "()I"⟩
abbrev cXR_nodesNeeded : ByteArray := prog_5_method_4_code
def yXR_nodesNeeded : MethodName := ⟨RXR, "nodesNeeded", "()I"⟩
abbrev cX_unfoldRow : ByteArray := prog_1_method_27_code
def yX_unfoldRow : MethodName := ⟨RX, "unfoldRow", "()I"⟩
abbrev cX_joined : ByteArray := prog_1_method_29_code
def yX_joined : MethodName := ⟨RX, "joined", "(III)I"⟩
abbrev cX_relationNode : ByteArray := prog_1_method_28_code
def yX_relationNode : MethodName := ⟨RX, "relationNode", "(I)I"⟩
abbrev cX_asked : ByteArray := prog_1_method_13_code
def yX_asked : MethodName := ⟨RX, "asked", "(I)I"⟩
abbrev cX_switchOn : ByteArray := prog_1_method_14_code
def yX_switchOn : MethodName := ⟨RX, "switchOn", "(IZ)I"⟩
abbrev cX_count : ByteArray := prog_1_method_16_code
def yX_count : MethodName := ⟨RX, "count", "(I)I"⟩
abbrev cX_switchesOn : ByteArray := prog_1_method_26_code
def yX_switchesOn : MethodName := ⟨RX, "switchesOn", "()I"⟩
abbrev cL_cell : ByteArray := method_2_code
def yL_cell : MethodName := ⟨RL, "cell", "([II)I"⟩
abbrev cL_truth : ByteArray := method_3_code
def yL_truth : MethodName := ⟨RL, "truth", "(LConditionRows;I[J)I"⟩
abbrev cX_truth : ByteArray := prog_1_method_12_code
def yX_truth : MethodName := ⟨RX, "truth", "(I)Z"⟩
abbrev cX_outcomeOf : ByteArray := prog_1_method_30_code
def yX_outcomeOf : MethodName := ⟨RX, "outcomeOf", "(I)I"⟩
abbrev cXT_begin : ByteArray := prog_6_method_2_code
def yXT_begin : MethodName := ⟨RXT, "begin", "()V"⟩
abbrev cXT_open : ByteArray := prog_6_method_3_code
def yXT_open : MethodName := ⟨RXT, "open", "(I)V"⟩
abbrev cX_partToTest : ByteArray := prog_1_method_31_code
def yX_partToTest : MethodName := ⟨RX, "partToTest", "(I)I"⟩
abbrev cX_settledBy : ByteArray := prog_1_method_32_code
def yX_settledBy : MethodName := ⟨RX, "settledBy", "(I)I"⟩
abbrev cX_leafOutcome : ByteArray := prog_1_method_34_code
def yX_leafOutcome : MethodName := ⟨RX, "leafOutcome", "(I)I"⟩
abbrev cXT_note : ByteArray := prog_6_method_5_code
def yXT_note : MethodName := ⟨RXT, "note", "(I)V"⟩
abbrev cXF_isOfClass : ByteArray := prog_2_method_9_code
def yXF_isOfClass : MethodName := ⟨RXF, "isOfClass", "(II)Z"⟩
abbrev cXF_isBad : ByteArray := prog_2_method_8_code
def yXF_isBad : MethodName := ⟨RXF, "isBad", "(I)Z"⟩
abbrev cXF_isDigit : ByteArray := prog_2_method_7_code
def yXF_isDigit : MethodName := ⟨RXF, "isDigit", "(I)Z"⟩
abbrev cXF_fits : ByteArray := prog_2_method_10_code
def yXF_fits : MethodName := ⟨RXF, "fits", "(II)Z"⟩
abbrev cX_asOutcome : ByteArray := prog_1_method_35_code
def yX_asOutcome : MethodName := ⟨RX, "asOutcome", "(Z)I"⟩
abbrev cXF_value : ByteArray := prog_2_method_11_code
def yXF_value : MethodName := ⟨RXF, "value", "(I)J"⟩
abbrev cXF_digitsValue : ByteArray := prog_2_method_12_code
def yXF_digitsValue : MethodName := ⟨RXF, "digitsValue", "(I)J"⟩
abbrev cXF_binaryValue : ByteArray := prog_2_method_13_code
def yXF_binaryValue : MethodName := ⟨RXF, "binaryValue", "(I)J"⟩
abbrev cJL_compare : ByteArray := prog_14_method_42_code
def yJL_compare : MethodName := ⟨RJL, "compare", "(JJ)I"⟩
abbrev cX_holds : ByteArray := prog_1_method_37_code
def yX_holds : MethodName := ⟨RX, "holds", "(I)Z"⟩
abbrev cXF_firstBytes : ByteArray := prog_2_method_14_code
def yXF_firstBytes : MethodName := ⟨RXF, "firstBytes", "(I)J"⟩
abbrev cXN_hasUnsigned : ByteArray := prog_3_method_6_code
def yXN_hasUnsigned : MethodName := ⟨RXN, "hasUnsigned", "(IJ)Z"⟩
abbrev cXN_hasSigned : ByteArray := prog_3_method_5_code
def yXN_hasSigned : MethodName := ⟨RXN, "hasSigned", "(IJ)Z"⟩
abbrev cX_relationOutcome : ByteArray := prog_1_method_36_code
def yX_relationOutcome : MethodName := ⟨RX, "relationOutcome", "(III)I"⟩
abbrev cX_compareFields : ByteArray := prog_1_method_38_code
def yX_compareFields : MethodName := ⟨RX, "compareFields", "(II)I"⟩
abbrev cXF_compareNumbers : ByteArray := prog_2_method_15_code
def yXF_compareNumbers : MethodName := ⟨RXF, "compareNumbers", "(II)I"⟩
abbrev cXF_compareScaled : ByteArray := prog_2_method_16_code
def yXF_compareScaled : MethodName := ⟨RXF, "compareScaled", "(JJI)I"⟩
abbrev cJM_floorDiv : ByteArray := prog_15_method_49_code
def yJM_floorDiv : MethodName := ⟨RJM, "floorDiv", "(JJ)J"⟩
abbrev cJM_floorMod : ByteArray := prog_15_method_52_code
def yJM_floorMod : MethodName := ⟨RJM, "floorMod", "(JJ)J"⟩
abbrev cXF_spell : ByteArray := prog_2_method_17_code
def yXF_spell : MethodName := ⟨RXF, "spell", "(I[I)V"⟩
abbrev cXF_spellDecimals : ByteArray := prog_2_method_19_code
def yXF_spellDecimals : MethodName := ⟨RXF, "spellDecimals", "(J[I)I"⟩
abbrev cXF_spellBytes : ByteArray := prog_2_method_18_code
def yXF_spellBytes : MethodName := ⟨RXF, "spellBytes", "(I[I)I"⟩
abbrev cXW_compareTexts : ByteArray := prog_7_method_2_code
def yXW_compareTexts : MethodName := ⟨RXW, "compareTexts", "([I[I)I"⟩
abbrev cJI_compare : ByteArray := prog_13_method_40_code
def yJI_compare : MethodName := ⟨RJI, "compare", "(II)I"⟩
abbrev cX_joinedOutcome : ByteArray := prog_1_method_33_code
def yX_joinedOutcome : MethodName := ⟨RX, "joinedOutcome", "(I)I"⟩
abbrev cXT_close : ByteArray := prog_6_method_4_code
def yXT_close : MethodName := ⟨RXT, "close", "(I)V"⟩
abbrev cL_compare : ByteArray := method_4_code
def yL_compare : MethodName := ⟨RL, "compare", "(LConditionRows;II[J)I"⟩
abbrev cX_compare : ByteArray := prog_1_method_15_code
def yX_compare : MethodName := ⟨RX, "compare", "(II)I"⟩
abbrev cM_init : ByteArray := prog_9_method_1_code
def yM_init : MethodName := ⟨RM, "<init>", "(I)V"⟩
abbrev cM_field : ByteArray := prog_9_method_6_code
def yM_field : MethodName := ⟨RM, "field", "(II)I"⟩
abbrev cM_octet : ByteArray := prog_9_method_7_code
def yM_octet : MethodName := ⟨RM, "octet", "(III)I"⟩
abbrev cM_isField : ByteArray := prog_9_method_3_code
def yM_isField : MethodName := ⟨RM, "isField", "(I)Z"⟩
abbrev cM_scale : ByteArray := prog_9_method_8_code
def yM_scale : MethodName := ⟨RM, "scale", "(II)I"⟩
abbrev cM_weight : ByteArray := prog_9_method_10_code
def yM_weight : MethodName := ⟨RM, "weight", "(II)I"⟩
abbrev cM_isByte : ByteArray := prog_9_method_9_code
def yM_isByte : MethodName := ⟨RM, "isByte", "(I)Z"⟩
abbrev cM_node : ByteArray := prog_9_method_22_code
def yM_node : MethodName := ⟨RM, "node", "(III)I"⟩
abbrev cM_refusal : ByteArray := prog_9_method_20_code
def yM_refusal : MethodName := ⟨RM, "refusal", "(III)I"⟩
abbrev cM_isName : ByteArray := prog_9_method_5_code
def yM_isName : MethodName := ⟨RM, "isName", "(I)Z"⟩
abbrev cM_isNode : ByteArray := prog_9_method_4_code
def yM_isNode : MethodName := ⟨RM, "isNode", "(I)Z"⟩
abbrev cM_made : ByteArray := prog_9_method_21_code
def yM_made : MethodName := ⟨RM, "made", "(III)I"⟩
abbrev cM_name88 : ByteArray := prog_9_method_25_code
def yM_name88 : MethodName := ⟨RM, "name88", "(IJJ)I"⟩
abbrev cM_isTurned : ByteArray := prog_9_method_24_code
def yM_isTurned : MethodName := ⟨RM, "isTurned", "(IJJ)Z"⟩
abbrev cM_isLess : ByteArray := prog_9_method_23_code
def yM_isLess : MethodName := ⟨RM, "isLess", "(JJ)Z"⟩
abbrev cM_range : ByteArray := prog_9_method_26_code
def yM_range : MethodName := ⟨RM, "range", "(IJJ)I"⟩
abbrev cM_short0 : ByteArray := prog_9_method_28_code
def yM_short0 : MethodName := ⟨RM, "short0", "(III)I"⟩
abbrev cM_isRelation : ByteArray := prog_9_method_27_code
def yM_isRelation : MethodName := ⟨RM, "isRelation", "(I)Z"⟩
abbrev cM_more : ByteArray := prog_9_method_29_code
def yM_more : MethodName := ⟨RM, "more", "(IZII)I"⟩
abbrev cM_unfold : ByteArray := prog_9_method_31_code
def yM_unfold : MethodName := ⟨RM, "unfold", "()I"⟩
abbrev cM_relation : ByteArray := prog_9_method_30_code
def yM_relation : MethodName := ⟨RM, "relation", "(I)I"⟩
abbrev cM_truth : ByteArray := prog_9_method_37_code
def yM_truth : MethodName := ⟨RM, "truth", "(I)Z"⟩
abbrev cM_leaf : ByteArray := prog_9_method_35_code
def yM_leaf : MethodName := ⟨RM, "leaf", "(I)Z"⟩
abbrev cM_isBad : ByteArray := prog_9_method_12_code
def yM_isBad : MethodName := ⟨RM, "isBad", "(I)Z"⟩
abbrev cM_read : ByteArray := prog_9_method_11_code
def yM_read : MethodName := ⟨RM, "read", "(II)I"⟩
abbrev cM_related : ByteArray := prog_9_method_34_code
def yM_related : MethodName := ⟨RM, "related", "(III)Z"⟩
abbrev cM_order : ByteArray := prog_9_method_19_code
def yM_order : MethodName := ⟨RM, "order", "(II)I"⟩
abbrev cM_part : ByteArray := prog_9_method_15_code
def yM_part : MethodName := ⟨RM, "part", "(I)J"⟩
abbrev cM_whole : ByteArray := prog_9_method_13_code
def yM_whole : MethodName := ⟨RM, "whole", "(I)J"⟩
abbrev cM_ten : ByteArray := prog_9_method_14_code
def yM_ten : MethodName := ⟨RM, "ten", "(I)J"⟩
abbrev cM_sign : ByteArray := prog_9_method_18_code
def yM_sign : MethodName := ⟨RM, "sign", "(JJ)I"⟩
abbrev cM_rest : ByteArray := prog_9_method_16_code
def yM_rest : MethodName := ⟨RM, "rest", "(I)J"⟩
abbrev cM_spell : ByteArray := prog_9_method_17_code
def yM_spell : MethodName := ⟨RM, "spell", "(I)V"⟩
abbrev cM_isOf : ByteArray := prog_9_method_32_code
def yM_isOf : MethodName := ⟨RM, "isOf", "(II)Z"⟩
abbrev cM_isIn : ByteArray := prog_9_method_33_code
def yM_isIn : MethodName := ⟨RM, "isIn", "(I)Z"⟩
abbrev cM_settled : ByteArray := prog_9_method_36_code
def yM_settled : MethodName := ⟨RM, "settled", "(I)I"⟩
abbrev cM_asked : ByteArray := prog_9_method_38_code
def yM_asked : MethodName := ⟨RM, "asked", "(I)I"⟩
abbrev cM_switchOn : ByteArray := prog_9_method_39_code
def yM_switchOn : MethodName := ⟨RM, "switchOn", "(IZ)I"⟩
abbrev cM_compare : ByteArray := prog_9_method_40_code
def yM_compare : MethodName := ⟨RM, "compare", "(II)I"⟩
abbrev cM_count : ByteArray := prog_9_method_41_code
def yM_count : MethodName := ⟨RM, "count", "(I)I"⟩
end
section
def zWords : List Cond := lw_tbl.filter goodWord
theorem zmem {w : Cond} (i : Nat) (h : tables_1[i]? = some w) (g : goodWord w = true) : w ∈ zWords := List.mem_filter.mpr ⟨List.mem_append_right _ (List.mem_of_getElem? h), g⟩
theorem zmemP {w : Cond} (i : Nat) (h : (k2_sels lw_privs)[i]? = some w) (g : goodWord w = true) : w ∈ zWords := List.mem_filter.mpr ⟨List.mem_append_left _ (List.mem_of_getElem? h), g⟩
theorem zc {w c : Cond} (h : w ∈ zWords) : w ∈ c :: zWords := List.mem_cons_of_mem _ h
theorem zgood {w c0 : Cond} (h : w ∈ zWords) : w ∈ c0 :: zWords ∧ ((w.onTables && w.keeps) = true ∨ ∃ ty, w = .arrayClass ty) := ⟨zc h, good_of_word (List.mem_filter.mp h).2⟩
theorem zgC {w c0 : Cond} (h : w ∈ zWords) : GoodIn (c0 :: zWords) (w :: zWords) := by
  intro v hv
  rcases List.mem_cons.mp hv with e | e
  · rw [e]; exact zgood h
  · exact zgood e
theorem zgV {c0 w : Cond} {own C : String} {idx : Nat} {y : MethodName} (h1 : Cond.methodLink own idx y ∈ zWords) (h2 : Cond.instanceMethod y ∈ zWords) (h3 : Cond.selects C y y ∈ zWords) (h4 : Cond.initialized C ∈ zWords) (h : w ∈ zWords) : GoodIn (c0 :: zWords) (wsV own idx C y (w :: zWords)) := by
  intro v hv
  rcases List.mem_append.mp hv with e | e
  · simp only [List.mem_cons, List.not_mem_nil, or_false] at e
    rcases e with e | e | e | e <;> (rw [e]; apply zgood; assumption)
  · exact zgC h v e
theorem zgS {c0 w : Cond} {own : String} {idx : Nat} {y : MethodName} (h1 : Cond.methodLink own idx y ∈ zWords) (h2 : Cond.static y ∈ zWords) (h4 : Cond.initialized y.cls ∈ zWords) (h : w ∈ zWords) : GoodIn (c0 :: zWords) (va_wsS own idx y (w :: zWords)) := by
  intro v hv
  rcases List.mem_append.mp hv with e | e
  · simp only [List.mem_cons, List.not_mem_nil, or_false] at e
    rcases e with e | e | e <;> (rw [e]; apply zgood; assumption)
  · exact zgC h v e
theorem m_211 : (Jvm.Cond.code ({ cls := "ConditionRows", name := "mostBytes", desc := "(I)I" } : Jvm.MethodName) prog_1_method_17_code (1 : Nat) (Option.some Jvm.ClassFile.FieldType.int)) ∈ zWords := zmem 211 (by decide +kernel) (by decide +kernel)
theorem m_209 : (Jvm.Cond.methodLink "ConditionRows" (66 : Nat) ({ cls := "ConditionRows", name := "mostBytes", desc := "(I)I" } : Jvm.MethodName)) ∈ zWords := zmem 209 (by decide +kernel) (by decide +kernel)
theorem m_210 : (Jvm.Cond.static ({ cls := "ConditionRows", name := "mostBytes", desc := "(I)I" } : Jvm.MethodName)) ∈ zWords := zmem 210 (by decide +kernel) (by decide +kernel)
theorem m_1 : (Jvm.Cond.initialized "ConditionRows") ∈ zWords := zmem 1 (by decide +kernel) (by decide +kernel)
theorem m_175 : (Jvm.Cond.fieldLink "ConditionRows" (10 : Nat) "ConditionRows" "fields" "LConditionRows$Fields;") ∈ zWords := zmem 175 (by decide +kernel) (by decide +kernel)
theorem m_38 : (Jvm.Cond.fieldLink "ConditionRows$Fields" (24 : Nat) "ConditionRows$Fields" "made" "I") ∈ zWords := zmem 38 (by decide +kernel) (by decide +kernel)
theorem m_31 : (Jvm.Cond.fieldLink "ConditionRows$Fields" (9 : Nat) "ConditionRows$Fields" "category" "[I") ∈ zWords := zmem 31 (by decide +kernel) (by decide +kernel)
theorem m_32 : (Jvm.Cond.fieldLink "ConditionRows$Fields" (15 : Nat) "ConditionRows$Fields" "size" "[I") ∈ zWords := zmem 32 (by decide +kernel) (by decide +kernel)
theorem m_36 : (Jvm.Cond.fieldLink "ConditionRows$Fields" (21 : Nat) "ConditionRows$Fields" "bytes" "[I") ∈ zWords := zmem 36 (by decide +kernel) (by decide +kernel)
theorem m_218 : (Jvm.Cond.code ({ cls := "ConditionRows$Fields", name := "firstByte", desc := "(I)I" } : Jvm.MethodName) prog_2_method_6_code (1 : Nat) (Option.some Jvm.ClassFile.FieldType.int)) ∈ zWords := zmem 218 (by decide +kernel) (by decide +kernel)
theorem m_216 : (Jvm.Cond.methodLink "ConditionRows$Fields" (35 : Nat) ({ cls := "ConditionRows$Fields", name := "firstByte", desc := "(I)I" } : Jvm.MethodName)) ∈ zWords := zmem 216 (by decide +kernel) (by decide +kernel)
theorem m_217 : (Jvm.Cond.static ({ cls := "ConditionRows$Fields", name := "firstByte", desc := "(I)I" } : Jvm.MethodName)) ∈ zWords := zmem 217 (by decide +kernel) (by decide +kernel)
theorem m_2 : (Jvm.Cond.initialized "ConditionRows$Fields") ∈ zWords := zmem 2 (by decide +kernel) (by decide +kernel)
theorem m_215 : (Jvm.Cond.code ({ cls := "ConditionRows$Fields", name := "add", desc := "(II)I" } : Jvm.MethodName) prog_2_method_5_code (5 : Nat) (Option.some Jvm.ClassFile.FieldType.int)) ∈ zWords := zmem 215 (by decide +kernel) (by decide +kernel)
theorem m_212 : (Jvm.Cond.methodLink "ConditionRows" (70 : Nat) ({ cls := "ConditionRows$Fields", name := "add", desc := "(II)I" } : Jvm.MethodName)) ∈ zWords := zmem 212 (by decide +kernel) (by decide +kernel)
theorem m_213 : (Jvm.Cond.instanceMethod ({ cls := "ConditionRows$Fields", name := "add", desc := "(II)I" } : Jvm.MethodName)) ∈ zWords := zmem 213 (by decide +kernel) (by decide +kernel)
theorem m_214 : (Jvm.Cond.selects "ConditionRows$Fields" ({ cls := "ConditionRows$Fields", name := "add", desc := "(II)I" } : Jvm.MethodName) ({ cls := "ConditionRows$Fields", name := "add", desc := "(II)I" } : Jvm.MethodName)) ∈ zWords := zmem 214 (by decide +kernel) (by decide +kernel)
theorem m_226 : (Jvm.Cond.code ({ cls := "ConditionRows$Fields", name := "has", desc := "(I)Z" } : Jvm.MethodName) prog_2_method_2_code (2 : Nat) (Option.some Jvm.ClassFile.FieldType.boolean)) ∈ zWords := zmem 226 (by decide +kernel) (by decide +kernel)
theorem m_223 : (Jvm.Cond.methodLink "ConditionRows" (74 : Nat) ({ cls := "ConditionRows$Fields", name := "has", desc := "(I)Z" } : Jvm.MethodName)) ∈ zWords := zmem 223 (by decide +kernel) (by decide +kernel)
theorem m_224 : (Jvm.Cond.instanceMethod ({ cls := "ConditionRows$Fields", name := "has", desc := "(I)Z" } : Jvm.MethodName)) ∈ zWords := zmem 224 (by decide +kernel) (by decide +kernel)
theorem m_225 : (Jvm.Cond.selects "ConditionRows$Fields" ({ cls := "ConditionRows$Fields", name := "has", desc := "(I)Z" } : Jvm.MethodName) ({ cls := "ConditionRows$Fields", name := "has", desc := "(I)Z" } : Jvm.MethodName)) ∈ zWords := zmem 225 (by decide +kernel) (by decide +kernel)
theorem m_235 : (Jvm.Cond.methodLink "ConditionRows$Fields" (28 : Nat) ({ cls := "ConditionRows$Fields", name := "has", desc := "(I)Z" } : Jvm.MethodName)) ∈ zWords := zmem 235 (by decide +kernel) (by decide +kernel)
theorem m_239 : (Jvm.Cond.code ({ cls := "ConditionRows$Fields", name := "isText", desc := "(I)Z" } : Jvm.MethodName) prog_2_method_3_code (2 : Nat) (Option.some Jvm.ClassFile.FieldType.boolean)) ∈ zWords := zmem 239 (by decide +kernel) (by decide +kernel)
theorem m_236 : (Jvm.Cond.methodLink "ConditionRows$Fields" (32 : Nat) ({ cls := "ConditionRows$Fields", name := "isText", desc := "(I)Z" } : Jvm.MethodName)) ∈ zWords := zmem 236 (by decide +kernel) (by decide +kernel)
theorem m_237 : (Jvm.Cond.instanceMethod ({ cls := "ConditionRows$Fields", name := "isText", desc := "(I)Z" } : Jvm.MethodName)) ∈ zWords := zmem 237 (by decide +kernel) (by decide +kernel)
theorem m_238 : (Jvm.Cond.selects "ConditionRows$Fields" ({ cls := "ConditionRows$Fields", name := "isText", desc := "(I)Z" } : Jvm.MethodName) ({ cls := "ConditionRows$Fields", name := "isText", desc := "(I)Z" } : Jvm.MethodName)) ∈ zWords := zmem 238 (by decide +kernel) (by decide +kernel)
theorem m_234 : (Jvm.Cond.code ({ cls := "ConditionRows$Fields", name := "hasNumber", desc := "(I)Z" } : Jvm.MethodName) prog_2_method_4_code (2 : Nat) (Option.some Jvm.ClassFile.FieldType.boolean)) ∈ zWords := zmem 234 (by decide +kernel) (by decide +kernel)
theorem m_231 : (Jvm.Cond.methodLink "ConditionRows" (84 : Nat) ({ cls := "ConditionRows$Fields", name := "hasNumber", desc := "(I)Z" } : Jvm.MethodName)) ∈ zWords := zmem 231 (by decide +kernel) (by decide +kernel)
theorem m_232 : (Jvm.Cond.instanceMethod ({ cls := "ConditionRows$Fields", name := "hasNumber", desc := "(I)Z" } : Jvm.MethodName)) ∈ zWords := zmem 232 (by decide +kernel) (by decide +kernel)
theorem m_233 : (Jvm.Cond.selects "ConditionRows$Fields" ({ cls := "ConditionRows$Fields", name := "hasNumber", desc := "(I)Z" } : Jvm.MethodName) ({ cls := "ConditionRows$Fields", name := "hasNumber", desc := "(I)Z" } : Jvm.MethodName)) ∈ zWords := zmem 233 (by decide +kernel) (by decide +kernel)
theorem m_246 : (Jvm.Cond.code ({ cls := "ConditionRows", name := "isByte", desc := "(I)Z" } : Jvm.MethodName) prog_1_method_18_code (1 : Nat) (Option.some Jvm.ClassFile.FieldType.boolean)) ∈ zWords := zmem 246 (by decide +kernel) (by decide +kernel)
theorem m_244 : (Jvm.Cond.methodLink "ConditionRows" (90 : Nat) ({ cls := "ConditionRows", name := "isByte", desc := "(I)Z" } : Jvm.MethodName)) ∈ zWords := zmem 244 (by decide +kernel) (by decide +kernel)
theorem m_245 : (Jvm.Cond.static ({ cls := "ConditionRows", name := "isByte", desc := "(I)Z" } : Jvm.MethodName)) ∈ zWords := zmem 245 (by decide +kernel) (by decide +kernel)
theorem m_176 : (Jvm.Cond.fieldLink "ConditionRows" (19 : Nat) "ConditionRows" "weights" "LConditionRows$Weights;") ∈ zWords := zmem 176 (by decide +kernel) (by decide +kernel)
theorem m_256 : (Jvm.Cond.code ({ cls := "ConditionRows", name := "isSwitch", desc := "(I)Z" } : Jvm.MethodName) prog_1_method_19_code (1 : Nat) (Option.some Jvm.ClassFile.FieldType.boolean)) ∈ zWords := zmem 256 (by decide +kernel) (by decide +kernel)
theorem m_254 : (Jvm.Cond.methodLink "ConditionRows" (173 : Nat) ({ cls := "ConditionRows", name := "isSwitch", desc := "(I)Z" } : Jvm.MethodName)) ∈ zWords := zmem 254 (by decide +kernel) (by decide +kernel)
theorem m_255 : (Jvm.Cond.static ({ cls := "ConditionRows", name := "isSwitch", desc := "(I)Z" } : Jvm.MethodName)) ∈ zWords := zmem 255 (by decide +kernel) (by decide +kernel)
theorem m_253 : (Jvm.Cond.code ({ cls := "ConditionRows", name := "isInside", desc := "(III)Z" } : Jvm.MethodName) prog_1_method_22_code (3 : Nat) (Option.some Jvm.ClassFile.FieldType.boolean)) ∈ zWords := zmem 253 (by decide +kernel) (by decide +kernel)
theorem m_251 : (Jvm.Cond.methodLink "ConditionRows" (96 : Nat) ({ cls := "ConditionRows", name := "isInside", desc := "(III)Z" } : Jvm.MethodName)) ∈ zWords := zmem 251 (by decide +kernel) (by decide +kernel)
theorem m_252 : (Jvm.Cond.static ({ cls := "ConditionRows", name := "isInside", desc := "(III)Z" } : Jvm.MethodName)) ∈ zWords := zmem 252 (by decide +kernel) (by decide +kernel)
theorem m_177 : (Jvm.Cond.fieldLink "ConditionRows" (26 : Nat) "ConditionRows" "names" "LConditionRows$Names;") ∈ zWords := zmem 177 (by decide +kernel) (by decide +kernel)
theorem m_74 : (Jvm.Cond.fieldLink "ConditionRows$Names" (25 : Nat) "ConditionRows$Names" "made" "I") ∈ zWords := zmem 74 (by decide +kernel) (by decide +kernel)
theorem m_264 : (Jvm.Cond.code ({ cls := "ConditionRows$Names", name := "has", desc := "(I)Z" } : Jvm.MethodName) prog_3_method_2_code (2 : Nat) (Option.some Jvm.ClassFile.FieldType.boolean)) ∈ zWords := zmem 264 (by decide +kernel) (by decide +kernel)
theorem m_261 : (Jvm.Cond.methodLink "ConditionRows" (113 : Nat) ({ cls := "ConditionRows$Names", name := "has", desc := "(I)Z" } : Jvm.MethodName)) ∈ zWords := zmem 261 (by decide +kernel) (by decide +kernel)
theorem m_262 : (Jvm.Cond.instanceMethod ({ cls := "ConditionRows$Names", name := "has", desc := "(I)Z" } : Jvm.MethodName)) ∈ zWords := zmem 262 (by decide +kernel) (by decide +kernel)
theorem m_263 : (Jvm.Cond.selects "ConditionRows$Names" ({ cls := "ConditionRows$Names", name := "has", desc := "(I)Z" } : Jvm.MethodName) ({ cls := "ConditionRows$Names", name := "has", desc := "(I)Z" } : Jvm.MethodName)) ∈ zWords := zmem 263 (by decide +kernel) (by decide +kernel)
theorem m_4 : (Jvm.Cond.initialized "ConditionRows$Names") ∈ zWords := zmem 4 (by decide +kernel) (by decide +kernel)
theorem m_178 : (Jvm.Cond.fieldLink "ConditionRows" (33 : Nat) "ConditionRows" "nodes" "LConditionRows$Nodes;") ∈ zWords := zmem 178 (by decide +kernel) (by decide +kernel)
theorem m_100 : (Jvm.Cond.fieldLink "ConditionRows$Nodes" (21 : Nat) "ConditionRows$Nodes" "made" "I") ∈ zWords := zmem 100 (by decide +kernel) (by decide +kernel)
theorem m_268 : (Jvm.Cond.code ({ cls := "ConditionRows$Nodes", name := "has", desc := "(I)Z" } : Jvm.MethodName) prog_4_method_2_code (2 : Nat) (Option.some Jvm.ClassFile.FieldType.boolean)) ∈ zWords := zmem 268 (by decide +kernel) (by decide +kernel)
theorem m_265 : (Jvm.Cond.methodLink "ConditionRows" (151 : Nat) ({ cls := "ConditionRows$Nodes", name := "has", desc := "(I)Z" } : Jvm.MethodName)) ∈ zWords := zmem 265 (by decide +kernel) (by decide +kernel)
theorem m_266 : (Jvm.Cond.instanceMethod ({ cls := "ConditionRows$Nodes", name := "has", desc := "(I)Z" } : Jvm.MethodName)) ∈ zWords := zmem 266 (by decide +kernel) (by decide +kernel)
theorem m_267 : (Jvm.Cond.selects "ConditionRows$Nodes" ({ cls := "ConditionRows$Nodes", name := "has", desc := "(I)Z" } : Jvm.MethodName) ({ cls := "ConditionRows$Nodes", name := "has", desc := "(I)Z" } : Jvm.MethodName)) ∈ zWords := zmem 267 (by decide +kernel) (by decide +kernel)
theorem m_5 : (Jvm.Cond.initialized "ConditionRows$Nodes") ∈ zWords := zmem 5 (by decide +kernel) (by decide +kernel)
theorem m_260 : (Jvm.Cond.code ({ cls := "ConditionRows", name := "hasParts", desc := "(III)Z" } : Jvm.MethodName) prog_1_method_23_code (4 : Nat) (Option.some Jvm.ClassFile.FieldType.boolean)) ∈ zWords := zmem 260 (by decide +kernel) (by decide +kernel)
theorem m_257 : (Jvm.Cond.methodLink "ConditionRows" (100 : Nat) ({ cls := "ConditionRows", name := "hasParts", desc := "(III)Z" } : Jvm.MethodName)) ∈ zWords := zmem 257 (by decide +kernel) (by decide +kernel)
theorem m_259 : (Jvm.Cond.instanceMethod ({ cls := "ConditionRows", name := "hasParts", desc := "(III)Z" } : Jvm.MethodName)) ∈ zWords := zmem 259 (by decide +kernel) (by decide +kernel)
theorem mp_0 : (Jvm.Cond.selects "ConditionRows" ({ cls := "ConditionRows", name := "hasParts", desc := "(III)Z" } : Jvm.MethodName) ({ cls := "ConditionRows", name := "hasParts", desc := "(III)Z" } : Jvm.MethodName)) ∈ zWords := zmemP 0 (by decide +kernel) (by decide +kernel)
theorem m_94 : (Jvm.Cond.fieldLink "ConditionRows$Nodes" (9 : Nat) "ConditionRows$Nodes" "op" "[I") ∈ zWords := zmem 94 (by decide +kernel) (by decide +kernel)
theorem m_96 : (Jvm.Cond.fieldLink "ConditionRows$Nodes" (15 : Nat) "ConditionRows$Nodes" "a" "[I") ∈ zWords := zmem 96 (by decide +kernel) (by decide +kernel)
theorem m_98 : (Jvm.Cond.fieldLink "ConditionRows$Nodes" (18 : Nat) "ConditionRows$Nodes" "b" "[I") ∈ zWords := zmem 98 (by decide +kernel) (by decide +kernel)
theorem m_272 : (Jvm.Cond.code ({ cls := "ConditionRows$Nodes", name := "add", desc := "(III)I" } : Jvm.MethodName) prog_4_method_3_code (4 : Nat) (Option.some Jvm.ClassFile.FieldType.int)) ∈ zWords := zmem 272 (by decide +kernel) (by decide +kernel)
theorem m_269 : (Jvm.Cond.methodLink "ConditionRows" (103 : Nat) ({ cls := "ConditionRows$Nodes", name := "add", desc := "(III)I" } : Jvm.MethodName)) ∈ zWords := zmem 269 (by decide +kernel) (by decide +kernel)
theorem m_270 : (Jvm.Cond.instanceMethod ({ cls := "ConditionRows$Nodes", name := "add", desc := "(III)I" } : Jvm.MethodName)) ∈ zWords := zmem 270 (by decide +kernel) (by decide +kernel)
theorem m_271 : (Jvm.Cond.selects "ConditionRows$Nodes" ({ cls := "ConditionRows$Nodes", name := "add", desc := "(III)I" } : Jvm.MethodName) ({ cls := "ConditionRows$Nodes", name := "add", desc := "(III)I" } : Jvm.MethodName)) ∈ zWords := zmem 271 (by decide +kernel) (by decide +kernel)
theorem m_281 : (Jvm.Cond.methodLink "ConditionRows" (191 : Nat) ({ cls := "ConditionRows$Fields", name := "isText", desc := "(I)Z" } : Jvm.MethodName)) ∈ zWords := zmem 281 (by decide +kernel) (by decide +kernel)
theorem m_285 : (Jvm.Cond.constantLong "ConditionRows" (200 : Nat) (-9223372036854775808 : Int64)) ∈ zWords := zmem 285 (by decide +kernel) (by decide +kernel)
theorem m_284 : (Jvm.Cond.code ({ cls := "ConditionRows", name := "isBelowUnsigned", desc := "(JJ)Z" } : Jvm.MethodName) prog_1_method_25_code (4 : Nat) (Option.some Jvm.ClassFile.FieldType.boolean)) ∈ zWords := zmem 284 (by decide +kernel) (by decide +kernel)
theorem m_282 : (Jvm.Cond.methodLink "ConditionRows" (194 : Nat) ({ cls := "ConditionRows", name := "isBelowUnsigned", desc := "(JJ)Z" } : Jvm.MethodName)) ∈ zWords := zmem 282 (by decide +kernel) (by decide +kernel)
theorem m_283 : (Jvm.Cond.static ({ cls := "ConditionRows", name := "isBelowUnsigned", desc := "(JJ)Z" } : Jvm.MethodName)) ∈ zWords := zmem 283 (by decide +kernel) (by decide +kernel)
theorem m_280 : (Jvm.Cond.code ({ cls := "ConditionRows", name := "isAbove", desc := "(IJJ)Z" } : Jvm.MethodName) prog_1_method_24_code (6 : Nat) (Option.some Jvm.ClassFile.FieldType.boolean)) ∈ zWords := zmem 280 (by decide +kernel) (by decide +kernel)
theorem m_277 : (Jvm.Cond.methodLink "ConditionRows" (106 : Nat) ({ cls := "ConditionRows", name := "isAbove", desc := "(IJJ)Z" } : Jvm.MethodName)) ∈ zWords := zmem 277 (by decide +kernel) (by decide +kernel)
theorem m_279 : (Jvm.Cond.instanceMethod ({ cls := "ConditionRows", name := "isAbove", desc := "(IJJ)Z" } : Jvm.MethodName)) ∈ zWords := zmem 279 (by decide +kernel) (by decide +kernel)
theorem mp_1 : (Jvm.Cond.selects "ConditionRows" ({ cls := "ConditionRows", name := "isAbove", desc := "(IJJ)Z" } : Jvm.MethodName) ({ cls := "ConditionRows", name := "isAbove", desc := "(IJJ)Z" } : Jvm.MethodName)) ∈ zWords := zmemP 1 (by decide +kernel) (by decide +kernel)
theorem m_69 : (Jvm.Cond.fieldLink "ConditionRows$Names" (9 : Nat) "ConditionRows$Names" "field" "[I") ∈ zWords := zmem 69 (by decide +kernel) (by decide +kernel)
theorem m_71 : (Jvm.Cond.fieldLink "ConditionRows$Names" (15 : Nat) "ConditionRows$Names" "ranges" "[I") ∈ zWords := zmem 71 (by decide +kernel) (by decide +kernel)
theorem m_72 : (Jvm.Cond.fieldLink "ConditionRows$Names" (18 : Nat) "ConditionRows$Names" "low" "[J") ∈ zWords := zmem 72 (by decide +kernel) (by decide +kernel)
theorem m_73 : (Jvm.Cond.fieldLink "ConditionRows$Names" (22 : Nat) "ConditionRows$Names" "high" "[J") ∈ zWords := zmem 73 (by decide +kernel) (by decide +kernel)
theorem m_293 : (Jvm.Cond.code ({ cls := "ConditionRows$Names", name := "widen", desc := "(IJJ)I" } : Jvm.MethodName) prog_3_method_4_code (7 : Nat) (Option.some Jvm.ClassFile.FieldType.int)) ∈ zWords := zmem 293 (by decide +kernel) (by decide +kernel)
theorem m_290 : (Jvm.Cond.methodLink "ConditionRows$Names" (29 : Nat) ({ cls := "ConditionRows$Names", name := "widen", desc := "(IJJ)I" } : Jvm.MethodName)) ∈ zWords := zmem 290 (by decide +kernel) (by decide +kernel)
theorem m_291 : (Jvm.Cond.instanceMethod ({ cls := "ConditionRows$Names", name := "widen", desc := "(IJJ)I" } : Jvm.MethodName)) ∈ zWords := zmem 291 (by decide +kernel) (by decide +kernel)
theorem m_292 : (Jvm.Cond.selects "ConditionRows$Names" ({ cls := "ConditionRows$Names", name := "widen", desc := "(IJJ)I" } : Jvm.MethodName) ({ cls := "ConditionRows$Names", name := "widen", desc := "(IJJ)I" } : Jvm.MethodName)) ∈ zWords := zmem 292 (by decide +kernel) (by decide +kernel)
theorem m_289 : (Jvm.Cond.code ({ cls := "ConditionRows$Names", name := "add", desc := "(IJJ)I" } : Jvm.MethodName) prog_3_method_3_code (6 : Nat) (Option.some Jvm.ClassFile.FieldType.int)) ∈ zWords := zmem 289 (by decide +kernel) (by decide +kernel)
theorem m_286 : (Jvm.Cond.methodLink "ConditionRows" (110 : Nat) ({ cls := "ConditionRows$Names", name := "add", desc := "(IJJ)I" } : Jvm.MethodName)) ∈ zWords := zmem 286 (by decide +kernel) (by decide +kernel)
theorem m_287 : (Jvm.Cond.instanceMethod ({ cls := "ConditionRows$Names", name := "add", desc := "(IJJ)I" } : Jvm.MethodName)) ∈ zWords := zmem 287 (by decide +kernel) (by decide +kernel)
theorem m_288 : (Jvm.Cond.selects "ConditionRows$Names" ({ cls := "ConditionRows$Names", name := "add", desc := "(IJJ)I" } : Jvm.MethodName) ({ cls := "ConditionRows$Names", name := "add", desc := "(IJJ)I" } : Jvm.MethodName)) ∈ zWords := zmem 288 (by decide +kernel) (by decide +kernel)
theorem m_298 : (Jvm.Cond.methodLink "ConditionRows" (117 : Nat) ({ cls := "ConditionRows$Names", name := "widen", desc := "(IJJ)I" } : Jvm.MethodName)) ∈ zWords := zmem 298 (by decide +kernel) (by decide +kernel)
theorem m_305 : (Jvm.Cond.code ({ cls := "ConditionRows", name := "isRelation", desc := "(I)Z" } : Jvm.MethodName) prog_1_method_20_code (1 : Nat) (Option.some Jvm.ClassFile.FieldType.boolean)) ∈ zWords := zmem 305 (by decide +kernel) (by decide +kernel)
theorem m_303 : (Jvm.Cond.methodLink "ConditionRows" (120 : Nat) ({ cls := "ConditionRows", name := "isRelation", desc := "(I)Z" } : Jvm.MethodName)) ∈ zWords := zmem 303 (by decide +kernel) (by decide +kernel)
theorem m_304 : (Jvm.Cond.static ({ cls := "ConditionRows", name := "isRelation", desc := "(I)Z" } : Jvm.MethodName)) ∈ zWords := zmem 304 (by decide +kernel) (by decide +kernel)
theorem m_179 : (Jvm.Cond.fieldLink "ConditionRows" (40 : Nat) "ConditionRows" "row" "LConditionRows$Row;") ∈ zWords := zmem 179 (by decide +kernel) (by decide +kernel)
theorem m_129 : (Jvm.Cond.fieldLink "ConditionRows$Row" (25 : Nat) "ConditionRows$Row" "length" "I") ∈ zWords := zmem 129 (by decide +kernel) (by decide +kernel)
theorem m_125 : (Jvm.Cond.fieldLink "ConditionRows$Row" (29 : Nat) "ConditionRows$Row" "subject" "I") ∈ zWords := zmem 125 (by decide +kernel) (by decide +kernel)
theorem m_117 : (Jvm.Cond.fieldLink "ConditionRows$Row" (9 : Nat) "ConditionRows$Row" "with" "[I") ∈ zWords := zmem 117 (by decide +kernel) (by decide +kernel)
theorem m_119 : (Jvm.Cond.fieldLink "ConditionRows$Row" (15 : Nat) "ConditionRows$Row" "op" "[I") ∈ zWords := zmem 119 (by decide +kernel) (by decide +kernel)
theorem m_121 : (Jvm.Cond.fieldLink "ConditionRows$Row" (18 : Nat) "ConditionRows$Row" "negated" "[Z") ∈ zWords := zmem 121 (by decide +kernel) (by decide +kernel)
theorem m_123 : (Jvm.Cond.fieldLink "ConditionRows$Row" (22 : Nat) "ConditionRows$Row" "object" "[I") ∈ zWords := zmem 123 (by decide +kernel) (by decide +kernel)
theorem m_127 : (Jvm.Cond.fieldLink "ConditionRows$Row" (36 : Nat) "ConditionRows$Row" "carried" "I") ∈ zWords := zmem 127 (by decide +kernel) (by decide +kernel)
theorem m_313 : (Jvm.Cond.code ({ cls := "ConditionRows$Row", name := "append", desc := "(IIZI)V" } : Jvm.MethodName) prog_5_method_3_code (5 : Nat) (Option.none : Option Jvm.ClassFile.FieldType)) ∈ zWords := zmem 313 (by decide +kernel) (by decide +kernel)
theorem m_310 : (Jvm.Cond.methodLink "ConditionRows$Row" (32 : Nat) ({ cls := "ConditionRows$Row", name := "append", desc := "(IIZI)V" } : Jvm.MethodName)) ∈ zWords := zmem 310 (by decide +kernel) (by decide +kernel)
theorem m_311 : (Jvm.Cond.instanceMethod ({ cls := "ConditionRows$Row", name := "append", desc := "(IIZI)V" } : Jvm.MethodName)) ∈ zWords := zmem 311 (by decide +kernel) (by decide +kernel)
theorem m_312 : (Jvm.Cond.selects "ConditionRows$Row" ({ cls := "ConditionRows$Row", name := "append", desc := "(IIZI)V" } : Jvm.MethodName) ({ cls := "ConditionRows$Row", name := "append", desc := "(IIZI)V" } : Jvm.MethodName)) ∈ zWords := zmem 312 (by decide +kernel) (by decide +kernel)
theorem m_6 : (Jvm.Cond.initialized "ConditionRows$Row") ∈ zWords := zmem 6 (by decide +kernel) (by decide +kernel)
theorem m_309 : (Jvm.Cond.code ({ cls := "ConditionRows$Row", name := "begin", desc := "(III)V" } : Jvm.MethodName) prog_5_method_2_code (4 : Nat) (Option.none : Option Jvm.ClassFile.FieldType)) ∈ zWords := zmem 309 (by decide +kernel) (by decide +kernel)
theorem m_306 : (Jvm.Cond.methodLink "ConditionRows" (123 : Nat) ({ cls := "ConditionRows$Row", name := "begin", desc := "(III)V" } : Jvm.MethodName)) ∈ zWords := zmem 306 (by decide +kernel) (by decide +kernel)
theorem m_307 : (Jvm.Cond.instanceMethod ({ cls := "ConditionRows$Row", name := "begin", desc := "(III)V" } : Jvm.MethodName)) ∈ zWords := zmem 307 (by decide +kernel) (by decide +kernel)
theorem m_308 : (Jvm.Cond.selects "ConditionRows$Row" ({ cls := "ConditionRows$Row", name := "begin", desc := "(III)V" } : Jvm.MethodName) ({ cls := "ConditionRows$Row", name := "begin", desc := "(III)V" } : Jvm.MethodName)) ∈ zWords := zmem 308 (by decide +kernel) (by decide +kernel)
theorem m_318 : (Jvm.Cond.methodLink "ConditionRows" (134 : Nat) ({ cls := "ConditionRows$Row", name := "append", desc := "(IIZI)V" } : Jvm.MethodName)) ∈ zWords := zmem 318 (by decide +kernel) (by decide +kernel)
theorem m_321 : (Jvm.Cond.code ({ cls := "ConditionRows", name := "turned", desc := "(I)I" } : Jvm.MethodName) prog_1_method_21_code (1 : Nat) (Option.some Jvm.ClassFile.FieldType.int)) ∈ zWords := zmem 321 (by decide +kernel) (by decide +kernel)
theorem m_319 : (Jvm.Cond.methodLink "ConditionRows" (138 : Nat) ({ cls := "ConditionRows", name := "turned", desc := "(I)I" } : Jvm.MethodName)) ∈ zWords := zmem 319 (by decide +kernel) (by decide +kernel)
theorem m_320 : (Jvm.Cond.static ({ cls := "ConditionRows", name := "turned", desc := "(I)I" } : Jvm.MethodName)) ∈ zWords := zmem 320 (by decide +kernel) (by decide +kernel)
theorem m_329 : (Jvm.Cond.code ({ cls := "ConditionRows$Row", name := "nodesNeeded", desc := "()I" } : Jvm.MethodName) prog_5_method_4_code (3 : Nat) (Option.some Jvm.ClassFile.FieldType.int)) ∈ zWords := zmem 329 (by decide +kernel) (by decide +kernel)
theorem m_326 : (Jvm.Cond.methodLink "ConditionRows" (141 : Nat) ({ cls := "ConditionRows$Row", name := "nodesNeeded", desc := "()I" } : Jvm.MethodName)) ∈ zWords := zmem 326 (by decide +kernel) (by decide +kernel)
theorem m_327 : (Jvm.Cond.instanceMethod ({ cls := "ConditionRows$Row", name := "nodesNeeded", desc := "()I" } : Jvm.MethodName)) ∈ zWords := zmem 327 (by decide +kernel) (by decide +kernel)
theorem m_328 : (Jvm.Cond.selects "ConditionRows$Row" ({ cls := "ConditionRows$Row", name := "nodesNeeded", desc := "()I" } : Jvm.MethodName) ({ cls := "ConditionRows$Row", name := "nodesNeeded", desc := "()I" } : Jvm.MethodName)) ∈ zWords := zmem 328 (by decide +kernel) (by decide +kernel)
theorem m_337 : (Jvm.Cond.code ({ cls := "ConditionRows", name := "joined", desc := "(III)I" } : Jvm.MethodName) prog_1_method_29_code (4 : Nat) (Option.some Jvm.ClassFile.FieldType.int)) ∈ zWords := zmem 337 (by decide +kernel) (by decide +kernel)
theorem m_334 : (Jvm.Cond.methodLink "ConditionRows" (205 : Nat) ({ cls := "ConditionRows", name := "joined", desc := "(III)I" } : Jvm.MethodName)) ∈ zWords := zmem 334 (by decide +kernel) (by decide +kernel)
theorem m_336 : (Jvm.Cond.instanceMethod ({ cls := "ConditionRows", name := "joined", desc := "(III)I" } : Jvm.MethodName)) ∈ zWords := zmem 336 (by decide +kernel) (by decide +kernel)
theorem mp_3 : (Jvm.Cond.selects "ConditionRows" ({ cls := "ConditionRows", name := "joined", desc := "(III)I" } : Jvm.MethodName) ({ cls := "ConditionRows", name := "joined", desc := "(III)I" } : Jvm.MethodName)) ∈ zWords := zmemP 3 (by decide +kernel) (by decide +kernel)
theorem m_341 : (Jvm.Cond.code ({ cls := "ConditionRows", name := "relationNode", desc := "(I)I" } : Jvm.MethodName) prog_1_method_28_code (3 : Nat) (Option.some Jvm.ClassFile.FieldType.int)) ∈ zWords := zmem 341 (by decide +kernel) (by decide +kernel)
theorem m_338 : (Jvm.Cond.methodLink "ConditionRows" (208 : Nat) ({ cls := "ConditionRows", name := "relationNode", desc := "(I)I" } : Jvm.MethodName)) ∈ zWords := zmem 338 (by decide +kernel) (by decide +kernel)
theorem m_340 : (Jvm.Cond.instanceMethod ({ cls := "ConditionRows", name := "relationNode", desc := "(I)I" } : Jvm.MethodName)) ∈ zWords := zmem 340 (by decide +kernel) (by decide +kernel)
theorem mp_4 : (Jvm.Cond.selects "ConditionRows" ({ cls := "ConditionRows", name := "relationNode", desc := "(I)I" } : Jvm.MethodName) ({ cls := "ConditionRows", name := "relationNode", desc := "(I)I" } : Jvm.MethodName)) ∈ zWords := zmemP 4 (by decide +kernel) (by decide +kernel)
theorem m_333 : (Jvm.Cond.code ({ cls := "ConditionRows", name := "unfoldRow", desc := "()I" } : Jvm.MethodName) prog_1_method_27_code (4 : Nat) (Option.some Jvm.ClassFile.FieldType.int)) ∈ zWords := zmem 333 (by decide +kernel) (by decide +kernel)
theorem m_330 : (Jvm.Cond.methodLink "ConditionRows" (148 : Nat) ({ cls := "ConditionRows", name := "unfoldRow", desc := "()I" } : Jvm.MethodName)) ∈ zWords := zmem 330 (by decide +kernel) (by decide +kernel)
theorem m_332 : (Jvm.Cond.instanceMethod ({ cls := "ConditionRows", name := "unfoldRow", desc := "()I" } : Jvm.MethodName)) ∈ zWords := zmem 332 (by decide +kernel) (by decide +kernel)
theorem mp_2 : (Jvm.Cond.selects "ConditionRows" ({ cls := "ConditionRows", name := "unfoldRow", desc := "()I" } : Jvm.MethodName) ({ cls := "ConditionRows", name := "unfoldRow", desc := "()I" } : Jvm.MethodName)) ∈ zWords := zmemP 2 (by decide +kernel) (by decide +kernel)
theorem m_180 : (Jvm.Cond.fieldLink "ConditionRows" (47 : Nat) "ConditionRows" "testing" "LConditionRows$Testing;") ∈ zWords := zmem 180 (by decide +kernel) (by decide +kernel)
theorem m_159 : (Jvm.Cond.fieldLink "ConditionRows$Testing" (21 : Nat) "ConditionRows$Testing" "noted" "I") ∈ zWords := zmem 159 (by decide +kernel) (by decide +kernel)
theorem m_161 : (Jvm.Cond.fieldLink "ConditionRows$Testing" (25 : Nat) "ConditionRows$Testing" "depth" "I") ∈ zWords := zmem 161 (by decide +kernel) (by decide +kernel)
theorem m_153 : (Jvm.Cond.fieldLink "ConditionRows$Testing" (9 : Nat) "ConditionRows$Testing" "outcome" "[I") ∈ zWords := zmem 153 (by decide +kernel) (by decide +kernel)
theorem m_444 : (Jvm.Cond.code ({ cls := "ConditionRows$Testing", name := "begin", desc := "()V" } : Jvm.MethodName) prog_6_method_2_code (2 : Nat) (Option.none : Option Jvm.ClassFile.FieldType)) ∈ zWords := zmem 444 (by decide +kernel) (by decide +kernel)
theorem m_441 : (Jvm.Cond.methodLink "ConditionRows" (223 : Nat) ({ cls := "ConditionRows$Testing", name := "begin", desc := "()V" } : Jvm.MethodName)) ∈ zWords := zmem 441 (by decide +kernel) (by decide +kernel)
theorem m_442 : (Jvm.Cond.instanceMethod ({ cls := "ConditionRows$Testing", name := "begin", desc := "()V" } : Jvm.MethodName)) ∈ zWords := zmem 442 (by decide +kernel) (by decide +kernel)
theorem m_443 : (Jvm.Cond.selects "ConditionRows$Testing" ({ cls := "ConditionRows$Testing", name := "begin", desc := "()V" } : Jvm.MethodName) ({ cls := "ConditionRows$Testing", name := "begin", desc := "()V" } : Jvm.MethodName)) ∈ zWords := zmem 443 (by decide +kernel) (by decide +kernel)
theorem m_7 : (Jvm.Cond.initialized "ConditionRows$Testing") ∈ zWords := zmem 7 (by decide +kernel) (by decide +kernel)
theorem m_157 : (Jvm.Cond.fieldLink "ConditionRows$Testing" (18 : Nat) "ConditionRows$Testing" "waiting" "[I") ∈ zWords := zmem 157 (by decide +kernel) (by decide +kernel)
theorem m_448 : (Jvm.Cond.code ({ cls := "ConditionRows$Testing", name := "open", desc := "(I)V" } : Jvm.MethodName) prog_6_method_3_code (2 : Nat) (Option.none : Option Jvm.ClassFile.FieldType)) ∈ zWords := zmem 448 (by decide +kernel) (by decide +kernel)
theorem m_445 : (Jvm.Cond.methodLink "ConditionRows" (225 : Nat) ({ cls := "ConditionRows$Testing", name := "open", desc := "(I)V" } : Jvm.MethodName)) ∈ zWords := zmem 445 (by decide +kernel) (by decide +kernel)
theorem m_446 : (Jvm.Cond.instanceMethod ({ cls := "ConditionRows$Testing", name := "open", desc := "(I)V" } : Jvm.MethodName)) ∈ zWords := zmem 446 (by decide +kernel) (by decide +kernel)
theorem m_447 : (Jvm.Cond.selects "ConditionRows$Testing" ({ cls := "ConditionRows$Testing", name := "open", desc := "(I)V" } : Jvm.MethodName) ({ cls := "ConditionRows$Testing", name := "open", desc := "(I)V" } : Jvm.MethodName)) ∈ zWords := zmem 447 (by decide +kernel) (by decide +kernel)
theorem m_174 : (Jvm.Cond.fieldLink "ConditionRows" (62 : Nat) "ConditionRows" "whole" "Z") ∈ zWords := zmem 174 (by decide +kernel) (by decide +kernel)
theorem m_455 : (Jvm.Cond.code ({ cls := "ConditionRows", name := "settledBy", desc := "(I)I" } : Jvm.MethodName) prog_1_method_32_code (1 : Nat) (Option.some Jvm.ClassFile.FieldType.int)) ∈ zWords := zmem 455 (by decide +kernel) (by decide +kernel)
theorem m_453 : (Jvm.Cond.methodLink "ConditionRows" (257 : Nat) ({ cls := "ConditionRows", name := "settledBy", desc := "(I)I" } : Jvm.MethodName)) ∈ zWords := zmem 453 (by decide +kernel) (by decide +kernel)
theorem m_454 : (Jvm.Cond.static ({ cls := "ConditionRows", name := "settledBy", desc := "(I)I" } : Jvm.MethodName)) ∈ zWords := zmem 454 (by decide +kernel) (by decide +kernel)
theorem m_452 : (Jvm.Cond.code ({ cls := "ConditionRows", name := "partToTest", desc := "(I)I" } : Jvm.MethodName) prog_1_method_31_code (4 : Nat) (Option.some Jvm.ClassFile.FieldType.int)) ∈ zWords := zmem 452 (by decide +kernel) (by decide +kernel)
theorem m_449 : (Jvm.Cond.methodLink "ConditionRows" (235 : Nat) ({ cls := "ConditionRows", name := "partToTest", desc := "(I)I" } : Jvm.MethodName)) ∈ zWords := zmem 449 (by decide +kernel) (by decide +kernel)
theorem m_451 : (Jvm.Cond.instanceMethod ({ cls := "ConditionRows", name := "partToTest", desc := "(I)I" } : Jvm.MethodName)) ∈ zWords := zmem 451 (by decide +kernel) (by decide +kernel)
theorem mp_8 : (Jvm.Cond.selects "ConditionRows" ({ cls := "ConditionRows", name := "partToTest", desc := "(I)I" } : Jvm.MethodName) ({ cls := "ConditionRows", name := "partToTest", desc := "(I)I" } : Jvm.MethodName)) ∈ zWords := zmemP 8 (by decide +kernel) (by decide +kernel)
theorem m_480 : (Jvm.Cond.code ({ cls := "ConditionRows", name := "asOutcome", desc := "(Z)I" } : Jvm.MethodName) prog_1_method_35_code (1 : Nat) (Option.some Jvm.ClassFile.FieldType.int)) ∈ zWords := zmem 480 (by decide +kernel) (by decide +kernel)
theorem m_478 : (Jvm.Cond.methodLink "ConditionRows" (260 : Nat) ({ cls := "ConditionRows", name := "asOutcome", desc := "(Z)I" } : Jvm.MethodName)) ∈ zWords := zmem 478 (by decide +kernel) (by decide +kernel)
theorem m_479 : (Jvm.Cond.static ({ cls := "ConditionRows", name := "asOutcome", desc := "(Z)I" } : Jvm.MethodName)) ∈ zWords := zmem 479 (by decide +kernel) (by decide +kernel)
theorem m_561 : (Jvm.Cond.code ({ cls := "ConditionRows", name := "joinedOutcome", desc := "(I)I" } : Jvm.MethodName) prog_1_method_33_code (4 : Nat) (Option.some Jvm.ClassFile.FieldType.int)) ∈ zWords := zmem 561 (by decide +kernel) (by decide +kernel)
theorem m_558 : (Jvm.Cond.methodLink "ConditionRows" (242 : Nat) ({ cls := "ConditionRows", name := "joinedOutcome", desc := "(I)I" } : Jvm.MethodName)) ∈ zWords := zmem 558 (by decide +kernel) (by decide +kernel)
theorem m_560 : (Jvm.Cond.instanceMethod ({ cls := "ConditionRows", name := "joinedOutcome", desc := "(I)I" } : Jvm.MethodName)) ∈ zWords := zmem 560 (by decide +kernel) (by decide +kernel)
theorem mp_16 : (Jvm.Cond.selects "ConditionRows" ({ cls := "ConditionRows", name := "joinedOutcome", desc := "(I)I" } : Jvm.MethodName) ({ cls := "ConditionRows", name := "joinedOutcome", desc := "(I)I" } : Jvm.MethodName)) ∈ zWords := zmemP 16 (by decide +kernel) (by decide +kernel)
theorem m_565 : (Jvm.Cond.code ({ cls := "ConditionRows$Testing", name := "close", desc := "(I)V" } : Jvm.MethodName) prog_6_method_4_code (2 : Nat) (Option.none : Option Jvm.ClassFile.FieldType)) ∈ zWords := zmem 565 (by decide +kernel) (by decide +kernel)
theorem m_562 : (Jvm.Cond.methodLink "ConditionRows" (245 : Nat) ({ cls := "ConditionRows$Testing", name := "close", desc := "(I)V" } : Jvm.MethodName)) ∈ zWords := zmem 562 (by decide +kernel) (by decide +kernel)
theorem m_563 : (Jvm.Cond.instanceMethod ({ cls := "ConditionRows$Testing", name := "close", desc := "(I)V" } : Jvm.MethodName)) ∈ zWords := zmem 563 (by decide +kernel) (by decide +kernel)
theorem m_564 : (Jvm.Cond.selects "ConditionRows$Testing" ({ cls := "ConditionRows$Testing", name := "close", desc := "(I)V" } : Jvm.MethodName) ({ cls := "ConditionRows$Testing", name := "close", desc := "(I)V" } : Jvm.MethodName)) ∈ zWords := zmem 564 (by decide +kernel) (by decide +kernel)
theorem m_155 : (Jvm.Cond.fieldLink "ConditionRows$Testing" (15 : Nat) "ConditionRows$Testing" "leaves" "[I") ∈ zWords := zmem 155 (by decide +kernel) (by decide +kernel)
theorem m_463 : (Jvm.Cond.code ({ cls := "ConditionRows$Testing", name := "note", desc := "(I)V" } : Jvm.MethodName) prog_6_method_5_code (2 : Nat) (Option.none : Option Jvm.ClassFile.FieldType)) ∈ zWords := zmem 463 (by decide +kernel) (by decide +kernel)
theorem m_460 : (Jvm.Cond.methodLink "ConditionRows" (264 : Nat) ({ cls := "ConditionRows$Testing", name := "note", desc := "(I)V" } : Jvm.MethodName)) ∈ zWords := zmem 460 (by decide +kernel) (by decide +kernel)
theorem m_461 : (Jvm.Cond.instanceMethod ({ cls := "ConditionRows$Testing", name := "note", desc := "(I)V" } : Jvm.MethodName)) ∈ zWords := zmem 461 (by decide +kernel) (by decide +kernel)
theorem m_462 : (Jvm.Cond.selects "ConditionRows$Testing" ({ cls := "ConditionRows$Testing", name := "note", desc := "(I)V" } : Jvm.MethodName) ({ cls := "ConditionRows$Testing", name := "note", desc := "(I)V" } : Jvm.MethodName)) ∈ zWords := zmem 462 (by decide +kernel) (by decide +kernel)
theorem m_474 : (Jvm.Cond.code ({ cls := "ConditionRows$Fields", name := "isDigit", desc := "(I)Z" } : Jvm.MethodName) prog_2_method_7_code (1 : Nat) (Option.some Jvm.ClassFile.FieldType.boolean)) ∈ zWords := zmem 474 (by decide +kernel) (by decide +kernel)
theorem m_472 : (Jvm.Cond.methodLink "ConditionRows$Fields" (39 : Nat) ({ cls := "ConditionRows$Fields", name := "isDigit", desc := "(I)Z" } : Jvm.MethodName)) ∈ zWords := zmem 472 (by decide +kernel) (by decide +kernel)
theorem m_473 : (Jvm.Cond.static ({ cls := "ConditionRows$Fields", name := "isDigit", desc := "(I)Z" } : Jvm.MethodName)) ∈ zWords := zmem 473 (by decide +kernel) (by decide +kernel)
theorem m_471 : (Jvm.Cond.code ({ cls := "ConditionRows$Fields", name := "isBad", desc := "(I)Z" } : Jvm.MethodName) prog_2_method_8_code (4 : Nat) (Option.some Jvm.ClassFile.FieldType.boolean)) ∈ zWords := zmem 471 (by decide +kernel) (by decide +kernel)
theorem m_468 : (Jvm.Cond.methodLink "ConditionRows$Fields" (42 : Nat) ({ cls := "ConditionRows$Fields", name := "isBad", desc := "(I)Z" } : Jvm.MethodName)) ∈ zWords := zmem 468 (by decide +kernel) (by decide +kernel)
theorem m_469 : (Jvm.Cond.instanceMethod ({ cls := "ConditionRows$Fields", name := "isBad", desc := "(I)Z" } : Jvm.MethodName)) ∈ zWords := zmem 469 (by decide +kernel) (by decide +kernel)
theorem m_470 : (Jvm.Cond.selects "ConditionRows$Fields" ({ cls := "ConditionRows$Fields", name := "isBad", desc := "(I)Z" } : Jvm.MethodName) ({ cls := "ConditionRows$Fields", name := "isBad", desc := "(I)Z" } : Jvm.MethodName)) ∈ zWords := zmem 470 (by decide +kernel) (by decide +kernel)
theorem m_477 : (Jvm.Cond.code ({ cls := "ConditionRows$Fields", name := "fits", desc := "(II)Z" } : Jvm.MethodName) prog_2_method_10_code (4 : Nat) (Option.some Jvm.ClassFile.FieldType.boolean)) ∈ zWords := zmem 477 (by decide +kernel) (by decide +kernel)
theorem m_475 : (Jvm.Cond.methodLink "ConditionRows$Fields" (45 : Nat) ({ cls := "ConditionRows$Fields", name := "fits", desc := "(II)Z" } : Jvm.MethodName)) ∈ zWords := zmem 475 (by decide +kernel) (by decide +kernel)
theorem m_476 : (Jvm.Cond.static ({ cls := "ConditionRows$Fields", name := "fits", desc := "(II)Z" } : Jvm.MethodName)) ∈ zWords := zmem 476 (by decide +kernel) (by decide +kernel)
theorem m_467 : (Jvm.Cond.code ({ cls := "ConditionRows$Fields", name := "isOfClass", desc := "(II)Z" } : Jvm.MethodName) prog_2_method_9_code (5 : Nat) (Option.some Jvm.ClassFile.FieldType.boolean)) ∈ zWords := zmem 467 (by decide +kernel) (by decide +kernel)
theorem m_464 : (Jvm.Cond.methodLink "ConditionRows" (267 : Nat) ({ cls := "ConditionRows$Fields", name := "isOfClass", desc := "(II)Z" } : Jvm.MethodName)) ∈ zWords := zmem 464 (by decide +kernel) (by decide +kernel)
theorem m_465 : (Jvm.Cond.instanceMethod ({ cls := "ConditionRows$Fields", name := "isOfClass", desc := "(II)Z" } : Jvm.MethodName)) ∈ zWords := zmem 465 (by decide +kernel) (by decide +kernel)
theorem m_466 : (Jvm.Cond.selects "ConditionRows$Fields" ({ cls := "ConditionRows$Fields", name := "isOfClass", desc := "(II)Z" } : Jvm.MethodName) ({ cls := "ConditionRows$Fields", name := "isOfClass", desc := "(II)Z" } : Jvm.MethodName)) ∈ zWords := zmem 466 (by decide +kernel) (by decide +kernel)
theorem m_481 : (Jvm.Cond.methodLink "ConditionRows" (178 : Nat) ({ cls := "ConditionRows$Fields", name := "isBad", desc := "(I)Z" } : Jvm.MethodName)) ∈ zWords := zmem 481 (by decide +kernel) (by decide +kernel)
theorem m_495 : (Jvm.Cond.constantLong "ConditionRows$Fields" (58 : Nat) (-1 : Int64)) ∈ zWords := zmem 495 (by decide +kernel) (by decide +kernel)
theorem m_494 : (Jvm.Cond.code ({ cls := "ConditionRows$Fields", name := "binaryValue", desc := "(I)J" } : Jvm.MethodName) prog_2_method_13_code (6 : Nat) (Option.some Jvm.ClassFile.FieldType.long)) ∈ zWords := zmem 494 (by decide +kernel) (by decide +kernel)
theorem m_491 : (Jvm.Cond.methodLink "ConditionRows$Fields" (53 : Nat) ({ cls := "ConditionRows$Fields", name := "binaryValue", desc := "(I)J" } : Jvm.MethodName)) ∈ zWords := zmem 491 (by decide +kernel) (by decide +kernel)
theorem m_493 : (Jvm.Cond.instanceMethod ({ cls := "ConditionRows$Fields", name := "binaryValue", desc := "(I)J" } : Jvm.MethodName)) ∈ zWords := zmem 493 (by decide +kernel) (by decide +kernel)
theorem mp_11 : (Jvm.Cond.selects "ConditionRows$Fields" ({ cls := "ConditionRows$Fields", name := "binaryValue", desc := "(I)J" } : Jvm.MethodName) ({ cls := "ConditionRows$Fields", name := "binaryValue", desc := "(I)J" } : Jvm.MethodName)) ∈ zWords := zmemP 11 (by decide +kernel) (by decide +kernel)
theorem m_490 : (Jvm.Cond.constantLong "ConditionRows$Fields" (56 : Nat) (10 : Int64)) ∈ zWords := zmem 490 (by decide +kernel) (by decide +kernel)
theorem m_489 : (Jvm.Cond.code ({ cls := "ConditionRows$Fields", name := "digitsValue", desc := "(I)J" } : Jvm.MethodName) prog_2_method_12_code (6 : Nat) (Option.some Jvm.ClassFile.FieldType.long)) ∈ zWords := zmem 489 (by decide +kernel) (by decide +kernel)
theorem m_486 : (Jvm.Cond.methodLink "ConditionRows$Fields" (49 : Nat) ({ cls := "ConditionRows$Fields", name := "digitsValue", desc := "(I)J" } : Jvm.MethodName)) ∈ zWords := zmem 486 (by decide +kernel) (by decide +kernel)
theorem m_488 : (Jvm.Cond.instanceMethod ({ cls := "ConditionRows$Fields", name := "digitsValue", desc := "(I)J" } : Jvm.MethodName)) ∈ zWords := zmem 488 (by decide +kernel) (by decide +kernel)
theorem mp_10 : (Jvm.Cond.selects "ConditionRows$Fields" ({ cls := "ConditionRows$Fields", name := "digitsValue", desc := "(I)J" } : Jvm.MethodName) ({ cls := "ConditionRows$Fields", name := "digitsValue", desc := "(I)J" } : Jvm.MethodName)) ∈ zWords := zmemP 10 (by decide +kernel) (by decide +kernel)
theorem m_485 : (Jvm.Cond.code ({ cls := "ConditionRows$Fields", name := "value", desc := "(I)J" } : Jvm.MethodName) prog_2_method_11_code (2 : Nat) (Option.some Jvm.ClassFile.FieldType.long)) ∈ zWords := zmem 485 (by decide +kernel) (by decide +kernel)
theorem m_482 : (Jvm.Cond.methodLink "ConditionRows" (271 : Nat) ({ cls := "ConditionRows$Fields", name := "value", desc := "(I)J" } : Jvm.MethodName)) ∈ zWords := zmem 482 (by decide +kernel) (by decide +kernel)
theorem m_483 : (Jvm.Cond.instanceMethod ({ cls := "ConditionRows$Fields", name := "value", desc := "(I)J" } : Jvm.MethodName)) ∈ zWords := zmem 483 (by decide +kernel) (by decide +kernel)
theorem m_484 : (Jvm.Cond.selects "ConditionRows$Fields" ({ cls := "ConditionRows$Fields", name := "value", desc := "(I)J" } : Jvm.MethodName) ({ cls := "ConditionRows$Fields", name := "value", desc := "(I)J" } : Jvm.MethodName)) ∈ zWords := zmem 484 (by decide +kernel) (by decide +kernel)
theorem m_498 : (Jvm.Cond.code ({ cls := "java/lang/Long", name := "compare", desc := "(JJ)I" } : Jvm.MethodName) prog_14_method_42_code (4 : Nat) (Option.some Jvm.ClassFile.FieldType.int)) ∈ zWords := zmem 498 (by decide +kernel) (by decide +kernel)
theorem m_496 : (Jvm.Cond.methodLink "ConditionRows" (275 : Nat) ({ cls := "java/lang/Long", name := "compare", desc := "(JJ)I" } : Jvm.MethodName)) ∈ zWords := zmem 496 (by decide +kernel) (by decide +kernel)
theorem m_497 : (Jvm.Cond.static ({ cls := "java/lang/Long", name := "compare", desc := "(JJ)I" } : Jvm.MethodName)) ∈ zWords := zmem 497 (by decide +kernel) (by decide +kernel)
theorem m_13 : (Jvm.Cond.initialized "java/lang/Long") ∈ zWords := zmem 13 (by decide +kernel) (by decide +kernel)
theorem m_515 : (Jvm.Cond.code ({ cls := "ConditionRows$Names", name := "hasSigned", desc := "(IJ)Z" } : Jvm.MethodName) prog_3_method_5_code (6 : Nat) (Option.some Jvm.ClassFile.FieldType.boolean)) ∈ zWords := zmem 515 (by decide +kernel) (by decide +kernel)
theorem m_512 : (Jvm.Cond.methodLink "ConditionRows" (292 : Nat) ({ cls := "ConditionRows$Names", name := "hasSigned", desc := "(IJ)Z" } : Jvm.MethodName)) ∈ zWords := zmem 512 (by decide +kernel) (by decide +kernel)
theorem m_513 : (Jvm.Cond.instanceMethod ({ cls := "ConditionRows$Names", name := "hasSigned", desc := "(IJ)Z" } : Jvm.MethodName)) ∈ zWords := zmem 513 (by decide +kernel) (by decide +kernel)
theorem m_514 : (Jvm.Cond.selects "ConditionRows$Names" ({ cls := "ConditionRows$Names", name := "hasSigned", desc := "(IJ)Z" } : Jvm.MethodName) ({ cls := "ConditionRows$Names", name := "hasSigned", desc := "(IJ)Z" } : Jvm.MethodName)) ∈ zWords := zmem 514 (by decide +kernel) (by decide +kernel)
theorem m_506 : (Jvm.Cond.code ({ cls := "ConditionRows$Fields", name := "firstBytes", desc := "(I)J" } : Jvm.MethodName) prog_2_method_14_code (6 : Nat) (Option.some Jvm.ClassFile.FieldType.long)) ∈ zWords := zmem 506 (by decide +kernel) (by decide +kernel)
theorem m_503 : (Jvm.Cond.methodLink "ConditionRows" (285 : Nat) ({ cls := "ConditionRows$Fields", name := "firstBytes", desc := "(I)J" } : Jvm.MethodName)) ∈ zWords := zmem 503 (by decide +kernel) (by decide +kernel)
theorem m_504 : (Jvm.Cond.instanceMethod ({ cls := "ConditionRows$Fields", name := "firstBytes", desc := "(I)J" } : Jvm.MethodName)) ∈ zWords := zmem 504 (by decide +kernel) (by decide +kernel)
theorem m_505 : (Jvm.Cond.selects "ConditionRows$Fields" ({ cls := "ConditionRows$Fields", name := "firstBytes", desc := "(I)J" } : Jvm.MethodName) ({ cls := "ConditionRows$Fields", name := "firstBytes", desc := "(I)J" } : Jvm.MethodName)) ∈ zWords := zmem 505 (by decide +kernel) (by decide +kernel)
theorem m_510 : (Jvm.Cond.code ({ cls := "ConditionRows$Names", name := "hasUnsigned", desc := "(IJ)Z" } : Jvm.MethodName) prog_3_method_6_code (6 : Nat) (Option.some Jvm.ClassFile.FieldType.boolean)) ∈ zWords := zmem 510 (by decide +kernel) (by decide +kernel)
theorem m_507 : (Jvm.Cond.methodLink "ConditionRows" (288 : Nat) ({ cls := "ConditionRows$Names", name := "hasUnsigned", desc := "(IJ)Z" } : Jvm.MethodName)) ∈ zWords := zmem 507 (by decide +kernel) (by decide +kernel)
theorem m_508 : (Jvm.Cond.instanceMethod ({ cls := "ConditionRows$Names", name := "hasUnsigned", desc := "(IJ)Z" } : Jvm.MethodName)) ∈ zWords := zmem 508 (by decide +kernel) (by decide +kernel)
theorem m_509 : (Jvm.Cond.selects "ConditionRows$Names" ({ cls := "ConditionRows$Names", name := "hasUnsigned", desc := "(IJ)Z" } : Jvm.MethodName) ({ cls := "ConditionRows$Names", name := "hasUnsigned", desc := "(IJ)Z" } : Jvm.MethodName)) ∈ zWords := zmem 509 (by decide +kernel) (by decide +kernel)
theorem m_502 : (Jvm.Cond.code ({ cls := "ConditionRows", name := "holds", desc := "(I)Z" } : Jvm.MethodName) prog_1_method_37_code (3 : Nat) (Option.some Jvm.ClassFile.FieldType.boolean)) ∈ zWords := zmem 502 (by decide +kernel) (by decide +kernel)
theorem m_499 : (Jvm.Cond.methodLink "ConditionRows" (279 : Nat) ({ cls := "ConditionRows", name := "holds", desc := "(I)Z" } : Jvm.MethodName)) ∈ zWords := zmem 499 (by decide +kernel) (by decide +kernel)
theorem m_501 : (Jvm.Cond.instanceMethod ({ cls := "ConditionRows", name := "holds", desc := "(I)Z" } : Jvm.MethodName)) ∈ zWords := zmem 501 (by decide +kernel) (by decide +kernel)
theorem mp_12 : (Jvm.Cond.selects "ConditionRows" ({ cls := "ConditionRows", name := "holds", desc := "(I)Z" } : Jvm.MethodName) ({ cls := "ConditionRows", name := "holds", desc := "(I)Z" } : Jvm.MethodName)) ∈ zWords := zmemP 12 (by decide +kernel) (by decide +kernel)
theorem m_181 : (Jvm.Cond.fieldLink "ConditionRows" (51 : Nat) "ConditionRows" "switches" "[Z") ∈ zWords := zmem 181 (by decide +kernel) (by decide +kernel)
theorem m_34 : (Jvm.Cond.fieldLink "ConditionRows$Fields" (18 : Nat) "ConditionRows$Fields" "scale" "[I") ∈ zWords := zmem 34 (by decide +kernel) (by decide +kernel)
theorem m_528 : (Jvm.Cond.methodLink "ConditionRows$Fields" (60 : Nat) ({ cls := "ConditionRows$Fields", name := "value", desc := "(I)J" } : Jvm.MethodName)) ∈ zWords := zmem 528 (by decide +kernel) (by decide +kernel)
theorem m_536 : (Jvm.Cond.code ({ cls := "java/lang/Math", name := "floorDiv", desc := "(JJ)J" } : Jvm.MethodName) prog_15_method_49_code (6 : Nat) (Option.some Jvm.ClassFile.FieldType.long)) ∈ zWords := zmem 536 (by decide +kernel) (by decide +kernel)
theorem m_534 : (Jvm.Cond.methodLink "ConditionRows$Fields" (71 : Nat) ({ cls := "java/lang/Math", name := "floorDiv", desc := "(JJ)J" } : Jvm.MethodName)) ∈ zWords := zmem 534 (by decide +kernel) (by decide +kernel)
theorem m_535 : (Jvm.Cond.static ({ cls := "java/lang/Math", name := "floorDiv", desc := "(JJ)J" } : Jvm.MethodName)) ∈ zWords := zmem 535 (by decide +kernel) (by decide +kernel)
theorem m_14 : (Jvm.Cond.initialized "java/lang/Math") ∈ zWords := zmem 14 (by decide +kernel) (by decide +kernel)
theorem m_539 : (Jvm.Cond.code ({ cls := "java/lang/Math", name := "floorMod", desc := "(JJ)J" } : Jvm.MethodName) prog_15_method_52_code (6 : Nat) (Option.some Jvm.ClassFile.FieldType.long)) ∈ zWords := zmem 539 (by decide +kernel) (by decide +kernel)
theorem m_537 : (Jvm.Cond.methodLink "ConditionRows$Fields" (77 : Nat) ({ cls := "java/lang/Math", name := "floorMod", desc := "(JJ)J" } : Jvm.MethodName)) ∈ zWords := zmem 537 (by decide +kernel) (by decide +kernel)
theorem m_538 : (Jvm.Cond.static ({ cls := "java/lang/Math", name := "floorMod", desc := "(JJ)J" } : Jvm.MethodName)) ∈ zWords := zmem 538 (by decide +kernel) (by decide +kernel)
theorem m_531 : (Jvm.Cond.code ({ cls := "ConditionRows$Fields", name := "compareScaled", desc := "(JJI)I" } : Jvm.MethodName) prog_2_method_16_code (9 : Nat) (Option.some Jvm.ClassFile.FieldType.int)) ∈ zWords := zmem 531 (by decide +kernel) (by decide +kernel)
theorem m_529 : (Jvm.Cond.methodLink "ConditionRows$Fields" (63 : Nat) ({ cls := "ConditionRows$Fields", name := "compareScaled", desc := "(JJI)I" } : Jvm.MethodName)) ∈ zWords := zmem 529 (by decide +kernel) (by decide +kernel)
theorem m_530 : (Jvm.Cond.static ({ cls := "ConditionRows$Fields", name := "compareScaled", desc := "(JJI)I" } : Jvm.MethodName)) ∈ zWords := zmem 530 (by decide +kernel) (by decide +kernel)
theorem m_527 : (Jvm.Cond.code ({ cls := "ConditionRows$Fields", name := "compareNumbers", desc := "(II)I" } : Jvm.MethodName) prog_2_method_15_code (4 : Nat) (Option.some Jvm.ClassFile.FieldType.int)) ∈ zWords := zmem 527 (by decide +kernel) (by decide +kernel)
theorem m_524 : (Jvm.Cond.methodLink "ConditionRows" (295 : Nat) ({ cls := "ConditionRows$Fields", name := "compareNumbers", desc := "(II)I" } : Jvm.MethodName)) ∈ zWords := zmem 524 (by decide +kernel) (by decide +kernel)
theorem m_525 : (Jvm.Cond.instanceMethod ({ cls := "ConditionRows$Fields", name := "compareNumbers", desc := "(II)I" } : Jvm.MethodName)) ∈ zWords := zmem 525 (by decide +kernel) (by decide +kernel)
theorem m_526 : (Jvm.Cond.selects "ConditionRows$Fields" ({ cls := "ConditionRows$Fields", name := "compareNumbers", desc := "(II)I" } : Jvm.MethodName) ({ cls := "ConditionRows$Fields", name := "compareNumbers", desc := "(II)I" } : Jvm.MethodName)) ∈ zWords := zmem 526 (by decide +kernel) (by decide +kernel)
theorem m_182 : (Jvm.Cond.fieldLink "ConditionRows" (55 : Nat) "ConditionRows" "leftText" "[I") ∈ zWords := zmem 182 (by decide +kernel) (by decide +kernel)
theorem m_550 : (Jvm.Cond.code ({ cls := "ConditionRows$Fields", name := "spellBytes", desc := "(I[I)I" } : Jvm.MethodName) prog_2_method_18_code (5 : Nat) (Option.some Jvm.ClassFile.FieldType.int)) ∈ zWords := zmem 550 (by decide +kernel) (by decide +kernel)
theorem m_547 : (Jvm.Cond.methodLink "ConditionRows$Fields" (84 : Nat) ({ cls := "ConditionRows$Fields", name := "spellBytes", desc := "(I[I)I" } : Jvm.MethodName)) ∈ zWords := zmem 547 (by decide +kernel) (by decide +kernel)
theorem m_549 : (Jvm.Cond.instanceMethod ({ cls := "ConditionRows$Fields", name := "spellBytes", desc := "(I[I)I" } : Jvm.MethodName)) ∈ zWords := zmem 549 (by decide +kernel) (by decide +kernel)
theorem mp_15 : (Jvm.Cond.selects "ConditionRows$Fields" ({ cls := "ConditionRows$Fields", name := "spellBytes", desc := "(I[I)I" } : Jvm.MethodName) ({ cls := "ConditionRows$Fields", name := "spellBytes", desc := "(I[I)I" } : Jvm.MethodName)) ∈ zWords := zmemP 15 (by decide +kernel) (by decide +kernel)
theorem m_546 : (Jvm.Cond.code ({ cls := "ConditionRows$Fields", name := "spellDecimals", desc := "(J[I)I" } : Jvm.MethodName) prog_2_method_19_code (8 : Nat) (Option.some Jvm.ClassFile.FieldType.int)) ∈ zWords := zmem 546 (by decide +kernel) (by decide +kernel)
theorem m_544 : (Jvm.Cond.methodLink "ConditionRows$Fields" (80 : Nat) ({ cls := "ConditionRows$Fields", name := "spellDecimals", desc := "(J[I)I" } : Jvm.MethodName)) ∈ zWords := zmem 544 (by decide +kernel) (by decide +kernel)
theorem m_545 : (Jvm.Cond.static ({ cls := "ConditionRows$Fields", name := "spellDecimals", desc := "(J[I)I" } : Jvm.MethodName)) ∈ zWords := zmem 545 (by decide +kernel) (by decide +kernel)
theorem m_543 : (Jvm.Cond.code ({ cls := "ConditionRows$Fields", name := "spell", desc := "(I[I)V" } : Jvm.MethodName) prog_2_method_17_code (5 : Nat) (Option.none : Option Jvm.ClassFile.FieldType)) ∈ zWords := zmem 543 (by decide +kernel) (by decide +kernel)
theorem m_540 : (Jvm.Cond.methodLink "ConditionRows" (298 : Nat) ({ cls := "ConditionRows$Fields", name := "spell", desc := "(I[I)V" } : Jvm.MethodName)) ∈ zWords := zmem 540 (by decide +kernel) (by decide +kernel)
theorem m_541 : (Jvm.Cond.instanceMethod ({ cls := "ConditionRows$Fields", name := "spell", desc := "(I[I)V" } : Jvm.MethodName)) ∈ zWords := zmem 541 (by decide +kernel) (by decide +kernel)
theorem m_542 : (Jvm.Cond.selects "ConditionRows$Fields" ({ cls := "ConditionRows$Fields", name := "spell", desc := "(I[I)V" } : Jvm.MethodName) ({ cls := "ConditionRows$Fields", name := "spell", desc := "(I[I)V" } : Jvm.MethodName)) ∈ zWords := zmem 542 (by decide +kernel) (by decide +kernel)
theorem m_183 : (Jvm.Cond.fieldLink "ConditionRows" (59 : Nat) "ConditionRows" "rightText" "[I") ∈ zWords := zmem 183 (by decide +kernel) (by decide +kernel)
theorem m_58 : (Jvm.Cond.fieldLink "ConditionRows$Weights" (9 : Nat) "ConditionRows$Weights" "of" "[I") ∈ zWords := zmem 58 (by decide +kernel) (by decide +kernel)
theorem m_557 : (Jvm.Cond.code ({ cls := "java/lang/Integer", name := "compare", desc := "(II)I" } : Jvm.MethodName) prog_13_method_40_code (2 : Nat) (Option.some Jvm.ClassFile.FieldType.int)) ∈ zWords := zmem 557 (by decide +kernel) (by decide +kernel)
theorem m_555 : (Jvm.Cond.methodLink "ConditionRows$Weights" (15 : Nat) ({ cls := "java/lang/Integer", name := "compare", desc := "(II)I" } : Jvm.MethodName)) ∈ zWords := zmem 555 (by decide +kernel) (by decide +kernel)
theorem m_556 : (Jvm.Cond.static ({ cls := "java/lang/Integer", name := "compare", desc := "(II)I" } : Jvm.MethodName)) ∈ zWords := zmem 556 (by decide +kernel) (by decide +kernel)
theorem m_15 : (Jvm.Cond.initialized "java/lang/Integer") ∈ zWords := zmem 15 (by decide +kernel) (by decide +kernel)
theorem m_554 : (Jvm.Cond.code ({ cls := "ConditionRows$Weights", name := "compareTexts", desc := "([I[I)I" } : Jvm.MethodName) prog_7_method_2_code (5 : Nat) (Option.some Jvm.ClassFile.FieldType.int)) ∈ zWords := zmem 554 (by decide +kernel) (by decide +kernel)
theorem m_551 : (Jvm.Cond.methodLink "ConditionRows" (302 : Nat) ({ cls := "ConditionRows$Weights", name := "compareTexts", desc := "([I[I)I" } : Jvm.MethodName)) ∈ zWords := zmem 551 (by decide +kernel) (by decide +kernel)
theorem m_552 : (Jvm.Cond.instanceMethod ({ cls := "ConditionRows$Weights", name := "compareTexts", desc := "([I[I)I" } : Jvm.MethodName)) ∈ zWords := zmem 552 (by decide +kernel) (by decide +kernel)
theorem m_553 : (Jvm.Cond.selects "ConditionRows$Weights" ({ cls := "ConditionRows$Weights", name := "compareTexts", desc := "([I[I)I" } : Jvm.MethodName) ({ cls := "ConditionRows$Weights", name := "compareTexts", desc := "([I[I)I" } : Jvm.MethodName)) ∈ zWords := zmem 553 (by decide +kernel) (by decide +kernel)
theorem m_3 : (Jvm.Cond.initialized "ConditionRows$Weights") ∈ zWords := zmem 3 (by decide +kernel) (by decide +kernel)
theorem m_523 : (Jvm.Cond.code ({ cls := "ConditionRows", name := "compareFields", desc := "(II)I" } : Jvm.MethodName) prog_1_method_38_code (3 : Nat) (Option.some Jvm.ClassFile.FieldType.int)) ∈ zWords := zmem 523 (by decide +kernel) (by decide +kernel)
theorem m_520 : (Jvm.Cond.methodLink "ConditionRows" (183 : Nat) ({ cls := "ConditionRows", name := "compareFields", desc := "(II)I" } : Jvm.MethodName)) ∈ zWords := zmem 520 (by decide +kernel) (by decide +kernel)
theorem m_522 : (Jvm.Cond.instanceMethod ({ cls := "ConditionRows", name := "compareFields", desc := "(II)I" } : Jvm.MethodName)) ∈ zWords := zmem 522 (by decide +kernel) (by decide +kernel)
theorem mp_14 : (Jvm.Cond.selects "ConditionRows" ({ cls := "ConditionRows", name := "compareFields", desc := "(II)I" } : Jvm.MethodName) ({ cls := "ConditionRows", name := "compareFields", desc := "(II)I" } : Jvm.MethodName)) ∈ zWords := zmemP 14 (by decide +kernel) (by decide +kernel)
theorem m_519 : (Jvm.Cond.code ({ cls := "ConditionRows", name := "relationOutcome", desc := "(III)I" } : Jvm.MethodName) prog_1_method_36_code (5 : Nat) (Option.some Jvm.ClassFile.FieldType.int)) ∈ zWords := zmem 519 (by decide +kernel) (by decide +kernel)
theorem m_516 : (Jvm.Cond.methodLink "ConditionRows" (282 : Nat) ({ cls := "ConditionRows", name := "relationOutcome", desc := "(III)I" } : Jvm.MethodName)) ∈ zWords := zmem 516 (by decide +kernel) (by decide +kernel)
theorem m_518 : (Jvm.Cond.instanceMethod ({ cls := "ConditionRows", name := "relationOutcome", desc := "(III)I" } : Jvm.MethodName)) ∈ zWords := zmem 518 (by decide +kernel) (by decide +kernel)
theorem mp_13 : (Jvm.Cond.selects "ConditionRows" ({ cls := "ConditionRows", name := "relationOutcome", desc := "(III)I" } : Jvm.MethodName) ({ cls := "ConditionRows", name := "relationOutcome", desc := "(III)I" } : Jvm.MethodName)) ∈ zWords := zmemP 13 (by decide +kernel) (by decide +kernel)
theorem m_459 : (Jvm.Cond.code ({ cls := "ConditionRows", name := "leafOutcome", desc := "(I)I" } : Jvm.MethodName) prog_1_method_34_code (4 : Nat) (Option.some Jvm.ClassFile.FieldType.int)) ∈ zWords := zmem 459 (by decide +kernel) (by decide +kernel)
theorem m_456 : (Jvm.Cond.methodLink "ConditionRows" (239 : Nat) ({ cls := "ConditionRows", name := "leafOutcome", desc := "(I)I" } : Jvm.MethodName)) ∈ zWords := zmem 456 (by decide +kernel) (by decide +kernel)
theorem m_458 : (Jvm.Cond.instanceMethod ({ cls := "ConditionRows", name := "leafOutcome", desc := "(I)I" } : Jvm.MethodName)) ∈ zWords := zmem 458 (by decide +kernel) (by decide +kernel)
theorem mp_9 : (Jvm.Cond.selects "ConditionRows" ({ cls := "ConditionRows", name := "leafOutcome", desc := "(I)I" } : Jvm.MethodName) ({ cls := "ConditionRows", name := "leafOutcome", desc := "(I)I" } : Jvm.MethodName)) ∈ zWords := zmemP 9 (by decide +kernel) (by decide +kernel)
theorem m_440 : (Jvm.Cond.code ({ cls := "ConditionRows", name := "outcomeOf", desc := "(I)I" } : Jvm.MethodName) prog_1_method_30_code (6 : Nat) (Option.some Jvm.ClassFile.FieldType.int)) ∈ zWords := zmem 440 (by decide +kernel) (by decide +kernel)
theorem m_437 : (Jvm.Cond.methodLink "ConditionRows" (159 : Nat) ({ cls := "ConditionRows", name := "outcomeOf", desc := "(I)I" } : Jvm.MethodName)) ∈ zWords := zmem 437 (by decide +kernel) (by decide +kernel)
theorem m_439 : (Jvm.Cond.instanceMethod ({ cls := "ConditionRows", name := "outcomeOf", desc := "(I)I" } : Jvm.MethodName)) ∈ zWords := zmem 439 (by decide +kernel) (by decide +kernel)
theorem mp_7 : (Jvm.Cond.selects "ConditionRows" ({ cls := "ConditionRows", name := "outcomeOf", desc := "(I)I" } : Jvm.MethodName) ({ cls := "ConditionRows", name := "outcomeOf", desc := "(I)I" } : Jvm.MethodName)) ∈ zWords := zmemP 7 (by decide +kernel) (by decide +kernel)
theorem m_357 : (Jvm.Cond.code ({ cls := "ConditionRows", name := "switchesOn", desc := "()I" } : Jvm.MethodName) prog_1_method_26_code (3 : Nat) (Option.some Jvm.ClassFile.FieldType.int)) ∈ zWords := zmem 357 (by decide +kernel) (by decide +kernel)
theorem m_354 : (Jvm.Cond.methodLink "ConditionRows" (188 : Nat) ({ cls := "ConditionRows", name := "switchesOn", desc := "()I" } : Jvm.MethodName)) ∈ zWords := zmem 354 (by decide +kernel) (by decide +kernel)
theorem m_356 : (Jvm.Cond.instanceMethod ({ cls := "ConditionRows", name := "switchesOn", desc := "()I" } : Jvm.MethodName)) ∈ zWords := zmem 356 (by decide +kernel) (by decide +kernel)
theorem mp_5 : (Jvm.Cond.selects "ConditionRows" ({ cls := "ConditionRows", name := "switchesOn", desc := "()I" } : Jvm.MethodName) ({ cls := "ConditionRows", name := "switchesOn", desc := "()I" } : Jvm.MethodName)) ∈ zWords := zmemP 5 (by decide +kernel) (by decide +kernel)
theorem m_604 : (Jvm.Cond.fieldLink "ConditionRowsModel" (83 : Nat) "ConditionRowsModel" "fields" "I") ∈ zWords := zmem 604 (by decide +kernel) (by decide +kernel)
theorem m_608 : (Jvm.Cond.fieldLink "ConditionRowsModel" (86 : Nat) "ConditionRowsModel" "nodes" "I") ∈ zWords := zmem 608 (by decide +kernel) (by decide +kernel)
theorem m_613 : (Jvm.Cond.fieldLink "ConditionRowsModel" (89 : Nat) "ConditionRowsModel" "names" "I") ∈ zWords := zmem 613 (by decide +kernel) (by decide +kernel)
theorem m_598 : (Jvm.Cond.fieldLink "ConditionRowsModel" (79 : Nat) "ConditionRowsModel" "thrown" "I") ∈ zWords := zmem 598 (by decide +kernel) (by decide +kernel)
theorem m_600 : (Jvm.Cond.fieldLink "ConditionRowsModel" (13 : Nat) "ConditionRowsModel" "categories" "[I") ∈ zWords := zmem 600 (by decide +kernel) (by decide +kernel)
theorem m_601 : (Jvm.Cond.fieldLink "ConditionRowsModel" (16 : Nat) "ConditionRowsModel" "sizes" "[I") ∈ zWords := zmem 601 (by decide +kernel) (by decide +kernel)
theorem m_599 : (Jvm.Cond.fieldLink "ConditionRowsModel" (7 : Nat) "ConditionRowsModel" "bytes" "[I") ∈ zWords := zmem 599 (by decide +kernel) (by decide +kernel)
theorem m_699 : (Jvm.Cond.code ({ cls := "ConditionRowsModel", name := "isField", desc := "(I)Z" } : Jvm.MethodName) prog_9_method_3_code (2 : Nat) (Option.some Jvm.ClassFile.FieldType.boolean)) ∈ zWords := zmem 699 (by decide +kernel) (by decide +kernel)
theorem m_696 : (Jvm.Cond.methodLink "ConditionRowsModel" (92 : Nat) ({ cls := "ConditionRowsModel", name := "isField", desc := "(I)Z" } : Jvm.MethodName)) ∈ zWords := zmem 696 (by decide +kernel) (by decide +kernel)
theorem m_698 : (Jvm.Cond.instanceMethod ({ cls := "ConditionRowsModel", name := "isField", desc := "(I)Z" } : Jvm.MethodName)) ∈ zWords := zmem 698 (by decide +kernel) (by decide +kernel)
theorem mp_17 : (Jvm.Cond.selects "ConditionRowsModel" ({ cls := "ConditionRowsModel", name := "isField", desc := "(I)Z" } : Jvm.MethodName) ({ cls := "ConditionRowsModel", name := "isField", desc := "(I)Z" } : Jvm.MethodName)) ∈ zWords := zmemP 17 (by decide +kernel) (by decide +kernel)
theorem m_8 : (Jvm.Cond.initialized "ConditionRowsModel") ∈ zWords := zmem 8 (by decide +kernel) (by decide +kernel)
theorem m_602 : (Jvm.Cond.fieldLink "ConditionRowsModel" (19 : Nat) "ConditionRowsModel" "scales" "[I") ∈ zWords := zmem 602 (by decide +kernel) (by decide +kernel)
theorem m_710 : (Jvm.Cond.code ({ cls := "ConditionRowsModel", name := "isByte", desc := "(I)Z" } : Jvm.MethodName) prog_9_method_9_code (1 : Nat) (Option.some Jvm.ClassFile.FieldType.boolean)) ∈ zWords := zmem 710 (by decide +kernel) (by decide +kernel)
theorem m_708 : (Jvm.Cond.methodLink "ConditionRowsModel" (96 : Nat) ({ cls := "ConditionRowsModel", name := "isByte", desc := "(I)Z" } : Jvm.MethodName)) ∈ zWords := zmem 708 (by decide +kernel) (by decide +kernel)
theorem m_709 : (Jvm.Cond.static ({ cls := "ConditionRowsModel", name := "isByte", desc := "(I)Z" } : Jvm.MethodName)) ∈ zWords := zmem 709 (by decide +kernel) (by decide +kernel)
theorem m_603 : (Jvm.Cond.fieldLink "ConditionRowsModel" (22 : Nat) "ConditionRowsModel" "weights" "[I") ∈ zWords := zmem 603 (by decide +kernel) (by decide +kernel)
theorem m_781 : (Jvm.Cond.code ({ cls := "ConditionRowsModel", name := "read", desc := "(II)I" } : Jvm.MethodName) prog_9_method_11_code (3 : Nat) (Option.some Jvm.ClassFile.FieldType.int)) ∈ zWords := zmem 781 (by decide +kernel) (by decide +kernel)
theorem m_778 : (Jvm.Cond.methodLink "ConditionRowsModel" (99 : Nat) ({ cls := "ConditionRowsModel", name := "read", desc := "(II)I" } : Jvm.MethodName)) ∈ zWords := zmem 778 (by decide +kernel) (by decide +kernel)
theorem m_780 : (Jvm.Cond.instanceMethod ({ cls := "ConditionRowsModel", name := "read", desc := "(II)I" } : Jvm.MethodName)) ∈ zWords := zmem 780 (by decide +kernel) (by decide +kernel)
theorem mp_26 : (Jvm.Cond.selects "ConditionRowsModel" ({ cls := "ConditionRowsModel", name := "read", desc := "(II)I" } : Jvm.MethodName) ({ cls := "ConditionRowsModel", name := "read", desc := "(II)I" } : Jvm.MethodName)) ∈ zWords := zmemP 26 (by decide +kernel) (by decide +kernel)
theorem m_798 : (Jvm.Cond.constantLong "ConditionRowsModel" (103 : Nat) (-1 : Int64)) ∈ zWords := zmem 798 (by decide +kernel) (by decide +kernel)
theorem m_799 : (Jvm.Cond.constantLong "ConditionRowsModel" (105 : Nat) (10 : Int64)) ∈ zWords := zmem 799 (by decide +kernel) (by decide +kernel)
theorem m_797 : (Jvm.Cond.code ({ cls := "ConditionRowsModel", name := "whole", desc := "(I)J" } : Jvm.MethodName) prog_9_method_13_code (5 : Nat) (Option.some Jvm.ClassFile.FieldType.long)) ∈ zWords := zmem 797 (by decide +kernel) (by decide +kernel)
theorem m_794 : (Jvm.Cond.methodLink "ConditionRowsModel" (107 : Nat) ({ cls := "ConditionRowsModel", name := "whole", desc := "(I)J" } : Jvm.MethodName)) ∈ zWords := zmem 794 (by decide +kernel) (by decide +kernel)
theorem m_796 : (Jvm.Cond.instanceMethod ({ cls := "ConditionRowsModel", name := "whole", desc := "(I)J" } : Jvm.MethodName)) ∈ zWords := zmem 796 (by decide +kernel) (by decide +kernel)
theorem mp_30 : (Jvm.Cond.selects "ConditionRowsModel" ({ cls := "ConditionRowsModel", name := "whole", desc := "(I)J" } : Jvm.MethodName) ({ cls := "ConditionRowsModel", name := "whole", desc := "(I)J" } : Jvm.MethodName)) ∈ zWords := zmemP 30 (by decide +kernel) (by decide +kernel)
theorem m_802 : (Jvm.Cond.code ({ cls := "ConditionRowsModel", name := "ten", desc := "(I)J" } : Jvm.MethodName) prog_9_method_14_code (4 : Nat) (Option.some Jvm.ClassFile.FieldType.long)) ∈ zWords := zmem 802 (by decide +kernel) (by decide +kernel)
theorem m_800 : (Jvm.Cond.methodLink "ConditionRowsModel" (110 : Nat) ({ cls := "ConditionRowsModel", name := "ten", desc := "(I)J" } : Jvm.MethodName)) ∈ zWords := zmem 800 (by decide +kernel) (by decide +kernel)
theorem m_801 : (Jvm.Cond.static ({ cls := "ConditionRowsModel", name := "ten", desc := "(I)J" } : Jvm.MethodName)) ∈ zWords := zmem 801 (by decide +kernel) (by decide +kernel)
theorem m_626 : (Jvm.Cond.fieldLink "ConditionRowsModel" (72 : Nat) "ConditionRowsModel" "digits" "[I") ∈ zWords := zmem 626 (by decide +kernel) (by decide +kernel)
theorem m_814 : (Jvm.Cond.constantLong "ConditionRowsModel" (113 : Nat) (5 : Int64)) ∈ zWords := zmem 814 (by decide +kernel) (by decide +kernel)
theorem m_793 : (Jvm.Cond.code ({ cls := "ConditionRowsModel", name := "part", desc := "(I)J" } : Jvm.MethodName) prog_9_method_15_code (8 : Nat) (Option.some Jvm.ClassFile.FieldType.long)) ∈ zWords := zmem 793 (by decide +kernel) (by decide +kernel)
theorem m_790 : (Jvm.Cond.methodLink "ConditionRowsModel" (115 : Nat) ({ cls := "ConditionRowsModel", name := "part", desc := "(I)J" } : Jvm.MethodName)) ∈ zWords := zmem 790 (by decide +kernel) (by decide +kernel)
theorem m_792 : (Jvm.Cond.instanceMethod ({ cls := "ConditionRowsModel", name := "part", desc := "(I)J" } : Jvm.MethodName)) ∈ zWords := zmem 792 (by decide +kernel) (by decide +kernel)
theorem mp_29 : (Jvm.Cond.selects "ConditionRowsModel" ({ cls := "ConditionRowsModel", name := "part", desc := "(I)J" } : Jvm.MethodName) ({ cls := "ConditionRowsModel", name := "part", desc := "(I)J" } : Jvm.MethodName)) ∈ zWords := zmemP 29 (by decide +kernel) (by decide +kernel)
theorem m_805 : (Jvm.Cond.code ({ cls := "ConditionRowsModel", name := "sign", desc := "(JJ)I" } : Jvm.MethodName) prog_9_method_18_code (4 : Nat) (Option.some Jvm.ClassFile.FieldType.int)) ∈ zWords := zmem 805 (by decide +kernel) (by decide +kernel)
theorem m_803 : (Jvm.Cond.methodLink "ConditionRowsModel" (118 : Nat) ({ cls := "ConditionRowsModel", name := "sign", desc := "(JJ)I" } : Jvm.MethodName)) ∈ zWords := zmem 803 (by decide +kernel) (by decide +kernel)
theorem m_804 : (Jvm.Cond.static ({ cls := "ConditionRowsModel", name := "sign", desc := "(JJ)I" } : Jvm.MethodName)) ∈ zWords := zmem 804 (by decide +kernel) (by decide +kernel)
theorem m_809 : (Jvm.Cond.code ({ cls := "ConditionRowsModel", name := "rest", desc := "(I)J" } : Jvm.MethodName) prog_9_method_16_code (6 : Nat) (Option.some Jvm.ClassFile.FieldType.long)) ∈ zWords := zmem 809 (by decide +kernel) (by decide +kernel)
theorem m_806 : (Jvm.Cond.methodLink "ConditionRowsModel" (122 : Nat) ({ cls := "ConditionRowsModel", name := "rest", desc := "(I)J" } : Jvm.MethodName)) ∈ zWords := zmem 806 (by decide +kernel) (by decide +kernel)
theorem m_808 : (Jvm.Cond.instanceMethod ({ cls := "ConditionRowsModel", name := "rest", desc := "(I)J" } : Jvm.MethodName)) ∈ zWords := zmem 808 (by decide +kernel) (by decide +kernel)
theorem mp_31 : (Jvm.Cond.selects "ConditionRowsModel" ({ cls := "ConditionRowsModel", name := "rest", desc := "(I)J" } : Jvm.MethodName) ({ cls := "ConditionRowsModel", name := "rest", desc := "(I)J" } : Jvm.MethodName)) ∈ zWords := zmemP 31 (by decide +kernel) (by decide +kernel)
theorem m_813 : (Jvm.Cond.code ({ cls := "ConditionRowsModel", name := "spell", desc := "(I)V" } : Jvm.MethodName) prog_9_method_17_code (12 : Nat) (Option.none : Option Jvm.ClassFile.FieldType)) ∈ zWords := zmem 813 (by decide +kernel) (by decide +kernel)
theorem m_810 : (Jvm.Cond.methodLink "ConditionRowsModel" (125 : Nat) ({ cls := "ConditionRowsModel", name := "spell", desc := "(I)V" } : Jvm.MethodName)) ∈ zWords := zmem 810 (by decide +kernel) (by decide +kernel)
theorem m_812 : (Jvm.Cond.instanceMethod ({ cls := "ConditionRowsModel", name := "spell", desc := "(I)V" } : Jvm.MethodName)) ∈ zWords := zmem 812 (by decide +kernel) (by decide +kernel)
theorem mp_32 : (Jvm.Cond.selects "ConditionRowsModel" ({ cls := "ConditionRowsModel", name := "spell", desc := "(I)V" } : Jvm.MethodName) ({ cls := "ConditionRowsModel", name := "spell", desc := "(I)V" } : Jvm.MethodName)) ∈ zWords := zmemP 32 (by decide +kernel) (by decide +kernel)
theorem m_726 : (Jvm.Cond.code ({ cls := "ConditionRowsModel", name := "isNode", desc := "(I)Z" } : Jvm.MethodName) prog_9_method_4_code (2 : Nat) (Option.some Jvm.ClassFile.FieldType.boolean)) ∈ zWords := zmem 726 (by decide +kernel) (by decide +kernel)
theorem m_723 : (Jvm.Cond.methodLink "ConditionRowsModel" (132 : Nat) ({ cls := "ConditionRowsModel", name := "isNode", desc := "(I)Z" } : Jvm.MethodName)) ∈ zWords := zmem 723 (by decide +kernel) (by decide +kernel)
theorem m_725 : (Jvm.Cond.instanceMethod ({ cls := "ConditionRowsModel", name := "isNode", desc := "(I)Z" } : Jvm.MethodName)) ∈ zWords := zmem 725 (by decide +kernel) (by decide +kernel)
theorem mp_20 : (Jvm.Cond.selects "ConditionRowsModel" ({ cls := "ConditionRowsModel", name := "isNode", desc := "(I)Z" } : Jvm.MethodName) ({ cls := "ConditionRowsModel", name := "isNode", desc := "(I)Z" } : Jvm.MethodName)) ∈ zWords := zmemP 20 (by decide +kernel) (by decide +kernel)
theorem m_722 : (Jvm.Cond.code ({ cls := "ConditionRowsModel", name := "isName", desc := "(I)Z" } : Jvm.MethodName) prog_9_method_5_code (2 : Nat) (Option.some Jvm.ClassFile.FieldType.boolean)) ∈ zWords := zmem 722 (by decide +kernel) (by decide +kernel)
theorem m_719 : (Jvm.Cond.methodLink "ConditionRowsModel" (129 : Nat) ({ cls := "ConditionRowsModel", name := "isName", desc := "(I)Z" } : Jvm.MethodName)) ∈ zWords := zmem 719 (by decide +kernel) (by decide +kernel)
theorem m_721 : (Jvm.Cond.instanceMethod ({ cls := "ConditionRowsModel", name := "isName", desc := "(I)Z" } : Jvm.MethodName)) ∈ zWords := zmem 721 (by decide +kernel) (by decide +kernel)
theorem mp_19 : (Jvm.Cond.selects "ConditionRowsModel" ({ cls := "ConditionRowsModel", name := "isName", desc := "(I)Z" } : Jvm.MethodName) ({ cls := "ConditionRowsModel", name := "isName", desc := "(I)Z" } : Jvm.MethodName)) ∈ zWords := zmemP 19 (by decide +kernel) (by decide +kernel)
theorem m_605 : (Jvm.Cond.fieldLink "ConditionRowsModel" (25 : Nat) "ConditionRowsModel" "ops" "[I") ∈ zWords := zmem 605 (by decide +kernel) (by decide +kernel)
theorem m_606 : (Jvm.Cond.fieldLink "ConditionRowsModel" (28 : Nat) "ConditionRowsModel" "as" "[I") ∈ zWords := zmem 606 (by decide +kernel) (by decide +kernel)
theorem m_607 : (Jvm.Cond.fieldLink "ConditionRowsModel" (31 : Nat) "ConditionRowsModel" "bs" "[I") ∈ zWords := zmem 607 (by decide +kernel) (by decide +kernel)
theorem m_718 : (Jvm.Cond.code ({ cls := "ConditionRowsModel", name := "refusal", desc := "(III)I" } : Jvm.MethodName) prog_9_method_20_code (4 : Nat) (Option.some Jvm.ClassFile.FieldType.int)) ∈ zWords := zmem 718 (by decide +kernel) (by decide +kernel)
theorem m_715 : (Jvm.Cond.methodLink "ConditionRowsModel" (135 : Nat) ({ cls := "ConditionRowsModel", name := "refusal", desc := "(III)I" } : Jvm.MethodName)) ∈ zWords := zmem 715 (by decide +kernel) (by decide +kernel)
theorem m_717 : (Jvm.Cond.instanceMethod ({ cls := "ConditionRowsModel", name := "refusal", desc := "(III)I" } : Jvm.MethodName)) ∈ zWords := zmem 717 (by decide +kernel) (by decide +kernel)
theorem mp_18 : (Jvm.Cond.selects "ConditionRowsModel" ({ cls := "ConditionRowsModel", name := "refusal", desc := "(III)I" } : Jvm.MethodName) ({ cls := "ConditionRowsModel", name := "refusal", desc := "(III)I" } : Jvm.MethodName)) ∈ zWords := zmemP 18 (by decide +kernel) (by decide +kernel)
theorem m_730 : (Jvm.Cond.code ({ cls := "ConditionRowsModel", name := "made", desc := "(III)I" } : Jvm.MethodName) prog_9_method_21_code (4 : Nat) (Option.some Jvm.ClassFile.FieldType.int)) ∈ zWords := zmem 730 (by decide +kernel) (by decide +kernel)
theorem m_727 : (Jvm.Cond.methodLink "ConditionRowsModel" (139 : Nat) ({ cls := "ConditionRowsModel", name := "made", desc := "(III)I" } : Jvm.MethodName)) ∈ zWords := zmem 727 (by decide +kernel) (by decide +kernel)
theorem m_729 : (Jvm.Cond.instanceMethod ({ cls := "ConditionRowsModel", name := "made", desc := "(III)I" } : Jvm.MethodName)) ∈ zWords := zmem 729 (by decide +kernel) (by decide +kernel)
theorem mp_21 : (Jvm.Cond.selects "ConditionRowsModel" ({ cls := "ConditionRowsModel", name := "made", desc := "(III)I" } : Jvm.MethodName) ({ cls := "ConditionRowsModel", name := "made", desc := "(III)I" } : Jvm.MethodName)) ∈ zWords := zmemP 21 (by decide +kernel) (by decide +kernel)
theorem m_742 : (Jvm.Cond.constantLong "ConditionRowsModel" (142 : Nat) (-9223372036854775808 : Int64)) ∈ zWords := zmem 742 (by decide +kernel) (by decide +kernel)
theorem m_741 : (Jvm.Cond.code ({ cls := "ConditionRowsModel", name := "isLess", desc := "(JJ)Z" } : Jvm.MethodName) prog_9_method_23_code (4 : Nat) (Option.some Jvm.ClassFile.FieldType.boolean)) ∈ zWords := zmem 741 (by decide +kernel) (by decide +kernel)
theorem m_739 : (Jvm.Cond.methodLink "ConditionRowsModel" (144 : Nat) ({ cls := "ConditionRowsModel", name := "isLess", desc := "(JJ)Z" } : Jvm.MethodName)) ∈ zWords := zmem 739 (by decide +kernel) (by decide +kernel)
theorem m_740 : (Jvm.Cond.static ({ cls := "ConditionRowsModel", name := "isLess", desc := "(JJ)Z" } : Jvm.MethodName)) ∈ zWords := zmem 740 (by decide +kernel) (by decide +kernel)
theorem m_738 : (Jvm.Cond.code ({ cls := "ConditionRowsModel", name := "isTurned", desc := "(IJJ)Z" } : Jvm.MethodName) prog_9_method_24_code (6 : Nat) (Option.some Jvm.ClassFile.FieldType.boolean)) ∈ zWords := zmem 738 (by decide +kernel) (by decide +kernel)
theorem m_735 : (Jvm.Cond.methodLink "ConditionRowsModel" (148 : Nat) ({ cls := "ConditionRowsModel", name := "isTurned", desc := "(IJJ)Z" } : Jvm.MethodName)) ∈ zWords := zmem 735 (by decide +kernel) (by decide +kernel)
theorem m_737 : (Jvm.Cond.instanceMethod ({ cls := "ConditionRowsModel", name := "isTurned", desc := "(IJJ)Z" } : Jvm.MethodName)) ∈ zWords := zmem 737 (by decide +kernel) (by decide +kernel)
theorem mp_22 : (Jvm.Cond.selects "ConditionRowsModel" ({ cls := "ConditionRowsModel", name := "isTurned", desc := "(IJJ)Z" } : Jvm.MethodName) ({ cls := "ConditionRowsModel", name := "isTurned", desc := "(IJJ)Z" } : Jvm.MethodName)) ∈ zWords := zmemP 22 (by decide +kernel) (by decide +kernel)
theorem m_609 : (Jvm.Cond.fieldLink "ConditionRowsModel" (34 : Nat) "ConditionRowsModel" "nameFields" "[I") ∈ zWords := zmem 609 (by decide +kernel) (by decide +kernel)
theorem m_610 : (Jvm.Cond.fieldLink "ConditionRowsModel" (37 : Nat) "ConditionRowsModel" "ranges" "[I") ∈ zWords := zmem 610 (by decide +kernel) (by decide +kernel)
theorem m_611 : (Jvm.Cond.fieldLink "ConditionRowsModel" (40 : Nat) "ConditionRowsModel" "lows" "[J") ∈ zWords := zmem 611 (by decide +kernel) (by decide +kernel)
theorem m_612 : (Jvm.Cond.fieldLink "ConditionRowsModel" (44 : Nat) "ConditionRowsModel" "highs" "[J") ∈ zWords := zmem 612 (by decide +kernel) (by decide +kernel)
theorem m_753 : (Jvm.Cond.code ({ cls := "ConditionRowsModel", name := "isRelation", desc := "(I)Z" } : Jvm.MethodName) prog_9_method_27_code (1 : Nat) (Option.some Jvm.ClassFile.FieldType.boolean)) ∈ zWords := zmem 753 (by decide +kernel) (by decide +kernel)
theorem m_751 : (Jvm.Cond.methodLink "ConditionRowsModel" (152 : Nat) ({ cls := "ConditionRowsModel", name := "isRelation", desc := "(I)Z" } : Jvm.MethodName)) ∈ zWords := zmem 751 (by decide +kernel) (by decide +kernel)
theorem m_752 : (Jvm.Cond.static ({ cls := "ConditionRowsModel", name := "isRelation", desc := "(I)Z" } : Jvm.MethodName)) ∈ zWords := zmem 752 (by decide +kernel) (by decide +kernel)
theorem m_620 : (Jvm.Cond.fieldLink "ConditionRowsModel" (155 : Nat) "ConditionRowsModel" "subject" "I") ∈ zWords := zmem 620 (by decide +kernel) (by decide +kernel)
theorem m_619 : (Jvm.Cond.fieldLink "ConditionRowsModel" (158 : Nat) "ConditionRowsModel" "row" "I") ∈ zWords := zmem 619 (by decide +kernel) (by decide +kernel)
theorem m_615 : (Jvm.Cond.fieldLink "ConditionRowsModel" (51 : Nat) "ConditionRowsModel" "ways" "[I") ∈ zWords := zmem 615 (by decide +kernel) (by decide +kernel)
theorem m_616 : (Jvm.Cond.fieldLink "ConditionRowsModel" (54 : Nat) "ConditionRowsModel" "rowOps" "[I") ∈ zWords := zmem 616 (by decide +kernel) (by decide +kernel)
theorem m_618 : (Jvm.Cond.fieldLink "ConditionRowsModel" (60 : Nat) "ConditionRowsModel" "turned" "[Z") ∈ zWords := zmem 618 (by decide +kernel) (by decide +kernel)
theorem m_617 : (Jvm.Cond.fieldLink "ConditionRowsModel" (57 : Nat) "ConditionRowsModel" "objects" "[I") ∈ zWords := zmem 617 (by decide +kernel) (by decide +kernel)
theorem m_765 : (Jvm.Cond.code ({ cls := "ConditionRowsModel", name := "relation", desc := "(I)I" } : Jvm.MethodName) prog_9_method_30_code (3 : Nat) (Option.some Jvm.ClassFile.FieldType.int)) ∈ zWords := zmem 765 (by decide +kernel) (by decide +kernel)
theorem m_762 : (Jvm.Cond.methodLink "ConditionRowsModel" (161 : Nat) ({ cls := "ConditionRowsModel", name := "relation", desc := "(I)I" } : Jvm.MethodName)) ∈ zWords := zmem 762 (by decide +kernel) (by decide +kernel)
theorem m_764 : (Jvm.Cond.instanceMethod ({ cls := "ConditionRowsModel", name := "relation", desc := "(I)I" } : Jvm.MethodName)) ∈ zWords := zmem 764 (by decide +kernel) (by decide +kernel)
theorem mp_23 : (Jvm.Cond.selects "ConditionRowsModel" ({ cls := "ConditionRowsModel", name := "relation", desc := "(I)I" } : Jvm.MethodName) ({ cls := "ConditionRowsModel", name := "relation", desc := "(I)I" } : Jvm.MethodName)) ∈ zWords := zmemP 23 (by decide +kernel) (by decide +kernel)
theorem m_777 : (Jvm.Cond.code ({ cls := "ConditionRowsModel", name := "isBad", desc := "(I)Z" } : Jvm.MethodName) prog_9_method_12_code (5 : Nat) (Option.some Jvm.ClassFile.FieldType.boolean)) ∈ zWords := zmem 777 (by decide +kernel) (by decide +kernel)
theorem m_774 : (Jvm.Cond.methodLink "ConditionRowsModel" (165 : Nat) ({ cls := "ConditionRowsModel", name := "isBad", desc := "(I)Z" } : Jvm.MethodName)) ∈ zWords := zmem 774 (by decide +kernel) (by decide +kernel)
theorem m_776 : (Jvm.Cond.instanceMethod ({ cls := "ConditionRowsModel", name := "isBad", desc := "(I)Z" } : Jvm.MethodName)) ∈ zWords := zmem 776 (by decide +kernel) (by decide +kernel)
theorem mp_25 : (Jvm.Cond.selects "ConditionRowsModel" ({ cls := "ConditionRowsModel", name := "isBad", desc := "(I)Z" } : Jvm.MethodName) ({ cls := "ConditionRowsModel", name := "isBad", desc := "(I)Z" } : Jvm.MethodName)) ∈ zWords := zmemP 25 (by decide +kernel) (by decide +kernel)
theorem m_789 : (Jvm.Cond.code ({ cls := "ConditionRowsModel", name := "order", desc := "(II)I" } : Jvm.MethodName) prog_9_method_19_code (6 : Nat) (Option.some Jvm.ClassFile.FieldType.int)) ∈ zWords := zmem 789 (by decide +kernel) (by decide +kernel)
theorem m_786 : (Jvm.Cond.methodLink "ConditionRowsModel" (168 : Nat) ({ cls := "ConditionRowsModel", name := "order", desc := "(II)I" } : Jvm.MethodName)) ∈ zWords := zmem 786 (by decide +kernel) (by decide +kernel)
theorem m_788 : (Jvm.Cond.instanceMethod ({ cls := "ConditionRowsModel", name := "order", desc := "(II)I" } : Jvm.MethodName)) ∈ zWords := zmem 788 (by decide +kernel) (by decide +kernel)
theorem mp_28 : (Jvm.Cond.selects "ConditionRowsModel" ({ cls := "ConditionRowsModel", name := "order", desc := "(II)I" } : Jvm.MethodName) ({ cls := "ConditionRowsModel", name := "order", desc := "(II)I" } : Jvm.MethodName)) ∈ zWords := zmemP 28 (by decide +kernel) (by decide +kernel)
theorem m_623 : (Jvm.Cond.fieldLink "ConditionRowsModel" (69 : Nat) "ConditionRowsModel" "leaves" "[I") ∈ zWords := zmem 623 (by decide +kernel) (by decide +kernel)
theorem m_624 : (Jvm.Cond.fieldLink "ConditionRowsModel" (171 : Nat) "ConditionRowsModel" "noted" "I") ∈ zWords := zmem 624 (by decide +kernel) (by decide +kernel)
theorem m_625 : (Jvm.Cond.fieldLink "ConditionRowsModel" (174 : Nat) "ConditionRowsModel" "fault" "Z") ∈ zWords := zmem 625 (by decide +kernel) (by decide +kernel)
theorem m_614 : (Jvm.Cond.fieldLink "ConditionRowsModel" (47 : Nat) "ConditionRowsModel" "switches" "[Z") ∈ zWords := zmem 614 (by decide +kernel) (by decide +kernel)
theorem m_822 : (Jvm.Cond.code ({ cls := "ConditionRowsModel", name := "isIn", desc := "(I)Z" } : Jvm.MethodName) prog_9_method_33_code (11 : Nat) (Option.some Jvm.ClassFile.FieldType.boolean)) ∈ zWords := zmem 822 (by decide +kernel) (by decide +kernel)
theorem m_819 : (Jvm.Cond.methodLink "ConditionRowsModel" (185 : Nat) ({ cls := "ConditionRowsModel", name := "isIn", desc := "(I)Z" } : Jvm.MethodName)) ∈ zWords := zmem 819 (by decide +kernel) (by decide +kernel)
theorem m_821 : (Jvm.Cond.instanceMethod ({ cls := "ConditionRowsModel", name := "isIn", desc := "(I)Z" } : Jvm.MethodName)) ∈ zWords := zmem 821 (by decide +kernel) (by decide +kernel)
theorem mp_34 : (Jvm.Cond.selects "ConditionRowsModel" ({ cls := "ConditionRowsModel", name := "isIn", desc := "(I)Z" } : Jvm.MethodName) ({ cls := "ConditionRowsModel", name := "isIn", desc := "(I)Z" } : Jvm.MethodName)) ∈ zWords := zmemP 34 (by decide +kernel) (by decide +kernel)
theorem m_818 : (Jvm.Cond.code ({ cls := "ConditionRowsModel", name := "isOf", desc := "(II)Z" } : Jvm.MethodName) prog_9_method_32_code (8 : Nat) (Option.some Jvm.ClassFile.FieldType.boolean)) ∈ zWords := zmem 818 (by decide +kernel) (by decide +kernel)
theorem m_815 : (Jvm.Cond.methodLink "ConditionRowsModel" (181 : Nat) ({ cls := "ConditionRowsModel", name := "isOf", desc := "(II)Z" } : Jvm.MethodName)) ∈ zWords := zmem 815 (by decide +kernel) (by decide +kernel)
theorem m_817 : (Jvm.Cond.instanceMethod ({ cls := "ConditionRowsModel", name := "isOf", desc := "(II)Z" } : Jvm.MethodName)) ∈ zWords := zmem 817 (by decide +kernel) (by decide +kernel)
theorem mp_33 : (Jvm.Cond.selects "ConditionRowsModel" ({ cls := "ConditionRowsModel", name := "isOf", desc := "(II)Z" } : Jvm.MethodName) ({ cls := "ConditionRowsModel", name := "isOf", desc := "(II)Z" } : Jvm.MethodName)) ∈ zWords := zmemP 33 (by decide +kernel) (by decide +kernel)
theorem m_785 : (Jvm.Cond.code ({ cls := "ConditionRowsModel", name := "related", desc := "(III)Z" } : Jvm.MethodName) prog_9_method_34_code (5 : Nat) (Option.some Jvm.ClassFile.FieldType.boolean)) ∈ zWords := zmem 785 (by decide +kernel) (by decide +kernel)
theorem m_782 : (Jvm.Cond.methodLink "ConditionRowsModel" (177 : Nat) ({ cls := "ConditionRowsModel", name := "related", desc := "(III)Z" } : Jvm.MethodName)) ∈ zWords := zmem 782 (by decide +kernel) (by decide +kernel)
theorem m_784 : (Jvm.Cond.instanceMethod ({ cls := "ConditionRowsModel", name := "related", desc := "(III)Z" } : Jvm.MethodName)) ∈ zWords := zmem 784 (by decide +kernel) (by decide +kernel)
theorem mp_27 : (Jvm.Cond.selects "ConditionRowsModel" ({ cls := "ConditionRowsModel", name := "related", desc := "(III)Z" } : Jvm.MethodName) ({ cls := "ConditionRowsModel", name := "related", desc := "(III)Z" } : Jvm.MethodName)) ∈ zWords := zmemP 27 (by decide +kernel) (by decide +kernel)
theorem m_621 : (Jvm.Cond.fieldLink "ConditionRowsModel" (63 : Nat) "ConditionRowsModel" "known" "[I") ∈ zWords := zmem 621 (by decide +kernel) (by decide +kernel)
theorem m_597 : (Jvm.Cond.fieldLink "ConditionRowsModel" (75 : Nat) "ConditionRowsModel" "whole" "Z") ∈ zWords := zmem 597 (by decide +kernel) (by decide +kernel)
theorem m_622 : (Jvm.Cond.fieldLink "ConditionRowsModel" (66 : Nat) "ConditionRowsModel" "pile" "[I") ∈ zWords := zmem 622 (by decide +kernel) (by decide +kernel)
theorem m_826 : (Jvm.Cond.code ({ cls := "ConditionRowsModel", name := "settled", desc := "(I)I" } : Jvm.MethodName) prog_9_method_36_code (5 : Nat) (Option.some Jvm.ClassFile.FieldType.int)) ∈ zWords := zmem 826 (by decide +kernel) (by decide +kernel)
theorem m_823 : (Jvm.Cond.methodLink "ConditionRowsModel" (191 : Nat) ({ cls := "ConditionRowsModel", name := "settled", desc := "(I)I" } : Jvm.MethodName)) ∈ zWords := zmem 823 (by decide +kernel) (by decide +kernel)
theorem m_825 : (Jvm.Cond.instanceMethod ({ cls := "ConditionRowsModel", name := "settled", desc := "(I)I" } : Jvm.MethodName)) ∈ zWords := zmem 825 (by decide +kernel) (by decide +kernel)
theorem mp_35 : (Jvm.Cond.selects "ConditionRowsModel" ({ cls := "ConditionRowsModel", name := "settled", desc := "(I)I" } : Jvm.MethodName) ({ cls := "ConditionRowsModel", name := "settled", desc := "(I)I" } : Jvm.MethodName)) ∈ zWords := zmemP 35 (by decide +kernel) (by decide +kernel)
theorem m_773 : (Jvm.Cond.code ({ cls := "ConditionRowsModel", name := "leaf", desc := "(I)Z" } : Jvm.MethodName) prog_9_method_35_code (4 : Nat) (Option.some Jvm.ClassFile.FieldType.boolean)) ∈ zWords := zmem 773 (by decide +kernel) (by decide +kernel)
theorem m_770 : (Jvm.Cond.methodLink "ConditionRowsModel" (188 : Nat) ({ cls := "ConditionRowsModel", name := "leaf", desc := "(I)Z" } : Jvm.MethodName)) ∈ zWords := zmem 770 (by decide +kernel) (by decide +kernel)
theorem m_772 : (Jvm.Cond.instanceMethod ({ cls := "ConditionRowsModel", name := "leaf", desc := "(I)Z" } : Jvm.MethodName)) ∈ zWords := zmem 772 (by decide +kernel) (by decide +kernel)
theorem mp_24 : (Jvm.Cond.selects "ConditionRowsModel" ({ cls := "ConditionRowsModel", name := "leaf", desc := "(I)Z" } : Jvm.MethodName) ({ cls := "ConditionRowsModel", name := "leaf", desc := "(I)Z" } : Jvm.MethodName)) ∈ zWords := zmemP 24 (by decide +kernel) (by decide +kernel)
theorem m_184 : (Jvm.Cond.laysFinal "ConditionRows" "ConditionRows" "whole" "Z") ∈ zWords := zmem 184 (by decide +kernel) (by decide +kernel)
theorem m_186 : (Jvm.Cond.laysFinal "ConditionRows" "ConditionRows" "fields" "LConditionRows$Fields;") ∈ zWords := zmem 186 (by decide +kernel) (by decide +kernel)
theorem m_188 : (Jvm.Cond.laysFinal "ConditionRows" "ConditionRows" "weights" "LConditionRows$Weights;") ∈ zWords := zmem 188 (by decide +kernel) (by decide +kernel)
theorem m_190 : (Jvm.Cond.laysFinal "ConditionRows" "ConditionRows" "names" "LConditionRows$Names;") ∈ zWords := zmem 190 (by decide +kernel) (by decide +kernel)
theorem m_192 : (Jvm.Cond.laysFinal "ConditionRows" "ConditionRows" "nodes" "LConditionRows$Nodes;") ∈ zWords := zmem 192 (by decide +kernel) (by decide +kernel)
theorem m_194 : (Jvm.Cond.laysFinal "ConditionRows" "ConditionRows" "row" "LConditionRows$Row;") ∈ zWords := zmem 194 (by decide +kernel) (by decide +kernel)
theorem m_196 : (Jvm.Cond.laysFinal "ConditionRows" "ConditionRows" "testing" "LConditionRows$Testing;") ∈ zWords := zmem 196 (by decide +kernel) (by decide +kernel)
theorem m_198 : (Jvm.Cond.laysFinal "ConditionRows" "ConditionRows" "switches" "[Z") ∈ zWords := zmem 198 (by decide +kernel) (by decide +kernel)
theorem m_200 : (Jvm.Cond.laysFinal "ConditionRows" "ConditionRows" "leftText" "[I") ∈ zWords := zmem 200 (by decide +kernel) (by decide +kernel)
theorem m_202 : (Jvm.Cond.laysFinal "ConditionRows" "ConditionRows" "rightText" "[I") ∈ zWords := zmem 202 (by decide +kernel) (by decide +kernel)
theorem m_40 : (Jvm.Cond.laysFinal "ConditionRows$Fields" "ConditionRows$Fields" "category" "[I") ∈ zWords := zmem 40 (by decide +kernel) (by decide +kernel)
theorem m_42 : (Jvm.Cond.laysFinal "ConditionRows$Fields" "ConditionRows$Fields" "size" "[I") ∈ zWords := zmem 42 (by decide +kernel) (by decide +kernel)
theorem m_44 : (Jvm.Cond.laysFinal "ConditionRows$Fields" "ConditionRows$Fields" "scale" "[I") ∈ zWords := zmem 44 (by decide +kernel) (by decide +kernel)
theorem m_46 : (Jvm.Cond.laysFinal "ConditionRows$Fields" "ConditionRows$Fields" "bytes" "[I") ∈ zWords := zmem 46 (by decide +kernel) (by decide +kernel)
theorem m_48 : (Jvm.Cond.lays "ConditionRows$Fields" "ConditionRows$Fields" "made" "I") ∈ zWords := zmem 48 (by decide +kernel) (by decide +kernel)
theorem m_60 : (Jvm.Cond.laysFinal "ConditionRows$Weights" "ConditionRows$Weights" "of" "[I") ∈ zWords := zmem 60 (by decide +kernel) (by decide +kernel)
theorem m_76 : (Jvm.Cond.laysFinal "ConditionRows$Names" "ConditionRows$Names" "field" "[I") ∈ zWords := zmem 76 (by decide +kernel) (by decide +kernel)
theorem m_78 : (Jvm.Cond.laysFinal "ConditionRows$Names" "ConditionRows$Names" "ranges" "[I") ∈ zWords := zmem 78 (by decide +kernel) (by decide +kernel)
theorem m_80 : (Jvm.Cond.laysFinal "ConditionRows$Names" "ConditionRows$Names" "low" "[J") ∈ zWords := zmem 80 (by decide +kernel) (by decide +kernel)
theorem m_82 : (Jvm.Cond.laysFinal "ConditionRows$Names" "ConditionRows$Names" "high" "[J") ∈ zWords := zmem 82 (by decide +kernel) (by decide +kernel)
theorem m_84 : (Jvm.Cond.lays "ConditionRows$Names" "ConditionRows$Names" "made" "I") ∈ zWords := zmem 84 (by decide +kernel) (by decide +kernel)
theorem m_102 : (Jvm.Cond.laysFinal "ConditionRows$Nodes" "ConditionRows$Nodes" "op" "[I") ∈ zWords := zmem 102 (by decide +kernel) (by decide +kernel)
theorem m_104 : (Jvm.Cond.laysFinal "ConditionRows$Nodes" "ConditionRows$Nodes" "a" "[I") ∈ zWords := zmem 104 (by decide +kernel) (by decide +kernel)
theorem m_106 : (Jvm.Cond.laysFinal "ConditionRows$Nodes" "ConditionRows$Nodes" "b" "[I") ∈ zWords := zmem 106 (by decide +kernel) (by decide +kernel)
theorem m_108 : (Jvm.Cond.lays "ConditionRows$Nodes" "ConditionRows$Nodes" "made" "I") ∈ zWords := zmem 108 (by decide +kernel) (by decide +kernel)
theorem m_131 : (Jvm.Cond.laysFinal "ConditionRows$Row" "ConditionRows$Row" "with" "[I") ∈ zWords := zmem 131 (by decide +kernel) (by decide +kernel)
theorem m_133 : (Jvm.Cond.laysFinal "ConditionRows$Row" "ConditionRows$Row" "op" "[I") ∈ zWords := zmem 133 (by decide +kernel) (by decide +kernel)
theorem m_135 : (Jvm.Cond.laysFinal "ConditionRows$Row" "ConditionRows$Row" "negated" "[Z") ∈ zWords := zmem 135 (by decide +kernel) (by decide +kernel)
theorem m_137 : (Jvm.Cond.laysFinal "ConditionRows$Row" "ConditionRows$Row" "object" "[I") ∈ zWords := zmem 137 (by decide +kernel) (by decide +kernel)
theorem m_139 : (Jvm.Cond.lays "ConditionRows$Row" "ConditionRows$Row" "subject" "I") ∈ zWords := zmem 139 (by decide +kernel) (by decide +kernel)
theorem m_141 : (Jvm.Cond.lays "ConditionRows$Row" "ConditionRows$Row" "carried" "I") ∈ zWords := zmem 141 (by decide +kernel) (by decide +kernel)
theorem m_143 : (Jvm.Cond.lays "ConditionRows$Row" "ConditionRows$Row" "length" "I") ∈ zWords := zmem 143 (by decide +kernel) (by decide +kernel)
theorem m_163 : (Jvm.Cond.laysFinal "ConditionRows$Testing" "ConditionRows$Testing" "outcome" "[I") ∈ zWords := zmem 163 (by decide +kernel) (by decide +kernel)
theorem m_165 : (Jvm.Cond.laysFinal "ConditionRows$Testing" "ConditionRows$Testing" "leaves" "[I") ∈ zWords := zmem 165 (by decide +kernel) (by decide +kernel)
theorem m_167 : (Jvm.Cond.laysFinal "ConditionRows$Testing" "ConditionRows$Testing" "waiting" "[I") ∈ zWords := zmem 167 (by decide +kernel) (by decide +kernel)
theorem m_169 : (Jvm.Cond.lays "ConditionRows$Testing" "ConditionRows$Testing" "noted" "I") ∈ zWords := zmem 169 (by decide +kernel) (by decide +kernel)
theorem m_171 : (Jvm.Cond.lays "ConditionRows$Testing" "ConditionRows$Testing" "depth" "I") ∈ zWords := zmem 171 (by decide +kernel) (by decide +kernel)
theorem m_627 : (Jvm.Cond.laysFinal "ConditionRowsModel" "ConditionRowsModel" "whole" "Z") ∈ zWords := zmem 627 (by decide +kernel) (by decide +kernel)
theorem m_629 : (Jvm.Cond.lays "ConditionRowsModel" "ConditionRowsModel" "thrown" "I") ∈ zWords := zmem 629 (by decide +kernel) (by decide +kernel)
theorem m_631 : (Jvm.Cond.laysFinal "ConditionRowsModel" "ConditionRowsModel" "bytes" "[I") ∈ zWords := zmem 631 (by decide +kernel) (by decide +kernel)
theorem m_633 : (Jvm.Cond.laysFinal "ConditionRowsModel" "ConditionRowsModel" "categories" "[I") ∈ zWords := zmem 633 (by decide +kernel) (by decide +kernel)
theorem m_635 : (Jvm.Cond.laysFinal "ConditionRowsModel" "ConditionRowsModel" "sizes" "[I") ∈ zWords := zmem 635 (by decide +kernel) (by decide +kernel)
theorem m_637 : (Jvm.Cond.laysFinal "ConditionRowsModel" "ConditionRowsModel" "scales" "[I") ∈ zWords := zmem 637 (by decide +kernel) (by decide +kernel)
theorem m_639 : (Jvm.Cond.laysFinal "ConditionRowsModel" "ConditionRowsModel" "weights" "[I") ∈ zWords := zmem 639 (by decide +kernel) (by decide +kernel)
theorem m_641 : (Jvm.Cond.lays "ConditionRowsModel" "ConditionRowsModel" "fields" "I") ∈ zWords := zmem 641 (by decide +kernel) (by decide +kernel)
theorem m_643 : (Jvm.Cond.laysFinal "ConditionRowsModel" "ConditionRowsModel" "ops" "[I") ∈ zWords := zmem 643 (by decide +kernel) (by decide +kernel)
theorem m_645 : (Jvm.Cond.laysFinal "ConditionRowsModel" "ConditionRowsModel" "as" "[I") ∈ zWords := zmem 645 (by decide +kernel) (by decide +kernel)
theorem m_647 : (Jvm.Cond.laysFinal "ConditionRowsModel" "ConditionRowsModel" "bs" "[I") ∈ zWords := zmem 647 (by decide +kernel) (by decide +kernel)
theorem m_649 : (Jvm.Cond.lays "ConditionRowsModel" "ConditionRowsModel" "nodes" "I") ∈ zWords := zmem 649 (by decide +kernel) (by decide +kernel)
theorem m_651 : (Jvm.Cond.laysFinal "ConditionRowsModel" "ConditionRowsModel" "nameFields" "[I") ∈ zWords := zmem 651 (by decide +kernel) (by decide +kernel)
theorem m_653 : (Jvm.Cond.laysFinal "ConditionRowsModel" "ConditionRowsModel" "ranges" "[I") ∈ zWords := zmem 653 (by decide +kernel) (by decide +kernel)
theorem m_655 : (Jvm.Cond.laysFinal "ConditionRowsModel" "ConditionRowsModel" "lows" "[J") ∈ zWords := zmem 655 (by decide +kernel) (by decide +kernel)
theorem m_657 : (Jvm.Cond.laysFinal "ConditionRowsModel" "ConditionRowsModel" "highs" "[J") ∈ zWords := zmem 657 (by decide +kernel) (by decide +kernel)
theorem m_659 : (Jvm.Cond.lays "ConditionRowsModel" "ConditionRowsModel" "names" "I") ∈ zWords := zmem 659 (by decide +kernel) (by decide +kernel)
theorem m_661 : (Jvm.Cond.laysFinal "ConditionRowsModel" "ConditionRowsModel" "switches" "[Z") ∈ zWords := zmem 661 (by decide +kernel) (by decide +kernel)
theorem m_663 : (Jvm.Cond.laysFinal "ConditionRowsModel" "ConditionRowsModel" "ways" "[I") ∈ zWords := zmem 663 (by decide +kernel) (by decide +kernel)
theorem m_665 : (Jvm.Cond.laysFinal "ConditionRowsModel" "ConditionRowsModel" "rowOps" "[I") ∈ zWords := zmem 665 (by decide +kernel) (by decide +kernel)
theorem m_667 : (Jvm.Cond.laysFinal "ConditionRowsModel" "ConditionRowsModel" "objects" "[I") ∈ zWords := zmem 667 (by decide +kernel) (by decide +kernel)
theorem m_669 : (Jvm.Cond.laysFinal "ConditionRowsModel" "ConditionRowsModel" "turned" "[Z") ∈ zWords := zmem 669 (by decide +kernel) (by decide +kernel)
theorem m_671 : (Jvm.Cond.lays "ConditionRowsModel" "ConditionRowsModel" "row" "I") ∈ zWords := zmem 671 (by decide +kernel) (by decide +kernel)
theorem m_673 : (Jvm.Cond.lays "ConditionRowsModel" "ConditionRowsModel" "subject" "I") ∈ zWords := zmem 673 (by decide +kernel) (by decide +kernel)
theorem m_675 : (Jvm.Cond.laysFinal "ConditionRowsModel" "ConditionRowsModel" "known" "[I") ∈ zWords := zmem 675 (by decide +kernel) (by decide +kernel)
theorem m_677 : (Jvm.Cond.laysFinal "ConditionRowsModel" "ConditionRowsModel" "pile" "[I") ∈ zWords := zmem 677 (by decide +kernel) (by decide +kernel)
theorem m_679 : (Jvm.Cond.laysFinal "ConditionRowsModel" "ConditionRowsModel" "leaves" "[I") ∈ zWords := zmem 679 (by decide +kernel) (by decide +kernel)
theorem m_681 : (Jvm.Cond.lays "ConditionRowsModel" "ConditionRowsModel" "noted" "I") ∈ zWords := zmem 681 (by decide +kernel) (by decide +kernel)
theorem m_683 : (Jvm.Cond.lays "ConditionRowsModel" "ConditionRowsModel" "fault" "Z") ∈ zWords := zmem 683 (by decide +kernel) (by decide +kernel)
theorem m_685 : (Jvm.Cond.laysFinal "ConditionRowsModel" "ConditionRowsModel" "digits" "[I") ∈ zWords := zmem 685 (by decide +kernel) (by decide +kernel)
theorem inX : ∀ w ∈ u_ws RX TX 10, w ∈ zWords := by
  intro w hw
  obtain ⟨k, hk, rfl⟩ := List.mem_map.mp hw
  have hk := List.mem_range.mp hk
  rcases (show k = 0 ∨ k = 1 ∨ k = 2 ∨ k = 3 ∨ k = 4 ∨ k = 5 ∨ k = 6 ∨ k = 7 ∨ k = 8 ∨ k = 9 by omega) with rfl | rfl | rfl | rfl | rfl | rfl | rfl | rfl | rfl | rfl
  · exact m_184
  · exact m_186
  · exact m_188
  · exact m_190
  · exact m_192
  · exact m_194
  · exact m_196
  · exact m_198
  · exact m_200
  · exact m_202
theorem inXF : ∀ w ∈ u_ws RXF TXF 5, w ∈ zWords := by
  intro w hw
  obtain ⟨k, hk, rfl⟩ := List.mem_map.mp hw
  have hk := List.mem_range.mp hk
  rcases (show k = 0 ∨ k = 1 ∨ k = 2 ∨ k = 3 ∨ k = 4 by omega) with rfl | rfl | rfl | rfl | rfl
  · exact m_40
  · exact m_42
  · exact m_44
  · exact m_46
  · exact m_48
theorem inXW : ∀ w ∈ u_ws RXW TXW 1, w ∈ zWords := by
  intro w hw
  obtain ⟨k, hk, rfl⟩ := List.mem_map.mp hw
  have hk := List.mem_range.mp hk
  rcases (show k = 0 by omega) with rfl
  · exact m_60
theorem inXN : ∀ w ∈ u_ws RXN TXN 5, w ∈ zWords := by
  intro w hw
  obtain ⟨k, hk, rfl⟩ := List.mem_map.mp hw
  have hk := List.mem_range.mp hk
  rcases (show k = 0 ∨ k = 1 ∨ k = 2 ∨ k = 3 ∨ k = 4 by omega) with rfl | rfl | rfl | rfl | rfl
  · exact m_76
  · exact m_78
  · exact m_80
  · exact m_82
  · exact m_84
theorem inXO : ∀ w ∈ u_ws RXO TXO 4, w ∈ zWords := by
  intro w hw
  obtain ⟨k, hk, rfl⟩ := List.mem_map.mp hw
  have hk := List.mem_range.mp hk
  rcases (show k = 0 ∨ k = 1 ∨ k = 2 ∨ k = 3 by omega) with rfl | rfl | rfl | rfl
  · exact m_102
  · exact m_104
  · exact m_106
  · exact m_108
theorem inXR : ∀ w ∈ u_ws RXR TXR 7, w ∈ zWords := by
  intro w hw
  obtain ⟨k, hk, rfl⟩ := List.mem_map.mp hw
  have hk := List.mem_range.mp hk
  rcases (show k = 0 ∨ k = 1 ∨ k = 2 ∨ k = 3 ∨ k = 4 ∨ k = 5 ∨ k = 6 by omega) with rfl | rfl | rfl | rfl | rfl | rfl | rfl
  · exact m_131
  · exact m_133
  · exact m_135
  · exact m_137
  · exact m_139
  · exact m_141
  · exact m_143
theorem inXT : ∀ w ∈ u_ws RXT TXT 5, w ∈ zWords := by
  intro w hw
  obtain ⟨k, hk, rfl⟩ := List.mem_map.mp hw
  have hk := List.mem_range.mp hk
  rcases (show k = 0 ∨ k = 1 ∨ k = 2 ∨ k = 3 ∨ k = 4 by omega) with rfl | rfl | rfl | rfl | rfl
  · exact m_163
  · exact m_165
  · exact m_167
  · exact m_169
  · exact m_171
theorem inM : ∀ w ∈ u_ws RM TM 30, w ∈ zWords := by
  intro w hw
  obtain ⟨k, hk, rfl⟩ := List.mem_map.mp hw
  have hk := List.mem_range.mp hk
  rcases (show k = 0 ∨ k = 1 ∨ k = 2 ∨ k = 3 ∨ k = 4 ∨ k = 5 ∨ k = 6 ∨ k = 7 ∨ k = 8 ∨ k = 9 ∨ k = 10 ∨ k = 11 ∨ k = 12 ∨ k = 13 ∨ k = 14 ∨ k = 15 ∨ k = 16 ∨ k = 17 ∨ k = 18 ∨ k = 19 ∨ k = 20 ∨ k = 21 ∨ k = 22 ∨ k = 23 ∨ k = 24 ∨ k = 25 ∨ k = 26 ∨ k = 27 ∨ k = 28 ∨ k = 29 by omega) with rfl | rfl | rfl | rfl | rfl | rfl | rfl | rfl | rfl | rfl | rfl | rfl | rfl | rfl | rfl | rfl | rfl | rfl | rfl | rfl | rfl | rfl | rfl | rfl | rfl | rfl | rfl | rfl | rfl | rfl
  · exact m_627
  · exact m_629
  · exact m_631
  · exact m_633
  · exact m_635
  · exact m_637
  · exact m_639
  · exact m_641
  · exact m_643
  · exact m_645
  · exact m_647
  · exact m_649
  · exact m_651
  · exact m_653
  · exact m_655
  · exact m_657
  · exact m_659
  · exact m_661
  · exact m_663
  · exact m_665
  · exact m_667
  · exact m_669
  · exact m_671
  · exact m_673
  · exact m_675
  · exact m_677
  · exact m_679
  · exact m_681
  · exact m_683
  · exact m_685
def zN : List Cond := [(Jvm.Cond.methodLinkNest "ConditionRows" (9 : Nat) ({ cls := "ConditionRows$Fields", name := "<init>", desc := "()V" } : Jvm.MethodName) "ConditionRows"),
  (Jvm.Cond.fieldLinkNest "ConditionRows" (78 : Nat) "ConditionRows$Fields" "size" "[I" "ConditionRows"),
  (Jvm.Cond.fieldLinkNest "ConditionRows" (87 : Nat) "ConditionRows$Fields" "scale" "[I" "ConditionRows"),
  (Jvm.Cond.fieldLinkNest "ConditionRows" (81 : Nat) "ConditionRows$Fields" "bytes" "[I" "ConditionRows"),
  (Jvm.Cond.fieldLinkNest "ConditionRows" (186 : Nat) "ConditionRows$Fields" "made" "I" "ConditionRows"),
  (Jvm.Cond.fieldLinkNest "ConditionRows" (93 : Nat) "ConditionRows$Weights" "of" "[I" "ConditionRows"),
  (Jvm.Cond.methodLinkNest "ConditionRows" (25 : Nat) ({ cls := "ConditionRows$Names", name := "<init>", desc := "()V" } : Jvm.MethodName) "ConditionRows"),
  (Jvm.Cond.fieldLinkNest "ConditionRows" (114 : Nat) "ConditionRows$Names" "field" "[I" "ConditionRows"),
  (Jvm.Cond.fieldLinkNest "ConditionRows" (187 : Nat) "ConditionRows$Names" "made" "I" "ConditionRows"),
  (Jvm.Cond.methodLinkNest "ConditionRows" (32 : Nat) ({ cls := "ConditionRows$Nodes", name := "<init>", desc := "()V" } : Jvm.MethodName) "ConditionRows"),
  (Jvm.Cond.fieldLinkNest "ConditionRows" (238 : Nat) "ConditionRows$Nodes" "op" "[I" "ConditionRows"),
  (Jvm.Cond.fieldLinkNest "ConditionRows" (251 : Nat) "ConditionRows$Nodes" "a" "[I" "ConditionRows"),
  (Jvm.Cond.fieldLinkNest "ConditionRows" (254 : Nat) "ConditionRows$Nodes" "b" "[I" "ConditionRows"),
  (Jvm.Cond.fieldLinkNest "ConditionRows" (145 : Nat) "ConditionRows$Nodes" "made" "I" "ConditionRows"),
  (Jvm.Cond.methodLinkNest "ConditionRows" (39 : Nat) ({ cls := "ConditionRows$Row", name := "<init>", desc := "()V" } : Jvm.MethodName) "ConditionRows"),
  (Jvm.Cond.fieldLinkNest "ConditionRows" (202 : Nat) "ConditionRows$Row" "with" "[I" "ConditionRows"),
  (Jvm.Cond.fieldLinkNest "ConditionRows" (211 : Nat) "ConditionRows$Row" "op" "[I" "ConditionRows"),
  (Jvm.Cond.fieldLinkNest "ConditionRows" (220 : Nat) "ConditionRows$Row" "negated" "[Z" "ConditionRows"),
  (Jvm.Cond.fieldLinkNest "ConditionRows" (217 : Nat) "ConditionRows$Row" "object" "[I" "ConditionRows"),
  (Jvm.Cond.fieldLinkNest "ConditionRows" (214 : Nat) "ConditionRows$Row" "subject" "I" "ConditionRows"),
  (Jvm.Cond.fieldLinkNest "ConditionRows" (131 : Nat) "ConditionRows$Row" "carried" "I" "ConditionRows"),
  (Jvm.Cond.fieldLinkNest "ConditionRows" (127 : Nat) "ConditionRows$Row" "length" "I" "ConditionRows"),
  (Jvm.Cond.methodLinkNest "ConditionRows" (46 : Nat) ({ cls := "ConditionRows$Testing", name := "<init>", desc := "()V" } : Jvm.MethodName) "ConditionRows"),
  (Jvm.Cond.fieldLinkNest "ConditionRows" (248 : Nat) "ConditionRows$Testing" "outcome" "[I" "ConditionRows"),
  (Jvm.Cond.fieldLinkNest "ConditionRows" (170 : Nat) "ConditionRows$Testing" "leaves" "[I" "ConditionRows"),
  (Jvm.Cond.fieldLinkNest "ConditionRows" (232 : Nat) "ConditionRows$Testing" "waiting" "[I" "ConditionRows"),
  (Jvm.Cond.fieldLinkNest "ConditionRows" (167 : Nat) "ConditionRows$Testing" "noted" "I" "ConditionRows"),
  (Jvm.Cond.fieldLinkNest "ConditionRows" (229 : Nat) "ConditionRows$Testing" "depth" "I" "ConditionRows"),
  (Jvm.Cond.methodLinkNest "ConditionRows$Names" (33 : Nat) ({ cls := "ConditionRows", name := "isBelowUnsigned", desc := "(JJ)Z" } : Jvm.MethodName) "ConditionRows"),
  (Jvm.Cond.fieldLinkNest "ConditionRows$Fields" (67 : Nat) "ConditionRows" "TENS" "[J" "ConditionRows")]
theorem zn_0 : (Jvm.Cond.methodLinkNest "ConditionRows" (9 : Nat) ({ cls := "ConditionRows$Fields", name := "<init>", desc := "()V" } : Jvm.MethodName) "ConditionRows") ∈ zN := List.mem_of_getElem? (i := 0) rfl
theorem zn_1 : (Jvm.Cond.fieldLinkNest "ConditionRows" (78 : Nat) "ConditionRows$Fields" "size" "[I" "ConditionRows") ∈ zN := List.mem_of_getElem? (i := 1) rfl
theorem zn_2 : (Jvm.Cond.fieldLinkNest "ConditionRows" (87 : Nat) "ConditionRows$Fields" "scale" "[I" "ConditionRows") ∈ zN := List.mem_of_getElem? (i := 2) rfl
theorem zn_3 : (Jvm.Cond.fieldLinkNest "ConditionRows" (81 : Nat) "ConditionRows$Fields" "bytes" "[I" "ConditionRows") ∈ zN := List.mem_of_getElem? (i := 3) rfl
theorem zn_4 : (Jvm.Cond.fieldLinkNest "ConditionRows" (186 : Nat) "ConditionRows$Fields" "made" "I" "ConditionRows") ∈ zN := List.mem_of_getElem? (i := 4) rfl
theorem zn_5 : (Jvm.Cond.fieldLinkNest "ConditionRows" (93 : Nat) "ConditionRows$Weights" "of" "[I" "ConditionRows") ∈ zN := List.mem_of_getElem? (i := 5) rfl
theorem zn_6 : (Jvm.Cond.methodLinkNest "ConditionRows" (25 : Nat) ({ cls := "ConditionRows$Names", name := "<init>", desc := "()V" } : Jvm.MethodName) "ConditionRows") ∈ zN := List.mem_of_getElem? (i := 6) rfl
theorem zn_7 : (Jvm.Cond.fieldLinkNest "ConditionRows" (114 : Nat) "ConditionRows$Names" "field" "[I" "ConditionRows") ∈ zN := List.mem_of_getElem? (i := 7) rfl
theorem zn_8 : (Jvm.Cond.fieldLinkNest "ConditionRows" (187 : Nat) "ConditionRows$Names" "made" "I" "ConditionRows") ∈ zN := List.mem_of_getElem? (i := 8) rfl
theorem zn_9 : (Jvm.Cond.methodLinkNest "ConditionRows" (32 : Nat) ({ cls := "ConditionRows$Nodes", name := "<init>", desc := "()V" } : Jvm.MethodName) "ConditionRows") ∈ zN := List.mem_of_getElem? (i := 9) rfl
theorem zn_10 : (Jvm.Cond.fieldLinkNest "ConditionRows" (238 : Nat) "ConditionRows$Nodes" "op" "[I" "ConditionRows") ∈ zN := List.mem_of_getElem? (i := 10) rfl
theorem zn_11 : (Jvm.Cond.fieldLinkNest "ConditionRows" (251 : Nat) "ConditionRows$Nodes" "a" "[I" "ConditionRows") ∈ zN := List.mem_of_getElem? (i := 11) rfl
theorem zn_12 : (Jvm.Cond.fieldLinkNest "ConditionRows" (254 : Nat) "ConditionRows$Nodes" "b" "[I" "ConditionRows") ∈ zN := List.mem_of_getElem? (i := 12) rfl
theorem zn_13 : (Jvm.Cond.fieldLinkNest "ConditionRows" (145 : Nat) "ConditionRows$Nodes" "made" "I" "ConditionRows") ∈ zN := List.mem_of_getElem? (i := 13) rfl
theorem zn_14 : (Jvm.Cond.methodLinkNest "ConditionRows" (39 : Nat) ({ cls := "ConditionRows$Row", name := "<init>", desc := "()V" } : Jvm.MethodName) "ConditionRows") ∈ zN := List.mem_of_getElem? (i := 14) rfl
theorem zn_15 : (Jvm.Cond.fieldLinkNest "ConditionRows" (202 : Nat) "ConditionRows$Row" "with" "[I" "ConditionRows") ∈ zN := List.mem_of_getElem? (i := 15) rfl
theorem zn_16 : (Jvm.Cond.fieldLinkNest "ConditionRows" (211 : Nat) "ConditionRows$Row" "op" "[I" "ConditionRows") ∈ zN := List.mem_of_getElem? (i := 16) rfl
theorem zn_17 : (Jvm.Cond.fieldLinkNest "ConditionRows" (220 : Nat) "ConditionRows$Row" "negated" "[Z" "ConditionRows") ∈ zN := List.mem_of_getElem? (i := 17) rfl
theorem zn_18 : (Jvm.Cond.fieldLinkNest "ConditionRows" (217 : Nat) "ConditionRows$Row" "object" "[I" "ConditionRows") ∈ zN := List.mem_of_getElem? (i := 18) rfl
theorem zn_19 : (Jvm.Cond.fieldLinkNest "ConditionRows" (214 : Nat) "ConditionRows$Row" "subject" "I" "ConditionRows") ∈ zN := List.mem_of_getElem? (i := 19) rfl
theorem zn_20 : (Jvm.Cond.fieldLinkNest "ConditionRows" (131 : Nat) "ConditionRows$Row" "carried" "I" "ConditionRows") ∈ zN := List.mem_of_getElem? (i := 20) rfl
theorem zn_21 : (Jvm.Cond.fieldLinkNest "ConditionRows" (127 : Nat) "ConditionRows$Row" "length" "I" "ConditionRows") ∈ zN := List.mem_of_getElem? (i := 21) rfl
theorem zn_22 : (Jvm.Cond.methodLinkNest "ConditionRows" (46 : Nat) ({ cls := "ConditionRows$Testing", name := "<init>", desc := "()V" } : Jvm.MethodName) "ConditionRows") ∈ zN := List.mem_of_getElem? (i := 22) rfl
theorem zn_23 : (Jvm.Cond.fieldLinkNest "ConditionRows" (248 : Nat) "ConditionRows$Testing" "outcome" "[I" "ConditionRows") ∈ zN := List.mem_of_getElem? (i := 23) rfl
theorem zn_24 : (Jvm.Cond.fieldLinkNest "ConditionRows" (170 : Nat) "ConditionRows$Testing" "leaves" "[I" "ConditionRows") ∈ zN := List.mem_of_getElem? (i := 24) rfl
theorem zn_25 : (Jvm.Cond.fieldLinkNest "ConditionRows" (232 : Nat) "ConditionRows$Testing" "waiting" "[I" "ConditionRows") ∈ zN := List.mem_of_getElem? (i := 25) rfl
theorem zn_26 : (Jvm.Cond.fieldLinkNest "ConditionRows" (167 : Nat) "ConditionRows$Testing" "noted" "I" "ConditionRows") ∈ zN := List.mem_of_getElem? (i := 26) rfl
theorem zn_27 : (Jvm.Cond.fieldLinkNest "ConditionRows" (229 : Nat) "ConditionRows$Testing" "depth" "I" "ConditionRows") ∈ zN := List.mem_of_getElem? (i := 27) rfl
theorem zn_28 : (Jvm.Cond.methodLinkNest "ConditionRows$Names" (33 : Nat) ({ cls := "ConditionRows", name := "isBelowUnsigned", desc := "(JJ)Z" } : Jvm.MethodName) "ConditionRows") ∈ zN := List.mem_of_getElem? (i := 28) rfl
theorem zn_29 : (Jvm.Cond.fieldLinkNest "ConditionRows$Fields" (67 : Nat) "ConditionRows" "TENS" "[J" "ConditionRows") ∈ zN := List.mem_of_getElem? (i := 29) rfl
end
section
/-! our frame: a world of fixed cells, what a method is given (zPc), what it hands back (zQi ..), its calls -/
abbrev zK : Type := Nat × ClassId × ClassId × ClassId
def zty (k : zK) : List (ClassId × FieldType) := [(k.2.1, .int), (k.2.2.1, .long), (k.2.2.2, .boolean)]
def zA (n : Nat) (a : Nat → Nat) : Nat → Prop := fun q => ∃ j, j < n ∧ q = a j
def zI (n : Nat) (a : Nat → Nat) : Prop := ∀ i j, i < n → j < n → a i = a j → i = j
theorem zDg {n : Nat} {a : Nat → Nat} {ws : va_W} (hI : zI n a) (h : ws.map (fun q => q.1) = (List.range n).map a) : va_D (zA n a) ws := by
  have key : ∀ (i : Nat) (p : Nat × va_E), ws[i]? = some p → i < n ∧ p.1 = a i := by
    intro i p hp
    have h1 : (ws.map (fun q => q.1))[i]? = some p.1 := by rw [List.getElem?_map, hp]; rfl
    rw [h, List.getElem?_map] at h1
    by_cases hi : i < n
    · rw [List.getElem?_range hi] at h1
      exact ⟨hi, (Option.some.inj h1).symm⟩
    · rw [List.getElem?_eq_none (by simp; omega)] at h1
      cases h1
  refine ⟨fun i j p q hp hq e => ?_, fun i p hp => ?_⟩
  · obtain ⟨h1, h2⟩ := key i p hp
    obtain ⟨h3, h4⟩ := key j q hq
    exact hI i j h1 h3 (by rw [← h2, ← h4]; exact e)
  · obtain ⟨h1, h2⟩ := key i p hp
    exact ⟨i, h1, h2⟩
def zNk : Cond → Bool
  | .fieldLinkNest .. => true
  | .methodLinkNest .. => true
  | _ => false
theorem zNk_at {w : Cond} (h : zNk w = true) {s U : State} (hW : s.WarmedH U.vm) (hz : va_Nw w s) : va_Nw w U := by
  cases w <;> first | exact va_Nw.warmF hW hz | exact va_Nw.warmM hW hz | (exact absurd h (by simp [zNk]))
theorem zN_k : ∀ w ∈ zN, zNk w = true := by decide +kernel
def tensL : List Int64 := [1, 10, 100, 1000, 10000, 100000, 1000000, 10000000, 100000000, 1000000000]
def tens (j : Nat) : Int64 := tensL.getD j 0
/-- the surroundings: the tables, the nest's links, the class's one static table -/
def zE (D : va_G) (k : zK) (A : Nat → Prop) (U : State) : Prop := va_K D vwCl (zty k) U ∧ (∀ w ∈ zN, va_Nw w U) ∧ va_Z "ConditionRows" "TENS" "[J" (.ref k.1) A U U.heap ∧ va_T .long k.1 10 (fun j => .long (tens j)) A U U.heap
theorem zE.to {D : va_G} {k : zK} {A : Nat → Prop} {s U : State} {H : Heap} (h : zE D k A s) (hq : ∀ q : Nat, q < s.heap.size → ¬ A q → H[q]? = s.heap[q]?) (hW : s.WarmedH U.vm) (hU : U.heap = H) : zE D k A U := by
  obtain ⟨h1, h2, h3, h4⟩ := h
  refine ⟨va_K.moved hW.alike h1, fun w hw => zNk_at (zN_k w hw) hW (h2 w hw), ?_, ?_⟩
  · rw [hU]; exact va_Z.moved hW.alike (h3.kept hq)
  · rw [hU]; exact va_T.moved hW.alike (h4.kept hq)
theorem zE.blind {D : va_G} {k : zK} {A : Nat → Prop} {U : State} (h : zE D k A U) (g : JFrame) (mk : MethodId) (a : Array Value) : zE D k A (U.calling g mk a) :=
  h.to (fun _ _ _ => rfl) (State.WarmedH.refl U) rfl
def zPc (D : va_G) (k : zK) (A : Nat → Prop) (w : va_W) (av : List Value) : Array Value → State → Prop := va_Pc av (fun U => va_P D vwCl w U.heap ∧ zE D k A U)
theorem zpreS {D : va_G} {k : zK} {A : Nat → Prop} {w : va_W} {s : State} {H : Heap} {As : List Value} (hP : va_P D vwCl w H) (hE : zE D k A s) (hq : ∀ q : Nat, q < s.heap.size → ¬ A q → H[q]? = s.heap[q]?) : PreS s H (zPc D k A w As) As :=
  ⟨fun a U g mk q => ⟨q.1, q.2.1, q.2.2.blind g mk a⟩, fun U hU hW => ⟨rfl, by rw [hU]; exact hP, hE.to hq hW hU⟩⟩
theorem zpre {D : va_G} {k : zK} {A : Nat → Prop} {w : va_W} {s : State} {H : Heap} {As : List Value} {C : String} {b : Addr} (hP : va_P D vwCl w H) (hE : zE D k A s) (hq : ∀ q : Nat, q < s.heap.size → ¬ A q → H[q]? = s.heap[q]?) (hr : ∃ cellB : Cell, H[b]? = some cellB ∧ cellB.vm.isStatics = false ∧ s.vm.findClass C = some cellB.cls) : PreV s H C b (zPc D k A w (.ref b :: As)) As :=
  ⟨fun a U g mk q => ⟨q.1, q.2.1, q.2.2.blind g mk a⟩, hr, fun U hU hW => ⟨rfl, by rw [hU]; exact hP, hE.to hq hW hU⟩⟩
def zQi {S : Type} (D : va_G) (w : S → va_W) (A : Nat → Prop) (rs : Int32 × S) : Array Value → State → Outcome → State → Prop := fun _ st oc t => oc = .returned (some (.int rs.1)) ∧ va_P D vwCl (w rs.2) t.heap ∧ va_F A st t
def zQl {S : Type} (D : va_G) (w : S → va_W) (A : Nat → Prop) (rs : Int64 × S) : Array Value → State → Outcome → State → Prop := fun _ st oc t => oc = .returned (some (.long rs.1)) ∧ va_P D vwCl (w rs.2) t.heap ∧ va_F A st t
def zQv {S : Type} (D : va_G) (w : S → va_W) (A : Nat → Prop) (u : S) : Array Value → State → Outcome → State → Prop := fun _ st oc t => oc = .returned none ∧ va_P D vwCl (w u) t.heap ∧ va_F A st t
def zC (p : Program) (s : State) (m : MethodId) (args : Array Value) (meth : Method) (c : Code) (cc : ByteArray) (ret : Option FieldType) (nL : Nat) (own : String) (ws : List Cond) (D : va_G) (k : zK) (A : Nat → Prop) : Prop :=
  p.tables.exec = Jvm.exec ∧ c.code = cc ∧ meth.sig.returnType = ret ∧ c.maxLocals = nL ∧ s.vm.findClass own = some m.cls ∧ (∀ w ∈ ws, w.before args s = true) ∧ meth.locks = false ∧ zE D k A s
theorem zt {α : Sort _} {c : Prop} [Decidable c] {a b t : α} (h : c) (e : (if c then a else b) = t) : a = t := (if_pos h).symm.trans e
theorem zn {α : Sort _} {c : Prop} [Decidable c] {a b t : α} (h : ¬ c) (e : (if c then a else b) = t) : b = t := (if_neg h).symm.trans e
theorem zgt {c : Prop} [Decidable c] {A B : Prop} (h : c) (e : if c then A else B) : A := by rw [if_pos h] at e; exact e
theorem zgn {c : Prop} [Decidable c] {A B : Prop} (h : ¬ c) (e : if c then A else B) : B := by rw [if_neg h] at e; exact e
theorem zb {x : Int32} (h : x = 0 ∨ x = 1) : narrow .boolean (.int x) = .int x := by rcases h with h | h <;> (subst h; rfl)
def zlet {α : Type} {β : Sort _} (x : α) (f : α → β) : β := f x
theorem zlets {S β : Type} {E : S} {w : S → va_W} {D : va_G} {H : Heap} {f : S → β} {t : β} {g : S → Prop} (hP : va_P D vwCl (w E) H) (hf : zlet E f = t) (hg : zlet E g) : ∃ z, va_P D vwCl (w z) H ∧ f z = t ∧ g z := ⟨E, hP, hf, hg⟩
section ZM
variable {p : Program} {l : Launch} {e : Env} {R : Room} {s : State} {m : MethodId} {args : Array Value} {below : List Frame} {meth : Method} {c : Code} {H : Heap} {locs : List Loc} {cells slots : Nat} {Q : State → Prop}
variable {pc : Nat} {ls : Array Slot} {rest st0 : List Value} {a : Array Value} {A A0 : Nat → Prop} {H0 : Heap} {D : va_G} {S : Type} {w : S → va_W}
theorem zS_call {L : List Loc} {st₀ t T' : State} (hS : va_S A0 H0 H locs) (hA : ∀ q, A q → A0 q) (h0 : st₀.heap = H) (e1 : T'.heap = t.heap) (hL : ∀ q ∈ L, A q.base) (hF : va_F A st₀ t) : va_S A0 H0 T'.heap (locs ++ L) ∧ H.size ≤ T'.heap.size ∧ ∀ q : Nat, q < H.size → ¬ A q → T'.heap[q]? = H[q]? := by
  obtain ⟨f1, f2⟩ := hF
  rw [h0] at f1 f2
  rw [e1]
  refine ⟨⟨Nat.le_trans hS.1 f1, fun q h1 h2 => ?_, fun q hq => ?_⟩, f1, f2⟩
  · rw [f2 q (Nat.lt_of_lt_of_le h1 hS.1) (fun z => h2 (hA q z))]
    exact hS.2.1 q h1 h2
  · rcases List.mem_append.mp hq with h | h
    · exact hS.2.2 q h
    · exact hA _ (hL q h)
theorem zmuI {rs : Int32 × S} (hr : CallRun p l e R s m args below meth c H locs cells slots 0 0 (F0 m pc ls st0) rest (zQi D w A rs a) A) (hS : va_S A0 H0 H locs) (hA : ∀ q, A q → A0 q)
    (kk : ∀ (H1 : Heap) (locs1 : List Loc), va_P D vwCl (w rs.2) H1 → va_S A0 H0 H1 locs1 → H.size ≤ H1.size → (∀ q : Nat, q < H.size → ¬ A q → H1[q]? = H[q]?) → W p l e R s m args below meth c H1 locs1 cells slots Q (F0 m (pc + 3) ls (.int rs.1 :: rest))) : W p l e R s m args below meth c H locs cells slots Q (F0 m pc ls st0) := by
  intro T hT X
  obtain ⟨v, st₀, t, T', L, h0, X', hL, e1, ⟨hv, hp, hF⟩, st⟩ := hr T hT X
  cases hv
  obtain ⟨g1, g2, g3⟩ := zS_call (T' := T') hS hA h0 e1 hL hF
  obtain ⟨t2, a1, b1⟩ := kk T'.heap (locs ++ L) (by rw [e1]; exact hp) g1 g2 g3 T' rfl X'
  exact ⟨t2, st t2 a1, b1⟩
theorem zmuL {rs : Int64 × S} (hr : CallRun p l e R s m args below meth c H locs cells slots 0 0 (F0 m pc ls st0) rest (zQl D w A rs a) A) (hS : va_S A0 H0 H locs) (hA : ∀ q, A q → A0 q)
    (kk : ∀ (H1 : Heap) (locs1 : List Loc), va_P D vwCl (w rs.2) H1 → va_S A0 H0 H1 locs1 → H.size ≤ H1.size → (∀ q : Nat, q < H.size → ¬ A q → H1[q]? = H[q]?) → W p l e R s m args below meth c H1 locs1 cells slots Q (F0 m (pc + 3) ls (.long rs.1 :: rest))) : W p l e R s m args below meth c H locs cells slots Q (F0 m pc ls st0) := by
  intro T hT X
  obtain ⟨v, st₀, t, T', L, h0, X', hL, e1, ⟨hv, hp, hF⟩, st⟩ := hr T hT X
  cases hv
  obtain ⟨g1, g2, g3⟩ := zS_call (T' := T') hS hA h0 e1 hL hF
  obtain ⟨t2, a1, b1⟩ := kk T'.heap (locs ++ L) (by rw [e1]; exact hp) g1 g2 g3 T' rfl X'
  exact ⟨t2, st t2 a1, b1⟩
theorem zmuV {u : S} (hr : CallRun p l e R s m args below meth c H locs cells slots 0 0 (F0 m pc ls st0) rest (zQv D w A u a) A) (hS : va_S A0 H0 H locs) (hA : ∀ q, A q → A0 q)
    (kk : ∀ (H1 : Heap) (locs1 : List Loc), va_P D vwCl (w u) H1 → va_S A0 H0 H1 locs1 → H.size ≤ H1.size → (∀ q : Nat, q < H.size → ¬ A q → H1[q]? = H[q]?) → W p l e R s m args below meth c H1 locs1 cells slots Q (F0 m (pc + 3) ls rest)) : W p l e R s m args below meth c H locs cells slots Q (F0 m pc ls st0) := by
  intro T hT X
  obtain ⟨v, st₀, t, T', L, h0, X', hL, e1, ⟨hv, hp, hF⟩, st⟩ := hr T hT X
  cases hv
  obtain ⟨g1, g2, g3⟩ := zS_call (T' := T') hS hA h0 e1 hL hF
  obtain ⟨t2, a1, b1⟩ := kk T'.heap (locs ++ L) (by rw [e1]; exact hp) g1 g2 g3 T' rfl X'
  exact ⟨t2, st t2 a1, b1⟩
theorem zmui {rs : Int32 × S} {β : Type} {ff : Int32 × S → β} {tt : β} {gg : Int32 × S → Prop} (hr : CallRun p l e R s m args below meth c H locs cells slots 0 0 (F0 m pc ls st0) rest (zQi D w A rs a) A) (hS : va_S A H0 H locs) (hf : zlet rs ff = tt) (hg : zlet rs gg)
    (kk : ∀ (r : Int32 × S) (H1 : Heap) (locs1 : List Loc), ff r = tt → gg r → va_P D vwCl (w r.2) H1 → va_S A H0 H1 locs1 → W p l e R s m args below meth c H1 locs1 cells slots Q (F0 m (pc + 3) ls (.int r.1 :: rest))) : W p l e R s m args below meth c H locs cells slots Q (F0 m pc ls st0) :=
  zmuI hr hS (fun _ h => h) (fun H1 locs1 h1 h2 _ _ => kk rs H1 locs1 hf hg h1 h2)
theorem zmul {rs : Int64 × S} {β : Type} {ff : Int64 × S → β} {tt : β} {gg : Int64 × S → Prop} (hr : CallRun p l e R s m args below meth c H locs cells slots 0 0 (F0 m pc ls st0) rest (zQl D w A rs a) A) (hS : va_S A H0 H locs) (hf : zlet rs ff = tt) (hg : zlet rs gg)
    (kk : ∀ (r : Int64 × S) (H1 : Heap) (locs1 : List Loc), ff r = tt → gg r → va_P D vwCl (w r.2) H1 → va_S A H0 H1 locs1 → W p l e R s m args below meth c H1 locs1 cells slots Q (F0 m (pc + 3) ls (.long r.1 :: rest))) : W p l e R s m args below meth c H locs cells slots Q (F0 m pc ls st0) :=
  zmuL hr hS (fun _ h => h) (fun H1 locs1 h1 h2 _ _ => kk rs H1 locs1 hf hg h1 h2)
theorem zmuv {u : S} {β : Type} {ff : S → β} {tt : β} {gg : S → Prop} (hr : CallRun p l e R s m args below meth c H locs cells slots 0 0 (F0 m pc ls st0) rest (zQv D w A u a) A) (hS : va_S A H0 H locs) (hf : zlet u ff = tt) (hg : zlet u gg)
    (kk : ∀ (r : S) (H1 : Heap) (locs1 : List Loc), ff r = tt → gg r → va_P D vwCl (w r) H1 → va_S A H0 H1 locs1 → W p l e R s m args below meth c H1 locs1 cells slots Q (F0 m (pc + 3) ls rest)) : W p l e R s m args below meth c H locs cells slots Q (F0 m pc ls st0) :=
  zmuV hr hS (fun _ h => h) (fun H1 locs1 h1 h2 _ _ => kk u H1 locs1 hf hg h1 h2)
theorem zRun {mc ms : Nat} {g : JFrame} {Qa : State → Outcome → State → Prop} {free : Addr → Prop} (h : va_Run p l e R s m args below meth c H locs cells slots mc ms g rest Qa free) : CallRun p l e R s m args below meth c H locs cells slots mc ms g rest Qa free := by
  intro T hT X
  obtain ⟨v, st₀, t, T', L, h0, X', hL, e1, -, hq, st⟩ := h T hT X
  exact ⟨v, st₀, t, T', L, h0, X', hL, e1, hq, st⟩
end ZM
end
section
abbrev XS : Type := Int32 × Int32 × (Nat → Int32) × (Nat → Int32) × (Nat → Int32) × (Nat → Int32) × (Nat → Int32) × Int32 × (Nat → Int32) × (Nat → Int32) × (Nat → Int64) × (Nat → Int64) × Int32 × (Nat → Int32) × (Nat → Int32) × (Nat → Int32) × Int32 × Int32 × Int32 × (Nat → Int32) × (Nat → Int32) × (Nat → Int32) × (Nat → Int32) × Int32 × Int32 × (Nat → Int32) × (Nat → Int32) × (Nat → Int32) × (Nat → Int32) × (Nat → Int32) × (Nat → Int32)
def Xg_whole (u : XS) : Int32 := u.1
def Xg_fields_made (u : XS) : Int32 := u.2.1
def Xg_fields_category (u : XS) : Nat → Int32 := u.2.2.1
def Xg_fields_size (u : XS) : Nat → Int32 := u.2.2.2.1
def Xg_fields_scale (u : XS) : Nat → Int32 := u.2.2.2.2.1
def Xg_fields_bytes (u : XS) : Nat → Int32 := u.2.2.2.2.2.1
def Xg_weights_of (u : XS) : Nat → Int32 := u.2.2.2.2.2.2.1
def Xg_names_made (u : XS) : Int32 := u.2.2.2.2.2.2.2.1
def Xg_names_field (u : XS) : Nat → Int32 := u.2.2.2.2.2.2.2.2.1
def Xg_names_ranges (u : XS) : Nat → Int32 := u.2.2.2.2.2.2.2.2.2.1
def Xg_names_low (u : XS) : Nat → Int64 := u.2.2.2.2.2.2.2.2.2.2.1
def Xg_names_high (u : XS) : Nat → Int64 := u.2.2.2.2.2.2.2.2.2.2.2.1
def Xg_nodes_made (u : XS) : Int32 := u.2.2.2.2.2.2.2.2.2.2.2.2.1
def Xg_nodes_op (u : XS) : Nat → Int32 := u.2.2.2.2.2.2.2.2.2.2.2.2.2.1
def Xg_nodes_a (u : XS) : Nat → Int32 := u.2.2.2.2.2.2.2.2.2.2.2.2.2.2.1
def Xg_nodes_b (u : XS) : Nat → Int32 := u.2.2.2.2.2.2.2.2.2.2.2.2.2.2.2.1
def Xg_row_subject (u : XS) : Int32 := u.2.2.2.2.2.2.2.2.2.2.2.2.2.2.2.2.1
def Xg_row_carried (u : XS) : Int32 := u.2.2.2.2.2.2.2.2.2.2.2.2.2.2.2.2.2.1
def Xg_row_length (u : XS) : Int32 := u.2.2.2.2.2.2.2.2.2.2.2.2.2.2.2.2.2.2.1
def Xg_row_with (u : XS) : Nat → Int32 := u.2.2.2.2.2.2.2.2.2.2.2.2.2.2.2.2.2.2.2.1
def Xg_row_op (u : XS) : Nat → Int32 := u.2.2.2.2.2.2.2.2.2.2.2.2.2.2.2.2.2.2.2.2.1
def Xg_row_negated (u : XS) : Nat → Int32 := u.2.2.2.2.2.2.2.2.2.2.2.2.2.2.2.2.2.2.2.2.2.1
def Xg_row_object (u : XS) : Nat → Int32 := u.2.2.2.2.2.2.2.2.2.2.2.2.2.2.2.2.2.2.2.2.2.2.1
def Xg_testing_noted (u : XS) : Int32 := u.2.2.2.2.2.2.2.2.2.2.2.2.2.2.2.2.2.2.2.2.2.2.2.1
def Xg_testing_depth (u : XS) : Int32 := u.2.2.2.2.2.2.2.2.2.2.2.2.2.2.2.2.2.2.2.2.2.2.2.2.1
def Xg_testing_outcome (u : XS) : Nat → Int32 := u.2.2.2.2.2.2.2.2.2.2.2.2.2.2.2.2.2.2.2.2.2.2.2.2.2.1
def Xg_testing_leaves (u : XS) : Nat → Int32 := u.2.2.2.2.2.2.2.2.2.2.2.2.2.2.2.2.2.2.2.2.2.2.2.2.2.2.1
def Xg_testing_waiting (u : XS) : Nat → Int32 := u.2.2.2.2.2.2.2.2.2.2.2.2.2.2.2.2.2.2.2.2.2.2.2.2.2.2.2.1
def Xg_switches (u : XS) : Nat → Int32 := u.2.2.2.2.2.2.2.2.2.2.2.2.2.2.2.2.2.2.2.2.2.2.2.2.2.2.2.2.1
def Xg_leftText (u : XS) : Nat → Int32 := u.2.2.2.2.2.2.2.2.2.2.2.2.2.2.2.2.2.2.2.2.2.2.2.2.2.2.2.2.2.1
def Xg_rightText (u : XS) : Nat → Int32 := u.2.2.2.2.2.2.2.2.2.2.2.2.2.2.2.2.2.2.2.2.2.2.2.2.2.2.2.2.2.2
def Xs_whole (u : XS) (v : Int32) : XS := (v, u.2.1, u.2.2.1, u.2.2.2.1, u.2.2.2.2.1, u.2.2.2.2.2.1, u.2.2.2.2.2.2.1, u.2.2.2.2.2.2.2.1, u.2.2.2.2.2.2.2.2.1, u.2.2.2.2.2.2.2.2.2.1, u.2.2.2.2.2.2.2.2.2.2.1, u.2.2.2.2.2.2.2.2.2.2.2.1, u.2.2.2.2.2.2.2.2.2.2.2.2.1, u.2.2.2.2.2.2.2.2.2.2.2.2.2.1, u.2.2.2.2.2.2.2.2.2.2.2.2.2.2.1, u.2.2.2.2.2.2.2.2.2.2.2.2.2.2.2.1, u.2.2.2.2.2.2.2.2.2.2.2.2.2.2.2.2.1, u.2.2.2.2.2.2.2.2.2.2.2.2.2.2.2.2.2.1, u.2.2.2.2.2.2.2.2.2.2.2.2.2.2.2.2.2.2.1, u.2.2.2.2.2.2.2.2.2.2.2.2.2.2.2.2.2.2.2.1, u.2.2.2.2.2.2.2.2.2.2.2.2.2.2.2.2.2.2.2.2.1, u.2.2.2.2.2.2.2.2.2.2.2.2.2.2.2.2.2.2.2.2.2.1, u.2.2.2.2.2.2.2.2.2.2.2.2.2.2.2.2.2.2.2.2.2.2.1, u.2.2.2.2.2.2.2.2.2.2.2.2.2.2.2.2.2.2.2.2.2.2.2.1, u.2.2.2.2.2.2.2.2.2.2.2.2.2.2.2.2.2.2.2.2.2.2.2.2.1, u.2.2.2.2.2.2.2.2.2.2.2.2.2.2.2.2.2.2.2.2.2.2.2.2.2.1, u.2.2.2.2.2.2.2.2.2.2.2.2.2.2.2.2.2.2.2.2.2.2.2.2.2.2.1, u.2.2.2.2.2.2.2.2.2.2.2.2.2.2.2.2.2.2.2.2.2.2.2.2.2.2.2.1, u.2.2.2.2.2.2.2.2.2.2.2.2.2.2.2.2.2.2.2.2.2.2.2.2.2.2.2.2.1, u.2.2.2.2.2.2.2.2.2.2.2.2.2.2.2.2.2.2.2.2.2.2.2.2.2.2.2.2.2.1, u.2.2.2.2.2.2.2.2.2.2.2.2.2.2.2.2.2.2.2.2.2.2.2.2.2.2.2.2.2.2)
def Xs_fields_made (u : XS) (v : Int32) : XS := (u.1, v, u.2.2.1, u.2.2.2.1, u.2.2.2.2.1, u.2.2.2.2.2.1, u.2.2.2.2.2.2.1, u.2.2.2.2.2.2.2.1, u.2.2.2.2.2.2.2.2.1, u.2.2.2.2.2.2.2.2.2.1, u.2.2.2.2.2.2.2.2.2.2.1, u.2.2.2.2.2.2.2.2.2.2.2.1, u.2.2.2.2.2.2.2.2.2.2.2.2.1, u.2.2.2.2.2.2.2.2.2.2.2.2.2.1, u.2.2.2.2.2.2.2.2.2.2.2.2.2.2.1, u.2.2.2.2.2.2.2.2.2.2.2.2.2.2.2.1, u.2.2.2.2.2.2.2.2.2.2.2.2.2.2.2.2.1, u.2.2.2.2.2.2.2.2.2.2.2.2.2.2.2.2.2.1, u.2.2.2.2.2.2.2.2.2.2.2.2.2.2.2.2.2.2.1, u.2.2.2.2.2.2.2.2.2.2.2.2.2.2.2.2.2.2.2.1, u.2.2.2.2.2.2.2.2.2.2.2.2.2.2.2.2.2.2.2.2.1, u.2.2.2.2.2.2.2.2.2.2.2.2.2.2.2.2.2.2.2.2.2.1, u.2.2.2.2.2.2.2.2.2.2.2.2.2.2.2.2.2.2.2.2.2.2.1, u.2.2.2.2.2.2.2.2.2.2.2.2.2.2.2.2.2.2.2.2.2.2.2.1, u.2.2.2.2.2.2.2.2.2.2.2.2.2.2.2.2.2.2.2.2.2.2.2.2.1, u.2.2.2.2.2.2.2.2.2.2.2.2.2.2.2.2.2.2.2.2.2.2.2.2.2.1, u.2.2.2.2.2.2.2.2.2.2.2.2.2.2.2.2.2.2.2.2.2.2.2.2.2.2.1, u.2.2.2.2.2.2.2.2.2.2.2.2.2.2.2.2.2.2.2.2.2.2.2.2.2.2.2.1, u.2.2.2.2.2.2.2.2.2.2.2.2.2.2.2.2.2.2.2.2.2.2.2.2.2.2.2.2.1, u.2.2.2.2.2.2.2.2.2.2.2.2.2.2.2.2.2.2.2.2.2.2.2.2.2.2.2.2.2.1, u.2.2.2.2.2.2.2.2.2.2.2.2.2.2.2.2.2.2.2.2.2.2.2.2.2.2.2.2.2.2)
def Xs_fields_category (u : XS) (v : Nat → Int32) : XS := (u.1, u.2.1, v, u.2.2.2.1, u.2.2.2.2.1, u.2.2.2.2.2.1, u.2.2.2.2.2.2.1, u.2.2.2.2.2.2.2.1, u.2.2.2.2.2.2.2.2.1, u.2.2.2.2.2.2.2.2.2.1, u.2.2.2.2.2.2.2.2.2.2.1, u.2.2.2.2.2.2.2.2.2.2.2.1, u.2.2.2.2.2.2.2.2.2.2.2.2.1, u.2.2.2.2.2.2.2.2.2.2.2.2.2.1, u.2.2.2.2.2.2.2.2.2.2.2.2.2.2.1, u.2.2.2.2.2.2.2.2.2.2.2.2.2.2.2.1, u.2.2.2.2.2.2.2.2.2.2.2.2.2.2.2.2.1, u.2.2.2.2.2.2.2.2.2.2.2.2.2.2.2.2.2.1, u.2.2.2.2.2.2.2.2.2.2.2.2.2.2.2.2.2.2.1, u.2.2.2.2.2.2.2.2.2.2.2.2.2.2.2.2.2.2.2.1, u.2.2.2.2.2.2.2.2.2.2.2.2.2.2.2.2.2.2.2.2.1, u.2.2.2.2.2.2.2.2.2.2.2.2.2.2.2.2.2.2.2.2.2.1, u.2.2.2.2.2.2.2.2.2.2.2.2.2.2.2.2.2.2.2.2.2.2.1, u.2.2.2.2.2.2.2.2.2.2.2.2.2.2.2.2.2.2.2.2.2.2.2.1, u.2.2.2.2.2.2.2.2.2.2.2.2.2.2.2.2.2.2.2.2.2.2.2.2.1, u.2.2.2.2.2.2.2.2.2.2.2.2.2.2.2.2.2.2.2.2.2.2.2.2.2.1, u.2.2.2.2.2.2.2.2.2.2.2.2.2.2.2.2.2.2.2.2.2.2.2.2.2.2.1, u.2.2.2.2.2.2.2.2.2.2.2.2.2.2.2.2.2.2.2.2.2.2.2.2.2.2.2.1, u.2.2.2.2.2.2.2.2.2.2.2.2.2.2.2.2.2.2.2.2.2.2.2.2.2.2.2.2.1, u.2.2.2.2.2.2.2.2.2.2.2.2.2.2.2.2.2.2.2.2.2.2.2.2.2.2.2.2.2.1, u.2.2.2.2.2.2.2.2.2.2.2.2.2.2.2.2.2.2.2.2.2.2.2.2.2.2.2.2.2.2)
def Xs_fields_size (u : XS) (v : Nat → Int32) : XS := (u.1, u.2.1, u.2.2.1, v, u.2.2.2.2.1, u.2.2.2.2.2.1, u.2.2.2.2.2.2.1, u.2.2.2.2.2.2.2.1, u.2.2.2.2.2.2.2.2.1, u.2.2.2.2.2.2.2.2.2.1, u.2.2.2.2.2.2.2.2.2.2.1, u.2.2.2.2.2.2.2.2.2.2.2.1, u.2.2.2.2.2.2.2.2.2.2.2.2.1, u.2.2.2.2.2.2.2.2.2.2.2.2.2.1, u.2.2.2.2.2.2.2.2.2.2.2.2.2.2.1, u.2.2.2.2.2.2.2.2.2.2.2.2.2.2.2.1, u.2.2.2.2.2.2.2.2.2.2.2.2.2.2.2.2.1, u.2.2.2.2.2.2.2.2.2.2.2.2.2.2.2.2.2.1, u.2.2.2.2.2.2.2.2.2.2.2.2.2.2.2.2.2.2.1, u.2.2.2.2.2.2.2.2.2.2.2.2.2.2.2.2.2.2.2.1, u.2.2.2.2.2.2.2.2.2.2.2.2.2.2.2.2.2.2.2.2.1, u.2.2.2.2.2.2.2.2.2.2.2.2.2.2.2.2.2.2.2.2.2.1, u.2.2.2.2.2.2.2.2.2.2.2.2.2.2.2.2.2.2.2.2.2.2.1, u.2.2.2.2.2.2.2.2.2.2.2.2.2.2.2.2.2.2.2.2.2.2.2.1, u.2.2.2.2.2.2.2.2.2.2.2.2.2.2.2.2.2.2.2.2.2.2.2.2.1, u.2.2.2.2.2.2.2.2.2.2.2.2.2.2.2.2.2.2.2.2.2.2.2.2.2.1, u.2.2.2.2.2.2.2.2.2.2.2.2.2.2.2.2.2.2.2.2.2.2.2.2.2.2.1, u.2.2.2.2.2.2.2.2.2.2.2.2.2.2.2.2.2.2.2.2.2.2.2.2.2.2.2.1, u.2.2.2.2.2.2.2.2.2.2.2.2.2.2.2.2.2.2.2.2.2.2.2.2.2.2.2.2.1, u.2.2.2.2.2.2.2.2.2.2.2.2.2.2.2.2.2.2.2.2.2.2.2.2.2.2.2.2.2.1, u.2.2.2.2.2.2.2.2.2.2.2.2.2.2.2.2.2.2.2.2.2.2.2.2.2.2.2.2.2.2)
def Xs_fields_scale (u : XS) (v : Nat → Int32) : XS := (u.1, u.2.1, u.2.2.1, u.2.2.2.1, v, u.2.2.2.2.2.1, u.2.2.2.2.2.2.1, u.2.2.2.2.2.2.2.1, u.2.2.2.2.2.2.2.2.1, u.2.2.2.2.2.2.2.2.2.1, u.2.2.2.2.2.2.2.2.2.2.1, u.2.2.2.2.2.2.2.2.2.2.2.1, u.2.2.2.2.2.2.2.2.2.2.2.2.1, u.2.2.2.2.2.2.2.2.2.2.2.2.2.1, u.2.2.2.2.2.2.2.2.2.2.2.2.2.2.1, u.2.2.2.2.2.2.2.2.2.2.2.2.2.2.2.1, u.2.2.2.2.2.2.2.2.2.2.2.2.2.2.2.2.1, u.2.2.2.2.2.2.2.2.2.2.2.2.2.2.2.2.2.1, u.2.2.2.2.2.2.2.2.2.2.2.2.2.2.2.2.2.2.1, u.2.2.2.2.2.2.2.2.2.2.2.2.2.2.2.2.2.2.2.1, u.2.2.2.2.2.2.2.2.2.2.2.2.2.2.2.2.2.2.2.2.1, u.2.2.2.2.2.2.2.2.2.2.2.2.2.2.2.2.2.2.2.2.2.1, u.2.2.2.2.2.2.2.2.2.2.2.2.2.2.2.2.2.2.2.2.2.2.1, u.2.2.2.2.2.2.2.2.2.2.2.2.2.2.2.2.2.2.2.2.2.2.2.1, u.2.2.2.2.2.2.2.2.2.2.2.2.2.2.2.2.2.2.2.2.2.2.2.2.1, u.2.2.2.2.2.2.2.2.2.2.2.2.2.2.2.2.2.2.2.2.2.2.2.2.2.1, u.2.2.2.2.2.2.2.2.2.2.2.2.2.2.2.2.2.2.2.2.2.2.2.2.2.2.1, u.2.2.2.2.2.2.2.2.2.2.2.2.2.2.2.2.2.2.2.2.2.2.2.2.2.2.2.1, u.2.2.2.2.2.2.2.2.2.2.2.2.2.2.2.2.2.2.2.2.2.2.2.2.2.2.2.2.1, u.2.2.2.2.2.2.2.2.2.2.2.2.2.2.2.2.2.2.2.2.2.2.2.2.2.2.2.2.2.1, u.2.2.2.2.2.2.2.2.2.2.2.2.2.2.2.2.2.2.2.2.2.2.2.2.2.2.2.2.2.2)
def Xs_fields_bytes (u : XS) (v : Nat → Int32) : XS := (u.1, u.2.1, u.2.2.1, u.2.2.2.1, u.2.2.2.2.1, v, u.2.2.2.2.2.2.1, u.2.2.2.2.2.2.2.1, u.2.2.2.2.2.2.2.2.1, u.2.2.2.2.2.2.2.2.2.1, u.2.2.2.2.2.2.2.2.2.2.1, u.2.2.2.2.2.2.2.2.2.2.2.1, u.2.2.2.2.2.2.2.2.2.2.2.2.1, u.2.2.2.2.2.2.2.2.2.2.2.2.2.1, u.2.2.2.2.2.2.2.2.2.2.2.2.2.2.1, u.2.2.2.2.2.2.2.2.2.2.2.2.2.2.2.1, u.2.2.2.2.2.2.2.2.2.2.2.2.2.2.2.2.1, u.2.2.2.2.2.2.2.2.2.2.2.2.2.2.2.2.2.1, u.2.2.2.2.2.2.2.2.2.2.2.2.2.2.2.2.2.2.1, u.2.2.2.2.2.2.2.2.2.2.2.2.2.2.2.2.2.2.2.1, u.2.2.2.2.2.2.2.2.2.2.2.2.2.2.2.2.2.2.2.2.1, u.2.2.2.2.2.2.2.2.2.2.2.2.2.2.2.2.2.2.2.2.2.1, u.2.2.2.2.2.2.2.2.2.2.2.2.2.2.2.2.2.2.2.2.2.2.1, u.2.2.2.2.2.2.2.2.2.2.2.2.2.2.2.2.2.2.2.2.2.2.2.1, u.2.2.2.2.2.2.2.2.2.2.2.2.2.2.2.2.2.2.2.2.2.2.2.2.1, u.2.2.2.2.2.2.2.2.2.2.2.2.2.2.2.2.2.2.2.2.2.2.2.2.2.1, u.2.2.2.2.2.2.2.2.2.2.2.2.2.2.2.2.2.2.2.2.2.2.2.2.2.2.1, u.2.2.2.2.2.2.2.2.2.2.2.2.2.2.2.2.2.2.2.2.2.2.2.2.2.2.2.1, u.2.2.2.2.2.2.2.2.2.2.2.2.2.2.2.2.2.2.2.2.2.2.2.2.2.2.2.2.1, u.2.2.2.2.2.2.2.2.2.2.2.2.2.2.2.2.2.2.2.2.2.2.2.2.2.2.2.2.2.1, u.2.2.2.2.2.2.2.2.2.2.2.2.2.2.2.2.2.2.2.2.2.2.2.2.2.2.2.2.2.2)
def Xs_weights_of (u : XS) (v : Nat → Int32) : XS := (u.1, u.2.1, u.2.2.1, u.2.2.2.1, u.2.2.2.2.1, u.2.2.2.2.2.1, v, u.2.2.2.2.2.2.2.1, u.2.2.2.2.2.2.2.2.1, u.2.2.2.2.2.2.2.2.2.1, u.2.2.2.2.2.2.2.2.2.2.1, u.2.2.2.2.2.2.2.2.2.2.2.1, u.2.2.2.2.2.2.2.2.2.2.2.2.1, u.2.2.2.2.2.2.2.2.2.2.2.2.2.1, u.2.2.2.2.2.2.2.2.2.2.2.2.2.2.1, u.2.2.2.2.2.2.2.2.2.2.2.2.2.2.2.1, u.2.2.2.2.2.2.2.2.2.2.2.2.2.2.2.2.1, u.2.2.2.2.2.2.2.2.2.2.2.2.2.2.2.2.2.1, u.2.2.2.2.2.2.2.2.2.2.2.2.2.2.2.2.2.2.1, u.2.2.2.2.2.2.2.2.2.2.2.2.2.2.2.2.2.2.2.1, u.2.2.2.2.2.2.2.2.2.2.2.2.2.2.2.2.2.2.2.2.1, u.2.2.2.2.2.2.2.2.2.2.2.2.2.2.2.2.2.2.2.2.2.1, u.2.2.2.2.2.2.2.2.2.2.2.2.2.2.2.2.2.2.2.2.2.2.1, u.2.2.2.2.2.2.2.2.2.2.2.2.2.2.2.2.2.2.2.2.2.2.2.1, u.2.2.2.2.2.2.2.2.2.2.2.2.2.2.2.2.2.2.2.2.2.2.2.2.1, u.2.2.2.2.2.2.2.2.2.2.2.2.2.2.2.2.2.2.2.2.2.2.2.2.2.1, u.2.2.2.2.2.2.2.2.2.2.2.2.2.2.2.2.2.2.2.2.2.2.2.2.2.2.1, u.2.2.2.2.2.2.2.2.2.2.2.2.2.2.2.2.2.2.2.2.2.2.2.2.2.2.2.1, u.2.2.2.2.2.2.2.2.2.2.2.2.2.2.2.2.2.2.2.2.2.2.2.2.2.2.2.2.1, u.2.2.2.2.2.2.2.2.2.2.2.2.2.2.2.2.2.2.2.2.2.2.2.2.2.2.2.2.2.1, u.2.2.2.2.2.2.2.2.2.2.2.2.2.2.2.2.2.2.2.2.2.2.2.2.2.2.2.2.2.2)
def Xs_names_made (u : XS) (v : Int32) : XS := (u.1, u.2.1, u.2.2.1, u.2.2.2.1, u.2.2.2.2.1, u.2.2.2.2.2.1, u.2.2.2.2.2.2.1, v, u.2.2.2.2.2.2.2.2.1, u.2.2.2.2.2.2.2.2.2.1, u.2.2.2.2.2.2.2.2.2.2.1, u.2.2.2.2.2.2.2.2.2.2.2.1, u.2.2.2.2.2.2.2.2.2.2.2.2.1, u.2.2.2.2.2.2.2.2.2.2.2.2.2.1, u.2.2.2.2.2.2.2.2.2.2.2.2.2.2.1, u.2.2.2.2.2.2.2.2.2.2.2.2.2.2.2.1, u.2.2.2.2.2.2.2.2.2.2.2.2.2.2.2.2.1, u.2.2.2.2.2.2.2.2.2.2.2.2.2.2.2.2.2.1, u.2.2.2.2.2.2.2.2.2.2.2.2.2.2.2.2.2.2.1, u.2.2.2.2.2.2.2.2.2.2.2.2.2.2.2.2.2.2.2.1, u.2.2.2.2.2.2.2.2.2.2.2.2.2.2.2.2.2.2.2.2.1, u.2.2.2.2.2.2.2.2.2.2.2.2.2.2.2.2.2.2.2.2.2.1, u.2.2.2.2.2.2.2.2.2.2.2.2.2.2.2.2.2.2.2.2.2.2.1, u.2.2.2.2.2.2.2.2.2.2.2.2.2.2.2.2.2.2.2.2.2.2.2.1, u.2.2.2.2.2.2.2.2.2.2.2.2.2.2.2.2.2.2.2.2.2.2.2.2.1, u.2.2.2.2.2.2.2.2.2.2.2.2.2.2.2.2.2.2.2.2.2.2.2.2.2.1, u.2.2.2.2.2.2.2.2.2.2.2.2.2.2.2.2.2.2.2.2.2.2.2.2.2.2.1, u.2.2.2.2.2.2.2.2.2.2.2.2.2.2.2.2.2.2.2.2.2.2.2.2.2.2.2.1, u.2.2.2.2.2.2.2.2.2.2.2.2.2.2.2.2.2.2.2.2.2.2.2.2.2.2.2.2.1, u.2.2.2.2.2.2.2.2.2.2.2.2.2.2.2.2.2.2.2.2.2.2.2.2.2.2.2.2.2.1, u.2.2.2.2.2.2.2.2.2.2.2.2.2.2.2.2.2.2.2.2.2.2.2.2.2.2.2.2.2.2)
def Xs_names_field (u : XS) (v : Nat → Int32) : XS := (u.1, u.2.1, u.2.2.1, u.2.2.2.1, u.2.2.2.2.1, u.2.2.2.2.2.1, u.2.2.2.2.2.2.1, u.2.2.2.2.2.2.2.1, v, u.2.2.2.2.2.2.2.2.2.1, u.2.2.2.2.2.2.2.2.2.2.1, u.2.2.2.2.2.2.2.2.2.2.2.1, u.2.2.2.2.2.2.2.2.2.2.2.2.1, u.2.2.2.2.2.2.2.2.2.2.2.2.2.1, u.2.2.2.2.2.2.2.2.2.2.2.2.2.2.1, u.2.2.2.2.2.2.2.2.2.2.2.2.2.2.2.1, u.2.2.2.2.2.2.2.2.2.2.2.2.2.2.2.2.1, u.2.2.2.2.2.2.2.2.2.2.2.2.2.2.2.2.2.1, u.2.2.2.2.2.2.2.2.2.2.2.2.2.2.2.2.2.2.1, u.2.2.2.2.2.2.2.2.2.2.2.2.2.2.2.2.2.2.2.1, u.2.2.2.2.2.2.2.2.2.2.2.2.2.2.2.2.2.2.2.2.1, u.2.2.2.2.2.2.2.2.2.2.2.2.2.2.2.2.2.2.2.2.2.1, u.2.2.2.2.2.2.2.2.2.2.2.2.2.2.2.2.2.2.2.2.2.2.1, u.2.2.2.2.2.2.2.2.2.2.2.2.2.2.2.2.2.2.2.2.2.2.2.1, u.2.2.2.2.2.2.2.2.2.2.2.2.2.2.2.2.2.2.2.2.2.2.2.2.1, u.2.2.2.2.2.2.2.2.2.2.2.2.2.2.2.2.2.2.2.2.2.2.2.2.2.1, u.2.2.2.2.2.2.2.2.2.2.2.2.2.2.2.2.2.2.2.2.2.2.2.2.2.2.1, u.2.2.2.2.2.2.2.2.2.2.2.2.2.2.2.2.2.2.2.2.2.2.2.2.2.2.2.1, u.2.2.2.2.2.2.2.2.2.2.2.2.2.2.2.2.2.2.2.2.2.2.2.2.2.2.2.2.1, u.2.2.2.2.2.2.2.2.2.2.2.2.2.2.2.2.2.2.2.2.2.2.2.2.2.2.2.2.2.1, u.2.2.2.2.2.2.2.2.2.2.2.2.2.2.2.2.2.2.2.2.2.2.2.2.2.2.2.2.2.2)
def Xs_names_ranges (u : XS) (v : Nat → Int32) : XS := (u.1, u.2.1, u.2.2.1, u.2.2.2.1, u.2.2.2.2.1, u.2.2.2.2.2.1, u.2.2.2.2.2.2.1, u.2.2.2.2.2.2.2.1, u.2.2.2.2.2.2.2.2.1, v, u.2.2.2.2.2.2.2.2.2.2.1, u.2.2.2.2.2.2.2.2.2.2.2.1, u.2.2.2.2.2.2.2.2.2.2.2.2.1, u.2.2.2.2.2.2.2.2.2.2.2.2.2.1, u.2.2.2.2.2.2.2.2.2.2.2.2.2.2.1, u.2.2.2.2.2.2.2.2.2.2.2.2.2.2.2.1, u.2.2.2.2.2.2.2.2.2.2.2.2.2.2.2.2.1, u.2.2.2.2.2.2.2.2.2.2.2.2.2.2.2.2.2.1, u.2.2.2.2.2.2.2.2.2.2.2.2.2.2.2.2.2.2.1, u.2.2.2.2.2.2.2.2.2.2.2.2.2.2.2.2.2.2.2.1, u.2.2.2.2.2.2.2.2.2.2.2.2.2.2.2.2.2.2.2.2.1, u.2.2.2.2.2.2.2.2.2.2.2.2.2.2.2.2.2.2.2.2.2.1, u.2.2.2.2.2.2.2.2.2.2.2.2.2.2.2.2.2.2.2.2.2.2.1, u.2.2.2.2.2.2.2.2.2.2.2.2.2.2.2.2.2.2.2.2.2.2.2.1, u.2.2.2.2.2.2.2.2.2.2.2.2.2.2.2.2.2.2.2.2.2.2.2.2.1, u.2.2.2.2.2.2.2.2.2.2.2.2.2.2.2.2.2.2.2.2.2.2.2.2.2.1, u.2.2.2.2.2.2.2.2.2.2.2.2.2.2.2.2.2.2.2.2.2.2.2.2.2.2.1, u.2.2.2.2.2.2.2.2.2.2.2.2.2.2.2.2.2.2.2.2.2.2.2.2.2.2.2.1, u.2.2.2.2.2.2.2.2.2.2.2.2.2.2.2.2.2.2.2.2.2.2.2.2.2.2.2.2.1, u.2.2.2.2.2.2.2.2.2.2.2.2.2.2.2.2.2.2.2.2.2.2.2.2.2.2.2.2.2.1, u.2.2.2.2.2.2.2.2.2.2.2.2.2.2.2.2.2.2.2.2.2.2.2.2.2.2.2.2.2.2)
def Xs_names_low (u : XS) (v : Nat → Int64) : XS := (u.1, u.2.1, u.2.2.1, u.2.2.2.1, u.2.2.2.2.1, u.2.2.2.2.2.1, u.2.2.2.2.2.2.1, u.2.2.2.2.2.2.2.1, u.2.2.2.2.2.2.2.2.1, u.2.2.2.2.2.2.2.2.2.1, v, u.2.2.2.2.2.2.2.2.2.2.2.1, u.2.2.2.2.2.2.2.2.2.2.2.2.1, u.2.2.2.2.2.2.2.2.2.2.2.2.2.1, u.2.2.2.2.2.2.2.2.2.2.2.2.2.2.1, u.2.2.2.2.2.2.2.2.2.2.2.2.2.2.2.1, u.2.2.2.2.2.2.2.2.2.2.2.2.2.2.2.2.1, u.2.2.2.2.2.2.2.2.2.2.2.2.2.2.2.2.2.1, u.2.2.2.2.2.2.2.2.2.2.2.2.2.2.2.2.2.2.1, u.2.2.2.2.2.2.2.2.2.2.2.2.2.2.2.2.2.2.2.1, u.2.2.2.2.2.2.2.2.2.2.2.2.2.2.2.2.2.2.2.2.1, u.2.2.2.2.2.2.2.2.2.2.2.2.2.2.2.2.2.2.2.2.2.1, u.2.2.2.2.2.2.2.2.2.2.2.2.2.2.2.2.2.2.2.2.2.2.1, u.2.2.2.2.2.2.2.2.2.2.2.2.2.2.2.2.2.2.2.2.2.2.2.1, u.2.2.2.2.2.2.2.2.2.2.2.2.2.2.2.2.2.2.2.2.2.2.2.2.1, u.2.2.2.2.2.2.2.2.2.2.2.2.2.2.2.2.2.2.2.2.2.2.2.2.2.1, u.2.2.2.2.2.2.2.2.2.2.2.2.2.2.2.2.2.2.2.2.2.2.2.2.2.2.1, u.2.2.2.2.2.2.2.2.2.2.2.2.2.2.2.2.2.2.2.2.2.2.2.2.2.2.2.1, u.2.2.2.2.2.2.2.2.2.2.2.2.2.2.2.2.2.2.2.2.2.2.2.2.2.2.2.2.1, u.2.2.2.2.2.2.2.2.2.2.2.2.2.2.2.2.2.2.2.2.2.2.2.2.2.2.2.2.2.1, u.2.2.2.2.2.2.2.2.2.2.2.2.2.2.2.2.2.2.2.2.2.2.2.2.2.2.2.2.2.2)
def Xs_names_high (u : XS) (v : Nat → Int64) : XS := (u.1, u.2.1, u.2.2.1, u.2.2.2.1, u.2.2.2.2.1, u.2.2.2.2.2.1, u.2.2.2.2.2.2.1, u.2.2.2.2.2.2.2.1, u.2.2.2.2.2.2.2.2.1, u.2.2.2.2.2.2.2.2.2.1, u.2.2.2.2.2.2.2.2.2.2.1, v, u.2.2.2.2.2.2.2.2.2.2.2.2.1, u.2.2.2.2.2.2.2.2.2.2.2.2.2.1, u.2.2.2.2.2.2.2.2.2.2.2.2.2.2.1, u.2.2.2.2.2.2.2.2.2.2.2.2.2.2.2.1, u.2.2.2.2.2.2.2.2.2.2.2.2.2.2.2.2.1, u.2.2.2.2.2.2.2.2.2.2.2.2.2.2.2.2.2.1, u.2.2.2.2.2.2.2.2.2.2.2.2.2.2.2.2.2.2.1, u.2.2.2.2.2.2.2.2.2.2.2.2.2.2.2.2.2.2.2.1, u.2.2.2.2.2.2.2.2.2.2.2.2.2.2.2.2.2.2.2.2.1, u.2.2.2.2.2.2.2.2.2.2.2.2.2.2.2.2.2.2.2.2.2.1, u.2.2.2.2.2.2.2.2.2.2.2.2.2.2.2.2.2.2.2.2.2.2.1, u.2.2.2.2.2.2.2.2.2.2.2.2.2.2.2.2.2.2.2.2.2.2.2.1, u.2.2.2.2.2.2.2.2.2.2.2.2.2.2.2.2.2.2.2.2.2.2.2.2.1, u.2.2.2.2.2.2.2.2.2.2.2.2.2.2.2.2.2.2.2.2.2.2.2.2.2.1, u.2.2.2.2.2.2.2.2.2.2.2.2.2.2.2.2.2.2.2.2.2.2.2.2.2.2.1, u.2.2.2.2.2.2.2.2.2.2.2.2.2.2.2.2.2.2.2.2.2.2.2.2.2.2.2.1, u.2.2.2.2.2.2.2.2.2.2.2.2.2.2.2.2.2.2.2.2.2.2.2.2.2.2.2.2.1, u.2.2.2.2.2.2.2.2.2.2.2.2.2.2.2.2.2.2.2.2.2.2.2.2.2.2.2.2.2.1, u.2.2.2.2.2.2.2.2.2.2.2.2.2.2.2.2.2.2.2.2.2.2.2.2.2.2.2.2.2.2)
def Xs_nodes_made (u : XS) (v : Int32) : XS := (u.1, u.2.1, u.2.2.1, u.2.2.2.1, u.2.2.2.2.1, u.2.2.2.2.2.1, u.2.2.2.2.2.2.1, u.2.2.2.2.2.2.2.1, u.2.2.2.2.2.2.2.2.1, u.2.2.2.2.2.2.2.2.2.1, u.2.2.2.2.2.2.2.2.2.2.1, u.2.2.2.2.2.2.2.2.2.2.2.1, v, u.2.2.2.2.2.2.2.2.2.2.2.2.2.1, u.2.2.2.2.2.2.2.2.2.2.2.2.2.2.1, u.2.2.2.2.2.2.2.2.2.2.2.2.2.2.2.1, u.2.2.2.2.2.2.2.2.2.2.2.2.2.2.2.2.1, u.2.2.2.2.2.2.2.2.2.2.2.2.2.2.2.2.2.1, u.2.2.2.2.2.2.2.2.2.2.2.2.2.2.2.2.2.2.1, u.2.2.2.2.2.2.2.2.2.2.2.2.2.2.2.2.2.2.2.1, u.2.2.2.2.2.2.2.2.2.2.2.2.2.2.2.2.2.2.2.2.1, u.2.2.2.2.2.2.2.2.2.2.2.2.2.2.2.2.2.2.2.2.2.1, u.2.2.2.2.2.2.2.2.2.2.2.2.2.2.2.2.2.2.2.2.2.2.1, u.2.2.2.2.2.2.2.2.2.2.2.2.2.2.2.2.2.2.2.2.2.2.2.1, u.2.2.2.2.2.2.2.2.2.2.2.2.2.2.2.2.2.2.2.2.2.2.2.2.1, u.2.2.2.2.2.2.2.2.2.2.2.2.2.2.2.2.2.2.2.2.2.2.2.2.2.1, u.2.2.2.2.2.2.2.2.2.2.2.2.2.2.2.2.2.2.2.2.2.2.2.2.2.2.1, u.2.2.2.2.2.2.2.2.2.2.2.2.2.2.2.2.2.2.2.2.2.2.2.2.2.2.2.1, u.2.2.2.2.2.2.2.2.2.2.2.2.2.2.2.2.2.2.2.2.2.2.2.2.2.2.2.2.1, u.2.2.2.2.2.2.2.2.2.2.2.2.2.2.2.2.2.2.2.2.2.2.2.2.2.2.2.2.2.1, u.2.2.2.2.2.2.2.2.2.2.2.2.2.2.2.2.2.2.2.2.2.2.2.2.2.2.2.2.2.2)
def Xs_nodes_op (u : XS) (v : Nat → Int32) : XS := (u.1, u.2.1, u.2.2.1, u.2.2.2.1, u.2.2.2.2.1, u.2.2.2.2.2.1, u.2.2.2.2.2.2.1, u.2.2.2.2.2.2.2.1, u.2.2.2.2.2.2.2.2.1, u.2.2.2.2.2.2.2.2.2.1, u.2.2.2.2.2.2.2.2.2.2.1, u.2.2.2.2.2.2.2.2.2.2.2.1, u.2.2.2.2.2.2.2.2.2.2.2.2.1, v, u.2.2.2.2.2.2.2.2.2.2.2.2.2.2.1, u.2.2.2.2.2.2.2.2.2.2.2.2.2.2.2.1, u.2.2.2.2.2.2.2.2.2.2.2.2.2.2.2.2.1, u.2.2.2.2.2.2.2.2.2.2.2.2.2.2.2.2.2.1, u.2.2.2.2.2.2.2.2.2.2.2.2.2.2.2.2.2.2.1, u.2.2.2.2.2.2.2.2.2.2.2.2.2.2.2.2.2.2.2.1, u.2.2.2.2.2.2.2.2.2.2.2.2.2.2.2.2.2.2.2.2.1, u.2.2.2.2.2.2.2.2.2.2.2.2.2.2.2.2.2.2.2.2.2.1, u.2.2.2.2.2.2.2.2.2.2.2.2.2.2.2.2.2.2.2.2.2.2.1, u.2.2.2.2.2.2.2.2.2.2.2.2.2.2.2.2.2.2.2.2.2.2.2.1, u.2.2.2.2.2.2.2.2.2.2.2.2.2.2.2.2.2.2.2.2.2.2.2.2.1, u.2.2.2.2.2.2.2.2.2.2.2.2.2.2.2.2.2.2.2.2.2.2.2.2.2.1, u.2.2.2.2.2.2.2.2.2.2.2.2.2.2.2.2.2.2.2.2.2.2.2.2.2.2.1, u.2.2.2.2.2.2.2.2.2.2.2.2.2.2.2.2.2.2.2.2.2.2.2.2.2.2.2.1, u.2.2.2.2.2.2.2.2.2.2.2.2.2.2.2.2.2.2.2.2.2.2.2.2.2.2.2.2.1, u.2.2.2.2.2.2.2.2.2.2.2.2.2.2.2.2.2.2.2.2.2.2.2.2.2.2.2.2.2.1, u.2.2.2.2.2.2.2.2.2.2.2.2.2.2.2.2.2.2.2.2.2.2.2.2.2.2.2.2.2.2)
def Xs_nodes_a (u : XS) (v : Nat → Int32) : XS := (u.1, u.2.1, u.2.2.1, u.2.2.2.1, u.2.2.2.2.1, u.2.2.2.2.2.1, u.2.2.2.2.2.2.1, u.2.2.2.2.2.2.2.1, u.2.2.2.2.2.2.2.2.1, u.2.2.2.2.2.2.2.2.2.1, u.2.2.2.2.2.2.2.2.2.2.1, u.2.2.2.2.2.2.2.2.2.2.2.1, u.2.2.2.2.2.2.2.2.2.2.2.2.1, u.2.2.2.2.2.2.2.2.2.2.2.2.2.1, v, u.2.2.2.2.2.2.2.2.2.2.2.2.2.2.2.1, u.2.2.2.2.2.2.2.2.2.2.2.2.2.2.2.2.1, u.2.2.2.2.2.2.2.2.2.2.2.2.2.2.2.2.2.1, u.2.2.2.2.2.2.2.2.2.2.2.2.2.2.2.2.2.2.1, u.2.2.2.2.2.2.2.2.2.2.2.2.2.2.2.2.2.2.2.1, u.2.2.2.2.2.2.2.2.2.2.2.2.2.2.2.2.2.2.2.2.1, u.2.2.2.2.2.2.2.2.2.2.2.2.2.2.2.2.2.2.2.2.2.1, u.2.2.2.2.2.2.2.2.2.2.2.2.2.2.2.2.2.2.2.2.2.2.1, u.2.2.2.2.2.2.2.2.2.2.2.2.2.2.2.2.2.2.2.2.2.2.2.1, u.2.2.2.2.2.2.2.2.2.2.2.2.2.2.2.2.2.2.2.2.2.2.2.2.1, u.2.2.2.2.2.2.2.2.2.2.2.2.2.2.2.2.2.2.2.2.2.2.2.2.2.1, u.2.2.2.2.2.2.2.2.2.2.2.2.2.2.2.2.2.2.2.2.2.2.2.2.2.2.1, u.2.2.2.2.2.2.2.2.2.2.2.2.2.2.2.2.2.2.2.2.2.2.2.2.2.2.2.1, u.2.2.2.2.2.2.2.2.2.2.2.2.2.2.2.2.2.2.2.2.2.2.2.2.2.2.2.2.1, u.2.2.2.2.2.2.2.2.2.2.2.2.2.2.2.2.2.2.2.2.2.2.2.2.2.2.2.2.2.1, u.2.2.2.2.2.2.2.2.2.2.2.2.2.2.2.2.2.2.2.2.2.2.2.2.2.2.2.2.2.2)
def Xs_nodes_b (u : XS) (v : Nat → Int32) : XS := (u.1, u.2.1, u.2.2.1, u.2.2.2.1, u.2.2.2.2.1, u.2.2.2.2.2.1, u.2.2.2.2.2.2.1, u.2.2.2.2.2.2.2.1, u.2.2.2.2.2.2.2.2.1, u.2.2.2.2.2.2.2.2.2.1, u.2.2.2.2.2.2.2.2.2.2.1, u.2.2.2.2.2.2.2.2.2.2.2.1, u.2.2.2.2.2.2.2.2.2.2.2.2.1, u.2.2.2.2.2.2.2.2.2.2.2.2.2.1, u.2.2.2.2.2.2.2.2.2.2.2.2.2.2.1, v, u.2.2.2.2.2.2.2.2.2.2.2.2.2.2.2.2.1, u.2.2.2.2.2.2.2.2.2.2.2.2.2.2.2.2.2.1, u.2.2.2.2.2.2.2.2.2.2.2.2.2.2.2.2.2.2.1, u.2.2.2.2.2.2.2.2.2.2.2.2.2.2.2.2.2.2.2.1, u.2.2.2.2.2.2.2.2.2.2.2.2.2.2.2.2.2.2.2.2.1, u.2.2.2.2.2.2.2.2.2.2.2.2.2.2.2.2.2.2.2.2.2.1, u.2.2.2.2.2.2.2.2.2.2.2.2.2.2.2.2.2.2.2.2.2.2.1, u.2.2.2.2.2.2.2.2.2.2.2.2.2.2.2.2.2.2.2.2.2.2.2.1, u.2.2.2.2.2.2.2.2.2.2.2.2.2.2.2.2.2.2.2.2.2.2.2.2.1, u.2.2.2.2.2.2.2.2.2.2.2.2.2.2.2.2.2.2.2.2.2.2.2.2.2.1, u.2.2.2.2.2.2.2.2.2.2.2.2.2.2.2.2.2.2.2.2.2.2.2.2.2.2.1, u.2.2.2.2.2.2.2.2.2.2.2.2.2.2.2.2.2.2.2.2.2.2.2.2.2.2.2.1, u.2.2.2.2.2.2.2.2.2.2.2.2.2.2.2.2.2.2.2.2.2.2.2.2.2.2.2.2.1, u.2.2.2.2.2.2.2.2.2.2.2.2.2.2.2.2.2.2.2.2.2.2.2.2.2.2.2.2.2.1, u.2.2.2.2.2.2.2.2.2.2.2.2.2.2.2.2.2.2.2.2.2.2.2.2.2.2.2.2.2.2)
def Xs_row_subject (u : XS) (v : Int32) : XS := (u.1, u.2.1, u.2.2.1, u.2.2.2.1, u.2.2.2.2.1, u.2.2.2.2.2.1, u.2.2.2.2.2.2.1, u.2.2.2.2.2.2.2.1, u.2.2.2.2.2.2.2.2.1, u.2.2.2.2.2.2.2.2.2.1, u.2.2.2.2.2.2.2.2.2.2.1, u.2.2.2.2.2.2.2.2.2.2.2.1, u.2.2.2.2.2.2.2.2.2.2.2.2.1, u.2.2.2.2.2.2.2.2.2.2.2.2.2.1, u.2.2.2.2.2.2.2.2.2.2.2.2.2.2.1, u.2.2.2.2.2.2.2.2.2.2.2.2.2.2.2.1, v, u.2.2.2.2.2.2.2.2.2.2.2.2.2.2.2.2.2.1, u.2.2.2.2.2.2.2.2.2.2.2.2.2.2.2.2.2.2.1, u.2.2.2.2.2.2.2.2.2.2.2.2.2.2.2.2.2.2.2.1, u.2.2.2.2.2.2.2.2.2.2.2.2.2.2.2.2.2.2.2.2.1, u.2.2.2.2.2.2.2.2.2.2.2.2.2.2.2.2.2.2.2.2.2.1, u.2.2.2.2.2.2.2.2.2.2.2.2.2.2.2.2.2.2.2.2.2.2.1, u.2.2.2.2.2.2.2.2.2.2.2.2.2.2.2.2.2.2.2.2.2.2.2.1, u.2.2.2.2.2.2.2.2.2.2.2.2.2.2.2.2.2.2.2.2.2.2.2.2.1, u.2.2.2.2.2.2.2.2.2.2.2.2.2.2.2.2.2.2.2.2.2.2.2.2.2.1, u.2.2.2.2.2.2.2.2.2.2.2.2.2.2.2.2.2.2.2.2.2.2.2.2.2.2.1, u.2.2.2.2.2.2.2.2.2.2.2.2.2.2.2.2.2.2.2.2.2.2.2.2.2.2.2.1, u.2.2.2.2.2.2.2.2.2.2.2.2.2.2.2.2.2.2.2.2.2.2.2.2.2.2.2.2.1, u.2.2.2.2.2.2.2.2.2.2.2.2.2.2.2.2.2.2.2.2.2.2.2.2.2.2.2.2.2.1, u.2.2.2.2.2.2.2.2.2.2.2.2.2.2.2.2.2.2.2.2.2.2.2.2.2.2.2.2.2.2)
def Xs_row_carried (u : XS) (v : Int32) : XS := (u.1, u.2.1, u.2.2.1, u.2.2.2.1, u.2.2.2.2.1, u.2.2.2.2.2.1, u.2.2.2.2.2.2.1, u.2.2.2.2.2.2.2.1, u.2.2.2.2.2.2.2.2.1, u.2.2.2.2.2.2.2.2.2.1, u.2.2.2.2.2.2.2.2.2.2.1, u.2.2.2.2.2.2.2.2.2.2.2.1, u.2.2.2.2.2.2.2.2.2.2.2.2.1, u.2.2.2.2.2.2.2.2.2.2.2.2.2.1, u.2.2.2.2.2.2.2.2.2.2.2.2.2.2.1, u.2.2.2.2.2.2.2.2.2.2.2.2.2.2.2.1, u.2.2.2.2.2.2.2.2.2.2.2.2.2.2.2.2.1, v, u.2.2.2.2.2.2.2.2.2.2.2.2.2.2.2.2.2.2.1, u.2.2.2.2.2.2.2.2.2.2.2.2.2.2.2.2.2.2.2.1, u.2.2.2.2.2.2.2.2.2.2.2.2.2.2.2.2.2.2.2.2.1, u.2.2.2.2.2.2.2.2.2.2.2.2.2.2.2.2.2.2.2.2.2.1, u.2.2.2.2.2.2.2.2.2.2.2.2.2.2.2.2.2.2.2.2.2.2.1, u.2.2.2.2.2.2.2.2.2.2.2.2.2.2.2.2.2.2.2.2.2.2.2.1, u.2.2.2.2.2.2.2.2.2.2.2.2.2.2.2.2.2.2.2.2.2.2.2.2.1, u.2.2.2.2.2.2.2.2.2.2.2.2.2.2.2.2.2.2.2.2.2.2.2.2.2.1, u.2.2.2.2.2.2.2.2.2.2.2.2.2.2.2.2.2.2.2.2.2.2.2.2.2.2.1, u.2.2.2.2.2.2.2.2.2.2.2.2.2.2.2.2.2.2.2.2.2.2.2.2.2.2.2.1, u.2.2.2.2.2.2.2.2.2.2.2.2.2.2.2.2.2.2.2.2.2.2.2.2.2.2.2.2.1, u.2.2.2.2.2.2.2.2.2.2.2.2.2.2.2.2.2.2.2.2.2.2.2.2.2.2.2.2.2.1, u.2.2.2.2.2.2.2.2.2.2.2.2.2.2.2.2.2.2.2.2.2.2.2.2.2.2.2.2.2.2)
def Xs_row_length (u : XS) (v : Int32) : XS := (u.1, u.2.1, u.2.2.1, u.2.2.2.1, u.2.2.2.2.1, u.2.2.2.2.2.1, u.2.2.2.2.2.2.1, u.2.2.2.2.2.2.2.1, u.2.2.2.2.2.2.2.2.1, u.2.2.2.2.2.2.2.2.2.1, u.2.2.2.2.2.2.2.2.2.2.1, u.2.2.2.2.2.2.2.2.2.2.2.1, u.2.2.2.2.2.2.2.2.2.2.2.2.1, u.2.2.2.2.2.2.2.2.2.2.2.2.2.1, u.2.2.2.2.2.2.2.2.2.2.2.2.2.2.1, u.2.2.2.2.2.2.2.2.2.2.2.2.2.2.2.1, u.2.2.2.2.2.2.2.2.2.2.2.2.2.2.2.2.1, u.2.2.2.2.2.2.2.2.2.2.2.2.2.2.2.2.2.1, v, u.2.2.2.2.2.2.2.2.2.2.2.2.2.2.2.2.2.2.2.1, u.2.2.2.2.2.2.2.2.2.2.2.2.2.2.2.2.2.2.2.2.1, u.2.2.2.2.2.2.2.2.2.2.2.2.2.2.2.2.2.2.2.2.2.1, u.2.2.2.2.2.2.2.2.2.2.2.2.2.2.2.2.2.2.2.2.2.2.1, u.2.2.2.2.2.2.2.2.2.2.2.2.2.2.2.2.2.2.2.2.2.2.2.1, u.2.2.2.2.2.2.2.2.2.2.2.2.2.2.2.2.2.2.2.2.2.2.2.2.1, u.2.2.2.2.2.2.2.2.2.2.2.2.2.2.2.2.2.2.2.2.2.2.2.2.2.1, u.2.2.2.2.2.2.2.2.2.2.2.2.2.2.2.2.2.2.2.2.2.2.2.2.2.2.1, u.2.2.2.2.2.2.2.2.2.2.2.2.2.2.2.2.2.2.2.2.2.2.2.2.2.2.2.1, u.2.2.2.2.2.2.2.2.2.2.2.2.2.2.2.2.2.2.2.2.2.2.2.2.2.2.2.2.1, u.2.2.2.2.2.2.2.2.2.2.2.2.2.2.2.2.2.2.2.2.2.2.2.2.2.2.2.2.2.1, u.2.2.2.2.2.2.2.2.2.2.2.2.2.2.2.2.2.2.2.2.2.2.2.2.2.2.2.2.2.2)
def Xs_row_with (u : XS) (v : Nat → Int32) : XS := (u.1, u.2.1, u.2.2.1, u.2.2.2.1, u.2.2.2.2.1, u.2.2.2.2.2.1, u.2.2.2.2.2.2.1, u.2.2.2.2.2.2.2.1, u.2.2.2.2.2.2.2.2.1, u.2.2.2.2.2.2.2.2.2.1, u.2.2.2.2.2.2.2.2.2.2.1, u.2.2.2.2.2.2.2.2.2.2.2.1, u.2.2.2.2.2.2.2.2.2.2.2.2.1, u.2.2.2.2.2.2.2.2.2.2.2.2.2.1, u.2.2.2.2.2.2.2.2.2.2.2.2.2.2.1, u.2.2.2.2.2.2.2.2.2.2.2.2.2.2.2.1, u.2.2.2.2.2.2.2.2.2.2.2.2.2.2.2.2.1, u.2.2.2.2.2.2.2.2.2.2.2.2.2.2.2.2.2.1, u.2.2.2.2.2.2.2.2.2.2.2.2.2.2.2.2.2.2.1, v, u.2.2.2.2.2.2.2.2.2.2.2.2.2.2.2.2.2.2.2.2.1, u.2.2.2.2.2.2.2.2.2.2.2.2.2.2.2.2.2.2.2.2.2.1, u.2.2.2.2.2.2.2.2.2.2.2.2.2.2.2.2.2.2.2.2.2.2.1, u.2.2.2.2.2.2.2.2.2.2.2.2.2.2.2.2.2.2.2.2.2.2.2.1, u.2.2.2.2.2.2.2.2.2.2.2.2.2.2.2.2.2.2.2.2.2.2.2.2.1, u.2.2.2.2.2.2.2.2.2.2.2.2.2.2.2.2.2.2.2.2.2.2.2.2.2.1, u.2.2.2.2.2.2.2.2.2.2.2.2.2.2.2.2.2.2.2.2.2.2.2.2.2.2.1, u.2.2.2.2.2.2.2.2.2.2.2.2.2.2.2.2.2.2.2.2.2.2.2.2.2.2.2.1, u.2.2.2.2.2.2.2.2.2.2.2.2.2.2.2.2.2.2.2.2.2.2.2.2.2.2.2.2.1, u.2.2.2.2.2.2.2.2.2.2.2.2.2.2.2.2.2.2.2.2.2.2.2.2.2.2.2.2.2.1, u.2.2.2.2.2.2.2.2.2.2.2.2.2.2.2.2.2.2.2.2.2.2.2.2.2.2.2.2.2.2)
def Xs_row_op (u : XS) (v : Nat → Int32) : XS := (u.1, u.2.1, u.2.2.1, u.2.2.2.1, u.2.2.2.2.1, u.2.2.2.2.2.1, u.2.2.2.2.2.2.1, u.2.2.2.2.2.2.2.1, u.2.2.2.2.2.2.2.2.1, u.2.2.2.2.2.2.2.2.2.1, u.2.2.2.2.2.2.2.2.2.2.1, u.2.2.2.2.2.2.2.2.2.2.2.1, u.2.2.2.2.2.2.2.2.2.2.2.2.1, u.2.2.2.2.2.2.2.2.2.2.2.2.2.1, u.2.2.2.2.2.2.2.2.2.2.2.2.2.2.1, u.2.2.2.2.2.2.2.2.2.2.2.2.2.2.2.1, u.2.2.2.2.2.2.2.2.2.2.2.2.2.2.2.2.1, u.2.2.2.2.2.2.2.2.2.2.2.2.2.2.2.2.2.1, u.2.2.2.2.2.2.2.2.2.2.2.2.2.2.2.2.2.2.1, u.2.2.2.2.2.2.2.2.2.2.2.2.2.2.2.2.2.2.2.1, v, u.2.2.2.2.2.2.2.2.2.2.2.2.2.2.2.2.2.2.2.2.2.1, u.2.2.2.2.2.2.2.2.2.2.2.2.2.2.2.2.2.2.2.2.2.2.1, u.2.2.2.2.2.2.2.2.2.2.2.2.2.2.2.2.2.2.2.2.2.2.2.1, u.2.2.2.2.2.2.2.2.2.2.2.2.2.2.2.2.2.2.2.2.2.2.2.2.1, u.2.2.2.2.2.2.2.2.2.2.2.2.2.2.2.2.2.2.2.2.2.2.2.2.2.1, u.2.2.2.2.2.2.2.2.2.2.2.2.2.2.2.2.2.2.2.2.2.2.2.2.2.2.1, u.2.2.2.2.2.2.2.2.2.2.2.2.2.2.2.2.2.2.2.2.2.2.2.2.2.2.2.1, u.2.2.2.2.2.2.2.2.2.2.2.2.2.2.2.2.2.2.2.2.2.2.2.2.2.2.2.2.1, u.2.2.2.2.2.2.2.2.2.2.2.2.2.2.2.2.2.2.2.2.2.2.2.2.2.2.2.2.2.1, u.2.2.2.2.2.2.2.2.2.2.2.2.2.2.2.2.2.2.2.2.2.2.2.2.2.2.2.2.2.2)
def Xs_row_negated (u : XS) (v : Nat → Int32) : XS := (u.1, u.2.1, u.2.2.1, u.2.2.2.1, u.2.2.2.2.1, u.2.2.2.2.2.1, u.2.2.2.2.2.2.1, u.2.2.2.2.2.2.2.1, u.2.2.2.2.2.2.2.2.1, u.2.2.2.2.2.2.2.2.2.1, u.2.2.2.2.2.2.2.2.2.2.1, u.2.2.2.2.2.2.2.2.2.2.2.1, u.2.2.2.2.2.2.2.2.2.2.2.2.1, u.2.2.2.2.2.2.2.2.2.2.2.2.2.1, u.2.2.2.2.2.2.2.2.2.2.2.2.2.2.1, u.2.2.2.2.2.2.2.2.2.2.2.2.2.2.2.1, u.2.2.2.2.2.2.2.2.2.2.2.2.2.2.2.2.1, u.2.2.2.2.2.2.2.2.2.2.2.2.2.2.2.2.2.1, u.2.2.2.2.2.2.2.2.2.2.2.2.2.2.2.2.2.2.1, u.2.2.2.2.2.2.2.2.2.2.2.2.2.2.2.2.2.2.2.1, u.2.2.2.2.2.2.2.2.2.2.2.2.2.2.2.2.2.2.2.2.1, v, u.2.2.2.2.2.2.2.2.2.2.2.2.2.2.2.2.2.2.2.2.2.2.1, u.2.2.2.2.2.2.2.2.2.2.2.2.2.2.2.2.2.2.2.2.2.2.2.1, u.2.2.2.2.2.2.2.2.2.2.2.2.2.2.2.2.2.2.2.2.2.2.2.2.1, u.2.2.2.2.2.2.2.2.2.2.2.2.2.2.2.2.2.2.2.2.2.2.2.2.2.1, u.2.2.2.2.2.2.2.2.2.2.2.2.2.2.2.2.2.2.2.2.2.2.2.2.2.2.1, u.2.2.2.2.2.2.2.2.2.2.2.2.2.2.2.2.2.2.2.2.2.2.2.2.2.2.2.1, u.2.2.2.2.2.2.2.2.2.2.2.2.2.2.2.2.2.2.2.2.2.2.2.2.2.2.2.2.1, u.2.2.2.2.2.2.2.2.2.2.2.2.2.2.2.2.2.2.2.2.2.2.2.2.2.2.2.2.2.1, u.2.2.2.2.2.2.2.2.2.2.2.2.2.2.2.2.2.2.2.2.2.2.2.2.2.2.2.2.2.2)
def Xs_row_object (u : XS) (v : Nat → Int32) : XS := (u.1, u.2.1, u.2.2.1, u.2.2.2.1, u.2.2.2.2.1, u.2.2.2.2.2.1, u.2.2.2.2.2.2.1, u.2.2.2.2.2.2.2.1, u.2.2.2.2.2.2.2.2.1, u.2.2.2.2.2.2.2.2.2.1, u.2.2.2.2.2.2.2.2.2.2.1, u.2.2.2.2.2.2.2.2.2.2.2.1, u.2.2.2.2.2.2.2.2.2.2.2.2.1, u.2.2.2.2.2.2.2.2.2.2.2.2.2.1, u.2.2.2.2.2.2.2.2.2.2.2.2.2.2.1, u.2.2.2.2.2.2.2.2.2.2.2.2.2.2.2.1, u.2.2.2.2.2.2.2.2.2.2.2.2.2.2.2.2.1, u.2.2.2.2.2.2.2.2.2.2.2.2.2.2.2.2.2.1, u.2.2.2.2.2.2.2.2.2.2.2.2.2.2.2.2.2.2.1, u.2.2.2.2.2.2.2.2.2.2.2.2.2.2.2.2.2.2.2.1, u.2.2.2.2.2.2.2.2.2.2.2.2.2.2.2.2.2.2.2.2.1, u.2.2.2.2.2.2.2.2.2.2.2.2.2.2.2.2.2.2.2.2.2.1, v, u.2.2.2.2.2.2.2.2.2.2.2.2.2.2.2.2.2.2.2.2.2.2.2.1, u.2.2.2.2.2.2.2.2.2.2.2.2.2.2.2.2.2.2.2.2.2.2.2.2.1, u.2.2.2.2.2.2.2.2.2.2.2.2.2.2.2.2.2.2.2.2.2.2.2.2.2.1, u.2.2.2.2.2.2.2.2.2.2.2.2.2.2.2.2.2.2.2.2.2.2.2.2.2.2.1, u.2.2.2.2.2.2.2.2.2.2.2.2.2.2.2.2.2.2.2.2.2.2.2.2.2.2.2.1, u.2.2.2.2.2.2.2.2.2.2.2.2.2.2.2.2.2.2.2.2.2.2.2.2.2.2.2.2.1, u.2.2.2.2.2.2.2.2.2.2.2.2.2.2.2.2.2.2.2.2.2.2.2.2.2.2.2.2.2.1, u.2.2.2.2.2.2.2.2.2.2.2.2.2.2.2.2.2.2.2.2.2.2.2.2.2.2.2.2.2.2)
def Xs_testing_noted (u : XS) (v : Int32) : XS := (u.1, u.2.1, u.2.2.1, u.2.2.2.1, u.2.2.2.2.1, u.2.2.2.2.2.1, u.2.2.2.2.2.2.1, u.2.2.2.2.2.2.2.1, u.2.2.2.2.2.2.2.2.1, u.2.2.2.2.2.2.2.2.2.1, u.2.2.2.2.2.2.2.2.2.2.1, u.2.2.2.2.2.2.2.2.2.2.2.1, u.2.2.2.2.2.2.2.2.2.2.2.2.1, u.2.2.2.2.2.2.2.2.2.2.2.2.2.1, u.2.2.2.2.2.2.2.2.2.2.2.2.2.2.1, u.2.2.2.2.2.2.2.2.2.2.2.2.2.2.2.1, u.2.2.2.2.2.2.2.2.2.2.2.2.2.2.2.2.1, u.2.2.2.2.2.2.2.2.2.2.2.2.2.2.2.2.2.1, u.2.2.2.2.2.2.2.2.2.2.2.2.2.2.2.2.2.2.1, u.2.2.2.2.2.2.2.2.2.2.2.2.2.2.2.2.2.2.2.1, u.2.2.2.2.2.2.2.2.2.2.2.2.2.2.2.2.2.2.2.2.1, u.2.2.2.2.2.2.2.2.2.2.2.2.2.2.2.2.2.2.2.2.2.1, u.2.2.2.2.2.2.2.2.2.2.2.2.2.2.2.2.2.2.2.2.2.2.1, v, u.2.2.2.2.2.2.2.2.2.2.2.2.2.2.2.2.2.2.2.2.2.2.2.2.1, u.2.2.2.2.2.2.2.2.2.2.2.2.2.2.2.2.2.2.2.2.2.2.2.2.2.1, u.2.2.2.2.2.2.2.2.2.2.2.2.2.2.2.2.2.2.2.2.2.2.2.2.2.2.1, u.2.2.2.2.2.2.2.2.2.2.2.2.2.2.2.2.2.2.2.2.2.2.2.2.2.2.2.1, u.2.2.2.2.2.2.2.2.2.2.2.2.2.2.2.2.2.2.2.2.2.2.2.2.2.2.2.2.1, u.2.2.2.2.2.2.2.2.2.2.2.2.2.2.2.2.2.2.2.2.2.2.2.2.2.2.2.2.2.1, u.2.2.2.2.2.2.2.2.2.2.2.2.2.2.2.2.2.2.2.2.2.2.2.2.2.2.2.2.2.2)
def Xs_testing_depth (u : XS) (v : Int32) : XS := (u.1, u.2.1, u.2.2.1, u.2.2.2.1, u.2.2.2.2.1, u.2.2.2.2.2.1, u.2.2.2.2.2.2.1, u.2.2.2.2.2.2.2.1, u.2.2.2.2.2.2.2.2.1, u.2.2.2.2.2.2.2.2.2.1, u.2.2.2.2.2.2.2.2.2.2.1, u.2.2.2.2.2.2.2.2.2.2.2.1, u.2.2.2.2.2.2.2.2.2.2.2.2.1, u.2.2.2.2.2.2.2.2.2.2.2.2.2.1, u.2.2.2.2.2.2.2.2.2.2.2.2.2.2.1, u.2.2.2.2.2.2.2.2.2.2.2.2.2.2.2.1, u.2.2.2.2.2.2.2.2.2.2.2.2.2.2.2.2.1, u.2.2.2.2.2.2.2.2.2.2.2.2.2.2.2.2.2.1, u.2.2.2.2.2.2.2.2.2.2.2.2.2.2.2.2.2.2.1, u.2.2.2.2.2.2.2.2.2.2.2.2.2.2.2.2.2.2.2.1, u.2.2.2.2.2.2.2.2.2.2.2.2.2.2.2.2.2.2.2.2.1, u.2.2.2.2.2.2.2.2.2.2.2.2.2.2.2.2.2.2.2.2.2.1, u.2.2.2.2.2.2.2.2.2.2.2.2.2.2.2.2.2.2.2.2.2.2.1, u.2.2.2.2.2.2.2.2.2.2.2.2.2.2.2.2.2.2.2.2.2.2.2.1, v, u.2.2.2.2.2.2.2.2.2.2.2.2.2.2.2.2.2.2.2.2.2.2.2.2.2.1, u.2.2.2.2.2.2.2.2.2.2.2.2.2.2.2.2.2.2.2.2.2.2.2.2.2.2.1, u.2.2.2.2.2.2.2.2.2.2.2.2.2.2.2.2.2.2.2.2.2.2.2.2.2.2.2.1, u.2.2.2.2.2.2.2.2.2.2.2.2.2.2.2.2.2.2.2.2.2.2.2.2.2.2.2.2.1, u.2.2.2.2.2.2.2.2.2.2.2.2.2.2.2.2.2.2.2.2.2.2.2.2.2.2.2.2.2.1, u.2.2.2.2.2.2.2.2.2.2.2.2.2.2.2.2.2.2.2.2.2.2.2.2.2.2.2.2.2.2)
def Xs_testing_outcome (u : XS) (v : Nat → Int32) : XS := (u.1, u.2.1, u.2.2.1, u.2.2.2.1, u.2.2.2.2.1, u.2.2.2.2.2.1, u.2.2.2.2.2.2.1, u.2.2.2.2.2.2.2.1, u.2.2.2.2.2.2.2.2.1, u.2.2.2.2.2.2.2.2.2.1, u.2.2.2.2.2.2.2.2.2.2.1, u.2.2.2.2.2.2.2.2.2.2.2.1, u.2.2.2.2.2.2.2.2.2.2.2.2.1, u.2.2.2.2.2.2.2.2.2.2.2.2.2.1, u.2.2.2.2.2.2.2.2.2.2.2.2.2.2.1, u.2.2.2.2.2.2.2.2.2.2.2.2.2.2.2.1, u.2.2.2.2.2.2.2.2.2.2.2.2.2.2.2.2.1, u.2.2.2.2.2.2.2.2.2.2.2.2.2.2.2.2.2.1, u.2.2.2.2.2.2.2.2.2.2.2.2.2.2.2.2.2.2.1, u.2.2.2.2.2.2.2.2.2.2.2.2.2.2.2.2.2.2.2.1, u.2.2.2.2.2.2.2.2.2.2.2.2.2.2.2.2.2.2.2.2.1, u.2.2.2.2.2.2.2.2.2.2.2.2.2.2.2.2.2.2.2.2.2.1, u.2.2.2.2.2.2.2.2.2.2.2.2.2.2.2.2.2.2.2.2.2.2.1, u.2.2.2.2.2.2.2.2.2.2.2.2.2.2.2.2.2.2.2.2.2.2.2.1, u.2.2.2.2.2.2.2.2.2.2.2.2.2.2.2.2.2.2.2.2.2.2.2.2.1, v, u.2.2.2.2.2.2.2.2.2.2.2.2.2.2.2.2.2.2.2.2.2.2.2.2.2.2.1, u.2.2.2.2.2.2.2.2.2.2.2.2.2.2.2.2.2.2.2.2.2.2.2.2.2.2.2.1, u.2.2.2.2.2.2.2.2.2.2.2.2.2.2.2.2.2.2.2.2.2.2.2.2.2.2.2.2.1, u.2.2.2.2.2.2.2.2.2.2.2.2.2.2.2.2.2.2.2.2.2.2.2.2.2.2.2.2.2.1, u.2.2.2.2.2.2.2.2.2.2.2.2.2.2.2.2.2.2.2.2.2.2.2.2.2.2.2.2.2.2)
def Xs_testing_leaves (u : XS) (v : Nat → Int32) : XS := (u.1, u.2.1, u.2.2.1, u.2.2.2.1, u.2.2.2.2.1, u.2.2.2.2.2.1, u.2.2.2.2.2.2.1, u.2.2.2.2.2.2.2.1, u.2.2.2.2.2.2.2.2.1, u.2.2.2.2.2.2.2.2.2.1, u.2.2.2.2.2.2.2.2.2.2.1, u.2.2.2.2.2.2.2.2.2.2.2.1, u.2.2.2.2.2.2.2.2.2.2.2.2.1, u.2.2.2.2.2.2.2.2.2.2.2.2.2.1, u.2.2.2.2.2.2.2.2.2.2.2.2.2.2.1, u.2.2.2.2.2.2.2.2.2.2.2.2.2.2.2.1, u.2.2.2.2.2.2.2.2.2.2.2.2.2.2.2.2.1, u.2.2.2.2.2.2.2.2.2.2.2.2.2.2.2.2.2.1, u.2.2.2.2.2.2.2.2.2.2.2.2.2.2.2.2.2.2.1, u.2.2.2.2.2.2.2.2.2.2.2.2.2.2.2.2.2.2.2.1, u.2.2.2.2.2.2.2.2.2.2.2.2.2.2.2.2.2.2.2.2.1, u.2.2.2.2.2.2.2.2.2.2.2.2.2.2.2.2.2.2.2.2.2.1, u.2.2.2.2.2.2.2.2.2.2.2.2.2.2.2.2.2.2.2.2.2.2.1, u.2.2.2.2.2.2.2.2.2.2.2.2.2.2.2.2.2.2.2.2.2.2.2.1, u.2.2.2.2.2.2.2.2.2.2.2.2.2.2.2.2.2.2.2.2.2.2.2.2.1, u.2.2.2.2.2.2.2.2.2.2.2.2.2.2.2.2.2.2.2.2.2.2.2.2.2.1, v, u.2.2.2.2.2.2.2.2.2.2.2.2.2.2.2.2.2.2.2.2.2.2.2.2.2.2.2.1, u.2.2.2.2.2.2.2.2.2.2.2.2.2.2.2.2.2.2.2.2.2.2.2.2.2.2.2.2.1, u.2.2.2.2.2.2.2.2.2.2.2.2.2.2.2.2.2.2.2.2.2.2.2.2.2.2.2.2.2.1, u.2.2.2.2.2.2.2.2.2.2.2.2.2.2.2.2.2.2.2.2.2.2.2.2.2.2.2.2.2.2)
def Xs_testing_waiting (u : XS) (v : Nat → Int32) : XS := (u.1, u.2.1, u.2.2.1, u.2.2.2.1, u.2.2.2.2.1, u.2.2.2.2.2.1, u.2.2.2.2.2.2.1, u.2.2.2.2.2.2.2.1, u.2.2.2.2.2.2.2.2.1, u.2.2.2.2.2.2.2.2.2.1, u.2.2.2.2.2.2.2.2.2.2.1, u.2.2.2.2.2.2.2.2.2.2.2.1, u.2.2.2.2.2.2.2.2.2.2.2.2.1, u.2.2.2.2.2.2.2.2.2.2.2.2.2.1, u.2.2.2.2.2.2.2.2.2.2.2.2.2.2.1, u.2.2.2.2.2.2.2.2.2.2.2.2.2.2.2.1, u.2.2.2.2.2.2.2.2.2.2.2.2.2.2.2.2.1, u.2.2.2.2.2.2.2.2.2.2.2.2.2.2.2.2.2.1, u.2.2.2.2.2.2.2.2.2.2.2.2.2.2.2.2.2.2.1, u.2.2.2.2.2.2.2.2.2.2.2.2.2.2.2.2.2.2.2.1, u.2.2.2.2.2.2.2.2.2.2.2.2.2.2.2.2.2.2.2.2.1, u.2.2.2.2.2.2.2.2.2.2.2.2.2.2.2.2.2.2.2.2.2.1, u.2.2.2.2.2.2.2.2.2.2.2.2.2.2.2.2.2.2.2.2.2.2.1, u.2.2.2.2.2.2.2.2.2.2.2.2.2.2.2.2.2.2.2.2.2.2.2.1, u.2.2.2.2.2.2.2.2.2.2.2.2.2.2.2.2.2.2.2.2.2.2.2.2.1, u.2.2.2.2.2.2.2.2.2.2.2.2.2.2.2.2.2.2.2.2.2.2.2.2.2.1, u.2.2.2.2.2.2.2.2.2.2.2.2.2.2.2.2.2.2.2.2.2.2.2.2.2.2.1, v, u.2.2.2.2.2.2.2.2.2.2.2.2.2.2.2.2.2.2.2.2.2.2.2.2.2.2.2.2.1, u.2.2.2.2.2.2.2.2.2.2.2.2.2.2.2.2.2.2.2.2.2.2.2.2.2.2.2.2.2.1, u.2.2.2.2.2.2.2.2.2.2.2.2.2.2.2.2.2.2.2.2.2.2.2.2.2.2.2.2.2.2)
def Xs_switches (u : XS) (v : Nat → Int32) : XS := (u.1, u.2.1, u.2.2.1, u.2.2.2.1, u.2.2.2.2.1, u.2.2.2.2.2.1, u.2.2.2.2.2.2.1, u.2.2.2.2.2.2.2.1, u.2.2.2.2.2.2.2.2.1, u.2.2.2.2.2.2.2.2.2.1, u.2.2.2.2.2.2.2.2.2.2.1, u.2.2.2.2.2.2.2.2.2.2.2.1, u.2.2.2.2.2.2.2.2.2.2.2.2.1, u.2.2.2.2.2.2.2.2.2.2.2.2.2.1, u.2.2.2.2.2.2.2.2.2.2.2.2.2.2.1, u.2.2.2.2.2.2.2.2.2.2.2.2.2.2.2.1, u.2.2.2.2.2.2.2.2.2.2.2.2.2.2.2.2.1, u.2.2.2.2.2.2.2.2.2.2.2.2.2.2.2.2.2.1, u.2.2.2.2.2.2.2.2.2.2.2.2.2.2.2.2.2.2.1, u.2.2.2.2.2.2.2.2.2.2.2.2.2.2.2.2.2.2.2.1, u.2.2.2.2.2.2.2.2.2.2.2.2.2.2.2.2.2.2.2.2.1, u.2.2.2.2.2.2.2.2.2.2.2.2.2.2.2.2.2.2.2.2.2.1, u.2.2.2.2.2.2.2.2.2.2.2.2.2.2.2.2.2.2.2.2.2.2.1, u.2.2.2.2.2.2.2.2.2.2.2.2.2.2.2.2.2.2.2.2.2.2.2.1, u.2.2.2.2.2.2.2.2.2.2.2.2.2.2.2.2.2.2.2.2.2.2.2.2.1, u.2.2.2.2.2.2.2.2.2.2.2.2.2.2.2.2.2.2.2.2.2.2.2.2.2.1, u.2.2.2.2.2.2.2.2.2.2.2.2.2.2.2.2.2.2.2.2.2.2.2.2.2.2.1, u.2.2.2.2.2.2.2.2.2.2.2.2.2.2.2.2.2.2.2.2.2.2.2.2.2.2.2.1, v, u.2.2.2.2.2.2.2.2.2.2.2.2.2.2.2.2.2.2.2.2.2.2.2.2.2.2.2.2.2.1, u.2.2.2.2.2.2.2.2.2.2.2.2.2.2.2.2.2.2.2.2.2.2.2.2.2.2.2.2.2.2)
def Xs_leftText (u : XS) (v : Nat → Int32) : XS := (u.1, u.2.1, u.2.2.1, u.2.2.2.1, u.2.2.2.2.1, u.2.2.2.2.2.1, u.2.2.2.2.2.2.1, u.2.2.2.2.2.2.2.1, u.2.2.2.2.2.2.2.2.1, u.2.2.2.2.2.2.2.2.2.1, u.2.2.2.2.2.2.2.2.2.2.1, u.2.2.2.2.2.2.2.2.2.2.2.1, u.2.2.2.2.2.2.2.2.2.2.2.2.1, u.2.2.2.2.2.2.2.2.2.2.2.2.2.1, u.2.2.2.2.2.2.2.2.2.2.2.2.2.2.1, u.2.2.2.2.2.2.2.2.2.2.2.2.2.2.2.1, u.2.2.2.2.2.2.2.2.2.2.2.2.2.2.2.2.1, u.2.2.2.2.2.2.2.2.2.2.2.2.2.2.2.2.2.1, u.2.2.2.2.2.2.2.2.2.2.2.2.2.2.2.2.2.2.1, u.2.2.2.2.2.2.2.2.2.2.2.2.2.2.2.2.2.2.2.1, u.2.2.2.2.2.2.2.2.2.2.2.2.2.2.2.2.2.2.2.2.1, u.2.2.2.2.2.2.2.2.2.2.2.2.2.2.2.2.2.2.2.2.2.1, u.2.2.2.2.2.2.2.2.2.2.2.2.2.2.2.2.2.2.2.2.2.2.1, u.2.2.2.2.2.2.2.2.2.2.2.2.2.2.2.2.2.2.2.2.2.2.2.1, u.2.2.2.2.2.2.2.2.2.2.2.2.2.2.2.2.2.2.2.2.2.2.2.2.1, u.2.2.2.2.2.2.2.2.2.2.2.2.2.2.2.2.2.2.2.2.2.2.2.2.2.1, u.2.2.2.2.2.2.2.2.2.2.2.2.2.2.2.2.2.2.2.2.2.2.2.2.2.2.1, u.2.2.2.2.2.2.2.2.2.2.2.2.2.2.2.2.2.2.2.2.2.2.2.2.2.2.2.1, u.2.2.2.2.2.2.2.2.2.2.2.2.2.2.2.2.2.2.2.2.2.2.2.2.2.2.2.2.1, v, u.2.2.2.2.2.2.2.2.2.2.2.2.2.2.2.2.2.2.2.2.2.2.2.2.2.2.2.2.2.2)
def Xs_rightText (u : XS) (v : Nat → Int32) : XS := (u.1, u.2.1, u.2.2.1, u.2.2.2.1, u.2.2.2.2.1, u.2.2.2.2.2.1, u.2.2.2.2.2.2.1, u.2.2.2.2.2.2.2.1, u.2.2.2.2.2.2.2.2.1, u.2.2.2.2.2.2.2.2.2.1, u.2.2.2.2.2.2.2.2.2.2.1, u.2.2.2.2.2.2.2.2.2.2.2.1, u.2.2.2.2.2.2.2.2.2.2.2.2.1, u.2.2.2.2.2.2.2.2.2.2.2.2.2.1, u.2.2.2.2.2.2.2.2.2.2.2.2.2.2.1, u.2.2.2.2.2.2.2.2.2.2.2.2.2.2.2.1, u.2.2.2.2.2.2.2.2.2.2.2.2.2.2.2.2.1, u.2.2.2.2.2.2.2.2.2.2.2.2.2.2.2.2.2.1, u.2.2.2.2.2.2.2.2.2.2.2.2.2.2.2.2.2.2.1, u.2.2.2.2.2.2.2.2.2.2.2.2.2.2.2.2.2.2.2.1, u.2.2.2.2.2.2.2.2.2.2.2.2.2.2.2.2.2.2.2.2.1, u.2.2.2.2.2.2.2.2.2.2.2.2.2.2.2.2.2.2.2.2.2.1, u.2.2.2.2.2.2.2.2.2.2.2.2.2.2.2.2.2.2.2.2.2.2.1, u.2.2.2.2.2.2.2.2.2.2.2.2.2.2.2.2.2.2.2.2.2.2.2.1, u.2.2.2.2.2.2.2.2.2.2.2.2.2.2.2.2.2.2.2.2.2.2.2.2.1, u.2.2.2.2.2.2.2.2.2.2.2.2.2.2.2.2.2.2.2.2.2.2.2.2.2.1, u.2.2.2.2.2.2.2.2.2.2.2.2.2.2.2.2.2.2.2.2.2.2.2.2.2.2.1, u.2.2.2.2.2.2.2.2.2.2.2.2.2.2.2.2.2.2.2.2.2.2.2.2.2.2.2.1, u.2.2.2.2.2.2.2.2.2.2.2.2.2.2.2.2.2.2.2.2.2.2.2.2.2.2.2.2.1, u.2.2.2.2.2.2.2.2.2.2.2.2.2.2.2.2.2.2.2.2.2.2.2.2.2.2.2.2.2.1, v)
def wX (k : zK) (a : Nat → Nat) (u : XS) : va_W := [((a 0), .inr (0, [.int (Xg_whole u), .ref (a 1), .ref (a 6), .ref (a 8), .ref (a 13), .ref (a 17), .ref (a 22), .ref (a 26), .ref (a 27), .ref (a 28)])),
  ((a 1), .inr (1, [.ref (a 2), .ref (a 3), .ref (a 4), .ref (a 5), .int (Xg_fields_made u)])),
  ((a 2), .inl (k.2.1, 40, .inl (Xg_fields_category u))),
  ((a 3), .inl (k.2.1, 40, .inl (Xg_fields_size u))),
  ((a 4), .inl (k.2.1, 40, .inl (Xg_fields_scale u))),
  ((a 5), .inl (k.2.1, 1280, .inl (Xg_fields_bytes u))),
  ((a 6), .inr (2, [.ref (a 7)])),
  ((a 7), .inl (k.2.1, 256, .inl (Xg_weights_of u))),
  ((a 8), .inr (3, [.ref (a 9), .ref (a 10), .ref (a 11), .ref (a 12), .int (Xg_names_made u)])),
  ((a 9), .inl (k.2.1, 41, .inl (Xg_names_field u))),
  ((a 10), .inl (k.2.1, 41, .inl (Xg_names_ranges u))),
  ((a 11), .inl (k.2.2.1, 328, .inr (.inl (Xg_names_low u)))),
  ((a 12), .inl (k.2.2.1, 328, .inr (.inl (Xg_names_high u)))),
  ((a 13), .inr (4, [.ref (a 14), .ref (a 15), .ref (a 16), .int (Xg_nodes_made u)])),
  ((a 14), .inl (k.2.1, 201, .inl (Xg_nodes_op u))),
  ((a 15), .inl (k.2.1, 201, .inl (Xg_nodes_a u))),
  ((a 16), .inl (k.2.1, 201, .inl (Xg_nodes_b u))),
  ((a 17), .inr (5, [.ref (a 18), .ref (a 19), .ref (a 20), .ref (a 21), .int (Xg_row_subject u), .int (Xg_row_carried u), .int (Xg_row_length u)])),
  ((a 18), .inl (k.2.1, 20, .inl (Xg_row_with u))),
  ((a 19), .inl (k.2.1, 20, .inl (Xg_row_op u))),
  ((a 20), .inl (k.2.2.2, 20, .inl (Xg_row_negated u))),
  ((a 21), .inl (k.2.1, 20, .inl (Xg_row_object u))),
  ((a 22), .inr (6, [.ref (a 23), .ref (a 24), .ref (a 25), .int (Xg_testing_noted u), .int (Xg_testing_depth u)])),
  ((a 23), .inl (k.2.1, 201, .inl (Xg_testing_outcome u))),
  ((a 24), .inl (k.2.1, 200, .inl (Xg_testing_leaves u))),
  ((a 25), .inl (k.2.1, 200, .inl (Xg_testing_waiting u))),
  ((a 26), .inl (k.2.2.2, 16, .inl (Xg_switches u))),
  ((a 27), .inl (k.2.1, 32, .inl (Xg_leftText u))),
  ((a 28), .inl (k.2.1, 32, .inl (Xg_rightText u)))]
theorem XD {k : zK} {a : Nat → Nat} (hI : zI 29 a) (u : XS) : va_D (zA 29 a) (wX k a u) := zDg hI rfl
theorem Xq_whole_whole (u : XS) (v : Int32) : Xg_whole (Xs_whole u v) = v := rfl
theorem Xq_fields_made_whole (u : XS) (v : Int32) : Xg_fields_made (Xs_whole u v) = Xg_fields_made u := rfl
theorem Xq_fields_category_whole (u : XS) (v : Int32) : Xg_fields_category (Xs_whole u v) = Xg_fields_category u := rfl
theorem Xq_fields_size_whole (u : XS) (v : Int32) : Xg_fields_size (Xs_whole u v) = Xg_fields_size u := rfl
theorem Xq_fields_scale_whole (u : XS) (v : Int32) : Xg_fields_scale (Xs_whole u v) = Xg_fields_scale u := rfl
theorem Xq_fields_bytes_whole (u : XS) (v : Int32) : Xg_fields_bytes (Xs_whole u v) = Xg_fields_bytes u := rfl
theorem Xq_weights_of_whole (u : XS) (v : Int32) : Xg_weights_of (Xs_whole u v) = Xg_weights_of u := rfl
theorem Xq_names_made_whole (u : XS) (v : Int32) : Xg_names_made (Xs_whole u v) = Xg_names_made u := rfl
theorem Xq_names_field_whole (u : XS) (v : Int32) : Xg_names_field (Xs_whole u v) = Xg_names_field u := rfl
theorem Xq_names_ranges_whole (u : XS) (v : Int32) : Xg_names_ranges (Xs_whole u v) = Xg_names_ranges u := rfl
theorem Xq_names_low_whole (u : XS) (v : Int32) : Xg_names_low (Xs_whole u v) = Xg_names_low u := rfl
theorem Xq_names_high_whole (u : XS) (v : Int32) : Xg_names_high (Xs_whole u v) = Xg_names_high u := rfl
theorem Xq_nodes_made_whole (u : XS) (v : Int32) : Xg_nodes_made (Xs_whole u v) = Xg_nodes_made u := rfl
theorem Xq_nodes_op_whole (u : XS) (v : Int32) : Xg_nodes_op (Xs_whole u v) = Xg_nodes_op u := rfl
theorem Xq_nodes_a_whole (u : XS) (v : Int32) : Xg_nodes_a (Xs_whole u v) = Xg_nodes_a u := rfl
theorem Xq_nodes_b_whole (u : XS) (v : Int32) : Xg_nodes_b (Xs_whole u v) = Xg_nodes_b u := rfl
theorem Xq_row_subject_whole (u : XS) (v : Int32) : Xg_row_subject (Xs_whole u v) = Xg_row_subject u := rfl
theorem Xq_row_carried_whole (u : XS) (v : Int32) : Xg_row_carried (Xs_whole u v) = Xg_row_carried u := rfl
theorem Xq_row_length_whole (u : XS) (v : Int32) : Xg_row_length (Xs_whole u v) = Xg_row_length u := rfl
theorem Xq_row_with_whole (u : XS) (v : Int32) : Xg_row_with (Xs_whole u v) = Xg_row_with u := rfl
theorem Xq_row_op_whole (u : XS) (v : Int32) : Xg_row_op (Xs_whole u v) = Xg_row_op u := rfl
theorem Xq_row_negated_whole (u : XS) (v : Int32) : Xg_row_negated (Xs_whole u v) = Xg_row_negated u := rfl
theorem Xq_row_object_whole (u : XS) (v : Int32) : Xg_row_object (Xs_whole u v) = Xg_row_object u := rfl
theorem Xq_testing_noted_whole (u : XS) (v : Int32) : Xg_testing_noted (Xs_whole u v) = Xg_testing_noted u := rfl
theorem Xq_testing_depth_whole (u : XS) (v : Int32) : Xg_testing_depth (Xs_whole u v) = Xg_testing_depth u := rfl
theorem Xq_testing_outcome_whole (u : XS) (v : Int32) : Xg_testing_outcome (Xs_whole u v) = Xg_testing_outcome u := rfl
theorem Xq_testing_leaves_whole (u : XS) (v : Int32) : Xg_testing_leaves (Xs_whole u v) = Xg_testing_leaves u := rfl
theorem Xq_testing_waiting_whole (u : XS) (v : Int32) : Xg_testing_waiting (Xs_whole u v) = Xg_testing_waiting u := rfl
theorem Xq_switches_whole (u : XS) (v : Int32) : Xg_switches (Xs_whole u v) = Xg_switches u := rfl
theorem Xq_leftText_whole (u : XS) (v : Int32) : Xg_leftText (Xs_whole u v) = Xg_leftText u := rfl
theorem Xq_rightText_whole (u : XS) (v : Int32) : Xg_rightText (Xs_whole u v) = Xg_rightText u := rfl
theorem Xq_whole_fields_made (u : XS) (v : Int32) : Xg_whole (Xs_fields_made u v) = Xg_whole u := rfl
theorem Xq_fields_made_fields_made (u : XS) (v : Int32) : Xg_fields_made (Xs_fields_made u v) = v := rfl
theorem Xq_fields_category_fields_made (u : XS) (v : Int32) : Xg_fields_category (Xs_fields_made u v) = Xg_fields_category u := rfl
theorem Xq_fields_size_fields_made (u : XS) (v : Int32) : Xg_fields_size (Xs_fields_made u v) = Xg_fields_size u := rfl
theorem Xq_fields_scale_fields_made (u : XS) (v : Int32) : Xg_fields_scale (Xs_fields_made u v) = Xg_fields_scale u := rfl
theorem Xq_fields_bytes_fields_made (u : XS) (v : Int32) : Xg_fields_bytes (Xs_fields_made u v) = Xg_fields_bytes u := rfl
theorem Xq_weights_of_fields_made (u : XS) (v : Int32) : Xg_weights_of (Xs_fields_made u v) = Xg_weights_of u := rfl
theorem Xq_names_made_fields_made (u : XS) (v : Int32) : Xg_names_made (Xs_fields_made u v) = Xg_names_made u := rfl
theorem Xq_names_field_fields_made (u : XS) (v : Int32) : Xg_names_field (Xs_fields_made u v) = Xg_names_field u := rfl
theorem Xq_names_ranges_fields_made (u : XS) (v : Int32) : Xg_names_ranges (Xs_fields_made u v) = Xg_names_ranges u := rfl
theorem Xq_names_low_fields_made (u : XS) (v : Int32) : Xg_names_low (Xs_fields_made u v) = Xg_names_low u := rfl
theorem Xq_names_high_fields_made (u : XS) (v : Int32) : Xg_names_high (Xs_fields_made u v) = Xg_names_high u := rfl
theorem Xq_nodes_made_fields_made (u : XS) (v : Int32) : Xg_nodes_made (Xs_fields_made u v) = Xg_nodes_made u := rfl
theorem Xq_nodes_op_fields_made (u : XS) (v : Int32) : Xg_nodes_op (Xs_fields_made u v) = Xg_nodes_op u := rfl
theorem Xq_nodes_a_fields_made (u : XS) (v : Int32) : Xg_nodes_a (Xs_fields_made u v) = Xg_nodes_a u := rfl
theorem Xq_nodes_b_fields_made (u : XS) (v : Int32) : Xg_nodes_b (Xs_fields_made u v) = Xg_nodes_b u := rfl
theorem Xq_row_subject_fields_made (u : XS) (v : Int32) : Xg_row_subject (Xs_fields_made u v) = Xg_row_subject u := rfl
theorem Xq_row_carried_fields_made (u : XS) (v : Int32) : Xg_row_carried (Xs_fields_made u v) = Xg_row_carried u := rfl
theorem Xq_row_length_fields_made (u : XS) (v : Int32) : Xg_row_length (Xs_fields_made u v) = Xg_row_length u := rfl
theorem Xq_row_with_fields_made (u : XS) (v : Int32) : Xg_row_with (Xs_fields_made u v) = Xg_row_with u := rfl
theorem Xq_row_op_fields_made (u : XS) (v : Int32) : Xg_row_op (Xs_fields_made u v) = Xg_row_op u := rfl
theorem Xq_row_negated_fields_made (u : XS) (v : Int32) : Xg_row_negated (Xs_fields_made u v) = Xg_row_negated u := rfl
theorem Xq_row_object_fields_made (u : XS) (v : Int32) : Xg_row_object (Xs_fields_made u v) = Xg_row_object u := rfl
theorem Xq_testing_noted_fields_made (u : XS) (v : Int32) : Xg_testing_noted (Xs_fields_made u v) = Xg_testing_noted u := rfl
theorem Xq_testing_depth_fields_made (u : XS) (v : Int32) : Xg_testing_depth (Xs_fields_made u v) = Xg_testing_depth u := rfl
theorem Xq_testing_outcome_fields_made (u : XS) (v : Int32) : Xg_testing_outcome (Xs_fields_made u v) = Xg_testing_outcome u := rfl
theorem Xq_testing_leaves_fields_made (u : XS) (v : Int32) : Xg_testing_leaves (Xs_fields_made u v) = Xg_testing_leaves u := rfl
theorem Xq_testing_waiting_fields_made (u : XS) (v : Int32) : Xg_testing_waiting (Xs_fields_made u v) = Xg_testing_waiting u := rfl
theorem Xq_switches_fields_made (u : XS) (v : Int32) : Xg_switches (Xs_fields_made u v) = Xg_switches u := rfl
theorem Xq_leftText_fields_made (u : XS) (v : Int32) : Xg_leftText (Xs_fields_made u v) = Xg_leftText u := rfl
theorem Xq_rightText_fields_made (u : XS) (v : Int32) : Xg_rightText (Xs_fields_made u v) = Xg_rightText u := rfl
theorem Xq_whole_fields_category (u : XS) (v : Nat → Int32) : Xg_whole (Xs_fields_category u v) = Xg_whole u := rfl
theorem Xq_fields_made_fields_category (u : XS) (v : Nat → Int32) : Xg_fields_made (Xs_fields_category u v) = Xg_fields_made u := rfl
theorem Xq_fields_category_fields_category (u : XS) (v : Nat → Int32) : Xg_fields_category (Xs_fields_category u v) = v := rfl
theorem Xq_fields_size_fields_category (u : XS) (v : Nat → Int32) : Xg_fields_size (Xs_fields_category u v) = Xg_fields_size u := rfl
theorem Xq_fields_scale_fields_category (u : XS) (v : Nat → Int32) : Xg_fields_scale (Xs_fields_category u v) = Xg_fields_scale u := rfl
theorem Xq_fields_bytes_fields_category (u : XS) (v : Nat → Int32) : Xg_fields_bytes (Xs_fields_category u v) = Xg_fields_bytes u := rfl
theorem Xq_weights_of_fields_category (u : XS) (v : Nat → Int32) : Xg_weights_of (Xs_fields_category u v) = Xg_weights_of u := rfl
theorem Xq_names_made_fields_category (u : XS) (v : Nat → Int32) : Xg_names_made (Xs_fields_category u v) = Xg_names_made u := rfl
theorem Xq_names_field_fields_category (u : XS) (v : Nat → Int32) : Xg_names_field (Xs_fields_category u v) = Xg_names_field u := rfl
theorem Xq_names_ranges_fields_category (u : XS) (v : Nat → Int32) : Xg_names_ranges (Xs_fields_category u v) = Xg_names_ranges u := rfl
theorem Xq_names_low_fields_category (u : XS) (v : Nat → Int32) : Xg_names_low (Xs_fields_category u v) = Xg_names_low u := rfl
theorem Xq_names_high_fields_category (u : XS) (v : Nat → Int32) : Xg_names_high (Xs_fields_category u v) = Xg_names_high u := rfl
theorem Xq_nodes_made_fields_category (u : XS) (v : Nat → Int32) : Xg_nodes_made (Xs_fields_category u v) = Xg_nodes_made u := rfl
theorem Xq_nodes_op_fields_category (u : XS) (v : Nat → Int32) : Xg_nodes_op (Xs_fields_category u v) = Xg_nodes_op u := rfl
theorem Xq_nodes_a_fields_category (u : XS) (v : Nat → Int32) : Xg_nodes_a (Xs_fields_category u v) = Xg_nodes_a u := rfl
theorem Xq_nodes_b_fields_category (u : XS) (v : Nat → Int32) : Xg_nodes_b (Xs_fields_category u v) = Xg_nodes_b u := rfl
theorem Xq_row_subject_fields_category (u : XS) (v : Nat → Int32) : Xg_row_subject (Xs_fields_category u v) = Xg_row_subject u := rfl
theorem Xq_row_carried_fields_category (u : XS) (v : Nat → Int32) : Xg_row_carried (Xs_fields_category u v) = Xg_row_carried u := rfl
theorem Xq_row_length_fields_category (u : XS) (v : Nat → Int32) : Xg_row_length (Xs_fields_category u v) = Xg_row_length u := rfl
theorem Xq_row_with_fields_category (u : XS) (v : Nat → Int32) : Xg_row_with (Xs_fields_category u v) = Xg_row_with u := rfl
theorem Xq_row_op_fields_category (u : XS) (v : Nat → Int32) : Xg_row_op (Xs_fields_category u v) = Xg_row_op u := rfl
theorem Xq_row_negated_fields_category (u : XS) (v : Nat → Int32) : Xg_row_negated (Xs_fields_category u v) = Xg_row_negated u := rfl
theorem Xq_row_object_fields_category (u : XS) (v : Nat → Int32) : Xg_row_object (Xs_fields_category u v) = Xg_row_object u := rfl
theorem Xq_testing_noted_fields_category (u : XS) (v : Nat → Int32) : Xg_testing_noted (Xs_fields_category u v) = Xg_testing_noted u := rfl
theorem Xq_testing_depth_fields_category (u : XS) (v : Nat → Int32) : Xg_testing_depth (Xs_fields_category u v) = Xg_testing_depth u := rfl
theorem Xq_testing_outcome_fields_category (u : XS) (v : Nat → Int32) : Xg_testing_outcome (Xs_fields_category u v) = Xg_testing_outcome u := rfl
theorem Xq_testing_leaves_fields_category (u : XS) (v : Nat → Int32) : Xg_testing_leaves (Xs_fields_category u v) = Xg_testing_leaves u := rfl
theorem Xq_testing_waiting_fields_category (u : XS) (v : Nat → Int32) : Xg_testing_waiting (Xs_fields_category u v) = Xg_testing_waiting u := rfl
theorem Xq_switches_fields_category (u : XS) (v : Nat → Int32) : Xg_switches (Xs_fields_category u v) = Xg_switches u := rfl
theorem Xq_leftText_fields_category (u : XS) (v : Nat → Int32) : Xg_leftText (Xs_fields_category u v) = Xg_leftText u := rfl
theorem Xq_rightText_fields_category (u : XS) (v : Nat → Int32) : Xg_rightText (Xs_fields_category u v) = Xg_rightText u := rfl
theorem Xq_whole_fields_size (u : XS) (v : Nat → Int32) : Xg_whole (Xs_fields_size u v) = Xg_whole u := rfl
theorem Xq_fields_made_fields_size (u : XS) (v : Nat → Int32) : Xg_fields_made (Xs_fields_size u v) = Xg_fields_made u := rfl
theorem Xq_fields_category_fields_size (u : XS) (v : Nat → Int32) : Xg_fields_category (Xs_fields_size u v) = Xg_fields_category u := rfl
theorem Xq_fields_size_fields_size (u : XS) (v : Nat → Int32) : Xg_fields_size (Xs_fields_size u v) = v := rfl
theorem Xq_fields_scale_fields_size (u : XS) (v : Nat → Int32) : Xg_fields_scale (Xs_fields_size u v) = Xg_fields_scale u := rfl
theorem Xq_fields_bytes_fields_size (u : XS) (v : Nat → Int32) : Xg_fields_bytes (Xs_fields_size u v) = Xg_fields_bytes u := rfl
theorem Xq_weights_of_fields_size (u : XS) (v : Nat → Int32) : Xg_weights_of (Xs_fields_size u v) = Xg_weights_of u := rfl
theorem Xq_names_made_fields_size (u : XS) (v : Nat → Int32) : Xg_names_made (Xs_fields_size u v) = Xg_names_made u := rfl
theorem Xq_names_field_fields_size (u : XS) (v : Nat → Int32) : Xg_names_field (Xs_fields_size u v) = Xg_names_field u := rfl
theorem Xq_names_ranges_fields_size (u : XS) (v : Nat → Int32) : Xg_names_ranges (Xs_fields_size u v) = Xg_names_ranges u := rfl
theorem Xq_names_low_fields_size (u : XS) (v : Nat → Int32) : Xg_names_low (Xs_fields_size u v) = Xg_names_low u := rfl
theorem Xq_names_high_fields_size (u : XS) (v : Nat → Int32) : Xg_names_high (Xs_fields_size u v) = Xg_names_high u := rfl
theorem Xq_nodes_made_fields_size (u : XS) (v : Nat → Int32) : Xg_nodes_made (Xs_fields_size u v) = Xg_nodes_made u := rfl
theorem Xq_nodes_op_fields_size (u : XS) (v : Nat → Int32) : Xg_nodes_op (Xs_fields_size u v) = Xg_nodes_op u := rfl
theorem Xq_nodes_a_fields_size (u : XS) (v : Nat → Int32) : Xg_nodes_a (Xs_fields_size u v) = Xg_nodes_a u := rfl
theorem Xq_nodes_b_fields_size (u : XS) (v : Nat → Int32) : Xg_nodes_b (Xs_fields_size u v) = Xg_nodes_b u := rfl
theorem Xq_row_subject_fields_size (u : XS) (v : Nat → Int32) : Xg_row_subject (Xs_fields_size u v) = Xg_row_subject u := rfl
theorem Xq_row_carried_fields_size (u : XS) (v : Nat → Int32) : Xg_row_carried (Xs_fields_size u v) = Xg_row_carried u := rfl
theorem Xq_row_length_fields_size (u : XS) (v : Nat → Int32) : Xg_row_length (Xs_fields_size u v) = Xg_row_length u := rfl
theorem Xq_row_with_fields_size (u : XS) (v : Nat → Int32) : Xg_row_with (Xs_fields_size u v) = Xg_row_with u := rfl
theorem Xq_row_op_fields_size (u : XS) (v : Nat → Int32) : Xg_row_op (Xs_fields_size u v) = Xg_row_op u := rfl
theorem Xq_row_negated_fields_size (u : XS) (v : Nat → Int32) : Xg_row_negated (Xs_fields_size u v) = Xg_row_negated u := rfl
theorem Xq_row_object_fields_size (u : XS) (v : Nat → Int32) : Xg_row_object (Xs_fields_size u v) = Xg_row_object u := rfl
theorem Xq_testing_noted_fields_size (u : XS) (v : Nat → Int32) : Xg_testing_noted (Xs_fields_size u v) = Xg_testing_noted u := rfl
theorem Xq_testing_depth_fields_size (u : XS) (v : Nat → Int32) : Xg_testing_depth (Xs_fields_size u v) = Xg_testing_depth u := rfl
theorem Xq_testing_outcome_fields_size (u : XS) (v : Nat → Int32) : Xg_testing_outcome (Xs_fields_size u v) = Xg_testing_outcome u := rfl
theorem Xq_testing_leaves_fields_size (u : XS) (v : Nat → Int32) : Xg_testing_leaves (Xs_fields_size u v) = Xg_testing_leaves u := rfl
theorem Xq_testing_waiting_fields_size (u : XS) (v : Nat → Int32) : Xg_testing_waiting (Xs_fields_size u v) = Xg_testing_waiting u := rfl
theorem Xq_switches_fields_size (u : XS) (v : Nat → Int32) : Xg_switches (Xs_fields_size u v) = Xg_switches u := rfl
theorem Xq_leftText_fields_size (u : XS) (v : Nat → Int32) : Xg_leftText (Xs_fields_size u v) = Xg_leftText u := rfl
theorem Xq_rightText_fields_size (u : XS) (v : Nat → Int32) : Xg_rightText (Xs_fields_size u v) = Xg_rightText u := rfl
theorem Xq_whole_fields_scale (u : XS) (v : Nat → Int32) : Xg_whole (Xs_fields_scale u v) = Xg_whole u := rfl
theorem Xq_fields_made_fields_scale (u : XS) (v : Nat → Int32) : Xg_fields_made (Xs_fields_scale u v) = Xg_fields_made u := rfl
theorem Xq_fields_category_fields_scale (u : XS) (v : Nat → Int32) : Xg_fields_category (Xs_fields_scale u v) = Xg_fields_category u := rfl
theorem Xq_fields_size_fields_scale (u : XS) (v : Nat → Int32) : Xg_fields_size (Xs_fields_scale u v) = Xg_fields_size u := rfl
theorem Xq_fields_scale_fields_scale (u : XS) (v : Nat → Int32) : Xg_fields_scale (Xs_fields_scale u v) = v := rfl
theorem Xq_fields_bytes_fields_scale (u : XS) (v : Nat → Int32) : Xg_fields_bytes (Xs_fields_scale u v) = Xg_fields_bytes u := rfl
theorem Xq_weights_of_fields_scale (u : XS) (v : Nat → Int32) : Xg_weights_of (Xs_fields_scale u v) = Xg_weights_of u := rfl
theorem Xq_names_made_fields_scale (u : XS) (v : Nat → Int32) : Xg_names_made (Xs_fields_scale u v) = Xg_names_made u := rfl
theorem Xq_names_field_fields_scale (u : XS) (v : Nat → Int32) : Xg_names_field (Xs_fields_scale u v) = Xg_names_field u := rfl
theorem Xq_names_ranges_fields_scale (u : XS) (v : Nat → Int32) : Xg_names_ranges (Xs_fields_scale u v) = Xg_names_ranges u := rfl
theorem Xq_names_low_fields_scale (u : XS) (v : Nat → Int32) : Xg_names_low (Xs_fields_scale u v) = Xg_names_low u := rfl
theorem Xq_names_high_fields_scale (u : XS) (v : Nat → Int32) : Xg_names_high (Xs_fields_scale u v) = Xg_names_high u := rfl
theorem Xq_nodes_made_fields_scale (u : XS) (v : Nat → Int32) : Xg_nodes_made (Xs_fields_scale u v) = Xg_nodes_made u := rfl
theorem Xq_nodes_op_fields_scale (u : XS) (v : Nat → Int32) : Xg_nodes_op (Xs_fields_scale u v) = Xg_nodes_op u := rfl
theorem Xq_nodes_a_fields_scale (u : XS) (v : Nat → Int32) : Xg_nodes_a (Xs_fields_scale u v) = Xg_nodes_a u := rfl
theorem Xq_nodes_b_fields_scale (u : XS) (v : Nat → Int32) : Xg_nodes_b (Xs_fields_scale u v) = Xg_nodes_b u := rfl
theorem Xq_row_subject_fields_scale (u : XS) (v : Nat → Int32) : Xg_row_subject (Xs_fields_scale u v) = Xg_row_subject u := rfl
theorem Xq_row_carried_fields_scale (u : XS) (v : Nat → Int32) : Xg_row_carried (Xs_fields_scale u v) = Xg_row_carried u := rfl
theorem Xq_row_length_fields_scale (u : XS) (v : Nat → Int32) : Xg_row_length (Xs_fields_scale u v) = Xg_row_length u := rfl
theorem Xq_row_with_fields_scale (u : XS) (v : Nat → Int32) : Xg_row_with (Xs_fields_scale u v) = Xg_row_with u := rfl
theorem Xq_row_op_fields_scale (u : XS) (v : Nat → Int32) : Xg_row_op (Xs_fields_scale u v) = Xg_row_op u := rfl
theorem Xq_row_negated_fields_scale (u : XS) (v : Nat → Int32) : Xg_row_negated (Xs_fields_scale u v) = Xg_row_negated u := rfl
theorem Xq_row_object_fields_scale (u : XS) (v : Nat → Int32) : Xg_row_object (Xs_fields_scale u v) = Xg_row_object u := rfl
theorem Xq_testing_noted_fields_scale (u : XS) (v : Nat → Int32) : Xg_testing_noted (Xs_fields_scale u v) = Xg_testing_noted u := rfl
theorem Xq_testing_depth_fields_scale (u : XS) (v : Nat → Int32) : Xg_testing_depth (Xs_fields_scale u v) = Xg_testing_depth u := rfl
theorem Xq_testing_outcome_fields_scale (u : XS) (v : Nat → Int32) : Xg_testing_outcome (Xs_fields_scale u v) = Xg_testing_outcome u := rfl
theorem Xq_testing_leaves_fields_scale (u : XS) (v : Nat → Int32) : Xg_testing_leaves (Xs_fields_scale u v) = Xg_testing_leaves u := rfl
theorem Xq_testing_waiting_fields_scale (u : XS) (v : Nat → Int32) : Xg_testing_waiting (Xs_fields_scale u v) = Xg_testing_waiting u := rfl
theorem Xq_switches_fields_scale (u : XS) (v : Nat → Int32) : Xg_switches (Xs_fields_scale u v) = Xg_switches u := rfl
theorem Xq_leftText_fields_scale (u : XS) (v : Nat → Int32) : Xg_leftText (Xs_fields_scale u v) = Xg_leftText u := rfl
theorem Xq_rightText_fields_scale (u : XS) (v : Nat → Int32) : Xg_rightText (Xs_fields_scale u v) = Xg_rightText u := rfl
theorem Xq_whole_fields_bytes (u : XS) (v : Nat → Int32) : Xg_whole (Xs_fields_bytes u v) = Xg_whole u := rfl
theorem Xq_fields_made_fields_bytes (u : XS) (v : Nat → Int32) : Xg_fields_made (Xs_fields_bytes u v) = Xg_fields_made u := rfl
theorem Xq_fields_category_fields_bytes (u : XS) (v : Nat → Int32) : Xg_fields_category (Xs_fields_bytes u v) = Xg_fields_category u := rfl
theorem Xq_fields_size_fields_bytes (u : XS) (v : Nat → Int32) : Xg_fields_size (Xs_fields_bytes u v) = Xg_fields_size u := rfl
theorem Xq_fields_scale_fields_bytes (u : XS) (v : Nat → Int32) : Xg_fields_scale (Xs_fields_bytes u v) = Xg_fields_scale u := rfl
theorem Xq_fields_bytes_fields_bytes (u : XS) (v : Nat → Int32) : Xg_fields_bytes (Xs_fields_bytes u v) = v := rfl
theorem Xq_weights_of_fields_bytes (u : XS) (v : Nat → Int32) : Xg_weights_of (Xs_fields_bytes u v) = Xg_weights_of u := rfl
theorem Xq_names_made_fields_bytes (u : XS) (v : Nat → Int32) : Xg_names_made (Xs_fields_bytes u v) = Xg_names_made u := rfl
theorem Xq_names_field_fields_bytes (u : XS) (v : Nat → Int32) : Xg_names_field (Xs_fields_bytes u v) = Xg_names_field u := rfl
theorem Xq_names_ranges_fields_bytes (u : XS) (v : Nat → Int32) : Xg_names_ranges (Xs_fields_bytes u v) = Xg_names_ranges u := rfl
theorem Xq_names_low_fields_bytes (u : XS) (v : Nat → Int32) : Xg_names_low (Xs_fields_bytes u v) = Xg_names_low u := rfl
theorem Xq_names_high_fields_bytes (u : XS) (v : Nat → Int32) : Xg_names_high (Xs_fields_bytes u v) = Xg_names_high u := rfl
theorem Xq_nodes_made_fields_bytes (u : XS) (v : Nat → Int32) : Xg_nodes_made (Xs_fields_bytes u v) = Xg_nodes_made u := rfl
theorem Xq_nodes_op_fields_bytes (u : XS) (v : Nat → Int32) : Xg_nodes_op (Xs_fields_bytes u v) = Xg_nodes_op u := rfl
theorem Xq_nodes_a_fields_bytes (u : XS) (v : Nat → Int32) : Xg_nodes_a (Xs_fields_bytes u v) = Xg_nodes_a u := rfl
theorem Xq_nodes_b_fields_bytes (u : XS) (v : Nat → Int32) : Xg_nodes_b (Xs_fields_bytes u v) = Xg_nodes_b u := rfl
theorem Xq_row_subject_fields_bytes (u : XS) (v : Nat → Int32) : Xg_row_subject (Xs_fields_bytes u v) = Xg_row_subject u := rfl
theorem Xq_row_carried_fields_bytes (u : XS) (v : Nat → Int32) : Xg_row_carried (Xs_fields_bytes u v) = Xg_row_carried u := rfl
theorem Xq_row_length_fields_bytes (u : XS) (v : Nat → Int32) : Xg_row_length (Xs_fields_bytes u v) = Xg_row_length u := rfl
theorem Xq_row_with_fields_bytes (u : XS) (v : Nat → Int32) : Xg_row_with (Xs_fields_bytes u v) = Xg_row_with u := rfl
theorem Xq_row_op_fields_bytes (u : XS) (v : Nat → Int32) : Xg_row_op (Xs_fields_bytes u v) = Xg_row_op u := rfl
theorem Xq_row_negated_fields_bytes (u : XS) (v : Nat → Int32) : Xg_row_negated (Xs_fields_bytes u v) = Xg_row_negated u := rfl
theorem Xq_row_object_fields_bytes (u : XS) (v : Nat → Int32) : Xg_row_object (Xs_fields_bytes u v) = Xg_row_object u := rfl
theorem Xq_testing_noted_fields_bytes (u : XS) (v : Nat → Int32) : Xg_testing_noted (Xs_fields_bytes u v) = Xg_testing_noted u := rfl
theorem Xq_testing_depth_fields_bytes (u : XS) (v : Nat → Int32) : Xg_testing_depth (Xs_fields_bytes u v) = Xg_testing_depth u := rfl
theorem Xq_testing_outcome_fields_bytes (u : XS) (v : Nat → Int32) : Xg_testing_outcome (Xs_fields_bytes u v) = Xg_testing_outcome u := rfl
theorem Xq_testing_leaves_fields_bytes (u : XS) (v : Nat → Int32) : Xg_testing_leaves (Xs_fields_bytes u v) = Xg_testing_leaves u := rfl
theorem Xq_testing_waiting_fields_bytes (u : XS) (v : Nat → Int32) : Xg_testing_waiting (Xs_fields_bytes u v) = Xg_testing_waiting u := rfl
theorem Xq_switches_fields_bytes (u : XS) (v : Nat → Int32) : Xg_switches (Xs_fields_bytes u v) = Xg_switches u := rfl
theorem Xq_leftText_fields_bytes (u : XS) (v : Nat → Int32) : Xg_leftText (Xs_fields_bytes u v) = Xg_leftText u := rfl
theorem Xq_rightText_fields_bytes (u : XS) (v : Nat → Int32) : Xg_rightText (Xs_fields_bytes u v) = Xg_rightText u := rfl
theorem Xq_whole_weights_of (u : XS) (v : Nat → Int32) : Xg_whole (Xs_weights_of u v) = Xg_whole u := rfl
theorem Xq_fields_made_weights_of (u : XS) (v : Nat → Int32) : Xg_fields_made (Xs_weights_of u v) = Xg_fields_made u := rfl
theorem Xq_fields_category_weights_of (u : XS) (v : Nat → Int32) : Xg_fields_category (Xs_weights_of u v) = Xg_fields_category u := rfl
theorem Xq_fields_size_weights_of (u : XS) (v : Nat → Int32) : Xg_fields_size (Xs_weights_of u v) = Xg_fields_size u := rfl
theorem Xq_fields_scale_weights_of (u : XS) (v : Nat → Int32) : Xg_fields_scale (Xs_weights_of u v) = Xg_fields_scale u := rfl
theorem Xq_fields_bytes_weights_of (u : XS) (v : Nat → Int32) : Xg_fields_bytes (Xs_weights_of u v) = Xg_fields_bytes u := rfl
theorem Xq_weights_of_weights_of (u : XS) (v : Nat → Int32) : Xg_weights_of (Xs_weights_of u v) = v := rfl
theorem Xq_names_made_weights_of (u : XS) (v : Nat → Int32) : Xg_names_made (Xs_weights_of u v) = Xg_names_made u := rfl
theorem Xq_names_field_weights_of (u : XS) (v : Nat → Int32) : Xg_names_field (Xs_weights_of u v) = Xg_names_field u := rfl
theorem Xq_names_ranges_weights_of (u : XS) (v : Nat → Int32) : Xg_names_ranges (Xs_weights_of u v) = Xg_names_ranges u := rfl
theorem Xq_names_low_weights_of (u : XS) (v : Nat → Int32) : Xg_names_low (Xs_weights_of u v) = Xg_names_low u := rfl
theorem Xq_names_high_weights_of (u : XS) (v : Nat → Int32) : Xg_names_high (Xs_weights_of u v) = Xg_names_high u := rfl
theorem Xq_nodes_made_weights_of (u : XS) (v : Nat → Int32) : Xg_nodes_made (Xs_weights_of u v) = Xg_nodes_made u := rfl
theorem Xq_nodes_op_weights_of (u : XS) (v : Nat → Int32) : Xg_nodes_op (Xs_weights_of u v) = Xg_nodes_op u := rfl
theorem Xq_nodes_a_weights_of (u : XS) (v : Nat → Int32) : Xg_nodes_a (Xs_weights_of u v) = Xg_nodes_a u := rfl
theorem Xq_nodes_b_weights_of (u : XS) (v : Nat → Int32) : Xg_nodes_b (Xs_weights_of u v) = Xg_nodes_b u := rfl
theorem Xq_row_subject_weights_of (u : XS) (v : Nat → Int32) : Xg_row_subject (Xs_weights_of u v) = Xg_row_subject u := rfl
theorem Xq_row_carried_weights_of (u : XS) (v : Nat → Int32) : Xg_row_carried (Xs_weights_of u v) = Xg_row_carried u := rfl
theorem Xq_row_length_weights_of (u : XS) (v : Nat → Int32) : Xg_row_length (Xs_weights_of u v) = Xg_row_length u := rfl
theorem Xq_row_with_weights_of (u : XS) (v : Nat → Int32) : Xg_row_with (Xs_weights_of u v) = Xg_row_with u := rfl
theorem Xq_row_op_weights_of (u : XS) (v : Nat → Int32) : Xg_row_op (Xs_weights_of u v) = Xg_row_op u := rfl
theorem Xq_row_negated_weights_of (u : XS) (v : Nat → Int32) : Xg_row_negated (Xs_weights_of u v) = Xg_row_negated u := rfl
theorem Xq_row_object_weights_of (u : XS) (v : Nat → Int32) : Xg_row_object (Xs_weights_of u v) = Xg_row_object u := rfl
theorem Xq_testing_noted_weights_of (u : XS) (v : Nat → Int32) : Xg_testing_noted (Xs_weights_of u v) = Xg_testing_noted u := rfl
theorem Xq_testing_depth_weights_of (u : XS) (v : Nat → Int32) : Xg_testing_depth (Xs_weights_of u v) = Xg_testing_depth u := rfl
theorem Xq_testing_outcome_weights_of (u : XS) (v : Nat → Int32) : Xg_testing_outcome (Xs_weights_of u v) = Xg_testing_outcome u := rfl
theorem Xq_testing_leaves_weights_of (u : XS) (v : Nat → Int32) : Xg_testing_leaves (Xs_weights_of u v) = Xg_testing_leaves u := rfl
theorem Xq_testing_waiting_weights_of (u : XS) (v : Nat → Int32) : Xg_testing_waiting (Xs_weights_of u v) = Xg_testing_waiting u := rfl
theorem Xq_switches_weights_of (u : XS) (v : Nat → Int32) : Xg_switches (Xs_weights_of u v) = Xg_switches u := rfl
theorem Xq_leftText_weights_of (u : XS) (v : Nat → Int32) : Xg_leftText (Xs_weights_of u v) = Xg_leftText u := rfl
theorem Xq_rightText_weights_of (u : XS) (v : Nat → Int32) : Xg_rightText (Xs_weights_of u v) = Xg_rightText u := rfl
theorem Xq_whole_names_made (u : XS) (v : Int32) : Xg_whole (Xs_names_made u v) = Xg_whole u := rfl
theorem Xq_fields_made_names_made (u : XS) (v : Int32) : Xg_fields_made (Xs_names_made u v) = Xg_fields_made u := rfl
theorem Xq_fields_category_names_made (u : XS) (v : Int32) : Xg_fields_category (Xs_names_made u v) = Xg_fields_category u := rfl
theorem Xq_fields_size_names_made (u : XS) (v : Int32) : Xg_fields_size (Xs_names_made u v) = Xg_fields_size u := rfl
theorem Xq_fields_scale_names_made (u : XS) (v : Int32) : Xg_fields_scale (Xs_names_made u v) = Xg_fields_scale u := rfl
theorem Xq_fields_bytes_names_made (u : XS) (v : Int32) : Xg_fields_bytes (Xs_names_made u v) = Xg_fields_bytes u := rfl
theorem Xq_weights_of_names_made (u : XS) (v : Int32) : Xg_weights_of (Xs_names_made u v) = Xg_weights_of u := rfl
theorem Xq_names_made_names_made (u : XS) (v : Int32) : Xg_names_made (Xs_names_made u v) = v := rfl
theorem Xq_names_field_names_made (u : XS) (v : Int32) : Xg_names_field (Xs_names_made u v) = Xg_names_field u := rfl
theorem Xq_names_ranges_names_made (u : XS) (v : Int32) : Xg_names_ranges (Xs_names_made u v) = Xg_names_ranges u := rfl
theorem Xq_names_low_names_made (u : XS) (v : Int32) : Xg_names_low (Xs_names_made u v) = Xg_names_low u := rfl
theorem Xq_names_high_names_made (u : XS) (v : Int32) : Xg_names_high (Xs_names_made u v) = Xg_names_high u := rfl
theorem Xq_nodes_made_names_made (u : XS) (v : Int32) : Xg_nodes_made (Xs_names_made u v) = Xg_nodes_made u := rfl
theorem Xq_nodes_op_names_made (u : XS) (v : Int32) : Xg_nodes_op (Xs_names_made u v) = Xg_nodes_op u := rfl
theorem Xq_nodes_a_names_made (u : XS) (v : Int32) : Xg_nodes_a (Xs_names_made u v) = Xg_nodes_a u := rfl
theorem Xq_nodes_b_names_made (u : XS) (v : Int32) : Xg_nodes_b (Xs_names_made u v) = Xg_nodes_b u := rfl
theorem Xq_row_subject_names_made (u : XS) (v : Int32) : Xg_row_subject (Xs_names_made u v) = Xg_row_subject u := rfl
theorem Xq_row_carried_names_made (u : XS) (v : Int32) : Xg_row_carried (Xs_names_made u v) = Xg_row_carried u := rfl
theorem Xq_row_length_names_made (u : XS) (v : Int32) : Xg_row_length (Xs_names_made u v) = Xg_row_length u := rfl
theorem Xq_row_with_names_made (u : XS) (v : Int32) : Xg_row_with (Xs_names_made u v) = Xg_row_with u := rfl
theorem Xq_row_op_names_made (u : XS) (v : Int32) : Xg_row_op (Xs_names_made u v) = Xg_row_op u := rfl
theorem Xq_row_negated_names_made (u : XS) (v : Int32) : Xg_row_negated (Xs_names_made u v) = Xg_row_negated u := rfl
theorem Xq_row_object_names_made (u : XS) (v : Int32) : Xg_row_object (Xs_names_made u v) = Xg_row_object u := rfl
theorem Xq_testing_noted_names_made (u : XS) (v : Int32) : Xg_testing_noted (Xs_names_made u v) = Xg_testing_noted u := rfl
theorem Xq_testing_depth_names_made (u : XS) (v : Int32) : Xg_testing_depth (Xs_names_made u v) = Xg_testing_depth u := rfl
theorem Xq_testing_outcome_names_made (u : XS) (v : Int32) : Xg_testing_outcome (Xs_names_made u v) = Xg_testing_outcome u := rfl
theorem Xq_testing_leaves_names_made (u : XS) (v : Int32) : Xg_testing_leaves (Xs_names_made u v) = Xg_testing_leaves u := rfl
theorem Xq_testing_waiting_names_made (u : XS) (v : Int32) : Xg_testing_waiting (Xs_names_made u v) = Xg_testing_waiting u := rfl
theorem Xq_switches_names_made (u : XS) (v : Int32) : Xg_switches (Xs_names_made u v) = Xg_switches u := rfl
theorem Xq_leftText_names_made (u : XS) (v : Int32) : Xg_leftText (Xs_names_made u v) = Xg_leftText u := rfl
theorem Xq_rightText_names_made (u : XS) (v : Int32) : Xg_rightText (Xs_names_made u v) = Xg_rightText u := rfl
theorem Xq_whole_names_field (u : XS) (v : Nat → Int32) : Xg_whole (Xs_names_field u v) = Xg_whole u := rfl
theorem Xq_fields_made_names_field (u : XS) (v : Nat → Int32) : Xg_fields_made (Xs_names_field u v) = Xg_fields_made u := rfl
theorem Xq_fields_category_names_field (u : XS) (v : Nat → Int32) : Xg_fields_category (Xs_names_field u v) = Xg_fields_category u := rfl
theorem Xq_fields_size_names_field (u : XS) (v : Nat → Int32) : Xg_fields_size (Xs_names_field u v) = Xg_fields_size u := rfl
theorem Xq_fields_scale_names_field (u : XS) (v : Nat → Int32) : Xg_fields_scale (Xs_names_field u v) = Xg_fields_scale u := rfl
theorem Xq_fields_bytes_names_field (u : XS) (v : Nat → Int32) : Xg_fields_bytes (Xs_names_field u v) = Xg_fields_bytes u := rfl
theorem Xq_weights_of_names_field (u : XS) (v : Nat → Int32) : Xg_weights_of (Xs_names_field u v) = Xg_weights_of u := rfl
theorem Xq_names_made_names_field (u : XS) (v : Nat → Int32) : Xg_names_made (Xs_names_field u v) = Xg_names_made u := rfl
theorem Xq_names_field_names_field (u : XS) (v : Nat → Int32) : Xg_names_field (Xs_names_field u v) = v := rfl
theorem Xq_names_ranges_names_field (u : XS) (v : Nat → Int32) : Xg_names_ranges (Xs_names_field u v) = Xg_names_ranges u := rfl
theorem Xq_names_low_names_field (u : XS) (v : Nat → Int32) : Xg_names_low (Xs_names_field u v) = Xg_names_low u := rfl
theorem Xq_names_high_names_field (u : XS) (v : Nat → Int32) : Xg_names_high (Xs_names_field u v) = Xg_names_high u := rfl
theorem Xq_nodes_made_names_field (u : XS) (v : Nat → Int32) : Xg_nodes_made (Xs_names_field u v) = Xg_nodes_made u := rfl
theorem Xq_nodes_op_names_field (u : XS) (v : Nat → Int32) : Xg_nodes_op (Xs_names_field u v) = Xg_nodes_op u := rfl
theorem Xq_nodes_a_names_field (u : XS) (v : Nat → Int32) : Xg_nodes_a (Xs_names_field u v) = Xg_nodes_a u := rfl
theorem Xq_nodes_b_names_field (u : XS) (v : Nat → Int32) : Xg_nodes_b (Xs_names_field u v) = Xg_nodes_b u := rfl
theorem Xq_row_subject_names_field (u : XS) (v : Nat → Int32) : Xg_row_subject (Xs_names_field u v) = Xg_row_subject u := rfl
theorem Xq_row_carried_names_field (u : XS) (v : Nat → Int32) : Xg_row_carried (Xs_names_field u v) = Xg_row_carried u := rfl
theorem Xq_row_length_names_field (u : XS) (v : Nat → Int32) : Xg_row_length (Xs_names_field u v) = Xg_row_length u := rfl
theorem Xq_row_with_names_field (u : XS) (v : Nat → Int32) : Xg_row_with (Xs_names_field u v) = Xg_row_with u := rfl
theorem Xq_row_op_names_field (u : XS) (v : Nat → Int32) : Xg_row_op (Xs_names_field u v) = Xg_row_op u := rfl
theorem Xq_row_negated_names_field (u : XS) (v : Nat → Int32) : Xg_row_negated (Xs_names_field u v) = Xg_row_negated u := rfl
theorem Xq_row_object_names_field (u : XS) (v : Nat → Int32) : Xg_row_object (Xs_names_field u v) = Xg_row_object u := rfl
theorem Xq_testing_noted_names_field (u : XS) (v : Nat → Int32) : Xg_testing_noted (Xs_names_field u v) = Xg_testing_noted u := rfl
theorem Xq_testing_depth_names_field (u : XS) (v : Nat → Int32) : Xg_testing_depth (Xs_names_field u v) = Xg_testing_depth u := rfl
theorem Xq_testing_outcome_names_field (u : XS) (v : Nat → Int32) : Xg_testing_outcome (Xs_names_field u v) = Xg_testing_outcome u := rfl
theorem Xq_testing_leaves_names_field (u : XS) (v : Nat → Int32) : Xg_testing_leaves (Xs_names_field u v) = Xg_testing_leaves u := rfl
theorem Xq_testing_waiting_names_field (u : XS) (v : Nat → Int32) : Xg_testing_waiting (Xs_names_field u v) = Xg_testing_waiting u := rfl
theorem Xq_switches_names_field (u : XS) (v : Nat → Int32) : Xg_switches (Xs_names_field u v) = Xg_switches u := rfl
theorem Xq_leftText_names_field (u : XS) (v : Nat → Int32) : Xg_leftText (Xs_names_field u v) = Xg_leftText u := rfl
theorem Xq_rightText_names_field (u : XS) (v : Nat → Int32) : Xg_rightText (Xs_names_field u v) = Xg_rightText u := rfl
theorem Xq_whole_names_ranges (u : XS) (v : Nat → Int32) : Xg_whole (Xs_names_ranges u v) = Xg_whole u := rfl
theorem Xq_fields_made_names_ranges (u : XS) (v : Nat → Int32) : Xg_fields_made (Xs_names_ranges u v) = Xg_fields_made u := rfl
theorem Xq_fields_category_names_ranges (u : XS) (v : Nat → Int32) : Xg_fields_category (Xs_names_ranges u v) = Xg_fields_category u := rfl
theorem Xq_fields_size_names_ranges (u : XS) (v : Nat → Int32) : Xg_fields_size (Xs_names_ranges u v) = Xg_fields_size u := rfl
theorem Xq_fields_scale_names_ranges (u : XS) (v : Nat → Int32) : Xg_fields_scale (Xs_names_ranges u v) = Xg_fields_scale u := rfl
theorem Xq_fields_bytes_names_ranges (u : XS) (v : Nat → Int32) : Xg_fields_bytes (Xs_names_ranges u v) = Xg_fields_bytes u := rfl
theorem Xq_weights_of_names_ranges (u : XS) (v : Nat → Int32) : Xg_weights_of (Xs_names_ranges u v) = Xg_weights_of u := rfl
theorem Xq_names_made_names_ranges (u : XS) (v : Nat → Int32) : Xg_names_made (Xs_names_ranges u v) = Xg_names_made u := rfl
theorem Xq_names_field_names_ranges (u : XS) (v : Nat → Int32) : Xg_names_field (Xs_names_ranges u v) = Xg_names_field u := rfl
theorem Xq_names_ranges_names_ranges (u : XS) (v : Nat → Int32) : Xg_names_ranges (Xs_names_ranges u v) = v := rfl
theorem Xq_names_low_names_ranges (u : XS) (v : Nat → Int32) : Xg_names_low (Xs_names_ranges u v) = Xg_names_low u := rfl
theorem Xq_names_high_names_ranges (u : XS) (v : Nat → Int32) : Xg_names_high (Xs_names_ranges u v) = Xg_names_high u := rfl
theorem Xq_nodes_made_names_ranges (u : XS) (v : Nat → Int32) : Xg_nodes_made (Xs_names_ranges u v) = Xg_nodes_made u := rfl
theorem Xq_nodes_op_names_ranges (u : XS) (v : Nat → Int32) : Xg_nodes_op (Xs_names_ranges u v) = Xg_nodes_op u := rfl
theorem Xq_nodes_a_names_ranges (u : XS) (v : Nat → Int32) : Xg_nodes_a (Xs_names_ranges u v) = Xg_nodes_a u := rfl
theorem Xq_nodes_b_names_ranges (u : XS) (v : Nat → Int32) : Xg_nodes_b (Xs_names_ranges u v) = Xg_nodes_b u := rfl
theorem Xq_row_subject_names_ranges (u : XS) (v : Nat → Int32) : Xg_row_subject (Xs_names_ranges u v) = Xg_row_subject u := rfl
theorem Xq_row_carried_names_ranges (u : XS) (v : Nat → Int32) : Xg_row_carried (Xs_names_ranges u v) = Xg_row_carried u := rfl
theorem Xq_row_length_names_ranges (u : XS) (v : Nat → Int32) : Xg_row_length (Xs_names_ranges u v) = Xg_row_length u := rfl
theorem Xq_row_with_names_ranges (u : XS) (v : Nat → Int32) : Xg_row_with (Xs_names_ranges u v) = Xg_row_with u := rfl
theorem Xq_row_op_names_ranges (u : XS) (v : Nat → Int32) : Xg_row_op (Xs_names_ranges u v) = Xg_row_op u := rfl
theorem Xq_row_negated_names_ranges (u : XS) (v : Nat → Int32) : Xg_row_negated (Xs_names_ranges u v) = Xg_row_negated u := rfl
theorem Xq_row_object_names_ranges (u : XS) (v : Nat → Int32) : Xg_row_object (Xs_names_ranges u v) = Xg_row_object u := rfl
theorem Xq_testing_noted_names_ranges (u : XS) (v : Nat → Int32) : Xg_testing_noted (Xs_names_ranges u v) = Xg_testing_noted u := rfl
theorem Xq_testing_depth_names_ranges (u : XS) (v : Nat → Int32) : Xg_testing_depth (Xs_names_ranges u v) = Xg_testing_depth u := rfl
theorem Xq_testing_outcome_names_ranges (u : XS) (v : Nat → Int32) : Xg_testing_outcome (Xs_names_ranges u v) = Xg_testing_outcome u := rfl
theorem Xq_testing_leaves_names_ranges (u : XS) (v : Nat → Int32) : Xg_testing_leaves (Xs_names_ranges u v) = Xg_testing_leaves u := rfl
theorem Xq_testing_waiting_names_ranges (u : XS) (v : Nat → Int32) : Xg_testing_waiting (Xs_names_ranges u v) = Xg_testing_waiting u := rfl
theorem Xq_switches_names_ranges (u : XS) (v : Nat → Int32) : Xg_switches (Xs_names_ranges u v) = Xg_switches u := rfl
theorem Xq_leftText_names_ranges (u : XS) (v : Nat → Int32) : Xg_leftText (Xs_names_ranges u v) = Xg_leftText u := rfl
theorem Xq_rightText_names_ranges (u : XS) (v : Nat → Int32) : Xg_rightText (Xs_names_ranges u v) = Xg_rightText u := rfl
theorem Xq_whole_names_low (u : XS) (v : Nat → Int64) : Xg_whole (Xs_names_low u v) = Xg_whole u := rfl
theorem Xq_fields_made_names_low (u : XS) (v : Nat → Int64) : Xg_fields_made (Xs_names_low u v) = Xg_fields_made u := rfl
theorem Xq_fields_category_names_low (u : XS) (v : Nat → Int64) : Xg_fields_category (Xs_names_low u v) = Xg_fields_category u := rfl
theorem Xq_fields_size_names_low (u : XS) (v : Nat → Int64) : Xg_fields_size (Xs_names_low u v) = Xg_fields_size u := rfl
theorem Xq_fields_scale_names_low (u : XS) (v : Nat → Int64) : Xg_fields_scale (Xs_names_low u v) = Xg_fields_scale u := rfl
theorem Xq_fields_bytes_names_low (u : XS) (v : Nat → Int64) : Xg_fields_bytes (Xs_names_low u v) = Xg_fields_bytes u := rfl
theorem Xq_weights_of_names_low (u : XS) (v : Nat → Int64) : Xg_weights_of (Xs_names_low u v) = Xg_weights_of u := rfl
theorem Xq_names_made_names_low (u : XS) (v : Nat → Int64) : Xg_names_made (Xs_names_low u v) = Xg_names_made u := rfl
theorem Xq_names_field_names_low (u : XS) (v : Nat → Int64) : Xg_names_field (Xs_names_low u v) = Xg_names_field u := rfl
theorem Xq_names_ranges_names_low (u : XS) (v : Nat → Int64) : Xg_names_ranges (Xs_names_low u v) = Xg_names_ranges u := rfl
theorem Xq_names_low_names_low (u : XS) (v : Nat → Int64) : Xg_names_low (Xs_names_low u v) = v := rfl
theorem Xq_names_high_names_low (u : XS) (v : Nat → Int64) : Xg_names_high (Xs_names_low u v) = Xg_names_high u := rfl
theorem Xq_nodes_made_names_low (u : XS) (v : Nat → Int64) : Xg_nodes_made (Xs_names_low u v) = Xg_nodes_made u := rfl
theorem Xq_nodes_op_names_low (u : XS) (v : Nat → Int64) : Xg_nodes_op (Xs_names_low u v) = Xg_nodes_op u := rfl
theorem Xq_nodes_a_names_low (u : XS) (v : Nat → Int64) : Xg_nodes_a (Xs_names_low u v) = Xg_nodes_a u := rfl
theorem Xq_nodes_b_names_low (u : XS) (v : Nat → Int64) : Xg_nodes_b (Xs_names_low u v) = Xg_nodes_b u := rfl
theorem Xq_row_subject_names_low (u : XS) (v : Nat → Int64) : Xg_row_subject (Xs_names_low u v) = Xg_row_subject u := rfl
theorem Xq_row_carried_names_low (u : XS) (v : Nat → Int64) : Xg_row_carried (Xs_names_low u v) = Xg_row_carried u := rfl
theorem Xq_row_length_names_low (u : XS) (v : Nat → Int64) : Xg_row_length (Xs_names_low u v) = Xg_row_length u := rfl
theorem Xq_row_with_names_low (u : XS) (v : Nat → Int64) : Xg_row_with (Xs_names_low u v) = Xg_row_with u := rfl
theorem Xq_row_op_names_low (u : XS) (v : Nat → Int64) : Xg_row_op (Xs_names_low u v) = Xg_row_op u := rfl
theorem Xq_row_negated_names_low (u : XS) (v : Nat → Int64) : Xg_row_negated (Xs_names_low u v) = Xg_row_negated u := rfl
theorem Xq_row_object_names_low (u : XS) (v : Nat → Int64) : Xg_row_object (Xs_names_low u v) = Xg_row_object u := rfl
theorem Xq_testing_noted_names_low (u : XS) (v : Nat → Int64) : Xg_testing_noted (Xs_names_low u v) = Xg_testing_noted u := rfl
theorem Xq_testing_depth_names_low (u : XS) (v : Nat → Int64) : Xg_testing_depth (Xs_names_low u v) = Xg_testing_depth u := rfl
theorem Xq_testing_outcome_names_low (u : XS) (v : Nat → Int64) : Xg_testing_outcome (Xs_names_low u v) = Xg_testing_outcome u := rfl
theorem Xq_testing_leaves_names_low (u : XS) (v : Nat → Int64) : Xg_testing_leaves (Xs_names_low u v) = Xg_testing_leaves u := rfl
theorem Xq_testing_waiting_names_low (u : XS) (v : Nat → Int64) : Xg_testing_waiting (Xs_names_low u v) = Xg_testing_waiting u := rfl
theorem Xq_switches_names_low (u : XS) (v : Nat → Int64) : Xg_switches (Xs_names_low u v) = Xg_switches u := rfl
theorem Xq_leftText_names_low (u : XS) (v : Nat → Int64) : Xg_leftText (Xs_names_low u v) = Xg_leftText u := rfl
theorem Xq_rightText_names_low (u : XS) (v : Nat → Int64) : Xg_rightText (Xs_names_low u v) = Xg_rightText u := rfl
theorem Xq_whole_names_high (u : XS) (v : Nat → Int64) : Xg_whole (Xs_names_high u v) = Xg_whole u := rfl
theorem Xq_fields_made_names_high (u : XS) (v : Nat → Int64) : Xg_fields_made (Xs_names_high u v) = Xg_fields_made u := rfl
theorem Xq_fields_category_names_high (u : XS) (v : Nat → Int64) : Xg_fields_category (Xs_names_high u v) = Xg_fields_category u := rfl
theorem Xq_fields_size_names_high (u : XS) (v : Nat → Int64) : Xg_fields_size (Xs_names_high u v) = Xg_fields_size u := rfl
theorem Xq_fields_scale_names_high (u : XS) (v : Nat → Int64) : Xg_fields_scale (Xs_names_high u v) = Xg_fields_scale u := rfl
theorem Xq_fields_bytes_names_high (u : XS) (v : Nat → Int64) : Xg_fields_bytes (Xs_names_high u v) = Xg_fields_bytes u := rfl
theorem Xq_weights_of_names_high (u : XS) (v : Nat → Int64) : Xg_weights_of (Xs_names_high u v) = Xg_weights_of u := rfl
theorem Xq_names_made_names_high (u : XS) (v : Nat → Int64) : Xg_names_made (Xs_names_high u v) = Xg_names_made u := rfl
theorem Xq_names_field_names_high (u : XS) (v : Nat → Int64) : Xg_names_field (Xs_names_high u v) = Xg_names_field u := rfl
theorem Xq_names_ranges_names_high (u : XS) (v : Nat → Int64) : Xg_names_ranges (Xs_names_high u v) = Xg_names_ranges u := rfl
theorem Xq_names_low_names_high (u : XS) (v : Nat → Int64) : Xg_names_low (Xs_names_high u v) = Xg_names_low u := rfl
theorem Xq_names_high_names_high (u : XS) (v : Nat → Int64) : Xg_names_high (Xs_names_high u v) = v := rfl
theorem Xq_nodes_made_names_high (u : XS) (v : Nat → Int64) : Xg_nodes_made (Xs_names_high u v) = Xg_nodes_made u := rfl
theorem Xq_nodes_op_names_high (u : XS) (v : Nat → Int64) : Xg_nodes_op (Xs_names_high u v) = Xg_nodes_op u := rfl
theorem Xq_nodes_a_names_high (u : XS) (v : Nat → Int64) : Xg_nodes_a (Xs_names_high u v) = Xg_nodes_a u := rfl
theorem Xq_nodes_b_names_high (u : XS) (v : Nat → Int64) : Xg_nodes_b (Xs_names_high u v) = Xg_nodes_b u := rfl
theorem Xq_row_subject_names_high (u : XS) (v : Nat → Int64) : Xg_row_subject (Xs_names_high u v) = Xg_row_subject u := rfl
theorem Xq_row_carried_names_high (u : XS) (v : Nat → Int64) : Xg_row_carried (Xs_names_high u v) = Xg_row_carried u := rfl
theorem Xq_row_length_names_high (u : XS) (v : Nat → Int64) : Xg_row_length (Xs_names_high u v) = Xg_row_length u := rfl
theorem Xq_row_with_names_high (u : XS) (v : Nat → Int64) : Xg_row_with (Xs_names_high u v) = Xg_row_with u := rfl
theorem Xq_row_op_names_high (u : XS) (v : Nat → Int64) : Xg_row_op (Xs_names_high u v) = Xg_row_op u := rfl
theorem Xq_row_negated_names_high (u : XS) (v : Nat → Int64) : Xg_row_negated (Xs_names_high u v) = Xg_row_negated u := rfl
theorem Xq_row_object_names_high (u : XS) (v : Nat → Int64) : Xg_row_object (Xs_names_high u v) = Xg_row_object u := rfl
theorem Xq_testing_noted_names_high (u : XS) (v : Nat → Int64) : Xg_testing_noted (Xs_names_high u v) = Xg_testing_noted u := rfl
theorem Xq_testing_depth_names_high (u : XS) (v : Nat → Int64) : Xg_testing_depth (Xs_names_high u v) = Xg_testing_depth u := rfl
theorem Xq_testing_outcome_names_high (u : XS) (v : Nat → Int64) : Xg_testing_outcome (Xs_names_high u v) = Xg_testing_outcome u := rfl
theorem Xq_testing_leaves_names_high (u : XS) (v : Nat → Int64) : Xg_testing_leaves (Xs_names_high u v) = Xg_testing_leaves u := rfl
theorem Xq_testing_waiting_names_high (u : XS) (v : Nat → Int64) : Xg_testing_waiting (Xs_names_high u v) = Xg_testing_waiting u := rfl
theorem Xq_switches_names_high (u : XS) (v : Nat → Int64) : Xg_switches (Xs_names_high u v) = Xg_switches u := rfl
theorem Xq_leftText_names_high (u : XS) (v : Nat → Int64) : Xg_leftText (Xs_names_high u v) = Xg_leftText u := rfl
theorem Xq_rightText_names_high (u : XS) (v : Nat → Int64) : Xg_rightText (Xs_names_high u v) = Xg_rightText u := rfl
theorem Xq_whole_nodes_made (u : XS) (v : Int32) : Xg_whole (Xs_nodes_made u v) = Xg_whole u := rfl
theorem Xq_fields_made_nodes_made (u : XS) (v : Int32) : Xg_fields_made (Xs_nodes_made u v) = Xg_fields_made u := rfl
theorem Xq_fields_category_nodes_made (u : XS) (v : Int32) : Xg_fields_category (Xs_nodes_made u v) = Xg_fields_category u := rfl
theorem Xq_fields_size_nodes_made (u : XS) (v : Int32) : Xg_fields_size (Xs_nodes_made u v) = Xg_fields_size u := rfl
theorem Xq_fields_scale_nodes_made (u : XS) (v : Int32) : Xg_fields_scale (Xs_nodes_made u v) = Xg_fields_scale u := rfl
theorem Xq_fields_bytes_nodes_made (u : XS) (v : Int32) : Xg_fields_bytes (Xs_nodes_made u v) = Xg_fields_bytes u := rfl
theorem Xq_weights_of_nodes_made (u : XS) (v : Int32) : Xg_weights_of (Xs_nodes_made u v) = Xg_weights_of u := rfl
theorem Xq_names_made_nodes_made (u : XS) (v : Int32) : Xg_names_made (Xs_nodes_made u v) = Xg_names_made u := rfl
theorem Xq_names_field_nodes_made (u : XS) (v : Int32) : Xg_names_field (Xs_nodes_made u v) = Xg_names_field u := rfl
theorem Xq_names_ranges_nodes_made (u : XS) (v : Int32) : Xg_names_ranges (Xs_nodes_made u v) = Xg_names_ranges u := rfl
theorem Xq_names_low_nodes_made (u : XS) (v : Int32) : Xg_names_low (Xs_nodes_made u v) = Xg_names_low u := rfl
theorem Xq_names_high_nodes_made (u : XS) (v : Int32) : Xg_names_high (Xs_nodes_made u v) = Xg_names_high u := rfl
theorem Xq_nodes_made_nodes_made (u : XS) (v : Int32) : Xg_nodes_made (Xs_nodes_made u v) = v := rfl
theorem Xq_nodes_op_nodes_made (u : XS) (v : Int32) : Xg_nodes_op (Xs_nodes_made u v) = Xg_nodes_op u := rfl
theorem Xq_nodes_a_nodes_made (u : XS) (v : Int32) : Xg_nodes_a (Xs_nodes_made u v) = Xg_nodes_a u := rfl
theorem Xq_nodes_b_nodes_made (u : XS) (v : Int32) : Xg_nodes_b (Xs_nodes_made u v) = Xg_nodes_b u := rfl
theorem Xq_row_subject_nodes_made (u : XS) (v : Int32) : Xg_row_subject (Xs_nodes_made u v) = Xg_row_subject u := rfl
theorem Xq_row_carried_nodes_made (u : XS) (v : Int32) : Xg_row_carried (Xs_nodes_made u v) = Xg_row_carried u := rfl
theorem Xq_row_length_nodes_made (u : XS) (v : Int32) : Xg_row_length (Xs_nodes_made u v) = Xg_row_length u := rfl
theorem Xq_row_with_nodes_made (u : XS) (v : Int32) : Xg_row_with (Xs_nodes_made u v) = Xg_row_with u := rfl
theorem Xq_row_op_nodes_made (u : XS) (v : Int32) : Xg_row_op (Xs_nodes_made u v) = Xg_row_op u := rfl
theorem Xq_row_negated_nodes_made (u : XS) (v : Int32) : Xg_row_negated (Xs_nodes_made u v) = Xg_row_negated u := rfl
theorem Xq_row_object_nodes_made (u : XS) (v : Int32) : Xg_row_object (Xs_nodes_made u v) = Xg_row_object u := rfl
theorem Xq_testing_noted_nodes_made (u : XS) (v : Int32) : Xg_testing_noted (Xs_nodes_made u v) = Xg_testing_noted u := rfl
theorem Xq_testing_depth_nodes_made (u : XS) (v : Int32) : Xg_testing_depth (Xs_nodes_made u v) = Xg_testing_depth u := rfl
theorem Xq_testing_outcome_nodes_made (u : XS) (v : Int32) : Xg_testing_outcome (Xs_nodes_made u v) = Xg_testing_outcome u := rfl
theorem Xq_testing_leaves_nodes_made (u : XS) (v : Int32) : Xg_testing_leaves (Xs_nodes_made u v) = Xg_testing_leaves u := rfl
theorem Xq_testing_waiting_nodes_made (u : XS) (v : Int32) : Xg_testing_waiting (Xs_nodes_made u v) = Xg_testing_waiting u := rfl
theorem Xq_switches_nodes_made (u : XS) (v : Int32) : Xg_switches (Xs_nodes_made u v) = Xg_switches u := rfl
theorem Xq_leftText_nodes_made (u : XS) (v : Int32) : Xg_leftText (Xs_nodes_made u v) = Xg_leftText u := rfl
theorem Xq_rightText_nodes_made (u : XS) (v : Int32) : Xg_rightText (Xs_nodes_made u v) = Xg_rightText u := rfl
theorem Xq_whole_nodes_op (u : XS) (v : Nat → Int32) : Xg_whole (Xs_nodes_op u v) = Xg_whole u := rfl
theorem Xq_fields_made_nodes_op (u : XS) (v : Nat → Int32) : Xg_fields_made (Xs_nodes_op u v) = Xg_fields_made u := rfl
theorem Xq_fields_category_nodes_op (u : XS) (v : Nat → Int32) : Xg_fields_category (Xs_nodes_op u v) = Xg_fields_category u := rfl
theorem Xq_fields_size_nodes_op (u : XS) (v : Nat → Int32) : Xg_fields_size (Xs_nodes_op u v) = Xg_fields_size u := rfl
theorem Xq_fields_scale_nodes_op (u : XS) (v : Nat → Int32) : Xg_fields_scale (Xs_nodes_op u v) = Xg_fields_scale u := rfl
theorem Xq_fields_bytes_nodes_op (u : XS) (v : Nat → Int32) : Xg_fields_bytes (Xs_nodes_op u v) = Xg_fields_bytes u := rfl
theorem Xq_weights_of_nodes_op (u : XS) (v : Nat → Int32) : Xg_weights_of (Xs_nodes_op u v) = Xg_weights_of u := rfl
theorem Xq_names_made_nodes_op (u : XS) (v : Nat → Int32) : Xg_names_made (Xs_nodes_op u v) = Xg_names_made u := rfl
theorem Xq_names_field_nodes_op (u : XS) (v : Nat → Int32) : Xg_names_field (Xs_nodes_op u v) = Xg_names_field u := rfl
theorem Xq_names_ranges_nodes_op (u : XS) (v : Nat → Int32) : Xg_names_ranges (Xs_nodes_op u v) = Xg_names_ranges u := rfl
theorem Xq_names_low_nodes_op (u : XS) (v : Nat → Int32) : Xg_names_low (Xs_nodes_op u v) = Xg_names_low u := rfl
theorem Xq_names_high_nodes_op (u : XS) (v : Nat → Int32) : Xg_names_high (Xs_nodes_op u v) = Xg_names_high u := rfl
theorem Xq_nodes_made_nodes_op (u : XS) (v : Nat → Int32) : Xg_nodes_made (Xs_nodes_op u v) = Xg_nodes_made u := rfl
theorem Xq_nodes_op_nodes_op (u : XS) (v : Nat → Int32) : Xg_nodes_op (Xs_nodes_op u v) = v := rfl
theorem Xq_nodes_a_nodes_op (u : XS) (v : Nat → Int32) : Xg_nodes_a (Xs_nodes_op u v) = Xg_nodes_a u := rfl
theorem Xq_nodes_b_nodes_op (u : XS) (v : Nat → Int32) : Xg_nodes_b (Xs_nodes_op u v) = Xg_nodes_b u := rfl
theorem Xq_row_subject_nodes_op (u : XS) (v : Nat → Int32) : Xg_row_subject (Xs_nodes_op u v) = Xg_row_subject u := rfl
theorem Xq_row_carried_nodes_op (u : XS) (v : Nat → Int32) : Xg_row_carried (Xs_nodes_op u v) = Xg_row_carried u := rfl
theorem Xq_row_length_nodes_op (u : XS) (v : Nat → Int32) : Xg_row_length (Xs_nodes_op u v) = Xg_row_length u := rfl
theorem Xq_row_with_nodes_op (u : XS) (v : Nat → Int32) : Xg_row_with (Xs_nodes_op u v) = Xg_row_with u := rfl
theorem Xq_row_op_nodes_op (u : XS) (v : Nat → Int32) : Xg_row_op (Xs_nodes_op u v) = Xg_row_op u := rfl
theorem Xq_row_negated_nodes_op (u : XS) (v : Nat → Int32) : Xg_row_negated (Xs_nodes_op u v) = Xg_row_negated u := rfl
theorem Xq_row_object_nodes_op (u : XS) (v : Nat → Int32) : Xg_row_object (Xs_nodes_op u v) = Xg_row_object u := rfl
theorem Xq_testing_noted_nodes_op (u : XS) (v : Nat → Int32) : Xg_testing_noted (Xs_nodes_op u v) = Xg_testing_noted u := rfl
theorem Xq_testing_depth_nodes_op (u : XS) (v : Nat → Int32) : Xg_testing_depth (Xs_nodes_op u v) = Xg_testing_depth u := rfl
theorem Xq_testing_outcome_nodes_op (u : XS) (v : Nat → Int32) : Xg_testing_outcome (Xs_nodes_op u v) = Xg_testing_outcome u := rfl
theorem Xq_testing_leaves_nodes_op (u : XS) (v : Nat → Int32) : Xg_testing_leaves (Xs_nodes_op u v) = Xg_testing_leaves u := rfl
theorem Xq_testing_waiting_nodes_op (u : XS) (v : Nat → Int32) : Xg_testing_waiting (Xs_nodes_op u v) = Xg_testing_waiting u := rfl
theorem Xq_switches_nodes_op (u : XS) (v : Nat → Int32) : Xg_switches (Xs_nodes_op u v) = Xg_switches u := rfl
theorem Xq_leftText_nodes_op (u : XS) (v : Nat → Int32) : Xg_leftText (Xs_nodes_op u v) = Xg_leftText u := rfl
theorem Xq_rightText_nodes_op (u : XS) (v : Nat → Int32) : Xg_rightText (Xs_nodes_op u v) = Xg_rightText u := rfl
theorem Xq_whole_nodes_a (u : XS) (v : Nat → Int32) : Xg_whole (Xs_nodes_a u v) = Xg_whole u := rfl
theorem Xq_fields_made_nodes_a (u : XS) (v : Nat → Int32) : Xg_fields_made (Xs_nodes_a u v) = Xg_fields_made u := rfl
theorem Xq_fields_category_nodes_a (u : XS) (v : Nat → Int32) : Xg_fields_category (Xs_nodes_a u v) = Xg_fields_category u := rfl
theorem Xq_fields_size_nodes_a (u : XS) (v : Nat → Int32) : Xg_fields_size (Xs_nodes_a u v) = Xg_fields_size u := rfl
theorem Xq_fields_scale_nodes_a (u : XS) (v : Nat → Int32) : Xg_fields_scale (Xs_nodes_a u v) = Xg_fields_scale u := rfl
theorem Xq_fields_bytes_nodes_a (u : XS) (v : Nat → Int32) : Xg_fields_bytes (Xs_nodes_a u v) = Xg_fields_bytes u := rfl
theorem Xq_weights_of_nodes_a (u : XS) (v : Nat → Int32) : Xg_weights_of (Xs_nodes_a u v) = Xg_weights_of u := rfl
theorem Xq_names_made_nodes_a (u : XS) (v : Nat → Int32) : Xg_names_made (Xs_nodes_a u v) = Xg_names_made u := rfl
theorem Xq_names_field_nodes_a (u : XS) (v : Nat → Int32) : Xg_names_field (Xs_nodes_a u v) = Xg_names_field u := rfl
theorem Xq_names_ranges_nodes_a (u : XS) (v : Nat → Int32) : Xg_names_ranges (Xs_nodes_a u v) = Xg_names_ranges u := rfl
theorem Xq_names_low_nodes_a (u : XS) (v : Nat → Int32) : Xg_names_low (Xs_nodes_a u v) = Xg_names_low u := rfl
theorem Xq_names_high_nodes_a (u : XS) (v : Nat → Int32) : Xg_names_high (Xs_nodes_a u v) = Xg_names_high u := rfl
theorem Xq_nodes_made_nodes_a (u : XS) (v : Nat → Int32) : Xg_nodes_made (Xs_nodes_a u v) = Xg_nodes_made u := rfl
theorem Xq_nodes_op_nodes_a (u : XS) (v : Nat → Int32) : Xg_nodes_op (Xs_nodes_a u v) = Xg_nodes_op u := rfl
theorem Xq_nodes_a_nodes_a (u : XS) (v : Nat → Int32) : Xg_nodes_a (Xs_nodes_a u v) = v := rfl
theorem Xq_nodes_b_nodes_a (u : XS) (v : Nat → Int32) : Xg_nodes_b (Xs_nodes_a u v) = Xg_nodes_b u := rfl
theorem Xq_row_subject_nodes_a (u : XS) (v : Nat → Int32) : Xg_row_subject (Xs_nodes_a u v) = Xg_row_subject u := rfl
theorem Xq_row_carried_nodes_a (u : XS) (v : Nat → Int32) : Xg_row_carried (Xs_nodes_a u v) = Xg_row_carried u := rfl
theorem Xq_row_length_nodes_a (u : XS) (v : Nat → Int32) : Xg_row_length (Xs_nodes_a u v) = Xg_row_length u := rfl
theorem Xq_row_with_nodes_a (u : XS) (v : Nat → Int32) : Xg_row_with (Xs_nodes_a u v) = Xg_row_with u := rfl
theorem Xq_row_op_nodes_a (u : XS) (v : Nat → Int32) : Xg_row_op (Xs_nodes_a u v) = Xg_row_op u := rfl
theorem Xq_row_negated_nodes_a (u : XS) (v : Nat → Int32) : Xg_row_negated (Xs_nodes_a u v) = Xg_row_negated u := rfl
theorem Xq_row_object_nodes_a (u : XS) (v : Nat → Int32) : Xg_row_object (Xs_nodes_a u v) = Xg_row_object u := rfl
theorem Xq_testing_noted_nodes_a (u : XS) (v : Nat → Int32) : Xg_testing_noted (Xs_nodes_a u v) = Xg_testing_noted u := rfl
theorem Xq_testing_depth_nodes_a (u : XS) (v : Nat → Int32) : Xg_testing_depth (Xs_nodes_a u v) = Xg_testing_depth u := rfl
theorem Xq_testing_outcome_nodes_a (u : XS) (v : Nat → Int32) : Xg_testing_outcome (Xs_nodes_a u v) = Xg_testing_outcome u := rfl
theorem Xq_testing_leaves_nodes_a (u : XS) (v : Nat → Int32) : Xg_testing_leaves (Xs_nodes_a u v) = Xg_testing_leaves u := rfl
theorem Xq_testing_waiting_nodes_a (u : XS) (v : Nat → Int32) : Xg_testing_waiting (Xs_nodes_a u v) = Xg_testing_waiting u := rfl
theorem Xq_switches_nodes_a (u : XS) (v : Nat → Int32) : Xg_switches (Xs_nodes_a u v) = Xg_switches u := rfl
theorem Xq_leftText_nodes_a (u : XS) (v : Nat → Int32) : Xg_leftText (Xs_nodes_a u v) = Xg_leftText u := rfl
theorem Xq_rightText_nodes_a (u : XS) (v : Nat → Int32) : Xg_rightText (Xs_nodes_a u v) = Xg_rightText u := rfl
theorem Xq_whole_nodes_b (u : XS) (v : Nat → Int32) : Xg_whole (Xs_nodes_b u v) = Xg_whole u := rfl
theorem Xq_fields_made_nodes_b (u : XS) (v : Nat → Int32) : Xg_fields_made (Xs_nodes_b u v) = Xg_fields_made u := rfl
theorem Xq_fields_category_nodes_b (u : XS) (v : Nat → Int32) : Xg_fields_category (Xs_nodes_b u v) = Xg_fields_category u := rfl
theorem Xq_fields_size_nodes_b (u : XS) (v : Nat → Int32) : Xg_fields_size (Xs_nodes_b u v) = Xg_fields_size u := rfl
theorem Xq_fields_scale_nodes_b (u : XS) (v : Nat → Int32) : Xg_fields_scale (Xs_nodes_b u v) = Xg_fields_scale u := rfl
theorem Xq_fields_bytes_nodes_b (u : XS) (v : Nat → Int32) : Xg_fields_bytes (Xs_nodes_b u v) = Xg_fields_bytes u := rfl
theorem Xq_weights_of_nodes_b (u : XS) (v : Nat → Int32) : Xg_weights_of (Xs_nodes_b u v) = Xg_weights_of u := rfl
theorem Xq_names_made_nodes_b (u : XS) (v : Nat → Int32) : Xg_names_made (Xs_nodes_b u v) = Xg_names_made u := rfl
theorem Xq_names_field_nodes_b (u : XS) (v : Nat → Int32) : Xg_names_field (Xs_nodes_b u v) = Xg_names_field u := rfl
theorem Xq_names_ranges_nodes_b (u : XS) (v : Nat → Int32) : Xg_names_ranges (Xs_nodes_b u v) = Xg_names_ranges u := rfl
theorem Xq_names_low_nodes_b (u : XS) (v : Nat → Int32) : Xg_names_low (Xs_nodes_b u v) = Xg_names_low u := rfl
theorem Xq_names_high_nodes_b (u : XS) (v : Nat → Int32) : Xg_names_high (Xs_nodes_b u v) = Xg_names_high u := rfl
theorem Xq_nodes_made_nodes_b (u : XS) (v : Nat → Int32) : Xg_nodes_made (Xs_nodes_b u v) = Xg_nodes_made u := rfl
theorem Xq_nodes_op_nodes_b (u : XS) (v : Nat → Int32) : Xg_nodes_op (Xs_nodes_b u v) = Xg_nodes_op u := rfl
theorem Xq_nodes_a_nodes_b (u : XS) (v : Nat → Int32) : Xg_nodes_a (Xs_nodes_b u v) = Xg_nodes_a u := rfl
theorem Xq_nodes_b_nodes_b (u : XS) (v : Nat → Int32) : Xg_nodes_b (Xs_nodes_b u v) = v := rfl
theorem Xq_row_subject_nodes_b (u : XS) (v : Nat → Int32) : Xg_row_subject (Xs_nodes_b u v) = Xg_row_subject u := rfl
theorem Xq_row_carried_nodes_b (u : XS) (v : Nat → Int32) : Xg_row_carried (Xs_nodes_b u v) = Xg_row_carried u := rfl
theorem Xq_row_length_nodes_b (u : XS) (v : Nat → Int32) : Xg_row_length (Xs_nodes_b u v) = Xg_row_length u := rfl
theorem Xq_row_with_nodes_b (u : XS) (v : Nat → Int32) : Xg_row_with (Xs_nodes_b u v) = Xg_row_with u := rfl
theorem Xq_row_op_nodes_b (u : XS) (v : Nat → Int32) : Xg_row_op (Xs_nodes_b u v) = Xg_row_op u := rfl
theorem Xq_row_negated_nodes_b (u : XS) (v : Nat → Int32) : Xg_row_negated (Xs_nodes_b u v) = Xg_row_negated u := rfl
theorem Xq_row_object_nodes_b (u : XS) (v : Nat → Int32) : Xg_row_object (Xs_nodes_b u v) = Xg_row_object u := rfl
theorem Xq_testing_noted_nodes_b (u : XS) (v : Nat → Int32) : Xg_testing_noted (Xs_nodes_b u v) = Xg_testing_noted u := rfl
theorem Xq_testing_depth_nodes_b (u : XS) (v : Nat → Int32) : Xg_testing_depth (Xs_nodes_b u v) = Xg_testing_depth u := rfl
theorem Xq_testing_outcome_nodes_b (u : XS) (v : Nat → Int32) : Xg_testing_outcome (Xs_nodes_b u v) = Xg_testing_outcome u := rfl
theorem Xq_testing_leaves_nodes_b (u : XS) (v : Nat → Int32) : Xg_testing_leaves (Xs_nodes_b u v) = Xg_testing_leaves u := rfl
theorem Xq_testing_waiting_nodes_b (u : XS) (v : Nat → Int32) : Xg_testing_waiting (Xs_nodes_b u v) = Xg_testing_waiting u := rfl
theorem Xq_switches_nodes_b (u : XS) (v : Nat → Int32) : Xg_switches (Xs_nodes_b u v) = Xg_switches u := rfl
theorem Xq_leftText_nodes_b (u : XS) (v : Nat → Int32) : Xg_leftText (Xs_nodes_b u v) = Xg_leftText u := rfl
theorem Xq_rightText_nodes_b (u : XS) (v : Nat → Int32) : Xg_rightText (Xs_nodes_b u v) = Xg_rightText u := rfl
theorem Xq_whole_row_subject (u : XS) (v : Int32) : Xg_whole (Xs_row_subject u v) = Xg_whole u := rfl
theorem Xq_fields_made_row_subject (u : XS) (v : Int32) : Xg_fields_made (Xs_row_subject u v) = Xg_fields_made u := rfl
theorem Xq_fields_category_row_subject (u : XS) (v : Int32) : Xg_fields_category (Xs_row_subject u v) = Xg_fields_category u := rfl
theorem Xq_fields_size_row_subject (u : XS) (v : Int32) : Xg_fields_size (Xs_row_subject u v) = Xg_fields_size u := rfl
theorem Xq_fields_scale_row_subject (u : XS) (v : Int32) : Xg_fields_scale (Xs_row_subject u v) = Xg_fields_scale u := rfl
theorem Xq_fields_bytes_row_subject (u : XS) (v : Int32) : Xg_fields_bytes (Xs_row_subject u v) = Xg_fields_bytes u := rfl
theorem Xq_weights_of_row_subject (u : XS) (v : Int32) : Xg_weights_of (Xs_row_subject u v) = Xg_weights_of u := rfl
theorem Xq_names_made_row_subject (u : XS) (v : Int32) : Xg_names_made (Xs_row_subject u v) = Xg_names_made u := rfl
theorem Xq_names_field_row_subject (u : XS) (v : Int32) : Xg_names_field (Xs_row_subject u v) = Xg_names_field u := rfl
theorem Xq_names_ranges_row_subject (u : XS) (v : Int32) : Xg_names_ranges (Xs_row_subject u v) = Xg_names_ranges u := rfl
theorem Xq_names_low_row_subject (u : XS) (v : Int32) : Xg_names_low (Xs_row_subject u v) = Xg_names_low u := rfl
theorem Xq_names_high_row_subject (u : XS) (v : Int32) : Xg_names_high (Xs_row_subject u v) = Xg_names_high u := rfl
theorem Xq_nodes_made_row_subject (u : XS) (v : Int32) : Xg_nodes_made (Xs_row_subject u v) = Xg_nodes_made u := rfl
theorem Xq_nodes_op_row_subject (u : XS) (v : Int32) : Xg_nodes_op (Xs_row_subject u v) = Xg_nodes_op u := rfl
theorem Xq_nodes_a_row_subject (u : XS) (v : Int32) : Xg_nodes_a (Xs_row_subject u v) = Xg_nodes_a u := rfl
theorem Xq_nodes_b_row_subject (u : XS) (v : Int32) : Xg_nodes_b (Xs_row_subject u v) = Xg_nodes_b u := rfl
theorem Xq_row_subject_row_subject (u : XS) (v : Int32) : Xg_row_subject (Xs_row_subject u v) = v := rfl
theorem Xq_row_carried_row_subject (u : XS) (v : Int32) : Xg_row_carried (Xs_row_subject u v) = Xg_row_carried u := rfl
theorem Xq_row_length_row_subject (u : XS) (v : Int32) : Xg_row_length (Xs_row_subject u v) = Xg_row_length u := rfl
theorem Xq_row_with_row_subject (u : XS) (v : Int32) : Xg_row_with (Xs_row_subject u v) = Xg_row_with u := rfl
theorem Xq_row_op_row_subject (u : XS) (v : Int32) : Xg_row_op (Xs_row_subject u v) = Xg_row_op u := rfl
theorem Xq_row_negated_row_subject (u : XS) (v : Int32) : Xg_row_negated (Xs_row_subject u v) = Xg_row_negated u := rfl
theorem Xq_row_object_row_subject (u : XS) (v : Int32) : Xg_row_object (Xs_row_subject u v) = Xg_row_object u := rfl
theorem Xq_testing_noted_row_subject (u : XS) (v : Int32) : Xg_testing_noted (Xs_row_subject u v) = Xg_testing_noted u := rfl
theorem Xq_testing_depth_row_subject (u : XS) (v : Int32) : Xg_testing_depth (Xs_row_subject u v) = Xg_testing_depth u := rfl
theorem Xq_testing_outcome_row_subject (u : XS) (v : Int32) : Xg_testing_outcome (Xs_row_subject u v) = Xg_testing_outcome u := rfl
theorem Xq_testing_leaves_row_subject (u : XS) (v : Int32) : Xg_testing_leaves (Xs_row_subject u v) = Xg_testing_leaves u := rfl
theorem Xq_testing_waiting_row_subject (u : XS) (v : Int32) : Xg_testing_waiting (Xs_row_subject u v) = Xg_testing_waiting u := rfl
theorem Xq_switches_row_subject (u : XS) (v : Int32) : Xg_switches (Xs_row_subject u v) = Xg_switches u := rfl
theorem Xq_leftText_row_subject (u : XS) (v : Int32) : Xg_leftText (Xs_row_subject u v) = Xg_leftText u := rfl
theorem Xq_rightText_row_subject (u : XS) (v : Int32) : Xg_rightText (Xs_row_subject u v) = Xg_rightText u := rfl
theorem Xq_whole_row_carried (u : XS) (v : Int32) : Xg_whole (Xs_row_carried u v) = Xg_whole u := rfl
theorem Xq_fields_made_row_carried (u : XS) (v : Int32) : Xg_fields_made (Xs_row_carried u v) = Xg_fields_made u := rfl
theorem Xq_fields_category_row_carried (u : XS) (v : Int32) : Xg_fields_category (Xs_row_carried u v) = Xg_fields_category u := rfl
theorem Xq_fields_size_row_carried (u : XS) (v : Int32) : Xg_fields_size (Xs_row_carried u v) = Xg_fields_size u := rfl
theorem Xq_fields_scale_row_carried (u : XS) (v : Int32) : Xg_fields_scale (Xs_row_carried u v) = Xg_fields_scale u := rfl
theorem Xq_fields_bytes_row_carried (u : XS) (v : Int32) : Xg_fields_bytes (Xs_row_carried u v) = Xg_fields_bytes u := rfl
theorem Xq_weights_of_row_carried (u : XS) (v : Int32) : Xg_weights_of (Xs_row_carried u v) = Xg_weights_of u := rfl
theorem Xq_names_made_row_carried (u : XS) (v : Int32) : Xg_names_made (Xs_row_carried u v) = Xg_names_made u := rfl
theorem Xq_names_field_row_carried (u : XS) (v : Int32) : Xg_names_field (Xs_row_carried u v) = Xg_names_field u := rfl
theorem Xq_names_ranges_row_carried (u : XS) (v : Int32) : Xg_names_ranges (Xs_row_carried u v) = Xg_names_ranges u := rfl
theorem Xq_names_low_row_carried (u : XS) (v : Int32) : Xg_names_low (Xs_row_carried u v) = Xg_names_low u := rfl
theorem Xq_names_high_row_carried (u : XS) (v : Int32) : Xg_names_high (Xs_row_carried u v) = Xg_names_high u := rfl
theorem Xq_nodes_made_row_carried (u : XS) (v : Int32) : Xg_nodes_made (Xs_row_carried u v) = Xg_nodes_made u := rfl
theorem Xq_nodes_op_row_carried (u : XS) (v : Int32) : Xg_nodes_op (Xs_row_carried u v) = Xg_nodes_op u := rfl
theorem Xq_nodes_a_row_carried (u : XS) (v : Int32) : Xg_nodes_a (Xs_row_carried u v) = Xg_nodes_a u := rfl
theorem Xq_nodes_b_row_carried (u : XS) (v : Int32) : Xg_nodes_b (Xs_row_carried u v) = Xg_nodes_b u := rfl
theorem Xq_row_subject_row_carried (u : XS) (v : Int32) : Xg_row_subject (Xs_row_carried u v) = Xg_row_subject u := rfl
theorem Xq_row_carried_row_carried (u : XS) (v : Int32) : Xg_row_carried (Xs_row_carried u v) = v := rfl
theorem Xq_row_length_row_carried (u : XS) (v : Int32) : Xg_row_length (Xs_row_carried u v) = Xg_row_length u := rfl
theorem Xq_row_with_row_carried (u : XS) (v : Int32) : Xg_row_with (Xs_row_carried u v) = Xg_row_with u := rfl
theorem Xq_row_op_row_carried (u : XS) (v : Int32) : Xg_row_op (Xs_row_carried u v) = Xg_row_op u := rfl
theorem Xq_row_negated_row_carried (u : XS) (v : Int32) : Xg_row_negated (Xs_row_carried u v) = Xg_row_negated u := rfl
theorem Xq_row_object_row_carried (u : XS) (v : Int32) : Xg_row_object (Xs_row_carried u v) = Xg_row_object u := rfl
theorem Xq_testing_noted_row_carried (u : XS) (v : Int32) : Xg_testing_noted (Xs_row_carried u v) = Xg_testing_noted u := rfl
theorem Xq_testing_depth_row_carried (u : XS) (v : Int32) : Xg_testing_depth (Xs_row_carried u v) = Xg_testing_depth u := rfl
theorem Xq_testing_outcome_row_carried (u : XS) (v : Int32) : Xg_testing_outcome (Xs_row_carried u v) = Xg_testing_outcome u := rfl
theorem Xq_testing_leaves_row_carried (u : XS) (v : Int32) : Xg_testing_leaves (Xs_row_carried u v) = Xg_testing_leaves u := rfl
theorem Xq_testing_waiting_row_carried (u : XS) (v : Int32) : Xg_testing_waiting (Xs_row_carried u v) = Xg_testing_waiting u := rfl
theorem Xq_switches_row_carried (u : XS) (v : Int32) : Xg_switches (Xs_row_carried u v) = Xg_switches u := rfl
theorem Xq_leftText_row_carried (u : XS) (v : Int32) : Xg_leftText (Xs_row_carried u v) = Xg_leftText u := rfl
theorem Xq_rightText_row_carried (u : XS) (v : Int32) : Xg_rightText (Xs_row_carried u v) = Xg_rightText u := rfl
theorem Xq_whole_row_length (u : XS) (v : Int32) : Xg_whole (Xs_row_length u v) = Xg_whole u := rfl
theorem Xq_fields_made_row_length (u : XS) (v : Int32) : Xg_fields_made (Xs_row_length u v) = Xg_fields_made u := rfl
theorem Xq_fields_category_row_length (u : XS) (v : Int32) : Xg_fields_category (Xs_row_length u v) = Xg_fields_category u := rfl
theorem Xq_fields_size_row_length (u : XS) (v : Int32) : Xg_fields_size (Xs_row_length u v) = Xg_fields_size u := rfl
theorem Xq_fields_scale_row_length (u : XS) (v : Int32) : Xg_fields_scale (Xs_row_length u v) = Xg_fields_scale u := rfl
theorem Xq_fields_bytes_row_length (u : XS) (v : Int32) : Xg_fields_bytes (Xs_row_length u v) = Xg_fields_bytes u := rfl
theorem Xq_weights_of_row_length (u : XS) (v : Int32) : Xg_weights_of (Xs_row_length u v) = Xg_weights_of u := rfl
theorem Xq_names_made_row_length (u : XS) (v : Int32) : Xg_names_made (Xs_row_length u v) = Xg_names_made u := rfl
theorem Xq_names_field_row_length (u : XS) (v : Int32) : Xg_names_field (Xs_row_length u v) = Xg_names_field u := rfl
theorem Xq_names_ranges_row_length (u : XS) (v : Int32) : Xg_names_ranges (Xs_row_length u v) = Xg_names_ranges u := rfl
theorem Xq_names_low_row_length (u : XS) (v : Int32) : Xg_names_low (Xs_row_length u v) = Xg_names_low u := rfl
theorem Xq_names_high_row_length (u : XS) (v : Int32) : Xg_names_high (Xs_row_length u v) = Xg_names_high u := rfl
theorem Xq_nodes_made_row_length (u : XS) (v : Int32) : Xg_nodes_made (Xs_row_length u v) = Xg_nodes_made u := rfl
theorem Xq_nodes_op_row_length (u : XS) (v : Int32) : Xg_nodes_op (Xs_row_length u v) = Xg_nodes_op u := rfl
theorem Xq_nodes_a_row_length (u : XS) (v : Int32) : Xg_nodes_a (Xs_row_length u v) = Xg_nodes_a u := rfl
theorem Xq_nodes_b_row_length (u : XS) (v : Int32) : Xg_nodes_b (Xs_row_length u v) = Xg_nodes_b u := rfl
theorem Xq_row_subject_row_length (u : XS) (v : Int32) : Xg_row_subject (Xs_row_length u v) = Xg_row_subject u := rfl
theorem Xq_row_carried_row_length (u : XS) (v : Int32) : Xg_row_carried (Xs_row_length u v) = Xg_row_carried u := rfl
theorem Xq_row_length_row_length (u : XS) (v : Int32) : Xg_row_length (Xs_row_length u v) = v := rfl
theorem Xq_row_with_row_length (u : XS) (v : Int32) : Xg_row_with (Xs_row_length u v) = Xg_row_with u := rfl
theorem Xq_row_op_row_length (u : XS) (v : Int32) : Xg_row_op (Xs_row_length u v) = Xg_row_op u := rfl
theorem Xq_row_negated_row_length (u : XS) (v : Int32) : Xg_row_negated (Xs_row_length u v) = Xg_row_negated u := rfl
theorem Xq_row_object_row_length (u : XS) (v : Int32) : Xg_row_object (Xs_row_length u v) = Xg_row_object u := rfl
theorem Xq_testing_noted_row_length (u : XS) (v : Int32) : Xg_testing_noted (Xs_row_length u v) = Xg_testing_noted u := rfl
theorem Xq_testing_depth_row_length (u : XS) (v : Int32) : Xg_testing_depth (Xs_row_length u v) = Xg_testing_depth u := rfl
theorem Xq_testing_outcome_row_length (u : XS) (v : Int32) : Xg_testing_outcome (Xs_row_length u v) = Xg_testing_outcome u := rfl
theorem Xq_testing_leaves_row_length (u : XS) (v : Int32) : Xg_testing_leaves (Xs_row_length u v) = Xg_testing_leaves u := rfl
theorem Xq_testing_waiting_row_length (u : XS) (v : Int32) : Xg_testing_waiting (Xs_row_length u v) = Xg_testing_waiting u := rfl
theorem Xq_switches_row_length (u : XS) (v : Int32) : Xg_switches (Xs_row_length u v) = Xg_switches u := rfl
theorem Xq_leftText_row_length (u : XS) (v : Int32) : Xg_leftText (Xs_row_length u v) = Xg_leftText u := rfl
theorem Xq_rightText_row_length (u : XS) (v : Int32) : Xg_rightText (Xs_row_length u v) = Xg_rightText u := rfl
theorem Xq_whole_row_with (u : XS) (v : Nat → Int32) : Xg_whole (Xs_row_with u v) = Xg_whole u := rfl
theorem Xq_fields_made_row_with (u : XS) (v : Nat → Int32) : Xg_fields_made (Xs_row_with u v) = Xg_fields_made u := rfl
theorem Xq_fields_category_row_with (u : XS) (v : Nat → Int32) : Xg_fields_category (Xs_row_with u v) = Xg_fields_category u := rfl
theorem Xq_fields_size_row_with (u : XS) (v : Nat → Int32) : Xg_fields_size (Xs_row_with u v) = Xg_fields_size u := rfl
theorem Xq_fields_scale_row_with (u : XS) (v : Nat → Int32) : Xg_fields_scale (Xs_row_with u v) = Xg_fields_scale u := rfl
theorem Xq_fields_bytes_row_with (u : XS) (v : Nat → Int32) : Xg_fields_bytes (Xs_row_with u v) = Xg_fields_bytes u := rfl
theorem Xq_weights_of_row_with (u : XS) (v : Nat → Int32) : Xg_weights_of (Xs_row_with u v) = Xg_weights_of u := rfl
theorem Xq_names_made_row_with (u : XS) (v : Nat → Int32) : Xg_names_made (Xs_row_with u v) = Xg_names_made u := rfl
theorem Xq_names_field_row_with (u : XS) (v : Nat → Int32) : Xg_names_field (Xs_row_with u v) = Xg_names_field u := rfl
theorem Xq_names_ranges_row_with (u : XS) (v : Nat → Int32) : Xg_names_ranges (Xs_row_with u v) = Xg_names_ranges u := rfl
theorem Xq_names_low_row_with (u : XS) (v : Nat → Int32) : Xg_names_low (Xs_row_with u v) = Xg_names_low u := rfl
theorem Xq_names_high_row_with (u : XS) (v : Nat → Int32) : Xg_names_high (Xs_row_with u v) = Xg_names_high u := rfl
theorem Xq_nodes_made_row_with (u : XS) (v : Nat → Int32) : Xg_nodes_made (Xs_row_with u v) = Xg_nodes_made u := rfl
theorem Xq_nodes_op_row_with (u : XS) (v : Nat → Int32) : Xg_nodes_op (Xs_row_with u v) = Xg_nodes_op u := rfl
theorem Xq_nodes_a_row_with (u : XS) (v : Nat → Int32) : Xg_nodes_a (Xs_row_with u v) = Xg_nodes_a u := rfl
theorem Xq_nodes_b_row_with (u : XS) (v : Nat → Int32) : Xg_nodes_b (Xs_row_with u v) = Xg_nodes_b u := rfl
theorem Xq_row_subject_row_with (u : XS) (v : Nat → Int32) : Xg_row_subject (Xs_row_with u v) = Xg_row_subject u := rfl
theorem Xq_row_carried_row_with (u : XS) (v : Nat → Int32) : Xg_row_carried (Xs_row_with u v) = Xg_row_carried u := rfl
theorem Xq_row_length_row_with (u : XS) (v : Nat → Int32) : Xg_row_length (Xs_row_with u v) = Xg_row_length u := rfl
theorem Xq_row_with_row_with (u : XS) (v : Nat → Int32) : Xg_row_with (Xs_row_with u v) = v := rfl
theorem Xq_row_op_row_with (u : XS) (v : Nat → Int32) : Xg_row_op (Xs_row_with u v) = Xg_row_op u := rfl
theorem Xq_row_negated_row_with (u : XS) (v : Nat → Int32) : Xg_row_negated (Xs_row_with u v) = Xg_row_negated u := rfl
theorem Xq_row_object_row_with (u : XS) (v : Nat → Int32) : Xg_row_object (Xs_row_with u v) = Xg_row_object u := rfl
theorem Xq_testing_noted_row_with (u : XS) (v : Nat → Int32) : Xg_testing_noted (Xs_row_with u v) = Xg_testing_noted u := rfl
theorem Xq_testing_depth_row_with (u : XS) (v : Nat → Int32) : Xg_testing_depth (Xs_row_with u v) = Xg_testing_depth u := rfl
theorem Xq_testing_outcome_row_with (u : XS) (v : Nat → Int32) : Xg_testing_outcome (Xs_row_with u v) = Xg_testing_outcome u := rfl
theorem Xq_testing_leaves_row_with (u : XS) (v : Nat → Int32) : Xg_testing_leaves (Xs_row_with u v) = Xg_testing_leaves u := rfl
theorem Xq_testing_waiting_row_with (u : XS) (v : Nat → Int32) : Xg_testing_waiting (Xs_row_with u v) = Xg_testing_waiting u := rfl
theorem Xq_switches_row_with (u : XS) (v : Nat → Int32) : Xg_switches (Xs_row_with u v) = Xg_switches u := rfl
theorem Xq_leftText_row_with (u : XS) (v : Nat → Int32) : Xg_leftText (Xs_row_with u v) = Xg_leftText u := rfl
theorem Xq_rightText_row_with (u : XS) (v : Nat → Int32) : Xg_rightText (Xs_row_with u v) = Xg_rightText u := rfl
theorem Xq_whole_row_op (u : XS) (v : Nat → Int32) : Xg_whole (Xs_row_op u v) = Xg_whole u := rfl
theorem Xq_fields_made_row_op (u : XS) (v : Nat → Int32) : Xg_fields_made (Xs_row_op u v) = Xg_fields_made u := rfl
theorem Xq_fields_category_row_op (u : XS) (v : Nat → Int32) : Xg_fields_category (Xs_row_op u v) = Xg_fields_category u := rfl
theorem Xq_fields_size_row_op (u : XS) (v : Nat → Int32) : Xg_fields_size (Xs_row_op u v) = Xg_fields_size u := rfl
theorem Xq_fields_scale_row_op (u : XS) (v : Nat → Int32) : Xg_fields_scale (Xs_row_op u v) = Xg_fields_scale u := rfl
theorem Xq_fields_bytes_row_op (u : XS) (v : Nat → Int32) : Xg_fields_bytes (Xs_row_op u v) = Xg_fields_bytes u := rfl
theorem Xq_weights_of_row_op (u : XS) (v : Nat → Int32) : Xg_weights_of (Xs_row_op u v) = Xg_weights_of u := rfl
theorem Xq_names_made_row_op (u : XS) (v : Nat → Int32) : Xg_names_made (Xs_row_op u v) = Xg_names_made u := rfl
theorem Xq_names_field_row_op (u : XS) (v : Nat → Int32) : Xg_names_field (Xs_row_op u v) = Xg_names_field u := rfl
theorem Xq_names_ranges_row_op (u : XS) (v : Nat → Int32) : Xg_names_ranges (Xs_row_op u v) = Xg_names_ranges u := rfl
theorem Xq_names_low_row_op (u : XS) (v : Nat → Int32) : Xg_names_low (Xs_row_op u v) = Xg_names_low u := rfl
theorem Xq_names_high_row_op (u : XS) (v : Nat → Int32) : Xg_names_high (Xs_row_op u v) = Xg_names_high u := rfl
theorem Xq_nodes_made_row_op (u : XS) (v : Nat → Int32) : Xg_nodes_made (Xs_row_op u v) = Xg_nodes_made u := rfl
theorem Xq_nodes_op_row_op (u : XS) (v : Nat → Int32) : Xg_nodes_op (Xs_row_op u v) = Xg_nodes_op u := rfl
theorem Xq_nodes_a_row_op (u : XS) (v : Nat → Int32) : Xg_nodes_a (Xs_row_op u v) = Xg_nodes_a u := rfl
theorem Xq_nodes_b_row_op (u : XS) (v : Nat → Int32) : Xg_nodes_b (Xs_row_op u v) = Xg_nodes_b u := rfl
theorem Xq_row_subject_row_op (u : XS) (v : Nat → Int32) : Xg_row_subject (Xs_row_op u v) = Xg_row_subject u := rfl
theorem Xq_row_carried_row_op (u : XS) (v : Nat → Int32) : Xg_row_carried (Xs_row_op u v) = Xg_row_carried u := rfl
theorem Xq_row_length_row_op (u : XS) (v : Nat → Int32) : Xg_row_length (Xs_row_op u v) = Xg_row_length u := rfl
theorem Xq_row_with_row_op (u : XS) (v : Nat → Int32) : Xg_row_with (Xs_row_op u v) = Xg_row_with u := rfl
theorem Xq_row_op_row_op (u : XS) (v : Nat → Int32) : Xg_row_op (Xs_row_op u v) = v := rfl
theorem Xq_row_negated_row_op (u : XS) (v : Nat → Int32) : Xg_row_negated (Xs_row_op u v) = Xg_row_negated u := rfl
theorem Xq_row_object_row_op (u : XS) (v : Nat → Int32) : Xg_row_object (Xs_row_op u v) = Xg_row_object u := rfl
theorem Xq_testing_noted_row_op (u : XS) (v : Nat → Int32) : Xg_testing_noted (Xs_row_op u v) = Xg_testing_noted u := rfl
theorem Xq_testing_depth_row_op (u : XS) (v : Nat → Int32) : Xg_testing_depth (Xs_row_op u v) = Xg_testing_depth u := rfl
theorem Xq_testing_outcome_row_op (u : XS) (v : Nat → Int32) : Xg_testing_outcome (Xs_row_op u v) = Xg_testing_outcome u := rfl
theorem Xq_testing_leaves_row_op (u : XS) (v : Nat → Int32) : Xg_testing_leaves (Xs_row_op u v) = Xg_testing_leaves u := rfl
theorem Xq_testing_waiting_row_op (u : XS) (v : Nat → Int32) : Xg_testing_waiting (Xs_row_op u v) = Xg_testing_waiting u := rfl
theorem Xq_switches_row_op (u : XS) (v : Nat → Int32) : Xg_switches (Xs_row_op u v) = Xg_switches u := rfl
theorem Xq_leftText_row_op (u : XS) (v : Nat → Int32) : Xg_leftText (Xs_row_op u v) = Xg_leftText u := rfl
theorem Xq_rightText_row_op (u : XS) (v : Nat → Int32) : Xg_rightText (Xs_row_op u v) = Xg_rightText u := rfl
theorem Xq_whole_row_negated (u : XS) (v : Nat → Int32) : Xg_whole (Xs_row_negated u v) = Xg_whole u := rfl
theorem Xq_fields_made_row_negated (u : XS) (v : Nat → Int32) : Xg_fields_made (Xs_row_negated u v) = Xg_fields_made u := rfl
theorem Xq_fields_category_row_negated (u : XS) (v : Nat → Int32) : Xg_fields_category (Xs_row_negated u v) = Xg_fields_category u := rfl
theorem Xq_fields_size_row_negated (u : XS) (v : Nat → Int32) : Xg_fields_size (Xs_row_negated u v) = Xg_fields_size u := rfl
theorem Xq_fields_scale_row_negated (u : XS) (v : Nat → Int32) : Xg_fields_scale (Xs_row_negated u v) = Xg_fields_scale u := rfl
theorem Xq_fields_bytes_row_negated (u : XS) (v : Nat → Int32) : Xg_fields_bytes (Xs_row_negated u v) = Xg_fields_bytes u := rfl
theorem Xq_weights_of_row_negated (u : XS) (v : Nat → Int32) : Xg_weights_of (Xs_row_negated u v) = Xg_weights_of u := rfl
theorem Xq_names_made_row_negated (u : XS) (v : Nat → Int32) : Xg_names_made (Xs_row_negated u v) = Xg_names_made u := rfl
theorem Xq_names_field_row_negated (u : XS) (v : Nat → Int32) : Xg_names_field (Xs_row_negated u v) = Xg_names_field u := rfl
theorem Xq_names_ranges_row_negated (u : XS) (v : Nat → Int32) : Xg_names_ranges (Xs_row_negated u v) = Xg_names_ranges u := rfl
theorem Xq_names_low_row_negated (u : XS) (v : Nat → Int32) : Xg_names_low (Xs_row_negated u v) = Xg_names_low u := rfl
theorem Xq_names_high_row_negated (u : XS) (v : Nat → Int32) : Xg_names_high (Xs_row_negated u v) = Xg_names_high u := rfl
theorem Xq_nodes_made_row_negated (u : XS) (v : Nat → Int32) : Xg_nodes_made (Xs_row_negated u v) = Xg_nodes_made u := rfl
theorem Xq_nodes_op_row_negated (u : XS) (v : Nat → Int32) : Xg_nodes_op (Xs_row_negated u v) = Xg_nodes_op u := rfl
theorem Xq_nodes_a_row_negated (u : XS) (v : Nat → Int32) : Xg_nodes_a (Xs_row_negated u v) = Xg_nodes_a u := rfl
theorem Xq_nodes_b_row_negated (u : XS) (v : Nat → Int32) : Xg_nodes_b (Xs_row_negated u v) = Xg_nodes_b u := rfl
theorem Xq_row_subject_row_negated (u : XS) (v : Nat → Int32) : Xg_row_subject (Xs_row_negated u v) = Xg_row_subject u := rfl
theorem Xq_row_carried_row_negated (u : XS) (v : Nat → Int32) : Xg_row_carried (Xs_row_negated u v) = Xg_row_carried u := rfl
theorem Xq_row_length_row_negated (u : XS) (v : Nat → Int32) : Xg_row_length (Xs_row_negated u v) = Xg_row_length u := rfl
theorem Xq_row_with_row_negated (u : XS) (v : Nat → Int32) : Xg_row_with (Xs_row_negated u v) = Xg_row_with u := rfl
theorem Xq_row_op_row_negated (u : XS) (v : Nat → Int32) : Xg_row_op (Xs_row_negated u v) = Xg_row_op u := rfl
theorem Xq_row_negated_row_negated (u : XS) (v : Nat → Int32) : Xg_row_negated (Xs_row_negated u v) = v := rfl
theorem Xq_row_object_row_negated (u : XS) (v : Nat → Int32) : Xg_row_object (Xs_row_negated u v) = Xg_row_object u := rfl
theorem Xq_testing_noted_row_negated (u : XS) (v : Nat → Int32) : Xg_testing_noted (Xs_row_negated u v) = Xg_testing_noted u := rfl
theorem Xq_testing_depth_row_negated (u : XS) (v : Nat → Int32) : Xg_testing_depth (Xs_row_negated u v) = Xg_testing_depth u := rfl
theorem Xq_testing_outcome_row_negated (u : XS) (v : Nat → Int32) : Xg_testing_outcome (Xs_row_negated u v) = Xg_testing_outcome u := rfl
theorem Xq_testing_leaves_row_negated (u : XS) (v : Nat → Int32) : Xg_testing_leaves (Xs_row_negated u v) = Xg_testing_leaves u := rfl
theorem Xq_testing_waiting_row_negated (u : XS) (v : Nat → Int32) : Xg_testing_waiting (Xs_row_negated u v) = Xg_testing_waiting u := rfl
theorem Xq_switches_row_negated (u : XS) (v : Nat → Int32) : Xg_switches (Xs_row_negated u v) = Xg_switches u := rfl
theorem Xq_leftText_row_negated (u : XS) (v : Nat → Int32) : Xg_leftText (Xs_row_negated u v) = Xg_leftText u := rfl
theorem Xq_rightText_row_negated (u : XS) (v : Nat → Int32) : Xg_rightText (Xs_row_negated u v) = Xg_rightText u := rfl
theorem Xq_whole_row_object (u : XS) (v : Nat → Int32) : Xg_whole (Xs_row_object u v) = Xg_whole u := rfl
theorem Xq_fields_made_row_object (u : XS) (v : Nat → Int32) : Xg_fields_made (Xs_row_object u v) = Xg_fields_made u := rfl
theorem Xq_fields_category_row_object (u : XS) (v : Nat → Int32) : Xg_fields_category (Xs_row_object u v) = Xg_fields_category u := rfl
theorem Xq_fields_size_row_object (u : XS) (v : Nat → Int32) : Xg_fields_size (Xs_row_object u v) = Xg_fields_size u := rfl
theorem Xq_fields_scale_row_object (u : XS) (v : Nat → Int32) : Xg_fields_scale (Xs_row_object u v) = Xg_fields_scale u := rfl
theorem Xq_fields_bytes_row_object (u : XS) (v : Nat → Int32) : Xg_fields_bytes (Xs_row_object u v) = Xg_fields_bytes u := rfl
theorem Xq_weights_of_row_object (u : XS) (v : Nat → Int32) : Xg_weights_of (Xs_row_object u v) = Xg_weights_of u := rfl
theorem Xq_names_made_row_object (u : XS) (v : Nat → Int32) : Xg_names_made (Xs_row_object u v) = Xg_names_made u := rfl
theorem Xq_names_field_row_object (u : XS) (v : Nat → Int32) : Xg_names_field (Xs_row_object u v) = Xg_names_field u := rfl
theorem Xq_names_ranges_row_object (u : XS) (v : Nat → Int32) : Xg_names_ranges (Xs_row_object u v) = Xg_names_ranges u := rfl
theorem Xq_names_low_row_object (u : XS) (v : Nat → Int32) : Xg_names_low (Xs_row_object u v) = Xg_names_low u := rfl
theorem Xq_names_high_row_object (u : XS) (v : Nat → Int32) : Xg_names_high (Xs_row_object u v) = Xg_names_high u := rfl
theorem Xq_nodes_made_row_object (u : XS) (v : Nat → Int32) : Xg_nodes_made (Xs_row_object u v) = Xg_nodes_made u := rfl
theorem Xq_nodes_op_row_object (u : XS) (v : Nat → Int32) : Xg_nodes_op (Xs_row_object u v) = Xg_nodes_op u := rfl
theorem Xq_nodes_a_row_object (u : XS) (v : Nat → Int32) : Xg_nodes_a (Xs_row_object u v) = Xg_nodes_a u := rfl
theorem Xq_nodes_b_row_object (u : XS) (v : Nat → Int32) : Xg_nodes_b (Xs_row_object u v) = Xg_nodes_b u := rfl
theorem Xq_row_subject_row_object (u : XS) (v : Nat → Int32) : Xg_row_subject (Xs_row_object u v) = Xg_row_subject u := rfl
theorem Xq_row_carried_row_object (u : XS) (v : Nat → Int32) : Xg_row_carried (Xs_row_object u v) = Xg_row_carried u := rfl
theorem Xq_row_length_row_object (u : XS) (v : Nat → Int32) : Xg_row_length (Xs_row_object u v) = Xg_row_length u := rfl
theorem Xq_row_with_row_object (u : XS) (v : Nat → Int32) : Xg_row_with (Xs_row_object u v) = Xg_row_with u := rfl
theorem Xq_row_op_row_object (u : XS) (v : Nat → Int32) : Xg_row_op (Xs_row_object u v) = Xg_row_op u := rfl
theorem Xq_row_negated_row_object (u : XS) (v : Nat → Int32) : Xg_row_negated (Xs_row_object u v) = Xg_row_negated u := rfl
theorem Xq_row_object_row_object (u : XS) (v : Nat → Int32) : Xg_row_object (Xs_row_object u v) = v := rfl
theorem Xq_testing_noted_row_object (u : XS) (v : Nat → Int32) : Xg_testing_noted (Xs_row_object u v) = Xg_testing_noted u := rfl
theorem Xq_testing_depth_row_object (u : XS) (v : Nat → Int32) : Xg_testing_depth (Xs_row_object u v) = Xg_testing_depth u := rfl
theorem Xq_testing_outcome_row_object (u : XS) (v : Nat → Int32) : Xg_testing_outcome (Xs_row_object u v) = Xg_testing_outcome u := rfl
theorem Xq_testing_leaves_row_object (u : XS) (v : Nat → Int32) : Xg_testing_leaves (Xs_row_object u v) = Xg_testing_leaves u := rfl
theorem Xq_testing_waiting_row_object (u : XS) (v : Nat → Int32) : Xg_testing_waiting (Xs_row_object u v) = Xg_testing_waiting u := rfl
theorem Xq_switches_row_object (u : XS) (v : Nat → Int32) : Xg_switches (Xs_row_object u v) = Xg_switches u := rfl
theorem Xq_leftText_row_object (u : XS) (v : Nat → Int32) : Xg_leftText (Xs_row_object u v) = Xg_leftText u := rfl
theorem Xq_rightText_row_object (u : XS) (v : Nat → Int32) : Xg_rightText (Xs_row_object u v) = Xg_rightText u := rfl
theorem Xq_whole_testing_noted (u : XS) (v : Int32) : Xg_whole (Xs_testing_noted u v) = Xg_whole u := rfl
theorem Xq_fields_made_testing_noted (u : XS) (v : Int32) : Xg_fields_made (Xs_testing_noted u v) = Xg_fields_made u := rfl
theorem Xq_fields_category_testing_noted (u : XS) (v : Int32) : Xg_fields_category (Xs_testing_noted u v) = Xg_fields_category u := rfl
theorem Xq_fields_size_testing_noted (u : XS) (v : Int32) : Xg_fields_size (Xs_testing_noted u v) = Xg_fields_size u := rfl
theorem Xq_fields_scale_testing_noted (u : XS) (v : Int32) : Xg_fields_scale (Xs_testing_noted u v) = Xg_fields_scale u := rfl
theorem Xq_fields_bytes_testing_noted (u : XS) (v : Int32) : Xg_fields_bytes (Xs_testing_noted u v) = Xg_fields_bytes u := rfl
theorem Xq_weights_of_testing_noted (u : XS) (v : Int32) : Xg_weights_of (Xs_testing_noted u v) = Xg_weights_of u := rfl
theorem Xq_names_made_testing_noted (u : XS) (v : Int32) : Xg_names_made (Xs_testing_noted u v) = Xg_names_made u := rfl
theorem Xq_names_field_testing_noted (u : XS) (v : Int32) : Xg_names_field (Xs_testing_noted u v) = Xg_names_field u := rfl
theorem Xq_names_ranges_testing_noted (u : XS) (v : Int32) : Xg_names_ranges (Xs_testing_noted u v) = Xg_names_ranges u := rfl
theorem Xq_names_low_testing_noted (u : XS) (v : Int32) : Xg_names_low (Xs_testing_noted u v) = Xg_names_low u := rfl
theorem Xq_names_high_testing_noted (u : XS) (v : Int32) : Xg_names_high (Xs_testing_noted u v) = Xg_names_high u := rfl
theorem Xq_nodes_made_testing_noted (u : XS) (v : Int32) : Xg_nodes_made (Xs_testing_noted u v) = Xg_nodes_made u := rfl
theorem Xq_nodes_op_testing_noted (u : XS) (v : Int32) : Xg_nodes_op (Xs_testing_noted u v) = Xg_nodes_op u := rfl
theorem Xq_nodes_a_testing_noted (u : XS) (v : Int32) : Xg_nodes_a (Xs_testing_noted u v) = Xg_nodes_a u := rfl
theorem Xq_nodes_b_testing_noted (u : XS) (v : Int32) : Xg_nodes_b (Xs_testing_noted u v) = Xg_nodes_b u := rfl
theorem Xq_row_subject_testing_noted (u : XS) (v : Int32) : Xg_row_subject (Xs_testing_noted u v) = Xg_row_subject u := rfl
theorem Xq_row_carried_testing_noted (u : XS) (v : Int32) : Xg_row_carried (Xs_testing_noted u v) = Xg_row_carried u := rfl
theorem Xq_row_length_testing_noted (u : XS) (v : Int32) : Xg_row_length (Xs_testing_noted u v) = Xg_row_length u := rfl
theorem Xq_row_with_testing_noted (u : XS) (v : Int32) : Xg_row_with (Xs_testing_noted u v) = Xg_row_with u := rfl
theorem Xq_row_op_testing_noted (u : XS) (v : Int32) : Xg_row_op (Xs_testing_noted u v) = Xg_row_op u := rfl
theorem Xq_row_negated_testing_noted (u : XS) (v : Int32) : Xg_row_negated (Xs_testing_noted u v) = Xg_row_negated u := rfl
theorem Xq_row_object_testing_noted (u : XS) (v : Int32) : Xg_row_object (Xs_testing_noted u v) = Xg_row_object u := rfl
theorem Xq_testing_noted_testing_noted (u : XS) (v : Int32) : Xg_testing_noted (Xs_testing_noted u v) = v := rfl
theorem Xq_testing_depth_testing_noted (u : XS) (v : Int32) : Xg_testing_depth (Xs_testing_noted u v) = Xg_testing_depth u := rfl
theorem Xq_testing_outcome_testing_noted (u : XS) (v : Int32) : Xg_testing_outcome (Xs_testing_noted u v) = Xg_testing_outcome u := rfl
theorem Xq_testing_leaves_testing_noted (u : XS) (v : Int32) : Xg_testing_leaves (Xs_testing_noted u v) = Xg_testing_leaves u := rfl
theorem Xq_testing_waiting_testing_noted (u : XS) (v : Int32) : Xg_testing_waiting (Xs_testing_noted u v) = Xg_testing_waiting u := rfl
theorem Xq_switches_testing_noted (u : XS) (v : Int32) : Xg_switches (Xs_testing_noted u v) = Xg_switches u := rfl
theorem Xq_leftText_testing_noted (u : XS) (v : Int32) : Xg_leftText (Xs_testing_noted u v) = Xg_leftText u := rfl
theorem Xq_rightText_testing_noted (u : XS) (v : Int32) : Xg_rightText (Xs_testing_noted u v) = Xg_rightText u := rfl
theorem Xq_whole_testing_depth (u : XS) (v : Int32) : Xg_whole (Xs_testing_depth u v) = Xg_whole u := rfl
theorem Xq_fields_made_testing_depth (u : XS) (v : Int32) : Xg_fields_made (Xs_testing_depth u v) = Xg_fields_made u := rfl
theorem Xq_fields_category_testing_depth (u : XS) (v : Int32) : Xg_fields_category (Xs_testing_depth u v) = Xg_fields_category u := rfl
theorem Xq_fields_size_testing_depth (u : XS) (v : Int32) : Xg_fields_size (Xs_testing_depth u v) = Xg_fields_size u := rfl
theorem Xq_fields_scale_testing_depth (u : XS) (v : Int32) : Xg_fields_scale (Xs_testing_depth u v) = Xg_fields_scale u := rfl
theorem Xq_fields_bytes_testing_depth (u : XS) (v : Int32) : Xg_fields_bytes (Xs_testing_depth u v) = Xg_fields_bytes u := rfl
theorem Xq_weights_of_testing_depth (u : XS) (v : Int32) : Xg_weights_of (Xs_testing_depth u v) = Xg_weights_of u := rfl
theorem Xq_names_made_testing_depth (u : XS) (v : Int32) : Xg_names_made (Xs_testing_depth u v) = Xg_names_made u := rfl
theorem Xq_names_field_testing_depth (u : XS) (v : Int32) : Xg_names_field (Xs_testing_depth u v) = Xg_names_field u := rfl
theorem Xq_names_ranges_testing_depth (u : XS) (v : Int32) : Xg_names_ranges (Xs_testing_depth u v) = Xg_names_ranges u := rfl
theorem Xq_names_low_testing_depth (u : XS) (v : Int32) : Xg_names_low (Xs_testing_depth u v) = Xg_names_low u := rfl
theorem Xq_names_high_testing_depth (u : XS) (v : Int32) : Xg_names_high (Xs_testing_depth u v) = Xg_names_high u := rfl
theorem Xq_nodes_made_testing_depth (u : XS) (v : Int32) : Xg_nodes_made (Xs_testing_depth u v) = Xg_nodes_made u := rfl
theorem Xq_nodes_op_testing_depth (u : XS) (v : Int32) : Xg_nodes_op (Xs_testing_depth u v) = Xg_nodes_op u := rfl
theorem Xq_nodes_a_testing_depth (u : XS) (v : Int32) : Xg_nodes_a (Xs_testing_depth u v) = Xg_nodes_a u := rfl
theorem Xq_nodes_b_testing_depth (u : XS) (v : Int32) : Xg_nodes_b (Xs_testing_depth u v) = Xg_nodes_b u := rfl
theorem Xq_row_subject_testing_depth (u : XS) (v : Int32) : Xg_row_subject (Xs_testing_depth u v) = Xg_row_subject u := rfl
theorem Xq_row_carried_testing_depth (u : XS) (v : Int32) : Xg_row_carried (Xs_testing_depth u v) = Xg_row_carried u := rfl
theorem Xq_row_length_testing_depth (u : XS) (v : Int32) : Xg_row_length (Xs_testing_depth u v) = Xg_row_length u := rfl
theorem Xq_row_with_testing_depth (u : XS) (v : Int32) : Xg_row_with (Xs_testing_depth u v) = Xg_row_with u := rfl
theorem Xq_row_op_testing_depth (u : XS) (v : Int32) : Xg_row_op (Xs_testing_depth u v) = Xg_row_op u := rfl
theorem Xq_row_negated_testing_depth (u : XS) (v : Int32) : Xg_row_negated (Xs_testing_depth u v) = Xg_row_negated u := rfl
theorem Xq_row_object_testing_depth (u : XS) (v : Int32) : Xg_row_object (Xs_testing_depth u v) = Xg_row_object u := rfl
theorem Xq_testing_noted_testing_depth (u : XS) (v : Int32) : Xg_testing_noted (Xs_testing_depth u v) = Xg_testing_noted u := rfl
theorem Xq_testing_depth_testing_depth (u : XS) (v : Int32) : Xg_testing_depth (Xs_testing_depth u v) = v := rfl
theorem Xq_testing_outcome_testing_depth (u : XS) (v : Int32) : Xg_testing_outcome (Xs_testing_depth u v) = Xg_testing_outcome u := rfl
theorem Xq_testing_leaves_testing_depth (u : XS) (v : Int32) : Xg_testing_leaves (Xs_testing_depth u v) = Xg_testing_leaves u := rfl
theorem Xq_testing_waiting_testing_depth (u : XS) (v : Int32) : Xg_testing_waiting (Xs_testing_depth u v) = Xg_testing_waiting u := rfl
theorem Xq_switches_testing_depth (u : XS) (v : Int32) : Xg_switches (Xs_testing_depth u v) = Xg_switches u := rfl
theorem Xq_leftText_testing_depth (u : XS) (v : Int32) : Xg_leftText (Xs_testing_depth u v) = Xg_leftText u := rfl
theorem Xq_rightText_testing_depth (u : XS) (v : Int32) : Xg_rightText (Xs_testing_depth u v) = Xg_rightText u := rfl
theorem Xq_whole_testing_outcome (u : XS) (v : Nat → Int32) : Xg_whole (Xs_testing_outcome u v) = Xg_whole u := rfl
theorem Xq_fields_made_testing_outcome (u : XS) (v : Nat → Int32) : Xg_fields_made (Xs_testing_outcome u v) = Xg_fields_made u := rfl
theorem Xq_fields_category_testing_outcome (u : XS) (v : Nat → Int32) : Xg_fields_category (Xs_testing_outcome u v) = Xg_fields_category u := rfl
theorem Xq_fields_size_testing_outcome (u : XS) (v : Nat → Int32) : Xg_fields_size (Xs_testing_outcome u v) = Xg_fields_size u := rfl
theorem Xq_fields_scale_testing_outcome (u : XS) (v : Nat → Int32) : Xg_fields_scale (Xs_testing_outcome u v) = Xg_fields_scale u := rfl
theorem Xq_fields_bytes_testing_outcome (u : XS) (v : Nat → Int32) : Xg_fields_bytes (Xs_testing_outcome u v) = Xg_fields_bytes u := rfl
theorem Xq_weights_of_testing_outcome (u : XS) (v : Nat → Int32) : Xg_weights_of (Xs_testing_outcome u v) = Xg_weights_of u := rfl
theorem Xq_names_made_testing_outcome (u : XS) (v : Nat → Int32) : Xg_names_made (Xs_testing_outcome u v) = Xg_names_made u := rfl
theorem Xq_names_field_testing_outcome (u : XS) (v : Nat → Int32) : Xg_names_field (Xs_testing_outcome u v) = Xg_names_field u := rfl
theorem Xq_names_ranges_testing_outcome (u : XS) (v : Nat → Int32) : Xg_names_ranges (Xs_testing_outcome u v) = Xg_names_ranges u := rfl
theorem Xq_names_low_testing_outcome (u : XS) (v : Nat → Int32) : Xg_names_low (Xs_testing_outcome u v) = Xg_names_low u := rfl
theorem Xq_names_high_testing_outcome (u : XS) (v : Nat → Int32) : Xg_names_high (Xs_testing_outcome u v) = Xg_names_high u := rfl
theorem Xq_nodes_made_testing_outcome (u : XS) (v : Nat → Int32) : Xg_nodes_made (Xs_testing_outcome u v) = Xg_nodes_made u := rfl
theorem Xq_nodes_op_testing_outcome (u : XS) (v : Nat → Int32) : Xg_nodes_op (Xs_testing_outcome u v) = Xg_nodes_op u := rfl
theorem Xq_nodes_a_testing_outcome (u : XS) (v : Nat → Int32) : Xg_nodes_a (Xs_testing_outcome u v) = Xg_nodes_a u := rfl
theorem Xq_nodes_b_testing_outcome (u : XS) (v : Nat → Int32) : Xg_nodes_b (Xs_testing_outcome u v) = Xg_nodes_b u := rfl
theorem Xq_row_subject_testing_outcome (u : XS) (v : Nat → Int32) : Xg_row_subject (Xs_testing_outcome u v) = Xg_row_subject u := rfl
theorem Xq_row_carried_testing_outcome (u : XS) (v : Nat → Int32) : Xg_row_carried (Xs_testing_outcome u v) = Xg_row_carried u := rfl
theorem Xq_row_length_testing_outcome (u : XS) (v : Nat → Int32) : Xg_row_length (Xs_testing_outcome u v) = Xg_row_length u := rfl
theorem Xq_row_with_testing_outcome (u : XS) (v : Nat → Int32) : Xg_row_with (Xs_testing_outcome u v) = Xg_row_with u := rfl
theorem Xq_row_op_testing_outcome (u : XS) (v : Nat → Int32) : Xg_row_op (Xs_testing_outcome u v) = Xg_row_op u := rfl
theorem Xq_row_negated_testing_outcome (u : XS) (v : Nat → Int32) : Xg_row_negated (Xs_testing_outcome u v) = Xg_row_negated u := rfl
theorem Xq_row_object_testing_outcome (u : XS) (v : Nat → Int32) : Xg_row_object (Xs_testing_outcome u v) = Xg_row_object u := rfl
theorem Xq_testing_noted_testing_outcome (u : XS) (v : Nat → Int32) : Xg_testing_noted (Xs_testing_outcome u v) = Xg_testing_noted u := rfl
theorem Xq_testing_depth_testing_outcome (u : XS) (v : Nat → Int32) : Xg_testing_depth (Xs_testing_outcome u v) = Xg_testing_depth u := rfl
theorem Xq_testing_outcome_testing_outcome (u : XS) (v : Nat → Int32) : Xg_testing_outcome (Xs_testing_outcome u v) = v := rfl
theorem Xq_testing_leaves_testing_outcome (u : XS) (v : Nat → Int32) : Xg_testing_leaves (Xs_testing_outcome u v) = Xg_testing_leaves u := rfl
theorem Xq_testing_waiting_testing_outcome (u : XS) (v : Nat → Int32) : Xg_testing_waiting (Xs_testing_outcome u v) = Xg_testing_waiting u := rfl
theorem Xq_switches_testing_outcome (u : XS) (v : Nat → Int32) : Xg_switches (Xs_testing_outcome u v) = Xg_switches u := rfl
theorem Xq_leftText_testing_outcome (u : XS) (v : Nat → Int32) : Xg_leftText (Xs_testing_outcome u v) = Xg_leftText u := rfl
theorem Xq_rightText_testing_outcome (u : XS) (v : Nat → Int32) : Xg_rightText (Xs_testing_outcome u v) = Xg_rightText u := rfl
theorem Xq_whole_testing_leaves (u : XS) (v : Nat → Int32) : Xg_whole (Xs_testing_leaves u v) = Xg_whole u := rfl
theorem Xq_fields_made_testing_leaves (u : XS) (v : Nat → Int32) : Xg_fields_made (Xs_testing_leaves u v) = Xg_fields_made u := rfl
theorem Xq_fields_category_testing_leaves (u : XS) (v : Nat → Int32) : Xg_fields_category (Xs_testing_leaves u v) = Xg_fields_category u := rfl
theorem Xq_fields_size_testing_leaves (u : XS) (v : Nat → Int32) : Xg_fields_size (Xs_testing_leaves u v) = Xg_fields_size u := rfl
theorem Xq_fields_scale_testing_leaves (u : XS) (v : Nat → Int32) : Xg_fields_scale (Xs_testing_leaves u v) = Xg_fields_scale u := rfl
theorem Xq_fields_bytes_testing_leaves (u : XS) (v : Nat → Int32) : Xg_fields_bytes (Xs_testing_leaves u v) = Xg_fields_bytes u := rfl
theorem Xq_weights_of_testing_leaves (u : XS) (v : Nat → Int32) : Xg_weights_of (Xs_testing_leaves u v) = Xg_weights_of u := rfl
theorem Xq_names_made_testing_leaves (u : XS) (v : Nat → Int32) : Xg_names_made (Xs_testing_leaves u v) = Xg_names_made u := rfl
theorem Xq_names_field_testing_leaves (u : XS) (v : Nat → Int32) : Xg_names_field (Xs_testing_leaves u v) = Xg_names_field u := rfl
theorem Xq_names_ranges_testing_leaves (u : XS) (v : Nat → Int32) : Xg_names_ranges (Xs_testing_leaves u v) = Xg_names_ranges u := rfl
theorem Xq_names_low_testing_leaves (u : XS) (v : Nat → Int32) : Xg_names_low (Xs_testing_leaves u v) = Xg_names_low u := rfl
theorem Xq_names_high_testing_leaves (u : XS) (v : Nat → Int32) : Xg_names_high (Xs_testing_leaves u v) = Xg_names_high u := rfl
theorem Xq_nodes_made_testing_leaves (u : XS) (v : Nat → Int32) : Xg_nodes_made (Xs_testing_leaves u v) = Xg_nodes_made u := rfl
theorem Xq_nodes_op_testing_leaves (u : XS) (v : Nat → Int32) : Xg_nodes_op (Xs_testing_leaves u v) = Xg_nodes_op u := rfl
theorem Xq_nodes_a_testing_leaves (u : XS) (v : Nat → Int32) : Xg_nodes_a (Xs_testing_leaves u v) = Xg_nodes_a u := rfl
theorem Xq_nodes_b_testing_leaves (u : XS) (v : Nat → Int32) : Xg_nodes_b (Xs_testing_leaves u v) = Xg_nodes_b u := rfl
theorem Xq_row_subject_testing_leaves (u : XS) (v : Nat → Int32) : Xg_row_subject (Xs_testing_leaves u v) = Xg_row_subject u := rfl
theorem Xq_row_carried_testing_leaves (u : XS) (v : Nat → Int32) : Xg_row_carried (Xs_testing_leaves u v) = Xg_row_carried u := rfl
theorem Xq_row_length_testing_leaves (u : XS) (v : Nat → Int32) : Xg_row_length (Xs_testing_leaves u v) = Xg_row_length u := rfl
theorem Xq_row_with_testing_leaves (u : XS) (v : Nat → Int32) : Xg_row_with (Xs_testing_leaves u v) = Xg_row_with u := rfl
theorem Xq_row_op_testing_leaves (u : XS) (v : Nat → Int32) : Xg_row_op (Xs_testing_leaves u v) = Xg_row_op u := rfl
theorem Xq_row_negated_testing_leaves (u : XS) (v : Nat → Int32) : Xg_row_negated (Xs_testing_leaves u v) = Xg_row_negated u := rfl
theorem Xq_row_object_testing_leaves (u : XS) (v : Nat → Int32) : Xg_row_object (Xs_testing_leaves u v) = Xg_row_object u := rfl
theorem Xq_testing_noted_testing_leaves (u : XS) (v : Nat → Int32) : Xg_testing_noted (Xs_testing_leaves u v) = Xg_testing_noted u := rfl
theorem Xq_testing_depth_testing_leaves (u : XS) (v : Nat → Int32) : Xg_testing_depth (Xs_testing_leaves u v) = Xg_testing_depth u := rfl
theorem Xq_testing_outcome_testing_leaves (u : XS) (v : Nat → Int32) : Xg_testing_outcome (Xs_testing_leaves u v) = Xg_testing_outcome u := rfl
theorem Xq_testing_leaves_testing_leaves (u : XS) (v : Nat → Int32) : Xg_testing_leaves (Xs_testing_leaves u v) = v := rfl
theorem Xq_testing_waiting_testing_leaves (u : XS) (v : Nat → Int32) : Xg_testing_waiting (Xs_testing_leaves u v) = Xg_testing_waiting u := rfl
theorem Xq_switches_testing_leaves (u : XS) (v : Nat → Int32) : Xg_switches (Xs_testing_leaves u v) = Xg_switches u := rfl
theorem Xq_leftText_testing_leaves (u : XS) (v : Nat → Int32) : Xg_leftText (Xs_testing_leaves u v) = Xg_leftText u := rfl
theorem Xq_rightText_testing_leaves (u : XS) (v : Nat → Int32) : Xg_rightText (Xs_testing_leaves u v) = Xg_rightText u := rfl
theorem Xq_whole_testing_waiting (u : XS) (v : Nat → Int32) : Xg_whole (Xs_testing_waiting u v) = Xg_whole u := rfl
theorem Xq_fields_made_testing_waiting (u : XS) (v : Nat → Int32) : Xg_fields_made (Xs_testing_waiting u v) = Xg_fields_made u := rfl
theorem Xq_fields_category_testing_waiting (u : XS) (v : Nat → Int32) : Xg_fields_category (Xs_testing_waiting u v) = Xg_fields_category u := rfl
theorem Xq_fields_size_testing_waiting (u : XS) (v : Nat → Int32) : Xg_fields_size (Xs_testing_waiting u v) = Xg_fields_size u := rfl
theorem Xq_fields_scale_testing_waiting (u : XS) (v : Nat → Int32) : Xg_fields_scale (Xs_testing_waiting u v) = Xg_fields_scale u := rfl
theorem Xq_fields_bytes_testing_waiting (u : XS) (v : Nat → Int32) : Xg_fields_bytes (Xs_testing_waiting u v) = Xg_fields_bytes u := rfl
theorem Xq_weights_of_testing_waiting (u : XS) (v : Nat → Int32) : Xg_weights_of (Xs_testing_waiting u v) = Xg_weights_of u := rfl
theorem Xq_names_made_testing_waiting (u : XS) (v : Nat → Int32) : Xg_names_made (Xs_testing_waiting u v) = Xg_names_made u := rfl
theorem Xq_names_field_testing_waiting (u : XS) (v : Nat → Int32) : Xg_names_field (Xs_testing_waiting u v) = Xg_names_field u := rfl
theorem Xq_names_ranges_testing_waiting (u : XS) (v : Nat → Int32) : Xg_names_ranges (Xs_testing_waiting u v) = Xg_names_ranges u := rfl
theorem Xq_names_low_testing_waiting (u : XS) (v : Nat → Int32) : Xg_names_low (Xs_testing_waiting u v) = Xg_names_low u := rfl
theorem Xq_names_high_testing_waiting (u : XS) (v : Nat → Int32) : Xg_names_high (Xs_testing_waiting u v) = Xg_names_high u := rfl
theorem Xq_nodes_made_testing_waiting (u : XS) (v : Nat → Int32) : Xg_nodes_made (Xs_testing_waiting u v) = Xg_nodes_made u := rfl
theorem Xq_nodes_op_testing_waiting (u : XS) (v : Nat → Int32) : Xg_nodes_op (Xs_testing_waiting u v) = Xg_nodes_op u := rfl
theorem Xq_nodes_a_testing_waiting (u : XS) (v : Nat → Int32) : Xg_nodes_a (Xs_testing_waiting u v) = Xg_nodes_a u := rfl
theorem Xq_nodes_b_testing_waiting (u : XS) (v : Nat → Int32) : Xg_nodes_b (Xs_testing_waiting u v) = Xg_nodes_b u := rfl
theorem Xq_row_subject_testing_waiting (u : XS) (v : Nat → Int32) : Xg_row_subject (Xs_testing_waiting u v) = Xg_row_subject u := rfl
theorem Xq_row_carried_testing_waiting (u : XS) (v : Nat → Int32) : Xg_row_carried (Xs_testing_waiting u v) = Xg_row_carried u := rfl
theorem Xq_row_length_testing_waiting (u : XS) (v : Nat → Int32) : Xg_row_length (Xs_testing_waiting u v) = Xg_row_length u := rfl
theorem Xq_row_with_testing_waiting (u : XS) (v : Nat → Int32) : Xg_row_with (Xs_testing_waiting u v) = Xg_row_with u := rfl
theorem Xq_row_op_testing_waiting (u : XS) (v : Nat → Int32) : Xg_row_op (Xs_testing_waiting u v) = Xg_row_op u := rfl
theorem Xq_row_negated_testing_waiting (u : XS) (v : Nat → Int32) : Xg_row_negated (Xs_testing_waiting u v) = Xg_row_negated u := rfl
theorem Xq_row_object_testing_waiting (u : XS) (v : Nat → Int32) : Xg_row_object (Xs_testing_waiting u v) = Xg_row_object u := rfl
theorem Xq_testing_noted_testing_waiting (u : XS) (v : Nat → Int32) : Xg_testing_noted (Xs_testing_waiting u v) = Xg_testing_noted u := rfl
theorem Xq_testing_depth_testing_waiting (u : XS) (v : Nat → Int32) : Xg_testing_depth (Xs_testing_waiting u v) = Xg_testing_depth u := rfl
theorem Xq_testing_outcome_testing_waiting (u : XS) (v : Nat → Int32) : Xg_testing_outcome (Xs_testing_waiting u v) = Xg_testing_outcome u := rfl
theorem Xq_testing_leaves_testing_waiting (u : XS) (v : Nat → Int32) : Xg_testing_leaves (Xs_testing_waiting u v) = Xg_testing_leaves u := rfl
theorem Xq_testing_waiting_testing_waiting (u : XS) (v : Nat → Int32) : Xg_testing_waiting (Xs_testing_waiting u v) = v := rfl
theorem Xq_switches_testing_waiting (u : XS) (v : Nat → Int32) : Xg_switches (Xs_testing_waiting u v) = Xg_switches u := rfl
theorem Xq_leftText_testing_waiting (u : XS) (v : Nat → Int32) : Xg_leftText (Xs_testing_waiting u v) = Xg_leftText u := rfl
theorem Xq_rightText_testing_waiting (u : XS) (v : Nat → Int32) : Xg_rightText (Xs_testing_waiting u v) = Xg_rightText u := rfl
theorem Xq_whole_switches (u : XS) (v : Nat → Int32) : Xg_whole (Xs_switches u v) = Xg_whole u := rfl
theorem Xq_fields_made_switches (u : XS) (v : Nat → Int32) : Xg_fields_made (Xs_switches u v) = Xg_fields_made u := rfl
theorem Xq_fields_category_switches (u : XS) (v : Nat → Int32) : Xg_fields_category (Xs_switches u v) = Xg_fields_category u := rfl
theorem Xq_fields_size_switches (u : XS) (v : Nat → Int32) : Xg_fields_size (Xs_switches u v) = Xg_fields_size u := rfl
theorem Xq_fields_scale_switches (u : XS) (v : Nat → Int32) : Xg_fields_scale (Xs_switches u v) = Xg_fields_scale u := rfl
theorem Xq_fields_bytes_switches (u : XS) (v : Nat → Int32) : Xg_fields_bytes (Xs_switches u v) = Xg_fields_bytes u := rfl
theorem Xq_weights_of_switches (u : XS) (v : Nat → Int32) : Xg_weights_of (Xs_switches u v) = Xg_weights_of u := rfl
theorem Xq_names_made_switches (u : XS) (v : Nat → Int32) : Xg_names_made (Xs_switches u v) = Xg_names_made u := rfl
theorem Xq_names_field_switches (u : XS) (v : Nat → Int32) : Xg_names_field (Xs_switches u v) = Xg_names_field u := rfl
theorem Xq_names_ranges_switches (u : XS) (v : Nat → Int32) : Xg_names_ranges (Xs_switches u v) = Xg_names_ranges u := rfl
theorem Xq_names_low_switches (u : XS) (v : Nat → Int32) : Xg_names_low (Xs_switches u v) = Xg_names_low u := rfl
theorem Xq_names_high_switches (u : XS) (v : Nat → Int32) : Xg_names_high (Xs_switches u v) = Xg_names_high u := rfl
theorem Xq_nodes_made_switches (u : XS) (v : Nat → Int32) : Xg_nodes_made (Xs_switches u v) = Xg_nodes_made u := rfl
theorem Xq_nodes_op_switches (u : XS) (v : Nat → Int32) : Xg_nodes_op (Xs_switches u v) = Xg_nodes_op u := rfl
theorem Xq_nodes_a_switches (u : XS) (v : Nat → Int32) : Xg_nodes_a (Xs_switches u v) = Xg_nodes_a u := rfl
theorem Xq_nodes_b_switches (u : XS) (v : Nat → Int32) : Xg_nodes_b (Xs_switches u v) = Xg_nodes_b u := rfl
theorem Xq_row_subject_switches (u : XS) (v : Nat → Int32) : Xg_row_subject (Xs_switches u v) = Xg_row_subject u := rfl
theorem Xq_row_carried_switches (u : XS) (v : Nat → Int32) : Xg_row_carried (Xs_switches u v) = Xg_row_carried u := rfl
theorem Xq_row_length_switches (u : XS) (v : Nat → Int32) : Xg_row_length (Xs_switches u v) = Xg_row_length u := rfl
theorem Xq_row_with_switches (u : XS) (v : Nat → Int32) : Xg_row_with (Xs_switches u v) = Xg_row_with u := rfl
theorem Xq_row_op_switches (u : XS) (v : Nat → Int32) : Xg_row_op (Xs_switches u v) = Xg_row_op u := rfl
theorem Xq_row_negated_switches (u : XS) (v : Nat → Int32) : Xg_row_negated (Xs_switches u v) = Xg_row_negated u := rfl
theorem Xq_row_object_switches (u : XS) (v : Nat → Int32) : Xg_row_object (Xs_switches u v) = Xg_row_object u := rfl
theorem Xq_testing_noted_switches (u : XS) (v : Nat → Int32) : Xg_testing_noted (Xs_switches u v) = Xg_testing_noted u := rfl
theorem Xq_testing_depth_switches (u : XS) (v : Nat → Int32) : Xg_testing_depth (Xs_switches u v) = Xg_testing_depth u := rfl
theorem Xq_testing_outcome_switches (u : XS) (v : Nat → Int32) : Xg_testing_outcome (Xs_switches u v) = Xg_testing_outcome u := rfl
theorem Xq_testing_leaves_switches (u : XS) (v : Nat → Int32) : Xg_testing_leaves (Xs_switches u v) = Xg_testing_leaves u := rfl
theorem Xq_testing_waiting_switches (u : XS) (v : Nat → Int32) : Xg_testing_waiting (Xs_switches u v) = Xg_testing_waiting u := rfl
theorem Xq_switches_switches (u : XS) (v : Nat → Int32) : Xg_switches (Xs_switches u v) = v := rfl
theorem Xq_leftText_switches (u : XS) (v : Nat → Int32) : Xg_leftText (Xs_switches u v) = Xg_leftText u := rfl
theorem Xq_rightText_switches (u : XS) (v : Nat → Int32) : Xg_rightText (Xs_switches u v) = Xg_rightText u := rfl
theorem Xq_whole_leftText (u : XS) (v : Nat → Int32) : Xg_whole (Xs_leftText u v) = Xg_whole u := rfl
theorem Xq_fields_made_leftText (u : XS) (v : Nat → Int32) : Xg_fields_made (Xs_leftText u v) = Xg_fields_made u := rfl
theorem Xq_fields_category_leftText (u : XS) (v : Nat → Int32) : Xg_fields_category (Xs_leftText u v) = Xg_fields_category u := rfl
theorem Xq_fields_size_leftText (u : XS) (v : Nat → Int32) : Xg_fields_size (Xs_leftText u v) = Xg_fields_size u := rfl
theorem Xq_fields_scale_leftText (u : XS) (v : Nat → Int32) : Xg_fields_scale (Xs_leftText u v) = Xg_fields_scale u := rfl
theorem Xq_fields_bytes_leftText (u : XS) (v : Nat → Int32) : Xg_fields_bytes (Xs_leftText u v) = Xg_fields_bytes u := rfl
theorem Xq_weights_of_leftText (u : XS) (v : Nat → Int32) : Xg_weights_of (Xs_leftText u v) = Xg_weights_of u := rfl
theorem Xq_names_made_leftText (u : XS) (v : Nat → Int32) : Xg_names_made (Xs_leftText u v) = Xg_names_made u := rfl
theorem Xq_names_field_leftText (u : XS) (v : Nat → Int32) : Xg_names_field (Xs_leftText u v) = Xg_names_field u := rfl
theorem Xq_names_ranges_leftText (u : XS) (v : Nat → Int32) : Xg_names_ranges (Xs_leftText u v) = Xg_names_ranges u := rfl
theorem Xq_names_low_leftText (u : XS) (v : Nat → Int32) : Xg_names_low (Xs_leftText u v) = Xg_names_low u := rfl
theorem Xq_names_high_leftText (u : XS) (v : Nat → Int32) : Xg_names_high (Xs_leftText u v) = Xg_names_high u := rfl
theorem Xq_nodes_made_leftText (u : XS) (v : Nat → Int32) : Xg_nodes_made (Xs_leftText u v) = Xg_nodes_made u := rfl
theorem Xq_nodes_op_leftText (u : XS) (v : Nat → Int32) : Xg_nodes_op (Xs_leftText u v) = Xg_nodes_op u := rfl
theorem Xq_nodes_a_leftText (u : XS) (v : Nat → Int32) : Xg_nodes_a (Xs_leftText u v) = Xg_nodes_a u := rfl
theorem Xq_nodes_b_leftText (u : XS) (v : Nat → Int32) : Xg_nodes_b (Xs_leftText u v) = Xg_nodes_b u := rfl
theorem Xq_row_subject_leftText (u : XS) (v : Nat → Int32) : Xg_row_subject (Xs_leftText u v) = Xg_row_subject u := rfl
theorem Xq_row_carried_leftText (u : XS) (v : Nat → Int32) : Xg_row_carried (Xs_leftText u v) = Xg_row_carried u := rfl
theorem Xq_row_length_leftText (u : XS) (v : Nat → Int32) : Xg_row_length (Xs_leftText u v) = Xg_row_length u := rfl
theorem Xq_row_with_leftText (u : XS) (v : Nat → Int32) : Xg_row_with (Xs_leftText u v) = Xg_row_with u := rfl
theorem Xq_row_op_leftText (u : XS) (v : Nat → Int32) : Xg_row_op (Xs_leftText u v) = Xg_row_op u := rfl
theorem Xq_row_negated_leftText (u : XS) (v : Nat → Int32) : Xg_row_negated (Xs_leftText u v) = Xg_row_negated u := rfl
theorem Xq_row_object_leftText (u : XS) (v : Nat → Int32) : Xg_row_object (Xs_leftText u v) = Xg_row_object u := rfl
theorem Xq_testing_noted_leftText (u : XS) (v : Nat → Int32) : Xg_testing_noted (Xs_leftText u v) = Xg_testing_noted u := rfl
theorem Xq_testing_depth_leftText (u : XS) (v : Nat → Int32) : Xg_testing_depth (Xs_leftText u v) = Xg_testing_depth u := rfl
theorem Xq_testing_outcome_leftText (u : XS) (v : Nat → Int32) : Xg_testing_outcome (Xs_leftText u v) = Xg_testing_outcome u := rfl
theorem Xq_testing_leaves_leftText (u : XS) (v : Nat → Int32) : Xg_testing_leaves (Xs_leftText u v) = Xg_testing_leaves u := rfl
theorem Xq_testing_waiting_leftText (u : XS) (v : Nat → Int32) : Xg_testing_waiting (Xs_leftText u v) = Xg_testing_waiting u := rfl
theorem Xq_switches_leftText (u : XS) (v : Nat → Int32) : Xg_switches (Xs_leftText u v) = Xg_switches u := rfl
theorem Xq_leftText_leftText (u : XS) (v : Nat → Int32) : Xg_leftText (Xs_leftText u v) = v := rfl
theorem Xq_rightText_leftText (u : XS) (v : Nat → Int32) : Xg_rightText (Xs_leftText u v) = Xg_rightText u := rfl
theorem Xq_whole_rightText (u : XS) (v : Nat → Int32) : Xg_whole (Xs_rightText u v) = Xg_whole u := rfl
theorem Xq_fields_made_rightText (u : XS) (v : Nat → Int32) : Xg_fields_made (Xs_rightText u v) = Xg_fields_made u := rfl
theorem Xq_fields_category_rightText (u : XS) (v : Nat → Int32) : Xg_fields_category (Xs_rightText u v) = Xg_fields_category u := rfl
theorem Xq_fields_size_rightText (u : XS) (v : Nat → Int32) : Xg_fields_size (Xs_rightText u v) = Xg_fields_size u := rfl
theorem Xq_fields_scale_rightText (u : XS) (v : Nat → Int32) : Xg_fields_scale (Xs_rightText u v) = Xg_fields_scale u := rfl
theorem Xq_fields_bytes_rightText (u : XS) (v : Nat → Int32) : Xg_fields_bytes (Xs_rightText u v) = Xg_fields_bytes u := rfl
theorem Xq_weights_of_rightText (u : XS) (v : Nat → Int32) : Xg_weights_of (Xs_rightText u v) = Xg_weights_of u := rfl
theorem Xq_names_made_rightText (u : XS) (v : Nat → Int32) : Xg_names_made (Xs_rightText u v) = Xg_names_made u := rfl
theorem Xq_names_field_rightText (u : XS) (v : Nat → Int32) : Xg_names_field (Xs_rightText u v) = Xg_names_field u := rfl
theorem Xq_names_ranges_rightText (u : XS) (v : Nat → Int32) : Xg_names_ranges (Xs_rightText u v) = Xg_names_ranges u := rfl
theorem Xq_names_low_rightText (u : XS) (v : Nat → Int32) : Xg_names_low (Xs_rightText u v) = Xg_names_low u := rfl
theorem Xq_names_high_rightText (u : XS) (v : Nat → Int32) : Xg_names_high (Xs_rightText u v) = Xg_names_high u := rfl
theorem Xq_nodes_made_rightText (u : XS) (v : Nat → Int32) : Xg_nodes_made (Xs_rightText u v) = Xg_nodes_made u := rfl
theorem Xq_nodes_op_rightText (u : XS) (v : Nat → Int32) : Xg_nodes_op (Xs_rightText u v) = Xg_nodes_op u := rfl
theorem Xq_nodes_a_rightText (u : XS) (v : Nat → Int32) : Xg_nodes_a (Xs_rightText u v) = Xg_nodes_a u := rfl
theorem Xq_nodes_b_rightText (u : XS) (v : Nat → Int32) : Xg_nodes_b (Xs_rightText u v) = Xg_nodes_b u := rfl
theorem Xq_row_subject_rightText (u : XS) (v : Nat → Int32) : Xg_row_subject (Xs_rightText u v) = Xg_row_subject u := rfl
theorem Xq_row_carried_rightText (u : XS) (v : Nat → Int32) : Xg_row_carried (Xs_rightText u v) = Xg_row_carried u := rfl
theorem Xq_row_length_rightText (u : XS) (v : Nat → Int32) : Xg_row_length (Xs_rightText u v) = Xg_row_length u := rfl
theorem Xq_row_with_rightText (u : XS) (v : Nat → Int32) : Xg_row_with (Xs_rightText u v) = Xg_row_with u := rfl
theorem Xq_row_op_rightText (u : XS) (v : Nat → Int32) : Xg_row_op (Xs_rightText u v) = Xg_row_op u := rfl
theorem Xq_row_negated_rightText (u : XS) (v : Nat → Int32) : Xg_row_negated (Xs_rightText u v) = Xg_row_negated u := rfl
theorem Xq_row_object_rightText (u : XS) (v : Nat → Int32) : Xg_row_object (Xs_rightText u v) = Xg_row_object u := rfl
theorem Xq_testing_noted_rightText (u : XS) (v : Nat → Int32) : Xg_testing_noted (Xs_rightText u v) = Xg_testing_noted u := rfl
theorem Xq_testing_depth_rightText (u : XS) (v : Nat → Int32) : Xg_testing_depth (Xs_rightText u v) = Xg_testing_depth u := rfl
theorem Xq_testing_outcome_rightText (u : XS) (v : Nat → Int32) : Xg_testing_outcome (Xs_rightText u v) = Xg_testing_outcome u := rfl
theorem Xq_testing_leaves_rightText (u : XS) (v : Nat → Int32) : Xg_testing_leaves (Xs_rightText u v) = Xg_testing_leaves u := rfl
theorem Xq_testing_waiting_rightText (u : XS) (v : Nat → Int32) : Xg_testing_waiting (Xs_rightText u v) = Xg_testing_waiting u := rfl
theorem Xq_switches_rightText (u : XS) (v : Nat → Int32) : Xg_switches (Xs_rightText u v) = Xg_switches u := rfl
theorem Xq_leftText_rightText (u : XS) (v : Nat → Int32) : Xg_leftText (Xs_rightText u v) = Xg_leftText u := rfl
theorem Xq_rightText_rightText (u : XS) (v : Nat → Int32) : Xg_rightText (Xs_rightText u v) = v := rfl
theorem Xe_whole (k : zK) (a : Nat → Nat) (u : XS) (v : Int32) : wX k a (Xs_whole u v) = (wX k a u).set 0 ((a 0), .inr (0, ([.int (Xg_whole u), .ref (a 1), .ref (a 6), .ref (a 8), .ref (a 13), .ref (a 17), .ref (a 22), .ref (a 26), .ref (a 27), .ref (a 28)] : List Value).set 0 (.int v))) := by
  simp only [wX, Xq_whole_whole, Xq_fields_made_whole, Xq_fields_category_whole, Xq_fields_size_whole, Xq_fields_scale_whole, Xq_fields_bytes_whole, Xq_weights_of_whole, Xq_names_made_whole, Xq_names_field_whole, Xq_names_ranges_whole, Xq_names_low_whole, Xq_names_high_whole, Xq_nodes_made_whole, Xq_nodes_op_whole, Xq_nodes_a_whole, Xq_nodes_b_whole, Xq_row_subject_whole, Xq_row_carried_whole, Xq_row_length_whole, Xq_row_with_whole, Xq_row_op_whole, Xq_row_negated_whole, Xq_row_object_whole, Xq_testing_noted_whole, Xq_testing_depth_whole, Xq_testing_outcome_whole, Xq_testing_leaves_whole, Xq_testing_waiting_whole, Xq_switches_whole, Xq_leftText_whole, Xq_rightText_whole, List.set_cons_succ, List.set_cons_zero]
theorem Xp_whole {D : va_G} {k : zK} {a : Nat → Nat} {u : XS} {v : Int32} {H : Heap} (h : va_P D vwCl ((wX k a u).set 0 ((a 0), .inr (0, ([.int (Xg_whole u), .ref (a 1), .ref (a 6), .ref (a 8), .ref (a 13), .ref (a 17), .ref (a 22), .ref (a 26), .ref (a 27), .ref (a 28)] : List Value).set 0 (.int v)))) H) : va_P D vwCl (wX k a (Xs_whole u v)) H := by
  rw [Xe_whole]; exact h
theorem Xe_fields_made (k : zK) (a : Nat → Nat) (u : XS) (v : Int32) : wX k a (Xs_fields_made u v) = (wX k a u).set 1 ((a 1), .inr (1, ([.ref (a 2), .ref (a 3), .ref (a 4), .ref (a 5), .int (Xg_fields_made u)] : List Value).set 4 (.int v))) := by
  simp only [wX, Xq_whole_fields_made, Xq_fields_made_fields_made, Xq_fields_category_fields_made, Xq_fields_size_fields_made, Xq_fields_scale_fields_made, Xq_fields_bytes_fields_made, Xq_weights_of_fields_made, Xq_names_made_fields_made, Xq_names_field_fields_made, Xq_names_ranges_fields_made, Xq_names_low_fields_made, Xq_names_high_fields_made, Xq_nodes_made_fields_made, Xq_nodes_op_fields_made, Xq_nodes_a_fields_made, Xq_nodes_b_fields_made, Xq_row_subject_fields_made, Xq_row_carried_fields_made, Xq_row_length_fields_made, Xq_row_with_fields_made, Xq_row_op_fields_made, Xq_row_negated_fields_made, Xq_row_object_fields_made, Xq_testing_noted_fields_made, Xq_testing_depth_fields_made, Xq_testing_outcome_fields_made, Xq_testing_leaves_fields_made, Xq_testing_waiting_fields_made, Xq_switches_fields_made, Xq_leftText_fields_made, Xq_rightText_fields_made, List.set_cons_succ, List.set_cons_zero]
theorem Xp_fields_made {D : va_G} {k : zK} {a : Nat → Nat} {u : XS} {v : Int32} {H : Heap} (h : va_P D vwCl ((wX k a u).set 1 ((a 1), .inr (1, ([.ref (a 2), .ref (a 3), .ref (a 4), .ref (a 5), .int (Xg_fields_made u)] : List Value).set 4 (.int v)))) H) : va_P D vwCl (wX k a (Xs_fields_made u v)) H := by
  rw [Xe_fields_made]; exact h
theorem Xe_fields_category (k : zK) (a : Nat → Nat) (u : XS) (v : Nat → Int32) : wX k a (Xs_fields_category u v) = (wX k a u).set 2 ((a 2), .inl (k.2.1, 40, .inl v)) := by
  simp only [wX, Xq_whole_fields_category, Xq_fields_made_fields_category, Xq_fields_category_fields_category, Xq_fields_size_fields_category, Xq_fields_scale_fields_category, Xq_fields_bytes_fields_category, Xq_weights_of_fields_category, Xq_names_made_fields_category, Xq_names_field_fields_category, Xq_names_ranges_fields_category, Xq_names_low_fields_category, Xq_names_high_fields_category, Xq_nodes_made_fields_category, Xq_nodes_op_fields_category, Xq_nodes_a_fields_category, Xq_nodes_b_fields_category, Xq_row_subject_fields_category, Xq_row_carried_fields_category, Xq_row_length_fields_category, Xq_row_with_fields_category, Xq_row_op_fields_category, Xq_row_negated_fields_category, Xq_row_object_fields_category, Xq_testing_noted_fields_category, Xq_testing_depth_fields_category, Xq_testing_outcome_fields_category, Xq_testing_leaves_fields_category, Xq_testing_waiting_fields_category, Xq_switches_fields_category, Xq_leftText_fields_category, Xq_rightText_fields_category, List.set_cons_succ, List.set_cons_zero]
theorem Xp_fields_category {D : va_G} {k : zK} {a : Nat → Nat} {u : XS} {v : Nat → Int32} {H : Heap} (h : va_P D vwCl ((wX k a u).set 2 ((a 2), .inl (k.2.1, 40, .inl v))) H) : va_P D vwCl (wX k a (Xs_fields_category u v)) H := by
  rw [Xe_fields_category]; exact h
theorem Xe_fields_size (k : zK) (a : Nat → Nat) (u : XS) (v : Nat → Int32) : wX k a (Xs_fields_size u v) = (wX k a u).set 3 ((a 3), .inl (k.2.1, 40, .inl v)) := by
  simp only [wX, Xq_whole_fields_size, Xq_fields_made_fields_size, Xq_fields_category_fields_size, Xq_fields_size_fields_size, Xq_fields_scale_fields_size, Xq_fields_bytes_fields_size, Xq_weights_of_fields_size, Xq_names_made_fields_size, Xq_names_field_fields_size, Xq_names_ranges_fields_size, Xq_names_low_fields_size, Xq_names_high_fields_size, Xq_nodes_made_fields_size, Xq_nodes_op_fields_size, Xq_nodes_a_fields_size, Xq_nodes_b_fields_size, Xq_row_subject_fields_size, Xq_row_carried_fields_size, Xq_row_length_fields_size, Xq_row_with_fields_size, Xq_row_op_fields_size, Xq_row_negated_fields_size, Xq_row_object_fields_size, Xq_testing_noted_fields_size, Xq_testing_depth_fields_size, Xq_testing_outcome_fields_size, Xq_testing_leaves_fields_size, Xq_testing_waiting_fields_size, Xq_switches_fields_size, Xq_leftText_fields_size, Xq_rightText_fields_size, List.set_cons_succ, List.set_cons_zero]
theorem Xp_fields_size {D : va_G} {k : zK} {a : Nat → Nat} {u : XS} {v : Nat → Int32} {H : Heap} (h : va_P D vwCl ((wX k a u).set 3 ((a 3), .inl (k.2.1, 40, .inl v))) H) : va_P D vwCl (wX k a (Xs_fields_size u v)) H := by
  rw [Xe_fields_size]; exact h
theorem Xe_fields_scale (k : zK) (a : Nat → Nat) (u : XS) (v : Nat → Int32) : wX k a (Xs_fields_scale u v) = (wX k a u).set 4 ((a 4), .inl (k.2.1, 40, .inl v)) := by
  simp only [wX, Xq_whole_fields_scale, Xq_fields_made_fields_scale, Xq_fields_category_fields_scale, Xq_fields_size_fields_scale, Xq_fields_scale_fields_scale, Xq_fields_bytes_fields_scale, Xq_weights_of_fields_scale, Xq_names_made_fields_scale, Xq_names_field_fields_scale, Xq_names_ranges_fields_scale, Xq_names_low_fields_scale, Xq_names_high_fields_scale, Xq_nodes_made_fields_scale, Xq_nodes_op_fields_scale, Xq_nodes_a_fields_scale, Xq_nodes_b_fields_scale, Xq_row_subject_fields_scale, Xq_row_carried_fields_scale, Xq_row_length_fields_scale, Xq_row_with_fields_scale, Xq_row_op_fields_scale, Xq_row_negated_fields_scale, Xq_row_object_fields_scale, Xq_testing_noted_fields_scale, Xq_testing_depth_fields_scale, Xq_testing_outcome_fields_scale, Xq_testing_leaves_fields_scale, Xq_testing_waiting_fields_scale, Xq_switches_fields_scale, Xq_leftText_fields_scale, Xq_rightText_fields_scale, List.set_cons_succ, List.set_cons_zero]
theorem Xp_fields_scale {D : va_G} {k : zK} {a : Nat → Nat} {u : XS} {v : Nat → Int32} {H : Heap} (h : va_P D vwCl ((wX k a u).set 4 ((a 4), .inl (k.2.1, 40, .inl v))) H) : va_P D vwCl (wX k a (Xs_fields_scale u v)) H := by
  rw [Xe_fields_scale]; exact h
theorem Xe_fields_bytes (k : zK) (a : Nat → Nat) (u : XS) (v : Nat → Int32) : wX k a (Xs_fields_bytes u v) = (wX k a u).set 5 ((a 5), .inl (k.2.1, 1280, .inl v)) := by
  simp only [wX, Xq_whole_fields_bytes, Xq_fields_made_fields_bytes, Xq_fields_category_fields_bytes, Xq_fields_size_fields_bytes, Xq_fields_scale_fields_bytes, Xq_fields_bytes_fields_bytes, Xq_weights_of_fields_bytes, Xq_names_made_fields_bytes, Xq_names_field_fields_bytes, Xq_names_ranges_fields_bytes, Xq_names_low_fields_bytes, Xq_names_high_fields_bytes, Xq_nodes_made_fields_bytes, Xq_nodes_op_fields_bytes, Xq_nodes_a_fields_bytes, Xq_nodes_b_fields_bytes, Xq_row_subject_fields_bytes, Xq_row_carried_fields_bytes, Xq_row_length_fields_bytes, Xq_row_with_fields_bytes, Xq_row_op_fields_bytes, Xq_row_negated_fields_bytes, Xq_row_object_fields_bytes, Xq_testing_noted_fields_bytes, Xq_testing_depth_fields_bytes, Xq_testing_outcome_fields_bytes, Xq_testing_leaves_fields_bytes, Xq_testing_waiting_fields_bytes, Xq_switches_fields_bytes, Xq_leftText_fields_bytes, Xq_rightText_fields_bytes, List.set_cons_succ, List.set_cons_zero]
theorem Xp_fields_bytes {D : va_G} {k : zK} {a : Nat → Nat} {u : XS} {v : Nat → Int32} {H : Heap} (h : va_P D vwCl ((wX k a u).set 5 ((a 5), .inl (k.2.1, 1280, .inl v))) H) : va_P D vwCl (wX k a (Xs_fields_bytes u v)) H := by
  rw [Xe_fields_bytes]; exact h
theorem Xe_weights_of (k : zK) (a : Nat → Nat) (u : XS) (v : Nat → Int32) : wX k a (Xs_weights_of u v) = (wX k a u).set 7 ((a 7), .inl (k.2.1, 256, .inl v)) := by
  simp only [wX, Xq_whole_weights_of, Xq_fields_made_weights_of, Xq_fields_category_weights_of, Xq_fields_size_weights_of, Xq_fields_scale_weights_of, Xq_fields_bytes_weights_of, Xq_weights_of_weights_of, Xq_names_made_weights_of, Xq_names_field_weights_of, Xq_names_ranges_weights_of, Xq_names_low_weights_of, Xq_names_high_weights_of, Xq_nodes_made_weights_of, Xq_nodes_op_weights_of, Xq_nodes_a_weights_of, Xq_nodes_b_weights_of, Xq_row_subject_weights_of, Xq_row_carried_weights_of, Xq_row_length_weights_of, Xq_row_with_weights_of, Xq_row_op_weights_of, Xq_row_negated_weights_of, Xq_row_object_weights_of, Xq_testing_noted_weights_of, Xq_testing_depth_weights_of, Xq_testing_outcome_weights_of, Xq_testing_leaves_weights_of, Xq_testing_waiting_weights_of, Xq_switches_weights_of, Xq_leftText_weights_of, Xq_rightText_weights_of, List.set_cons_succ, List.set_cons_zero]
theorem Xp_weights_of {D : va_G} {k : zK} {a : Nat → Nat} {u : XS} {v : Nat → Int32} {H : Heap} (h : va_P D vwCl ((wX k a u).set 7 ((a 7), .inl (k.2.1, 256, .inl v))) H) : va_P D vwCl (wX k a (Xs_weights_of u v)) H := by
  rw [Xe_weights_of]; exact h
theorem Xe_names_made (k : zK) (a : Nat → Nat) (u : XS) (v : Int32) : wX k a (Xs_names_made u v) = (wX k a u).set 8 ((a 8), .inr (3, ([.ref (a 9), .ref (a 10), .ref (a 11), .ref (a 12), .int (Xg_names_made u)] : List Value).set 4 (.int v))) := by
  simp only [wX, Xq_whole_names_made, Xq_fields_made_names_made, Xq_fields_category_names_made, Xq_fields_size_names_made, Xq_fields_scale_names_made, Xq_fields_bytes_names_made, Xq_weights_of_names_made, Xq_names_made_names_made, Xq_names_field_names_made, Xq_names_ranges_names_made, Xq_names_low_names_made, Xq_names_high_names_made, Xq_nodes_made_names_made, Xq_nodes_op_names_made, Xq_nodes_a_names_made, Xq_nodes_b_names_made, Xq_row_subject_names_made, Xq_row_carried_names_made, Xq_row_length_names_made, Xq_row_with_names_made, Xq_row_op_names_made, Xq_row_negated_names_made, Xq_row_object_names_made, Xq_testing_noted_names_made, Xq_testing_depth_names_made, Xq_testing_outcome_names_made, Xq_testing_leaves_names_made, Xq_testing_waiting_names_made, Xq_switches_names_made, Xq_leftText_names_made, Xq_rightText_names_made, List.set_cons_succ, List.set_cons_zero]
theorem Xp_names_made {D : va_G} {k : zK} {a : Nat → Nat} {u : XS} {v : Int32} {H : Heap} (h : va_P D vwCl ((wX k a u).set 8 ((a 8), .inr (3, ([.ref (a 9), .ref (a 10), .ref (a 11), .ref (a 12), .int (Xg_names_made u)] : List Value).set 4 (.int v)))) H) : va_P D vwCl (wX k a (Xs_names_made u v)) H := by
  rw [Xe_names_made]; exact h
theorem Xe_names_field (k : zK) (a : Nat → Nat) (u : XS) (v : Nat → Int32) : wX k a (Xs_names_field u v) = (wX k a u).set 9 ((a 9), .inl (k.2.1, 41, .inl v)) := by
  simp only [wX, Xq_whole_names_field, Xq_fields_made_names_field, Xq_fields_category_names_field, Xq_fields_size_names_field, Xq_fields_scale_names_field, Xq_fields_bytes_names_field, Xq_weights_of_names_field, Xq_names_made_names_field, Xq_names_field_names_field, Xq_names_ranges_names_field, Xq_names_low_names_field, Xq_names_high_names_field, Xq_nodes_made_names_field, Xq_nodes_op_names_field, Xq_nodes_a_names_field, Xq_nodes_b_names_field, Xq_row_subject_names_field, Xq_row_carried_names_field, Xq_row_length_names_field, Xq_row_with_names_field, Xq_row_op_names_field, Xq_row_negated_names_field, Xq_row_object_names_field, Xq_testing_noted_names_field, Xq_testing_depth_names_field, Xq_testing_outcome_names_field, Xq_testing_leaves_names_field, Xq_testing_waiting_names_field, Xq_switches_names_field, Xq_leftText_names_field, Xq_rightText_names_field, List.set_cons_succ, List.set_cons_zero]
theorem Xp_names_field {D : va_G} {k : zK} {a : Nat → Nat} {u : XS} {v : Nat → Int32} {H : Heap} (h : va_P D vwCl ((wX k a u).set 9 ((a 9), .inl (k.2.1, 41, .inl v))) H) : va_P D vwCl (wX k a (Xs_names_field u v)) H := by
  rw [Xe_names_field]; exact h
theorem Xe_names_ranges (k : zK) (a : Nat → Nat) (u : XS) (v : Nat → Int32) : wX k a (Xs_names_ranges u v) = (wX k a u).set 10 ((a 10), .inl (k.2.1, 41, .inl v)) := by
  simp only [wX, Xq_whole_names_ranges, Xq_fields_made_names_ranges, Xq_fields_category_names_ranges, Xq_fields_size_names_ranges, Xq_fields_scale_names_ranges, Xq_fields_bytes_names_ranges, Xq_weights_of_names_ranges, Xq_names_made_names_ranges, Xq_names_field_names_ranges, Xq_names_ranges_names_ranges, Xq_names_low_names_ranges, Xq_names_high_names_ranges, Xq_nodes_made_names_ranges, Xq_nodes_op_names_ranges, Xq_nodes_a_names_ranges, Xq_nodes_b_names_ranges, Xq_row_subject_names_ranges, Xq_row_carried_names_ranges, Xq_row_length_names_ranges, Xq_row_with_names_ranges, Xq_row_op_names_ranges, Xq_row_negated_names_ranges, Xq_row_object_names_ranges, Xq_testing_noted_names_ranges, Xq_testing_depth_names_ranges, Xq_testing_outcome_names_ranges, Xq_testing_leaves_names_ranges, Xq_testing_waiting_names_ranges, Xq_switches_names_ranges, Xq_leftText_names_ranges, Xq_rightText_names_ranges, List.set_cons_succ, List.set_cons_zero]
theorem Xp_names_ranges {D : va_G} {k : zK} {a : Nat → Nat} {u : XS} {v : Nat → Int32} {H : Heap} (h : va_P D vwCl ((wX k a u).set 10 ((a 10), .inl (k.2.1, 41, .inl v))) H) : va_P D vwCl (wX k a (Xs_names_ranges u v)) H := by
  rw [Xe_names_ranges]; exact h
theorem Xe_names_low (k : zK) (a : Nat → Nat) (u : XS) (v : Nat → Int64) : wX k a (Xs_names_low u v) = (wX k a u).set 11 ((a 11), .inl (k.2.2.1, 328, .inr (.inl v))) := by
  simp only [wX, Xq_whole_names_low, Xq_fields_made_names_low, Xq_fields_category_names_low, Xq_fields_size_names_low, Xq_fields_scale_names_low, Xq_fields_bytes_names_low, Xq_weights_of_names_low, Xq_names_made_names_low, Xq_names_field_names_low, Xq_names_ranges_names_low, Xq_names_low_names_low, Xq_names_high_names_low, Xq_nodes_made_names_low, Xq_nodes_op_names_low, Xq_nodes_a_names_low, Xq_nodes_b_names_low, Xq_row_subject_names_low, Xq_row_carried_names_low, Xq_row_length_names_low, Xq_row_with_names_low, Xq_row_op_names_low, Xq_row_negated_names_low, Xq_row_object_names_low, Xq_testing_noted_names_low, Xq_testing_depth_names_low, Xq_testing_outcome_names_low, Xq_testing_leaves_names_low, Xq_testing_waiting_names_low, Xq_switches_names_low, Xq_leftText_names_low, Xq_rightText_names_low, List.set_cons_succ, List.set_cons_zero]
theorem Xp_names_low {D : va_G} {k : zK} {a : Nat → Nat} {u : XS} {v : Nat → Int64} {H : Heap} (h : va_P D vwCl ((wX k a u).set 11 ((a 11), .inl (k.2.2.1, 328, .inr (.inl v)))) H) : va_P D vwCl (wX k a (Xs_names_low u v)) H := by
  rw [Xe_names_low]; exact h
theorem Xe_names_high (k : zK) (a : Nat → Nat) (u : XS) (v : Nat → Int64) : wX k a (Xs_names_high u v) = (wX k a u).set 12 ((a 12), .inl (k.2.2.1, 328, .inr (.inl v))) := by
  simp only [wX, Xq_whole_names_high, Xq_fields_made_names_high, Xq_fields_category_names_high, Xq_fields_size_names_high, Xq_fields_scale_names_high, Xq_fields_bytes_names_high, Xq_weights_of_names_high, Xq_names_made_names_high, Xq_names_field_names_high, Xq_names_ranges_names_high, Xq_names_low_names_high, Xq_names_high_names_high, Xq_nodes_made_names_high, Xq_nodes_op_names_high, Xq_nodes_a_names_high, Xq_nodes_b_names_high, Xq_row_subject_names_high, Xq_row_carried_names_high, Xq_row_length_names_high, Xq_row_with_names_high, Xq_row_op_names_high, Xq_row_negated_names_high, Xq_row_object_names_high, Xq_testing_noted_names_high, Xq_testing_depth_names_high, Xq_testing_outcome_names_high, Xq_testing_leaves_names_high, Xq_testing_waiting_names_high, Xq_switches_names_high, Xq_leftText_names_high, Xq_rightText_names_high, List.set_cons_succ, List.set_cons_zero]
theorem Xp_names_high {D : va_G} {k : zK} {a : Nat → Nat} {u : XS} {v : Nat → Int64} {H : Heap} (h : va_P D vwCl ((wX k a u).set 12 ((a 12), .inl (k.2.2.1, 328, .inr (.inl v)))) H) : va_P D vwCl (wX k a (Xs_names_high u v)) H := by
  rw [Xe_names_high]; exact h
theorem Xe_nodes_made (k : zK) (a : Nat → Nat) (u : XS) (v : Int32) : wX k a (Xs_nodes_made u v) = (wX k a u).set 13 ((a 13), .inr (4, ([.ref (a 14), .ref (a 15), .ref (a 16), .int (Xg_nodes_made u)] : List Value).set 3 (.int v))) := by
  simp only [wX, Xq_whole_nodes_made, Xq_fields_made_nodes_made, Xq_fields_category_nodes_made, Xq_fields_size_nodes_made, Xq_fields_scale_nodes_made, Xq_fields_bytes_nodes_made, Xq_weights_of_nodes_made, Xq_names_made_nodes_made, Xq_names_field_nodes_made, Xq_names_ranges_nodes_made, Xq_names_low_nodes_made, Xq_names_high_nodes_made, Xq_nodes_made_nodes_made, Xq_nodes_op_nodes_made, Xq_nodes_a_nodes_made, Xq_nodes_b_nodes_made, Xq_row_subject_nodes_made, Xq_row_carried_nodes_made, Xq_row_length_nodes_made, Xq_row_with_nodes_made, Xq_row_op_nodes_made, Xq_row_negated_nodes_made, Xq_row_object_nodes_made, Xq_testing_noted_nodes_made, Xq_testing_depth_nodes_made, Xq_testing_outcome_nodes_made, Xq_testing_leaves_nodes_made, Xq_testing_waiting_nodes_made, Xq_switches_nodes_made, Xq_leftText_nodes_made, Xq_rightText_nodes_made, List.set_cons_succ, List.set_cons_zero]
theorem Xp_nodes_made {D : va_G} {k : zK} {a : Nat → Nat} {u : XS} {v : Int32} {H : Heap} (h : va_P D vwCl ((wX k a u).set 13 ((a 13), .inr (4, ([.ref (a 14), .ref (a 15), .ref (a 16), .int (Xg_nodes_made u)] : List Value).set 3 (.int v)))) H) : va_P D vwCl (wX k a (Xs_nodes_made u v)) H := by
  rw [Xe_nodes_made]; exact h
theorem Xe_nodes_op (k : zK) (a : Nat → Nat) (u : XS) (v : Nat → Int32) : wX k a (Xs_nodes_op u v) = (wX k a u).set 14 ((a 14), .inl (k.2.1, 201, .inl v)) := by
  simp only [wX, Xq_whole_nodes_op, Xq_fields_made_nodes_op, Xq_fields_category_nodes_op, Xq_fields_size_nodes_op, Xq_fields_scale_nodes_op, Xq_fields_bytes_nodes_op, Xq_weights_of_nodes_op, Xq_names_made_nodes_op, Xq_names_field_nodes_op, Xq_names_ranges_nodes_op, Xq_names_low_nodes_op, Xq_names_high_nodes_op, Xq_nodes_made_nodes_op, Xq_nodes_op_nodes_op, Xq_nodes_a_nodes_op, Xq_nodes_b_nodes_op, Xq_row_subject_nodes_op, Xq_row_carried_nodes_op, Xq_row_length_nodes_op, Xq_row_with_nodes_op, Xq_row_op_nodes_op, Xq_row_negated_nodes_op, Xq_row_object_nodes_op, Xq_testing_noted_nodes_op, Xq_testing_depth_nodes_op, Xq_testing_outcome_nodes_op, Xq_testing_leaves_nodes_op, Xq_testing_waiting_nodes_op, Xq_switches_nodes_op, Xq_leftText_nodes_op, Xq_rightText_nodes_op, List.set_cons_succ, List.set_cons_zero]
theorem Xp_nodes_op {D : va_G} {k : zK} {a : Nat → Nat} {u : XS} {v : Nat → Int32} {H : Heap} (h : va_P D vwCl ((wX k a u).set 14 ((a 14), .inl (k.2.1, 201, .inl v))) H) : va_P D vwCl (wX k a (Xs_nodes_op u v)) H := by
  rw [Xe_nodes_op]; exact h
theorem Xe_nodes_a (k : zK) (a : Nat → Nat) (u : XS) (v : Nat → Int32) : wX k a (Xs_nodes_a u v) = (wX k a u).set 15 ((a 15), .inl (k.2.1, 201, .inl v)) := by
  simp only [wX, Xq_whole_nodes_a, Xq_fields_made_nodes_a, Xq_fields_category_nodes_a, Xq_fields_size_nodes_a, Xq_fields_scale_nodes_a, Xq_fields_bytes_nodes_a, Xq_weights_of_nodes_a, Xq_names_made_nodes_a, Xq_names_field_nodes_a, Xq_names_ranges_nodes_a, Xq_names_low_nodes_a, Xq_names_high_nodes_a, Xq_nodes_made_nodes_a, Xq_nodes_op_nodes_a, Xq_nodes_a_nodes_a, Xq_nodes_b_nodes_a, Xq_row_subject_nodes_a, Xq_row_carried_nodes_a, Xq_row_length_nodes_a, Xq_row_with_nodes_a, Xq_row_op_nodes_a, Xq_row_negated_nodes_a, Xq_row_object_nodes_a, Xq_testing_noted_nodes_a, Xq_testing_depth_nodes_a, Xq_testing_outcome_nodes_a, Xq_testing_leaves_nodes_a, Xq_testing_waiting_nodes_a, Xq_switches_nodes_a, Xq_leftText_nodes_a, Xq_rightText_nodes_a, List.set_cons_succ, List.set_cons_zero]
theorem Xp_nodes_a {D : va_G} {k : zK} {a : Nat → Nat} {u : XS} {v : Nat → Int32} {H : Heap} (h : va_P D vwCl ((wX k a u).set 15 ((a 15), .inl (k.2.1, 201, .inl v))) H) : va_P D vwCl (wX k a (Xs_nodes_a u v)) H := by
  rw [Xe_nodes_a]; exact h
theorem Xe_nodes_b (k : zK) (a : Nat → Nat) (u : XS) (v : Nat → Int32) : wX k a (Xs_nodes_b u v) = (wX k a u).set 16 ((a 16), .inl (k.2.1, 201, .inl v)) := by
  simp only [wX, Xq_whole_nodes_b, Xq_fields_made_nodes_b, Xq_fields_category_nodes_b, Xq_fields_size_nodes_b, Xq_fields_scale_nodes_b, Xq_fields_bytes_nodes_b, Xq_weights_of_nodes_b, Xq_names_made_nodes_b, Xq_names_field_nodes_b, Xq_names_ranges_nodes_b, Xq_names_low_nodes_b, Xq_names_high_nodes_b, Xq_nodes_made_nodes_b, Xq_nodes_op_nodes_b, Xq_nodes_a_nodes_b, Xq_nodes_b_nodes_b, Xq_row_subject_nodes_b, Xq_row_carried_nodes_b, Xq_row_length_nodes_b, Xq_row_with_nodes_b, Xq_row_op_nodes_b, Xq_row_negated_nodes_b, Xq_row_object_nodes_b, Xq_testing_noted_nodes_b, Xq_testing_depth_nodes_b, Xq_testing_outcome_nodes_b, Xq_testing_leaves_nodes_b, Xq_testing_waiting_nodes_b, Xq_switches_nodes_b, Xq_leftText_nodes_b, Xq_rightText_nodes_b, List.set_cons_succ, List.set_cons_zero]
theorem Xp_nodes_b {D : va_G} {k : zK} {a : Nat → Nat} {u : XS} {v : Nat → Int32} {H : Heap} (h : va_P D vwCl ((wX k a u).set 16 ((a 16), .inl (k.2.1, 201, .inl v))) H) : va_P D vwCl (wX k a (Xs_nodes_b u v)) H := by
  rw [Xe_nodes_b]; exact h
theorem Xe_row_subject (k : zK) (a : Nat → Nat) (u : XS) (v : Int32) : wX k a (Xs_row_subject u v) = (wX k a u).set 17 ((a 17), .inr (5, ([.ref (a 18), .ref (a 19), .ref (a 20), .ref (a 21), .int (Xg_row_subject u), .int (Xg_row_carried u), .int (Xg_row_length u)] : List Value).set 4 (.int v))) := by
  simp only [wX, Xq_whole_row_subject, Xq_fields_made_row_subject, Xq_fields_category_row_subject, Xq_fields_size_row_subject, Xq_fields_scale_row_subject, Xq_fields_bytes_row_subject, Xq_weights_of_row_subject, Xq_names_made_row_subject, Xq_names_field_row_subject, Xq_names_ranges_row_subject, Xq_names_low_row_subject, Xq_names_high_row_subject, Xq_nodes_made_row_subject, Xq_nodes_op_row_subject, Xq_nodes_a_row_subject, Xq_nodes_b_row_subject, Xq_row_subject_row_subject, Xq_row_carried_row_subject, Xq_row_length_row_subject, Xq_row_with_row_subject, Xq_row_op_row_subject, Xq_row_negated_row_subject, Xq_row_object_row_subject, Xq_testing_noted_row_subject, Xq_testing_depth_row_subject, Xq_testing_outcome_row_subject, Xq_testing_leaves_row_subject, Xq_testing_waiting_row_subject, Xq_switches_row_subject, Xq_leftText_row_subject, Xq_rightText_row_subject, List.set_cons_succ, List.set_cons_zero]
theorem Xp_row_subject {D : va_G} {k : zK} {a : Nat → Nat} {u : XS} {v : Int32} {H : Heap} (h : va_P D vwCl ((wX k a u).set 17 ((a 17), .inr (5, ([.ref (a 18), .ref (a 19), .ref (a 20), .ref (a 21), .int (Xg_row_subject u), .int (Xg_row_carried u), .int (Xg_row_length u)] : List Value).set 4 (.int v)))) H) : va_P D vwCl (wX k a (Xs_row_subject u v)) H := by
  rw [Xe_row_subject]; exact h
theorem Xe_row_carried (k : zK) (a : Nat → Nat) (u : XS) (v : Int32) : wX k a (Xs_row_carried u v) = (wX k a u).set 17 ((a 17), .inr (5, ([.ref (a 18), .ref (a 19), .ref (a 20), .ref (a 21), .int (Xg_row_subject u), .int (Xg_row_carried u), .int (Xg_row_length u)] : List Value).set 5 (.int v))) := by
  simp only [wX, Xq_whole_row_carried, Xq_fields_made_row_carried, Xq_fields_category_row_carried, Xq_fields_size_row_carried, Xq_fields_scale_row_carried, Xq_fields_bytes_row_carried, Xq_weights_of_row_carried, Xq_names_made_row_carried, Xq_names_field_row_carried, Xq_names_ranges_row_carried, Xq_names_low_row_carried, Xq_names_high_row_carried, Xq_nodes_made_row_carried, Xq_nodes_op_row_carried, Xq_nodes_a_row_carried, Xq_nodes_b_row_carried, Xq_row_subject_row_carried, Xq_row_carried_row_carried, Xq_row_length_row_carried, Xq_row_with_row_carried, Xq_row_op_row_carried, Xq_row_negated_row_carried, Xq_row_object_row_carried, Xq_testing_noted_row_carried, Xq_testing_depth_row_carried, Xq_testing_outcome_row_carried, Xq_testing_leaves_row_carried, Xq_testing_waiting_row_carried, Xq_switches_row_carried, Xq_leftText_row_carried, Xq_rightText_row_carried, List.set_cons_succ, List.set_cons_zero]
theorem Xp_row_carried {D : va_G} {k : zK} {a : Nat → Nat} {u : XS} {v : Int32} {H : Heap} (h : va_P D vwCl ((wX k a u).set 17 ((a 17), .inr (5, ([.ref (a 18), .ref (a 19), .ref (a 20), .ref (a 21), .int (Xg_row_subject u), .int (Xg_row_carried u), .int (Xg_row_length u)] : List Value).set 5 (.int v)))) H) : va_P D vwCl (wX k a (Xs_row_carried u v)) H := by
  rw [Xe_row_carried]; exact h
theorem Xe_row_length (k : zK) (a : Nat → Nat) (u : XS) (v : Int32) : wX k a (Xs_row_length u v) = (wX k a u).set 17 ((a 17), .inr (5, ([.ref (a 18), .ref (a 19), .ref (a 20), .ref (a 21), .int (Xg_row_subject u), .int (Xg_row_carried u), .int (Xg_row_length u)] : List Value).set 6 (.int v))) := by
  simp only [wX, Xq_whole_row_length, Xq_fields_made_row_length, Xq_fields_category_row_length, Xq_fields_size_row_length, Xq_fields_scale_row_length, Xq_fields_bytes_row_length, Xq_weights_of_row_length, Xq_names_made_row_length, Xq_names_field_row_length, Xq_names_ranges_row_length, Xq_names_low_row_length, Xq_names_high_row_length, Xq_nodes_made_row_length, Xq_nodes_op_row_length, Xq_nodes_a_row_length, Xq_nodes_b_row_length, Xq_row_subject_row_length, Xq_row_carried_row_length, Xq_row_length_row_length, Xq_row_with_row_length, Xq_row_op_row_length, Xq_row_negated_row_length, Xq_row_object_row_length, Xq_testing_noted_row_length, Xq_testing_depth_row_length, Xq_testing_outcome_row_length, Xq_testing_leaves_row_length, Xq_testing_waiting_row_length, Xq_switches_row_length, Xq_leftText_row_length, Xq_rightText_row_length, List.set_cons_succ, List.set_cons_zero]
theorem Xp_row_length {D : va_G} {k : zK} {a : Nat → Nat} {u : XS} {v : Int32} {H : Heap} (h : va_P D vwCl ((wX k a u).set 17 ((a 17), .inr (5, ([.ref (a 18), .ref (a 19), .ref (a 20), .ref (a 21), .int (Xg_row_subject u), .int (Xg_row_carried u), .int (Xg_row_length u)] : List Value).set 6 (.int v)))) H) : va_P D vwCl (wX k a (Xs_row_length u v)) H := by
  rw [Xe_row_length]; exact h
theorem Xe_row_with (k : zK) (a : Nat → Nat) (u : XS) (v : Nat → Int32) : wX k a (Xs_row_with u v) = (wX k a u).set 18 ((a 18), .inl (k.2.1, 20, .inl v)) := by
  simp only [wX, Xq_whole_row_with, Xq_fields_made_row_with, Xq_fields_category_row_with, Xq_fields_size_row_with, Xq_fields_scale_row_with, Xq_fields_bytes_row_with, Xq_weights_of_row_with, Xq_names_made_row_with, Xq_names_field_row_with, Xq_names_ranges_row_with, Xq_names_low_row_with, Xq_names_high_row_with, Xq_nodes_made_row_with, Xq_nodes_op_row_with, Xq_nodes_a_row_with, Xq_nodes_b_row_with, Xq_row_subject_row_with, Xq_row_carried_row_with, Xq_row_length_row_with, Xq_row_with_row_with, Xq_row_op_row_with, Xq_row_negated_row_with, Xq_row_object_row_with, Xq_testing_noted_row_with, Xq_testing_depth_row_with, Xq_testing_outcome_row_with, Xq_testing_leaves_row_with, Xq_testing_waiting_row_with, Xq_switches_row_with, Xq_leftText_row_with, Xq_rightText_row_with, List.set_cons_succ, List.set_cons_zero]
theorem Xp_row_with {D : va_G} {k : zK} {a : Nat → Nat} {u : XS} {v : Nat → Int32} {H : Heap} (h : va_P D vwCl ((wX k a u).set 18 ((a 18), .inl (k.2.1, 20, .inl v))) H) : va_P D vwCl (wX k a (Xs_row_with u v)) H := by
  rw [Xe_row_with]; exact h
theorem Xe_row_op (k : zK) (a : Nat → Nat) (u : XS) (v : Nat → Int32) : wX k a (Xs_row_op u v) = (wX k a u).set 19 ((a 19), .inl (k.2.1, 20, .inl v)) := by
  simp only [wX, Xq_whole_row_op, Xq_fields_made_row_op, Xq_fields_category_row_op, Xq_fields_size_row_op, Xq_fields_scale_row_op, Xq_fields_bytes_row_op, Xq_weights_of_row_op, Xq_names_made_row_op, Xq_names_field_row_op, Xq_names_ranges_row_op, Xq_names_low_row_op, Xq_names_high_row_op, Xq_nodes_made_row_op, Xq_nodes_op_row_op, Xq_nodes_a_row_op, Xq_nodes_b_row_op, Xq_row_subject_row_op, Xq_row_carried_row_op, Xq_row_length_row_op, Xq_row_with_row_op, Xq_row_op_row_op, Xq_row_negated_row_op, Xq_row_object_row_op, Xq_testing_noted_row_op, Xq_testing_depth_row_op, Xq_testing_outcome_row_op, Xq_testing_leaves_row_op, Xq_testing_waiting_row_op, Xq_switches_row_op, Xq_leftText_row_op, Xq_rightText_row_op, List.set_cons_succ, List.set_cons_zero]
theorem Xp_row_op {D : va_G} {k : zK} {a : Nat → Nat} {u : XS} {v : Nat → Int32} {H : Heap} (h : va_P D vwCl ((wX k a u).set 19 ((a 19), .inl (k.2.1, 20, .inl v))) H) : va_P D vwCl (wX k a (Xs_row_op u v)) H := by
  rw [Xe_row_op]; exact h
theorem Xe_row_negated (k : zK) (a : Nat → Nat) (u : XS) (v : Nat → Int32) : wX k a (Xs_row_negated u v) = (wX k a u).set 20 ((a 20), .inl (k.2.2.2, 20, .inl v)) := by
  simp only [wX, Xq_whole_row_negated, Xq_fields_made_row_negated, Xq_fields_category_row_negated, Xq_fields_size_row_negated, Xq_fields_scale_row_negated, Xq_fields_bytes_row_negated, Xq_weights_of_row_negated, Xq_names_made_row_negated, Xq_names_field_row_negated, Xq_names_ranges_row_negated, Xq_names_low_row_negated, Xq_names_high_row_negated, Xq_nodes_made_row_negated, Xq_nodes_op_row_negated, Xq_nodes_a_row_negated, Xq_nodes_b_row_negated, Xq_row_subject_row_negated, Xq_row_carried_row_negated, Xq_row_length_row_negated, Xq_row_with_row_negated, Xq_row_op_row_negated, Xq_row_negated_row_negated, Xq_row_object_row_negated, Xq_testing_noted_row_negated, Xq_testing_depth_row_negated, Xq_testing_outcome_row_negated, Xq_testing_leaves_row_negated, Xq_testing_waiting_row_negated, Xq_switches_row_negated, Xq_leftText_row_negated, Xq_rightText_row_negated, List.set_cons_succ, List.set_cons_zero]
theorem Xp_row_negated {D : va_G} {k : zK} {a : Nat → Nat} {u : XS} {v : Nat → Int32} {H : Heap} (h : va_P D vwCl ((wX k a u).set 20 ((a 20), .inl (k.2.2.2, 20, .inl v))) H) : va_P D vwCl (wX k a (Xs_row_negated u v)) H := by
  rw [Xe_row_negated]; exact h
theorem Xe_row_object (k : zK) (a : Nat → Nat) (u : XS) (v : Nat → Int32) : wX k a (Xs_row_object u v) = (wX k a u).set 21 ((a 21), .inl (k.2.1, 20, .inl v)) := by
  simp only [wX, Xq_whole_row_object, Xq_fields_made_row_object, Xq_fields_category_row_object, Xq_fields_size_row_object, Xq_fields_scale_row_object, Xq_fields_bytes_row_object, Xq_weights_of_row_object, Xq_names_made_row_object, Xq_names_field_row_object, Xq_names_ranges_row_object, Xq_names_low_row_object, Xq_names_high_row_object, Xq_nodes_made_row_object, Xq_nodes_op_row_object, Xq_nodes_a_row_object, Xq_nodes_b_row_object, Xq_row_subject_row_object, Xq_row_carried_row_object, Xq_row_length_row_object, Xq_row_with_row_object, Xq_row_op_row_object, Xq_row_negated_row_object, Xq_row_object_row_object, Xq_testing_noted_row_object, Xq_testing_depth_row_object, Xq_testing_outcome_row_object, Xq_testing_leaves_row_object, Xq_testing_waiting_row_object, Xq_switches_row_object, Xq_leftText_row_object, Xq_rightText_row_object, List.set_cons_succ, List.set_cons_zero]
theorem Xp_row_object {D : va_G} {k : zK} {a : Nat → Nat} {u : XS} {v : Nat → Int32} {H : Heap} (h : va_P D vwCl ((wX k a u).set 21 ((a 21), .inl (k.2.1, 20, .inl v))) H) : va_P D vwCl (wX k a (Xs_row_object u v)) H := by
  rw [Xe_row_object]; exact h
theorem Xe_testing_noted (k : zK) (a : Nat → Nat) (u : XS) (v : Int32) : wX k a (Xs_testing_noted u v) = (wX k a u).set 22 ((a 22), .inr (6, ([.ref (a 23), .ref (a 24), .ref (a 25), .int (Xg_testing_noted u), .int (Xg_testing_depth u)] : List Value).set 3 (.int v))) := by
  simp only [wX, Xq_whole_testing_noted, Xq_fields_made_testing_noted, Xq_fields_category_testing_noted, Xq_fields_size_testing_noted, Xq_fields_scale_testing_noted, Xq_fields_bytes_testing_noted, Xq_weights_of_testing_noted, Xq_names_made_testing_noted, Xq_names_field_testing_noted, Xq_names_ranges_testing_noted, Xq_names_low_testing_noted, Xq_names_high_testing_noted, Xq_nodes_made_testing_noted, Xq_nodes_op_testing_noted, Xq_nodes_a_testing_noted, Xq_nodes_b_testing_noted, Xq_row_subject_testing_noted, Xq_row_carried_testing_noted, Xq_row_length_testing_noted, Xq_row_with_testing_noted, Xq_row_op_testing_noted, Xq_row_negated_testing_noted, Xq_row_object_testing_noted, Xq_testing_noted_testing_noted, Xq_testing_depth_testing_noted, Xq_testing_outcome_testing_noted, Xq_testing_leaves_testing_noted, Xq_testing_waiting_testing_noted, Xq_switches_testing_noted, Xq_leftText_testing_noted, Xq_rightText_testing_noted, List.set_cons_succ, List.set_cons_zero]
theorem Xp_testing_noted {D : va_G} {k : zK} {a : Nat → Nat} {u : XS} {v : Int32} {H : Heap} (h : va_P D vwCl ((wX k a u).set 22 ((a 22), .inr (6, ([.ref (a 23), .ref (a 24), .ref (a 25), .int (Xg_testing_noted u), .int (Xg_testing_depth u)] : List Value).set 3 (.int v)))) H) : va_P D vwCl (wX k a (Xs_testing_noted u v)) H := by
  rw [Xe_testing_noted]; exact h
theorem Xe_testing_depth (k : zK) (a : Nat → Nat) (u : XS) (v : Int32) : wX k a (Xs_testing_depth u v) = (wX k a u).set 22 ((a 22), .inr (6, ([.ref (a 23), .ref (a 24), .ref (a 25), .int (Xg_testing_noted u), .int (Xg_testing_depth u)] : List Value).set 4 (.int v))) := by
  simp only [wX, Xq_whole_testing_depth, Xq_fields_made_testing_depth, Xq_fields_category_testing_depth, Xq_fields_size_testing_depth, Xq_fields_scale_testing_depth, Xq_fields_bytes_testing_depth, Xq_weights_of_testing_depth, Xq_names_made_testing_depth, Xq_names_field_testing_depth, Xq_names_ranges_testing_depth, Xq_names_low_testing_depth, Xq_names_high_testing_depth, Xq_nodes_made_testing_depth, Xq_nodes_op_testing_depth, Xq_nodes_a_testing_depth, Xq_nodes_b_testing_depth, Xq_row_subject_testing_depth, Xq_row_carried_testing_depth, Xq_row_length_testing_depth, Xq_row_with_testing_depth, Xq_row_op_testing_depth, Xq_row_negated_testing_depth, Xq_row_object_testing_depth, Xq_testing_noted_testing_depth, Xq_testing_depth_testing_depth, Xq_testing_outcome_testing_depth, Xq_testing_leaves_testing_depth, Xq_testing_waiting_testing_depth, Xq_switches_testing_depth, Xq_leftText_testing_depth, Xq_rightText_testing_depth, List.set_cons_succ, List.set_cons_zero]
theorem Xp_testing_depth {D : va_G} {k : zK} {a : Nat → Nat} {u : XS} {v : Int32} {H : Heap} (h : va_P D vwCl ((wX k a u).set 22 ((a 22), .inr (6, ([.ref (a 23), .ref (a 24), .ref (a 25), .int (Xg_testing_noted u), .int (Xg_testing_depth u)] : List Value).set 4 (.int v)))) H) : va_P D vwCl (wX k a (Xs_testing_depth u v)) H := by
  rw [Xe_testing_depth]; exact h
theorem Xe_testing_outcome (k : zK) (a : Nat → Nat) (u : XS) (v : Nat → Int32) : wX k a (Xs_testing_outcome u v) = (wX k a u).set 23 ((a 23), .inl (k.2.1, 201, .inl v)) := by
  simp only [wX, Xq_whole_testing_outcome, Xq_fields_made_testing_outcome, Xq_fields_category_testing_outcome, Xq_fields_size_testing_outcome, Xq_fields_scale_testing_outcome, Xq_fields_bytes_testing_outcome, Xq_weights_of_testing_outcome, Xq_names_made_testing_outcome, Xq_names_field_testing_outcome, Xq_names_ranges_testing_outcome, Xq_names_low_testing_outcome, Xq_names_high_testing_outcome, Xq_nodes_made_testing_outcome, Xq_nodes_op_testing_outcome, Xq_nodes_a_testing_outcome, Xq_nodes_b_testing_outcome, Xq_row_subject_testing_outcome, Xq_row_carried_testing_outcome, Xq_row_length_testing_outcome, Xq_row_with_testing_outcome, Xq_row_op_testing_outcome, Xq_row_negated_testing_outcome, Xq_row_object_testing_outcome, Xq_testing_noted_testing_outcome, Xq_testing_depth_testing_outcome, Xq_testing_outcome_testing_outcome, Xq_testing_leaves_testing_outcome, Xq_testing_waiting_testing_outcome, Xq_switches_testing_outcome, Xq_leftText_testing_outcome, Xq_rightText_testing_outcome, List.set_cons_succ, List.set_cons_zero]
theorem Xp_testing_outcome {D : va_G} {k : zK} {a : Nat → Nat} {u : XS} {v : Nat → Int32} {H : Heap} (h : va_P D vwCl ((wX k a u).set 23 ((a 23), .inl (k.2.1, 201, .inl v))) H) : va_P D vwCl (wX k a (Xs_testing_outcome u v)) H := by
  rw [Xe_testing_outcome]; exact h
theorem Xe_testing_leaves (k : zK) (a : Nat → Nat) (u : XS) (v : Nat → Int32) : wX k a (Xs_testing_leaves u v) = (wX k a u).set 24 ((a 24), .inl (k.2.1, 200, .inl v)) := by
  simp only [wX, Xq_whole_testing_leaves, Xq_fields_made_testing_leaves, Xq_fields_category_testing_leaves, Xq_fields_size_testing_leaves, Xq_fields_scale_testing_leaves, Xq_fields_bytes_testing_leaves, Xq_weights_of_testing_leaves, Xq_names_made_testing_leaves, Xq_names_field_testing_leaves, Xq_names_ranges_testing_leaves, Xq_names_low_testing_leaves, Xq_names_high_testing_leaves, Xq_nodes_made_testing_leaves, Xq_nodes_op_testing_leaves, Xq_nodes_a_testing_leaves, Xq_nodes_b_testing_leaves, Xq_row_subject_testing_leaves, Xq_row_carried_testing_leaves, Xq_row_length_testing_leaves, Xq_row_with_testing_leaves, Xq_row_op_testing_leaves, Xq_row_negated_testing_leaves, Xq_row_object_testing_leaves, Xq_testing_noted_testing_leaves, Xq_testing_depth_testing_leaves, Xq_testing_outcome_testing_leaves, Xq_testing_leaves_testing_leaves, Xq_testing_waiting_testing_leaves, Xq_switches_testing_leaves, Xq_leftText_testing_leaves, Xq_rightText_testing_leaves, List.set_cons_succ, List.set_cons_zero]
theorem Xp_testing_leaves {D : va_G} {k : zK} {a : Nat → Nat} {u : XS} {v : Nat → Int32} {H : Heap} (h : va_P D vwCl ((wX k a u).set 24 ((a 24), .inl (k.2.1, 200, .inl v))) H) : va_P D vwCl (wX k a (Xs_testing_leaves u v)) H := by
  rw [Xe_testing_leaves]; exact h
theorem Xe_testing_waiting (k : zK) (a : Nat → Nat) (u : XS) (v : Nat → Int32) : wX k a (Xs_testing_waiting u v) = (wX k a u).set 25 ((a 25), .inl (k.2.1, 200, .inl v)) := by
  simp only [wX, Xq_whole_testing_waiting, Xq_fields_made_testing_waiting, Xq_fields_category_testing_waiting, Xq_fields_size_testing_waiting, Xq_fields_scale_testing_waiting, Xq_fields_bytes_testing_waiting, Xq_weights_of_testing_waiting, Xq_names_made_testing_waiting, Xq_names_field_testing_waiting, Xq_names_ranges_testing_waiting, Xq_names_low_testing_waiting, Xq_names_high_testing_waiting, Xq_nodes_made_testing_waiting, Xq_nodes_op_testing_waiting, Xq_nodes_a_testing_waiting, Xq_nodes_b_testing_waiting, Xq_row_subject_testing_waiting, Xq_row_carried_testing_waiting, Xq_row_length_testing_waiting, Xq_row_with_testing_waiting, Xq_row_op_testing_waiting, Xq_row_negated_testing_waiting, Xq_row_object_testing_waiting, Xq_testing_noted_testing_waiting, Xq_testing_depth_testing_waiting, Xq_testing_outcome_testing_waiting, Xq_testing_leaves_testing_waiting, Xq_testing_waiting_testing_waiting, Xq_switches_testing_waiting, Xq_leftText_testing_waiting, Xq_rightText_testing_waiting, List.set_cons_succ, List.set_cons_zero]
theorem Xp_testing_waiting {D : va_G} {k : zK} {a : Nat → Nat} {u : XS} {v : Nat → Int32} {H : Heap} (h : va_P D vwCl ((wX k a u).set 25 ((a 25), .inl (k.2.1, 200, .inl v))) H) : va_P D vwCl (wX k a (Xs_testing_waiting u v)) H := by
  rw [Xe_testing_waiting]; exact h
theorem Xe_switches (k : zK) (a : Nat → Nat) (u : XS) (v : Nat → Int32) : wX k a (Xs_switches u v) = (wX k a u).set 26 ((a 26), .inl (k.2.2.2, 16, .inl v)) := by
  simp only [wX, Xq_whole_switches, Xq_fields_made_switches, Xq_fields_category_switches, Xq_fields_size_switches, Xq_fields_scale_switches, Xq_fields_bytes_switches, Xq_weights_of_switches, Xq_names_made_switches, Xq_names_field_switches, Xq_names_ranges_switches, Xq_names_low_switches, Xq_names_high_switches, Xq_nodes_made_switches, Xq_nodes_op_switches, Xq_nodes_a_switches, Xq_nodes_b_switches, Xq_row_subject_switches, Xq_row_carried_switches, Xq_row_length_switches, Xq_row_with_switches, Xq_row_op_switches, Xq_row_negated_switches, Xq_row_object_switches, Xq_testing_noted_switches, Xq_testing_depth_switches, Xq_testing_outcome_switches, Xq_testing_leaves_switches, Xq_testing_waiting_switches, Xq_switches_switches, Xq_leftText_switches, Xq_rightText_switches, List.set_cons_succ, List.set_cons_zero]
theorem Xp_switches {D : va_G} {k : zK} {a : Nat → Nat} {u : XS} {v : Nat → Int32} {H : Heap} (h : va_P D vwCl ((wX k a u).set 26 ((a 26), .inl (k.2.2.2, 16, .inl v))) H) : va_P D vwCl (wX k a (Xs_switches u v)) H := by
  rw [Xe_switches]; exact h
theorem Xe_leftText (k : zK) (a : Nat → Nat) (u : XS) (v : Nat → Int32) : wX k a (Xs_leftText u v) = (wX k a u).set 27 ((a 27), .inl (k.2.1, 32, .inl v)) := by
  simp only [wX, Xq_whole_leftText, Xq_fields_made_leftText, Xq_fields_category_leftText, Xq_fields_size_leftText, Xq_fields_scale_leftText, Xq_fields_bytes_leftText, Xq_weights_of_leftText, Xq_names_made_leftText, Xq_names_field_leftText, Xq_names_ranges_leftText, Xq_names_low_leftText, Xq_names_high_leftText, Xq_nodes_made_leftText, Xq_nodes_op_leftText, Xq_nodes_a_leftText, Xq_nodes_b_leftText, Xq_row_subject_leftText, Xq_row_carried_leftText, Xq_row_length_leftText, Xq_row_with_leftText, Xq_row_op_leftText, Xq_row_negated_leftText, Xq_row_object_leftText, Xq_testing_noted_leftText, Xq_testing_depth_leftText, Xq_testing_outcome_leftText, Xq_testing_leaves_leftText, Xq_testing_waiting_leftText, Xq_switches_leftText, Xq_leftText_leftText, Xq_rightText_leftText, List.set_cons_succ, List.set_cons_zero]
theorem Xp_leftText {D : va_G} {k : zK} {a : Nat → Nat} {u : XS} {v : Nat → Int32} {H : Heap} (h : va_P D vwCl ((wX k a u).set 27 ((a 27), .inl (k.2.1, 32, .inl v))) H) : va_P D vwCl (wX k a (Xs_leftText u v)) H := by
  rw [Xe_leftText]; exact h
theorem Xe_rightText (k : zK) (a : Nat → Nat) (u : XS) (v : Nat → Int32) : wX k a (Xs_rightText u v) = (wX k a u).set 28 ((a 28), .inl (k.2.1, 32, .inl v)) := by
  simp only [wX, Xq_whole_rightText, Xq_fields_made_rightText, Xq_fields_category_rightText, Xq_fields_size_rightText, Xq_fields_scale_rightText, Xq_fields_bytes_rightText, Xq_weights_of_rightText, Xq_names_made_rightText, Xq_names_field_rightText, Xq_names_ranges_rightText, Xq_names_low_rightText, Xq_names_high_rightText, Xq_nodes_made_rightText, Xq_nodes_op_rightText, Xq_nodes_a_rightText, Xq_nodes_b_rightText, Xq_row_subject_rightText, Xq_row_carried_rightText, Xq_row_length_rightText, Xq_row_with_rightText, Xq_row_op_rightText, Xq_row_negated_rightText, Xq_row_object_rightText, Xq_testing_noted_rightText, Xq_testing_depth_rightText, Xq_testing_outcome_rightText, Xq_testing_leaves_rightText, Xq_testing_waiting_rightText, Xq_switches_rightText, Xq_leftText_rightText, Xq_rightText_rightText, List.set_cons_succ, List.set_cons_zero]
theorem Xp_rightText {D : va_G} {k : zK} {a : Nat → Nat} {u : XS} {v : Nat → Int32} {H : Heap} (h : va_P D vwCl ((wX k a u).set 28 ((a 28), .inl (k.2.1, 32, .inl v))) H) : va_P D vwCl (wX k a (Xs_rightText u v)) H := by
  rw [Xe_rightText]; exact h
end
section
theorem dX_mostBytes_0 : decode cX_mostBytes 0 = .ok (.iload_n 0, 1) := by decide +kernel
theorem dX_mostBytes_1 : decode cX_mostBytes 1 = .ok (.tableswitch 36 0 2 #[27, 30, 33], 27) := by decide +kernel
theorem dX_mostBytes_28 : decode cX_mostBytes 28 = .ok (.bipush 32, 2) := by decide +kernel
theorem dX_mostBytes_30 : decode cX_mostBytes 30 = .ok (.ireturn, 1) := by decide +kernel
theorem dX_mostBytes_31 : decode cX_mostBytes 31 = .ok (.bipush 18, 2) := by decide +kernel
theorem dX_mostBytes_33 : decode cX_mostBytes 33 = .ok (.ireturn, 1) := by decide +kernel
theorem dX_mostBytes_34 : decode cX_mostBytes 34 = .ok (.bipush 8, 2) := by decide +kernel
theorem dX_mostBytes_36 : decode cX_mostBytes 36 = .ok (.ireturn, 1) := by decide +kernel
theorem dX_mostBytes_37 : decode cX_mostBytes 37 = .ok (.iconst 0, 1) := by decide +kernel
theorem dX_mostBytes_38 : decode cX_mostBytes 38 = .ok (.ireturn, 1) := by decide +kernel
abbrev wsX_mostBytes : List Cond := Cond.code yX_mostBytes cX_mostBytes 1 (some .int) :: zWords
def FX_mostBytes (u : XS) (p0 : Int32) : Int32 := (if p0 = 0 then 32 else (if p0 = 1 then 18 else (if p0 = 2 then 8 else 0)))
set_option maxHeartbeats 4000000 in
set_option maxRecDepth 100000 in
theorem tX_mostBytes (l : Launch) {D : va_G} {k : zK} {a : Nat → Nat} (hI : zI 29 a) (u : XS) (p0 : Int32) : Met l yX_mostBytes wsX_mostBytes ({ frames := 0, cells := 0, slots := 0, locals := 0 }) (zPc D k (zA 29 a) (wX k a u) [.int p0]) (vp_Si (fun r9 => r9 = (FX_mostBytes u p0))) 0 0 (fun _ => False) := by
  refine Met.ofW (cc := cX_mostBytes) (maxL := 1) (ret := (some .int)) (by decide) rfl ?_
  intro p e s m args below meth c s₁ B hml hv
  obtain ⟨rfl, hP, hE⟩ := hv
  have hts := atoms_spec (ws := wsX_mostBytes) B.pre
  have C0 : zC p s m _ meth c cX_mostBytes (some .int) 1 RX wsX_mostBytes D k (zA 29 a) := ⟨B.exec, B.bytes, B.returns, hml, findClass_of_methodNamed B.named, hts, B.notSynchronized, hE⟩
  obtain ⟨hx, hb, hr, hml, hown, _, hlocks, _⟩ := id C0
  have hK := hE.1
  have hS : va_S (zA 29 a) s.heap s.heap [] := va_S.rf
  generalize hf : FX_mostBytes u p0 = tgt
  change ((if p0 = 0 then 32 else (if p0 = 1 then 18 else (if p0 = 2 then 8 else 0))) : Int32) = tgt at hf
  have hl := lv_entry ([.int p0]) (n := 1) (Nat.le_of_ble_eq_true rfl)
  rw [lg_entry_eq]
  generalize (lg_sl ([.int p0]) ++ List.replicate (1 - (lg_sl ([.int p0])).length) Slot.unset).toArray = ls at hl ⊢
  have hl : lv_has ls 1 [(0, .int p0)] := hl
  refine lv_iload_n hx hb dX_mostBytes_0 rfl (lv_at hl 0 rfl) ?_
  by_cases c1 : p0 = 0
  · have hf := zt c1 hf
    refine lv_tableIn (off := 27) (tgt := 28) hx hb dX_mostBytes_1 (by rw [c1]; decide) (by rw [c1]; decide) (by rw [c1]; decide) (by decide) ?_
    refine lv_bipush (v := 32) hx hb dX_mostBytes_28 (by decide) ?_
    exact W.iret (v := 32) hx hb hr (fun t ht hW => ⟨_, rfl, hf, ht⟩) (fun _ h9 => nomatch h9) dX_mostBytes_30
  · have hf := zn c1 hf
    by_cases c2 : p0 = 1
    · have hf := zt c2 hf
      refine lv_tableIn (off := 30) (tgt := 31) hx hb dX_mostBytes_1 (by rw [c2]; decide) (by rw [c2]; decide) (by rw [c2]; decide) (by decide) ?_
      refine lv_bipush (v := 18) hx hb dX_mostBytes_31 (by decide) ?_
      exact W.iret (v := 18) hx hb hr (fun t ht hW => ⟨_, rfl, hf, ht⟩) (fun _ h9 => nomatch h9) dX_mostBytes_33
    · have hf := zn c2 hf
      by_cases c3 : p0 = 2
      · have hf := zt c3 hf
        refine lv_tableIn (off := 33) (tgt := 34) hx hb dX_mostBytes_1 (by rw [c3]; decide) (by rw [c3]; decide) (by rw [c3]; decide) (by decide) ?_
        refine lv_bipush (v := 8) hx hb dX_mostBytes_34 (by decide) ?_
        exact W.iret (v := 8) hx hb hr (fun t ht hW => ⟨_, rfl, hf, ht⟩) (fun _ h9 => nomatch h9) dX_mostBytes_36
      · have hf := zn c3 hf
        refine lv_tableOut (tgt := 37) hx hb dX_mostBytes_1 (by have e0 := lv_neT (a := 0) c1 (by decide); have e1 := lv_neT (a := 1) c2 (by decide); have e2 := lv_neT (a := 2) c3 (by decide); omega) (by decide) ?_
        refine lv_iconst (v := 0) hx hb dX_mostBytes_37 (by decide) ?_
        exact W.iret (v := 0) hx hb hr (fun t ht hW => ⟨_, rfl, hf, ht⟩) (fun _ h9 => nomatch h9) dX_mostBytes_38
theorem dXF_firstByte_0 : decode cXF_firstByte 0 = .ok (.iload_n 0, 1) := by decide +kernel
theorem dXF_firstByte_1 : decode cXF_firstByte 1 = .ok (.lookupswitch 33 #[(0, 27), (1, 30)], 27) := by decide +kernel
theorem dXF_firstByte_28 : decode cXF_firstByte 28 = .ok (.bipush 32, 2) := by decide +kernel
theorem dXF_firstByte_30 : decode cXF_firstByte 30 = .ok (.ireturn, 1) := by decide +kernel
theorem dXF_firstByte_31 : decode cXF_firstByte 31 = .ok (.bipush 48, 2) := by decide +kernel
theorem dXF_firstByte_33 : decode cXF_firstByte 33 = .ok (.ireturn, 1) := by decide +kernel
theorem dXF_firstByte_34 : decode cXF_firstByte 34 = .ok (.iconst 0, 1) := by decide +kernel
theorem dXF_firstByte_35 : decode cXF_firstByte 35 = .ok (.ireturn, 1) := by decide +kernel
abbrev wsXF_firstByte : List Cond := Cond.code yXF_firstByte cXF_firstByte 1 (some .int) :: zWords
def FXF_firstByte (u : XS) (p0 : Int32) : Int32 := (if p0 = 0 then 32 else (if p0 = 1 then 48 else 0))
set_option maxHeartbeats 4000000 in
set_option maxRecDepth 100000 in
theorem tXF_firstByte (l : Launch) {D : va_G} {k : zK} {a : Nat → Nat} (hI : zI 29 a) (u : XS) (p0 : Int32) : Met l yXF_firstByte wsXF_firstByte ({ frames := 0, cells := 0, slots := 0, locals := 0 }) (zPc D k (zA 29 a) (wX k a u) [.int p0]) (vp_Si (fun r9 => r9 = (FXF_firstByte u p0))) 0 0 (fun _ => False) := by
  refine Met.ofW (cc := cXF_firstByte) (maxL := 1) (ret := (some .int)) (by decide) rfl ?_
  intro p e s m args below meth c s₁ B hml hv
  obtain ⟨rfl, hP, hE⟩ := hv
  have hts := atoms_spec (ws := wsXF_firstByte) B.pre
  have C0 : zC p s m _ meth c cXF_firstByte (some .int) 1 RXF wsXF_firstByte D k (zA 29 a) := ⟨B.exec, B.bytes, B.returns, hml, findClass_of_methodNamed B.named, hts, B.notSynchronized, hE⟩
  obtain ⟨hx, hb, hr, hml, hown, _, hlocks, _⟩ := id C0
  have hK := hE.1
  have hS : va_S (zA 29 a) s.heap s.heap [] := va_S.rf
  generalize hf : FXF_firstByte u p0 = tgt
  change ((if p0 = 0 then 32 else (if p0 = 1 then 48 else 0)) : Int32) = tgt at hf
  have hl := lv_entry ([.int p0]) (n := 1) (Nat.le_of_ble_eq_true rfl)
  rw [lg_entry_eq]
  generalize (lg_sl ([.int p0]) ++ List.replicate (1 - (lg_sl ([.int p0])).length) Slot.unset).toArray = ls at hl ⊢
  have hl : lv_has ls 1 [(0, .int p0)] := hl
  refine lv_iload_n hx hb dXF_firstByte_0 rfl (lv_at hl 0 rfl) ?_
  by_cases c1 : p0 = 0
  · have hf := zt c1 hf
    refine lv_lookup (off := 27) (tgt := 28) hx hb dXF_firstByte_1 (by decide) (by rw [c1]; decide) (by decide) ?_
    refine lv_bipush (v := 32) hx hb dXF_firstByte_28 (by decide) ?_
    exact W.iret (v := 32) hx hb hr (fun t ht hW => ⟨_, rfl, hf, ht⟩) (fun _ h9 => nomatch h9) dXF_firstByte_30
  · have hf := zn c1 hf
    by_cases c2 : p0 = 1
    · have hf := zt c2 hf
      refine lv_lookup (off := 30) (tgt := 31) hx hb dXF_firstByte_1 (by decide) (by rw [c2]; decide) (by decide) ?_
      refine lv_bipush (v := 48) hx hb dXF_firstByte_31 (by decide) ?_
      exact W.iret (v := 48) hx hb hr (fun t ht hW => ⟨_, rfl, hf, ht⟩) (fun _ h9 => nomatch h9) dXF_firstByte_33
    · have hf := zn c2 hf
      refine lv_lookup (off := 33) (tgt := 34) hx hb dXF_firstByte_1 (by decide) (show Op.lookupswitch.offset [(0, 27), (1, 30)] 33 (p0 : Int32).toInt = 33 by rw [lv_osw c1 (by decide), lv_osw c2 (by decide)]; rfl) (by decide) ?_
      refine lv_iconst (v := 0) hx hb dXF_firstByte_34 (by decide) ?_
      exact W.iret (v := 0) hx hb hr (fun t ht hW => ⟨_, rfl, hf, ht⟩) (fun _ h9 => nomatch h9) dXF_firstByte_35
theorem dXF_add_0 : decode cXF_add 0 = .ok (.aload_n 0, 1) := by decide +kernel
theorem dXF_add_1 : decode cXF_add 1 = .ok (.getfield 24, 3) := by decide +kernel
theorem dXF_add_4 : decode cXF_add 4 = .ok (.bipush 40, 2) := by decide +kernel
theorem dXF_add_6 : decode cXF_add 6 = .ok (.if_icmp .lt 5, 3) := by decide +kernel
theorem dXF_add_9 : decode cXF_add 9 = .ok (.iconst (-1), 1) := by decide +kernel
theorem dXF_add_10 : decode cXF_add 10 = .ok (.ireturn, 1) := by decide +kernel
theorem dXF_add_11 : decode cXF_add 11 = .ok (.aload_n 0, 1) := by decide +kernel
theorem dXF_add_12 : decode cXF_add 12 = .ok (.dup, 1) := by decide +kernel
theorem dXF_add_13 : decode cXF_add 13 = .ok (.getfield 24, 3) := by decide +kernel
theorem dXF_add_16 : decode cXF_add 16 = .ok (.dup_x1, 1) := by decide +kernel
theorem dXF_add_17 : decode cXF_add 17 = .ok (.iconst 1, 1) := by decide +kernel
theorem dXF_add_18 : decode cXF_add 18 = .ok (.iadd, 1) := by decide +kernel
theorem dXF_add_19 : decode cXF_add 19 = .ok (.putfield 24, 3) := by decide +kernel
theorem dXF_add_22 : decode cXF_add 22 = .ok (.istore_n 3, 1) := by decide +kernel
theorem dXF_add_23 : decode cXF_add 23 = .ok (.aload_n 0, 1) := by decide +kernel
theorem dXF_add_24 : decode cXF_add 24 = .ok (.getfield 9, 3) := by decide +kernel
theorem dXF_add_27 : decode cXF_add 27 = .ok (.iload_n 3, 1) := by decide +kernel
theorem dXF_add_28 : decode cXF_add 28 = .ok (.iload_n 1, 1) := by decide +kernel
theorem dXF_add_29 : decode cXF_add 29 = .ok (.iastore, 1) := by decide +kernel
theorem dXF_add_30 : decode cXF_add 30 = .ok (.aload_n 0, 1) := by decide +kernel
theorem dXF_add_31 : decode cXF_add 31 = .ok (.getfield 15, 3) := by decide +kernel
theorem dXF_add_34 : decode cXF_add 34 = .ok (.iload_n 3, 1) := by decide +kernel
theorem dXF_add_35 : decode cXF_add 35 = .ok (.iload_n 2, 1) := by decide +kernel
theorem dXF_add_36 : decode cXF_add 36 = .ok (.iastore, 1) := by decide +kernel
theorem dXF_add_37 : decode cXF_add 37 = .ok (.iconst 0, 1) := by decide +kernel
theorem dXF_add_38 : decode cXF_add 38 = .ok (.istore 4, 2) := by decide +kernel
theorem dXF_add_40 : decode cXF_add 40 = .ok (.iload 4, 2) := by decide +kernel
theorem dXF_add_42 : decode cXF_add 42 = .ok (.iload_n 2, 1) := by decide +kernel
theorem dXF_add_43 : decode cXF_add 43 = .ok (.if_icmp .ge 25, 3) := by decide +kernel
theorem dXF_add_46 : decode cXF_add 46 = .ok (.aload_n 0, 1) := by decide +kernel
theorem dXF_add_47 : decode cXF_add 47 = .ok (.getfield 21, 3) := by decide +kernel
theorem dXF_add_50 : decode cXF_add 50 = .ok (.iload_n 3, 1) := by decide +kernel
theorem dXF_add_51 : decode cXF_add 51 = .ok (.bipush 32, 2) := by decide +kernel
theorem dXF_add_53 : decode cXF_add 53 = .ok (.imul, 1) := by decide +kernel
theorem dXF_add_54 : decode cXF_add 54 = .ok (.iload 4, 2) := by decide +kernel
theorem dXF_add_56 : decode cXF_add 56 = .ok (.iadd, 1) := by decide +kernel
theorem dXF_add_57 : decode cXF_add 57 = .ok (.iload_n 1, 1) := by decide +kernel
theorem dXF_add_58 : decode cXF_add 58 = .ok (.invokestatic 35, 3) := by decide +kernel
theorem dXF_add_61 : decode cXF_add 61 = .ok (.iastore, 1) := by decide +kernel
theorem dXF_add_62 : decode cXF_add 62 = .ok (.iinc 4 1, 3) := by decide +kernel
theorem dXF_add_65 : decode cXF_add 65 = .ok (.goto (-25), 3) := by decide +kernel
theorem dXF_add_68 : decode cXF_add 68 = .ok (.iload_n 3, 1) := by decide +kernel
theorem dXF_add_69 : decode cXF_add 69 = .ok (.ireturn, 1) := by decide +kernel
abbrev wsXF_add : List Cond := Cond.code yXF_add cXF_add 5 (some .int) :: zWords
def LXF_add_40 : Nat → XS → Int32 → Int32 → Int32 → Int32 → Int32 × XS
  | 0, u, _, _, _, _ => (0, u)
  | n + 1, u, x4, x3, x1, x2 => (if x2 ≤ x4 then (x3, u) else (zlet (Xs_fields_bytes u (upd (Xg_fields_bytes u) (((x3 * 32) + x4).toNatClampNeg) (FXF_firstByte u x1))) (fun u9 => (LXF_add_40 n u9 (x4 + 1) x3 x1 x2))))
def MXF_add_40 : Nat → XS → Int32 → Int32 → Int32 → Int32 → Prop
  | 0, _, _, _, _, _ => False
  | n + 1, u, x4, x3, x1, x2 => (if x2 ≤ x4 then True else (vp_in ((x3 * 32) + x4) 1280 ∧ (zlet (Xs_fields_bytes u (upd (Xg_fields_bytes u) (((x3 * 32) + x4).toNatClampNeg) (FXF_firstByte u x1))) (fun u9 => (MXF_add_40 n u9 (x4 + 1) x3 x1 x2)))))
def FXF_add (u : XS) (p0 : Int32) (p1 : Int32) : Int32 × XS := (if (Xg_fields_made u) < 40 then (zlet (Xs_fields_made u ((Xg_fields_made u) + 1)) (fun u2 => (zlet (Xs_fields_category u2 (upd (Xg_fields_category u2) ((Xg_fields_made u).toNatClampNeg) p0)) (fun u4 => (zlet (Xs_fields_size u4 (upd (Xg_fields_size u4) ((Xg_fields_made u).toNatClampNeg) p1)) (fun u6 => (LXF_add_40 1000 u6 0 (Xg_fields_made u) p0 p1))))))) else ((-1), u))
def GXF_add (u : XS) (p0 : Int32) (p1 : Int32) : Prop := (if (Xg_fields_made u) < 40 then (zlet (Xs_fields_made u ((Xg_fields_made u) + 1)) (fun u2 => (vp_in (Xg_fields_made u) 40 ∧ (zlet (Xs_fields_category u2 (upd (Xg_fields_category u2) ((Xg_fields_made u).toNatClampNeg) p0)) (fun u4 => (vp_in (Xg_fields_made u) 40 ∧ (zlet (Xs_fields_size u4 (upd (Xg_fields_size u4) ((Xg_fields_made u).toNatClampNeg) p1)) (fun u6 => (MXF_add_40 1000 u6 0 (Xg_fields_made u) p0 p1))))))))) else True)
set_option maxHeartbeats 4000000 in
set_option maxRecDepth 100000 in
theorem kXF_add_40 {p : Program} {l : Launch} {e : Env} {s : State} {m : MethodId} {args : Array Value} {below : List Frame} {meth : Method} {c : Code} {D : va_G} {k : zK} {a : Nat → Nat} (hI : zI 29 a) (C0 : zC p s m args meth c cXF_add (some .int) 5 RXF wsXF_add D k (zA 29 a)) {tgt : Int32 × XS} : ∀ (n : Nat) (u : XS) (x4 : Int32) (x3 : Int32) (x1 : Int32) (x2 : Int32), LXF_add_40 n u x4 x3 x1 x2 = tgt → MXF_add_40 n u x4 x3 x1 x2 → ∀ (H : Heap) (locs : List Loc), va_P D vwCl (wX k a u) H → va_S (zA 29 a) s.heap H locs → ∀ (ls : Array Slot), lv_has ls 5 [(4, .int x4), (3, .int x3), (0, .ref (a 1)), (1, .int x1), (2, .int x2)] → W p l e (headSpec wsXF_add ({ frames := 1, cells := 0, slots := 0, locals := 20 })).room s m args below meth c H locs 0 0 (MQ below (zQi D (wX k a) (zA 29 a) tgt) args s 0 0 (zA 29 a)) (F0 m 40 ls []) := by
  obtain ⟨hx, hb, hr, hml, hown, hts, hlocks, hE⟩ := id C0
  have hK := hE.1
  intro n
  induction n with
  | zero =>
    intro u x4 x3 x1 x2 _ hg
    exact False.elim hg
  | succ n ih =>
    intro u x4 x3 x1 x2 hf hg H locs hP hS ls hl
    change ((if x2 ≤ x4 then (x3, u) else (zlet (Xs_fields_bytes u (upd (Xg_fields_bytes u) (((x3 * 32) + x4).toNatClampNeg) (FXF_firstByte u x1))) (fun u9 => (LXF_add_40 n u9 (x4 + 1) x3 x1 x2)))) : Int32 × XS) = tgt at hf
    change (if x2 ≤ x4 then True else (vp_in ((x3 * 32) + x4) 1280 ∧ (zlet (Xs_fields_bytes u (upd (Xg_fields_bytes u) (((x3 * 32) + x4).toNatClampNeg) (FXF_firstByte u x1))) (fun u9 => (MXF_add_40 n u9 (x4 + 1) x3 x1 x2))))) at hg
    refine lv_iload hx hb dXF_add_40 (lv_at hl 0 rfl) ?_
    refine lv_iload_n hx hb dXF_add_42 rfl (lv_at hl 4 rfl) ?_
    refine lv_icmp_ge (tgt := 68) hx hb dXF_add_43 (by decide) (fun c7 => ?_) (fun c7 => ?_)
    · have hf := zt c7 hf
      have hg := zgt c7 hg
      refine lv_iload_n hx hb dXF_add_68 rfl (lv_at hl 1 rfl) ?_
      exact W.iret (v := x3) hx hb hr (fun t ht hW => by subst hf; exact ⟨rfl, by rw [ht]; exact hP, hS.F ht⟩) hS.2.2 dXF_add_69
    · have hf := zn c7 hf
      have hg := zgn c7 hg
      refine lv_aload_n hx hb dXF_add_46 rfl (lv_at hl 2 rfl) ?_
      refine va_get (D := D) (ci := 1) (v := .ref (a 5)) (C := RXF) (T := TXF) (N := 5) hx hb hts (fun w h9 => zc (inXF w h9)) hown hK hP 1 rfl rfl 3 (by decide) (hts _ (zc m_36)) (fun _ h9 => h9) rfl dXF_add_47 ?_
      refine lv_iload_n hx hb dXF_add_50 rfl (lv_at hl 1 rfl) ?_
      refine lv_bipush (v := 32) hx hb dXF_add_51 (by decide) ?_
      refine lv_imul hx hb dXF_add_53 ?_
      refine lv_iload hx hb dXF_add_54 (lv_at hl 0 rfl) ?_
      refine lv_iadd hx hb dXF_add_56 ?_
      refine lv_iload_n hx hb dXF_add_57 rfl (lv_at hl 3 rfl) ?_
      refine vp_callSi (W.runS (As := [.int x1]) (rest := [.int ((x3 * 32) + x4), .ref (a 5)]) ⟨hx, hb, hml, hown, hts⟩ (tXF_firstByte l hI u x1) (va_cwS 1 hts (zgS m_216 m_217 m_2 m_218) rfl rfl rfl (by decide +kernel) ⟨Nat.le_of_ble_eq_true rfl, Nat.le_of_ble_eq_true rfl⟩) (zpreS hP hE hS.2.1) rfl rfl hl.1 rfl (lv_room (Nat.le_of_ble_eq_true rfl)) dXF_add_58 ⟨Nat.zero_le _, Nat.zero_le _⟩) (fun r9 hr9 => ?_)
      subst hr9
      obtain ⟨h8, hg⟩ := hg
      refine va_iast hx hb hK hP (XD hI _) hS 5 0 rfl rfl h8 dXF_add_61 (fun H locs hP _ hS => ?_)
      obtain ⟨u9, hP, hf, hg⟩ := zlets (E := (Xs_fields_bytes u (upd (Xg_fields_bytes u) (((x3 * 32) + x4).toNatClampNeg) (FXF_firstByte u x1)))) (w := wX k a) (Xp_fields_bytes hP) hf hg
      refine lv_iinc (v := (x4 + 1)) (lv' := [(4, .int (x4 + 1)), (3, .int x3), (0, .ref (a 1)), (1, .int x1), (2, .int x2)]) hx hb dXF_add_62 hl (k := 0) rfl rfl (by decide) rfl (fun ls hl => ?_)
      refine lv_goto (tgt := 40) hx hb dXF_add_65 (by decide) ?_
      exact ih u9 (x4 + 1) x3 x1 x2 hf hg _ _ hP hS _ (lv_sub hl [0, 1, 2, 3, 4] rfl)
set_option maxHeartbeats 4000000 in
set_option maxRecDepth 100000 in
theorem tXF_add (l : Launch) {D : va_G} {k : zK} {a : Nat → Nat} (hI : zI 29 a) (u : XS) (p0 : Int32) (p1 : Int32) (hg : GXF_add u p0 p1) : Met l yXF_add wsXF_add ({ frames := 1, cells := 0, slots := 0, locals := 20 }) (zPc D k (zA 29 a) (wX k a u) [.ref (a 1), .int p0, .int p1]) (zQi D (wX k a) (zA 29 a) (FXF_add u p0 p1)) 0 0 (zA 29 a) := by
  refine Met.ofW (cc := cXF_add) (maxL := 5) (ret := (some .int)) (by decide) rfl ?_
  intro p e s m args below meth c s₁ B hml hv
  obtain ⟨rfl, hP, hE⟩ := hv
  have hts := atoms_spec (ws := wsXF_add) B.pre
  have C0 : zC p s m _ meth c cXF_add (some .int) 5 RXF wsXF_add D k (zA 29 a) := ⟨B.exec, B.bytes, B.returns, hml, findClass_of_methodNamed B.named, hts, B.notSynchronized, hE⟩
  obtain ⟨hx, hb, hr, hml, hown, _, hlocks, _⟩ := id C0
  have hK := hE.1
  have hS : va_S (zA 29 a) s.heap s.heap [] := va_S.rf
  generalize hf : FXF_add u p0 p1 = tgt
  change ((if (Xg_fields_made u) < 40 then (zlet (Xs_fields_made u ((Xg_fields_made u) + 1)) (fun u2 => (zlet (Xs_fields_category u2 (upd (Xg_fields_category u2) ((Xg_fields_made u).toNatClampNeg) p0)) (fun u4 => (zlet (Xs_fields_size u4 (upd (Xg_fields_size u4) ((Xg_fields_made u).toNatClampNeg) p1)) (fun u6 => (LXF_add_40 1000 u6 0 (Xg_fields_made u) p0 p1))))))) else ((-1), u)) : Int32 × XS) = tgt at hf
  change (if (Xg_fields_made u) < 40 then (zlet (Xs_fields_made u ((Xg_fields_made u) + 1)) (fun u2 => (vp_in (Xg_fields_made u) 40 ∧ (zlet (Xs_fields_category u2 (upd (Xg_fields_category u2) ((Xg_fields_made u).toNatClampNeg) p0)) (fun u4 => (vp_in (Xg_fields_made u) 40 ∧ (zlet (Xs_fields_size u4 (upd (Xg_fields_size u4) ((Xg_fields_made u).toNatClampNeg) p1)) (fun u6 => (MXF_add_40 1000 u6 0 (Xg_fields_made u) p0 p1))))))))) else True) at hg
  have hl := lv_entry ([.ref (a 1), .int p0, .int p1]) (n := 5) (Nat.le_of_ble_eq_true rfl)
  rw [lg_entry_eq]
  generalize (lg_sl ([.ref (a 1), .int p0, .int p1]) ++ List.replicate (5 - (lg_sl ([.ref (a 1), .int p0, .int p1])).length) Slot.unset).toArray = ls at hl ⊢
  have hl : lv_has ls 5 [(0, .ref (a 1)), (1, .int p0), (2, .int p1)] := hl
  refine lv_aload_n hx hb dXF_add_0 rfl (lv_at hl 0 rfl) ?_
  refine va_get (D := D) (ci := 1) (v := .int (Xg_fields_made u)) (C := RXF) (T := TXF) (N := 5) hx hb hts (fun w h9 => zc (inXF w h9)) hown hK hP 1 rfl rfl 4 (by decide) (hts _ (zc m_38)) (fun _ h9 => h9) rfl dXF_add_1 ?_
  refine lv_bipush (v := 40) hx hb dXF_add_4 (by decide) ?_
  refine lv_icmp_lt (tgt := 11) hx hb dXF_add_6 (by decide) (fun c1 => ?_) (fun c1 => ?_)
  · have hf := zt c1 hf
    have hg := zgt c1 hg
    refine lv_aload_n hx hb dXF_add_11 rfl (lv_at hl 0 rfl) ?_
    refine lv_dup hx hb dXF_add_12 rfl ?_
    refine va_get (D := D) (ci := 1) (v := .int (Xg_fields_made u)) (C := RXF) (T := TXF) (N := 5) hx hb hts (fun w h9 => zc (inXF w h9)) hown hK hP 1 rfl rfl 4 (by decide) (hts _ (zc m_38)) (fun _ h9 => h9) rfl dXF_add_13 ?_
    refine lv_dup_x1 hx hb dXF_add_16 rfl rfl ?_
    refine lv_iconst (v := 1) hx hb dXF_add_17 (by decide) ?_
    refine lv_iadd hx hb dXF_add_18 ?_
    refine va_put (D := D) (ci := 1) (v := .int ((Xg_fields_made u) + 1)) (ty := .int) (C := RXF) (T := TXF) (N := 5) hx hb hts (fun w h9 => zc (inXF w h9)) tyXF tyXF_ok nmXF hown hK hP (XD hI _) hS 1 rfl rfl 4 (by decide) (hts _ (zc m_38)) (fun _ h9 => h9) rfl (by decide +kernel) rfl rfl (Nat.le_of_ble_eq_true rfl) dXF_add_19 (fun H locs hP _ hS => ?_)
    obtain ⟨u2, hP, hf, hg⟩ := zlets (E := (Xs_fields_made u ((Xg_fields_made u) + 1))) (w := wX k a) (Xp_fields_made hP) hf hg
    refine lv_istore_n (lv' := [(3, .int (Xg_fields_made u)), (0, .ref (a 1)), (1, .int p0), (2, .int p1)]) hx hb dXF_add_22 rfl hl (by decide) rfl (fun ls hl => ?_)
    refine lv_aload_n hx hb dXF_add_23 rfl (lv_at hl 1 rfl) ?_
    refine va_get (D := D) (ci := 1) (v := .ref (a 2)) (C := RXF) (T := TXF) (N := 5) hx hb hts (fun w h9 => zc (inXF w h9)) hown hK hP 1 rfl rfl 0 (by decide) (hts _ (zc m_31)) (fun _ h9 => h9) rfl dXF_add_24 ?_
    refine lv_iload_n hx hb dXF_add_27 rfl (lv_at hl 0 rfl) ?_
    refine lv_iload_n hx hb dXF_add_28 rfl (lv_at hl 2 rfl) ?_
    obtain ⟨h3, hg⟩ := hg
    refine va_iast hx hb hK hP (XD hI _) hS 2 0 rfl rfl h3 dXF_add_29 (fun H locs hP _ hS => ?_)
    obtain ⟨u4, hP, hf, hg⟩ := zlets (E := (Xs_fields_category u2 (upd (Xg_fields_category u2) ((Xg_fields_made u).toNatClampNeg) p0))) (w := wX k a) (Xp_fields_category hP) hf hg
    refine lv_aload_n hx hb dXF_add_30 rfl (lv_at hl 1 rfl) ?_
    refine va_get (D := D) (ci := 1) (v := .ref (a 3)) (C := RXF) (T := TXF) (N := 5) hx hb hts (fun w h9 => zc (inXF w h9)) hown hK hP 1 rfl rfl 1 (by decide) (hts _ (zc m_32)) (fun _ h9 => h9) rfl dXF_add_31 ?_
    refine lv_iload_n hx hb dXF_add_34 rfl (lv_at hl 0 rfl) ?_
    refine lv_iload_n hx hb dXF_add_35 rfl (lv_at hl 3 rfl) ?_
    obtain ⟨h5, hg⟩ := hg
    refine va_iast hx hb hK hP (XD hI _) hS 3 0 rfl rfl h5 dXF_add_36 (fun H locs hP _ hS => ?_)
    obtain ⟨u6, hP, hf, hg⟩ := zlets (E := (Xs_fields_size u4 (upd (Xg_fields_size u4) ((Xg_fields_made u).toNatClampNeg) p1))) (w := wX k a) (Xp_fields_size hP) hf hg
    refine lv_iconst (v := 0) hx hb dXF_add_37 (by decide) ?_
    refine lv_istore (lv' := [(4, .int 0), (3, .int (Xg_fields_made u)), (0, .ref (a 1)), (1, .int p0), (2, .int p1)]) hx hb dXF_add_38 hl (by decide) rfl (fun ls hl => ?_)
    exact kXF_add_40 hI C0 (tgt := tgt) 1000 u6 0 (Xg_fields_made u) p0 p1 hf hg _ _ hP hS _ (lv_sub hl [0, 1, 2, 3, 4] rfl)
  · have hf := zn c1 hf
    have hg := zgn c1 hg
    refine lv_iconst (v := (-1)) hx hb dXF_add_9 (by decide) ?_
    exact W.iret (v := (-1)) hx hb hr (fun t ht hW => by subst hf; exact ⟨rfl, by rw [ht]; exact hP, hS.F ht⟩) hS.2.2 dXF_add_10
theorem dX_field_0 : decode cX_field 0 = .ok (.iload_n 2, 1) := by decide +kernel
theorem dX_field_1 : decode cX_field 1 = .ok (.iconst 1, 1) := by decide +kernel
theorem dX_field_2 : decode cX_field 2 = .ok (.if_icmp .lt 11, 3) := by decide +kernel
theorem dX_field_5 : decode cX_field 5 = .ok (.iload_n 2, 1) := by decide +kernel
theorem dX_field_6 : decode cX_field 6 = .ok (.iload_n 1, 1) := by decide +kernel
theorem dX_field_7 : decode cX_field 7 = .ok (.invokestatic 66, 3) := by decide +kernel
theorem dX_field_10 : decode cX_field 10 = .ok (.if_icmp .le 6, 3) := by decide +kernel
theorem dX_field_13 : decode cX_field 13 = .ok (.bipush (-4), 2) := by decide +kernel
theorem dX_field_15 : decode cX_field 15 = .ok (.ireturn, 1) := by decide +kernel
theorem dX_field_16 : decode cX_field 16 = .ok (.aload_n 0, 1) := by decide +kernel
theorem dX_field_17 : decode cX_field 17 = .ok (.getfield 10, 3) := by decide +kernel
theorem dX_field_20 : decode cX_field 20 = .ok (.iload_n 1, 1) := by decide +kernel
theorem dX_field_21 : decode cX_field 21 = .ok (.iload_n 2, 1) := by decide +kernel
theorem dX_field_22 : decode cX_field 22 = .ok (.invokevirtual 70, 3) := by decide +kernel
theorem dX_field_25 : decode cX_field 25 = .ok (.ireturn, 1) := by decide +kernel
abbrev wsX_field : List Cond := Cond.code yX_field cX_field 3 (some .int) :: zWords
def FX_field (u : XS) (p0 : Int32) (p1 : Int32) : Int32 × XS := (if p1 < 1 then ((-4), u) else (if p1 ≤ (FX_mostBytes u p0) then (zlet (FXF_add u p0 p1) (fun u4 => (u4.1, u4.2))) else ((-4), u)))
def GX_field (u : XS) (p0 : Int32) (p1 : Int32) : Prop := (if p1 < 1 then True else (if p1 ≤ (FX_mostBytes u p0) then (GXF_add u p0 p1 ∧ (zlet (FXF_add u p0 p1) (fun u4 => True))) else True))
set_option maxHeartbeats 4000000 in
set_option maxRecDepth 100000 in
theorem tX_field (l : Launch) {D : va_G} {k : zK} {a : Nat → Nat} (hI : zI 29 a) (u : XS) (p0 : Int32) (p1 : Int32) (hg : GX_field u p0 p1) : Met l yX_field wsX_field ({ frames := 2, cells := 0, slots := 0, locals := 44 }) (zPc D k (zA 29 a) (wX k a u) [.ref (a 0), .int p0, .int p1]) (zQi D (wX k a) (zA 29 a) (FX_field u p0 p1)) 0 0 (zA 29 a) := by
  refine Met.ofW (cc := cX_field) (maxL := 3) (ret := (some .int)) (by decide) rfl ?_
  intro p e s m args below meth c s₁ B hml hv
  obtain ⟨rfl, hP, hE⟩ := hv
  have hts := atoms_spec (ws := wsX_field) B.pre
  have C0 : zC p s m _ meth c cX_field (some .int) 3 RX wsX_field D k (zA 29 a) := ⟨B.exec, B.bytes, B.returns, hml, findClass_of_methodNamed B.named, hts, B.notSynchronized, hE⟩
  obtain ⟨hx, hb, hr, hml, hown, _, hlocks, _⟩ := id C0
  have hK := hE.1
  have hS : va_S (zA 29 a) s.heap s.heap [] := va_S.rf
  generalize hf : FX_field u p0 p1 = tgt
  change ((if p1 < 1 then ((-4), u) else (if p1 ≤ (FX_mostBytes u p0) then (zlet (FXF_add u p0 p1) (fun u4 => (u4.1, u4.2))) else ((-4), u))) : Int32 × XS) = tgt at hf
  change (if p1 < 1 then True else (if p1 ≤ (FX_mostBytes u p0) then (GXF_add u p0 p1 ∧ (zlet (FXF_add u p0 p1) (fun u4 => True))) else True)) at hg
  have hl := lv_entry ([.ref (a 0), .int p0, .int p1]) (n := 3) (Nat.le_of_ble_eq_true rfl)
  rw [lg_entry_eq]
  generalize (lg_sl ([.ref (a 0), .int p0, .int p1]) ++ List.replicate (3 - (lg_sl ([.ref (a 0), .int p0, .int p1])).length) Slot.unset).toArray = ls at hl ⊢
  have hl : lv_has ls 3 [(0, .ref (a 0)), (1, .int p0), (2, .int p1)] := hl
  refine lv_iload_n hx hb dX_field_0 rfl (lv_at hl 2 rfl) ?_
  refine lv_iconst (v := 1) hx hb dX_field_1 (by decide) ?_
  refine lv_icmp_lt (tgt := 13) hx hb dX_field_2 (by decide) (fun c1 => ?_) (fun c1 => ?_)
  · have hf := zt c1 hf
    have hg := zgt c1 hg
    refine lv_bipush (v := (-4)) hx hb dX_field_13 (by decide) ?_
    exact W.iret (v := (-4)) hx hb hr (fun t ht hW => by subst hf; exact ⟨rfl, by rw [ht]; exact hP, hS.F ht⟩) hS.2.2 dX_field_15
  · have hf := zn c1 hf
    have hg := zgn c1 hg
    refine lv_iload_n hx hb dX_field_5 rfl (lv_at hl 2 rfl) ?_
    refine lv_iload_n hx hb dX_field_6 rfl (lv_at hl 1 rfl) ?_
    refine vp_callSi (W.runS (As := [.int p0]) (rest := [.int p1]) ⟨hx, hb, hml, hown, hts⟩ (tX_mostBytes l hI u p0) (va_cwS 1 hts (zgS m_209 m_210 m_1 m_211) rfl rfl rfl (by decide +kernel) ⟨Nat.le_of_ble_eq_true rfl, Nat.le_of_ble_eq_true rfl⟩) (zpreS hP hE hS.2.1) rfl rfl hl.1 rfl (lv_room (Nat.le_of_ble_eq_true rfl)) dX_field_7 ⟨Nat.zero_le _, Nat.zero_le _⟩) (fun r9 hr9 => ?_)
    subst hr9
    refine lv_icmp_le (tgt := 16) hx hb dX_field_10 (by decide) (fun c2 => ?_) (fun c2 => ?_)
    · have hf := zt c2 hf
      have hg := zgt c2 hg
      refine lv_aload_n hx hb dX_field_16 rfl (lv_at hl 0 rfl) ?_
      refine va_get (D := D) (ci := 0) (v := .ref (a 1)) (C := RX) (T := TX) (N := 10) hx hb hts (fun w h9 => zc (inX w h9)) hown hK hP 0 rfl rfl 1 (by decide) (hts _ (zc m_175)) (fun _ h9 => h9) rfl dX_field_17 ?_
      refine lv_iload_n hx hb dX_field_20 rfl (lv_at hl 1 rfl) ?_
      refine lv_iload_n hx hb dX_field_21 rfl (lv_at hl 2 rfl) ?_
      obtain ⟨h3, hg⟩ := hg
      refine zmui (W.runV (As := [.int p0, .int p1]) (rest := []) ⟨hx, hb, hml, hown, hts⟩ (tXF_add l hI u p0 p1 h3) (cwV 2 hts (zgV m_212 m_213 m_214 m_2 m_215) rfl rfl rfl (by decide +kernel) ⟨Nat.le_of_ble_eq_true rfl, Nat.le_of_ble_eq_true rfl⟩) (zpre hP hE hS.2.1 (va_recv hK hP (ci := 1) (q0 := 1) rfl rfl)) rfl rfl hl.1 rfl (lv_room (Nat.le_of_ble_eq_true rfl)) dX_field_22 ⟨Nat.zero_le _, Nat.zero_le _⟩) hS hf hg (fun u4 H locs hf hg hP hS => ?_)
      exact W.iret (v := u4.1) hx hb hr (fun t ht hW => by subst hf; exact ⟨rfl, by rw [ht]; exact hP, hS.F ht⟩) hS.2.2 dX_field_25
    · have hf := zn c2 hf
      have hg := zgn c2 hg
      refine lv_bipush (v := (-4)) hx hb dX_field_13 (by decide) ?_
      exact W.iret (v := (-4)) hx hb hr (fun t ht hW => by subst hf; exact ⟨rfl, by rw [ht]; exact hP, hS.F ht⟩) hS.2.2 dX_field_15
theorem dXF_has_0 : decode cXF_has 0 = .ok (.iload_n 1, 1) := by decide +kernel
theorem dXF_has_1 : decode cXF_has 1 = .ok (.ifCond .lt 15, 3) := by decide +kernel
theorem dXF_has_4 : decode cXF_has 4 = .ok (.iload_n 1, 1) := by decide +kernel
theorem dXF_has_5 : decode cXF_has 5 = .ok (.aload_n 0, 1) := by decide +kernel
theorem dXF_has_6 : decode cXF_has 6 = .ok (.getfield 24, 3) := by decide +kernel
theorem dXF_has_9 : decode cXF_has 9 = .ok (.if_icmp .ge 7, 3) := by decide +kernel
theorem dXF_has_12 : decode cXF_has 12 = .ok (.iconst 1, 1) := by decide +kernel
theorem dXF_has_13 : decode cXF_has 13 = .ok (.goto 4, 3) := by decide +kernel
theorem dXF_has_16 : decode cXF_has 16 = .ok (.iconst 0, 1) := by decide +kernel
theorem dXF_has_17 : decode cXF_has 17 = .ok (.ireturn, 1) := by decide +kernel
abbrev wsXF_has : List Cond := Cond.code yXF_has cXF_has 2 (some .boolean) :: zWords
def FXF_has (u : XS) (p0 : Int32) : Int32 := (if p0 < 0 then 0 else (if (Xg_fields_made u) ≤ p0 then 0 else 1))
theorem bFXF_has (u : XS) (p0 : Int32) : FXF_has u p0 = 0 ∨ FXF_has u p0 = 1 := by
  unfold FXF_has
  repeat' split
  all_goals first | exact Or.inl rfl | exact Or.inr rfl
set_option maxHeartbeats 4000000 in
set_option maxRecDepth 100000 in
theorem tXF_has (l : Launch) {D : va_G} {k : zK} {a : Nat → Nat} (hI : zI 29 a) (u : XS) (p0 : Int32) : Met l yXF_has wsXF_has ({ frames := 0, cells := 0, slots := 0, locals := 0 }) (zPc D k (zA 29 a) (wX k a u) [.ref (a 1), .int p0]) (vp_Si (fun r9 => r9 = (FXF_has u p0))) 0 0 (fun _ => False) := by
  refine Met.ofW (cc := cXF_has) (maxL := 2) (ret := (some .boolean)) (by decide) rfl ?_
  intro p e s m args below meth c s₁ B hml hv
  obtain ⟨rfl, hP, hE⟩ := hv
  have hts := atoms_spec (ws := wsXF_has) B.pre
  have C0 : zC p s m _ meth c cXF_has (some .boolean) 2 RXF wsXF_has D k (zA 29 a) := ⟨B.exec, B.bytes, B.returns, hml, findClass_of_methodNamed B.named, hts, B.notSynchronized, hE⟩
  obtain ⟨hx, hb, hr, hml, hown, _, hlocks, _⟩ := id C0
  have hK := hE.1
  have hS : va_S (zA 29 a) s.heap s.heap [] := va_S.rf
  generalize hf : FXF_has u p0 = tgt
  change ((if p0 < 0 then 0 else (if (Xg_fields_made u) ≤ p0 then 0 else 1)) : Int32) = tgt at hf
  have hl := lv_entry ([.ref (a 1), .int p0]) (n := 2) (Nat.le_of_ble_eq_true rfl)
  rw [lg_entry_eq]
  generalize (lg_sl ([.ref (a 1), .int p0]) ++ List.replicate (2 - (lg_sl ([.ref (a 1), .int p0])).length) Slot.unset).toArray = ls at hl ⊢
  have hl : lv_has ls 2 [(0, .ref (a 1)), (1, .int p0)] := hl
  refine lv_iload_n hx hb dXF_has_0 rfl (lv_at hl 1 rfl) ?_
  refine lv_if_lt (tgt := 16) hx hb dXF_has_1 (by decide) (fun c1 => ?_) (fun c1 => ?_)
  · have hf := zt c1 hf
    refine lv_iconst (v := 0) hx hb dXF_has_16 (by decide) ?_
    exact W.zret (v := 0) (ty := .boolean) hx hb hr rfl (fun t ht hW => ⟨_, rfl, hf, ht⟩) (fun _ h9 => nomatch h9) dXF_has_17
  · have hf := zn c1 hf
    refine lv_iload_n hx hb dXF_has_4 rfl (lv_at hl 1 rfl) ?_
    refine lv_aload_n hx hb dXF_has_5 rfl (lv_at hl 0 rfl) ?_
    refine va_get (D := D) (ci := 1) (v := .int (Xg_fields_made u)) (C := RXF) (T := TXF) (N := 5) hx hb hts (fun w h9 => zc (inXF w h9)) hown hK hP 1 rfl rfl 4 (by decide) (hts _ (zc m_38)) (fun _ h9 => h9) rfl dXF_has_6 ?_
    refine lv_icmp_ge (tgt := 16) hx hb dXF_has_9 (by decide) (fun c2 => ?_) (fun c2 => ?_)
    · have hf := zt c2 hf
      refine lv_iconst (v := 0) hx hb dXF_has_16 (by decide) ?_
      exact W.zret (v := 0) (ty := .boolean) hx hb hr rfl (fun t ht hW => ⟨_, rfl, hf, ht⟩) (fun _ h9 => nomatch h9) dXF_has_17
    · have hf := zn c2 hf
      refine lv_iconst (v := 1) hx hb dXF_has_12 (by decide) ?_
      refine lv_goto (tgt := 17) hx hb dXF_has_13 (by decide) ?_
      exact W.zret (v := 1) (ty := .boolean) hx hb hr rfl (fun t ht hW => ⟨_, rfl, hf, ht⟩) (fun _ h9 => nomatch h9) dXF_has_17
theorem dX_octet_0 : decode cX_octet 0 = .ok (.aload_n 0, 1) := by decide +kernel
theorem dX_octet_1 : decode cX_octet 1 = .ok (.getfield 10, 3) := by decide +kernel
theorem dX_octet_4 : decode cX_octet 4 = .ok (.iload_n 1, 1) := by decide +kernel
theorem dX_octet_5 : decode cX_octet 5 = .ok (.invokevirtual 74, 3) := by decide +kernel
theorem dX_octet_8 : decode cX_octet 8 = .ok (.ifCond .ne 6, 3) := by decide +kernel
theorem dX_octet_11 : decode cX_octet 11 = .ok (.bipush (-2), 2) := by decide +kernel
theorem dX_octet_13 : decode cX_octet 13 = .ok (.ireturn, 1) := by decide +kernel
theorem dX_octet_14 : decode cX_octet 14 = .ok (.iload_n 2, 1) := by decide +kernel
theorem dX_octet_15 : decode cX_octet 15 = .ok (.ifCond .lt 16, 3) := by decide +kernel
theorem dX_octet_18 : decode cX_octet 18 = .ok (.iload_n 2, 1) := by decide +kernel
theorem dX_octet_19 : decode cX_octet 19 = .ok (.aload_n 0, 1) := by decide +kernel
theorem dX_octet_20 : decode cX_octet 20 = .ok (.getfield 10, 3) := by decide +kernel
theorem dX_octet_23 : decode cX_octet 23 = .ok (.getfield 78, 3) := by decide +kernel
theorem dX_octet_26 : decode cX_octet 26 = .ok (.iload_n 1, 1) := by decide +kernel
theorem dX_octet_27 : decode cX_octet 27 = .ok (.iaload, 1) := by decide +kernel
theorem dX_octet_28 : decode cX_octet 28 = .ok (.if_icmp .lt 6, 3) := by decide +kernel
theorem dX_octet_31 : decode cX_octet 31 = .ok (.bipush (-4), 2) := by decide +kernel
theorem dX_octet_33 : decode cX_octet 33 = .ok (.ireturn, 1) := by decide +kernel
theorem dX_octet_34 : decode cX_octet 34 = .ok (.aload_n 0, 1) := by decide +kernel
theorem dX_octet_35 : decode cX_octet 35 = .ok (.getfield 10, 3) := by decide +kernel
theorem dX_octet_38 : decode cX_octet 38 = .ok (.getfield 81, 3) := by decide +kernel
theorem dX_octet_41 : decode cX_octet 41 = .ok (.iload_n 1, 1) := by decide +kernel
theorem dX_octet_42 : decode cX_octet 42 = .ok (.bipush 32, 2) := by decide +kernel
theorem dX_octet_44 : decode cX_octet 44 = .ok (.imul, 1) := by decide +kernel
theorem dX_octet_45 : decode cX_octet 45 = .ok (.iload_n 2, 1) := by decide +kernel
theorem dX_octet_46 : decode cX_octet 46 = .ok (.iadd, 1) := by decide +kernel
theorem dX_octet_47 : decode cX_octet 47 = .ok (.iload_n 3, 1) := by decide +kernel
theorem dX_octet_48 : decode cX_octet 48 = .ok (.sipush 255, 3) := by decide +kernel
theorem dX_octet_51 : decode cX_octet 51 = .ok (.iand, 1) := by decide +kernel
theorem dX_octet_52 : decode cX_octet 52 = .ok (.iastore, 1) := by decide +kernel
theorem dX_octet_53 : decode cX_octet 53 = .ok (.iconst 1, 1) := by decide +kernel
theorem dX_octet_54 : decode cX_octet 54 = .ok (.ireturn, 1) := by decide +kernel
abbrev wsX_octet : List Cond := Cond.code yX_octet cX_octet 4 (some .int) :: zWords
def FX_octet (u : XS) (p0 : Int32) (p1 : Int32) (p2 : Int32) : Int32 × XS := (if (FXF_has u p0) = 0 then ((-2), u) else (if p1 < 0 then ((-4), u) else (if p1 < ((Xg_fields_size u) p0.toNatClampNeg) then (zlet (Xs_fields_bytes u (upd (Xg_fields_bytes u) (((p0 * 32) + p1).toNatClampNeg) (p2 &&& 255))) (fun u6 => (1, u6))) else ((-4), u))))
def GX_octet (u : XS) (p0 : Int32) (p1 : Int32) (p2 : Int32) : Prop := (if (FXF_has u p0) = 0 then True else (if p1 < 0 then True else (vp_in p0 40 ∧ (if p1 < ((Xg_fields_size u) p0.toNatClampNeg) then (vp_in ((p0 * 32) + p1) 1280 ∧ (zlet (Xs_fields_bytes u (upd (Xg_fields_bytes u) (((p0 * 32) + p1).toNatClampNeg) (p2 &&& 255))) (fun u6 => True))) else True))))
set_option maxHeartbeats 4000000 in
set_option maxRecDepth 100000 in
theorem tX_octet (l : Launch) {D : va_G} {k : zK} {a : Nat → Nat} (hI : zI 29 a) (u : XS) (p0 : Int32) (p1 : Int32) (p2 : Int32) (hg : GX_octet u p0 p1 p2) : Met l yX_octet wsX_octet ({ frames := 1, cells := 0, slots := 0, locals := 21 }) (zPc D k (zA 29 a) (wX k a u) [.ref (a 0), .int p0, .int p1, .int p2]) (zQi D (wX k a) (zA 29 a) (FX_octet u p0 p1 p2)) 0 0 (zA 29 a) := by
  refine Met.ofW (cc := cX_octet) (maxL := 4) (ret := (some .int)) (by decide) rfl ?_
  intro p e s m args below meth c s₁ B hml hv
  obtain ⟨rfl, hP, hE⟩ := hv
  have hts := atoms_spec (ws := wsX_octet) B.pre
  have C0 : zC p s m _ meth c cX_octet (some .int) 4 RX wsX_octet D k (zA 29 a) := ⟨B.exec, B.bytes, B.returns, hml, findClass_of_methodNamed B.named, hts, B.notSynchronized, hE⟩
  obtain ⟨hx, hb, hr, hml, hown, _, hlocks, _⟩ := id C0
  have hK := hE.1
  have hS : va_S (zA 29 a) s.heap s.heap [] := va_S.rf
  generalize hf : FX_octet u p0 p1 p2 = tgt
  change ((if (FXF_has u p0) = 0 then ((-2), u) else (if p1 < 0 then ((-4), u) else (if p1 < ((Xg_fields_size u) p0.toNatClampNeg) then (zlet (Xs_fields_bytes u (upd (Xg_fields_bytes u) (((p0 * 32) + p1).toNatClampNeg) (p2 &&& 255))) (fun u6 => (1, u6))) else ((-4), u)))) : Int32 × XS) = tgt at hf
  change (if (FXF_has u p0) = 0 then True else (if p1 < 0 then True else (vp_in p0 40 ∧ (if p1 < ((Xg_fields_size u) p0.toNatClampNeg) then (vp_in ((p0 * 32) + p1) 1280 ∧ (zlet (Xs_fields_bytes u (upd (Xg_fields_bytes u) (((p0 * 32) + p1).toNatClampNeg) (p2 &&& 255))) (fun u6 => True))) else True)))) at hg
  have hl := lv_entry ([.ref (a 0), .int p0, .int p1, .int p2]) (n := 4) (Nat.le_of_ble_eq_true rfl)
  rw [lg_entry_eq]
  generalize (lg_sl ([.ref (a 0), .int p0, .int p1, .int p2]) ++ List.replicate (4 - (lg_sl ([.ref (a 0), .int p0, .int p1, .int p2])).length) Slot.unset).toArray = ls at hl ⊢
  have hl : lv_has ls 4 [(0, .ref (a 0)), (1, .int p0), (2, .int p1), (3, .int p2)] := hl
  refine lv_aload_n hx hb dX_octet_0 rfl (lv_at hl 0 rfl) ?_
  refine va_get (D := D) (ci := 0) (v := .ref (a 1)) (C := RX) (T := TX) (N := 10) hx hb hts (fun w h9 => zc (inX w h9)) hown hK hP 0 rfl rfl 1 (by decide) (hts _ (zc m_175)) (fun _ h9 => h9) rfl dX_octet_1 ?_
  refine lv_iload_n hx hb dX_octet_4 rfl (lv_at hl 1 rfl) ?_
  refine vp_callSi (W.runV (As := [.int p0]) (rest := []) ⟨hx, hb, hml, hown, hts⟩ (tXF_has l hI u p0) (cwV 1 hts (zgV m_223 m_224 m_225 m_2 m_226) rfl rfl rfl (by decide +kernel) ⟨Nat.le_of_ble_eq_true rfl, Nat.le_of_ble_eq_true rfl⟩) (zpre hP hE hS.2.1 (va_recv hK hP (ci := 1) (q0 := 1) rfl rfl)) rfl rfl hl.1 rfl (lv_room (Nat.le_of_ble_eq_true rfl)) dX_octet_5 ⟨Nat.zero_le _, Nat.zero_le _⟩) (fun r9 hr9 => ?_)
  subst hr9
  refine lv_if_ne (tgt := 14) hx hb dX_octet_8 (by decide) (fun c1 => ?_) (fun c1 => ?_)
  · have hf := zn c1 hf
    have hg := zgn c1 hg
    refine lv_iload_n hx hb dX_octet_14 rfl (lv_at hl 2 rfl) ?_
    refine lv_if_lt (tgt := 31) hx hb dX_octet_15 (by decide) (fun c2 => ?_) (fun c2 => ?_)
    · have hf := zt c2 hf
      have hg := zgt c2 hg
      refine lv_bipush (v := (-4)) hx hb dX_octet_31 (by decide) ?_
      exact W.iret (v := (-4)) hx hb hr (fun t ht hW => by subst hf; exact ⟨rfl, by rw [ht]; exact hP, hS.F ht⟩) hS.2.2 dX_octet_33
    · have hf := zn c2 hf
      have hg := zgn c2 hg
      refine lv_iload_n hx hb dX_octet_18 rfl (lv_at hl 2 rfl) ?_
      refine lv_aload_n hx hb dX_octet_19 rfl (lv_at hl 0 rfl) ?_
      refine va_get (D := D) (ci := 0) (v := .ref (a 1)) (C := RX) (T := TX) (N := 10) hx hb hts (fun w h9 => zc (inX w h9)) hown hK hP 0 rfl rfl 1 (by decide) (hts _ (zc m_175)) (fun _ h9 => h9) rfl dX_octet_20 ?_
      refine va_getN (D := D) (ci := 1) (v := .ref (a 3)) (C := RXF) (T := TXF) (N := 5) hx hb hts (fun w h9 => zc (inXF w h9)) hown hK hP 1 rfl rfl 1 (by decide) (va_Nw.use rfl (hE.2.1 _ zn_1)) (fun _ h9 => h9) rfl dX_octet_23 ?_
      refine lv_iload_n hx hb dX_octet_26 rfl (lv_at hl 1 rfl) ?_
      obtain ⟨h3, hg⟩ := hg
      refine va_iald hx hb hK hP 3 0 rfl rfl h3 dX_octet_27 ?_
      refine lv_icmp_lt (tgt := 34) hx hb dX_octet_28 (by decide) (fun c4 => ?_) (fun c4 => ?_)
      · have hf := zt c4 hf
        have hg := zgt c4 hg
        refine lv_aload_n hx hb dX_octet_34 rfl (lv_at hl 0 rfl) ?_
        refine va_get (D := D) (ci := 0) (v := .ref (a 1)) (C := RX) (T := TX) (N := 10) hx hb hts (fun w h9 => zc (inX w h9)) hown hK hP 0 rfl rfl 1 (by decide) (hts _ (zc m_175)) (fun _ h9 => h9) rfl dX_octet_35 ?_
        refine va_getN (D := D) (ci := 1) (v := .ref (a 5)) (C := RXF) (T := TXF) (N := 5) hx hb hts (fun w h9 => zc (inXF w h9)) hown hK hP 1 rfl rfl 3 (by decide) (va_Nw.use rfl (hE.2.1 _ zn_3)) (fun _ h9 => h9) rfl dX_octet_38 ?_
        refine lv_iload_n hx hb dX_octet_41 rfl (lv_at hl 1 rfl) ?_
        refine lv_bipush (v := 32) hx hb dX_octet_42 (by decide) ?_
        refine lv_imul hx hb dX_octet_44 ?_
        refine lv_iload_n hx hb dX_octet_45 rfl (lv_at hl 2 rfl) ?_
        refine lv_iadd hx hb dX_octet_46 ?_
        refine lv_iload_n hx hb dX_octet_47 rfl (lv_at hl 3 rfl) ?_
        refine lv_sipush (v := 255) hx hb dX_octet_48 (by decide) ?_
        refine lv_iand hx hb dX_octet_51 ?_
        obtain ⟨h5, hg⟩ := hg
        refine va_iast hx hb hK hP (XD hI _) hS 5 0 rfl rfl h5 dX_octet_52 (fun H locs hP _ hS => ?_)
        obtain ⟨u6, hP, hf, hg⟩ := zlets (E := (Xs_fields_bytes u (upd (Xg_fields_bytes u) (((p0 * 32) + p1).toNatClampNeg) (p2 &&& 255)))) (w := wX k a) (Xp_fields_bytes hP) hf hg
        refine lv_iconst (v := 1) hx hb dX_octet_53 (by decide) ?_
        exact W.iret (v := 1) hx hb hr (fun t ht hW => by subst hf; exact ⟨rfl, by rw [ht]; exact hP, hS.F ht⟩) hS.2.2 dX_octet_54
      · have hf := zn c4 hf
        have hg := zgn c4 hg
        refine lv_bipush (v := (-4)) hx hb dX_octet_31 (by decide) ?_
        exact W.iret (v := (-4)) hx hb hr (fun t ht hW => by subst hf; exact ⟨rfl, by rw [ht]; exact hP, hS.F ht⟩) hS.2.2 dX_octet_33
  · have hf := zt c1 hf
    have hg := zgt c1 hg
    refine lv_bipush (v := (-2)) hx hb dX_octet_11 (by decide) ?_
    exact W.iret (v := (-2)) hx hb hr (fun t ht hW => by subst hf; exact ⟨rfl, by rw [ht]; exact hP, hS.F ht⟩) hS.2.2 dX_octet_13
theorem dXF_isText_0 : decode cXF_isText 0 = .ok (.aload_n 0, 1) := by decide +kernel
theorem dXF_isText_1 : decode cXF_isText 1 = .ok (.getfield 9, 3) := by decide +kernel
theorem dXF_isText_4 : decode cXF_isText 4 = .ok (.iload_n 1, 1) := by decide +kernel
theorem dXF_isText_5 : decode cXF_isText 5 = .ok (.iaload, 1) := by decide +kernel
theorem dXF_isText_6 : decode cXF_isText 6 = .ok (.ifCond .ne 7, 3) := by decide +kernel
theorem dXF_isText_9 : decode cXF_isText 9 = .ok (.iconst 1, 1) := by decide +kernel
theorem dXF_isText_10 : decode cXF_isText 10 = .ok (.goto 4, 3) := by decide +kernel
theorem dXF_isText_13 : decode cXF_isText 13 = .ok (.iconst 0, 1) := by decide +kernel
theorem dXF_isText_14 : decode cXF_isText 14 = .ok (.ireturn, 1) := by decide +kernel
abbrev wsXF_isText : List Cond := Cond.code yXF_isText cXF_isText 2 (some .boolean) :: zWords
def FXF_isText (u : XS) (p0 : Int32) : Int32 := (if ((Xg_fields_category u) p0.toNatClampNeg) = 0 then 1 else 0)
def GXF_isText (u : XS) (p0 : Int32) : Prop := (vp_in p0 40 ∧ True)
theorem bFXF_isText (u : XS) (p0 : Int32) : FXF_isText u p0 = 0 ∨ FXF_isText u p0 = 1 := by
  unfold FXF_isText
  repeat' split
  all_goals first | exact Or.inl rfl | exact Or.inr rfl
set_option maxHeartbeats 4000000 in
set_option maxRecDepth 100000 in
theorem tXF_isText (l : Launch) {D : va_G} {k : zK} {a : Nat → Nat} (hI : zI 29 a) (u : XS) (p0 : Int32) (hg : GXF_isText u p0) : Met l yXF_isText wsXF_isText ({ frames := 0, cells := 0, slots := 0, locals := 0 }) (zPc D k (zA 29 a) (wX k a u) [.ref (a 1), .int p0]) (vp_Si (fun r9 => r9 = (FXF_isText u p0))) 0 0 (fun _ => False) := by
  refine Met.ofW (cc := cXF_isText) (maxL := 2) (ret := (some .boolean)) (by decide) rfl ?_
  intro p e s m args below meth c s₁ B hml hv
  obtain ⟨rfl, hP, hE⟩ := hv
  have hts := atoms_spec (ws := wsXF_isText) B.pre
  have C0 : zC p s m _ meth c cXF_isText (some .boolean) 2 RXF wsXF_isText D k (zA 29 a) := ⟨B.exec, B.bytes, B.returns, hml, findClass_of_methodNamed B.named, hts, B.notSynchronized, hE⟩
  obtain ⟨hx, hb, hr, hml, hown, _, hlocks, _⟩ := id C0
  have hK := hE.1
  have hS : va_S (zA 29 a) s.heap s.heap [] := va_S.rf
  generalize hf : FXF_isText u p0 = tgt
  change ((if ((Xg_fields_category u) p0.toNatClampNeg) = 0 then 1 else 0) : Int32) = tgt at hf
  change (vp_in p0 40 ∧ True) at hg
  have hl := lv_entry ([.ref (a 1), .int p0]) (n := 2) (Nat.le_of_ble_eq_true rfl)
  rw [lg_entry_eq]
  generalize (lg_sl ([.ref (a 1), .int p0]) ++ List.replicate (2 - (lg_sl ([.ref (a 1), .int p0])).length) Slot.unset).toArray = ls at hl ⊢
  have hl : lv_has ls 2 [(0, .ref (a 1)), (1, .int p0)] := hl
  refine lv_aload_n hx hb dXF_isText_0 rfl (lv_at hl 0 rfl) ?_
  refine va_get (D := D) (ci := 1) (v := .ref (a 2)) (C := RXF) (T := TXF) (N := 5) hx hb hts (fun w h9 => zc (inXF w h9)) hown hK hP 1 rfl rfl 0 (by decide) (hts _ (zc m_31)) (fun _ h9 => h9) rfl dXF_isText_1 ?_
  refine lv_iload_n hx hb dXF_isText_4 rfl (lv_at hl 1 rfl) ?_
  obtain ⟨h1, hg⟩ := hg
  refine va_iald hx hb hK hP 2 0 rfl rfl h1 dXF_isText_5 ?_
  refine lv_if_ne (tgt := 13) hx hb dXF_isText_6 (by decide) (fun c2 => ?_) (fun c2 => ?_)
  · have hf := zn c2 hf
    refine lv_iconst (v := 0) hx hb dXF_isText_13 (by decide) ?_
    exact W.zret (v := 0) (ty := .boolean) hx hb hr rfl (fun t ht hW => ⟨_, rfl, hf, ht⟩) (fun _ h9 => nomatch h9) dXF_isText_14
  · have hf := zt c2 hf
    refine lv_iconst (v := 1) hx hb dXF_isText_9 (by decide) ?_
    refine lv_goto (tgt := 14) hx hb dXF_isText_10 (by decide) ?_
    exact W.zret (v := 1) (ty := .boolean) hx hb hr rfl (fun t ht hW => ⟨_, rfl, hf, ht⟩) (fun _ h9 => nomatch h9) dXF_isText_14
theorem dXF_hasNumber_0 : decode cXF_hasNumber 0 = .ok (.aload_n 0, 1) := by decide +kernel
theorem dXF_hasNumber_1 : decode cXF_hasNumber 1 = .ok (.iload_n 1, 1) := by decide +kernel
theorem dXF_hasNumber_2 : decode cXF_hasNumber 2 = .ok (.invokevirtual 28, 3) := by decide +kernel
theorem dXF_hasNumber_5 : decode cXF_hasNumber 5 = .ok (.ifCond .eq 15, 3) := by decide +kernel
theorem dXF_hasNumber_8 : decode cXF_hasNumber 8 = .ok (.aload_n 0, 1) := by decide +kernel
theorem dXF_hasNumber_9 : decode cXF_hasNumber 9 = .ok (.iload_n 1, 1) := by decide +kernel
theorem dXF_hasNumber_10 : decode cXF_hasNumber 10 = .ok (.invokevirtual 32, 3) := by decide +kernel
theorem dXF_hasNumber_13 : decode cXF_hasNumber 13 = .ok (.ifCond .ne 7, 3) := by decide +kernel
theorem dXF_hasNumber_16 : decode cXF_hasNumber 16 = .ok (.iconst 1, 1) := by decide +kernel
theorem dXF_hasNumber_17 : decode cXF_hasNumber 17 = .ok (.goto 4, 3) := by decide +kernel
theorem dXF_hasNumber_20 : decode cXF_hasNumber 20 = .ok (.iconst 0, 1) := by decide +kernel
theorem dXF_hasNumber_21 : decode cXF_hasNumber 21 = .ok (.ireturn, 1) := by decide +kernel
abbrev wsXF_hasNumber : List Cond := Cond.code yXF_hasNumber cXF_hasNumber 2 (some .boolean) :: zWords
def FXF_hasNumber (u : XS) (p0 : Int32) : Int32 := (if (FXF_has u p0) = 0 then 0 else (if (FXF_isText u p0) = 0 then 1 else 0))
def GXF_hasNumber (u : XS) (p0 : Int32) : Prop := (if (FXF_has u p0) = 0 then True else (GXF_isText u p0 ∧ True))
theorem bFXF_hasNumber (u : XS) (p0 : Int32) : FXF_hasNumber u p0 = 0 ∨ FXF_hasNumber u p0 = 1 := by
  unfold FXF_hasNumber
  repeat' split
  all_goals first | exact Or.inl rfl | exact Or.inr rfl | exact bFXF_has _ _ | exact bFXF_isText _ _
set_option maxHeartbeats 4000000 in
set_option maxRecDepth 100000 in
theorem tXF_hasNumber (l : Launch) {D : va_G} {k : zK} {a : Nat → Nat} (hI : zI 29 a) (u : XS) (p0 : Int32) (hg : GXF_hasNumber u p0) : Met l yXF_hasNumber wsXF_hasNumber ({ frames := 1, cells := 0, slots := 0, locals := 21 }) (zPc D k (zA 29 a) (wX k a u) [.ref (a 1), .int p0]) (vp_Si (fun r9 => r9 = (FXF_hasNumber u p0))) 0 0 (fun _ => False) := by
  refine Met.ofW (cc := cXF_hasNumber) (maxL := 2) (ret := (some .boolean)) (by decide) rfl ?_
  intro p e s m args below meth c s₁ B hml hv
  obtain ⟨rfl, hP, hE⟩ := hv
  have hts := atoms_spec (ws := wsXF_hasNumber) B.pre
  have C0 : zC p s m _ meth c cXF_hasNumber (some .boolean) 2 RXF wsXF_hasNumber D k (zA 29 a) := ⟨B.exec, B.bytes, B.returns, hml, findClass_of_methodNamed B.named, hts, B.notSynchronized, hE⟩
  obtain ⟨hx, hb, hr, hml, hown, _, hlocks, _⟩ := id C0
  have hK := hE.1
  have hS : va_S (zA 29 a) s.heap s.heap [] := va_S.rf
  generalize hf : FXF_hasNumber u p0 = tgt
  change ((if (FXF_has u p0) = 0 then 0 else (if (FXF_isText u p0) = 0 then 1 else 0)) : Int32) = tgt at hf
  change (if (FXF_has u p0) = 0 then True else (GXF_isText u p0 ∧ True)) at hg
  have hl := lv_entry ([.ref (a 1), .int p0]) (n := 2) (Nat.le_of_ble_eq_true rfl)
  rw [lg_entry_eq]
  generalize (lg_sl ([.ref (a 1), .int p0]) ++ List.replicate (2 - (lg_sl ([.ref (a 1), .int p0])).length) Slot.unset).toArray = ls at hl ⊢
  have hl : lv_has ls 2 [(0, .ref (a 1)), (1, .int p0)] := hl
  refine lv_aload_n hx hb dXF_hasNumber_0 rfl (lv_at hl 0 rfl) ?_
  refine lv_iload_n hx hb dXF_hasNumber_1 rfl (lv_at hl 1 rfl) ?_
  refine vp_callSi (W.runV (As := [.int p0]) (rest := []) ⟨hx, hb, hml, hown, hts⟩ (tXF_has l hI u p0) (cwV 1 hts (zgV m_235 m_224 m_225 m_2 m_226) rfl rfl rfl (by decide +kernel) ⟨Nat.le_of_ble_eq_true rfl, Nat.le_of_ble_eq_true rfl⟩) (zpre hP hE hS.2.1 (va_recv hK hP (ci := 1) (q0 := 1) rfl rfl)) rfl rfl hl.1 rfl (lv_room (Nat.le_of_ble_eq_true rfl)) dXF_hasNumber_2 ⟨Nat.zero_le _, Nat.zero_le _⟩) (fun r9 hr9 => ?_)
  subst hr9
  refine lv_if_eq (tgt := 20) hx hb dXF_hasNumber_5 (by decide) (fun c1 => ?_) (fun c1 => ?_)
  · have hf := zt c1 hf
    have hg := zgt c1 hg
    refine lv_iconst (v := 0) hx hb dXF_hasNumber_20 (by decide) ?_
    exact W.zret (v := 0) (ty := .boolean) hx hb hr rfl (fun t ht hW => ⟨_, rfl, hf, ht⟩) (fun _ h9 => nomatch h9) dXF_hasNumber_21
  · have hf := zn c1 hf
    have hg := zgn c1 hg
    refine lv_aload_n hx hb dXF_hasNumber_8 rfl (lv_at hl 0 rfl) ?_
    refine lv_iload_n hx hb dXF_hasNumber_9 rfl (lv_at hl 1 rfl) ?_
    obtain ⟨h2, hg⟩ := hg
    refine vp_callSi (W.runV (As := [.int p0]) (rest := []) ⟨hx, hb, hml, hown, hts⟩ (tXF_isText l hI u p0 h2) (cwV 1 hts (zgV m_236 m_237 m_238 m_2 m_239) rfl rfl rfl (by decide +kernel) ⟨Nat.le_of_ble_eq_true rfl, Nat.le_of_ble_eq_true rfl⟩) (zpre hP hE hS.2.1 (va_recv hK hP (ci := 1) (q0 := 1) rfl rfl)) rfl rfl hl.1 rfl (lv_room (Nat.le_of_ble_eq_true rfl)) dXF_hasNumber_10 ⟨Nat.zero_le _, Nat.zero_le _⟩) (fun r9 hr9 => ?_)
    subst hr9
    refine lv_if_ne (tgt := 20) hx hb dXF_hasNumber_13 (by decide) (fun c3 => ?_) (fun c3 => ?_)
    · have hf := zn c3 hf
      refine lv_iconst (v := 0) hx hb dXF_hasNumber_20 (by decide) ?_
      exact W.zret (v := 0) (ty := .boolean) hx hb hr rfl (fun t ht hW => ⟨_, rfl, hf, ht⟩) (fun _ h9 => nomatch h9) dXF_hasNumber_21
    · have hf := zt c3 hf
      refine lv_iconst (v := 1) hx hb dXF_hasNumber_16 (by decide) ?_
      refine lv_goto (tgt := 21) hx hb dXF_hasNumber_17 (by decide) ?_
      exact W.zret (v := 1) (ty := .boolean) hx hb hr rfl (fun t ht hW => ⟨_, rfl, hf, ht⟩) (fun _ h9 => nomatch h9) dXF_hasNumber_21
theorem dX_scale_0 : decode cX_scale 0 = .ok (.aload_n 0, 1) := by decide +kernel
theorem dX_scale_1 : decode cX_scale 1 = .ok (.getfield 10, 3) := by decide +kernel
theorem dX_scale_4 : decode cX_scale 4 = .ok (.iload_n 1, 1) := by decide +kernel
theorem dX_scale_5 : decode cX_scale 5 = .ok (.invokevirtual 84, 3) := by decide +kernel
theorem dX_scale_8 : decode cX_scale 8 = .ok (.ifCond .ne 6, 3) := by decide +kernel
theorem dX_scale_11 : decode cX_scale 11 = .ok (.bipush (-2), 2) := by decide +kernel
theorem dX_scale_13 : decode cX_scale 13 = .ok (.ireturn, 1) := by decide +kernel
theorem dX_scale_14 : decode cX_scale 14 = .ok (.iload_n 2, 1) := by decide +kernel
theorem dX_scale_15 : decode cX_scale 15 = .ok (.ifCond .lt 9, 3) := by decide +kernel
theorem dX_scale_18 : decode cX_scale 18 = .ok (.iload_n 2, 1) := by decide +kernel
theorem dX_scale_19 : decode cX_scale 19 = .ok (.bipush 9, 2) := by decide +kernel
theorem dX_scale_21 : decode cX_scale 21 = .ok (.if_icmp .le 6, 3) := by decide +kernel
theorem dX_scale_24 : decode cX_scale 24 = .ok (.bipush (-4), 2) := by decide +kernel
theorem dX_scale_26 : decode cX_scale 26 = .ok (.ireturn, 1) := by decide +kernel
theorem dX_scale_27 : decode cX_scale 27 = .ok (.aload_n 0, 1) := by decide +kernel
theorem dX_scale_28 : decode cX_scale 28 = .ok (.getfield 10, 3) := by decide +kernel
theorem dX_scale_31 : decode cX_scale 31 = .ok (.getfield 87, 3) := by decide +kernel
theorem dX_scale_34 : decode cX_scale 34 = .ok (.iload_n 1, 1) := by decide +kernel
theorem dX_scale_35 : decode cX_scale 35 = .ok (.iaload, 1) := by decide +kernel
theorem dX_scale_36 : decode cX_scale 36 = .ok (.istore_n 3, 1) := by decide +kernel
theorem dX_scale_37 : decode cX_scale 37 = .ok (.aload_n 0, 1) := by decide +kernel
theorem dX_scale_38 : decode cX_scale 38 = .ok (.getfield 10, 3) := by decide +kernel
theorem dX_scale_41 : decode cX_scale 41 = .ok (.getfield 87, 3) := by decide +kernel
theorem dX_scale_44 : decode cX_scale 44 = .ok (.iload_n 1, 1) := by decide +kernel
theorem dX_scale_45 : decode cX_scale 45 = .ok (.iload_n 2, 1) := by decide +kernel
theorem dX_scale_46 : decode cX_scale 46 = .ok (.iastore, 1) := by decide +kernel
theorem dX_scale_47 : decode cX_scale 47 = .ok (.iload_n 3, 1) := by decide +kernel
theorem dX_scale_48 : decode cX_scale 48 = .ok (.ireturn, 1) := by decide +kernel
abbrev wsX_scale : List Cond := Cond.code yX_scale cX_scale 4 (some .int) :: zWords
def FX_scale (u : XS) (p0 : Int32) (p1 : Int32) : Int32 × XS := (if (FXF_hasNumber u p0) = 0 then ((-2), u) else (if p1 < 0 then ((-4), u) else (if p1 ≤ 9 then (zlet (Xs_fields_scale u (upd (Xg_fields_scale u) (p0.toNatClampNeg) p1)) (fun u7 => (((Xg_fields_scale u) p0.toNatClampNeg), u7))) else ((-4), u))))
def GX_scale (u : XS) (p0 : Int32) (p1 : Int32) : Prop := (GXF_hasNumber u p0 ∧ (if (FXF_hasNumber u p0) = 0 then True else (if p1 < 0 then True else (if p1 ≤ 9 then (vp_in p0 40 ∧ (vp_in p0 40 ∧ (zlet (Xs_fields_scale u (upd (Xg_fields_scale u) (p0.toNatClampNeg) p1)) (fun u7 => True)))) else True))))
set_option maxHeartbeats 4000000 in
set_option maxRecDepth 100000 in
theorem tX_scale (l : Launch) {D : va_G} {k : zK} {a : Nat → Nat} (hI : zI 29 a) (u : XS) (p0 : Int32) (p1 : Int32) (hg : GX_scale u p0 p1) : Met l yX_scale wsX_scale ({ frames := 2, cells := 0, slots := 0, locals := 42 }) (zPc D k (zA 29 a) (wX k a u) [.ref (a 0), .int p0, .int p1]) (zQi D (wX k a) (zA 29 a) (FX_scale u p0 p1)) 0 0 (zA 29 a) := by
  refine Met.ofW (cc := cX_scale) (maxL := 4) (ret := (some .int)) (by decide) rfl ?_
  intro p e s m args below meth c s₁ B hml hv
  obtain ⟨rfl, hP, hE⟩ := hv
  have hts := atoms_spec (ws := wsX_scale) B.pre
  have C0 : zC p s m _ meth c cX_scale (some .int) 4 RX wsX_scale D k (zA 29 a) := ⟨B.exec, B.bytes, B.returns, hml, findClass_of_methodNamed B.named, hts, B.notSynchronized, hE⟩
  obtain ⟨hx, hb, hr, hml, hown, _, hlocks, _⟩ := id C0
  have hK := hE.1
  have hS : va_S (zA 29 a) s.heap s.heap [] := va_S.rf
  generalize hf : FX_scale u p0 p1 = tgt
  change ((if (FXF_hasNumber u p0) = 0 then ((-2), u) else (if p1 < 0 then ((-4), u) else (if p1 ≤ 9 then (zlet (Xs_fields_scale u (upd (Xg_fields_scale u) (p0.toNatClampNeg) p1)) (fun u7 => (((Xg_fields_scale u) p0.toNatClampNeg), u7))) else ((-4), u)))) : Int32 × XS) = tgt at hf
  change (GXF_hasNumber u p0 ∧ (if (FXF_hasNumber u p0) = 0 then True else (if p1 < 0 then True else (if p1 ≤ 9 then (vp_in p0 40 ∧ (vp_in p0 40 ∧ (zlet (Xs_fields_scale u (upd (Xg_fields_scale u) (p0.toNatClampNeg) p1)) (fun u7 => True)))) else True)))) at hg
  have hl := lv_entry ([.ref (a 0), .int p0, .int p1]) (n := 4) (Nat.le_of_ble_eq_true rfl)
  rw [lg_entry_eq]
  generalize (lg_sl ([.ref (a 0), .int p0, .int p1]) ++ List.replicate (4 - (lg_sl ([.ref (a 0), .int p0, .int p1])).length) Slot.unset).toArray = ls at hl ⊢
  have hl : lv_has ls 4 [(0, .ref (a 0)), (1, .int p0), (2, .int p1)] := hl
  refine lv_aload_n hx hb dX_scale_0 rfl (lv_at hl 0 rfl) ?_
  refine va_get (D := D) (ci := 0) (v := .ref (a 1)) (C := RX) (T := TX) (N := 10) hx hb hts (fun w h9 => zc (inX w h9)) hown hK hP 0 rfl rfl 1 (by decide) (hts _ (zc m_175)) (fun _ h9 => h9) rfl dX_scale_1 ?_
  refine lv_iload_n hx hb dX_scale_4 rfl (lv_at hl 1 rfl) ?_
  obtain ⟨h1, hg⟩ := hg
  refine vp_callSi (W.runV (As := [.int p0]) (rest := []) ⟨hx, hb, hml, hown, hts⟩ (tXF_hasNumber l hI u p0 h1) (cwV 1 hts (zgV m_231 m_232 m_233 m_2 m_234) rfl rfl rfl (by decide +kernel) ⟨Nat.le_of_ble_eq_true rfl, Nat.le_of_ble_eq_true rfl⟩) (zpre hP hE hS.2.1 (va_recv hK hP (ci := 1) (q0 := 1) rfl rfl)) rfl rfl hl.1 rfl (lv_room (Nat.le_of_ble_eq_true rfl)) dX_scale_5 ⟨Nat.zero_le _, Nat.zero_le _⟩) (fun r9 hr9 => ?_)
  subst hr9
  refine lv_if_ne (tgt := 14) hx hb dX_scale_8 (by decide) (fun c2 => ?_) (fun c2 => ?_)
  · have hf := zn c2 hf
    have hg := zgn c2 hg
    refine lv_iload_n hx hb dX_scale_14 rfl (lv_at hl 2 rfl) ?_
    refine lv_if_lt (tgt := 24) hx hb dX_scale_15 (by decide) (fun c3 => ?_) (fun c3 => ?_)
    · have hf := zt c3 hf
      have hg := zgt c3 hg
      refine lv_bipush (v := (-4)) hx hb dX_scale_24 (by decide) ?_
      exact W.iret (v := (-4)) hx hb hr (fun t ht hW => by subst hf; exact ⟨rfl, by rw [ht]; exact hP, hS.F ht⟩) hS.2.2 dX_scale_26
    · have hf := zn c3 hf
      have hg := zgn c3 hg
      refine lv_iload_n hx hb dX_scale_18 rfl (lv_at hl 2 rfl) ?_
      refine lv_bipush (v := 9) hx hb dX_scale_19 (by decide) ?_
      refine lv_icmp_le (tgt := 27) hx hb dX_scale_21 (by decide) (fun c4 => ?_) (fun c4 => ?_)
      · have hf := zt c4 hf
        have hg := zgt c4 hg
        refine lv_aload_n hx hb dX_scale_27 rfl (lv_at hl 0 rfl) ?_
        refine va_get (D := D) (ci := 0) (v := .ref (a 1)) (C := RX) (T := TX) (N := 10) hx hb hts (fun w h9 => zc (inX w h9)) hown hK hP 0 rfl rfl 1 (by decide) (hts _ (zc m_175)) (fun _ h9 => h9) rfl dX_scale_28 ?_
        refine va_getN (D := D) (ci := 1) (v := .ref (a 4)) (C := RXF) (T := TXF) (N := 5) hx hb hts (fun w h9 => zc (inXF w h9)) hown hK hP 1 rfl rfl 2 (by decide) (va_Nw.use rfl (hE.2.1 _ zn_2)) (fun _ h9 => h9) rfl dX_scale_31 ?_
        refine lv_iload_n hx hb dX_scale_34 rfl (lv_at hl 1 rfl) ?_
        obtain ⟨h5, hg⟩ := hg
        refine va_iald hx hb hK hP 4 0 rfl rfl h5 dX_scale_35 ?_
        refine lv_istore_n (lv' := [(3, .int ((Xg_fields_scale u) p0.toNatClampNeg)), (0, .ref (a 0)), (1, .int p0), (2, .int p1)]) hx hb dX_scale_36 rfl hl (by decide) rfl (fun ls hl => ?_)
        refine lv_aload_n hx hb dX_scale_37 rfl (lv_at hl 1 rfl) ?_
        refine va_get (D := D) (ci := 0) (v := .ref (a 1)) (C := RX) (T := TX) (N := 10) hx hb hts (fun w h9 => zc (inX w h9)) hown hK hP 0 rfl rfl 1 (by decide) (hts _ (zc m_175)) (fun _ h9 => h9) rfl dX_scale_38 ?_
        refine va_getN (D := D) (ci := 1) (v := .ref (a 4)) (C := RXF) (T := TXF) (N := 5) hx hb hts (fun w h9 => zc (inXF w h9)) hown hK hP 1 rfl rfl 2 (by decide) (va_Nw.use rfl (hE.2.1 _ zn_2)) (fun _ h9 => h9) rfl dX_scale_41 ?_
        refine lv_iload_n hx hb dX_scale_44 rfl (lv_at hl 2 rfl) ?_
        refine lv_iload_n hx hb dX_scale_45 rfl (lv_at hl 3 rfl) ?_
        obtain ⟨h6, hg⟩ := hg
        refine va_iast hx hb hK hP (XD hI _) hS 4 0 rfl rfl h6 dX_scale_46 (fun H locs hP _ hS => ?_)
        obtain ⟨u7, hP, hf, hg⟩ := zlets (E := (Xs_fields_scale u (upd (Xg_fields_scale u) (p0.toNatClampNeg) p1))) (w := wX k a) (Xp_fields_scale hP) hf hg
        refine lv_iload_n hx hb dX_scale_47 rfl (lv_at hl 0 rfl) ?_
        exact W.iret (v := ((Xg_fields_scale u) p0.toNatClampNeg)) hx hb hr (fun t ht hW => by subst hf; exact ⟨rfl, by rw [ht]; exact hP, hS.F ht⟩) hS.2.2 dX_scale_48
      · have hf := zn c4 hf
        have hg := zgn c4 hg
        refine lv_bipush (v := (-4)) hx hb dX_scale_24 (by decide) ?_
        exact W.iret (v := (-4)) hx hb hr (fun t ht hW => by subst hf; exact ⟨rfl, by rw [ht]; exact hP, hS.F ht⟩) hS.2.2 dX_scale_26
  · have hf := zt c2 hf
    have hg := zgt c2 hg
    refine lv_bipush (v := (-2)) hx hb dX_scale_11 (by decide) ?_
    exact W.iret (v := (-2)) hx hb hr (fun t ht hW => by subst hf; exact ⟨rfl, by rw [ht]; exact hP, hS.F ht⟩) hS.2.2 dX_scale_13
theorem dX_isByte_0 : decode cX_isByte 0 = .ok (.iload_n 0, 1) := by decide +kernel
theorem dX_isByte_1 : decode cX_isByte 1 = .ok (.ifCond .lt 14, 3) := by decide +kernel
theorem dX_isByte_4 : decode cX_isByte 4 = .ok (.iload_n 0, 1) := by decide +kernel
theorem dX_isByte_5 : decode cX_isByte 5 = .ok (.sipush 256, 3) := by decide +kernel
theorem dX_isByte_8 : decode cX_isByte 8 = .ok (.if_icmp .ge 7, 3) := by decide +kernel
theorem dX_isByte_11 : decode cX_isByte 11 = .ok (.iconst 1, 1) := by decide +kernel
theorem dX_isByte_12 : decode cX_isByte 12 = .ok (.goto 4, 3) := by decide +kernel
theorem dX_isByte_15 : decode cX_isByte 15 = .ok (.iconst 0, 1) := by decide +kernel
theorem dX_isByte_16 : decode cX_isByte 16 = .ok (.ireturn, 1) := by decide +kernel
abbrev wsX_isByte : List Cond := Cond.code yX_isByte cX_isByte 1 (some .boolean) :: zWords
def FX_isByte (u : XS) (p0 : Int32) : Int32 := (if p0 < 0 then 0 else (if (256 : Int32) ≤ p0 then 0 else 1))
set_option maxHeartbeats 4000000 in
set_option maxRecDepth 100000 in
theorem tX_isByte (l : Launch) {D : va_G} {k : zK} {a : Nat → Nat} (hI : zI 29 a) (u : XS) (p0 : Int32) : Met l yX_isByte wsX_isByte ({ frames := 0, cells := 0, slots := 0, locals := 0 }) (zPc D k (zA 29 a) (wX k a u) [.int p0]) (vp_Si (fun r9 => r9 = (FX_isByte u p0))) 0 0 (fun _ => False) := by
  refine Met.ofW (cc := cX_isByte) (maxL := 1) (ret := (some .boolean)) (by decide) rfl ?_
  intro p e s m args below meth c s₁ B hml hv
  obtain ⟨rfl, hP, hE⟩ := hv
  have hts := atoms_spec (ws := wsX_isByte) B.pre
  have C0 : zC p s m _ meth c cX_isByte (some .boolean) 1 RX wsX_isByte D k (zA 29 a) := ⟨B.exec, B.bytes, B.returns, hml, findClass_of_methodNamed B.named, hts, B.notSynchronized, hE⟩
  obtain ⟨hx, hb, hr, hml, hown, _, hlocks, _⟩ := id C0
  have hK := hE.1
  have hS : va_S (zA 29 a) s.heap s.heap [] := va_S.rf
  generalize hf : FX_isByte u p0 = tgt
  change ((if p0 < 0 then 0 else (if (256 : Int32) ≤ p0 then 0 else 1)) : Int32) = tgt at hf
  have hl := lv_entry ([.int p0]) (n := 1) (Nat.le_of_ble_eq_true rfl)
  rw [lg_entry_eq]
  generalize (lg_sl ([.int p0]) ++ List.replicate (1 - (lg_sl ([.int p0])).length) Slot.unset).toArray = ls at hl ⊢
  have hl : lv_has ls 1 [(0, .int p0)] := hl
  refine lv_iload_n hx hb dX_isByte_0 rfl (lv_at hl 0 rfl) ?_
  refine lv_if_lt (tgt := 15) hx hb dX_isByte_1 (by decide) (fun c1 => ?_) (fun c1 => ?_)
  · have hf := zt c1 hf
    refine lv_iconst (v := 0) hx hb dX_isByte_15 (by decide) ?_
    exact W.zret (v := 0) (ty := .boolean) hx hb hr rfl (fun t ht hW => ⟨_, rfl, hf, ht⟩) (fun _ h9 => nomatch h9) dX_isByte_16
  · have hf := zn c1 hf
    refine lv_iload_n hx hb dX_isByte_4 rfl (lv_at hl 0 rfl) ?_
    refine lv_sipush (v := 256) hx hb dX_isByte_5 (by decide) ?_
    refine lv_icmp_ge (tgt := 15) hx hb dX_isByte_8 (by decide) (fun c2 => ?_) (fun c2 => ?_)
    · have hf := zt c2 hf
      refine lv_iconst (v := 0) hx hb dX_isByte_15 (by decide) ?_
      exact W.zret (v := 0) (ty := .boolean) hx hb hr rfl (fun t ht hW => ⟨_, rfl, hf, ht⟩) (fun _ h9 => nomatch h9) dX_isByte_16
    · have hf := zn c2 hf
      refine lv_iconst (v := 1) hx hb dX_isByte_11 (by decide) ?_
      refine lv_goto (tgt := 16) hx hb dX_isByte_12 (by decide) ?_
      exact W.zret (v := 1) (ty := .boolean) hx hb hr rfl (fun t ht hW => ⟨_, rfl, hf, ht⟩) (fun _ h9 => nomatch h9) dX_isByte_16
theorem dX_weight_0 : decode cX_weight 0 = .ok (.iload_n 1, 1) := by decide +kernel
theorem dX_weight_1 : decode cX_weight 1 = .ok (.invokestatic 90, 3) := by decide +kernel
theorem dX_weight_4 : decode cX_weight 4 = .ok (.ifCond .eq 10, 3) := by decide +kernel
theorem dX_weight_7 : decode cX_weight 7 = .ok (.iload_n 2, 1) := by decide +kernel
theorem dX_weight_8 : decode cX_weight 8 = .ok (.invokestatic 90, 3) := by decide +kernel
theorem dX_weight_11 : decode cX_weight 11 = .ok (.ifCond .ne 6, 3) := by decide +kernel
theorem dX_weight_14 : decode cX_weight 14 = .ok (.bipush (-4), 2) := by decide +kernel
theorem dX_weight_16 : decode cX_weight 16 = .ok (.ireturn, 1) := by decide +kernel
theorem dX_weight_17 : decode cX_weight 17 = .ok (.aload_n 0, 1) := by decide +kernel
theorem dX_weight_18 : decode cX_weight 18 = .ok (.getfield 19, 3) := by decide +kernel
theorem dX_weight_21 : decode cX_weight 21 = .ok (.getfield 93, 3) := by decide +kernel
theorem dX_weight_24 : decode cX_weight 24 = .ok (.iload_n 1, 1) := by decide +kernel
theorem dX_weight_25 : decode cX_weight 25 = .ok (.iaload, 1) := by decide +kernel
theorem dX_weight_26 : decode cX_weight 26 = .ok (.istore_n 3, 1) := by decide +kernel
theorem dX_weight_27 : decode cX_weight 27 = .ok (.aload_n 0, 1) := by decide +kernel
theorem dX_weight_28 : decode cX_weight 28 = .ok (.getfield 19, 3) := by decide +kernel
theorem dX_weight_31 : decode cX_weight 31 = .ok (.getfield 93, 3) := by decide +kernel
theorem dX_weight_34 : decode cX_weight 34 = .ok (.iload_n 1, 1) := by decide +kernel
theorem dX_weight_35 : decode cX_weight 35 = .ok (.iload_n 2, 1) := by decide +kernel
theorem dX_weight_36 : decode cX_weight 36 = .ok (.iastore, 1) := by decide +kernel
theorem dX_weight_37 : decode cX_weight 37 = .ok (.iload_n 3, 1) := by decide +kernel
theorem dX_weight_38 : decode cX_weight 38 = .ok (.ireturn, 1) := by decide +kernel
abbrev wsX_weight : List Cond := Cond.code yX_weight cX_weight 4 (some .int) :: zWords
def FX_weight (u : XS) (p0 : Int32) (p1 : Int32) : Int32 × XS := (if (FX_isByte u p0) = 0 then ((-4), u) else (if (FX_isByte u p1) = 0 then ((-4), u) else (zlet (Xs_weights_of u (upd (Xg_weights_of u) (p0.toNatClampNeg) p1)) (fun u5 => (((Xg_weights_of u) p0.toNatClampNeg), u5)))))
def GX_weight (u : XS) (p0 : Int32) (p1 : Int32) : Prop := (if (FX_isByte u p0) = 0 then True else (if (FX_isByte u p1) = 0 then True else (vp_in p0 256 ∧ (vp_in p0 256 ∧ (zlet (Xs_weights_of u (upd (Xg_weights_of u) (p0.toNatClampNeg) p1)) (fun u5 => True))))))
set_option maxHeartbeats 4000000 in
set_option maxRecDepth 100000 in
theorem tX_weight (l : Launch) {D : va_G} {k : zK} {a : Nat → Nat} (hI : zI 29 a) (u : XS) (p0 : Int32) (p1 : Int32) (hg : GX_weight u p0 p1) : Met l yX_weight wsX_weight ({ frames := 1, cells := 0, slots := 0, locals := 20 }) (zPc D k (zA 29 a) (wX k a u) [.ref (a 0), .int p0, .int p1]) (zQi D (wX k a) (zA 29 a) (FX_weight u p0 p1)) 0 0 (zA 29 a) := by
  refine Met.ofW (cc := cX_weight) (maxL := 4) (ret := (some .int)) (by decide) rfl ?_
  intro p e s m args below meth c s₁ B hml hv
  obtain ⟨rfl, hP, hE⟩ := hv
  have hts := atoms_spec (ws := wsX_weight) B.pre
  have C0 : zC p s m _ meth c cX_weight (some .int) 4 RX wsX_weight D k (zA 29 a) := ⟨B.exec, B.bytes, B.returns, hml, findClass_of_methodNamed B.named, hts, B.notSynchronized, hE⟩
  obtain ⟨hx, hb, hr, hml, hown, _, hlocks, _⟩ := id C0
  have hK := hE.1
  have hS : va_S (zA 29 a) s.heap s.heap [] := va_S.rf
  generalize hf : FX_weight u p0 p1 = tgt
  change ((if (FX_isByte u p0) = 0 then ((-4), u) else (if (FX_isByte u p1) = 0 then ((-4), u) else (zlet (Xs_weights_of u (upd (Xg_weights_of u) (p0.toNatClampNeg) p1)) (fun u5 => (((Xg_weights_of u) p0.toNatClampNeg), u5))))) : Int32 × XS) = tgt at hf
  change (if (FX_isByte u p0) = 0 then True else (if (FX_isByte u p1) = 0 then True else (vp_in p0 256 ∧ (vp_in p0 256 ∧ (zlet (Xs_weights_of u (upd (Xg_weights_of u) (p0.toNatClampNeg) p1)) (fun u5 => True)))))) at hg
  have hl := lv_entry ([.ref (a 0), .int p0, .int p1]) (n := 4) (Nat.le_of_ble_eq_true rfl)
  rw [lg_entry_eq]
  generalize (lg_sl ([.ref (a 0), .int p0, .int p1]) ++ List.replicate (4 - (lg_sl ([.ref (a 0), .int p0, .int p1])).length) Slot.unset).toArray = ls at hl ⊢
  have hl : lv_has ls 4 [(0, .ref (a 0)), (1, .int p0), (2, .int p1)] := hl
  refine lv_iload_n hx hb dX_weight_0 rfl (lv_at hl 1 rfl) ?_
  refine vp_callSi (W.runS (As := [.int p0]) (rest := []) ⟨hx, hb, hml, hown, hts⟩ (tX_isByte l hI u p0) (va_cwS 1 hts (zgS m_244 m_245 m_1 m_246) rfl rfl rfl (by decide +kernel) ⟨Nat.le_of_ble_eq_true rfl, Nat.le_of_ble_eq_true rfl⟩) (zpreS hP hE hS.2.1) rfl rfl hl.1 rfl (lv_room (Nat.le_of_ble_eq_true rfl)) dX_weight_1 ⟨Nat.zero_le _, Nat.zero_le _⟩) (fun r9 hr9 => ?_)
  subst hr9
  refine lv_if_eq (tgt := 14) hx hb dX_weight_4 (by decide) (fun c1 => ?_) (fun c1 => ?_)
  · have hf := zt c1 hf
    have hg := zgt c1 hg
    refine lv_bipush (v := (-4)) hx hb dX_weight_14 (by decide) ?_
    exact W.iret (v := (-4)) hx hb hr (fun t ht hW => by subst hf; exact ⟨rfl, by rw [ht]; exact hP, hS.F ht⟩) hS.2.2 dX_weight_16
  · have hf := zn c1 hf
    have hg := zgn c1 hg
    refine lv_iload_n hx hb dX_weight_7 rfl (lv_at hl 2 rfl) ?_
    refine vp_callSi (W.runS (As := [.int p1]) (rest := []) ⟨hx, hb, hml, hown, hts⟩ (tX_isByte l hI u p1) (va_cwS 1 hts (zgS m_244 m_245 m_1 m_246) rfl rfl rfl (by decide +kernel) ⟨Nat.le_of_ble_eq_true rfl, Nat.le_of_ble_eq_true rfl⟩) (zpreS hP hE hS.2.1) rfl rfl hl.1 rfl (lv_room (Nat.le_of_ble_eq_true rfl)) dX_weight_8 ⟨Nat.zero_le _, Nat.zero_le _⟩) (fun r9 hr9 => ?_)
    subst hr9
    refine lv_if_ne (tgt := 17) hx hb dX_weight_11 (by decide) (fun c2 => ?_) (fun c2 => ?_)
    · have hf := zn c2 hf
      have hg := zgn c2 hg
      refine lv_aload_n hx hb dX_weight_17 rfl (lv_at hl 0 rfl) ?_
      refine va_get (D := D) (ci := 0) (v := .ref (a 6)) (C := RX) (T := TX) (N := 10) hx hb hts (fun w h9 => zc (inX w h9)) hown hK hP 0 rfl rfl 2 (by decide) (hts _ (zc m_176)) (fun _ h9 => h9) rfl dX_weight_18 ?_
      refine va_getN (D := D) (ci := 2) (v := .ref (a 7)) (C := RXW) (T := TXW) (N := 1) hx hb hts (fun w h9 => zc (inXW w h9)) hown hK hP 6 rfl rfl 0 (by decide) (va_Nw.use rfl (hE.2.1 _ zn_5)) (fun _ h9 => h9) rfl dX_weight_21 ?_
      refine lv_iload_n hx hb dX_weight_24 rfl (lv_at hl 1 rfl) ?_
      obtain ⟨h3, hg⟩ := hg
      refine va_iald hx hb hK hP 7 0 rfl rfl h3 dX_weight_25 ?_
      refine lv_istore_n (lv' := [(3, .int ((Xg_weights_of u) p0.toNatClampNeg)), (0, .ref (a 0)), (1, .int p0), (2, .int p1)]) hx hb dX_weight_26 rfl hl (by decide) rfl (fun ls hl => ?_)
      refine lv_aload_n hx hb dX_weight_27 rfl (lv_at hl 1 rfl) ?_
      refine va_get (D := D) (ci := 0) (v := .ref (a 6)) (C := RX) (T := TX) (N := 10) hx hb hts (fun w h9 => zc (inX w h9)) hown hK hP 0 rfl rfl 2 (by decide) (hts _ (zc m_176)) (fun _ h9 => h9) rfl dX_weight_28 ?_
      refine va_getN (D := D) (ci := 2) (v := .ref (a 7)) (C := RXW) (T := TXW) (N := 1) hx hb hts (fun w h9 => zc (inXW w h9)) hown hK hP 6 rfl rfl 0 (by decide) (va_Nw.use rfl (hE.2.1 _ zn_5)) (fun _ h9 => h9) rfl dX_weight_31 ?_
      refine lv_iload_n hx hb dX_weight_34 rfl (lv_at hl 2 rfl) ?_
      refine lv_iload_n hx hb dX_weight_35 rfl (lv_at hl 3 rfl) ?_
      obtain ⟨h4, hg⟩ := hg
      refine va_iast hx hb hK hP (XD hI _) hS 7 0 rfl rfl h4 dX_weight_36 (fun H locs hP _ hS => ?_)
      obtain ⟨u5, hP, hf, hg⟩ := zlets (E := (Xs_weights_of u (upd (Xg_weights_of u) (p0.toNatClampNeg) p1))) (w := wX k a) (Xp_weights_of hP) hf hg
      refine lv_iload_n hx hb dX_weight_37 rfl (lv_at hl 0 rfl) ?_
      exact W.iret (v := ((Xg_weights_of u) p0.toNatClampNeg)) hx hb hr (fun t ht hW => by subst hf; exact ⟨rfl, by rw [ht]; exact hP, hS.F ht⟩) hS.2.2 dX_weight_38
    · have hf := zt c2 hf
      have hg := zgt c2 hg
      refine lv_bipush (v := (-4)) hx hb dX_weight_14 (by decide) ?_
      exact W.iret (v := (-4)) hx hb hr (fun t ht hW => by subst hf; exact ⟨rfl, by rw [ht]; exact hP, hS.F ht⟩) hS.2.2 dX_weight_16
theorem dX_isSwitch_0 : decode cX_isSwitch 0 = .ok (.iload_n 0, 1) := by decide +kernel
theorem dX_isSwitch_1 : decode cX_isSwitch 1 = .ok (.ifCond .lt 13, 3) := by decide +kernel
theorem dX_isSwitch_4 : decode cX_isSwitch 4 = .ok (.iload_n 0, 1) := by decide +kernel
theorem dX_isSwitch_5 : decode cX_isSwitch 5 = .ok (.bipush 16, 2) := by decide +kernel
theorem dX_isSwitch_7 : decode cX_isSwitch 7 = .ok (.if_icmp .ge 7, 3) := by decide +kernel
theorem dX_isSwitch_10 : decode cX_isSwitch 10 = .ok (.iconst 1, 1) := by decide +kernel
theorem dX_isSwitch_11 : decode cX_isSwitch 11 = .ok (.goto 4, 3) := by decide +kernel
theorem dX_isSwitch_14 : decode cX_isSwitch 14 = .ok (.iconst 0, 1) := by decide +kernel
theorem dX_isSwitch_15 : decode cX_isSwitch 15 = .ok (.ireturn, 1) := by decide +kernel
abbrev wsX_isSwitch : List Cond := Cond.code yX_isSwitch cX_isSwitch 1 (some .boolean) :: zWords
def FX_isSwitch (u : XS) (p0 : Int32) : Int32 := (if p0 < 0 then 0 else (if (16 : Int32) ≤ p0 then 0 else 1))
theorem bFX_isSwitch (u : XS) (p0 : Int32) : FX_isSwitch u p0 = 0 ∨ FX_isSwitch u p0 = 1 := by
  unfold FX_isSwitch
  repeat' split
  all_goals first | exact Or.inl rfl | exact Or.inr rfl
set_option maxHeartbeats 4000000 in
set_option maxRecDepth 100000 in
theorem tX_isSwitch (l : Launch) {D : va_G} {k : zK} {a : Nat → Nat} (hI : zI 29 a) (u : XS) (p0 : Int32) : Met l yX_isSwitch wsX_isSwitch ({ frames := 0, cells := 0, slots := 0, locals := 0 }) (zPc D k (zA 29 a) (wX k a u) [.int p0]) (vp_Si (fun r9 => r9 = (FX_isSwitch u p0))) 0 0 (fun _ => False) := by
  refine Met.ofW (cc := cX_isSwitch) (maxL := 1) (ret := (some .boolean)) (by decide) rfl ?_
  intro p e s m args below meth c s₁ B hml hv
  obtain ⟨rfl, hP, hE⟩ := hv
  have hts := atoms_spec (ws := wsX_isSwitch) B.pre
  have C0 : zC p s m _ meth c cX_isSwitch (some .boolean) 1 RX wsX_isSwitch D k (zA 29 a) := ⟨B.exec, B.bytes, B.returns, hml, findClass_of_methodNamed B.named, hts, B.notSynchronized, hE⟩
  obtain ⟨hx, hb, hr, hml, hown, _, hlocks, _⟩ := id C0
  have hK := hE.1
  have hS : va_S (zA 29 a) s.heap s.heap [] := va_S.rf
  generalize hf : FX_isSwitch u p0 = tgt
  change ((if p0 < 0 then 0 else (if (16 : Int32) ≤ p0 then 0 else 1)) : Int32) = tgt at hf
  have hl := lv_entry ([.int p0]) (n := 1) (Nat.le_of_ble_eq_true rfl)
  rw [lg_entry_eq]
  generalize (lg_sl ([.int p0]) ++ List.replicate (1 - (lg_sl ([.int p0])).length) Slot.unset).toArray = ls at hl ⊢
  have hl : lv_has ls 1 [(0, .int p0)] := hl
  refine lv_iload_n hx hb dX_isSwitch_0 rfl (lv_at hl 0 rfl) ?_
  refine lv_if_lt (tgt := 14) hx hb dX_isSwitch_1 (by decide) (fun c1 => ?_) (fun c1 => ?_)
  · have hf := zt c1 hf
    refine lv_iconst (v := 0) hx hb dX_isSwitch_14 (by decide) ?_
    exact W.zret (v := 0) (ty := .boolean) hx hb hr rfl (fun t ht hW => ⟨_, rfl, hf, ht⟩) (fun _ h9 => nomatch h9) dX_isSwitch_15
  · have hf := zn c1 hf
    refine lv_iload_n hx hb dX_isSwitch_4 rfl (lv_at hl 0 rfl) ?_
    refine lv_bipush (v := 16) hx hb dX_isSwitch_5 (by decide) ?_
    refine lv_icmp_ge (tgt := 14) hx hb dX_isSwitch_7 (by decide) (fun c2 => ?_) (fun c2 => ?_)
    · have hf := zt c2 hf
      refine lv_iconst (v := 0) hx hb dX_isSwitch_14 (by decide) ?_
      exact W.zret (v := 0) (ty := .boolean) hx hb hr rfl (fun t ht hW => ⟨_, rfl, hf, ht⟩) (fun _ h9 => nomatch h9) dX_isSwitch_15
    · have hf := zn c2 hf
      refine lv_iconst (v := 1) hx hb dX_isSwitch_10 (by decide) ?_
      refine lv_goto (tgt := 15) hx hb dX_isSwitch_11 (by decide) ?_
      exact W.zret (v := 1) (ty := .boolean) hx hb hr rfl (fun t ht hW => ⟨_, rfl, hf, ht⟩) (fun _ h9 => nomatch h9) dX_isSwitch_15
theorem dX_isInside_0 : decode cX_isInside 0 = .ok (.iload_n 0, 1) := by decide +kernel
theorem dX_isInside_1 : decode cX_isInside 1 = .ok (.tableswitch 67 6 9 #[31, 46, 67, 62], 31) := by decide +kernel
theorem dX_isInside_32 : decode cX_isInside 32 = .ok (.iload_n 2, 1) := by decide +kernel
theorem dX_isInside_33 : decode cX_isInside 33 = .ok (.ifCond .lt 12, 3) := by decide +kernel
theorem dX_isInside_36 : decode cX_isInside 36 = .ok (.iload_n 2, 1) := by decide +kernel
theorem dX_isInside_37 : decode cX_isInside 37 = .ok (.iconst 3, 1) := by decide +kernel
theorem dX_isInside_38 : decode cX_isInside 38 = .ok (.if_icmp .gt 7, 3) := by decide +kernel
theorem dX_isInside_41 : decode cX_isInside 41 = .ok (.iconst 1, 1) := by decide +kernel
theorem dX_isInside_42 : decode cX_isInside 42 = .ok (.goto 4, 3) := by decide +kernel
theorem dX_isInside_45 : decode cX_isInside 45 = .ok (.iconst 0, 1) := by decide +kernel
theorem dX_isInside_46 : decode cX_isInside 46 = .ok (.ireturn, 1) := by decide +kernel
theorem dX_isInside_47 : decode cX_isInside 47 = .ok (.iload_n 2, 1) := by decide +kernel
theorem dX_isInside_48 : decode cX_isInside 48 = .ok (.iconst (-1), 1) := by decide +kernel
theorem dX_isInside_49 : decode cX_isInside 49 = .ok (.if_icmp .lt 12, 3) := by decide +kernel
theorem dX_isInside_52 : decode cX_isInside 52 = .ok (.iload_n 2, 1) := by decide +kernel
theorem dX_isInside_53 : decode cX_isInside 53 = .ok (.iconst 1, 1) := by decide +kernel
theorem dX_isInside_54 : decode cX_isInside 54 = .ok (.if_icmp .gt 7, 3) := by decide +kernel
theorem dX_isInside_57 : decode cX_isInside 57 = .ok (.iconst 1, 1) := by decide +kernel
theorem dX_isInside_58 : decode cX_isInside 58 = .ok (.goto 4, 3) := by decide +kernel
theorem dX_isInside_61 : decode cX_isInside 61 = .ok (.iconst 0, 1) := by decide +kernel
theorem dX_isInside_62 : decode cX_isInside 62 = .ok (.ireturn, 1) := by decide +kernel
theorem dX_isInside_63 : decode cX_isInside 63 = .ok (.iload_n 1, 1) := by decide +kernel
theorem dX_isInside_64 : decode cX_isInside 64 = .ok (.invokestatic 173, 3) := by decide +kernel
theorem dX_isInside_67 : decode cX_isInside 67 = .ok (.ireturn, 1) := by decide +kernel
theorem dX_isInside_68 : decode cX_isInside 68 = .ok (.iload_n 0, 1) := by decide +kernel
theorem dX_isInside_69 : decode cX_isInside 69 = .ok (.ifCond .lt 13, 3) := by decide +kernel
theorem dX_isInside_72 : decode cX_isInside 72 = .ok (.iload_n 0, 1) := by decide +kernel
theorem dX_isInside_73 : decode cX_isInside 73 = .ok (.bipush 12, 2) := by decide +kernel
theorem dX_isInside_75 : decode cX_isInside 75 = .ok (.if_icmp .gt 7, 3) := by decide +kernel
theorem dX_isInside_78 : decode cX_isInside 78 = .ok (.iconst 1, 1) := by decide +kernel
theorem dX_isInside_79 : decode cX_isInside 79 = .ok (.goto 4, 3) := by decide +kernel
theorem dX_isInside_82 : decode cX_isInside 82 = .ok (.iconst 0, 1) := by decide +kernel
theorem dX_isInside_83 : decode cX_isInside 83 = .ok (.ireturn, 1) := by decide +kernel
abbrev wsX_isInside : List Cond := Cond.code yX_isInside cX_isInside 3 (some .boolean) :: zWords
def LX_isInside_68 (n : Nat) (u : XS) (x0 : Int32) (x1 : Int32) (x2 : Int32) : Int32 := (if x0 < 0 then 0 else (if (12 : Int32) < x0 then 0 else 1))
def MX_isInside_68 (n : Nat) (u : XS) (x0 : Int32) (x1 : Int32) (x2 : Int32) : Prop := True
def FX_isInside (u : XS) (p0 : Int32) (p1 : Int32) (p2 : Int32) : Int32 := (if p0 = 6 then (if p2 < 0 then 0 else (if (3 : Int32) < p2 then 0 else 1)) else (if p0 = 7 then (if p2 < (-1) then 0 else (if (1 : Int32) < p2 then 0 else 1)) else (if p0 = 8 then (LX_isInside_68 1000 u p0 p1 p2) else (if p0 = 9 then (FX_isSwitch u p1) else (LX_isInside_68 1000 u p0 p1 p2)))))
def GX_isInside (u : XS) (p0 : Int32) (p1 : Int32) (p2 : Int32) : Prop := (if p0 = 6 then True else (if p0 = 7 then True else (if p0 = 8 then (MX_isInside_68 1000 u p0 p1 p2) else (if p0 = 9 then True else (MX_isInside_68 1000 u p0 p1 p2)))))
set_option maxHeartbeats 4000000 in
set_option maxRecDepth 100000 in
theorem kX_isInside_68 {p : Program} {l : Launch} {e : Env} {s : State} {m : MethodId} {args : Array Value} {below : List Frame} {meth : Method} {c : Code} {D : va_G} {k : zK} {a : Nat → Nat} (hI : zI 29 a) (C0 : zC p s m args meth c cX_isInside (some .boolean) 3 RX wsX_isInside D k (zA 29 a)) {tgt : Int32} : ∀ (n : Nat) (u : XS) (x0 : Int32) (x1 : Int32) (x2 : Int32), LX_isInside_68 n u x0 x1 x2 = tgt → MX_isInside_68 n u x0 x1 x2 → ∀ (H : Heap) (locs : List Loc), va_P D vwCl (wX k a u) H → va_S (zA 29 a) s.heap H locs → H = s.heap ∧ locs = [] → ∀ (ls : Array Slot), lv_has ls 3 [(0, .int x0), (1, .int x1), (2, .int x2)] → W p l e (headSpec wsX_isInside ({ frames := 1, cells := 0, slots := 0, locals := 20 })).room s m args below meth c H locs 0 0 (MQ below (vp_Si (fun r9 => r9 = tgt)) args s 0 0 (fun _ => False)) (F0 m 68 ls []) := by
  obtain ⟨hx, hb, hr, hml, hown, hts, hlocks, hE⟩ := id C0
  have hK := hE.1
  intro n
  intro u x0 x1 x2 hf hg H locs hP hS hq ls hl
  obtain ⟨rfl, rfl⟩ := hq
  change ((if x0 < 0 then 0 else (if (12 : Int32) < x0 then 0 else 1)) : Int32) = tgt at hf
  change True at hg
  refine lv_iload_n hx hb dX_isInside_68 rfl (lv_at hl 0 rfl) ?_
  refine lv_if_lt (tgt := 82) hx hb dX_isInside_69 (by decide) (fun c10 => ?_) (fun c10 => ?_)
  · have hf := zt c10 hf
    refine lv_iconst (v := 0) hx hb dX_isInside_82 (by decide) ?_
    exact W.zret (v := 0) (ty := .boolean) hx hb hr rfl (fun t ht hW => ⟨_, rfl, hf, ht⟩) (fun _ h9 => nomatch h9) dX_isInside_83
  · have hf := zn c10 hf
    refine lv_iload_n hx hb dX_isInside_72 rfl (lv_at hl 0 rfl) ?_
    refine lv_bipush (v := 12) hx hb dX_isInside_73 (by decide) ?_
    refine lv_icmp_gt (tgt := 82) hx hb dX_isInside_75 (by decide) (fun c11 => ?_) (fun c11 => ?_)
    · have hf := zt c11 hf
      refine lv_iconst (v := 0) hx hb dX_isInside_82 (by decide) ?_
      exact W.zret (v := 0) (ty := .boolean) hx hb hr rfl (fun t ht hW => ⟨_, rfl, hf, ht⟩) (fun _ h9 => nomatch h9) dX_isInside_83
    · have hf := zn c11 hf
      refine lv_iconst (v := 1) hx hb dX_isInside_78 (by decide) ?_
      refine lv_goto (tgt := 83) hx hb dX_isInside_79 (by decide) ?_
      exact W.zret (v := 1) (ty := .boolean) hx hb hr rfl (fun t ht hW => ⟨_, rfl, hf, ht⟩) (fun _ h9 => nomatch h9) dX_isInside_83
set_option maxHeartbeats 4000000 in
set_option maxRecDepth 100000 in
theorem tX_isInside (l : Launch) {D : va_G} {k : zK} {a : Nat → Nat} (hI : zI 29 a) (u : XS) (p0 : Int32) (p1 : Int32) (p2 : Int32) (hg : GX_isInside u p0 p1 p2) : Met l yX_isInside wsX_isInside ({ frames := 1, cells := 0, slots := 0, locals := 20 }) (zPc D k (zA 29 a) (wX k a u) [.int p0, .int p1, .int p2]) (vp_Si (fun r9 => r9 = (FX_isInside u p0 p1 p2))) 0 0 (fun _ => False) := by
  refine Met.ofW (cc := cX_isInside) (maxL := 3) (ret := (some .boolean)) (by decide) rfl ?_
  intro p e s m args below meth c s₁ B hml hv
  obtain ⟨rfl, hP, hE⟩ := hv
  have hts := atoms_spec (ws := wsX_isInside) B.pre
  have C0 : zC p s m _ meth c cX_isInside (some .boolean) 3 RX wsX_isInside D k (zA 29 a) := ⟨B.exec, B.bytes, B.returns, hml, findClass_of_methodNamed B.named, hts, B.notSynchronized, hE⟩
  obtain ⟨hx, hb, hr, hml, hown, _, hlocks, _⟩ := id C0
  have hK := hE.1
  have hS : va_S (zA 29 a) s.heap s.heap [] := va_S.rf
  generalize hf : FX_isInside u p0 p1 p2 = tgt
  change ((if p0 = 6 then (if p2 < 0 then 0 else (if (3 : Int32) < p2 then 0 else 1)) else (if p0 = 7 then (if p2 < (-1) then 0 else (if (1 : Int32) < p2 then 0 else 1)) else (if p0 = 8 then (LX_isInside_68 1000 u p0 p1 p2) else (if p0 = 9 then (FX_isSwitch u p1) else (LX_isInside_68 1000 u p0 p1 p2))))) : Int32) = tgt at hf
  change (if p0 = 6 then True else (if p0 = 7 then True else (if p0 = 8 then (MX_isInside_68 1000 u p0 p1 p2) else (if p0 = 9 then True else (MX_isInside_68 1000 u p0 p1 p2))))) at hg
  have hl := lv_entry ([.int p0, .int p1, .int p2]) (n := 3) (Nat.le_of_ble_eq_true rfl)
  rw [lg_entry_eq]
  generalize (lg_sl ([.int p0, .int p1, .int p2]) ++ List.replicate (3 - (lg_sl ([.int p0, .int p1, .int p2])).length) Slot.unset).toArray = ls at hl ⊢
  have hl : lv_has ls 3 [(0, .int p0), (1, .int p1), (2, .int p2)] := hl
  refine lv_iload_n hx hb dX_isInside_0 rfl (lv_at hl 0 rfl) ?_
  by_cases c1 : p0 = 6
  · have hf := zt c1 hf
    have hg := zgt c1 hg
    refine lv_tableIn (off := 31) (tgt := 32) hx hb dX_isInside_1 (by rw [c1]; decide) (by rw [c1]; decide) (by rw [c1]; decide) (by decide) ?_
    refine lv_iload_n hx hb dX_isInside_32 rfl (lv_at hl 2 rfl) ?_
    refine lv_if_lt (tgt := 45) hx hb dX_isInside_33 (by decide) (fun c2 => ?_) (fun c2 => ?_)
    · have hf := zt c2 hf
      refine lv_iconst (v := 0) hx hb dX_isInside_45 (by decide) ?_
      exact W.zret (v := 0) (ty := .boolean) hx hb hr rfl (fun t ht hW => ⟨_, rfl, hf, ht⟩) (fun _ h9 => nomatch h9) dX_isInside_46
    · have hf := zn c2 hf
      refine lv_iload_n hx hb dX_isInside_36 rfl (lv_at hl 2 rfl) ?_
      refine lv_iconst (v := 3) hx hb dX_isInside_37 (by decide) ?_
      refine lv_icmp_gt (tgt := 45) hx hb dX_isInside_38 (by decide) (fun c3 => ?_) (fun c3 => ?_)
      · have hf := zt c3 hf
        refine lv_iconst (v := 0) hx hb dX_isInside_45 (by decide) ?_
        exact W.zret (v := 0) (ty := .boolean) hx hb hr rfl (fun t ht hW => ⟨_, rfl, hf, ht⟩) (fun _ h9 => nomatch h9) dX_isInside_46
      · have hf := zn c3 hf
        refine lv_iconst (v := 1) hx hb dX_isInside_41 (by decide) ?_
        refine lv_goto (tgt := 46) hx hb dX_isInside_42 (by decide) ?_
        exact W.zret (v := 1) (ty := .boolean) hx hb hr rfl (fun t ht hW => ⟨_, rfl, hf, ht⟩) (fun _ h9 => nomatch h9) dX_isInside_46
  · have hf := zn c1 hf
    have hg := zgn c1 hg
    by_cases c4 : p0 = 7
    · have hf := zt c4 hf
      have hg := zgt c4 hg
      refine lv_tableIn (off := 46) (tgt := 47) hx hb dX_isInside_1 (by rw [c4]; decide) (by rw [c4]; decide) (by rw [c4]; decide) (by decide) ?_
      refine lv_iload_n hx hb dX_isInside_47 rfl (lv_at hl 2 rfl) ?_
      refine lv_iconst (v := (-1)) hx hb dX_isInside_48 (by decide) ?_
      refine lv_icmp_lt (tgt := 61) hx hb dX_isInside_49 (by decide) (fun c5 => ?_) (fun c5 => ?_)
      · have hf := zt c5 hf
        refine lv_iconst (v := 0) hx hb dX_isInside_61 (by decide) ?_
        exact W.zret (v := 0) (ty := .boolean) hx hb hr rfl (fun t ht hW => ⟨_, rfl, hf, ht⟩) (fun _ h9 => nomatch h9) dX_isInside_62
      · have hf := zn c5 hf
        refine lv_iload_n hx hb dX_isInside_52 rfl (lv_at hl 2 rfl) ?_
        refine lv_iconst (v := 1) hx hb dX_isInside_53 (by decide) ?_
        refine lv_icmp_gt (tgt := 61) hx hb dX_isInside_54 (by decide) (fun c6 => ?_) (fun c6 => ?_)
        · have hf := zt c6 hf
          refine lv_iconst (v := 0) hx hb dX_isInside_61 (by decide) ?_
          exact W.zret (v := 0) (ty := .boolean) hx hb hr rfl (fun t ht hW => ⟨_, rfl, hf, ht⟩) (fun _ h9 => nomatch h9) dX_isInside_62
        · have hf := zn c6 hf
          refine lv_iconst (v := 1) hx hb dX_isInside_57 (by decide) ?_
          refine lv_goto (tgt := 62) hx hb dX_isInside_58 (by decide) ?_
          exact W.zret (v := 1) (ty := .boolean) hx hb hr rfl (fun t ht hW => ⟨_, rfl, hf, ht⟩) (fun _ h9 => nomatch h9) dX_isInside_62
    · have hf := zn c4 hf
      have hg := zgn c4 hg
      by_cases c7 : p0 = 8
      · have hf := zt c7 hf
        have hg := zgt c7 hg
        refine lv_tableIn (off := 67) (tgt := 68) hx hb dX_isInside_1 (by rw [c7]; decide) (by rw [c7]; decide) (by rw [c7]; decide) (by decide) ?_
        exact kX_isInside_68 hI C0 (tgt := tgt) 1000 u p0 p1 p2 hf hg _ _ hP hS ⟨rfl, rfl⟩ _ (lv_sub hl [0, 1, 2] rfl)
      · have hf := zn c7 hf
        have hg := zgn c7 hg
        by_cases c8 : p0 = 9
        · have hf := zt c8 hf
          have hg := zgt c8 hg
          refine lv_tableIn (off := 62) (tgt := 63) hx hb dX_isInside_1 (by rw [c8]; decide) (by rw [c8]; decide) (by rw [c8]; decide) (by decide) ?_
          refine lv_iload_n hx hb dX_isInside_63 rfl (lv_at hl 1 rfl) ?_
          refine vp_callSi (W.runS (As := [.int p1]) (rest := []) ⟨hx, hb, hml, hown, hts⟩ (tX_isSwitch l hI u p1) (va_cwS 1 hts (zgS m_254 m_255 m_1 m_256) rfl rfl rfl (by decide +kernel) ⟨Nat.le_of_ble_eq_true rfl, Nat.le_of_ble_eq_true rfl⟩) (zpreS hP hE hS.2.1) rfl rfl hl.1 rfl (lv_room (Nat.le_of_ble_eq_true rfl)) dX_isInside_64 ⟨Nat.zero_le _, Nat.zero_le _⟩) (fun r9 hr9 => ?_)
          subst hr9
          exact W.zret (v := (FX_isSwitch u p1)) (ty := .boolean) hx hb hr (zb (bFX_isSwitch _ _)) (fun t ht hW => ⟨_, rfl, hf, ht⟩) (fun _ h9 => nomatch h9) dX_isInside_67
        · have hf := zn c8 hf
          have hg := zgn c8 hg
          refine lv_tableOut (tgt := 68) hx hb dX_isInside_1 (by have e0 := lv_neT (a := 6) c1 (by decide); have e1 := lv_neT (a := 7) c4 (by decide); have e2 := lv_neT (a := 8) c7 (by decide); have e3 := lv_neT (a := 9) c8 (by decide); omega) (by decide) ?_
          exact kX_isInside_68 hI C0 (tgt := tgt) 1000 u p0 p1 p2 hf hg _ _ hP hS ⟨rfl, rfl⟩ _ (lv_sub hl [0, 1, 2] rfl)
theorem dXN_has_0 : decode cXN_has 0 = .ok (.iload_n 1, 1) := by decide +kernel
theorem dXN_has_1 : decode cXN_has 1 = .ok (.iconst 1, 1) := by decide +kernel
theorem dXN_has_2 : decode cXN_has 2 = .ok (.if_icmp .lt 15, 3) := by decide +kernel
theorem dXN_has_5 : decode cXN_has 5 = .ok (.iload_n 1, 1) := by decide +kernel
theorem dXN_has_6 : decode cXN_has 6 = .ok (.aload_n 0, 1) := by decide +kernel
theorem dXN_has_7 : decode cXN_has 7 = .ok (.getfield 25, 3) := by decide +kernel
theorem dXN_has_10 : decode cXN_has 10 = .ok (.if_icmp .gt 7, 3) := by decide +kernel
theorem dXN_has_13 : decode cXN_has 13 = .ok (.iconst 1, 1) := by decide +kernel
theorem dXN_has_14 : decode cXN_has 14 = .ok (.goto 4, 3) := by decide +kernel
theorem dXN_has_17 : decode cXN_has 17 = .ok (.iconst 0, 1) := by decide +kernel
theorem dXN_has_18 : decode cXN_has 18 = .ok (.ireturn, 1) := by decide +kernel
abbrev wsXN_has : List Cond := Cond.code yXN_has cXN_has 2 (some .boolean) :: zWords
def FXN_has (u : XS) (p0 : Int32) : Int32 := (if p0 < 1 then 0 else (if (Xg_names_made u) < p0 then 0 else 1))
theorem bFXN_has (u : XS) (p0 : Int32) : FXN_has u p0 = 0 ∨ FXN_has u p0 = 1 := by
  unfold FXN_has
  repeat' split
  all_goals first | exact Or.inl rfl | exact Or.inr rfl
set_option maxHeartbeats 4000000 in
set_option maxRecDepth 100000 in
theorem tXN_has (l : Launch) {D : va_G} {k : zK} {a : Nat → Nat} (hI : zI 29 a) (u : XS) (p0 : Int32) : Met l yXN_has wsXN_has ({ frames := 0, cells := 0, slots := 0, locals := 0 }) (zPc D k (zA 29 a) (wX k a u) [.ref (a 8), .int p0]) (vp_Si (fun r9 => r9 = (FXN_has u p0))) 0 0 (fun _ => False) := by
  refine Met.ofW (cc := cXN_has) (maxL := 2) (ret := (some .boolean)) (by decide) rfl ?_
  intro p e s m args below meth c s₁ B hml hv
  obtain ⟨rfl, hP, hE⟩ := hv
  have hts := atoms_spec (ws := wsXN_has) B.pre
  have C0 : zC p s m _ meth c cXN_has (some .boolean) 2 RXN wsXN_has D k (zA 29 a) := ⟨B.exec, B.bytes, B.returns, hml, findClass_of_methodNamed B.named, hts, B.notSynchronized, hE⟩
  obtain ⟨hx, hb, hr, hml, hown, _, hlocks, _⟩ := id C0
  have hK := hE.1
  have hS : va_S (zA 29 a) s.heap s.heap [] := va_S.rf
  generalize hf : FXN_has u p0 = tgt
  change ((if p0 < 1 then 0 else (if (Xg_names_made u) < p0 then 0 else 1)) : Int32) = tgt at hf
  have hl := lv_entry ([.ref (a 8), .int p0]) (n := 2) (Nat.le_of_ble_eq_true rfl)
  rw [lg_entry_eq]
  generalize (lg_sl ([.ref (a 8), .int p0]) ++ List.replicate (2 - (lg_sl ([.ref (a 8), .int p0])).length) Slot.unset).toArray = ls at hl ⊢
  have hl : lv_has ls 2 [(0, .ref (a 8)), (1, .int p0)] := hl
  refine lv_iload_n hx hb dXN_has_0 rfl (lv_at hl 1 rfl) ?_
  refine lv_iconst (v := 1) hx hb dXN_has_1 (by decide) ?_
  refine lv_icmp_lt (tgt := 17) hx hb dXN_has_2 (by decide) (fun c1 => ?_) (fun c1 => ?_)
  · have hf := zt c1 hf
    refine lv_iconst (v := 0) hx hb dXN_has_17 (by decide) ?_
    exact W.zret (v := 0) (ty := .boolean) hx hb hr rfl (fun t ht hW => ⟨_, rfl, hf, ht⟩) (fun _ h9 => nomatch h9) dXN_has_18
  · have hf := zn c1 hf
    refine lv_iload_n hx hb dXN_has_5 rfl (lv_at hl 1 rfl) ?_
    refine lv_aload_n hx hb dXN_has_6 rfl (lv_at hl 0 rfl) ?_
    refine va_get (D := D) (ci := 3) (v := .int (Xg_names_made u)) (C := RXN) (T := TXN) (N := 5) hx hb hts (fun w h9 => zc (inXN w h9)) hown hK hP 8 rfl rfl 4 (by decide) (hts _ (zc m_74)) (fun _ h9 => h9) rfl dXN_has_7 ?_
    refine lv_icmp_gt (tgt := 17) hx hb dXN_has_10 (by decide) (fun c2 => ?_) (fun c2 => ?_)
    · have hf := zt c2 hf
      refine lv_iconst (v := 0) hx hb dXN_has_17 (by decide) ?_
      exact W.zret (v := 0) (ty := .boolean) hx hb hr rfl (fun t ht hW => ⟨_, rfl, hf, ht⟩) (fun _ h9 => nomatch h9) dXN_has_18
    · have hf := zn c2 hf
      refine lv_iconst (v := 1) hx hb dXN_has_13 (by decide) ?_
      refine lv_goto (tgt := 18) hx hb dXN_has_14 (by decide) ?_
      exact W.zret (v := 1) (ty := .boolean) hx hb hr rfl (fun t ht hW => ⟨_, rfl, hf, ht⟩) (fun _ h9 => nomatch h9) dXN_has_18
end
section
theorem dXO_has_0 : decode cXO_has 0 = .ok (.iload_n 1, 1) := by decide +kernel
theorem dXO_has_1 : decode cXO_has 1 = .ok (.iconst 1, 1) := by decide +kernel
theorem dXO_has_2 : decode cXO_has 2 = .ok (.if_icmp .lt 15, 3) := by decide +kernel
theorem dXO_has_5 : decode cXO_has 5 = .ok (.iload_n 1, 1) := by decide +kernel
theorem dXO_has_6 : decode cXO_has 6 = .ok (.aload_n 0, 1) := by decide +kernel
theorem dXO_has_7 : decode cXO_has 7 = .ok (.getfield 21, 3) := by decide +kernel
theorem dXO_has_10 : decode cXO_has 10 = .ok (.if_icmp .gt 7, 3) := by decide +kernel
theorem dXO_has_13 : decode cXO_has 13 = .ok (.iconst 1, 1) := by decide +kernel
theorem dXO_has_14 : decode cXO_has 14 = .ok (.goto 4, 3) := by decide +kernel
theorem dXO_has_17 : decode cXO_has 17 = .ok (.iconst 0, 1) := by decide +kernel
theorem dXO_has_18 : decode cXO_has 18 = .ok (.ireturn, 1) := by decide +kernel
abbrev wsXO_has : List Cond := Cond.code yXO_has cXO_has 2 (some .boolean) :: zWords
def FXO_has (u : XS) (p0 : Int32) : Int32 := (if p0 < 1 then 0 else (if (Xg_nodes_made u) < p0 then 0 else 1))
theorem bFXO_has (u : XS) (p0 : Int32) : FXO_has u p0 = 0 ∨ FXO_has u p0 = 1 := by
  unfold FXO_has
  repeat' split
  all_goals first | exact Or.inl rfl | exact Or.inr rfl
set_option maxHeartbeats 4000000 in
set_option maxRecDepth 100000 in
theorem tXO_has (l : Launch) {D : va_G} {k : zK} {a : Nat → Nat} (hI : zI 29 a) (u : XS) (p0 : Int32) : Met l yXO_has wsXO_has ({ frames := 0, cells := 0, slots := 0, locals := 0 }) (zPc D k (zA 29 a) (wX k a u) [.ref (a 13), .int p0]) (vp_Si (fun r9 => r9 = (FXO_has u p0))) 0 0 (fun _ => False) := by
  refine Met.ofW (cc := cXO_has) (maxL := 2) (ret := (some .boolean)) (by decide) rfl ?_
  intro p e s m args below meth c s₁ B hml hv
  obtain ⟨rfl, hP, hE⟩ := hv
  have hts := atoms_spec (ws := wsXO_has) B.pre
  have C0 : zC p s m _ meth c cXO_has (some .boolean) 2 RXO wsXO_has D k (zA 29 a) := ⟨B.exec, B.bytes, B.returns, hml, findClass_of_methodNamed B.named, hts, B.notSynchronized, hE⟩
  obtain ⟨hx, hb, hr, hml, hown, _, hlocks, _⟩ := id C0
  have hK := hE.1
  have hS : va_S (zA 29 a) s.heap s.heap [] := va_S.rf
  generalize hf : FXO_has u p0 = tgt
  change ((if p0 < 1 then 0 else (if (Xg_nodes_made u) < p0 then 0 else 1)) : Int32) = tgt at hf
  have hl := lv_entry ([.ref (a 13), .int p0]) (n := 2) (Nat.le_of_ble_eq_true rfl)
  rw [lg_entry_eq]
  generalize (lg_sl ([.ref (a 13), .int p0]) ++ List.replicate (2 - (lg_sl ([.ref (a 13), .int p0])).length) Slot.unset).toArray = ls at hl ⊢
  have hl : lv_has ls 2 [(0, .ref (a 13)), (1, .int p0)] := hl
  refine lv_iload_n hx hb dXO_has_0 rfl (lv_at hl 1 rfl) ?_
  refine lv_iconst (v := 1) hx hb dXO_has_1 (by decide) ?_
  refine lv_icmp_lt (tgt := 17) hx hb dXO_has_2 (by decide) (fun c1 => ?_) (fun c1 => ?_)
  · have hf := zt c1 hf
    refine lv_iconst (v := 0) hx hb dXO_has_17 (by decide) ?_
    exact W.zret (v := 0) (ty := .boolean) hx hb hr rfl (fun t ht hW => ⟨_, rfl, hf, ht⟩) (fun _ h9 => nomatch h9) dXO_has_18
  · have hf := zn c1 hf
    refine lv_iload_n hx hb dXO_has_5 rfl (lv_at hl 1 rfl) ?_
    refine lv_aload_n hx hb dXO_has_6 rfl (lv_at hl 0 rfl) ?_
    refine va_get (D := D) (ci := 4) (v := .int (Xg_nodes_made u)) (C := RXO) (T := TXO) (N := 4) hx hb hts (fun w h9 => zc (inXO w h9)) hown hK hP 13 rfl rfl 3 (by decide) (hts _ (zc m_100)) (fun _ h9 => h9) rfl dXO_has_7 ?_
    refine lv_icmp_gt (tgt := 17) hx hb dXO_has_10 (by decide) (fun c2 => ?_) (fun c2 => ?_)
    · have hf := zt c2 hf
      refine lv_iconst (v := 0) hx hb dXO_has_17 (by decide) ?_
      exact W.zret (v := 0) (ty := .boolean) hx hb hr rfl (fun t ht hW => ⟨_, rfl, hf, ht⟩) (fun _ h9 => nomatch h9) dXO_has_18
    · have hf := zn c2 hf
      refine lv_iconst (v := 1) hx hb dXO_has_13 (by decide) ?_
      refine lv_goto (tgt := 18) hx hb dXO_has_14 (by decide) ?_
      exact W.zret (v := 1) (ty := .boolean) hx hb hr rfl (fun t ht hW => ⟨_, rfl, hf, ht⟩) (fun _ h9 => nomatch h9) dXO_has_18
theorem dX_hasParts_0 : decode cX_hasParts 0 = .ok (.iload_n 1, 1) := by decide +kernel
theorem dX_hasParts_1 : decode cX_hasParts 1 = .ok (.tableswitch 109 6 12 #[43, 52, 61, 70, 72, 81, 81], 43) := by decide +kernel
theorem dX_hasParts_44 : decode cX_hasParts 44 = .ok (.aload_n 0, 1) := by decide +kernel
theorem dX_hasParts_45 : decode cX_hasParts 45 = .ok (.getfield 10, 3) := by decide +kernel
theorem dX_hasParts_48 : decode cX_hasParts 48 = .ok (.iload_n 2, 1) := by decide +kernel
theorem dX_hasParts_49 : decode cX_hasParts 49 = .ok (.invokevirtual 74, 3) := by decide +kernel
theorem dX_hasParts_52 : decode cX_hasParts 52 = .ok (.ireturn, 1) := by decide +kernel
theorem dX_hasParts_53 : decode cX_hasParts 53 = .ok (.aload_n 0, 1) := by decide +kernel
theorem dX_hasParts_54 : decode cX_hasParts 54 = .ok (.getfield 10, 3) := by decide +kernel
theorem dX_hasParts_57 : decode cX_hasParts 57 = .ok (.iload_n 2, 1) := by decide +kernel
theorem dX_hasParts_58 : decode cX_hasParts 58 = .ok (.invokevirtual 84, 3) := by decide +kernel
theorem dX_hasParts_61 : decode cX_hasParts 61 = .ok (.ireturn, 1) := by decide +kernel
theorem dX_hasParts_62 : decode cX_hasParts 62 = .ok (.aload_n 0, 1) := by decide +kernel
theorem dX_hasParts_63 : decode cX_hasParts 63 = .ok (.getfield 26, 3) := by decide +kernel
theorem dX_hasParts_66 : decode cX_hasParts 66 = .ok (.iload_n 2, 1) := by decide +kernel
theorem dX_hasParts_67 : decode cX_hasParts 67 = .ok (.invokevirtual 113, 3) := by decide +kernel
theorem dX_hasParts_70 : decode cX_hasParts 70 = .ok (.ireturn, 1) := by decide +kernel
theorem dX_hasParts_71 : decode cX_hasParts 71 = .ok (.iconst 1, 1) := by decide +kernel
theorem dX_hasParts_72 : decode cX_hasParts 72 = .ok (.ireturn, 1) := by decide +kernel
theorem dX_hasParts_73 : decode cX_hasParts 73 = .ok (.aload_n 0, 1) := by decide +kernel
theorem dX_hasParts_74 : decode cX_hasParts 74 = .ok (.getfield 33, 3) := by decide +kernel
theorem dX_hasParts_77 : decode cX_hasParts 77 = .ok (.iload_n 2, 1) := by decide +kernel
theorem dX_hasParts_78 : decode cX_hasParts 78 = .ok (.invokevirtual 151, 3) := by decide +kernel
theorem dX_hasParts_81 : decode cX_hasParts 81 = .ok (.ireturn, 1) := by decide +kernel
theorem dX_hasParts_82 : decode cX_hasParts 82 = .ok (.aload_n 0, 1) := by decide +kernel
theorem dX_hasParts_83 : decode cX_hasParts 83 = .ok (.getfield 33, 3) := by decide +kernel
theorem dX_hasParts_86 : decode cX_hasParts 86 = .ok (.iload_n 2, 1) := by decide +kernel
theorem dX_hasParts_87 : decode cX_hasParts 87 = .ok (.invokevirtual 151, 3) := by decide +kernel
theorem dX_hasParts_90 : decode cX_hasParts 90 = .ok (.ifCond .eq 18, 3) := by decide +kernel
theorem dX_hasParts_93 : decode cX_hasParts 93 = .ok (.aload_n 0, 1) := by decide +kernel
theorem dX_hasParts_94 : decode cX_hasParts 94 = .ok (.getfield 33, 3) := by decide +kernel
theorem dX_hasParts_97 : decode cX_hasParts 97 = .ok (.iload_n 3, 1) := by decide +kernel
theorem dX_hasParts_98 : decode cX_hasParts 98 = .ok (.invokevirtual 151, 3) := by decide +kernel
theorem dX_hasParts_101 : decode cX_hasParts 101 = .ok (.ifCond .eq 7, 3) := by decide +kernel
theorem dX_hasParts_104 : decode cX_hasParts 104 = .ok (.iconst 1, 1) := by decide +kernel
theorem dX_hasParts_105 : decode cX_hasParts 105 = .ok (.goto 4, 3) := by decide +kernel
theorem dX_hasParts_108 : decode cX_hasParts 108 = .ok (.iconst 0, 1) := by decide +kernel
theorem dX_hasParts_109 : decode cX_hasParts 109 = .ok (.ireturn, 1) := by decide +kernel
theorem dX_hasParts_110 : decode cX_hasParts 110 = .ok (.aload_n 0, 1) := by decide +kernel
theorem dX_hasParts_111 : decode cX_hasParts 111 = .ok (.getfield 10, 3) := by decide +kernel
theorem dX_hasParts_114 : decode cX_hasParts 114 = .ok (.iload_n 2, 1) := by decide +kernel
theorem dX_hasParts_115 : decode cX_hasParts 115 = .ok (.invokevirtual 74, 3) := by decide +kernel
theorem dX_hasParts_118 : decode cX_hasParts 118 = .ok (.ifCond .eq 18, 3) := by decide +kernel
theorem dX_hasParts_121 : decode cX_hasParts 121 = .ok (.aload_n 0, 1) := by decide +kernel
theorem dX_hasParts_122 : decode cX_hasParts 122 = .ok (.getfield 10, 3) := by decide +kernel
theorem dX_hasParts_125 : decode cX_hasParts 125 = .ok (.iload_n 3, 1) := by decide +kernel
theorem dX_hasParts_126 : decode cX_hasParts 126 = .ok (.invokevirtual 74, 3) := by decide +kernel
theorem dX_hasParts_129 : decode cX_hasParts 129 = .ok (.ifCond .eq 7, 3) := by decide +kernel
theorem dX_hasParts_132 : decode cX_hasParts 132 = .ok (.iconst 1, 1) := by decide +kernel
theorem dX_hasParts_133 : decode cX_hasParts 133 = .ok (.goto 4, 3) := by decide +kernel
theorem dX_hasParts_136 : decode cX_hasParts 136 = .ok (.iconst 0, 1) := by decide +kernel
theorem dX_hasParts_137 : decode cX_hasParts 137 = .ok (.ireturn, 1) := by decide +kernel
abbrev wsX_hasParts : List Cond := Cond.code yX_hasParts cX_hasParts 4 (some .boolean) :: zWords
def LX_hasParts_82 (n : Nat) (u : XS) (x1 : Int32) (x2 : Int32) (x3 : Int32) : Int32 := (if (FXO_has u x2) = 0 then 0 else (if (FXO_has u x3) = 0 then 0 else 1))
def MX_hasParts_82 (n : Nat) (u : XS) (x1 : Int32) (x2 : Int32) (x3 : Int32) : Prop := True
def FX_hasParts (u : XS) (p0 : Int32) (p1 : Int32) (p2 : Int32) : Int32 := (if p0 = 6 then (FXF_has u p1) else (if p0 = 7 then (FXF_hasNumber u p1) else (if p0 = 8 then (FXN_has u p1) else (if p0 = 9 then 1 else (if p0 = 10 then (FXO_has u p1) else (if p0 = 11 then (LX_hasParts_82 1000 u p0 p1 p2) else (if p0 = 12 then (LX_hasParts_82 1000 u p0 p1 p2) else (if (FXF_has u p1) = 0 then 0 else (if (FXF_has u p2) = 0 then 0 else 1)))))))))
def GX_hasParts (u : XS) (p0 : Int32) (p1 : Int32) (p2 : Int32) : Prop := (if p0 = 6 then True else (if p0 = 7 then (GXF_hasNumber u p1 ∧ True) else (if p0 = 8 then True else (if p0 = 9 then True else (if p0 = 10 then True else (if p0 = 11 then (MX_hasParts_82 1000 u p0 p1 p2) else (if p0 = 12 then (MX_hasParts_82 1000 u p0 p1 p2) else True)))))))
set_option maxHeartbeats 4000000 in
set_option maxRecDepth 100000 in
theorem kX_hasParts_82 {p : Program} {l : Launch} {e : Env} {s : State} {m : MethodId} {args : Array Value} {below : List Frame} {meth : Method} {c : Code} {D : va_G} {k : zK} {a : Nat → Nat} (hI : zI 29 a) (C0 : zC p s m args meth c cX_hasParts (some .boolean) 4 RX wsX_hasParts D k (zA 29 a)) {tgt : Int32} : ∀ (n : Nat) (u : XS) (x1 : Int32) (x2 : Int32) (x3 : Int32), LX_hasParts_82 n u x1 x2 x3 = tgt → MX_hasParts_82 n u x1 x2 x3 → ∀ (H : Heap) (locs : List Loc), va_P D vwCl (wX k a u) H → va_S (zA 29 a) s.heap H locs → H = s.heap ∧ locs = [] → ∀ (ls : Array Slot), lv_has ls 4 [(0, .ref (a 0)), (1, .int x1), (2, .int x2), (3, .int x3)] → W p l e (headSpec wsX_hasParts ({ frames := 2, cells := 0, slots := 0, locals := 42 })).room s m args below meth c H locs 0 0 (MQ below (vp_Si (fun r9 => r9 = tgt)) args s 0 0 (fun _ => False)) (F0 m 82 ls []) := by
  obtain ⟨hx, hb, hr, hml, hown, hts, hlocks, hE⟩ := id C0
  have hK := hE.1
  intro n
  intro u x1 x2 x3 hf hg H locs hP hS hq ls hl
  obtain ⟨rfl, rfl⟩ := hq
  change ((if (FXO_has u x2) = 0 then 0 else (if (FXO_has u x3) = 0 then 0 else 1)) : Int32) = tgt at hf
  change True at hg
  refine lv_aload_n hx hb dX_hasParts_82 rfl (lv_at hl 0 rfl) ?_
  refine va_get (D := D) (ci := 0) (v := .ref (a 13)) (C := RX) (T := TX) (N := 10) hx hb hts (fun w h9 => zc (inX w h9)) hown hK hP 0 rfl rfl 4 (by decide) (hts _ (zc m_178)) (fun _ h9 => h9) rfl dX_hasParts_83 ?_
  refine lv_iload_n hx hb dX_hasParts_86 rfl (lv_at hl 2 rfl) ?_
  refine vp_callSi (W.runV (As := [.int x2]) (rest := []) ⟨hx, hb, hml, hown, hts⟩ (tXO_has l hI u x2) (cwV 1 hts (zgV m_265 m_266 m_267 m_5 m_268) rfl rfl rfl (by decide +kernel) ⟨Nat.le_of_ble_eq_true rfl, Nat.le_of_ble_eq_true rfl⟩) (zpre hP hE hS.2.1 (va_recv hK hP (ci := 4) (q0 := 13) rfl rfl)) rfl rfl hl.1 rfl (lv_room (Nat.le_of_ble_eq_true rfl)) dX_hasParts_87 ⟨Nat.zero_le _, Nat.zero_le _⟩) (fun r9 hr9 => ?_)
  subst hr9
  refine lv_if_eq (tgt := 108) hx hb dX_hasParts_90 (by decide) (fun c12 => ?_) (fun c12 => ?_)
  · have hf := zt c12 hf
    refine lv_iconst (v := 0) hx hb dX_hasParts_108 (by decide) ?_
    exact W.zret (v := 0) (ty := .boolean) hx hb hr rfl (fun t ht hW => ⟨_, rfl, hf, ht⟩) (fun _ h9 => nomatch h9) dX_hasParts_109
  · have hf := zn c12 hf
    refine lv_aload_n hx hb dX_hasParts_93 rfl (lv_at hl 0 rfl) ?_
    refine va_get (D := D) (ci := 0) (v := .ref (a 13)) (C := RX) (T := TX) (N := 10) hx hb hts (fun w h9 => zc (inX w h9)) hown hK hP 0 rfl rfl 4 (by decide) (hts _ (zc m_178)) (fun _ h9 => h9) rfl dX_hasParts_94 ?_
    refine lv_iload_n hx hb dX_hasParts_97 rfl (lv_at hl 3 rfl) ?_
    refine vp_callSi (W.runV (As := [.int x3]) (rest := []) ⟨hx, hb, hml, hown, hts⟩ (tXO_has l hI u x3) (cwV 1 hts (zgV m_265 m_266 m_267 m_5 m_268) rfl rfl rfl (by decide +kernel) ⟨Nat.le_of_ble_eq_true rfl, Nat.le_of_ble_eq_true rfl⟩) (zpre hP hE hS.2.1 (va_recv hK hP (ci := 4) (q0 := 13) rfl rfl)) rfl rfl hl.1 rfl (lv_room (Nat.le_of_ble_eq_true rfl)) dX_hasParts_98 ⟨Nat.zero_le _, Nat.zero_le _⟩) (fun r9 hr9 => ?_)
    subst hr9
    refine lv_if_eq (tgt := 108) hx hb dX_hasParts_101 (by decide) (fun c13 => ?_) (fun c13 => ?_)
    · have hf := zt c13 hf
      refine lv_iconst (v := 0) hx hb dX_hasParts_108 (by decide) ?_
      exact W.zret (v := 0) (ty := .boolean) hx hb hr rfl (fun t ht hW => ⟨_, rfl, hf, ht⟩) (fun _ h9 => nomatch h9) dX_hasParts_109
    · have hf := zn c13 hf
      refine lv_iconst (v := 1) hx hb dX_hasParts_104 (by decide) ?_
      refine lv_goto (tgt := 109) hx hb dX_hasParts_105 (by decide) ?_
      exact W.zret (v := 1) (ty := .boolean) hx hb hr rfl (fun t ht hW => ⟨_, rfl, hf, ht⟩) (fun _ h9 => nomatch h9) dX_hasParts_109
set_option maxHeartbeats 4000000 in
set_option maxRecDepth 100000 in
theorem tX_hasParts (l : Launch) {D : va_G} {k : zK} {a : Nat → Nat} (hI : zI 29 a) (u : XS) (p0 : Int32) (p1 : Int32) (p2 : Int32) (hg : GX_hasParts u p0 p1 p2) : Met l yX_hasParts wsX_hasParts ({ frames := 2, cells := 0, slots := 0, locals := 42 }) (zPc D k (zA 29 a) (wX k a u) [.ref (a 0), .int p0, .int p1, .int p2]) (vp_Si (fun r9 => r9 = (FX_hasParts u p0 p1 p2))) 0 0 (fun _ => False) := by
  refine Met.ofW (cc := cX_hasParts) (maxL := 4) (ret := (some .boolean)) (by decide) rfl ?_
  intro p e s m args below meth c s₁ B hml hv
  obtain ⟨rfl, hP, hE⟩ := hv
  have hts := atoms_spec (ws := wsX_hasParts) B.pre
  have C0 : zC p s m _ meth c cX_hasParts (some .boolean) 4 RX wsX_hasParts D k (zA 29 a) := ⟨B.exec, B.bytes, B.returns, hml, findClass_of_methodNamed B.named, hts, B.notSynchronized, hE⟩
  obtain ⟨hx, hb, hr, hml, hown, _, hlocks, _⟩ := id C0
  have hK := hE.1
  have hS : va_S (zA 29 a) s.heap s.heap [] := va_S.rf
  generalize hf : FX_hasParts u p0 p1 p2 = tgt
  change ((if p0 = 6 then (FXF_has u p1) else (if p0 = 7 then (FXF_hasNumber u p1) else (if p0 = 8 then (FXN_has u p1) else (if p0 = 9 then 1 else (if p0 = 10 then (FXO_has u p1) else (if p0 = 11 then (LX_hasParts_82 1000 u p0 p1 p2) else (if p0 = 12 then (LX_hasParts_82 1000 u p0 p1 p2) else (if (FXF_has u p1) = 0 then 0 else (if (FXF_has u p2) = 0 then 0 else 1))))))))) : Int32) = tgt at hf
  change (if p0 = 6 then True else (if p0 = 7 then (GXF_hasNumber u p1 ∧ True) else (if p0 = 8 then True else (if p0 = 9 then True else (if p0 = 10 then True else (if p0 = 11 then (MX_hasParts_82 1000 u p0 p1 p2) else (if p0 = 12 then (MX_hasParts_82 1000 u p0 p1 p2) else True))))))) at hg
  have hl := lv_entry ([.ref (a 0), .int p0, .int p1, .int p2]) (n := 4) (Nat.le_of_ble_eq_true rfl)
  rw [lg_entry_eq]
  generalize (lg_sl ([.ref (a 0), .int p0, .int p1, .int p2]) ++ List.replicate (4 - (lg_sl ([.ref (a 0), .int p0, .int p1, .int p2])).length) Slot.unset).toArray = ls at hl ⊢
  have hl : lv_has ls 4 [(0, .ref (a 0)), (1, .int p0), (2, .int p1), (3, .int p2)] := hl
  refine lv_iload_n hx hb dX_hasParts_0 rfl (lv_at hl 1 rfl) ?_
  by_cases c1 : p0 = 6
  · have hf := zt c1 hf
    have hg := zgt c1 hg
    refine lv_tableIn (off := 43) (tgt := 44) hx hb dX_hasParts_1 (by rw [c1]; decide) (by rw [c1]; decide) (by rw [c1]; decide) (by decide) ?_
    refine lv_aload_n hx hb dX_hasParts_44 rfl (lv_at hl 0 rfl) ?_
    refine va_get (D := D) (ci := 0) (v := .ref (a 1)) (C := RX) (T := TX) (N := 10) hx hb hts (fun w h9 => zc (inX w h9)) hown hK hP 0 rfl rfl 1 (by decide) (hts _ (zc m_175)) (fun _ h9 => h9) rfl dX_hasParts_45 ?_
    refine lv_iload_n hx hb dX_hasParts_48 rfl (lv_at hl 2 rfl) ?_
    refine vp_callSi (W.runV (As := [.int p1]) (rest := []) ⟨hx, hb, hml, hown, hts⟩ (tXF_has l hI u p1) (cwV 1 hts (zgV m_223 m_224 m_225 m_2 m_226) rfl rfl rfl (by decide +kernel) ⟨Nat.le_of_ble_eq_true rfl, Nat.le_of_ble_eq_true rfl⟩) (zpre hP hE hS.2.1 (va_recv hK hP (ci := 1) (q0 := 1) rfl rfl)) rfl rfl hl.1 rfl (lv_room (Nat.le_of_ble_eq_true rfl)) dX_hasParts_49 ⟨Nat.zero_le _, Nat.zero_le _⟩) (fun r9 hr9 => ?_)
    subst hr9
    exact W.zret (v := (FXF_has u p1)) (ty := .boolean) hx hb hr (zb (bFXF_has _ _)) (fun t ht hW => ⟨_, rfl, hf, ht⟩) (fun _ h9 => nomatch h9) dX_hasParts_52
  · have hf := zn c1 hf
    have hg := zgn c1 hg
    by_cases c2 : p0 = 7
    · have hf := zt c2 hf
      have hg := zgt c2 hg
      refine lv_tableIn (off := 52) (tgt := 53) hx hb dX_hasParts_1 (by rw [c2]; decide) (by rw [c2]; decide) (by rw [c2]; decide) (by decide) ?_
      refine lv_aload_n hx hb dX_hasParts_53 rfl (lv_at hl 0 rfl) ?_
      refine va_get (D := D) (ci := 0) (v := .ref (a 1)) (C := RX) (T := TX) (N := 10) hx hb hts (fun w h9 => zc (inX w h9)) hown hK hP 0 rfl rfl 1 (by decide) (hts _ (zc m_175)) (fun _ h9 => h9) rfl dX_hasParts_54 ?_
      refine lv_iload_n hx hb dX_hasParts_57 rfl (lv_at hl 2 rfl) ?_
      obtain ⟨h3, hg⟩ := hg
      refine vp_callSi (W.runV (As := [.int p1]) (rest := []) ⟨hx, hb, hml, hown, hts⟩ (tXF_hasNumber l hI u p1 h3) (cwV 1 hts (zgV m_231 m_232 m_233 m_2 m_234) rfl rfl rfl (by decide +kernel) ⟨Nat.le_of_ble_eq_true rfl, Nat.le_of_ble_eq_true rfl⟩) (zpre hP hE hS.2.1 (va_recv hK hP (ci := 1) (q0 := 1) rfl rfl)) rfl rfl hl.1 rfl (lv_room (Nat.le_of_ble_eq_true rfl)) dX_hasParts_58 ⟨Nat.zero_le _, Nat.zero_le _⟩) (fun r9 hr9 => ?_)
      subst hr9
      exact W.zret (v := (FXF_hasNumber u p1)) (ty := .boolean) hx hb hr (zb (bFXF_hasNumber _ _)) (fun t ht hW => ⟨_, rfl, hf, ht⟩) (fun _ h9 => nomatch h9) dX_hasParts_61
    · have hf := zn c2 hf
      have hg := zgn c2 hg
      by_cases c4 : p0 = 8
      · have hf := zt c4 hf
        have hg := zgt c4 hg
        refine lv_tableIn (off := 61) (tgt := 62) hx hb dX_hasParts_1 (by rw [c4]; decide) (by rw [c4]; decide) (by rw [c4]; decide) (by decide) ?_
        refine lv_aload_n hx hb dX_hasParts_62 rfl (lv_at hl 0 rfl) ?_
        refine va_get (D := D) (ci := 0) (v := .ref (a 8)) (C := RX) (T := TX) (N := 10) hx hb hts (fun w h9 => zc (inX w h9)) hown hK hP 0 rfl rfl 3 (by decide) (hts _ (zc m_177)) (fun _ h9 => h9) rfl dX_hasParts_63 ?_
        refine lv_iload_n hx hb dX_hasParts_66 rfl (lv_at hl 2 rfl) ?_
        refine vp_callSi (W.runV (As := [.int p1]) (rest := []) ⟨hx, hb, hml, hown, hts⟩ (tXN_has l hI u p1) (cwV 1 hts (zgV m_261 m_262 m_263 m_4 m_264) rfl rfl rfl (by decide +kernel) ⟨Nat.le_of_ble_eq_true rfl, Nat.le_of_ble_eq_true rfl⟩) (zpre hP hE hS.2.1 (va_recv hK hP (ci := 3) (q0 := 8) rfl rfl)) rfl rfl hl.1 rfl (lv_room (Nat.le_of_ble_eq_true rfl)) dX_hasParts_67 ⟨Nat.zero_le _, Nat.zero_le _⟩) (fun r9 hr9 => ?_)
        subst hr9
        exact W.zret (v := (FXN_has u p1)) (ty := .boolean) hx hb hr (zb (bFXN_has _ _)) (fun t ht hW => ⟨_, rfl, hf, ht⟩) (fun _ h9 => nomatch h9) dX_hasParts_70
      · have hf := zn c4 hf
        have hg := zgn c4 hg
        by_cases c5 : p0 = 9
        · have hf := zt c5 hf
          have hg := zgt c5 hg
          refine lv_tableIn (off := 70) (tgt := 71) hx hb dX_hasParts_1 (by rw [c5]; decide) (by rw [c5]; decide) (by rw [c5]; decide) (by decide) ?_
          refine lv_iconst (v := 1) hx hb dX_hasParts_71 (by decide) ?_
          exact W.zret (v := 1) (ty := .boolean) hx hb hr rfl (fun t ht hW => ⟨_, rfl, hf, ht⟩) (fun _ h9 => nomatch h9) dX_hasParts_72
        · have hf := zn c5 hf
          have hg := zgn c5 hg
          by_cases c6 : p0 = 10
          · have hf := zt c6 hf
            have hg := zgt c6 hg
            refine lv_tableIn (off := 72) (tgt := 73) hx hb dX_hasParts_1 (by rw [c6]; decide) (by rw [c6]; decide) (by rw [c6]; decide) (by decide) ?_
            refine lv_aload_n hx hb dX_hasParts_73 rfl (lv_at hl 0 rfl) ?_
            refine va_get (D := D) (ci := 0) (v := .ref (a 13)) (C := RX) (T := TX) (N := 10) hx hb hts (fun w h9 => zc (inX w h9)) hown hK hP 0 rfl rfl 4 (by decide) (hts _ (zc m_178)) (fun _ h9 => h9) rfl dX_hasParts_74 ?_
            refine lv_iload_n hx hb dX_hasParts_77 rfl (lv_at hl 2 rfl) ?_
            refine vp_callSi (W.runV (As := [.int p1]) (rest := []) ⟨hx, hb, hml, hown, hts⟩ (tXO_has l hI u p1) (cwV 1 hts (zgV m_265 m_266 m_267 m_5 m_268) rfl rfl rfl (by decide +kernel) ⟨Nat.le_of_ble_eq_true rfl, Nat.le_of_ble_eq_true rfl⟩) (zpre hP hE hS.2.1 (va_recv hK hP (ci := 4) (q0 := 13) rfl rfl)) rfl rfl hl.1 rfl (lv_room (Nat.le_of_ble_eq_true rfl)) dX_hasParts_78 ⟨Nat.zero_le _, Nat.zero_le _⟩) (fun r9 hr9 => ?_)
            subst hr9
            exact W.zret (v := (FXO_has u p1)) (ty := .boolean) hx hb hr (zb (bFXO_has _ _)) (fun t ht hW => ⟨_, rfl, hf, ht⟩) (fun _ h9 => nomatch h9) dX_hasParts_81
          · have hf := zn c6 hf
            have hg := zgn c6 hg
            by_cases c7 : p0 = 11
            · have hf := zt c7 hf
              have hg := zgt c7 hg
              refine lv_tableIn (off := 81) (tgt := 82) hx hb dX_hasParts_1 (by rw [c7]; decide) (by rw [c7]; decide) (by rw [c7]; decide) (by decide) ?_
              exact kX_hasParts_82 hI C0 (tgt := tgt) 1000 u p0 p1 p2 hf hg _ _ hP hS ⟨rfl, rfl⟩ _ (lv_sub hl [0, 1, 2, 3] rfl)
            · have hf := zn c7 hf
              have hg := zgn c7 hg
              by_cases c8 : p0 = 12
              · have hf := zt c8 hf
                have hg := zgt c8 hg
                refine lv_tableIn (off := 81) (tgt := 82) hx hb dX_hasParts_1 (by rw [c8]; decide) (by rw [c8]; decide) (by rw [c8]; decide) (by decide) ?_
                exact kX_hasParts_82 hI C0 (tgt := tgt) 1000 u p0 p1 p2 hf hg _ _ hP hS ⟨rfl, rfl⟩ _ (lv_sub hl [0, 1, 2, 3] rfl)
              · have hf := zn c8 hf
                have hg := zgn c8 hg
                refine lv_tableOut (tgt := 110) hx hb dX_hasParts_1 (by have e0 := lv_neT (a := 6) c1 (by decide); have e1 := lv_neT (a := 7) c2 (by decide); have e2 := lv_neT (a := 8) c4 (by decide); have e3 := lv_neT (a := 9) c5 (by decide); have e4 := lv_neT (a := 10) c6 (by decide); have e5 := lv_neT (a := 11) c7 (by decide); have e6 := lv_neT (a := 12) c8 (by decide); omega) (by decide) ?_
                refine lv_aload_n hx hb dX_hasParts_110 rfl (lv_at hl 0 rfl) ?_
                refine va_get (D := D) (ci := 0) (v := .ref (a 1)) (C := RX) (T := TX) (N := 10) hx hb hts (fun w h9 => zc (inX w h9)) hown hK hP 0 rfl rfl 1 (by decide) (hts _ (zc m_175)) (fun _ h9 => h9) rfl dX_hasParts_111 ?_
                refine lv_iload_n hx hb dX_hasParts_114 rfl (lv_at hl 2 rfl) ?_
                refine vp_callSi (W.runV (As := [.int p1]) (rest := []) ⟨hx, hb, hml, hown, hts⟩ (tXF_has l hI u p1) (cwV 1 hts (zgV m_223 m_224 m_225 m_2 m_226) rfl rfl rfl (by decide +kernel) ⟨Nat.le_of_ble_eq_true rfl, Nat.le_of_ble_eq_true rfl⟩) (zpre hP hE hS.2.1 (va_recv hK hP (ci := 1) (q0 := 1) rfl rfl)) rfl rfl hl.1 rfl (lv_room (Nat.le_of_ble_eq_true rfl)) dX_hasParts_115 ⟨Nat.zero_le _, Nat.zero_le _⟩) (fun r9 hr9 => ?_)
                subst hr9
                refine lv_if_eq (tgt := 136) hx hb dX_hasParts_118 (by decide) (fun c10 => ?_) (fun c10 => ?_)
                · have hf := zt c10 hf
                  refine lv_iconst (v := 0) hx hb dX_hasParts_136 (by decide) ?_
                  exact W.zret (v := 0) (ty := .boolean) hx hb hr rfl (fun t ht hW => ⟨_, rfl, hf, ht⟩) (fun _ h9 => nomatch h9) dX_hasParts_137
                · have hf := zn c10 hf
                  refine lv_aload_n hx hb dX_hasParts_121 rfl (lv_at hl 0 rfl) ?_
                  refine va_get (D := D) (ci := 0) (v := .ref (a 1)) (C := RX) (T := TX) (N := 10) hx hb hts (fun w h9 => zc (inX w h9)) hown hK hP 0 rfl rfl 1 (by decide) (hts _ (zc m_175)) (fun _ h9 => h9) rfl dX_hasParts_122 ?_
                  refine lv_iload_n hx hb dX_hasParts_125 rfl (lv_at hl 3 rfl) ?_
                  refine vp_callSi (W.runV (As := [.int p2]) (rest := []) ⟨hx, hb, hml, hown, hts⟩ (tXF_has l hI u p2) (cwV 1 hts (zgV m_223 m_224 m_225 m_2 m_226) rfl rfl rfl (by decide +kernel) ⟨Nat.le_of_ble_eq_true rfl, Nat.le_of_ble_eq_true rfl⟩) (zpre hP hE hS.2.1 (va_recv hK hP (ci := 1) (q0 := 1) rfl rfl)) rfl rfl hl.1 rfl (lv_room (Nat.le_of_ble_eq_true rfl)) dX_hasParts_126 ⟨Nat.zero_le _, Nat.zero_le _⟩) (fun r9 hr9 => ?_)
                  subst hr9
                  refine lv_if_eq (tgt := 136) hx hb dX_hasParts_129 (by decide) (fun c11 => ?_) (fun c11 => ?_)
                  · have hf := zt c11 hf
                    refine lv_iconst (v := 0) hx hb dX_hasParts_136 (by decide) ?_
                    exact W.zret (v := 0) (ty := .boolean) hx hb hr rfl (fun t ht hW => ⟨_, rfl, hf, ht⟩) (fun _ h9 => nomatch h9) dX_hasParts_137
                  · have hf := zn c11 hf
                    refine lv_iconst (v := 1) hx hb dX_hasParts_132 (by decide) ?_
                    refine lv_goto (tgt := 137) hx hb dX_hasParts_133 (by decide) ?_
                    exact W.zret (v := 1) (ty := .boolean) hx hb hr rfl (fun t ht hW => ⟨_, rfl, hf, ht⟩) (fun _ h9 => nomatch h9) dX_hasParts_137
theorem dXO_add_0 : decode cXO_add 0 = .ok (.aload_n 0, 1) := by decide +kernel
theorem dXO_add_1 : decode cXO_add 1 = .ok (.getfield 21, 3) := by decide +kernel
theorem dXO_add_4 : decode cXO_add 4 = .ok (.sipush 200, 3) := by decide +kernel
theorem dXO_add_7 : decode cXO_add 7 = .ok (.if_icmp .lt 5, 3) := by decide +kernel
theorem dXO_add_10 : decode cXO_add 10 = .ok (.iconst (-1), 1) := by decide +kernel
theorem dXO_add_11 : decode cXO_add 11 = .ok (.ireturn, 1) := by decide +kernel
theorem dXO_add_12 : decode cXO_add 12 = .ok (.aload_n 0, 1) := by decide +kernel
theorem dXO_add_13 : decode cXO_add 13 = .ok (.dup, 1) := by decide +kernel
theorem dXO_add_14 : decode cXO_add 14 = .ok (.getfield 21, 3) := by decide +kernel
theorem dXO_add_17 : decode cXO_add 17 = .ok (.iconst 1, 1) := by decide +kernel
theorem dXO_add_18 : decode cXO_add 18 = .ok (.iadd, 1) := by decide +kernel
theorem dXO_add_19 : decode cXO_add 19 = .ok (.putfield 21, 3) := by decide +kernel
theorem dXO_add_22 : decode cXO_add 22 = .ok (.aload_n 0, 1) := by decide +kernel
theorem dXO_add_23 : decode cXO_add 23 = .ok (.getfield 9, 3) := by decide +kernel
theorem dXO_add_26 : decode cXO_add 26 = .ok (.aload_n 0, 1) := by decide +kernel
theorem dXO_add_27 : decode cXO_add 27 = .ok (.getfield 21, 3) := by decide +kernel
theorem dXO_add_30 : decode cXO_add 30 = .ok (.iload_n 1, 1) := by decide +kernel
theorem dXO_add_31 : decode cXO_add 31 = .ok (.iastore, 1) := by decide +kernel
theorem dXO_add_32 : decode cXO_add 32 = .ok (.aload_n 0, 1) := by decide +kernel
theorem dXO_add_33 : decode cXO_add 33 = .ok (.getfield 15, 3) := by decide +kernel
theorem dXO_add_36 : decode cXO_add 36 = .ok (.aload_n 0, 1) := by decide +kernel
theorem dXO_add_37 : decode cXO_add 37 = .ok (.getfield 21, 3) := by decide +kernel
theorem dXO_add_40 : decode cXO_add 40 = .ok (.iload_n 2, 1) := by decide +kernel
theorem dXO_add_41 : decode cXO_add 41 = .ok (.iastore, 1) := by decide +kernel
theorem dXO_add_42 : decode cXO_add 42 = .ok (.aload_n 0, 1) := by decide +kernel
theorem dXO_add_43 : decode cXO_add 43 = .ok (.getfield 18, 3) := by decide +kernel
theorem dXO_add_46 : decode cXO_add 46 = .ok (.aload_n 0, 1) := by decide +kernel
theorem dXO_add_47 : decode cXO_add 47 = .ok (.getfield 21, 3) := by decide +kernel
theorem dXO_add_50 : decode cXO_add 50 = .ok (.iload_n 3, 1) := by decide +kernel
theorem dXO_add_51 : decode cXO_add 51 = .ok (.iastore, 1) := by decide +kernel
theorem dXO_add_52 : decode cXO_add 52 = .ok (.aload_n 0, 1) := by decide +kernel
theorem dXO_add_53 : decode cXO_add 53 = .ok (.getfield 21, 3) := by decide +kernel
theorem dXO_add_56 : decode cXO_add 56 = .ok (.ireturn, 1) := by decide +kernel
abbrev wsXO_add : List Cond := Cond.code yXO_add cXO_add 4 (some .int) :: zWords
def FXO_add (u : XS) (p0 : Int32) (p1 : Int32) (p2 : Int32) : Int32 × XS := (if (Xg_nodes_made u) < 200 then (zlet (Xs_nodes_made u ((Xg_nodes_made u) + 1)) (fun u2 => (zlet (Xs_nodes_op u2 (upd (Xg_nodes_op u2) ((Xg_nodes_made u2).toNatClampNeg) p0)) (fun u4 => (zlet (Xs_nodes_a u4 (upd (Xg_nodes_a u4) ((Xg_nodes_made u4).toNatClampNeg) p1)) (fun u6 => (zlet (Xs_nodes_b u6 (upd (Xg_nodes_b u6) ((Xg_nodes_made u6).toNatClampNeg) p2)) (fun u8 => ((Xg_nodes_made u8), u8))))))))) else ((-1), u))
def GXO_add (u : XS) (p0 : Int32) (p1 : Int32) (p2 : Int32) : Prop := (if (Xg_nodes_made u) < 200 then (zlet (Xs_nodes_made u ((Xg_nodes_made u) + 1)) (fun u2 => (vp_in (Xg_nodes_made u2) 201 ∧ (zlet (Xs_nodes_op u2 (upd (Xg_nodes_op u2) ((Xg_nodes_made u2).toNatClampNeg) p0)) (fun u4 => (vp_in (Xg_nodes_made u4) 201 ∧ (zlet (Xs_nodes_a u4 (upd (Xg_nodes_a u4) ((Xg_nodes_made u4).toNatClampNeg) p1)) (fun u6 => (vp_in (Xg_nodes_made u6) 201 ∧ (zlet (Xs_nodes_b u6 (upd (Xg_nodes_b u6) ((Xg_nodes_made u6).toNatClampNeg) p2)) (fun u8 => True))))))))))) else True)
set_option maxHeartbeats 4000000 in
set_option maxRecDepth 100000 in
theorem tXO_add (l : Launch) {D : va_G} {k : zK} {a : Nat → Nat} (hI : zI 29 a) (u : XS) (p0 : Int32) (p1 : Int32) (p2 : Int32) (hg : GXO_add u p0 p1 p2) : Met l yXO_add wsXO_add ({ frames := 0, cells := 0, slots := 0, locals := 0 }) (zPc D k (zA 29 a) (wX k a u) [.ref (a 13), .int p0, .int p1, .int p2]) (zQi D (wX k a) (zA 29 a) (FXO_add u p0 p1 p2)) 0 0 (zA 29 a) := by
  refine Met.ofW (cc := cXO_add) (maxL := 4) (ret := (some .int)) (by decide) rfl ?_
  intro p e s m args below meth c s₁ B hml hv
  obtain ⟨rfl, hP, hE⟩ := hv
  have hts := atoms_spec (ws := wsXO_add) B.pre
  have C0 : zC p s m _ meth c cXO_add (some .int) 4 RXO wsXO_add D k (zA 29 a) := ⟨B.exec, B.bytes, B.returns, hml, findClass_of_methodNamed B.named, hts, B.notSynchronized, hE⟩
  obtain ⟨hx, hb, hr, hml, hown, _, hlocks, _⟩ := id C0
  have hK := hE.1
  have hS : va_S (zA 29 a) s.heap s.heap [] := va_S.rf
  generalize hf : FXO_add u p0 p1 p2 = tgt
  change ((if (Xg_nodes_made u) < 200 then (zlet (Xs_nodes_made u ((Xg_nodes_made u) + 1)) (fun u2 => (zlet (Xs_nodes_op u2 (upd (Xg_nodes_op u2) ((Xg_nodes_made u2).toNatClampNeg) p0)) (fun u4 => (zlet (Xs_nodes_a u4 (upd (Xg_nodes_a u4) ((Xg_nodes_made u4).toNatClampNeg) p1)) (fun u6 => (zlet (Xs_nodes_b u6 (upd (Xg_nodes_b u6) ((Xg_nodes_made u6).toNatClampNeg) p2)) (fun u8 => ((Xg_nodes_made u8), u8))))))))) else ((-1), u)) : Int32 × XS) = tgt at hf
  change (if (Xg_nodes_made u) < 200 then (zlet (Xs_nodes_made u ((Xg_nodes_made u) + 1)) (fun u2 => (vp_in (Xg_nodes_made u2) 201 ∧ (zlet (Xs_nodes_op u2 (upd (Xg_nodes_op u2) ((Xg_nodes_made u2).toNatClampNeg) p0)) (fun u4 => (vp_in (Xg_nodes_made u4) 201 ∧ (zlet (Xs_nodes_a u4 (upd (Xg_nodes_a u4) ((Xg_nodes_made u4).toNatClampNeg) p1)) (fun u6 => (vp_in (Xg_nodes_made u6) 201 ∧ (zlet (Xs_nodes_b u6 (upd (Xg_nodes_b u6) ((Xg_nodes_made u6).toNatClampNeg) p2)) (fun u8 => True))))))))))) else True) at hg
  have hl := lv_entry ([.ref (a 13), .int p0, .int p1, .int p2]) (n := 4) (Nat.le_of_ble_eq_true rfl)
  rw [lg_entry_eq]
  generalize (lg_sl ([.ref (a 13), .int p0, .int p1, .int p2]) ++ List.replicate (4 - (lg_sl ([.ref (a 13), .int p0, .int p1, .int p2])).length) Slot.unset).toArray = ls at hl ⊢
  have hl : lv_has ls 4 [(0, .ref (a 13)), (1, .int p0), (2, .int p1), (3, .int p2)] := hl
  refine lv_aload_n hx hb dXO_add_0 rfl (lv_at hl 0 rfl) ?_
  refine va_get (D := D) (ci := 4) (v := .int (Xg_nodes_made u)) (C := RXO) (T := TXO) (N := 4) hx hb hts (fun w h9 => zc (inXO w h9)) hown hK hP 13 rfl rfl 3 (by decide) (hts _ (zc m_100)) (fun _ h9 => h9) rfl dXO_add_1 ?_
  refine lv_sipush (v := 200) hx hb dXO_add_4 (by decide) ?_
  refine lv_icmp_lt (tgt := 12) hx hb dXO_add_7 (by decide) (fun c1 => ?_) (fun c1 => ?_)
  · have hf := zt c1 hf
    have hg := zgt c1 hg
    refine lv_aload_n hx hb dXO_add_12 rfl (lv_at hl 0 rfl) ?_
    refine lv_dup hx hb dXO_add_13 rfl ?_
    refine va_get (D := D) (ci := 4) (v := .int (Xg_nodes_made u)) (C := RXO) (T := TXO) (N := 4) hx hb hts (fun w h9 => zc (inXO w h9)) hown hK hP 13 rfl rfl 3 (by decide) (hts _ (zc m_100)) (fun _ h9 => h9) rfl dXO_add_14 ?_
    refine lv_iconst (v := 1) hx hb dXO_add_17 (by decide) ?_
    refine lv_iadd hx hb dXO_add_18 ?_
    refine va_put (D := D) (ci := 4) (v := .int ((Xg_nodes_made u) + 1)) (ty := .int) (C := RXO) (T := TXO) (N := 4) hx hb hts (fun w h9 => zc (inXO w h9)) tyXO tyXO_ok nmXO hown hK hP (XD hI _) hS 13 rfl rfl 3 (by decide) (hts _ (zc m_100)) (fun _ h9 => h9) rfl (by decide +kernel) rfl rfl (Nat.le_of_ble_eq_true rfl) dXO_add_19 (fun H locs hP _ hS => ?_)
    obtain ⟨u2, hP, hf, hg⟩ := zlets (E := (Xs_nodes_made u ((Xg_nodes_made u) + 1))) (w := wX k a) (Xp_nodes_made hP) hf hg
    refine lv_aload_n hx hb dXO_add_22 rfl (lv_at hl 0 rfl) ?_
    refine va_get (D := D) (ci := 4) (v := .ref (a 14)) (C := RXO) (T := TXO) (N := 4) hx hb hts (fun w h9 => zc (inXO w h9)) hown hK hP 13 rfl rfl 0 (by decide) (hts _ (zc m_94)) (fun _ h9 => h9) rfl dXO_add_23 ?_
    refine lv_aload_n hx hb dXO_add_26 rfl (lv_at hl 0 rfl) ?_
    refine va_get (D := D) (ci := 4) (v := .int (Xg_nodes_made u2)) (C := RXO) (T := TXO) (N := 4) hx hb hts (fun w h9 => zc (inXO w h9)) hown hK hP 13 rfl rfl 3 (by decide) (hts _ (zc m_100)) (fun _ h9 => h9) rfl dXO_add_27 ?_
    refine lv_iload_n hx hb dXO_add_30 rfl (lv_at hl 1 rfl) ?_
    obtain ⟨h3, hg⟩ := hg
    refine va_iast hx hb hK hP (XD hI _) hS 14 0 rfl rfl h3 dXO_add_31 (fun H locs hP _ hS => ?_)
    obtain ⟨u4, hP, hf, hg⟩ := zlets (E := (Xs_nodes_op u2 (upd (Xg_nodes_op u2) ((Xg_nodes_made u2).toNatClampNeg) p0))) (w := wX k a) (Xp_nodes_op hP) hf hg
    refine lv_aload_n hx hb dXO_add_32 rfl (lv_at hl 0 rfl) ?_
    refine va_get (D := D) (ci := 4) (v := .ref (a 15)) (C := RXO) (T := TXO) (N := 4) hx hb hts (fun w h9 => zc (inXO w h9)) hown hK hP 13 rfl rfl 1 (by decide) (hts _ (zc m_96)) (fun _ h9 => h9) rfl dXO_add_33 ?_
    refine lv_aload_n hx hb dXO_add_36 rfl (lv_at hl 0 rfl) ?_
    refine va_get (D := D) (ci := 4) (v := .int (Xg_nodes_made u4)) (C := RXO) (T := TXO) (N := 4) hx hb hts (fun w h9 => zc (inXO w h9)) hown hK hP 13 rfl rfl 3 (by decide) (hts _ (zc m_100)) (fun _ h9 => h9) rfl dXO_add_37 ?_
    refine lv_iload_n hx hb dXO_add_40 rfl (lv_at hl 2 rfl) ?_
    obtain ⟨h5, hg⟩ := hg
    refine va_iast hx hb hK hP (XD hI _) hS 15 0 rfl rfl h5 dXO_add_41 (fun H locs hP _ hS => ?_)
    obtain ⟨u6, hP, hf, hg⟩ := zlets (E := (Xs_nodes_a u4 (upd (Xg_nodes_a u4) ((Xg_nodes_made u4).toNatClampNeg) p1))) (w := wX k a) (Xp_nodes_a hP) hf hg
    refine lv_aload_n hx hb dXO_add_42 rfl (lv_at hl 0 rfl) ?_
    refine va_get (D := D) (ci := 4) (v := .ref (a 16)) (C := RXO) (T := TXO) (N := 4) hx hb hts (fun w h9 => zc (inXO w h9)) hown hK hP 13 rfl rfl 2 (by decide) (hts _ (zc m_98)) (fun _ h9 => h9) rfl dXO_add_43 ?_
    refine lv_aload_n hx hb dXO_add_46 rfl (lv_at hl 0 rfl) ?_
    refine va_get (D := D) (ci := 4) (v := .int (Xg_nodes_made u6)) (C := RXO) (T := TXO) (N := 4) hx hb hts (fun w h9 => zc (inXO w h9)) hown hK hP 13 rfl rfl 3 (by decide) (hts _ (zc m_100)) (fun _ h9 => h9) rfl dXO_add_47 ?_
    refine lv_iload_n hx hb dXO_add_50 rfl (lv_at hl 3 rfl) ?_
    obtain ⟨h7, hg⟩ := hg
    refine va_iast hx hb hK hP (XD hI _) hS 16 0 rfl rfl h7 dXO_add_51 (fun H locs hP _ hS => ?_)
    obtain ⟨u8, hP, hf, hg⟩ := zlets (E := (Xs_nodes_b u6 (upd (Xg_nodes_b u6) ((Xg_nodes_made u6).toNatClampNeg) p2))) (w := wX k a) (Xp_nodes_b hP) hf hg
    refine lv_aload_n hx hb dXO_add_52 rfl (lv_at hl 0 rfl) ?_
    refine va_get (D := D) (ci := 4) (v := .int (Xg_nodes_made u8)) (C := RXO) (T := TXO) (N := 4) hx hb hts (fun w h9 => zc (inXO w h9)) hown hK hP 13 rfl rfl 3 (by decide) (hts _ (zc m_100)) (fun _ h9 => h9) rfl dXO_add_53 ?_
    exact W.iret (v := (Xg_nodes_made u8)) hx hb hr (fun t ht hW => by subst hf; exact ⟨rfl, by rw [ht]; exact hP, hS.F ht⟩) hS.2.2 dXO_add_56
  · have hf := zn c1 hf
    have hg := zgn c1 hg
    refine lv_iconst (v := (-1)) hx hb dXO_add_10 (by decide) ?_
    exact W.iret (v := (-1)) hx hb hr (fun t ht hW => by subst hf; exact ⟨rfl, by rw [ht]; exact hP, hS.F ht⟩) hS.2.2 dXO_add_11
theorem dX_node_0 : decode cX_node 0 = .ok (.iload_n 1, 1) := by decide +kernel
theorem dX_node_1 : decode cX_node 1 = .ok (.iload_n 2, 1) := by decide +kernel
theorem dX_node_2 : decode cX_node 2 = .ok (.iload_n 3, 1) := by decide +kernel
theorem dX_node_3 : decode cX_node 3 = .ok (.invokestatic 96, 3) := by decide +kernel
theorem dX_node_6 : decode cX_node 6 = .ok (.ifCond .ne 6, 3) := by decide +kernel
theorem dX_node_9 : decode cX_node 9 = .ok (.bipush (-4), 2) := by decide +kernel
theorem dX_node_11 : decode cX_node 11 = .ok (.ireturn, 1) := by decide +kernel
theorem dX_node_12 : decode cX_node 12 = .ok (.aload_n 0, 1) := by decide +kernel
theorem dX_node_13 : decode cX_node 13 = .ok (.iload_n 1, 1) := by decide +kernel
theorem dX_node_14 : decode cX_node 14 = .ok (.iload_n 2, 1) := by decide +kernel
theorem dX_node_15 : decode cX_node 15 = .ok (.iload_n 3, 1) := by decide +kernel
theorem dX_node_16 : decode cX_node 16 = .ok (.invokevirtual 100, 3) := by decide +kernel
theorem dX_node_19 : decode cX_node 19 = .ok (.ifCond .ne 6, 3) := by decide +kernel
theorem dX_node_22 : decode cX_node 22 = .ok (.bipush (-2), 2) := by decide +kernel
theorem dX_node_24 : decode cX_node 24 = .ok (.ireturn, 1) := by decide +kernel
theorem dX_node_25 : decode cX_node 25 = .ok (.aload_n 0, 1) := by decide +kernel
theorem dX_node_26 : decode cX_node 26 = .ok (.getfield 33, 3) := by decide +kernel
theorem dX_node_29 : decode cX_node 29 = .ok (.iload_n 1, 1) := by decide +kernel
theorem dX_node_30 : decode cX_node 30 = .ok (.iload_n 2, 1) := by decide +kernel
theorem dX_node_31 : decode cX_node 31 = .ok (.iload_n 3, 1) := by decide +kernel
theorem dX_node_32 : decode cX_node 32 = .ok (.invokevirtual 103, 3) := by decide +kernel
theorem dX_node_35 : decode cX_node 35 = .ok (.ireturn, 1) := by decide +kernel
abbrev wsX_node : List Cond := Cond.code yX_node cX_node 4 (some .int) :: zWords
def FX_node (u : XS) (p0 : Int32) (p1 : Int32) (p2 : Int32) : Int32 × XS := (if (FX_isInside u p0 p1 p2) = 0 then ((-4), u) else (if (FX_hasParts u p0 p1 p2) = 0 then ((-2), u) else (zlet (FXO_add u p0 p1 p2) (fun u6 => (u6.1, u6.2)))))
def GX_node (u : XS) (p0 : Int32) (p1 : Int32) (p2 : Int32) : Prop := (GX_isInside u p0 p1 p2 ∧ (if (FX_isInside u p0 p1 p2) = 0 then True else (GX_hasParts u p0 p1 p2 ∧ (if (FX_hasParts u p0 p1 p2) = 0 then True else (GXO_add u p0 p1 p2 ∧ (zlet (FXO_add u p0 p1 p2) (fun u6 => True)))))))
set_option maxHeartbeats 4000000 in
set_option maxRecDepth 100000 in
theorem tX_node (l : Launch) {D : va_G} {k : zK} {a : Nat → Nat} (hI : zI 29 a) (u : XS) (p0 : Int32) (p1 : Int32) (p2 : Int32) (hg : GX_node u p0 p1 p2) : Met l yX_node wsX_node ({ frames := 3, cells := 0, slots := 0, locals := 65 }) (zPc D k (zA 29 a) (wX k a u) [.ref (a 0), .int p0, .int p1, .int p2]) (zQi D (wX k a) (zA 29 a) (FX_node u p0 p1 p2)) 0 0 (zA 29 a) := by
  refine Met.ofW (cc := cX_node) (maxL := 4) (ret := (some .int)) (by decide) rfl ?_
  intro p e s m args below meth c s₁ B hml hv
  obtain ⟨rfl, hP, hE⟩ := hv
  have hts := atoms_spec (ws := wsX_node) B.pre
  have C0 : zC p s m _ meth c cX_node (some .int) 4 RX wsX_node D k (zA 29 a) := ⟨B.exec, B.bytes, B.returns, hml, findClass_of_methodNamed B.named, hts, B.notSynchronized, hE⟩
  obtain ⟨hx, hb, hr, hml, hown, _, hlocks, _⟩ := id C0
  have hK := hE.1
  have hS : va_S (zA 29 a) s.heap s.heap [] := va_S.rf
  generalize hf : FX_node u p0 p1 p2 = tgt
  change ((if (FX_isInside u p0 p1 p2) = 0 then ((-4), u) else (if (FX_hasParts u p0 p1 p2) = 0 then ((-2), u) else (zlet (FXO_add u p0 p1 p2) (fun u6 => (u6.1, u6.2))))) : Int32 × XS) = tgt at hf
  change (GX_isInside u p0 p1 p2 ∧ (if (FX_isInside u p0 p1 p2) = 0 then True else (GX_hasParts u p0 p1 p2 ∧ (if (FX_hasParts u p0 p1 p2) = 0 then True else (GXO_add u p0 p1 p2 ∧ (zlet (FXO_add u p0 p1 p2) (fun u6 => True))))))) at hg
  have hl := lv_entry ([.ref (a 0), .int p0, .int p1, .int p2]) (n := 4) (Nat.le_of_ble_eq_true rfl)
  rw [lg_entry_eq]
  generalize (lg_sl ([.ref (a 0), .int p0, .int p1, .int p2]) ++ List.replicate (4 - (lg_sl ([.ref (a 0), .int p0, .int p1, .int p2])).length) Slot.unset).toArray = ls at hl ⊢
  have hl : lv_has ls 4 [(0, .ref (a 0)), (1, .int p0), (2, .int p1), (3, .int p2)] := hl
  refine lv_iload_n hx hb dX_node_0 rfl (lv_at hl 1 rfl) ?_
  refine lv_iload_n hx hb dX_node_1 rfl (lv_at hl 2 rfl) ?_
  refine lv_iload_n hx hb dX_node_2 rfl (lv_at hl 3 rfl) ?_
  obtain ⟨h1, hg⟩ := hg
  refine vp_callSi (W.runS (As := [.int p0, .int p1, .int p2]) (rest := []) ⟨hx, hb, hml, hown, hts⟩ (tX_isInside l hI u p0 p1 p2 h1) (va_cwS 3 hts (zgS m_251 m_252 m_1 m_253) rfl rfl rfl (by decide +kernel) ⟨Nat.le_of_ble_eq_true rfl, Nat.le_of_ble_eq_true rfl⟩) (zpreS hP hE hS.2.1) rfl rfl hl.1 rfl (lv_room (Nat.le_of_ble_eq_true rfl)) dX_node_3 ⟨Nat.zero_le _, Nat.zero_le _⟩) (fun r9 hr9 => ?_)
  subst hr9
  refine lv_if_ne (tgt := 12) hx hb dX_node_6 (by decide) (fun c2 => ?_) (fun c2 => ?_)
  · have hf := zn c2 hf
    have hg := zgn c2 hg
    refine lv_aload_n hx hb dX_node_12 rfl (lv_at hl 0 rfl) ?_
    refine lv_iload_n hx hb dX_node_13 rfl (lv_at hl 1 rfl) ?_
    refine lv_iload_n hx hb dX_node_14 rfl (lv_at hl 2 rfl) ?_
    refine lv_iload_n hx hb dX_node_15 rfl (lv_at hl 3 rfl) ?_
    obtain ⟨h3, hg⟩ := hg
    refine vp_callSi (W.runV (As := [.int p0, .int p1, .int p2]) (rest := []) ⟨hx, hb, hml, hown, hts⟩ (tX_hasParts l hI u p0 p1 p2 h3) (cwV 3 hts (zgV m_257 m_259 mp_0 m_1 m_260) rfl rfl rfl (by decide +kernel) ⟨Nat.le_of_ble_eq_true rfl, Nat.le_of_ble_eq_true rfl⟩) (zpre hP hE hS.2.1 (va_recv hK hP (ci := 0) (q0 := 0) rfl rfl)) rfl rfl hl.1 rfl (lv_room (Nat.le_of_ble_eq_true rfl)) dX_node_16 ⟨Nat.zero_le _, Nat.zero_le _⟩) (fun r9 hr9 => ?_)
    subst hr9
    refine lv_if_ne (tgt := 25) hx hb dX_node_19 (by decide) (fun c4 => ?_) (fun c4 => ?_)
    · have hf := zn c4 hf
      have hg := zgn c4 hg
      refine lv_aload_n hx hb dX_node_25 rfl (lv_at hl 0 rfl) ?_
      refine va_get (D := D) (ci := 0) (v := .ref (a 13)) (C := RX) (T := TX) (N := 10) hx hb hts (fun w h9 => zc (inX w h9)) hown hK hP 0 rfl rfl 4 (by decide) (hts _ (zc m_178)) (fun _ h9 => h9) rfl dX_node_26 ?_
      refine lv_iload_n hx hb dX_node_29 rfl (lv_at hl 1 rfl) ?_
      refine lv_iload_n hx hb dX_node_30 rfl (lv_at hl 2 rfl) ?_
      refine lv_iload_n hx hb dX_node_31 rfl (lv_at hl 3 rfl) ?_
      obtain ⟨h5, hg⟩ := hg
      refine zmui (W.runV (As := [.int p0, .int p1, .int p2]) (rest := []) ⟨hx, hb, hml, hown, hts⟩ (tXO_add l hI u p0 p1 p2 h5) (cwV 3 hts (zgV m_269 m_270 m_271 m_5 m_272) rfl rfl rfl (by decide +kernel) ⟨Nat.le_of_ble_eq_true rfl, Nat.le_of_ble_eq_true rfl⟩) (zpre hP hE hS.2.1 (va_recv hK hP (ci := 4) (q0 := 13) rfl rfl)) rfl rfl hl.1 rfl (lv_room (Nat.le_of_ble_eq_true rfl)) dX_node_32 ⟨Nat.zero_le _, Nat.zero_le _⟩) hS hf hg (fun u6 H locs hf hg hP hS => ?_)
      exact W.iret (v := u6.1) hx hb hr (fun t ht hW => by subst hf; exact ⟨rfl, by rw [ht]; exact hP, hS.F ht⟩) hS.2.2 dX_node_35
    · have hf := zt c4 hf
      have hg := zgt c4 hg
      refine lv_bipush (v := (-2)) hx hb dX_node_22 (by decide) ?_
      exact W.iret (v := (-2)) hx hb hr (fun t ht hW => by subst hf; exact ⟨rfl, by rw [ht]; exact hP, hS.F ht⟩) hS.2.2 dX_node_24
  · have hf := zt c2 hf
    have hg := zgt c2 hg
    refine lv_bipush (v := (-4)) hx hb dX_node_9 (by decide) ?_
    exact W.iret (v := (-4)) hx hb hr (fun t ht hW => by subst hf; exact ⟨rfl, by rw [ht]; exact hP, hS.F ht⟩) hS.2.2 dX_node_11
theorem dX_isBelowUnsigned_0 : decode cX_isBelowUnsigned 0 = .ok (.lload_n 0, 1) := by decide +kernel
theorem dX_isBelowUnsigned_1 : decode cX_isBelowUnsigned 1 = .ok (.ldc2_w 200, 3) := by decide +kernel
theorem dX_isBelowUnsigned_4 : decode cX_isBelowUnsigned 4 = .ok (.lxor, 1) := by decide +kernel
theorem dX_isBelowUnsigned_5 : decode cX_isBelowUnsigned 5 = .ok (.lload_n 2, 1) := by decide +kernel
theorem dX_isBelowUnsigned_6 : decode cX_isBelowUnsigned 6 = .ok (.ldc2_w 200, 3) := by decide +kernel
theorem dX_isBelowUnsigned_9 : decode cX_isBelowUnsigned 9 = .ok (.lxor, 1) := by decide +kernel
theorem dX_isBelowUnsigned_10 : decode cX_isBelowUnsigned 10 = .ok (.lcmp, 1) := by decide +kernel
theorem dX_isBelowUnsigned_11 : decode cX_isBelowUnsigned 11 = .ok (.ifCond .ge 7, 3) := by decide +kernel
theorem dX_isBelowUnsigned_14 : decode cX_isBelowUnsigned 14 = .ok (.iconst 1, 1) := by decide +kernel
theorem dX_isBelowUnsigned_15 : decode cX_isBelowUnsigned 15 = .ok (.goto 4, 3) := by decide +kernel
theorem dX_isBelowUnsigned_18 : decode cX_isBelowUnsigned 18 = .ok (.iconst 0, 1) := by decide +kernel
theorem dX_isBelowUnsigned_19 : decode cX_isBelowUnsigned 19 = .ok (.ireturn, 1) := by decide +kernel
abbrev wsX_isBelowUnsigned : List Cond := Cond.code yX_isBelowUnsigned cX_isBelowUnsigned 4 (some .boolean) :: zWords
def FX_isBelowUnsigned (u : XS) (p0 : Int64) (p1 : Int64) : Int32 := (if (0 : Int32) ≤ (lg_cmp (p0 ^^^ (-9223372036854775808)) (p1 ^^^ (-9223372036854775808))) then 0 else 1)
theorem bFX_isBelowUnsigned (u : XS) (p0 : Int64) (p1 : Int64) : FX_isBelowUnsigned u p0 p1 = 0 ∨ FX_isBelowUnsigned u p0 p1 = 1 := by
  unfold FX_isBelowUnsigned
  repeat' split
  all_goals first | exact Or.inl rfl | exact Or.inr rfl
set_option maxHeartbeats 4000000 in
set_option maxRecDepth 100000 in
theorem tX_isBelowUnsigned (l : Launch) {D : va_G} {k : zK} {a : Nat → Nat} (hI : zI 29 a) (u : XS) (p0 : Int64) (p1 : Int64) : Met l yX_isBelowUnsigned wsX_isBelowUnsigned ({ frames := 0, cells := 0, slots := 0, locals := 0 }) (zPc D k (zA 29 a) (wX k a u) [.long p0, .long p1]) (vp_Si (fun r9 => r9 = (FX_isBelowUnsigned u p0 p1))) 0 0 (fun _ => False) := by
  refine Met.ofW (cc := cX_isBelowUnsigned) (maxL := 4) (ret := (some .boolean)) (by decide) rfl ?_
  intro p e s m args below meth c s₁ B hml hv
  obtain ⟨rfl, hP, hE⟩ := hv
  have hts := atoms_spec (ws := wsX_isBelowUnsigned) B.pre
  have C0 : zC p s m _ meth c cX_isBelowUnsigned (some .boolean) 4 RX wsX_isBelowUnsigned D k (zA 29 a) := ⟨B.exec, B.bytes, B.returns, hml, findClass_of_methodNamed B.named, hts, B.notSynchronized, hE⟩
  obtain ⟨hx, hb, hr, hml, hown, _, hlocks, _⟩ := id C0
  have hK := hE.1
  have hS : va_S (zA 29 a) s.heap s.heap [] := va_S.rf
  generalize hf : FX_isBelowUnsigned u p0 p1 = tgt
  change ((if (0 : Int32) ≤ (lg_cmp (p0 ^^^ (-9223372036854775808)) (p1 ^^^ (-9223372036854775808))) then 0 else 1) : Int32) = tgt at hf
  have hl := lv_entry ([.long p0, .long p1]) (n := 4) (Nat.le_of_ble_eq_true rfl)
  rw [lg_entry_eq]
  generalize (lg_sl ([.long p0, .long p1]) ++ List.replicate (4 - (lg_sl ([.long p0, .long p1])).length) Slot.unset).toArray = ls at hl ⊢
  have hl : lv_has ls 4 [(0, .long p0), (2, .long p1)] := hl
  refine lv_lload_n hx hb dX_isBelowUnsigned_0 rfl (lv_at hl 0 rfl) ?_
  refine lv_ldc2 (v := (-9223372036854775808)) hx hb hown (hts _ (zc m_285)) dX_isBelowUnsigned_1 ?_
  refine lv_lxor hx hb dX_isBelowUnsigned_4 ?_
  refine lv_lload_n hx hb dX_isBelowUnsigned_5 rfl (lv_at hl 1 rfl) ?_
  refine lv_ldc2 (v := (-9223372036854775808)) hx hb hown (hts _ (zc m_285)) dX_isBelowUnsigned_6 ?_
  refine lv_lxor hx hb dX_isBelowUnsigned_9 ?_
  refine W.lcmp hx hb dX_isBelowUnsigned_10 ?_
  refine lv_if_ge (tgt := 18) hx hb dX_isBelowUnsigned_11 (by decide) (fun c1 => ?_) (fun c1 => ?_)
  · have hf := zt c1 hf
    refine lv_iconst (v := 0) hx hb dX_isBelowUnsigned_18 (by decide) ?_
    exact W.zret (v := 0) (ty := .boolean) hx hb hr rfl (fun t ht hW => ⟨_, rfl, hf, ht⟩) (fun _ h9 => nomatch h9) dX_isBelowUnsigned_19
  · have hf := zn c1 hf
    refine lv_iconst (v := 1) hx hb dX_isBelowUnsigned_14 (by decide) ?_
    refine lv_goto (tgt := 19) hx hb dX_isBelowUnsigned_15 (by decide) ?_
    exact W.zret (v := 1) (ty := .boolean) hx hb hr rfl (fun t ht hW => ⟨_, rfl, hf, ht⟩) (fun _ h9 => nomatch h9) dX_isBelowUnsigned_19
theorem dX_isAbove_0 : decode cX_isAbove 0 = .ok (.aload_n 0, 1) := by decide +kernel
theorem dX_isAbove_1 : decode cX_isAbove 1 = .ok (.getfield 10, 3) := by decide +kernel
theorem dX_isAbove_4 : decode cX_isAbove 4 = .ok (.iload_n 1, 1) := by decide +kernel
theorem dX_isAbove_5 : decode cX_isAbove 5 = .ok (.invokevirtual 191, 3) := by decide +kernel
theorem dX_isAbove_8 : decode cX_isAbove 8 = .ok (.ifCond .eq 12, 3) := by decide +kernel
theorem dX_isAbove_11 : decode cX_isAbove 11 = .ok (.lload 4, 2) := by decide +kernel
theorem dX_isAbove_13 : decode cX_isAbove 13 = .ok (.lload_n 2, 1) := by decide +kernel
theorem dX_isAbove_14 : decode cX_isAbove 14 = .ok (.invokestatic 194, 3) := by decide +kernel
theorem dX_isAbove_17 : decode cX_isAbove 17 = .ok (.goto 15, 3) := by decide +kernel
theorem dX_isAbove_20 : decode cX_isAbove 20 = .ok (.lload_n 2, 1) := by decide +kernel
theorem dX_isAbove_21 : decode cX_isAbove 21 = .ok (.lload 4, 2) := by decide +kernel
theorem dX_isAbove_23 : decode cX_isAbove 23 = .ok (.lcmp, 1) := by decide +kernel
theorem dX_isAbove_24 : decode cX_isAbove 24 = .ok (.ifCond .le 7, 3) := by decide +kernel
theorem dX_isAbove_27 : decode cX_isAbove 27 = .ok (.iconst 1, 1) := by decide +kernel
theorem dX_isAbove_28 : decode cX_isAbove 28 = .ok (.goto 4, 3) := by decide +kernel
theorem dX_isAbove_31 : decode cX_isAbove 31 = .ok (.iconst 0, 1) := by decide +kernel
theorem dX_isAbove_32 : decode cX_isAbove 32 = .ok (.ireturn, 1) := by decide +kernel
abbrev wsX_isAbove : List Cond := Cond.code yX_isAbove cX_isAbove 6 (some .boolean) :: zWords
def FX_isAbove (u : XS) (p0 : Int32) (p1 : Int64) (p2 : Int64) : Int32 := (if (FXF_isText u p0) = 0 then (if (lg_cmp p1 p2) ≤ 0 then 0 else 1) else (FX_isBelowUnsigned u p2 p1))
def GX_isAbove (u : XS) (p0 : Int32) (p1 : Int64) (p2 : Int64) : Prop := (GXF_isText u p0 ∧ True)
set_option maxHeartbeats 4000000 in
set_option maxRecDepth 100000 in
theorem tX_isAbove (l : Launch) {D : va_G} {k : zK} {a : Nat → Nat} (hI : zI 29 a) (u : XS) (p0 : Int32) (p1 : Int64) (p2 : Int64) (hg : GX_isAbove u p0 p1 p2) : Met l yX_isAbove wsX_isAbove ({ frames := 1, cells := 0, slots := 0, locals := 23 }) (zPc D k (zA 29 a) (wX k a u) [.ref (a 0), .int p0, .long p1, .long p2]) (vp_Si (fun r9 => r9 = (FX_isAbove u p0 p1 p2))) 0 0 (fun _ => False) := by
  refine Met.ofW (cc := cX_isAbove) (maxL := 6) (ret := (some .boolean)) (by decide) rfl ?_
  intro p e s m args below meth c s₁ B hml hv
  obtain ⟨rfl, hP, hE⟩ := hv
  have hts := atoms_spec (ws := wsX_isAbove) B.pre
  have C0 : zC p s m _ meth c cX_isAbove (some .boolean) 6 RX wsX_isAbove D k (zA 29 a) := ⟨B.exec, B.bytes, B.returns, hml, findClass_of_methodNamed B.named, hts, B.notSynchronized, hE⟩
  obtain ⟨hx, hb, hr, hml, hown, _, hlocks, _⟩ := id C0
  have hK := hE.1
  have hS : va_S (zA 29 a) s.heap s.heap [] := va_S.rf
  generalize hf : FX_isAbove u p0 p1 p2 = tgt
  change ((if (FXF_isText u p0) = 0 then (if (lg_cmp p1 p2) ≤ 0 then 0 else 1) else (FX_isBelowUnsigned u p2 p1)) : Int32) = tgt at hf
  change (GXF_isText u p0 ∧ True) at hg
  have hl := lv_entry ([.ref (a 0), .int p0, .long p1, .long p2]) (n := 6) (Nat.le_of_ble_eq_true rfl)
  rw [lg_entry_eq]
  generalize (lg_sl ([.ref (a 0), .int p0, .long p1, .long p2]) ++ List.replicate (6 - (lg_sl ([.ref (a 0), .int p0, .long p1, .long p2])).length) Slot.unset).toArray = ls at hl ⊢
  have hl : lv_has ls 6 [(0, .ref (a 0)), (1, .int p0), (2, .long p1), (4, .long p2)] := hl
  refine lv_aload_n hx hb dX_isAbove_0 rfl (lv_at hl 0 rfl) ?_
  refine va_get (D := D) (ci := 0) (v := .ref (a 1)) (C := RX) (T := TX) (N := 10) hx hb hts (fun w h9 => zc (inX w h9)) hown hK hP 0 rfl rfl 1 (by decide) (hts _ (zc m_175)) (fun _ h9 => h9) rfl dX_isAbove_1 ?_
  refine lv_iload_n hx hb dX_isAbove_4 rfl (lv_at hl 1 rfl) ?_
  obtain ⟨h1, hg⟩ := hg
  refine vp_callSi (W.runV (As := [.int p0]) (rest := []) ⟨hx, hb, hml, hown, hts⟩ (tXF_isText l hI u p0 h1) (cwV 1 hts (zgV m_281 m_237 m_238 m_2 m_239) rfl rfl rfl (by decide +kernel) ⟨Nat.le_of_ble_eq_true rfl, Nat.le_of_ble_eq_true rfl⟩) (zpre hP hE hS.2.1 (va_recv hK hP (ci := 1) (q0 := 1) rfl rfl)) rfl rfl hl.1 rfl (lv_room (Nat.le_of_ble_eq_true rfl)) dX_isAbove_5 ⟨Nat.zero_le _, Nat.zero_le _⟩) (fun r9 hr9 => ?_)
  subst hr9
  refine lv_if_eq (tgt := 20) hx hb dX_isAbove_8 (by decide) (fun c2 => ?_) (fun c2 => ?_)
  · have hf := zt c2 hf
    refine lv_lload_n hx hb dX_isAbove_20 rfl (lv_at hl 2 rfl) ?_
    refine lv_lload hx hb dX_isAbove_21 (lv_at hl 3 rfl) ?_
    refine W.lcmp hx hb dX_isAbove_23 ?_
    refine lv_if_le (tgt := 31) hx hb dX_isAbove_24 (by decide) (fun c3 => ?_) (fun c3 => ?_)
    · have hf := zt c3 hf
      refine lv_iconst (v := 0) hx hb dX_isAbove_31 (by decide) ?_
      exact W.zret (v := 0) (ty := .boolean) hx hb hr rfl (fun t ht hW => ⟨_, rfl, hf, ht⟩) (fun _ h9 => nomatch h9) dX_isAbove_32
    · have hf := zn c3 hf
      refine lv_iconst (v := 1) hx hb dX_isAbove_27 (by decide) ?_
      refine lv_goto (tgt := 32) hx hb dX_isAbove_28 (by decide) ?_
      exact W.zret (v := 1) (ty := .boolean) hx hb hr rfl (fun t ht hW => ⟨_, rfl, hf, ht⟩) (fun _ h9 => nomatch h9) dX_isAbove_32
  · have hf := zn c2 hf
    refine lv_lload hx hb dX_isAbove_11 (lv_at hl 3 rfl) ?_
    refine lv_lload_n hx hb dX_isAbove_13 rfl (lv_at hl 2 rfl) ?_
    refine vp_callSi (W.runS (As := [.long p2, .long p1]) (rest := []) ⟨hx, hb, hml, hown, hts⟩ (tX_isBelowUnsigned l hI u p2 p1) (va_cwS 2 hts (zgS m_282 m_283 m_1 m_284) rfl rfl rfl (by decide +kernel) ⟨Nat.le_of_ble_eq_true rfl, Nat.le_of_ble_eq_true rfl⟩) (zpreS hP hE hS.2.1) rfl rfl hl.1 rfl (lv_room (Nat.le_of_ble_eq_true rfl)) dX_isAbove_14 ⟨Nat.zero_le _, Nat.zero_le _⟩) (fun r9 hr9 => ?_)
    subst hr9
    refine lv_goto (tgt := 32) hx hb dX_isAbove_17 (by decide) ?_
    exact W.zret (v := (FX_isBelowUnsigned u p2 p1)) (ty := .boolean) hx hb hr (zb (bFX_isBelowUnsigned _ _ _)) (fun t ht hW => ⟨_, rfl, hf, ht⟩) (fun _ h9 => nomatch h9) dX_isAbove_32
theorem dXN_widen_0 : decode cXN_widen 0 = .ok (.aload_n 0, 1) := by decide +kernel
theorem dXN_widen_1 : decode cXN_widen 1 = .ok (.getfield 15, 3) := by decide +kernel
theorem dXN_widen_4 : decode cXN_widen 4 = .ok (.iload_n 1, 1) := by decide +kernel
theorem dXN_widen_5 : decode cXN_widen 5 = .ok (.iaload, 1) := by decide +kernel
theorem dXN_widen_6 : decode cXN_widen 6 = .ok (.bipush 8, 2) := by decide +kernel
theorem dXN_widen_8 : decode cXN_widen 8 = .ok (.if_icmp .lt 5, 3) := by decide +kernel
theorem dXN_widen_11 : decode cXN_widen 11 = .ok (.iconst (-1), 1) := by decide +kernel
theorem dXN_widen_12 : decode cXN_widen 12 = .ok (.ireturn, 1) := by decide +kernel
theorem dXN_widen_13 : decode cXN_widen 13 = .ok (.iload_n 1, 1) := by decide +kernel
theorem dXN_widen_14 : decode cXN_widen 14 = .ok (.bipush 8, 2) := by decide +kernel
theorem dXN_widen_16 : decode cXN_widen 16 = .ok (.imul, 1) := by decide +kernel
theorem dXN_widen_17 : decode cXN_widen 17 = .ok (.aload_n 0, 1) := by decide +kernel
theorem dXN_widen_18 : decode cXN_widen 18 = .ok (.getfield 15, 3) := by decide +kernel
theorem dXN_widen_21 : decode cXN_widen 21 = .ok (.iload_n 1, 1) := by decide +kernel
theorem dXN_widen_22 : decode cXN_widen 22 = .ok (.iaload, 1) := by decide +kernel
theorem dXN_widen_23 : decode cXN_widen 23 = .ok (.iadd, 1) := by decide +kernel
theorem dXN_widen_24 : decode cXN_widen 24 = .ok (.istore 6, 2) := by decide +kernel
theorem dXN_widen_26 : decode cXN_widen 26 = .ok (.aload_n 0, 1) := by decide +kernel
theorem dXN_widen_27 : decode cXN_widen 27 = .ok (.getfield 18, 3) := by decide +kernel
theorem dXN_widen_30 : decode cXN_widen 30 = .ok (.iload 6, 2) := by decide +kernel
theorem dXN_widen_32 : decode cXN_widen 32 = .ok (.lload_n 2, 1) := by decide +kernel
theorem dXN_widen_33 : decode cXN_widen 33 = .ok (.lastore, 1) := by decide +kernel
theorem dXN_widen_34 : decode cXN_widen 34 = .ok (.aload_n 0, 1) := by decide +kernel
theorem dXN_widen_35 : decode cXN_widen 35 = .ok (.getfield 22, 3) := by decide +kernel
theorem dXN_widen_38 : decode cXN_widen 38 = .ok (.iload 6, 2) := by decide +kernel
theorem dXN_widen_40 : decode cXN_widen 40 = .ok (.lload 4, 2) := by decide +kernel
theorem dXN_widen_42 : decode cXN_widen 42 = .ok (.lastore, 1) := by decide +kernel
theorem dXN_widen_43 : decode cXN_widen 43 = .ok (.aload_n 0, 1) := by decide +kernel
theorem dXN_widen_44 : decode cXN_widen 44 = .ok (.getfield 15, 3) := by decide +kernel
theorem dXN_widen_47 : decode cXN_widen 47 = .ok (.iload_n 1, 1) := by decide +kernel
theorem dXN_widen_48 : decode cXN_widen 48 = .ok (.dup2, 1) := by decide +kernel
theorem dXN_widen_49 : decode cXN_widen 49 = .ok (.iaload, 1) := by decide +kernel
theorem dXN_widen_50 : decode cXN_widen 50 = .ok (.iconst 1, 1) := by decide +kernel
theorem dXN_widen_51 : decode cXN_widen 51 = .ok (.iadd, 1) := by decide +kernel
theorem dXN_widen_52 : decode cXN_widen 52 = .ok (.iastore, 1) := by decide +kernel
theorem dXN_widen_53 : decode cXN_widen 53 = .ok (.aload_n 0, 1) := by decide +kernel
theorem dXN_widen_54 : decode cXN_widen 54 = .ok (.getfield 15, 3) := by decide +kernel
theorem dXN_widen_57 : decode cXN_widen 57 = .ok (.iload_n 1, 1) := by decide +kernel
theorem dXN_widen_58 : decode cXN_widen 58 = .ok (.iaload, 1) := by decide +kernel
theorem dXN_widen_59 : decode cXN_widen 59 = .ok (.ireturn, 1) := by decide +kernel
abbrev wsXN_widen : List Cond := Cond.code yXN_widen cXN_widen 7 (some .int) :: zWords
def FXN_widen (u : XS) (p0 : Int32) (p1 : Int64) (p2 : Int64) : Int32 × XS := (if ((Xg_names_ranges u) p0.toNatClampNeg) < 8 then (zlet (Xs_names_low u (vp_updL (Xg_names_low u) (((p0 * 8) + ((Xg_names_ranges u) p0.toNatClampNeg)).toNatClampNeg) p1)) (fun u5 => (zlet (Xs_names_high u5 (vp_updL (Xg_names_high u5) (((p0 * 8) + ((Xg_names_ranges u) p0.toNatClampNeg)).toNatClampNeg) p2)) (fun u7 => (zlet (Xs_names_ranges u7 (upd (Xg_names_ranges u7) (p0.toNatClampNeg) (((Xg_names_ranges u7) p0.toNatClampNeg) + 1))) (fun u10 => (((Xg_names_ranges u10) p0.toNatClampNeg), u10))))))) else ((-1), u))
def GXN_widen (u : XS) (p0 : Int32) (p1 : Int64) (p2 : Int64) : Prop := (vp_in p0 41 ∧ (if ((Xg_names_ranges u) p0.toNatClampNeg) < 8 then (vp_in p0 41 ∧ (vp_in ((p0 * 8) + ((Xg_names_ranges u) p0.toNatClampNeg)) 328 ∧ (zlet (Xs_names_low u (vp_updL (Xg_names_low u) (((p0 * 8) + ((Xg_names_ranges u) p0.toNatClampNeg)).toNatClampNeg) p1)) (fun u5 => (vp_in ((p0 * 8) + ((Xg_names_ranges u) p0.toNatClampNeg)) 328 ∧ (zlet (Xs_names_high u5 (vp_updL (Xg_names_high u5) (((p0 * 8) + ((Xg_names_ranges u) p0.toNatClampNeg)).toNatClampNeg) p2)) (fun u7 => (vp_in p0 41 ∧ (vp_in p0 41 ∧ (zlet (Xs_names_ranges u7 (upd (Xg_names_ranges u7) (p0.toNatClampNeg) (((Xg_names_ranges u7) p0.toNatClampNeg) + 1))) (fun u10 => (vp_in p0 41 ∧ True)))))))))))) else True))
set_option maxHeartbeats 4000000 in
set_option maxRecDepth 100000 in
theorem tXN_widen (l : Launch) {D : va_G} {k : zK} {a : Nat → Nat} (hI : zI 29 a) (u : XS) (p0 : Int32) (p1 : Int64) (p2 : Int64) (hg : GXN_widen u p0 p1 p2) : Met l yXN_widen wsXN_widen ({ frames := 0, cells := 0, slots := 0, locals := 0 }) (zPc D k (zA 29 a) (wX k a u) [.ref (a 8), .int p0, .long p1, .long p2]) (zQi D (wX k a) (zA 29 a) (FXN_widen u p0 p1 p2)) 0 0 (zA 29 a) := by
  refine Met.ofW (cc := cXN_widen) (maxL := 7) (ret := (some .int)) (by decide) rfl ?_
  intro p e s m args below meth c s₁ B hml hv
  obtain ⟨rfl, hP, hE⟩ := hv
  have hts := atoms_spec (ws := wsXN_widen) B.pre
  have C0 : zC p s m _ meth c cXN_widen (some .int) 7 RXN wsXN_widen D k (zA 29 a) := ⟨B.exec, B.bytes, B.returns, hml, findClass_of_methodNamed B.named, hts, B.notSynchronized, hE⟩
  obtain ⟨hx, hb, hr, hml, hown, _, hlocks, _⟩ := id C0
  have hK := hE.1
  have hS : va_S (zA 29 a) s.heap s.heap [] := va_S.rf
  generalize hf : FXN_widen u p0 p1 p2 = tgt
  change ((if ((Xg_names_ranges u) p0.toNatClampNeg) < 8 then (zlet (Xs_names_low u (vp_updL (Xg_names_low u) (((p0 * 8) + ((Xg_names_ranges u) p0.toNatClampNeg)).toNatClampNeg) p1)) (fun u5 => (zlet (Xs_names_high u5 (vp_updL (Xg_names_high u5) (((p0 * 8) + ((Xg_names_ranges u) p0.toNatClampNeg)).toNatClampNeg) p2)) (fun u7 => (zlet (Xs_names_ranges u7 (upd (Xg_names_ranges u7) (p0.toNatClampNeg) (((Xg_names_ranges u7) p0.toNatClampNeg) + 1))) (fun u10 => (((Xg_names_ranges u10) p0.toNatClampNeg), u10))))))) else ((-1), u)) : Int32 × XS) = tgt at hf
  change (vp_in p0 41 ∧ (if ((Xg_names_ranges u) p0.toNatClampNeg) < 8 then (vp_in p0 41 ∧ (vp_in ((p0 * 8) + ((Xg_names_ranges u) p0.toNatClampNeg)) 328 ∧ (zlet (Xs_names_low u (vp_updL (Xg_names_low u) (((p0 * 8) + ((Xg_names_ranges u) p0.toNatClampNeg)).toNatClampNeg) p1)) (fun u5 => (vp_in ((p0 * 8) + ((Xg_names_ranges u) p0.toNatClampNeg)) 328 ∧ (zlet (Xs_names_high u5 (vp_updL (Xg_names_high u5) (((p0 * 8) + ((Xg_names_ranges u) p0.toNatClampNeg)).toNatClampNeg) p2)) (fun u7 => (vp_in p0 41 ∧ (vp_in p0 41 ∧ (zlet (Xs_names_ranges u7 (upd (Xg_names_ranges u7) (p0.toNatClampNeg) (((Xg_names_ranges u7) p0.toNatClampNeg) + 1))) (fun u10 => (vp_in p0 41 ∧ True)))))))))))) else True)) at hg
  have hl := lv_entry ([.ref (a 8), .int p0, .long p1, .long p2]) (n := 7) (Nat.le_of_ble_eq_true rfl)
  rw [lg_entry_eq]
  generalize (lg_sl ([.ref (a 8), .int p0, .long p1, .long p2]) ++ List.replicate (7 - (lg_sl ([.ref (a 8), .int p0, .long p1, .long p2])).length) Slot.unset).toArray = ls at hl ⊢
  have hl : lv_has ls 7 [(0, .ref (a 8)), (1, .int p0), (2, .long p1), (4, .long p2)] := hl
  refine lv_aload_n hx hb dXN_widen_0 rfl (lv_at hl 0 rfl) ?_
  refine va_get (D := D) (ci := 3) (v := .ref (a 10)) (C := RXN) (T := TXN) (N := 5) hx hb hts (fun w h9 => zc (inXN w h9)) hown hK hP 8 rfl rfl 1 (by decide) (hts _ (zc m_71)) (fun _ h9 => h9) rfl dXN_widen_1 ?_
  refine lv_iload_n hx hb dXN_widen_4 rfl (lv_at hl 1 rfl) ?_
  obtain ⟨h1, hg⟩ := hg
  refine va_iald hx hb hK hP 10 0 rfl rfl h1 dXN_widen_5 ?_
  refine lv_bipush (v := 8) hx hb dXN_widen_6 (by decide) ?_
  refine lv_icmp_lt (tgt := 13) hx hb dXN_widen_8 (by decide) (fun c2 => ?_) (fun c2 => ?_)
  · have hf := zt c2 hf
    have hg := zgt c2 hg
    refine lv_iload_n hx hb dXN_widen_13 rfl (lv_at hl 1 rfl) ?_
    refine lv_bipush (v := 8) hx hb dXN_widen_14 (by decide) ?_
    refine lv_imul hx hb dXN_widen_16 ?_
    refine lv_aload_n hx hb dXN_widen_17 rfl (lv_at hl 0 rfl) ?_
    refine va_get (D := D) (ci := 3) (v := .ref (a 10)) (C := RXN) (T := TXN) (N := 5) hx hb hts (fun w h9 => zc (inXN w h9)) hown hK hP 8 rfl rfl 1 (by decide) (hts _ (zc m_71)) (fun _ h9 => h9) rfl dXN_widen_18 ?_
    refine lv_iload_n hx hb dXN_widen_21 rfl (lv_at hl 1 rfl) ?_
    obtain ⟨h3, hg⟩ := hg
    refine va_iald hx hb hK hP 10 0 rfl rfl h3 dXN_widen_22 ?_
    refine lv_iadd hx hb dXN_widen_23 ?_
    refine lv_istore (lv' := [(6, .int ((p0 * 8) + ((Xg_names_ranges u) p0.toNatClampNeg))), (0, .ref (a 8)), (1, .int p0), (2, .long p1), (4, .long p2)]) hx hb dXN_widen_24 hl (by decide) rfl (fun ls hl => ?_)
    refine lv_aload_n hx hb dXN_widen_26 rfl (lv_at hl 1 rfl) ?_
    refine va_get (D := D) (ci := 3) (v := .ref (a 11)) (C := RXN) (T := TXN) (N := 5) hx hb hts (fun w h9 => zc (inXN w h9)) hown hK hP 8 rfl rfl 2 (by decide) (hts _ (zc m_72)) (fun _ h9 => h9) rfl dXN_widen_27 ?_
    refine lv_iload hx hb dXN_widen_30 (lv_at hl 0 rfl) ?_
    refine lv_lload_n hx hb dXN_widen_32 rfl (lv_at hl 3 rfl) ?_
    obtain ⟨h4, hg⟩ := hg
    refine va_last hx hb hK hP (XD hI _) hS 11 1 rfl rfl h4 dXN_widen_33 (fun H locs hP _ hS => ?_)
    obtain ⟨u5, hP, hf, hg⟩ := zlets (E := (Xs_names_low u (vp_updL (Xg_names_low u) (((p0 * 8) + ((Xg_names_ranges u) p0.toNatClampNeg)).toNatClampNeg) p1))) (w := wX k a) (Xp_names_low hP) hf hg
    refine lv_aload_n hx hb dXN_widen_34 rfl (lv_at hl 1 rfl) ?_
    refine va_get (D := D) (ci := 3) (v := .ref (a 12)) (C := RXN) (T := TXN) (N := 5) hx hb hts (fun w h9 => zc (inXN w h9)) hown hK hP 8 rfl rfl 3 (by decide) (hts _ (zc m_73)) (fun _ h9 => h9) rfl dXN_widen_35 ?_
    refine lv_iload hx hb dXN_widen_38 (lv_at hl 0 rfl) ?_
    refine lv_lload hx hb dXN_widen_40 (lv_at hl 4 rfl) ?_
    obtain ⟨h6, hg⟩ := hg
    refine va_last hx hb hK hP (XD hI _) hS 12 1 rfl rfl h6 dXN_widen_42 (fun H locs hP _ hS => ?_)
    obtain ⟨u7, hP, hf, hg⟩ := zlets (E := (Xs_names_high u5 (vp_updL (Xg_names_high u5) (((p0 * 8) + ((Xg_names_ranges u) p0.toNatClampNeg)).toNatClampNeg) p2))) (w := wX k a) (Xp_names_high hP) hf hg
    refine lv_aload_n hx hb dXN_widen_43 rfl (lv_at hl 1 rfl) ?_
    refine va_get (D := D) (ci := 3) (v := .ref (a 10)) (C := RXN) (T := TXN) (N := 5) hx hb hts (fun w h9 => zc (inXN w h9)) hown hK hP 8 rfl rfl 1 (by decide) (hts _ (zc m_71)) (fun _ h9 => h9) rfl dXN_widen_44 ?_
    refine lv_iload_n hx hb dXN_widen_47 rfl (lv_at hl 2 rfl) ?_
    refine lv_dup2_11 hx hb dXN_widen_48 rfl rfl ?_
    obtain ⟨h8, hg⟩ := hg
    refine va_iald hx hb hK hP 10 0 rfl rfl h8 dXN_widen_49 ?_
    refine lv_iconst (v := 1) hx hb dXN_widen_50 (by decide) ?_
    refine lv_iadd hx hb dXN_widen_51 ?_
    obtain ⟨h9, hg⟩ := hg
    refine va_iast hx hb hK hP (XD hI _) hS 10 0 rfl rfl h9 dXN_widen_52 (fun H locs hP _ hS => ?_)
    obtain ⟨u10, hP, hf, hg⟩ := zlets (E := (Xs_names_ranges u7 (upd (Xg_names_ranges u7) (p0.toNatClampNeg) (((Xg_names_ranges u7) p0.toNatClampNeg) + 1)))) (w := wX k a) (Xp_names_ranges hP) hf hg
    refine lv_aload_n hx hb dXN_widen_53 rfl (lv_at hl 1 rfl) ?_
    refine va_get (D := D) (ci := 3) (v := .ref (a 10)) (C := RXN) (T := TXN) (N := 5) hx hb hts (fun w h9 => zc (inXN w h9)) hown hK hP 8 rfl rfl 1 (by decide) (hts _ (zc m_71)) (fun _ h9 => h9) rfl dXN_widen_54 ?_
    refine lv_iload_n hx hb dXN_widen_57 rfl (lv_at hl 2 rfl) ?_
    obtain ⟨h11, hg⟩ := hg
    refine va_iald hx hb hK hP 10 0 rfl rfl h11 dXN_widen_58 ?_
    exact W.iret (v := ((Xg_names_ranges u10) p0.toNatClampNeg)) hx hb hr (fun t ht hW => by subst hf; exact ⟨rfl, by rw [ht]; exact hP, hS.F ht⟩) hS.2.2 dXN_widen_59
  · have hf := zn c2 hf
    have hg := zgn c2 hg
    refine lv_iconst (v := (-1)) hx hb dXN_widen_11 (by decide) ?_
    exact W.iret (v := (-1)) hx hb hr (fun t ht hW => by subst hf; exact ⟨rfl, by rw [ht]; exact hP, hS.F ht⟩) hS.2.2 dXN_widen_12
theorem dXN_add_0 : decode cXN_add 0 = .ok (.aload_n 0, 1) := by decide +kernel
theorem dXN_add_1 : decode cXN_add 1 = .ok (.getfield 25, 3) := by decide +kernel
theorem dXN_add_4 : decode cXN_add 4 = .ok (.bipush 40, 2) := by decide +kernel
theorem dXN_add_6 : decode cXN_add 6 = .ok (.if_icmp .lt 5, 3) := by decide +kernel
theorem dXN_add_9 : decode cXN_add 9 = .ok (.iconst (-1), 1) := by decide +kernel
theorem dXN_add_10 : decode cXN_add 10 = .ok (.ireturn, 1) := by decide +kernel
theorem dXN_add_11 : decode cXN_add 11 = .ok (.aload_n 0, 1) := by decide +kernel
theorem dXN_add_12 : decode cXN_add 12 = .ok (.dup, 1) := by decide +kernel
theorem dXN_add_13 : decode cXN_add 13 = .ok (.getfield 25, 3) := by decide +kernel
theorem dXN_add_16 : decode cXN_add 16 = .ok (.iconst 1, 1) := by decide +kernel
theorem dXN_add_17 : decode cXN_add 17 = .ok (.iadd, 1) := by decide +kernel
theorem dXN_add_18 : decode cXN_add 18 = .ok (.putfield 25, 3) := by decide +kernel
theorem dXN_add_21 : decode cXN_add 21 = .ok (.aload_n 0, 1) := by decide +kernel
theorem dXN_add_22 : decode cXN_add 22 = .ok (.getfield 9, 3) := by decide +kernel
theorem dXN_add_25 : decode cXN_add 25 = .ok (.aload_n 0, 1) := by decide +kernel
theorem dXN_add_26 : decode cXN_add 26 = .ok (.getfield 25, 3) := by decide +kernel
theorem dXN_add_29 : decode cXN_add 29 = .ok (.iload_n 1, 1) := by decide +kernel
theorem dXN_add_30 : decode cXN_add 30 = .ok (.iastore, 1) := by decide +kernel
theorem dXN_add_31 : decode cXN_add 31 = .ok (.aload_n 0, 1) := by decide +kernel
theorem dXN_add_32 : decode cXN_add 32 = .ok (.aload_n 0, 1) := by decide +kernel
theorem dXN_add_33 : decode cXN_add 33 = .ok (.getfield 25, 3) := by decide +kernel
theorem dXN_add_36 : decode cXN_add 36 = .ok (.lload_n 2, 1) := by decide +kernel
theorem dXN_add_37 : decode cXN_add 37 = .ok (.lload 4, 2) := by decide +kernel
theorem dXN_add_39 : decode cXN_add 39 = .ok (.invokevirtual 29, 3) := by decide +kernel
theorem dXN_add_42 : decode cXN_add 42 = .ok (.pop, 1) := by decide +kernel
theorem dXN_add_43 : decode cXN_add 43 = .ok (.aload_n 0, 1) := by decide +kernel
theorem dXN_add_44 : decode cXN_add 44 = .ok (.getfield 25, 3) := by decide +kernel
theorem dXN_add_47 : decode cXN_add 47 = .ok (.ireturn, 1) := by decide +kernel
abbrev wsXN_add : List Cond := Cond.code yXN_add cXN_add 6 (some .int) :: zWords
def FXN_add (u : XS) (p0 : Int32) (p1 : Int64) (p2 : Int64) : Int32 × XS := (if (Xg_names_made u) < 40 then (zlet (Xs_names_made u ((Xg_names_made u) + 1)) (fun u2 => (zlet (Xs_names_field u2 (upd (Xg_names_field u2) ((Xg_names_made u2).toNatClampNeg) p0)) (fun u4 => (zlet (FXN_widen u4 (Xg_names_made u4) p1 p2) (fun u6 => ((Xg_names_made (u6.2)), u6.2))))))) else ((-1), u))
def GXN_add (u : XS) (p0 : Int32) (p1 : Int64) (p2 : Int64) : Prop := (if (Xg_names_made u) < 40 then (zlet (Xs_names_made u ((Xg_names_made u) + 1)) (fun u2 => (vp_in (Xg_names_made u2) 41 ∧ (zlet (Xs_names_field u2 (upd (Xg_names_field u2) ((Xg_names_made u2).toNatClampNeg) p0)) (fun u4 => (GXN_widen u4 (Xg_names_made u4) p1 p2 ∧ (zlet (FXN_widen u4 (Xg_names_made u4) p1 p2) (fun u6 => True)))))))) else True)
set_option maxHeartbeats 4000000 in
set_option maxRecDepth 100000 in
theorem tXN_add (l : Launch) {D : va_G} {k : zK} {a : Nat → Nat} (hI : zI 29 a) (u : XS) (p0 : Int32) (p1 : Int64) (p2 : Int64) (hg : GXN_add u p0 p1 p2) : Met l yXN_add wsXN_add ({ frames := 1, cells := 0, slots := 0, locals := 26 }) (zPc D k (zA 29 a) (wX k a u) [.ref (a 8), .int p0, .long p1, .long p2]) (zQi D (wX k a) (zA 29 a) (FXN_add u p0 p1 p2)) 0 0 (zA 29 a) := by
  refine Met.ofW (cc := cXN_add) (maxL := 6) (ret := (some .int)) (by decide) rfl ?_
  intro p e s m args below meth c s₁ B hml hv
  obtain ⟨rfl, hP, hE⟩ := hv
  have hts := atoms_spec (ws := wsXN_add) B.pre
  have C0 : zC p s m _ meth c cXN_add (some .int) 6 RXN wsXN_add D k (zA 29 a) := ⟨B.exec, B.bytes, B.returns, hml, findClass_of_methodNamed B.named, hts, B.notSynchronized, hE⟩
  obtain ⟨hx, hb, hr, hml, hown, _, hlocks, _⟩ := id C0
  have hK := hE.1
  have hS : va_S (zA 29 a) s.heap s.heap [] := va_S.rf
  generalize hf : FXN_add u p0 p1 p2 = tgt
  change ((if (Xg_names_made u) < 40 then (zlet (Xs_names_made u ((Xg_names_made u) + 1)) (fun u2 => (zlet (Xs_names_field u2 (upd (Xg_names_field u2) ((Xg_names_made u2).toNatClampNeg) p0)) (fun u4 => (zlet (FXN_widen u4 (Xg_names_made u4) p1 p2) (fun u6 => ((Xg_names_made (u6.2)), u6.2))))))) else ((-1), u)) : Int32 × XS) = tgt at hf
  change (if (Xg_names_made u) < 40 then (zlet (Xs_names_made u ((Xg_names_made u) + 1)) (fun u2 => (vp_in (Xg_names_made u2) 41 ∧ (zlet (Xs_names_field u2 (upd (Xg_names_field u2) ((Xg_names_made u2).toNatClampNeg) p0)) (fun u4 => (GXN_widen u4 (Xg_names_made u4) p1 p2 ∧ (zlet (FXN_widen u4 (Xg_names_made u4) p1 p2) (fun u6 => True)))))))) else True) at hg
  have hl := lv_entry ([.ref (a 8), .int p0, .long p1, .long p2]) (n := 6) (Nat.le_of_ble_eq_true rfl)
  rw [lg_entry_eq]
  generalize (lg_sl ([.ref (a 8), .int p0, .long p1, .long p2]) ++ List.replicate (6 - (lg_sl ([.ref (a 8), .int p0, .long p1, .long p2])).length) Slot.unset).toArray = ls at hl ⊢
  have hl : lv_has ls 6 [(0, .ref (a 8)), (1, .int p0), (2, .long p1), (4, .long p2)] := hl
  refine lv_aload_n hx hb dXN_add_0 rfl (lv_at hl 0 rfl) ?_
  refine va_get (D := D) (ci := 3) (v := .int (Xg_names_made u)) (C := RXN) (T := TXN) (N := 5) hx hb hts (fun w h9 => zc (inXN w h9)) hown hK hP 8 rfl rfl 4 (by decide) (hts _ (zc m_74)) (fun _ h9 => h9) rfl dXN_add_1 ?_
  refine lv_bipush (v := 40) hx hb dXN_add_4 (by decide) ?_
  refine lv_icmp_lt (tgt := 11) hx hb dXN_add_6 (by decide) (fun c1 => ?_) (fun c1 => ?_)
  · have hf := zt c1 hf
    have hg := zgt c1 hg
    refine lv_aload_n hx hb dXN_add_11 rfl (lv_at hl 0 rfl) ?_
    refine lv_dup hx hb dXN_add_12 rfl ?_
    refine va_get (D := D) (ci := 3) (v := .int (Xg_names_made u)) (C := RXN) (T := TXN) (N := 5) hx hb hts (fun w h9 => zc (inXN w h9)) hown hK hP 8 rfl rfl 4 (by decide) (hts _ (zc m_74)) (fun _ h9 => h9) rfl dXN_add_13 ?_
    refine lv_iconst (v := 1) hx hb dXN_add_16 (by decide) ?_
    refine lv_iadd hx hb dXN_add_17 ?_
    refine va_put (D := D) (ci := 3) (v := .int ((Xg_names_made u) + 1)) (ty := .int) (C := RXN) (T := TXN) (N := 5) hx hb hts (fun w h9 => zc (inXN w h9)) tyXN tyXN_ok nmXN hown hK hP (XD hI _) hS 8 rfl rfl 4 (by decide) (hts _ (zc m_74)) (fun _ h9 => h9) rfl (by decide +kernel) rfl rfl (Nat.le_of_ble_eq_true rfl) dXN_add_18 (fun H locs hP _ hS => ?_)
    obtain ⟨u2, hP, hf, hg⟩ := zlets (E := (Xs_names_made u ((Xg_names_made u) + 1))) (w := wX k a) (Xp_names_made hP) hf hg
    refine lv_aload_n hx hb dXN_add_21 rfl (lv_at hl 0 rfl) ?_
    refine va_get (D := D) (ci := 3) (v := .ref (a 9)) (C := RXN) (T := TXN) (N := 5) hx hb hts (fun w h9 => zc (inXN w h9)) hown hK hP 8 rfl rfl 0 (by decide) (hts _ (zc m_69)) (fun _ h9 => h9) rfl dXN_add_22 ?_
    refine lv_aload_n hx hb dXN_add_25 rfl (lv_at hl 0 rfl) ?_
    refine va_get (D := D) (ci := 3) (v := .int (Xg_names_made u2)) (C := RXN) (T := TXN) (N := 5) hx hb hts (fun w h9 => zc (inXN w h9)) hown hK hP 8 rfl rfl 4 (by decide) (hts _ (zc m_74)) (fun _ h9 => h9) rfl dXN_add_26 ?_
    refine lv_iload_n hx hb dXN_add_29 rfl (lv_at hl 1 rfl) ?_
    obtain ⟨h3, hg⟩ := hg
    refine va_iast hx hb hK hP (XD hI _) hS 9 0 rfl rfl h3 dXN_add_30 (fun H locs hP _ hS => ?_)
    obtain ⟨u4, hP, hf, hg⟩ := zlets (E := (Xs_names_field u2 (upd (Xg_names_field u2) ((Xg_names_made u2).toNatClampNeg) p0))) (w := wX k a) (Xp_names_field hP) hf hg
    refine lv_aload_n hx hb dXN_add_31 rfl (lv_at hl 0 rfl) ?_
    refine lv_aload_n hx hb dXN_add_32 rfl (lv_at hl 0 rfl) ?_
    refine va_get (D := D) (ci := 3) (v := .int (Xg_names_made u4)) (C := RXN) (T := TXN) (N := 5) hx hb hts (fun w h9 => zc (inXN w h9)) hown hK hP 8 rfl rfl 4 (by decide) (hts _ (zc m_74)) (fun _ h9 => h9) rfl dXN_add_33 ?_
    refine lv_lload_n hx hb dXN_add_36 rfl (lv_at hl 2 rfl) ?_
    refine lv_lload hx hb dXN_add_37 (lv_at hl 3 rfl) ?_
    obtain ⟨h5, hg⟩ := hg
    refine zmui (W.runV (As := [.int (Xg_names_made u4), .long p1, .long p2]) (rest := []) ⟨hx, hb, hml, hown, hts⟩ (tXN_widen l hI u4 (Xg_names_made u4) p1 p2 h5) (cwV 3 hts (zgV m_290 m_291 m_292 m_4 m_293) rfl rfl rfl (by decide +kernel) ⟨Nat.le_of_ble_eq_true rfl, Nat.le_of_ble_eq_true rfl⟩) (zpre hP hE hS.2.1 (va_recv hK hP (ci := 3) (q0 := 8) rfl rfl)) rfl rfl hl.1 rfl (lv_room (Nat.le_of_ble_eq_true rfl)) dXN_add_39 ⟨Nat.zero_le _, Nat.zero_le _⟩) hS hf hg (fun u6 H locs hf hg hP hS => ?_)
    refine lv_pop hx hb dXN_add_42 rfl ?_
    refine lv_aload_n hx hb dXN_add_43 rfl (lv_at hl 0 rfl) ?_
    refine va_get (D := D) (ci := 3) (v := .int (Xg_names_made (u6.2))) (C := RXN) (T := TXN) (N := 5) hx hb hts (fun w h9 => zc (inXN w h9)) hown hK hP 8 rfl rfl 4 (by decide) (hts _ (zc m_74)) (fun _ h9 => h9) rfl dXN_add_44 ?_
    exact W.iret (v := (Xg_names_made (u6.2))) hx hb hr (fun t ht hW => by subst hf; exact ⟨rfl, by rw [ht]; exact hP, hS.F ht⟩) hS.2.2 dXN_add_47
  · have hf := zn c1 hf
    have hg := zgn c1 hg
    refine lv_iconst (v := (-1)) hx hb dXN_add_9 (by decide) ?_
    exact W.iret (v := (-1)) hx hb hr (fun t ht hW => by subst hf; exact ⟨rfl, by rw [ht]; exact hP, hS.F ht⟩) hS.2.2 dXN_add_10
theorem dX_name88_0 : decode cX_name88 0 = .ok (.aload_n 0, 1) := by decide +kernel
theorem dX_name88_1 : decode cX_name88 1 = .ok (.getfield 10, 3) := by decide +kernel
theorem dX_name88_4 : decode cX_name88 4 = .ok (.iload_n 1, 1) := by decide +kernel
theorem dX_name88_5 : decode cX_name88 5 = .ok (.invokevirtual 74, 3) := by decide +kernel
theorem dX_name88_8 : decode cX_name88 8 = .ok (.ifCond .ne 6, 3) := by decide +kernel
theorem dX_name88_11 : decode cX_name88 11 = .ok (.bipush (-2), 2) := by decide +kernel
theorem dX_name88_13 : decode cX_name88 13 = .ok (.ireturn, 1) := by decide +kernel
theorem dX_name88_14 : decode cX_name88 14 = .ok (.aload_n 0, 1) := by decide +kernel
theorem dX_name88_15 : decode cX_name88 15 = .ok (.iload_n 1, 1) := by decide +kernel
theorem dX_name88_16 : decode cX_name88 16 = .ok (.lload_n 2, 1) := by decide +kernel
theorem dX_name88_17 : decode cX_name88 17 = .ok (.lload 4, 2) := by decide +kernel
theorem dX_name88_19 : decode cX_name88 19 = .ok (.invokevirtual 106, 3) := by decide +kernel
theorem dX_name88_22 : decode cX_name88 22 = .ok (.ifCond .eq 5, 3) := by decide +kernel
theorem dX_name88_25 : decode cX_name88 25 = .ok (.iconst 0, 1) := by decide +kernel
theorem dX_name88_26 : decode cX_name88 26 = .ok (.ireturn, 1) := by decide +kernel
theorem dX_name88_27 : decode cX_name88 27 = .ok (.aload_n 0, 1) := by decide +kernel
theorem dX_name88_28 : decode cX_name88 28 = .ok (.getfield 26, 3) := by decide +kernel
theorem dX_name88_31 : decode cX_name88 31 = .ok (.iload_n 1, 1) := by decide +kernel
theorem dX_name88_32 : decode cX_name88 32 = .ok (.lload_n 2, 1) := by decide +kernel
theorem dX_name88_33 : decode cX_name88 33 = .ok (.lload 4, 2) := by decide +kernel
theorem dX_name88_35 : decode cX_name88 35 = .ok (.invokevirtual 110, 3) := by decide +kernel
theorem dX_name88_38 : decode cX_name88 38 = .ok (.ireturn, 1) := by decide +kernel
abbrev wsX_name88 : List Cond := Cond.code yX_name88 cX_name88 6 (some .int) :: zWords
def FX_name88 (u : XS) (p0 : Int32) (p1 : Int64) (p2 : Int64) : Int32 × XS := (if (FXF_has u p0) = 0 then ((-2), u) else (if (FX_isAbove u p0 p1 p2) = 0 then (zlet (FXN_add u p0 p1 p2) (fun u5 => (u5.1, u5.2))) else (0, u)))
def GX_name88 (u : XS) (p0 : Int32) (p1 : Int64) (p2 : Int64) : Prop := (if (FXF_has u p0) = 0 then True else (GX_isAbove u p0 p1 p2 ∧ (if (FX_isAbove u p0 p1 p2) = 0 then (GXN_add u p0 p1 p2 ∧ (zlet (FXN_add u p0 p1 p2) (fun u5 => True))) else True)))
set_option maxHeartbeats 4000000 in
set_option maxRecDepth 100000 in
theorem tX_name88 (l : Launch) {D : va_G} {k : zK} {a : Nat → Nat} (hI : zI 29 a) (u : XS) (p0 : Int32) (p1 : Int64) (p2 : Int64) (hg : GX_name88 u p0 p1 p2) : Met l yX_name88 wsX_name88 ({ frames := 2, cells := 0, slots := 0, locals := 51 }) (zPc D k (zA 29 a) (wX k a u) [.ref (a 0), .int p0, .long p1, .long p2]) (zQi D (wX k a) (zA 29 a) (FX_name88 u p0 p1 p2)) 0 0 (zA 29 a) := by
  refine Met.ofW (cc := cX_name88) (maxL := 6) (ret := (some .int)) (by decide) rfl ?_
  intro p e s m args below meth c s₁ B hml hv
  obtain ⟨rfl, hP, hE⟩ := hv
  have hts := atoms_spec (ws := wsX_name88) B.pre
  have C0 : zC p s m _ meth c cX_name88 (some .int) 6 RX wsX_name88 D k (zA 29 a) := ⟨B.exec, B.bytes, B.returns, hml, findClass_of_methodNamed B.named, hts, B.notSynchronized, hE⟩
  obtain ⟨hx, hb, hr, hml, hown, _, hlocks, _⟩ := id C0
  have hK := hE.1
  have hS : va_S (zA 29 a) s.heap s.heap [] := va_S.rf
  generalize hf : FX_name88 u p0 p1 p2 = tgt
  change ((if (FXF_has u p0) = 0 then ((-2), u) else (if (FX_isAbove u p0 p1 p2) = 0 then (zlet (FXN_add u p0 p1 p2) (fun u5 => (u5.1, u5.2))) else (0, u))) : Int32 × XS) = tgt at hf
  change (if (FXF_has u p0) = 0 then True else (GX_isAbove u p0 p1 p2 ∧ (if (FX_isAbove u p0 p1 p2) = 0 then (GXN_add u p0 p1 p2 ∧ (zlet (FXN_add u p0 p1 p2) (fun u5 => True))) else True))) at hg
  have hl := lv_entry ([.ref (a 0), .int p0, .long p1, .long p2]) (n := 6) (Nat.le_of_ble_eq_true rfl)
  rw [lg_entry_eq]
  generalize (lg_sl ([.ref (a 0), .int p0, .long p1, .long p2]) ++ List.replicate (6 - (lg_sl ([.ref (a 0), .int p0, .long p1, .long p2])).length) Slot.unset).toArray = ls at hl ⊢
  have hl : lv_has ls 6 [(0, .ref (a 0)), (1, .int p0), (2, .long p1), (4, .long p2)] := hl
  refine lv_aload_n hx hb dX_name88_0 rfl (lv_at hl 0 rfl) ?_
  refine va_get (D := D) (ci := 0) (v := .ref (a 1)) (C := RX) (T := TX) (N := 10) hx hb hts (fun w h9 => zc (inX w h9)) hown hK hP 0 rfl rfl 1 (by decide) (hts _ (zc m_175)) (fun _ h9 => h9) rfl dX_name88_1 ?_
  refine lv_iload_n hx hb dX_name88_4 rfl (lv_at hl 1 rfl) ?_
  refine vp_callSi (W.runV (As := [.int p0]) (rest := []) ⟨hx, hb, hml, hown, hts⟩ (tXF_has l hI u p0) (cwV 1 hts (zgV m_223 m_224 m_225 m_2 m_226) rfl rfl rfl (by decide +kernel) ⟨Nat.le_of_ble_eq_true rfl, Nat.le_of_ble_eq_true rfl⟩) (zpre hP hE hS.2.1 (va_recv hK hP (ci := 1) (q0 := 1) rfl rfl)) rfl rfl hl.1 rfl (lv_room (Nat.le_of_ble_eq_true rfl)) dX_name88_5 ⟨Nat.zero_le _, Nat.zero_le _⟩) (fun r9 hr9 => ?_)
  subst hr9
  refine lv_if_ne (tgt := 14) hx hb dX_name88_8 (by decide) (fun c1 => ?_) (fun c1 => ?_)
  · have hf := zn c1 hf
    have hg := zgn c1 hg
    refine lv_aload_n hx hb dX_name88_14 rfl (lv_at hl 0 rfl) ?_
    refine lv_iload_n hx hb dX_name88_15 rfl (lv_at hl 1 rfl) ?_
    refine lv_lload_n hx hb dX_name88_16 rfl (lv_at hl 2 rfl) ?_
    refine lv_lload hx hb dX_name88_17 (lv_at hl 3 rfl) ?_
    obtain ⟨h2, hg⟩ := hg
    refine vp_callSi (W.runV (As := [.int p0, .long p1, .long p2]) (rest := []) ⟨hx, hb, hml, hown, hts⟩ (tX_isAbove l hI u p0 p1 p2 h2) (cwV 3 hts (zgV m_277 m_279 mp_1 m_1 m_280) rfl rfl rfl (by decide +kernel) ⟨Nat.le_of_ble_eq_true rfl, Nat.le_of_ble_eq_true rfl⟩) (zpre hP hE hS.2.1 (va_recv hK hP (ci := 0) (q0 := 0) rfl rfl)) rfl rfl hl.1 rfl (lv_room (Nat.le_of_ble_eq_true rfl)) dX_name88_19 ⟨Nat.zero_le _, Nat.zero_le _⟩) (fun r9 hr9 => ?_)
    subst hr9
    refine lv_if_eq (tgt := 27) hx hb dX_name88_22 (by decide) (fun c3 => ?_) (fun c3 => ?_)
    · have hf := zt c3 hf
      have hg := zgt c3 hg
      refine lv_aload_n hx hb dX_name88_27 rfl (lv_at hl 0 rfl) ?_
      refine va_get (D := D) (ci := 0) (v := .ref (a 8)) (C := RX) (T := TX) (N := 10) hx hb hts (fun w h9 => zc (inX w h9)) hown hK hP 0 rfl rfl 3 (by decide) (hts _ (zc m_177)) (fun _ h9 => h9) rfl dX_name88_28 ?_
      refine lv_iload_n hx hb dX_name88_31 rfl (lv_at hl 1 rfl) ?_
      refine lv_lload_n hx hb dX_name88_32 rfl (lv_at hl 2 rfl) ?_
      refine lv_lload hx hb dX_name88_33 (lv_at hl 3 rfl) ?_
      obtain ⟨h4, hg⟩ := hg
      refine zmui (W.runV (As := [.int p0, .long p1, .long p2]) (rest := []) ⟨hx, hb, hml, hown, hts⟩ (tXN_add l hI u p0 p1 p2 h4) (cwV 3 hts (zgV m_286 m_287 m_288 m_4 m_289) rfl rfl rfl (by decide +kernel) ⟨Nat.le_of_ble_eq_true rfl, Nat.le_of_ble_eq_true rfl⟩) (zpre hP hE hS.2.1 (va_recv hK hP (ci := 3) (q0 := 8) rfl rfl)) rfl rfl hl.1 rfl (lv_room (Nat.le_of_ble_eq_true rfl)) dX_name88_35 ⟨Nat.zero_le _, Nat.zero_le _⟩) hS hf hg (fun u5 H locs hf hg hP hS => ?_)
      exact W.iret (v := u5.1) hx hb hr (fun t ht hW => by subst hf; exact ⟨rfl, by rw [ht]; exact hP, hS.F ht⟩) hS.2.2 dX_name88_38
    · have hf := zn c3 hf
      have hg := zgn c3 hg
      refine lv_iconst (v := 0) hx hb dX_name88_25 (by decide) ?_
      exact W.iret (v := 0) hx hb hr (fun t ht hW => by subst hf; exact ⟨rfl, by rw [ht]; exact hP, hS.F ht⟩) hS.2.2 dX_name88_26
  · have hf := zt c1 hf
    have hg := zgt c1 hg
    refine lv_bipush (v := (-2)) hx hb dX_name88_11 (by decide) ?_
    exact W.iret (v := (-2)) hx hb hr (fun t ht hW => by subst hf; exact ⟨rfl, by rw [ht]; exact hP, hS.F ht⟩) hS.2.2 dX_name88_13
theorem dX_range_0 : decode cX_range 0 = .ok (.aload_n 0, 1) := by decide +kernel
theorem dX_range_1 : decode cX_range 1 = .ok (.getfield 26, 3) := by decide +kernel
theorem dX_range_4 : decode cX_range 4 = .ok (.iload_n 1, 1) := by decide +kernel
theorem dX_range_5 : decode cX_range 5 = .ok (.invokevirtual 113, 3) := by decide +kernel
theorem dX_range_8 : decode cX_range 8 = .ok (.ifCond .ne 6, 3) := by decide +kernel
theorem dX_range_11 : decode cX_range 11 = .ok (.bipush (-2), 2) := by decide +kernel
theorem dX_range_13 : decode cX_range 13 = .ok (.ireturn, 1) := by decide +kernel
theorem dX_range_14 : decode cX_range 14 = .ok (.aload_n 0, 1) := by decide +kernel
theorem dX_range_15 : decode cX_range 15 = .ok (.aload_n 0, 1) := by decide +kernel
theorem dX_range_16 : decode cX_range 16 = .ok (.getfield 26, 3) := by decide +kernel
theorem dX_range_19 : decode cX_range 19 = .ok (.getfield 114, 3) := by decide +kernel
theorem dX_range_22 : decode cX_range 22 = .ok (.iload_n 1, 1) := by decide +kernel
theorem dX_range_23 : decode cX_range 23 = .ok (.iaload, 1) := by decide +kernel
theorem dX_range_24 : decode cX_range 24 = .ok (.lload_n 2, 1) := by decide +kernel
theorem dX_range_25 : decode cX_range 25 = .ok (.lload 4, 2) := by decide +kernel
theorem dX_range_27 : decode cX_range 27 = .ok (.invokevirtual 106, 3) := by decide +kernel
theorem dX_range_30 : decode cX_range 30 = .ok (.ifCond .eq 5, 3) := by decide +kernel
theorem dX_range_33 : decode cX_range 33 = .ok (.iconst 0, 1) := by decide +kernel
theorem dX_range_34 : decode cX_range 34 = .ok (.ireturn, 1) := by decide +kernel
theorem dX_range_35 : decode cX_range 35 = .ok (.aload_n 0, 1) := by decide +kernel
theorem dX_range_36 : decode cX_range 36 = .ok (.getfield 26, 3) := by decide +kernel
theorem dX_range_39 : decode cX_range 39 = .ok (.iload_n 1, 1) := by decide +kernel
theorem dX_range_40 : decode cX_range 40 = .ok (.lload_n 2, 1) := by decide +kernel
theorem dX_range_41 : decode cX_range 41 = .ok (.lload 4, 2) := by decide +kernel
theorem dX_range_43 : decode cX_range 43 = .ok (.invokevirtual 117, 3) := by decide +kernel
theorem dX_range_46 : decode cX_range 46 = .ok (.ireturn, 1) := by decide +kernel
abbrev wsX_range : List Cond := Cond.code yX_range cX_range 6 (some .int) :: zWords
def FX_range (u : XS) (p0 : Int32) (p1 : Int64) (p2 : Int64) : Int32 × XS := (if (FXN_has u p0) = 0 then ((-2), u) else (if (FX_isAbove u ((Xg_names_field u) p0.toNatClampNeg) p1 p2) = 0 then (zlet (FXN_widen u p0 p1 p2) (fun u6 => (u6.1, u6.2))) else (0, u)))
def GX_range (u : XS) (p0 : Int32) (p1 : Int64) (p2 : Int64) : Prop := (if (FXN_has u p0) = 0 then True else (vp_in p0 41 ∧ (GX_isAbove u ((Xg_names_field u) p0.toNatClampNeg) p1 p2 ∧ (if (FX_isAbove u ((Xg_names_field u) p0.toNatClampNeg) p1 p2) = 0 then (GXN_widen u p0 p1 p2 ∧ (zlet (FXN_widen u p0 p1 p2) (fun u6 => True))) else True))))
set_option maxHeartbeats 4000000 in
set_option maxRecDepth 100000 in
theorem tX_range (l : Launch) {D : va_G} {k : zK} {a : Nat → Nat} (hI : zI 29 a) (u : XS) (p0 : Int32) (p1 : Int64) (p2 : Int64) (hg : GX_range u p0 p1 p2) : Met l yX_range wsX_range ({ frames := 2, cells := 0, slots := 0, locals := 48 }) (zPc D k (zA 29 a) (wX k a u) [.ref (a 0), .int p0, .long p1, .long p2]) (zQi D (wX k a) (zA 29 a) (FX_range u p0 p1 p2)) 0 0 (zA 29 a) := by
  refine Met.ofW (cc := cX_range) (maxL := 6) (ret := (some .int)) (by decide) rfl ?_
  intro p e s m args below meth c s₁ B hml hv
  obtain ⟨rfl, hP, hE⟩ := hv
  have hts := atoms_spec (ws := wsX_range) B.pre
  have C0 : zC p s m _ meth c cX_range (some .int) 6 RX wsX_range D k (zA 29 a) := ⟨B.exec, B.bytes, B.returns, hml, findClass_of_methodNamed B.named, hts, B.notSynchronized, hE⟩
  obtain ⟨hx, hb, hr, hml, hown, _, hlocks, _⟩ := id C0
  have hK := hE.1
  have hS : va_S (zA 29 a) s.heap s.heap [] := va_S.rf
  generalize hf : FX_range u p0 p1 p2 = tgt
  change ((if (FXN_has u p0) = 0 then ((-2), u) else (if (FX_isAbove u ((Xg_names_field u) p0.toNatClampNeg) p1 p2) = 0 then (zlet (FXN_widen u p0 p1 p2) (fun u6 => (u6.1, u6.2))) else (0, u))) : Int32 × XS) = tgt at hf
  change (if (FXN_has u p0) = 0 then True else (vp_in p0 41 ∧ (GX_isAbove u ((Xg_names_field u) p0.toNatClampNeg) p1 p2 ∧ (if (FX_isAbove u ((Xg_names_field u) p0.toNatClampNeg) p1 p2) = 0 then (GXN_widen u p0 p1 p2 ∧ (zlet (FXN_widen u p0 p1 p2) (fun u6 => True))) else True)))) at hg
  have hl := lv_entry ([.ref (a 0), .int p0, .long p1, .long p2]) (n := 6) (Nat.le_of_ble_eq_true rfl)
  rw [lg_entry_eq]
  generalize (lg_sl ([.ref (a 0), .int p0, .long p1, .long p2]) ++ List.replicate (6 - (lg_sl ([.ref (a 0), .int p0, .long p1, .long p2])).length) Slot.unset).toArray = ls at hl ⊢
  have hl : lv_has ls 6 [(0, .ref (a 0)), (1, .int p0), (2, .long p1), (4, .long p2)] := hl
  refine lv_aload_n hx hb dX_range_0 rfl (lv_at hl 0 rfl) ?_
  refine va_get (D := D) (ci := 0) (v := .ref (a 8)) (C := RX) (T := TX) (N := 10) hx hb hts (fun w h9 => zc (inX w h9)) hown hK hP 0 rfl rfl 3 (by decide) (hts _ (zc m_177)) (fun _ h9 => h9) rfl dX_range_1 ?_
  refine lv_iload_n hx hb dX_range_4 rfl (lv_at hl 1 rfl) ?_
  refine vp_callSi (W.runV (As := [.int p0]) (rest := []) ⟨hx, hb, hml, hown, hts⟩ (tXN_has l hI u p0) (cwV 1 hts (zgV m_261 m_262 m_263 m_4 m_264) rfl rfl rfl (by decide +kernel) ⟨Nat.le_of_ble_eq_true rfl, Nat.le_of_ble_eq_true rfl⟩) (zpre hP hE hS.2.1 (va_recv hK hP (ci := 3) (q0 := 8) rfl rfl)) rfl rfl hl.1 rfl (lv_room (Nat.le_of_ble_eq_true rfl)) dX_range_5 ⟨Nat.zero_le _, Nat.zero_le _⟩) (fun r9 hr9 => ?_)
  subst hr9
  refine lv_if_ne (tgt := 14) hx hb dX_range_8 (by decide) (fun c1 => ?_) (fun c1 => ?_)
  · have hf := zn c1 hf
    have hg := zgn c1 hg
    refine lv_aload_n hx hb dX_range_14 rfl (lv_at hl 0 rfl) ?_
    refine lv_aload_n hx hb dX_range_15 rfl (lv_at hl 0 rfl) ?_
    refine va_get (D := D) (ci := 0) (v := .ref (a 8)) (C := RX) (T := TX) (N := 10) hx hb hts (fun w h9 => zc (inX w h9)) hown hK hP 0 rfl rfl 3 (by decide) (hts _ (zc m_177)) (fun _ h9 => h9) rfl dX_range_16 ?_
    refine va_getN (D := D) (ci := 3) (v := .ref (a 9)) (C := RXN) (T := TXN) (N := 5) hx hb hts (fun w h9 => zc (inXN w h9)) hown hK hP 8 rfl rfl 0 (by decide) (va_Nw.use rfl (hE.2.1 _ zn_7)) (fun _ h9 => h9) rfl dX_range_19 ?_
    refine lv_iload_n hx hb dX_range_22 rfl (lv_at hl 1 rfl) ?_
    obtain ⟨h2, hg⟩ := hg
    refine va_iald hx hb hK hP 9 0 rfl rfl h2 dX_range_23 ?_
    refine lv_lload_n hx hb dX_range_24 rfl (lv_at hl 2 rfl) ?_
    refine lv_lload hx hb dX_range_25 (lv_at hl 3 rfl) ?_
    obtain ⟨h3, hg⟩ := hg
    refine vp_callSi (W.runV (As := [.int ((Xg_names_field u) p0.toNatClampNeg), .long p1, .long p2]) (rest := []) ⟨hx, hb, hml, hown, hts⟩ (tX_isAbove l hI u ((Xg_names_field u) p0.toNatClampNeg) p1 p2 h3) (cwV 3 hts (zgV m_277 m_279 mp_1 m_1 m_280) rfl rfl rfl (by decide +kernel) ⟨Nat.le_of_ble_eq_true rfl, Nat.le_of_ble_eq_true rfl⟩) (zpre hP hE hS.2.1 (va_recv hK hP (ci := 0) (q0 := 0) rfl rfl)) rfl rfl hl.1 rfl (lv_room (Nat.le_of_ble_eq_true rfl)) dX_range_27 ⟨Nat.zero_le _, Nat.zero_le _⟩) (fun r9 hr9 => ?_)
    subst hr9
    refine lv_if_eq (tgt := 35) hx hb dX_range_30 (by decide) (fun c4 => ?_) (fun c4 => ?_)
    · have hf := zt c4 hf
      have hg := zgt c4 hg
      refine lv_aload_n hx hb dX_range_35 rfl (lv_at hl 0 rfl) ?_
      refine va_get (D := D) (ci := 0) (v := .ref (a 8)) (C := RX) (T := TX) (N := 10) hx hb hts (fun w h9 => zc (inX w h9)) hown hK hP 0 rfl rfl 3 (by decide) (hts _ (zc m_177)) (fun _ h9 => h9) rfl dX_range_36 ?_
      refine lv_iload_n hx hb dX_range_39 rfl (lv_at hl 1 rfl) ?_
      refine lv_lload_n hx hb dX_range_40 rfl (lv_at hl 2 rfl) ?_
      refine lv_lload hx hb dX_range_41 (lv_at hl 3 rfl) ?_
      obtain ⟨h5, hg⟩ := hg
      refine zmui (W.runV (As := [.int p0, .long p1, .long p2]) (rest := []) ⟨hx, hb, hml, hown, hts⟩ (tXN_widen l hI u p0 p1 p2 h5) (cwV 3 hts (zgV m_298 m_291 m_292 m_4 m_293) rfl rfl rfl (by decide +kernel) ⟨Nat.le_of_ble_eq_true rfl, Nat.le_of_ble_eq_true rfl⟩) (zpre hP hE hS.2.1 (va_recv hK hP (ci := 3) (q0 := 8) rfl rfl)) rfl rfl hl.1 rfl (lv_room (Nat.le_of_ble_eq_true rfl)) dX_range_43 ⟨Nat.zero_le _, Nat.zero_le _⟩) hS hf hg (fun u6 H locs hf hg hP hS => ?_)
      exact W.iret (v := u6.1) hx hb hr (fun t ht hW => by subst hf; exact ⟨rfl, by rw [ht]; exact hP, hS.F ht⟩) hS.2.2 dX_range_46
    · have hf := zn c4 hf
      have hg := zgn c4 hg
      refine lv_iconst (v := 0) hx hb dX_range_33 (by decide) ?_
      exact W.iret (v := 0) hx hb hr (fun t ht hW => by subst hf; exact ⟨rfl, by rw [ht]; exact hP, hS.F ht⟩) hS.2.2 dX_range_34
  · have hf := zt c1 hf
    have hg := zgt c1 hg
    refine lv_bipush (v := (-2)) hx hb dX_range_11 (by decide) ?_
    exact W.iret (v := (-2)) hx hb hr (fun t ht hW => by subst hf; exact ⟨rfl, by rw [ht]; exact hP, hS.F ht⟩) hS.2.2 dX_range_13
end
section
theorem dX_isRelation_0 : decode cX_isRelation 0 = .ok (.iload_n 0, 1) := by decide +kernel
theorem dX_isRelation_1 : decode cX_isRelation 1 = .ok (.ifCond .lt 12, 3) := by decide +kernel
theorem dX_isRelation_4 : decode cX_isRelation 4 = .ok (.iload_n 0, 1) := by decide +kernel
theorem dX_isRelation_5 : decode cX_isRelation 5 = .ok (.iconst 5, 1) := by decide +kernel
theorem dX_isRelation_6 : decode cX_isRelation 6 = .ok (.if_icmp .gt 7, 3) := by decide +kernel
theorem dX_isRelation_9 : decode cX_isRelation 9 = .ok (.iconst 1, 1) := by decide +kernel
theorem dX_isRelation_10 : decode cX_isRelation 10 = .ok (.goto 4, 3) := by decide +kernel
theorem dX_isRelation_13 : decode cX_isRelation 13 = .ok (.iconst 0, 1) := by decide +kernel
theorem dX_isRelation_14 : decode cX_isRelation 14 = .ok (.ireturn, 1) := by decide +kernel
abbrev wsX_isRelation : List Cond := Cond.code yX_isRelation cX_isRelation 1 (some .boolean) :: zWords
def FX_isRelation (u : XS) (p0 : Int32) : Int32 := (if p0 < 0 then 0 else (if (5 : Int32) < p0 then 0 else 1))
set_option maxHeartbeats 4000000 in
set_option maxRecDepth 100000 in
theorem tX_isRelation (l : Launch) {D : va_G} {k : zK} {a : Nat → Nat} (hI : zI 29 a) (u : XS) (p0 : Int32) : Met l yX_isRelation wsX_isRelation ({ frames := 0, cells := 0, slots := 0, locals := 0 }) (zPc D k (zA 29 a) (wX k a u) [.int p0]) (vp_Si (fun r9 => r9 = (FX_isRelation u p0))) 0 0 (fun _ => False) := by
  refine Met.ofW (cc := cX_isRelation) (maxL := 1) (ret := (some .boolean)) (by decide) rfl ?_
  intro p e s m args below meth c s₁ B hml hv
  obtain ⟨rfl, hP, hE⟩ := hv
  have hts := atoms_spec (ws := wsX_isRelation) B.pre
  have C0 : zC p s m _ meth c cX_isRelation (some .boolean) 1 RX wsX_isRelation D k (zA 29 a) := ⟨B.exec, B.bytes, B.returns, hml, findClass_of_methodNamed B.named, hts, B.notSynchronized, hE⟩
  obtain ⟨hx, hb, hr, hml, hown, _, hlocks, _⟩ := id C0
  have hK := hE.1
  have hS : va_S (zA 29 a) s.heap s.heap [] := va_S.rf
  generalize hf : FX_isRelation u p0 = tgt
  change ((if p0 < 0 then 0 else (if (5 : Int32) < p0 then 0 else 1)) : Int32) = tgt at hf
  have hl := lv_entry ([.int p0]) (n := 1) (Nat.le_of_ble_eq_true rfl)
  rw [lg_entry_eq]
  generalize (lg_sl ([.int p0]) ++ List.replicate (1 - (lg_sl ([.int p0])).length) Slot.unset).toArray = ls at hl ⊢
  have hl : lv_has ls 1 [(0, .int p0)] := hl
  refine lv_iload_n hx hb dX_isRelation_0 rfl (lv_at hl 0 rfl) ?_
  refine lv_if_lt (tgt := 13) hx hb dX_isRelation_1 (by decide) (fun c1 => ?_) (fun c1 => ?_)
  · have hf := zt c1 hf
    refine lv_iconst (v := 0) hx hb dX_isRelation_13 (by decide) ?_
    exact W.zret (v := 0) (ty := .boolean) hx hb hr rfl (fun t ht hW => ⟨_, rfl, hf, ht⟩) (fun _ h9 => nomatch h9) dX_isRelation_14
  · have hf := zn c1 hf
    refine lv_iload_n hx hb dX_isRelation_4 rfl (lv_at hl 0 rfl) ?_
    refine lv_iconst (v := 5) hx hb dX_isRelation_5 (by decide) ?_
    refine lv_icmp_gt (tgt := 13) hx hb dX_isRelation_6 (by decide) (fun c2 => ?_) (fun c2 => ?_)
    · have hf := zt c2 hf
      refine lv_iconst (v := 0) hx hb dX_isRelation_13 (by decide) ?_
      exact W.zret (v := 0) (ty := .boolean) hx hb hr rfl (fun t ht hW => ⟨_, rfl, hf, ht⟩) (fun _ h9 => nomatch h9) dX_isRelation_14
    · have hf := zn c2 hf
      refine lv_iconst (v := 1) hx hb dX_isRelation_9 (by decide) ?_
      refine lv_goto (tgt := 14) hx hb dX_isRelation_10 (by decide) ?_
      exact W.zret (v := 1) (ty := .boolean) hx hb hr rfl (fun t ht hW => ⟨_, rfl, hf, ht⟩) (fun _ h9 => nomatch h9) dX_isRelation_14
theorem dXR_append_0 : decode cXR_append 0 = .ok (.aload_n 0, 1) := by decide +kernel
theorem dXR_append_1 : decode cXR_append 1 = .ok (.getfield 25, 3) := by decide +kernel
theorem dXR_append_4 : decode cXR_append 4 = .ok (.bipush 20, 2) := by decide +kernel
theorem dXR_append_6 : decode cXR_append 6 = .ok (.if_icmp .lt 4, 3) := by decide +kernel
theorem dXR_append_9 : decode cXR_append 9 = .ok (.return_, 1) := by decide +kernel
theorem dXR_append_10 : decode cXR_append 10 = .ok (.aload_n 0, 1) := by decide +kernel
theorem dXR_append_11 : decode cXR_append 11 = .ok (.getfield 9, 3) := by decide +kernel
theorem dXR_append_14 : decode cXR_append 14 = .ok (.aload_n 0, 1) := by decide +kernel
theorem dXR_append_15 : decode cXR_append 15 = .ok (.getfield 25, 3) := by decide +kernel
theorem dXR_append_18 : decode cXR_append 18 = .ok (.iload_n 1, 1) := by decide +kernel
theorem dXR_append_19 : decode cXR_append 19 = .ok (.iastore, 1) := by decide +kernel
theorem dXR_append_20 : decode cXR_append 20 = .ok (.aload_n 0, 1) := by decide +kernel
theorem dXR_append_21 : decode cXR_append 21 = .ok (.getfield 15, 3) := by decide +kernel
theorem dXR_append_24 : decode cXR_append 24 = .ok (.aload_n 0, 1) := by decide +kernel
theorem dXR_append_25 : decode cXR_append 25 = .ok (.getfield 25, 3) := by decide +kernel
theorem dXR_append_28 : decode cXR_append 28 = .ok (.iload_n 2, 1) := by decide +kernel
theorem dXR_append_29 : decode cXR_append 29 = .ok (.iastore, 1) := by decide +kernel
theorem dXR_append_30 : decode cXR_append 30 = .ok (.aload_n 0, 1) := by decide +kernel
theorem dXR_append_31 : decode cXR_append 31 = .ok (.getfield 18, 3) := by decide +kernel
theorem dXR_append_34 : decode cXR_append 34 = .ok (.aload_n 0, 1) := by decide +kernel
theorem dXR_append_35 : decode cXR_append 35 = .ok (.getfield 25, 3) := by decide +kernel
theorem dXR_append_38 : decode cXR_append 38 = .ok (.iload_n 3, 1) := by decide +kernel
theorem dXR_append_39 : decode cXR_append 39 = .ok (.bastore, 1) := by decide +kernel
theorem dXR_append_40 : decode cXR_append 40 = .ok (.aload_n 0, 1) := by decide +kernel
theorem dXR_append_41 : decode cXR_append 41 = .ok (.getfield 22, 3) := by decide +kernel
theorem dXR_append_44 : decode cXR_append 44 = .ok (.aload_n 0, 1) := by decide +kernel
theorem dXR_append_45 : decode cXR_append 45 = .ok (.getfield 25, 3) := by decide +kernel
theorem dXR_append_48 : decode cXR_append 48 = .ok (.iload 4, 2) := by decide +kernel
theorem dXR_append_50 : decode cXR_append 50 = .ok (.iastore, 1) := by decide +kernel
theorem dXR_append_51 : decode cXR_append 51 = .ok (.aload_n 0, 1) := by decide +kernel
theorem dXR_append_52 : decode cXR_append 52 = .ok (.iload_n 2, 1) := by decide +kernel
theorem dXR_append_53 : decode cXR_append 53 = .ok (.putfield 36, 3) := by decide +kernel
theorem dXR_append_56 : decode cXR_append 56 = .ok (.aload_n 0, 1) := by decide +kernel
theorem dXR_append_57 : decode cXR_append 57 = .ok (.dup, 1) := by decide +kernel
theorem dXR_append_58 : decode cXR_append 58 = .ok (.getfield 25, 3) := by decide +kernel
theorem dXR_append_61 : decode cXR_append 61 = .ok (.iconst 1, 1) := by decide +kernel
theorem dXR_append_62 : decode cXR_append 62 = .ok (.iadd, 1) := by decide +kernel
theorem dXR_append_63 : decode cXR_append 63 = .ok (.putfield 25, 3) := by decide +kernel
theorem dXR_append_66 : decode cXR_append 66 = .ok (.return_, 1) := by decide +kernel
abbrev wsXR_append : List Cond := Cond.code yXR_append cXR_append 5 none :: zWords
def FXR_append (u : XS) (p0 : Int32) (p1 : Int32) (p2 : Int32) (p3 : Int32) : XS := (if (Xg_row_length u) < 20 then (zlet (Xs_row_with u (upd (Xg_row_with u) ((Xg_row_length u).toNatClampNeg) p0)) (fun u3 => (zlet (Xs_row_op u3 (upd (Xg_row_op u3) ((Xg_row_length u3).toNatClampNeg) p1)) (fun u5 => (zlet (Xs_row_negated u5 (upd (Xg_row_negated u5) ((Xg_row_length u5).toNatClampNeg) (vp_nar .boolean p2))) (fun u7 => (zlet (Xs_row_object u7 (upd (Xg_row_object u7) ((Xg_row_length u7).toNatClampNeg) p3)) (fun u9 => (zlet (Xs_row_carried u9 p1) (fun u10 => (zlet (Xs_row_length u10 ((Xg_row_length u10) + 1)) (fun u11 => u11)))))))))))) else u)
def GXR_append (u : XS) (p0 : Int32) (p1 : Int32) (p2 : Int32) (p3 : Int32) : Prop := (if (Xg_row_length u) < 20 then (vp_in (Xg_row_length u) 20 ∧ (zlet (Xs_row_with u (upd (Xg_row_with u) ((Xg_row_length u).toNatClampNeg) p0)) (fun u3 => (vp_in (Xg_row_length u3) 20 ∧ (zlet (Xs_row_op u3 (upd (Xg_row_op u3) ((Xg_row_length u3).toNatClampNeg) p1)) (fun u5 => (vp_in (Xg_row_length u5) 20 ∧ (zlet (Xs_row_negated u5 (upd (Xg_row_negated u5) ((Xg_row_length u5).toNatClampNeg) (vp_nar .boolean p2))) (fun u7 => (vp_in (Xg_row_length u7) 20 ∧ (zlet (Xs_row_object u7 (upd (Xg_row_object u7) ((Xg_row_length u7).toNatClampNeg) p3)) (fun u9 => (zlet (Xs_row_carried u9 p1) (fun u10 => (zlet (Xs_row_length u10 ((Xg_row_length u10) + 1)) (fun u11 => True)))))))))))))))) else True)
set_option maxHeartbeats 4000000 in
set_option maxRecDepth 100000 in
theorem tXR_append (l : Launch) {D : va_G} {k : zK} {a : Nat → Nat} (hI : zI 29 a) (u : XS) (p0 : Int32) (p1 : Int32) (p2 : Int32) (p3 : Int32) (hg : GXR_append u p0 p1 p2 p3) : Met l yXR_append wsXR_append ({ frames := 0, cells := 0, slots := 0, locals := 0 }) (zPc D k (zA 29 a) (wX k a u) [.ref (a 17), .int p0, .int p1, .int p2, .int p3]) (zQv D (wX k a) (zA 29 a) (FXR_append u p0 p1 p2 p3)) 0 0 (zA 29 a) := by
  refine Met.ofW (cc := cXR_append) (maxL := 5) (ret := none) (by decide) rfl ?_
  intro p e s m args below meth c s₁ B hml hv
  obtain ⟨rfl, hP, hE⟩ := hv
  have hts := atoms_spec (ws := wsXR_append) B.pre
  have C0 : zC p s m _ meth c cXR_append none 5 RXR wsXR_append D k (zA 29 a) := ⟨B.exec, B.bytes, B.returns, hml, findClass_of_methodNamed B.named, hts, B.notSynchronized, hE⟩
  obtain ⟨hx, hb, hr, hml, hown, _, hlocks, _⟩ := id C0
  have hK := hE.1
  have hS : va_S (zA 29 a) s.heap s.heap [] := va_S.rf
  generalize hf : FXR_append u p0 p1 p2 p3 = tgt
  change ((if (Xg_row_length u) < 20 then (zlet (Xs_row_with u (upd (Xg_row_with u) ((Xg_row_length u).toNatClampNeg) p0)) (fun u3 => (zlet (Xs_row_op u3 (upd (Xg_row_op u3) ((Xg_row_length u3).toNatClampNeg) p1)) (fun u5 => (zlet (Xs_row_negated u5 (upd (Xg_row_negated u5) ((Xg_row_length u5).toNatClampNeg) (vp_nar .boolean p2))) (fun u7 => (zlet (Xs_row_object u7 (upd (Xg_row_object u7) ((Xg_row_length u7).toNatClampNeg) p3)) (fun u9 => (zlet (Xs_row_carried u9 p1) (fun u10 => (zlet (Xs_row_length u10 ((Xg_row_length u10) + 1)) (fun u11 => u11)))))))))))) else u) : XS) = tgt at hf
  change (if (Xg_row_length u) < 20 then (vp_in (Xg_row_length u) 20 ∧ (zlet (Xs_row_with u (upd (Xg_row_with u) ((Xg_row_length u).toNatClampNeg) p0)) (fun u3 => (vp_in (Xg_row_length u3) 20 ∧ (zlet (Xs_row_op u3 (upd (Xg_row_op u3) ((Xg_row_length u3).toNatClampNeg) p1)) (fun u5 => (vp_in (Xg_row_length u5) 20 ∧ (zlet (Xs_row_negated u5 (upd (Xg_row_negated u5) ((Xg_row_length u5).toNatClampNeg) (vp_nar .boolean p2))) (fun u7 => (vp_in (Xg_row_length u7) 20 ∧ (zlet (Xs_row_object u7 (upd (Xg_row_object u7) ((Xg_row_length u7).toNatClampNeg) p3)) (fun u9 => (zlet (Xs_row_carried u9 p1) (fun u10 => (zlet (Xs_row_length u10 ((Xg_row_length u10) + 1)) (fun u11 => True)))))))))))))))) else True) at hg
  have hl := lv_entry ([.ref (a 17), .int p0, .int p1, .int p2, .int p3]) (n := 5) (Nat.le_of_ble_eq_true rfl)
  rw [lg_entry_eq]
  generalize (lg_sl ([.ref (a 17), .int p0, .int p1, .int p2, .int p3]) ++ List.replicate (5 - (lg_sl ([.ref (a 17), .int p0, .int p1, .int p2, .int p3])).length) Slot.unset).toArray = ls at hl ⊢
  have hl : lv_has ls 5 [(0, .ref (a 17)), (1, .int p0), (2, .int p1), (3, .int p2), (4, .int p3)] := hl
  refine lv_aload_n hx hb dXR_append_0 rfl (lv_at hl 0 rfl) ?_
  refine va_get (D := D) (ci := 5) (v := .int (Xg_row_length u)) (C := RXR) (T := TXR) (N := 7) hx hb hts (fun w h9 => zc (inXR w h9)) hown hK hP 17 rfl rfl 6 (by decide) (hts _ (zc m_129)) (fun _ h9 => h9) rfl dXR_append_1 ?_
  refine lv_bipush (v := 20) hx hb dXR_append_4 (by decide) ?_
  refine lv_icmp_lt (tgt := 10) hx hb dXR_append_6 (by decide) (fun c1 => ?_) (fun c1 => ?_)
  · have hf := zt c1 hf
    have hg := zgt c1 hg
    refine lv_aload_n hx hb dXR_append_10 rfl (lv_at hl 0 rfl) ?_
    refine va_get (D := D) (ci := 5) (v := .ref (a 18)) (C := RXR) (T := TXR) (N := 7) hx hb hts (fun w h9 => zc (inXR w h9)) hown hK hP 17 rfl rfl 0 (by decide) (hts _ (zc m_117)) (fun _ h9 => h9) rfl dXR_append_11 ?_
    refine lv_aload_n hx hb dXR_append_14 rfl (lv_at hl 0 rfl) ?_
    refine va_get (D := D) (ci := 5) (v := .int (Xg_row_length u)) (C := RXR) (T := TXR) (N := 7) hx hb hts (fun w h9 => zc (inXR w h9)) hown hK hP 17 rfl rfl 6 (by decide) (hts _ (zc m_129)) (fun _ h9 => h9) rfl dXR_append_15 ?_
    refine lv_iload_n hx hb dXR_append_18 rfl (lv_at hl 1 rfl) ?_
    obtain ⟨h2, hg⟩ := hg
    refine va_iast hx hb hK hP (XD hI _) hS 18 0 rfl rfl h2 dXR_append_19 (fun H locs hP _ hS => ?_)
    obtain ⟨u3, hP, hf, hg⟩ := zlets (E := (Xs_row_with u (upd (Xg_row_with u) ((Xg_row_length u).toNatClampNeg) p0))) (w := wX k a) (Xp_row_with hP) hf hg
    refine lv_aload_n hx hb dXR_append_20 rfl (lv_at hl 0 rfl) ?_
    refine va_get (D := D) (ci := 5) (v := .ref (a 19)) (C := RXR) (T := TXR) (N := 7) hx hb hts (fun w h9 => zc (inXR w h9)) hown hK hP 17 rfl rfl 1 (by decide) (hts _ (zc m_119)) (fun _ h9 => h9) rfl dXR_append_21 ?_
    refine lv_aload_n hx hb dXR_append_24 rfl (lv_at hl 0 rfl) ?_
    refine va_get (D := D) (ci := 5) (v := .int (Xg_row_length u3)) (C := RXR) (T := TXR) (N := 7) hx hb hts (fun w h9 => zc (inXR w h9)) hown hK hP 17 rfl rfl 6 (by decide) (hts _ (zc m_129)) (fun _ h9 => h9) rfl dXR_append_25 ?_
    refine lv_iload_n hx hb dXR_append_28 rfl (lv_at hl 2 rfl) ?_
    obtain ⟨h4, hg⟩ := hg
    refine va_iast hx hb hK hP (XD hI _) hS 19 0 rfl rfl h4 dXR_append_29 (fun H locs hP _ hS => ?_)
    obtain ⟨u5, hP, hf, hg⟩ := zlets (E := (Xs_row_op u3 (upd (Xg_row_op u3) ((Xg_row_length u3).toNatClampNeg) p1))) (w := wX k a) (Xp_row_op hP) hf hg
    refine lv_aload_n hx hb dXR_append_30 rfl (lv_at hl 0 rfl) ?_
    refine va_get (D := D) (ci := 5) (v := .ref (a 20)) (C := RXR) (T := TXR) (N := 7) hx hb hts (fun w h9 => zc (inXR w h9)) hown hK hP 17 rfl rfl 2 (by decide) (hts _ (zc m_121)) (fun _ h9 => h9) rfl dXR_append_31 ?_
    refine lv_aload_n hx hb dXR_append_34 rfl (lv_at hl 0 rfl) ?_
    refine va_get (D := D) (ci := 5) (v := .int (Xg_row_length u5)) (C := RXR) (T := TXR) (N := 7) hx hb hts (fun w h9 => zc (inXR w h9)) hown hK hP 17 rfl rfl 6 (by decide) (hts _ (zc m_129)) (fun _ h9 => h9) rfl dXR_append_35 ?_
    refine lv_iload_n hx hb dXR_append_38 rfl (lv_at hl 3 rfl) ?_
    obtain ⟨h6, hg⟩ := hg
    refine va_zast hx hb hK hP (XD hI _) hS 20 2 rfl rfl h6 dXR_append_39 (fun H locs hP _ hS => ?_)
    obtain ⟨u7, hP, hf, hg⟩ := zlets (E := (Xs_row_negated u5 (upd (Xg_row_negated u5) ((Xg_row_length u5).toNatClampNeg) (vp_nar .boolean p2)))) (w := wX k a) (Xp_row_negated hP) hf hg
    refine lv_aload_n hx hb dXR_append_40 rfl (lv_at hl 0 rfl) ?_
    refine va_get (D := D) (ci := 5) (v := .ref (a 21)) (C := RXR) (T := TXR) (N := 7) hx hb hts (fun w h9 => zc (inXR w h9)) hown hK hP 17 rfl rfl 3 (by decide) (hts _ (zc m_123)) (fun _ h9 => h9) rfl dXR_append_41 ?_
    refine lv_aload_n hx hb dXR_append_44 rfl (lv_at hl 0 rfl) ?_
    refine va_get (D := D) (ci := 5) (v := .int (Xg_row_length u7)) (C := RXR) (T := TXR) (N := 7) hx hb hts (fun w h9 => zc (inXR w h9)) hown hK hP 17 rfl rfl 6 (by decide) (hts _ (zc m_129)) (fun _ h9 => h9) rfl dXR_append_45 ?_
    refine lv_iload hx hb dXR_append_48 (lv_at hl 4 rfl) ?_
    obtain ⟨h8, hg⟩ := hg
    refine va_iast hx hb hK hP (XD hI _) hS 21 0 rfl rfl h8 dXR_append_50 (fun H locs hP _ hS => ?_)
    obtain ⟨u9, hP, hf, hg⟩ := zlets (E := (Xs_row_object u7 (upd (Xg_row_object u7) ((Xg_row_length u7).toNatClampNeg) p3))) (w := wX k a) (Xp_row_object hP) hf hg
    refine lv_aload_n hx hb dXR_append_51 rfl (lv_at hl 0 rfl) ?_
    refine lv_iload_n hx hb dXR_append_52 rfl (lv_at hl 2 rfl) ?_
    refine va_put (D := D) (ci := 5) (v := .int p1) (ty := .int) (C := RXR) (T := TXR) (N := 7) hx hb hts (fun w h9 => zc (inXR w h9)) tyXR tyXR_ok nmXR hown hK hP (XD hI _) hS 17 rfl rfl 5 (by decide) (hts _ (zc m_127)) (fun _ h9 => h9) rfl (by decide +kernel) rfl rfl (Nat.le_of_ble_eq_true rfl) dXR_append_53 (fun H locs hP _ hS => ?_)
    obtain ⟨u10, hP, hf, hg⟩ := zlets (E := (Xs_row_carried u9 p1)) (w := wX k a) (Xp_row_carried hP) hf hg
    refine lv_aload_n hx hb dXR_append_56 rfl (lv_at hl 0 rfl) ?_
    refine lv_dup hx hb dXR_append_57 rfl ?_
    refine va_get (D := D) (ci := 5) (v := .int (Xg_row_length u10)) (C := RXR) (T := TXR) (N := 7) hx hb hts (fun w h9 => zc (inXR w h9)) hown hK hP 17 rfl rfl 6 (by decide) (hts _ (zc m_129)) (fun _ h9 => h9) rfl dXR_append_58 ?_
    refine lv_iconst (v := 1) hx hb dXR_append_61 (by decide) ?_
    refine lv_iadd hx hb dXR_append_62 ?_
    refine va_put (D := D) (ci := 5) (v := .int ((Xg_row_length u10) + 1)) (ty := .int) (C := RXR) (T := TXR) (N := 7) hx hb hts (fun w h9 => zc (inXR w h9)) tyXR tyXR_ok nmXR hown hK hP (XD hI _) hS 17 rfl rfl 6 (by decide) (hts _ (zc m_129)) (fun _ h9 => h9) rfl (by decide +kernel) rfl rfl (Nat.le_of_ble_eq_true rfl) dXR_append_63 (fun H locs hP _ hS => ?_)
    obtain ⟨u11, hP, hf, hg⟩ := zlets (E := (Xs_row_length u10 ((Xg_row_length u10) + 1))) (w := wX k a) (Xp_row_length hP) hf hg
    exact W.vret hx hb hr (fun t ht hW => by subst hf; exact ⟨rfl, by rw [ht]; exact hP, hS.F ht⟩) hS.2.2 dXR_append_66
  · have hf := zn c1 hf
    have hg := zgn c1 hg
    exact W.vret hx hb hr (fun t ht hW => by subst hf; exact ⟨rfl, by rw [ht]; exact hP, hS.F ht⟩) hS.2.2 dXR_append_9
theorem dXR_begin_0 : decode cXR_begin 0 = .ok (.aload_n 0, 1) := by decide +kernel
theorem dXR_begin_1 : decode cXR_begin 1 = .ok (.iconst 0, 1) := by decide +kernel
theorem dXR_begin_2 : decode cXR_begin 2 = .ok (.putfield 25, 3) := by decide +kernel
theorem dXR_begin_5 : decode cXR_begin 5 = .ok (.aload_n 0, 1) := by decide +kernel
theorem dXR_begin_6 : decode cXR_begin 6 = .ok (.iload_n 1, 1) := by decide +kernel
theorem dXR_begin_7 : decode cXR_begin 7 = .ok (.putfield 29, 3) := by decide +kernel
theorem dXR_begin_10 : decode cXR_begin 10 = .ok (.aload_n 0, 1) := by decide +kernel
theorem dXR_begin_11 : decode cXR_begin 11 = .ok (.iconst 0, 1) := by decide +kernel
theorem dXR_begin_12 : decode cXR_begin 12 = .ok (.iload_n 2, 1) := by decide +kernel
theorem dXR_begin_13 : decode cXR_begin 13 = .ok (.iconst 0, 1) := by decide +kernel
theorem dXR_begin_14 : decode cXR_begin 14 = .ok (.iload_n 3, 1) := by decide +kernel
theorem dXR_begin_15 : decode cXR_begin 15 = .ok (.invokevirtual 32, 3) := by decide +kernel
theorem dXR_begin_18 : decode cXR_begin 18 = .ok (.return_, 1) := by decide +kernel
abbrev wsXR_begin : List Cond := Cond.code yXR_begin cXR_begin 4 none :: zWords
def FXR_begin (u : XS) (p0 : Int32) (p1 : Int32) (p2 : Int32) : XS := (zlet (Xs_row_length u 0) (fun u1 => (zlet (Xs_row_subject u1 p0) (fun u2 => (zlet (FXR_append u2 0 p1 0 p2) (fun u4 => u4))))))
def GXR_begin (u : XS) (p0 : Int32) (p1 : Int32) (p2 : Int32) : Prop := (zlet (Xs_row_length u 0) (fun u1 => (zlet (Xs_row_subject u1 p0) (fun u2 => (GXR_append u2 0 p1 0 p2 ∧ (zlet (FXR_append u2 0 p1 0 p2) (fun u4 => True)))))))
set_option maxHeartbeats 4000000 in
set_option maxRecDepth 100000 in
theorem tXR_begin (l : Launch) {D : va_G} {k : zK} {a : Nat → Nat} (hI : zI 29 a) (u : XS) (p0 : Int32) (p1 : Int32) (p2 : Int32) (hg : GXR_begin u p0 p1 p2) : Met l yXR_begin wsXR_begin ({ frames := 1, cells := 0, slots := 0, locals := 24 }) (zPc D k (zA 29 a) (wX k a u) [.ref (a 17), .int p0, .int p1, .int p2]) (zQv D (wX k a) (zA 29 a) (FXR_begin u p0 p1 p2)) 0 0 (zA 29 a) := by
  refine Met.ofW (cc := cXR_begin) (maxL := 4) (ret := none) (by decide) rfl ?_
  intro p e s m args below meth c s₁ B hml hv
  obtain ⟨rfl, hP, hE⟩ := hv
  have hts := atoms_spec (ws := wsXR_begin) B.pre
  have C0 : zC p s m _ meth c cXR_begin none 4 RXR wsXR_begin D k (zA 29 a) := ⟨B.exec, B.bytes, B.returns, hml, findClass_of_methodNamed B.named, hts, B.notSynchronized, hE⟩
  obtain ⟨hx, hb, hr, hml, hown, _, hlocks, _⟩ := id C0
  have hK := hE.1
  have hS : va_S (zA 29 a) s.heap s.heap [] := va_S.rf
  generalize hf : FXR_begin u p0 p1 p2 = tgt
  change ((zlet (Xs_row_length u 0) (fun u1 => (zlet (Xs_row_subject u1 p0) (fun u2 => (zlet (FXR_append u2 0 p1 0 p2) (fun u4 => u4)))))) : XS) = tgt at hf
  change (zlet (Xs_row_length u 0) (fun u1 => (zlet (Xs_row_subject u1 p0) (fun u2 => (GXR_append u2 0 p1 0 p2 ∧ (zlet (FXR_append u2 0 p1 0 p2) (fun u4 => True))))))) at hg
  have hl := lv_entry ([.ref (a 17), .int p0, .int p1, .int p2]) (n := 4) (Nat.le_of_ble_eq_true rfl)
  rw [lg_entry_eq]
  generalize (lg_sl ([.ref (a 17), .int p0, .int p1, .int p2]) ++ List.replicate (4 - (lg_sl ([.ref (a 17), .int p0, .int p1, .int p2])).length) Slot.unset).toArray = ls at hl ⊢
  have hl : lv_has ls 4 [(0, .ref (a 17)), (1, .int p0), (2, .int p1), (3, .int p2)] := hl
  refine lv_aload_n hx hb dXR_begin_0 rfl (lv_at hl 0 rfl) ?_
  refine lv_iconst (v := 0) hx hb dXR_begin_1 (by decide) ?_
  refine va_put (D := D) (ci := 5) (v := .int 0) (ty := .int) (C := RXR) (T := TXR) (N := 7) hx hb hts (fun w h9 => zc (inXR w h9)) tyXR tyXR_ok nmXR hown hK hP (XD hI _) hS 17 rfl rfl 6 (by decide) (hts _ (zc m_129)) (fun _ h9 => h9) rfl (by decide +kernel) rfl rfl (Nat.le_of_ble_eq_true rfl) dXR_begin_2 (fun H locs hP _ hS => ?_)
  obtain ⟨u1, hP, hf, hg⟩ := zlets (E := (Xs_row_length u 0)) (w := wX k a) (Xp_row_length hP) hf hg
  refine lv_aload_n hx hb dXR_begin_5 rfl (lv_at hl 0 rfl) ?_
  refine lv_iload_n hx hb dXR_begin_6 rfl (lv_at hl 1 rfl) ?_
  refine va_put (D := D) (ci := 5) (v := .int p0) (ty := .int) (C := RXR) (T := TXR) (N := 7) hx hb hts (fun w h9 => zc (inXR w h9)) tyXR tyXR_ok nmXR hown hK hP (XD hI _) hS 17 rfl rfl 4 (by decide) (hts _ (zc m_125)) (fun _ h9 => h9) rfl (by decide +kernel) rfl rfl (Nat.le_of_ble_eq_true rfl) dXR_begin_7 (fun H locs hP _ hS => ?_)
  obtain ⟨u2, hP, hf, hg⟩ := zlets (E := (Xs_row_subject u1 p0)) (w := wX k a) (Xp_row_subject hP) hf hg
  refine lv_aload_n hx hb dXR_begin_10 rfl (lv_at hl 0 rfl) ?_
  refine lv_iconst (v := 0) hx hb dXR_begin_11 (by decide) ?_
  refine lv_iload_n hx hb dXR_begin_12 rfl (lv_at hl 2 rfl) ?_
  refine lv_iconst (v := 0) hx hb dXR_begin_13 (by decide) ?_
  refine lv_iload_n hx hb dXR_begin_14 rfl (lv_at hl 3 rfl) ?_
  obtain ⟨h3, hg⟩ := hg
  refine zmuv (W.runV (As := [.int 0, .int p1, .int 0, .int p2]) (rest := []) ⟨hx, hb, hml, hown, hts⟩ (tXR_append l hI u2 0 p1 0 p2 h3) (cwV 4 hts (zgV m_310 m_311 m_312 m_6 m_313) rfl rfl rfl (by decide +kernel) ⟨Nat.le_of_ble_eq_true rfl, Nat.le_of_ble_eq_true rfl⟩) (zpre hP hE hS.2.1 (va_recv hK hP (ci := 5) (q0 := 17) rfl rfl)) rfl rfl hl.1 rfl (lv_room (Nat.le_of_ble_eq_true rfl)) dXR_begin_15 ⟨Nat.zero_le _, Nat.zero_le _⟩) hS hf hg (fun u4 H locs hf hg hP hS => ?_)
  exact W.vret hx hb hr (fun t ht hW => by subst hf; exact ⟨rfl, by rw [ht]; exact hP, hS.F ht⟩) hS.2.2 dXR_begin_18
theorem dX_short0_0 : decode cX_short0 0 = .ok (.aload_n 0, 1) := by decide +kernel
theorem dX_short0_1 : decode cX_short0 1 = .ok (.getfield 10, 3) := by decide +kernel
theorem dX_short0_4 : decode cX_short0 4 = .ok (.iload_n 1, 1) := by decide +kernel
theorem dX_short0_5 : decode cX_short0 5 = .ok (.invokevirtual 74, 3) := by decide +kernel
theorem dX_short0_8 : decode cX_short0 8 = .ok (.ifCond .eq 14, 3) := by decide +kernel
theorem dX_short0_11 : decode cX_short0 11 = .ok (.aload_n 0, 1) := by decide +kernel
theorem dX_short0_12 : decode cX_short0 12 = .ok (.getfield 10, 3) := by decide +kernel
theorem dX_short0_15 : decode cX_short0 15 = .ok (.iload_n 3, 1) := by decide +kernel
theorem dX_short0_16 : decode cX_short0 16 = .ok (.invokevirtual 74, 3) := by decide +kernel
theorem dX_short0_19 : decode cX_short0 19 = .ok (.ifCond .ne 6, 3) := by decide +kernel
theorem dX_short0_22 : decode cX_short0 22 = .ok (.bipush (-2), 2) := by decide +kernel
theorem dX_short0_24 : decode cX_short0 24 = .ok (.ireturn, 1) := by decide +kernel
theorem dX_short0_25 : decode cX_short0 25 = .ok (.iload_n 2, 1) := by decide +kernel
theorem dX_short0_26 : decode cX_short0 26 = .ok (.invokestatic 120, 3) := by decide +kernel
theorem dX_short0_29 : decode cX_short0 29 = .ok (.ifCond .ne 6, 3) := by decide +kernel
theorem dX_short0_32 : decode cX_short0 32 = .ok (.bipush (-4), 2) := by decide +kernel
theorem dX_short0_34 : decode cX_short0 34 = .ok (.ireturn, 1) := by decide +kernel
theorem dX_short0_35 : decode cX_short0 35 = .ok (.aload_n 0, 1) := by decide +kernel
theorem dX_short0_36 : decode cX_short0 36 = .ok (.getfield 40, 3) := by decide +kernel
theorem dX_short0_39 : decode cX_short0 39 = .ok (.iload_n 1, 1) := by decide +kernel
theorem dX_short0_40 : decode cX_short0 40 = .ok (.iload_n 2, 1) := by decide +kernel
theorem dX_short0_41 : decode cX_short0 41 = .ok (.iload_n 3, 1) := by decide +kernel
theorem dX_short0_42 : decode cX_short0 42 = .ok (.invokevirtual 123, 3) := by decide +kernel
theorem dX_short0_45 : decode cX_short0 45 = .ok (.iconst 1, 1) := by decide +kernel
theorem dX_short0_46 : decode cX_short0 46 = .ok (.ireturn, 1) := by decide +kernel
abbrev wsX_short0 : List Cond := Cond.code yX_short0 cX_short0 4 (some .int) :: zWords
def FX_short0 (u : XS) (p0 : Int32) (p1 : Int32) (p2 : Int32) : Int32 × XS := (if (FXF_has u p0) = 0 then ((-2), u) else (if (FXF_has u p2) = 0 then ((-2), u) else (if (FX_isRelation u p1) = 0 then ((-4), u) else (zlet (FXR_begin u p0 p1 p2) (fun u5 => (1, u5))))))
def GX_short0 (u : XS) (p0 : Int32) (p1 : Int32) (p2 : Int32) : Prop := (if (FXF_has u p0) = 0 then True else (if (FXF_has u p2) = 0 then True else (if (FX_isRelation u p1) = 0 then True else (GXR_begin u p0 p1 p2 ∧ (zlet (FXR_begin u p0 p1 p2) (fun u5 => True))))))
set_option maxHeartbeats 4000000 in
set_option maxRecDepth 100000 in
theorem tX_short0 (l : Launch) {D : va_G} {k : zK} {a : Nat → Nat} (hI : zI 29 a) (u : XS) (p0 : Int32) (p1 : Int32) (p2 : Int32) (hg : GX_short0 u p0 p1 p2) : Met l yX_short0 wsX_short0 ({ frames := 2, cells := 0, slots := 0, locals := 47 }) (zPc D k (zA 29 a) (wX k a u) [.ref (a 0), .int p0, .int p1, .int p2]) (zQi D (wX k a) (zA 29 a) (FX_short0 u p0 p1 p2)) 0 0 (zA 29 a) := by
  refine Met.ofW (cc := cX_short0) (maxL := 4) (ret := (some .int)) (by decide) rfl ?_
  intro p e s m args below meth c s₁ B hml hv
  obtain ⟨rfl, hP, hE⟩ := hv
  have hts := atoms_spec (ws := wsX_short0) B.pre
  have C0 : zC p s m _ meth c cX_short0 (some .int) 4 RX wsX_short0 D k (zA 29 a) := ⟨B.exec, B.bytes, B.returns, hml, findClass_of_methodNamed B.named, hts, B.notSynchronized, hE⟩
  obtain ⟨hx, hb, hr, hml, hown, _, hlocks, _⟩ := id C0
  have hK := hE.1
  have hS : va_S (zA 29 a) s.heap s.heap [] := va_S.rf
  generalize hf : FX_short0 u p0 p1 p2 = tgt
  change ((if (FXF_has u p0) = 0 then ((-2), u) else (if (FXF_has u p2) = 0 then ((-2), u) else (if (FX_isRelation u p1) = 0 then ((-4), u) else (zlet (FXR_begin u p0 p1 p2) (fun u5 => (1, u5)))))) : Int32 × XS) = tgt at hf
  change (if (FXF_has u p0) = 0 then True else (if (FXF_has u p2) = 0 then True else (if (FX_isRelation u p1) = 0 then True else (GXR_begin u p0 p1 p2 ∧ (zlet (FXR_begin u p0 p1 p2) (fun u5 => True)))))) at hg
  have hl := lv_entry ([.ref (a 0), .int p0, .int p1, .int p2]) (n := 4) (Nat.le_of_ble_eq_true rfl)
  rw [lg_entry_eq]
  generalize (lg_sl ([.ref (a 0), .int p0, .int p1, .int p2]) ++ List.replicate (4 - (lg_sl ([.ref (a 0), .int p0, .int p1, .int p2])).length) Slot.unset).toArray = ls at hl ⊢
  have hl : lv_has ls 4 [(0, .ref (a 0)), (1, .int p0), (2, .int p1), (3, .int p2)] := hl
  refine lv_aload_n hx hb dX_short0_0 rfl (lv_at hl 0 rfl) ?_
  refine va_get (D := D) (ci := 0) (v := .ref (a 1)) (C := RX) (T := TX) (N := 10) hx hb hts (fun w h9 => zc (inX w h9)) hown hK hP 0 rfl rfl 1 (by decide) (hts _ (zc m_175)) (fun _ h9 => h9) rfl dX_short0_1 ?_
  refine lv_iload_n hx hb dX_short0_4 rfl (lv_at hl 1 rfl) ?_
  refine vp_callSi (W.runV (As := [.int p0]) (rest := []) ⟨hx, hb, hml, hown, hts⟩ (tXF_has l hI u p0) (cwV 1 hts (zgV m_223 m_224 m_225 m_2 m_226) rfl rfl rfl (by decide +kernel) ⟨Nat.le_of_ble_eq_true rfl, Nat.le_of_ble_eq_true rfl⟩) (zpre hP hE hS.2.1 (va_recv hK hP (ci := 1) (q0 := 1) rfl rfl)) rfl rfl hl.1 rfl (lv_room (Nat.le_of_ble_eq_true rfl)) dX_short0_5 ⟨Nat.zero_le _, Nat.zero_le _⟩) (fun r9 hr9 => ?_)
  subst hr9
  refine lv_if_eq (tgt := 22) hx hb dX_short0_8 (by decide) (fun c1 => ?_) (fun c1 => ?_)
  · have hf := zt c1 hf
    have hg := zgt c1 hg
    refine lv_bipush (v := (-2)) hx hb dX_short0_22 (by decide) ?_
    exact W.iret (v := (-2)) hx hb hr (fun t ht hW => by subst hf; exact ⟨rfl, by rw [ht]; exact hP, hS.F ht⟩) hS.2.2 dX_short0_24
  · have hf := zn c1 hf
    have hg := zgn c1 hg
    refine lv_aload_n hx hb dX_short0_11 rfl (lv_at hl 0 rfl) ?_
    refine va_get (D := D) (ci := 0) (v := .ref (a 1)) (C := RX) (T := TX) (N := 10) hx hb hts (fun w h9 => zc (inX w h9)) hown hK hP 0 rfl rfl 1 (by decide) (hts _ (zc m_175)) (fun _ h9 => h9) rfl dX_short0_12 ?_
    refine lv_iload_n hx hb dX_short0_15 rfl (lv_at hl 3 rfl) ?_
    refine vp_callSi (W.runV (As := [.int p2]) (rest := []) ⟨hx, hb, hml, hown, hts⟩ (tXF_has l hI u p2) (cwV 1 hts (zgV m_223 m_224 m_225 m_2 m_226) rfl rfl rfl (by decide +kernel) ⟨Nat.le_of_ble_eq_true rfl, Nat.le_of_ble_eq_true rfl⟩) (zpre hP hE hS.2.1 (va_recv hK hP (ci := 1) (q0 := 1) rfl rfl)) rfl rfl hl.1 rfl (lv_room (Nat.le_of_ble_eq_true rfl)) dX_short0_16 ⟨Nat.zero_le _, Nat.zero_le _⟩) (fun r9 hr9 => ?_)
    subst hr9
    refine lv_if_ne (tgt := 25) hx hb dX_short0_19 (by decide) (fun c2 => ?_) (fun c2 => ?_)
    · have hf := zn c2 hf
      have hg := zgn c2 hg
      refine lv_iload_n hx hb dX_short0_25 rfl (lv_at hl 2 rfl) ?_
      refine vp_callSi (W.runS (As := [.int p1]) (rest := []) ⟨hx, hb, hml, hown, hts⟩ (tX_isRelation l hI u p1) (va_cwS 1 hts (zgS m_303 m_304 m_1 m_305) rfl rfl rfl (by decide +kernel) ⟨Nat.le_of_ble_eq_true rfl, Nat.le_of_ble_eq_true rfl⟩) (zpreS hP hE hS.2.1) rfl rfl hl.1 rfl (lv_room (Nat.le_of_ble_eq_true rfl)) dX_short0_26 ⟨Nat.zero_le _, Nat.zero_le _⟩) (fun r9 hr9 => ?_)
      subst hr9
      refine lv_if_ne (tgt := 35) hx hb dX_short0_29 (by decide) (fun c3 => ?_) (fun c3 => ?_)
      · have hf := zn c3 hf
        have hg := zgn c3 hg
        refine lv_aload_n hx hb dX_short0_35 rfl (lv_at hl 0 rfl) ?_
        refine va_get (D := D) (ci := 0) (v := .ref (a 17)) (C := RX) (T := TX) (N := 10) hx hb hts (fun w h9 => zc (inX w h9)) hown hK hP 0 rfl rfl 5 (by decide) (hts _ (zc m_179)) (fun _ h9 => h9) rfl dX_short0_36 ?_
        refine lv_iload_n hx hb dX_short0_39 rfl (lv_at hl 1 rfl) ?_
        refine lv_iload_n hx hb dX_short0_40 rfl (lv_at hl 2 rfl) ?_
        refine lv_iload_n hx hb dX_short0_41 rfl (lv_at hl 3 rfl) ?_
        obtain ⟨h4, hg⟩ := hg
        refine zmuv (W.runV (As := [.int p0, .int p1, .int p2]) (rest := []) ⟨hx, hb, hml, hown, hts⟩ (tXR_begin l hI u p0 p1 p2 h4) (cwV 3 hts (zgV m_306 m_307 m_308 m_6 m_309) rfl rfl rfl (by decide +kernel) ⟨Nat.le_of_ble_eq_true rfl, Nat.le_of_ble_eq_true rfl⟩) (zpre hP hE hS.2.1 (va_recv hK hP (ci := 5) (q0 := 17) rfl rfl)) rfl rfl hl.1 rfl (lv_room (Nat.le_of_ble_eq_true rfl)) dX_short0_42 ⟨Nat.zero_le _, Nat.zero_le _⟩) hS hf hg (fun u5 H locs hf hg hP hS => ?_)
        refine lv_iconst (v := 1) hx hb dX_short0_45 (by decide) ?_
        exact W.iret (v := 1) hx hb hr (fun t ht hW => by subst hf; exact ⟨rfl, by rw [ht]; exact hP, hS.F ht⟩) hS.2.2 dX_short0_46
      · have hf := zt c3 hf
        have hg := zgt c3 hg
        refine lv_bipush (v := (-4)) hx hb dX_short0_32 (by decide) ?_
        exact W.iret (v := (-4)) hx hb hr (fun t ht hW => by subst hf; exact ⟨rfl, by rw [ht]; exact hP, hS.F ht⟩) hS.2.2 dX_short0_34
    · have hf := zt c2 hf
      have hg := zgt c2 hg
      refine lv_bipush (v := (-2)) hx hb dX_short0_22 (by decide) ?_
      exact W.iret (v := (-2)) hx hb hr (fun t ht hW => by subst hf; exact ⟨rfl, by rw [ht]; exact hP, hS.F ht⟩) hS.2.2 dX_short0_24
theorem dX_turned_0 : decode cX_turned 0 = .ok (.iconst 5, 1) := by decide +kernel
theorem dX_turned_1 : decode cX_turned 1 = .ok (.iload_n 0, 1) := by decide +kernel
theorem dX_turned_2 : decode cX_turned 2 = .ok (.isub, 1) := by decide +kernel
theorem dX_turned_3 : decode cX_turned 3 = .ok (.ireturn, 1) := by decide +kernel
abbrev wsX_turned : List Cond := Cond.code yX_turned cX_turned 1 (some .int) :: zWords
def FX_turned (u : XS) (p0 : Int32) : Int32 := (5 - p0)
set_option maxHeartbeats 4000000 in
set_option maxRecDepth 100000 in
theorem tX_turned (l : Launch) {D : va_G} {k : zK} {a : Nat → Nat} (hI : zI 29 a) (u : XS) (p0 : Int32) : Met l yX_turned wsX_turned ({ frames := 0, cells := 0, slots := 0, locals := 0 }) (zPc D k (zA 29 a) (wX k a u) [.int p0]) (vp_Si (fun r9 => r9 = (FX_turned u p0))) 0 0 (fun _ => False) := by
  refine Met.ofW (cc := cX_turned) (maxL := 1) (ret := (some .int)) (by decide) rfl ?_
  intro p e s m args below meth c s₁ B hml hv
  obtain ⟨rfl, hP, hE⟩ := hv
  have hts := atoms_spec (ws := wsX_turned) B.pre
  have C0 : zC p s m _ meth c cX_turned (some .int) 1 RX wsX_turned D k (zA 29 a) := ⟨B.exec, B.bytes, B.returns, hml, findClass_of_methodNamed B.named, hts, B.notSynchronized, hE⟩
  obtain ⟨hx, hb, hr, hml, hown, _, hlocks, _⟩ := id C0
  have hK := hE.1
  have hS : va_S (zA 29 a) s.heap s.heap [] := va_S.rf
  generalize hf : FX_turned u p0 = tgt
  change ((5 - p0) : Int32) = tgt at hf
  have hl := lv_entry ([.int p0]) (n := 1) (Nat.le_of_ble_eq_true rfl)
  rw [lg_entry_eq]
  generalize (lg_sl ([.int p0]) ++ List.replicate (1 - (lg_sl ([.int p0])).length) Slot.unset).toArray = ls at hl ⊢
  have hl : lv_has ls 1 [(0, .int p0)] := hl
  refine lv_iconst (v := 5) hx hb dX_turned_0 (by decide) ?_
  refine lv_iload_n hx hb dX_turned_1 rfl (lv_at hl 0 rfl) ?_
  refine lv_isub hx hb dX_turned_2 ?_
  exact W.iret (v := (5 - p0)) hx hb hr (fun t ht hW => ⟨_, rfl, hf, ht⟩) (fun _ h9 => nomatch h9) dX_turned_3
theorem dX_more_0 : decode cX_more 0 = .ok (.aload_n 0, 1) := by decide +kernel
theorem dX_more_1 : decode cX_more 1 = .ok (.getfield 40, 3) := by decide +kernel
theorem dX_more_4 : decode cX_more 4 = .ok (.getfield 127, 3) := by decide +kernel
theorem dX_more_7 : decode cX_more 7 = .ok (.ifCond .ne 6, 3) := by decide +kernel
theorem dX_more_10 : decode cX_more 10 = .ok (.bipush (-4), 2) := by decide +kernel
theorem dX_more_12 : decode cX_more 12 = .ok (.ireturn, 1) := by decide +kernel
theorem dX_more_13 : decode cX_more 13 = .ok (.aload_n 0, 1) := by decide +kernel
theorem dX_more_14 : decode cX_more 14 = .ok (.getfield 10, 3) := by decide +kernel
theorem dX_more_17 : decode cX_more 17 = .ok (.iload 4, 2) := by decide +kernel
theorem dX_more_19 : decode cX_more 19 = .ok (.invokevirtual 74, 3) := by decide +kernel
theorem dX_more_22 : decode cX_more 22 = .ok (.ifCond .ne 6, 3) := by decide +kernel
theorem dX_more_25 : decode cX_more 25 = .ok (.bipush (-2), 2) := by decide +kernel
theorem dX_more_27 : decode cX_more 27 = .ok (.ireturn, 1) := by decide +kernel
theorem dX_more_28 : decode cX_more 28 = .ok (.iload_n 1, 1) := by decide +kernel
theorem dX_more_29 : decode cX_more 29 = .ok (.ifCond .eq 11, 3) := by decide +kernel
theorem dX_more_32 : decode cX_more 32 = .ok (.iload_n 1, 1) := by decide +kernel
theorem dX_more_33 : decode cX_more 33 = .ok (.iconst 1, 1) := by decide +kernel
theorem dX_more_34 : decode cX_more 34 = .ok (.if_icmp .eq 6, 3) := by decide +kernel
theorem dX_more_37 : decode cX_more 37 = .ok (.bipush (-4), 2) := by decide +kernel
theorem dX_more_39 : decode cX_more 39 = .ok (.ireturn, 1) := by decide +kernel
theorem dX_more_40 : decode cX_more 40 = .ok (.iload_n 3, 1) := by decide +kernel
theorem dX_more_41 : decode cX_more 41 = .ok (.iconst (-1), 1) := by decide +kernel
theorem dX_more_42 : decode cX_more 42 = .ok (.if_icmp .eq 13, 3) := by decide +kernel
theorem dX_more_45 : decode cX_more 45 = .ok (.iload_n 3, 1) := by decide +kernel
theorem dX_more_46 : decode cX_more 46 = .ok (.invokestatic 120, 3) := by decide +kernel
theorem dX_more_49 : decode cX_more 49 = .ok (.ifCond .ne 6, 3) := by decide +kernel
theorem dX_more_52 : decode cX_more 52 = .ok (.bipush (-4), 2) := by decide +kernel
theorem dX_more_54 : decode cX_more 54 = .ok (.ireturn, 1) := by decide +kernel
theorem dX_more_55 : decode cX_more 55 = .ok (.aload_n 0, 1) := by decide +kernel
theorem dX_more_56 : decode cX_more 56 = .ok (.getfield 40, 3) := by decide +kernel
theorem dX_more_59 : decode cX_more 59 = .ok (.getfield 127, 3) := by decide +kernel
theorem dX_more_62 : decode cX_more 62 = .ok (.bipush 20, 2) := by decide +kernel
theorem dX_more_64 : decode cX_more 64 = .ok (.if_icmp .lt 5, 3) := by decide +kernel
theorem dX_more_67 : decode cX_more 67 = .ok (.iconst (-1), 1) := by decide +kernel
theorem dX_more_68 : decode cX_more 68 = .ok (.ireturn, 1) := by decide +kernel
theorem dX_more_69 : decode cX_more 69 = .ok (.iload_n 3, 1) := by decide +kernel
theorem dX_more_70 : decode cX_more 70 = .ok (.iconst (-1), 1) := by decide +kernel
theorem dX_more_71 : decode cX_more 71 = .ok (.if_icmp .ne 24, 3) := by decide +kernel
theorem dX_more_74 : decode cX_more 74 = .ok (.aload_n 0, 1) := by decide +kernel
theorem dX_more_75 : decode cX_more 75 = .ok (.getfield 40, 3) := by decide +kernel
theorem dX_more_78 : decode cX_more 78 = .ok (.iload_n 1, 1) := by decide +kernel
theorem dX_more_79 : decode cX_more 79 = .ok (.aload_n 0, 1) := by decide +kernel
theorem dX_more_80 : decode cX_more 80 = .ok (.getfield 40, 3) := by decide +kernel
theorem dX_more_83 : decode cX_more 83 = .ok (.getfield 131, 3) := by decide +kernel
theorem dX_more_86 : decode cX_more 86 = .ok (.iload_n 2, 1) := by decide +kernel
theorem dX_more_87 : decode cX_more 87 = .ok (.iload 4, 2) := by decide +kernel
theorem dX_more_89 : decode cX_more 89 = .ok (.invokevirtual 134, 3) := by decide +kernel
theorem dX_more_92 : decode cX_more 92 = .ok (.goto 26, 3) := by decide +kernel
theorem dX_more_95 : decode cX_more 95 = .ok (.aload_n 0, 1) := by decide +kernel
theorem dX_more_96 : decode cX_more 96 = .ok (.getfield 40, 3) := by decide +kernel
theorem dX_more_99 : decode cX_more 99 = .ok (.iload_n 1, 1) := by decide +kernel
theorem dX_more_100 : decode cX_more 100 = .ok (.iload_n 2, 1) := by decide +kernel
theorem dX_more_101 : decode cX_more 101 = .ok (.ifCond .eq 10, 3) := by decide +kernel
theorem dX_more_104 : decode cX_more 104 = .ok (.iload_n 3, 1) := by decide +kernel
theorem dX_more_105 : decode cX_more 105 = .ok (.invokestatic 138, 3) := by decide +kernel
theorem dX_more_108 : decode cX_more 108 = .ok (.goto 4, 3) := by decide +kernel
theorem dX_more_111 : decode cX_more 111 = .ok (.iload_n 3, 1) := by decide +kernel
theorem dX_more_112 : decode cX_more 112 = .ok (.iconst 0, 1) := by decide +kernel
theorem dX_more_113 : decode cX_more 113 = .ok (.iload 4, 2) := by decide +kernel
theorem dX_more_115 : decode cX_more 115 = .ok (.invokevirtual 134, 3) := by decide +kernel
theorem dX_more_118 : decode cX_more 118 = .ok (.aload_n 0, 1) := by decide +kernel
theorem dX_more_119 : decode cX_more 119 = .ok (.getfield 40, 3) := by decide +kernel
theorem dX_more_122 : decode cX_more 122 = .ok (.getfield 127, 3) := by decide +kernel
theorem dX_more_125 : decode cX_more 125 = .ok (.ireturn, 1) := by decide +kernel
abbrev wsX_more : List Cond := Cond.code yX_more cX_more 5 (some .int) :: zWords
def LX_more_55 (n : Nat) (u : XS) (x1 : Int32) (x2 : Int32) (x3 : Int32) (x4 : Int32) : Int32 × XS := (if (Xg_row_length u) < 20 then (if x3 = (-1) then (zlet (FXR_append u x1 (Xg_row_carried u) x2 x4) (fun u15 => ((Xg_row_length u15), u15))) else (if x2 = 0 then (zlet (FXR_append u x1 x3 0 x4) (fun u11 => ((Xg_row_length u11), u11))) else (zlet (FXR_append u x1 (FX_turned u x3) 0 x4) (fun u13 => ((Xg_row_length u13), u13))))) else ((-1), u))
def MX_more_55 (n : Nat) (u : XS) (x1 : Int32) (x2 : Int32) (x3 : Int32) (x4 : Int32) : Prop := (if (Xg_row_length u) < 20 then (if x3 = (-1) then (GXR_append u x1 (Xg_row_carried u) x2 x4 ∧ (zlet (FXR_append u x1 (Xg_row_carried u) x2 x4) (fun u15 => True))) else (if x2 = 0 then (GXR_append u x1 x3 0 x4 ∧ (zlet (FXR_append u x1 x3 0 x4) (fun u11 => True))) else (GXR_append u x1 (FX_turned u x3) 0 x4 ∧ (zlet (FXR_append u x1 (FX_turned u x3) 0 x4) (fun u13 => True))))) else True)
def LX_more_40 (n : Nat) (u : XS) (x1 : Int32) (x2 : Int32) (x3 : Int32) (x4 : Int32) : Int32 × XS := (if x3 = (-1) then (LX_more_55 n u x1 x2 x3 x4) else (if (FX_isRelation u x3) = 0 then ((-4), u) else (LX_more_55 n u x1 x2 x3 x4)))
def MX_more_40 (n : Nat) (u : XS) (x1 : Int32) (x2 : Int32) (x3 : Int32) (x4 : Int32) : Prop := (if x3 = (-1) then (MX_more_55 n u x1 x2 x3 x4) else (if (FX_isRelation u x3) = 0 then True else (MX_more_55 n u x1 x2 x3 x4)))
def FX_more (u : XS) (p0 : Int32) (p1 : Int32) (p2 : Int32) (p3 : Int32) : Int32 × XS := (if (Xg_row_length u) = 0 then ((-4), u) else (if (FXF_has u p3) = 0 then ((-2), u) else (if p0 = 0 then (LX_more_40 1000 u p0 p1 p2 p3) else (if p0 = 1 then (LX_more_40 1000 u p0 p1 p2 p3) else ((-4), u)))))
def GX_more (u : XS) (p0 : Int32) (p1 : Int32) (p2 : Int32) (p3 : Int32) : Prop := (if (Xg_row_length u) = 0 then True else (if (FXF_has u p3) = 0 then True else (if p0 = 0 then (MX_more_40 1000 u p0 p1 p2 p3) else (if p0 = 1 then (MX_more_40 1000 u p0 p1 p2 p3) else True))))
set_option maxHeartbeats 4000000 in
set_option maxRecDepth 100000 in
theorem kX_more_55 {p : Program} {l : Launch} {e : Env} {s : State} {m : MethodId} {args : Array Value} {below : List Frame} {meth : Method} {c : Code} {D : va_G} {k : zK} {a : Nat → Nat} (hI : zI 29 a) (C0 : zC p s m args meth c cX_more (some .int) 5 RX wsX_more D k (zA 29 a)) {tgt : Int32 × XS} : ∀ (n : Nat) (u : XS) (x1 : Int32) (x2 : Int32) (x3 : Int32) (x4 : Int32), LX_more_55 n u x1 x2 x3 x4 = tgt → MX_more_55 n u x1 x2 x3 x4 → ∀ (H : Heap) (locs : List Loc), va_P D vwCl (wX k a u) H → va_S (zA 29 a) s.heap H locs → ∀ (ls : Array Slot), lv_has ls 5 [(0, .ref (a 0)), (1, .int x1), (2, .int x2), (3, .int x3), (4, .int x4)] → W p l e (headSpec wsX_more ({ frames := 1, cells := 0, slots := 0, locals := 24 })).room s m args below meth c H locs 0 0 (MQ below (zQi D (wX k a) (zA 29 a) tgt) args s 0 0 (zA 29 a)) (F0 m 55 ls []) := by
  obtain ⟨hx, hb, hr, hml, hown, hts, hlocks, hE⟩ := id C0
  have hK := hE.1
  intro n
  intro u x1 x2 x3 x4 hf hg H locs hP hS ls hl
  change ((if (Xg_row_length u) < 20 then (if x3 = (-1) then (zlet (FXR_append u x1 (Xg_row_carried u) x2 x4) (fun u15 => ((Xg_row_length u15), u15))) else (if x2 = 0 then (zlet (FXR_append u x1 x3 0 x4) (fun u11 => ((Xg_row_length u11), u11))) else (zlet (FXR_append u x1 (FX_turned u x3) 0 x4) (fun u13 => ((Xg_row_length u13), u13))))) else ((-1), u)) : Int32 × XS) = tgt at hf
  change (if (Xg_row_length u) < 20 then (if x3 = (-1) then (GXR_append u x1 (Xg_row_carried u) x2 x4 ∧ (zlet (FXR_append u x1 (Xg_row_carried u) x2 x4) (fun u15 => True))) else (if x2 = 0 then (GXR_append u x1 x3 0 x4 ∧ (zlet (FXR_append u x1 x3 0 x4) (fun u11 => True))) else (GXR_append u x1 (FX_turned u x3) 0 x4 ∧ (zlet (FXR_append u x1 (FX_turned u x3) 0 x4) (fun u13 => True))))) else True) at hg
  refine lv_aload_n hx hb dX_more_55 rfl (lv_at hl 0 rfl) ?_
  refine va_get (D := D) (ci := 0) (v := .ref (a 17)) (C := RX) (T := TX) (N := 10) hx hb hts (fun w h9 => zc (inX w h9)) hown hK hP 0 rfl rfl 5 (by decide) (hts _ (zc m_179)) (fun _ h9 => h9) rfl dX_more_56 ?_
  refine va_getN (D := D) (ci := 5) (v := .int (Xg_row_length u)) (C := RXR) (T := TXR) (N := 7) hx hb hts (fun w h9 => zc (inXR w h9)) hown hK hP 17 rfl rfl 6 (by decide) (va_Nw.use rfl (hE.2.1 _ zn_21)) (fun _ h9 => h9) rfl dX_more_59 ?_
  refine lv_bipush (v := 20) hx hb dX_more_62 (by decide) ?_
  refine lv_icmp_lt (tgt := 69) hx hb dX_more_64 (by decide) (fun c7 => ?_) (fun c7 => ?_)
  · have hf := zt c7 hf
    have hg := zgt c7 hg
    refine lv_iload_n hx hb dX_more_69 rfl (lv_at hl 3 rfl) ?_
    refine lv_iconst (v := (-1)) hx hb dX_more_70 (by decide) ?_
    refine lv_icmp_ne (tgt := 95) hx hb dX_more_71 (by decide) (fun c8 => ?_) (fun c8 => ?_)
    · have hf := zn c8 hf
      have hg := zgn c8 hg
      refine lv_aload_n hx hb dX_more_95 rfl (lv_at hl 0 rfl) ?_
      refine va_get (D := D) (ci := 0) (v := .ref (a 17)) (C := RX) (T := TX) (N := 10) hx hb hts (fun w h9 => zc (inX w h9)) hown hK hP 0 rfl rfl 5 (by decide) (hts _ (zc m_179)) (fun _ h9 => h9) rfl dX_more_96 ?_
      refine lv_iload_n hx hb dX_more_99 rfl (lv_at hl 1 rfl) ?_
      refine lv_iload_n hx hb dX_more_100 rfl (lv_at hl 2 rfl) ?_
      refine lv_if_eq (tgt := 111) hx hb dX_more_101 (by decide) (fun c9 => ?_) (fun c9 => ?_)
      · have hf := zt c9 hf
        have hg := zgt c9 hg
        refine lv_iload_n hx hb dX_more_111 rfl (lv_at hl 3 rfl) ?_
        refine lv_iconst (v := 0) hx hb dX_more_112 (by decide) ?_
        refine lv_iload hx hb dX_more_113 (lv_at hl 4 rfl) ?_
        obtain ⟨h10, hg⟩ := hg
        refine zmuv (W.runV (As := [.int x1, .int x3, .int 0, .int x4]) (rest := []) ⟨hx, hb, hml, hown, hts⟩ (tXR_append l hI u x1 x3 0 x4 h10) (cwV 4 hts (zgV m_318 m_311 m_312 m_6 m_313) rfl rfl rfl (by decide +kernel) ⟨Nat.le_of_ble_eq_true rfl, Nat.le_of_ble_eq_true rfl⟩) (zpre hP hE hS.2.1 (va_recv hK hP (ci := 5) (q0 := 17) rfl rfl)) rfl rfl hl.1 rfl (lv_room (Nat.le_of_ble_eq_true rfl)) dX_more_115 ⟨Nat.zero_le _, Nat.zero_le _⟩) hS hf hg (fun u11 H locs hf hg hP hS => ?_)
        refine lv_aload_n hx hb dX_more_118 rfl (lv_at hl 0 rfl) ?_
        refine va_get (D := D) (ci := 0) (v := .ref (a 17)) (C := RX) (T := TX) (N := 10) hx hb hts (fun w h9 => zc (inX w h9)) hown hK hP 0 rfl rfl 5 (by decide) (hts _ (zc m_179)) (fun _ h9 => h9) rfl dX_more_119 ?_
        refine va_getN (D := D) (ci := 5) (v := .int (Xg_row_length u11)) (C := RXR) (T := TXR) (N := 7) hx hb hts (fun w h9 => zc (inXR w h9)) hown hK hP 17 rfl rfl 6 (by decide) (va_Nw.use rfl (hE.2.1 _ zn_21)) (fun _ h9 => h9) rfl dX_more_122 ?_
        exact W.iret (v := (Xg_row_length u11)) hx hb hr (fun t ht hW => by subst hf; exact ⟨rfl, by rw [ht]; exact hP, hS.F ht⟩) hS.2.2 dX_more_125
      · have hf := zn c9 hf
        have hg := zgn c9 hg
        refine lv_iload_n hx hb dX_more_104 rfl (lv_at hl 3 rfl) ?_
        refine vp_callSi (W.runS (As := [.int x3]) (rest := [.int x1, .ref (a 17)]) ⟨hx, hb, hml, hown, hts⟩ (tX_turned l hI u x3) (va_cwS 1 hts (zgS m_319 m_320 m_1 m_321) rfl rfl rfl (by decide +kernel) ⟨Nat.le_of_ble_eq_true rfl, Nat.le_of_ble_eq_true rfl⟩) (zpreS hP hE hS.2.1) rfl rfl hl.1 rfl (lv_room (Nat.le_of_ble_eq_true rfl)) dX_more_105 ⟨Nat.zero_le _, Nat.zero_le _⟩) (fun r9 hr9 => ?_)
        subst hr9
        refine lv_goto (tgt := 112) hx hb dX_more_108 (by decide) ?_
        refine lv_iconst (v := 0) hx hb dX_more_112 (by decide) ?_
        refine lv_iload hx hb dX_more_113 (lv_at hl 4 rfl) ?_
        obtain ⟨h12, hg⟩ := hg
        refine zmuv (W.runV (As := [.int x1, .int (FX_turned u x3), .int 0, .int x4]) (rest := []) ⟨hx, hb, hml, hown, hts⟩ (tXR_append l hI u x1 (FX_turned u x3) 0 x4 h12) (cwV 4 hts (zgV m_318 m_311 m_312 m_6 m_313) rfl rfl rfl (by decide +kernel) ⟨Nat.le_of_ble_eq_true rfl, Nat.le_of_ble_eq_true rfl⟩) (zpre hP hE hS.2.1 (va_recv hK hP (ci := 5) (q0 := 17) rfl rfl)) rfl rfl hl.1 rfl (lv_room (Nat.le_of_ble_eq_true rfl)) dX_more_115 ⟨Nat.zero_le _, Nat.zero_le _⟩) hS hf hg (fun u13 H locs hf hg hP hS => ?_)
        refine lv_aload_n hx hb dX_more_118 rfl (lv_at hl 0 rfl) ?_
        refine va_get (D := D) (ci := 0) (v := .ref (a 17)) (C := RX) (T := TX) (N := 10) hx hb hts (fun w h9 => zc (inX w h9)) hown hK hP 0 rfl rfl 5 (by decide) (hts _ (zc m_179)) (fun _ h9 => h9) rfl dX_more_119 ?_
        refine va_getN (D := D) (ci := 5) (v := .int (Xg_row_length u13)) (C := RXR) (T := TXR) (N := 7) hx hb hts (fun w h9 => zc (inXR w h9)) hown hK hP 17 rfl rfl 6 (by decide) (va_Nw.use rfl (hE.2.1 _ zn_21)) (fun _ h9 => h9) rfl dX_more_122 ?_
        exact W.iret (v := (Xg_row_length u13)) hx hb hr (fun t ht hW => by subst hf; exact ⟨rfl, by rw [ht]; exact hP, hS.F ht⟩) hS.2.2 dX_more_125
    · have hf := zt c8 hf
      have hg := zgt c8 hg
      refine lv_aload_n hx hb dX_more_74 rfl (lv_at hl 0 rfl) ?_
      refine va_get (D := D) (ci := 0) (v := .ref (a 17)) (C := RX) (T := TX) (N := 10) hx hb hts (fun w h9 => zc (inX w h9)) hown hK hP 0 rfl rfl 5 (by decide) (hts _ (zc m_179)) (fun _ h9 => h9) rfl dX_more_75 ?_
      refine lv_iload_n hx hb dX_more_78 rfl (lv_at hl 1 rfl) ?_
      refine lv_aload_n hx hb dX_more_79 rfl (lv_at hl 0 rfl) ?_
      refine va_get (D := D) (ci := 0) (v := .ref (a 17)) (C := RX) (T := TX) (N := 10) hx hb hts (fun w h9 => zc (inX w h9)) hown hK hP 0 rfl rfl 5 (by decide) (hts _ (zc m_179)) (fun _ h9 => h9) rfl dX_more_80 ?_
      refine va_getN (D := D) (ci := 5) (v := .int (Xg_row_carried u)) (C := RXR) (T := TXR) (N := 7) hx hb hts (fun w h9 => zc (inXR w h9)) hown hK hP 17 rfl rfl 5 (by decide) (va_Nw.use rfl (hE.2.1 _ zn_20)) (fun _ h9 => h9) rfl dX_more_83 ?_
      refine lv_iload_n hx hb dX_more_86 rfl (lv_at hl 2 rfl) ?_
      refine lv_iload hx hb dX_more_87 (lv_at hl 4 rfl) ?_
      obtain ⟨h14, hg⟩ := hg
      refine zmuv (W.runV (As := [.int x1, .int (Xg_row_carried u), .int x2, .int x4]) (rest := []) ⟨hx, hb, hml, hown, hts⟩ (tXR_append l hI u x1 (Xg_row_carried u) x2 x4 h14) (cwV 4 hts (zgV m_318 m_311 m_312 m_6 m_313) rfl rfl rfl (by decide +kernel) ⟨Nat.le_of_ble_eq_true rfl, Nat.le_of_ble_eq_true rfl⟩) (zpre hP hE hS.2.1 (va_recv hK hP (ci := 5) (q0 := 17) rfl rfl)) rfl rfl hl.1 rfl (lv_room (Nat.le_of_ble_eq_true rfl)) dX_more_89 ⟨Nat.zero_le _, Nat.zero_le _⟩) hS hf hg (fun u15 H locs hf hg hP hS => ?_)
      refine lv_goto (tgt := 118) hx hb dX_more_92 (by decide) ?_
      refine lv_aload_n hx hb dX_more_118 rfl (lv_at hl 0 rfl) ?_
      refine va_get (D := D) (ci := 0) (v := .ref (a 17)) (C := RX) (T := TX) (N := 10) hx hb hts (fun w h9 => zc (inX w h9)) hown hK hP 0 rfl rfl 5 (by decide) (hts _ (zc m_179)) (fun _ h9 => h9) rfl dX_more_119 ?_
      refine va_getN (D := D) (ci := 5) (v := .int (Xg_row_length u15)) (C := RXR) (T := TXR) (N := 7) hx hb hts (fun w h9 => zc (inXR w h9)) hown hK hP 17 rfl rfl 6 (by decide) (va_Nw.use rfl (hE.2.1 _ zn_21)) (fun _ h9 => h9) rfl dX_more_122 ?_
      exact W.iret (v := (Xg_row_length u15)) hx hb hr (fun t ht hW => by subst hf; exact ⟨rfl, by rw [ht]; exact hP, hS.F ht⟩) hS.2.2 dX_more_125
  · have hf := zn c7 hf
    have hg := zgn c7 hg
    refine lv_iconst (v := (-1)) hx hb dX_more_67 (by decide) ?_
    exact W.iret (v := (-1)) hx hb hr (fun t ht hW => by subst hf; exact ⟨rfl, by rw [ht]; exact hP, hS.F ht⟩) hS.2.2 dX_more_68
set_option maxHeartbeats 4000000 in
set_option maxRecDepth 100000 in
theorem kX_more_40 {p : Program} {l : Launch} {e : Env} {s : State} {m : MethodId} {args : Array Value} {below : List Frame} {meth : Method} {c : Code} {D : va_G} {k : zK} {a : Nat → Nat} (hI : zI 29 a) (C0 : zC p s m args meth c cX_more (some .int) 5 RX wsX_more D k (zA 29 a)) {tgt : Int32 × XS} : ∀ (n : Nat) (u : XS) (x1 : Int32) (x2 : Int32) (x3 : Int32) (x4 : Int32), LX_more_40 n u x1 x2 x3 x4 = tgt → MX_more_40 n u x1 x2 x3 x4 → ∀ (H : Heap) (locs : List Loc), va_P D vwCl (wX k a u) H → va_S (zA 29 a) s.heap H locs → ∀ (ls : Array Slot), lv_has ls 5 [(0, .ref (a 0)), (1, .int x1), (2, .int x2), (3, .int x3), (4, .int x4)] → W p l e (headSpec wsX_more ({ frames := 1, cells := 0, slots := 0, locals := 24 })).room s m args below meth c H locs 0 0 (MQ below (zQi D (wX k a) (zA 29 a) tgt) args s 0 0 (zA 29 a)) (F0 m 40 ls []) := by
  obtain ⟨hx, hb, hr, hml, hown, hts, hlocks, hE⟩ := id C0
  have hK := hE.1
  intro n
  intro u x1 x2 x3 x4 hf hg H locs hP hS ls hl
  change ((if x3 = (-1) then (LX_more_55 n u x1 x2 x3 x4) else (if (FX_isRelation u x3) = 0 then ((-4), u) else (LX_more_55 n u x1 x2 x3 x4))) : Int32 × XS) = tgt at hf
  change (if x3 = (-1) then (MX_more_55 n u x1 x2 x3 x4) else (if (FX_isRelation u x3) = 0 then True else (MX_more_55 n u x1 x2 x3 x4))) at hg
  refine lv_iload_n hx hb dX_more_40 rfl (lv_at hl 3 rfl) ?_
  refine lv_iconst (v := (-1)) hx hb dX_more_41 (by decide) ?_
  refine lv_icmp_eq (tgt := 55) hx hb dX_more_42 (by decide) (fun c5 => ?_) (fun c5 => ?_)
  · have hf := zt c5 hf
    have hg := zgt c5 hg
    exact kX_more_55 hI C0 (tgt := tgt) n u x1 x2 x3 x4 hf hg _ _ hP hS _ (lv_sub hl [0, 1, 2, 3, 4] rfl)
  · have hf := zn c5 hf
    have hg := zgn c5 hg
    refine lv_iload_n hx hb dX_more_45 rfl (lv_at hl 3 rfl) ?_
    refine vp_callSi (W.runS (As := [.int x3]) (rest := []) ⟨hx, hb, hml, hown, hts⟩ (tX_isRelation l hI u x3) (va_cwS 1 hts (zgS m_303 m_304 m_1 m_305) rfl rfl rfl (by decide +kernel) ⟨Nat.le_of_ble_eq_true rfl, Nat.le_of_ble_eq_true rfl⟩) (zpreS hP hE hS.2.1) rfl rfl hl.1 rfl (lv_room (Nat.le_of_ble_eq_true rfl)) dX_more_46 ⟨Nat.zero_le _, Nat.zero_le _⟩) (fun r9 hr9 => ?_)
    subst hr9
    refine lv_if_ne (tgt := 55) hx hb dX_more_49 (by decide) (fun c6 => ?_) (fun c6 => ?_)
    · have hf := zn c6 hf
      have hg := zgn c6 hg
      exact kX_more_55 hI C0 (tgt := tgt) n u x1 x2 x3 x4 hf hg _ _ hP hS _ (lv_sub hl [0, 1, 2, 3, 4] rfl)
    · have hf := zt c6 hf
      have hg := zgt c6 hg
      refine lv_bipush (v := (-4)) hx hb dX_more_52 (by decide) ?_
      exact W.iret (v := (-4)) hx hb hr (fun t ht hW => by subst hf; exact ⟨rfl, by rw [ht]; exact hP, hS.F ht⟩) hS.2.2 dX_more_54
set_option maxHeartbeats 4000000 in
set_option maxRecDepth 100000 in
theorem tX_more (l : Launch) {D : va_G} {k : zK} {a : Nat → Nat} (hI : zI 29 a) (u : XS) (p0 : Int32) (p1 : Int32) (p2 : Int32) (p3 : Int32) (hg : GX_more u p0 p1 p2 p3) : Met l yX_more wsX_more ({ frames := 1, cells := 0, slots := 0, locals := 24 }) (zPc D k (zA 29 a) (wX k a u) [.ref (a 0), .int p0, .int p1, .int p2, .int p3]) (zQi D (wX k a) (zA 29 a) (FX_more u p0 p1 p2 p3)) 0 0 (zA 29 a) := by
  refine Met.ofW (cc := cX_more) (maxL := 5) (ret := (some .int)) (by decide) rfl ?_
  intro p e s m args below meth c s₁ B hml hv
  obtain ⟨rfl, hP, hE⟩ := hv
  have hts := atoms_spec (ws := wsX_more) B.pre
  have C0 : zC p s m _ meth c cX_more (some .int) 5 RX wsX_more D k (zA 29 a) := ⟨B.exec, B.bytes, B.returns, hml, findClass_of_methodNamed B.named, hts, B.notSynchronized, hE⟩
  obtain ⟨hx, hb, hr, hml, hown, _, hlocks, _⟩ := id C0
  have hK := hE.1
  have hS : va_S (zA 29 a) s.heap s.heap [] := va_S.rf
  generalize hf : FX_more u p0 p1 p2 p3 = tgt
  change ((if (Xg_row_length u) = 0 then ((-4), u) else (if (FXF_has u p3) = 0 then ((-2), u) else (if p0 = 0 then (LX_more_40 1000 u p0 p1 p2 p3) else (if p0 = 1 then (LX_more_40 1000 u p0 p1 p2 p3) else ((-4), u))))) : Int32 × XS) = tgt at hf
  change (if (Xg_row_length u) = 0 then True else (if (FXF_has u p3) = 0 then True else (if p0 = 0 then (MX_more_40 1000 u p0 p1 p2 p3) else (if p0 = 1 then (MX_more_40 1000 u p0 p1 p2 p3) else True)))) at hg
  have hl := lv_entry ([.ref (a 0), .int p0, .int p1, .int p2, .int p3]) (n := 5) (Nat.le_of_ble_eq_true rfl)
  rw [lg_entry_eq]
  generalize (lg_sl ([.ref (a 0), .int p0, .int p1, .int p2, .int p3]) ++ List.replicate (5 - (lg_sl ([.ref (a 0), .int p0, .int p1, .int p2, .int p3])).length) Slot.unset).toArray = ls at hl ⊢
  have hl : lv_has ls 5 [(0, .ref (a 0)), (1, .int p0), (2, .int p1), (3, .int p2), (4, .int p3)] := hl
  refine lv_aload_n hx hb dX_more_0 rfl (lv_at hl 0 rfl) ?_
  refine va_get (D := D) (ci := 0) (v := .ref (a 17)) (C := RX) (T := TX) (N := 10) hx hb hts (fun w h9 => zc (inX w h9)) hown hK hP 0 rfl rfl 5 (by decide) (hts _ (zc m_179)) (fun _ h9 => h9) rfl dX_more_1 ?_
  refine va_getN (D := D) (ci := 5) (v := .int (Xg_row_length u)) (C := RXR) (T := TXR) (N := 7) hx hb hts (fun w h9 => zc (inXR w h9)) hown hK hP 17 rfl rfl 6 (by decide) (va_Nw.use rfl (hE.2.1 _ zn_21)) (fun _ h9 => h9) rfl dX_more_4 ?_
  refine lv_if_ne (tgt := 13) hx hb dX_more_7 (by decide) (fun c1 => ?_) (fun c1 => ?_)
  · have hf := zn c1 hf
    have hg := zgn c1 hg
    refine lv_aload_n hx hb dX_more_13 rfl (lv_at hl 0 rfl) ?_
    refine va_get (D := D) (ci := 0) (v := .ref (a 1)) (C := RX) (T := TX) (N := 10) hx hb hts (fun w h9 => zc (inX w h9)) hown hK hP 0 rfl rfl 1 (by decide) (hts _ (zc m_175)) (fun _ h9 => h9) rfl dX_more_14 ?_
    refine lv_iload hx hb dX_more_17 (lv_at hl 4 rfl) ?_
    refine vp_callSi (W.runV (As := [.int p3]) (rest := []) ⟨hx, hb, hml, hown, hts⟩ (tXF_has l hI u p3) (cwV 1 hts (zgV m_223 m_224 m_225 m_2 m_226) rfl rfl rfl (by decide +kernel) ⟨Nat.le_of_ble_eq_true rfl, Nat.le_of_ble_eq_true rfl⟩) (zpre hP hE hS.2.1 (va_recv hK hP (ci := 1) (q0 := 1) rfl rfl)) rfl rfl hl.1 rfl (lv_room (Nat.le_of_ble_eq_true rfl)) dX_more_19 ⟨Nat.zero_le _, Nat.zero_le _⟩) (fun r9 hr9 => ?_)
    subst hr9
    refine lv_if_ne (tgt := 28) hx hb dX_more_22 (by decide) (fun c2 => ?_) (fun c2 => ?_)
    · have hf := zn c2 hf
      have hg := zgn c2 hg
      refine lv_iload_n hx hb dX_more_28 rfl (lv_at hl 1 rfl) ?_
      refine lv_if_eq (tgt := 40) hx hb dX_more_29 (by decide) (fun c3 => ?_) (fun c3 => ?_)
      · have hf := zt c3 hf
        have hg := zgt c3 hg
        exact kX_more_40 hI C0 (tgt := tgt) 1000 u p0 p1 p2 p3 hf hg _ _ hP hS _ (lv_sub hl [0, 1, 2, 3, 4] rfl)
      · have hf := zn c3 hf
        have hg := zgn c3 hg
        refine lv_iload_n hx hb dX_more_32 rfl (lv_at hl 1 rfl) ?_
        refine lv_iconst (v := 1) hx hb dX_more_33 (by decide) ?_
        refine lv_icmp_eq (tgt := 40) hx hb dX_more_34 (by decide) (fun c4 => ?_) (fun c4 => ?_)
        · have hf := zt c4 hf
          have hg := zgt c4 hg
          exact kX_more_40 hI C0 (tgt := tgt) 1000 u p0 p1 p2 p3 hf hg _ _ hP hS _ (lv_sub hl [0, 1, 2, 3, 4] rfl)
        · have hf := zn c4 hf
          have hg := zgn c4 hg
          refine lv_bipush (v := (-4)) hx hb dX_more_37 (by decide) ?_
          exact W.iret (v := (-4)) hx hb hr (fun t ht hW => by subst hf; exact ⟨rfl, by rw [ht]; exact hP, hS.F ht⟩) hS.2.2 dX_more_39
    · have hf := zt c2 hf
      have hg := zgt c2 hg
      refine lv_bipush (v := (-2)) hx hb dX_more_25 (by decide) ?_
      exact W.iret (v := (-2)) hx hb hr (fun t ht hW => by subst hf; exact ⟨rfl, by rw [ht]; exact hP, hS.F ht⟩) hS.2.2 dX_more_27
  · have hf := zt c1 hf
    have hg := zgt c1 hg
    refine lv_bipush (v := (-4)) hx hb dX_more_10 (by decide) ?_
    exact W.iret (v := (-4)) hx hb hr (fun t ht hW => by subst hf; exact ⟨rfl, by rw [ht]; exact hP, hS.F ht⟩) hS.2.2 dX_more_12
theorem dXR_nodesNeeded_0 : decode cXR_nodesNeeded 0 = .ok (.iconst 2, 1) := by decide +kernel
theorem dXR_nodesNeeded_1 : decode cXR_nodesNeeded 1 = .ok (.aload_n 0, 1) := by decide +kernel
theorem dXR_nodesNeeded_2 : decode cXR_nodesNeeded 2 = .ok (.getfield 25, 3) := by decide +kernel
theorem dXR_nodesNeeded_5 : decode cXR_nodesNeeded 5 = .ok (.imul, 1) := by decide +kernel
theorem dXR_nodesNeeded_6 : decode cXR_nodesNeeded 6 = .ok (.iconst 1, 1) := by decide +kernel
theorem dXR_nodesNeeded_7 : decode cXR_nodesNeeded 7 = .ok (.isub, 1) := by decide +kernel
theorem dXR_nodesNeeded_8 : decode cXR_nodesNeeded 8 = .ok (.istore_n 1, 1) := by decide +kernel
theorem dXR_nodesNeeded_9 : decode cXR_nodesNeeded 9 = .ok (.iconst 0, 1) := by decide +kernel
theorem dXR_nodesNeeded_10 : decode cXR_nodesNeeded 10 = .ok (.istore_n 2, 1) := by decide +kernel
theorem dXR_nodesNeeded_11 : decode cXR_nodesNeeded 11 = .ok (.iload_n 2, 1) := by decide +kernel
theorem dXR_nodesNeeded_12 : decode cXR_nodesNeeded 12 = .ok (.aload_n 0, 1) := by decide +kernel
theorem dXR_nodesNeeded_13 : decode cXR_nodesNeeded 13 = .ok (.getfield 25, 3) := by decide +kernel
theorem dXR_nodesNeeded_16 : decode cXR_nodesNeeded 16 = .ok (.if_icmp .ge 21, 3) := by decide +kernel
theorem dXR_nodesNeeded_19 : decode cXR_nodesNeeded 19 = .ok (.aload_n 0, 1) := by decide +kernel
theorem dXR_nodesNeeded_20 : decode cXR_nodesNeeded 20 = .ok (.getfield 18, 3) := by decide +kernel
theorem dXR_nodesNeeded_23 : decode cXR_nodesNeeded 23 = .ok (.iload_n 2, 1) := by decide +kernel
theorem dXR_nodesNeeded_24 : decode cXR_nodesNeeded 24 = .ok (.baload, 1) := by decide +kernel
theorem dXR_nodesNeeded_25 : decode cXR_nodesNeeded 25 = .ok (.ifCond .eq 6, 3) := by decide +kernel
theorem dXR_nodesNeeded_28 : decode cXR_nodesNeeded 28 = .ok (.iinc 1 1, 3) := by decide +kernel
theorem dXR_nodesNeeded_31 : decode cXR_nodesNeeded 31 = .ok (.iinc 2 1, 3) := by decide +kernel
theorem dXR_nodesNeeded_34 : decode cXR_nodesNeeded 34 = .ok (.goto (-23), 3) := by decide +kernel
theorem dXR_nodesNeeded_37 : decode cXR_nodesNeeded 37 = .ok (.iload_n 1, 1) := by decide +kernel
theorem dXR_nodesNeeded_38 : decode cXR_nodesNeeded 38 = .ok (.ireturn, 1) := by decide +kernel
abbrev wsXR_nodesNeeded : List Cond := Cond.code yXR_nodesNeeded cXR_nodesNeeded 3 (some .int) :: zWords
def LXR_nodesNeeded_11 : Nat → XS → Int32 → Int32 → Int32
  | 0, _, _, _ => 0
  | n + 1, u, x2, x1 => (if (Xg_row_length u) ≤ x2 then x1 else (if ((Xg_row_negated u) x2.toNatClampNeg) = 0 then (LXR_nodesNeeded_11 n u (x2 + 1) x1) else (LXR_nodesNeeded_11 n u (x2 + 1) (x1 + 1))))
def MXR_nodesNeeded_11 : Nat → XS → Int32 → Int32 → Prop
  | 0, _, _, _ => False
  | n + 1, u, x2, x1 => (if (Xg_row_length u) ≤ x2 then True else (vp_in x2 20 ∧ (if ((Xg_row_negated u) x2.toNatClampNeg) = 0 then (MXR_nodesNeeded_11 n u (x2 + 1) x1) else (MXR_nodesNeeded_11 n u (x2 + 1) (x1 + 1)))))
def FXR_nodesNeeded (u : XS) : Int32 := (LXR_nodesNeeded_11 1000 u 0 ((2 * (Xg_row_length u)) - 1))
def GXR_nodesNeeded (u : XS) : Prop := (MXR_nodesNeeded_11 1000 u 0 ((2 * (Xg_row_length u)) - 1))
set_option maxHeartbeats 4000000 in
set_option maxRecDepth 100000 in
theorem kXR_nodesNeeded_11 {p : Program} {l : Launch} {e : Env} {s : State} {m : MethodId} {args : Array Value} {below : List Frame} {meth : Method} {c : Code} {D : va_G} {k : zK} {a : Nat → Nat} (hI : zI 29 a) (C0 : zC p s m args meth c cXR_nodesNeeded (some .int) 3 RXR wsXR_nodesNeeded D k (zA 29 a)) {tgt : Int32} : ∀ (n : Nat) (u : XS) (x2 : Int32) (x1 : Int32), LXR_nodesNeeded_11 n u x2 x1 = tgt → MXR_nodesNeeded_11 n u x2 x1 → ∀ (H : Heap) (locs : List Loc), va_P D vwCl (wX k a u) H → va_S (zA 29 a) s.heap H locs → H = s.heap ∧ locs = [] → ∀ (ls : Array Slot), lv_has ls 3 [(2, .int x2), (1, .int x1), (0, .ref (a 17))] → W p l e (headSpec wsXR_nodesNeeded ({ frames := 0, cells := 0, slots := 0, locals := 0 })).room s m args below meth c H locs 0 0 (MQ below (vp_Si (fun r9 => r9 = tgt)) args s 0 0 (fun _ => False)) (F0 m 11 ls []) := by
  obtain ⟨hx, hb, hr, hml, hown, hts, hlocks, hE⟩ := id C0
  have hK := hE.1
  intro n
  induction n with
  | zero =>
    intro u x2 x1 _ hg
    exact False.elim hg
  | succ n ih =>
    intro u x2 x1 hf hg H locs hP hS hq ls hl
    obtain ⟨rfl, rfl⟩ := hq
    change ((if (Xg_row_length u) ≤ x2 then x1 else (if ((Xg_row_negated u) x2.toNatClampNeg) = 0 then (LXR_nodesNeeded_11 n u (x2 + 1) x1) else (LXR_nodesNeeded_11 n u (x2 + 1) (x1 + 1)))) : Int32) = tgt at hf
    change (if (Xg_row_length u) ≤ x2 then True else (vp_in x2 20 ∧ (if ((Xg_row_negated u) x2.toNatClampNeg) = 0 then (MXR_nodesNeeded_11 n u (x2 + 1) x1) else (MXR_nodesNeeded_11 n u (x2 + 1) (x1 + 1))))) at hg
    refine lv_iload_n hx hb dXR_nodesNeeded_11 rfl (lv_at hl 0 rfl) ?_
    refine lv_aload_n hx hb dXR_nodesNeeded_12 rfl (lv_at hl 2 rfl) ?_
    refine va_get (D := D) (ci := 5) (v := .int (Xg_row_length u)) (C := RXR) (T := TXR) (N := 7) hx hb hts (fun w h9 => zc (inXR w h9)) hown hK hP 17 rfl rfl 6 (by decide) (hts _ (zc m_129)) (fun _ h9 => h9) rfl dXR_nodesNeeded_13 ?_
    refine lv_icmp_ge (tgt := 37) hx hb dXR_nodesNeeded_16 (by decide) (fun c1 => ?_) (fun c1 => ?_)
    · have hf := zt c1 hf
      have hg := zgt c1 hg
      refine lv_iload_n hx hb dXR_nodesNeeded_37 rfl (lv_at hl 1 rfl) ?_
      exact W.iret (v := x1) hx hb hr (fun t ht hW => ⟨_, rfl, hf, ht⟩) (fun _ h9 => nomatch h9) dXR_nodesNeeded_38
    · have hf := zn c1 hf
      have hg := zgn c1 hg
      refine lv_aload_n hx hb dXR_nodesNeeded_19 rfl (lv_at hl 2 rfl) ?_
      refine va_get (D := D) (ci := 5) (v := .ref (a 20)) (C := RXR) (T := TXR) (N := 7) hx hb hts (fun w h9 => zc (inXR w h9)) hown hK hP 17 rfl rfl 2 (by decide) (hts _ (zc m_121)) (fun _ h9 => h9) rfl dXR_nodesNeeded_20 ?_
      refine lv_iload_n hx hb dXR_nodesNeeded_23 rfl (lv_at hl 0 rfl) ?_
      obtain ⟨h2, hg⟩ := hg
      refine va_zald hx hb hK hP 20 2 rfl rfl h2 dXR_nodesNeeded_24 ?_
      refine lv_if_eq (tgt := 31) hx hb dXR_nodesNeeded_25 (by decide) (fun c3 => ?_) (fun c3 => ?_)
      · have hf := zt c3 hf
        have hg := zgt c3 hg
        refine lv_iinc (v := (x2 + 1)) (lv' := [(2, .int (x2 + 1)), (1, .int x1), (0, .ref (a 17))]) hx hb dXR_nodesNeeded_31 hl (k := 0) rfl rfl (by decide) rfl (fun ls hl => ?_)
        refine lv_goto (tgt := 11) hx hb dXR_nodesNeeded_34 (by decide) ?_
        exact ih u (x2 + 1) x1 hf hg _ _ hP hS ⟨rfl, rfl⟩ _ (lv_sub hl [0, 1, 2] rfl)
      · have hf := zn c3 hf
        have hg := zgn c3 hg
        refine lv_iinc (v := (x1 + 1)) (lv' := [(1, .int (x1 + 1)), (2, .int x2), (0, .ref (a 17))]) hx hb dXR_nodesNeeded_28 hl (k := 1) rfl rfl (by decide) rfl (fun ls hl => ?_)
        refine lv_iinc (v := (x2 + 1)) (lv' := [(2, .int (x2 + 1)), (1, .int (x1 + 1)), (0, .ref (a 17))]) hx hb dXR_nodesNeeded_31 hl (k := 1) rfl rfl (by decide) rfl (fun ls hl => ?_)
        refine lv_goto (tgt := 11) hx hb dXR_nodesNeeded_34 (by decide) ?_
        exact ih u (x2 + 1) (x1 + 1) hf hg _ _ hP hS ⟨rfl, rfl⟩ _ (lv_sub hl [0, 1, 2] rfl)
set_option maxHeartbeats 4000000 in
set_option maxRecDepth 100000 in
theorem tXR_nodesNeeded (l : Launch) {D : va_G} {k : zK} {a : Nat → Nat} (hI : zI 29 a) (u : XS) (hg : GXR_nodesNeeded u) : Met l yXR_nodesNeeded wsXR_nodesNeeded ({ frames := 0, cells := 0, slots := 0, locals := 0 }) (zPc D k (zA 29 a) (wX k a u) [.ref (a 17)]) (vp_Si (fun r9 => r9 = (FXR_nodesNeeded u))) 0 0 (fun _ => False) := by
  refine Met.ofW (cc := cXR_nodesNeeded) (maxL := 3) (ret := (some .int)) (by decide) rfl ?_
  intro p e s m args below meth c s₁ B hml hv
  obtain ⟨rfl, hP, hE⟩ := hv
  have hts := atoms_spec (ws := wsXR_nodesNeeded) B.pre
  have C0 : zC p s m _ meth c cXR_nodesNeeded (some .int) 3 RXR wsXR_nodesNeeded D k (zA 29 a) := ⟨B.exec, B.bytes, B.returns, hml, findClass_of_methodNamed B.named, hts, B.notSynchronized, hE⟩
  obtain ⟨hx, hb, hr, hml, hown, _, hlocks, _⟩ := id C0
  have hK := hE.1
  have hS : va_S (zA 29 a) s.heap s.heap [] := va_S.rf
  generalize hf : FXR_nodesNeeded u = tgt
  change ((LXR_nodesNeeded_11 1000 u 0 ((2 * (Xg_row_length u)) - 1)) : Int32) = tgt at hf
  change (MXR_nodesNeeded_11 1000 u 0 ((2 * (Xg_row_length u)) - 1)) at hg
  have hl := lv_entry ([.ref (a 17)]) (n := 3) (Nat.le_of_ble_eq_true rfl)
  rw [lg_entry_eq]
  generalize (lg_sl ([.ref (a 17)]) ++ List.replicate (3 - (lg_sl ([.ref (a 17)])).length) Slot.unset).toArray = ls at hl ⊢
  have hl : lv_has ls 3 [(0, .ref (a 17))] := hl
  refine lv_iconst (v := 2) hx hb dXR_nodesNeeded_0 (by decide) ?_
  refine lv_aload_n hx hb dXR_nodesNeeded_1 rfl (lv_at hl 0 rfl) ?_
  refine va_get (D := D) (ci := 5) (v := .int (Xg_row_length u)) (C := RXR) (T := TXR) (N := 7) hx hb hts (fun w h9 => zc (inXR w h9)) hown hK hP 17 rfl rfl 6 (by decide) (hts _ (zc m_129)) (fun _ h9 => h9) rfl dXR_nodesNeeded_2 ?_
  refine lv_imul hx hb dXR_nodesNeeded_5 ?_
  refine lv_iconst (v := 1) hx hb dXR_nodesNeeded_6 (by decide) ?_
  refine lv_isub hx hb dXR_nodesNeeded_7 ?_
  refine lv_istore_n (lv' := [(1, .int ((2 * (Xg_row_length u)) - 1)), (0, .ref (a 17))]) hx hb dXR_nodesNeeded_8 rfl hl (by decide) rfl (fun ls hl => ?_)
  refine lv_iconst (v := 0) hx hb dXR_nodesNeeded_9 (by decide) ?_
  refine lv_istore_n (lv' := [(2, .int 0), (1, .int ((2 * (Xg_row_length u)) - 1)), (0, .ref (a 17))]) hx hb dXR_nodesNeeded_10 rfl hl (by decide) rfl (fun ls hl => ?_)
  exact kXR_nodesNeeded_11 hI C0 (tgt := tgt) 1000 u 0 ((2 * (Xg_row_length u)) - 1) hf hg _ _ hP hS ⟨rfl, rfl⟩ _ (lv_sub hl [0, 1, 2] rfl)
theorem dX_joined_0 : decode cX_joined 0 = .ok (.iload_n 2, 1) := by decide +kernel
theorem dX_joined_1 : decode cX_joined 1 = .ok (.ifCond .ne 7, 3) := by decide +kernel
theorem dX_joined_4 : decode cX_joined 4 = .ok (.iload_n 3, 1) := by decide +kernel
theorem dX_joined_5 : decode cX_joined 5 = .ok (.goto 13, 3) := by decide +kernel
theorem dX_joined_8 : decode cX_joined 8 = .ok (.aload_n 0, 1) := by decide +kernel
theorem dX_joined_9 : decode cX_joined 9 = .ok (.getfield 33, 3) := by decide +kernel
theorem dX_joined_12 : decode cX_joined 12 = .ok (.iload_n 1, 1) := by decide +kernel
theorem dX_joined_13 : decode cX_joined 13 = .ok (.iload_n 2, 1) := by decide +kernel
theorem dX_joined_14 : decode cX_joined 14 = .ok (.iload_n 3, 1) := by decide +kernel
theorem dX_joined_15 : decode cX_joined 15 = .ok (.invokevirtual 103, 3) := by decide +kernel
theorem dX_joined_18 : decode cX_joined 18 = .ok (.ireturn, 1) := by decide +kernel
abbrev wsX_joined : List Cond := Cond.code yX_joined cX_joined 4 (some .int) :: zWords
def FX_joined (u : XS) (p0 : Int32) (p1 : Int32) (p2 : Int32) : Int32 × XS := (if p1 = 0 then (p2, u) else (zlet (FXO_add u p0 p1 p2) (fun u3 => (u3.1, u3.2))))
def GX_joined (u : XS) (p0 : Int32) (p1 : Int32) (p2 : Int32) : Prop := (if p1 = 0 then True else (GXO_add u p0 p1 p2 ∧ (zlet (FXO_add u p0 p1 p2) (fun u3 => True))))
set_option maxHeartbeats 4000000 in
set_option maxRecDepth 100000 in
theorem tX_joined (l : Launch) {D : va_G} {k : zK} {a : Nat → Nat} (hI : zI 29 a) (u : XS) (p0 : Int32) (p1 : Int32) (p2 : Int32) (hg : GX_joined u p0 p1 p2) : Met l yX_joined wsX_joined ({ frames := 1, cells := 0, slots := 0, locals := 23 }) (zPc D k (zA 29 a) (wX k a u) [.ref (a 0), .int p0, .int p1, .int p2]) (zQi D (wX k a) (zA 29 a) (FX_joined u p0 p1 p2)) 0 0 (zA 29 a) := by
  refine Met.ofW (cc := cX_joined) (maxL := 4) (ret := (some .int)) (by decide) rfl ?_
  intro p e s m args below meth c s₁ B hml hv
  obtain ⟨rfl, hP, hE⟩ := hv
  have hts := atoms_spec (ws := wsX_joined) B.pre
  have C0 : zC p s m _ meth c cX_joined (some .int) 4 RX wsX_joined D k (zA 29 a) := ⟨B.exec, B.bytes, B.returns, hml, findClass_of_methodNamed B.named, hts, B.notSynchronized, hE⟩
  obtain ⟨hx, hb, hr, hml, hown, _, hlocks, _⟩ := id C0
  have hK := hE.1
  have hS : va_S (zA 29 a) s.heap s.heap [] := va_S.rf
  generalize hf : FX_joined u p0 p1 p2 = tgt
  change ((if p1 = 0 then (p2, u) else (zlet (FXO_add u p0 p1 p2) (fun u3 => (u3.1, u3.2)))) : Int32 × XS) = tgt at hf
  change (if p1 = 0 then True else (GXO_add u p0 p1 p2 ∧ (zlet (FXO_add u p0 p1 p2) (fun u3 => True)))) at hg
  have hl := lv_entry ([.ref (a 0), .int p0, .int p1, .int p2]) (n := 4) (Nat.le_of_ble_eq_true rfl)
  rw [lg_entry_eq]
  generalize (lg_sl ([.ref (a 0), .int p0, .int p1, .int p2]) ++ List.replicate (4 - (lg_sl ([.ref (a 0), .int p0, .int p1, .int p2])).length) Slot.unset).toArray = ls at hl ⊢
  have hl : lv_has ls 4 [(0, .ref (a 0)), (1, .int p0), (2, .int p1), (3, .int p2)] := hl
  refine lv_iload_n hx hb dX_joined_0 rfl (lv_at hl 2 rfl) ?_
  refine lv_if_ne (tgt := 8) hx hb dX_joined_1 (by decide) (fun c1 => ?_) (fun c1 => ?_)
  · have hf := zn c1 hf
    have hg := zgn c1 hg
    refine lv_aload_n hx hb dX_joined_8 rfl (lv_at hl 0 rfl) ?_
    refine va_get (D := D) (ci := 0) (v := .ref (a 13)) (C := RX) (T := TX) (N := 10) hx hb hts (fun w h9 => zc (inX w h9)) hown hK hP 0 rfl rfl 4 (by decide) (hts _ (zc m_178)) (fun _ h9 => h9) rfl dX_joined_9 ?_
    refine lv_iload_n hx hb dX_joined_12 rfl (lv_at hl 1 rfl) ?_
    refine lv_iload_n hx hb dX_joined_13 rfl (lv_at hl 2 rfl) ?_
    refine lv_iload_n hx hb dX_joined_14 rfl (lv_at hl 3 rfl) ?_
    obtain ⟨h2, hg⟩ := hg
    refine zmui (W.runV (As := [.int p0, .int p1, .int p2]) (rest := []) ⟨hx, hb, hml, hown, hts⟩ (tXO_add l hI u p0 p1 p2 h2) (cwV 3 hts (zgV m_269 m_270 m_271 m_5 m_272) rfl rfl rfl (by decide +kernel) ⟨Nat.le_of_ble_eq_true rfl, Nat.le_of_ble_eq_true rfl⟩) (zpre hP hE hS.2.1 (va_recv hK hP (ci := 4) (q0 := 13) rfl rfl)) rfl rfl hl.1 rfl (lv_room (Nat.le_of_ble_eq_true rfl)) dX_joined_15 ⟨Nat.zero_le _, Nat.zero_le _⟩) hS hf hg (fun u3 H locs hf hg hP hS => ?_)
    exact W.iret (v := u3.1) hx hb hr (fun t ht hW => by subst hf; exact ⟨rfl, by rw [ht]; exact hP, hS.F ht⟩) hS.2.2 dX_joined_18
  · have hf := zt c1 hf
    have hg := zgt c1 hg
    refine lv_iload_n hx hb dX_joined_4 rfl (lv_at hl 3 rfl) ?_
    refine lv_goto (tgt := 18) hx hb dX_joined_5 (by decide) ?_
    exact W.iret (v := p2) hx hb hr (fun t ht hW => by subst hf; exact ⟨rfl, by rw [ht]; exact hP, hS.F ht⟩) hS.2.2 dX_joined_18
theorem dX_relationNode_0 : decode cX_relationNode 0 = .ok (.aload_n 0, 1) := by decide +kernel
theorem dX_relationNode_1 : decode cX_relationNode 1 = .ok (.getfield 33, 3) := by decide +kernel
theorem dX_relationNode_4 : decode cX_relationNode 4 = .ok (.aload_n 0, 1) := by decide +kernel
theorem dX_relationNode_5 : decode cX_relationNode 5 = .ok (.getfield 40, 3) := by decide +kernel
theorem dX_relationNode_8 : decode cX_relationNode 8 = .ok (.getfield 211, 3) := by decide +kernel
theorem dX_relationNode_11 : decode cX_relationNode 11 = .ok (.iload_n 1, 1) := by decide +kernel
theorem dX_relationNode_12 : decode cX_relationNode 12 = .ok (.iaload, 1) := by decide +kernel
theorem dX_relationNode_13 : decode cX_relationNode 13 = .ok (.aload_n 0, 1) := by decide +kernel
theorem dX_relationNode_14 : decode cX_relationNode 14 = .ok (.getfield 40, 3) := by decide +kernel
theorem dX_relationNode_17 : decode cX_relationNode 17 = .ok (.getfield 214, 3) := by decide +kernel
theorem dX_relationNode_20 : decode cX_relationNode 20 = .ok (.aload_n 0, 1) := by decide +kernel
theorem dX_relationNode_21 : decode cX_relationNode 21 = .ok (.getfield 40, 3) := by decide +kernel
theorem dX_relationNode_24 : decode cX_relationNode 24 = .ok (.getfield 217, 3) := by decide +kernel
theorem dX_relationNode_27 : decode cX_relationNode 27 = .ok (.iload_n 1, 1) := by decide +kernel
theorem dX_relationNode_28 : decode cX_relationNode 28 = .ok (.iaload, 1) := by decide +kernel
theorem dX_relationNode_29 : decode cX_relationNode 29 = .ok (.invokevirtual 103, 3) := by decide +kernel
theorem dX_relationNode_32 : decode cX_relationNode 32 = .ok (.istore_n 2, 1) := by decide +kernel
theorem dX_relationNode_33 : decode cX_relationNode 33 = .ok (.aload_n 0, 1) := by decide +kernel
theorem dX_relationNode_34 : decode cX_relationNode 34 = .ok (.getfield 40, 3) := by decide +kernel
theorem dX_relationNode_37 : decode cX_relationNode 37 = .ok (.getfield 220, 3) := by decide +kernel
theorem dX_relationNode_40 : decode cX_relationNode 40 = .ok (.iload_n 1, 1) := by decide +kernel
theorem dX_relationNode_41 : decode cX_relationNode 41 = .ok (.baload, 1) := by decide +kernel
theorem dX_relationNode_42 : decode cX_relationNode 42 = .ok (.ifCond .eq 17, 3) := by decide +kernel
theorem dX_relationNode_45 : decode cX_relationNode 45 = .ok (.aload_n 0, 1) := by decide +kernel
theorem dX_relationNode_46 : decode cX_relationNode 46 = .ok (.getfield 33, 3) := by decide +kernel
theorem dX_relationNode_49 : decode cX_relationNode 49 = .ok (.bipush 10, 2) := by decide +kernel
theorem dX_relationNode_51 : decode cX_relationNode 51 = .ok (.iload_n 2, 1) := by decide +kernel
theorem dX_relationNode_52 : decode cX_relationNode 52 = .ok (.iconst 0, 1) := by decide +kernel
theorem dX_relationNode_53 : decode cX_relationNode 53 = .ok (.invokevirtual 103, 3) := by decide +kernel
theorem dX_relationNode_56 : decode cX_relationNode 56 = .ok (.goto 4, 3) := by decide +kernel
theorem dX_relationNode_59 : decode cX_relationNode 59 = .ok (.iload_n 2, 1) := by decide +kernel
theorem dX_relationNode_60 : decode cX_relationNode 60 = .ok (.ireturn, 1) := by decide +kernel
abbrev wsX_relationNode : List Cond := Cond.code yX_relationNode cX_relationNode 3 (some .int) :: zWords
def FX_relationNode (u : XS) (p0 : Int32) : Int32 × XS := (zlet (FXO_add u ((Xg_row_op u) p0.toNatClampNeg) (Xg_row_subject u) ((Xg_row_object u) p0.toNatClampNeg)) (fun u4 => (if ((Xg_row_negated (u4.2)) p0.toNatClampNeg) = 0 then (u4.1, u4.2) else (zlet (FXO_add (u4.2) 10 (u4.1) 0) (fun u8 => (u8.1, u8.2))))))
def GX_relationNode (u : XS) (p0 : Int32) : Prop := (vp_in p0 20 ∧ (vp_in p0 20 ∧ (GXO_add u ((Xg_row_op u) p0.toNatClampNeg) (Xg_row_subject u) ((Xg_row_object u) p0.toNatClampNeg) ∧ (zlet (FXO_add u ((Xg_row_op u) p0.toNatClampNeg) (Xg_row_subject u) ((Xg_row_object u) p0.toNatClampNeg)) (fun u4 => (vp_in p0 20 ∧ (if ((Xg_row_negated (u4.2)) p0.toNatClampNeg) = 0 then True else (GXO_add (u4.2) 10 (u4.1) 0 ∧ (zlet (FXO_add (u4.2) 10 (u4.1) 0) (fun u8 => True))))))))))
set_option maxHeartbeats 4000000 in
set_option maxRecDepth 100000 in
theorem tX_relationNode (l : Launch) {D : va_G} {k : zK} {a : Nat → Nat} (hI : zI 29 a) (u : XS) (p0 : Int32) (hg : GX_relationNode u p0) : Met l yX_relationNode wsX_relationNode ({ frames := 1, cells := 0, slots := 0, locals := 23 }) (zPc D k (zA 29 a) (wX k a u) [.ref (a 0), .int p0]) (zQi D (wX k a) (zA 29 a) (FX_relationNode u p0)) 0 0 (zA 29 a) := by
  refine Met.ofW (cc := cX_relationNode) (maxL := 3) (ret := (some .int)) (by decide) rfl ?_
  intro p e s m args below meth c s₁ B hml hv
  obtain ⟨rfl, hP, hE⟩ := hv
  have hts := atoms_spec (ws := wsX_relationNode) B.pre
  have C0 : zC p s m _ meth c cX_relationNode (some .int) 3 RX wsX_relationNode D k (zA 29 a) := ⟨B.exec, B.bytes, B.returns, hml, findClass_of_methodNamed B.named, hts, B.notSynchronized, hE⟩
  obtain ⟨hx, hb, hr, hml, hown, _, hlocks, _⟩ := id C0
  have hK := hE.1
  have hS : va_S (zA 29 a) s.heap s.heap [] := va_S.rf
  generalize hf : FX_relationNode u p0 = tgt
  change ((zlet (FXO_add u ((Xg_row_op u) p0.toNatClampNeg) (Xg_row_subject u) ((Xg_row_object u) p0.toNatClampNeg)) (fun u4 => (if ((Xg_row_negated (u4.2)) p0.toNatClampNeg) = 0 then (u4.1, u4.2) else (zlet (FXO_add (u4.2) 10 (u4.1) 0) (fun u8 => (u8.1, u8.2)))))) : Int32 × XS) = tgt at hf
  change (vp_in p0 20 ∧ (vp_in p0 20 ∧ (GXO_add u ((Xg_row_op u) p0.toNatClampNeg) (Xg_row_subject u) ((Xg_row_object u) p0.toNatClampNeg) ∧ (zlet (FXO_add u ((Xg_row_op u) p0.toNatClampNeg) (Xg_row_subject u) ((Xg_row_object u) p0.toNatClampNeg)) (fun u4 => (vp_in p0 20 ∧ (if ((Xg_row_negated (u4.2)) p0.toNatClampNeg) = 0 then True else (GXO_add (u4.2) 10 (u4.1) 0 ∧ (zlet (FXO_add (u4.2) 10 (u4.1) 0) (fun u8 => True)))))))))) at hg
  have hl := lv_entry ([.ref (a 0), .int p0]) (n := 3) (Nat.le_of_ble_eq_true rfl)
  rw [lg_entry_eq]
  generalize (lg_sl ([.ref (a 0), .int p0]) ++ List.replicate (3 - (lg_sl ([.ref (a 0), .int p0])).length) Slot.unset).toArray = ls at hl ⊢
  have hl : lv_has ls 3 [(0, .ref (a 0)), (1, .int p0)] := hl
  refine lv_aload_n hx hb dX_relationNode_0 rfl (lv_at hl 0 rfl) ?_
  refine va_get (D := D) (ci := 0) (v := .ref (a 13)) (C := RX) (T := TX) (N := 10) hx hb hts (fun w h9 => zc (inX w h9)) hown hK hP 0 rfl rfl 4 (by decide) (hts _ (zc m_178)) (fun _ h9 => h9) rfl dX_relationNode_1 ?_
  refine lv_aload_n hx hb dX_relationNode_4 rfl (lv_at hl 0 rfl) ?_
  refine va_get (D := D) (ci := 0) (v := .ref (a 17)) (C := RX) (T := TX) (N := 10) hx hb hts (fun w h9 => zc (inX w h9)) hown hK hP 0 rfl rfl 5 (by decide) (hts _ (zc m_179)) (fun _ h9 => h9) rfl dX_relationNode_5 ?_
  refine va_getN (D := D) (ci := 5) (v := .ref (a 19)) (C := RXR) (T := TXR) (N := 7) hx hb hts (fun w h9 => zc (inXR w h9)) hown hK hP 17 rfl rfl 1 (by decide) (va_Nw.use rfl (hE.2.1 _ zn_16)) (fun _ h9 => h9) rfl dX_relationNode_8 ?_
  refine lv_iload_n hx hb dX_relationNode_11 rfl (lv_at hl 1 rfl) ?_
  obtain ⟨h1, hg⟩ := hg
  refine va_iald hx hb hK hP 19 0 rfl rfl h1 dX_relationNode_12 ?_
  refine lv_aload_n hx hb dX_relationNode_13 rfl (lv_at hl 0 rfl) ?_
  refine va_get (D := D) (ci := 0) (v := .ref (a 17)) (C := RX) (T := TX) (N := 10) hx hb hts (fun w h9 => zc (inX w h9)) hown hK hP 0 rfl rfl 5 (by decide) (hts _ (zc m_179)) (fun _ h9 => h9) rfl dX_relationNode_14 ?_
  refine va_getN (D := D) (ci := 5) (v := .int (Xg_row_subject u)) (C := RXR) (T := TXR) (N := 7) hx hb hts (fun w h9 => zc (inXR w h9)) hown hK hP 17 rfl rfl 4 (by decide) (va_Nw.use rfl (hE.2.1 _ zn_19)) (fun _ h9 => h9) rfl dX_relationNode_17 ?_
  refine lv_aload_n hx hb dX_relationNode_20 rfl (lv_at hl 0 rfl) ?_
  refine va_get (D := D) (ci := 0) (v := .ref (a 17)) (C := RX) (T := TX) (N := 10) hx hb hts (fun w h9 => zc (inX w h9)) hown hK hP 0 rfl rfl 5 (by decide) (hts _ (zc m_179)) (fun _ h9 => h9) rfl dX_relationNode_21 ?_
  refine va_getN (D := D) (ci := 5) (v := .ref (a 21)) (C := RXR) (T := TXR) (N := 7) hx hb hts (fun w h9 => zc (inXR w h9)) hown hK hP 17 rfl rfl 3 (by decide) (va_Nw.use rfl (hE.2.1 _ zn_18)) (fun _ h9 => h9) rfl dX_relationNode_24 ?_
  refine lv_iload_n hx hb dX_relationNode_27 rfl (lv_at hl 1 rfl) ?_
  obtain ⟨h2, hg⟩ := hg
  refine va_iald hx hb hK hP 21 0 rfl rfl h2 dX_relationNode_28 ?_
  obtain ⟨h3, hg⟩ := hg
  refine zmui (W.runV (As := [.int ((Xg_row_op u) p0.toNatClampNeg), .int (Xg_row_subject u), .int ((Xg_row_object u) p0.toNatClampNeg)]) (rest := []) ⟨hx, hb, hml, hown, hts⟩ (tXO_add l hI u ((Xg_row_op u) p0.toNatClampNeg) (Xg_row_subject u) ((Xg_row_object u) p0.toNatClampNeg) h3) (cwV 3 hts (zgV m_269 m_270 m_271 m_5 m_272) rfl rfl rfl (by decide +kernel) ⟨Nat.le_of_ble_eq_true rfl, Nat.le_of_ble_eq_true rfl⟩) (zpre hP hE hS.2.1 (va_recv hK hP (ci := 4) (q0 := 13) rfl rfl)) rfl rfl hl.1 rfl (lv_room (Nat.le_of_ble_eq_true rfl)) dX_relationNode_29 ⟨Nat.zero_le _, Nat.zero_le _⟩) hS hf hg (fun u4 H locs hf hg hP hS => ?_)
  refine lv_istore_n (lv' := [(2, .int (u4.1)), (0, .ref (a 0)), (1, .int p0)]) hx hb dX_relationNode_32 rfl hl (by decide) rfl (fun ls hl => ?_)
  refine lv_aload_n hx hb dX_relationNode_33 rfl (lv_at hl 1 rfl) ?_
  refine va_get (D := D) (ci := 0) (v := .ref (a 17)) (C := RX) (T := TX) (N := 10) hx hb hts (fun w h9 => zc (inX w h9)) hown hK hP 0 rfl rfl 5 (by decide) (hts _ (zc m_179)) (fun _ h9 => h9) rfl dX_relationNode_34 ?_
  refine va_getN (D := D) (ci := 5) (v := .ref (a 20)) (C := RXR) (T := TXR) (N := 7) hx hb hts (fun w h9 => zc (inXR w h9)) hown hK hP 17 rfl rfl 2 (by decide) (va_Nw.use rfl (hE.2.1 _ zn_17)) (fun _ h9 => h9) rfl dX_relationNode_37 ?_
  refine lv_iload_n hx hb dX_relationNode_40 rfl (lv_at hl 2 rfl) ?_
  obtain ⟨h5, hg⟩ := hg
  refine va_zald hx hb hK hP 20 2 rfl rfl h5 dX_relationNode_41 ?_
  refine lv_if_eq (tgt := 59) hx hb dX_relationNode_42 (by decide) (fun c6 => ?_) (fun c6 => ?_)
  · have hf := zt c6 hf
    have hg := zgt c6 hg
    refine lv_iload_n hx hb dX_relationNode_59 rfl (lv_at hl 0 rfl) ?_
    exact W.iret (v := u4.1) hx hb hr (fun t ht hW => by subst hf; exact ⟨rfl, by rw [ht]; exact hP, hS.F ht⟩) hS.2.2 dX_relationNode_60
  · have hf := zn c6 hf
    have hg := zgn c6 hg
    refine lv_aload_n hx hb dX_relationNode_45 rfl (lv_at hl 1 rfl) ?_
    refine va_get (D := D) (ci := 0) (v := .ref (a 13)) (C := RX) (T := TX) (N := 10) hx hb hts (fun w h9 => zc (inX w h9)) hown hK hP 0 rfl rfl 4 (by decide) (hts _ (zc m_178)) (fun _ h9 => h9) rfl dX_relationNode_46 ?_
    refine lv_bipush (v := 10) hx hb dX_relationNode_49 (by decide) ?_
    refine lv_iload_n hx hb dX_relationNode_51 rfl (lv_at hl 0 rfl) ?_
    refine lv_iconst (v := 0) hx hb dX_relationNode_52 (by decide) ?_
    obtain ⟨h7, hg⟩ := hg
    refine zmui (W.runV (As := [.int 10, .int (u4.1), .int 0]) (rest := []) ⟨hx, hb, hml, hown, hts⟩ (tXO_add l hI (u4.2) 10 (u4.1) 0 h7) (cwV 3 hts (zgV m_269 m_270 m_271 m_5 m_272) rfl rfl rfl (by decide +kernel) ⟨Nat.le_of_ble_eq_true rfl, Nat.le_of_ble_eq_true rfl⟩) (zpre hP hE hS.2.1 (va_recv hK hP (ci := 4) (q0 := 13) rfl rfl)) rfl rfl hl.1 rfl (lv_room (Nat.le_of_ble_eq_true rfl)) dX_relationNode_53 ⟨Nat.zero_le _, Nat.zero_le _⟩) hS hf hg (fun u8 H locs hf hg hP hS => ?_)
    refine lv_goto (tgt := 60) hx hb dX_relationNode_56 (by decide) ?_
    exact W.iret (v := u8.1) hx hb hr (fun t ht hW => by subst hf; exact ⟨rfl, by rw [ht]; exact hP, hS.F ht⟩) hS.2.2 dX_relationNode_60
theorem dX_unfoldRow_0 : decode cX_unfoldRow 0 = .ok (.iconst 0, 1) := by decide +kernel
theorem dX_unfoldRow_1 : decode cX_unfoldRow 1 = .ok (.istore_n 1, 1) := by decide +kernel
theorem dX_unfoldRow_2 : decode cX_unfoldRow 2 = .ok (.iconst 0, 1) := by decide +kernel
theorem dX_unfoldRow_3 : decode cX_unfoldRow 3 = .ok (.istore_n 2, 1) := by decide +kernel
theorem dX_unfoldRow_4 : decode cX_unfoldRow 4 = .ok (.iconst 0, 1) := by decide +kernel
theorem dX_unfoldRow_5 : decode cX_unfoldRow 5 = .ok (.istore_n 3, 1) := by decide +kernel
theorem dX_unfoldRow_6 : decode cX_unfoldRow 6 = .ok (.iload_n 3, 1) := by decide +kernel
theorem dX_unfoldRow_7 : decode cX_unfoldRow 7 = .ok (.aload_n 0, 1) := by decide +kernel
theorem dX_unfoldRow_8 : decode cX_unfoldRow 8 = .ok (.getfield 40, 3) := by decide +kernel
theorem dX_unfoldRow_11 : decode cX_unfoldRow 11 = .ok (.getfield 127, 3) := by decide +kernel
theorem dX_unfoldRow_14 : decode cX_unfoldRow 14 = .ok (.if_icmp .ge 50, 3) := by decide +kernel
theorem dX_unfoldRow_17 : decode cX_unfoldRow 17 = .ok (.iload_n 3, 1) := by decide +kernel
theorem dX_unfoldRow_18 : decode cX_unfoldRow 18 = .ok (.ifCond .le 27, 3) := by decide +kernel
theorem dX_unfoldRow_21 : decode cX_unfoldRow 21 = .ok (.aload_n 0, 1) := by decide +kernel
theorem dX_unfoldRow_22 : decode cX_unfoldRow 22 = .ok (.getfield 40, 3) := by decide +kernel
theorem dX_unfoldRow_25 : decode cX_unfoldRow 25 = .ok (.getfield 202, 3) := by decide +kernel
theorem dX_unfoldRow_28 : decode cX_unfoldRow 28 = .ok (.iload_n 3, 1) := by decide +kernel
theorem dX_unfoldRow_29 : decode cX_unfoldRow 29 = .ok (.iaload, 1) := by decide +kernel
theorem dX_unfoldRow_30 : decode cX_unfoldRow 30 = .ok (.iconst 1, 1) := by decide +kernel
theorem dX_unfoldRow_31 : decode cX_unfoldRow 31 = .ok (.if_icmp .ne 14, 3) := by decide +kernel
theorem dX_unfoldRow_34 : decode cX_unfoldRow 34 = .ok (.aload_n 0, 1) := by decide +kernel
theorem dX_unfoldRow_35 : decode cX_unfoldRow 35 = .ok (.bipush 12, 2) := by decide +kernel
theorem dX_unfoldRow_37 : decode cX_unfoldRow 37 = .ok (.iload_n 1, 1) := by decide +kernel
theorem dX_unfoldRow_38 : decode cX_unfoldRow 38 = .ok (.iload_n 2, 1) := by decide +kernel
theorem dX_unfoldRow_39 : decode cX_unfoldRow 39 = .ok (.invokevirtual 205, 3) := by decide +kernel
theorem dX_unfoldRow_42 : decode cX_unfoldRow 42 = .ok (.istore_n 1, 1) := by decide +kernel
theorem dX_unfoldRow_43 : decode cX_unfoldRow 43 = .ok (.iconst 0, 1) := by decide +kernel
theorem dX_unfoldRow_44 : decode cX_unfoldRow 44 = .ok (.istore_n 2, 1) := by decide +kernel
theorem dX_unfoldRow_45 : decode cX_unfoldRow 45 = .ok (.aload_n 0, 1) := by decide +kernel
theorem dX_unfoldRow_46 : decode cX_unfoldRow 46 = .ok (.bipush 11, 2) := by decide +kernel
theorem dX_unfoldRow_48 : decode cX_unfoldRow 48 = .ok (.iload_n 2, 1) := by decide +kernel
theorem dX_unfoldRow_49 : decode cX_unfoldRow 49 = .ok (.aload_n 0, 1) := by decide +kernel
theorem dX_unfoldRow_50 : decode cX_unfoldRow 50 = .ok (.iload_n 3, 1) := by decide +kernel
theorem dX_unfoldRow_51 : decode cX_unfoldRow 51 = .ok (.invokevirtual 208, 3) := by decide +kernel
theorem dX_unfoldRow_54 : decode cX_unfoldRow 54 = .ok (.invokevirtual 205, 3) := by decide +kernel
theorem dX_unfoldRow_57 : decode cX_unfoldRow 57 = .ok (.istore_n 2, 1) := by decide +kernel
theorem dX_unfoldRow_58 : decode cX_unfoldRow 58 = .ok (.iinc 3 1, 3) := by decide +kernel
theorem dX_unfoldRow_61 : decode cX_unfoldRow 61 = .ok (.goto (-55), 3) := by decide +kernel
theorem dX_unfoldRow_64 : decode cX_unfoldRow 64 = .ok (.aload_n 0, 1) := by decide +kernel
theorem dX_unfoldRow_65 : decode cX_unfoldRow 65 = .ok (.bipush 12, 2) := by decide +kernel
theorem dX_unfoldRow_67 : decode cX_unfoldRow 67 = .ok (.iload_n 1, 1) := by decide +kernel
theorem dX_unfoldRow_68 : decode cX_unfoldRow 68 = .ok (.iload_n 2, 1) := by decide +kernel
theorem dX_unfoldRow_69 : decode cX_unfoldRow 69 = .ok (.invokevirtual 205, 3) := by decide +kernel
theorem dX_unfoldRow_72 : decode cX_unfoldRow 72 = .ok (.ireturn, 1) := by decide +kernel
abbrev wsX_unfoldRow : List Cond := Cond.code yX_unfoldRow cX_unfoldRow 4 (some .int) :: zWords
def LX_unfoldRow_6 : Nat → XS → Int32 → Int32 → Int32 → Int32 × XS
  | 0, u, _, _, _ => (0, u)
  | n + 1, u, x3, x2, x1 => (if (Xg_row_length u) ≤ x3 then (zlet (FX_joined u 12 x1 x2) (fun u3 => (u3.1, u3.2))) else (if x3 ≤ 0 then (zlet (FX_relationNode u x3) (fun u6 => (zlet (FX_joined (u6.2) 11 x2 (u6.1)) (fun u8 => (LX_unfoldRow_6 n (u8.2) (x3 + 1) (u8.1) x1))))) else (if ((Xg_row_with u) x3.toNatClampNeg) = 1 then (zlet (FX_joined u 12 x1 x2) (fun u16 => (zlet (FX_relationNode (u16.2) x3) (fun u18 => (zlet (FX_joined (u18.2) 11 0 (u18.1)) (fun u20 => (LX_unfoldRow_6 n (u20.2) (x3 + 1) (u20.1) (u16.1)))))))) else (zlet (FX_relationNode u x3) (fun u12 => (zlet (FX_joined (u12.2) 11 x2 (u12.1)) (fun u14 => (LX_unfoldRow_6 n (u14.2) (x3 + 1) (u14.1) x1))))))))
def MX_unfoldRow_6 : Nat → XS → Int32 → Int32 → Int32 → Prop
  | 0, _, _, _, _ => False
  | n + 1, u, x3, x2, x1 => (if (Xg_row_length u) ≤ x3 then (GX_joined u 12 x1 x2 ∧ (zlet (FX_joined u 12 x1 x2) (fun u3 => True))) else (if x3 ≤ 0 then (GX_relationNode u x3 ∧ (zlet (FX_relationNode u x3) (fun u6 => (GX_joined (u6.2) 11 x2 (u6.1) ∧ (zlet (FX_joined (u6.2) 11 x2 (u6.1)) (fun u8 => (MX_unfoldRow_6 n (u8.2) (x3 + 1) (u8.1) x1))))))) else (vp_in x3 20 ∧ (if ((Xg_row_with u) x3.toNatClampNeg) = 1 then (GX_joined u 12 x1 x2 ∧ (zlet (FX_joined u 12 x1 x2) (fun u16 => (GX_relationNode (u16.2) x3 ∧ (zlet (FX_relationNode (u16.2) x3) (fun u18 => (GX_joined (u18.2) 11 0 (u18.1) ∧ (zlet (FX_joined (u18.2) 11 0 (u18.1)) (fun u20 => (MX_unfoldRow_6 n (u20.2) (x3 + 1) (u20.1) (u16.1))))))))))) else (GX_relationNode u x3 ∧ (zlet (FX_relationNode u x3) (fun u12 => (GX_joined (u12.2) 11 x2 (u12.1) ∧ (zlet (FX_joined (u12.2) 11 x2 (u12.1)) (fun u14 => (MX_unfoldRow_6 n (u14.2) (x3 + 1) (u14.1) x1)))))))))))
def FX_unfoldRow (u : XS) : Int32 × XS := (LX_unfoldRow_6 1000 u 0 0 0)
def GX_unfoldRow (u : XS) : Prop := (MX_unfoldRow_6 1000 u 0 0 0)
set_option maxHeartbeats 4000000 in
set_option maxRecDepth 100000 in
theorem kX_unfoldRow_6 {p : Program} {l : Launch} {e : Env} {s : State} {m : MethodId} {args : Array Value} {below : List Frame} {meth : Method} {c : Code} {D : va_G} {k : zK} {a : Nat → Nat} (hI : zI 29 a) (C0 : zC p s m args meth c cX_unfoldRow (some .int) 4 RX wsX_unfoldRow D k (zA 29 a)) {tgt : Int32 × XS} : ∀ (n : Nat) (u : XS) (x3 : Int32) (x2 : Int32) (x1 : Int32), LX_unfoldRow_6 n u x3 x2 x1 = tgt → MX_unfoldRow_6 n u x3 x2 x1 → ∀ (H : Heap) (locs : List Loc), va_P D vwCl (wX k a u) H → va_S (zA 29 a) s.heap H locs → ∀ (ls : Array Slot), lv_has ls 4 [(3, .int x3), (2, .int x2), (1, .int x1), (0, .ref (a 0))] → W p l e (headSpec wsX_unfoldRow ({ frames := 2, cells := 0, slots := 0, locals := 46 })).room s m args below meth c H locs 0 0 (MQ below (zQi D (wX k a) (zA 29 a) tgt) args s 0 0 (zA 29 a)) (F0 m 6 ls []) := by
  obtain ⟨hx, hb, hr, hml, hown, hts, hlocks, hE⟩ := id C0
  have hK := hE.1
  intro n
  induction n with
  | zero =>
    intro u x3 x2 x1 _ hg
    exact False.elim hg
  | succ n ih =>
    intro u x3 x2 x1 hf hg H locs hP hS ls hl
    change ((if (Xg_row_length u) ≤ x3 then (zlet (FX_joined u 12 x1 x2) (fun u3 => (u3.1, u3.2))) else (if x3 ≤ 0 then (zlet (FX_relationNode u x3) (fun u6 => (zlet (FX_joined (u6.2) 11 x2 (u6.1)) (fun u8 => (LX_unfoldRow_6 n (u8.2) (x3 + 1) (u8.1) x1))))) else (if ((Xg_row_with u) x3.toNatClampNeg) = 1 then (zlet (FX_joined u 12 x1 x2) (fun u16 => (zlet (FX_relationNode (u16.2) x3) (fun u18 => (zlet (FX_joined (u18.2) 11 0 (u18.1)) (fun u20 => (LX_unfoldRow_6 n (u20.2) (x3 + 1) (u20.1) (u16.1)))))))) else (zlet (FX_relationNode u x3) (fun u12 => (zlet (FX_joined (u12.2) 11 x2 (u12.1)) (fun u14 => (LX_unfoldRow_6 n (u14.2) (x3 + 1) (u14.1) x1)))))))) : Int32 × XS) = tgt at hf
    change (if (Xg_row_length u) ≤ x3 then (GX_joined u 12 x1 x2 ∧ (zlet (FX_joined u 12 x1 x2) (fun u3 => True))) else (if x3 ≤ 0 then (GX_relationNode u x3 ∧ (zlet (FX_relationNode u x3) (fun u6 => (GX_joined (u6.2) 11 x2 (u6.1) ∧ (zlet (FX_joined (u6.2) 11 x2 (u6.1)) (fun u8 => (MX_unfoldRow_6 n (u8.2) (x3 + 1) (u8.1) x1))))))) else (vp_in x3 20 ∧ (if ((Xg_row_with u) x3.toNatClampNeg) = 1 then (GX_joined u 12 x1 x2 ∧ (zlet (FX_joined u 12 x1 x2) (fun u16 => (GX_relationNode (u16.2) x3 ∧ (zlet (FX_relationNode (u16.2) x3) (fun u18 => (GX_joined (u18.2) 11 0 (u18.1) ∧ (zlet (FX_joined (u18.2) 11 0 (u18.1)) (fun u20 => (MX_unfoldRow_6 n (u20.2) (x3 + 1) (u20.1) (u16.1))))))))))) else (GX_relationNode u x3 ∧ (zlet (FX_relationNode u x3) (fun u12 => (GX_joined (u12.2) 11 x2 (u12.1) ∧ (zlet (FX_joined (u12.2) 11 x2 (u12.1)) (fun u14 => (MX_unfoldRow_6 n (u14.2) (x3 + 1) (u14.1) x1))))))))))) at hg
    refine lv_iload_n hx hb dX_unfoldRow_6 rfl (lv_at hl 0 rfl) ?_
    refine lv_aload_n hx hb dX_unfoldRow_7 rfl (lv_at hl 3 rfl) ?_
    refine va_get (D := D) (ci := 0) (v := .ref (a 17)) (C := RX) (T := TX) (N := 10) hx hb hts (fun w h9 => zc (inX w h9)) hown hK hP 0 rfl rfl 5 (by decide) (hts _ (zc m_179)) (fun _ h9 => h9) rfl dX_unfoldRow_8 ?_
    refine va_getN (D := D) (ci := 5) (v := .int (Xg_row_length u)) (C := RXR) (T := TXR) (N := 7) hx hb hts (fun w h9 => zc (inXR w h9)) hown hK hP 17 rfl rfl 6 (by decide) (va_Nw.use rfl (hE.2.1 _ zn_21)) (fun _ h9 => h9) rfl dX_unfoldRow_11 ?_
    refine lv_icmp_ge (tgt := 64) hx hb dX_unfoldRow_14 (by decide) (fun c1 => ?_) (fun c1 => ?_)
    · have hf := zt c1 hf
      have hg := zgt c1 hg
      refine lv_aload_n hx hb dX_unfoldRow_64 rfl (lv_at hl 3 rfl) ?_
      refine lv_bipush (v := 12) hx hb dX_unfoldRow_65 (by decide) ?_
      refine lv_iload_n hx hb dX_unfoldRow_67 rfl (lv_at hl 2 rfl) ?_
      refine lv_iload_n hx hb dX_unfoldRow_68 rfl (lv_at hl 1 rfl) ?_
      obtain ⟨h2, hg⟩ := hg
      refine zmui (W.runV (As := [.int 12, .int x1, .int x2]) (rest := []) ⟨hx, hb, hml, hown, hts⟩ (tX_joined l hI u 12 x1 x2 h2) (cwV 3 hts (zgV m_334 m_336 mp_3 m_1 m_337) rfl rfl rfl (by decide +kernel) ⟨Nat.le_of_ble_eq_true rfl, Nat.le_of_ble_eq_true rfl⟩) (zpre hP hE hS.2.1 (va_recv hK hP (ci := 0) (q0 := 0) rfl rfl)) rfl rfl hl.1 rfl (lv_room (Nat.le_of_ble_eq_true rfl)) dX_unfoldRow_69 ⟨Nat.zero_le _, Nat.zero_le _⟩) hS hf hg (fun u3 H locs hf hg hP hS => ?_)
      exact W.iret (v := u3.1) hx hb hr (fun t ht hW => by subst hf; exact ⟨rfl, by rw [ht]; exact hP, hS.F ht⟩) hS.2.2 dX_unfoldRow_72
    · have hf := zn c1 hf
      have hg := zgn c1 hg
      refine lv_iload_n hx hb dX_unfoldRow_17 rfl (lv_at hl 0 rfl) ?_
      refine lv_if_le (tgt := 45) hx hb dX_unfoldRow_18 (by decide) (fun c4 => ?_) (fun c4 => ?_)
      · have hf := zt c4 hf
        have hg := zgt c4 hg
        refine lv_aload_n hx hb dX_unfoldRow_45 rfl (lv_at hl 3 rfl) ?_
        refine lv_bipush (v := 11) hx hb dX_unfoldRow_46 (by decide) ?_
        refine lv_iload_n hx hb dX_unfoldRow_48 rfl (lv_at hl 1 rfl) ?_
        refine lv_aload_n hx hb dX_unfoldRow_49 rfl (lv_at hl 3 rfl) ?_
        refine lv_iload_n hx hb dX_unfoldRow_50 rfl (lv_at hl 0 rfl) ?_
        obtain ⟨h5, hg⟩ := hg
        refine zmui (W.runV (As := [.int x3]) (rest := [.int x2, .int 11, .ref (a 0)]) ⟨hx, hb, hml, hown, hts⟩ (tX_relationNode l hI u x3 h5) (cwV 1 hts (zgV m_338 m_340 mp_4 m_1 m_341) rfl rfl rfl (by decide +kernel) ⟨Nat.le_of_ble_eq_true rfl, Nat.le_of_ble_eq_true rfl⟩) (zpre hP hE hS.2.1 (va_recv hK hP (ci := 0) (q0 := 0) rfl rfl)) rfl rfl hl.1 rfl (lv_room (Nat.le_of_ble_eq_true rfl)) dX_unfoldRow_51 ⟨Nat.zero_le _, Nat.zero_le _⟩) hS hf hg (fun u6 H locs hf hg hP hS => ?_)
        obtain ⟨h7, hg⟩ := hg
        refine zmui (W.runV (As := [.int 11, .int x2, .int (u6.1)]) (rest := []) ⟨hx, hb, hml, hown, hts⟩ (tX_joined l hI (u6.2) 11 x2 (u6.1) h7) (cwV 3 hts (zgV m_334 m_336 mp_3 m_1 m_337) rfl rfl rfl (by decide +kernel) ⟨Nat.le_of_ble_eq_true rfl, Nat.le_of_ble_eq_true rfl⟩) (zpre hP hE hS.2.1 (va_recv hK hP (ci := 0) (q0 := 0) rfl rfl)) rfl rfl hl.1 rfl (lv_room (Nat.le_of_ble_eq_true rfl)) dX_unfoldRow_54 ⟨Nat.zero_le _, Nat.zero_le _⟩) hS hf hg (fun u8 H locs hf hg hP hS => ?_)
        refine lv_istore_n (lv' := [(2, .int (u8.1)), (3, .int x3), (1, .int x1), (0, .ref (a 0))]) hx hb dX_unfoldRow_57 rfl hl (by decide) rfl (fun ls hl => ?_)
        refine lv_iinc (v := (x3 + 1)) (lv' := [(3, .int (x3 + 1)), (2, .int (u8.1)), (1, .int x1), (0, .ref (a 0))]) hx hb dX_unfoldRow_58 hl (k := 1) rfl rfl (by decide) rfl (fun ls hl => ?_)
        refine lv_goto (tgt := 6) hx hb dX_unfoldRow_61 (by decide) ?_
        exact ih (u8.2) (x3 + 1) (u8.1) x1 hf hg _ _ hP hS _ (lv_sub hl [0, 1, 2, 3] rfl)
      · have hf := zn c4 hf
        have hg := zgn c4 hg
        refine lv_aload_n hx hb dX_unfoldRow_21 rfl (lv_at hl 3 rfl) ?_
        refine va_get (D := D) (ci := 0) (v := .ref (a 17)) (C := RX) (T := TX) (N := 10) hx hb hts (fun w h9 => zc (inX w h9)) hown hK hP 0 rfl rfl 5 (by decide) (hts _ (zc m_179)) (fun _ h9 => h9) rfl dX_unfoldRow_22 ?_
        refine va_getN (D := D) (ci := 5) (v := .ref (a 18)) (C := RXR) (T := TXR) (N := 7) hx hb hts (fun w h9 => zc (inXR w h9)) hown hK hP 17 rfl rfl 0 (by decide) (va_Nw.use rfl (hE.2.1 _ zn_15)) (fun _ h9 => h9) rfl dX_unfoldRow_25 ?_
        refine lv_iload_n hx hb dX_unfoldRow_28 rfl (lv_at hl 0 rfl) ?_
        obtain ⟨h9, hg⟩ := hg
        refine va_iald hx hb hK hP 18 0 rfl rfl h9 dX_unfoldRow_29 ?_
        refine lv_iconst (v := 1) hx hb dX_unfoldRow_30 (by decide) ?_
        refine lv_icmp_ne (tgt := 45) hx hb dX_unfoldRow_31 (by decide) (fun c10 => ?_) (fun c10 => ?_)
        · have hf := zn c10 hf
          have hg := zgn c10 hg
          refine lv_aload_n hx hb dX_unfoldRow_45 rfl (lv_at hl 3 rfl) ?_
          refine lv_bipush (v := 11) hx hb dX_unfoldRow_46 (by decide) ?_
          refine lv_iload_n hx hb dX_unfoldRow_48 rfl (lv_at hl 1 rfl) ?_
          refine lv_aload_n hx hb dX_unfoldRow_49 rfl (lv_at hl 3 rfl) ?_
          refine lv_iload_n hx hb dX_unfoldRow_50 rfl (lv_at hl 0 rfl) ?_
          obtain ⟨h11, hg⟩ := hg
          refine zmui (W.runV (As := [.int x3]) (rest := [.int x2, .int 11, .ref (a 0)]) ⟨hx, hb, hml, hown, hts⟩ (tX_relationNode l hI u x3 h11) (cwV 1 hts (zgV m_338 m_340 mp_4 m_1 m_341) rfl rfl rfl (by decide +kernel) ⟨Nat.le_of_ble_eq_true rfl, Nat.le_of_ble_eq_true rfl⟩) (zpre hP hE hS.2.1 (va_recv hK hP (ci := 0) (q0 := 0) rfl rfl)) rfl rfl hl.1 rfl (lv_room (Nat.le_of_ble_eq_true rfl)) dX_unfoldRow_51 ⟨Nat.zero_le _, Nat.zero_le _⟩) hS hf hg (fun u12 H locs hf hg hP hS => ?_)
          obtain ⟨h13, hg⟩ := hg
          refine zmui (W.runV (As := [.int 11, .int x2, .int (u12.1)]) (rest := []) ⟨hx, hb, hml, hown, hts⟩ (tX_joined l hI (u12.2) 11 x2 (u12.1) h13) (cwV 3 hts (zgV m_334 m_336 mp_3 m_1 m_337) rfl rfl rfl (by decide +kernel) ⟨Nat.le_of_ble_eq_true rfl, Nat.le_of_ble_eq_true rfl⟩) (zpre hP hE hS.2.1 (va_recv hK hP (ci := 0) (q0 := 0) rfl rfl)) rfl rfl hl.1 rfl (lv_room (Nat.le_of_ble_eq_true rfl)) dX_unfoldRow_54 ⟨Nat.zero_le _, Nat.zero_le _⟩) hS hf hg (fun u14 H locs hf hg hP hS => ?_)
          refine lv_istore_n (lv' := [(2, .int (u14.1)), (3, .int x3), (1, .int x1), (0, .ref (a 0))]) hx hb dX_unfoldRow_57 rfl hl (by decide) rfl (fun ls hl => ?_)
          refine lv_iinc (v := (x3 + 1)) (lv' := [(3, .int (x3 + 1)), (2, .int (u14.1)), (1, .int x1), (0, .ref (a 0))]) hx hb dX_unfoldRow_58 hl (k := 1) rfl rfl (by decide) rfl (fun ls hl => ?_)
          refine lv_goto (tgt := 6) hx hb dX_unfoldRow_61 (by decide) ?_
          exact ih (u14.2) (x3 + 1) (u14.1) x1 hf hg _ _ hP hS _ (lv_sub hl [0, 1, 2, 3] rfl)
        · have hf := zt c10 hf
          have hg := zgt c10 hg
          refine lv_aload_n hx hb dX_unfoldRow_34 rfl (lv_at hl 3 rfl) ?_
          refine lv_bipush (v := 12) hx hb dX_unfoldRow_35 (by decide) ?_
          refine lv_iload_n hx hb dX_unfoldRow_37 rfl (lv_at hl 2 rfl) ?_
          refine lv_iload_n hx hb dX_unfoldRow_38 rfl (lv_at hl 1 rfl) ?_
          obtain ⟨h15, hg⟩ := hg
          refine zmui (W.runV (As := [.int 12, .int x1, .int x2]) (rest := []) ⟨hx, hb, hml, hown, hts⟩ (tX_joined l hI u 12 x1 x2 h15) (cwV 3 hts (zgV m_334 m_336 mp_3 m_1 m_337) rfl rfl rfl (by decide +kernel) ⟨Nat.le_of_ble_eq_true rfl, Nat.le_of_ble_eq_true rfl⟩) (zpre hP hE hS.2.1 (va_recv hK hP (ci := 0) (q0 := 0) rfl rfl)) rfl rfl hl.1 rfl (lv_room (Nat.le_of_ble_eq_true rfl)) dX_unfoldRow_39 ⟨Nat.zero_le _, Nat.zero_le _⟩) hS hf hg (fun u16 H locs hf hg hP hS => ?_)
          refine lv_istore_n (lv' := [(1, .int (u16.1)), (3, .int x3), (2, .int x2), (0, .ref (a 0))]) hx hb dX_unfoldRow_42 rfl hl (by decide) rfl (fun ls hl => ?_)
          refine lv_iconst (v := 0) hx hb dX_unfoldRow_43 (by decide) ?_
          refine lv_istore_n (lv' := [(2, .int 0), (1, .int (u16.1)), (3, .int x3), (0, .ref (a 0))]) hx hb dX_unfoldRow_44 rfl hl (by decide) rfl (fun ls hl => ?_)
          refine lv_aload_n hx hb dX_unfoldRow_45 rfl (lv_at hl 3 rfl) ?_
          refine lv_bipush (v := 11) hx hb dX_unfoldRow_46 (by decide) ?_
          refine lv_iload_n hx hb dX_unfoldRow_48 rfl (lv_at hl 0 rfl) ?_
          refine lv_aload_n hx hb dX_unfoldRow_49 rfl (lv_at hl 3 rfl) ?_
          refine lv_iload_n hx hb dX_unfoldRow_50 rfl (lv_at hl 2 rfl) ?_
          obtain ⟨h17, hg⟩ := hg
          refine zmui (W.runV (As := [.int x3]) (rest := [.int 0, .int 11, .ref (a 0)]) ⟨hx, hb, hml, hown, hts⟩ (tX_relationNode l hI (u16.2) x3 h17) (cwV 1 hts (zgV m_338 m_340 mp_4 m_1 m_341) rfl rfl rfl (by decide +kernel) ⟨Nat.le_of_ble_eq_true rfl, Nat.le_of_ble_eq_true rfl⟩) (zpre hP hE hS.2.1 (va_recv hK hP (ci := 0) (q0 := 0) rfl rfl)) rfl rfl hl.1 rfl (lv_room (Nat.le_of_ble_eq_true rfl)) dX_unfoldRow_51 ⟨Nat.zero_le _, Nat.zero_le _⟩) hS hf hg (fun u18 H locs hf hg hP hS => ?_)
          obtain ⟨h19, hg⟩ := hg
          refine zmui (W.runV (As := [.int 11, .int 0, .int (u18.1)]) (rest := []) ⟨hx, hb, hml, hown, hts⟩ (tX_joined l hI (u18.2) 11 0 (u18.1) h19) (cwV 3 hts (zgV m_334 m_336 mp_3 m_1 m_337) rfl rfl rfl (by decide +kernel) ⟨Nat.le_of_ble_eq_true rfl, Nat.le_of_ble_eq_true rfl⟩) (zpre hP hE hS.2.1 (va_recv hK hP (ci := 0) (q0 := 0) rfl rfl)) rfl rfl hl.1 rfl (lv_room (Nat.le_of_ble_eq_true rfl)) dX_unfoldRow_54 ⟨Nat.zero_le _, Nat.zero_le _⟩) hS hf hg (fun u20 H locs hf hg hP hS => ?_)
          refine lv_istore_n (lv' := [(2, .int (u20.1)), (1, .int (u16.1)), (3, .int x3), (0, .ref (a 0))]) hx hb dX_unfoldRow_57 rfl hl (by decide) rfl (fun ls hl => ?_)
          refine lv_iinc (v := (x3 + 1)) (lv' := [(3, .int (x3 + 1)), (2, .int (u20.1)), (1, .int (u16.1)), (0, .ref (a 0))]) hx hb dX_unfoldRow_58 hl (k := 2) rfl rfl (by decide) rfl (fun ls hl => ?_)
          refine lv_goto (tgt := 6) hx hb dX_unfoldRow_61 (by decide) ?_
          exact ih (u20.2) (x3 + 1) (u20.1) (u16.1) hf hg _ _ hP hS _ (lv_sub hl [0, 1, 2, 3] rfl)
set_option maxHeartbeats 4000000 in
set_option maxRecDepth 100000 in
theorem tX_unfoldRow (l : Launch) {D : va_G} {k : zK} {a : Nat → Nat} (hI : zI 29 a) (u : XS) (hg : GX_unfoldRow u) : Met l yX_unfoldRow wsX_unfoldRow ({ frames := 2, cells := 0, slots := 0, locals := 46 }) (zPc D k (zA 29 a) (wX k a u) [.ref (a 0)]) (zQi D (wX k a) (zA 29 a) (FX_unfoldRow u)) 0 0 (zA 29 a) := by
  refine Met.ofW (cc := cX_unfoldRow) (maxL := 4) (ret := (some .int)) (by decide) rfl ?_
  intro p e s m args below meth c s₁ B hml hv
  obtain ⟨rfl, hP, hE⟩ := hv
  have hts := atoms_spec (ws := wsX_unfoldRow) B.pre
  have C0 : zC p s m _ meth c cX_unfoldRow (some .int) 4 RX wsX_unfoldRow D k (zA 29 a) := ⟨B.exec, B.bytes, B.returns, hml, findClass_of_methodNamed B.named, hts, B.notSynchronized, hE⟩
  obtain ⟨hx, hb, hr, hml, hown, _, hlocks, _⟩ := id C0
  have hK := hE.1
  have hS : va_S (zA 29 a) s.heap s.heap [] := va_S.rf
  generalize hf : FX_unfoldRow u = tgt
  change ((LX_unfoldRow_6 1000 u 0 0 0) : Int32 × XS) = tgt at hf
  change (MX_unfoldRow_6 1000 u 0 0 0) at hg
  have hl := lv_entry ([.ref (a 0)]) (n := 4) (Nat.le_of_ble_eq_true rfl)
  rw [lg_entry_eq]
  generalize (lg_sl ([.ref (a 0)]) ++ List.replicate (4 - (lg_sl ([.ref (a 0)])).length) Slot.unset).toArray = ls at hl ⊢
  have hl : lv_has ls 4 [(0, .ref (a 0))] := hl
  refine lv_iconst (v := 0) hx hb dX_unfoldRow_0 (by decide) ?_
  refine lv_istore_n (lv' := [(1, .int 0), (0, .ref (a 0))]) hx hb dX_unfoldRow_1 rfl hl (by decide) rfl (fun ls hl => ?_)
  refine lv_iconst (v := 0) hx hb dX_unfoldRow_2 (by decide) ?_
  refine lv_istore_n (lv' := [(2, .int 0), (1, .int 0), (0, .ref (a 0))]) hx hb dX_unfoldRow_3 rfl hl (by decide) rfl (fun ls hl => ?_)
  refine lv_iconst (v := 0) hx hb dX_unfoldRow_4 (by decide) ?_
  refine lv_istore_n (lv' := [(3, .int 0), (2, .int 0), (1, .int 0), (0, .ref (a 0))]) hx hb dX_unfoldRow_5 rfl hl (by decide) rfl (fun ls hl => ?_)
  exact kX_unfoldRow_6 hI C0 (tgt := tgt) 1000 u 0 0 0 hf hg _ _ hP hS _ (lv_sub hl [0, 1, 2, 3] rfl)
end
section
theorem dX_unfold_0 : decode cX_unfold 0 = .ok (.aload_n 0, 1) := by decide +kernel
theorem dX_unfold_1 : decode cX_unfold 1 = .ok (.getfield 40, 3) := by decide +kernel
theorem dX_unfold_4 : decode cX_unfold 4 = .ok (.getfield 127, 3) := by decide +kernel
theorem dX_unfold_7 : decode cX_unfold 7 = .ok (.ifCond .ne 5, 3) := by decide +kernel
theorem dX_unfold_10 : decode cX_unfold 10 = .ok (.iconst 0, 1) := by decide +kernel
theorem dX_unfold_11 : decode cX_unfold 11 = .ok (.ireturn, 1) := by decide +kernel
theorem dX_unfold_12 : decode cX_unfold 12 = .ok (.aload_n 0, 1) := by decide +kernel
theorem dX_unfold_13 : decode cX_unfold 13 = .ok (.getfield 40, 3) := by decide +kernel
theorem dX_unfold_16 : decode cX_unfold 16 = .ok (.invokevirtual 141, 3) := by decide +kernel
theorem dX_unfold_19 : decode cX_unfold 19 = .ok (.sipush 200, 3) := by decide +kernel
theorem dX_unfold_22 : decode cX_unfold 22 = .ok (.aload_n 0, 1) := by decide +kernel
theorem dX_unfold_23 : decode cX_unfold 23 = .ok (.getfield 33, 3) := by decide +kernel
theorem dX_unfold_26 : decode cX_unfold 26 = .ok (.getfield 145, 3) := by decide +kernel
theorem dX_unfold_29 : decode cX_unfold 29 = .ok (.isub, 1) := by decide +kernel
theorem dX_unfold_30 : decode cX_unfold 30 = .ok (.if_icmp .le 5, 3) := by decide +kernel
theorem dX_unfold_33 : decode cX_unfold 33 = .ok (.iconst (-1), 1) := by decide +kernel
theorem dX_unfold_34 : decode cX_unfold 34 = .ok (.ireturn, 1) := by decide +kernel
theorem dX_unfold_35 : decode cX_unfold 35 = .ok (.aload_n 0, 1) := by decide +kernel
theorem dX_unfold_36 : decode cX_unfold 36 = .ok (.invokevirtual 148, 3) := by decide +kernel
theorem dX_unfold_39 : decode cX_unfold 39 = .ok (.istore_n 1, 1) := by decide +kernel
theorem dX_unfold_40 : decode cX_unfold 40 = .ok (.aload_n 0, 1) := by decide +kernel
theorem dX_unfold_41 : decode cX_unfold 41 = .ok (.getfield 40, 3) := by decide +kernel
theorem dX_unfold_44 : decode cX_unfold 44 = .ok (.iconst 0, 1) := by decide +kernel
theorem dX_unfold_45 : decode cX_unfold 45 = .ok (.putfield 127, 3) := by decide +kernel
theorem dX_unfold_48 : decode cX_unfold 48 = .ok (.iload_n 1, 1) := by decide +kernel
theorem dX_unfold_49 : decode cX_unfold 49 = .ok (.ireturn, 1) := by decide +kernel
abbrev wsX_unfold : List Cond := Cond.code yX_unfold cX_unfold 2 (some .int) :: zWords
def FX_unfold (u : XS) : Int32 × XS := (if (Xg_row_length u) = 0 then (0, u) else (if (FXR_nodesNeeded u) ≤ (200 - (Xg_nodes_made u)) then (zlet (FX_unfoldRow u) (fun u5 => (zlet (Xs_row_length (u5.2) 0) (fun u6 => (u5.1, u6))))) else ((-1), u)))
def GX_unfold (u : XS) : Prop := (if (Xg_row_length u) = 0 then True else (GXR_nodesNeeded u ∧ (if (FXR_nodesNeeded u) ≤ (200 - (Xg_nodes_made u)) then (GX_unfoldRow u ∧ (zlet (FX_unfoldRow u) (fun u5 => (zlet (Xs_row_length (u5.2) 0) (fun u6 => True))))) else True)))
set_option maxHeartbeats 4000000 in
set_option maxRecDepth 100000 in
theorem tX_unfold (l : Launch) {D : va_G} {k : zK} {a : Nat → Nat} (hI : zI 29 a) (u : XS) (hg : GX_unfold u) : Met l yX_unfold wsX_unfold ({ frames := 3, cells := 0, slots := 0, locals := 69 }) (zPc D k (zA 29 a) (wX k a u) [.ref (a 0)]) (zQi D (wX k a) (zA 29 a) (FX_unfold u)) 0 0 (zA 29 a) := by
  refine Met.ofW (cc := cX_unfold) (maxL := 2) (ret := (some .int)) (by decide) rfl ?_
  intro p e s m args below meth c s₁ B hml hv
  obtain ⟨rfl, hP, hE⟩ := hv
  have hts := atoms_spec (ws := wsX_unfold) B.pre
  have C0 : zC p s m _ meth c cX_unfold (some .int) 2 RX wsX_unfold D k (zA 29 a) := ⟨B.exec, B.bytes, B.returns, hml, findClass_of_methodNamed B.named, hts, B.notSynchronized, hE⟩
  obtain ⟨hx, hb, hr, hml, hown, _, hlocks, _⟩ := id C0
  have hK := hE.1
  have hS : va_S (zA 29 a) s.heap s.heap [] := va_S.rf
  generalize hf : FX_unfold u = tgt
  change ((if (Xg_row_length u) = 0 then (0, u) else (if (FXR_nodesNeeded u) ≤ (200 - (Xg_nodes_made u)) then (zlet (FX_unfoldRow u) (fun u5 => (zlet (Xs_row_length (u5.2) 0) (fun u6 => (u5.1, u6))))) else ((-1), u))) : Int32 × XS) = tgt at hf
  change (if (Xg_row_length u) = 0 then True else (GXR_nodesNeeded u ∧ (if (FXR_nodesNeeded u) ≤ (200 - (Xg_nodes_made u)) then (GX_unfoldRow u ∧ (zlet (FX_unfoldRow u) (fun u5 => (zlet (Xs_row_length (u5.2) 0) (fun u6 => True))))) else True))) at hg
  have hl := lv_entry ([.ref (a 0)]) (n := 2) (Nat.le_of_ble_eq_true rfl)
  rw [lg_entry_eq]
  generalize (lg_sl ([.ref (a 0)]) ++ List.replicate (2 - (lg_sl ([.ref (a 0)])).length) Slot.unset).toArray = ls at hl ⊢
  have hl : lv_has ls 2 [(0, .ref (a 0))] := hl
  refine lv_aload_n hx hb dX_unfold_0 rfl (lv_at hl 0 rfl) ?_
  refine va_get (D := D) (ci := 0) (v := .ref (a 17)) (C := RX) (T := TX) (N := 10) hx hb hts (fun w h9 => zc (inX w h9)) hown hK hP 0 rfl rfl 5 (by decide) (hts _ (zc m_179)) (fun _ h9 => h9) rfl dX_unfold_1 ?_
  refine va_getN (D := D) (ci := 5) (v := .int (Xg_row_length u)) (C := RXR) (T := TXR) (N := 7) hx hb hts (fun w h9 => zc (inXR w h9)) hown hK hP 17 rfl rfl 6 (by decide) (va_Nw.use rfl (hE.2.1 _ zn_21)) (fun _ h9 => h9) rfl dX_unfold_4 ?_
  refine lv_if_ne (tgt := 12) hx hb dX_unfold_7 (by decide) (fun c1 => ?_) (fun c1 => ?_)
  · have hf := zn c1 hf
    have hg := zgn c1 hg
    refine lv_aload_n hx hb dX_unfold_12 rfl (lv_at hl 0 rfl) ?_
    refine va_get (D := D) (ci := 0) (v := .ref (a 17)) (C := RX) (T := TX) (N := 10) hx hb hts (fun w h9 => zc (inX w h9)) hown hK hP 0 rfl rfl 5 (by decide) (hts _ (zc m_179)) (fun _ h9 => h9) rfl dX_unfold_13 ?_
    obtain ⟨h2, hg⟩ := hg
    refine vp_callSi (W.runV (As := []) (rest := []) ⟨hx, hb, hml, hown, hts⟩ (tXR_nodesNeeded l hI u h2) (cwV 0 hts (zgV m_326 m_327 m_328 m_6 m_329) rfl rfl rfl (by decide +kernel) ⟨Nat.le_of_ble_eq_true rfl, Nat.le_of_ble_eq_true rfl⟩) (zpre hP hE hS.2.1 (va_recv hK hP (ci := 5) (q0 := 17) rfl rfl)) rfl rfl hl.1 rfl (lv_room (Nat.le_of_ble_eq_true rfl)) dX_unfold_16 ⟨Nat.zero_le _, Nat.zero_le _⟩) (fun r9 hr9 => ?_)
    subst hr9
    refine lv_sipush (v := 200) hx hb dX_unfold_19 (by decide) ?_
    refine lv_aload_n hx hb dX_unfold_22 rfl (lv_at hl 0 rfl) ?_
    refine va_get (D := D) (ci := 0) (v := .ref (a 13)) (C := RX) (T := TX) (N := 10) hx hb hts (fun w h9 => zc (inX w h9)) hown hK hP 0 rfl rfl 4 (by decide) (hts _ (zc m_178)) (fun _ h9 => h9) rfl dX_unfold_23 ?_
    refine va_getN (D := D) (ci := 4) (v := .int (Xg_nodes_made u)) (C := RXO) (T := TXO) (N := 4) hx hb hts (fun w h9 => zc (inXO w h9)) hown hK hP 13 rfl rfl 3 (by decide) (va_Nw.use rfl (hE.2.1 _ zn_13)) (fun _ h9 => h9) rfl dX_unfold_26 ?_
    refine lv_isub hx hb dX_unfold_29 ?_
    refine lv_icmp_le (tgt := 35) hx hb dX_unfold_30 (by decide) (fun c3 => ?_) (fun c3 => ?_)
    · have hf := zt c3 hf
      have hg := zgt c3 hg
      refine lv_aload_n hx hb dX_unfold_35 rfl (lv_at hl 0 rfl) ?_
      obtain ⟨h4, hg⟩ := hg
      refine zmui (W.runV (As := []) (rest := []) ⟨hx, hb, hml, hown, hts⟩ (tX_unfoldRow l hI u h4) (cwV 0 hts (zgV m_330 m_332 mp_2 m_1 m_333) rfl rfl rfl (by decide +kernel) ⟨Nat.le_of_ble_eq_true rfl, Nat.le_of_ble_eq_true rfl⟩) (zpre hP hE hS.2.1 (va_recv hK hP (ci := 0) (q0 := 0) rfl rfl)) rfl rfl hl.1 rfl (lv_room (Nat.le_of_ble_eq_true rfl)) dX_unfold_36 ⟨Nat.zero_le _, Nat.zero_le _⟩) hS hf hg (fun u5 H locs hf hg hP hS => ?_)
      refine lv_istore_n (lv' := [(1, .int (u5.1)), (0, .ref (a 0))]) hx hb dX_unfold_39 rfl hl (by decide) rfl (fun ls hl => ?_)
      refine lv_aload_n hx hb dX_unfold_40 rfl (lv_at hl 1 rfl) ?_
      refine va_get (D := D) (ci := 0) (v := .ref (a 17)) (C := RX) (T := TX) (N := 10) hx hb hts (fun w h9 => zc (inX w h9)) hown hK hP 0 rfl rfl 5 (by decide) (hts _ (zc m_179)) (fun _ h9 => h9) rfl dX_unfold_41 ?_
      refine lv_iconst (v := 0) hx hb dX_unfold_44 (by decide) ?_
      refine va_putN (D := D) (ci := 5) (v := .int 0) (ty := .int) (C := RXR) (T := TXR) (N := 7) hx hb hts (fun w h9 => zc (inXR w h9)) tyXR tyXR_ok nmXR hown hK hP (XD hI _) hS 17 rfl rfl 6 (by decide) (va_Nw.use rfl (hE.2.1 _ zn_21)) (fun _ h9 => h9) rfl (by decide +kernel) rfl rfl (Nat.le_of_ble_eq_true rfl) dX_unfold_45 (fun H locs hP _ hS => ?_)
      obtain ⟨u6, hP, hf, hg⟩ := zlets (E := (Xs_row_length (u5.2) 0)) (w := wX k a) (Xp_row_length hP) hf hg
      refine lv_iload_n hx hb dX_unfold_48 rfl (lv_at hl 0 rfl) ?_
      exact W.iret (v := u5.1) hx hb hr (fun t ht hW => by subst hf; exact ⟨rfl, by rw [ht]; exact hP, hS.F ht⟩) hS.2.2 dX_unfold_49
    · have hf := zn c3 hf
      have hg := zgn c3 hg
      refine lv_iconst (v := (-1)) hx hb dX_unfold_33 (by decide) ?_
      exact W.iret (v := (-1)) hx hb hr (fun t ht hW => by subst hf; exact ⟨rfl, by rw [ht]; exact hP, hS.F ht⟩) hS.2.2 dX_unfold_34
  · have hf := zt c1 hf
    have hg := zgt c1 hg
    refine lv_iconst (v := 0) hx hb dX_unfold_10 (by decide) ?_
    exact W.iret (v := 0) hx hb hr (fun t ht hW => by subst hf; exact ⟨rfl, by rw [ht]; exact hP, hS.F ht⟩) hS.2.2 dX_unfold_11
theorem dXT_begin_0 : decode cXT_begin 0 = .ok (.iconst 0, 1) := by decide +kernel
theorem dXT_begin_1 : decode cXT_begin 1 = .ok (.istore_n 1, 1) := by decide +kernel
theorem dXT_begin_2 : decode cXT_begin 2 = .ok (.iload_n 1, 1) := by decide +kernel
theorem dXT_begin_3 : decode cXT_begin 3 = .ok (.sipush 200, 3) := by decide +kernel
theorem dXT_begin_6 : decode cXT_begin 6 = .ok (.if_icmp .gt 16, 3) := by decide +kernel
theorem dXT_begin_9 : decode cXT_begin 9 = .ok (.aload_n 0, 1) := by decide +kernel
theorem dXT_begin_10 : decode cXT_begin 10 = .ok (.getfield 9, 3) := by decide +kernel
theorem dXT_begin_13 : decode cXT_begin 13 = .ok (.iload_n 1, 1) := by decide +kernel
theorem dXT_begin_14 : decode cXT_begin 14 = .ok (.iconst 0, 1) := by decide +kernel
theorem dXT_begin_15 : decode cXT_begin 15 = .ok (.iastore, 1) := by decide +kernel
theorem dXT_begin_16 : decode cXT_begin 16 = .ok (.iinc 1 1, 3) := by decide +kernel
theorem dXT_begin_19 : decode cXT_begin 19 = .ok (.goto (-17), 3) := by decide +kernel
theorem dXT_begin_22 : decode cXT_begin 22 = .ok (.aload_n 0, 1) := by decide +kernel
theorem dXT_begin_23 : decode cXT_begin 23 = .ok (.iconst 0, 1) := by decide +kernel
theorem dXT_begin_24 : decode cXT_begin 24 = .ok (.putfield 21, 3) := by decide +kernel
theorem dXT_begin_27 : decode cXT_begin 27 = .ok (.aload_n 0, 1) := by decide +kernel
theorem dXT_begin_28 : decode cXT_begin 28 = .ok (.iconst 0, 1) := by decide +kernel
theorem dXT_begin_29 : decode cXT_begin 29 = .ok (.putfield 25, 3) := by decide +kernel
theorem dXT_begin_32 : decode cXT_begin 32 = .ok (.return_, 1) := by decide +kernel
abbrev wsXT_begin : List Cond := Cond.code yXT_begin cXT_begin 2 none :: zWords
def LXT_begin_2 : Nat → XS → Int32 → XS
  | 0, u, _ => u
  | n + 1, u, x1 => (if (200 : Int32) < x1 then (zlet (Xs_testing_noted u 0) (fun u2 => (zlet (Xs_testing_depth u2 0) (fun u3 => u3)))) else (zlet (Xs_testing_outcome u (upd (Xg_testing_outcome u) (x1.toNatClampNeg) 0)) (fun u5 => (LXT_begin_2 n u5 (x1 + 1)))))
def MXT_begin_2 : Nat → XS → Int32 → Prop
  | 0, _, _ => False
  | n + 1, u, x1 => (if (200 : Int32) < x1 then (zlet (Xs_testing_noted u 0) (fun u2 => (zlet (Xs_testing_depth u2 0) (fun u3 => True)))) else (vp_in x1 201 ∧ (zlet (Xs_testing_outcome u (upd (Xg_testing_outcome u) (x1.toNatClampNeg) 0)) (fun u5 => (MXT_begin_2 n u5 (x1 + 1))))))
def FXT_begin (u : XS) : XS := (LXT_begin_2 1000 u 0)
def GXT_begin (u : XS) : Prop := (MXT_begin_2 1000 u 0)
set_option maxHeartbeats 4000000 in
set_option maxRecDepth 100000 in
theorem kXT_begin_2 {p : Program} {l : Launch} {e : Env} {s : State} {m : MethodId} {args : Array Value} {below : List Frame} {meth : Method} {c : Code} {D : va_G} {k : zK} {a : Nat → Nat} (hI : zI 29 a) (C0 : zC p s m args meth c cXT_begin none 2 RXT wsXT_begin D k (zA 29 a)) {tgt : XS} : ∀ (n : Nat) (u : XS) (x1 : Int32), LXT_begin_2 n u x1 = tgt → MXT_begin_2 n u x1 → ∀ (H : Heap) (locs : List Loc), va_P D vwCl (wX k a u) H → va_S (zA 29 a) s.heap H locs → ∀ (ls : Array Slot), lv_has ls 2 [(1, .int x1), (0, .ref (a 22))] → W p l e (headSpec wsXT_begin ({ frames := 0, cells := 0, slots := 0, locals := 0 })).room s m args below meth c H locs 0 0 (MQ below (zQv D (wX k a) (zA 29 a) tgt) args s 0 0 (zA 29 a)) (F0 m 2 ls []) := by
  obtain ⟨hx, hb, hr, hml, hown, hts, hlocks, hE⟩ := id C0
  have hK := hE.1
  intro n
  induction n with
  | zero =>
    intro u x1 _ hg
    exact False.elim hg
  | succ n ih =>
    intro u x1 hf hg H locs hP hS ls hl
    change ((if (200 : Int32) < x1 then (zlet (Xs_testing_noted u 0) (fun u2 => (zlet (Xs_testing_depth u2 0) (fun u3 => u3)))) else (zlet (Xs_testing_outcome u (upd (Xg_testing_outcome u) (x1.toNatClampNeg) 0)) (fun u5 => (LXT_begin_2 n u5 (x1 + 1))))) : XS) = tgt at hf
    change (if (200 : Int32) < x1 then (zlet (Xs_testing_noted u 0) (fun u2 => (zlet (Xs_testing_depth u2 0) (fun u3 => True)))) else (vp_in x1 201 ∧ (zlet (Xs_testing_outcome u (upd (Xg_testing_outcome u) (x1.toNatClampNeg) 0)) (fun u5 => (MXT_begin_2 n u5 (x1 + 1)))))) at hg
    refine lv_iload_n hx hb dXT_begin_2 rfl (lv_at hl 0 rfl) ?_
    refine lv_sipush (v := 200) hx hb dXT_begin_3 (by decide) ?_
    refine lv_icmp_gt (tgt := 22) hx hb dXT_begin_6 (by decide) (fun c1 => ?_) (fun c1 => ?_)
    · have hf := zt c1 hf
      have hg := zgt c1 hg
      refine lv_aload_n hx hb dXT_begin_22 rfl (lv_at hl 1 rfl) ?_
      refine lv_iconst (v := 0) hx hb dXT_begin_23 (by decide) ?_
      refine va_put (D := D) (ci := 6) (v := .int 0) (ty := .int) (C := RXT) (T := TXT) (N := 5) hx hb hts (fun w h9 => zc (inXT w h9)) tyXT tyXT_ok nmXT hown hK hP (XD hI _) hS 22 rfl rfl 3 (by decide) (hts _ (zc m_159)) (fun _ h9 => h9) rfl (by decide +kernel) rfl rfl (Nat.le_of_ble_eq_true rfl) dXT_begin_24 (fun H locs hP _ hS => ?_)
      obtain ⟨u2, hP, hf, hg⟩ := zlets (E := (Xs_testing_noted u 0)) (w := wX k a) (Xp_testing_noted hP) hf hg
      refine lv_aload_n hx hb dXT_begin_27 rfl (lv_at hl 1 rfl) ?_
      refine lv_iconst (v := 0) hx hb dXT_begin_28 (by decide) ?_
      refine va_put (D := D) (ci := 6) (v := .int 0) (ty := .int) (C := RXT) (T := TXT) (N := 5) hx hb hts (fun w h9 => zc (inXT w h9)) tyXT tyXT_ok nmXT hown hK hP (XD hI _) hS 22 rfl rfl 4 (by decide) (hts _ (zc m_161)) (fun _ h9 => h9) rfl (by decide +kernel) rfl rfl (Nat.le_of_ble_eq_true rfl) dXT_begin_29 (fun H locs hP _ hS => ?_)
      obtain ⟨u3, hP, hf, hg⟩ := zlets (E := (Xs_testing_depth u2 0)) (w := wX k a) (Xp_testing_depth hP) hf hg
      exact W.vret hx hb hr (fun t ht hW => by subst hf; exact ⟨rfl, by rw [ht]; exact hP, hS.F ht⟩) hS.2.2 dXT_begin_32
    · have hf := zn c1 hf
      have hg := zgn c1 hg
      refine lv_aload_n hx hb dXT_begin_9 rfl (lv_at hl 1 rfl) ?_
      refine va_get (D := D) (ci := 6) (v := .ref (a 23)) (C := RXT) (T := TXT) (N := 5) hx hb hts (fun w h9 => zc (inXT w h9)) hown hK hP 22 rfl rfl 0 (by decide) (hts _ (zc m_153)) (fun _ h9 => h9) rfl dXT_begin_10 ?_
      refine lv_iload_n hx hb dXT_begin_13 rfl (lv_at hl 0 rfl) ?_
      refine lv_iconst (v := 0) hx hb dXT_begin_14 (by decide) ?_
      obtain ⟨h4, hg⟩ := hg
      refine va_iast hx hb hK hP (XD hI _) hS 23 0 rfl rfl h4 dXT_begin_15 (fun H locs hP _ hS => ?_)
      obtain ⟨u5, hP, hf, hg⟩ := zlets (E := (Xs_testing_outcome u (upd (Xg_testing_outcome u) (x1.toNatClampNeg) 0))) (w := wX k a) (Xp_testing_outcome hP) hf hg
      refine lv_iinc (v := (x1 + 1)) (lv' := [(1, .int (x1 + 1)), (0, .ref (a 22))]) hx hb dXT_begin_16 hl (k := 0) rfl rfl (by decide) rfl (fun ls hl => ?_)
      refine lv_goto (tgt := 2) hx hb dXT_begin_19 (by decide) ?_
      exact ih u5 (x1 + 1) hf hg _ _ hP hS _ (lv_sub hl [0, 1] rfl)
set_option maxHeartbeats 4000000 in
set_option maxRecDepth 100000 in
theorem tXT_begin (l : Launch) {D : va_G} {k : zK} {a : Nat → Nat} (hI : zI 29 a) (u : XS) (hg : GXT_begin u) : Met l yXT_begin wsXT_begin ({ frames := 0, cells := 0, slots := 0, locals := 0 }) (zPc D k (zA 29 a) (wX k a u) [.ref (a 22)]) (zQv D (wX k a) (zA 29 a) (FXT_begin u)) 0 0 (zA 29 a) := by
  refine Met.ofW (cc := cXT_begin) (maxL := 2) (ret := none) (by decide) rfl ?_
  intro p e s m args below meth c s₁ B hml hv
  obtain ⟨rfl, hP, hE⟩ := hv
  have hts := atoms_spec (ws := wsXT_begin) B.pre
  have C0 : zC p s m _ meth c cXT_begin none 2 RXT wsXT_begin D k (zA 29 a) := ⟨B.exec, B.bytes, B.returns, hml, findClass_of_methodNamed B.named, hts, B.notSynchronized, hE⟩
  obtain ⟨hx, hb, hr, hml, hown, _, hlocks, _⟩ := id C0
  have hK := hE.1
  have hS : va_S (zA 29 a) s.heap s.heap [] := va_S.rf
  generalize hf : FXT_begin u = tgt
  change ((LXT_begin_2 1000 u 0) : XS) = tgt at hf
  change (MXT_begin_2 1000 u 0) at hg
  have hl := lv_entry ([.ref (a 22)]) (n := 2) (Nat.le_of_ble_eq_true rfl)
  rw [lg_entry_eq]
  generalize (lg_sl ([.ref (a 22)]) ++ List.replicate (2 - (lg_sl ([.ref (a 22)])).length) Slot.unset).toArray = ls at hl ⊢
  have hl : lv_has ls 2 [(0, .ref (a 22))] := hl
  refine lv_iconst (v := 0) hx hb dXT_begin_0 (by decide) ?_
  refine lv_istore_n (lv' := [(1, .int 0), (0, .ref (a 22))]) hx hb dXT_begin_1 rfl hl (by decide) rfl (fun ls hl => ?_)
  exact kXT_begin_2 hI C0 (tgt := tgt) 1000 u 0 hf hg _ _ hP hS _ (lv_sub hl [0, 1] rfl)
theorem dXT_open_0 : decode cXT_open 0 = .ok (.aload_n 0, 1) := by decide +kernel
theorem dXT_open_1 : decode cXT_open 1 = .ok (.getfield 25, 3) := by decide +kernel
theorem dXT_open_4 : decode cXT_open 4 = .ok (.sipush 200, 3) := by decide +kernel
theorem dXT_open_7 : decode cXT_open 7 = .ok (.if_icmp .ge 23, 3) := by decide +kernel
theorem dXT_open_10 : decode cXT_open 10 = .ok (.aload_n 0, 1) := by decide +kernel
theorem dXT_open_11 : decode cXT_open 11 = .ok (.getfield 18, 3) := by decide +kernel
theorem dXT_open_14 : decode cXT_open 14 = .ok (.aload_n 0, 1) := by decide +kernel
theorem dXT_open_15 : decode cXT_open 15 = .ok (.getfield 25, 3) := by decide +kernel
theorem dXT_open_18 : decode cXT_open 18 = .ok (.iload_n 1, 1) := by decide +kernel
theorem dXT_open_19 : decode cXT_open 19 = .ok (.iastore, 1) := by decide +kernel
theorem dXT_open_20 : decode cXT_open 20 = .ok (.aload_n 0, 1) := by decide +kernel
theorem dXT_open_21 : decode cXT_open 21 = .ok (.dup, 1) := by decide +kernel
theorem dXT_open_22 : decode cXT_open 22 = .ok (.getfield 25, 3) := by decide +kernel
theorem dXT_open_25 : decode cXT_open 25 = .ok (.iconst 1, 1) := by decide +kernel
theorem dXT_open_26 : decode cXT_open 26 = .ok (.iadd, 1) := by decide +kernel
theorem dXT_open_27 : decode cXT_open 27 = .ok (.putfield 25, 3) := by decide +kernel
theorem dXT_open_30 : decode cXT_open 30 = .ok (.return_, 1) := by decide +kernel
abbrev wsXT_open : List Cond := Cond.code yXT_open cXT_open 2 none :: zWords
def FXT_open (u : XS) (p0 : Int32) : XS := (if (200 : Int32) ≤ (Xg_testing_depth u) then u else (zlet (Xs_testing_waiting u (upd (Xg_testing_waiting u) ((Xg_testing_depth u).toNatClampNeg) p0)) (fun u3 => (zlet (Xs_testing_depth u3 ((Xg_testing_depth u3) + 1)) (fun u4 => u4)))))
def GXT_open (u : XS) (p0 : Int32) : Prop := (if (200 : Int32) ≤ (Xg_testing_depth u) then True else (vp_in (Xg_testing_depth u) 200 ∧ (zlet (Xs_testing_waiting u (upd (Xg_testing_waiting u) ((Xg_testing_depth u).toNatClampNeg) p0)) (fun u3 => (zlet (Xs_testing_depth u3 ((Xg_testing_depth u3) + 1)) (fun u4 => True))))))
set_option maxHeartbeats 4000000 in
set_option maxRecDepth 100000 in
theorem tXT_open (l : Launch) {D : va_G} {k : zK} {a : Nat → Nat} (hI : zI 29 a) (u : XS) (p0 : Int32) (hg : GXT_open u p0) : Met l yXT_open wsXT_open ({ frames := 0, cells := 0, slots := 0, locals := 0 }) (zPc D k (zA 29 a) (wX k a u) [.ref (a 22), .int p0]) (zQv D (wX k a) (zA 29 a) (FXT_open u p0)) 0 0 (zA 29 a) := by
  refine Met.ofW (cc := cXT_open) (maxL := 2) (ret := none) (by decide) rfl ?_
  intro p e s m args below meth c s₁ B hml hv
  obtain ⟨rfl, hP, hE⟩ := hv
  have hts := atoms_spec (ws := wsXT_open) B.pre
  have C0 : zC p s m _ meth c cXT_open none 2 RXT wsXT_open D k (zA 29 a) := ⟨B.exec, B.bytes, B.returns, hml, findClass_of_methodNamed B.named, hts, B.notSynchronized, hE⟩
  obtain ⟨hx, hb, hr, hml, hown, _, hlocks, _⟩ := id C0
  have hK := hE.1
  have hS : va_S (zA 29 a) s.heap s.heap [] := va_S.rf
  generalize hf : FXT_open u p0 = tgt
  change ((if (200 : Int32) ≤ (Xg_testing_depth u) then u else (zlet (Xs_testing_waiting u (upd (Xg_testing_waiting u) ((Xg_testing_depth u).toNatClampNeg) p0)) (fun u3 => (zlet (Xs_testing_depth u3 ((Xg_testing_depth u3) + 1)) (fun u4 => u4))))) : XS) = tgt at hf
  change (if (200 : Int32) ≤ (Xg_testing_depth u) then True else (vp_in (Xg_testing_depth u) 200 ∧ (zlet (Xs_testing_waiting u (upd (Xg_testing_waiting u) ((Xg_testing_depth u).toNatClampNeg) p0)) (fun u3 => (zlet (Xs_testing_depth u3 ((Xg_testing_depth u3) + 1)) (fun u4 => True)))))) at hg
  have hl := lv_entry ([.ref (a 22), .int p0]) (n := 2) (Nat.le_of_ble_eq_true rfl)
  rw [lg_entry_eq]
  generalize (lg_sl ([.ref (a 22), .int p0]) ++ List.replicate (2 - (lg_sl ([.ref (a 22), .int p0])).length) Slot.unset).toArray = ls at hl ⊢
  have hl : lv_has ls 2 [(0, .ref (a 22)), (1, .int p0)] := hl
  refine lv_aload_n hx hb dXT_open_0 rfl (lv_at hl 0 rfl) ?_
  refine va_get (D := D) (ci := 6) (v := .int (Xg_testing_depth u)) (C := RXT) (T := TXT) (N := 5) hx hb hts (fun w h9 => zc (inXT w h9)) hown hK hP 22 rfl rfl 4 (by decide) (hts _ (zc m_161)) (fun _ h9 => h9) rfl dXT_open_1 ?_
  refine lv_sipush (v := 200) hx hb dXT_open_4 (by decide) ?_
  refine lv_icmp_ge (tgt := 30) hx hb dXT_open_7 (by decide) (fun c1 => ?_) (fun c1 => ?_)
  · have hf := zt c1 hf
    have hg := zgt c1 hg
    exact W.vret hx hb hr (fun t ht hW => by subst hf; exact ⟨rfl, by rw [ht]; exact hP, hS.F ht⟩) hS.2.2 dXT_open_30
  · have hf := zn c1 hf
    have hg := zgn c1 hg
    refine lv_aload_n hx hb dXT_open_10 rfl (lv_at hl 0 rfl) ?_
    refine va_get (D := D) (ci := 6) (v := .ref (a 25)) (C := RXT) (T := TXT) (N := 5) hx hb hts (fun w h9 => zc (inXT w h9)) hown hK hP 22 rfl rfl 2 (by decide) (hts _ (zc m_157)) (fun _ h9 => h9) rfl dXT_open_11 ?_
    refine lv_aload_n hx hb dXT_open_14 rfl (lv_at hl 0 rfl) ?_
    refine va_get (D := D) (ci := 6) (v := .int (Xg_testing_depth u)) (C := RXT) (T := TXT) (N := 5) hx hb hts (fun w h9 => zc (inXT w h9)) hown hK hP 22 rfl rfl 4 (by decide) (hts _ (zc m_161)) (fun _ h9 => h9) rfl dXT_open_15 ?_
    refine lv_iload_n hx hb dXT_open_18 rfl (lv_at hl 1 rfl) ?_
    obtain ⟨h2, hg⟩ := hg
    refine va_iast hx hb hK hP (XD hI _) hS 25 0 rfl rfl h2 dXT_open_19 (fun H locs hP _ hS => ?_)
    obtain ⟨u3, hP, hf, hg⟩ := zlets (E := (Xs_testing_waiting u (upd (Xg_testing_waiting u) ((Xg_testing_depth u).toNatClampNeg) p0))) (w := wX k a) (Xp_testing_waiting hP) hf hg
    refine lv_aload_n hx hb dXT_open_20 rfl (lv_at hl 0 rfl) ?_
    refine lv_dup hx hb dXT_open_21 rfl ?_
    refine va_get (D := D) (ci := 6) (v := .int (Xg_testing_depth u3)) (C := RXT) (T := TXT) (N := 5) hx hb hts (fun w h9 => zc (inXT w h9)) hown hK hP 22 rfl rfl 4 (by decide) (hts _ (zc m_161)) (fun _ h9 => h9) rfl dXT_open_22 ?_
    refine lv_iconst (v := 1) hx hb dXT_open_25 (by decide) ?_
    refine lv_iadd hx hb dXT_open_26 ?_
    refine va_put (D := D) (ci := 6) (v := .int ((Xg_testing_depth u3) + 1)) (ty := .int) (C := RXT) (T := TXT) (N := 5) hx hb hts (fun w h9 => zc (inXT w h9)) tyXT tyXT_ok nmXT hown hK hP (XD hI _) hS 22 rfl rfl 4 (by decide) (hts _ (zc m_161)) (fun _ h9 => h9) rfl (by decide +kernel) rfl rfl (Nat.le_of_ble_eq_true rfl) dXT_open_27 (fun H locs hP _ hS => ?_)
    obtain ⟨u4, hP, hf, hg⟩ := zlets (E := (Xs_testing_depth u3 ((Xg_testing_depth u3) + 1))) (w := wX k a) (Xp_testing_depth hP) hf hg
    exact W.vret hx hb hr (fun t ht hW => by subst hf; exact ⟨rfl, by rw [ht]; exact hP, hS.F ht⟩) hS.2.2 dXT_open_30
theorem dX_settledBy_0 : decode cX_settledBy 0 = .ok (.iload_n 0, 1) := by decide +kernel
theorem dX_settledBy_1 : decode cX_settledBy 1 = .ok (.bipush 11, 2) := by decide +kernel
theorem dX_settledBy_3 : decode cX_settledBy 3 = .ok (.if_icmp .ne 7, 3) := by decide +kernel
theorem dX_settledBy_6 : decode cX_settledBy 6 = .ok (.iconst 1, 1) := by decide +kernel
theorem dX_settledBy_7 : decode cX_settledBy 7 = .ok (.goto 4, 3) := by decide +kernel
theorem dX_settledBy_10 : decode cX_settledBy 10 = .ok (.iconst 2, 1) := by decide +kernel
theorem dX_settledBy_11 : decode cX_settledBy 11 = .ok (.ireturn, 1) := by decide +kernel
abbrev wsX_settledBy : List Cond := Cond.code yX_settledBy cX_settledBy 1 (some .int) :: zWords
def FX_settledBy (u : XS) (p0 : Int32) : Int32 := (if p0 = 11 then 1 else 2)
set_option maxHeartbeats 4000000 in
set_option maxRecDepth 100000 in
theorem tX_settledBy (l : Launch) {D : va_G} {k : zK} {a : Nat → Nat} (hI : zI 29 a) (u : XS) (p0 : Int32) : Met l yX_settledBy wsX_settledBy ({ frames := 0, cells := 0, slots := 0, locals := 0 }) (zPc D k (zA 29 a) (wX k a u) [.int p0]) (vp_Si (fun r9 => r9 = (FX_settledBy u p0))) 0 0 (fun _ => False) := by
  refine Met.ofW (cc := cX_settledBy) (maxL := 1) (ret := (some .int)) (by decide) rfl ?_
  intro p e s m args below meth c s₁ B hml hv
  obtain ⟨rfl, hP, hE⟩ := hv
  have hts := atoms_spec (ws := wsX_settledBy) B.pre
  have C0 : zC p s m _ meth c cX_settledBy (some .int) 1 RX wsX_settledBy D k (zA 29 a) := ⟨B.exec, B.bytes, B.returns, hml, findClass_of_methodNamed B.named, hts, B.notSynchronized, hE⟩
  obtain ⟨hx, hb, hr, hml, hown, _, hlocks, _⟩ := id C0
  have hK := hE.1
  have hS : va_S (zA 29 a) s.heap s.heap [] := va_S.rf
  generalize hf : FX_settledBy u p0 = tgt
  change ((if p0 = 11 then 1 else 2) : Int32) = tgt at hf
  have hl := lv_entry ([.int p0]) (n := 1) (Nat.le_of_ble_eq_true rfl)
  rw [lg_entry_eq]
  generalize (lg_sl ([.int p0]) ++ List.replicate (1 - (lg_sl ([.int p0])).length) Slot.unset).toArray = ls at hl ⊢
  have hl : lv_has ls 1 [(0, .int p0)] := hl
  refine lv_iload_n hx hb dX_settledBy_0 rfl (lv_at hl 0 rfl) ?_
  refine lv_bipush (v := 11) hx hb dX_settledBy_1 (by decide) ?_
  refine lv_icmp_ne (tgt := 10) hx hb dX_settledBy_3 (by decide) (fun c1 => ?_) (fun c1 => ?_)
  · have hf := zn c1 hf
    refine lv_iconst (v := 2) hx hb dX_settledBy_10 (by decide) ?_
    exact W.iret (v := 2) hx hb hr (fun t ht hW => ⟨_, rfl, hf, ht⟩) (fun _ h9 => nomatch h9) dX_settledBy_11
  · have hf := zt c1 hf
    refine lv_iconst (v := 1) hx hb dX_settledBy_6 (by decide) ?_
    refine lv_goto (tgt := 11) hx hb dX_settledBy_7 (by decide) ?_
    exact W.iret (v := 1) hx hb hr (fun t ht hW => ⟨_, rfl, hf, ht⟩) (fun _ h9 => nomatch h9) dX_settledBy_11
theorem dX_partToTest_0 : decode cX_partToTest 0 = .ok (.aload_n 0, 1) := by decide +kernel
theorem dX_partToTest_1 : decode cX_partToTest 1 = .ok (.getfield 33, 3) := by decide +kernel
theorem dX_partToTest_4 : decode cX_partToTest 4 = .ok (.getfield 238, 3) := by decide +kernel
theorem dX_partToTest_7 : decode cX_partToTest 7 = .ok (.iload_n 1, 1) := by decide +kernel
theorem dX_partToTest_8 : decode cX_partToTest 8 = .ok (.iaload, 1) := by decide +kernel
theorem dX_partToTest_9 : decode cX_partToTest 9 = .ok (.bipush 10, 2) := by decide +kernel
theorem dX_partToTest_11 : decode cX_partToTest 11 = .ok (.if_icmp .ge 5, 3) := by decide +kernel
theorem dX_partToTest_14 : decode cX_partToTest 14 = .ok (.iconst 0, 1) := by decide +kernel
theorem dX_partToTest_15 : decode cX_partToTest 15 = .ok (.ireturn, 1) := by decide +kernel
theorem dX_partToTest_16 : decode cX_partToTest 16 = .ok (.aload_n 0, 1) := by decide +kernel
theorem dX_partToTest_17 : decode cX_partToTest 17 = .ok (.getfield 33, 3) := by decide +kernel
theorem dX_partToTest_20 : decode cX_partToTest 20 = .ok (.getfield 251, 3) := by decide +kernel
theorem dX_partToTest_23 : decode cX_partToTest 23 = .ok (.iload_n 1, 1) := by decide +kernel
theorem dX_partToTest_24 : decode cX_partToTest 24 = .ok (.iaload, 1) := by decide +kernel
theorem dX_partToTest_25 : decode cX_partToTest 25 = .ok (.istore_n 2, 1) := by decide +kernel
theorem dX_partToTest_26 : decode cX_partToTest 26 = .ok (.aload_n 0, 1) := by decide +kernel
theorem dX_partToTest_27 : decode cX_partToTest 27 = .ok (.getfield 47, 3) := by decide +kernel
theorem dX_partToTest_30 : decode cX_partToTest 30 = .ok (.getfield 248, 3) := by decide +kernel
theorem dX_partToTest_33 : decode cX_partToTest 33 = .ok (.iload_n 2, 1) := by decide +kernel
theorem dX_partToTest_34 : decode cX_partToTest 34 = .ok (.iaload, 1) := by decide +kernel
theorem dX_partToTest_35 : decode cX_partToTest 35 = .ok (.ifCond .ne 5, 3) := by decide +kernel
theorem dX_partToTest_38 : decode cX_partToTest 38 = .ok (.iload_n 2, 1) := by decide +kernel
theorem dX_partToTest_39 : decode cX_partToTest 39 = .ok (.ireturn, 1) := by decide +kernel
theorem dX_partToTest_40 : decode cX_partToTest 40 = .ok (.aload_n 0, 1) := by decide +kernel
theorem dX_partToTest_41 : decode cX_partToTest 41 = .ok (.getfield 33, 3) := by decide +kernel
theorem dX_partToTest_44 : decode cX_partToTest 44 = .ok (.getfield 238, 3) := by decide +kernel
theorem dX_partToTest_47 : decode cX_partToTest 47 = .ok (.iload_n 1, 1) := by decide +kernel
theorem dX_partToTest_48 : decode cX_partToTest 48 = .ok (.iaload, 1) := by decide +kernel
theorem dX_partToTest_49 : decode cX_partToTest 49 = .ok (.bipush 10, 2) := by decide +kernel
theorem dX_partToTest_51 : decode cX_partToTest 51 = .ok (.if_icmp .ne 5, 3) := by decide +kernel
theorem dX_partToTest_54 : decode cX_partToTest 54 = .ok (.iconst 0, 1) := by decide +kernel
theorem dX_partToTest_55 : decode cX_partToTest 55 = .ok (.ireturn, 1) := by decide +kernel
theorem dX_partToTest_56 : decode cX_partToTest 56 = .ok (.aload_n 0, 1) := by decide +kernel
theorem dX_partToTest_57 : decode cX_partToTest 57 = .ok (.getfield 33, 3) := by decide +kernel
theorem dX_partToTest_60 : decode cX_partToTest 60 = .ok (.getfield 254, 3) := by decide +kernel
theorem dX_partToTest_63 : decode cX_partToTest 63 = .ok (.iload_n 1, 1) := by decide +kernel
theorem dX_partToTest_64 : decode cX_partToTest 64 = .ok (.iaload, 1) := by decide +kernel
theorem dX_partToTest_65 : decode cX_partToTest 65 = .ok (.istore_n 3, 1) := by decide +kernel
theorem dX_partToTest_66 : decode cX_partToTest 66 = .ok (.aload_n 0, 1) := by decide +kernel
theorem dX_partToTest_67 : decode cX_partToTest 67 = .ok (.getfield 47, 3) := by decide +kernel
theorem dX_partToTest_70 : decode cX_partToTest 70 = .ok (.getfield 248, 3) := by decide +kernel
theorem dX_partToTest_73 : decode cX_partToTest 73 = .ok (.iload_n 3, 1) := by decide +kernel
theorem dX_partToTest_74 : decode cX_partToTest 74 = .ok (.iaload, 1) := by decide +kernel
theorem dX_partToTest_75 : decode cX_partToTest 75 = .ok (.ifCond .eq 5, 3) := by decide +kernel
theorem dX_partToTest_78 : decode cX_partToTest 78 = .ok (.iconst 0, 1) := by decide +kernel
theorem dX_partToTest_79 : decode cX_partToTest 79 = .ok (.ireturn, 1) := by decide +kernel
theorem dX_partToTest_80 : decode cX_partToTest 80 = .ok (.aload_n 0, 1) := by decide +kernel
theorem dX_partToTest_81 : decode cX_partToTest 81 = .ok (.getfield 62, 3) := by decide +kernel
theorem dX_partToTest_84 : decode cX_partToTest 84 = .ok (.ifCond .ne 27, 3) := by decide +kernel
theorem dX_partToTest_87 : decode cX_partToTest 87 = .ok (.aload_n 0, 1) := by decide +kernel
theorem dX_partToTest_88 : decode cX_partToTest 88 = .ok (.getfield 47, 3) := by decide +kernel
theorem dX_partToTest_91 : decode cX_partToTest 91 = .ok (.getfield 248, 3) := by decide +kernel
theorem dX_partToTest_94 : decode cX_partToTest 94 = .ok (.iload_n 2, 1) := by decide +kernel
theorem dX_partToTest_95 : decode cX_partToTest 95 = .ok (.iaload, 1) := by decide +kernel
theorem dX_partToTest_96 : decode cX_partToTest 96 = .ok (.aload_n 0, 1) := by decide +kernel
theorem dX_partToTest_97 : decode cX_partToTest 97 = .ok (.getfield 33, 3) := by decide +kernel
theorem dX_partToTest_100 : decode cX_partToTest 100 = .ok (.getfield 238, 3) := by decide +kernel
theorem dX_partToTest_103 : decode cX_partToTest 103 = .ok (.iload_n 1, 1) := by decide +kernel
theorem dX_partToTest_104 : decode cX_partToTest 104 = .ok (.iaload, 1) := by decide +kernel
theorem dX_partToTest_105 : decode cX_partToTest 105 = .ok (.invokestatic 257, 3) := by decide +kernel
theorem dX_partToTest_108 : decode cX_partToTest 108 = .ok (.if_icmp .eq 7, 3) := by decide +kernel
theorem dX_partToTest_111 : decode cX_partToTest 111 = .ok (.iload_n 3, 1) := by decide +kernel
theorem dX_partToTest_112 : decode cX_partToTest 112 = .ok (.goto 4, 3) := by decide +kernel
theorem dX_partToTest_115 : decode cX_partToTest 115 = .ok (.iconst 0, 1) := by decide +kernel
theorem dX_partToTest_116 : decode cX_partToTest 116 = .ok (.ireturn, 1) := by decide +kernel
abbrev wsX_partToTest : List Cond := Cond.code yX_partToTest cX_partToTest 4 (some .int) :: zWords
def FX_partToTest (u : XS) (p0 : Int32) : Int32 := (if (10 : Int32) ≤ ((Xg_nodes_op u) p0.toNatClampNeg) then (if ((Xg_testing_outcome u) ((Xg_nodes_a u) p0.toNatClampNeg).toNatClampNeg) = 0 then ((Xg_nodes_a u) p0.toNatClampNeg) else (if ((Xg_nodes_op u) p0.toNatClampNeg) = 10 then 0 else (if ((Xg_testing_outcome u) ((Xg_nodes_b u) p0.toNatClampNeg).toNatClampNeg) = 0 then (if (Xg_whole u) = 0 then (if ((Xg_testing_outcome u) ((Xg_nodes_a u) p0.toNatClampNeg).toNatClampNeg) = (FX_settledBy u ((Xg_nodes_op u) p0.toNatClampNeg)) then 0 else ((Xg_nodes_b u) p0.toNatClampNeg)) else ((Xg_nodes_b u) p0.toNatClampNeg)) else 0))) else 0)
def GX_partToTest (u : XS) (p0 : Int32) : Prop := (vp_in p0 201 ∧ (if (10 : Int32) ≤ ((Xg_nodes_op u) p0.toNatClampNeg) then (vp_in p0 201 ∧ (vp_in ((Xg_nodes_a u) p0.toNatClampNeg) 201 ∧ (if ((Xg_testing_outcome u) ((Xg_nodes_a u) p0.toNatClampNeg).toNatClampNeg) = 0 then True else (vp_in p0 201 ∧ (if ((Xg_nodes_op u) p0.toNatClampNeg) = 10 then True else (vp_in p0 201 ∧ (vp_in ((Xg_nodes_b u) p0.toNatClampNeg) 201 ∧ (if ((Xg_testing_outcome u) ((Xg_nodes_b u) p0.toNatClampNeg).toNatClampNeg) = 0 then (if (Xg_whole u) = 0 then (vp_in ((Xg_nodes_a u) p0.toNatClampNeg) 201 ∧ (vp_in p0 201 ∧ True)) else True) else True)))))))) else True))
set_option maxHeartbeats 4000000 in
set_option maxRecDepth 100000 in
theorem tX_partToTest (l : Launch) {D : va_G} {k : zK} {a : Nat → Nat} (hI : zI 29 a) (u : XS) (p0 : Int32) (hg : GX_partToTest u p0) : Met l yX_partToTest wsX_partToTest ({ frames := 1, cells := 0, slots := 0, locals := 20 }) (zPc D k (zA 29 a) (wX k a u) [.ref (a 0), .int p0]) (vp_Si (fun r9 => r9 = (FX_partToTest u p0))) 0 0 (fun _ => False) := by
  refine Met.ofW (cc := cX_partToTest) (maxL := 4) (ret := (some .int)) (by decide) rfl ?_
  intro p e s m args below meth c s₁ B hml hv
  obtain ⟨rfl, hP, hE⟩ := hv
  have hts := atoms_spec (ws := wsX_partToTest) B.pre
  have C0 : zC p s m _ meth c cX_partToTest (some .int) 4 RX wsX_partToTest D k (zA 29 a) := ⟨B.exec, B.bytes, B.returns, hml, findClass_of_methodNamed B.named, hts, B.notSynchronized, hE⟩
  obtain ⟨hx, hb, hr, hml, hown, _, hlocks, _⟩ := id C0
  have hK := hE.1
  have hS : va_S (zA 29 a) s.heap s.heap [] := va_S.rf
  generalize hf : FX_partToTest u p0 = tgt
  change ((if (10 : Int32) ≤ ((Xg_nodes_op u) p0.toNatClampNeg) then (if ((Xg_testing_outcome u) ((Xg_nodes_a u) p0.toNatClampNeg).toNatClampNeg) = 0 then ((Xg_nodes_a u) p0.toNatClampNeg) else (if ((Xg_nodes_op u) p0.toNatClampNeg) = 10 then 0 else (if ((Xg_testing_outcome u) ((Xg_nodes_b u) p0.toNatClampNeg).toNatClampNeg) = 0 then (if (Xg_whole u) = 0 then (if ((Xg_testing_outcome u) ((Xg_nodes_a u) p0.toNatClampNeg).toNatClampNeg) = (FX_settledBy u ((Xg_nodes_op u) p0.toNatClampNeg)) then 0 else ((Xg_nodes_b u) p0.toNatClampNeg)) else ((Xg_nodes_b u) p0.toNatClampNeg)) else 0))) else 0) : Int32) = tgt at hf
  change (vp_in p0 201 ∧ (if (10 : Int32) ≤ ((Xg_nodes_op u) p0.toNatClampNeg) then (vp_in p0 201 ∧ (vp_in ((Xg_nodes_a u) p0.toNatClampNeg) 201 ∧ (if ((Xg_testing_outcome u) ((Xg_nodes_a u) p0.toNatClampNeg).toNatClampNeg) = 0 then True else (vp_in p0 201 ∧ (if ((Xg_nodes_op u) p0.toNatClampNeg) = 10 then True else (vp_in p0 201 ∧ (vp_in ((Xg_nodes_b u) p0.toNatClampNeg) 201 ∧ (if ((Xg_testing_outcome u) ((Xg_nodes_b u) p0.toNatClampNeg).toNatClampNeg) = 0 then (if (Xg_whole u) = 0 then (vp_in ((Xg_nodes_a u) p0.toNatClampNeg) 201 ∧ (vp_in p0 201 ∧ True)) else True) else True)))))))) else True)) at hg
  have hl := lv_entry ([.ref (a 0), .int p0]) (n := 4) (Nat.le_of_ble_eq_true rfl)
  rw [lg_entry_eq]
  generalize (lg_sl ([.ref (a 0), .int p0]) ++ List.replicate (4 - (lg_sl ([.ref (a 0), .int p0])).length) Slot.unset).toArray = ls at hl ⊢
  have hl : lv_has ls 4 [(0, .ref (a 0)), (1, .int p0)] := hl
  refine lv_aload_n hx hb dX_partToTest_0 rfl (lv_at hl 0 rfl) ?_
  refine va_get (D := D) (ci := 0) (v := .ref (a 13)) (C := RX) (T := TX) (N := 10) hx hb hts (fun w h9 => zc (inX w h9)) hown hK hP 0 rfl rfl 4 (by decide) (hts _ (zc m_178)) (fun _ h9 => h9) rfl dX_partToTest_1 ?_
  refine va_getN (D := D) (ci := 4) (v := .ref (a 14)) (C := RXO) (T := TXO) (N := 4) hx hb hts (fun w h9 => zc (inXO w h9)) hown hK hP 13 rfl rfl 0 (by decide) (va_Nw.use rfl (hE.2.1 _ zn_10)) (fun _ h9 => h9) rfl dX_partToTest_4 ?_
  refine lv_iload_n hx hb dX_partToTest_7 rfl (lv_at hl 1 rfl) ?_
  obtain ⟨h1, hg⟩ := hg
  refine va_iald hx hb hK hP 14 0 rfl rfl h1 dX_partToTest_8 ?_
  refine lv_bipush (v := 10) hx hb dX_partToTest_9 (by decide) ?_
  refine lv_icmp_ge (tgt := 16) hx hb dX_partToTest_11 (by decide) (fun c2 => ?_) (fun c2 => ?_)
  · have hf := zt c2 hf
    have hg := zgt c2 hg
    refine lv_aload_n hx hb dX_partToTest_16 rfl (lv_at hl 0 rfl) ?_
    refine va_get (D := D) (ci := 0) (v := .ref (a 13)) (C := RX) (T := TX) (N := 10) hx hb hts (fun w h9 => zc (inX w h9)) hown hK hP 0 rfl rfl 4 (by decide) (hts _ (zc m_178)) (fun _ h9 => h9) rfl dX_partToTest_17 ?_
    refine va_getN (D := D) (ci := 4) (v := .ref (a 15)) (C := RXO) (T := TXO) (N := 4) hx hb hts (fun w h9 => zc (inXO w h9)) hown hK hP 13 rfl rfl 1 (by decide) (va_Nw.use rfl (hE.2.1 _ zn_11)) (fun _ h9 => h9) rfl dX_partToTest_20 ?_
    refine lv_iload_n hx hb dX_partToTest_23 rfl (lv_at hl 1 rfl) ?_
    obtain ⟨h3, hg⟩ := hg
    refine va_iald hx hb hK hP 15 0 rfl rfl h3 dX_partToTest_24 ?_
    refine lv_istore_n (lv' := [(2, .int ((Xg_nodes_a u) p0.toNatClampNeg)), (0, .ref (a 0)), (1, .int p0)]) hx hb dX_partToTest_25 rfl hl (by decide) rfl (fun ls hl => ?_)
    refine lv_aload_n hx hb dX_partToTest_26 rfl (lv_at hl 1 rfl) ?_
    refine va_get (D := D) (ci := 0) (v := .ref (a 22)) (C := RX) (T := TX) (N := 10) hx hb hts (fun w h9 => zc (inX w h9)) hown hK hP 0 rfl rfl 6 (by decide) (hts _ (zc m_180)) (fun _ h9 => h9) rfl dX_partToTest_27 ?_
    refine va_getN (D := D) (ci := 6) (v := .ref (a 23)) (C := RXT) (T := TXT) (N := 5) hx hb hts (fun w h9 => zc (inXT w h9)) hown hK hP 22 rfl rfl 0 (by decide) (va_Nw.use rfl (hE.2.1 _ zn_23)) (fun _ h9 => h9) rfl dX_partToTest_30 ?_
    refine lv_iload_n hx hb dX_partToTest_33 rfl (lv_at hl 0 rfl) ?_
    obtain ⟨h4, hg⟩ := hg
    refine va_iald hx hb hK hP 23 0 rfl rfl h4 dX_partToTest_34 ?_
    refine lv_if_ne (tgt := 40) hx hb dX_partToTest_35 (by decide) (fun c5 => ?_) (fun c5 => ?_)
    · have hf := zn c5 hf
      have hg := zgn c5 hg
      refine lv_aload_n hx hb dX_partToTest_40 rfl (lv_at hl 1 rfl) ?_
      refine va_get (D := D) (ci := 0) (v := .ref (a 13)) (C := RX) (T := TX) (N := 10) hx hb hts (fun w h9 => zc (inX w h9)) hown hK hP 0 rfl rfl 4 (by decide) (hts _ (zc m_178)) (fun _ h9 => h9) rfl dX_partToTest_41 ?_
      refine va_getN (D := D) (ci := 4) (v := .ref (a 14)) (C := RXO) (T := TXO) (N := 4) hx hb hts (fun w h9 => zc (inXO w h9)) hown hK hP 13 rfl rfl 0 (by decide) (va_Nw.use rfl (hE.2.1 _ zn_10)) (fun _ h9 => h9) rfl dX_partToTest_44 ?_
      refine lv_iload_n hx hb dX_partToTest_47 rfl (lv_at hl 2 rfl) ?_
      obtain ⟨h6, hg⟩ := hg
      refine va_iald hx hb hK hP 14 0 rfl rfl h6 dX_partToTest_48 ?_
      refine lv_bipush (v := 10) hx hb dX_partToTest_49 (by decide) ?_
      refine lv_icmp_ne (tgt := 56) hx hb dX_partToTest_51 (by decide) (fun c7 => ?_) (fun c7 => ?_)
      · have hf := zn c7 hf
        have hg := zgn c7 hg
        refine lv_aload_n hx hb dX_partToTest_56 rfl (lv_at hl 1 rfl) ?_
        refine va_get (D := D) (ci := 0) (v := .ref (a 13)) (C := RX) (T := TX) (N := 10) hx hb hts (fun w h9 => zc (inX w h9)) hown hK hP 0 rfl rfl 4 (by decide) (hts _ (zc m_178)) (fun _ h9 => h9) rfl dX_partToTest_57 ?_
        refine va_getN (D := D) (ci := 4) (v := .ref (a 16)) (C := RXO) (T := TXO) (N := 4) hx hb hts (fun w h9 => zc (inXO w h9)) hown hK hP 13 rfl rfl 2 (by decide) (va_Nw.use rfl (hE.2.1 _ zn_12)) (fun _ h9 => h9) rfl dX_partToTest_60 ?_
        refine lv_iload_n hx hb dX_partToTest_63 rfl (lv_at hl 2 rfl) ?_
        obtain ⟨h8, hg⟩ := hg
        refine va_iald hx hb hK hP 16 0 rfl rfl h8 dX_partToTest_64 ?_
        refine lv_istore_n (lv' := [(3, .int ((Xg_nodes_b u) p0.toNatClampNeg)), (2, .int ((Xg_nodes_a u) p0.toNatClampNeg)), (0, .ref (a 0)), (1, .int p0)]) hx hb dX_partToTest_65 rfl hl (by decide) rfl (fun ls hl => ?_)
        refine lv_aload_n hx hb dX_partToTest_66 rfl (lv_at hl 2 rfl) ?_
        refine va_get (D := D) (ci := 0) (v := .ref (a 22)) (C := RX) (T := TX) (N := 10) hx hb hts (fun w h9 => zc (inX w h9)) hown hK hP 0 rfl rfl 6 (by decide) (hts _ (zc m_180)) (fun _ h9 => h9) rfl dX_partToTest_67 ?_
        refine va_getN (D := D) (ci := 6) (v := .ref (a 23)) (C := RXT) (T := TXT) (N := 5) hx hb hts (fun w h9 => zc (inXT w h9)) hown hK hP 22 rfl rfl 0 (by decide) (va_Nw.use rfl (hE.2.1 _ zn_23)) (fun _ h9 => h9) rfl dX_partToTest_70 ?_
        refine lv_iload_n hx hb dX_partToTest_73 rfl (lv_at hl 0 rfl) ?_
        obtain ⟨h9, hg⟩ := hg
        refine va_iald hx hb hK hP 23 0 rfl rfl h9 dX_partToTest_74 ?_
        refine lv_if_eq (tgt := 80) hx hb dX_partToTest_75 (by decide) (fun c10 => ?_) (fun c10 => ?_)
        · have hf := zt c10 hf
          have hg := zgt c10 hg
          refine lv_aload_n hx hb dX_partToTest_80 rfl (lv_at hl 2 rfl) ?_
          refine va_get (D := D) (ci := 0) (v := .int (Xg_whole u)) (C := RX) (T := TX) (N := 10) hx hb hts (fun w h9 => zc (inX w h9)) hown hK hP 0 rfl rfl 0 (by decide) (hts _ (zc m_174)) (fun _ h9 => h9) rfl dX_partToTest_81 ?_
          refine lv_if_ne (tgt := 111) hx hb dX_partToTest_84 (by decide) (fun c11 => ?_) (fun c11 => ?_)
          · have hf := zn c11 hf
            have hg := zgn c11 hg
            refine lv_iload_n hx hb dX_partToTest_111 rfl (lv_at hl 0 rfl) ?_
            refine lv_goto (tgt := 116) hx hb dX_partToTest_112 (by decide) ?_
            exact W.iret (v := ((Xg_nodes_b u) p0.toNatClampNeg)) hx hb hr (fun t ht hW => ⟨_, rfl, hf, ht⟩) (fun _ h9 => nomatch h9) dX_partToTest_116
          · have hf := zt c11 hf
            have hg := zgt c11 hg
            refine lv_aload_n hx hb dX_partToTest_87 rfl (lv_at hl 2 rfl) ?_
            refine va_get (D := D) (ci := 0) (v := .ref (a 22)) (C := RX) (T := TX) (N := 10) hx hb hts (fun w h9 => zc (inX w h9)) hown hK hP 0 rfl rfl 6 (by decide) (hts _ (zc m_180)) (fun _ h9 => h9) rfl dX_partToTest_88 ?_
            refine va_getN (D := D) (ci := 6) (v := .ref (a 23)) (C := RXT) (T := TXT) (N := 5) hx hb hts (fun w h9 => zc (inXT w h9)) hown hK hP 22 rfl rfl 0 (by decide) (va_Nw.use rfl (hE.2.1 _ zn_23)) (fun _ h9 => h9) rfl dX_partToTest_91 ?_
            refine lv_iload_n hx hb dX_partToTest_94 rfl (lv_at hl 1 rfl) ?_
            obtain ⟨h12, hg⟩ := hg
            refine va_iald hx hb hK hP 23 0 rfl rfl h12 dX_partToTest_95 ?_
            refine lv_aload_n hx hb dX_partToTest_96 rfl (lv_at hl 2 rfl) ?_
            refine va_get (D := D) (ci := 0) (v := .ref (a 13)) (C := RX) (T := TX) (N := 10) hx hb hts (fun w h9 => zc (inX w h9)) hown hK hP 0 rfl rfl 4 (by decide) (hts _ (zc m_178)) (fun _ h9 => h9) rfl dX_partToTest_97 ?_
            refine va_getN (D := D) (ci := 4) (v := .ref (a 14)) (C := RXO) (T := TXO) (N := 4) hx hb hts (fun w h9 => zc (inXO w h9)) hown hK hP 13 rfl rfl 0 (by decide) (va_Nw.use rfl (hE.2.1 _ zn_10)) (fun _ h9 => h9) rfl dX_partToTest_100 ?_
            refine lv_iload_n hx hb dX_partToTest_103 rfl (lv_at hl 3 rfl) ?_
            obtain ⟨h13, hg⟩ := hg
            refine va_iald hx hb hK hP 14 0 rfl rfl h13 dX_partToTest_104 ?_
            refine vp_callSi (W.runS (As := [.int ((Xg_nodes_op u) p0.toNatClampNeg)]) (rest := [.int ((Xg_testing_outcome u) ((Xg_nodes_a u) p0.toNatClampNeg).toNatClampNeg)]) ⟨hx, hb, hml, hown, hts⟩ (tX_settledBy l hI u ((Xg_nodes_op u) p0.toNatClampNeg)) (va_cwS 1 hts (zgS m_453 m_454 m_1 m_455) rfl rfl rfl (by decide +kernel) ⟨Nat.le_of_ble_eq_true rfl, Nat.le_of_ble_eq_true rfl⟩) (zpreS hP hE hS.2.1) rfl rfl hl.1 rfl (lv_room (Nat.le_of_ble_eq_true rfl)) dX_partToTest_105 ⟨Nat.zero_le _, Nat.zero_le _⟩) (fun r9 hr9 => ?_)
            subst hr9
            refine lv_icmp_eq (tgt := 115) hx hb dX_partToTest_108 (by decide) (fun c14 => ?_) (fun c14 => ?_)
            · have hf := zt c14 hf
              refine lv_iconst (v := 0) hx hb dX_partToTest_115 (by decide) ?_
              exact W.iret (v := 0) hx hb hr (fun t ht hW => ⟨_, rfl, hf, ht⟩) (fun _ h9 => nomatch h9) dX_partToTest_116
            · have hf := zn c14 hf
              refine lv_iload_n hx hb dX_partToTest_111 rfl (lv_at hl 0 rfl) ?_
              refine lv_goto (tgt := 116) hx hb dX_partToTest_112 (by decide) ?_
              exact W.iret (v := ((Xg_nodes_b u) p0.toNatClampNeg)) hx hb hr (fun t ht hW => ⟨_, rfl, hf, ht⟩) (fun _ h9 => nomatch h9) dX_partToTest_116
        · have hf := zn c10 hf
          have hg := zgn c10 hg
          refine lv_iconst (v := 0) hx hb dX_partToTest_78 (by decide) ?_
          exact W.iret (v := 0) hx hb hr (fun t ht hW => ⟨_, rfl, hf, ht⟩) (fun _ h9 => nomatch h9) dX_partToTest_79
      · have hf := zt c7 hf
        have hg := zgt c7 hg
        refine lv_iconst (v := 0) hx hb dX_partToTest_54 (by decide) ?_
        exact W.iret (v := 0) hx hb hr (fun t ht hW => ⟨_, rfl, hf, ht⟩) (fun _ h9 => nomatch h9) dX_partToTest_55
    · have hf := zt c5 hf
      have hg := zgt c5 hg
      refine lv_iload_n hx hb dX_partToTest_38 rfl (lv_at hl 0 rfl) ?_
      exact W.iret (v := ((Xg_nodes_a u) p0.toNatClampNeg)) hx hb hr (fun t ht hW => ⟨_, rfl, hf, ht⟩) (fun _ h9 => nomatch h9) dX_partToTest_39
  · have hf := zn c2 hf
    have hg := zgn c2 hg
    refine lv_iconst (v := 0) hx hb dX_partToTest_14 (by decide) ?_
    exact W.iret (v := 0) hx hb hr (fun t ht hW => ⟨_, rfl, hf, ht⟩) (fun _ h9 => nomatch h9) dX_partToTest_15
theorem dX_asOutcome_0 : decode cX_asOutcome 0 = .ok (.iload_n 0, 1) := by decide +kernel
theorem dX_asOutcome_1 : decode cX_asOutcome 1 = .ok (.ifCond .eq 7, 3) := by decide +kernel
theorem dX_asOutcome_4 : decode cX_asOutcome 4 = .ok (.iconst 2, 1) := by decide +kernel
theorem dX_asOutcome_5 : decode cX_asOutcome 5 = .ok (.goto 4, 3) := by decide +kernel
theorem dX_asOutcome_8 : decode cX_asOutcome 8 = .ok (.iconst 1, 1) := by decide +kernel
theorem dX_asOutcome_9 : decode cX_asOutcome 9 = .ok (.ireturn, 1) := by decide +kernel
abbrev wsX_asOutcome : List Cond := Cond.code yX_asOutcome cX_asOutcome 1 (some .int) :: zWords
def FX_asOutcome (u : XS) (p0 : Int32) : Int32 := (if p0 = 0 then 1 else 2)
set_option maxHeartbeats 4000000 in
set_option maxRecDepth 100000 in
theorem tX_asOutcome (l : Launch) {D : va_G} {k : zK} {a : Nat → Nat} (hI : zI 29 a) (u : XS) (p0 : Int32) : Met l yX_asOutcome wsX_asOutcome ({ frames := 0, cells := 0, slots := 0, locals := 0 }) (zPc D k (zA 29 a) (wX k a u) [.int p0]) (vp_Si (fun r9 => r9 = (FX_asOutcome u p0))) 0 0 (fun _ => False) := by
  refine Met.ofW (cc := cX_asOutcome) (maxL := 1) (ret := (some .int)) (by decide) rfl ?_
  intro p e s m args below meth c s₁ B hml hv
  obtain ⟨rfl, hP, hE⟩ := hv
  have hts := atoms_spec (ws := wsX_asOutcome) B.pre
  have C0 : zC p s m _ meth c cX_asOutcome (some .int) 1 RX wsX_asOutcome D k (zA 29 a) := ⟨B.exec, B.bytes, B.returns, hml, findClass_of_methodNamed B.named, hts, B.notSynchronized, hE⟩
  obtain ⟨hx, hb, hr, hml, hown, _, hlocks, _⟩ := id C0
  have hK := hE.1
  have hS : va_S (zA 29 a) s.heap s.heap [] := va_S.rf
  generalize hf : FX_asOutcome u p0 = tgt
  change ((if p0 = 0 then 1 else 2) : Int32) = tgt at hf
  have hl := lv_entry ([.int p0]) (n := 1) (Nat.le_of_ble_eq_true rfl)
  rw [lg_entry_eq]
  generalize (lg_sl ([.int p0]) ++ List.replicate (1 - (lg_sl ([.int p0])).length) Slot.unset).toArray = ls at hl ⊢
  have hl : lv_has ls 1 [(0, .int p0)] := hl
  refine lv_iload_n hx hb dX_asOutcome_0 rfl (lv_at hl 0 rfl) ?_
  refine lv_if_eq (tgt := 8) hx hb dX_asOutcome_1 (by decide) (fun c1 => ?_) (fun c1 => ?_)
  · have hf := zt c1 hf
    refine lv_iconst (v := 1) hx hb dX_asOutcome_8 (by decide) ?_
    exact W.iret (v := 1) hx hb hr (fun t ht hW => ⟨_, rfl, hf, ht⟩) (fun _ h9 => nomatch h9) dX_asOutcome_9
  · have hf := zn c1 hf
    refine lv_iconst (v := 2) hx hb dX_asOutcome_4 (by decide) ?_
    refine lv_goto (tgt := 9) hx hb dX_asOutcome_5 (by decide) ?_
    exact W.iret (v := 2) hx hb hr (fun t ht hW => ⟨_, rfl, hf, ht⟩) (fun _ h9 => nomatch h9) dX_asOutcome_9
theorem dX_joinedOutcome_0 : decode cX_joinedOutcome 0 = .ok (.aload_n 0, 1) := by decide +kernel
theorem dX_joinedOutcome_1 : decode cX_joinedOutcome 1 = .ok (.getfield 33, 3) := by decide +kernel
theorem dX_joinedOutcome_4 : decode cX_joinedOutcome 4 = .ok (.getfield 238, 3) := by decide +kernel
theorem dX_joinedOutcome_7 : decode cX_joinedOutcome 7 = .ok (.iload_n 1, 1) := by decide +kernel
theorem dX_joinedOutcome_8 : decode cX_joinedOutcome 8 = .ok (.iaload, 1) := by decide +kernel
theorem dX_joinedOutcome_9 : decode cX_joinedOutcome 9 = .ok (.istore_n 2, 1) := by decide +kernel
theorem dX_joinedOutcome_10 : decode cX_joinedOutcome 10 = .ok (.aload_n 0, 1) := by decide +kernel
theorem dX_joinedOutcome_11 : decode cX_joinedOutcome 11 = .ok (.getfield 47, 3) := by decide +kernel
theorem dX_joinedOutcome_14 : decode cX_joinedOutcome 14 = .ok (.getfield 248, 3) := by decide +kernel
theorem dX_joinedOutcome_17 : decode cX_joinedOutcome 17 = .ok (.aload_n 0, 1) := by decide +kernel
theorem dX_joinedOutcome_18 : decode cX_joinedOutcome 18 = .ok (.getfield 33, 3) := by decide +kernel
theorem dX_joinedOutcome_21 : decode cX_joinedOutcome 21 = .ok (.getfield 251, 3) := by decide +kernel
theorem dX_joinedOutcome_24 : decode cX_joinedOutcome 24 = .ok (.iload_n 1, 1) := by decide +kernel
theorem dX_joinedOutcome_25 : decode cX_joinedOutcome 25 = .ok (.iaload, 1) := by decide +kernel
theorem dX_joinedOutcome_26 : decode cX_joinedOutcome 26 = .ok (.iaload, 1) := by decide +kernel
theorem dX_joinedOutcome_27 : decode cX_joinedOutcome 27 = .ok (.istore_n 3, 1) := by decide +kernel
theorem dX_joinedOutcome_28 : decode cX_joinedOutcome 28 = .ok (.iload_n 2, 1) := by decide +kernel
theorem dX_joinedOutcome_29 : decode cX_joinedOutcome 29 = .ok (.bipush 10, 2) := by decide +kernel
theorem dX_joinedOutcome_31 : decode cX_joinedOutcome 31 = .ok (.if_icmp .ne 17, 3) := by decide +kernel
theorem dX_joinedOutcome_34 : decode cX_joinedOutcome 34 = .ok (.iload_n 3, 1) := by decide +kernel
theorem dX_joinedOutcome_35 : decode cX_joinedOutcome 35 = .ok (.iconst 1, 1) := by decide +kernel
theorem dX_joinedOutcome_36 : decode cX_joinedOutcome 36 = .ok (.if_icmp .ne 7, 3) := by decide +kernel
theorem dX_joinedOutcome_39 : decode cX_joinedOutcome 39 = .ok (.iconst 1, 1) := by decide +kernel
theorem dX_joinedOutcome_40 : decode cX_joinedOutcome 40 = .ok (.goto 4, 3) := by decide +kernel
theorem dX_joinedOutcome_43 : decode cX_joinedOutcome 43 = .ok (.iconst 0, 1) := by decide +kernel
theorem dX_joinedOutcome_44 : decode cX_joinedOutcome 44 = .ok (.invokestatic 260, 3) := by decide +kernel
theorem dX_joinedOutcome_47 : decode cX_joinedOutcome 47 = .ok (.ireturn, 1) := by decide +kernel
theorem dX_joinedOutcome_48 : decode cX_joinedOutcome 48 = .ok (.iload_n 3, 1) := by decide +kernel
theorem dX_joinedOutcome_49 : decode cX_joinedOutcome 49 = .ok (.iload_n 2, 1) := by decide +kernel
theorem dX_joinedOutcome_50 : decode cX_joinedOutcome 50 = .ok (.invokestatic 257, 3) := by decide +kernel
theorem dX_joinedOutcome_53 : decode cX_joinedOutcome 53 = .ok (.if_icmp .ne 7, 3) := by decide +kernel
theorem dX_joinedOutcome_56 : decode cX_joinedOutcome 56 = .ok (.iload_n 3, 1) := by decide +kernel
theorem dX_joinedOutcome_57 : decode cX_joinedOutcome 57 = .ok (.goto 20, 3) := by decide +kernel
theorem dX_joinedOutcome_60 : decode cX_joinedOutcome 60 = .ok (.aload_n 0, 1) := by decide +kernel
theorem dX_joinedOutcome_61 : decode cX_joinedOutcome 61 = .ok (.getfield 47, 3) := by decide +kernel
theorem dX_joinedOutcome_64 : decode cX_joinedOutcome 64 = .ok (.getfield 248, 3) := by decide +kernel
theorem dX_joinedOutcome_67 : decode cX_joinedOutcome 67 = .ok (.aload_n 0, 1) := by decide +kernel
theorem dX_joinedOutcome_68 : decode cX_joinedOutcome 68 = .ok (.getfield 33, 3) := by decide +kernel
theorem dX_joinedOutcome_71 : decode cX_joinedOutcome 71 = .ok (.getfield 254, 3) := by decide +kernel
theorem dX_joinedOutcome_74 : decode cX_joinedOutcome 74 = .ok (.iload_n 1, 1) := by decide +kernel
theorem dX_joinedOutcome_75 : decode cX_joinedOutcome 75 = .ok (.iaload, 1) := by decide +kernel
theorem dX_joinedOutcome_76 : decode cX_joinedOutcome 76 = .ok (.iaload, 1) := by decide +kernel
theorem dX_joinedOutcome_77 : decode cX_joinedOutcome 77 = .ok (.ireturn, 1) := by decide +kernel
abbrev wsX_joinedOutcome : List Cond := Cond.code yX_joinedOutcome cX_joinedOutcome 4 (some .int) :: zWords
def FX_joinedOutcome (u : XS) (p0 : Int32) : Int32 := (if ((Xg_nodes_op u) p0.toNatClampNeg) = 10 then (if ((Xg_testing_outcome u) ((Xg_nodes_a u) p0.toNatClampNeg).toNatClampNeg) = 1 then (FX_asOutcome u 1) else (FX_asOutcome u 0)) else (if ((Xg_testing_outcome u) ((Xg_nodes_a u) p0.toNatClampNeg).toNatClampNeg) = (FX_settledBy u ((Xg_nodes_op u) p0.toNatClampNeg)) then ((Xg_testing_outcome u) ((Xg_nodes_a u) p0.toNatClampNeg).toNatClampNeg) else ((Xg_testing_outcome u) ((Xg_nodes_b u) p0.toNatClampNeg).toNatClampNeg)))
def GX_joinedOutcome (u : XS) (p0 : Int32) : Prop := (vp_in p0 201 ∧ (vp_in p0 201 ∧ (vp_in ((Xg_nodes_a u) p0.toNatClampNeg) 201 ∧ (if ((Xg_nodes_op u) p0.toNatClampNeg) = 10 then True else (if ((Xg_testing_outcome u) ((Xg_nodes_a u) p0.toNatClampNeg).toNatClampNeg) = (FX_settledBy u ((Xg_nodes_op u) p0.toNatClampNeg)) then True else (vp_in p0 201 ∧ (vp_in ((Xg_nodes_b u) p0.toNatClampNeg) 201 ∧ True)))))))
set_option maxHeartbeats 4000000 in
set_option maxRecDepth 100000 in
theorem tX_joinedOutcome (l : Launch) {D : va_G} {k : zK} {a : Nat → Nat} (hI : zI 29 a) (u : XS) (p0 : Int32) (hg : GX_joinedOutcome u p0) : Met l yX_joinedOutcome wsX_joinedOutcome ({ frames := 1, cells := 0, slots := 0, locals := 20 }) (zPc D k (zA 29 a) (wX k a u) [.ref (a 0), .int p0]) (vp_Si (fun r9 => r9 = (FX_joinedOutcome u p0))) 0 0 (fun _ => False) := by
  refine Met.ofW (cc := cX_joinedOutcome) (maxL := 4) (ret := (some .int)) (by decide) rfl ?_
  intro p e s m args below meth c s₁ B hml hv
  obtain ⟨rfl, hP, hE⟩ := hv
  have hts := atoms_spec (ws := wsX_joinedOutcome) B.pre
  have C0 : zC p s m _ meth c cX_joinedOutcome (some .int) 4 RX wsX_joinedOutcome D k (zA 29 a) := ⟨B.exec, B.bytes, B.returns, hml, findClass_of_methodNamed B.named, hts, B.notSynchronized, hE⟩
  obtain ⟨hx, hb, hr, hml, hown, _, hlocks, _⟩ := id C0
  have hK := hE.1
  have hS : va_S (zA 29 a) s.heap s.heap [] := va_S.rf
  generalize hf : FX_joinedOutcome u p0 = tgt
  change ((if ((Xg_nodes_op u) p0.toNatClampNeg) = 10 then (if ((Xg_testing_outcome u) ((Xg_nodes_a u) p0.toNatClampNeg).toNatClampNeg) = 1 then (FX_asOutcome u 1) else (FX_asOutcome u 0)) else (if ((Xg_testing_outcome u) ((Xg_nodes_a u) p0.toNatClampNeg).toNatClampNeg) = (FX_settledBy u ((Xg_nodes_op u) p0.toNatClampNeg)) then ((Xg_testing_outcome u) ((Xg_nodes_a u) p0.toNatClampNeg).toNatClampNeg) else ((Xg_testing_outcome u) ((Xg_nodes_b u) p0.toNatClampNeg).toNatClampNeg))) : Int32) = tgt at hf
  change (vp_in p0 201 ∧ (vp_in p0 201 ∧ (vp_in ((Xg_nodes_a u) p0.toNatClampNeg) 201 ∧ (if ((Xg_nodes_op u) p0.toNatClampNeg) = 10 then True else (if ((Xg_testing_outcome u) ((Xg_nodes_a u) p0.toNatClampNeg).toNatClampNeg) = (FX_settledBy u ((Xg_nodes_op u) p0.toNatClampNeg)) then True else (vp_in p0 201 ∧ (vp_in ((Xg_nodes_b u) p0.toNatClampNeg) 201 ∧ True))))))) at hg
  have hl := lv_entry ([.ref (a 0), .int p0]) (n := 4) (Nat.le_of_ble_eq_true rfl)
  rw [lg_entry_eq]
  generalize (lg_sl ([.ref (a 0), .int p0]) ++ List.replicate (4 - (lg_sl ([.ref (a 0), .int p0])).length) Slot.unset).toArray = ls at hl ⊢
  have hl : lv_has ls 4 [(0, .ref (a 0)), (1, .int p0)] := hl
  refine lv_aload_n hx hb dX_joinedOutcome_0 rfl (lv_at hl 0 rfl) ?_
  refine va_get (D := D) (ci := 0) (v := .ref (a 13)) (C := RX) (T := TX) (N := 10) hx hb hts (fun w h9 => zc (inX w h9)) hown hK hP 0 rfl rfl 4 (by decide) (hts _ (zc m_178)) (fun _ h9 => h9) rfl dX_joinedOutcome_1 ?_
  refine va_getN (D := D) (ci := 4) (v := .ref (a 14)) (C := RXO) (T := TXO) (N := 4) hx hb hts (fun w h9 => zc (inXO w h9)) hown hK hP 13 rfl rfl 0 (by decide) (va_Nw.use rfl (hE.2.1 _ zn_10)) (fun _ h9 => h9) rfl dX_joinedOutcome_4 ?_
  refine lv_iload_n hx hb dX_joinedOutcome_7 rfl (lv_at hl 1 rfl) ?_
  obtain ⟨h1, hg⟩ := hg
  refine va_iald hx hb hK hP 14 0 rfl rfl h1 dX_joinedOutcome_8 ?_
  refine lv_istore_n (lv' := [(2, .int ((Xg_nodes_op u) p0.toNatClampNeg)), (0, .ref (a 0)), (1, .int p0)]) hx hb dX_joinedOutcome_9 rfl hl (by decide) rfl (fun ls hl => ?_)
  refine lv_aload_n hx hb dX_joinedOutcome_10 rfl (lv_at hl 1 rfl) ?_
  refine va_get (D := D) (ci := 0) (v := .ref (a 22)) (C := RX) (T := TX) (N := 10) hx hb hts (fun w h9 => zc (inX w h9)) hown hK hP 0 rfl rfl 6 (by decide) (hts _ (zc m_180)) (fun _ h9 => h9) rfl dX_joinedOutcome_11 ?_
  refine va_getN (D := D) (ci := 6) (v := .ref (a 23)) (C := RXT) (T := TXT) (N := 5) hx hb hts (fun w h9 => zc (inXT w h9)) hown hK hP 22 rfl rfl 0 (by decide) (va_Nw.use rfl (hE.2.1 _ zn_23)) (fun _ h9 => h9) rfl dX_joinedOutcome_14 ?_
  refine lv_aload_n hx hb dX_joinedOutcome_17 rfl (lv_at hl 1 rfl) ?_
  refine va_get (D := D) (ci := 0) (v := .ref (a 13)) (C := RX) (T := TX) (N := 10) hx hb hts (fun w h9 => zc (inX w h9)) hown hK hP 0 rfl rfl 4 (by decide) (hts _ (zc m_178)) (fun _ h9 => h9) rfl dX_joinedOutcome_18 ?_
  refine va_getN (D := D) (ci := 4) (v := .ref (a 15)) (C := RXO) (T := TXO) (N := 4) hx hb hts (fun w h9 => zc (inXO w h9)) hown hK hP 13 rfl rfl 1 (by decide) (va_Nw.use rfl (hE.2.1 _ zn_11)) (fun _ h9 => h9) rfl dX_joinedOutcome_21 ?_
  refine lv_iload_n hx hb dX_joinedOutcome_24 rfl (lv_at hl 2 rfl) ?_
  obtain ⟨h2, hg⟩ := hg
  refine va_iald hx hb hK hP 15 0 rfl rfl h2 dX_joinedOutcome_25 ?_
  obtain ⟨h3, hg⟩ := hg
  refine va_iald hx hb hK hP 23 0 rfl rfl h3 dX_joinedOutcome_26 ?_
  refine lv_istore_n (lv' := [(3, .int ((Xg_testing_outcome u) ((Xg_nodes_a u) p0.toNatClampNeg).toNatClampNeg)), (2, .int ((Xg_nodes_op u) p0.toNatClampNeg)), (0, .ref (a 0)), (1, .int p0)]) hx hb dX_joinedOutcome_27 rfl hl (by decide) rfl (fun ls hl => ?_)
  refine lv_iload_n hx hb dX_joinedOutcome_28 rfl (lv_at hl 1 rfl) ?_
  refine lv_bipush (v := 10) hx hb dX_joinedOutcome_29 (by decide) ?_
  refine lv_icmp_ne (tgt := 48) hx hb dX_joinedOutcome_31 (by decide) (fun c4 => ?_) (fun c4 => ?_)
  · have hf := zn c4 hf
    have hg := zgn c4 hg
    refine lv_iload_n hx hb dX_joinedOutcome_48 rfl (lv_at hl 0 rfl) ?_
    refine lv_iload_n hx hb dX_joinedOutcome_49 rfl (lv_at hl 1 rfl) ?_
    refine vp_callSi (W.runS (As := [.int ((Xg_nodes_op u) p0.toNatClampNeg)]) (rest := [.int ((Xg_testing_outcome u) ((Xg_nodes_a u) p0.toNatClampNeg).toNatClampNeg)]) ⟨hx, hb, hml, hown, hts⟩ (tX_settledBy l hI u ((Xg_nodes_op u) p0.toNatClampNeg)) (va_cwS 1 hts (zgS m_453 m_454 m_1 m_455) rfl rfl rfl (by decide +kernel) ⟨Nat.le_of_ble_eq_true rfl, Nat.le_of_ble_eq_true rfl⟩) (zpreS hP hE hS.2.1) rfl rfl hl.1 rfl (lv_room (Nat.le_of_ble_eq_true rfl)) dX_joinedOutcome_50 ⟨Nat.zero_le _, Nat.zero_le _⟩) (fun r9 hr9 => ?_)
    subst hr9
    refine lv_icmp_ne (tgt := 60) hx hb dX_joinedOutcome_53 (by decide) (fun c5 => ?_) (fun c5 => ?_)
    · have hf := zn c5 hf
      have hg := zgn c5 hg
      refine lv_aload_n hx hb dX_joinedOutcome_60 rfl (lv_at hl 2 rfl) ?_
      refine va_get (D := D) (ci := 0) (v := .ref (a 22)) (C := RX) (T := TX) (N := 10) hx hb hts (fun w h9 => zc (inX w h9)) hown hK hP 0 rfl rfl 6 (by decide) (hts _ (zc m_180)) (fun _ h9 => h9) rfl dX_joinedOutcome_61 ?_
      refine va_getN (D := D) (ci := 6) (v := .ref (a 23)) (C := RXT) (T := TXT) (N := 5) hx hb hts (fun w h9 => zc (inXT w h9)) hown hK hP 22 rfl rfl 0 (by decide) (va_Nw.use rfl (hE.2.1 _ zn_23)) (fun _ h9 => h9) rfl dX_joinedOutcome_64 ?_
      refine lv_aload_n hx hb dX_joinedOutcome_67 rfl (lv_at hl 2 rfl) ?_
      refine va_get (D := D) (ci := 0) (v := .ref (a 13)) (C := RX) (T := TX) (N := 10) hx hb hts (fun w h9 => zc (inX w h9)) hown hK hP 0 rfl rfl 4 (by decide) (hts _ (zc m_178)) (fun _ h9 => h9) rfl dX_joinedOutcome_68 ?_
      refine va_getN (D := D) (ci := 4) (v := .ref (a 16)) (C := RXO) (T := TXO) (N := 4) hx hb hts (fun w h9 => zc (inXO w h9)) hown hK hP 13 rfl rfl 2 (by decide) (va_Nw.use rfl (hE.2.1 _ zn_12)) (fun _ h9 => h9) rfl dX_joinedOutcome_71 ?_
      refine lv_iload_n hx hb dX_joinedOutcome_74 rfl (lv_at hl 3 rfl) ?_
      obtain ⟨h6, hg⟩ := hg
      refine va_iald hx hb hK hP 16 0 rfl rfl h6 dX_joinedOutcome_75 ?_
      obtain ⟨h7, hg⟩ := hg
      refine va_iald hx hb hK hP 23 0 rfl rfl h7 dX_joinedOutcome_76 ?_
      exact W.iret (v := ((Xg_testing_outcome u) ((Xg_nodes_b u) p0.toNatClampNeg).toNatClampNeg)) hx hb hr (fun t ht hW => ⟨_, rfl, hf, ht⟩) (fun _ h9 => nomatch h9) dX_joinedOutcome_77
    · have hf := zt c5 hf
      have hg := zgt c5 hg
      refine lv_iload_n hx hb dX_joinedOutcome_56 rfl (lv_at hl 0 rfl) ?_
      refine lv_goto (tgt := 77) hx hb dX_joinedOutcome_57 (by decide) ?_
      exact W.iret (v := ((Xg_testing_outcome u) ((Xg_nodes_a u) p0.toNatClampNeg).toNatClampNeg)) hx hb hr (fun t ht hW => ⟨_, rfl, hf, ht⟩) (fun _ h9 => nomatch h9) dX_joinedOutcome_77
  · have hf := zt c4 hf
    have hg := zgt c4 hg
    refine lv_iload_n hx hb dX_joinedOutcome_34 rfl (lv_at hl 0 rfl) ?_
    refine lv_iconst (v := 1) hx hb dX_joinedOutcome_35 (by decide) ?_
    refine lv_icmp_ne (tgt := 43) hx hb dX_joinedOutcome_36 (by decide) (fun c8 => ?_) (fun c8 => ?_)
    · have hf := zn c8 hf
      refine lv_iconst (v := 0) hx hb dX_joinedOutcome_43 (by decide) ?_
      refine vp_callSi (W.runS (As := [.int 0]) (rest := []) ⟨hx, hb, hml, hown, hts⟩ (tX_asOutcome l hI u 0) (va_cwS 1 hts (zgS m_478 m_479 m_1 m_480) rfl rfl rfl (by decide +kernel) ⟨Nat.le_of_ble_eq_true rfl, Nat.le_of_ble_eq_true rfl⟩) (zpreS hP hE hS.2.1) rfl rfl hl.1 rfl (lv_room (Nat.le_of_ble_eq_true rfl)) dX_joinedOutcome_44 ⟨Nat.zero_le _, Nat.zero_le _⟩) (fun r9 hr9 => ?_)
      subst hr9
      exact W.iret (v := (FX_asOutcome u 0)) hx hb hr (fun t ht hW => ⟨_, rfl, hf, ht⟩) (fun _ h9 => nomatch h9) dX_joinedOutcome_47
    · have hf := zt c8 hf
      refine lv_iconst (v := 1) hx hb dX_joinedOutcome_39 (by decide) ?_
      refine lv_goto (tgt := 44) hx hb dX_joinedOutcome_40 (by decide) ?_
      refine vp_callSi (W.runS (As := [.int 1]) (rest := []) ⟨hx, hb, hml, hown, hts⟩ (tX_asOutcome l hI u 1) (va_cwS 1 hts (zgS m_478 m_479 m_1 m_480) rfl rfl rfl (by decide +kernel) ⟨Nat.le_of_ble_eq_true rfl, Nat.le_of_ble_eq_true rfl⟩) (zpreS hP hE hS.2.1) rfl rfl hl.1 rfl (lv_room (Nat.le_of_ble_eq_true rfl)) dX_joinedOutcome_44 ⟨Nat.zero_le _, Nat.zero_le _⟩) (fun r9 hr9 => ?_)
      subst hr9
      exact W.iret (v := (FX_asOutcome u 1)) hx hb hr (fun t ht hW => ⟨_, rfl, hf, ht⟩) (fun _ h9 => nomatch h9) dX_joinedOutcome_47
theorem dXT_close_0 : decode cXT_close 0 = .ok (.aload_n 0, 1) := by decide +kernel
theorem dXT_close_1 : decode cXT_close 1 = .ok (.getfield 25, 3) := by decide +kernel
theorem dXT_close_4 : decode cXT_close 4 = .ok (.ifCond .le 28, 3) := by decide +kernel
theorem dXT_close_7 : decode cXT_close 7 = .ok (.aload_n 0, 1) := by decide +kernel
theorem dXT_close_8 : decode cXT_close 8 = .ok (.dup, 1) := by decide +kernel
theorem dXT_close_9 : decode cXT_close 9 = .ok (.getfield 25, 3) := by decide +kernel
theorem dXT_close_12 : decode cXT_close 12 = .ok (.iconst 1, 1) := by decide +kernel
theorem dXT_close_13 : decode cXT_close 13 = .ok (.isub, 1) := by decide +kernel
theorem dXT_close_14 : decode cXT_close 14 = .ok (.putfield 25, 3) := by decide +kernel
theorem dXT_close_17 : decode cXT_close 17 = .ok (.aload_n 0, 1) := by decide +kernel
theorem dXT_close_18 : decode cXT_close 18 = .ok (.getfield 9, 3) := by decide +kernel
theorem dXT_close_21 : decode cXT_close 21 = .ok (.aload_n 0, 1) := by decide +kernel
theorem dXT_close_22 : decode cXT_close 22 = .ok (.getfield 18, 3) := by decide +kernel
theorem dXT_close_25 : decode cXT_close 25 = .ok (.aload_n 0, 1) := by decide +kernel
theorem dXT_close_26 : decode cXT_close 26 = .ok (.getfield 25, 3) := by decide +kernel
theorem dXT_close_29 : decode cXT_close 29 = .ok (.iaload, 1) := by decide +kernel
theorem dXT_close_30 : decode cXT_close 30 = .ok (.iload_n 1, 1) := by decide +kernel
theorem dXT_close_31 : decode cXT_close 31 = .ok (.iastore, 1) := by decide +kernel
theorem dXT_close_32 : decode cXT_close 32 = .ok (.return_, 1) := by decide +kernel
abbrev wsXT_close : List Cond := Cond.code yXT_close cXT_close 2 none :: zWords
def FXT_close (u : XS) (p0 : Int32) : XS := (if (Xg_testing_depth u) ≤ 0 then u else (zlet (Xs_testing_depth u ((Xg_testing_depth u) - 1)) (fun u2 => (zlet (Xs_testing_outcome u2 (upd (Xg_testing_outcome u2) (((Xg_testing_waiting u2) (Xg_testing_depth u2).toNatClampNeg).toNatClampNeg) p0)) (fun u5 => u5)))))
def GXT_close (u : XS) (p0 : Int32) : Prop := (if (Xg_testing_depth u) ≤ 0 then True else (zlet (Xs_testing_depth u ((Xg_testing_depth u) - 1)) (fun u2 => (vp_in (Xg_testing_depth u2) 200 ∧ (vp_in ((Xg_testing_waiting u2) (Xg_testing_depth u2).toNatClampNeg) 201 ∧ (zlet (Xs_testing_outcome u2 (upd (Xg_testing_outcome u2) (((Xg_testing_waiting u2) (Xg_testing_depth u2).toNatClampNeg).toNatClampNeg) p0)) (fun u5 => True)))))))
set_option maxHeartbeats 4000000 in
set_option maxRecDepth 100000 in
theorem tXT_close (l : Launch) {D : va_G} {k : zK} {a : Nat → Nat} (hI : zI 29 a) (u : XS) (p0 : Int32) (hg : GXT_close u p0) : Met l yXT_close wsXT_close ({ frames := 0, cells := 0, slots := 0, locals := 0 }) (zPc D k (zA 29 a) (wX k a u) [.ref (a 22), .int p0]) (zQv D (wX k a) (zA 29 a) (FXT_close u p0)) 0 0 (zA 29 a) := by
  refine Met.ofW (cc := cXT_close) (maxL := 2) (ret := none) (by decide) rfl ?_
  intro p e s m args below meth c s₁ B hml hv
  obtain ⟨rfl, hP, hE⟩ := hv
  have hts := atoms_spec (ws := wsXT_close) B.pre
  have C0 : zC p s m _ meth c cXT_close none 2 RXT wsXT_close D k (zA 29 a) := ⟨B.exec, B.bytes, B.returns, hml, findClass_of_methodNamed B.named, hts, B.notSynchronized, hE⟩
  obtain ⟨hx, hb, hr, hml, hown, _, hlocks, _⟩ := id C0
  have hK := hE.1
  have hS : va_S (zA 29 a) s.heap s.heap [] := va_S.rf
  generalize hf : FXT_close u p0 = tgt
  change ((if (Xg_testing_depth u) ≤ 0 then u else (zlet (Xs_testing_depth u ((Xg_testing_depth u) - 1)) (fun u2 => (zlet (Xs_testing_outcome u2 (upd (Xg_testing_outcome u2) (((Xg_testing_waiting u2) (Xg_testing_depth u2).toNatClampNeg).toNatClampNeg) p0)) (fun u5 => u5))))) : XS) = tgt at hf
  change (if (Xg_testing_depth u) ≤ 0 then True else (zlet (Xs_testing_depth u ((Xg_testing_depth u) - 1)) (fun u2 => (vp_in (Xg_testing_depth u2) 200 ∧ (vp_in ((Xg_testing_waiting u2) (Xg_testing_depth u2).toNatClampNeg) 201 ∧ (zlet (Xs_testing_outcome u2 (upd (Xg_testing_outcome u2) (((Xg_testing_waiting u2) (Xg_testing_depth u2).toNatClampNeg).toNatClampNeg) p0)) (fun u5 => True))))))) at hg
  have hl := lv_entry ([.ref (a 22), .int p0]) (n := 2) (Nat.le_of_ble_eq_true rfl)
  rw [lg_entry_eq]
  generalize (lg_sl ([.ref (a 22), .int p0]) ++ List.replicate (2 - (lg_sl ([.ref (a 22), .int p0])).length) Slot.unset).toArray = ls at hl ⊢
  have hl : lv_has ls 2 [(0, .ref (a 22)), (1, .int p0)] := hl
  refine lv_aload_n hx hb dXT_close_0 rfl (lv_at hl 0 rfl) ?_
  refine va_get (D := D) (ci := 6) (v := .int (Xg_testing_depth u)) (C := RXT) (T := TXT) (N := 5) hx hb hts (fun w h9 => zc (inXT w h9)) hown hK hP 22 rfl rfl 4 (by decide) (hts _ (zc m_161)) (fun _ h9 => h9) rfl dXT_close_1 ?_
  refine lv_if_le (tgt := 32) hx hb dXT_close_4 (by decide) (fun c1 => ?_) (fun c1 => ?_)
  · have hf := zt c1 hf
    have hg := zgt c1 hg
    exact W.vret hx hb hr (fun t ht hW => by subst hf; exact ⟨rfl, by rw [ht]; exact hP, hS.F ht⟩) hS.2.2 dXT_close_32
  · have hf := zn c1 hf
    have hg := zgn c1 hg
    refine lv_aload_n hx hb dXT_close_7 rfl (lv_at hl 0 rfl) ?_
    refine lv_dup hx hb dXT_close_8 rfl ?_
    refine va_get (D := D) (ci := 6) (v := .int (Xg_testing_depth u)) (C := RXT) (T := TXT) (N := 5) hx hb hts (fun w h9 => zc (inXT w h9)) hown hK hP 22 rfl rfl 4 (by decide) (hts _ (zc m_161)) (fun _ h9 => h9) rfl dXT_close_9 ?_
    refine lv_iconst (v := 1) hx hb dXT_close_12 (by decide) ?_
    refine lv_isub hx hb dXT_close_13 ?_
    refine va_put (D := D) (ci := 6) (v := .int ((Xg_testing_depth u) - 1)) (ty := .int) (C := RXT) (T := TXT) (N := 5) hx hb hts (fun w h9 => zc (inXT w h9)) tyXT tyXT_ok nmXT hown hK hP (XD hI _) hS 22 rfl rfl 4 (by decide) (hts _ (zc m_161)) (fun _ h9 => h9) rfl (by decide +kernel) rfl rfl (Nat.le_of_ble_eq_true rfl) dXT_close_14 (fun H locs hP _ hS => ?_)
    obtain ⟨u2, hP, hf, hg⟩ := zlets (E := (Xs_testing_depth u ((Xg_testing_depth u) - 1))) (w := wX k a) (Xp_testing_depth hP) hf hg
    refine lv_aload_n hx hb dXT_close_17 rfl (lv_at hl 0 rfl) ?_
    refine va_get (D := D) (ci := 6) (v := .ref (a 23)) (C := RXT) (T := TXT) (N := 5) hx hb hts (fun w h9 => zc (inXT w h9)) hown hK hP 22 rfl rfl 0 (by decide) (hts _ (zc m_153)) (fun _ h9 => h9) rfl dXT_close_18 ?_
    refine lv_aload_n hx hb dXT_close_21 rfl (lv_at hl 0 rfl) ?_
    refine va_get (D := D) (ci := 6) (v := .ref (a 25)) (C := RXT) (T := TXT) (N := 5) hx hb hts (fun w h9 => zc (inXT w h9)) hown hK hP 22 rfl rfl 2 (by decide) (hts _ (zc m_157)) (fun _ h9 => h9) rfl dXT_close_22 ?_
    refine lv_aload_n hx hb dXT_close_25 rfl (lv_at hl 0 rfl) ?_
    refine va_get (D := D) (ci := 6) (v := .int (Xg_testing_depth u2)) (C := RXT) (T := TXT) (N := 5) hx hb hts (fun w h9 => zc (inXT w h9)) hown hK hP 22 rfl rfl 4 (by decide) (hts _ (zc m_161)) (fun _ h9 => h9) rfl dXT_close_26 ?_
    obtain ⟨h3, hg⟩ := hg
    refine va_iald hx hb hK hP 25 0 rfl rfl h3 dXT_close_29 ?_
    refine lv_iload_n hx hb dXT_close_30 rfl (lv_at hl 1 rfl) ?_
    obtain ⟨h4, hg⟩ := hg
    refine va_iast hx hb hK hP (XD hI _) hS 23 0 rfl rfl h4 dXT_close_31 (fun H locs hP _ hS => ?_)
    obtain ⟨u5, hP, hf, hg⟩ := zlets (E := (Xs_testing_outcome u2 (upd (Xg_testing_outcome u2) (((Xg_testing_waiting u2) (Xg_testing_depth u2).toNatClampNeg).toNatClampNeg) p0))) (w := wX k a) (Xp_testing_outcome hP) hf hg
    exact W.vret hx hb hr (fun t ht hW => by subst hf; exact ⟨rfl, by rw [ht]; exact hP, hS.F ht⟩) hS.2.2 dXT_close_32
theorem dXT_note_0 : decode cXT_note 0 = .ok (.aload_n 0, 1) := by decide +kernel
theorem dXT_note_1 : decode cXT_note 1 = .ok (.getfield 21, 3) := by decide +kernel
theorem dXT_note_4 : decode cXT_note 4 = .ok (.sipush 200, 3) := by decide +kernel
theorem dXT_note_7 : decode cXT_note 7 = .ok (.if_icmp .ge 23, 3) := by decide +kernel
theorem dXT_note_10 : decode cXT_note 10 = .ok (.aload_n 0, 1) := by decide +kernel
theorem dXT_note_11 : decode cXT_note 11 = .ok (.getfield 15, 3) := by decide +kernel
theorem dXT_note_14 : decode cXT_note 14 = .ok (.aload_n 0, 1) := by decide +kernel
theorem dXT_note_15 : decode cXT_note 15 = .ok (.getfield 21, 3) := by decide +kernel
theorem dXT_note_18 : decode cXT_note 18 = .ok (.iload_n 1, 1) := by decide +kernel
theorem dXT_note_19 : decode cXT_note 19 = .ok (.iastore, 1) := by decide +kernel
theorem dXT_note_20 : decode cXT_note 20 = .ok (.aload_n 0, 1) := by decide +kernel
theorem dXT_note_21 : decode cXT_note 21 = .ok (.dup, 1) := by decide +kernel
theorem dXT_note_22 : decode cXT_note 22 = .ok (.getfield 21, 3) := by decide +kernel
theorem dXT_note_25 : decode cXT_note 25 = .ok (.iconst 1, 1) := by decide +kernel
theorem dXT_note_26 : decode cXT_note 26 = .ok (.iadd, 1) := by decide +kernel
theorem dXT_note_27 : decode cXT_note 27 = .ok (.putfield 21, 3) := by decide +kernel
theorem dXT_note_30 : decode cXT_note 30 = .ok (.return_, 1) := by decide +kernel
abbrev wsXT_note : List Cond := Cond.code yXT_note cXT_note 2 none :: zWords
def FXT_note (u : XS) (p0 : Int32) : XS := (if (200 : Int32) ≤ (Xg_testing_noted u) then u else (zlet (Xs_testing_leaves u (upd (Xg_testing_leaves u) ((Xg_testing_noted u).toNatClampNeg) p0)) (fun u3 => (zlet (Xs_testing_noted u3 ((Xg_testing_noted u3) + 1)) (fun u4 => u4)))))
def GXT_note (u : XS) (p0 : Int32) : Prop := (if (200 : Int32) ≤ (Xg_testing_noted u) then True else (vp_in (Xg_testing_noted u) 200 ∧ (zlet (Xs_testing_leaves u (upd (Xg_testing_leaves u) ((Xg_testing_noted u).toNatClampNeg) p0)) (fun u3 => (zlet (Xs_testing_noted u3 ((Xg_testing_noted u3) + 1)) (fun u4 => True))))))
set_option maxHeartbeats 4000000 in
set_option maxRecDepth 100000 in
theorem tXT_note (l : Launch) {D : va_G} {k : zK} {a : Nat → Nat} (hI : zI 29 a) (u : XS) (p0 : Int32) (hg : GXT_note u p0) : Met l yXT_note wsXT_note ({ frames := 0, cells := 0, slots := 0, locals := 0 }) (zPc D k (zA 29 a) (wX k a u) [.ref (a 22), .int p0]) (zQv D (wX k a) (zA 29 a) (FXT_note u p0)) 0 0 (zA 29 a) := by
  refine Met.ofW (cc := cXT_note) (maxL := 2) (ret := none) (by decide) rfl ?_
  intro p e s m args below meth c s₁ B hml hv
  obtain ⟨rfl, hP, hE⟩ := hv
  have hts := atoms_spec (ws := wsXT_note) B.pre
  have C0 : zC p s m _ meth c cXT_note none 2 RXT wsXT_note D k (zA 29 a) := ⟨B.exec, B.bytes, B.returns, hml, findClass_of_methodNamed B.named, hts, B.notSynchronized, hE⟩
  obtain ⟨hx, hb, hr, hml, hown, _, hlocks, _⟩ := id C0
  have hK := hE.1
  have hS : va_S (zA 29 a) s.heap s.heap [] := va_S.rf
  generalize hf : FXT_note u p0 = tgt
  change ((if (200 : Int32) ≤ (Xg_testing_noted u) then u else (zlet (Xs_testing_leaves u (upd (Xg_testing_leaves u) ((Xg_testing_noted u).toNatClampNeg) p0)) (fun u3 => (zlet (Xs_testing_noted u3 ((Xg_testing_noted u3) + 1)) (fun u4 => u4))))) : XS) = tgt at hf
  change (if (200 : Int32) ≤ (Xg_testing_noted u) then True else (vp_in (Xg_testing_noted u) 200 ∧ (zlet (Xs_testing_leaves u (upd (Xg_testing_leaves u) ((Xg_testing_noted u).toNatClampNeg) p0)) (fun u3 => (zlet (Xs_testing_noted u3 ((Xg_testing_noted u3) + 1)) (fun u4 => True)))))) at hg
  have hl := lv_entry ([.ref (a 22), .int p0]) (n := 2) (Nat.le_of_ble_eq_true rfl)
  rw [lg_entry_eq]
  generalize (lg_sl ([.ref (a 22), .int p0]) ++ List.replicate (2 - (lg_sl ([.ref (a 22), .int p0])).length) Slot.unset).toArray = ls at hl ⊢
  have hl : lv_has ls 2 [(0, .ref (a 22)), (1, .int p0)] := hl
  refine lv_aload_n hx hb dXT_note_0 rfl (lv_at hl 0 rfl) ?_
  refine va_get (D := D) (ci := 6) (v := .int (Xg_testing_noted u)) (C := RXT) (T := TXT) (N := 5) hx hb hts (fun w h9 => zc (inXT w h9)) hown hK hP 22 rfl rfl 3 (by decide) (hts _ (zc m_159)) (fun _ h9 => h9) rfl dXT_note_1 ?_
  refine lv_sipush (v := 200) hx hb dXT_note_4 (by decide) ?_
  refine lv_icmp_ge (tgt := 30) hx hb dXT_note_7 (by decide) (fun c1 => ?_) (fun c1 => ?_)
  · have hf := zt c1 hf
    have hg := zgt c1 hg
    exact W.vret hx hb hr (fun t ht hW => by subst hf; exact ⟨rfl, by rw [ht]; exact hP, hS.F ht⟩) hS.2.2 dXT_note_30
  · have hf := zn c1 hf
    have hg := zgn c1 hg
    refine lv_aload_n hx hb dXT_note_10 rfl (lv_at hl 0 rfl) ?_
    refine va_get (D := D) (ci := 6) (v := .ref (a 24)) (C := RXT) (T := TXT) (N := 5) hx hb hts (fun w h9 => zc (inXT w h9)) hown hK hP 22 rfl rfl 1 (by decide) (hts _ (zc m_155)) (fun _ h9 => h9) rfl dXT_note_11 ?_
    refine lv_aload_n hx hb dXT_note_14 rfl (lv_at hl 0 rfl) ?_
    refine va_get (D := D) (ci := 6) (v := .int (Xg_testing_noted u)) (C := RXT) (T := TXT) (N := 5) hx hb hts (fun w h9 => zc (inXT w h9)) hown hK hP 22 rfl rfl 3 (by decide) (hts _ (zc m_159)) (fun _ h9 => h9) rfl dXT_note_15 ?_
    refine lv_iload_n hx hb dXT_note_18 rfl (lv_at hl 1 rfl) ?_
    obtain ⟨h2, hg⟩ := hg
    refine va_iast hx hb hK hP (XD hI _) hS 24 0 rfl rfl h2 dXT_note_19 (fun H locs hP _ hS => ?_)
    obtain ⟨u3, hP, hf, hg⟩ := zlets (E := (Xs_testing_leaves u (upd (Xg_testing_leaves u) ((Xg_testing_noted u).toNatClampNeg) p0))) (w := wX k a) (Xp_testing_leaves hP) hf hg
    refine lv_aload_n hx hb dXT_note_20 rfl (lv_at hl 0 rfl) ?_
    refine lv_dup hx hb dXT_note_21 rfl ?_
    refine va_get (D := D) (ci := 6) (v := .int (Xg_testing_noted u3)) (C := RXT) (T := TXT) (N := 5) hx hb hts (fun w h9 => zc (inXT w h9)) hown hK hP 22 rfl rfl 3 (by decide) (hts _ (zc m_159)) (fun _ h9 => h9) rfl dXT_note_22 ?_
    refine lv_iconst (v := 1) hx hb dXT_note_25 (by decide) ?_
    refine lv_iadd hx hb dXT_note_26 ?_
    refine va_put (D := D) (ci := 6) (v := .int ((Xg_testing_noted u3) + 1)) (ty := .int) (C := RXT) (T := TXT) (N := 5) hx hb hts (fun w h9 => zc (inXT w h9)) tyXT tyXT_ok nmXT hown hK hP (XD hI _) hS 22 rfl rfl 3 (by decide) (hts _ (zc m_159)) (fun _ h9 => h9) rfl (by decide +kernel) rfl rfl (Nat.le_of_ble_eq_true rfl) dXT_note_27 (fun H locs hP _ hS => ?_)
    obtain ⟨u4, hP, hf, hg⟩ := zlets (E := (Xs_testing_noted u3 ((Xg_testing_noted u3) + 1))) (w := wX k a) (Xp_testing_noted hP) hf hg
    exact W.vret hx hb hr (fun t ht hW => by subst hf; exact ⟨rfl, by rw [ht]; exact hP, hS.F ht⟩) hS.2.2 dXT_note_30
theorem dXF_isDigit_0 : decode cXF_isDigit 0 = .ok (.iload_n 0, 1) := by decide +kernel
theorem dXF_isDigit_1 : decode cXF_isDigit 1 = .ok (.bipush 48, 2) := by decide +kernel
theorem dXF_isDigit_3 : decode cXF_isDigit 3 = .ok (.if_icmp .lt 13, 3) := by decide +kernel
theorem dXF_isDigit_6 : decode cXF_isDigit 6 = .ok (.iload_n 0, 1) := by decide +kernel
theorem dXF_isDigit_7 : decode cXF_isDigit 7 = .ok (.bipush 57, 2) := by decide +kernel
theorem dXF_isDigit_9 : decode cXF_isDigit 9 = .ok (.if_icmp .gt 7, 3) := by decide +kernel
theorem dXF_isDigit_12 : decode cXF_isDigit 12 = .ok (.iconst 1, 1) := by decide +kernel
theorem dXF_isDigit_13 : decode cXF_isDigit 13 = .ok (.goto 4, 3) := by decide +kernel
theorem dXF_isDigit_16 : decode cXF_isDigit 16 = .ok (.iconst 0, 1) := by decide +kernel
theorem dXF_isDigit_17 : decode cXF_isDigit 17 = .ok (.ireturn, 1) := by decide +kernel
abbrev wsXF_isDigit : List Cond := Cond.code yXF_isDigit cXF_isDigit 1 (some .boolean) :: zWords
def FXF_isDigit (u : XS) (p0 : Int32) : Int32 := (if p0 < 48 then 0 else (if (57 : Int32) < p0 then 0 else 1))
theorem bFXF_isDigit (u : XS) (p0 : Int32) : FXF_isDigit u p0 = 0 ∨ FXF_isDigit u p0 = 1 := by
  unfold FXF_isDigit
  repeat' split
  all_goals first | exact Or.inl rfl | exact Or.inr rfl
set_option maxHeartbeats 4000000 in
set_option maxRecDepth 100000 in
theorem tXF_isDigit (l : Launch) {D : va_G} {k : zK} {a : Nat → Nat} (hI : zI 29 a) (u : XS) (p0 : Int32) : Met l yXF_isDigit wsXF_isDigit ({ frames := 0, cells := 0, slots := 0, locals := 0 }) (zPc D k (zA 29 a) (wX k a u) [.int p0]) (vp_Si (fun r9 => r9 = (FXF_isDigit u p0))) 0 0 (fun _ => False) := by
  refine Met.ofW (cc := cXF_isDigit) (maxL := 1) (ret := (some .boolean)) (by decide) rfl ?_
  intro p e s m args below meth c s₁ B hml hv
  obtain ⟨rfl, hP, hE⟩ := hv
  have hts := atoms_spec (ws := wsXF_isDigit) B.pre
  have C0 : zC p s m _ meth c cXF_isDigit (some .boolean) 1 RXF wsXF_isDigit D k (zA 29 a) := ⟨B.exec, B.bytes, B.returns, hml, findClass_of_methodNamed B.named, hts, B.notSynchronized, hE⟩
  obtain ⟨hx, hb, hr, hml, hown, _, hlocks, _⟩ := id C0
  have hK := hE.1
  have hS : va_S (zA 29 a) s.heap s.heap [] := va_S.rf
  generalize hf : FXF_isDigit u p0 = tgt
  change ((if p0 < 48 then 0 else (if (57 : Int32) < p0 then 0 else 1)) : Int32) = tgt at hf
  have hl := lv_entry ([.int p0]) (n := 1) (Nat.le_of_ble_eq_true rfl)
  rw [lg_entry_eq]
  generalize (lg_sl ([.int p0]) ++ List.replicate (1 - (lg_sl ([.int p0])).length) Slot.unset).toArray = ls at hl ⊢
  have hl : lv_has ls 1 [(0, .int p0)] := hl
  refine lv_iload_n hx hb dXF_isDigit_0 rfl (lv_at hl 0 rfl) ?_
  refine lv_bipush (v := 48) hx hb dXF_isDigit_1 (by decide) ?_
  refine lv_icmp_lt (tgt := 16) hx hb dXF_isDigit_3 (by decide) (fun c1 => ?_) (fun c1 => ?_)
  · have hf := zt c1 hf
    refine lv_iconst (v := 0) hx hb dXF_isDigit_16 (by decide) ?_
    exact W.zret (v := 0) (ty := .boolean) hx hb hr rfl (fun t ht hW => ⟨_, rfl, hf, ht⟩) (fun _ h9 => nomatch h9) dXF_isDigit_17
  · have hf := zn c1 hf
    refine lv_iload_n hx hb dXF_isDigit_6 rfl (lv_at hl 0 rfl) ?_
    refine lv_bipush (v := 57) hx hb dXF_isDigit_7 (by decide) ?_
    refine lv_icmp_gt (tgt := 16) hx hb dXF_isDigit_9 (by decide) (fun c2 => ?_) (fun c2 => ?_)
    · have hf := zt c2 hf
      refine lv_iconst (v := 0) hx hb dXF_isDigit_16 (by decide) ?_
      exact W.zret (v := 0) (ty := .boolean) hx hb hr rfl (fun t ht hW => ⟨_, rfl, hf, ht⟩) (fun _ h9 => nomatch h9) dXF_isDigit_17
    · have hf := zn c2 hf
      refine lv_iconst (v := 1) hx hb dXF_isDigit_12 (by decide) ?_
      refine lv_goto (tgt := 17) hx hb dXF_isDigit_13 (by decide) ?_
      exact W.zret (v := 1) (ty := .boolean) hx hb hr rfl (fun t ht hW => ⟨_, rfl, hf, ht⟩) (fun _ h9 => nomatch h9) dXF_isDigit_17
theorem dXF_isBad_0 : decode cXF_isBad 0 = .ok (.aload_n 0, 1) := by decide +kernel
theorem dXF_isBad_1 : decode cXF_isBad 1 = .ok (.getfield 9, 3) := by decide +kernel
theorem dXF_isBad_4 : decode cXF_isBad 4 = .ok (.iload_n 1, 1) := by decide +kernel
theorem dXF_isBad_5 : decode cXF_isBad 5 = .ok (.iaload, 1) := by decide +kernel
theorem dXF_isBad_6 : decode cXF_isBad 6 = .ok (.iconst 1, 1) := by decide +kernel
theorem dXF_isBad_7 : decode cXF_isBad 7 = .ok (.if_icmp .eq 5, 3) := by decide +kernel
theorem dXF_isBad_10 : decode cXF_isBad 10 = .ok (.iconst 0, 1) := by decide +kernel
theorem dXF_isBad_11 : decode cXF_isBad 11 = .ok (.ireturn, 1) := by decide +kernel
theorem dXF_isBad_12 : decode cXF_isBad 12 = .ok (.iload_n 1, 1) := by decide +kernel
theorem dXF_isBad_13 : decode cXF_isBad 13 = .ok (.bipush 32, 2) := by decide +kernel
theorem dXF_isBad_15 : decode cXF_isBad 15 = .ok (.imul, 1) := by decide +kernel
theorem dXF_isBad_16 : decode cXF_isBad 16 = .ok (.aload_n 0, 1) := by decide +kernel
theorem dXF_isBad_17 : decode cXF_isBad 17 = .ok (.getfield 15, 3) := by decide +kernel
theorem dXF_isBad_20 : decode cXF_isBad 20 = .ok (.iload_n 1, 1) := by decide +kernel
theorem dXF_isBad_21 : decode cXF_isBad 21 = .ok (.iaload, 1) := by decide +kernel
theorem dXF_isBad_22 : decode cXF_isBad 22 = .ok (.iadd, 1) := by decide +kernel
theorem dXF_isBad_23 : decode cXF_isBad 23 = .ok (.iconst 1, 1) := by decide +kernel
theorem dXF_isBad_24 : decode cXF_isBad 24 = .ok (.isub, 1) := by decide +kernel
theorem dXF_isBad_25 : decode cXF_isBad 25 = .ok (.istore_n 2, 1) := by decide +kernel
theorem dXF_isBad_26 : decode cXF_isBad 26 = .ok (.iload_n 1, 1) := by decide +kernel
theorem dXF_isBad_27 : decode cXF_isBad 27 = .ok (.bipush 32, 2) := by decide +kernel
theorem dXF_isBad_29 : decode cXF_isBad 29 = .ok (.imul, 1) := by decide +kernel
theorem dXF_isBad_30 : decode cXF_isBad 30 = .ok (.istore_n 3, 1) := by decide +kernel
theorem dXF_isBad_31 : decode cXF_isBad 31 = .ok (.iload_n 3, 1) := by decide +kernel
theorem dXF_isBad_32 : decode cXF_isBad 32 = .ok (.iload_n 2, 1) := by decide +kernel
theorem dXF_isBad_33 : decode cXF_isBad 33 = .ok (.if_icmp .ge 23, 3) := by decide +kernel
theorem dXF_isBad_36 : decode cXF_isBad 36 = .ok (.aload_n 0, 1) := by decide +kernel
theorem dXF_isBad_37 : decode cXF_isBad 37 = .ok (.getfield 21, 3) := by decide +kernel
theorem dXF_isBad_40 : decode cXF_isBad 40 = .ok (.iload_n 3, 1) := by decide +kernel
theorem dXF_isBad_41 : decode cXF_isBad 41 = .ok (.iaload, 1) := by decide +kernel
theorem dXF_isBad_42 : decode cXF_isBad 42 = .ok (.invokestatic 39, 3) := by decide +kernel
theorem dXF_isBad_45 : decode cXF_isBad 45 = .ok (.ifCond .ne 5, 3) := by decide +kernel
theorem dXF_isBad_48 : decode cXF_isBad 48 = .ok (.iconst 1, 1) := by decide +kernel
theorem dXF_isBad_49 : decode cXF_isBad 49 = .ok (.ireturn, 1) := by decide +kernel
theorem dXF_isBad_50 : decode cXF_isBad 50 = .ok (.iinc 3 1, 3) := by decide +kernel
theorem dXF_isBad_53 : decode cXF_isBad 53 = .ok (.goto (-22), 3) := by decide +kernel
theorem dXF_isBad_56 : decode cXF_isBad 56 = .ok (.aload_n 0, 1) := by decide +kernel
theorem dXF_isBad_57 : decode cXF_isBad 57 = .ok (.getfield 21, 3) := by decide +kernel
theorem dXF_isBad_60 : decode cXF_isBad 60 = .ok (.iload_n 2, 1) := by decide +kernel
theorem dXF_isBad_61 : decode cXF_isBad 61 = .ok (.iaload, 1) := by decide +kernel
theorem dXF_isBad_62 : decode cXF_isBad 62 = .ok (.invokestatic 39, 3) := by decide +kernel
theorem dXF_isBad_65 : decode cXF_isBad 65 = .ok (.ifCond .ne 22, 3) := by decide +kernel
theorem dXF_isBad_68 : decode cXF_isBad 68 = .ok (.aload_n 0, 1) := by decide +kernel
theorem dXF_isBad_69 : decode cXF_isBad 69 = .ok (.getfield 21, 3) := by decide +kernel
theorem dXF_isBad_72 : decode cXF_isBad 72 = .ok (.iload_n 2, 1) := by decide +kernel
theorem dXF_isBad_73 : decode cXF_isBad 73 = .ok (.iaload, 1) := by decide +kernel
theorem dXF_isBad_74 : decode cXF_isBad 74 = .ok (.bipush 64, 2) := by decide +kernel
theorem dXF_isBad_76 : decode cXF_isBad 76 = .ok (.isub, 1) := by decide +kernel
theorem dXF_isBad_77 : decode cXF_isBad 77 = .ok (.invokestatic 39, 3) := by decide +kernel
theorem dXF_isBad_80 : decode cXF_isBad 80 = .ok (.ifCond .ne 7, 3) := by decide +kernel
theorem dXF_isBad_83 : decode cXF_isBad 83 = .ok (.iconst 1, 1) := by decide +kernel
theorem dXF_isBad_84 : decode cXF_isBad 84 = .ok (.goto 4, 3) := by decide +kernel
theorem dXF_isBad_87 : decode cXF_isBad 87 = .ok (.iconst 0, 1) := by decide +kernel
theorem dXF_isBad_88 : decode cXF_isBad 88 = .ok (.ireturn, 1) := by decide +kernel
abbrev wsXF_isBad : List Cond := Cond.code yXF_isBad cXF_isBad 4 (some .boolean) :: zWords
def LXF_isBad_31 : Nat → XS → Int32 → Int32 → Int32 → Int32
  | 0, _, _, _, _ => 0
  | n + 1, u, x3, x2, x1 => (if x2 ≤ x3 then (if (FXF_isDigit u ((Xg_fields_bytes u) x2.toNatClampNeg)) = 0 then (if (FXF_isDigit u (((Xg_fields_bytes u) x2.toNatClampNeg) - 64)) = 0 then 1 else 0) else 0) else (if (FXF_isDigit u ((Xg_fields_bytes u) x3.toNatClampNeg)) = 0 then 1 else (LXF_isBad_31 n u (x3 + 1) x2 x1)))
def MXF_isBad_31 : Nat → XS → Int32 → Int32 → Int32 → Prop
  | 0, _, _, _, _ => False
  | n + 1, u, x3, x2, x1 => (if x2 ≤ x3 then (vp_in x2 1280 ∧ (if (FXF_isDigit u ((Xg_fields_bytes u) x2.toNatClampNeg)) = 0 then (vp_in x2 1280 ∧ True) else True)) else (vp_in x3 1280 ∧ (if (FXF_isDigit u ((Xg_fields_bytes u) x3.toNatClampNeg)) = 0 then True else (MXF_isBad_31 n u (x3 + 1) x2 x1))))
def FXF_isBad (u : XS) (p0 : Int32) : Int32 := (if ((Xg_fields_category u) p0.toNatClampNeg) = 1 then (LXF_isBad_31 1000 u (p0 * 32) (((p0 * 32) + ((Xg_fields_size u) p0.toNatClampNeg)) - 1) p0) else 0)
def GXF_isBad (u : XS) (p0 : Int32) : Prop := (vp_in p0 40 ∧ (if ((Xg_fields_category u) p0.toNatClampNeg) = 1 then (vp_in p0 40 ∧ (MXF_isBad_31 1000 u (p0 * 32) (((p0 * 32) + ((Xg_fields_size u) p0.toNatClampNeg)) - 1) p0)) else True))
set_option maxHeartbeats 4000000 in
set_option maxRecDepth 100000 in
theorem kXF_isBad_31 {p : Program} {l : Launch} {e : Env} {s : State} {m : MethodId} {args : Array Value} {below : List Frame} {meth : Method} {c : Code} {D : va_G} {k : zK} {a : Nat → Nat} (hI : zI 29 a) (C0 : zC p s m args meth c cXF_isBad (some .boolean) 4 RXF wsXF_isBad D k (zA 29 a)) {tgt : Int32} : ∀ (n : Nat) (u : XS) (x3 : Int32) (x2 : Int32) (x1 : Int32), LXF_isBad_31 n u x3 x2 x1 = tgt → MXF_isBad_31 n u x3 x2 x1 → ∀ (H : Heap) (locs : List Loc), va_P D vwCl (wX k a u) H → va_S (zA 29 a) s.heap H locs → H = s.heap ∧ locs = [] → ∀ (ls : Array Slot), lv_has ls 4 [(3, .int x3), (2, .int x2), (0, .ref (a 1)), (1, .int x1)] → W p l e (headSpec wsXF_isBad ({ frames := 1, cells := 0, slots := 0, locals := 20 })).room s m args below meth c H locs 0 0 (MQ below (vp_Si (fun r9 => r9 = tgt)) args s 0 0 (fun _ => False)) (F0 m 31 ls []) := by
  obtain ⟨hx, hb, hr, hml, hown, hts, hlocks, hE⟩ := id C0
  have hK := hE.1
  intro n
  induction n with
  | zero =>
    intro u x3 x2 x1 _ hg
    exact False.elim hg
  | succ n ih =>
    intro u x3 x2 x1 hf hg H locs hP hS hq ls hl
    obtain ⟨rfl, rfl⟩ := hq
    change ((if x2 ≤ x3 then (if (FXF_isDigit u ((Xg_fields_bytes u) x2.toNatClampNeg)) = 0 then (if (FXF_isDigit u (((Xg_fields_bytes u) x2.toNatClampNeg) - 64)) = 0 then 1 else 0) else 0) else (if (FXF_isDigit u ((Xg_fields_bytes u) x3.toNatClampNeg)) = 0 then 1 else (LXF_isBad_31 n u (x3 + 1) x2 x1))) : Int32) = tgt at hf
    change (if x2 ≤ x3 then (vp_in x2 1280 ∧ (if (FXF_isDigit u ((Xg_fields_bytes u) x2.toNatClampNeg)) = 0 then (vp_in x2 1280 ∧ True) else True)) else (vp_in x3 1280 ∧ (if (FXF_isDigit u ((Xg_fields_bytes u) x3.toNatClampNeg)) = 0 then True else (MXF_isBad_31 n u (x3 + 1) x2 x1)))) at hg
    refine lv_iload_n hx hb dXF_isBad_31 rfl (lv_at hl 0 rfl) ?_
    refine lv_iload_n hx hb dXF_isBad_32 rfl (lv_at hl 1 rfl) ?_
    refine lv_icmp_ge (tgt := 56) hx hb dXF_isBad_33 (by decide) (fun c4 => ?_) (fun c4 => ?_)
    · have hf := zt c4 hf
      have hg := zgt c4 hg
      refine lv_aload_n hx hb dXF_isBad_56 rfl (lv_at hl 2 rfl) ?_
      refine va_get (D := D) (ci := 1) (v := .ref (a 5)) (C := RXF) (T := TXF) (N := 5) hx hb hts (fun w h9 => zc (inXF w h9)) hown hK hP 1 rfl rfl 3 (by decide) (hts _ (zc m_36)) (fun _ h9 => h9) rfl dXF_isBad_57 ?_
      refine lv_iload_n hx hb dXF_isBad_60 rfl (lv_at hl 1 rfl) ?_
      obtain ⟨h5, hg⟩ := hg
      refine va_iald hx hb hK hP 5 0 rfl rfl h5 dXF_isBad_61 ?_
      refine vp_callSi (W.runS (As := [.int ((Xg_fields_bytes u) x2.toNatClampNeg)]) (rest := []) ⟨hx, hb, hml, hown, hts⟩ (tXF_isDigit l hI u ((Xg_fields_bytes u) x2.toNatClampNeg)) (va_cwS 1 hts (zgS m_472 m_473 m_2 m_474) rfl rfl rfl (by decide +kernel) ⟨Nat.le_of_ble_eq_true rfl, Nat.le_of_ble_eq_true rfl⟩) (zpreS hP hE hS.2.1) rfl rfl hl.1 rfl (lv_room (Nat.le_of_ble_eq_true rfl)) dXF_isBad_62 ⟨Nat.zero_le _, Nat.zero_le _⟩) (fun r9 hr9 => ?_)
      subst hr9
      refine lv_if_ne (tgt := 87) hx hb dXF_isBad_65 (by decide) (fun c6 => ?_) (fun c6 => ?_)
      · have hf := zn c6 hf
        have hg := zgn c6 hg
        refine lv_iconst (v := 0) hx hb dXF_isBad_87 (by decide) ?_
        exact W.zret (v := 0) (ty := .boolean) hx hb hr rfl (fun t ht hW => ⟨_, rfl, hf, ht⟩) (fun _ h9 => nomatch h9) dXF_isBad_88
      · have hf := zt c6 hf
        have hg := zgt c6 hg
        refine lv_aload_n hx hb dXF_isBad_68 rfl (lv_at hl 2 rfl) ?_
        refine va_get (D := D) (ci := 1) (v := .ref (a 5)) (C := RXF) (T := TXF) (N := 5) hx hb hts (fun w h9 => zc (inXF w h9)) hown hK hP 1 rfl rfl 3 (by decide) (hts _ (zc m_36)) (fun _ h9 => h9) rfl dXF_isBad_69 ?_
        refine lv_iload_n hx hb dXF_isBad_72 rfl (lv_at hl 1 rfl) ?_
        obtain ⟨h7, hg⟩ := hg
        refine va_iald hx hb hK hP 5 0 rfl rfl h7 dXF_isBad_73 ?_
        refine lv_bipush (v := 64) hx hb dXF_isBad_74 (by decide) ?_
        refine lv_isub hx hb dXF_isBad_76 ?_
        refine vp_callSi (W.runS (As := [.int (((Xg_fields_bytes u) x2.toNatClampNeg) - 64)]) (rest := []) ⟨hx, hb, hml, hown, hts⟩ (tXF_isDigit l hI u (((Xg_fields_bytes u) x2.toNatClampNeg) - 64)) (va_cwS 1 hts (zgS m_472 m_473 m_2 m_474) rfl rfl rfl (by decide +kernel) ⟨Nat.le_of_ble_eq_true rfl, Nat.le_of_ble_eq_true rfl⟩) (zpreS hP hE hS.2.1) rfl rfl hl.1 rfl (lv_room (Nat.le_of_ble_eq_true rfl)) dXF_isBad_77 ⟨Nat.zero_le _, Nat.zero_le _⟩) (fun r9 hr9 => ?_)
        subst hr9
        refine lv_if_ne (tgt := 87) hx hb dXF_isBad_80 (by decide) (fun c8 => ?_) (fun c8 => ?_)
        · have hf := zn c8 hf
          refine lv_iconst (v := 0) hx hb dXF_isBad_87 (by decide) ?_
          exact W.zret (v := 0) (ty := .boolean) hx hb hr rfl (fun t ht hW => ⟨_, rfl, hf, ht⟩) (fun _ h9 => nomatch h9) dXF_isBad_88
        · have hf := zt c8 hf
          refine lv_iconst (v := 1) hx hb dXF_isBad_83 (by decide) ?_
          refine lv_goto (tgt := 88) hx hb dXF_isBad_84 (by decide) ?_
          exact W.zret (v := 1) (ty := .boolean) hx hb hr rfl (fun t ht hW => ⟨_, rfl, hf, ht⟩) (fun _ h9 => nomatch h9) dXF_isBad_88
    · have hf := zn c4 hf
      have hg := zgn c4 hg
      refine lv_aload_n hx hb dXF_isBad_36 rfl (lv_at hl 2 rfl) ?_
      refine va_get (D := D) (ci := 1) (v := .ref (a 5)) (C := RXF) (T := TXF) (N := 5) hx hb hts (fun w h9 => zc (inXF w h9)) hown hK hP 1 rfl rfl 3 (by decide) (hts _ (zc m_36)) (fun _ h9 => h9) rfl dXF_isBad_37 ?_
      refine lv_iload_n hx hb dXF_isBad_40 rfl (lv_at hl 0 rfl) ?_
      obtain ⟨h9, hg⟩ := hg
      refine va_iald hx hb hK hP 5 0 rfl rfl h9 dXF_isBad_41 ?_
      refine vp_callSi (W.runS (As := [.int ((Xg_fields_bytes u) x3.toNatClampNeg)]) (rest := []) ⟨hx, hb, hml, hown, hts⟩ (tXF_isDigit l hI u ((Xg_fields_bytes u) x3.toNatClampNeg)) (va_cwS 1 hts (zgS m_472 m_473 m_2 m_474) rfl rfl rfl (by decide +kernel) ⟨Nat.le_of_ble_eq_true rfl, Nat.le_of_ble_eq_true rfl⟩) (zpreS hP hE hS.2.1) rfl rfl hl.1 rfl (lv_room (Nat.le_of_ble_eq_true rfl)) dXF_isBad_42 ⟨Nat.zero_le _, Nat.zero_le _⟩) (fun r9 hr9 => ?_)
      subst hr9
      refine lv_if_ne (tgt := 50) hx hb dXF_isBad_45 (by decide) (fun c10 => ?_) (fun c10 => ?_)
      · have hf := zn c10 hf
        have hg := zgn c10 hg
        refine lv_iinc (v := (x3 + 1)) (lv' := [(3, .int (x3 + 1)), (2, .int x2), (0, .ref (a 1)), (1, .int x1)]) hx hb dXF_isBad_50 hl (k := 0) rfl rfl (by decide) rfl (fun ls hl => ?_)
        refine lv_goto (tgt := 31) hx hb dXF_isBad_53 (by decide) ?_
        exact ih u (x3 + 1) x2 x1 hf hg _ _ hP hS ⟨rfl, rfl⟩ _ (lv_sub hl [0, 1, 2, 3] rfl)
      · have hf := zt c10 hf
        have hg := zgt c10 hg
        refine lv_iconst (v := 1) hx hb dXF_isBad_48 (by decide) ?_
        exact W.zret (v := 1) (ty := .boolean) hx hb hr rfl (fun t ht hW => ⟨_, rfl, hf, ht⟩) (fun _ h9 => nomatch h9) dXF_isBad_49
set_option maxHeartbeats 4000000 in
set_option maxRecDepth 100000 in
theorem tXF_isBad (l : Launch) {D : va_G} {k : zK} {a : Nat → Nat} (hI : zI 29 a) (u : XS) (p0 : Int32) (hg : GXF_isBad u p0) : Met l yXF_isBad wsXF_isBad ({ frames := 1, cells := 0, slots := 0, locals := 20 }) (zPc D k (zA 29 a) (wX k a u) [.ref (a 1), .int p0]) (vp_Si (fun r9 => r9 = (FXF_isBad u p0))) 0 0 (fun _ => False) := by
  refine Met.ofW (cc := cXF_isBad) (maxL := 4) (ret := (some .boolean)) (by decide) rfl ?_
  intro p e s m args below meth c s₁ B hml hv
  obtain ⟨rfl, hP, hE⟩ := hv
  have hts := atoms_spec (ws := wsXF_isBad) B.pre
  have C0 : zC p s m _ meth c cXF_isBad (some .boolean) 4 RXF wsXF_isBad D k (zA 29 a) := ⟨B.exec, B.bytes, B.returns, hml, findClass_of_methodNamed B.named, hts, B.notSynchronized, hE⟩
  obtain ⟨hx, hb, hr, hml, hown, _, hlocks, _⟩ := id C0
  have hK := hE.1
  have hS : va_S (zA 29 a) s.heap s.heap [] := va_S.rf
  generalize hf : FXF_isBad u p0 = tgt
  change ((if ((Xg_fields_category u) p0.toNatClampNeg) = 1 then (LXF_isBad_31 1000 u (p0 * 32) (((p0 * 32) + ((Xg_fields_size u) p0.toNatClampNeg)) - 1) p0) else 0) : Int32) = tgt at hf
  change (vp_in p0 40 ∧ (if ((Xg_fields_category u) p0.toNatClampNeg) = 1 then (vp_in p0 40 ∧ (MXF_isBad_31 1000 u (p0 * 32) (((p0 * 32) + ((Xg_fields_size u) p0.toNatClampNeg)) - 1) p0)) else True)) at hg
  have hl := lv_entry ([.ref (a 1), .int p0]) (n := 4) (Nat.le_of_ble_eq_true rfl)
  rw [lg_entry_eq]
  generalize (lg_sl ([.ref (a 1), .int p0]) ++ List.replicate (4 - (lg_sl ([.ref (a 1), .int p0])).length) Slot.unset).toArray = ls at hl ⊢
  have hl : lv_has ls 4 [(0, .ref (a 1)), (1, .int p0)] := hl
  refine lv_aload_n hx hb dXF_isBad_0 rfl (lv_at hl 0 rfl) ?_
  refine va_get (D := D) (ci := 1) (v := .ref (a 2)) (C := RXF) (T := TXF) (N := 5) hx hb hts (fun w h9 => zc (inXF w h9)) hown hK hP 1 rfl rfl 0 (by decide) (hts _ (zc m_31)) (fun _ h9 => h9) rfl dXF_isBad_1 ?_
  refine lv_iload_n hx hb dXF_isBad_4 rfl (lv_at hl 1 rfl) ?_
  obtain ⟨h1, hg⟩ := hg
  refine va_iald hx hb hK hP 2 0 rfl rfl h1 dXF_isBad_5 ?_
  refine lv_iconst (v := 1) hx hb dXF_isBad_6 (by decide) ?_
  refine lv_icmp_eq (tgt := 12) hx hb dXF_isBad_7 (by decide) (fun c2 => ?_) (fun c2 => ?_)
  · have hf := zt c2 hf
    have hg := zgt c2 hg
    refine lv_iload_n hx hb dXF_isBad_12 rfl (lv_at hl 1 rfl) ?_
    refine lv_bipush (v := 32) hx hb dXF_isBad_13 (by decide) ?_
    refine lv_imul hx hb dXF_isBad_15 ?_
    refine lv_aload_n hx hb dXF_isBad_16 rfl (lv_at hl 0 rfl) ?_
    refine va_get (D := D) (ci := 1) (v := .ref (a 3)) (C := RXF) (T := TXF) (N := 5) hx hb hts (fun w h9 => zc (inXF w h9)) hown hK hP 1 rfl rfl 1 (by decide) (hts _ (zc m_32)) (fun _ h9 => h9) rfl dXF_isBad_17 ?_
    refine lv_iload_n hx hb dXF_isBad_20 rfl (lv_at hl 1 rfl) ?_
    obtain ⟨h3, hg⟩ := hg
    refine va_iald hx hb hK hP 3 0 rfl rfl h3 dXF_isBad_21 ?_
    refine lv_iadd hx hb dXF_isBad_22 ?_
    refine lv_iconst (v := 1) hx hb dXF_isBad_23 (by decide) ?_
    refine lv_isub hx hb dXF_isBad_24 ?_
    refine lv_istore_n (lv' := [(2, .int (((p0 * 32) + ((Xg_fields_size u) p0.toNatClampNeg)) - 1)), (0, .ref (a 1)), (1, .int p0)]) hx hb dXF_isBad_25 rfl hl (by decide) rfl (fun ls hl => ?_)
    refine lv_iload_n hx hb dXF_isBad_26 rfl (lv_at hl 2 rfl) ?_
    refine lv_bipush (v := 32) hx hb dXF_isBad_27 (by decide) ?_
    refine lv_imul hx hb dXF_isBad_29 ?_
    refine lv_istore_n (lv' := [(3, .int (p0 * 32)), (2, .int (((p0 * 32) + ((Xg_fields_size u) p0.toNatClampNeg)) - 1)), (0, .ref (a 1)), (1, .int p0)]) hx hb dXF_isBad_30 rfl hl (by decide) rfl (fun ls hl => ?_)
    exact kXF_isBad_31 hI C0 (tgt := tgt) 1000 u (p0 * 32) (((p0 * 32) + ((Xg_fields_size u) p0.toNatClampNeg)) - 1) p0 hf hg _ _ hP hS ⟨rfl, rfl⟩ _ (lv_sub hl [0, 1, 2, 3] rfl)
  · have hf := zn c2 hf
    have hg := zgn c2 hg
    refine lv_iconst (v := 0) hx hb dXF_isBad_10 (by decide) ?_
    exact W.zret (v := 0) (ty := .boolean) hx hb hr rfl (fun t ht hW => ⟨_, rfl, hf, ht⟩) (fun _ h9 => nomatch h9) dXF_isBad_11
end
section
theorem dXF_fits_0 : decode cXF_fits 0 = .ok (.iload_n 0, 1) := by decide +kernel
theorem dXF_fits_1 : decode cXF_fits 1 = .ok (.bipush 65, 2) := by decide +kernel
theorem dXF_fits_3 : decode cXF_fits 3 = .ok (.if_icmp .lt 9, 3) := by decide +kernel
theorem dXF_fits_6 : decode cXF_fits 6 = .ok (.iload_n 0, 1) := by decide +kernel
theorem dXF_fits_7 : decode cXF_fits 7 = .ok (.bipush 90, 2) := by decide +kernel
theorem dXF_fits_9 : decode cXF_fits 9 = .ok (.if_icmp .le 9, 3) := by decide +kernel
theorem dXF_fits_12 : decode cXF_fits 12 = .ok (.iload_n 0, 1) := by decide +kernel
theorem dXF_fits_13 : decode cXF_fits 13 = .ok (.bipush 32, 2) := by decide +kernel
theorem dXF_fits_15 : decode cXF_fits 15 = .ok (.if_icmp .ne 7, 3) := by decide +kernel
theorem dXF_fits_18 : decode cXF_fits 18 = .ok (.iconst 1, 1) := by decide +kernel
theorem dXF_fits_19 : decode cXF_fits 19 = .ok (.goto 4, 3) := by decide +kernel
theorem dXF_fits_22 : decode cXF_fits 22 = .ok (.iconst 0, 1) := by decide +kernel
theorem dXF_fits_23 : decode cXF_fits 23 = .ok (.istore_n 2, 1) := by decide +kernel
theorem dXF_fits_24 : decode cXF_fits 24 = .ok (.iload_n 0, 1) := by decide +kernel
theorem dXF_fits_25 : decode cXF_fits 25 = .ok (.bipush 97, 2) := by decide +kernel
theorem dXF_fits_27 : decode cXF_fits 27 = .ok (.if_icmp .lt 9, 3) := by decide +kernel
theorem dXF_fits_30 : decode cXF_fits 30 = .ok (.iload_n 0, 1) := by decide +kernel
theorem dXF_fits_31 : decode cXF_fits 31 = .ok (.bipush 122, 2) := by decide +kernel
theorem dXF_fits_33 : decode cXF_fits 33 = .ok (.if_icmp .le 9, 3) := by decide +kernel
theorem dXF_fits_36 : decode cXF_fits 36 = .ok (.iload_n 0, 1) := by decide +kernel
theorem dXF_fits_37 : decode cXF_fits 37 = .ok (.bipush 32, 2) := by decide +kernel
theorem dXF_fits_39 : decode cXF_fits 39 = .ok (.if_icmp .ne 7, 3) := by decide +kernel
theorem dXF_fits_42 : decode cXF_fits 42 = .ok (.iconst 1, 1) := by decide +kernel
theorem dXF_fits_43 : decode cXF_fits 43 = .ok (.goto 4, 3) := by decide +kernel
theorem dXF_fits_46 : decode cXF_fits 46 = .ok (.iconst 0, 1) := by decide +kernel
theorem dXF_fits_47 : decode cXF_fits 47 = .ok (.istore_n 3, 1) := by decide +kernel
theorem dXF_fits_48 : decode cXF_fits 48 = .ok (.iload_n 1, 1) := by decide +kernel
theorem dXF_fits_49 : decode cXF_fits 49 = .ok (.tableswitch 48 0 2 #[27, 32, 46], 27) := by decide +kernel
theorem dXF_fits_76 : decode cXF_fits 76 = .ok (.iload_n 0, 1) := by decide +kernel
theorem dXF_fits_77 : decode cXF_fits 77 = .ok (.invokestatic 39, 3) := by decide +kernel
theorem dXF_fits_80 : decode cXF_fits 80 = .ok (.ireturn, 1) := by decide +kernel
theorem dXF_fits_81 : decode cXF_fits 81 = .ok (.iload_n 2, 1) := by decide +kernel
theorem dXF_fits_82 : decode cXF_fits 82 = .ok (.ifCond .ne 7, 3) := by decide +kernel
theorem dXF_fits_85 : decode cXF_fits 85 = .ok (.iload_n 3, 1) := by decide +kernel
theorem dXF_fits_86 : decode cXF_fits 86 = .ok (.ifCond .eq 7, 3) := by decide +kernel
theorem dXF_fits_89 : decode cXF_fits 89 = .ok (.iconst 1, 1) := by decide +kernel
theorem dXF_fits_90 : decode cXF_fits 90 = .ok (.goto 4, 3) := by decide +kernel
theorem dXF_fits_93 : decode cXF_fits 93 = .ok (.iconst 0, 1) := by decide +kernel
theorem dXF_fits_94 : decode cXF_fits 94 = .ok (.ireturn, 1) := by decide +kernel
theorem dXF_fits_95 : decode cXF_fits 95 = .ok (.iload_n 2, 1) := by decide +kernel
theorem dXF_fits_96 : decode cXF_fits 96 = .ok (.ireturn, 1) := by decide +kernel
theorem dXF_fits_97 : decode cXF_fits 97 = .ok (.iload_n 3, 1) := by decide +kernel
theorem dXF_fits_98 : decode cXF_fits 98 = .ok (.ireturn, 1) := by decide +kernel
abbrev wsXF_fits : List Cond := Cond.code yXF_fits cXF_fits 4 (some .boolean) :: zWords
def LXF_fits_47 (n : Nat) (u : XS) (x2 : Int32) (x0 : Int32) (x1 : Int32) (y0 : Int32) : Int32 := (if x1 = 0 then (FXF_isDigit u x0) else (if x1 = 1 then (if x2 = 0 then (if y0 = 0 then 0 else 1) else 1) else (if x1 = 2 then x2 else y0)))
def MXF_fits_47 (n : Nat) (u : XS) (x2 : Int32) (x0 : Int32) (x1 : Int32) (y0 : Int32) : Prop := (if x1 = 0 then True else (if x1 = 1 then True else (if x1 = 2 then ((x2 = 0 ∨ x2 = 1) ∧ True) else ((y0 = 0 ∨ y0 = 1) ∧ True))))
def LXF_fits_42 (n : Nat) (u : XS) (x2 : Int32) (x0 : Int32) (x1 : Int32) : Int32 := (LXF_fits_47 n u x2 x0 x1 1)
def MXF_fits_42 (n : Nat) (u : XS) (x2 : Int32) (x0 : Int32) (x1 : Int32) : Prop := (MXF_fits_47 n u x2 x0 x1 1)
def LXF_fits_36 (n : Nat) (u : XS) (x2 : Int32) (x0 : Int32) (x1 : Int32) : Int32 := (if x0 = 32 then (LXF_fits_42 n u x2 x0 x1) else (LXF_fits_47 n u x2 x0 x1 0))
def MXF_fits_36 (n : Nat) (u : XS) (x2 : Int32) (x0 : Int32) (x1 : Int32) : Prop := (if x0 = 32 then (MXF_fits_42 n u x2 x0 x1) else (MXF_fits_47 n u x2 x0 x1 0))
def LXF_fits_23 (n : Nat) (u : XS) (x0 : Int32) (x1 : Int32) (y0 : Int32) : Int32 := (if x0 < 97 then (LXF_fits_36 n u y0 x0 x1) else (if x0 ≤ 122 then (LXF_fits_42 n u y0 x0 x1) else (LXF_fits_36 n u y0 x0 x1)))
def MXF_fits_23 (n : Nat) (u : XS) (x0 : Int32) (x1 : Int32) (y0 : Int32) : Prop := (if x0 < 97 then (MXF_fits_36 n u y0 x0 x1) else (if x0 ≤ 122 then (MXF_fits_42 n u y0 x0 x1) else (MXF_fits_36 n u y0 x0 x1)))
def LXF_fits_18 (n : Nat) (u : XS) (x0 : Int32) (x1 : Int32) : Int32 := (LXF_fits_23 n u x0 x1 1)
def MXF_fits_18 (n : Nat) (u : XS) (x0 : Int32) (x1 : Int32) : Prop := (MXF_fits_23 n u x0 x1 1)
def LXF_fits_12 (n : Nat) (u : XS) (x0 : Int32) (x1 : Int32) : Int32 := (if x0 = 32 then (LXF_fits_18 n u x0 x1) else (LXF_fits_23 n u x0 x1 0))
def MXF_fits_12 (n : Nat) (u : XS) (x0 : Int32) (x1 : Int32) : Prop := (if x0 = 32 then (MXF_fits_18 n u x0 x1) else (MXF_fits_23 n u x0 x1 0))
def FXF_fits (u : XS) (p0 : Int32) (p1 : Int32) : Int32 := (if p0 < 65 then (LXF_fits_12 1000 u p0 p1) else (if p0 ≤ 90 then (LXF_fits_18 1000 u p0 p1) else (LXF_fits_12 1000 u p0 p1)))
def GXF_fits (u : XS) (p0 : Int32) (p1 : Int32) : Prop := (if p0 < 65 then (MXF_fits_12 1000 u p0 p1) else (if p0 ≤ 90 then (MXF_fits_18 1000 u p0 p1) else (MXF_fits_12 1000 u p0 p1)))
set_option maxHeartbeats 4000000 in
set_option maxRecDepth 100000 in
theorem kXF_fits_47 {p : Program} {l : Launch} {e : Env} {s : State} {m : MethodId} {args : Array Value} {below : List Frame} {meth : Method} {c : Code} {D : va_G} {k : zK} {a : Nat → Nat} (hI : zI 29 a) (C0 : zC p s m args meth c cXF_fits (some .boolean) 4 RXF wsXF_fits D k (zA 29 a)) {tgt : Int32} : ∀ (n : Nat) (u : XS) (x2 : Int32) (x0 : Int32) (x1 : Int32) (y0 : Int32), LXF_fits_47 n u x2 x0 x1 y0 = tgt → MXF_fits_47 n u x2 x0 x1 y0 → ∀ (H : Heap) (locs : List Loc), va_P D vwCl (wX k a u) H → va_S (zA 29 a) s.heap H locs → H = s.heap ∧ locs = [] → ∀ (ls : Array Slot), lv_has ls 4 [(2, .int x2), (0, .int x0), (1, .int x1)] → W p l e (headSpec wsXF_fits ({ frames := 1, cells := 0, slots := 0, locals := 20 })).room s m args below meth c H locs 0 0 (MQ below (vp_Si (fun r9 => r9 = tgt)) args s 0 0 (fun _ => False)) (F0 m 47 ls [.int y0]) := by
  obtain ⟨hx, hb, hr, hml, hown, hts, hlocks, hE⟩ := id C0
  have hK := hE.1
  intro n
  intro u x2 x0 x1 y0 hf hg H locs hP hS hq ls hl
  obtain ⟨rfl, rfl⟩ := hq
  change ((if x1 = 0 then (FXF_isDigit u x0) else (if x1 = 1 then (if x2 = 0 then (if y0 = 0 then 0 else 1) else 1) else (if x1 = 2 then x2 else y0))) : Int32) = tgt at hf
  change (if x1 = 0 then True else (if x1 = 1 then True else (if x1 = 2 then ((x2 = 0 ∨ x2 = 1) ∧ True) else ((y0 = 0 ∨ y0 = 1) ∧ True)))) at hg
  refine lv_istore_n (lv' := [(3, .int y0), (2, .int x2), (0, .int x0), (1, .int x1)]) hx hb dXF_fits_47 rfl hl (by decide) rfl (fun ls hl => ?_)
  refine lv_iload_n hx hb dXF_fits_48 rfl (lv_at hl 3 rfl) ?_
  by_cases c7 : x1 = 0
  · have hf := zt c7 hf
    have hg := zgt c7 hg
    refine lv_tableIn (off := 27) (tgt := 76) hx hb dXF_fits_49 (by rw [c7]; decide) (by rw [c7]; decide) (by rw [c7]; decide) (by decide) ?_
    refine lv_iload_n hx hb dXF_fits_76 rfl (lv_at hl 2 rfl) ?_
    refine vp_callSi (W.runS (As := [.int x0]) (rest := []) ⟨hx, hb, hml, hown, hts⟩ (tXF_isDigit l hI u x0) (va_cwS 1 hts (zgS m_472 m_473 m_2 m_474) rfl rfl rfl (by decide +kernel) ⟨Nat.le_of_ble_eq_true rfl, Nat.le_of_ble_eq_true rfl⟩) (zpreS hP hE hS.2.1) rfl rfl hl.1 rfl (lv_room (Nat.le_of_ble_eq_true rfl)) dXF_fits_77 ⟨Nat.zero_le _, Nat.zero_le _⟩) (fun r9 hr9 => ?_)
    subst hr9
    exact W.zret (v := (FXF_isDigit u x0)) (ty := .boolean) hx hb hr (zb (bFXF_isDigit _ _)) (fun t ht hW => ⟨_, rfl, hf, ht⟩) (fun _ h9 => nomatch h9) dXF_fits_80
  · have hf := zn c7 hf
    have hg := zgn c7 hg
    by_cases c8 : x1 = 1
    · have hf := zt c8 hf
      have hg := zgt c8 hg
      refine lv_tableIn (off := 32) (tgt := 81) hx hb dXF_fits_49 (by rw [c8]; decide) (by rw [c8]; decide) (by rw [c8]; decide) (by decide) ?_
      refine lv_iload_n hx hb dXF_fits_81 rfl (lv_at hl 1 rfl) ?_
      refine lv_if_ne (tgt := 89) hx hb dXF_fits_82 (by decide) (fun c9 => ?_) (fun c9 => ?_)
      · have hf := zn c9 hf
        refine lv_iconst (v := 1) hx hb dXF_fits_89 (by decide) ?_
        refine lv_goto (tgt := 94) hx hb dXF_fits_90 (by decide) ?_
        exact W.zret (v := 1) (ty := .boolean) hx hb hr rfl (fun t ht hW => ⟨_, rfl, hf, ht⟩) (fun _ h9 => nomatch h9) dXF_fits_94
      · have hf := zt c9 hf
        refine lv_iload_n hx hb dXF_fits_85 rfl (lv_at hl 0 rfl) ?_
        refine lv_if_eq (tgt := 93) hx hb dXF_fits_86 (by decide) (fun c10 => ?_) (fun c10 => ?_)
        · have hf := zt c10 hf
          refine lv_iconst (v := 0) hx hb dXF_fits_93 (by decide) ?_
          exact W.zret (v := 0) (ty := .boolean) hx hb hr rfl (fun t ht hW => ⟨_, rfl, hf, ht⟩) (fun _ h9 => nomatch h9) dXF_fits_94
        · have hf := zn c10 hf
          refine lv_iconst (v := 1) hx hb dXF_fits_89 (by decide) ?_
          refine lv_goto (tgt := 94) hx hb dXF_fits_90 (by decide) ?_
          exact W.zret (v := 1) (ty := .boolean) hx hb hr rfl (fun t ht hW => ⟨_, rfl, hf, ht⟩) (fun _ h9 => nomatch h9) dXF_fits_94
    · have hf := zn c8 hf
      have hg := zgn c8 hg
      by_cases c11 : x1 = 2
      · have hf := zt c11 hf
        have hg := zgt c11 hg
        refine lv_tableIn (off := 46) (tgt := 95) hx hb dXF_fits_49 (by rw [c11]; decide) (by rw [c11]; decide) (by rw [c11]; decide) (by decide) ?_
        refine lv_iload_n hx hb dXF_fits_95 rfl (lv_at hl 1 rfl) ?_
        obtain ⟨h12, hg⟩ := hg
        exact W.zret (v := x2) (ty := .boolean) hx hb hr (zb h12) (fun t ht hW => ⟨_, rfl, hf, ht⟩) (fun _ h9 => nomatch h9) dXF_fits_96
      · have hf := zn c11 hf
        have hg := zgn c11 hg
        refine lv_tableOut (tgt := 97) hx hb dXF_fits_49 (by have e0 := lv_neT (a := 0) c7 (by decide); have e1 := lv_neT (a := 1) c8 (by decide); have e2 := lv_neT (a := 2) c11 (by decide); omega) (by decide) ?_
        refine lv_iload_n hx hb dXF_fits_97 rfl (lv_at hl 0 rfl) ?_
        obtain ⟨h14, hg⟩ := hg
        exact W.zret (v := y0) (ty := .boolean) hx hb hr (zb h14) (fun t ht hW => ⟨_, rfl, hf, ht⟩) (fun _ h9 => nomatch h9) dXF_fits_98
set_option maxHeartbeats 4000000 in
set_option maxRecDepth 100000 in
theorem kXF_fits_42 {p : Program} {l : Launch} {e : Env} {s : State} {m : MethodId} {args : Array Value} {below : List Frame} {meth : Method} {c : Code} {D : va_G} {k : zK} {a : Nat → Nat} (hI : zI 29 a) (C0 : zC p s m args meth c cXF_fits (some .boolean) 4 RXF wsXF_fits D k (zA 29 a)) {tgt : Int32} : ∀ (n : Nat) (u : XS) (x2 : Int32) (x0 : Int32) (x1 : Int32), LXF_fits_42 n u x2 x0 x1 = tgt → MXF_fits_42 n u x2 x0 x1 → ∀ (H : Heap) (locs : List Loc), va_P D vwCl (wX k a u) H → va_S (zA 29 a) s.heap H locs → H = s.heap ∧ locs = [] → ∀ (ls : Array Slot), lv_has ls 4 [(2, .int x2), (0, .int x0), (1, .int x1)] → W p l e (headSpec wsXF_fits ({ frames := 1, cells := 0, slots := 0, locals := 20 })).room s m args below meth c H locs 0 0 (MQ below (vp_Si (fun r9 => r9 = tgt)) args s 0 0 (fun _ => False)) (F0 m 42 ls []) := by
  obtain ⟨hx, hb, hr, hml, hown, hts, hlocks, hE⟩ := id C0
  have hK := hE.1
  intro n
  intro u x2 x0 x1 hf hg H locs hP hS hq ls hl
  obtain ⟨rfl, rfl⟩ := hq
  change ((LXF_fits_47 n u x2 x0 x1 1) : Int32) = tgt at hf
  change (MXF_fits_47 n u x2 x0 x1 1) at hg
  refine lv_iconst (v := 1) hx hb dXF_fits_42 (by decide) ?_
  refine lv_goto (tgt := 47) hx hb dXF_fits_43 (by decide) ?_
  exact kXF_fits_47 hI C0 (tgt := tgt) n u x2 x0 x1 1 hf hg _ _ hP hS ⟨rfl, rfl⟩ _ (lv_sub hl [0, 1, 2] rfl)
set_option maxHeartbeats 4000000 in
set_option maxRecDepth 100000 in
theorem kXF_fits_36 {p : Program} {l : Launch} {e : Env} {s : State} {m : MethodId} {args : Array Value} {below : List Frame} {meth : Method} {c : Code} {D : va_G} {k : zK} {a : Nat → Nat} (hI : zI 29 a) (C0 : zC p s m args meth c cXF_fits (some .boolean) 4 RXF wsXF_fits D k (zA 29 a)) {tgt : Int32} : ∀ (n : Nat) (u : XS) (x2 : Int32) (x0 : Int32) (x1 : Int32), LXF_fits_36 n u x2 x0 x1 = tgt → MXF_fits_36 n u x2 x0 x1 → ∀ (H : Heap) (locs : List Loc), va_P D vwCl (wX k a u) H → va_S (zA 29 a) s.heap H locs → H = s.heap ∧ locs = [] → ∀ (ls : Array Slot), lv_has ls 4 [(2, .int x2), (0, .int x0), (1, .int x1)] → W p l e (headSpec wsXF_fits ({ frames := 1, cells := 0, slots := 0, locals := 20 })).room s m args below meth c H locs 0 0 (MQ below (vp_Si (fun r9 => r9 = tgt)) args s 0 0 (fun _ => False)) (F0 m 36 ls []) := by
  obtain ⟨hx, hb, hr, hml, hown, hts, hlocks, hE⟩ := id C0
  have hK := hE.1
  intro n
  intro u x2 x0 x1 hf hg H locs hP hS hq ls hl
  obtain ⟨rfl, rfl⟩ := hq
  change ((if x0 = 32 then (LXF_fits_42 n u x2 x0 x1) else (LXF_fits_47 n u x2 x0 x1 0)) : Int32) = tgt at hf
  change (if x0 = 32 then (MXF_fits_42 n u x2 x0 x1) else (MXF_fits_47 n u x2 x0 x1 0)) at hg
  refine lv_iload_n hx hb dXF_fits_36 rfl (lv_at hl 1 rfl) ?_
  refine lv_bipush (v := 32) hx hb dXF_fits_37 (by decide) ?_
  refine lv_icmp_ne (tgt := 46) hx hb dXF_fits_39 (by decide) (fun c6 => ?_) (fun c6 => ?_)
  · have hf := zn c6 hf
    have hg := zgn c6 hg
    refine lv_iconst (v := 0) hx hb dXF_fits_46 (by decide) ?_
    exact kXF_fits_47 hI C0 (tgt := tgt) n u x2 x0 x1 0 hf hg _ _ hP hS ⟨rfl, rfl⟩ _ (lv_sub hl [0, 1, 2] rfl)
  · have hf := zt c6 hf
    have hg := zgt c6 hg
    exact kXF_fits_42 hI C0 (tgt := tgt) n u x2 x0 x1 hf hg _ _ hP hS ⟨rfl, rfl⟩ _ (lv_sub hl [0, 1, 2] rfl)
set_option maxHeartbeats 4000000 in
set_option maxRecDepth 100000 in
theorem kXF_fits_23 {p : Program} {l : Launch} {e : Env} {s : State} {m : MethodId} {args : Array Value} {below : List Frame} {meth : Method} {c : Code} {D : va_G} {k : zK} {a : Nat → Nat} (hI : zI 29 a) (C0 : zC p s m args meth c cXF_fits (some .boolean) 4 RXF wsXF_fits D k (zA 29 a)) {tgt : Int32} : ∀ (n : Nat) (u : XS) (x0 : Int32) (x1 : Int32) (y0 : Int32), LXF_fits_23 n u x0 x1 y0 = tgt → MXF_fits_23 n u x0 x1 y0 → ∀ (H : Heap) (locs : List Loc), va_P D vwCl (wX k a u) H → va_S (zA 29 a) s.heap H locs → H = s.heap ∧ locs = [] → ∀ (ls : Array Slot), lv_has ls 4 [(0, .int x0), (1, .int x1)] → W p l e (headSpec wsXF_fits ({ frames := 1, cells := 0, slots := 0, locals := 20 })).room s m args below meth c H locs 0 0 (MQ below (vp_Si (fun r9 => r9 = tgt)) args s 0 0 (fun _ => False)) (F0 m 23 ls [.int y0]) := by
  obtain ⟨hx, hb, hr, hml, hown, hts, hlocks, hE⟩ := id C0
  have hK := hE.1
  intro n
  intro u x0 x1 y0 hf hg H locs hP hS hq ls hl
  obtain ⟨rfl, rfl⟩ := hq
  change ((if x0 < 97 then (LXF_fits_36 n u y0 x0 x1) else (if x0 ≤ 122 then (LXF_fits_42 n u y0 x0 x1) else (LXF_fits_36 n u y0 x0 x1))) : Int32) = tgt at hf
  change (if x0 < 97 then (MXF_fits_36 n u y0 x0 x1) else (if x0 ≤ 122 then (MXF_fits_42 n u y0 x0 x1) else (MXF_fits_36 n u y0 x0 x1))) at hg
  refine lv_istore_n (lv' := [(2, .int y0), (0, .int x0), (1, .int x1)]) hx hb dXF_fits_23 rfl hl (by decide) rfl (fun ls hl => ?_)
  refine lv_iload_n hx hb dXF_fits_24 rfl (lv_at hl 1 rfl) ?_
  refine lv_bipush (v := 97) hx hb dXF_fits_25 (by decide) ?_
  refine lv_icmp_lt (tgt := 36) hx hb dXF_fits_27 (by decide) (fun c4 => ?_) (fun c4 => ?_)
  · have hf := zt c4 hf
    have hg := zgt c4 hg
    exact kXF_fits_36 hI C0 (tgt := tgt) n u y0 x0 x1 hf hg _ _ hP hS ⟨rfl, rfl⟩ _ (lv_sub hl [0, 1, 2] rfl)
  · have hf := zn c4 hf
    have hg := zgn c4 hg
    refine lv_iload_n hx hb dXF_fits_30 rfl (lv_at hl 1 rfl) ?_
    refine lv_bipush (v := 122) hx hb dXF_fits_31 (by decide) ?_
    refine lv_icmp_le (tgt := 42) hx hb dXF_fits_33 (by decide) (fun c5 => ?_) (fun c5 => ?_)
    · have hf := zt c5 hf
      have hg := zgt c5 hg
      exact kXF_fits_42 hI C0 (tgt := tgt) n u y0 x0 x1 hf hg _ _ hP hS ⟨rfl, rfl⟩ _ (lv_sub hl [0, 1, 2] rfl)
    · have hf := zn c5 hf
      have hg := zgn c5 hg
      exact kXF_fits_36 hI C0 (tgt := tgt) n u y0 x0 x1 hf hg _ _ hP hS ⟨rfl, rfl⟩ _ (lv_sub hl [0, 1, 2] rfl)
set_option maxHeartbeats 4000000 in
set_option maxRecDepth 100000 in
theorem kXF_fits_18 {p : Program} {l : Launch} {e : Env} {s : State} {m : MethodId} {args : Array Value} {below : List Frame} {meth : Method} {c : Code} {D : va_G} {k : zK} {a : Nat → Nat} (hI : zI 29 a) (C0 : zC p s m args meth c cXF_fits (some .boolean) 4 RXF wsXF_fits D k (zA 29 a)) {tgt : Int32} : ∀ (n : Nat) (u : XS) (x0 : Int32) (x1 : Int32), LXF_fits_18 n u x0 x1 = tgt → MXF_fits_18 n u x0 x1 → ∀ (H : Heap) (locs : List Loc), va_P D vwCl (wX k a u) H → va_S (zA 29 a) s.heap H locs → H = s.heap ∧ locs = [] → ∀ (ls : Array Slot), lv_has ls 4 [(0, .int x0), (1, .int x1)] → W p l e (headSpec wsXF_fits ({ frames := 1, cells := 0, slots := 0, locals := 20 })).room s m args below meth c H locs 0 0 (MQ below (vp_Si (fun r9 => r9 = tgt)) args s 0 0 (fun _ => False)) (F0 m 18 ls []) := by
  obtain ⟨hx, hb, hr, hml, hown, hts, hlocks, hE⟩ := id C0
  have hK := hE.1
  intro n
  intro u x0 x1 hf hg H locs hP hS hq ls hl
  obtain ⟨rfl, rfl⟩ := hq
  change ((LXF_fits_23 n u x0 x1 1) : Int32) = tgt at hf
  change (MXF_fits_23 n u x0 x1 1) at hg
  refine lv_iconst (v := 1) hx hb dXF_fits_18 (by decide) ?_
  refine lv_goto (tgt := 23) hx hb dXF_fits_19 (by decide) ?_
  exact kXF_fits_23 hI C0 (tgt := tgt) n u x0 x1 1 hf hg _ _ hP hS ⟨rfl, rfl⟩ _ (lv_sub hl [0, 1] rfl)
set_option maxHeartbeats 4000000 in
set_option maxRecDepth 100000 in
theorem kXF_fits_12 {p : Program} {l : Launch} {e : Env} {s : State} {m : MethodId} {args : Array Value} {below : List Frame} {meth : Method} {c : Code} {D : va_G} {k : zK} {a : Nat → Nat} (hI : zI 29 a) (C0 : zC p s m args meth c cXF_fits (some .boolean) 4 RXF wsXF_fits D k (zA 29 a)) {tgt : Int32} : ∀ (n : Nat) (u : XS) (x0 : Int32) (x1 : Int32), LXF_fits_12 n u x0 x1 = tgt → MXF_fits_12 n u x0 x1 → ∀ (H : Heap) (locs : List Loc), va_P D vwCl (wX k a u) H → va_S (zA 29 a) s.heap H locs → H = s.heap ∧ locs = [] → ∀ (ls : Array Slot), lv_has ls 4 [(0, .int x0), (1, .int x1)] → W p l e (headSpec wsXF_fits ({ frames := 1, cells := 0, slots := 0, locals := 20 })).room s m args below meth c H locs 0 0 (MQ below (vp_Si (fun r9 => r9 = tgt)) args s 0 0 (fun _ => False)) (F0 m 12 ls []) := by
  obtain ⟨hx, hb, hr, hml, hown, hts, hlocks, hE⟩ := id C0
  have hK := hE.1
  intro n
  intro u x0 x1 hf hg H locs hP hS hq ls hl
  obtain ⟨rfl, rfl⟩ := hq
  change ((if x0 = 32 then (LXF_fits_18 n u x0 x1) else (LXF_fits_23 n u x0 x1 0)) : Int32) = tgt at hf
  change (if x0 = 32 then (MXF_fits_18 n u x0 x1) else (MXF_fits_23 n u x0 x1 0)) at hg
  refine lv_iload_n hx hb dXF_fits_12 rfl (lv_at hl 0 rfl) ?_
  refine lv_bipush (v := 32) hx hb dXF_fits_13 (by decide) ?_
  refine lv_icmp_ne (tgt := 22) hx hb dXF_fits_15 (by decide) (fun c3 => ?_) (fun c3 => ?_)
  · have hf := zn c3 hf
    have hg := zgn c3 hg
    refine lv_iconst (v := 0) hx hb dXF_fits_22 (by decide) ?_
    exact kXF_fits_23 hI C0 (tgt := tgt) n u x0 x1 0 hf hg _ _ hP hS ⟨rfl, rfl⟩ _ (lv_sub hl [0, 1] rfl)
  · have hf := zt c3 hf
    have hg := zgt c3 hg
    exact kXF_fits_18 hI C0 (tgt := tgt) n u x0 x1 hf hg _ _ hP hS ⟨rfl, rfl⟩ _ (lv_sub hl [0, 1] rfl)
set_option maxHeartbeats 4000000 in
set_option maxRecDepth 100000 in
theorem tXF_fits (l : Launch) {D : va_G} {k : zK} {a : Nat → Nat} (hI : zI 29 a) (u : XS) (p0 : Int32) (p1 : Int32) (hg : GXF_fits u p0 p1) : Met l yXF_fits wsXF_fits ({ frames := 1, cells := 0, slots := 0, locals := 20 }) (zPc D k (zA 29 a) (wX k a u) [.int p0, .int p1]) (vp_Si (fun r9 => r9 = (FXF_fits u p0 p1))) 0 0 (fun _ => False) := by
  refine Met.ofW (cc := cXF_fits) (maxL := 4) (ret := (some .boolean)) (by decide) rfl ?_
  intro p e s m args below meth c s₁ B hml hv
  obtain ⟨rfl, hP, hE⟩ := hv
  have hts := atoms_spec (ws := wsXF_fits) B.pre
  have C0 : zC p s m _ meth c cXF_fits (some .boolean) 4 RXF wsXF_fits D k (zA 29 a) := ⟨B.exec, B.bytes, B.returns, hml, findClass_of_methodNamed B.named, hts, B.notSynchronized, hE⟩
  obtain ⟨hx, hb, hr, hml, hown, _, hlocks, _⟩ := id C0
  have hK := hE.1
  have hS : va_S (zA 29 a) s.heap s.heap [] := va_S.rf
  generalize hf : FXF_fits u p0 p1 = tgt
  change ((if p0 < 65 then (LXF_fits_12 1000 u p0 p1) else (if p0 ≤ 90 then (LXF_fits_18 1000 u p0 p1) else (LXF_fits_12 1000 u p0 p1))) : Int32) = tgt at hf
  change (if p0 < 65 then (MXF_fits_12 1000 u p0 p1) else (if p0 ≤ 90 then (MXF_fits_18 1000 u p0 p1) else (MXF_fits_12 1000 u p0 p1))) at hg
  have hl := lv_entry ([.int p0, .int p1]) (n := 4) (Nat.le_of_ble_eq_true rfl)
  rw [lg_entry_eq]
  generalize (lg_sl ([.int p0, .int p1]) ++ List.replicate (4 - (lg_sl ([.int p0, .int p1])).length) Slot.unset).toArray = ls at hl ⊢
  have hl : lv_has ls 4 [(0, .int p0), (1, .int p1)] := hl
  refine lv_iload_n hx hb dXF_fits_0 rfl (lv_at hl 0 rfl) ?_
  refine lv_bipush (v := 65) hx hb dXF_fits_1 (by decide) ?_
  refine lv_icmp_lt (tgt := 12) hx hb dXF_fits_3 (by decide) (fun c1 => ?_) (fun c1 => ?_)
  · have hf := zt c1 hf
    have hg := zgt c1 hg
    exact kXF_fits_12 hI C0 (tgt := tgt) 1000 u p0 p1 hf hg _ _ hP hS ⟨rfl, rfl⟩ _ (lv_sub hl [0, 1] rfl)
  · have hf := zn c1 hf
    have hg := zgn c1 hg
    refine lv_iload_n hx hb dXF_fits_6 rfl (lv_at hl 0 rfl) ?_
    refine lv_bipush (v := 90) hx hb dXF_fits_7 (by decide) ?_
    refine lv_icmp_le (tgt := 18) hx hb dXF_fits_9 (by decide) (fun c2 => ?_) (fun c2 => ?_)
    · have hf := zt c2 hf
      have hg := zgt c2 hg
      exact kXF_fits_18 hI C0 (tgt := tgt) 1000 u p0 p1 hf hg _ _ hP hS ⟨rfl, rfl⟩ _ (lv_sub hl [0, 1] rfl)
    · have hf := zn c2 hf
      have hg := zgn c2 hg
      exact kXF_fits_12 hI C0 (tgt := tgt) 1000 u p0 p1 hf hg _ _ hP hS ⟨rfl, rfl⟩ _ (lv_sub hl [0, 1] rfl)
theorem dXF_isOfClass_0 : decode cXF_isOfClass 0 = .ok (.iload_n 2, 1) := by decide +kernel
theorem dXF_isOfClass_1 : decode cXF_isOfClass 1 = .ok (.ifCond .ne 26, 3) := by decide +kernel
theorem dXF_isOfClass_4 : decode cXF_isOfClass 4 = .ok (.aload_n 0, 1) := by decide +kernel
theorem dXF_isOfClass_5 : decode cXF_isOfClass 5 = .ok (.getfield 9, 3) := by decide +kernel
theorem dXF_isOfClass_8 : decode cXF_isOfClass 8 = .ok (.iload_n 1, 1) := by decide +kernel
theorem dXF_isOfClass_9 : decode cXF_isOfClass 9 = .ok (.iaload, 1) := by decide +kernel
theorem dXF_isOfClass_10 : decode cXF_isOfClass 10 = .ok (.ifCond .eq 17, 3) := by decide +kernel
theorem dXF_isOfClass_13 : decode cXF_isOfClass 13 = .ok (.aload_n 0, 1) := by decide +kernel
theorem dXF_isOfClass_14 : decode cXF_isOfClass 14 = .ok (.iload_n 1, 1) := by decide +kernel
theorem dXF_isOfClass_15 : decode cXF_isOfClass 15 = .ok (.invokevirtual 42, 3) := by decide +kernel
theorem dXF_isOfClass_18 : decode cXF_isOfClass 18 = .ok (.ifCond .ne 7, 3) := by decide +kernel
theorem dXF_isOfClass_21 : decode cXF_isOfClass 21 = .ok (.iconst 1, 1) := by decide +kernel
theorem dXF_isOfClass_22 : decode cXF_isOfClass 22 = .ok (.goto 4, 3) := by decide +kernel
theorem dXF_isOfClass_25 : decode cXF_isOfClass 25 = .ok (.iconst 0, 1) := by decide +kernel
theorem dXF_isOfClass_26 : decode cXF_isOfClass 26 = .ok (.ireturn, 1) := by decide +kernel
theorem dXF_isOfClass_27 : decode cXF_isOfClass 27 = .ok (.iload_n 1, 1) := by decide +kernel
theorem dXF_isOfClass_28 : decode cXF_isOfClass 28 = .ok (.bipush 32, 2) := by decide +kernel
theorem dXF_isOfClass_30 : decode cXF_isOfClass 30 = .ok (.imul, 1) := by decide +kernel
theorem dXF_isOfClass_31 : decode cXF_isOfClass 31 = .ok (.aload_n 0, 1) := by decide +kernel
theorem dXF_isOfClass_32 : decode cXF_isOfClass 32 = .ok (.getfield 15, 3) := by decide +kernel
theorem dXF_isOfClass_35 : decode cXF_isOfClass 35 = .ok (.iload_n 1, 1) := by decide +kernel
theorem dXF_isOfClass_36 : decode cXF_isOfClass 36 = .ok (.iaload, 1) := by decide +kernel
theorem dXF_isOfClass_37 : decode cXF_isOfClass 37 = .ok (.iadd, 1) := by decide +kernel
theorem dXF_isOfClass_38 : decode cXF_isOfClass 38 = .ok (.istore_n 3, 1) := by decide +kernel
theorem dXF_isOfClass_39 : decode cXF_isOfClass 39 = .ok (.iload_n 1, 1) := by decide +kernel
theorem dXF_isOfClass_40 : decode cXF_isOfClass 40 = .ok (.bipush 32, 2) := by decide +kernel
theorem dXF_isOfClass_42 : decode cXF_isOfClass 42 = .ok (.imul, 1) := by decide +kernel
theorem dXF_isOfClass_43 : decode cXF_isOfClass 43 = .ok (.istore 4, 2) := by decide +kernel
theorem dXF_isOfClass_45 : decode cXF_isOfClass 45 = .ok (.iload 4, 2) := by decide +kernel
theorem dXF_isOfClass_47 : decode cXF_isOfClass 47 = .ok (.iload_n 3, 1) := by decide +kernel
theorem dXF_isOfClass_48 : decode cXF_isOfClass 48 = .ok (.if_icmp .ge 25, 3) := by decide +kernel
theorem dXF_isOfClass_51 : decode cXF_isOfClass 51 = .ok (.aload_n 0, 1) := by decide +kernel
theorem dXF_isOfClass_52 : decode cXF_isOfClass 52 = .ok (.getfield 21, 3) := by decide +kernel
theorem dXF_isOfClass_55 : decode cXF_isOfClass 55 = .ok (.iload 4, 2) := by decide +kernel
theorem dXF_isOfClass_57 : decode cXF_isOfClass 57 = .ok (.iaload, 1) := by decide +kernel
theorem dXF_isOfClass_58 : decode cXF_isOfClass 58 = .ok (.iload_n 2, 1) := by decide +kernel
theorem dXF_isOfClass_59 : decode cXF_isOfClass 59 = .ok (.invokestatic 45, 3) := by decide +kernel
theorem dXF_isOfClass_62 : decode cXF_isOfClass 62 = .ok (.ifCond .ne 5, 3) := by decide +kernel
theorem dXF_isOfClass_65 : decode cXF_isOfClass 65 = .ok (.iconst 0, 1) := by decide +kernel
theorem dXF_isOfClass_66 : decode cXF_isOfClass 66 = .ok (.ireturn, 1) := by decide +kernel
theorem dXF_isOfClass_67 : decode cXF_isOfClass 67 = .ok (.iinc 4 1, 3) := by decide +kernel
theorem dXF_isOfClass_70 : decode cXF_isOfClass 70 = .ok (.goto (-25), 3) := by decide +kernel
theorem dXF_isOfClass_73 : decode cXF_isOfClass 73 = .ok (.iconst 1, 1) := by decide +kernel
theorem dXF_isOfClass_74 : decode cXF_isOfClass 74 = .ok (.ireturn, 1) := by decide +kernel
abbrev wsXF_isOfClass : List Cond := Cond.code yXF_isOfClass cXF_isOfClass 5 (some .boolean) :: zWords
def LXF_isOfClass_45 : Nat → XS → Int32 → Int32 → Int32 → Int32 → Int32
  | 0, _, _, _, _, _ => 0
  | n + 1, u, x4, x3, x1, x2 => (if x3 ≤ x4 then 1 else (if (FXF_fits u ((Xg_fields_bytes u) x4.toNatClampNeg) x2) = 0 then 0 else (LXF_isOfClass_45 n u (x4 + 1) x3 x1 x2)))
def MXF_isOfClass_45 : Nat → XS → Int32 → Int32 → Int32 → Int32 → Prop
  | 0, _, _, _, _, _ => False
  | n + 1, u, x4, x3, x1, x2 => (if x3 ≤ x4 then True else (vp_in x4 1280 ∧ (GXF_fits u ((Xg_fields_bytes u) x4.toNatClampNeg) x2 ∧ (if (FXF_fits u ((Xg_fields_bytes u) x4.toNatClampNeg) x2) = 0 then True else (MXF_isOfClass_45 n u (x4 + 1) x3 x1 x2)))))
def FXF_isOfClass (u : XS) (p0 : Int32) (p1 : Int32) : Int32 := (if p1 = 0 then (if ((Xg_fields_category u) p0.toNatClampNeg) = 0 then (LXF_isOfClass_45 1000 u (p0 * 32) ((p0 * 32) + ((Xg_fields_size u) p0.toNatClampNeg)) p0 p1) else (if (FXF_isBad u p0) = 0 then 1 else 0)) else (LXF_isOfClass_45 1000 u (p0 * 32) ((p0 * 32) + ((Xg_fields_size u) p0.toNatClampNeg)) p0 p1))
def GXF_isOfClass (u : XS) (p0 : Int32) (p1 : Int32) : Prop := (if p1 = 0 then (vp_in p0 40 ∧ (if ((Xg_fields_category u) p0.toNatClampNeg) = 0 then (vp_in p0 40 ∧ (MXF_isOfClass_45 1000 u (p0 * 32) ((p0 * 32) + ((Xg_fields_size u) p0.toNatClampNeg)) p0 p1)) else (GXF_isBad u p0 ∧ True))) else (vp_in p0 40 ∧ (MXF_isOfClass_45 1000 u (p0 * 32) ((p0 * 32) + ((Xg_fields_size u) p0.toNatClampNeg)) p0 p1)))
set_option maxHeartbeats 4000000 in
set_option maxRecDepth 100000 in
theorem kXF_isOfClass_45 {p : Program} {l : Launch} {e : Env} {s : State} {m : MethodId} {args : Array Value} {below : List Frame} {meth : Method} {c : Code} {D : va_G} {k : zK} {a : Nat → Nat} (hI : zI 29 a) (C0 : zC p s m args meth c cXF_isOfClass (some .boolean) 5 RXF wsXF_isOfClass D k (zA 29 a)) {tgt : Int32} : ∀ (n : Nat) (u : XS) (x4 : Int32) (x3 : Int32) (x1 : Int32) (x2 : Int32), LXF_isOfClass_45 n u x4 x3 x1 x2 = tgt → MXF_isOfClass_45 n u x4 x3 x1 x2 → ∀ (H : Heap) (locs : List Loc), va_P D vwCl (wX k a u) H → va_S (zA 29 a) s.heap H locs → H = s.heap ∧ locs = [] → ∀ (ls : Array Slot), lv_has ls 5 [(4, .int x4), (3, .int x3), (0, .ref (a 1)), (1, .int x1), (2, .int x2)] → W p l e (headSpec wsXF_isOfClass ({ frames := 2, cells := 0, slots := 0, locals := 43 })).room s m args below meth c H locs 0 0 (MQ below (vp_Si (fun r9 => r9 = tgt)) args s 0 0 (fun _ => False)) (F0 m 45 ls []) := by
  obtain ⟨hx, hb, hr, hml, hown, hts, hlocks, hE⟩ := id C0
  have hK := hE.1
  intro n
  induction n with
  | zero =>
    intro u x4 x3 x1 x2 _ hg
    exact False.elim hg
  | succ n ih =>
    intro u x4 x3 x1 x2 hf hg H locs hP hS hq ls hl
    obtain ⟨rfl, rfl⟩ := hq
    change ((if x3 ≤ x4 then 1 else (if (FXF_fits u ((Xg_fields_bytes u) x4.toNatClampNeg) x2) = 0 then 0 else (LXF_isOfClass_45 n u (x4 + 1) x3 x1 x2))) : Int32) = tgt at hf
    change (if x3 ≤ x4 then True else (vp_in x4 1280 ∧ (GXF_fits u ((Xg_fields_bytes u) x4.toNatClampNeg) x2 ∧ (if (FXF_fits u ((Xg_fields_bytes u) x4.toNatClampNeg) x2) = 0 then True else (MXF_isOfClass_45 n u (x4 + 1) x3 x1 x2))))) at hg
    refine lv_iload hx hb dXF_isOfClass_45 (lv_at hl 0 rfl) ?_
    refine lv_iload_n hx hb dXF_isOfClass_47 rfl (lv_at hl 1 rfl) ?_
    refine lv_icmp_ge (tgt := 73) hx hb dXF_isOfClass_48 (by decide) (fun c8 => ?_) (fun c8 => ?_)
    · have hf := zt c8 hf
      have hg := zgt c8 hg
      refine lv_iconst (v := 1) hx hb dXF_isOfClass_73 (by decide) ?_
      exact W.zret (v := 1) (ty := .boolean) hx hb hr rfl (fun t ht hW => ⟨_, rfl, hf, ht⟩) (fun _ h9 => nomatch h9) dXF_isOfClass_74
    · have hf := zn c8 hf
      have hg := zgn c8 hg
      refine lv_aload_n hx hb dXF_isOfClass_51 rfl (lv_at hl 2 rfl) ?_
      refine va_get (D := D) (ci := 1) (v := .ref (a 5)) (C := RXF) (T := TXF) (N := 5) hx hb hts (fun w h9 => zc (inXF w h9)) hown hK hP 1 rfl rfl 3 (by decide) (hts _ (zc m_36)) (fun _ h9 => h9) rfl dXF_isOfClass_52 ?_
      refine lv_iload hx hb dXF_isOfClass_55 (lv_at hl 0 rfl) ?_
      obtain ⟨h9, hg⟩ := hg
      refine va_iald hx hb hK hP 5 0 rfl rfl h9 dXF_isOfClass_57 ?_
      refine lv_iload_n hx hb dXF_isOfClass_58 rfl (lv_at hl 4 rfl) ?_
      obtain ⟨h10, hg⟩ := hg
      refine vp_callSi (W.runS (As := [.int ((Xg_fields_bytes u) x4.toNatClampNeg), .int x2]) (rest := []) ⟨hx, hb, hml, hown, hts⟩ (tXF_fits l hI u ((Xg_fields_bytes u) x4.toNatClampNeg) x2 h10) (va_cwS 2 hts (zgS m_475 m_476 m_2 m_477) rfl rfl rfl (by decide +kernel) ⟨Nat.le_of_ble_eq_true rfl, Nat.le_of_ble_eq_true rfl⟩) (zpreS hP hE hS.2.1) rfl rfl hl.1 rfl (lv_room (Nat.le_of_ble_eq_true rfl)) dXF_isOfClass_59 ⟨Nat.zero_le _, Nat.zero_le _⟩) (fun r9 hr9 => ?_)
      subst hr9
      refine lv_if_ne (tgt := 67) hx hb dXF_isOfClass_62 (by decide) (fun c11 => ?_) (fun c11 => ?_)
      · have hf := zn c11 hf
        have hg := zgn c11 hg
        refine lv_iinc (v := (x4 + 1)) (lv' := [(4, .int (x4 + 1)), (3, .int x3), (0, .ref (a 1)), (1, .int x1), (2, .int x2)]) hx hb dXF_isOfClass_67 hl (k := 0) rfl rfl (by decide) rfl (fun ls hl => ?_)
        refine lv_goto (tgt := 45) hx hb dXF_isOfClass_70 (by decide) ?_
        exact ih u (x4 + 1) x3 x1 x2 hf hg _ _ hP hS ⟨rfl, rfl⟩ _ (lv_sub hl [0, 1, 2, 3, 4] rfl)
      · have hf := zt c11 hf
        have hg := zgt c11 hg
        refine lv_iconst (v := 0) hx hb dXF_isOfClass_65 (by decide) ?_
        exact W.zret (v := 0) (ty := .boolean) hx hb hr rfl (fun t ht hW => ⟨_, rfl, hf, ht⟩) (fun _ h9 => nomatch h9) dXF_isOfClass_66
set_option maxHeartbeats 4000000 in
set_option maxRecDepth 100000 in
theorem tXF_isOfClass (l : Launch) {D : va_G} {k : zK} {a : Nat → Nat} (hI : zI 29 a) (u : XS) (p0 : Int32) (p1 : Int32) (hg : GXF_isOfClass u p0 p1) : Met l yXF_isOfClass wsXF_isOfClass ({ frames := 2, cells := 0, slots := 0, locals := 43 }) (zPc D k (zA 29 a) (wX k a u) [.ref (a 1), .int p0, .int p1]) (vp_Si (fun r9 => r9 = (FXF_isOfClass u p0 p1))) 0 0 (fun _ => False) := by
  refine Met.ofW (cc := cXF_isOfClass) (maxL := 5) (ret := (some .boolean)) (by decide) rfl ?_
  intro p e s m args below meth c s₁ B hml hv
  obtain ⟨rfl, hP, hE⟩ := hv
  have hts := atoms_spec (ws := wsXF_isOfClass) B.pre
  have C0 : zC p s m _ meth c cXF_isOfClass (some .boolean) 5 RXF wsXF_isOfClass D k (zA 29 a) := ⟨B.exec, B.bytes, B.returns, hml, findClass_of_methodNamed B.named, hts, B.notSynchronized, hE⟩
  obtain ⟨hx, hb, hr, hml, hown, _, hlocks, _⟩ := id C0
  have hK := hE.1
  have hS : va_S (zA 29 a) s.heap s.heap [] := va_S.rf
  generalize hf : FXF_isOfClass u p0 p1 = tgt
  change ((if p1 = 0 then (if ((Xg_fields_category u) p0.toNatClampNeg) = 0 then (LXF_isOfClass_45 1000 u (p0 * 32) ((p0 * 32) + ((Xg_fields_size u) p0.toNatClampNeg)) p0 p1) else (if (FXF_isBad u p0) = 0 then 1 else 0)) else (LXF_isOfClass_45 1000 u (p0 * 32) ((p0 * 32) + ((Xg_fields_size u) p0.toNatClampNeg)) p0 p1)) : Int32) = tgt at hf
  change (if p1 = 0 then (vp_in p0 40 ∧ (if ((Xg_fields_category u) p0.toNatClampNeg) = 0 then (vp_in p0 40 ∧ (MXF_isOfClass_45 1000 u (p0 * 32) ((p0 * 32) + ((Xg_fields_size u) p0.toNatClampNeg)) p0 p1)) else (GXF_isBad u p0 ∧ True))) else (vp_in p0 40 ∧ (MXF_isOfClass_45 1000 u (p0 * 32) ((p0 * 32) + ((Xg_fields_size u) p0.toNatClampNeg)) p0 p1))) at hg
  have hl := lv_entry ([.ref (a 1), .int p0, .int p1]) (n := 5) (Nat.le_of_ble_eq_true rfl)
  rw [lg_entry_eq]
  generalize (lg_sl ([.ref (a 1), .int p0, .int p1]) ++ List.replicate (5 - (lg_sl ([.ref (a 1), .int p0, .int p1])).length) Slot.unset).toArray = ls at hl ⊢
  have hl : lv_has ls 5 [(0, .ref (a 1)), (1, .int p0), (2, .int p1)] := hl
  refine lv_iload_n hx hb dXF_isOfClass_0 rfl (lv_at hl 2 rfl) ?_
  refine lv_if_ne (tgt := 27) hx hb dXF_isOfClass_1 (by decide) (fun c1 => ?_) (fun c1 => ?_)
  · have hf := zn c1 hf
    have hg := zgn c1 hg
    refine lv_iload_n hx hb dXF_isOfClass_27 rfl (lv_at hl 1 rfl) ?_
    refine lv_bipush (v := 32) hx hb dXF_isOfClass_28 (by decide) ?_
    refine lv_imul hx hb dXF_isOfClass_30 ?_
    refine lv_aload_n hx hb dXF_isOfClass_31 rfl (lv_at hl 0 rfl) ?_
    refine va_get (D := D) (ci := 1) (v := .ref (a 3)) (C := RXF) (T := TXF) (N := 5) hx hb hts (fun w h9 => zc (inXF w h9)) hown hK hP 1 rfl rfl 1 (by decide) (hts _ (zc m_32)) (fun _ h9 => h9) rfl dXF_isOfClass_32 ?_
    refine lv_iload_n hx hb dXF_isOfClass_35 rfl (lv_at hl 1 rfl) ?_
    obtain ⟨h2, hg⟩ := hg
    refine va_iald hx hb hK hP 3 0 rfl rfl h2 dXF_isOfClass_36 ?_
    refine lv_iadd hx hb dXF_isOfClass_37 ?_
    refine lv_istore_n (lv' := [(3, .int ((p0 * 32) + ((Xg_fields_size u) p0.toNatClampNeg))), (0, .ref (a 1)), (1, .int p0), (2, .int p1)]) hx hb dXF_isOfClass_38 rfl hl (by decide) rfl (fun ls hl => ?_)
    refine lv_iload_n hx hb dXF_isOfClass_39 rfl (lv_at hl 2 rfl) ?_
    refine lv_bipush (v := 32) hx hb dXF_isOfClass_40 (by decide) ?_
    refine lv_imul hx hb dXF_isOfClass_42 ?_
    refine lv_istore (lv' := [(4, .int (p0 * 32)), (3, .int ((p0 * 32) + ((Xg_fields_size u) p0.toNatClampNeg))), (0, .ref (a 1)), (1, .int p0), (2, .int p1)]) hx hb dXF_isOfClass_43 hl (by decide) rfl (fun ls hl => ?_)
    exact kXF_isOfClass_45 hI C0 (tgt := tgt) 1000 u (p0 * 32) ((p0 * 32) + ((Xg_fields_size u) p0.toNatClampNeg)) p0 p1 hf hg _ _ hP hS ⟨rfl, rfl⟩ _ (lv_sub hl [0, 1, 2, 3, 4] rfl)
  · have hf := zt c1 hf
    have hg := zgt c1 hg
    refine lv_aload_n hx hb dXF_isOfClass_4 rfl (lv_at hl 0 rfl) ?_
    refine va_get (D := D) (ci := 1) (v := .ref (a 2)) (C := RXF) (T := TXF) (N := 5) hx hb hts (fun w h9 => zc (inXF w h9)) hown hK hP 1 rfl rfl 0 (by decide) (hts _ (zc m_31)) (fun _ h9 => h9) rfl dXF_isOfClass_5 ?_
    refine lv_iload_n hx hb dXF_isOfClass_8 rfl (lv_at hl 1 rfl) ?_
    obtain ⟨h3, hg⟩ := hg
    refine va_iald hx hb hK hP 2 0 rfl rfl h3 dXF_isOfClass_9 ?_
    refine lv_if_eq (tgt := 27) hx hb dXF_isOfClass_10 (by decide) (fun c4 => ?_) (fun c4 => ?_)
    · have hf := zt c4 hf
      have hg := zgt c4 hg
      refine lv_iload_n hx hb dXF_isOfClass_27 rfl (lv_at hl 1 rfl) ?_
      refine lv_bipush (v := 32) hx hb dXF_isOfClass_28 (by decide) ?_
      refine lv_imul hx hb dXF_isOfClass_30 ?_
      refine lv_aload_n hx hb dXF_isOfClass_31 rfl (lv_at hl 0 rfl) ?_
      refine va_get (D := D) (ci := 1) (v := .ref (a 3)) (C := RXF) (T := TXF) (N := 5) hx hb hts (fun w h9 => zc (inXF w h9)) hown hK hP 1 rfl rfl 1 (by decide) (hts _ (zc m_32)) (fun _ h9 => h9) rfl dXF_isOfClass_32 ?_
      refine lv_iload_n hx hb dXF_isOfClass_35 rfl (lv_at hl 1 rfl) ?_
      obtain ⟨h5, hg⟩ := hg
      refine va_iald hx hb hK hP 3 0 rfl rfl h5 dXF_isOfClass_36 ?_
      refine lv_iadd hx hb dXF_isOfClass_37 ?_
      refine lv_istore_n (lv' := [(3, .int ((p0 * 32) + ((Xg_fields_size u) p0.toNatClampNeg))), (0, .ref (a 1)), (1, .int p0), (2, .int p1)]) hx hb dXF_isOfClass_38 rfl hl (by decide) rfl (fun ls hl => ?_)
      refine lv_iload_n hx hb dXF_isOfClass_39 rfl (lv_at hl 2 rfl) ?_
      refine lv_bipush (v := 32) hx hb dXF_isOfClass_40 (by decide) ?_
      refine lv_imul hx hb dXF_isOfClass_42 ?_
      refine lv_istore (lv' := [(4, .int (p0 * 32)), (3, .int ((p0 * 32) + ((Xg_fields_size u) p0.toNatClampNeg))), (0, .ref (a 1)), (1, .int p0), (2, .int p1)]) hx hb dXF_isOfClass_43 hl (by decide) rfl (fun ls hl => ?_)
      exact kXF_isOfClass_45 hI C0 (tgt := tgt) 1000 u (p0 * 32) ((p0 * 32) + ((Xg_fields_size u) p0.toNatClampNeg)) p0 p1 hf hg _ _ hP hS ⟨rfl, rfl⟩ _ (lv_sub hl [0, 1, 2, 3, 4] rfl)
    · have hf := zn c4 hf
      have hg := zgn c4 hg
      refine lv_aload_n hx hb dXF_isOfClass_13 rfl (lv_at hl 0 rfl) ?_
      refine lv_iload_n hx hb dXF_isOfClass_14 rfl (lv_at hl 1 rfl) ?_
      obtain ⟨h6, hg⟩ := hg
      refine vp_callSi (W.runV (As := [.int p0]) (rest := []) ⟨hx, hb, hml, hown, hts⟩ (tXF_isBad l hI u p0 h6) (cwV 1 hts (zgV m_468 m_469 m_470 m_2 m_471) rfl rfl rfl (by decide +kernel) ⟨Nat.le_of_ble_eq_true rfl, Nat.le_of_ble_eq_true rfl⟩) (zpre hP hE hS.2.1 (va_recv hK hP (ci := 1) (q0 := 1) rfl rfl)) rfl rfl hl.1 rfl (lv_room (Nat.le_of_ble_eq_true rfl)) dXF_isOfClass_15 ⟨Nat.zero_le _, Nat.zero_le _⟩) (fun r9 hr9 => ?_)
      subst hr9
      refine lv_if_ne (tgt := 25) hx hb dXF_isOfClass_18 (by decide) (fun c7 => ?_) (fun c7 => ?_)
      · have hf := zn c7 hf
        refine lv_iconst (v := 0) hx hb dXF_isOfClass_25 (by decide) ?_
        exact W.zret (v := 0) (ty := .boolean) hx hb hr rfl (fun t ht hW => ⟨_, rfl, hf, ht⟩) (fun _ h9 => nomatch h9) dXF_isOfClass_26
      · have hf := zt c7 hf
        refine lv_iconst (v := 1) hx hb dXF_isOfClass_21 (by decide) ?_
        refine lv_goto (tgt := 26) hx hb dXF_isOfClass_22 (by decide) ?_
        exact W.zret (v := 1) (ty := .boolean) hx hb hr rfl (fun t ht hW => ⟨_, rfl, hf, ht⟩) (fun _ h9 => nomatch h9) dXF_isOfClass_26
theorem dXF_binaryValue_0 : decode cXF_binaryValue 0 = .ok (.iload_n 1, 1) := by decide +kernel
theorem dXF_binaryValue_1 : decode cXF_binaryValue 1 = .ok (.bipush 32, 2) := by decide +kernel
theorem dXF_binaryValue_3 : decode cXF_binaryValue 3 = .ok (.imul, 1) := by decide +kernel
theorem dXF_binaryValue_4 : decode cXF_binaryValue 4 = .ok (.istore_n 2, 1) := by decide +kernel
theorem dXF_binaryValue_5 : decode cXF_binaryValue 5 = .ok (.aload_n 0, 1) := by decide +kernel
theorem dXF_binaryValue_6 : decode cXF_binaryValue 6 = .ok (.getfield 21, 3) := by decide +kernel
theorem dXF_binaryValue_9 : decode cXF_binaryValue 9 = .ok (.iload_n 2, 1) := by decide +kernel
theorem dXF_binaryValue_10 : decode cXF_binaryValue 10 = .ok (.iaload, 1) := by decide +kernel
theorem dXF_binaryValue_11 : decode cXF_binaryValue 11 = .ok (.sipush 128, 3) := by decide +kernel
theorem dXF_binaryValue_14 : decode cXF_binaryValue 14 = .ok (.if_icmp .lt 9, 3) := by decide +kernel
theorem dXF_binaryValue_17 : decode cXF_binaryValue 17 = .ok (.ldc2_w 58, 3) := by decide +kernel
theorem dXF_binaryValue_20 : decode cXF_binaryValue 20 = .ok (.goto 4, 3) := by decide +kernel
theorem dXF_binaryValue_23 : decode cXF_binaryValue 23 = .ok (.lconst 0, 1) := by decide +kernel
theorem dXF_binaryValue_24 : decode cXF_binaryValue 24 = .ok (.lstore_n 3, 1) := by decide +kernel
theorem dXF_binaryValue_25 : decode cXF_binaryValue 25 = .ok (.iload_n 2, 1) := by decide +kernel
theorem dXF_binaryValue_26 : decode cXF_binaryValue 26 = .ok (.istore 5, 2) := by decide +kernel
theorem dXF_binaryValue_28 : decode cXF_binaryValue 28 = .ok (.iload 5, 2) := by decide +kernel
theorem dXF_binaryValue_30 : decode cXF_binaryValue 30 = .ok (.iload_n 2, 1) := by decide +kernel
theorem dXF_binaryValue_31 : decode cXF_binaryValue 31 = .ok (.aload_n 0, 1) := by decide +kernel
theorem dXF_binaryValue_32 : decode cXF_binaryValue 32 = .ok (.getfield 15, 3) := by decide +kernel
theorem dXF_binaryValue_35 : decode cXF_binaryValue 35 = .ok (.iload_n 1, 1) := by decide +kernel
theorem dXF_binaryValue_36 : decode cXF_binaryValue 36 = .ok (.iaload, 1) := by decide +kernel
theorem dXF_binaryValue_37 : decode cXF_binaryValue 37 = .ok (.iadd, 1) := by decide +kernel
theorem dXF_binaryValue_38 : decode cXF_binaryValue 38 = .ok (.if_icmp .ge 23, 3) := by decide +kernel
theorem dXF_binaryValue_41 : decode cXF_binaryValue 41 = .ok (.lload_n 3, 1) := by decide +kernel
theorem dXF_binaryValue_42 : decode cXF_binaryValue 42 = .ok (.bipush 8, 2) := by decide +kernel
theorem dXF_binaryValue_44 : decode cXF_binaryValue 44 = .ok (.lshl, 1) := by decide +kernel
theorem dXF_binaryValue_45 : decode cXF_binaryValue 45 = .ok (.aload_n 0, 1) := by decide +kernel
theorem dXF_binaryValue_46 : decode cXF_binaryValue 46 = .ok (.getfield 21, 3) := by decide +kernel
theorem dXF_binaryValue_49 : decode cXF_binaryValue 49 = .ok (.iload 5, 2) := by decide +kernel
theorem dXF_binaryValue_51 : decode cXF_binaryValue 51 = .ok (.iaload, 1) := by decide +kernel
theorem dXF_binaryValue_52 : decode cXF_binaryValue 52 = .ok (.i2l, 1) := by decide +kernel
theorem dXF_binaryValue_53 : decode cXF_binaryValue 53 = .ok (.lor, 1) := by decide +kernel
theorem dXF_binaryValue_54 : decode cXF_binaryValue 54 = .ok (.lstore_n 3, 1) := by decide +kernel
theorem dXF_binaryValue_55 : decode cXF_binaryValue 55 = .ok (.iinc 5 1, 3) := by decide +kernel
theorem dXF_binaryValue_58 : decode cXF_binaryValue 58 = .ok (.goto (-30), 3) := by decide +kernel
theorem dXF_binaryValue_61 : decode cXF_binaryValue 61 = .ok (.lload_n 3, 1) := by decide +kernel
theorem dXF_binaryValue_62 : decode cXF_binaryValue 62 = .ok (.lreturn, 1) := by decide +kernel
abbrev wsXF_binaryValue : List Cond := Cond.code yXF_binaryValue cXF_binaryValue 6 (some .long) :: zWords
def LXF_binaryValue_28 : Nat → XS → Int32 → Int64 → Int32 → Int32 → Int64
  | 0, _, _, _, _, _ => 0
  | n + 1, u, x5, x3, x2, x1 => (if (x2 + ((Xg_fields_size u) x1.toNatClampNeg)) ≤ x5 then x3 else (LXF_binaryValue_28 n u (x5 + 1) ((x3 <<< ((8 : Int32).toInt64 &&& 63)) ||| ((((Xg_fields_bytes u) x5.toNatClampNeg) : Int32).toInt64)) x2 x1))
def MXF_binaryValue_28 : Nat → XS → Int32 → Int64 → Int32 → Int32 → Prop
  | 0, _, _, _, _, _ => False
  | n + 1, u, x5, x3, x2, x1 => (vp_in x1 40 ∧ (if (x2 + ((Xg_fields_size u) x1.toNatClampNeg)) ≤ x5 then True else (vp_in x5 1280 ∧ (MXF_binaryValue_28 n u (x5 + 1) ((x3 <<< ((8 : Int32).toInt64 &&& 63)) ||| ((((Xg_fields_bytes u) x5.toNatClampNeg) : Int32).toInt64)) x2 x1))))
def FXF_binaryValue (u : XS) (p0 : Int32) : Int64 := (if ((Xg_fields_bytes u) (p0 * 32).toNatClampNeg) < 128 then (LXF_binaryValue_28 1000 u (p0 * 32) 0 (p0 * 32) p0) else (LXF_binaryValue_28 1000 u (p0 * 32) (-1) (p0 * 32) p0))
def GXF_binaryValue (u : XS) (p0 : Int32) : Prop := (vp_in (p0 * 32) 1280 ∧ (if ((Xg_fields_bytes u) (p0 * 32).toNatClampNeg) < 128 then (MXF_binaryValue_28 1000 u (p0 * 32) 0 (p0 * 32) p0) else (MXF_binaryValue_28 1000 u (p0 * 32) (-1) (p0 * 32) p0)))
set_option maxHeartbeats 4000000 in
set_option maxRecDepth 100000 in
theorem kXF_binaryValue_28 {p : Program} {l : Launch} {e : Env} {s : State} {m : MethodId} {args : Array Value} {below : List Frame} {meth : Method} {c : Code} {D : va_G} {k : zK} {a : Nat → Nat} (hI : zI 29 a) (C0 : zC p s m args meth c cXF_binaryValue (some .long) 6 RXF wsXF_binaryValue D k (zA 29 a)) {tgt : Int64} : ∀ (n : Nat) (u : XS) (x5 : Int32) (x3 : Int64) (x2 : Int32) (x1 : Int32), LXF_binaryValue_28 n u x5 x3 x2 x1 = tgt → MXF_binaryValue_28 n u x5 x3 x2 x1 → ∀ (H : Heap) (locs : List Loc), va_P D vwCl (wX k a u) H → va_S (zA 29 a) s.heap H locs → H = s.heap ∧ locs = [] → ∀ (ls : Array Slot), lv_has ls 6 [(5, .int x5), (3, .long x3), (2, .int x2), (0, .ref (a 1)), (1, .int x1)] → W p l e (headSpec wsXF_binaryValue ({ frames := 0, cells := 0, slots := 0, locals := 0 })).room s m args below meth c H locs 0 0 (MQ below (vp_Sl (fun r9 => r9 = tgt)) args s 0 0 (fun _ => False)) (F0 m 28 ls []) := by
  obtain ⟨hx, hb, hr, hml, hown, hts, hlocks, hE⟩ := id C0
  have hK := hE.1
  intro n
  induction n with
  | zero =>
    intro u x5 x3 x2 x1 _ hg
    exact False.elim hg
  | succ n ih =>
    intro u x5 x3 x2 x1 hf hg H locs hP hS hq ls hl
    obtain ⟨rfl, rfl⟩ := hq
    change ((if (x2 + ((Xg_fields_size u) x1.toNatClampNeg)) ≤ x5 then x3 else (LXF_binaryValue_28 n u (x5 + 1) ((x3 <<< ((8 : Int32).toInt64 &&& 63)) ||| ((((Xg_fields_bytes u) x5.toNatClampNeg) : Int32).toInt64)) x2 x1)) : Int64) = tgt at hf
    change (vp_in x1 40 ∧ (if (x2 + ((Xg_fields_size u) x1.toNatClampNeg)) ≤ x5 then True else (vp_in x5 1280 ∧ (MXF_binaryValue_28 n u (x5 + 1) ((x3 <<< ((8 : Int32).toInt64 &&& 63)) ||| ((((Xg_fields_bytes u) x5.toNatClampNeg) : Int32).toInt64)) x2 x1)))) at hg
    refine lv_iload hx hb dXF_binaryValue_28 (lv_at hl 0 rfl) ?_
    refine lv_iload_n hx hb dXF_binaryValue_30 rfl (lv_at hl 2 rfl) ?_
    refine lv_aload_n hx hb dXF_binaryValue_31 rfl (lv_at hl 3 rfl) ?_
    refine va_get (D := D) (ci := 1) (v := .ref (a 3)) (C := RXF) (T := TXF) (N := 5) hx hb hts (fun w h9 => zc (inXF w h9)) hown hK hP 1 rfl rfl 1 (by decide) (hts _ (zc m_32)) (fun _ h9 => h9) rfl dXF_binaryValue_32 ?_
    refine lv_iload_n hx hb dXF_binaryValue_35 rfl (lv_at hl 4 rfl) ?_
    obtain ⟨h3, hg⟩ := hg
    refine va_iald hx hb hK hP 3 0 rfl rfl h3 dXF_binaryValue_36 ?_
    refine lv_iadd hx hb dXF_binaryValue_37 ?_
    refine lv_icmp_ge (tgt := 61) hx hb dXF_binaryValue_38 (by decide) (fun c4 => ?_) (fun c4 => ?_)
    · have hf := zt c4 hf
      have hg := zgt c4 hg
      refine lv_lload_n hx hb dXF_binaryValue_61 rfl (lv_at hl 1 rfl) ?_
      exact W.lret (v := x3) hx hb hr (fun t ht hW => ⟨_, rfl, hf, ht⟩) (fun _ h9 => nomatch h9) dXF_binaryValue_62
    · have hf := zn c4 hf
      have hg := zgn c4 hg
      refine lv_lload_n hx hb dXF_binaryValue_41 rfl (lv_at hl 1 rfl) ?_
      refine lv_bipush (v := 8) hx hb dXF_binaryValue_42 (by decide) ?_
      refine lv_lshl (v := (x3 <<< ((8 : Int32).toInt64 &&& 63))) hx hb dXF_binaryValue_44 rfl ?_
      refine lv_aload_n hx hb dXF_binaryValue_45 rfl (lv_at hl 3 rfl) ?_
      refine va_get (D := D) (ci := 1) (v := .ref (a 5)) (C := RXF) (T := TXF) (N := 5) hx hb hts (fun w h9 => zc (inXF w h9)) hown hK hP 1 rfl rfl 3 (by decide) (hts _ (zc m_36)) (fun _ h9 => h9) rfl dXF_binaryValue_46 ?_
      refine lv_iload hx hb dXF_binaryValue_49 (lv_at hl 0 rfl) ?_
      obtain ⟨h5, hg⟩ := hg
      refine va_iald hx hb hK hP 5 0 rfl rfl h5 dXF_binaryValue_51 ?_
      refine lv_i2l (v := (((Xg_fields_bytes u) x5.toNatClampNeg) : Int32).toInt64) hx hb dXF_binaryValue_52 rfl ?_
      refine lv_lor hx hb dXF_binaryValue_53 ?_
      refine lv_lstore_n (lv' := [(3, .long ((x3 <<< ((8 : Int32).toInt64 &&& 63)) ||| ((((Xg_fields_bytes u) x5.toNatClampNeg) : Int32).toInt64))), (5, .int x5), (2, .int x2), (0, .ref (a 1)), (1, .int x1)]) hx hb dXF_binaryValue_54 rfl hl (by decide) rfl (fun ls hl => ?_)
      refine lv_iinc (v := (x5 + 1)) (lv' := [(5, .int (x5 + 1)), (3, .long ((x3 <<< ((8 : Int32).toInt64 &&& 63)) ||| ((((Xg_fields_bytes u) x5.toNatClampNeg) : Int32).toInt64))), (2, .int x2), (0, .ref (a 1)), (1, .int x1)]) hx hb dXF_binaryValue_55 hl (k := 1) rfl rfl (by decide) rfl (fun ls hl => ?_)
      refine lv_goto (tgt := 28) hx hb dXF_binaryValue_58 (by decide) ?_
      exact ih u (x5 + 1) ((x3 <<< ((8 : Int32).toInt64 &&& 63)) ||| ((((Xg_fields_bytes u) x5.toNatClampNeg) : Int32).toInt64)) x2 x1 hf hg _ _ hP hS ⟨rfl, rfl⟩ _ (lv_sub hl [0, 1, 2, 3, 4] rfl)
set_option maxHeartbeats 4000000 in
set_option maxRecDepth 100000 in
theorem tXF_binaryValue (l : Launch) {D : va_G} {k : zK} {a : Nat → Nat} (hI : zI 29 a) (u : XS) (p0 : Int32) (hg : GXF_binaryValue u p0) : Met l yXF_binaryValue wsXF_binaryValue ({ frames := 0, cells := 0, slots := 0, locals := 0 }) (zPc D k (zA 29 a) (wX k a u) [.ref (a 1), .int p0]) (vp_Sl (fun r9 => r9 = (FXF_binaryValue u p0))) 0 0 (fun _ => False) := by
  refine Met.ofW (cc := cXF_binaryValue) (maxL := 6) (ret := (some .long)) (by decide) rfl ?_
  intro p e s m args below meth c s₁ B hml hv
  obtain ⟨rfl, hP, hE⟩ := hv
  have hts := atoms_spec (ws := wsXF_binaryValue) B.pre
  have C0 : zC p s m _ meth c cXF_binaryValue (some .long) 6 RXF wsXF_binaryValue D k (zA 29 a) := ⟨B.exec, B.bytes, B.returns, hml, findClass_of_methodNamed B.named, hts, B.notSynchronized, hE⟩
  obtain ⟨hx, hb, hr, hml, hown, _, hlocks, _⟩ := id C0
  have hK := hE.1
  have hS : va_S (zA 29 a) s.heap s.heap [] := va_S.rf
  generalize hf : FXF_binaryValue u p0 = tgt
  change ((if ((Xg_fields_bytes u) (p0 * 32).toNatClampNeg) < 128 then (LXF_binaryValue_28 1000 u (p0 * 32) 0 (p0 * 32) p0) else (LXF_binaryValue_28 1000 u (p0 * 32) (-1) (p0 * 32) p0)) : Int64) = tgt at hf
  change (vp_in (p0 * 32) 1280 ∧ (if ((Xg_fields_bytes u) (p0 * 32).toNatClampNeg) < 128 then (MXF_binaryValue_28 1000 u (p0 * 32) 0 (p0 * 32) p0) else (MXF_binaryValue_28 1000 u (p0 * 32) (-1) (p0 * 32) p0))) at hg
  have hl := lv_entry ([.ref (a 1), .int p0]) (n := 6) (Nat.le_of_ble_eq_true rfl)
  rw [lg_entry_eq]
  generalize (lg_sl ([.ref (a 1), .int p0]) ++ List.replicate (6 - (lg_sl ([.ref (a 1), .int p0])).length) Slot.unset).toArray = ls at hl ⊢
  have hl : lv_has ls 6 [(0, .ref (a 1)), (1, .int p0)] := hl
  refine lv_iload_n hx hb dXF_binaryValue_0 rfl (lv_at hl 1 rfl) ?_
  refine lv_bipush (v := 32) hx hb dXF_binaryValue_1 (by decide) ?_
  refine lv_imul hx hb dXF_binaryValue_3 ?_
  refine lv_istore_n (lv' := [(2, .int (p0 * 32)), (0, .ref (a 1)), (1, .int p0)]) hx hb dXF_binaryValue_4 rfl hl (by decide) rfl (fun ls hl => ?_)
  refine lv_aload_n hx hb dXF_binaryValue_5 rfl (lv_at hl 1 rfl) ?_
  refine va_get (D := D) (ci := 1) (v := .ref (a 5)) (C := RXF) (T := TXF) (N := 5) hx hb hts (fun w h9 => zc (inXF w h9)) hown hK hP 1 rfl rfl 3 (by decide) (hts _ (zc m_36)) (fun _ h9 => h9) rfl dXF_binaryValue_6 ?_
  refine lv_iload_n hx hb dXF_binaryValue_9 rfl (lv_at hl 0 rfl) ?_
  obtain ⟨h1, hg⟩ := hg
  refine va_iald hx hb hK hP 5 0 rfl rfl h1 dXF_binaryValue_10 ?_
  refine lv_sipush (v := 128) hx hb dXF_binaryValue_11 (by decide) ?_
  refine lv_icmp_lt (tgt := 23) hx hb dXF_binaryValue_14 (by decide) (fun c2 => ?_) (fun c2 => ?_)
  · have hf := zt c2 hf
    have hg := zgt c2 hg
    refine lv_lconst (v := 0) hx hb dXF_binaryValue_23 (by decide) ?_
    refine lv_lstore_n (lv' := [(3, .long 0), (2, .int (p0 * 32)), (0, .ref (a 1)), (1, .int p0)]) hx hb dXF_binaryValue_24 rfl hl (by decide) rfl (fun ls hl => ?_)
    refine lv_iload_n hx hb dXF_binaryValue_25 rfl (lv_at hl 1 rfl) ?_
    refine lv_istore (lv' := [(5, .int (p0 * 32)), (3, .long 0), (2, .int (p0 * 32)), (0, .ref (a 1)), (1, .int p0)]) hx hb dXF_binaryValue_26 hl (by decide) rfl (fun ls hl => ?_)
    exact kXF_binaryValue_28 hI C0 (tgt := tgt) 1000 u (p0 * 32) 0 (p0 * 32) p0 hf hg _ _ hP hS ⟨rfl, rfl⟩ _ (lv_sub hl [0, 1, 2, 3, 4] rfl)
  · have hf := zn c2 hf
    have hg := zgn c2 hg
    refine lv_ldc2 (v := (-1)) hx hb hown (hts _ (zc m_495)) dXF_binaryValue_17 ?_
    refine lv_goto (tgt := 24) hx hb dXF_binaryValue_20 (by decide) ?_
    refine lv_lstore_n (lv' := [(3, .long (-1)), (2, .int (p0 * 32)), (0, .ref (a 1)), (1, .int p0)]) hx hb dXF_binaryValue_24 rfl hl (by decide) rfl (fun ls hl => ?_)
    refine lv_iload_n hx hb dXF_binaryValue_25 rfl (lv_at hl 1 rfl) ?_
    refine lv_istore (lv' := [(5, .int (p0 * 32)), (3, .long (-1)), (2, .int (p0 * 32)), (0, .ref (a 1)), (1, .int p0)]) hx hb dXF_binaryValue_26 hl (by decide) rfl (fun ls hl => ?_)
    exact kXF_binaryValue_28 hI C0 (tgt := tgt) 1000 u (p0 * 32) (-1) (p0 * 32) p0 hf hg _ _ hP hS ⟨rfl, rfl⟩ _ (lv_sub hl [0, 1, 2, 3, 4] rfl)
theorem dXF_digitsValue_0 : decode cXF_digitsValue 0 = .ok (.iload_n 1, 1) := by decide +kernel
theorem dXF_digitsValue_1 : decode cXF_digitsValue 1 = .ok (.bipush 32, 2) := by decide +kernel
theorem dXF_digitsValue_3 : decode cXF_digitsValue 3 = .ok (.imul, 1) := by decide +kernel
theorem dXF_digitsValue_4 : decode cXF_digitsValue 4 = .ok (.aload_n 0, 1) := by decide +kernel
theorem dXF_digitsValue_5 : decode cXF_digitsValue 5 = .ok (.getfield 15, 3) := by decide +kernel
theorem dXF_digitsValue_8 : decode cXF_digitsValue 8 = .ok (.iload_n 1, 1) := by decide +kernel
theorem dXF_digitsValue_9 : decode cXF_digitsValue 9 = .ok (.iaload, 1) := by decide +kernel
theorem dXF_digitsValue_10 : decode cXF_digitsValue 10 = .ok (.iadd, 1) := by decide +kernel
theorem dXF_digitsValue_11 : decode cXF_digitsValue 11 = .ok (.iconst 1, 1) := by decide +kernel
theorem dXF_digitsValue_12 : decode cXF_digitsValue 12 = .ok (.isub, 1) := by decide +kernel
theorem dXF_digitsValue_13 : decode cXF_digitsValue 13 = .ok (.istore_n 2, 1) := by decide +kernel
theorem dXF_digitsValue_14 : decode cXF_digitsValue 14 = .ok (.lconst 0, 1) := by decide +kernel
theorem dXF_digitsValue_15 : decode cXF_digitsValue 15 = .ok (.lstore_n 3, 1) := by decide +kernel
theorem dXF_digitsValue_16 : decode cXF_digitsValue 16 = .ok (.iload_n 1, 1) := by decide +kernel
theorem dXF_digitsValue_17 : decode cXF_digitsValue 17 = .ok (.bipush 32, 2) := by decide +kernel
theorem dXF_digitsValue_19 : decode cXF_digitsValue 19 = .ok (.imul, 1) := by decide +kernel
theorem dXF_digitsValue_20 : decode cXF_digitsValue 20 = .ok (.istore 5, 2) := by decide +kernel
theorem dXF_digitsValue_22 : decode cXF_digitsValue 22 = .ok (.iload 5, 2) := by decide +kernel
theorem dXF_digitsValue_24 : decode cXF_digitsValue 24 = .ok (.iload_n 2, 1) := by decide +kernel
theorem dXF_digitsValue_25 : decode cXF_digitsValue 25 = .ok (.if_icmp .ge 27, 3) := by decide +kernel
theorem dXF_digitsValue_28 : decode cXF_digitsValue 28 = .ok (.lload_n 3, 1) := by decide +kernel
theorem dXF_digitsValue_29 : decode cXF_digitsValue 29 = .ok (.ldc2_w 56, 3) := by decide +kernel
theorem dXF_digitsValue_32 : decode cXF_digitsValue 32 = .ok (.lmul, 1) := by decide +kernel
theorem dXF_digitsValue_33 : decode cXF_digitsValue 33 = .ok (.aload_n 0, 1) := by decide +kernel
theorem dXF_digitsValue_34 : decode cXF_digitsValue 34 = .ok (.getfield 21, 3) := by decide +kernel
theorem dXF_digitsValue_37 : decode cXF_digitsValue 37 = .ok (.iload 5, 2) := by decide +kernel
theorem dXF_digitsValue_39 : decode cXF_digitsValue 39 = .ok (.iaload, 1) := by decide +kernel
theorem dXF_digitsValue_40 : decode cXF_digitsValue 40 = .ok (.bipush 48, 2) := by decide +kernel
theorem dXF_digitsValue_42 : decode cXF_digitsValue 42 = .ok (.isub, 1) := by decide +kernel
theorem dXF_digitsValue_43 : decode cXF_digitsValue 43 = .ok (.i2l, 1) := by decide +kernel
theorem dXF_digitsValue_44 : decode cXF_digitsValue 44 = .ok (.ladd, 1) := by decide +kernel
theorem dXF_digitsValue_45 : decode cXF_digitsValue 45 = .ok (.lstore_n 3, 1) := by decide +kernel
theorem dXF_digitsValue_46 : decode cXF_digitsValue 46 = .ok (.iinc 5 1, 3) := by decide +kernel
theorem dXF_digitsValue_49 : decode cXF_digitsValue 49 = .ok (.goto (-27), 3) := by decide +kernel
theorem dXF_digitsValue_52 : decode cXF_digitsValue 52 = .ok (.aload_n 0, 1) := by decide +kernel
theorem dXF_digitsValue_53 : decode cXF_digitsValue 53 = .ok (.getfield 21, 3) := by decide +kernel
theorem dXF_digitsValue_56 : decode cXF_digitsValue 56 = .ok (.iload_n 2, 1) := by decide +kernel
theorem dXF_digitsValue_57 : decode cXF_digitsValue 57 = .ok (.iaload, 1) := by decide +kernel
theorem dXF_digitsValue_58 : decode cXF_digitsValue 58 = .ok (.bipush 57, 2) := by decide +kernel
theorem dXF_digitsValue_60 : decode cXF_digitsValue 60 = .ok (.if_icmp .le 24, 3) := by decide +kernel
theorem dXF_digitsValue_63 : decode cXF_digitsValue 63 = .ok (.lload_n 3, 1) := by decide +kernel
theorem dXF_digitsValue_64 : decode cXF_digitsValue 64 = .ok (.ldc2_w 56, 3) := by decide +kernel
theorem dXF_digitsValue_67 : decode cXF_digitsValue 67 = .ok (.lmul, 1) := by decide +kernel
theorem dXF_digitsValue_68 : decode cXF_digitsValue 68 = .ok (.aload_n 0, 1) := by decide +kernel
theorem dXF_digitsValue_69 : decode cXF_digitsValue 69 = .ok (.getfield 21, 3) := by decide +kernel
theorem dXF_digitsValue_72 : decode cXF_digitsValue 72 = .ok (.iload_n 2, 1) := by decide +kernel
theorem dXF_digitsValue_73 : decode cXF_digitsValue 73 = .ok (.iaload, 1) := by decide +kernel
theorem dXF_digitsValue_74 : decode cXF_digitsValue 74 = .ok (.bipush 64, 2) := by decide +kernel
theorem dXF_digitsValue_76 : decode cXF_digitsValue 76 = .ok (.isub, 1) := by decide +kernel
theorem dXF_digitsValue_77 : decode cXF_digitsValue 77 = .ok (.bipush 48, 2) := by decide +kernel
theorem dXF_digitsValue_79 : decode cXF_digitsValue 79 = .ok (.isub, 1) := by decide +kernel
theorem dXF_digitsValue_80 : decode cXF_digitsValue 80 = .ok (.i2l, 1) := by decide +kernel
theorem dXF_digitsValue_81 : decode cXF_digitsValue 81 = .ok (.ladd, 1) := by decide +kernel
theorem dXF_digitsValue_82 : decode cXF_digitsValue 82 = .ok (.lneg, 1) := by decide +kernel
theorem dXF_digitsValue_83 : decode cXF_digitsValue 83 = .ok (.lreturn, 1) := by decide +kernel
theorem dXF_digitsValue_84 : decode cXF_digitsValue 84 = .ok (.lload_n 3, 1) := by decide +kernel
theorem dXF_digitsValue_85 : decode cXF_digitsValue 85 = .ok (.ldc2_w 56, 3) := by decide +kernel
theorem dXF_digitsValue_88 : decode cXF_digitsValue 88 = .ok (.lmul, 1) := by decide +kernel
theorem dXF_digitsValue_89 : decode cXF_digitsValue 89 = .ok (.aload_n 0, 1) := by decide +kernel
theorem dXF_digitsValue_90 : decode cXF_digitsValue 90 = .ok (.getfield 21, 3) := by decide +kernel
theorem dXF_digitsValue_93 : decode cXF_digitsValue 93 = .ok (.iload_n 2, 1) := by decide +kernel
theorem dXF_digitsValue_94 : decode cXF_digitsValue 94 = .ok (.iaload, 1) := by decide +kernel
theorem dXF_digitsValue_95 : decode cXF_digitsValue 95 = .ok (.bipush 48, 2) := by decide +kernel
theorem dXF_digitsValue_97 : decode cXF_digitsValue 97 = .ok (.isub, 1) := by decide +kernel
theorem dXF_digitsValue_98 : decode cXF_digitsValue 98 = .ok (.i2l, 1) := by decide +kernel
theorem dXF_digitsValue_99 : decode cXF_digitsValue 99 = .ok (.ladd, 1) := by decide +kernel
theorem dXF_digitsValue_100 : decode cXF_digitsValue 100 = .ok (.lreturn, 1) := by decide +kernel
abbrev wsXF_digitsValue : List Cond := Cond.code yXF_digitsValue cXF_digitsValue 6 (some .long) :: zWords
def LXF_digitsValue_22 : Nat → XS → Int32 → Int64 → Int32 → Int32 → Int64
  | 0, _, _, _, _, _ => 0
  | n + 1, u, x5, x3, x2, x1 => (if x2 ≤ x5 then (if ((Xg_fields_bytes u) x2.toNatClampNeg) ≤ 57 then ((x3 * 10) + (((((Xg_fields_bytes u) x2.toNatClampNeg) - 48) : Int32).toInt64)) else (-((x3 * 10) + ((((((Xg_fields_bytes u) x2.toNatClampNeg) - 64) - 48) : Int32).toInt64)))) else (LXF_digitsValue_22 n u (x5 + 1) ((x3 * 10) + (((((Xg_fields_bytes u) x5.toNatClampNeg) - 48) : Int32).toInt64)) x2 x1))
def MXF_digitsValue_22 : Nat → XS → Int32 → Int64 → Int32 → Int32 → Prop
  | 0, _, _, _, _, _ => False
  | n + 1, u, x5, x3, x2, x1 => (if x2 ≤ x5 then (vp_in x2 1280 ∧ (if ((Xg_fields_bytes u) x2.toNatClampNeg) ≤ 57 then (vp_in x2 1280 ∧ True) else (vp_in x2 1280 ∧ True))) else (vp_in x5 1280 ∧ (MXF_digitsValue_22 n u (x5 + 1) ((x3 * 10) + (((((Xg_fields_bytes u) x5.toNatClampNeg) - 48) : Int32).toInt64)) x2 x1)))
def FXF_digitsValue (u : XS) (p0 : Int32) : Int64 := (LXF_digitsValue_22 1000 u (p0 * 32) 0 (((p0 * 32) + ((Xg_fields_size u) p0.toNatClampNeg)) - 1) p0)
def GXF_digitsValue (u : XS) (p0 : Int32) : Prop := (vp_in p0 40 ∧ (MXF_digitsValue_22 1000 u (p0 * 32) 0 (((p0 * 32) + ((Xg_fields_size u) p0.toNatClampNeg)) - 1) p0))
set_option maxHeartbeats 4000000 in
set_option maxRecDepth 100000 in
theorem kXF_digitsValue_22 {p : Program} {l : Launch} {e : Env} {s : State} {m : MethodId} {args : Array Value} {below : List Frame} {meth : Method} {c : Code} {D : va_G} {k : zK} {a : Nat → Nat} (hI : zI 29 a) (C0 : zC p s m args meth c cXF_digitsValue (some .long) 6 RXF wsXF_digitsValue D k (zA 29 a)) {tgt : Int64} : ∀ (n : Nat) (u : XS) (x5 : Int32) (x3 : Int64) (x2 : Int32) (x1 : Int32), LXF_digitsValue_22 n u x5 x3 x2 x1 = tgt → MXF_digitsValue_22 n u x5 x3 x2 x1 → ∀ (H : Heap) (locs : List Loc), va_P D vwCl (wX k a u) H → va_S (zA 29 a) s.heap H locs → H = s.heap ∧ locs = [] → ∀ (ls : Array Slot), lv_has ls 6 [(5, .int x5), (3, .long x3), (2, .int x2), (0, .ref (a 1)), (1, .int x1)] → W p l e (headSpec wsXF_digitsValue ({ frames := 0, cells := 0, slots := 0, locals := 0 })).room s m args below meth c H locs 0 0 (MQ below (vp_Sl (fun r9 => r9 = tgt)) args s 0 0 (fun _ => False)) (F0 m 22 ls []) := by
  obtain ⟨hx, hb, hr, hml, hown, hts, hlocks, hE⟩ := id C0
  have hK := hE.1
  intro n
  induction n with
  | zero =>
    intro u x5 x3 x2 x1 _ hg
    exact False.elim hg
  | succ n ih =>
    intro u x5 x3 x2 x1 hf hg H locs hP hS hq ls hl
    obtain ⟨rfl, rfl⟩ := hq
    change ((if x2 ≤ x5 then (if ((Xg_fields_bytes u) x2.toNatClampNeg) ≤ 57 then ((x3 * 10) + (((((Xg_fields_bytes u) x2.toNatClampNeg) - 48) : Int32).toInt64)) else (-((x3 * 10) + ((((((Xg_fields_bytes u) x2.toNatClampNeg) - 64) - 48) : Int32).toInt64)))) else (LXF_digitsValue_22 n u (x5 + 1) ((x3 * 10) + (((((Xg_fields_bytes u) x5.toNatClampNeg) - 48) : Int32).toInt64)) x2 x1)) : Int64) = tgt at hf
    change (if x2 ≤ x5 then (vp_in x2 1280 ∧ (if ((Xg_fields_bytes u) x2.toNatClampNeg) ≤ 57 then (vp_in x2 1280 ∧ True) else (vp_in x2 1280 ∧ True))) else (vp_in x5 1280 ∧ (MXF_digitsValue_22 n u (x5 + 1) ((x3 * 10) + (((((Xg_fields_bytes u) x5.toNatClampNeg) - 48) : Int32).toInt64)) x2 x1))) at hg
    refine lv_iload hx hb dXF_digitsValue_22 (lv_at hl 0 rfl) ?_
    refine lv_iload_n hx hb dXF_digitsValue_24 rfl (lv_at hl 2 rfl) ?_
    refine lv_icmp_ge (tgt := 52) hx hb dXF_digitsValue_25 (by decide) (fun c2 => ?_) (fun c2 => ?_)
    · have hf := zt c2 hf
      have hg := zgt c2 hg
      refine lv_aload_n hx hb dXF_digitsValue_52 rfl (lv_at hl 3 rfl) ?_
      refine va_get (D := D) (ci := 1) (v := .ref (a 5)) (C := RXF) (T := TXF) (N := 5) hx hb hts (fun w h9 => zc (inXF w h9)) hown hK hP 1 rfl rfl 3 (by decide) (hts _ (zc m_36)) (fun _ h9 => h9) rfl dXF_digitsValue_53 ?_
      refine lv_iload_n hx hb dXF_digitsValue_56 rfl (lv_at hl 2 rfl) ?_
      obtain ⟨h3, hg⟩ := hg
      refine va_iald hx hb hK hP 5 0 rfl rfl h3 dXF_digitsValue_57 ?_
      refine lv_bipush (v := 57) hx hb dXF_digitsValue_58 (by decide) ?_
      refine lv_icmp_le (tgt := 84) hx hb dXF_digitsValue_60 (by decide) (fun c4 => ?_) (fun c4 => ?_)
      · have hf := zt c4 hf
        have hg := zgt c4 hg
        refine lv_lload_n hx hb dXF_digitsValue_84 rfl (lv_at hl 1 rfl) ?_
        refine lv_ldc2 (v := 10) hx hb hown (hts _ (zc m_490)) dXF_digitsValue_85 ?_
        refine lv_lmul hx hb dXF_digitsValue_88 ?_
        refine lv_aload_n hx hb dXF_digitsValue_89 rfl (lv_at hl 3 rfl) ?_
        refine va_get (D := D) (ci := 1) (v := .ref (a 5)) (C := RXF) (T := TXF) (N := 5) hx hb hts (fun w h9 => zc (inXF w h9)) hown hK hP 1 rfl rfl 3 (by decide) (hts _ (zc m_36)) (fun _ h9 => h9) rfl dXF_digitsValue_90 ?_
        refine lv_iload_n hx hb dXF_digitsValue_93 rfl (lv_at hl 2 rfl) ?_
        obtain ⟨h5, hg⟩ := hg
        refine va_iald hx hb hK hP 5 0 rfl rfl h5 dXF_digitsValue_94 ?_
        refine lv_bipush (v := 48) hx hb dXF_digitsValue_95 (by decide) ?_
        refine lv_isub hx hb dXF_digitsValue_97 ?_
        refine lv_i2l (v := ((((Xg_fields_bytes u) x2.toNatClampNeg) - 48) : Int32).toInt64) hx hb dXF_digitsValue_98 rfl ?_
        refine lv_ladd hx hb dXF_digitsValue_99 ?_
        exact W.lret (v := ((x3 * 10) + (((((Xg_fields_bytes u) x2.toNatClampNeg) - 48) : Int32).toInt64))) hx hb hr (fun t ht hW => ⟨_, rfl, hf, ht⟩) (fun _ h9 => nomatch h9) dXF_digitsValue_100
      · have hf := zn c4 hf
        have hg := zgn c4 hg
        refine lv_lload_n hx hb dXF_digitsValue_63 rfl (lv_at hl 1 rfl) ?_
        refine lv_ldc2 (v := 10) hx hb hown (hts _ (zc m_490)) dXF_digitsValue_64 ?_
        refine lv_lmul hx hb dXF_digitsValue_67 ?_
        refine lv_aload_n hx hb dXF_digitsValue_68 rfl (lv_at hl 3 rfl) ?_
        refine va_get (D := D) (ci := 1) (v := .ref (a 5)) (C := RXF) (T := TXF) (N := 5) hx hb hts (fun w h9 => zc (inXF w h9)) hown hK hP 1 rfl rfl 3 (by decide) (hts _ (zc m_36)) (fun _ h9 => h9) rfl dXF_digitsValue_69 ?_
        refine lv_iload_n hx hb dXF_digitsValue_72 rfl (lv_at hl 2 rfl) ?_
        obtain ⟨h6, hg⟩ := hg
        refine va_iald hx hb hK hP 5 0 rfl rfl h6 dXF_digitsValue_73 ?_
        refine lv_bipush (v := 64) hx hb dXF_digitsValue_74 (by decide) ?_
        refine lv_isub hx hb dXF_digitsValue_76 ?_
        refine lv_bipush (v := 48) hx hb dXF_digitsValue_77 (by decide) ?_
        refine lv_isub hx hb dXF_digitsValue_79 ?_
        refine lv_i2l (v := (((((Xg_fields_bytes u) x2.toNatClampNeg) - 64) - 48) : Int32).toInt64) hx hb dXF_digitsValue_80 rfl ?_
        refine lv_ladd hx hb dXF_digitsValue_81 ?_
        refine lv_lneg hx hb dXF_digitsValue_82 ?_
        exact W.lret (v := (-((x3 * 10) + ((((((Xg_fields_bytes u) x2.toNatClampNeg) - 64) - 48) : Int32).toInt64)))) hx hb hr (fun t ht hW => ⟨_, rfl, hf, ht⟩) (fun _ h9 => nomatch h9) dXF_digitsValue_83
    · have hf := zn c2 hf
      have hg := zgn c2 hg
      refine lv_lload_n hx hb dXF_digitsValue_28 rfl (lv_at hl 1 rfl) ?_
      refine lv_ldc2 (v := 10) hx hb hown (hts _ (zc m_490)) dXF_digitsValue_29 ?_
      refine lv_lmul hx hb dXF_digitsValue_32 ?_
      refine lv_aload_n hx hb dXF_digitsValue_33 rfl (lv_at hl 3 rfl) ?_
      refine va_get (D := D) (ci := 1) (v := .ref (a 5)) (C := RXF) (T := TXF) (N := 5) hx hb hts (fun w h9 => zc (inXF w h9)) hown hK hP 1 rfl rfl 3 (by decide) (hts _ (zc m_36)) (fun _ h9 => h9) rfl dXF_digitsValue_34 ?_
      refine lv_iload hx hb dXF_digitsValue_37 (lv_at hl 0 rfl) ?_
      obtain ⟨h7, hg⟩ := hg
      refine va_iald hx hb hK hP 5 0 rfl rfl h7 dXF_digitsValue_39 ?_
      refine lv_bipush (v := 48) hx hb dXF_digitsValue_40 (by decide) ?_
      refine lv_isub hx hb dXF_digitsValue_42 ?_
      refine lv_i2l (v := ((((Xg_fields_bytes u) x5.toNatClampNeg) - 48) : Int32).toInt64) hx hb dXF_digitsValue_43 rfl ?_
      refine lv_ladd hx hb dXF_digitsValue_44 ?_
      refine lv_lstore_n (lv' := [(3, .long ((x3 * 10) + (((((Xg_fields_bytes u) x5.toNatClampNeg) - 48) : Int32).toInt64))), (5, .int x5), (2, .int x2), (0, .ref (a 1)), (1, .int x1)]) hx hb dXF_digitsValue_45 rfl hl (by decide) rfl (fun ls hl => ?_)
      refine lv_iinc (v := (x5 + 1)) (lv' := [(5, .int (x5 + 1)), (3, .long ((x3 * 10) + (((((Xg_fields_bytes u) x5.toNatClampNeg) - 48) : Int32).toInt64))), (2, .int x2), (0, .ref (a 1)), (1, .int x1)]) hx hb dXF_digitsValue_46 hl (k := 1) rfl rfl (by decide) rfl (fun ls hl => ?_)
      refine lv_goto (tgt := 22) hx hb dXF_digitsValue_49 (by decide) ?_
      exact ih u (x5 + 1) ((x3 * 10) + (((((Xg_fields_bytes u) x5.toNatClampNeg) - 48) : Int32).toInt64)) x2 x1 hf hg _ _ hP hS ⟨rfl, rfl⟩ _ (lv_sub hl [0, 1, 2, 3, 4] rfl)
set_option maxHeartbeats 4000000 in
set_option maxRecDepth 100000 in
theorem tXF_digitsValue (l : Launch) {D : va_G} {k : zK} {a : Nat → Nat} (hI : zI 29 a) (u : XS) (p0 : Int32) (hg : GXF_digitsValue u p0) : Met l yXF_digitsValue wsXF_digitsValue ({ frames := 0, cells := 0, slots := 0, locals := 0 }) (zPc D k (zA 29 a) (wX k a u) [.ref (a 1), .int p0]) (vp_Sl (fun r9 => r9 = (FXF_digitsValue u p0))) 0 0 (fun _ => False) := by
  refine Met.ofW (cc := cXF_digitsValue) (maxL := 6) (ret := (some .long)) (by decide) rfl ?_
  intro p e s m args below meth c s₁ B hml hv
  obtain ⟨rfl, hP, hE⟩ := hv
  have hts := atoms_spec (ws := wsXF_digitsValue) B.pre
  have C0 : zC p s m _ meth c cXF_digitsValue (some .long) 6 RXF wsXF_digitsValue D k (zA 29 a) := ⟨B.exec, B.bytes, B.returns, hml, findClass_of_methodNamed B.named, hts, B.notSynchronized, hE⟩
  obtain ⟨hx, hb, hr, hml, hown, _, hlocks, _⟩ := id C0
  have hK := hE.1
  have hS : va_S (zA 29 a) s.heap s.heap [] := va_S.rf
  generalize hf : FXF_digitsValue u p0 = tgt
  change ((LXF_digitsValue_22 1000 u (p0 * 32) 0 (((p0 * 32) + ((Xg_fields_size u) p0.toNatClampNeg)) - 1) p0) : Int64) = tgt at hf
  change (vp_in p0 40 ∧ (MXF_digitsValue_22 1000 u (p0 * 32) 0 (((p0 * 32) + ((Xg_fields_size u) p0.toNatClampNeg)) - 1) p0)) at hg
  have hl := lv_entry ([.ref (a 1), .int p0]) (n := 6) (Nat.le_of_ble_eq_true rfl)
  rw [lg_entry_eq]
  generalize (lg_sl ([.ref (a 1), .int p0]) ++ List.replicate (6 - (lg_sl ([.ref (a 1), .int p0])).length) Slot.unset).toArray = ls at hl ⊢
  have hl : lv_has ls 6 [(0, .ref (a 1)), (1, .int p0)] := hl
  refine lv_iload_n hx hb dXF_digitsValue_0 rfl (lv_at hl 1 rfl) ?_
  refine lv_bipush (v := 32) hx hb dXF_digitsValue_1 (by decide) ?_
  refine lv_imul hx hb dXF_digitsValue_3 ?_
  refine lv_aload_n hx hb dXF_digitsValue_4 rfl (lv_at hl 0 rfl) ?_
  refine va_get (D := D) (ci := 1) (v := .ref (a 3)) (C := RXF) (T := TXF) (N := 5) hx hb hts (fun w h9 => zc (inXF w h9)) hown hK hP 1 rfl rfl 1 (by decide) (hts _ (zc m_32)) (fun _ h9 => h9) rfl dXF_digitsValue_5 ?_
  refine lv_iload_n hx hb dXF_digitsValue_8 rfl (lv_at hl 1 rfl) ?_
  obtain ⟨h1, hg⟩ := hg
  refine va_iald hx hb hK hP 3 0 rfl rfl h1 dXF_digitsValue_9 ?_
  refine lv_iadd hx hb dXF_digitsValue_10 ?_
  refine lv_iconst (v := 1) hx hb dXF_digitsValue_11 (by decide) ?_
  refine lv_isub hx hb dXF_digitsValue_12 ?_
  refine lv_istore_n (lv' := [(2, .int (((p0 * 32) + ((Xg_fields_size u) p0.toNatClampNeg)) - 1)), (0, .ref (a 1)), (1, .int p0)]) hx hb dXF_digitsValue_13 rfl hl (by decide) rfl (fun ls hl => ?_)
  refine lv_lconst (v := 0) hx hb dXF_digitsValue_14 (by decide) ?_
  refine lv_lstore_n (lv' := [(3, .long 0), (2, .int (((p0 * 32) + ((Xg_fields_size u) p0.toNatClampNeg)) - 1)), (0, .ref (a 1)), (1, .int p0)]) hx hb dXF_digitsValue_15 rfl hl (by decide) rfl (fun ls hl => ?_)
  refine lv_iload_n hx hb dXF_digitsValue_16 rfl (lv_at hl 3 rfl) ?_
  refine lv_bipush (v := 32) hx hb dXF_digitsValue_17 (by decide) ?_
  refine lv_imul hx hb dXF_digitsValue_19 ?_
  refine lv_istore (lv' := [(5, .int (p0 * 32)), (3, .long 0), (2, .int (((p0 * 32) + ((Xg_fields_size u) p0.toNatClampNeg)) - 1)), (0, .ref (a 1)), (1, .int p0)]) hx hb dXF_digitsValue_20 hl (by decide) rfl (fun ls hl => ?_)
  exact kXF_digitsValue_22 hI C0 (tgt := tgt) 1000 u (p0 * 32) 0 (((p0 * 32) + ((Xg_fields_size u) p0.toNatClampNeg)) - 1) p0 hf hg _ _ hP hS ⟨rfl, rfl⟩ _ (lv_sub hl [0, 1, 2, 3, 4] rfl)
theorem dXF_value_0 : decode cXF_value 0 = .ok (.aload_n 0, 1) := by decide +kernel
theorem dXF_value_1 : decode cXF_value 1 = .ok (.getfield 9, 3) := by decide +kernel
theorem dXF_value_4 : decode cXF_value 4 = .ok (.iload_n 1, 1) := by decide +kernel
theorem dXF_value_5 : decode cXF_value 5 = .ok (.iaload, 1) := by decide +kernel
theorem dXF_value_6 : decode cXF_value 6 = .ok (.iconst 1, 1) := by decide +kernel
theorem dXF_value_7 : decode cXF_value 7 = .ok (.if_icmp .ne 11, 3) := by decide +kernel
theorem dXF_value_10 : decode cXF_value 10 = .ok (.aload_n 0, 1) := by decide +kernel
theorem dXF_value_11 : decode cXF_value 11 = .ok (.iload_n 1, 1) := by decide +kernel
theorem dXF_value_12 : decode cXF_value 12 = .ok (.invokevirtual 49, 3) := by decide +kernel
theorem dXF_value_15 : decode cXF_value 15 = .ok (.goto 8, 3) := by decide +kernel
theorem dXF_value_18 : decode cXF_value 18 = .ok (.aload_n 0, 1) := by decide +kernel
theorem dXF_value_19 : decode cXF_value 19 = .ok (.iload_n 1, 1) := by decide +kernel
theorem dXF_value_20 : decode cXF_value 20 = .ok (.invokevirtual 53, 3) := by decide +kernel
theorem dXF_value_23 : decode cXF_value 23 = .ok (.lreturn, 1) := by decide +kernel
abbrev wsXF_value : List Cond := Cond.code yXF_value cXF_value 2 (some .long) :: zWords
def FXF_value (u : XS) (p0 : Int32) : Int64 := (if ((Xg_fields_category u) p0.toNatClampNeg) = 1 then (FXF_digitsValue u p0) else (FXF_binaryValue u p0))
def GXF_value (u : XS) (p0 : Int32) : Prop := (vp_in p0 40 ∧ (if ((Xg_fields_category u) p0.toNatClampNeg) = 1 then (GXF_digitsValue u p0 ∧ True) else (GXF_binaryValue u p0 ∧ True)))
set_option maxHeartbeats 4000000 in
set_option maxRecDepth 100000 in
theorem tXF_value (l : Launch) {D : va_G} {k : zK} {a : Nat → Nat} (hI : zI 29 a) (u : XS) (p0 : Int32) (hg : GXF_value u p0) : Met l yXF_value wsXF_value ({ frames := 1, cells := 0, slots := 0, locals := 25 }) (zPc D k (zA 29 a) (wX k a u) [.ref (a 1), .int p0]) (vp_Sl (fun r9 => r9 = (FXF_value u p0))) 0 0 (fun _ => False) := by
  refine Met.ofW (cc := cXF_value) (maxL := 2) (ret := (some .long)) (by decide) rfl ?_
  intro p e s m args below meth c s₁ B hml hv
  obtain ⟨rfl, hP, hE⟩ := hv
  have hts := atoms_spec (ws := wsXF_value) B.pre
  have C0 : zC p s m _ meth c cXF_value (some .long) 2 RXF wsXF_value D k (zA 29 a) := ⟨B.exec, B.bytes, B.returns, hml, findClass_of_methodNamed B.named, hts, B.notSynchronized, hE⟩
  obtain ⟨hx, hb, hr, hml, hown, _, hlocks, _⟩ := id C0
  have hK := hE.1
  have hS : va_S (zA 29 a) s.heap s.heap [] := va_S.rf
  generalize hf : FXF_value u p0 = tgt
  change ((if ((Xg_fields_category u) p0.toNatClampNeg) = 1 then (FXF_digitsValue u p0) else (FXF_binaryValue u p0)) : Int64) = tgt at hf
  change (vp_in p0 40 ∧ (if ((Xg_fields_category u) p0.toNatClampNeg) = 1 then (GXF_digitsValue u p0 ∧ True) else (GXF_binaryValue u p0 ∧ True))) at hg
  have hl := lv_entry ([.ref (a 1), .int p0]) (n := 2) (Nat.le_of_ble_eq_true rfl)
  rw [lg_entry_eq]
  generalize (lg_sl ([.ref (a 1), .int p0]) ++ List.replicate (2 - (lg_sl ([.ref (a 1), .int p0])).length) Slot.unset).toArray = ls at hl ⊢
  have hl : lv_has ls 2 [(0, .ref (a 1)), (1, .int p0)] := hl
  refine lv_aload_n hx hb dXF_value_0 rfl (lv_at hl 0 rfl) ?_
  refine va_get (D := D) (ci := 1) (v := .ref (a 2)) (C := RXF) (T := TXF) (N := 5) hx hb hts (fun w h9 => zc (inXF w h9)) hown hK hP 1 rfl rfl 0 (by decide) (hts _ (zc m_31)) (fun _ h9 => h9) rfl dXF_value_1 ?_
  refine lv_iload_n hx hb dXF_value_4 rfl (lv_at hl 1 rfl) ?_
  obtain ⟨h1, hg⟩ := hg
  refine va_iald hx hb hK hP 2 0 rfl rfl h1 dXF_value_5 ?_
  refine lv_iconst (v := 1) hx hb dXF_value_6 (by decide) ?_
  refine lv_icmp_ne (tgt := 18) hx hb dXF_value_7 (by decide) (fun c2 => ?_) (fun c2 => ?_)
  · have hf := zn c2 hf
    have hg := zgn c2 hg
    refine lv_aload_n hx hb dXF_value_18 rfl (lv_at hl 0 rfl) ?_
    refine lv_iload_n hx hb dXF_value_19 rfl (lv_at hl 1 rfl) ?_
    obtain ⟨h3, hg⟩ := hg
    refine vp_callSl (W.runV (As := [.int p0]) (rest := []) ⟨hx, hb, hml, hown, hts⟩ (tXF_binaryValue l hI u p0 h3) (cwV 1 hts (zgV m_491 m_493 mp_11 m_2 m_494) rfl rfl rfl (by decide +kernel) ⟨Nat.le_of_ble_eq_true rfl, Nat.le_of_ble_eq_true rfl⟩) (zpre hP hE hS.2.1 (va_recv hK hP (ci := 1) (q0 := 1) rfl rfl)) rfl rfl hl.1 rfl (lv_room (Nat.le_of_ble_eq_true rfl)) dXF_value_20 ⟨Nat.zero_le _, Nat.zero_le _⟩) (fun r9 hr9 => ?_)
    subst hr9
    exact W.lret (v := (FXF_binaryValue u p0)) hx hb hr (fun t ht hW => ⟨_, rfl, hf, ht⟩) (fun _ h9 => nomatch h9) dXF_value_23
  · have hf := zt c2 hf
    have hg := zgt c2 hg
    refine lv_aload_n hx hb dXF_value_10 rfl (lv_at hl 0 rfl) ?_
    refine lv_iload_n hx hb dXF_value_11 rfl (lv_at hl 1 rfl) ?_
    obtain ⟨h4, hg⟩ := hg
    refine vp_callSl (W.runV (As := [.int p0]) (rest := []) ⟨hx, hb, hml, hown, hts⟩ (tXF_digitsValue l hI u p0 h4) (cwV 1 hts (zgV m_486 m_488 mp_10 m_2 m_489) rfl rfl rfl (by decide +kernel) ⟨Nat.le_of_ble_eq_true rfl, Nat.le_of_ble_eq_true rfl⟩) (zpre hP hE hS.2.1 (va_recv hK hP (ci := 1) (q0 := 1) rfl rfl)) rfl rfl hl.1 rfl (lv_room (Nat.le_of_ble_eq_true rfl)) dXF_value_12 ⟨Nat.zero_le _, Nat.zero_le _⟩) (fun r9 hr9 => ?_)
    subst hr9
    refine lv_goto (tgt := 23) hx hb dXF_value_15 (by decide) ?_
    exact W.lret (v := (FXF_digitsValue u p0)) hx hb hr (fun t ht hW => ⟨_, rfl, hf, ht⟩) (fun _ h9 => nomatch h9) dXF_value_23
theorem dJL_compare_0 : decode cJL_compare 0 = .ok (.lload_n 0, 1) := by decide +kernel
theorem dJL_compare_1 : decode cJL_compare 1 = .ok (.lload_n 2, 1) := by decide +kernel
theorem dJL_compare_2 : decode cJL_compare 2 = .ok (.lcmp, 1) := by decide +kernel
theorem dJL_compare_3 : decode cJL_compare 3 = .ok (.ifCond .ge 7, 3) := by decide +kernel
theorem dJL_compare_6 : decode cJL_compare 6 = .ok (.iconst (-1), 1) := by decide +kernel
theorem dJL_compare_7 : decode cJL_compare 7 = .ok (.goto 14, 3) := by decide +kernel
theorem dJL_compare_10 : decode cJL_compare 10 = .ok (.lload_n 0, 1) := by decide +kernel
theorem dJL_compare_11 : decode cJL_compare 11 = .ok (.lload_n 2, 1) := by decide +kernel
theorem dJL_compare_12 : decode cJL_compare 12 = .ok (.lcmp, 1) := by decide +kernel
theorem dJL_compare_13 : decode cJL_compare 13 = .ok (.ifCond .ne 7, 3) := by decide +kernel
theorem dJL_compare_16 : decode cJL_compare 16 = .ok (.iconst 0, 1) := by decide +kernel
theorem dJL_compare_17 : decode cJL_compare 17 = .ok (.goto 4, 3) := by decide +kernel
theorem dJL_compare_20 : decode cJL_compare 20 = .ok (.iconst 1, 1) := by decide +kernel
theorem dJL_compare_21 : decode cJL_compare 21 = .ok (.ireturn, 1) := by decide +kernel
abbrev wsJL_compare : List Cond := Cond.code yJL_compare cJL_compare 4 (some .int) :: zWords
def FJL_compare (u : XS) (p0 : Int64) (p1 : Int64) : Int32 := (if (0 : Int32) ≤ (lg_cmp p0 p1) then (if (lg_cmp p0 p1) = 0 then 0 else 1) else (-1))
set_option maxHeartbeats 4000000 in
set_option maxRecDepth 100000 in
theorem tJL_compare (l : Launch) {D : va_G} {k : zK} {a : Nat → Nat} (hI : zI 29 a) (u : XS) (p0 : Int64) (p1 : Int64) : Met l yJL_compare wsJL_compare ({ frames := 0, cells := 0, slots := 0, locals := 0 }) (zPc D k (zA 29 a) (wX k a u) [.long p0, .long p1]) (vp_Si (fun r9 => r9 = (FJL_compare u p0 p1))) 0 0 (fun _ => False) := by
  refine Met.ofW (cc := cJL_compare) (maxL := 4) (ret := (some .int)) (by decide) rfl ?_
  intro p e s m args below meth c s₁ B hml hv
  obtain ⟨rfl, hP, hE⟩ := hv
  have hts := atoms_spec (ws := wsJL_compare) B.pre
  have C0 : zC p s m _ meth c cJL_compare (some .int) 4 RJL wsJL_compare D k (zA 29 a) := ⟨B.exec, B.bytes, B.returns, hml, findClass_of_methodNamed B.named, hts, B.notSynchronized, hE⟩
  obtain ⟨hx, hb, hr, hml, hown, _, hlocks, _⟩ := id C0
  have hK := hE.1
  have hS : va_S (zA 29 a) s.heap s.heap [] := va_S.rf
  generalize hf : FJL_compare u p0 p1 = tgt
  change ((if (0 : Int32) ≤ (lg_cmp p0 p1) then (if (lg_cmp p0 p1) = 0 then 0 else 1) else (-1)) : Int32) = tgt at hf
  have hl := lv_entry ([.long p0, .long p1]) (n := 4) (Nat.le_of_ble_eq_true rfl)
  rw [lg_entry_eq]
  generalize (lg_sl ([.long p0, .long p1]) ++ List.replicate (4 - (lg_sl ([.long p0, .long p1])).length) Slot.unset).toArray = ls at hl ⊢
  have hl : lv_has ls 4 [(0, .long p0), (2, .long p1)] := hl
  refine lv_lload_n hx hb dJL_compare_0 rfl (lv_at hl 0 rfl) ?_
  refine lv_lload_n hx hb dJL_compare_1 rfl (lv_at hl 1 rfl) ?_
  refine W.lcmp hx hb dJL_compare_2 ?_
  refine lv_if_ge (tgt := 10) hx hb dJL_compare_3 (by decide) (fun c1 => ?_) (fun c1 => ?_)
  · have hf := zt c1 hf
    refine lv_lload_n hx hb dJL_compare_10 rfl (lv_at hl 0 rfl) ?_
    refine lv_lload_n hx hb dJL_compare_11 rfl (lv_at hl 1 rfl) ?_
    refine W.lcmp hx hb dJL_compare_12 ?_
    refine lv_if_ne (tgt := 20) hx hb dJL_compare_13 (by decide) (fun c2 => ?_) (fun c2 => ?_)
    · have hf := zn c2 hf
      refine lv_iconst (v := 1) hx hb dJL_compare_20 (by decide) ?_
      exact W.iret (v := 1) hx hb hr (fun t ht hW => ⟨_, rfl, hf, ht⟩) (fun _ h9 => nomatch h9) dJL_compare_21
    · have hf := zt c2 hf
      refine lv_iconst (v := 0) hx hb dJL_compare_16 (by decide) ?_
      refine lv_goto (tgt := 21) hx hb dJL_compare_17 (by decide) ?_
      exact W.iret (v := 0) hx hb hr (fun t ht hW => ⟨_, rfl, hf, ht⟩) (fun _ h9 => nomatch h9) dJL_compare_21
  · have hf := zn c1 hf
    refine lv_iconst (v := (-1)) hx hb dJL_compare_6 (by decide) ?_
    refine lv_goto (tgt := 21) hx hb dJL_compare_7 (by decide) ?_
    exact W.iret (v := (-1)) hx hb hr (fun t ht hW => ⟨_, rfl, hf, ht⟩) (fun _ h9 => nomatch h9) dJL_compare_21
theorem dXN_hasSigned_0 : decode cXN_hasSigned 0 = .ok (.iload_n 1, 1) := by decide +kernel
theorem dXN_hasSigned_1 : decode cXN_hasSigned 1 = .ok (.bipush 8, 2) := by decide +kernel
theorem dXN_hasSigned_3 : decode cXN_hasSigned 3 = .ok (.imul, 1) := by decide +kernel
theorem dXN_hasSigned_4 : decode cXN_hasSigned 4 = .ok (.aload_n 0, 1) := by decide +kernel
theorem dXN_hasSigned_5 : decode cXN_hasSigned 5 = .ok (.getfield 15, 3) := by decide +kernel
theorem dXN_hasSigned_8 : decode cXN_hasSigned 8 = .ok (.iload_n 1, 1) := by decide +kernel
theorem dXN_hasSigned_9 : decode cXN_hasSigned 9 = .ok (.iaload, 1) := by decide +kernel
theorem dXN_hasSigned_10 : decode cXN_hasSigned 10 = .ok (.iadd, 1) := by decide +kernel
theorem dXN_hasSigned_11 : decode cXN_hasSigned 11 = .ok (.istore 4, 2) := by decide +kernel
theorem dXN_hasSigned_13 : decode cXN_hasSigned 13 = .ok (.iload_n 1, 1) := by decide +kernel
theorem dXN_hasSigned_14 : decode cXN_hasSigned 14 = .ok (.bipush 8, 2) := by decide +kernel
theorem dXN_hasSigned_16 : decode cXN_hasSigned 16 = .ok (.imul, 1) := by decide +kernel
theorem dXN_hasSigned_17 : decode cXN_hasSigned 17 = .ok (.istore 5, 2) := by decide +kernel
theorem dXN_hasSigned_19 : decode cXN_hasSigned 19 = .ok (.iload 5, 2) := by decide +kernel
theorem dXN_hasSigned_21 : decode cXN_hasSigned 21 = .ok (.iload 4, 2) := by decide +kernel
theorem dXN_hasSigned_23 : decode cXN_hasSigned 23 = .ok (.if_icmp .ge 35, 3) := by decide +kernel
theorem dXN_hasSigned_26 : decode cXN_hasSigned 26 = .ok (.aload_n 0, 1) := by decide +kernel
theorem dXN_hasSigned_27 : decode cXN_hasSigned 27 = .ok (.getfield 18, 3) := by decide +kernel
theorem dXN_hasSigned_30 : decode cXN_hasSigned 30 = .ok (.iload 5, 2) := by decide +kernel
theorem dXN_hasSigned_32 : decode cXN_hasSigned 32 = .ok (.laload, 1) := by decide +kernel
theorem dXN_hasSigned_33 : decode cXN_hasSigned 33 = .ok (.lload_n 2, 1) := by decide +kernel
theorem dXN_hasSigned_34 : decode cXN_hasSigned 34 = .ok (.lcmp, 1) := by decide +kernel
theorem dXN_hasSigned_35 : decode cXN_hasSigned 35 = .ok (.ifCond .gt 17, 3) := by decide +kernel
theorem dXN_hasSigned_38 : decode cXN_hasSigned 38 = .ok (.lload_n 2, 1) := by decide +kernel
theorem dXN_hasSigned_39 : decode cXN_hasSigned 39 = .ok (.aload_n 0, 1) := by decide +kernel
theorem dXN_hasSigned_40 : decode cXN_hasSigned 40 = .ok (.getfield 22, 3) := by decide +kernel
theorem dXN_hasSigned_43 : decode cXN_hasSigned 43 = .ok (.iload 5, 2) := by decide +kernel
theorem dXN_hasSigned_45 : decode cXN_hasSigned 45 = .ok (.laload, 1) := by decide +kernel
theorem dXN_hasSigned_46 : decode cXN_hasSigned 46 = .ok (.lcmp, 1) := by decide +kernel
theorem dXN_hasSigned_47 : decode cXN_hasSigned 47 = .ok (.ifCond .gt 5, 3) := by decide +kernel
theorem dXN_hasSigned_50 : decode cXN_hasSigned 50 = .ok (.iconst 1, 1) := by decide +kernel
theorem dXN_hasSigned_51 : decode cXN_hasSigned 51 = .ok (.ireturn, 1) := by decide +kernel
theorem dXN_hasSigned_52 : decode cXN_hasSigned 52 = .ok (.iinc 5 1, 3) := by decide +kernel
theorem dXN_hasSigned_55 : decode cXN_hasSigned 55 = .ok (.goto (-36), 3) := by decide +kernel
theorem dXN_hasSigned_58 : decode cXN_hasSigned 58 = .ok (.iconst 0, 1) := by decide +kernel
theorem dXN_hasSigned_59 : decode cXN_hasSigned 59 = .ok (.ireturn, 1) := by decide +kernel
abbrev wsXN_hasSigned : List Cond := Cond.code yXN_hasSigned cXN_hasSigned 6 (some .boolean) :: zWords
def LXN_hasSigned_19 : Nat → XS → Int32 → Int32 → Int32 → Int64 → Int32
  | 0, _, _, _, _, _ => 0
  | n + 1, u, x5, x4, x1, x2 => (if x4 ≤ x5 then 0 else (if (0 : Int32) < (lg_cmp ((Xg_names_low u) x5.toNatClampNeg) x2) then (LXN_hasSigned_19 n u (x5 + 1) x4 x1 x2) else (if (0 : Int32) < (lg_cmp x2 ((Xg_names_high u) x5.toNatClampNeg)) then (LXN_hasSigned_19 n u (x5 + 1) x4 x1 x2) else 1)))
def MXN_hasSigned_19 : Nat → XS → Int32 → Int32 → Int32 → Int64 → Prop
  | 0, _, _, _, _, _ => False
  | n + 1, u, x5, x4, x1, x2 => (if x4 ≤ x5 then True else (vp_in x5 328 ∧ (if (0 : Int32) < (lg_cmp ((Xg_names_low u) x5.toNatClampNeg) x2) then (MXN_hasSigned_19 n u (x5 + 1) x4 x1 x2) else (vp_in x5 328 ∧ (if (0 : Int32) < (lg_cmp x2 ((Xg_names_high u) x5.toNatClampNeg)) then (MXN_hasSigned_19 n u (x5 + 1) x4 x1 x2) else True)))))
def FXN_hasSigned (u : XS) (p0 : Int32) (p1 : Int64) : Int32 := (LXN_hasSigned_19 1000 u (p0 * 8) ((p0 * 8) + ((Xg_names_ranges u) p0.toNatClampNeg)) p0 p1)
def GXN_hasSigned (u : XS) (p0 : Int32) (p1 : Int64) : Prop := (vp_in p0 41 ∧ (MXN_hasSigned_19 1000 u (p0 * 8) ((p0 * 8) + ((Xg_names_ranges u) p0.toNatClampNeg)) p0 p1))
theorem bLXN_hasSigned_19 : ∀ (n : Nat) (u : XS) (x5 : Int32) (x4 : Int32) (x1 : Int32) (x2 : Int64), LXN_hasSigned_19 n u x5 x4 x1 x2 = 0 ∨ LXN_hasSigned_19 n u x5 x4 x1 x2 = 1 := by
  intro n
  induction n with
  | zero => intros; exact Or.inl rfl
  | succ n ih =>
    intro u x5 x4 x1 x2
    simp only [LXN_hasSigned_19]
    repeat' split
    all_goals first | exact Or.inl rfl | exact Or.inr rfl | exact ih _ _ _ _ _
theorem bFXN_hasSigned (u : XS) (p0 : Int32) (p1 : Int64) : FXN_hasSigned u p0 p1 = 0 ∨ FXN_hasSigned u p0 p1 = 1 := by
  unfold FXN_hasSigned
  repeat' split
  all_goals first | exact Or.inl rfl | exact Or.inr rfl | exact bLXN_hasSigned_19 _ _ _ _ _ _
set_option maxHeartbeats 4000000 in
set_option maxRecDepth 100000 in
theorem kXN_hasSigned_19 {p : Program} {l : Launch} {e : Env} {s : State} {m : MethodId} {args : Array Value} {below : List Frame} {meth : Method} {c : Code} {D : va_G} {k : zK} {a : Nat → Nat} (hI : zI 29 a) (C0 : zC p s m args meth c cXN_hasSigned (some .boolean) 6 RXN wsXN_hasSigned D k (zA 29 a)) {tgt : Int32} : ∀ (n : Nat) (u : XS) (x5 : Int32) (x4 : Int32) (x1 : Int32) (x2 : Int64), LXN_hasSigned_19 n u x5 x4 x1 x2 = tgt → MXN_hasSigned_19 n u x5 x4 x1 x2 → ∀ (H : Heap) (locs : List Loc), va_P D vwCl (wX k a u) H → va_S (zA 29 a) s.heap H locs → H = s.heap ∧ locs = [] → ∀ (ls : Array Slot), lv_has ls 6 [(5, .int x5), (4, .int x4), (0, .ref (a 8)), (1, .int x1), (2, .long x2)] → W p l e (headSpec wsXN_hasSigned ({ frames := 0, cells := 0, slots := 0, locals := 0 })).room s m args below meth c H locs 0 0 (MQ below (vp_Si (fun r9 => r9 = tgt)) args s 0 0 (fun _ => False)) (F0 m 19 ls []) := by
  obtain ⟨hx, hb, hr, hml, hown, hts, hlocks, hE⟩ := id C0
  have hK := hE.1
  intro n
  induction n with
  | zero =>
    intro u x5 x4 x1 x2 _ hg
    exact False.elim hg
  | succ n ih =>
    intro u x5 x4 x1 x2 hf hg H locs hP hS hq ls hl
    obtain ⟨rfl, rfl⟩ := hq
    change ((if x4 ≤ x5 then 0 else (if (0 : Int32) < (lg_cmp ((Xg_names_low u) x5.toNatClampNeg) x2) then (LXN_hasSigned_19 n u (x5 + 1) x4 x1 x2) else (if (0 : Int32) < (lg_cmp x2 ((Xg_names_high u) x5.toNatClampNeg)) then (LXN_hasSigned_19 n u (x5 + 1) x4 x1 x2) else 1))) : Int32) = tgt at hf
    change (if x4 ≤ x5 then True else (vp_in x5 328 ∧ (if (0 : Int32) < (lg_cmp ((Xg_names_low u) x5.toNatClampNeg) x2) then (MXN_hasSigned_19 n u (x5 + 1) x4 x1 x2) else (vp_in x5 328 ∧ (if (0 : Int32) < (lg_cmp x2 ((Xg_names_high u) x5.toNatClampNeg)) then (MXN_hasSigned_19 n u (x5 + 1) x4 x1 x2) else True))))) at hg
    refine lv_iload hx hb dXN_hasSigned_19 (lv_at hl 0 rfl) ?_
    refine lv_iload hx hb dXN_hasSigned_21 (lv_at hl 1 rfl) ?_
    refine lv_icmp_ge (tgt := 58) hx hb dXN_hasSigned_23 (by decide) (fun c2 => ?_) (fun c2 => ?_)
    · have hf := zt c2 hf
      have hg := zgt c2 hg
      refine lv_iconst (v := 0) hx hb dXN_hasSigned_58 (by decide) ?_
      exact W.zret (v := 0) (ty := .boolean) hx hb hr rfl (fun t ht hW => ⟨_, rfl, hf, ht⟩) (fun _ h9 => nomatch h9) dXN_hasSigned_59
    · have hf := zn c2 hf
      have hg := zgn c2 hg
      refine lv_aload_n hx hb dXN_hasSigned_26 rfl (lv_at hl 2 rfl) ?_
      refine va_get (D := D) (ci := 3) (v := .ref (a 11)) (C := RXN) (T := TXN) (N := 5) hx hb hts (fun w h9 => zc (inXN w h9)) hown hK hP 8 rfl rfl 2 (by decide) (hts _ (zc m_72)) (fun _ h9 => h9) rfl dXN_hasSigned_27 ?_
      refine lv_iload hx hb dXN_hasSigned_30 (lv_at hl 0 rfl) ?_
      obtain ⟨h3, hg⟩ := hg
      refine va_lald hx hb hK hP 11 1 rfl rfl h3 dXN_hasSigned_32 ?_
      refine lv_lload_n hx hb dXN_hasSigned_33 rfl (lv_at hl 4 rfl) ?_
      refine W.lcmp hx hb dXN_hasSigned_34 ?_
      refine lv_if_gt (tgt := 52) hx hb dXN_hasSigned_35 (by decide) (fun c4 => ?_) (fun c4 => ?_)
      · have hf := zt c4 hf
        have hg := zgt c4 hg
        refine lv_iinc (v := (x5 + 1)) (lv' := [(5, .int (x5 + 1)), (4, .int x4), (0, .ref (a 8)), (1, .int x1), (2, .long x2)]) hx hb dXN_hasSigned_52 hl (k := 0) rfl rfl (by decide) rfl (fun ls hl => ?_)
        refine lv_goto (tgt := 19) hx hb dXN_hasSigned_55 (by decide) ?_
        exact ih u (x5 + 1) x4 x1 x2 hf hg _ _ hP hS ⟨rfl, rfl⟩ _ (lv_sub hl [0, 1, 2, 3, 4] rfl)
      · have hf := zn c4 hf
        have hg := zgn c4 hg
        refine lv_lload_n hx hb dXN_hasSigned_38 rfl (lv_at hl 4 rfl) ?_
        refine lv_aload_n hx hb dXN_hasSigned_39 rfl (lv_at hl 2 rfl) ?_
        refine va_get (D := D) (ci := 3) (v := .ref (a 12)) (C := RXN) (T := TXN) (N := 5) hx hb hts (fun w h9 => zc (inXN w h9)) hown hK hP 8 rfl rfl 3 (by decide) (hts _ (zc m_73)) (fun _ h9 => h9) rfl dXN_hasSigned_40 ?_
        refine lv_iload hx hb dXN_hasSigned_43 (lv_at hl 0 rfl) ?_
        obtain ⟨h5, hg⟩ := hg
        refine va_lald hx hb hK hP 12 1 rfl rfl h5 dXN_hasSigned_45 ?_
        refine W.lcmp hx hb dXN_hasSigned_46 ?_
        refine lv_if_gt (tgt := 52) hx hb dXN_hasSigned_47 (by decide) (fun c6 => ?_) (fun c6 => ?_)
        · have hf := zt c6 hf
          have hg := zgt c6 hg
          refine lv_iinc (v := (x5 + 1)) (lv' := [(5, .int (x5 + 1)), (4, .int x4), (0, .ref (a 8)), (1, .int x1), (2, .long x2)]) hx hb dXN_hasSigned_52 hl (k := 0) rfl rfl (by decide) rfl (fun ls hl => ?_)
          refine lv_goto (tgt := 19) hx hb dXN_hasSigned_55 (by decide) ?_
          exact ih u (x5 + 1) x4 x1 x2 hf hg _ _ hP hS ⟨rfl, rfl⟩ _ (lv_sub hl [0, 1, 2, 3, 4] rfl)
        · have hf := zn c6 hf
          have hg := zgn c6 hg
          refine lv_iconst (v := 1) hx hb dXN_hasSigned_50 (by decide) ?_
          exact W.zret (v := 1) (ty := .boolean) hx hb hr rfl (fun t ht hW => ⟨_, rfl, hf, ht⟩) (fun _ h9 => nomatch h9) dXN_hasSigned_51
set_option maxHeartbeats 4000000 in
set_option maxRecDepth 100000 in
theorem tXN_hasSigned (l : Launch) {D : va_G} {k : zK} {a : Nat → Nat} (hI : zI 29 a) (u : XS) (p0 : Int32) (p1 : Int64) (hg : GXN_hasSigned u p0 p1) : Met l yXN_hasSigned wsXN_hasSigned ({ frames := 0, cells := 0, slots := 0, locals := 0 }) (zPc D k (zA 29 a) (wX k a u) [.ref (a 8), .int p0, .long p1]) (vp_Si (fun r9 => r9 = (FXN_hasSigned u p0 p1))) 0 0 (fun _ => False) := by
  refine Met.ofW (cc := cXN_hasSigned) (maxL := 6) (ret := (some .boolean)) (by decide) rfl ?_
  intro p e s m args below meth c s₁ B hml hv
  obtain ⟨rfl, hP, hE⟩ := hv
  have hts := atoms_spec (ws := wsXN_hasSigned) B.pre
  have C0 : zC p s m _ meth c cXN_hasSigned (some .boolean) 6 RXN wsXN_hasSigned D k (zA 29 a) := ⟨B.exec, B.bytes, B.returns, hml, findClass_of_methodNamed B.named, hts, B.notSynchronized, hE⟩
  obtain ⟨hx, hb, hr, hml, hown, _, hlocks, _⟩ := id C0
  have hK := hE.1
  have hS : va_S (zA 29 a) s.heap s.heap [] := va_S.rf
  generalize hf : FXN_hasSigned u p0 p1 = tgt
  change ((LXN_hasSigned_19 1000 u (p0 * 8) ((p0 * 8) + ((Xg_names_ranges u) p0.toNatClampNeg)) p0 p1) : Int32) = tgt at hf
  change (vp_in p0 41 ∧ (MXN_hasSigned_19 1000 u (p0 * 8) ((p0 * 8) + ((Xg_names_ranges u) p0.toNatClampNeg)) p0 p1)) at hg
  have hl := lv_entry ([.ref (a 8), .int p0, .long p1]) (n := 6) (Nat.le_of_ble_eq_true rfl)
  rw [lg_entry_eq]
  generalize (lg_sl ([.ref (a 8), .int p0, .long p1]) ++ List.replicate (6 - (lg_sl ([.ref (a 8), .int p0, .long p1])).length) Slot.unset).toArray = ls at hl ⊢
  have hl : lv_has ls 6 [(0, .ref (a 8)), (1, .int p0), (2, .long p1)] := hl
  refine lv_iload_n hx hb dXN_hasSigned_0 rfl (lv_at hl 1 rfl) ?_
  refine lv_bipush (v := 8) hx hb dXN_hasSigned_1 (by decide) ?_
  refine lv_imul hx hb dXN_hasSigned_3 ?_
  refine lv_aload_n hx hb dXN_hasSigned_4 rfl (lv_at hl 0 rfl) ?_
  refine va_get (D := D) (ci := 3) (v := .ref (a 10)) (C := RXN) (T := TXN) (N := 5) hx hb hts (fun w h9 => zc (inXN w h9)) hown hK hP 8 rfl rfl 1 (by decide) (hts _ (zc m_71)) (fun _ h9 => h9) rfl dXN_hasSigned_5 ?_
  refine lv_iload_n hx hb dXN_hasSigned_8 rfl (lv_at hl 1 rfl) ?_
  obtain ⟨h1, hg⟩ := hg
  refine va_iald hx hb hK hP 10 0 rfl rfl h1 dXN_hasSigned_9 ?_
  refine lv_iadd hx hb dXN_hasSigned_10 ?_
  refine lv_istore (lv' := [(4, .int ((p0 * 8) + ((Xg_names_ranges u) p0.toNatClampNeg))), (0, .ref (a 8)), (1, .int p0), (2, .long p1)]) hx hb dXN_hasSigned_11 hl (by decide) rfl (fun ls hl => ?_)
  refine lv_iload_n hx hb dXN_hasSigned_13 rfl (lv_at hl 2 rfl) ?_
  refine lv_bipush (v := 8) hx hb dXN_hasSigned_14 (by decide) ?_
  refine lv_imul hx hb dXN_hasSigned_16 ?_
  refine lv_istore (lv' := [(5, .int (p0 * 8)), (4, .int ((p0 * 8) + ((Xg_names_ranges u) p0.toNatClampNeg))), (0, .ref (a 8)), (1, .int p0), (2, .long p1)]) hx hb dXN_hasSigned_17 hl (by decide) rfl (fun ls hl => ?_)
  exact kXN_hasSigned_19 hI C0 (tgt := tgt) 1000 u (p0 * 8) ((p0 * 8) + ((Xg_names_ranges u) p0.toNatClampNeg)) p0 p1 hf hg _ _ hP hS ⟨rfl, rfl⟩ _ (lv_sub hl [0, 1, 2, 3, 4] rfl)
end
