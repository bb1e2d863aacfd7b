section
-- ===== PART A: goes FIRST, ahead of the names: the tables' words, and 'selects' of the private methods out of them =====
/-- a private method of a class that the tables say can be made, by its rows of tables_1 -/
def lw_okq (q : MethodName × Nat) : Prop := (q.1.cls ≠ "java/lang/invoke/MethodHandle" ∧ q.1.cls ≠ "java/lang/invoke/VarHandle") ∧ Cond.instantiable q.1.cls q.2 ∈ tables_1 ∧ Cond.privateMethod q.1 ∈ tables_1 ∧ Cond.instanceMethod q.1 ∈ tables_1
theorem lw_p0 : lw_okq (⟨"ConditionRows", "hasParts", "(III)Z"⟩, 10) := ⟨⟨by decide +kernel, by decide +kernel⟩, List.mem_of_getElem? (i := 18) (by decide +kernel), List.mem_of_getElem? (i := 258) (by decide +kernel), List.mem_of_getElem? (i := 259) (by decide +kernel)⟩
theorem lw_p1 : lw_okq (⟨"ConditionRows", "isAbove", "(IJJ)Z"⟩, 10) := ⟨⟨by decide +kernel, by decide +kernel⟩, List.mem_of_getElem? (i := 18) (by decide +kernel), List.mem_of_getElem? (i := 278) (by decide +kernel), List.mem_of_getElem? (i := 279) (by decide +kernel)⟩
theorem lw_p2 : lw_okq (⟨"ConditionRows", "unfoldRow", "()I"⟩, 10) := ⟨⟨by decide +kernel, by decide +kernel⟩, List.mem_of_getElem? (i := 18) (by decide +kernel), List.mem_of_getElem? (i := 331) (by decide +kernel), List.mem_of_getElem? (i := 332) (by decide +kernel)⟩
theorem lw_p3 : lw_okq (⟨"ConditionRows", "joined", "(III)I"⟩, 10) := ⟨⟨by decide +kernel, by decide +kernel⟩, List.mem_of_getElem? (i := 18) (by decide +kernel), List.mem_of_getElem? (i := 335) (by decide +kernel), List.mem_of_getElem? (i := 336) (by decide +kernel)⟩
theorem lw_p4 : lw_okq (⟨"ConditionRows", "relationNode", "(I)I"⟩, 10) := ⟨⟨by decide +kernel, by decide +kernel⟩, List.mem_of_getElem? (i := 18) (by decide +kernel), List.mem_of_getElem? (i := 339) (by decide +kernel), List.mem_of_getElem? (i := 340) (by decide +kernel)⟩
theorem lw_p5 : lw_okq (⟨"ConditionRows", "switchesOn", "()I"⟩, 10) := ⟨⟨by decide +kernel, by decide +kernel⟩, List.mem_of_getElem? (i := 18) (by decide +kernel), List.mem_of_getElem? (i := 355) (by decide +kernel), List.mem_of_getElem? (i := 356) (by decide +kernel)⟩
theorem lw_p6 : lw_okq (⟨"java/lang/Throwable", "fillInStackTrace", "(I)Ljava/lang/Throwable;"⟩, 6) := ⟨⟨by decide +kernel, by decide +kernel⟩, List.mem_of_getElem? (i := 408) (by decide +kernel), List.mem_of_getElem? (i := 406) (by decide +kernel), List.mem_of_getElem? (i := 407) (by decide +kernel)⟩
theorem lw_p7 : lw_okq (⟨"ConditionRows", "outcomeOf", "(I)I"⟩, 10) := ⟨⟨by decide +kernel, by decide +kernel⟩, List.mem_of_getElem? (i := 18) (by decide +kernel), List.mem_of_getElem? (i := 438) (by decide +kernel), List.mem_of_getElem? (i := 439) (by decide +kernel)⟩
theorem lw_p8 : lw_okq (⟨"ConditionRows", "partToTest", "(I)I"⟩, 10) := ⟨⟨by decide +kernel, by decide +kernel⟩, List.mem_of_getElem? (i := 18) (by decide +kernel), List.mem_of_getElem? (i := 450) (by decide +kernel), List.mem_of_getElem? (i := 451) (by decide +kernel)⟩
theorem lw_p9 : lw_okq (⟨"ConditionRows", "leafOutcome", "(I)I"⟩, 10) := ⟨⟨by decide +kernel, by decide +kernel⟩, List.mem_of_getElem? (i := 18) (by decide +kernel), List.mem_of_getElem? (i := 457) (by decide +kernel), List.mem_of_getElem? (i := 458) (by decide +kernel)⟩
theorem lw_p10 : lw_okq (⟨"ConditionRows$Fields", "digitsValue", "(I)J"⟩, 5) := ⟨⟨by decide +kernel, by decide +kernel⟩, List.mem_of_getElem? (i := 26) (by decide +kernel), List.mem_of_getElem? (i := 487) (by decide +kernel), List.mem_of_getElem? (i := 488) (by decide +kernel)⟩
theorem lw_p11 : lw_okq (⟨"ConditionRows$Fields", "binaryValue", "(I)J"⟩, 5) := ⟨⟨by decide +kernel, by decide +kernel⟩, List.mem_of_getElem? (i := 26) (by decide +kernel), List.mem_of_getElem? (i := 492) (by decide +kernel), List.mem_of_getElem? (i := 493) (by decide +kernel)⟩
theorem lw_p12 : lw_okq (⟨"ConditionRows", "holds", "(I)Z"⟩, 10) := ⟨⟨by decide +kernel, by decide +kernel⟩, List.mem_of_getElem? (i := 18) (by decide +kernel), List.mem_of_getElem? (i := 500) (by decide +kernel), List.mem_of_getElem? (i := 501) (by decide +kernel)⟩
theorem lw_p13 : lw_okq (⟨"ConditionRows", "relationOutcome", "(III)I"⟩, 10) := ⟨⟨by decide +kernel, by decide +kernel⟩, List.mem_of_getElem? (i := 18) (by decide +kernel), List.mem_of_getElem? (i := 517) (by decide +kernel), List.mem_of_getElem? (i := 518) (by decide +kernel)⟩
theorem lw_p14 : lw_okq (⟨"ConditionRows", "compareFields", "(II)I"⟩, 10) := ⟨⟨by decide +kernel, by decide +kernel⟩, List.mem_of_getElem? (i := 18) (by decide +kernel), List.mem_of_getElem? (i := 521) (by decide +kernel), List.mem_of_getElem? (i := 522) (by decide +kernel)⟩
theorem lw_p15 : lw_okq (⟨"ConditionRows$Fields", "spellBytes", "(I[I)I"⟩, 5) := ⟨⟨by decide +kernel, by decide +kernel⟩, List.mem_of_getElem? (i := 26) (by decide +kernel), List.mem_of_getElem? (i := 548) (by decide +kernel), List.mem_of_getElem? (i := 549) (by decide +kernel)⟩
def lw_privs_1 : List (MethodName × Nat) := [(⟨"ConditionRows", "hasParts", "(III)Z"⟩, 10), (⟨"ConditionRows", "isAbove", "(IJJ)Z"⟩, 10), (⟨"ConditionRows", "unfoldRow", "()I"⟩, 10), (⟨"ConditionRows", "joined", "(III)I"⟩, 10), (⟨"ConditionRows", "relationNode", "(I)I"⟩, 10), (⟨"ConditionRows", "switchesOn", "()I"⟩, 10), (⟨"java/lang/Throwable", "fillInStackTrace", "(I)Ljava/lang/Throwable;"⟩, 6), (⟨"ConditionRows", "outcomeOf", "(I)I"⟩, 10), (⟨"ConditionRows", "partToTest", "(I)I"⟩, 10), (⟨"ConditionRows", "leafOutcome", "(I)I"⟩, 10), (⟨"ConditionRows$Fields", "digitsValue", "(I)J"⟩, 5), (⟨"ConditionRows$Fields", "binaryValue", "(I)J"⟩, 5), (⟨"ConditionRows", "holds", "(I)Z"⟩, 10), (⟨"ConditionRows", "relationOutcome", "(III)I"⟩, 10), (⟨"ConditionRows", "compareFields", "(II)I"⟩, 10), (⟨"ConditionRows$Fields", "spellBytes", "(I[I)I"⟩, 5)]
theorem lw_r1 : ∀ q ∈ lw_privs_1, lw_okq q := List.forall_mem_cons.mpr ⟨lw_p0, List.forall_mem_cons.mpr ⟨lw_p1, List.forall_mem_cons.mpr ⟨lw_p2, List.forall_mem_cons.mpr ⟨lw_p3, List.forall_mem_cons.mpr ⟨lw_p4, List.forall_mem_cons.mpr ⟨lw_p5, List.forall_mem_cons.mpr ⟨lw_p6, List.forall_mem_cons.mpr ⟨lw_p7, List.forall_mem_cons.mpr ⟨lw_p8, List.forall_mem_cons.mpr ⟨lw_p9, List.forall_mem_cons.mpr ⟨lw_p10, List.forall_mem_cons.mpr ⟨lw_p11, List.forall_mem_cons.mpr ⟨lw_p12, List.forall_mem_cons.mpr ⟨lw_p13, List.forall_mem_cons.mpr ⟨lw_p14, List.forall_mem_cons.mpr ⟨lw_p15, fun _ h => absurd h List.not_mem_nil⟩⟩⟩⟩⟩⟩⟩⟩⟩⟩⟩⟩⟩⟩⟩⟩
theorem lw_p16 : lw_okq (⟨"ConditionRows", "joinedOutcome", "(I)I"⟩, 10) := ⟨⟨by decide +kernel, by decide +kernel⟩, List.mem_of_getElem? (i := 18) (by decide +kernel), List.mem_of_getElem? (i := 559) (by decide +kernel), List.mem_of_getElem? (i := 560) (by decide +kernel)⟩
theorem lw_p17 : lw_okq (⟨"ConditionRowsModel", "isField", "(I)Z"⟩, 30) := ⟨⟨by decide +kernel, by decide +kernel⟩, List.mem_of_getElem? (i := 592) (by decide +kernel), List.mem_of_getElem? (i := 697) (by decide +kernel), List.mem_of_getElem? (i := 698) (by decide +kernel)⟩
theorem lw_p18 : lw_okq (⟨"ConditionRowsModel", "refusal", "(III)I"⟩, 30) := ⟨⟨by decide +kernel, by decide +kernel⟩, List.mem_of_getElem? (i := 592) (by decide +kernel), List.mem_of_getElem? (i := 716) (by decide +kernel), List.mem_of_getElem? (i := 717) (by decide +kernel)⟩
theorem lw_p19 : lw_okq (⟨"ConditionRowsModel", "isName", "(I)Z"⟩, 30) := ⟨⟨by decide +kernel, by decide +kernel⟩, List.mem_of_getElem? (i := 592) (by decide +kernel), List.mem_of_getElem? (i := 720) (by decide +kernel), List.mem_of_getElem? (i := 721) (by decide +kernel)⟩
theorem lw_p20 : lw_okq (⟨"ConditionRowsModel", "isNode", "(I)Z"⟩, 30) := ⟨⟨by decide +kernel, by decide +kernel⟩, List.mem_of_getElem? (i := 592) (by decide +kernel), List.mem_of_getElem? (i := 724) (by decide +kernel), List.mem_of_getElem? (i := 725) (by decide +kernel)⟩
theorem lw_p21 : lw_okq (⟨"ConditionRowsModel", "made", "(III)I"⟩, 30) := ⟨⟨by decide +kernel, by decide +kernel⟩, List.mem_of_getElem? (i := 592) (by decide +kernel), List.mem_of_getElem? (i := 728) (by decide +kernel), List.mem_of_getElem? (i := 729) (by decide +kernel)⟩
theorem lw_p22 : lw_okq (⟨"ConditionRowsModel", "isTurned", "(IJJ)Z"⟩, 30) := ⟨⟨by decide +kernel, by decide +kernel⟩, List.mem_of_getElem? (i := 592) (by decide +kernel), List.mem_of_getElem? (i := 736) (by decide +kernel), List.mem_of_getElem? (i := 737) (by decide +kernel)⟩
theorem lw_p23 : lw_okq (⟨"ConditionRowsModel", "relation", "(I)I"⟩, 30) := ⟨⟨by decide +kernel, by decide +kernel⟩, List.mem_of_getElem? (i := 592) (by decide +kernel), List.mem_of_getElem? (i := 763) (by decide +kernel), List.mem_of_getElem? (i := 764) (by decide +kernel)⟩
theorem lw_p24 : lw_okq (⟨"ConditionRowsModel", "leaf", "(I)Z"⟩, 30) := ⟨⟨by decide +kernel, by decide +kernel⟩, List.mem_of_getElem? (i := 592) (by decide +kernel), List.mem_of_getElem? (i := 771) (by decide +kernel), List.mem_of_getElem? (i := 772) (by decide +kernel)⟩
theorem lw_p25 : lw_okq (⟨"ConditionRowsModel", "isBad", "(I)Z"⟩, 30) := ⟨⟨by decide +kernel, by decide +kernel⟩, List.mem_of_getElem? (i := 592) (by decide +kernel), List.mem_of_getElem? (i := 775) (by decide +kernel), List.mem_of_getElem? (i := 776) (by decide +kernel)⟩
theorem lw_p26 : lw_okq (⟨"ConditionRowsModel", "read", "(II)I"⟩, 30) := ⟨⟨by decide +kernel, by decide +kernel⟩, List.mem_of_getElem? (i := 592) (by decide +kernel), List.mem_of_getElem? (i := 779) (by decide +kernel), List.mem_of_getElem? (i := 780) (by decide +kernel)⟩
theorem lw_p27 : lw_okq (⟨"ConditionRowsModel", "related", "(III)Z"⟩, 30) := ⟨⟨by decide +kernel, by decide +kernel⟩, List.mem_of_getElem? (i := 592) (by decide +kernel), List.mem_of_getElem? (i := 783) (by decide +kernel), List.mem_of_getElem? (i := 784) (by decide +kernel)⟩
theorem lw_p28 : lw_okq (⟨"ConditionRowsModel", "order", "(II)I"⟩, 30) := ⟨⟨by decide +kernel, by decide +kernel⟩, List.mem_of_getElem? (i := 592) (by decide +kernel), List.mem_of_getElem? (i := 787) (by decide +kernel), List.mem_of_getElem? (i := 788) (by decide +kernel)⟩
theorem lw_p29 : lw_okq (⟨"ConditionRowsModel", "part", "(I)J"⟩, 30) := ⟨⟨by decide +kernel, by decide +kernel⟩, List.mem_of_getElem? (i := 592) (by decide +kernel), List.mem_of_getElem? (i := 791) (by decide +kernel), List.mem_of_getElem? (i := 792) (by decide +kernel)⟩
theorem lw_p30 : lw_okq (⟨"ConditionRowsModel", "whole", "(I)J"⟩, 30) := ⟨⟨by decide +kernel, by decide +kernel⟩, List.mem_of_getElem? (i := 592) (by decide +kernel), List.mem_of_getElem? (i := 795) (by decide +kernel), List.mem_of_getElem? (i := 796) (by decide +kernel)⟩
theorem lw_p31 : lw_okq (⟨"ConditionRowsModel", "rest", "(I)J"⟩, 30) := ⟨⟨by decide +kernel, by decide +kernel⟩, List.mem_of_getElem? (i := 592) (by decide +kernel), List.mem_of_getElem? (i := 807) (by decide +kernel), List.mem_of_getElem? (i := 808) (by decide +kernel)⟩
def lw_privs_2 : List (MethodName × Nat) := [(⟨"ConditionRows", "joinedOutcome", "(I)I"⟩, 10), (⟨"ConditionRowsModel", "isField", "(I)Z"⟩, 30), (⟨"ConditionRowsModel", "refusal", "(III)I"⟩, 30), (⟨"ConditionRowsModel", "isName", "(I)Z"⟩, 30), (⟨"ConditionRowsModel", "isNode", "(I)Z"⟩, 30), (⟨"ConditionRowsModel", "made", "(III)I"⟩, 30), (⟨"ConditionRowsModel", "isTurned", "(IJJ)Z"⟩, 30), (⟨"ConditionRowsModel", "relation", "(I)I"⟩, 30), (⟨"ConditionRowsModel", "leaf", "(I)Z"⟩, 30), (⟨"ConditionRowsModel", "isBad", "(I)Z"⟩, 30), (⟨"ConditionRowsModel", "read", "(II)I"⟩, 30), (⟨"ConditionRowsModel", "related", "(III)Z"⟩, 30), (⟨"ConditionRowsModel", "order", "(II)I"⟩, 30), (⟨"ConditionRowsModel", "part", "(I)J"⟩, 30), (⟨"ConditionRowsModel", "whole", "(I)J"⟩, 30), (⟨"ConditionRowsModel", "rest", "(I)J"⟩, 30)]
theorem lw_r2 : ∀ q ∈ lw_privs_2, lw_okq q := List.forall_mem_cons.mpr ⟨lw_p16, List.forall_mem_cons.mpr ⟨lw_p17, List.forall_mem_cons.mpr ⟨lw_p18, List.forall_mem_cons.mpr ⟨lw_p19, List.forall_mem_cons.mpr ⟨lw_p20, List.forall_mem_cons.mpr ⟨lw_p21, List.forall_mem_cons.mpr ⟨lw_p22, List.forall_mem_cons.mpr ⟨lw_p23, List.forall_mem_cons.mpr ⟨lw_p24, List.forall_mem_cons.mpr ⟨lw_p25, List.forall_mem_cons.mpr ⟨lw_p26, List.forall_mem_cons.mpr ⟨lw_p27, List.forall_mem_cons.mpr ⟨lw_p28, List.forall_mem_cons.mpr ⟨lw_p29, List.forall_mem_cons.mpr ⟨lw_p30, List.forall_mem_cons.mpr ⟨lw_p31, fun _ h => absurd h List.not_mem_nil⟩⟩⟩⟩⟩⟩⟩⟩⟩⟩⟩⟩⟩⟩⟩⟩
theorem lw_p32 : lw_okq (⟨"ConditionRowsModel", "spell", "(I)V"⟩, 30) := ⟨⟨by decide +kernel, by decide +kernel⟩, List.mem_of_getElem? (i := 592) (by decide +kernel), List.mem_of_getElem? (i := 811) (by decide +kernel), List.mem_of_getElem? (i := 812) (by decide +kernel)⟩
theorem lw_p33 : lw_okq (⟨"ConditionRowsModel", "isOf", "(II)Z"⟩, 30) := ⟨⟨by decide +kernel, by decide +kernel⟩, List.mem_of_getElem? (i := 592) (by decide +kernel), List.mem_of_getElem? (i := 816) (by decide +kernel), List.mem_of_getElem? (i := 817) (by decide +kernel)⟩
theorem lw_p34 : lw_okq (⟨"ConditionRowsModel", "isIn", "(I)Z"⟩, 30) := ⟨⟨by decide +kernel, by decide +kernel⟩, List.mem_of_getElem? (i := 592) (by decide +kernel), List.mem_of_getElem? (i := 820) (by decide +kernel), List.mem_of_getElem? (i := 821) (by decide +kernel)⟩
theorem lw_p35 : lw_okq (⟨"ConditionRowsModel", "settled", "(I)I"⟩, 30) := ⟨⟨by decide +kernel, by decide +kernel⟩, List.mem_of_getElem? (i := 592) (by decide +kernel), List.mem_of_getElem? (i := 824) (by decide +kernel), List.mem_of_getElem? (i := 825) (by decide +kernel)⟩
def lw_privs_3 : List (MethodName × Nat) := [(⟨"ConditionRowsModel", "spell", "(I)V"⟩, 30), (⟨"ConditionRowsModel", "isOf", "(II)Z"⟩, 30), (⟨"ConditionRowsModel", "isIn", "(I)Z"⟩, 30), (⟨"ConditionRowsModel", "settled", "(I)I"⟩, 30)]
theorem lw_r3 : ∀ q ∈ lw_privs_3, lw_okq q := List.forall_mem_cons.mpr ⟨lw_p32, List.forall_mem_cons.mpr ⟨lw_p33, List.forall_mem_cons.mpr ⟨lw_p34, List.forall_mem_cons.mpr ⟨lw_p35, fun _ h => absurd h List.not_mem_nil⟩⟩⟩⟩
def lw_privs : List (MethodName × Nat) := lw_privs_1 ++ (lw_privs_2 ++ (lw_privs_3))
def lw_tbl : List Cond := k2_sels lw_privs ++ tables_1
theorem lw_privs_ok : ∀ q ∈ lw_privs, lw_okq q := by
  show ∀ q ∈ lw_privs_1 ++ (lw_privs_2 ++ (lw_privs_3)), lw_okq q
  exact List.forall_mem_append.mpr ⟨lw_r1, List.forall_mem_append.mpr ⟨lw_r2, lw_r3⟩⟩
end
section
def RX : String := "ConditionRows"
def TX : u_T := fun k => match k with
  | 0 => ("ConditionRows", "whole", "Z", true)
  | 1 => ("ConditionRows", "fields", "LConditionRows$Fields;", true)
  | 2 => ("ConditionRows", "weights", "LConditionRows$Weights;", true)
  | 3 => ("ConditionRows", "names", "LConditionRows$Names;", true)
  | 4 => ("ConditionRows", "nodes", "LConditionRows$Nodes;", true)
  | 5 => ("ConditionRows", "row", "LConditionRows$Row;", true)
  | 6 => ("ConditionRows", "testing", "LConditionRows$Testing;", true)
  | 7 => ("ConditionRows", "switches", "[Z", true)
  | 8 => ("ConditionRows", "leftText", "[I", true)
  | _ => ("ConditionRows", "rightText", "[I", true)
def tyX : Nat → FieldType := fun k => match k with
  | 0 => .boolean
  | 1 => .object "ConditionRows$Fields"
  | 2 => .object "ConditionRows$Weights"
  | 3 => .object "ConditionRows$Names"
  | 4 => .object "ConditionRows$Nodes"
  | 5 => .object "ConditionRows$Row"
  | 6 => .object "ConditionRows$Testing"
  | 7 => .array .boolean
  | 8 => .array .int
  | _ => .array .int
theorem nmX : ∀ a, a < 10 → ∀ b, b < 10 → a ≠ b → (TX a).2.1 ≠ (TX b).2.1 := by decide +kernel
theorem tyX_ok : ∀ k, k < 10 → parseFieldDescriptor (TX k).2.2.1 = some (tyX k) := by decide +kernel
def RXF : String := "ConditionRows$Fields"
def TXF : u_T := fun k => match k with
  | 0 => ("ConditionRows$Fields", "category", "[I", true)
  | 1 => ("ConditionRows$Fields", "size", "[I", true)
  | 2 => ("ConditionRows$Fields", "scale", "[I", true)
  | 3 => ("ConditionRows$Fields", "bytes", "[I", true)
  | _ => ("ConditionRows$Fields", "made", "I", false)
def tyXF : Nat → FieldType := fun k => match k with
  | 0 => .array .int
  | 1 => .array .int
  | 2 => .array .int
  | 3 => .array .int
  | _ => .int
theorem nmXF : ∀ a, a < 5 → ∀ b, b < 5 → a ≠ b → (TXF a).2.1 ≠ (TXF b).2.1 := by decide +kernel
theorem tyXF_ok : ∀ k, k < 5 → parseFieldDescriptor (TXF k).2.2.1 = some (tyXF k) := by decide +kernel
def RXW : String := "ConditionRows$Weights"
def TXW : u_T := fun k => match k with
  | _ => ("ConditionRows$Weights", "of", "[I", true)
def tyXW : Nat → FieldType := fun k => match k with
  | _ => .array .int
theorem nmXW : ∀ a, a < 1 → ∀ b, b < 1 → a ≠ b → (TXW a).2.1 ≠ (TXW b).2.1 := by decide +kernel
theorem tyXW_ok : ∀ k, k < 1 → parseFieldDescriptor (TXW k).2.2.1 = some (tyXW k) := by decide +kernel
def RXN : String := "ConditionRows$Names"
def TXN : u_T := fun k => match k with
  | 0 => ("ConditionRows$Names", "field", "[I", true)
  | 1 => ("ConditionRows$Names", "ranges", "[I", true)
  | 2 => ("ConditionRows$Names", "low", "[J", true)
  | 3 => ("ConditionRows$Names", "high", "[J", true)
  | _ => ("ConditionRows$Names", "made", "I", false)
def tyXN : Nat → FieldType := fun k => match k with
  | 0 => .array .int
  | 1 => .array .int
  | 2 => .array .long
  | 3 => .array .long
  | _ => .int
theorem nmXN : ∀ a, a < 5 → ∀ b, b < 5 → a ≠ b → (TXN a).2.1 ≠ (TXN b).2.1 := by decide +kernel
theorem tyXN_ok : ∀ k, k < 5 → parseFieldDescriptor (TXN k).2.2.1 = some (tyXN k) := by decide +kernel
def RXO : String := "ConditionRows$Nodes"
def TXO : u_T := fun k => match k with
  | 0 => ("ConditionRows$Nodes", "op", "[I", true)
  | 1 => ("ConditionRows$Nodes", "a", "[I", true)
  | 2 => ("ConditionRows$Nodes", "b", "[I", true)
  | _ => ("ConditionRows$Nodes", "made", "I", false)
def tyXO : Nat → FieldType := fun k => match k with
  | 0 => .array .int
  | 1 => .array .int
  | 2 => .array .int
  | _ => .int
theorem nmXO : ∀ a, a < 4 → ∀ b, b < 4 → a ≠ b → (TXO a).2.1 ≠ (TXO b).2.1 := by decide +kernel
theorem tyXO_ok : ∀ k, k < 4 → parseFieldDescriptor (TXO k).2.2.1 = some (tyXO k) := by decide +kernel
def RXR : String := "ConditionRows$Row"
def TXR : u_T := fun k => match k with
  | 0 => ("ConditionRows$Row", "with", "[I", true)
  | 1 => ("ConditionRows$Row", "op", "[I", true)
  | 2 => ("ConditionRows$Row", "negated", "[Z", true)
  | 3 => ("ConditionRows$Row", "object", "[I", true)
  | 4 => ("ConditionRows$Row", "subject", "I", false)
  | 5 => ("ConditionRows$Row", "carried", "I", false)
  | _ => ("ConditionRows$Row", "length", "I", false)
def tyXR : Nat → FieldType := fun k => match k with
  | 0 => .array .int
  | 1 => .array .int
  | 2 => .array .boolean
  | 3 => .array .int
  | 4 => .int
  | 5 => .int
  | _ => .int
theorem nmXR : ∀ a, a < 7 → ∀ b, b < 7 → a ≠ b → (TXR a).2.1 ≠ (TXR b).2.1 := by decide +kernel
theorem tyXR_ok : ∀ k, k < 7 → parseFieldDescriptor (TXR k).2.2.1 = some (tyXR k) := by decide +kernel
def RXT : String := "ConditionRows$Testing"
def TXT : u_T := fun k => match k with
  | 0 => ("ConditionRows$Testing", "outcome", "[I", true)
  | 1 => ("ConditionRows$Testing", "leaves", "[I", true)
  | 2 => ("ConditionRows$Testing", "waiting", "[I", true)
  | 3 => ("ConditionRows$Testing", "noted", "I", false)
  | _ => ("ConditionRows$Testing", "depth", "I", false)
def tyXT : Nat → FieldType := fun k => match k with
  | 0 => .array .int
  | 1 => .array .int
  | 2 => .array .int
  | 3 => .int
  | _ => .int
theorem nmXT : ∀ a, a < 5 → ∀ b, b < 5 → a ≠ b → (TXT a).2.1 ≠ (TXT b).2.1 := by decide +kernel
theorem tyXT_ok : ∀ k, k < 5 → parseFieldDescriptor (TXT k).2.2.1 = some (tyXT k) := by decide +kernel
def RM : String := "ConditionRowsModel"
def TM : u_T := fun k => match k with
  | 0 => ("ConditionRowsModel", "whole", "Z", true)
  | 1 => ("ConditionRowsModel", "thrown", "I", false)
  | 2 => ("ConditionRowsModel", "bytes", "[I", true)
  | 3 => ("ConditionRowsModel", "categories", "[I", true)
  | 4 => ("ConditionRowsModel", "sizes", "[I", true)
  | 5 => ("ConditionRowsModel", "scales", "[I", true)
  | 6 => ("ConditionRowsModel", "weights", "[I", true)
  | 7 => ("ConditionRowsModel", "fields", "I", false)
  | 8 => ("ConditionRowsModel", "ops", "[I", true)
  | 9 => ("ConditionRowsModel", "as", "[I", true)
  | 10 => ("ConditionRowsModel", "bs", "[I", true)
  | 11 => ("ConditionRowsModel", "nodes", "I", false)
  | 12 => ("ConditionRowsModel", "nameFields", "[I", true)
  | 13 => ("ConditionRowsModel", "ranges", "[I", true)
  | 14 => ("ConditionRowsModel", "lows", "[J", true)
  | 15 => ("ConditionRowsModel", "highs", "[J", true)
  | 16 => ("ConditionRowsModel", "names", "I", false)
  | 17 => ("ConditionRowsModel", "switches", "[Z", true)
  | 18 => ("ConditionRowsModel", "ways", "[I", true)
  | 19 => ("ConditionRowsModel", "rowOps", "[I", true)
  | 20 => ("ConditionRowsModel", "objects", "[I", true)
  | 21 => ("ConditionRowsModel", "turned", "[Z", true)
  | 22 => ("ConditionRowsModel", "row", "I", false)
  | 23 => ("ConditionRowsModel", "subject", "I", false)
  | 24 => ("ConditionRowsModel", "known", "[I", true)
  | 25 => ("ConditionRowsModel", "pile", "[I", true)
  | 26 => ("ConditionRowsModel", "leaves", "[I", true)
  | 27 => ("ConditionRowsModel", "noted", "I", false)
  | 28 => ("ConditionRowsModel", "fault", "Z", false)
  | _ => ("ConditionRowsModel", "digits", "[I", true)
def tyM : Nat → FieldType := fun k => match k with
  | 0 => .boolean
  | 1 => .int
  | 2 => .array .int
  | 3 => .array .int
  | 4 => .array .int
  | 5 => .array .int
  | 6 => .array .int
  | 7 => .int
  | 8 => .array .int
  | 9 => .array .int
  | 10 => .array .int
  | 11 => .int
  | 12 => .array .int
  | 13 => .array .int
  | 14 => .array .long
  | 15 => .array .long
  | 16 => .int
  | 17 => .array .boolean
  | 18 => .array .int
  | 19 => .array .int
  | 20 => .array .int
  | 21 => .array .boolean
  | 22 => .int
  | 23 => .int
  | 24 => .array .int
  | 25 => .array .int
  | 26 => .array .int
  | 27 => .int
  | 28 => .boolean
  | _ => .array .int
theorem nmM : ∀ a, a < 30 → ∀ b, b < 30 → a ≠ b → (TM a).2.1 ≠ (TM b).2.1 := by decide +kernel
theorem tyM_ok : ∀ k, k < 30 → parseFieldDescriptor (TM k).2.2.1 = some (tyM k) := by decide +kernel
def RJM : String := "java/lang/Math"
def RJL : String := "java/lang/Long"
def RJI : String := "java/lang/Integer"
def RL : String := "ConditionRowsLaw"
abbrev vwCl : List vw_C := [(RX, TX, 10), (RXF, TXF, 5), (RXW, TXW, 1), (RXN, TXN, 5), (RXO, TXO, 4), (RXR, TXR, 7), (RXT, TXT, 5), (RM, TM, 30)]
abbrev cX_init : ByteArray := prog_1_method_1_code
def yX_init : MethodName := ⟨RX, "<init>", "(I)V"⟩
abbrev cXF_init : ByteArray := prog_2_method_1_code
def yXF_init : MethodName := ⟨RXF, "<init>", "()V"⟩
abbrev cXW_init : ByteArray := prog_7_method_1_code
def yXW_init : MethodName := ⟨RXW, "<init>", "()V"⟩
abbrev cXN_init : ByteArray := prog_3_method_1_code
def yXN_init : MethodName := ⟨RXN, "<init>", "()V"⟩
abbrev cXO_init : ByteArray := prog_4_method_1_code
def yXO_init : MethodName := ⟨RXO, "<init>", "()V"⟩
abbrev cXR_init : ByteArray := prog_5_method_1_code
def yXR_init : MethodName := ⟨RXR, "<init>", "()V"⟩
abbrev cXT_init : ByteArray := prog_6_method_1_code
def yXT_init : MethodName := ⟨RXT, "<init>", "()V"⟩
abbrev cX_field : ByteArray := prog_1_method_2_code
def yX_field : MethodName := ⟨RX, "field", "(II)I"⟩
abbrev cX_mostBytes : ByteArray := prog_1_method_17_code
def yX_mostBytes : MethodName := ⟨RX, "mostBytes", "(I)I"⟩
abbrev cXF_add : ByteArray := prog_2_method_5_code
def yXF_add : MethodName := ⟨RXF, "add", "(II)I"⟩
abbrev cXF_firstByte : ByteArray := prog_2_method_6_code
def yXF_firstByte : MethodName := ⟨RXF, "firstByte", "(I)I"⟩
abbrev cX_octet : ByteArray := prog_1_method_3_code
def yX_octet : MethodName := ⟨RX, "octet", "(III)I"⟩
abbrev cXF_has : ByteArray := prog_2_method_2_code
def yXF_has : MethodName := ⟨RXF, "has", "(I)Z"⟩
abbrev cX_scale : ByteArray := prog_1_method_4_code
def yX_scale : MethodName := ⟨RX, "scale", "(II)I"⟩
abbrev cXF_hasNumber : ByteArray := prog_2_method_4_code
def yXF_hasNumber : MethodName := ⟨RXF, "hasNumber", "(I)Z"⟩
abbrev cXF_isText : ByteArray := prog_2_method_3_code
def yXF_isText : MethodName := ⟨RXF, "isText", "(I)Z"⟩
abbrev cX_weight : ByteArray := prog_1_method_5_code
def yX_weight : MethodName := ⟨RX, "weight", "(II)I"⟩
abbrev cX_isByte : ByteArray := prog_1_method_18_code
def yX_isByte : MethodName := ⟨RX, "isByte", "(I)Z"⟩
abbrev cX_node : ByteArray := prog_1_method_6_code
def yX_node : MethodName := ⟨RX, "node", "(III)I"⟩
abbrev cX_isInside : ByteArray := prog_1_method_22_code
def yX_isInside : MethodName := ⟨RX, "isInside", "(III)Z"⟩
abbrev cX_isSwitch : ByteArray := prog_1_method_19_code
def yX_isSwitch : MethodName := ⟨RX, "isSwitch", "(I)Z"⟩
abbrev cX_hasParts : ByteArray := prog_1_method_23_code
def yX_hasParts : MethodName := ⟨RX, "hasParts", "(III)Z"⟩
abbrev cXN_has : ByteArray := prog_3_method_2_code
def yXN_has : MethodName := ⟨RXN, "has", "(I)Z"⟩
abbrev cXO_has : ByteArray := prog_4_method_2_code
def yXO_has : MethodName := ⟨RXO, "has", "(I)Z"⟩
abbrev cXO_add : ByteArray := prog_4_method_3_code
def yXO_add : MethodName := ⟨RXO, "add", "(III)I"⟩
abbrev cX_name88 : ByteArray := prog_1_method_7_code
def yX_name88 : MethodName := ⟨RX, "name88", "(IJJ)I"⟩
abbrev cX_isAbove : ByteArray := prog_1_method_24_code
def yX_isAbove : MethodName := ⟨RX, "isAbove", "(IJJ)Z"⟩
abbrev cX_isBelowUnsigned : ByteArray := prog_1_method_25_code
def yX_isBelowUnsigned : MethodName := ⟨RX, "isBelowUnsigned", "(JJ)Z"⟩
abbrev cXN_add : ByteArray := prog_3_method_3_code
def yXN_add : MethodName := ⟨RXN, "add", "(IJJ)I"⟩
abbrev cXN_widen : ByteArray := prog_3_method_4_code
def yXN_widen : MethodName := ⟨RXN, "widen", "(IJJ)I"⟩
abbrev cX_range : ByteArray := prog_1_method_8_code
def yX_range : MethodName := ⟨RX, "range", "(IJJ)I"⟩
abbrev cX_short0 : ByteArray := prog_1_method_9_code
def yX_short0 : MethodName := ⟨RX, "short0", "(III)I"⟩
abbrev cX_isRelation : ByteArray := prog_1_method_20_code
def yX_isRelation : MethodName := ⟨RX, "isRelation", "(I)Z"⟩
abbrev cXR_begin : ByteArray := prog_5_method_2_code
def yXR_begin : MethodName := ⟨RXR, "begin", "(III)V"⟩
abbrev cXR_append : ByteArray := prog_5_method_3_code
def yXR_append : MethodName := ⟨RXR, "append", "(IIZI)V"⟩
abbrev cX_more : ByteArray := prog_1_method_10_code
def yX_more : MethodName := ⟨RX, "more", "(IZII)I"⟩
abbrev cX_turned : ByteArray := prog_1_method_21_code
def yX_turned : MethodName := ⟨RX, "turned", "(I)I"⟩
abbrev cX_unfold : ByteArray := prog_1_method_11_code
def yX_unfold : MethodName := ⟨RX, "unfold", "()I"⟩
abbrev cXR_nodesNeeded : ByteArray := prog_5_method_4_code
def yXR_nodesNeeded : MethodName := ⟨RXR, "nodesNeeded", "()I"⟩
abbrev cX_unfoldRow : ByteArray := prog_1_method_27_code
def yX_unfoldRow : MethodName := ⟨RX, "unfoldRow", "()I"⟩
abbrev cX_joined : ByteArray := prog_1_method_29_code
def yX_joined : MethodName := ⟨RX, "joined", "(III)I"⟩
abbrev cX_relationNode : ByteArray := prog_1_method_28_code
def yX_relationNode : MethodName := ⟨RX, "relationNode", "(I)I"⟩
abbrev cX_asked : ByteArray := prog_1_method_13_code
def yX_asked : MethodName := ⟨RX, "asked", "(I)I"⟩
abbrev cX_switchOn : ByteArray := prog_1_method_14_code
def yX_switchOn : MethodName := ⟨RX, "switchOn", "(IZ)I"⟩
abbrev cX_count : ByteArray := prog_1_method_16_code
def yX_count : MethodName := ⟨RX, "count", "(I)I"⟩
abbrev cX_switchesOn : ByteArray := prog_1_method_26_code
def yX_switchesOn : MethodName := ⟨RX, "switchesOn", "()I"⟩
abbrev cL_cell : ByteArray := method_2_code
def yL_cell : MethodName := ⟨RL, "cell", "([II)I"⟩
abbrev cL_truth : ByteArray := method_3_code
def yL_truth : MethodName := ⟨RL, "truth", "(LConditionRows;I[J)I"⟩
abbrev cX_truth : ByteArray := prog_1_method_12_code
def yX_truth : MethodName := ⟨RX, "truth", "(I)Z"⟩
abbrev cX_outcomeOf : ByteArray := prog_1_method_30_code
def yX_outcomeOf : MethodName := ⟨RX, "outcomeOf", "(I)I"⟩
abbrev cXT_begin : ByteArray := prog_6_method_2_code
def yXT_begin : MethodName := ⟨RXT, "begin", "()V"⟩
abbrev cXT_open : ByteArray := prog_6_method_3_code
def yXT_open : MethodName := ⟨RXT, "open", "(I)V"⟩
abbrev cX_partToTest : ByteArray := prog_1_method_31_code
def yX_partToTest : MethodName := ⟨RX, "partToTest", "(I)I"⟩
abbrev cX_settledBy : ByteArray := prog_1_method_32_code
def yX_settledBy : MethodName := ⟨RX, "settledBy", "(I)I"⟩
abbrev cX_leafOutcome : ByteArray := prog_1_method_34_code
def yX_leafOutcome : MethodName := ⟨RX, "leafOutcome", "(I)I"⟩
abbrev cXT_note : ByteArray := prog_6_method_5_code
def yXT_note : MethodName := ⟨RXT, "note", "(I)V"⟩
abbrev cXF_isOfClass : ByteArray := prog_2_method_9_code
def yXF_isOfClass : MethodName := ⟨RXF, "isOfClass", "(II)Z"⟩
abbrev cXF_isBad : ByteArray := prog_2_method_8_code
def yXF_isBad : MethodName := ⟨RXF, "isBad", "(I)Z"⟩
abbrev cXF_isDigit : ByteArray := prog_2_method_7_code
def yXF_isDigit : MethodName := ⟨RXF, "isDigit", "(I)Z"⟩
abbrev cXF_fits : ByteArray := prog_2_method_10_code
def yXF_fits : MethodName := ⟨RXF, "fits", "(II)Z"⟩
abbrev cX_asOutcome : ByteArray := prog_1_method_35_code
def yX_asOutcome : MethodName := ⟨RX, "asOutcome", "(Z)I"⟩
abbrev cXF_value : ByteArray := prog_2_method_11_code
def yXF_value : MethodName := ⟨RXF, "value", "(I)J"⟩
abbrev cXF_digitsValue : ByteArray := prog_2_method_12_code
def yXF_digitsValue : MethodName := ⟨RXF, "digitsValue", "(I)J"⟩
abbrev cXF_binaryValue : ByteArray := prog_2_method_13_code
def yXF_binaryValue : MethodName := ⟨RXF, "binaryValue", "(I)J"⟩
abbrev cJL_compare : ByteArray := prog_14_method_42_code
def yJL_compare : MethodName := ⟨RJL, "compare", "(JJ)I"⟩
abbrev cX_holds : ByteArray := prog_1_method_37_code
def yX_holds : MethodName := ⟨RX, "holds", "(I)Z"⟩
abbrev cXF_firstBytes : ByteArray := prog_2_method_14_code
def yXF_firstBytes : MethodName := ⟨RXF, "firstBytes", "(I)J"⟩
abbrev cXN_hasUnsigned : ByteArray := prog_3_method_6_code
def yXN_hasUnsigned : MethodName := ⟨RXN, "hasUnsigned", "(IJ)Z"⟩
abbrev cXN_hasSigned : ByteArray := prog_3_method_5_code
def yXN_hasSigned : MethodName := ⟨RXN, "hasSigned", "(IJ)Z"⟩
abbrev cX_relationOutcome : ByteArray := prog_1_method_36_code
def yX_relationOutcome : MethodName := ⟨RX, "relationOutcome", "(III)I"⟩
abbrev cX_compareFields : ByteArray := prog_1_method_38_code
def yX_compareFields : MethodName := ⟨RX, "compareFields", "(II)I"⟩
abbrev cXF_compareNumbers : ByteArray := prog_2_method_15_code
def yXF_compareNumbers : MethodName := ⟨RXF, "compareNumbers", "(II)I"⟩
abbrev cXF_compareScaled : ByteArray := prog_2_method_16_code
def yXF_compareScaled : MethodName := ⟨RXF, "compareScaled", "(JJI)I"⟩
abbrev cJM_floorDiv : ByteArray := prog_15_method_49_code
def yJM_floorDiv : MethodName := ⟨RJM, "floorDiv", "(JJ)J"⟩
abbrev cJM_floorMod : ByteArray := prog_15_method_52_code
def yJM_floorMod : MethodName := ⟨RJM, "floorMod", "(JJ)J"⟩
abbrev cXF_spell : ByteArray := prog_2_method_17_code
def yXF_spell : MethodName := ⟨RXF, "spell", "(I[I)V"⟩
abbrev cXF_spellDecimals : ByteArray := prog_2_method_19_code
def yXF_spellDecimals : MethodName := ⟨RXF, "spellDecimals", "(J[I)I"⟩
abbrev cXF_spellBytes : ByteArray := prog_2_method_18_code
def yXF_spellBytes : MethodName := ⟨RXF, "spellBytes", "(I[I)I"⟩
abbrev cXW_compareTexts : ByteArray := prog_7_method_2_code
def yXW_compareTexts : MethodName := ⟨RXW, "compareTexts", "([I[I)I"⟩
abbrev cJI_compare : ByteArray := prog_13_method_40_code
def yJI_compare : MethodName := ⟨RJI, "compare", "(II)I"⟩
abbrev cX_joinedOutcome : ByteArray := prog_1_method_33_code
def yX_joinedOutcome : MethodName := ⟨RX, "joinedOutcome", "(I)I"⟩
abbrev cXT_close : ByteArray := prog_6_method_4_code
def yXT_close : MethodName := ⟨RXT, "close", "(I)V"⟩
abbrev cL_compare : ByteArray := method_4_code
def yL_compare : MethodName := ⟨RL, "compare", "(LConditionRows;II[J)I"⟩
abbrev cX_compare : ByteArray := prog_1_method_15_code
def yX_compare : MethodName := ⟨RX, "compare", "(II)I"⟩
abbrev cM_init : ByteArray := prog_9_method_1_code
def yM_init : MethodName := ⟨RM, "<init>", "(I)V"⟩
abbrev cM_field : ByteArray := prog_9_method_6_code
def yM_field : MethodName := ⟨RM, "field", "(II)I"⟩
abbrev cM_octet : ByteArray := prog_9_method_7_code
def yM_octet : MethodName := ⟨RM, "octet", "(III)I"⟩
abbrev cM_isField : ByteArray := prog_9_method_3_code
def yM_isField : MethodName := ⟨RM, "isField", "(I)Z"⟩
abbrev cM_scale : ByteArray := prog_9_method_8_code
def yM_scale : MethodName := ⟨RM, "scale", "(II)I"⟩
abbrev cM_weight : ByteArray := prog_9_method_10_code
def yM_weight : MethodName := ⟨RM, "weight", "(II)I"⟩
abbrev cM_isByte : ByteArray := prog_9_method_9_code
def yM_isByte : MethodName := ⟨RM, "isByte", "(I)Z"⟩
abbrev cM_node : ByteArray := prog_9_method_22_code
def yM_node : MethodName := ⟨RM, "node", "(III)I"⟩
abbrev cM_refusal : ByteArray := prog_9_method_20_code
def yM_refusal : MethodName := ⟨RM, "refusal", "(III)I"⟩
abbrev cM_isName : ByteArray := prog_9_method_5_code
def yM_isName : MethodName := ⟨RM, "isName", "(I)Z"⟩
abbrev cM_isNode : ByteArray := prog_9_method_4_code
def yM_isNode : MethodName := ⟨RM, "isNode", "(I)Z"⟩
abbrev cM_made : ByteArray := prog_9_method_21_code
def yM_made : MethodName := ⟨RM, "made", "(III)I"⟩
abbrev cM_name88 : ByteArray := prog_9_method_25_code
def yM_name88 : MethodName := ⟨RM, "name88", "(IJJ)I"⟩
abbrev cM_isTurned : ByteArray := prog_9_method_24_code
def yM_isTurned : MethodName := ⟨RM, "isTurned", "(IJJ)Z"⟩
abbrev cM_isLess : ByteArray := prog_9_method_23_code
def yM_isLess : MethodName := ⟨RM, "isLess", "(JJ)Z"⟩
abbrev cM_range : ByteArray := prog_9_method_26_code
def yM_range : MethodName := ⟨RM, "range", "(IJJ)I"⟩
abbrev cM_short0 : ByteArray := prog_9_method_28_code
def yM_short0 : MethodName := ⟨RM, "short0", "(III)I"⟩
abbrev cM_isRelation : ByteArray := prog_9_method_27_code
def yM_isRelation : MethodName := ⟨RM, "isRelation", "(I)Z"⟩
abbrev cM_more : ByteArray := prog_9_method_29_code
def yM_more : MethodName := ⟨RM, "more", "(IZII)I"⟩
abbrev cM_unfold : ByteArray := prog_9_method_31_code
def yM_unfold : MethodName := ⟨RM, "unfold", "()I"⟩
abbrev cM_relation : ByteArray := prog_9_method_30_code
def yM_relation : MethodName := ⟨RM, "relation", "(I)I"⟩
abbrev cM_truth : ByteArray := prog_9_method_37_code
def yM_truth : MethodName := ⟨RM, "truth", "(I)Z"⟩
abbrev cM_leaf : ByteArray := prog_9_method_35_code
def yM_leaf : MethodName := ⟨RM, "leaf", "(I)Z"⟩
abbrev cM_isBad : ByteArray := prog_9_method_12_code
def yM_isBad : MethodName := ⟨RM, "isBad", "(I)Z"⟩
abbrev cM_read : ByteArray := prog_9_method_11_code
def yM_read : MethodName := ⟨RM, "read", "(II)I"⟩
abbrev cM_related : ByteArray := prog_9_method_34_code
def yM_related : MethodName := ⟨RM, "related", "(III)Z"⟩
abbrev cM_order : ByteArray := prog_9_method_19_code
def yM_order : MethodName := ⟨RM, "order", "(II)I"⟩
abbrev cM_part : ByteArray := prog_9_method_15_code
def yM_part : MethodName := ⟨RM, "part", "(I)J"⟩
abbrev cM_whole : ByteArray := prog_9_method_13_code
def yM_whole : MethodName := ⟨RM, "whole", "(I)J"⟩
abbrev cM_ten : ByteArray := prog_9_method_14_code
def yM_ten : MethodName := ⟨RM, "ten", "(I)J"⟩
abbrev cM_sign : ByteArray := prog_9_method_18_code
def yM_sign : MethodName := ⟨RM, "sign", "(JJ)I"⟩
abbrev cM_rest : ByteArray := prog_9_method_16_code
def yM_rest : MethodName := ⟨RM, "rest", "(I)J"⟩
abbrev cM_spell : ByteArray := prog_9_method_17_code
def yM_spell : MethodName := ⟨RM, "spell", "(I)V"⟩
abbrev cM_isOf : ByteArray := prog_9_method_32_code
def yM_isOf : MethodName := ⟨RM, "isOf", "(II)Z"⟩
abbrev cM_isIn : ByteArray := prog_9_method_33_code
def yM_isIn : MethodName := ⟨RM, "isIn", "(I)Z"⟩
abbrev cM_settled : ByteArray := prog_9_method_36_code
def yM_settled : MethodName := ⟨RM, "settled", "(I)I"⟩
abbrev cM_asked : ByteArray := prog_9_method_38_code
def yM_asked : MethodName := ⟨RM, "asked", "(I)I"⟩
abbrev cM_switchOn : ByteArray := prog_9_method_39_code
def yM_switchOn : MethodName := ⟨RM, "switchOn", "(IZ)I"⟩
abbrev cM_compare : ByteArray := prog_9_method_40_code
def yM_compare : MethodName := ⟨RM, "compare", "(II)I"⟩
abbrev cM_count : ByteArray := prog_9_method_41_code
def yM_count : MethodName := ⟨RM, "count", "(I)I"⟩
end
section
def zWords : List Cond := lw_tbl.filter goodWord
theorem zmem {w : Cond} (i : Nat) (h : tables_1[i]? = some w) (g : goodWord w = true) : w ∈ zWords := List.mem_filter.mpr ⟨List.mem_append_right _ (List.mem_of_getElem? h), g⟩
theorem zmemP {w : Cond} (i : Nat) (h : (k2_sels lw_privs)[i]? = some w) (g : goodWord w = true) : w ∈ zWords := List.mem_filter.mpr ⟨List.mem_append_left _ (List.mem_of_getElem? h), g⟩
theorem zc {w c : Cond} (h : w ∈ zWords) : w ∈ c :: zWords := List.mem_cons_of_mem _ h
theorem zgood {w c0 : Cond} (h : w ∈ zWords) : w ∈ c0 :: zWords ∧ ((w.onTables && w.keeps) = true ∨ ∃ ty, w = .arrayClass ty) := ⟨zc h, good_of_word (List.mem_filter.mp h).2⟩
theorem zgC {w c0 : Cond} (h : w ∈ zWords) : GoodIn (c0 :: zWords) (w :: zWords) := by
  intro v hv
  rcases List.mem_cons.mp hv with e | e
  · rw [e]; exact zgood h
  · exact zgood e
theorem zgV {c0 w : Cond} {own C : String} {idx : Nat} {y : MethodName} (h1 : Cond.methodLink own idx y ∈ zWords) (h2 : Cond.instanceMethod y ∈ zWords) (h3 : Cond.selects C y y ∈ zWords) (h4 : Cond.initialized C ∈ zWords) (h : w ∈ zWords) : GoodIn (c0 :: zWords) (wsV own idx C y (w :: zWords)) := by
  intro v hv
  rcases List.mem_append.mp hv with e | e
  · simp only [List.mem_cons, List.not_mem_nil, or_false] at e
    rcases e with e | e | e | e <;> (rw [e]; apply zgood; assumption)
  · exact zgC h v e
theorem zgS {c0 w : Cond} {own : String} {idx : Nat} {y : MethodName} (h1 : Cond.methodLink own idx y ∈ zWords) (h2 : Cond.static y ∈ zWords) (h4 : Cond.initialized y.cls ∈ zWords) (h : w ∈ zWords) : GoodIn (c0 :: zWords) (va_wsS own idx y (w :: zWords)) := by
  intro v hv
  rcases List.mem_append.mp hv with e | e
  · simp only [List.mem_cons, List.not_mem_nil, or_false] at e
    rcases e with e | e | e <;> (rw [e]; apply zgood; assumption)
  · exact zgC h v e
theorem m_211 : (Jvm.Cond.code ({ cls := "ConditionRows", name := "mostBytes", desc := "(I)I" } : Jvm.MethodName) prog_1_method_17_code (1 : Nat) (Option.some Jvm.ClassFile.FieldType.int)) ∈ zWords := zmem 211 (by decide +kernel) (by decide +kernel)
theorem m_209 : (Jvm.Cond.methodLink "ConditionRows" (66 : Nat) ({ cls := "ConditionRows", name := "mostBytes", desc := "(I)I" } : Jvm.MethodName)) ∈ zWords := zmem 209 (by decide +kernel) (by decide +kernel)
theorem m_210 : (Jvm.Cond.static ({ cls := "ConditionRows", name := "mostBytes", desc := "(I)I" } : Jvm.MethodName)) ∈ zWords := zmem 210 (by decide +kernel) (by decide +kernel)
theorem m_1 : (Jvm.Cond.initialized "ConditionRows") ∈ zWords := zmem 1 (by decide +kernel) (by decide +kernel)
theorem m_175 : (Jvm.Cond.fieldLink "ConditionRows" (10 : Nat) "ConditionRows" "fields" "LConditionRows$Fields;") ∈ zWords := zmem 175 (by decide +kernel) (by decide +kernel)
theorem m_38 : (Jvm.Cond.fieldLink "ConditionRows$Fields" (24 : Nat) "ConditionRows$Fields" "made" "I") ∈ zWords := zmem 38 (by decide +kernel) (by decide +kernel)
theorem m_31 : (Jvm.Cond.fieldLink "ConditionRows$Fields" (9 : Nat) "ConditionRows$Fields" "category" "[I") ∈ zWords := zmem 31 (by decide +kernel) (by decide +kernel)
theorem m_32 : (Jvm.Cond.fieldLink "ConditionRows$Fields" (15 : Nat) "ConditionRows$Fields" "size" "[I") ∈ zWords := zmem 32 (by decide +kernel) (by decide +kernel)
theorem m_36 : (Jvm.Cond.fieldLink "ConditionRows$Fields" (21 : Nat) "ConditionRows$Fields" "bytes" "[I") ∈ zWords := zmem 36 (by decide +kernel) (by decide +kernel)
theorem m_218 : (Jvm.Cond.code ({ cls := "ConditionRows$Fields", name := "firstByte", desc := "(I)I" } : Jvm.MethodName) prog_2_method_6_code (1 : Nat) (Option.some Jvm.ClassFile.FieldType.int)) ∈ zWords := zmem 218 (by decide +kernel) (by decide +kernel)
theorem m_216 : (Jvm.Cond.methodLink "ConditionRows$Fields" (35 : Nat) ({ cls := "ConditionRows$Fields", name := "firstByte", desc := "(I)I" } : Jvm.MethodName)) ∈ zWords := zmem 216 (by decide +kernel) (by decide +kernel)
theorem m_217 : (Jvm.Cond.static ({ cls := "ConditionRows$Fields", name := "firstByte", desc := "(I)I" } : Jvm.MethodName)) ∈ zWords := zmem 217 (by decide +kernel) (by decide +kernel)
theorem m_2 : (Jvm.Cond.initialized "ConditionRows$Fields") ∈ zWords := zmem 2 (by decide +kernel) (by decide +kernel)
theorem m_215 : (Jvm.Cond.code ({ cls := "ConditionRows$Fields", name := "add", desc := "(II)I" } : Jvm.MethodName) prog_2_method_5_code (5 : Nat) (Option.some Jvm.ClassFile.FieldType.int)) ∈ zWords := zmem 215 (by decide +kernel) (by decide +kernel)
theorem m_212 : (Jvm.Cond.methodLink "ConditionRows" (70 : Nat) ({ cls := "ConditionRows$Fields", name := "add", desc := "(II)I" } : Jvm.MethodName)) ∈ zWords := zmem 212 (by decide +kernel) (by decide +kernel)
theorem m_213 : (Jvm.Cond.instanceMethod ({ cls := "ConditionRows$Fields", name := "add", desc := "(II)I" } : Jvm.MethodName)) ∈ zWords := zmem 213 (by decide +kernel) (by decide +kernel)
theorem m_214 : (Jvm.Cond.selects "ConditionRows$Fields" ({ cls := "ConditionRows$Fields", name := "add", desc := "(II)I" } : Jvm.MethodName) ({ cls := "ConditionRows$Fields", name := "add", desc := "(II)I" } : Jvm.MethodName)) ∈ zWords := zmem 214 (by decide +kernel) (by decide +kernel)
theorem m_226 : (Jvm.Cond.code ({ cls := "ConditionRows$Fields", name := "has", desc := "(I)Z" } : Jvm.MethodName) prog_2_method_2_code (2 : Nat) (Option.some Jvm.ClassFile.FieldType.boolean)) ∈ zWords := zmem 226 (by decide +kernel) (by decide +kernel)
theorem m_223 : (Jvm.Cond.methodLink "ConditionRows" (74 : Nat) ({ cls := "ConditionRows$Fields", name := "has", desc := "(I)Z" } : Jvm.MethodName)) ∈ zWords := zmem 223 (by decide +kernel) (by decide +kernel)
theorem m_224 : (Jvm.Cond.instanceMethod ({ cls := "ConditionRows$Fields", name := "has", desc := "(I)Z" } : Jvm.MethodName)) ∈ zWords := zmem 224 (by decide +kernel) (by decide +kernel)
theorem m_225 : (Jvm.Cond.selects "ConditionRows$Fields" ({ cls := "ConditionRows$Fields", name := "has", desc := "(I)Z" } : Jvm.MethodName) ({ cls := "ConditionRows$Fields", name := "has", desc := "(I)Z" } : Jvm.MethodName)) ∈ zWords := zmem 225 (by decide +kernel) (by decide +kernel)
theorem m_235 : (Jvm.Cond.methodLink "ConditionRows$Fields" (28 : Nat) ({ cls := "ConditionRows$Fields", name := "has", desc := "(I)Z" } : Jvm.MethodName)) ∈ zWords := zmem 235 (by decide +kernel) (by decide +kernel)
theorem m_239 : (Jvm.Cond.code ({ cls := "ConditionRows$Fields", name := "isText", desc := "(I)Z" } : Jvm.MethodName) prog_2_method_3_code (2 : Nat) (Option.some Jvm.ClassFile.FieldType.boolean)) ∈ zWords := zmem 239 (by decide +kernel) (by decide +kernel)
theorem m_236 : (Jvm.Cond.methodLink "ConditionRows$Fields" (32 : Nat) ({ cls := "ConditionRows$Fields", name := "isText", desc := "(I)Z" } : Jvm.MethodName)) ∈ zWords := zmem 236 (by decide +kernel) (by decide +kernel)
theorem m_237 : (Jvm.Cond.instanceMethod ({ cls := "ConditionRows$Fields", name := "isText", desc := "(I)Z" } : Jvm.MethodName)) ∈ zWords := zmem 237 (by decide +kernel) (by decide +kernel)
theorem m_238 : (Jvm.Cond.selects "ConditionRows$Fields" ({ cls := "ConditionRows$Fields", name := "isText", desc := "(I)Z" } : Jvm.MethodName) ({ cls := "ConditionRows$Fields", name := "isText", desc := "(I)Z" } : Jvm.MethodName)) ∈ zWords := zmem 238 (by decide +kernel) (by decide +kernel)
theorem m_234 : (Jvm.Cond.code ({ cls := "ConditionRows$Fields", name := "hasNumber", desc := "(I)Z" } : Jvm.MethodName) prog_2_method_4_code (2 : Nat) (Option.some Jvm.ClassFile.FieldType.boolean)) ∈ zWords := zmem 234 (by decide +kernel) (by decide +kernel)
theorem m_231 : (Jvm.Cond.methodLink "ConditionRows" (84 : Nat) ({ cls := "ConditionRows$Fields", name := "hasNumber", desc := "(I)Z" } : Jvm.MethodName)) ∈ zWords := zmem 231 (by decide +kernel) (by decide +kernel)
theorem m_232 : (Jvm.Cond.instanceMethod ({ cls := "ConditionRows$Fields", name := "hasNumber", desc := "(I)Z" } : Jvm.MethodName)) ∈ zWords := zmem 232 (by decide +kernel) (by decide +kernel)
theorem m_233 : (Jvm.Cond.selects "ConditionRows$Fields" ({ cls := "ConditionRows$Fields", name := "hasNumber", desc := "(I)Z" } : Jvm.MethodName) ({ cls := "ConditionRows$Fields", name := "hasNumber", desc := "(I)Z" } : Jvm.MethodName)) ∈ zWords := zmem 233 (by decide +kernel) (by decide +kernel)
theorem m_246 : (Jvm.Cond.code ({ cls := "ConditionRows", name := "isByte", desc := "(I)Z" } : Jvm.MethodName) prog_1_method_18_code (1 : Nat) (Option.some Jvm.ClassFile.FieldType.boolean)) ∈ zWords := zmem 246 (by decide +kernel) (by decide +kernel)
theorem m_244 : (Jvm.Cond.methodLink "ConditionRows" (90 : Nat) ({ cls := "ConditionRows", name := "isByte", desc := "(I)Z" } : Jvm.MethodName)) ∈ zWords := zmem 244 (by decide +kernel) (by decide +kernel)
theorem m_245 : (Jvm.Cond.static ({ cls := "ConditionRows", name := "isByte", desc := "(I)Z" } : Jvm.MethodName)) ∈ zWords := zmem 245 (by decide +kernel) (by decide +kernel)
theorem m_176 : (Jvm.Cond.fieldLink "ConditionRows" (19 : Nat) "ConditionRows" "weights" "LConditionRows$Weights;") ∈ zWords := zmem 176 (by decide +kernel) (by decide +kernel)
theorem m_256 : (Jvm.Cond.code ({ cls := "ConditionRows", name := "isSwitch", desc := "(I)Z" } : Jvm.MethodName) prog_1_method_19_code (1 : Nat) (Option.some Jvm.ClassFile.FieldType.boolean)) ∈ zWords := zmem 256 (by decide +kernel) (by decide +kernel)
theorem m_254 : (Jvm.Cond.methodLink "ConditionRows" (173 : Nat) ({ cls := "ConditionRows", name := "isSwitch", desc := "(I)Z" } : Jvm.MethodName)) ∈ zWords := zmem 254 (by decide +kernel) (by decide +kernel)
theorem m_255 : (Jvm.Cond.static ({ cls := "ConditionRows", name := "isSwitch", desc := "(I)Z" } : Jvm.MethodName)) ∈ zWords := zmem 255 (by decide +kernel) (by decide +kernel)
theorem m_253 : (Jvm.Cond.code ({ cls := "ConditionRows", name := "isInside", desc := "(III)Z" } : Jvm.MethodName) prog_1_method_22_code (3 : Nat) (Option.some Jvm.ClassFile.FieldType.boolean)) ∈ zWords := zmem 253 (by decide +kernel) (by decide +kernel)
theorem m_251 : (Jvm.Cond.methodLink "ConditionRows" (96 : Nat) ({ cls := "ConditionRows", name := "isInside", desc := "(III)Z" } : Jvm.MethodName)) ∈ zWords := zmem 251 (by decide +kernel) (by decide +kernel)
theorem m_252 : (Jvm.Cond.static ({ cls := "ConditionRows", name := "isInside", desc := "(III)Z" } : Jvm.MethodName)) ∈ zWords := zmem 252 (by decide +kernel) (by decide +kernel)
theorem m_177 : (Jvm.Cond.fieldLink "ConditionRows" (26 : Nat) "ConditionRows" "names" "LConditionRows$Names;") ∈ zWords := zmem 177 (by decide +kernel) (by decide +kernel)
theorem m_74 : (Jvm.Cond.fieldLink "ConditionRows$Names" (25 : Nat) "ConditionRows$Names" "made" "I") ∈ zWords := zmem 74 (by decide +kernel) (by decide +kernel)
theorem m_264 : (Jvm.Cond.code ({ cls := "ConditionRows$Names", name := "has", desc := "(I)Z" } : Jvm.MethodName) prog_3_method_2_code (2 : Nat) (Option.some Jvm.ClassFile.FieldType.boolean)) ∈ zWords := zmem 264 (by decide +kernel) (by decide +kernel)
theorem m_261 : (Jvm.Cond.methodLink "ConditionRows" (113 : Nat) ({ cls := "ConditionRows$Names", name := "has", desc := "(I)Z" } : Jvm.MethodName)) ∈ zWords := zmem 261 (by decide +kernel) (by decide +kernel)
theorem m_262 : (Jvm.Cond.instanceMethod ({ cls := "ConditionRows$Names", name := "has", desc := "(I)Z" } : Jvm.MethodName)) ∈ zWords := zmem 262 (by decide +kernel) (by decide +kernel)
theorem m_263 : (Jvm.Cond.selects "ConditionRows$Names" ({ cls := "ConditionRows$Names", name := "has", desc := "(I)Z" } : Jvm.MethodName) ({ cls := "ConditionRows$Names", name := "has", desc := "(I)Z" } : Jvm.MethodName)) ∈ zWords := zmem 263 (by decide +kernel) (by decide +kernel)
theorem m_4 : (Jvm.Cond.initialized "ConditionRows$Names") ∈ zWords := zmem 4 (by decide +kernel) (by decide +kernel)
theorem m_178 : (Jvm.Cond.fieldLink "ConditionRows" (33 : Nat) "ConditionRows" "nodes" "LConditionRows$Nodes;") ∈ zWords := zmem 178 (by decide +kernel) (by decide +kernel)
theorem m_100 : (Jvm.Cond.fieldLink "ConditionRows$Nodes" (21 : Nat) "ConditionRows$Nodes" "made" "I") ∈ zWords := zmem 100 (by decide +kernel) (by decide +kernel)
theorem m_268 : (Jvm.Cond.code ({ cls := "ConditionRows$Nodes", name := "has", desc := "(I)Z" } : Jvm.MethodName) prog_4_method_2_code (2 : Nat) (Option.some Jvm.ClassFile.FieldType.boolean)) ∈ zWords := zmem 268 (by decide +kernel) (by decide +kernel)
theorem m_265 : (Jvm.Cond.methodLink "ConditionRows" (151 : Nat) ({ cls := "ConditionRows$Nodes", name := "has", desc := "(I)Z" } : Jvm.MethodName)) ∈ zWords := zmem 265 (by decide +kernel) (by decide +kernel)
theorem m_266 : (Jvm.Cond.instanceMethod ({ cls := "ConditionRows$Nodes", name := "has", desc := "(I)Z" } : Jvm.MethodName)) ∈ zWords := zmem 266 (by decide +kernel) (by decide +kernel)
theorem m_267 : (Jvm.Cond.selects "ConditionRows$Nodes" ({ cls := "ConditionRows$Nodes", name := "has", desc := "(I)Z" } : Jvm.MethodName) ({ cls := "ConditionRows$Nodes", name := "has", desc := "(I)Z" } : Jvm.MethodName)) ∈ zWords := zmem 267 (by decide +kernel) (by decide +kernel)
theorem m_5 : (Jvm.Cond.initialized "ConditionRows$Nodes") ∈ zWords := zmem 5 (by decide +kernel) (by decide +kernel)
theorem m_260 : (Jvm.Cond.code ({ cls := "ConditionRows", name := "hasParts", desc := "(III)Z" } : Jvm.MethodName) prog_1_method_23_code (4 : Nat) (Option.some Jvm.ClassFile.FieldType.boolean)) ∈ zWords := zmem 260 (by decide +kernel) (by decide +kernel)
theorem m_257 : (Jvm.Cond.methodLink "ConditionRows" (100 : Nat) ({ cls := "ConditionRows", name := "hasParts", desc := "(III)Z" } : Jvm.MethodName)) ∈ zWords := zmem 257 (by decide +kernel) (by decide +kernel)
theorem m_259 : (Jvm.Cond.instanceMethod ({ cls := "ConditionRows", name := "hasParts", desc := "(III)Z" } : Jvm.MethodName)) ∈ zWords := zmem 259 (by decide +kernel) (by decide +kernel)
theorem mp_0 : (Jvm.Cond.selects "ConditionRows" ({ cls := "ConditionRows", name := "hasParts", desc := "(III)Z" } : Jvm.MethodName) ({ cls := "ConditionRows", name := "hasParts", desc := "(III)Z" } : Jvm.MethodName)) ∈ zWords := zmemP 0 (by decide +kernel) (by decide +kernel)
theorem m_94 : (Jvm.Cond.fieldLink "ConditionRows$Nodes" (9 : Nat) "ConditionRows$Nodes" "op" "[I") ∈ zWords := zmem 94 (by decide +kernel) (by decide +kernel)
theorem m_96 : (Jvm.Cond.fieldLink "ConditionRows$Nodes" (15 : Nat) "ConditionRows$Nodes" "a" "[I") ∈ zWords := zmem 96 (by decide +kernel) (by decide +kernel)
theorem m_98 : (Jvm.Cond.fieldLink "ConditionRows$Nodes" (18 : Nat) "ConditionRows$Nodes" "b" "[I") ∈ zWords := zmem 98 (by decide +kernel) (by decide +kernel)
theorem m_272 : (Jvm.Cond.code ({ cls := "ConditionRows$Nodes", name := "add", desc := "(III)I" } : Jvm.MethodName) prog_4_method_3_code (4 : Nat) (Option.some Jvm.ClassFile.FieldType.int)) ∈ zWords := zmem 272 (by decide +kernel) (by decide +kernel)
theorem m_269 : (Jvm.Cond.methodLink "ConditionRows" (103 : Nat) ({ cls := "ConditionRows$Nodes", name := "add", desc := "(III)I" } : Jvm.MethodName)) ∈ zWords := zmem 269 (by decide +kernel) (by decide +kernel)
theorem m_270 : (Jvm.Cond.instanceMethod ({ cls := "ConditionRows$Nodes", name := "add", desc := "(III)I" } : Jvm.MethodName)) ∈ zWords := zmem 270 (by decide +kernel) (by decide +kernel)
theorem m_271 : (Jvm.Cond.selects "ConditionRows$Nodes" ({ cls := "ConditionRows$Nodes", name := "add", desc := "(III)I" } : Jvm.MethodName) ({ cls := "ConditionRows$Nodes", name := "add", desc := "(III)I" } : Jvm.MethodName)) ∈ zWords := zmem 271 (by decide +kernel) (by decide +kernel)
theorem m_281 : (Jvm.Cond.methodLink "ConditionRows" (191 : Nat) ({ cls := "ConditionRows$Fields", name := "isText", desc := "(I)Z" } : Jvm.MethodName)) ∈ zWords := zmem 281 (by decide +kernel) (by decide +kernel)
theorem m_285 : (Jvm.Cond.constantLong "ConditionRows" (200 : Nat) (-9223372036854775808 : Int64)) ∈ zWords := zmem 285 (by decide +kernel) (by decide +kernel)
theorem m_284 : (Jvm.Cond.code ({ cls := "ConditionRows", name := "isBelowUnsigned", desc := "(JJ)Z" } : Jvm.MethodName) prog_1_method_25_code (4 : Nat) (Option.some Jvm.ClassFile.FieldType.boolean)) ∈ zWords := zmem 284 (by decide +kernel) (by decide +kernel)
theorem m_282 : (Jvm.Cond.methodLink "ConditionRows" (194 : Nat) ({ cls := "ConditionRows", name := "isBelowUnsigned", desc := "(JJ)Z" } : Jvm.MethodName)) ∈ zWords := zmem 282 (by decide +kernel) (by decide +kernel)
theorem m_283 : (Jvm.Cond.static ({ cls := "ConditionRows", name := "isBelowUnsigned", desc := "(JJ)Z" } : Jvm.MethodName)) ∈ zWords := zmem 283 (by decide +kernel) (by decide +kernel)
theorem m_280 : (Jvm.Cond.code ({ cls := "ConditionRows", name := "isAbove", desc := "(IJJ)Z" } : Jvm.MethodName) prog_1_method_24_code (6 : Nat) (Option.some Jvm.ClassFile.FieldType.boolean)) ∈ zWords := zmem 280 (by decide +kernel) (by decide +kernel)
theorem m_277 : (Jvm.Cond.methodLink "ConditionRows" (106 : Nat) ({ cls := "ConditionRows", name := "isAbove", desc := "(IJJ)Z" } : Jvm.MethodName)) ∈ zWords := zmem 277 (by decide +kernel) (by decide +kernel)
theorem m_279 : (Jvm.Cond.instanceMethod ({ cls := "ConditionRows", name := "isAbove", desc := "(IJJ)Z" } : Jvm.MethodName)) ∈ zWords := zmem 279 (by decide +kernel) (by decide +kernel)
theorem mp_1 : (Jvm.Cond.selects "ConditionRows" ({ cls := "ConditionRows", name := "isAbove", desc := "(IJJ)Z" } : Jvm.MethodName) ({ cls := "ConditionRows", name := "isAbove", desc := "(IJJ)Z" } : Jvm.MethodName)) ∈ zWords := zmemP 1 (by decide +kernel) (by decide +kernel)
theorem m_69 : (Jvm.Cond.fieldLink "ConditionRows$Names" (9 : Nat) "ConditionRows$Names" "field" "[I") ∈ zWords := zmem 69 (by decide +kernel) (by decide +kernel)
theorem m_71 : (Jvm.Cond.fieldLink "ConditionRows$Names" (15 : Nat) "ConditionRows$Names" "ranges" "[I") ∈ zWords := zmem 71 (by decide +kernel) (by decide +kernel)
theorem m_72 : (Jvm.Cond.fieldLink "ConditionRows$Names" (18 : Nat) "ConditionRows$Names" "low" "[J") ∈ zWords := zmem 72 (by decide +kernel) (by decide +kernel)
theorem m_73 : (Jvm.Cond.fieldLink "ConditionRows$Names" (22 : Nat) "ConditionRows$Names" "high" "[J") ∈ zWords := zmem 73 (by decide +kernel) (by decide +kernel)
theorem m_293 : (Jvm.Cond.code ({ cls := "ConditionRows$Names", name := "widen", desc := "(IJJ)I" } : Jvm.MethodName) prog_3_method_4_code (7 : Nat) (Option.some Jvm.ClassFile.FieldType.int)) ∈ zWords := zmem 293 (by decide +kernel) (by decide +kernel)
theorem m_290 : (Jvm.Cond.methodLink "ConditionRows$Names" (29 : Nat) ({ cls := "ConditionRows$Names", name := "widen", desc := "(IJJ)I" } : Jvm.MethodName)) ∈ zWords := zmem 290 (by decide +kernel) (by decide +kernel)
theorem m_291 : (Jvm.Cond.instanceMethod ({ cls := "ConditionRows$Names", name := "widen", desc := "(IJJ)I" } : Jvm.MethodName)) ∈ zWords := zmem 291 (by decide +kernel) (by decide +kernel)
theorem m_292 : (Jvm.Cond.selects "ConditionRows$Names" ({ cls := "ConditionRows$Names", name := "widen", desc := "(IJJ)I" } : Jvm.MethodName) ({ cls := "ConditionRows$Names", name := "widen", desc := "(IJJ)I" } : Jvm.MethodName)) ∈ zWords := zmem 292 (by decide +kernel) (by decide +kernel)
theorem m_289 : (Jvm.Cond.code ({ cls := "ConditionRows$Names", name := "add", desc := "(IJJ)I" } : Jvm.MethodName) prog_3_method_3_code (6 : Nat) (Option.some Jvm.ClassFile.FieldType.int)) ∈ zWords := zmem 289 (by decide +kernel) (by decide +kernel)
theorem m_286 : (Jvm.Cond.methodLink "ConditionRows" (110 : Nat) ({ cls := "ConditionRows$Names", name := "add", desc := "(IJJ)I" } : Jvm.MethodName)) ∈ zWords := zmem 286 (by decide +kernel) (by decide +kernel)
theorem m_287 : (Jvm.Cond.instanceMethod ({ cls := "ConditionRows$Names", name := "add", desc := "(IJJ)I" } : Jvm.MethodName)) ∈ zWords := zmem 287 (by decide +kernel) (by decide +kernel)
theorem m_288 : (Jvm.Cond.selects "ConditionRows$Names" ({ cls := "ConditionRows$Names", name := "add", desc := "(IJJ)I" } : Jvm.MethodName) ({ cls := "ConditionRows$Names", name := "add", desc := "(IJJ)I" } : Jvm.MethodName)) ∈ zWords := zmem 288 (by decide +kernel) (by decide +kernel)
theorem m_298 : (Jvm.Cond.methodLink "ConditionRows" (117 : Nat) ({ cls := "ConditionRows$Names", name := "widen", desc := "(IJJ)I" } : Jvm.MethodName)) ∈ zWords := zmem 298 (by decide +kernel) (by decide +kernel)
theorem m_305 : (Jvm.Cond.code ({ cls := "ConditionRows", name := "isRelation", desc := "(I)Z" } : Jvm.MethodName) prog_1_method_20_code (1 : Nat) (Option.some Jvm.ClassFile.FieldType.boolean)) ∈ zWords := zmem 305 (by decide +kernel) (by decide +kernel)
theorem m_303 : (Jvm.Cond.methodLink "ConditionRows" (120 : Nat) ({ cls := "ConditionRows", name := "isRelation", desc := "(I)Z" } : Jvm.MethodName)) ∈ zWords := zmem 303 (by decide +kernel) (by decide +kernel)
theorem m_304 : (Jvm.Cond.static ({ cls := "ConditionRows", name := "isRelation", desc := "(I)Z" } : Jvm.MethodName)) ∈ zWords := zmem 304 (by decide +kernel) (by decide +kernel)
theorem m_179 : (Jvm.Cond.fieldLink "ConditionRows" (40 : Nat) "ConditionRows" "row" "LConditionRows$Row;") ∈ zWords := zmem 179 (by decide +kernel) (by decide +kernel)
theorem m_129 : (Jvm.Cond.fieldLink "ConditionRows$Row" (25 : Nat) "ConditionRows$Row" "length" "I") ∈ zWords := zmem 129 (by decide +kernel) (by decide +kernel)
theorem m_125 : (Jvm.Cond.fieldLink "ConditionRows$Row" (29 : Nat) "ConditionRows$Row" "subject" "I") ∈ zWords := zmem 125 (by decide +kernel) (by decide +kernel)
theorem m_117 : (Jvm.Cond.fieldLink "ConditionRows$Row" (9 : Nat) "ConditionRows$Row" "with" "[I") ∈ zWords := zmem 117 (by decide +kernel) (by decide +kernel)
theorem m_119 : (Jvm.Cond.fieldLink "ConditionRows$Row" (15 : Nat) "ConditionRows$Row" "op" "[I") ∈ zWords := zmem 119 (by decide +kernel) (by decide +kernel)
theorem m_121 : (Jvm.Cond.fieldLink "ConditionRows$Row" (18 : Nat) "ConditionRows$Row" "negated" "[Z") ∈ zWords := zmem 121 (by decide +kernel) (by decide +kernel)
theorem m_123 : (Jvm.Cond.fieldLink "ConditionRows$Row" (22 : Nat) "ConditionRows$Row" "object" "[I") ∈ zWords := zmem 123 (by decide +kernel) (by decide +kernel)
theorem m_127 : (Jvm.Cond.fieldLink "ConditionRows$Row" (36 : Nat) "ConditionRows$Row" "carried" "I") ∈ zWords := zmem 127 (by decide +kernel) (by decide +kernel)
theorem m_313 : (Jvm.Cond.code ({ cls := "ConditionRows$Row", name := "append", desc := "(IIZI)V" } : Jvm.MethodName) prog_5_method_3_code (5 : Nat) (Option.none : Option Jvm.ClassFile.FieldType)) ∈ zWords := zmem 313 (by decide +kernel) (by decide +kernel)
theorem m_310 : (Jvm.Cond.methodLink "ConditionRows$Row" (32 : Nat) ({ cls := "ConditionRows$Row", name := "append", desc := "(IIZI)V" } : Jvm.MethodName)) ∈ zWords := zmem 310 (by decide +kernel) (by decide +kernel)
theorem m_311 : (Jvm.Cond.instanceMethod ({ cls := "ConditionRows$Row", name := "append", desc := "(IIZI)V" } : Jvm.MethodName)) ∈ zWords := zmem 311 (by decide +kernel) (by decide +kernel)
theorem m_312 : (Jvm.Cond.selects "ConditionRows$Row" ({ cls := "ConditionRows$Row", name := "append", desc := "(IIZI)V" } : Jvm.MethodName) ({ cls := "ConditionRows$Row", name := "append", desc := "(IIZI)V" } : Jvm.MethodName)) ∈ zWords := zmem 312 (by decide +kernel) (by decide +kernel)
theorem m_6 : (Jvm.Cond.initialized "ConditionRows$Row") ∈ zWords := zmem 6 (by decide +kernel) (by decide +kernel)
theorem m_309 : (Jvm.Cond.code ({ cls := "ConditionRows$Row", name := "begin", desc := "(III)V" } : Jvm.MethodName) prog_5_method_2_code (4 : Nat) (Option.none : Option Jvm.ClassFile.FieldType)) ∈ zWords := zmem 309 (by decide +kernel) (by decide +kernel)
theorem m_306 : (Jvm.Cond.methodLink "ConditionRows" (123 : Nat) ({ cls := "ConditionRows$Row", name := "begin", desc := "(III)V" } : Jvm.MethodName)) ∈ zWords := zmem 306 (by decide +kernel) (by decide +kernel)
theorem m_307 : (Jvm.Cond.instanceMethod ({ cls := "ConditionRows$Row", name := "begin", desc := "(III)V" } : Jvm.MethodName)) ∈ zWords := zmem 307 (by decide +kernel) (by decide +kernel)
theorem m_308 : (Jvm.Cond.selects "ConditionRows$Row" ({ cls := "ConditionRows$Row", name := "begin", desc := "(III)V" } : Jvm.MethodName) ({ cls := "ConditionRows$Row", name := "begin", desc := "(III)V" } : Jvm.MethodName)) ∈ zWords := zmem 308 (by decide +kernel) (by decide +kernel)
theorem m_318 : (Jvm.Cond.methodLink "ConditionRows" (134 : Nat) ({ cls := "ConditionRows$Row", name := "append", desc := "(IIZI)V" } : Jvm.MethodName)) ∈ zWords := zmem 318 (by decide +kernel) (by decide +kernel)
theorem m_321 : (Jvm.Cond.code ({ cls := "ConditionRows", name := "turned", desc := "(I)I" } : Jvm.MethodName) prog_1_method_21_code (1 : Nat) (Option.some Jvm.ClassFile.FieldType.int)) ∈ zWords := zmem 321 (by decide +kernel) (by decide +kernel)
theorem m_319 : (Jvm.Cond.methodLink "ConditionRows" (138 : Nat) ({ cls := "ConditionRows", name := "turned", desc := "(I)I" } : Jvm.MethodName)) ∈ zWords := zmem 319 (by decide +kernel) (by decide +kernel)
theorem m_320 : (Jvm.Cond.static ({ cls := "ConditionRows", name := "turned", desc := "(I)I" } : Jvm.MethodName)) ∈ zWords := zmem 320 (by decide +kernel) (by decide +kernel)
theorem m_329 : (Jvm.Cond.code ({ cls := "ConditionRows$Row", name := "nodesNeeded", desc := "()I" } : Jvm.MethodName) prog_5_method_4_code (3 : Nat) (Option.some Jvm.ClassFile.FieldType.int)) ∈ zWords := zmem 329 (by decide +kernel) (by decide +kernel)
theorem m_326 : (Jvm.Cond.methodLink "ConditionRows" (141 : Nat) ({ cls := "ConditionRows$Row", name := "nodesNeeded", desc := "()I" } : Jvm.MethodName)) ∈ zWords := zmem 326 (by decide +kernel) (by decide +kernel)
theorem m_327 : (Jvm.Cond.instanceMethod ({ cls := "ConditionRows$Row", name := "nodesNeeded", desc := "()I" } : Jvm.MethodName)) ∈ zWords := zmem 327 (by decide +kernel) (by decide +kernel)
theorem m_328 : (Jvm.Cond.selects "ConditionRows$Row" ({ cls := "ConditionRows$Row", name := "nodesNeeded", desc := "()I" } : Jvm.MethodName) ({ cls := "ConditionRows$Row", name := "nodesNeeded", desc := "()I" } : Jvm.MethodName)) ∈ zWords := zmem 328 (by decide +kernel) (by decide +kernel)
theorem m_337 : (Jvm.Cond.code ({ cls := "ConditionRows", name := "joined", desc := "(III)I" } : Jvm.MethodName) prog_1_method_29_code (4 : Nat) (Option.some Jvm.ClassFile.FieldType.int)) ∈ zWords := zmem 337 (by decide +kernel) (by decide +kernel)
theorem m_334 : (Jvm.Cond.methodLink "ConditionRows" (205 : Nat) ({ cls := "ConditionRows", name := "joined", desc := "(III)I" } : Jvm.MethodName)) ∈ zWords := zmem 334 (by decide +kernel) (by decide +kernel)
theorem m_336 : (Jvm.Cond.instanceMethod ({ cls := "ConditionRows", name := "joined", desc := "(III)I" } : Jvm.MethodName)) ∈ zWords := zmem 336 (by decide +kernel) (by decide +kernel)
theorem mp_3 : (Jvm.Cond.selects "ConditionRows" ({ cls := "ConditionRows", name := "joined", desc := "(III)I" } : Jvm.MethodName) ({ cls := "ConditionRows", name := "joined", desc := "(III)I" } : Jvm.MethodName)) ∈ zWords := zmemP 3 (by decide +kernel) (by decide +kernel)
theorem m_341 : (Jvm.Cond.code ({ cls := "ConditionRows", name := "relationNode", desc := "(I)I" } : Jvm.MethodName) prog_1_method_28_code (3 : Nat) (Option.some Jvm.ClassFile.FieldType.int)) ∈ zWords := zmem 341 (by decide +kernel) (by decide +kernel)
theorem m_338 : (Jvm.Cond.methodLink "ConditionRows" (208 : Nat) ({ cls := "ConditionRows", name := "relationNode", desc := "(I)I" } : Jvm.MethodName)) ∈ zWords := zmem 338 (by decide +kernel) (by decide +kernel)
theorem m_340 : (Jvm.Cond.instanceMethod ({ cls := "ConditionRows", name := "relationNode", desc := "(I)I" } : Jvm.MethodName)) ∈ zWords := zmem 340 (by decide +kernel) (by decide +kernel)
theorem mp_4 : (Jvm.Cond.selects "ConditionRows" ({ cls := "ConditionRows", name := "relationNode", desc := "(I)I" } : Jvm.MethodName) ({ cls := "ConditionRows", name := "relationNode", desc := "(I)I" } : Jvm.MethodName)) ∈ zWords := zmemP 4 (by decide +kernel) (by decide +kernel)
theorem m_333 : (Jvm.Cond.code ({ cls := "ConditionRows", name := "unfoldRow", desc := "()I" } : Jvm.MethodName) prog_1_method_27_code (4 : Nat) (Option.some Jvm.ClassFile.FieldType.int)) ∈ zWords := zmem 333 (by decide +kernel) (by decide +kernel)
theorem m_330 : (Jvm.Cond.methodLink "ConditionRows" (148 : Nat) ({ cls := "ConditionRows", name := "unfoldRow", desc := "()I" } : Jvm.MethodName)) ∈ zWords := zmem 330 (by decide +kernel) (by decide +kernel)
theorem m_332 : (Jvm.Cond.instanceMethod ({ cls := "ConditionRows", name := "unfoldRow", desc := "()I" } : Jvm.MethodName)) ∈ zWords := zmem 332 (by decide +kernel) (by decide +kernel)
theorem mp_2 : (Jvm.Cond.selects "ConditionRows" ({ cls := "ConditionRows", name := "unfoldRow", desc := "()I" } : Jvm.MethodName) ({ cls := "ConditionRows", name := "unfoldRow", desc := "()I" } : Jvm.MethodName)) ∈ zWords := zmemP 2 (by decide +kernel) (by decide +kernel)
theorem m_180 : (Jvm.Cond.fieldLink "ConditionRows" (47 : Nat) "ConditionRows" "testing" "LConditionRows$Testing;") ∈ zWords := zmem 180 (by decide +kernel) (by decide +kernel)
theorem m_159 : (Jvm.Cond.fieldLink "ConditionRows$Testing" (21 : Nat) "ConditionRows$Testing" "noted" "I") ∈ zWords := zmem 159 (by decide +kernel) (by decide +kernel)
theorem m_161 : (Jvm.Cond.fieldLink "ConditionRows$Testing" (25 : Nat) "ConditionRows$Testing" "depth" "I") ∈ zWords := zmem 161 (by decide +kernel) (by decide +kernel)
theorem m_153 : (Jvm.Cond.fieldLink "ConditionRows$Testing" (9 : Nat) "ConditionRows$Testing" "outcome" "[I") ∈ zWords := zmem 153 (by decide +kernel) (by decide +kernel)
theorem m_444 : (Jvm.Cond.code ({ cls := "ConditionRows$Testing", name := "begin", desc := "()V" } : Jvm.MethodName) prog_6_method_2_code (2 : Nat) (Option.none : Option Jvm.ClassFile.FieldType)) ∈ zWords := zmem 444 (by decide +kernel) (by decide +kernel)
theorem m_441 : (Jvm.Cond.methodLink "ConditionRows" (223 : Nat) ({ cls := "ConditionRows$Testing", name := "begin", desc := "()V" } : Jvm.MethodName)) ∈ zWords := zmem 441 (by decide +kernel) (by decide +kernel)
theorem m_442 : (Jvm.Cond.instanceMethod ({ cls := "ConditionRows$Testing", name := "begin", desc := "()V" } : Jvm.MethodName)) ∈ zWords := zmem 442 (by decide +kernel) (by decide +kernel)
theorem m_443 : (Jvm.Cond.selects "ConditionRows$Testing" ({ cls := "ConditionRows$Testing", name := "begin", desc := "()V" } : Jvm.MethodName) ({ cls := "ConditionRows$Testing", name := "begin", desc := "()V" } : Jvm.MethodName)) ∈ zWords := zmem 443 (by decide +kernel) (by decide +kernel)
theorem m_7 : (Jvm.Cond.initialized "ConditionRows$Testing") ∈ zWords := zmem 7 (by decide +kernel) (by decide +kernel)
theorem m_157 : (Jvm.Cond.fieldLink "ConditionRows$Testing" (18 : Nat) "ConditionRows$Testing" "waiting" "[I") ∈ zWords := zmem 157 (by decide +kernel) (by decide +kernel)
theorem m_448 : (Jvm.Cond.code ({ cls := "ConditionRows$Testing", name := "open", desc := "(I)V" } : Jvm.MethodName) prog_6_method_3_code (2 : Nat) (Option.none : Option Jvm.ClassFile.FieldType)) ∈ zWords := zmem 448 (by decide +kernel) (by decide +kernel)
theorem m_445 : (Jvm.Cond.methodLink "ConditionRows" (225 : Nat) ({ cls := "ConditionRows$Testing", name := "open", desc := "(I)V" } : Jvm.MethodName)) ∈ zWords := zmem 445 (by decide +kernel) (by decide +kernel)
theorem m_446 : (Jvm.Cond.instanceMethod ({ cls := "ConditionRows$Testing", name := "open", desc := "(I)V" } : Jvm.MethodName)) ∈ zWords := zmem 446 (by decide +kernel) (by decide +kernel)
theorem m_447 : (Jvm.Cond.selects "ConditionRows$Testing" ({ cls := "ConditionRows$Testing", name := "open", desc := "(I)V" } : Jvm.MethodName) ({ cls := "ConditionRows$Testing", name := "open", desc := "(I)V" } : Jvm.MethodName)) ∈ zWords := zmem 447 (by decide +kernel) (by decide +kernel)
theorem m_174 : (Jvm.Cond.fieldLink "ConditionRows" (62 : Nat) "ConditionRows" "whole" "Z") ∈ zWords := zmem 174 (by decide +kernel) (by decide +kernel)
theorem m_455 : (Jvm.Cond.code ({ cls := "ConditionRows", name := "settledBy", desc := "(I)I" } : Jvm.MethodName) prog_1_method_32_code (1 : Nat) (Option.some Jvm.ClassFile.FieldType.int)) ∈ zWords := zmem 455 (by decide +kernel) (by decide +kernel)
theorem m_453 : (Jvm.Cond.methodLink "ConditionRows" (257 : Nat) ({ cls := "ConditionRows", name := "settledBy", desc := "(I)I" } : Jvm.MethodName)) ∈ zWords := zmem 453 (by decide +kernel) (by decide +kernel)
theorem m_454 : (Jvm.Cond.static ({ cls := "ConditionRows", name := "settledBy", desc := "(I)I" } : Jvm.MethodName)) ∈ zWords := zmem 454 (by decide +kernel) (by decide +kernel)
theorem m_452 : (Jvm.Cond.code ({ cls := "ConditionRows", name := "partToTest", desc := "(I)I" } : Jvm.MethodName) prog_1_method_31_code (4 : Nat) (Option.some Jvm.ClassFile.FieldType.int)) ∈ zWords := zmem 452 (by decide +kernel) (by decide +kernel)
theorem m_449 : (Jvm.Cond.methodLink "ConditionRows" (235 : Nat) ({ cls := "ConditionRows", name := "partToTest", desc := "(I)I" } : Jvm.MethodName)) ∈ zWords := zmem 449 (by decide +kernel) (by decide +kernel)
theorem m_451 : (Jvm.Cond.instanceMethod ({ cls := "ConditionRows", name := "partToTest", desc := "(I)I" } : Jvm.MethodName)) ∈ zWords := zmem 451 (by decide +kernel) (by decide +kernel)
theorem mp_8 : (Jvm.Cond.selects "ConditionRows" ({ cls := "ConditionRows", name := "partToTest", desc := "(I)I" } : Jvm.MethodName) ({ cls := "ConditionRows", name := "partToTest", desc := "(I)I" } : Jvm.MethodName)) ∈ zWords := zmemP 8 (by decide +kernel) (by decide +kernel)
theorem m_480 : (Jvm.Cond.code ({ cls := "ConditionRows", name := "asOutcome", desc := "(Z)I" } : Jvm.MethodName) prog_1_method_35_code (1 : Nat) (Option.some Jvm.ClassFile.FieldType.int)) ∈ zWords := zmem 480 (by decide +kernel) (by decide +kernel)
theorem m_478 : (Jvm.Cond.methodLink "ConditionRows" (260 : Nat) ({ cls := "ConditionRows", name := "asOutcome", desc := "(Z)I" } : Jvm.MethodName)) ∈ zWords := zmem 478 (by decide +kernel) (by decide +kernel)
theorem m_479 : (Jvm.Cond.static ({ cls := "ConditionRows", name := "asOutcome", desc := "(Z)I" } : Jvm.MethodName)) ∈ zWords := zmem 479 (by decide +kernel) (by decide +kernel)
theorem m_561 : (Jvm.Cond.code ({ cls := "ConditionRows", name := "joinedOutcome", desc := "(I)I" } : Jvm.MethodName) prog_1_method_33_code (4 : Nat) (Option.some Jvm.ClassFile.FieldType.int)) ∈ zWords := zmem 561 (by decide +kernel) (by decide +kernel)
theorem m_558 : (Jvm.Cond.methodLink "ConditionRows" (242 : Nat) ({ cls := "ConditionRows", name := "joinedOutcome", desc := "(I)I" } : Jvm.MethodName)) ∈ zWords := zmem 558 (by decide +kernel) (by decide +kernel)
theorem m_560 : (Jvm.Cond.instanceMethod ({ cls := "ConditionRows", name := "joinedOutcome", desc := "(I)I" } : Jvm.MethodName)) ∈ zWords := zmem 560 (by decide +kernel) (by decide +kernel)
theorem mp_16 : (Jvm.Cond.selects "ConditionRows" ({ cls := "ConditionRows", name := "joinedOutcome", desc := "(I)I" } : Jvm.MethodName) ({ cls := "ConditionRows", name := "joinedOutcome", desc := "(I)I" } : Jvm.MethodName)) ∈ zWords := zmemP 16 (by decide +kernel) (by decide +kernel)
theorem m_565 : (Jvm.Cond.code ({ cls := "ConditionRows$Testing", name := "close", desc := "(I)V" } : Jvm.MethodName) prog_6_method_4_code (2 : Nat) (Option.none : Option Jvm.ClassFile.FieldType)) ∈ zWords := zmem 565 (by decide +kernel) (by decide +kernel)
theorem m_562 : (Jvm.Cond.methodLink "ConditionRows" (245 : Nat) ({ cls := "ConditionRows$Testing", name := "close", desc := "(I)V" } : Jvm.MethodName)) ∈ zWords := zmem 562 (by decide +kernel) (by decide +kernel)
theorem m_563 : (Jvm.Cond.instanceMethod ({ cls := "ConditionRows$Testing", name := "close", desc := "(I)V" } : Jvm.MethodName)) ∈ zWords := zmem 563 (by decide +kernel) (by decide +kernel)
theorem m_564 : (Jvm.Cond.selects "ConditionRows$Testing" ({ cls := "ConditionRows$Testing", name := "close", desc := "(I)V" } : Jvm.MethodName) ({ cls := "ConditionRows$Testing", name := "close", desc := "(I)V" } : Jvm.MethodName)) ∈ zWords := zmem 564 (by decide +kernel) (by decide +kernel)
theorem m_155 : (Jvm.Cond.fieldLink "ConditionRows$Testing" (15 : Nat) "ConditionRows$Testing" "leaves" "[I") ∈ zWords := zmem 155 (by decide +kernel) (by decide +kernel)
theorem m_463 : (Jvm.Cond.code ({ cls := "ConditionRows$Testing", name := "note", desc := "(I)V" } : Jvm.MethodName) prog_6_method_5_code (2 : Nat) (Option.none : Option Jvm.ClassFile.FieldType)) ∈ zWords := zmem 463 (by decide +kernel) (by decide +kernel)
theorem m_460 : (Jvm.Cond.methodLink "ConditionRows" (264 : Nat) ({ cls := "ConditionRows$Testing", name := "note", desc := "(I)V" } : Jvm.MethodName)) ∈ zWords := zmem 460 (by decide +kernel) (by decide +kernel)
theorem m_461 : (Jvm.Cond.instanceMethod ({ cls := "ConditionRows$Testing", name := "note", desc := "(I)V" } : Jvm.MethodName)) ∈ zWords := zmem 461 (by decide +kernel) (by decide +kernel)
theorem m_462 : (Jvm.Cond.selects "ConditionRows$Testing" ({ cls := "ConditionRows$Testing", name := "note", desc := "(I)V" } : Jvm.MethodName) ({ cls := "ConditionRows$Testing", name := "note", desc := "(I)V" } : Jvm.MethodName)) ∈ zWords := zmem 462 (by decide +kernel) (by decide +kernel)
theorem m_474 : (Jvm.Cond.code ({ cls := "ConditionRows$Fields", name := "isDigit", desc := "(I)Z" } : Jvm.MethodName) prog_2_method_7_code (1 : Nat) (Option.some Jvm.ClassFile.FieldType.boolean)) ∈ zWords := zmem 474 (by decide +kernel) (by decide +kernel)
theorem m_472 : (Jvm.Cond.methodLink "ConditionRows$Fields" (39 : Nat) ({ cls := "ConditionRows$Fields", name := "isDigit", desc := "(I)Z" } : Jvm.MethodName)) ∈ zWords := zmem 472 (by decide +kernel) (by decide +kernel)
theorem m_473 : (Jvm.Cond.static ({ cls := "ConditionRows$Fields", name := "isDigit", desc := "(I)Z" } : Jvm.MethodName)) ∈ zWords := zmem 473 (by decide +kernel) (by decide +kernel)
theorem m_471 : (Jvm.Cond.code ({ cls := "ConditionRows$Fields", name := "isBad", desc := "(I)Z" } : Jvm.MethodName) prog_2_method_8_code (4 : Nat) (Option.some Jvm.ClassFile.FieldType.boolean)) ∈ zWords := zmem 471 (by decide +kernel) (by decide +kernel)
theorem m_468 : (Jvm.Cond.methodLink "ConditionRows$Fields" (42 : Nat) ({ cls := "ConditionRows$Fields", name := "isBad", desc := "(I)Z" } : Jvm.MethodName)) ∈ zWords := zmem 468 (by decide +kernel) (by decide +kernel)
theorem m_469 : (Jvm.Cond.instanceMethod ({ cls := "ConditionRows$Fields", name := "isBad", desc := "(I)Z" } : Jvm.MethodName)) ∈ zWords := zmem 469 (by decide +kernel) (by decide +kernel)
theorem m_470 : (Jvm.Cond.selects "ConditionRows$Fields" ({ cls := "ConditionRows$Fields", name := "isBad", desc := "(I)Z" } : Jvm.MethodName) ({ cls := "ConditionRows$Fields", name := "isBad", desc := "(I)Z" } : Jvm.MethodName)) ∈ zWords := zmem 470 (by decide +kernel) (by decide +kernel)
theorem m_477 : (Jvm.Cond.code ({ cls := "ConditionRows$Fields", name := "fits", desc := "(II)Z" } : Jvm.MethodName) prog_2_method_10_code (4 : Nat) (Option.some Jvm.ClassFile.FieldType.boolean)) ∈ zWords := zmem 477 (by decide +kernel) (by decide +kernel)
theorem m_475 : (Jvm.Cond.methodLink "ConditionRows$Fields" (45 : Nat) ({ cls := "ConditionRows$Fields", name := "fits", desc := "(II)Z" } : Jvm.MethodName)) ∈ zWords := zmem 475 (by decide +kernel) (by decide +kernel)
theorem m_476 : (Jvm.Cond.static ({ cls := "ConditionRows$Fields", name := "fits", desc := "(II)Z" } : Jvm.MethodName)) ∈ zWords := zmem 476 (by decide +kernel) (by decide +kernel)
theorem m_467 : (Jvm.Cond.code ({ cls := "ConditionRows$Fields", name := "isOfClass", desc := "(II)Z" } : Jvm.MethodName) prog_2_method_9_code (5 : Nat) (Option.some Jvm.ClassFile.FieldType.boolean)) ∈ zWords := zmem 467 (by decide +kernel) (by decide +kernel)
theorem m_464 : (Jvm.Cond.methodLink "ConditionRows" (267 : Nat) ({ cls := "ConditionRows$Fields", name := "isOfClass", desc := "(II)Z" } : Jvm.MethodName)) ∈ zWords := zmem 464 (by decide +kernel) (by decide +kernel)
theorem m_465 : (Jvm.Cond.instanceMethod ({ cls := "ConditionRows$Fields", name := "isOfClass", desc := "(II)Z" } : Jvm.MethodName)) ∈ zWords := zmem 465 (by decide +kernel) (by decide +kernel)
theorem m_466 : (Jvm.Cond.selects "ConditionRows$Fields" ({ cls := "ConditionRows$Fields", name := "isOfClass", desc := "(II)Z" } : Jvm.MethodName) ({ cls := "ConditionRows$Fields", name := "isOfClass", desc := "(II)Z" } : Jvm.MethodName)) ∈ zWords := zmem 466 (by decide +kernel) (by decide +kernel)
theorem m_481 : (Jvm.Cond.methodLink "ConditionRows" (178 : Nat) ({ cls := "ConditionRows$Fields", name := "isBad", desc := "(I)Z" } : Jvm.MethodName)) ∈ zWords := zmem 481 (by decide +kernel) (by decide +kernel)
theorem m_495 : (Jvm.Cond.constantLong "ConditionRows$Fields" (58 : Nat) (-1 : Int64)) ∈ zWords := zmem 495 (by decide +kernel) (by decide +kernel)
theorem m_494 : (Jvm.Cond.code ({ cls := "ConditionRows$Fields", name := "binaryValue", desc := "(I)J" } : Jvm.MethodName) prog_2_method_13_code (6 : Nat) (Option.some Jvm.ClassFile.FieldType.long)) ∈ zWords := zmem 494 (by decide +kernel) (by decide +kernel)
theorem m_491 : (Jvm.Cond.methodLink "ConditionRows$Fields" (53 : Nat) ({ cls := "ConditionRows$Fields", name := "binaryValue", desc := "(I)J" } : Jvm.MethodName)) ∈ zWords := zmem 491 (by decide +kernel) (by decide +kernel)
theorem m_493 : (Jvm.Cond.instanceMethod ({ cls := "ConditionRows$Fields", name := "binaryValue", desc := "(I)J" } : Jvm.MethodName)) ∈ zWords := zmem 493 (by decide +kernel) (by decide +kernel)
theorem mp_11 : (Jvm.Cond.selects "ConditionRows$Fields" ({ cls := "ConditionRows$Fields", name := "binaryValue", desc := "(I)J" } : Jvm.MethodName) ({ cls := "ConditionRows$Fields", name := "binaryValue", desc := "(I)J" } : Jvm.MethodName)) ∈ zWords := zmemP 11 (by decide +kernel) (by decide +kernel)
theorem m_490 : (Jvm.Cond.constantLong "ConditionRows$Fields" (56 : Nat) (10 : Int64)) ∈ zWords := zmem 490 (by decide +kernel) (by decide +kernel)
theorem m_489 : (Jvm.Cond.code ({ cls := "ConditionRows$Fields", name := "digitsValue", desc := "(I)J" } : Jvm.MethodName) prog_2_method_12_code (6 : Nat) (Option.some Jvm.ClassFile.FieldType.long)) ∈ zWords := zmem 489 (by decide +kernel) (by decide +kernel)
theorem m_486 : (Jvm.Cond.methodLink "ConditionRows$Fields" (49 : Nat) ({ cls := "ConditionRows$Fields", name := "digitsValue", desc := "(I)J" } : Jvm.MethodName)) ∈ zWords := zmem 486 (by decide +kernel) (by decide +kernel)
theorem m_488 : (Jvm.Cond.instanceMethod ({ cls := "ConditionRows$Fields", name := "digitsValue", desc := "(I)J" } : Jvm.MethodName)) ∈ zWords := zmem 488 (by decide +kernel) (by decide +kernel)
theorem mp_10 : (Jvm.Cond.selects "ConditionRows$Fields" ({ cls := "ConditionRows$Fields", name := "digitsValue", desc := "(I)J" } : Jvm.MethodName) ({ cls := "ConditionRows$Fields", name := "digitsValue", desc := "(I)J" } : Jvm.MethodName)) ∈ zWords := zmemP 10 (by decide +kernel) (by decide +kernel)
theorem m_485 : (Jvm.Cond.code ({ cls := "ConditionRows$Fields", name := "value", desc := "(I)J" } : Jvm.MethodName) prog_2_method_11_code (2 : Nat) (Option.some Jvm.ClassFile.FieldType.long)) ∈ zWords := zmem 485 (by decide +kernel) (by decide +kernel)
theorem m_482 : (Jvm.Cond.methodLink "ConditionRows" (271 : Nat) ({ cls := "ConditionRows$Fields", name := "value", desc := "(I)J" } : Jvm.MethodName)) ∈ zWords := zmem 482 (by decide +kernel) (by decide +kernel)
theorem m_483 : (Jvm.Cond.instanceMethod ({ cls := "ConditionRows$Fields", name := "value", desc := "(I)J" } : Jvm.MethodName)) ∈ zWords := zmem 483 (by decide +kernel) (by decide +kernel)
theorem m_484 : (Jvm.Cond.selects "ConditionRows$Fields" ({ cls := "ConditionRows$Fields", name := "value", desc := "(I)J" } : Jvm.MethodName) ({ cls := "ConditionRows$Fields", name := "value", desc := "(I)J" } : Jvm.MethodName)) ∈ zWords := zmem 484 (by decide +kernel) (by decide +kernel)
theorem m_498 : (Jvm.Cond.code ({ cls := "java/lang/Long", name := "compare", desc := "(JJ)I" } : Jvm.MethodName) prog_14_method_42_code (4 : Nat) (Option.some Jvm.ClassFile.FieldType.int)) ∈ zWords := zmem 498 (by decide +kernel) (by decide +kernel)
theorem m_496 : (Jvm.Cond.methodLink "ConditionRows" (275 : Nat) ({ cls := "java/lang/Long", name := "compare", desc := "(JJ)I" } : Jvm.MethodName)) ∈ zWords := zmem 496 (by decide +kernel) (by decide +kernel)
theorem m_497 : (Jvm.Cond.static ({ cls := "java/lang/Long", name := "compare", desc := "(JJ)I" } : Jvm.MethodName)) ∈ zWords := zmem 497 (by decide +kernel) (by decide +kernel)
theorem m_13 : (Jvm.Cond.initialized "java/lang/Long") ∈ zWords := zmem 13 (by decide +kernel) (by decide +kernel)
theorem m_515 : (Jvm.Cond.code ({ cls := "ConditionRows$Names", name := "hasSigned", desc := "(IJ)Z" } : Jvm.MethodName) prog_3_method_5_code (6 : Nat) (Option.some Jvm.ClassFile.FieldType.boolean)) ∈ zWords := zmem 515 (by decide +kernel) (by decide +kernel)
theorem m_512 : (Jvm.Cond.methodLink "ConditionRows" (292 : Nat) ({ cls := "ConditionRows$Names", name := "hasSigned", desc := "(IJ)Z" } : Jvm.MethodName)) ∈ zWords := zmem 512 (by decide +kernel) (by decide +kernel)
theorem m_513 : (Jvm.Cond.instanceMethod ({ cls := "ConditionRows$Names", name := "hasSigned", desc := "(IJ)Z" } : Jvm.MethodName)) ∈ zWords := zmem 513 (by decide +kernel) (by decide +kernel)
theorem m_514 : (Jvm.Cond.selects "ConditionRows$Names" ({ cls := "ConditionRows$Names", name := "hasSigned", desc := "(IJ)Z" } : Jvm.MethodName) ({ cls := "ConditionRows$Names", name := "hasSigned", desc := "(IJ)Z" } : Jvm.MethodName)) ∈ zWords := zmem 514 (by decide +kernel) (by decide +kernel)
theorem m_506 : (Jvm.Cond.code ({ cls := "ConditionRows$Fields", name := "firstBytes", desc := "(I)J" } : Jvm.MethodName) prog_2_method_14_code (6 : Nat) (Option.some Jvm.ClassFile.FieldType.long)) ∈ zWords := zmem 506 (by decide +kernel) (by decide +kernel)
theorem m_503 : (Jvm.Cond.methodLink "ConditionRows" (285 : Nat) ({ cls := "ConditionRows$Fields", name := "firstBytes", desc := "(I)J" } : Jvm.MethodName)) ∈ zWords := zmem 503 (by decide +kernel) (by decide +kernel)
theorem m_504 : (Jvm.Cond.instanceMethod ({ cls := "ConditionRows$Fields", name := "firstBytes", desc := "(I)J" } : Jvm.MethodName)) ∈ zWords := zmem 504 (by decide +kernel) (by decide +kernel)
theorem m_505 : (Jvm.Cond.selects "ConditionRows$Fields" ({ cls := "ConditionRows$Fields", name := "firstBytes", desc := "(I)J" } : Jvm.MethodName) ({ cls := "ConditionRows$Fields", name := "firstBytes", desc := "(I)J" } : Jvm.MethodName)) ∈ zWords := zmem 505 (by decide +kernel) (by decide +kernel)
theorem m_510 : (Jvm.Cond.code ({ cls := "ConditionRows$Names", name := "hasUnsigned", desc := "(IJ)Z" } : Jvm.MethodName) prog_3_method_6_code (6 : Nat) (Option.some Jvm.ClassFile.FieldType.boolean)) ∈ zWords := zmem 510 (by decide +kernel) (by decide +kernel)
theorem m_507 : (Jvm.Cond.methodLink "ConditionRows" (288 : Nat) ({ cls := "ConditionRows$Names", name := "hasUnsigned", desc := "(IJ)Z" } : Jvm.MethodName)) ∈ zWords := zmem 507 (by decide +kernel) (by decide +kernel)
theorem m_508 : (Jvm.Cond.instanceMethod ({ cls := "ConditionRows$Names", name := "hasUnsigned", desc := "(IJ)Z" } : Jvm.MethodName)) ∈ zWords := zmem 508 (by decide +kernel) (by decide +kernel)
theorem m_509 : (Jvm.Cond.selects "ConditionRows$Names" ({ cls := "ConditionRows$Names", name := "hasUnsigned", desc := "(IJ)Z" } : Jvm.MethodName) ({ cls := "ConditionRows$Names", name := "hasUnsigned", desc := "(IJ)Z" } : Jvm.MethodName)) ∈ zWords := zmem 509 (by decide +kernel) (by decide +kernel)
theorem m_502 : (Jvm.Cond.code ({ cls := "ConditionRows", name := "holds", desc := "(I)Z" } : Jvm.MethodName) prog_1_method_37_code (3 : Nat) (Option.some Jvm.ClassFile.FieldType.boolean)) ∈ zWords := zmem 502 (by decide +kernel) (by decide +kernel)
theorem m_499 : (Jvm.Cond.methodLink "ConditionRows" (279 : Nat) ({ cls := "ConditionRows", name := "holds", desc := "(I)Z" } : Jvm.MethodName)) ∈ zWords := zmem 499 (by decide +kernel) (by decide +kernel)
theorem m_501 : (Jvm.Cond.instanceMethod ({ cls := "ConditionRows", name := "holds", desc := "(I)Z" } : Jvm.MethodName)) ∈ zWords := zmem 501 (by decide +kernel) (by decide +kernel)
theorem mp_12 : (Jvm.Cond.selects "ConditionRows" ({ cls := "ConditionRows", name := "holds", desc := "(I)Z" } : Jvm.MethodName) ({ cls := "ConditionRows", name := "holds", desc := "(I)Z" } : Jvm.MethodName)) ∈ zWords := zmemP 12 (by decide +kernel) (by decide +kernel)
theorem m_181 : (Jvm.Cond.fieldLink "ConditionRows" (51 : Nat) "ConditionRows" "switches" "[Z") ∈ zWords := zmem 181 (by decide +kernel) (by decide +kernel)
theorem m_34 : (Jvm.Cond.fieldLink "ConditionRows$Fields" (18 : Nat) "ConditionRows$Fields" "scale" "[I") ∈ zWords := zmem 34 (by decide +kernel) (by decide +kernel)
theorem m_528 : (Jvm.Cond.methodLink "ConditionRows$Fields" (60 : Nat) ({ cls := "ConditionRows$Fields", name := "value", desc := "(I)J" } : Jvm.MethodName)) ∈ zWords := zmem 528 (by decide +kernel) (by decide +kernel)
theorem m_536 : (Jvm.Cond.code ({ cls := "java/lang/Math", name := "floorDiv", desc := "(JJ)J" } : Jvm.MethodName) prog_15_method_49_code (6 : Nat) (Option.some Jvm.ClassFile.FieldType.long)) ∈ zWords := zmem 536 (by decide +kernel) (by decide +kernel)
theorem m_534 : (Jvm.Cond.methodLink "ConditionRows$Fields" (71 : Nat) ({ cls := "java/lang/Math", name := "floorDiv", desc := "(JJ)J" } : Jvm.MethodName)) ∈ zWords := zmem 534 (by decide +kernel) (by decide +kernel)
theorem m_535 : (Jvm.Cond.static ({ cls := "java/lang/Math", name := "floorDiv", desc := "(JJ)J" } : Jvm.MethodName)) ∈ zWords := zmem 535 (by decide +kernel) (by decide +kernel)
theorem m_14 : (Jvm.Cond.initialized "java/lang/Math") ∈ zWords := zmem 14 (by decide +kernel) (by decide +kernel)
theorem m_539 : (Jvm.Cond.code ({ cls := "java/lang/Math", name := "floorMod", desc := "(JJ)J" } : Jvm.MethodName) prog_15_method_52_code (6 : Nat) (Option.some Jvm.ClassFile.FieldType.long)) ∈ zWords := zmem 539 (by decide +kernel) (by decide +kernel)
theorem m_537 : (Jvm.Cond.methodLink "ConditionRows$Fields" (77 : Nat) ({ cls := "java/lang/Math", name := "floorMod", desc := "(JJ)J" } : Jvm.MethodName)) ∈ zWords := zmem 537 (by decide +kernel) (by decide +kernel)
theorem m_538 : (Jvm.Cond.static ({ cls := "java/lang/Math", name := "floorMod", desc := "(JJ)J" } : Jvm.MethodName)) ∈ zWords := zmem 538 (by decide +kernel) (by decide +kernel)
theorem m_531 : (Jvm.Cond.code ({ cls := "ConditionRows$Fields", name := "compareScaled", desc := "(JJI)I" } : Jvm.MethodName) prog_2_method_16_code (9 : Nat) (Option.some Jvm.ClassFile.FieldType.int)) ∈ zWords := zmem 531 (by decide +kernel) (by decide +kernel)
theorem m_529 : (Jvm.Cond.methodLink "ConditionRows$Fields" (63 : Nat) ({ cls := "ConditionRows$Fields", name := "compareScaled", desc := "(JJI)I" } : Jvm.MethodName)) ∈ zWords := zmem 529 (by decide +kernel) (by decide +kernel)
theorem m_530 : (Jvm.Cond.static ({ cls := "ConditionRows$Fields", name := "compareScaled", desc := "(JJI)I" } : Jvm.MethodName)) ∈ zWords := zmem 530 (by decide +kernel) (by decide +kernel)
theorem m_527 : (Jvm.Cond.code ({ cls := "ConditionRows$Fields", name := "compareNumbers", desc := "(II)I" } : Jvm.MethodName) prog_2_method_15_code (4 : Nat) (Option.some Jvm.ClassFile.FieldType.int)) ∈ zWords := zmem 527 (by decide +kernel) (by decide +kernel)
theorem m_524 : (Jvm.Cond.methodLink "ConditionRows" (295 : Nat) ({ cls := "ConditionRows$Fields", name := "compareNumbers", desc := "(II)I" } : Jvm.MethodName)) ∈ zWords := zmem 524 (by decide +kernel) (by decide +kernel)
theorem m_525 : (Jvm.Cond.instanceMethod ({ cls := "ConditionRows$Fields", name := "compareNumbers", desc := "(II)I" } : Jvm.MethodName)) ∈ zWords := zmem 525 (by decide +kernel) (by decide +kernel)
theorem m_526 : (Jvm.Cond.selects "ConditionRows$Fields" ({ cls := "ConditionRows$Fields", name := "compareNumbers", desc := "(II)I" } : Jvm.MethodName) ({ cls := "ConditionRows$Fields", name := "compareNumbers", desc := "(II)I" } : Jvm.MethodName)) ∈ zWords := zmem 526 (by decide +kernel) (by decide +kernel)
theorem m_182 : (Jvm.Cond.fieldLink "ConditionRows" (55 : Nat) "ConditionRows" "leftText" "[I") ∈ zWords := zmem 182 (by decide +kernel) (by decide +kernel)
theorem m_550 : (Jvm.Cond.code ({ cls := "ConditionRows$Fields", name := "spellBytes", desc := "(I[I)I" } : Jvm.MethodName) prog_2_method_18_code (5 : Nat) (Option.some Jvm.ClassFile.FieldType.int)) ∈ zWords := zmem 550 (by decide +kernel) (by decide +kernel)
theorem m_547 : (Jvm.Cond.methodLink "ConditionRows$Fields" (84 : Nat) ({ cls := "ConditionRows$Fields", name := "spellBytes", desc := "(I[I)I" } : Jvm.MethodName)) ∈ zWords := zmem 547 (by decide +kernel) (by decide +kernel)
theorem m_549 : (Jvm.Cond.instanceMethod ({ cls := "ConditionRows$Fields", name := "spellBytes", desc := "(I[I)I" } : Jvm.MethodName)) ∈ zWords := zmem 549 (by decide +kernel) (by decide +kernel)
theorem mp_15 : (Jvm.Cond.selects "ConditionRows$Fields" ({ cls := "ConditionRows$Fields", name := "spellBytes", desc := "(I[I)I" } : Jvm.MethodName) ({ cls := "ConditionRows$Fields", name := "spellBytes", desc := "(I[I)I" } : Jvm.MethodName)) ∈ zWords := zmemP 15 (by decide +kernel) (by decide +kernel)
theorem m_546 : (Jvm.Cond.code ({ cls := "ConditionRows$Fields", name := "spellDecimals", desc := "(J[I)I" } : Jvm.MethodName) prog_2_method_19_code (8 : Nat) (Option.some Jvm.ClassFile.FieldType.int)) ∈ zWords := zmem 546 (by decide +kernel) (by decide +kernel)
theorem m_544 : (Jvm.Cond.methodLink "ConditionRows$Fields" (80 : Nat) ({ cls := "ConditionRows$Fields", name := "spellDecimals", desc := "(J[I)I" } : Jvm.MethodName)) ∈ zWords := zmem 544 (by decide +kernel) (by decide +kernel)
theorem m_545 : (Jvm.Cond.static ({ cls := "ConditionRows$Fields", name := "spellDecimals", desc := "(J[I)I" } : Jvm.MethodName)) ∈ zWords := zmem 545 (by decide +kernel) (by decide +kernel)
theorem m_543 : (Jvm.Cond.code ({ cls := "ConditionRows$Fields", name := "spell", desc := "(I[I)V" } : Jvm.MethodName) prog_2_method_17_code (5 : Nat) (Option.none : Option Jvm.ClassFile.FieldType)) ∈ zWords := zmem 543 (by decide +kernel) (by decide +kernel)
theorem m_540 : (Jvm.Cond.methodLink "ConditionRows" (298 : Nat) ({ cls := "ConditionRows$Fields", name := "spell", desc := "(I[I)V" } : Jvm.MethodName)) ∈ zWords := zmem 540 (by decide +kernel) (by decide +kernel)
theorem m_541 : (Jvm.Cond.instanceMethod ({ cls := "ConditionRows$Fields", name := "spell", desc := "(I[I)V" } : Jvm.MethodName)) ∈ zWords := zmem 541 (by decide +kernel) (by decide +kernel)
theorem m_542 : (Jvm.Cond.selects "ConditionRows$Fields" ({ cls := "ConditionRows$Fields", name := "spell", desc := "(I[I)V" } : Jvm.MethodName) ({ cls := "ConditionRows$Fields", name := "spell", desc := "(I[I)V" } : Jvm.MethodName)) ∈ zWords := zmem 542 (by decide +kernel) (by decide +kernel)
theorem m_183 : (Jvm.Cond.fieldLink "ConditionRows" (59 : Nat) "ConditionRows" "rightText" "[I") ∈ zWords := zmem 183 (by decide +kernel) (by decide +kernel)
theorem m_58 : (Jvm.Cond.fieldLink "ConditionRows$Weights" (9 : Nat) "ConditionRows$Weights" "of" "[I") ∈ zWords := zmem 58 (by decide +kernel) (by decide +kernel)
theorem m_557 : (Jvm.Cond.code ({ cls := "java/lang/Integer", name := "compare", desc := "(II)I" } : Jvm.MethodName) prog_13_method_40_code (2 : Nat) (Option.some Jvm.ClassFile.FieldType.int)) ∈ zWords := zmem 557 (by decide +kernel) (by decide +kernel)
theorem m_555 : (Jvm.Cond.methodLink "ConditionRows$Weights" (15 : Nat) ({ cls := "java/lang/Integer", name := "compare", desc := "(II)I" } : Jvm.MethodName)) ∈ zWords := zmem 555 (by decide +kernel) (by decide +kernel)
theorem m_556 : (Jvm.Cond.static ({ cls := "java/lang/Integer", name := "compare", desc := "(II)I" } : Jvm.MethodName)) ∈ zWords := zmem 556 (by decide +kernel) (by decide +kernel)
theorem m_15 : (Jvm.Cond.initialized "java/lang/Integer") ∈ zWords := zmem 15 (by decide +kernel) (by decide +kernel)
theorem m_554 : (Jvm.Cond.code ({ cls := "ConditionRows$Weights", name := "compareTexts", desc := "([I[I)I" } : Jvm.MethodName) prog_7_method_2_code (5 : Nat) (Option.some Jvm.ClassFile.FieldType.int)) ∈ zWords := zmem 554 (by decide +kernel) (by decide +kernel)
theorem m_551 : (Jvm.Cond.methodLink "ConditionRows" (302 : Nat) ({ cls := "ConditionRows$Weights", name := "compareTexts", desc := "([I[I)I" } : Jvm.MethodName)) ∈ zWords := zmem 551 (by decide +kernel) (by decide +kernel)
theorem m_552 : (Jvm.Cond.instanceMethod ({ cls := "ConditionRows$Weights", name := "compareTexts", desc := "([I[I)I" } : Jvm.MethodName)) ∈ zWords := zmem 552 (by decide +kernel) (by decide +kernel)
theorem m_553 : (Jvm.Cond.selects "ConditionRows$Weights" ({ cls := "ConditionRows$Weights", name := "compareTexts", desc := "([I[I)I" } : Jvm.MethodName) ({ cls := "ConditionRows$Weights", name := "compareTexts", desc := "([I[I)I" } : Jvm.MethodName)) ∈ zWords := zmem 553 (by decide +kernel) (by decide +kernel)
theorem m_3 : (Jvm.Cond.initialized "ConditionRows$Weights") ∈ zWords := zmem 3 (by decide +kernel) (by decide +kernel)
theorem m_523 : (Jvm.Cond.code ({ cls := "ConditionRows", name := "compareFields", desc := "(II)I" } : Jvm.MethodName) prog_1_method_38_code (3 : Nat) (Option.some Jvm.ClassFile.FieldType.int)) ∈ zWords := zmem 523 (by decide +kernel) (by decide +kernel)
theorem m_520 : (Jvm.Cond.methodLink "ConditionRows" (183 : Nat) ({ cls := "ConditionRows", name := "compareFields", desc := "(II)I" } : Jvm.MethodName)) ∈ zWords := zmem 520 (by decide +kernel) (by decide +kernel)
theorem m_522 : (Jvm.Cond.instanceMethod ({ cls := "ConditionRows", name := "compareFields", desc := "(II)I" } : Jvm.MethodName)) ∈ zWords := zmem 522 (by decide +kernel) (by decide +kernel)
theorem mp_14 : (Jvm.Cond.selects "ConditionRows" ({ cls := "ConditionRows", name := "compareFields", desc := "(II)I" } : Jvm.MethodName) ({ cls := "ConditionRows", name := "compareFields", desc := "(II)I" } : Jvm.MethodName)) ∈ zWords := zmemP 14 (by decide +kernel) (by decide +kernel)
theorem m_519 : (Jvm.Cond.code ({ cls := "ConditionRows", name := "relationOutcome", desc := "(III)I" } : Jvm.MethodName) prog_1_method_36_code (5 : Nat) (Option.some Jvm.ClassFile.FieldType.int)) ∈ zWords := zmem 519 (by decide +kernel) (by decide +kernel)
theorem m_516 : (Jvm.Cond.methodLink "ConditionRows" (282 : Nat) ({ cls := "ConditionRows", name := "relationOutcome", desc := "(III)I" } : Jvm.MethodName)) ∈ zWords := zmem 516 (by decide +kernel) (by decide +kernel)
theorem m_518 : (Jvm.Cond.instanceMethod ({ cls := "ConditionRows", name := "relationOutcome", desc := "(III)I" } : Jvm.MethodName)) ∈ zWords := zmem 518 (by decide +kernel) (by decide +kernel)
theorem mp_13 : (Jvm.Cond.selects "ConditionRows" ({ cls := "ConditionRows", name := "relationOutcome", desc := "(III)I" } : Jvm.MethodName) ({ cls := "ConditionRows", name := "relationOutcome", desc := "(III)I" } : Jvm.MethodName)) ∈ zWords := zmemP 13 (by decide +kernel) (by decide +kernel)
theorem m_459 : (Jvm.Cond.code ({ cls := "ConditionRows", name := "leafOutcome", desc := "(I)I" } : Jvm.MethodName) prog_1_method_34_code (4 : Nat) (Option.some Jvm.ClassFile.FieldType.int)) ∈ zWords := zmem 459 (by decide +kernel) (by decide +kernel)
theorem m_456 : (Jvm.Cond.methodLink "ConditionRows" (239 : Nat) ({ cls := "ConditionRows", name := "leafOutcome", desc := "(I)I" } : Jvm.MethodName)) ∈ zWords := zmem 456 (by decide +kernel) (by decide +kernel)
theorem m_458 : (Jvm.Cond.instanceMethod ({ cls := "ConditionRows", name := "leafOutcome", desc := "(I)I" } : Jvm.MethodName)) ∈ zWords := zmem 458 (by decide +kernel) (by decide +kernel)
theorem mp_9 : (Jvm.Cond.selects "ConditionRows" ({ cls := "ConditionRows", name := "leafOutcome", desc := "(I)I" } : Jvm.MethodName) ({ cls := "ConditionRows", name := "leafOutcome", desc := "(I)I" } : Jvm.MethodName)) ∈ zWords := zmemP 9 (by decide +kernel) (by decide +kernel)
theorem m_440 : (Jvm.Cond.code ({ cls := "ConditionRows", name := "outcomeOf", desc := "(I)I" } : Jvm.MethodName) prog_1_method_30_code (6 : Nat) (Option.some Jvm.ClassFile.FieldType.int)) ∈ zWords := zmem 440 (by decide +kernel) (by decide +kernel)
theorem m_437 : (Jvm.Cond.methodLink "ConditionRows" (159 : Nat) ({ cls := "ConditionRows", name := "outcomeOf", desc := "(I)I" } : Jvm.MethodName)) ∈ zWords := zmem 437 (by decide +kernel) (by decide +kernel)
theorem m_439 : (Jvm.Cond.instanceMethod ({ cls := "ConditionRows", name := "outcomeOf", desc := "(I)I" } : Jvm.MethodName)) ∈ zWords := zmem 439 (by decide +kernel) (by decide +kernel)
theorem mp_7 : (Jvm.Cond.selects "ConditionRows" ({ cls := "ConditionRows", name := "outcomeOf", desc := "(I)I" } : Jvm.MethodName) ({ cls := "ConditionRows", name := "outcomeOf", desc := "(I)I" } : Jvm.MethodName)) ∈ zWords := zmemP 7 (by decide +kernel) (by decide +kernel)
theorem m_357 : (Jvm.Cond.code ({ cls := "ConditionRows", name := "switchesOn", desc := "()I" } : Jvm.MethodName) prog_1_method_26_code (3 : Nat) (Option.some Jvm.ClassFile.FieldType.int)) ∈ zWords := zmem 357 (by decide +kernel) (by decide +kernel)
theorem m_354 : (Jvm.Cond.methodLink "ConditionRows" (188 : Nat) ({ cls := "ConditionRows", name := "switchesOn", desc := "()I" } : Jvm.MethodName)) ∈ zWords := zmem 354 (by decide +kernel) (by decide +kernel)
theorem m_356 : (Jvm.Cond.instanceMethod ({ cls := "ConditionRows", name := "switchesOn", desc := "()I" } : Jvm.MethodName)) ∈ zWords := zmem 356 (by decide +kernel) (by decide +kernel)
theorem mp_5 : (Jvm.Cond.selects "ConditionRows" ({ cls := "ConditionRows", name := "switchesOn", desc := "()I" } : Jvm.MethodName) ({ cls := "ConditionRows", name := "switchesOn", desc := "()I" } : Jvm.MethodName)) ∈ zWords := zmemP 5 (by decide +kernel) (by decide +kernel)
theorem m_604 : (Jvm.Cond.fieldLink "ConditionRowsModel" (83 : Nat) "ConditionRowsModel" "fields" "I") ∈ zWords := zmem 604 (by decide +kernel) (by decide +kernel)
theorem m_608 : (Jvm.Cond.fieldLink "ConditionRowsModel" (86 : Nat) "ConditionRowsModel" "nodes" "I") ∈ zWords := zmem 608 (by decide +kernel) (by decide +kernel)
theorem m_613 : (Jvm.Cond.fieldLink "ConditionRowsModel" (89 : Nat) "ConditionRowsModel" "names" "I") ∈ zWords := zmem 613 (by decide +kernel) (by decide +kernel)
theorem m_598 : (Jvm.Cond.fieldLink "ConditionRowsModel" (79 : Nat) "ConditionRowsModel" "thrown" "I") ∈ zWords := zmem 598 (by decide +kernel) (by decide +kernel)
theorem m_600 : (Jvm.Cond.fieldLink "ConditionRowsModel" (13 : Nat) "ConditionRowsModel" "categories" "[I") ∈ zWords := zmem 600 (by decide +kernel) (by decide +kernel)
theorem m_601 : (Jvm.Cond.fieldLink "ConditionRowsModel" (16 : Nat) "ConditionRowsModel" "sizes" "[I") ∈ zWords := zmem 601 (by decide +kernel) (by decide +kernel)
theorem m_599 : (Jvm.Cond.fieldLink "ConditionRowsModel" (7 : Nat) "ConditionRowsModel" "bytes" "[I") ∈ zWords := zmem 599 (by decide +kernel) (by decide +kernel)
theorem m_699 : (Jvm.Cond.code ({ cls := "ConditionRowsModel", name := "isField", desc := "(I)Z" } : Jvm.MethodName) prog_9_method_3_code (2 : Nat) (Option.some Jvm.ClassFile.FieldType.boolean)) ∈ zWords := zmem 699 (by decide +kernel) (by decide +kernel)
theorem m_696 : (Jvm.Cond.methodLink "ConditionRowsModel" (92 : Nat) ({ cls := "ConditionRowsModel", name := "isField", desc := "(I)Z" } : Jvm.MethodName)) ∈ zWords := zmem 696 (by decide +kernel) (by decide +kernel)
theorem m_698 : (Jvm.Cond.instanceMethod ({ cls := "ConditionRowsModel", name := "isField", desc := "(I)Z" } : Jvm.MethodName)) ∈ zWords := zmem 698 (by decide +kernel) (by decide +kernel)
theorem mp_17 : (Jvm.Cond.selects "ConditionRowsModel" ({ cls := "ConditionRowsModel", name := "isField", desc := "(I)Z" } : Jvm.MethodName) ({ cls := "ConditionRowsModel", name := "isField", desc := "(I)Z" } : Jvm.MethodName)) ∈ zWords := zmemP 17 (by decide +kernel) (by decide +kernel)
theorem m_8 : (Jvm.Cond.initialized "ConditionRowsModel") ∈ zWords := zmem 8 (by decide +kernel) (by decide +kernel)
theorem m_602 : (Jvm.Cond.fieldLink "ConditionRowsModel" (19 : Nat) "ConditionRowsModel" "scales" "[I") ∈ zWords := zmem 602 (by decide +kernel) (by decide +kernel)
theorem m_710 : (Jvm.Cond.code ({ cls := "ConditionRowsModel", name := "isByte", desc := "(I)Z" } : Jvm.MethodName) prog_9_method_9_code (1 : Nat) (Option.some Jvm.ClassFile.FieldType.boolean)) ∈ zWords := zmem 710 (by decide +kernel) (by decide +kernel)
theorem m_708 : (Jvm.Cond.methodLink "ConditionRowsModel" (96 : Nat) ({ cls := "ConditionRowsModel", name := "isByte", desc := "(I)Z" } : Jvm.MethodName)) ∈ zWords := zmem 708 (by decide +kernel) (by decide +kernel)
theorem m_709 : (Jvm.Cond.static ({ cls := "ConditionRowsModel", name := "isByte", desc := "(I)Z" } : Jvm.MethodName)) ∈ zWords := zmem 709 (by decide +kernel) (by decide +kernel)
theorem m_603 : (Jvm.Cond.fieldLink "ConditionRowsModel" (22 : Nat) "ConditionRowsModel" "weights" "[I") ∈ zWords := zmem 603 (by decide +kernel) (by decide +kernel)
theorem m_781 : (Jvm.Cond.code ({ cls := "ConditionRowsModel", name := "read", desc := "(II)I" } : Jvm.MethodName) prog_9_method_11_code (3 : Nat) (Option.some Jvm.ClassFile.FieldType.int)) ∈ zWords := zmem 781 (by decide +kernel) (by decide +kernel)
theorem m_778 : (Jvm.Cond.methodLink "ConditionRowsModel" (99 : Nat) ({ cls := "ConditionRowsModel", name := "read", desc := "(II)I" } : Jvm.MethodName)) ∈ zWords := zmem 778 (by decide +kernel) (by decide +kernel)
theorem m_780 : (Jvm.Cond.instanceMethod ({ cls := "ConditionRowsModel", name := "read", desc := "(II)I" } : Jvm.MethodName)) ∈ zWords := zmem 780 (by decide +kernel) (by decide +kernel)
theorem mp_26 : (Jvm.Cond.selects "ConditionRowsModel" ({ cls := "ConditionRowsModel", name := "read", desc := "(II)I" } : Jvm.MethodName) ({ cls := "ConditionRowsModel", name := "read", desc := "(II)I" } : Jvm.MethodName)) ∈ zWords := zmemP 26 (by decide +kernel) (by decide +kernel)
theorem m_798 : (Jvm.Cond.constantLong "ConditionRowsModel" (103 : Nat) (-1 : Int64)) ∈ zWords := zmem 798 (by decide +kernel) (by decide +kernel)
theorem m_799 : (Jvm.Cond.constantLong "ConditionRowsModel" (105 : Nat) (10 : Int64)) ∈ zWords := zmem 799 (by decide +kernel) (by decide +kernel)
theorem m_797 : (Jvm.Cond.code ({ cls := "ConditionRowsModel", name := "whole", desc := "(I)J" } : Jvm.MethodName) prog_9_method_13_code (5 : Nat) (Option.some Jvm.ClassFile.FieldType.long)) ∈ zWords := zmem 797 (by decide +kernel) (by decide +kernel)
theorem m_794 : (Jvm.Cond.methodLink "ConditionRowsModel" (107 : Nat) ({ cls := "ConditionRowsModel", name := "whole", desc := "(I)J" } : Jvm.MethodName)) ∈ zWords := zmem 794 (by decide +kernel) (by decide +kernel)
theorem m_796 : (Jvm.Cond.instanceMethod ({ cls := "ConditionRowsModel", name := "whole", desc := "(I)J" } : Jvm.MethodName)) ∈ zWords := zmem 796 (by decide +kernel) (by decide +kernel)
theorem mp_30 : (Jvm.Cond.selects "ConditionRowsModel" ({ cls := "ConditionRowsModel", name := "whole", desc := "(I)J" } : Jvm.MethodName) ({ cls := "ConditionRowsModel", name := "whole", desc := "(I)J" } : Jvm.MethodName)) ∈ zWords := zmemP 30 (by decide +kernel) (by decide +kernel)
theorem m_802 : (Jvm.Cond.code ({ cls := "ConditionRowsModel", name := "ten", desc := "(I)J" } : Jvm.MethodName) prog_9_method_14_code (4 : Nat) (Option.some Jvm.ClassFile.FieldType.long)) ∈ zWords := zmem 802 (by decide +kernel) (by decide +kernel)
theorem m_800 : (Jvm.Cond.methodLink "ConditionRowsModel" (110 : Nat) ({ cls := "ConditionRowsModel", name := "ten", desc := "(I)J" } : Jvm.MethodName)) ∈ zWords := zmem 800 (by decide +kernel) (by decide +kernel)
theorem m_801 : (Jvm.Cond.static ({ cls := "ConditionRowsModel", name := "ten", desc := "(I)J" } : Jvm.MethodName)) ∈ zWords := zmem 801 (by decide +kernel) (by decide +kernel)
theorem m_626 : (Jvm.Cond.fieldLink "ConditionRowsModel" (72 : Nat) "ConditionRowsModel" "digits" "[I") ∈ zWords := zmem 626 (by decide +kernel) (by decide +kernel)
theorem m_814 : (Jvm.Cond.constantLong "ConditionRowsModel" (113 : Nat) (5 : Int64)) ∈ zWords := zmem 814 (by decide +kernel) (by decide +kernel)
theorem m_793 : (Jvm.Cond.code ({ cls := "ConditionRowsModel", name := "part", desc := "(I)J" } : Jvm.MethodName) prog_9_method_15_code (8 : Nat) (Option.some Jvm.ClassFile.FieldType.long)) ∈ zWords := zmem 793 (by decide +kernel) (by decide +kernel)
theorem m_790 : (Jvm.Cond.methodLink "ConditionRowsModel" (115 : Nat) ({ cls := "ConditionRowsModel", name := "part", desc := "(I)J" } : Jvm.MethodName)) ∈ zWords := zmem 790 (by decide +kernel) (by decide +kernel)
theorem m_792 : (Jvm.Cond.instanceMethod ({ cls := "ConditionRowsModel", name := "part", desc := "(I)J" } : Jvm.MethodName)) ∈ zWords := zmem 792 (by decide +kernel) (by decide +kernel)
theorem mp_29 : (Jvm.Cond.selects "ConditionRowsModel" ({ cls := "ConditionRowsModel", name := "part", desc := "(I)J" } : Jvm.MethodName) ({ cls := "ConditionRowsModel", name := "part", desc := "(I)J" } : Jvm.MethodName)) ∈ zWords := zmemP 29 (by decide +kernel) (by decide +kernel)
theorem m_805 : (Jvm.Cond.code ({ cls := "ConditionRowsModel", name := "sign", desc := "(JJ)I" } : Jvm.MethodName) prog_9_method_18_code (4 : Nat) (Option.some Jvm.ClassFile.FieldType.int)) ∈ zWords := zmem 805 (by decide +kernel) (by decide +kernel)
theorem m_803 : (Jvm.Cond.methodLink "ConditionRowsModel" (118 : Nat) ({ cls := "ConditionRowsModel", name := "sign", desc := "(JJ)I" } : Jvm.MethodName)) ∈ zWords := zmem 803 (by decide +kernel) (by decide +kernel)
theorem m_804 : (Jvm.Cond.static ({ cls := "ConditionRowsModel", name := "sign", desc := "(JJ)I" } : Jvm.MethodName)) ∈ zWords := zmem 804 (by decide +kernel) (by decide +kernel)
theorem m_809 : (Jvm.Cond.code ({ cls := "ConditionRowsModel", name := "rest", desc := "(I)J" } : Jvm.MethodName) prog_9_method_16_code (6 : Nat) (Option.some Jvm.ClassFile.FieldType.long)) ∈ zWords := zmem 809 (by decide +kernel) (by decide +kernel)
theorem m_806 : (Jvm.Cond.methodLink "ConditionRowsModel" (122 : Nat) ({ cls := "ConditionRowsModel", name := "rest", desc := "(I)J" } : Jvm.MethodName)) ∈ zWords := zmem 806 (by decide +kernel) (by decide +kernel)
theorem m_808 : (Jvm.Cond.instanceMethod ({ cls := "ConditionRowsModel", name := "rest", desc := "(I)J" } : Jvm.MethodName)) ∈ zWords := zmem 808 (by decide +kernel) (by decide +kernel)
theorem mp_31 : (Jvm.Cond.selects "ConditionRowsModel" ({ cls := "ConditionRowsModel", name := "rest", desc := "(I)J" } : Jvm.MethodName) ({ cls := "ConditionRowsModel", name := "rest", desc := "(I)J" } : Jvm.MethodName)) ∈ zWords := zmemP 31 (by decide +kernel) (by decide +kernel)
theorem m_813 : (Jvm.Cond.code ({ cls := "ConditionRowsModel", name := "spell", desc := "(I)V" } : Jvm.MethodName) prog_9_method_17_code (12 : Nat) (Option.none : Option Jvm.ClassFile.FieldType)) ∈ zWords := zmem 813 (by decide +kernel) (by decide +kernel)
theorem m_810 : (Jvm.Cond.methodLink "ConditionRowsModel" (125 : Nat) ({ cls := "ConditionRowsModel", name := "spell", desc := "(I)V" } : Jvm.MethodName)) ∈ zWords := zmem 810 (by decide +kernel) (by decide +kernel)
theorem m_812 : (Jvm.Cond.instanceMethod ({ cls := "ConditionRowsModel", name := "spell", desc := "(I)V" } : Jvm.MethodName)) ∈ zWords := zmem 812 (by decide +kernel) (by decide +kernel)
theorem mp_32 : (Jvm.Cond.selects "ConditionRowsModel" ({ cls := "ConditionRowsModel", name := "spell", desc := "(I)V" } : Jvm.MethodName) ({ cls := "ConditionRowsModel", name := "spell", desc := "(I)V" } : Jvm.MethodName)) ∈ zWords := zmemP 32 (by decide +kernel) (by decide +kernel)
theorem m_726 : (Jvm.Cond.code ({ cls := "ConditionRowsModel", name := "isNode", desc := "(I)Z" } : Jvm.MethodName) prog_9_method_4_code (2 : Nat) (Option.some Jvm.ClassFile.FieldType.boolean)) ∈ zWords := zmem 726 (by decide +kernel) (by decide +kernel)
theorem m_723 : (Jvm.Cond.methodLink "ConditionRowsModel" (132 : Nat) ({ cls := "ConditionRowsModel", name := "isNode", desc := "(I)Z" } : Jvm.MethodName)) ∈ zWords := zmem 723 (by decide +kernel) (by decide +kernel)
theorem m_725 : (Jvm.Cond.instanceMethod ({ cls := "ConditionRowsModel", name := "isNode", desc := "(I)Z" } : Jvm.MethodName)) ∈ zWords := zmem 725 (by decide +kernel) (by decide +kernel)
theorem mp_20 : (Jvm.Cond.selects "ConditionRowsModel" ({ cls := "ConditionRowsModel", name := "isNode", desc := "(I)Z" } : Jvm.MethodName) ({ cls := "ConditionRowsModel", name := "isNode", desc := "(I)Z" } : Jvm.MethodName)) ∈ zWords := zmemP 20 (by decide +kernel) (by decide +kernel)
theorem m_722 : (Jvm.Cond.code ({ cls := "ConditionRowsModel", name := "isName", desc := "(I)Z" } : Jvm.MethodName) prog_9_method_5_code (2 : Nat) (Option.some Jvm.ClassFile.FieldType.boolean)) ∈ zWords := zmem 722 (by decide +kernel) (by decide +kernel)
theorem m_719 : (Jvm.Cond.methodLink "ConditionRowsModel" (129 : Nat) ({ cls := "ConditionRowsModel", name := "isName", desc := "(I)Z" } : Jvm.MethodName)) ∈ zWords := zmem 719 (by decide +kernel) (by decide +kernel)
theorem m_721 : (Jvm.Cond.instanceMethod ({ cls := "ConditionRowsModel", name := "isName", desc := "(I)Z" } : Jvm.MethodName)) ∈ zWords := zmem 721 (by decide +kernel) (by decide +kernel)
theorem mp_19 : (Jvm.Cond.selects "ConditionRowsModel" ({ cls := "ConditionRowsModel", name := "isName", desc := "(I)Z" } : Jvm.MethodName) ({ cls := "ConditionRowsModel", name := "isName", desc := "(I)Z" } : Jvm.MethodName)) ∈ zWords := zmemP 19 (by decide +kernel) (by decide +kernel)
theorem m_605 : (Jvm.Cond.fieldLink "ConditionRowsModel" (25 : Nat) "ConditionRowsModel" "ops" "[I") ∈ zWords := zmem 605 (by decide +kernel) (by decide +kernel)
theorem m_606 : (Jvm.Cond.fieldLink "ConditionRowsModel" (28 : Nat) "ConditionRowsModel" "as" "[I") ∈ zWords := zmem 606 (by decide +kernel) (by decide +kernel)
theorem m_607 : (Jvm.Cond.fieldLink "ConditionRowsModel" (31 : Nat) "ConditionRowsModel" "bs" "[I") ∈ zWords := zmem 607 (by decide +kernel) (by decide +kernel)
theorem m_718 : (Jvm.Cond.code ({ cls := "ConditionRowsModel", name := "refusal", desc := "(III)I" } : Jvm.MethodName) prog_9_method_20_code (4 : Nat) (Option.some Jvm.ClassFile.FieldType.int)) ∈ zWords := zmem 718 (by decide +kernel) (by decide +kernel)
theorem m_715 : (Jvm.Cond.methodLink "ConditionRowsModel" (135 : Nat) ({ cls := "ConditionRowsModel", name := "refusal", desc := "(III)I" } : Jvm.MethodName)) ∈ zWords := zmem 715 (by decide +kernel) (by decide +kernel)
theorem m_717 : (Jvm.Cond.instanceMethod ({ cls := "ConditionRowsModel", name := "refusal", desc := "(III)I" } : Jvm.MethodName)) ∈ zWords := zmem 717 (by decide +kernel) (by decide +kernel)
theorem mp_18 : (Jvm.Cond.selects "ConditionRowsModel" ({ cls := "ConditionRowsModel", name := "refusal", desc := "(III)I" } : Jvm.MethodName) ({ cls := "ConditionRowsModel", name := "refusal", desc := "(III)I" } : Jvm.MethodName)) ∈ zWords := zmemP 18 (by decide +kernel) (by decide +kernel)
theorem m_730 : (Jvm.Cond.code ({ cls := "ConditionRowsModel", name := "made", desc := "(III)I" } : Jvm.MethodName) prog_9_method_21_code (4 : Nat) (Option.some Jvm.ClassFile.FieldType.int)) ∈ zWords := zmem 730 (by decide +kernel) (by decide +kernel)
theorem m_727 : (Jvm.Cond.methodLink "ConditionRowsModel" (139 : Nat) ({ cls := "ConditionRowsModel", name := "made", desc := "(III)I" } : Jvm.MethodName)) ∈ zWords := zmem 727 (by decide +kernel) (by decide +kernel)
theorem m_729 : (Jvm.Cond.instanceMethod ({ cls := "ConditionRowsModel", name := "made", desc := "(III)I" } : Jvm.MethodName)) ∈ zWords := zmem 729 (by decide +kernel) (by decide +kernel)
theorem mp_21 : (Jvm.Cond.selects "ConditionRowsModel" ({ cls := "ConditionRowsModel", name := "made", desc := "(III)I" } : Jvm.MethodName) ({ cls := "ConditionRowsModel", name := "made", desc := "(III)I" } : Jvm.MethodName)) ∈ zWords := zmemP 21 (by decide +kernel) (by decide +kernel)
theorem m_742 : (Jvm.Cond.constantLong "ConditionRowsModel" (142 : Nat) (-9223372036854775808 : Int64)) ∈ zWords := zmem 742 (by decide +kernel) (by decide +kernel)
theorem m_741 : (Jvm.Cond.code ({ cls := "ConditionRowsModel", name := "isLess", desc := "(JJ)Z" } : Jvm.MethodName) prog_9_method_23_code (4 : Nat) (Option.some Jvm.ClassFile.FieldType.boolean)) ∈ zWords := zmem 741 (by decide +kernel) (by decide +kernel)
theorem m_739 : (Jvm.Cond.methodLink "ConditionRowsModel" (144 : Nat) ({ cls := "ConditionRowsModel", name := "isLess", desc := "(JJ)Z" } : Jvm.MethodName)) ∈ zWords := zmem 739 (by decide +kernel) (by decide +kernel)
theorem m_740 : (Jvm.Cond.static ({ cls := "ConditionRowsModel", name := "isLess", desc := "(JJ)Z" } : Jvm.MethodName)) ∈ zWords := zmem 740 (by decide +kernel) (by decide +kernel)
theorem m_738 : (Jvm.Cond.code ({ cls := "ConditionRowsModel", name := "isTurned", desc := "(IJJ)Z" } : Jvm.MethodName) prog_9_method_24_code (6 : Nat) (Option.some Jvm.ClassFile.FieldType.boolean)) ∈ zWords := zmem 738 (by decide +kernel) (by decide +kernel)
theorem m_735 : (Jvm.Cond.methodLink "ConditionRowsModel" (148 : Nat) ({ cls := "ConditionRowsModel", name := "isTurned", desc := "(IJJ)Z" } : Jvm.MethodName)) ∈ zWords := zmem 735 (by decide +kernel) (by decide +kernel)
theorem m_737 : (Jvm.Cond.instanceMethod ({ cls := "ConditionRowsModel", name := "isTurned", desc := "(IJJ)Z" } : Jvm.MethodName)) ∈ zWords := zmem 737 (by decide +kernel) (by decide +kernel)
theorem mp_22 : (Jvm.Cond.selects "ConditionRowsModel" ({ cls := "ConditionRowsModel", name := "isTurned", desc := "(IJJ)Z" } : Jvm.MethodName) ({ cls := "ConditionRowsModel", name := "isTurned", desc := "(IJJ)Z" } : Jvm.MethodName)) ∈ zWords := zmemP 22 (by decide +kernel) (by decide +kernel)
theorem m_609 : (Jvm.Cond.fieldLink "ConditionRowsModel" (34 : Nat) "ConditionRowsModel" "nameFields" "[I") ∈ zWords := zmem 609 (by decide +kernel) (by decide +kernel)
theorem m_610 : (Jvm.Cond.fieldLink "ConditionRowsModel" (37 : Nat) "ConditionRowsModel" "ranges" "[I") ∈ zWords := zmem 610 (by decide +kernel) (by decide +kernel)
theorem m_611 : (Jvm.Cond.fieldLink "ConditionRowsModel" (40 : Nat) "ConditionRowsModel" "lows" "[J") ∈ zWords := zmem 611 (by decide +kernel) (by decide +kernel)
theorem m_612 : (Jvm.Cond.fieldLink "ConditionRowsModel" (44 : Nat) "ConditionRowsModel" "highs" "[J") ∈ zWords := zmem 612 (by decide +kernel) (by decide +kernel)
theorem m_753 : (Jvm.Cond.code ({ cls := "ConditionRowsModel", name := "isRelation", desc := "(I)Z" } : Jvm.MethodName) prog_9_method_27_code (1 : Nat) (Option.some Jvm.ClassFile.FieldType.boolean)) ∈ zWords := zmem 753 (by decide +kernel) (by decide +kernel)
theorem m_751 : (Jvm.Cond.methodLink "ConditionRowsModel" (152 : Nat) ({ cls := "ConditionRowsModel", name := "isRelation", desc := "(I)Z" } : Jvm.MethodName)) ∈ zWords := zmem 751 (by decide +kernel) (by decide +kernel)
theorem m_752 : (Jvm.Cond.static ({ cls := "ConditionRowsModel", name := "isRelation", desc := "(I)Z" } : Jvm.MethodName)) ∈ zWords := zmem 752 (by decide +kernel) (by decide +kernel)
theorem m_620 : (Jvm.Cond.fieldLink "ConditionRowsModel" (155 : Nat) "ConditionRowsModel" "subject" "I") ∈ zWords := zmem 620 (by decide +kernel) (by decide +kernel)
theorem m_619 : (Jvm.Cond.fieldLink "ConditionRowsModel" (158 : Nat) "ConditionRowsModel" "row" "I") ∈ zWords := zmem 619 (by decide +kernel) (by decide +kernel)
theorem m_615 : (Jvm.Cond.fieldLink "ConditionRowsModel" (51 : Nat) "ConditionRowsModel" "ways" "[I") ∈ zWords := zmem 615 (by decide +kernel) (by decide +kernel)
theorem m_616 : (Jvm.Cond.fieldLink "ConditionRowsModel" (54 : Nat) "ConditionRowsModel" "rowOps" "[I") ∈ zWords := zmem 616 (by decide +kernel) (by decide +kernel)
theorem m_618 : (Jvm.Cond.fieldLink "ConditionRowsModel" (60 : Nat) "ConditionRowsModel" "turned" "[Z") ∈ zWords := zmem 618 (by decide +kernel) (by decide +kernel)
theorem m_617 : (Jvm.Cond.fieldLink "ConditionRowsModel" (57 : Nat) "ConditionRowsModel" "objects" "[I") ∈ zWords := zmem 617 (by decide +kernel) (by decide +kernel)
theorem m_765 : (Jvm.Cond.code ({ cls := "ConditionRowsModel", name := "relation", desc := "(I)I" } : Jvm.MethodName) prog_9_method_30_code (3 : Nat) (Option.some Jvm.ClassFile.FieldType.int)) ∈ zWords := zmem 765 (by decide +kernel) (by decide +kernel)
theorem m_762 : (Jvm.Cond.methodLink "ConditionRowsModel" (161 : Nat) ({ cls := "ConditionRowsModel", name := "relation", desc := "(I)I" } : Jvm.MethodName)) ∈ zWords := zmem 762 (by decide +kernel) (by decide +kernel)
theorem m_764 : (Jvm.Cond.instanceMethod ({ cls := "ConditionRowsModel", name := "relation", desc := "(I)I" } : Jvm.MethodName)) ∈ zWords := zmem 764 (by decide +kernel) (by decide +kernel)
theorem mp_23 : (Jvm.Cond.selects "ConditionRowsModel" ({ cls := "ConditionRowsModel", name := "relation", desc := "(I)I" } : Jvm.MethodName) ({ cls := "ConditionRowsModel", name := "relation", desc := "(I)I" } : Jvm.MethodName)) ∈ zWords := zmemP 23 (by decide +kernel) (by decide +kernel)
theorem m_777 : (Jvm.Cond.code ({ cls := "ConditionRowsModel", name := "isBad", desc := "(I)Z" } : Jvm.MethodName) prog_9_method_12_code (5 : Nat) (Option.some Jvm.ClassFile.FieldType.boolean)) ∈ zWords := zmem 777 (by decide +kernel) (by decide +kernel)
theorem m_774 : (Jvm.Cond.methodLink "ConditionRowsModel" (165 : Nat) ({ cls := "ConditionRowsModel", name := "isBad", desc := "(I)Z" } : Jvm.MethodName)) ∈ zWords := zmem 774 (by decide +kernel) (by decide +kernel)
theorem m_776 : (Jvm.Cond.instanceMethod ({ cls := "ConditionRowsModel", name := "isBad", desc := "(I)Z" } : Jvm.MethodName)) ∈ zWords := zmem 776 (by decide +kernel) (by decide +kernel)
theorem mp_25 : (Jvm.Cond.selects "ConditionRowsModel" ({ cls := "ConditionRowsModel", name := "isBad", desc := "(I)Z" } : Jvm.MethodName) ({ cls := "ConditionRowsModel", name := "isBad", desc := "(I)Z" } : Jvm.MethodName)) ∈ zWords := zmemP 25 (by decide +kernel) (by decide +kernel)
theorem m_789 : (Jvm.Cond.code ({ cls := "ConditionRowsModel", name := "order", desc := "(II)I" } : Jvm.MethodName) prog_9_method_19_code (6 : Nat) (Option.some Jvm.ClassFile.FieldType.int)) ∈ zWords := zmem 789 (by decide +kernel) (by decide +kernel)
theorem m_786 : (Jvm.Cond.methodLink "ConditionRowsModel" (168 : Nat) ({ cls := "ConditionRowsModel", name := "order", desc := "(II)I" } : Jvm.MethodName)) ∈ zWords := zmem 786 (by decide +kernel) (by decide +kernel)
theorem m_788 : (Jvm.Cond.instanceMethod ({ cls := "ConditionRowsModel", name := "order", desc := "(II)I" } : Jvm.MethodName)) ∈ zWords := zmem 788 (by decide +kernel) (by decide +kernel)
theorem mp_28 : (Jvm.Cond.selects "ConditionRowsModel" ({ cls := "ConditionRowsModel", name := "order", desc := "(II)I" } : Jvm.MethodName) ({ cls := "ConditionRowsModel", name := "order", desc := "(II)I" } : Jvm.MethodName)) ∈ zWords := zmemP 28 (by decide +kernel) (by decide +kernel)
theorem m_623 : (Jvm.Cond.fieldLink "ConditionRowsModel" (69 : Nat) "ConditionRowsModel" "leaves" "[I") ∈ zWords := zmem 623 (by decide +kernel) (by decide +kernel)
theorem m_624 : (Jvm.Cond.fieldLink "ConditionRowsModel" (171 : Nat) "ConditionRowsModel" "noted" "I") ∈ zWords := zmem 624 (by decide +kernel) (by decide +kernel)
theorem m_625 : (Jvm.Cond.fieldLink "ConditionRowsModel" (174 : Nat) "ConditionRowsModel" "fault" "Z") ∈ zWords := zmem 625 (by decide +kernel) (by decide +kernel)
theorem m_614 : (Jvm.Cond.fieldLink "ConditionRowsModel" (47 : Nat) "ConditionRowsModel" "switches" "[Z") ∈ zWords := zmem 614 (by decide +kernel) (by decide +kernel)
theorem m_822 : (Jvm.Cond.code ({ cls := "ConditionRowsModel", name := "isIn", desc := "(I)Z" } : Jvm.MethodName) prog_9_method_33_code (11 : Nat) (Option.some Jvm.ClassFile.FieldType.boolean)) ∈ zWords := zmem 822 (by decide +kernel) (by decide +kernel)
theorem m_819 : (Jvm.Cond.methodLink "ConditionRowsModel" (185 : Nat) ({ cls := "ConditionRowsModel", name := "isIn", desc := "(I)Z" } : Jvm.MethodName)) ∈ zWords := zmem 819 (by decide +kernel) (by decide +kernel)
theorem m_821 : (Jvm.Cond.instanceMethod ({ cls := "ConditionRowsModel", name := "isIn", desc := "(I)Z" } : Jvm.MethodName)) ∈ zWords := zmem 821 (by decide +kernel) (by decide +kernel)
theorem mp_34 : (Jvm.Cond.selects "ConditionRowsModel" ({ cls := "ConditionRowsModel", name := "isIn", desc := "(I)Z" } : Jvm.MethodName) ({ cls := "ConditionRowsModel", name := "isIn", desc := "(I)Z" } : Jvm.MethodName)) ∈ zWords := zmemP 34 (by decide +kernel) (by decide +kernel)
theorem m_818 : (Jvm.Cond.code ({ cls := "ConditionRowsModel", name := "isOf", desc := "(II)Z" } : Jvm.MethodName) prog_9_method_32_code (8 : Nat) (Option.some Jvm.ClassFile.FieldType.boolean)) ∈ zWords := zmem 818 (by decide +kernel) (by decide +kernel)
theorem m_815 : (Jvm.Cond.methodLink "ConditionRowsModel" (181 : Nat) ({ cls := "ConditionRowsModel", name := "isOf", desc := "(II)Z" } : Jvm.MethodName)) ∈ zWords := zmem 815 (by decide +kernel) (by decide +kernel)
theorem m_817 : (Jvm.Cond.instanceMethod ({ cls := "ConditionRowsModel", name := "isOf", desc := "(II)Z" } : Jvm.MethodName)) ∈ zWords := zmem 817 (by decide +kernel) (by decide +kernel)
theorem mp_33 : (Jvm.Cond.selects "ConditionRowsModel" ({ cls := "ConditionRowsModel", name := "isOf", desc := "(II)Z" } : Jvm.MethodName) ({ cls := "ConditionRowsModel", name := "isOf", desc := "(II)Z" } : Jvm.MethodName)) ∈ zWords := zmemP 33 (by decide +kernel) (by decide +kernel)
theorem m_785 : (Jvm.Cond.code ({ cls := "ConditionRowsModel", name := "related", desc := "(III)Z" } : Jvm.MethodName) prog_9_method_34_code (5 : Nat) (Option.some Jvm.ClassFile.FieldType.boolean)) ∈ zWords := zmem 785 (by decide +kernel) (by decide +kernel)
theorem m_782 : (Jvm.Cond.methodLink "ConditionRowsModel" (177 : Nat) ({ cls := "ConditionRowsModel", name := "related", desc := "(III)Z" } : Jvm.MethodName)) ∈ zWords := zmem 782 (by decide +kernel) (by decide +kernel)
theorem m_784 : (Jvm.Cond.instanceMethod ({ cls := "ConditionRowsModel", name := "related", desc := "(III)Z" } : Jvm.MethodName)) ∈ zWords := zmem 784 (by decide +kernel) (by decide +kernel)
theorem mp_27 : (Jvm.Cond.selects "ConditionRowsModel" ({ cls := "ConditionRowsModel", name := "related", desc := "(III)Z" } : Jvm.MethodName) ({ cls := "ConditionRowsModel", name := "related", desc := "(III)Z" } : Jvm.MethodName)) ∈ zWords := zmemP 27 (by decide +kernel) (by decide +kernel)
theorem m_621 : (Jvm.Cond.fieldLink "ConditionRowsModel" (63 : Nat) "ConditionRowsModel" "known" "[I") ∈ zWords := zmem 621 (by decide +kernel) (by decide +kernel)
theorem m_597 : (Jvm.Cond.fieldLink "ConditionRowsModel" (75 : Nat) "ConditionRowsModel" "whole" "Z") ∈ zWords := zmem 597 (by decide +kernel) (by decide +kernel)
theorem m_622 : (Jvm.Cond.fieldLink "ConditionRowsModel" (66 : Nat) "ConditionRowsModel" "pile" "[I") ∈ zWords := zmem 622 (by decide +kernel) (by decide +kernel)
theorem m_826 : (Jvm.Cond.code ({ cls := "ConditionRowsModel", name := "settled", desc := "(I)I" } : Jvm.MethodName) prog_9_method_36_code (5 : Nat) (Option.some Jvm.ClassFile.FieldType.int)) ∈ zWords := zmem 826 (by decide +kernel) (by decide +kernel)
theorem m_823 : (Jvm.Cond.methodLink "ConditionRowsModel" (191 : Nat) ({ cls := "ConditionRowsModel", name := "settled", desc := "(I)I" } : Jvm.MethodName)) ∈ zWords := zmem 823 (by decide +kernel) (by decide +kernel)
theorem m_825 : (Jvm.Cond.instanceMethod ({ cls := "ConditionRowsModel", name := "settled", desc := "(I)I" } : Jvm.MethodName)) ∈ zWords := zmem 825 (by decide +kernel) (by decide +kernel)
theorem mp_35 : (Jvm.Cond.selects "ConditionRowsModel" ({ cls := "ConditionRowsModel", name := "settled", desc := "(I)I" } : Jvm.MethodName) ({ cls := "ConditionRowsModel", name := "settled", desc := "(I)I" } : Jvm.MethodName)) ∈ zWords := zmemP 35 (by decide +kernel) (by decide +kernel)
theorem m_773 : (Jvm.Cond.code ({ cls := "ConditionRowsModel", name := "leaf", desc := "(I)Z" } : Jvm.MethodName) prog_9_method_35_code (4 : Nat) (Option.some Jvm.ClassFile.FieldType.boolean)) ∈ zWords := zmem 773 (by decide +kernel) (by decide +kernel)
theorem m_770 : (Jvm.Cond.methodLink "ConditionRowsModel" (188 : Nat) ({ cls := "ConditionRowsModel", name := "leaf", desc := "(I)Z" } : Jvm.MethodName)) ∈ zWords := zmem 770 (by decide +kernel) (by decide +kernel)
theorem m_772 : (Jvm.Cond.instanceMethod ({ cls := "ConditionRowsModel", name := "leaf", desc := "(I)Z" } : Jvm.MethodName)) ∈ zWords := zmem 772 (by decide +kernel) (by decide +kernel)
theorem mp_24 : (Jvm.Cond.selects "ConditionRowsModel" ({ cls := "ConditionRowsModel", name := "leaf", desc := "(I)Z" } : Jvm.MethodName) ({ cls := "ConditionRowsModel", name := "leaf", desc := "(I)Z" } : Jvm.MethodName)) ∈ zWords := zmemP 24 (by decide +kernel) (by decide +kernel)
theorem m_184 : (Jvm.Cond.laysFinal "ConditionRows" "ConditionRows" "whole" "Z") ∈ zWords := zmem 184 (by decide +kernel) (by decide +kernel)
theorem m_186 : (Jvm.Cond.laysFinal "ConditionRows" "ConditionRows" "fields" "LConditionRows$Fields;") ∈ zWords := zmem 186 (by decide +kernel) (by decide +kernel)
theorem m_188 : (Jvm.Cond.laysFinal "ConditionRows" "ConditionRows" "weights" "LConditionRows$Weights;") ∈ zWords := zmem 188 (by decide +kernel) (by decide +kernel)
theorem m_190 : (Jvm.Cond.laysFinal "ConditionRows" "ConditionRows" "names" "LConditionRows$Names;") ∈ zWords := zmem 190 (by decide +kernel) (by decide +kernel)
theorem m_192 : (Jvm.Cond.laysFinal "ConditionRows" "ConditionRows" "nodes" "LConditionRows$Nodes;") ∈ zWords := zmem 192 (by decide +kernel) (by decide +kernel)
theorem m_194 : (Jvm.Cond.laysFinal "ConditionRows" "ConditionRows" "row" "LConditionRows$Row;") ∈ zWords := zmem 194 (by decide +kernel) (by decide +kernel)
theorem m_196 : (Jvm.Cond.laysFinal "ConditionRows" "ConditionRows" "testing" "LConditionRows$Testing;") ∈ zWords := zmem 196 (by decide +kernel) (by decide +kernel)
theorem m_198 : (Jvm.Cond.laysFinal "ConditionRows" "ConditionRows" "switches" "[Z") ∈ zWords := zmem 198 (by decide +kernel) (by decide +kernel)
theorem m_200 : (Jvm.Cond.laysFinal "ConditionRows" "ConditionRows" "leftText" "[I") ∈ zWords := zmem 200 (by decide +kernel) (by decide +kernel)
theorem m_202 : (Jvm.Cond.laysFinal "ConditionRows" "ConditionRows" "rightText" "[I") ∈ zWords := zmem 202 (by decide +kernel) (by decide +kernel)
theorem m_40 : (Jvm.Cond.laysFinal "ConditionRows$Fields" "ConditionRows$Fields" "category" "[I") ∈ zWords := zmem 40 (by decide +kernel) (by decide +kernel)
theorem m_42 : (Jvm.Cond.laysFinal "ConditionRows$Fields" "ConditionRows$Fields" "size" "[I") ∈ zWords := zmem 42 (by decide +kernel) (by decide +kernel)
theorem m_44 : (Jvm.Cond.laysFinal "ConditionRows$Fields" "ConditionRows$Fields" "scale" "[I") ∈ zWords := zmem 44 (by decide +kernel) (by decide +kernel)
theorem m_46 : (Jvm.Cond.laysFinal "ConditionRows$Fields" "ConditionRows$Fields" "bytes" "[I") ∈ zWords := zmem 46 (by decide +kernel) (by decide +kernel)
theorem m_48 : (Jvm.Cond.lays "ConditionRows$Fields" "ConditionRows$Fields" "made" "I") ∈ zWords := zmem 48 (by decide +kernel) (by decide +kernel)
theorem m_60 : (Jvm.Cond.laysFinal "ConditionRows$Weights" "ConditionRows$Weights" "of" "[I") ∈ zWords := zmem 60 (by decide +kernel) (by decide +kernel)
theorem m_76 : (Jvm.Cond.laysFinal "ConditionRows$Names" "ConditionRows$Names" "field" "[I") ∈ zWords := zmem 76 (by decide +kernel) (by decide +kernel)
theorem m_78 : (Jvm.Cond.laysFinal "ConditionRows$Names" "ConditionRows$Names" "ranges" "[I") ∈ zWords := zmem 78 (by decide +kernel) (by decide +kernel)
theorem m_80 : (Jvm.Cond.laysFinal "ConditionRows$Names" "ConditionRows$Names" "low" "[J") ∈ zWords := zmem 80 (by decide +kernel) (by decide +kernel)
theorem m_82 : (Jvm.Cond.laysFinal "ConditionRows$Names" "ConditionRows$Names" "high" "[J") ∈ zWords := zmem 82 (by decide +kernel) (by decide +kernel)
theorem m_84 : (Jvm.Cond.lays "ConditionRows$Names" "ConditionRows$Names" "made" "I") ∈ zWords := zmem 84 (by decide +kernel) (by decide +kernel)
theorem m_102 : (Jvm.Cond.laysFinal "ConditionRows$Nodes" "ConditionRows$Nodes" "op" "[I") ∈ zWords := zmem 102 (by decide +kernel) (by decide +kernel)
theorem m_104 : (Jvm.Cond.laysFinal "ConditionRows$Nodes" "ConditionRows$Nodes" "a" "[I") ∈ zWords := zmem 104 (by decide +kernel) (by decide +kernel)
theorem m_106 : (Jvm.Cond.laysFinal "ConditionRows$Nodes" "ConditionRows$Nodes" "b" "[I") ∈ zWords := zmem 106 (by decide +kernel) (by decide +kernel)
theorem m_108 : (Jvm.Cond.lays "ConditionRows$Nodes" "ConditionRows$Nodes" "made" "I") ∈ zWords := zmem 108 (by decide +kernel) (by decide +kernel)
theorem m_131 : (Jvm.Cond.laysFinal "ConditionRows$Row" "ConditionRows$Row" "with" "[I") ∈ zWords := zmem 131 (by decide +kernel) (by decide +kernel)
theorem m_133 : (Jvm.Cond.laysFinal "ConditionRows$Row" "ConditionRows$Row" "op" "[I") ∈ zWords := zmem 133 (by decide +kernel) (by decide +kernel)
theorem m_135 : (Jvm.Cond.laysFinal "ConditionRows$Row" "ConditionRows$Row" "negated" "[Z") ∈ zWords := zmem 135 (by decide +kernel) (by decide +kernel)
theorem m_137 : (Jvm.Cond.laysFinal "ConditionRows$Row" "ConditionRows$Row" "object" "[I") ∈ zWords := zmem 137 (by decide +kernel) (by decide +kernel)
theorem m_139 : (Jvm.Cond.lays "ConditionRows$Row" "ConditionRows$Row" "subject" "I") ∈ zWords := zmem 139 (by decide +kernel) (by decide +kernel)
theorem m_141 : (Jvm.Cond.lays "ConditionRows$Row" "ConditionRows$Row" "carried" "I") ∈ zWords := zmem 141 (by decide +kernel) (by decide +kernel)
theorem m_143 : (Jvm.Cond.lays "ConditionRows$Row" "ConditionRows$Row" "length" "I") ∈ zWords := zmem 143 (by decide +kernel) (by decide +kernel)
theorem m_163 : (Jvm.Cond.laysFinal "ConditionRows$Testing" "ConditionRows$Testing" "outcome" "[I") ∈ zWords := zmem 163 (by decide +kernel) (by decide +kernel)
theorem m_165 : (Jvm.Cond.laysFinal "ConditionRows$Testing" "ConditionRows$Testing" "leaves" "[I") ∈ zWords := zmem 165 (by decide +kernel) (by decide +kernel)
theorem m_167 : (Jvm.Cond.laysFinal "ConditionRows$Testing" "ConditionRows$Testing" "waiting" "[I") ∈ zWords := zmem 167 (by decide +kernel) (by decide +kernel)
theorem m_169 : (Jvm.Cond.lays "ConditionRows$Testing" "ConditionRows$Testing" "noted" "I") ∈ zWords := zmem 169 (by decide +kernel) (by decide +kernel)
theorem m_171 : (Jvm.Cond.lays "ConditionRows$Testing" "ConditionRows$Testing" "depth" "I") ∈ zWords := zmem 171 (by decide +kernel) (by decide +kernel)
theorem m_627 : (Jvm.Cond.laysFinal "ConditionRowsModel" "ConditionRowsModel" "whole" "Z") ∈ zWords := zmem 627 (by decide +kernel) (by decide +kernel)
theorem m_629 : (Jvm.Cond.lays "ConditionRowsModel" "ConditionRowsModel" "thrown" "I") ∈ zWords := zmem 629 (by decide +kernel) (by decide +kernel)
theorem m_631 : (Jvm.Cond.laysFinal "ConditionRowsModel" "ConditionRowsModel" "bytes" "[I") ∈ zWords := zmem 631 (by decide +kernel) (by decide +kernel)
theorem m_633 : (Jvm.Cond.laysFinal "ConditionRowsModel" "ConditionRowsModel" "categories" "[I") ∈ zWords := zmem 633 (by decide +kernel) (by decide +kernel)
theorem m_635 : (Jvm.Cond.laysFinal "ConditionRowsModel" "ConditionRowsModel" "sizes" "[I") ∈ zWords := zmem 635 (by decide +kernel) (by decide +kernel)
theorem m_637 : (Jvm.Cond.laysFinal "ConditionRowsModel" "ConditionRowsModel" "scales" "[I") ∈ zWords := zmem 637 (by decide +kernel) (by decide +kernel)
theorem m_639 : (Jvm.Cond.laysFinal "ConditionRowsModel" "ConditionRowsModel" "weights" "[I") ∈ zWords := zmem 639 (by decide +kernel) (by decide +kernel)
theorem m_641 : (Jvm.Cond.lays "ConditionRowsModel" "ConditionRowsModel" "fields" "I") ∈ zWords := zmem 641 (by decide +kernel) (by decide +kernel)
theorem m_643 : (Jvm.Cond.laysFinal "ConditionRowsModel" "ConditionRowsModel" "ops" "[I") ∈ zWords := zmem 643 (by decide +kernel) (by decide +kernel)
theorem m_645 : (Jvm.Cond.laysFinal "ConditionRowsModel" "ConditionRowsModel" "as" "[I") ∈ zWords := zmem 645 (by decide +kernel) (by decide +kernel)
theorem m_647 : (Jvm.Cond.laysFinal "ConditionRowsModel" "ConditionRowsModel" "bs" "[I") ∈ zWords := zmem 647 (by decide +kernel) (by decide +kernel)
theorem m_649 : (Jvm.Cond.lays "ConditionRowsModel" "ConditionRowsModel" "nodes" "I") ∈ zWords := zmem 649 (by decide +kernel) (by decide +kernel)
theorem m_651 : (Jvm.Cond.laysFinal "ConditionRowsModel" "ConditionRowsModel" "nameFields" "[I") ∈ zWords := zmem 651 (by decide +kernel) (by decide +kernel)
theorem m_653 : (Jvm.Cond.laysFinal "ConditionRowsModel" "ConditionRowsModel" "ranges" "[I") ∈ zWords := zmem 653 (by decide +kernel) (by decide +kernel)
theorem m_655 : (Jvm.Cond.laysFinal "ConditionRowsModel" "ConditionRowsModel" "lows" "[J") ∈ zWords := zmem 655 (by decide +kernel) (by decide +kernel)
theorem m_657 : (Jvm.Cond.laysFinal "ConditionRowsModel" "ConditionRowsModel" "highs" "[J") ∈ zWords := zmem 657 (by decide +kernel) (by decide +kernel)
theorem m_659 : (Jvm.Cond.lays "ConditionRowsModel" "ConditionRowsModel" "names" "I") ∈ zWords := zmem 659 (by decide +kernel) (by decide +kernel)
theorem m_661 : (Jvm.Cond.laysFinal "ConditionRowsModel" "ConditionRowsModel" "switches" "[Z") ∈ zWords := zmem 661 (by decide +kernel) (by decide +kernel)
theorem m_663 : (Jvm.Cond.laysFinal "ConditionRowsModel" "ConditionRowsModel" "ways" "[I") ∈ zWords := zmem 663 (by decide +kernel) (by decide +kernel)
theorem m_665 : (Jvm.Cond.laysFinal "ConditionRowsModel" "ConditionRowsModel" "rowOps" "[I") ∈ zWords := zmem 665 (by decide +kernel) (by decide +kernel)
theorem m_667 : (Jvm.Cond.laysFinal "ConditionRowsModel" "ConditionRowsModel" "objects" "[I") ∈ zWords := zmem 667 (by decide +kernel) (by decide +kernel)
theorem m_669 : (Jvm.Cond.laysFinal "ConditionRowsModel" "ConditionRowsModel" "turned" "[Z") ∈ zWords := zmem 669 (by decide +kernel) (by decide +kernel)
theorem m_671 : (Jvm.Cond.lays "ConditionRowsModel" "ConditionRowsModel" "row" "I") ∈ zWords := zmem 671 (by decide +kernel) (by decide +kernel)
theorem m_673 : (Jvm.Cond.lays "ConditionRowsModel" "ConditionRowsModel" "subject" "I") ∈ zWords := zmem 673 (by decide +kernel) (by decide +kernel)
theorem m_675 : (Jvm.Cond.laysFinal "ConditionRowsModel" "ConditionRowsModel" "known" "[I") ∈ zWords := zmem 675 (by decide +kernel) (by decide +kernel)
theorem m_677 : (Jvm.Cond.laysFinal "ConditionRowsModel" "ConditionRowsModel" "pile" "[I") ∈ zWords := zmem 677 (by decide +kernel) (by decide +kernel)
theorem m_679 : (Jvm.Cond.laysFinal "ConditionRowsModel" "ConditionRowsModel" "leaves" "[I") ∈ zWords := zmem 679 (by decide +kernel) (by decide +kernel)
theorem m_681 : (Jvm.Cond.lays "ConditionRowsModel" "ConditionRowsModel" "noted" "I") ∈ zWords := zmem 681 (by decide +kernel) (by decide +kernel)
theorem m_683 : (Jvm.Cond.lays "ConditionRowsModel" "ConditionRowsModel" "fault" "Z") ∈ zWords := zmem 683 (by decide +kernel) (by decide +kernel)
theorem m_685 : (Jvm.Cond.laysFinal "ConditionRowsModel" "ConditionRowsModel" "digits" "[I") ∈ zWords := zmem 685 (by decide +kernel) (by decide +kernel)
theorem inX : ∀ w ∈ u_ws RX TX 10, w ∈ zWords := by
  intro w hw
  obtain ⟨k, hk, rfl⟩ := List.mem_map.mp hw
  have hk := List.mem_range.mp hk
  rcases (show k = 0 ∨ k = 1 ∨ k = 2 ∨ k = 3 ∨ k = 4 ∨ k = 5 ∨ k = 6 ∨ k = 7 ∨ k = 8 ∨ k = 9 by omega) with rfl | rfl | rfl | rfl | rfl | rfl | rfl | rfl | rfl | rfl
  · exact m_184
  · exact m_186
  · exact m_188
  · exact m_190
  · exact m_192
  · exact m_194
  · exact m_196
  · exact m_198
  · exact m_200
  · exact m_202
theorem inXF : ∀ w ∈ u_ws RXF TXF 5, w ∈ zWords := by
  intro w hw
  obtain ⟨k, hk, rfl⟩ := List.mem_map.mp hw
  have hk := List.mem_range.mp hk
  rcases (show k = 0 ∨ k = 1 ∨ k = 2 ∨ k = 3 ∨ k = 4 by omega) with rfl | rfl | rfl | rfl | rfl
  · exact m_40
  · exact m_42
  · exact m_44
  · exact m_46
  · exact m_48
theorem inXW : ∀ w ∈ u_ws RXW TXW 1, w ∈ zWords := by
  intro w hw
  obtain ⟨k, hk, rfl⟩ := List.mem_map.mp hw
  have hk := List.mem_range.mp hk
  rcases (show k = 0 by omega) with rfl
  · exact m_60
theorem inXN : ∀ w ∈ u_ws RXN TXN 5, w ∈ zWords := by
  intro w hw
  obtain ⟨k, hk, rfl⟩ := List.mem_map.mp hw
  have hk := List.mem_range.mp hk
  rcases (show k = 0 ∨ k = 1 ∨ k = 2 ∨ k = 3 ∨ k = 4 by omega) with rfl | rfl | rfl | rfl | rfl
  · exact m_76
  · exact m_78
  · exact m_80
  · exact m_82
  · exact m_84
theorem inXO : ∀ w ∈ u_ws RXO TXO 4, w ∈ zWords := by
  intro w hw
  obtain ⟨k, hk, rfl⟩ := List.mem_map.mp hw
  have hk := List.mem_range.mp hk
  rcases (show k = 0 ∨ k = 1 ∨ k = 2 ∨ k = 3 by omega) with rfl | rfl | rfl | rfl
  · exact m_102
  · exact m_104
  · exact m_106
  · exact m_108
theorem inXR : ∀ w ∈ u_ws RXR TXR 7, w ∈ zWords := by
  intro w hw
  obtain ⟨k, hk, rfl⟩ := List.mem_map.mp hw
  have hk := List.mem_range.mp hk
  rcases (show k = 0 ∨ k = 1 ∨ k = 2 ∨ k = 3 ∨ k = 4 ∨ k = 5 ∨ k = 6 by omega) with rfl | rfl | rfl | rfl | rfl | rfl | rfl
  · exact m_131
  · exact m_133
  · exact m_135
  · exact m_137
  · exact m_139
  · exact m_141
  · exact m_143
theorem inXT : ∀ w ∈ u_ws RXT TXT 5, w ∈ zWords := by
  intro w hw
  obtain ⟨k, hk, rfl⟩ := List.mem_map.mp hw
  have hk := List.mem_range.mp hk
  rcases (show k = 0 ∨ k = 1 ∨ k = 2 ∨ k = 3 ∨ k = 4 by omega) with rfl | rfl | rfl | rfl | rfl
  · exact m_163
  · exact m_165
  · exact m_167
  · exact m_169
  · exact m_171
theorem inM : ∀ w ∈ u_ws RM TM 30, w ∈ zWords := by
  intro w hw
  obtain ⟨k, hk, rfl⟩ := List.mem_map.mp hw
  have hk := List.mem_range.mp hk
  rcases (show k = 0 ∨ k = 1 ∨ k = 2 ∨ k = 3 ∨ k = 4 ∨ k = 5 ∨ k = 6 ∨ k = 7 ∨ k = 8 ∨ k = 9 ∨ k = 10 ∨ k = 11 ∨ k = 12 ∨ k = 13 ∨ k = 14 ∨ k = 15 ∨ k = 16 ∨ k = 17 ∨ k = 18 ∨ k = 19 ∨ k = 20 ∨ k = 21 ∨ k = 22 ∨ k = 23 ∨ k = 24 ∨ k = 25 ∨ k = 26 ∨ k = 27 ∨ k = 28 ∨ k = 29 by omega) with rfl | rfl | rfl | rfl | rfl | rfl | rfl | rfl | rfl | rfl | rfl | rfl | rfl | rfl | rfl | rfl | rfl | rfl | rfl | rfl | rfl | rfl | rfl | rfl | rfl | rfl | rfl | rfl | rfl | rfl
  · exact m_627
  · exact m_629
  · exact m_631
  · exact m_633
  · exact m_635
  · exact m_637
  · exact m_639
  · exact m_641
  · exact m_643
  · exact m_645
  · exact m_647
  · exact m_649
  · exact m_651
  · exact m_653
  · exact m_655
  · exact m_657
  · exact m_659
  · exact m_661
  · exact m_663
  · exact m_665
  · exact m_667
  · exact m_669
  · exact m_671
  · exact m_673
  · exact m_675
  · exact m_677
  · exact m_679
  · exact m_681
  · exact m_683
  · exact m_685
def zN : List Cond := [(Jvm.Cond.methodLinkNest "ConditionRows" (9 : Nat) ({ cls := "ConditionRows$Fields", name := "<init>", desc := "()V" } : Jvm.MethodName) "ConditionRows"),
  (Jvm.Cond.fieldLinkNest "ConditionRows" (78 : Nat) "ConditionRows$Fields" "size" "[I" "ConditionRows"),
  (Jvm.Cond.fieldLinkNest "ConditionRows" (87 : Nat) "ConditionRows$Fields" "scale" "[I" "ConditionRows"),
  (Jvm.Cond.fieldLinkNest "ConditionRows" (81 : Nat) "ConditionRows$Fields" "bytes" "[I" "ConditionRows"),
  (Jvm.Cond.fieldLinkNest "ConditionRows" (186 : Nat) "ConditionRows$Fields" "made" "I" "ConditionRows"),
  (Jvm.Cond.fieldLinkNest "ConditionRows" (93 : Nat) "ConditionRows$Weights" "of" "[I" "ConditionRows"),
  (Jvm.Cond.methodLinkNest "ConditionRows" (25 : Nat) ({ cls := "ConditionRows$Names", name := "<init>", desc := "()V" } : Jvm.MethodName) "ConditionRows"),
  (Jvm.Cond.fieldLinkNest "ConditionRows" (114 : Nat) "ConditionRows$Names" "field" "[I" "ConditionRows"),
  (Jvm.Cond.fieldLinkNest "ConditionRows" (187 : Nat) "ConditionRows$Names" "made" "I" "ConditionRows"),
  (Jvm.Cond.methodLinkNest "ConditionRows" (32 : Nat) ({ cls := "ConditionRows$Nodes", name := "<init>", desc := "()V" } : Jvm.MethodName) "ConditionRows"),
  (Jvm.Cond.fieldLinkNest "ConditionRows" (238 : Nat) "ConditionRows$Nodes" "op" "[I" "ConditionRows"),
  (Jvm.Cond.fieldLinkNest "ConditionRows" (251 : Nat) "ConditionRows$Nodes" "a" "[I" "ConditionRows"),
  (Jvm.Cond.fieldLinkNest "ConditionRows" (254 : Nat) "ConditionRows$Nodes" "b" "[I" "ConditionRows"),
  (Jvm.Cond.fieldLinkNest "ConditionRows" (145 : Nat) "ConditionRows$Nodes" "made" "I" "ConditionRows"),
  (Jvm.Cond.methodLinkNest "ConditionRows" (39 : Nat) ({ cls := "ConditionRows$Row", name := "<init>", desc := "()V" } : Jvm.MethodName) "ConditionRows"),
  (Jvm.Cond.fieldLinkNest "ConditionRows" (202 : Nat) "ConditionRows$Row" "with" "[I" "ConditionRows"),
  (Jvm.Cond.fieldLinkNest "ConditionRows" (211 : Nat) "ConditionRows$Row" "op" "[I" "ConditionRows"),
  (Jvm.Cond.fieldLinkNest "ConditionRows" (220 : Nat) "ConditionRows$Row" "negated" "[Z" "ConditionRows"),
  (Jvm.Cond.fieldLinkNest "ConditionRows" (217 : Nat) "ConditionRows$Row" "object" "[I" "ConditionRows"),
  (Jvm.Cond.fieldLinkNest "ConditionRows" (214 : Nat) "ConditionRows$Row" "subject" "I" "ConditionRows"),
  (Jvm.Cond.fieldLinkNest "ConditionRows" (131 : Nat) "ConditionRows$Row" "carried" "I" "ConditionRows"),
  (Jvm.Cond.fieldLinkNest "ConditionRows" (127 : Nat) "ConditionRows$Row" "length" "I" "ConditionRows"),
  (Jvm.Cond.methodLinkNest "ConditionRows" (46 : Nat) ({ cls := "ConditionRows$Testing", name := "<init>", desc := "()V" } : Jvm.MethodName) "ConditionRows"),
  (Jvm.Cond.fieldLinkNest "ConditionRows" (248 : Nat) "ConditionRows$Testing" "outcome" "[I" "ConditionRows"),
  (Jvm.Cond.fieldLinkNest "ConditionRows" (170 : Nat) "ConditionRows$Testing" "leaves" "[I" "ConditionRows"),
  (Jvm.Cond.fieldLinkNest "ConditionRows" (232 : Nat) "ConditionRows$Testing" "waiting" "[I" "ConditionRows"),
  (Jvm.Cond.fieldLinkNest "ConditionRows" (167 : Nat) "ConditionRows$Testing" "noted" "I" "ConditionRows"),
  (Jvm.Cond.fieldLinkNest "ConditionRows" (229 : Nat) "ConditionRows$Testing" "depth" "I" "ConditionRows"),
  (Jvm.Cond.methodLinkNest "ConditionRows$Names" (33 : Nat) ({ cls := "ConditionRows", name := "isBelowUnsigned", desc := "(JJ)Z" } : Jvm.MethodName) "ConditionRows"),
  (Jvm.Cond.fieldLinkNest "ConditionRows$Fields" (67 : Nat) "ConditionRows" "TENS" "[J" "ConditionRows")]
theorem zn_0 : (Jvm.Cond.methodLinkNest "ConditionRows" (9 : Nat) ({ cls := "ConditionRows$Fields", name := "<init>", desc := "()V" } : Jvm.MethodName) "ConditionRows") ∈ zN := List.mem_of_getElem? (i := 0) rfl
theorem zn_1 : (Jvm.Cond.fieldLinkNest "ConditionRows" (78 : Nat) "ConditionRows$Fields" "size" "[I" "ConditionRows") ∈ zN := List.mem_of_getElem? (i := 1) rfl
theorem zn_2 : (Jvm.Cond.fieldLinkNest "ConditionRows" (87 : Nat) "ConditionRows$Fields" "scale" "[I" "ConditionRows") ∈ zN := List.mem_of_getElem? (i := 2) rfl
theorem zn_3 : (Jvm.Cond.fieldLinkNest "ConditionRows" (81 : Nat) "ConditionRows$Fields" "bytes" "[I" "ConditionRows") ∈ zN := List.mem_of_getElem? (i := 3) rfl
theorem zn_4 : (Jvm.Cond.fieldLinkNest "ConditionRows" (186 : Nat) "ConditionRows$Fields" "made" "I" "ConditionRows") ∈ zN := List.mem_of_getElem? (i := 4) rfl
theorem zn_5 : (Jvm.Cond.fieldLinkNest "ConditionRows" (93 : Nat) "ConditionRows$Weights" "of" "[I" "ConditionRows") ∈ zN := List.mem_of_getElem? (i := 5) rfl
theorem zn_6 : (Jvm.Cond.methodLinkNest "ConditionRows" (25 : Nat) ({ cls := "ConditionRows$Names", name := "<init>", desc := "()V" } : Jvm.MethodName) "ConditionRows") ∈ zN := List.mem_of_getElem? (i := 6) rfl
theorem zn_7 : (Jvm.Cond.fieldLinkNest "ConditionRows" (114 : Nat) "ConditionRows$Names" "field" "[I" "ConditionRows") ∈ zN := List.mem_of_getElem? (i := 7) rfl
theorem zn_8 : (Jvm.Cond.fieldLinkNest "ConditionRows" (187 : Nat) "ConditionRows$Names" "made" "I" "ConditionRows") ∈ zN := List.mem_of_getElem? (i := 8) rfl
theorem zn_9 : (Jvm.Cond.methodLinkNest "ConditionRows" (32 : Nat) ({ cls := "ConditionRows$Nodes", name := "<init>", desc := "()V" } : Jvm.MethodName) "ConditionRows") ∈ zN := List.mem_of_getElem? (i := 9) rfl
theorem zn_10 : (Jvm.Cond.fieldLinkNest "ConditionRows" (238 : Nat) "ConditionRows$Nodes" "op" "[I" "ConditionRows") ∈ zN := List.mem_of_getElem? (i := 10) rfl
theorem zn_11 : (Jvm.Cond.fieldLinkNest "ConditionRows" (251 : Nat) "ConditionRows$Nodes" "a" "[I" "ConditionRows") ∈ zN := List.mem_of_getElem? (i := 11) rfl
theorem zn_12 : (Jvm.Cond.fieldLinkNest "ConditionRows" (254 : Nat) "ConditionRows$Nodes" "b" "[I" "ConditionRows") ∈ zN := List.mem_of_getElem? (i := 12) rfl
theorem zn_13 : (Jvm.Cond.fieldLinkNest "ConditionRows" (145 : Nat) "ConditionRows$Nodes" "made" "I" "ConditionRows") ∈ zN := List.mem_of_getElem? (i := 13) rfl
theorem zn_14 : (Jvm.Cond.methodLinkNest "ConditionRows" (39 : Nat) ({ cls := "ConditionRows$Row", name := "<init>", desc := "()V" } : Jvm.MethodName) "ConditionRows") ∈ zN := List.mem_of_getElem? (i := 14) rfl
theorem zn_15 : (Jvm.Cond.fieldLinkNest "ConditionRows" (202 : Nat) "ConditionRows$Row" "with" "[I" "ConditionRows") ∈ zN := List.mem_of_getElem? (i := 15) rfl
theorem zn_16 : (Jvm.Cond.fieldLinkNest "ConditionRows" (211 : Nat) "ConditionRows$Row" "op" "[I" "ConditionRows") ∈ zN := List.mem_of_getElem? (i := 16) rfl
theorem zn_17 : (Jvm.Cond.fieldLinkNest "ConditionRows" (220 : Nat) "ConditionRows$Row" "negated" "[Z" "ConditionRows") ∈ zN := List.mem_of_getElem? (i := 17) rfl
theorem zn_18 : (Jvm.Cond.fieldLinkNest "ConditionRows" (217 : Nat) "ConditionRows$Row" "object" "[I" "ConditionRows") ∈ zN := List.mem_of_getElem? (i := 18) rfl
theorem zn_19 : (Jvm.Cond.fieldLinkNest "ConditionRows" (214 : Nat) "ConditionRows$Row" "subject" "I" "ConditionRows") ∈ zN := List.mem_of_getElem? (i := 19) rfl
theorem zn_20 : (Jvm.Cond.fieldLinkNest "ConditionRows" (131 : Nat) "ConditionRows$Row" "carried" "I" "ConditionRows") ∈ zN := List.mem_of_getElem? (i := 20) rfl
theorem zn_21 : (Jvm.Cond.fieldLinkNest "ConditionRows" (127 : Nat) "ConditionRows$Row" "length" "I" "ConditionRows") ∈ zN := List.mem_of_getElem? (i := 21) rfl
theorem zn_22 : (Jvm.Cond.methodLinkNest "ConditionRows" (46 : Nat) ({ cls := "ConditionRows$Testing", name := "<init>", desc := "()V" } : Jvm.MethodName) "ConditionRows") ∈ zN := List.mem_of_getElem? (i := 22) rfl
theorem zn_23 : (Jvm.Cond.fieldLinkNest "ConditionRows" (248 : Nat) "ConditionRows$Testing" "outcome" "[I" "ConditionRows") ∈ zN := List.mem_of_getElem? (i := 23) rfl
theorem zn_24 : (Jvm.Cond.fieldLinkNest "ConditionRows" (170 : Nat) "ConditionRows$Testing" "leaves" "[I" "ConditionRows") ∈ zN := List.mem_of_getElem? (i := 24) rfl
theorem zn_25 : (Jvm.Cond.fieldLinkNest "ConditionRows" (232 : Nat) "ConditionRows$Testing" "waiting" "[I" "ConditionRows") ∈ zN := List.mem_of_getElem? (i := 25) rfl
theorem zn_26 : (Jvm.Cond.fieldLinkNest "ConditionRows" (167 : Nat) "ConditionRows$Testing" "noted" "I" "ConditionRows") ∈ zN := List.mem_of_getElem? (i := 26) rfl
theorem zn_27 : (Jvm.Cond.fieldLinkNest "ConditionRows" (229 : Nat) "ConditionRows$Testing" "depth" "I" "ConditionRows") ∈ zN := List.mem_of_getElem? (i := 27) rfl
theorem zn_28 : (Jvm.Cond.methodLinkNest "ConditionRows$Names" (33 : Nat) ({ cls := "ConditionRows", name := "isBelowUnsigned", desc := "(JJ)Z" } : Jvm.MethodName) "ConditionRows") ∈ zN := List.mem_of_getElem? (i := 28) rfl
theorem zn_29 : (Jvm.Cond.fieldLinkNest "ConditionRows$Fields" (67 : Nat) "ConditionRows" "TENS" "[J" "ConditionRows") ∈ zN := List.mem_of_getElem? (i := 29) rfl
end
section
/-! our frame: a world of fixed cells, what a method is given (zPc), what it hands back (zQi ..), its calls -/
abbrev zK : Type := Nat × ClassId × ClassId × ClassId
def zty (k : zK) : List (ClassId × FieldType) := [(k.2.1, .int), (k.2.2.1, .long), (k.2.2.2, .boolean)]
def zA (n : Nat) (a : Nat → Nat) : Nat → Prop := fun q => ∃ j, j < n ∧ q = a j
def zI (n : Nat) (a : Nat → Nat) : Prop := ∀ i j, i < n → j < n → a i = a j → i = j
theorem zDg {n : Nat} {a : Nat → Nat} {ws : va_W} (hI : zI n a) (h : ws.map (fun q => q.1) = (List.range n).map a) : va_D (zA n a) ws := by
  have key : ∀ (i : Nat) (p : Nat × va_E), ws[i]? = some p → i < n ∧ p.1 = a i := by
    intro i p hp
    have h1 : (ws.map (fun q => q.1))[i]? = some p.1 := by rw [List.getElem?_map, hp]; rfl
    rw [h, List.getElem?_map] at h1
    by_cases hi : i < n
    · rw [List.getElem?_range hi] at h1
      exact ⟨hi, (Option.some.inj h1).symm⟩
    · rw [List.getElem?_eq_none (by simp; omega)] at h1
      cases h1
  refine ⟨fun i j p q hp hq e => ?_, fun i p hp => ?_⟩
  · obtain ⟨h1, h2⟩ := key i p hp
    obtain ⟨h3, h4⟩ := key j q hq
    exact hI i j h1 h3 (by rw [← h2, ← h4]; exact e)
  · obtain ⟨h1, h2⟩ := key i p hp
    exact ⟨i, h1, h2⟩
def zNk : Cond → Bool
  | .fieldLinkNest .. => true
  | .methodLinkNest .. => true
  | _ => false
theorem zNk_at {w : Cond} (h : zNk w = true) {s U : State} (hW : s.WarmedH U.vm) (hz : va_Nw w s) : va_Nw w U := by
  cases w <;> first | exact va_Nw.warmF hW hz | exact va_Nw.warmM hW hz | (exact absurd h (by simp [zNk]))
theorem zN_k : ∀ w ∈ zN, zNk w = true := by decide +kernel
def tensL : List Int64 := [1, 10, 100, 1000, 10000, 100000, 1000000, 10000000, 100000000, 1000000000]
def tens (j : Nat) : Int64 := tensL.getD j 0
/-- the surroundings: the tables, the nest's links, the class's one static table -/
def zE (D : va_G) (k : zK) (A : Nat → Prop) (U : State) : Prop := va_K D vwCl (zty k) U ∧ (∀ w ∈ zN, va_Nw w U) ∧ va_Z "ConditionRows" "TENS" "[J" (.ref k.1) A U U.heap ∧ va_T .long k.1 10 (fun j => .long (tens j)) A U U.heap
theorem zE.to {D : va_G} {k : zK} {A : Nat → Prop} {s U : State} {H : Heap} (h : zE D k A s) (hq : ∀ q : Nat, q < s.heap.size → ¬ A q → H[q]? = s.heap[q]?) (hW : s.WarmedH U.vm) (hU : U.heap = H) : zE D k A U := by
  obtain ⟨h1, h2, h3, h4⟩ := h
  refine ⟨va_K.moved hW.alike h1, fun w hw => zNk_at (zN_k w hw) hW (h2 w hw), ?_, ?_⟩
  · rw [hU]; exact va_Z.moved hW.alike (h3.kept hq)
  · rw [hU]; exact va_T.moved hW.alike (h4.kept hq)
theorem zE.blind {D : va_G} {k : zK} {A : Nat → Prop} {U : State} (h : zE D k A U) (g : JFrame) (mk : MethodId) (a : Array Value) : zE D k A (U.calling g mk a) :=
  h.to (fun _ _ _ => rfl) (State.WarmedH.refl U) rfl
def zPc (D : va_G) (k : zK) (A : Nat → Prop) (w : va_W) (av : List Value) : Array Value → State → Prop := va_Pc av (fun U => va_P D vwCl w U.heap ∧ zE D k A U)
theorem zpreS {D : va_G} {k : zK} {A : Nat → Prop} {w : va_W} {s : State} {H : Heap} {As : List Value} (hP : va_P D vwCl w H) (hE : zE D k A s) (hq : ∀ q : Nat, q < s.heap.size → ¬ A q → H[q]? = s.heap[q]?) : PreS s H (zPc D k A w As) As :=
  ⟨fun a U g mk q => ⟨q.1, q.2.1, q.2.2.blind g mk a⟩, fun U hU hW => ⟨rfl, by rw [hU]; exact hP, hE.to hq hW hU⟩⟩
theorem zpre {D : va_G} {k : zK} {A : Nat → Prop} {w : va_W} {s : State} {H : Heap} {As : List Value} {C : String} {b : Addr} (hP : va_P D vwCl w H) (hE : zE D k A s) (hq : ∀ q : Nat, q < s.heap.size → ¬ A q → H[q]? = s.heap[q]?) (hr : ∃ cellB : Cell, H[b]? = some cellB ∧ cellB.vm.isStatics = false ∧ s.vm.findClass C = some cellB.cls) : PreV s H C b (zPc D k A w (.ref b :: As)) As :=
  ⟨fun a U g mk q => ⟨q.1, q.2.1, q.2.2.blind g mk a⟩, hr, fun U hU hW => ⟨rfl, by rw [hU]; exact hP, hE.to hq hW hU⟩⟩
def zQi {S : Type} (D : va_G) (w : S → va_W) (A : Nat → Prop) (rs : Int32 × S) : Array Value → State → Outcome → State → Prop := fun _ st oc t => oc = .returned (some (.int rs.1)) ∧ va_P D vwCl (w rs.2) t.heap ∧ va_F A st t
def zQl {S : Type} (D : va_G) (w : S → va_W) (A : Nat → Prop) (rs : Int64 × S) : Array Value → State → Outcome → State → Prop := fun _ st oc t => oc = .returned (some (.long rs.1)) ∧ va_P D vwCl (w rs.2) t.heap ∧ va_F A st t
def zQv {S : Type} (D : va_G) (w : S → va_W) (A : Nat → Prop) (u : S) : Array Value → State → Outcome → State → Prop := fun _ st oc t => oc = .returned none ∧ va_P D vwCl (w u) t.heap ∧ va_F A st t
def zC (p : Program) (s : State) (m : MethodId) (args : Array Value) (meth : Method) (c : Code) (cc : ByteArray) (ret : Option FieldType) (nL : Nat) (own : String) (ws : List Cond) (D : va_G) (k : zK) (A : Nat → Prop) : Prop :=
  p.tables.exec = Jvm.exec ∧ c.code = cc ∧ meth.sig.returnType = ret ∧ c.maxLocals = nL ∧ s.vm.findClass own = some m.cls ∧ (∀ w ∈ ws, w.before args s = true) ∧ meth.locks = false ∧ zE D k A s
theorem zt {α : Sort _} {c : Prop} [Decidable c] {a b t : α} (h : c) (e : (if c then a else b) = t) : a = t := (if_pos h).symm.trans e
theorem zn {α : Sort _} {c : Prop} [Decidable c] {a b t : α} (h : ¬ c) (e : (if c then a else b) = t) : b = t := (if_neg h).symm.trans e
theorem zgt {c : Prop} [Decidable c] {A B : Prop} (h : c) (e : if c then A else B) : A := by rw [if_pos h] at e; exact e
theorem zgn {c : Prop} [Decidable c] {A B : Prop} (h : ¬ c) (e : if c then A else B) : B := by rw [if_neg h] at e; exact e
theorem zb {x : Int32} (h : x = 0 ∨ x = 1) : narrow .boolean (.int x) = .int x := by rcases h with h | h <;> (subst h; rfl)
def zlet {α : Type} {β : Sort _} (x : α) (f : α → β) : β := f x
theorem zlets {S β : Type} {E : S} {w : S → va_W} {D : va_G} {H : Heap} {f : S → β} {t : β} {g : S → Prop} (hP : va_P D vwCl (w E) H) (hf : zlet E f = t) (hg : zlet E g) : ∃ z, va_P D vwCl (w z) H ∧ f z = t ∧ g z := ⟨E, hP, hf, hg⟩
section ZM
variable {p : Program} {l : Launch} {e : Env} {R : Room} {s : State} {m : MethodId} {args : Array Value} {below : List Frame} {meth : Method} {c : Code} {H : Heap} {locs : List Loc} {cells slots : Nat} {Q : State → Prop}
variable {pc : Nat} {ls : Array Slot} {rest st0 : List Value} {a : Array Value} {A A0 : Nat → Prop} {H0 : Heap} {D : va_G} {S : Type} {w : S → va_W}
theorem zS_call {L : List Loc} {st₀ t T' : State} (hS : va_S A0 H0 H locs) (hA : ∀ q, A q → A0 q) (h0 : st₀.heap = H) (e1 : T'.heap = t.heap) (hL : ∀ q ∈ L, A q.base) (hF : va_F A st₀ t) : va_S A0 H0 T'.heap (locs ++ L) ∧ H.size ≤ T'.heap.size ∧ ∀ q : Nat, q < H.size → ¬ A q → T'.heap[q]? = H[q]? := by
  obtain ⟨f1, f2⟩ := hF
  rw [h0] at f1 f2
  rw [e1]
  refine ⟨⟨Nat.le_trans hS.1 f1, fun q h1 h2 => ?_, fun q hq => ?_⟩, f1, f2⟩
  · rw [f2 q (Nat.lt_of_lt_of_le h1 hS.1) (fun z => h2 (hA q z))]
    exact hS.2.1 q h1 h2
  · rcases List.mem_append.mp hq with h | h
    · exact hS.2.2 q h
    · exact hA _ (hL q h)
theorem zmuI {rs : Int32 × S} (hr : CallRun p l e R s m args below meth c H locs cells slots 0 0 (F0 m pc ls st0) rest (zQi D w A rs a) A) (hS : va_S A0 H0 H locs) (hA : ∀ q, A q → A0 q)
    (kk : ∀ (H1 : Heap) (locs1 : List Loc), va_P D vwCl (w rs.2) H1 → va_S A0 H0 H1 locs1 → H.size ≤ H1.size → (∀ q : Nat, q < H.size → ¬ A q → H1[q]? = H[q]?) → W p l e R s m args below meth c H1 locs1 cells slots Q (F0 m (pc + 3) ls (.int rs.1 :: rest))) : W p l e R s m args below meth c H locs cells slots Q (F0 m pc ls st0) := by
  intro T hT X
  obtain ⟨v, st₀, t, T', L, h0, X', hL, e1, ⟨hv, hp, hF⟩, st⟩ := hr T hT X
  cases hv
  obtain ⟨g1, g2, g3⟩ := zS_call (T' := T') hS hA h0 e1 hL hF
  obtain ⟨t2, a1, b1⟩ := kk T'.heap (locs ++ L) (by rw [e1]; exact hp) g1 g2 g3 T' rfl X'
  exact ⟨t2, st t2 a1, b1⟩
theorem zmuL {rs : Int64 × S} (hr : CallRun p l e R s m args below meth c H locs cells slots 0 0 (F0 m pc ls st0) rest (zQl D w A rs a) A) (hS : va_S A0 H0 H locs) (hA : ∀ q, A q → A0 q)
    (kk : ∀ (H1 : Heap) (locs1 : List Loc), va_P D vwCl (w rs.2) H1 → va_S A0 H0 H1 locs1 → H.size ≤ H1.size → (∀ q : Nat, q < H.size → ¬ A q → H1[q]? = H[q]?) → W p l e R s m args below meth c H1 locs1 cells slots Q (F0 m (pc + 3) ls (.long rs.1 :: rest))) : W p l e R s m args below meth c H locs cells slots Q (F0 m pc ls st0) := by
  intro T hT X
  obtain ⟨v, st₀, t, T', L, h0, X', hL, e1, ⟨hv, hp, hF⟩, st⟩ := hr T hT X
  cases hv
  obtain ⟨g1, g2, g3⟩ := zS_call (T' := T') hS hA h0 e1 hL hF
  obtain ⟨t2, a1, b1⟩ := kk T'.heap (locs ++ L) (by rw [e1]; exact hp) g1 g2 g3 T' rfl X'
  exact ⟨t2, st t2 a1, b1⟩
theorem zmuV {u : S} (hr : CallRun p l e R s m args below meth c H locs cells slots 0 0 (F0 m pc ls st0) rest (zQv D w A u a) A) (hS : va_S A0 H0 H locs) (hA : ∀ q, A q → A0 q)
    (kk : ∀ (H1 : Heap) (locs1 : List Loc), va_P D vwCl (w u) H1 → va_S A0 H0 H1 locs1 → H.size ≤ H1.size → (∀ q : Nat, q < H.size → ¬ A q → H1[q]? = H[q]?) → W p l e R s m args below meth c H1 locs1 cells slots Q (F0 m (pc + 3) ls rest)) : W p l e R s m args below meth c H locs cells slots Q (F0 m pc ls st0) := by
  intro T hT X
  obtain ⟨v, st₀, t, T', L, h0, X', hL, e1, ⟨hv, hp, hF⟩, st⟩ := hr T hT X
  cases hv
  obtain ⟨g1, g2, g3⟩ := zS_call (T' := T') hS hA h0 e1 hL hF
  obtain ⟨t2, a1, b1⟩ := kk T'.heap (locs ++ L) (by rw [e1]; exact hp) g1 g2 g3 T' rfl X'
  exact ⟨t2, st t2 a1, b1⟩
theorem zmui {rs : Int32 × S} {β : Type} {ff : Int32 × S → β} {tt : β} {gg : Int32 × S → Prop} (hr : CallRun p l e R s m args below meth c H locs cells slots 0 0 (F0 m pc ls st0) rest (zQi D w A rs a) A) (hS : va_S A H0 H locs) (hf : zlet rs ff = tt) (hg : zlet rs gg)
    (kk : ∀ (r : Int32 × S) (H1 : Heap) (locs1 : List Loc), ff r = tt → gg r → va_P D vwCl (w r.2) H1 → va_S A H0 H1 locs1 → W p l e R s m args below meth c H1 locs1 cells slots Q (F0 m (pc + 3) ls (.int r.1 :: rest))) : W p l e R s m args below meth c H locs cells slots Q (F0 m pc ls st0) :=
  zmuI hr hS (fun _ h => h) (fun H1 locs1 h1 h2 _ _ => kk rs H1 locs1 hf hg h1 h2)
theorem zmul {rs : Int64 × S} {β : Type} {ff : Int64 × S → β} {tt : β} {gg : Int64 × S → Prop} (hr : CallRun p l e R s m args below meth c H locs cells slots 0 0 (F0 m pc ls st0) rest (zQl D w A rs a) A) (hS : va_S A H0 H locs) (hf : zlet rs ff = tt) (hg : zlet rs gg)
    (kk : ∀ (r : Int64 × S) (H1 : Heap) (locs1 : List Loc), ff r = tt → gg r → va_P D vwCl (w r.2) H1 → va_S A H0 H1 locs1 → W p l e R s m args below meth c H1 locs1 cells slots Q (F0 m (pc + 3) ls (.long r.1 :: rest))) : W p l e R s m args below meth c H locs cells slots Q (F0 m pc ls st0) :=
  zmuL hr hS (fun _ h => h) (fun H1 locs1 h1 h2 _ _ => kk rs H1 locs1 hf hg h1 h2)
theorem zmuv {u : S} {β : Type} {ff : S → β} {tt : β} {gg : S → Prop} (hr : CallRun p l e R s m args below meth c H locs cells slots 0 0 (F0 m pc ls st0) rest (zQv D w A u a) A) (hS : va_S A H0 H locs) (hf : zlet u ff = tt) (hg : zlet u gg)
    (kk : ∀ (r : S) (H1 : Heap) (locs1 : List Loc), ff r = tt → gg r → va_P D vwCl (w r) H1 → va_S A H0 H1 locs1 → W p l e R s m args below meth c H1 locs1 cells slots Q (F0 m (pc + 3) ls rest)) : W p l e R s m args below meth c H locs cells slots Q (F0 m pc ls st0) :=
  zmuV hr hS (fun _ h => h) (fun H1 locs1 h1 h2 _ _ => kk u H1 locs1 hf hg h1 h2)
theorem zRun {mc ms : Nat} {g : JFrame} {Qa : State → Outcome → State → Prop} {free : Addr → Prop} (h : va_Run p l e R s m args below meth c H locs cells slots mc ms g rest Qa free) : CallRun p l e R s m args below meth c H locs cells slots mc ms g rest Qa free := by
  intro T hT X
  obtain ⟨v, st₀, t, T', L, h0, X', hL, e1, -, hq, st⟩ := h T hT X
  exact ⟨v, st₀, t, T', L, h0, X', hL, e1, hq, st⟩
end ZM
end
section
abbrev XS : Type := Int32 × Int32 × (Nat → Int32) × (Nat → Int32) × (Nat → Int32) × (Nat → Int32) × (Nat → Int32) × Int32 × (Nat → Int32) × (Nat → Int32) × (Nat → Int64) × (Nat → Int64) × Int32 × (Nat → Int32) × (Nat → Int32) × (Nat → Int32) × Int32 × Int32 × Int32 × (Nat → Int32) × (Nat → Int32) × (Nat → Int32) × (Nat → Int32) × Int32 × Int32 × (Nat → Int32) × (Nat → Int32) × (Nat → Int32) × (Nat → Int32) × (Nat → Int32) × (Nat → Int32)
def Xg_whole (u : XS) : Int32 := u.1
def Xg_fields_made (u : XS) : Int32 := u.2.1
def Xg_fields_category (u : XS) : Nat → Int32 := u.2.2.1
def Xg_fields_size (u : XS) : Nat → Int32 := u.2.2.2.1
def Xg_fields_scale (u : XS) : Nat → Int32 := u.2.2.2.2.1
def Xg_fields_bytes (u : XS) : Nat → Int32 := u.2.2.2.2.2.1
def Xg_weights_of (u : XS) : Nat → Int32 := u.2.2.2.2.2.2.1
def Xg_names_made (u : XS) : Int32 := u.2.2.2.2.2.2.2.1
def Xg_names_field (u : XS) : Nat → Int32 := u.2.2.2.2.2.2.2.2.1
def Xg_names_ranges (u : XS) : Nat → Int32 := u.2.2.2.2.2.2.2.2.2.1
def Xg_names_low (u : XS) : Nat → Int64 := u.2.2.2.2.2.2.2.2.2.2.1
def Xg_names_high (u : XS) : Nat → Int64 := u.2.2.2.2.2.2.2.2.2.2.2.1
def Xg_nodes_made (u : XS) : Int32 := u.2.2.2.2.2.2.2.2.2.2.2.2.1
def Xg_nodes_op (u : XS) : Nat → Int32 := u.2.2.2.2.2.2.2.2.2.2.2.2.2.1
def Xg_nodes_a (u : XS) : Nat → Int32 := u.2.2.2.2.2.2.2.2.2.2.2.2.2.2.1
def Xg_nodes_b (u : XS) : Nat → Int32 := u.2.2.2.2.2.2.2.2.2.2.2.2.2.2.2.1
def Xg_row_subject (u : XS) : Int32 := u.2.2.2.2.2.2.2.2.2.2.2.2.2.2.2.2.1
def Xg_row_carried (u : XS) : Int32 := u.2.2.2.2.2.2.2.2.2.2.2.2.2.2.2.2.2.1
def Xg_row_length (u : XS) : Int32 := u.2.2.2.2.2.2.2.2.2.2.2.2.2.2.2.2.2.2.1
def Xg_row_with (u : XS) : Nat → Int32 := u.2.2.2.2.2.2.2.2.2.2.2.2.2.2.2.2.2.2.2.1
def Xg_row_op (u : XS) : Nat → Int32 := u.2.2.2.2.2.2.2.2.2.2.2.2.2.2.2.2.2.2.2.2.1
def Xg_row_negated (u : XS) : Nat → Int32 := u.2.2.2.2.2.2.2.2.2.2.2.2.2.2.2.2.2.2.2.2.2.1
def Xg_row_object (u : XS) : Nat → Int32 := u.2.2.2.2.2.2.2.2.2.2.2.2.2.2.2.2.2.2.2.2.2.2.1
def Xg_testing_noted (u : XS) : Int32 := u.2.2.2.2.2.2.2.2.2.2.2.2.2.2.2.2.2.2.2.2.2.2.2.1
def Xg_testing_depth (u : XS) : Int32 := u.2.2.2.2.2.2.2.2.2.2.2.2.2.2.2.2.2.2.2.2.2.2.2.2.1
def Xg_testing_outcome (u : XS) : Nat → Int32 := u.2.2.2.2.2.2.2.2.2.2.2.2.2.2.2.2.2.2.2.2.2.2.2.2.2.1
def Xg_testing_leaves (u : XS) : Nat → Int32 := u.2.2.2.2.2.2.2.2.2.2.2.2.2.2.2.2.2.2.2.2.2.2.2.2.2.2.1
def Xg_testing_waiting (u : XS) : Nat → Int32 := u.2.2.2.2.2.2.2.2.2.2.2.2.2.2.2.2.2.2.2.2.2.2.2.2.2.2.2.1
def Xg_switches (u : XS) : Nat → Int32 := u.2.2.2.2.2.2.2.2.2.2.2.2.2.2.2.2.2.2.2.2.2.2.2.2.2.2.2.2.1
def Xg_leftText (u : XS) : Nat → Int32 := u.2.2.2.2.2.2.2.2.2.2.2.2.2.2.2.2.2.2.2.2.2.2.2.2.2.2.2.2.2.1
def Xg_rightText (u : XS) : Nat → Int32 := u.2.2.2.2.2.2.2.2.2.2.2.2.2.2.2.2.2.2.2.2.2.2.2.2.2.2.2.2.2.2
def Xs_whole (u : XS) (v : Int32) : XS := (v, u.2.1, u.2.2.1, u.2.2.2.1, u.2.2.2.2.1, u.2.2.2.2.2.1, u.2.2.2.2.2.2.1, u.2.2.2.2.2.2.2.1, u.2.2.2.2.2.2.2.2.1, u.2.2.2.2.2.2.2.2.2.1, u.2.2.2.2.2.2.2.2.2.2.1, u.2.2.2.2.2.2.2.2.2.2.2.1, u.2.2.2.2.2.2.2.2.2.2.2.2.1, u.2.2.2.2.2.2.2.2.2.2.2.2.2.1, u.2.2.2.2.2.2.2.2.2.2.2.2.2.2.1, u.2.2.2.2.2.2.2.2.2.2.2.2.2.2.2.1, u.2.2.2.2.2.2.2.2.2.2.2.2.2.2.2.2.1, u.2.2.2.2.2.2.2.2.2.2.2.2.2.2.2.2.2.1, u.2.2.2.2.2.2.2.2.2.2.2.2.2.2.2.2.2.2.1, u.2.2.2.2.2.2.2.2.2.2.2.2.2.2.2.2.2.2.2.1, u.2.2.2.2.2.2.2.2.2.2.2.2.2.2.2.2.2.2.2.2.1, u.2.2.2.2.2.2.2.2.2.2.2.2.2.2.2.2.2.2.2.2.2.1, u.2.2.2.2.2.2.2.2.2.2.2.2.2.2.2.2.2.2.2.2.2.2.1, u.2.2.2.2.2.2.2.2.2.2.2.2.2.2.2.2.2.2.2.2.2.2.2.1, u.2.2.2.2.2.2.2.2.2.2.2.2.2.2.2.2.2.2.2.2.2.2.2.2.1, u.2.2.2.2.2.2.2.2.2.2.2.2.2.2.2.2.2.2.2.2.2.2.2.2.2.1, u.2.2.2.2.2.2.2.2.2.2.2.2.2.2.2.2.2.2.2.2.2.2.2.2.2.2.1, u.2.2.2.2.2.2.2.2.2.2.2.2.2.2.2.2.2.2.2.2.2.2.2.2.2.2.2.1, u.2.2.2.2.2.2.2.2.2.2.2.2.2.2.2.2.2.2.2.2.2.2.2.2.2.2.2.2.1, u.2.2.2.2.2.2.2.2.2.2.2.2.2.2.2.2.2.2.2.2.2.2.2.2.2.2.2.2.2.1, u.2.2.2.2.2.2.2.2.2.2.2.2.2.2.2.2.2.2.2.2.2.2.2.2.2.2.2.2.2.2)
def Xs_fields_made (u : XS) (v : Int32) : XS := (u.1, v, u.2.2.1, u.2.2.2.1, u.2.2.2.2.1, u.2.2.2.2.2.1, u.2.2.2.2.2.2.1, u.2.2.2.2.2.2.2.1, u.2.2.2.2.2.2.2.2.1, u.2.2.2.2.2.2.2.2.2.1, u.2.2.2.2.2.2.2.2.2.2.1, u.2.2.2.2.2.2.2.2.2.2.2.1, u.2.2.2.2.2.2.2.2.2.2.2.2.1, u.2.2.2.2.2.2.2.2.2.2.2.2.2.1, u.2.2.2.2.2.2.2.2.2.2.2.2.2.2.1, u.2.2.2.2.2.2.2.2.2.2.2.2.2.2.2.1, u.2.2.2.2.2.2.2.2.2.2.2.2.2.2.2.2.1, u.2.2.2.2.2.2.2.2.2.2.2.2.2.2.2.2.2.1, u.2.2.2.2.2.2.2.2.2.2.2.2.2.2.2.2.2.2.1, u.2.2.2.2.2.2.2.2.2.2.2.2.2.2.2.2.2.2.2.1, u.2.2.2.2.2.2.2.2.2.2.2.2.2.2.2.2.2.2.2.2.1, u.2.2.2.2.2.2.2.2.2.2.2.2.2.2.2.2.2.2.2.2.2.1, u.2.2.2.2.2.2.2.2.2.2.2.2.2.2.2.2.2.2.2.2.2.2.1, u.2.2.2.2.2.2.2.2.2.2.2.2.2.2.2.2.2.2.2.2.2.2.2.1, u.2.2.2.2.2.2.2.2.2.2.2.2.2.2.2.2.2.2.2.2.2.2.2.2.1, u.2.2.2.2.2.2.2.2.2.2.2.2.2.2.2.2.2.2.2.2.2.2.2.2.2.1, u.2.2.2.2.2.2.2.2.2.2.2.2.2.2.2.2.2.2.2.2.2.2.2.2.2.2.1, u.2.2.2.2.2.2.2.2.2.2.2.2.2.2.2.2.2.2.2.2.2.2.2.2.2.2.2.1, u.2.2.2.2.2.2.2.2.2.2.2.2.2.2.2.2.2.2.2.2.2.2.2.2.2.2.2.2.1, u.2.2.2.2.2.2.2.2.2.2.2.2.2.2.2.2.2.2.2.2.2.2.2.2.2.2.2.2.2.1, u.2.2.2.2.2.2.2.2.2.2.2.2.2.2.2.2.2.2.2.2.2.2.2.2.2.2.2.2.2.2)
def Xs_fields_category (u : XS) (v : Nat → Int32) : XS := (u.1, u.2.1, v, u.2.2.2.1, u.2.2.2.2.1, u.2.2.2.2.2.1, u.2.2.2.2.2.2.1, u.2.2.2.2.2.2.2.1, u.2.2.2.2.2.2.2.2.1, u.2.2.2.2.2.2.2.2.2.1, u.2.2.2.2.2.2.2.2.2.2.1, u.2.2.2.2.2.2.2.2.2.2.2.1, u.2.2.2.2.2.2.2.2.2.2.2.2.1, u.2.2.2.2.2.2.2.2.2.2.2.2.2.1, u.2.2.2.2.2.2.2.2.2.2.2.2.2.2.1, u.2.2.2.2.2.2.2.2.2.2.2.2.2.2.2.1, u.2.2.2.2.2.2.2.2.2.2.2.2.2.2.2.2.1, u.2.2.2.2.2.2.2.2.2.2.2.2.2.2.2.2.2.1, u.2.2.2.2.2.2.2.2.2.2.2.2.2.2.2.2.2.2.1, u.2.2.2.2.2.2.2.2.2.2.2.2.2.2.2.2.2.2.2.1, u.2.2.2.2.2.2.2.2.2.2.2.2.2.2.2.2.2.2.2.2.1, u.2.2.2.2.2.2.2.2.2.2.2.2.2.2.2.2.2.2.2.2.2.1, u.2.2.2.2.2.2.2.2.2.2.2.2.2.2.2.2.2.2.2.2.2.2.1, u.2.2.2.2.2.2.2.2.2.2.2.2.2.2.2.2.2.2.2.2.2.2.2.1, u.2.2.2.2.2.2.2.2.2.2.2.2.2.2.2.2.2.2.2.2.2.2.2.2.1, u.2.2.2.2.2.2.2.2.2.2.2.2.2.2.2.2.2.2.2.2.2.2.2.2.2.1, u.2.2.2.2.2.2.2.2.2.2.2.2.2.2.2.2.2.2.2.2.2.2.2.2.2.2.1, u.2.2.2.2.2.2.2.2.2.2.2.2.2.2.2.2.2.2.2.2.2.2.2.2.2.2.2.1, u.2.2.2.2.2.2.2.2.2.2.2.2.2.2.2.2.2.2.2.2.2.2.2.2.2.2.2.2.1, u.2.2.2.2.2.2.2.2.2.2.2.2.2.2.2.2.2.2.2.2.2.2.2.2.2.2.2.2.2.1, u.2.2.2.2.2.2.2.2.2.2.2.2.2.2.2.2.2.2.2.2.2.2.2.2.2.2.2.2.2.2)
def Xs_fields_size (u : XS) (v : Nat → Int32) : XS := (u.1, u.2.1, u.2.2.1, v, u.2.2.2.2.1, u.2.2.2.2.2.1, u.2.2.2.2.2.2.1, u.2.2.2.2.2.2.2.1, u.2.2.2.2.2.2.2.2.1, u.2.2.2.2.2.2.2.2.2.1, u.2.2.2.2.2.2.2.2.2.2.1, u.2.2.2.2.2.2.2.2.2.2.2.1, u.2.2.2.2.2.2.2.2.2.2.2.2.1, u.2.2.2.2.2.2.2.2.2.2.2.2.2.1, u.2.2.2.2.2.2.2.2.2.2.2.2.2.2.1, u.2.2.2.2.2.2.2.2.2.2.2.2.2.2.2.1, u.2.2.2.2.2.2.2.2.2.2.2.2.2.2.2.2.1, u.2.2.2.2.2.2.2.2.2.2.2.2.2.2.2.2.2.1, u.2.2.2.2.2.2.2.2.2.2.2.2.2.2.2.2.2.2.1, u.2.2.2.2.2.2.2.2.2.2.2.2.2.2.2.2.2.2.2.1, u.2.2.2.2.2.2.2.2.2.2.2.2.2.2.2.2.2.2.2.2.1, u.2.2.2.2.2.2.2.2.2.2.2.2.2.2.2.2.2.2.2.2.2.1, u.2.2.2.2.2.2.2.2.2.2.2.2.2.2.2.2.2.2.2.2.2.2.1, u.2.2.2.2.2.2.2.2.2.2.2.2.2.2.2.2.2.2.2.2.2.2.2.1, u.2.2.2.2.2.2.2.2.2.2.2.2.2.2.2.2.2.2.2.2.2.2.2.2.1, u.2.2.2.2.2.2.2.2.2.2.2.2.2.2.2.2.2.2.2.2.2.2.2.2.2.1, u.2.2.2.2.2.2.2.2.2.2.2.2.2.2.2.2.2.2.2.2.2.2.2.2.2.2.1, u.2.2.2.2.2.2.2.2.2.2.2.2.2.2.2.2.2.2.2.2.2.2.2.2.2.2.2.1, u.2.2.2.2.2.2.2.2.2.2.2.2.2.2.2.2.2.2.2.2.2.2.2.2.2.2.2.2.1, u.2.2.2.2.2.2.2.2.2.2.2.2.2.2.2.2.2.2.2.2.2.2.2.2.2.2.2.2.2.1, u.2.2.2.2.2.2.2.2.2.2.2.2.2.2.2.2.2.2.2.2.2.2.2.2.2.2.2.2.2.2)
def Xs_fields_scale (u : XS) (v : Nat → Int32) : XS := (u.1, u.2.1, u.2.2.1, u.2.2.2.1, v, u.2.2.2.2.2.1, u.2.2.2.2.2.2.1, u.2.2.2.2.2.2.2.1, u.2.2.2.2.2.2.2.2.1, u.2.2.2.2.2.2.2.2.2.1, u.2.2.2.2.2.2.2.2.2.2.1, u.2.2.2.2.2.2.2.2.2.2.2.1, u.2.2.2.2.2.2.2.2.2.2.2.2.1, u.2.2.2.2.2.2.2.2.2.2.2.2.2.1, u.2.2.2.2.2.2.2.2.2.2.2.2.2.2.1, u.2.2.2.2.2.2.2.2.2.2.2.2.2.2.2.1, u.2.2.2.2.2.2.2.2.2.2.2.2.2.2.2.2.1, u.2.2.2.2.2.2.2.2.2.2.2.2.2.2.2.2.2.1, u.2.2.2.2.2.2.2.2.2.2.2.2.2.2.2.2.2.2.1, u.2.2.2.2.2.2.2.2.2.2.2.2.2.2.2.2.2.2.2.1, u.2.2.2.2.2.2.2.2.2.2.2.2.2.2.2.2.2.2.2.2.1, u.2.2.2.2.2.2.2.2.2.2.2.2.2.2.2.2.2.2.2.2.2.1, u.2.2.2.2.2.2.2.2.2.2.2.2.2.2.2.2.2.2.2.2.2.2.1, u.2.2.2.2.2.2.2.2.2.2.2.2.2.2.2.2.2.2.2.2.2.2.2.1, u.2.2.2.2.2.2.2.2.2.2.2.2.2.2.2.2.2.2.2.2.2.2.2.2.1, u.2.2.2.2.2.2.2.2.2.2.2.2.2.2.2.2.2.2.2.2.2.2.2.2.2.1, u.2.2.2.2.2.2.2.2.2.2.2.2.2.2.2.2.2.2.2.2.2.2.2.2.2.2.1, u.2.2.2.2.2.2.2.2.2.2.2.2.2.2.2.2.2.2.2.2.2.2.2.2.2.2.2.1, u.2.2.2.2.2.2.2.2.2.2.2.2.2.2.2.2.2.2.2.2.2.2.2.2.2.2.2.2.1, u.2.2.2.2.2.2.2.2.2.2.2.2.2.2.2.2.2.2.2.2.2.2.2.2.2.2.2.2.2.1, u.2.2.2.2.2.2.2.2.2.2.2.2.2.2.2.2.2.2.2.2.2.2.2.2.2.2.2.2.2.2)
def Xs_fields_bytes (u : XS) (v : Nat → Int32) : XS := (u.1, u.2.1, u.2.2.1, u.2.2.2.1, u.2.2.2.2.1, v, u.2.2.2.2.2.2.1, u.2.2.2.2.2.2.2.1, u.2.2.2.2.2.2.2.2.1, u.2.2.2.2.2.2.2.2.2.1, u.2.2.2.2.2.2.2.2.2.2.1, u.2.2.2.2.2.2.2.2.2.2.2.1, u.2.2.2.2.2.2.2.2.2.2.2.2.1, u.2.2.2.2.2.2.2.2.2.2.2.2.2.1, u.2.2.2.2.2.2.2.2.2.2.2.2.2.2.1, u.2.2.2.2.2.2.2.2.2.2.2.2.2.2.2.1, u.2.2.2.2.2.2.2.2.2.2.2.2.2.2.2.2.1, u.2.2.2.2.2.2.2.2.2.2.2.2.2.2.2.2.2.1, u.2.2.2.2.2.2.2.2.2.2.2.2.2.2.2.2.2.2.1, u.2.2.2.2.2.2.2.2.2.2.2.2.2.2.2.2.2.2.2.1, u.2.2.2.2.2.2.2.2.2.2.2.2.2.2.2.2.2.2.2.2.1, u.2.2.2.2.2.2.2.2.2.2.2.2.2.2.2.2.2.2.2.2.2.1, u.2.2.2.2.2.2.2.2.2.2.2.2.2.2.2.2.2.2.2.2.2.2.1, u.2.2.2.2.2.2.2.2.2.2.2.2.2.2.2.2.2.2.2.2.2.2.2.1, u.2.2.2.2.2.2.2.2.2.2.2.2.2.2.2.2.2.2.2.2.2.2.2.2.1, u.2.2.2.2.2.2.2.2.2.2.2.2.2.2.2.2.2.2.2.2.2.2.2.2.2.1, u.2.2.2.2.2.2.2.2.2.2.2.2.2.2.2.2.2.2.2.2.2.2.2.2.2.2.1, u.2.2.2.2.2.2.2.2.2.2.2.2.2.2.2.2.2.2.2.2.2.2.2.2.2.2.2.1, u.2.2.2.2.2.2.2.2.2.2.2.2.2.2.2.2.2.2.2.2.2.2.2.2.2.2.2.2.1, u.2.2.2.2.2.2.2.2.2.2.2.2.2.2.2.2.2.2.2.2.2.2.2.2.2.2.2.2.2.1, u.2.2.2.2.2.2.2.2.2.2.2.2.2.2.2.2.2.2.2.2.2.2.2.2.2.2.2.2.2.2)
def Xs_weights_of (u : XS) (v : Nat → Int32) : XS := (u.1, u.2.1, u.2.2.1, u.2.2.2.1, u.2.2.2.2.1, u.2.2.2.2.2.1, v, u.2.2.2.2.2.2.2.1, u.2.2.2.2.2.2.2.2.1, u.2.2.2.2.2.2.2.2.2.1, u.2.2.2.2.2.2.2.2.2.2.1, u.2.2.2.2.2.2.2.2.2.2.2.1, u.2.2.2.2.2.2.2.2.2.2.2.2.1, u.2.2.2.2.2.2.2.2.2.2.2.2.2.1, u.2.2.2.2.2.2.2.2.2.2.2.2.2.2.1, u.2.2.2.2.2.2.2.2.2.2.2.2.2.2.2.1, u.2.2.2.2.2.2.2.2.2.2.2.2.2.2.2.2.1, u.2.2.2.2.2.2.2.2.2.2.2.2.2.2.2.2.2.1, u.2.2.2.2.2.2.2.2.2.2.2.2.2.2.2.2.2.2.1, u.2.2.2.2.2.2.2.2.2.2.2.2.2.2.2.2.2.2.2.1, u.2.2.2.2.2.2.2.2.2.2.2.2.2.2.2.2.2.2.2.2.1, u.2.2.2.2.2.2.2.2.2.2.2.2.2.2.2.2.2.2.2.2.2.1, u.2.2.2.2.2.2.2.2.2.2.2.2.2.2.2.2.2.2.2.2.2.2.1, u.2.2.2.2.2.2.2.2.2.2.2.2.2.2.2.2.2.2.2.2.2.2.2.1, u.2.2.2.2.2.2.2.2.2.2.2.2.2.2.2.2.2.2.2.2.2.2.2.2.1, u.2.2.2.2.2.2.2.2.2.2.2.2.2.2.2.2.2.2.2.2.2.2.2.2.2.1, u.2.2.2.2.2.2.2.2.2.2.2.2.2.2.2.2.2.2.2.2.2.2.2.2.2.2.1, u.2.2.2.2.2.2.2.2.2.2.2.2.2.2.2.2.2.2.2.2.2.2.2.2.2.2.2.1, u.2.2.2.2.2.2.2.2.2.2.2.2.2.2.2.2.2.2.2.2.2.2.2.2.2.2.2.2.1, u.2.2.2.2.2.2.2.2.2.2.2.2.2.2.2.2.2.2.2.2.2.2.2.2.2.2.2.2.2.1, u.2.2.2.2.2.2.2.2.2.2.2.2.2.2.2.2.2.2.2.2.2.2.2.2.2.2.2.2.2.2)
def Xs_names_made (u : XS) (v : Int32) : XS := (u.1, u.2.1, u.2.2.1, u.2.2.2.1, u.2.2.2.2.1, u.2.2.2.2.2.1, u.2.2.2.2.2.2.1, v, u.2.2.2.2.2.2.2.2.1, u.2.2.2.2.2.2.2.2.2.1, u.2.2.2.2.2.2.2.2.2.2.1, u.2.2.2.2.2.2.2.2.2.2.2.1, u.2.2.2.2.2.2.2.2.2.2.2.2.1, u.2.2.2.2.2.2.2.2.2.2.2.2.2.1, u.2.2.2.2.2.2.2.2.2.2.2.2.2.2.1, u.2.2.2.2.2.2.2.2.2.2.2.2.2.2.2.1, u.2.2.2.2.2.2.2.2.2.2.2.2.2.2.2.2.1, u.2.2.2.2.2.2.2.2.2.2.2.2.2.2.2.2.2.1, u.2.2.2.2.2.2.2.2.2.2.2.2.2.2.2.2.2.2.1, u.2.2.2.2.2.2.2.2.2.2.2.2.2.2.2.2.2.2.2.1, u.2.2.2.2.2.2.2.2.2.2.2.2.2.2.2.2.2.2.2.2.1, u.2.2.2.2.2.2.2.2.2.2.2.2.2.2.2.2.2.2.2.2.2.1, u.2.2.2.2.2.2.2.2.2.2.2.2.2.2.2.2.2.2.2.2.2.2.1, u.2.2.2.2.2.2.2.2.2.2.2.2.2.2.2.2.2.2.2.2.2.2.2.1, u.2.2.2.2.2.2.2.2.2.2.2.2.2.2.2.2.2.2.2.2.2.2.2.2.1, u.2.2.2.2.2.2.2.2.2.2.2.2.2.2.2.2.2.2.2.2.2.2.2.2.2.1, u.2.2.2.2.2.2.2.2.2.2.2.2.2.2.2.2.2.2.2.2.2.2.2.2.2.2.1, u.2.2.2.2.2.2.2.2.2.2.2.2.2.2.2.2.2.2.2.2.2.2.2.2.2.2.2.1, u.2.2.2.2.2.2.2.2.2.2.2.2.2.2.2.2.2.2.2.2.2.2.2.2.2.2.2.2.1, u.2.2.2.2.2.2.2.2.2.2.2.2.2.2.2.2.2.2.2.2.2.2.2.2.2.2.2.2.2.1, u.2.2.2.2.2.2.2.2.2.2.2.2.2.2.2.2.2.2.2.2.2.2.2.2.2.2.2.2.2.2)
def Xs_names_field (u : XS) (v : Nat → Int32) : XS := (u.1, u.2.1, u.2.2.1, u.2.2.2.1, u.2.2.2.2.1, u.2.2.2.2.2.1, u.2.2.2.2.2.2.1, u.2.2.2.2.2.2.2.1, v, u.2.2.2.2.2.2.2.2.2.1, u.2.2.2.2.2.2.2.2.2.2.1, u.2.2.2.2.2.2.2.2.2.2.2.1, u.2.2.2.2.2.2.2.2.2.2.2.2.1, u.2.2.2.2.2.2.2.2.2.2.2.2.2.1, u.2.2.2.2.2.2.2.2.2.2.2.2.2.2.1, u.2.2.2.2.2.2.2.2.2.2.2.2.2.2.2.1, u.2.2.2.2.2.2.2.2.2.2.2.2.2.2.2.2.1, u.2.2.2.2.2.2.2.2.2.2.2.2.2.2.2.2.2.1, u.2.2.2.2.2.2.2.2.2.2.2.2.2.2.2.2.2.2.1, u.2.2.2.2.2.2.2.2.2.2.2.2.2.2.2.2.2.2.2.1, u.2.2.2.2.2.2.2.2.2.2.2.2.2.2.2.2.2.2.2.2.1, u.2.2.2.2.2.2.2.2.2.2.2.2.2.2.2.2.2.2.2.2.2.1, u.2.2.2.2.2.2.2.2.2.2.2.2.2.2.2.2.2.2.2.2.2.2.1, u.2.2.2.2.2.2.2.2.2.2.2.2.2.2.2.2.2.2.2.2.2.2.2.1, u.2.2.2.2.2.2.2.2.2.2.2.2.2.2.2.2.2.2.2.2.2.2.2.2.1, u.2.2.2.2.2.2.2.2.2.2.2.2.2.2.2.2.2.2.2.2.2.2.2.2.2.1, u.2.2.2.2.2.2.2.2.2.2.2.2.2.2.2.2.2.2.2.2.2.2.2.2.2.2.1, u.2.2.2.2.2.2.2.2.2.2.2.2.2.2.2.2.2.2.2.2.2.2.2.2.2.2.2.1, u.2.2.2.2.2.2.2.2.2.2.2.2.2.2.2.2.2.2.2.2.2.2.2.2.2.2.2.2.1, u.2.2.2.2.2.2.2.2.2.2.2.2.2.2.2.2.2.2.2.2.2.2.2.2.2.2.2.2.2.1, u.2.2.2.2.2.2.2.2.2.2.2.2.2.2.2.2.2.2.2.2.2.2.2.2.2.2.2.2.2.2)
def Xs_names_ranges (u : XS) (v : Nat → Int32) : XS := (u.1, u.2.1, u.2.2.1, u.2.2.2.1, u.2.2.2.2.1, u.2.2.2.2.2.1, u.2.2.2.2.2.2.1, u.2.2.2.2.2.2.2.1, u.2.2.2.2.2.2.2.2.1, v, u.2.2.2.2.2.2.2.2.2.2.1, u.2.2.2.2.2.2.2.2.2.2.2.1, u.2.2.2.2.2.2.2.2.2.2.2.2.1, u.2.2.2.2.2.2.2.2.2.2.2.2.2.1, u.2.2.2.2.2.2.2.2.2.2.2.2.2.2.1, u.2.2.2.2.2.2.2.2.2.2.2.2.2.2.2.1, u.2.2.2.2.2.2.2.2.2.2.2.2.2.2.2.2.1, u.2.2.2.2.2.2.2.2.2.2.2.2.2.2.2.2.2.1, u.2.2.2.2.2.2.2.2.2.2.2.2.2.2.2.2.2.2.1, u.2.2.2.2.2.2.2.2.2.2.2.2.2.2.2.2.2.2.2.1, u.2.2.2.2.2.2.2.2.2.2.2.2.2.2.2.2.2.2.2.2.1, u.2.2.2.2.2.2.2.2.2.2.2.2.2.2.2.2.2.2.2.2.2.1, u.2.2.2.2.2.2.2.2.2.2.2.2.2.2.2.2.2.2.2.2.2.2.1, u.2.2.2.2.2.2.2.2.2.2.2.2.2.2.2.2.2.2.2.2.2.2.2.1, u.2.2.2.2.2.2.2.2.2.2.2.2.2.2.2.2.2.2.2.2.2.2.2.2.1, u.2.2.2.2.2.2.2.2.2.2.2.2.2.2.2.2.2.2.2.2.2.2.2.2.2.1, u.2.2.2.2.2.2.2.2.2.2.2.2.2.2.2.2.2.2.2.2.2.2.2.2.2.2.1, u.2.2.2.2.2.2.2.2.2.2.2.2.2.2.2.2.2.2.2.2.2.2.2.2.2.2.2.1, u.2.2.2.2.2.2.2.2.2.2.2.2.2.2.2.2.2.2.2.2.2.2.2.2.2.2.2.2.1, u.2.2.2.2.2.2.2.2.2.2.2.2.2.2.2.2.2.2.2.2.2.2.2.2.2.2.2.2.2.1, u.2.2.2.2.2.2.2.2.2.2.2.2.2.2.2.2.2.2.2.2.2.2.2.2.2.2.2.2.2.2)
def Xs_names_low (u : XS) (v : Nat → Int64) : XS := (u.1, u.2.1, u.2.2.1, u.2.2.2.1, u.2.2.2.2.1, u.2.2.2.2.2.1, u.2.2.2.2.2.2.1, u.2.2.2.2.2.2.2.1, u.2.2.2.2.2.2.2.2.1, u.2.2.2.2.2.2.2.2.2.1, v, u.2.2.2.2.2.2.2.2.2.2.2.1, u.2.2.2.2.2.2.2.2.2.2.2.2.1, u.2.2.2.2.2.2.2.2.2.2.2.2.2.1, u.2.2.2.2.2.2.2.2.2.2.2.2.2.2.1, u.2.2.2.2.2.2.2.2.2.2.2.2.2.2.2.1, u.2.2.2.2.2.2.2.2.2.2.2.2.2.2.2.2.1, u.2.2.2.2.2.2.2.2.2.2.2.2.2.2.2.2.2.1, u.2.2.2.2.2.2.2.2.2.2.2.2.2.2.2.2.2.2.1, u.2.2.2.2.2.2.2.2.2.2.2.2.2.2.2.2.2.2.2.1, u.2.2.2.2.2.2.2.2.2.2.2.2.2.2.2.2.2.2.2.2.1, u.2.2.2.2.2.2.2.2.2.2.2.2.2.2.2.2.2.2.2.2.2.1, u.2.2.2.2.2.2.2.2.2.2.2.2.2.2.2.2.2.2.2.2.2.2.1, u.2.2.2.2.2.2.2.2.2.2.2.2.2.2.2.2.2.2.2.2.2.2.2.1, u.2.2.2.2.2.2.2.2.2.2.2.2.2.2.2.2.2.2.2.2.2.2.2.2.1, u.2.2.2.2.2.2.2.2.2.2.2.2.2.2.2.2.2.2.2.2.2.2.2.2.2.1, u.2.2.2.2.2.2.2.2.2.2.2.2.2.2.2.2.2.2.2.2.2.2.2.2.2.2.1, u.2.2.2.2.2.2.2.2.2.2.2.2.2.2.2.2.2.2.2.2.2.2.2.2.2.2.2.1, u.2.2.2.2.2.2.2.2.2.2.2.2.2.2.2.2.2.2.2.2.2.2.2.2.2.2.2.2.1, u.2.2.2.2.2.2.2.2.2.2.2.2.2.2.2.2.2.2.2.2.2.2.2.2.2.2.2.2.2.1, u.2.2.2.2.2.2.2.2.2.2.2.2.2.2.2.2.2.2.2.2.2.2.2.2.2.2.2.2.2.2)
def Xs_names_high (u : XS) (v : Nat → Int64) : XS := (u.1, u.2.1, u.2.2.1, u.2.2.2.1, u.2.2.2.2.1, u.2.2.2.2.2.1, u.2.2.2.2.2.2.1, u.2.2.2.2.2.2.2.1, u.2.2.2.2.2.2.2.2.1, u.2.2.2.2.2.2.2.2.2.1, u.2.2.2.2.2.2.2.2.2.2.1, v, u.2.2.2.2.2.2.2.2.2.2.2.2.1, u.2.2.2.2.2.2.2.2.2.2.2.2.2.1, u.2.2.2.2.2.2.2.2.2.2.2.2.2.2.1, u.2.2.2.2.2.2.2.2.2.2.2.2.2.2.2.1, u.2.2.2.2.2.2.2.2.2.2.2.2.2.2.2.2.1, u.2.2.2.2.2.2.2.2.2.2.2.2.2.2.2.2.2.1, u.2.2.2.2.2.2.2.2.2.2.2.2.2.2.2.2.2.2.1, u.2.2.2.2.2.2.2.2.2.2.2.2.2.2.2.2.2.2.2.1, u.2.2.2.2.2.2.2.2.2.2.2.2.2.2.2.2.2.2.2.2.1, u.2.2.2.2.2.2.2.2.2.2.2.2.2.2.2.2.2.2.2.2.2.1, u.2.2.2.2.2.2.2.2.2.2.2.2.2.2.2.2.2.2.2.2.2.2.1, u.2.2.2.2.2.2.2.2.2.2.2.2.2.2.2.2.2.2.2.2.2.2.2.1, u.2.2.2.2.2.2.2.2.2.2.2.2.2.2.2.2.2.2.2.2.2.2.2.2.1, u.2.2.2.2.2.2.2.2.2.2.2.2.2.2.2.2.2.2.2.2.2.2.2.2.2.1, u.2.2.2.2.2.2.2.2.2.2.2.2.2.2.2.2.2.2.2.2.2.2.2.2.2.2.1, u.2.2.2.2.2.2.2.2.2.2.2.2.2.2.2.2.2.2.2.2.2.2.2.2.2.2.2.1, u.2.2.2.2.2.2.2.2.2.2.2.2.2.2.2.2.2.2.2.2.2.2.2.2.2.2.2.2.1, u.2.2.2.2.2.2.2.2.2.2.2.2.2.2.2.2.2.2.2.2.2.2.2.2.2.2.2.2.2.1, u.2.2.2.2.2.2.2.2.2.2.2.2.2.2.2.2.2.2.2.2.2.2.2.2.2.2.2.2.2.2)
def Xs_nodes_made (u : XS) (v : Int32) : XS := (u.1, u.2.1, u.2.2.1, u.2.2.2.1, u.2.2.2.2.1, u.2.2.2.2.2.1, u.2.2.2.2.2.2.1, u.2.2.2.2.2.2.2.1, u.2.2.2.2.2.2.2.2.1, u.2.2.2.2.2.2.2.2.2.1, u.2.2.2.2.2.2.2.2.2.2.1, u.2.2.2.2.2.2.2.2.2.2.2.1, v, u.2.2.2.2.2.2.2.2.2.2.2.2.2.1, u.2.2.2.2.2.2.2.2.2.2.2.2.2.2.1, u.2.2.2.2.2.2.2.2.2.2.2.2.2.2.2.1, u.2.2.2.2.2.2.2.2.2.2.2.2.2.2.2.2.1, u.2.2.2.2.2.2.2.2.2.2.2.2.2.2.2.2.2.1, u.2.2.2.2.2.2.2.2.2.2.2.2.2.2.2.2.2.2.1, u.2.2.2.2.2.2.2.2.2.2.2.2.2.2.2.2.2.2.2.1, u.2.2.2.2.2.2.2.2.2.2.2.2.2.2.2.2.2.2.2.2.1, u.2.2.2.2.2.2.2.2.2.2.2.2.2.2.2.2.2.2.2.2.2.1, u.2.2.2.2.2.2.2.2.2.2.2.2.2.2.2.2.2.2.2.2.2.2.1, u.2.2.2.2.2.2.2.2.2.2.2.2.2.2.2.2.2.2.2.2.2.2.2.1, u.2.2.2.2.2.2.2.2.2.2.2.2.2.2.2.2.2.2.2.2.2.2.2.2.1, u.2.2.2.2.2.2.2.2.2.2.2.2.2.2.2.2.2.2.2.2.2.2.2.2.2.1, u.2.2.2.2.2.2.2.2.2.2.2.2.2.2.2.2.2.2.2.2.2.2.2.2.2.2.1, u.2.2.2.2.2.2.2.2.2.2.2.2.2.2.2.2.2.2.2.2.2.2.2.2.2.2.2.1, u.2.2.2.2.2.2.2.2.2.2.2.2.2.2.2.2.2.2.2.2.2.2.2.2.2.2.2.2.1, u.2.2.2.2.2.2.2.2.2.2.2.2.2.2.2.2.2.2.2.2.2.2.2.2.2.2.2.2.2.1, u.2.2.2.2.2.2.2.2.2.2.2.2.2.2.2.2.2.2.2.2.2.2.2.2.2.2.2.2.2.2)
def Xs_nodes_op (u : XS) (v : Nat → Int32) : XS := (u.1, u.2.1, u.2.2.1, u.2.2.2.1, u.2.2.2.2.1, u.2.2.2.2.2.1, u.2.2.2.2.2.2.1, u.2.2.2.2.2.2.2.1, u.2.2.2.2.2.2.2.2.1, u.2.2.2.2.2.2.2.2.2.1, u.2.2.2.2.2.2.2.2.2.2.1, u.2.2.2.2.2.2.2.2.2.2.2.1, u.2.2.2.2.2.2.2.2.2.2.2.2.1, v, u.2.2.2.2.2.2.2.2.2.2.2.2.2.2.1, u.2.2.2.2.2.2.2.2.2.2.2.2.2.2.2.1, u.2.2.2.2.2.2.2.2.2.2.2.2.2.2.2.2.1, u.2.2.2.2.2.2.2.2.2.2.2.2.2.2.2.2.2.1, u.2.2.2.2.2.2.2.2.2.2.2.2.2.2.2.2.2.2.1, u.2.2.2.2.2.2.2.2.2.2.2.2.2.2.2.2.2.2.2.1, u.2.2.2.2.2.2.2.2.2.2.2.2.2.2.2.2.2.2.2.2.1, u.2.2.2.2.2.2.2.2.2.2.2.2.2.2.2.2.2.2.2.2.2.1, u.2.2.2.2.2.2.2.2.2.2.2.2.2.2.2.2.2.2.2.2.2.2.1, u.2.2.2.2.2.2.2.2.2.2.2.2.2.2.2.2.2.2.2.2.2.2.2.1, u.2.2.2.2.2.2.2.2.2.2.2.2.2.2.2.2.2.2.2.2.2.2.2.2.1, u.2.2.2.2.2.2.2.2.2.2.2.2.2.2.2.2.2.2.2.2.2.2.2.2.2.1, u.2.2.2.2.2.2.2.2.2.2.2.2.2.2.2.2.2.2.2.2.2.2.2.2.2.2.1, u.2.2.2.2.2.2.2.2.2.2.2.2.2.2.2.2.2.2.2.2.2.2.2.2.2.2.2.1, u.2.2.2.2.2.2.2.2.2.2.2.2.2.2.2.2.2.2.2.2.2.2.2.2.2.2.2.2.1, u.2.2.2.2.2.2.2.2.2.2.2.2.2.2.2.2.2.2.2.2.2.2.2.2.2.2.2.2.2.1, u.2.2.2.2.2.2.2.2.2.2.2.2.2.2.2.2.2.2.2.2.2.2.2.2.2.2.2.2.2.2)
def Xs_nodes_a (u : XS) (v : Nat → Int32) : XS := (u.1, u.2.1, u.2.2.1, u.2.2.2.1, u.2.2.2.2.1, u.2.2.2.2.2.1, u.2.2.2.2.2.2.1, u.2.2.2.2.2.2.2.1, u.2.2.2.2.2.2.2.2.1, u.2.2.2.2.2.2.2.2.2.1, u.2.2.2.2.2.2.2.2.2.2.1, u.2.2.2.2.2.2.2.2.2.2.2.1, u.2.2.2.2.2.2.2.2.2.2.2.2.1, u.2.2.2.2.2.2.2.2.2.2.2.2.2.1, v, u.2.2.2.2.2.2.2.2.2.2.2.2.2.2.2.1, u.2.2.2.2.2.2.2.2.2.2.2.2.2.2.2.2.1, u.2.2.2.2.2.2.2.2.2.2.2.2.2.2.2.2.2.1, u.2.2.2.2.2.2.2.2.2.2.2.2.2.2.2.2.2.2.1, u.2.2.2.2.2.2.2.2.2.2.2.2.2.2.2.2.2.2.2.1, u.2.2.2.2.2.2.2.2.2.2.2.2.2.2.2.2.2.2.2.2.1, u.2.2.2.2.2.2.2.2.2.2.2.2.2.2.2.2.2.2.2.2.2.1, u.2.2.2.2.2.2.2.2.2.2.2.2.2.2.2.2.2.2.2.2.2.2.1, u.2.2.2.2.2.2.2.2.2.2.2.2.2.2.2.2.2.2.2.2.2.2.2.1, u.2.2.2.2.2.2.2.2.2.2.2.2.2.2.2.2.2.2.2.2.2.2.2.2.1, u.2.2.2.2.2.2.2.2.2.2.2.2.2.2.2.2.2.2.2.2.2.2.2.2.2.1, u.2.2.2.2.2.2.2.2.2.2.2.2.2.2.2.2.2.2.2.2.2.2.2.2.2.2.1, u.2.2.2.2.2.2.2.2.2.2.2.2.2.2.2.2.2.2.2.2.2.2.2.2.2.2.2.1, u.2.2.2.2.2.2.2.2.2.2.2.2.2.2.2.2.2.2.2.2.2.2.2.2.2.2.2.2.1, u.2.2.2.2.2.2.2.2.2.2.2.2.2.2.2.2.2.2.2.2.2.2.2.2.2.2.2.2.2.1, u.2.2.2.2.2.2.2.2.2.2.2.2.2.2.2.2.2.2.2.2.2.2.2.2.2.2.2.2.2.2)
def Xs_nodes_b (u : XS) (v : Nat → Int32) : XS := (u.1, u.2.1, u.2.2.1, u.2.2.2.1, u.2.2.2.2.1, u.2.2.2.2.2.1, u.2.2.2.2.2.2.1, u.2.2.2.2.2.2.2.1, u.2.2.2.2.2.2.2.2.1, u.2.2.2.2.2.2.2.2.2.1, u.2.2.2.2.2.2.2.2.2.2.1, u.2.2.2.2.2.2.2.2.2.2.2.1, u.2.2.2.2.2.2.2.2.2.2.2.2.1, u.2.2.2.2.2.2.2.2.2.2.2.2.2.1, u.2.2.2.2.2.2.2.2.2.2.2.2.2.2.1, v, u.2.2.2.2.2.2.2.2.2.2.2.2.2.2.2.2.1, u.2.2.2.2.2.2.2.2.2.2.2.2.2.2.2.2.2.1, u.2.2.2.2.2.2.2.2.2.2.2.2.2.2.2.2.2.2.1, u.2.2.2.2.2.2.2.2.2.2.2.2.2.2.2.2.2.2.2.1, u.2.2.2.2.2.2.2.2.2.2.2.2.2.2.2.2.2.2.2.2.1, u.2.2.2.2.2.2.2.2.2.2.2.2.2.2.2.2.2.2.2.2.2.1, u.2.2.2.2.2.2.2.2.2.2.2.2.2.2.2.2.2.2.2.2.2.2.1, u.2.2.2.2.2.2.2.2.2.2.2.2.2.2.2.2.2.2.2.2.2.2.2.1, u.2.2.2.2.2.2.2.2.2.2.2.2.2.2.2.2.2.2.2.2.2.2.2.2.1, u.2.2.2.2.2.2.2.2.2.2.2.2.2.2.2.2.2.2.2.2.2.2.2.2.2.1, u.2.2.2.2.2.2.2.2.2.2.2.2.2.2.2.2.2.2.2.2.2.2.2.2.2.2.1, u.2.2.2.2.2.2.2.2.2.2.2.2.2.2.2.2.2.2.2.2.2.2.2.2.2.2.2.1, u.2.2.2.2.2.2.2.2.2.2.2.2.2.2.2.2.2.2.2.2.2.2.2.2.2.2.2.2.1, u.2.2.2.2.2.2.2.2.2.2.2.2.2.2.2.2.2.2.2.2.2.2.2.2.2.2.2.2.2.1, u.2.2.2.2.2.2.2.2.2.2.2.2.2.2.2.2.2.2.2.2.2.2.2.2.2.2.2.2.2.2)
def Xs_row_subject (u : XS) (v : Int32) : XS := (u.1, u.2.1, u.2.2.1, u.2.2.2.1, u.2.2.2.2.1, u.2.2.2.2.2.1, u.2.2.2.2.2.2.1, u.2.2.2.2.2.2.2.1, u.2.2.2.2.2.2.2.2.1, u.2.2.2.2.2.2.2.2.2.1, u.2.2.2.2.2.2.2.2.2.2.1, u.2.2.2.2.2.2.2.2.2.2.2.1, u.2.2.2.2.2.2.2.2.2.2.2.2.1, u.2.2.2.2.2.2.2.2.2.2.2.2.2.1, u.2.2.2.2.2.2.2.2.2.2.2.2.2.2.1, u.2.2.2.2.2.2.2.2.2.2.2.2.2.2.2.1, v, u.2.2.2.2.2.2.2.2.2.2.2.2.2.2.2.2.2.1, u.2.2.2.2.2.2.2.2.2.2.2.2.2.2.2.2.2.2.1, u.2.2.2.2.2.2.2.2.2.2.2.2.2.2.2.2.2.2.2.1, u.2.2.2.2.2.2.2.2.2.2.2.2.2.2.2.2.2.2.2.2.1, u.2.2.2.2.2.2.2.2.2.2.2.2.2.2.2.2.2.2.2.2.2.1, u.2.2.2.2.2.2.2.2.2.2.2.2.2.2.2.2.2.2.2.2.2.2.1, u.2.2.2.2.2.2.2.2.2.2.2.2.2.2.2.2.2.2.2.2.2.2.2.1, u.2.2.2.2.2.2.2.2.2.2.2.2.2.2.2.2.2.2.2.2.2.2.2.2.1, u.2.2.2.2.2.2.2.2.2.2.2.2.2.2.2.2.2.2.2.2.2.2.2.2.2.1, u.2.2.2.2.2.2.2.2.2.2.2.2.2.2.2.2.2.2.2.2.2.2.2.2.2.2.1, u.2.2.2.2.2.2.2.2.2.2.2.2.2.2.2.2.2.2.2.2.2.2.2.2.2.2.2.1, u.2.2.2.2.2.2.2.2.2.2.2.2.2.2.2.2.2.2.2.2.2.2.2.2.2.2.2.2.1, u.2.2.2.2.2.2.2.2.2.2.2.2.2.2.2.2.2.2.2.2.2.2.2.2.2.2.2.2.2.1, u.2.2.2.2.2.2.2.2.2.2.2.2.2.2.2.2.2.2.2.2.2.2.2.2.2.2.2.2.2.2)
def Xs_row_carried (u : XS) (v : Int32) : XS := (u.1, u.2.1, u.2.2.1, u.2.2.2.1, u.2.2.2.2.1, u.2.2.2.2.2.1, u.2.2.2.2.2.2.1, u.2.2.2.2.2.2.2.1, u.2.2.2.2.2.2.2.2.1, u.2.2.2.2.2.2.2.2.2.1, u.2.2.2.2.2.2.2.2.2.2.1, u.2.2.2.2.2.2.2.2.2.2.2.1, u.2.2.2.2.2.2.2.2.2.2.2.2.1, u.2.2.2.2.2.2.2.2.2.2.2.2.2.1, u.2.2.2.2.2.2.2.2.2.2.2.2.2.2.1, u.2.2.2.2.2.2.2.2.2.2.2.2.2.2.2.1, u.2.2.2.2.2.2.2.2.2.2.2.2.2.2.2.2.1, v, u.2.2.2.2.2.2.2.2.2.2.2.2.2.2.2.2.2.2.1, u.2.2.2.2.2.2.2.2.2.2.2.2.2.2.2.2.2.2.2.1, u.2.2.2.2.2.2.2.2.2.2.2.2.2.2.2.2.2.2.2.2.1, u.2.2.2.2.2.2.2.2.2.2.2.2.2.2.2.2.2.2.2.2.2.1, u.2.2.2.2.2.2.2.2.2.2.2.2.2.2.2.2.2.2.2.2.2.2.1, u.2.2.2.2.2.2.2.2.2.2.2.2.2.2.2.2.2.2.2.2.2.2.2.1, u.2.2.2.2.2.2.2.2.2.2.2.2.2.2.2.2.2.2.2.2.2.2.2.2.1, u.2.2.2.2.2.2.2.2.2.2.2.2.2.2.2.2.2.2.2.2.2.2.2.2.2.1, u.2.2.2.2.2.2.2.2.2.2.2.2.2.2.2.2.2.2.2.2.2.2.2.2.2.2.1, u.2.2.2.2.2.2.2.2.2.2.2.2.2.2.2.2.2.2.2.2.2.2.2.2.2.2.2.1, u.2.2.2.2.2.2.2.2.2.2.2.2.2.2.2.2.2.2.2.2.2.2.2.2.2.2.2.2.1, u.2.2.2.2.2.2.2.2.2.2.2.2.2.2.2.2.2.2.2.2.2.2.2.2.2.2.2.2.2.1, u.2.2.2.2.2.2.2.2.2.2.2.2.2.2.2.2.2.2.2.2.2.2.2.2.2.2.2.2.2.2)
def Xs_row_length (u : XS) (v : Int32) : XS := (u.1, u.2.1, u.2.2.1, u.2.2.2.1, u.2.2.2.2.1, u.2.2.2.2.2.1, u.2.2.2.2.2.2.1, u.2.2.2.2.2.2.2.1, u.2.2.2.2.2.2.2.2.1, u.2.2.2.2.2.2.2.2.2.1, u.2.2.2.2.2.2.2.2.2.2.1, u.2.2.2.2.2.2.2.2.2.2.2.1, u.2.2.2.2.2.2.2.2.2.2.2.2.1, u.2.2.2.2.2.2.2.2.2.2.2.2.2.1, u.2.2.2.2.2.2.2.2.2.2.2.2.2.2.1, u.2.2.2.2.2.2.2.2.2.2.2.2.2.2.2.1, u.2.2.2.2.2.2.2.2.2.2.2.2.2.2.2.2.1, u.2.2.2.2.2.2.2.2.2.2.2.2.2.2.2.2.2.1, v, u.2.2.2.2.2.2.2.2.2.2.2.2.2.2.2.2.2.2.2.1, u.2.2.2.2.2.2.2.2.2.2.2.2.2.2.2.2.2.2.2.2.1, u.2.2.2.2.2.2.2.2.2.2.2.2.2.2.2.2.2.2.2.2.2.1, u.2.2.2.2.2.2.2.2.2.2.2.2.2.2.2.2.2.2.2.2.2.2.1, u.2.2.2.2.2.2.2.2.2.2.2.2.2.2.2.2.2.2.2.2.2.2.2.1, u.2.2.2.2.2.2.2.2.2.2.2.2.2.2.2.2.2.2.2.2.2.2.2.2.1, u.2.2.2.2.2.2.2.2.2.2.2.2.2.2.2.2.2.2.2.2.2.2.2.2.2.1, u.2.2.2.2.2.2.2.2.2.2.2.2.2.2.2.2.2.2.2.2.2.2.2.2.2.2.1, u.2.2.2.2.2.2.2.2.2.2.2.2.2.2.2.2.2.2.2.2.2.2.2.2.2.2.2.1, u.2.2.2.2.2.2.2.2.2.2.2.2.2.2.2.2.2.2.2.2.2.2.2.2.2.2.2.2.1, u.2.2.2.2.2.2.2.2.2.2.2.2.2.2.2.2.2.2.2.2.2.2.2.2.2.2.2.2.2.1, u.2.2.2.2.2.2.2.2.2.2.2.2.2.2.2.2.2.2.2.2.2.2.2.2.2.2.2.2.2.2)
def Xs_row_with (u : XS) (v : Nat → Int32) : XS := (u.1, u.2.1, u.2.2.1, u.2.2.2.1, u.2.2.2.2.1, u.2.2.2.2.2.1, u.2.2.2.2.2.2.1, u.2.2.2.2.2.2.2.1, u.2.2.2.2.2.2.2.2.1, u.2.2.2.2.2.2.2.2.2.1, u.2.2.2.2.2.2.2.2.2.2.1, u.2.2.2.2.2.2.2.2.2.2.2.1, u.2.2.2.2.2.2.2.2.2.2.2.2.1, u.2.2.2.2.2.2.2.2.2.2.2.2.2.1, u.2.2.2.2.2.2.2.2.2.2.2.2.2.2.1, u.2.2.2.2.2.2.2.2.2.2.2.2.2.2.2.1, u.2.2.2.2.2.2.2.2.2.2.2.2.2.2.2.2.1, u.2.2.2.2.2.2.2.2.2.2.2.2.2.2.2.2.2.1, u.2.2.2.2.2.2.2.2.2.2.2.2.2.2.2.2.2.2.1, v, u.2.2.2.2.2.2.2.2.2.2.2.2.2.2.2.2.2.2.2.2.1, u.2.2.2.2.2.2.2.2.2.2.2.2.2.2.2.2.2.2.2.2.2.1, u.2.2.2.2.2.2.2.2.2.2.2.2.2.2.2.2.2.2.2.2.2.2.1, u.2.2.2.2.2.2.2.2.2.2.2.2.2.2.2.2.2.2.2.2.2.2.2.1, u.2.2.2.2.2.2.2.2.2.2.2.2.2.2.2.2.2.2.2.2.2.2.2.2.1, u.2.2.2.2.2.2.2.2.2.2.2.2.2.2.2.2.2.2.2.2.2.2.2.2.2.1, u.2.2.2.2.2.2.2.2.2.2.2.2.2.2.2.2.2.2.2.2.2.2.2.2.2.2.1, u.2.2.2.2.2.2.2.2.2.2.2.2.2.2.2.2.2.2.2.2.2.2.2.2.2.2.2.1, u.2.2.2.2.2.2.2.2.2.2.2.2.2.2.2.2.2.2.2.2.2.2.2.2.2.2.2.2.1, u.2.2.2.2.2.2.2.2.2.2.2.2.2.2.2.2.2.2.2.2.2.2.2.2.2.2.2.2.2.1, u.2.2.2.2.2.2.2.2.2.2.2.2.2.2.2.2.2.2.2.2.2.2.2.2.2.2.2.2.2.2)
def Xs_row_op (u : XS) (v : Nat → Int32) : XS := (u.1, u.2.1, u.2.2.1, u.2.2.2.1, u.2.2.2.2.1, u.2.2.2.2.2.1, u.2.2.2.2.2.2.1, u.2.2.2.2.2.2.2.1, u.2.2.2.2.2.2.2.2.1, u.2.2.2.2.2.2.2.2.2.1, u.2.2.2.2.2.2.2.2.2.2.1, u.2.2.2.2.2.2.2.2.2.2.2.1, u.2.2.2.2.2.2.2.2.2.2.2.2.1, u.2.2.2.2.2.2.2.2.2.2.2.2.2.1, u.2.2.2.2.2.2.2.2.2.2.2.2.2.2.1, u.2.2.2.2.2.2.2.2.2.2.2.2.2.2.2.1, u.2.2.2.2.2.2.2.2.2.2.2.2.2.2.2.2.1, u.2.2.2.2.2.2.2.2.2.2.2.2.2.2.2.2.2.1, u.2.2.2.2.2.2.2.2.2.2.2.2.2.2.2.2.2.2.1, u.2.2.2.2.2.2.2.2.2.2.2.2.2.2.2.2.2.2.2.1, v, u.2.2.2.2.2.2.2.2.2.2.2.2.2.2.2.2.2.2.2.2.2.1, u.2.2.2.2.2.2.2.2.2.2.2.2.2.2.2.2.2.2.2.2.2.2.1, u.2.2.2.2.2.2.2.2.2.2.2.2.2.2.2.2.2.2.2.2.2.2.2.1, u.2.2.2.2.2.2.2.2.2.2.2.2.2.2.2.2.2.2.2.2.2.2.2.2.1, u.2.2.2.2.2.2.2.2.2.2.2.2.2.2.2.2.2.2.2.2.2.2.2.2.2.1, u.2.2.2.2.2.2.2.2.2.2.2.2.2.2.2.2.2.2.2.2.2.2.2.2.2.2.1, u.2.2.2.2.2.2.2.2.2.2.2.2.2.2.2.2.2.2.2.2.2.2.2.2.2.2.2.1, u.2.2.2.2.2.2.2.2.2.2.2.2.2.2.2.2.2.2.2.2.2.2.2.2.2.2.2.2.1, u.2.2.2.2.2.2.2.2.2.2.2.2.2.2.2.2.2.2.2.2.2.2.2.2.2.2.2.2.2.1, u.2.2.2.2.2.2.2.2.2.2.2.2.2.2.2.2.2.2.2.2.2.2.2.2.2.2.2.2.2.2)
def Xs_row_negated (u : XS) (v : Nat → Int32) : XS := (u.1, u.2.1, u.2.2.1, u.2.2.2.1, u.2.2.2.2.1, u.2.2.2.2.2.1, u.2.2.2.2.2.2.1, u.2.2.2.2.2.2.2.1, u.2.2.2.2.2.2.2.2.1, u.2.2.2.2.2.2.2.2.2.1, u.2.2.2.2.2.2.2.2.2.2.1, u.2.2.2.2.2.2.2.2.2.2.2.1, u.2.2.2.2.2.2.2.2.2.2.2.2.1, u.2.2.2.2.2.2.2.2.2.2.2.2.2.1, u.2.2.2.2.2.2.2.2.2.2.2.2.2.2.1, u.2.2.2.2.2.2.2.2.2.2.2.2.2.2.2.1, u.2.2.2.2.2.2.2.2.2.2.2.2.2.2.2.2.1, u.2.2.2.2.2.2.2.2.2.2.2.2.2.2.2.2.2.1, u.2.2.2.2.2.2.2.2.2.2.2.2.2.2.2.2.2.2.1, u.2.2.2.2.2.2.2.2.2.2.2.2.2.2.2.2.2.2.2.1, u.2.2.2.2.2.2.2.2.2.2.2.2.2.2.2.2.2.2.2.2.1, v, u.2.2.2.2.2.2.2.2.2.2.2.2.2.2.2.2.2.2.2.2.2.2.1, u.2.2.2.2.2.2.2.2.2.2.2.2.2.2.2.2.2.2.2.2.2.2.2.1, u.2.2.2.2.2.2.2.2.2.2.2.2.2.2.2.2.2.2.2.2.2.2.2.2.1, u.2.2.2.2.2.2.2.2.2.2.2.2.2.2.2.2.2.2.2.2.2.2.2.2.2.1, u.2.2.2.2.2.2.2.2.2.2.2.2.2.2.2.2.2.2.2.2.2.2.2.2.2.2.1, u.2.2.2.2.2.2.2.2.2.2.2.2.2.2.2.2.2.2.2.2.2.2.2.2.2.2.2.1, u.2.2.2.2.2.2.2.2.2.2.2.2.2.2.2.2.2.2.2.2.2.2.2.2.2.2.2.2.1, u.2.2.2.2.2.2.2.2.2.2.2.2.2.2.2.2.2.2.2.2.2.2.2.2.2.2.2.2.2.1, u.2.2.2.2.2.2.2.2.2.2.2.2.2.2.2.2.2.2.2.2.2.2.2.2.2.2.2.2.2.2)
def Xs_row_object (u : XS) (v : Nat → Int32) : XS := (u.1, u.2.1, u.2.2.1, u.2.2.2.1, u.2.2.2.2.1, u.2.2.2.2.2.1, u.2.2.2.2.2.2.1, u.2.2.2.2.2.2.2.1, u.2.2.2.2.2.2.2.2.1, u.2.2.2.2.2.2.2.2.2.1, u.2.2.2.2.2.2.2.2.2.2.1, u.2.2.2.2.2.2.2.2.2.2.2.1, u.2.2.2.2.2.2.2.2.2.2.2.2.1, u.2.2.2.2.2.2.2.2.2.2.2.2.2.1, u.2.2.2.2.2.2.2.2.2.2.2.2.2.2.1, u.2.2.2.2.2.2.2.2.2.2.2.2.2.2.2.1, u.2.2.2.2.2.2.2.2.2.2.2.2.2.2.2.2.1, u.2.2.2.2.2.2.2.2.2.2.2.2.2.2.2.2.2.1, u.2.2.2.2.2.2.2.2.2.2.2.2.2.2.2.2.2.2.1, u.2.2.2.2.2.2.2.2.2.2.2.2.2.2.2.2.2.2.2.1, u.2.2.2.2.2.2.2.2.2.2.2.2.2.2.2.2.2.2.2.2.1, u.2.2.2.2.2.2.2.2.2.2.2.2.2.2.2.2.2.2.2.2.2.1, v, u.2.2.2.2.2.2.2.2.2.2.2.2.2.2.2.2.2.2.2.2.2.2.2.1, u.2.2.2.2.2.2.2.2.2.2.2.2.2.2.2.2.2.2.2.2.2.2.2.2.1, u.2.2.2.2.2.2.2.2.2.2.2.2.2.2.2.2.2.2.2.2.2.2.2.2.2.1, u.2.2.2.2.2.2.2.2.2.2.2.2.2.2.2.2.2.2.2.2.2.2.2.2.2.2.1, u.2.2.2.2.2.2.2.2.2.2.2.2.2.2.2.2.2.2.2.2.2.2.2.2.2.2.2.1, u.2.2.2.2.2.2.2.2.2.2.2.2.2.2.2.2.2.2.2.2.2.2.2.2.2.2.2.2.1, u.2.2.2.2.2.2.2.2.2.2.2.2.2.2.2.2.2.2.2.2.2.2.2.2.2.2.2.2.2.1, u.2.2.2.2.2.2.2.2.2.2.2.2.2.2.2.2.2.2.2.2.2.2.2.2.2.2.2.2.2.2)
def Xs_testing_noted (u : XS) (v : Int32) : XS := (u.1, u.2.1, u.2.2.1, u.2.2.2.1, u.2.2.2.2.1, u.2.2.2.2.2.1, u.2.2.2.2.2.2.1, u.2.2.2.2.2.2.2.1, u.2.2.2.2.2.2.2.2.1, u.2.2.2.2.2.2.2.2.2.1, u.2.2.2.2.2.2.2.2.2.2.1, u.2.2.2.2.2.2.2.2.2.2.2.1, u.2.2.2.2.2.2.2.2.2.2.2.2.1, u.2.2.2.2.2.2.2.2.2.2.2.2.2.1, u.2.2.2.2.2.2.2.2.2.2.2.2.2.2.1, u.2.2.2.2.2.2.2.2.2.2.2.2.2.2.2.1, u.2.2.2.2.2.2.2.2.2.2.2.2.2.2.2.2.1, u.2.2.2.2.2.2.2.2.2.2.2.2.2.2.2.2.2.1, u.2.2.2.2.2.2.2.2.2.2.2.2.2.2.2.2.2.2.1, u.2.2.2.2.2.2.2.2.2.2.2.2.2.2.2.2.2.2.2.1, u.2.2.2.2.2.2.2.2.2.2.2.2.2.2.2.2.2.2.2.2.1, u.2.2.2.2.2.2.2.2.2.2.2.2.2.2.2.2.2.2.2.2.2.1, u.2.2.2.2.2.2.2.2.2.2.2.2.2.2.2.2.2.2.2.2.2.2.1, v, u.2.2.2.2.2.2.2.2.2.2.2.2.2.2.2.2.2.2.2.2.2.2.2.2.1, u.2.2.2.2.2.2.2.2.2.2.2.2.2.2.2.2.2.2.2.2.2.2.2.2.2.1, u.2.2.2.2.2.2.2.2.2.2.2.2.2.2.2.2.2.2.2.2.2.2.2.2.2.2.1, u.2.2.2.2.2.2.2.2.2.2.2.2.2.2.2.2.2.2.2.2.2.2.2.2.2.2.2.1, u.2.2.2.2.2.2.2.2.2.2.2.2.2.2.2.2.2.2.2.2.2.2.2.2.2.2.2.2.1, u.2.2.2.2.2.2.2.2.2.2.2.2.2.2.2.2.2.2.2.2.2.2.2.2.2.2.2.2.2.1, u.2.2.2.2.2.2.2.2.2.2.2.2.2.2.2.2.2.2.2.2.2.2.2.2.2.2.2.2.2.2)
def Xs_testing_depth (u : XS) (v : Int32) : XS := (u.1, u.2.1, u.2.2.1, u.2.2.2.1, u.2.2.2.2.1, u.2.2.2.2.2.1, u.2.2.2.2.2.2.1, u.2.2.2.2.2.2.2.1, u.2.2.2.2.2.2.2.2.1, u.2.2.2.2.2.2.2.2.2.1, u.2.2.2.2.2.2.2.2.2.2.1, u.2.2.2.2.2.2.2.2.2.2.2.1, u.2.2.2.2.2.2.2.2.2.2.2.2.1, u.2.2.2.2.2.2.2.2.2.2.2.2.2.1, u.2.2.2.2.2.2.2.2.2.2.2.2.2.2.1, u.2.2.2.2.2.2.2.2.2.2.2.2.2.2.2.1, u.2.2.2.2.2.2.2.2.2.2.2.2.2.2.2.2.1, u.2.2.2.2.2.2.2.2.2.2.2.2.2.2.2.2.2.1, u.2.2.2.2.2.2.2.2.2.2.2.2.2.2.2.2.2.2.1, u.2.2.2.2.2.2.2.2.2.2.2.2.2.2.2.2.2.2.2.1, u.2.2.2.2.2.2.2.2.2.2.2.2.2.2.2.2.2.2.2.2.1, u.2.2.2.2.2.2.2.2.2.2.2.2.2.2.2.2.2.2.2.2.2.1, u.2.2.2.2.2.2.2.2.2.2.2.2.2.2.2.2.2.2.2.2.2.2.1, u.2.2.2.2.2.2.2.2.2.2.2.2.2.2.2.2.2.2.2.2.2.2.2.1, v, u.2.2.2.2.2.2.2.2.2.2.2.2.2.2.2.2.2.2.2.2.2.2.2.2.2.1, u.2.2.2.2.2.2.2.2.2.2.2.2.2.2.2.2.2.2.2.2.2.2.2.2.2.2.1, u.2.2.2.2.2.2.2.2.2.2.2.2.2.2.2.2.2.2.2.2.2.2.2.2.2.2.2.1, u.2.2.2.2.2.2.2.2.2.2.2.2.2.2.2.2.2.2.2.2.2.2.2.2.2.2.2.2.1, u.2.2.2.2.2.2.2.2.2.2.2.2.2.2.2.2.2.2.2.2.2.2.2.2.2.2.2.2.2.1, u.2.2.2.2.2.2.2.2.2.2.2.2.2.2.2.2.2.2.2.2.2.2.2.2.2.2.2.2.2.2)
def Xs_testing_outcome (u : XS) (v : Nat → Int32) : XS := (u.1, u.2.1, u.2.2.1, u.2.2.2.1, u.2.2.2.2.1, u.2.2.2.2.2.1, u.2.2.2.2.2.2.1, u.2.2.2.2.2.2.2.1, u.2.2.2.2.2.2.2.2.1, u.2.2.2.2.2.2.2.2.2.1, u.2.2.2.2.2.2.2.2.2.2.1, u.2.2.2.2.2.2.2.2.2.2.2.1, u.2.2.2.2.2.2.2.2.2.2.2.2.1, u.2.2.2.2.2.2.2.2.2.2.2.2.2.1, u.2.2.2.2.2.2.2.2.2.2.2.2.2.2.1, u.2.2.2.2.2.2.2.2.2.2.2.2.2.2.2.1, u.2.2.2.2.2.2.2.2.2.2.2.2.2.2.2.2.1, u.2.2.2.2.2.2.2.2.2.2.2.2.2.2.2.2.2.1, u.2.2.2.2.2.2.2.2.2.2.2.2.2.2.2.2.2.2.1, u.2.2.2.2.2.2.2.2.2.2.2.2.2.2.2.2.2.2.2.1, u.2.2.2.2.2.2.2.2.2.2.2.2.2.2.2.2.2.2.2.2.1, u.2.2.2.2.2.2.2.2.2.2.2.2.2.2.2.2.2.2.2.2.2.1, u.2.2.2.2.2.2.2.2.2.2.2.2.2.2.2.2.2.2.2.2.2.2.1, u.2.2.2.2.2.2.2.2.2.2.2.2.2.2.2.2.2.2.2.2.2.2.2.1, u.2.2.2.2.2.2.2.2.2.2.2.2.2.2.2.2.2.2.2.2.2.2.2.2.1, v, u.2.2.2.2.2.2.2.2.2.2.2.2.2.2.2.2.2.2.2.2.2.2.2.2.2.2.1, u.2.2.2.2.2.2.2.2.2.2.2.2.2.2.2.2.2.2.2.2.2.2.2.2.2.2.2.1, u.2.2.2.2.2.2.2.2.2.2.2.2.2.2.2.2.2.2.2.2.2.2.2.2.2.2.2.2.1, u.2.2.2.2.2.2.2.2.2.2.2.2.2.2.2.2.2.2.2.2.2.2.2.2.2.2.2.2.2.1, u.2.2.2.2.2.2.2.2.2.2.2.2.2.2.2.2.2.2.2.2.2.2.2.2.2.2.2.2.2.2)
def Xs_testing_leaves (u : XS) (v : Nat → Int32) : XS := (u.1, u.2.1, u.2.2.1, u.2.2.2.1, u.2.2.2.2.1, u.2.2.2.2.2.1, u.2.2.2.2.2.2.1, u.2.2.2.2.2.2.2.1, u.2.2.2.2.2.2.2.2.1, u.2.2.2.2.2.2.2.2.2.1, u.2.2.2.2.2.2.2.2.2.2.1, u.2.2.2.2.2.2.2.2.2.2.2.1, u.2.2.2.2.2.2.2.2.2.2.2.2.1, u.2.2.2.2.2.2.2.2.2.2.2.2.2.1, u.2.2.2.2.2.2.2.2.2.2.2.2.2.2.1, u.2.2.2.2.2.2.2.2.2.2.2.2.2.2.2.1, u.2.2.2.2.2.2.2.2.2.2.2.2.2.2.2.2.1, u.2.2.2.2.2.2.2.2.2.2.2.2.2.2.2.2.2.1, u.2.2.2.2.2.2.2.2.2.2.2.2.2.2.2.2.2.2.1, u.2.2.2.2.2.2.2.2.2.2.2.2.2.2.2.2.2.2.2.1, u.2.2.2.2.2.2.2.2.2.2.2.2.2.2.2.2.2.2.2.2.1, u.2.2.2.2.2.2.2.2.2.2.2.2.2.2.2.2.2.2.2.2.2.1, u.2.2.2.2.2.2.2.2.2.2.2.2.2.2.2.2.2.2.2.2.2.2.1, u.2.2.2.2.2.2.2.2.2.2.2.2.2.2.2.2.2.2.2.2.2.2.2.1, u.2.2.2.2.2.2.2.2.2.2.2.2.2.2.2.2.2.2.2.2.2.2.2.2.1, u.2.2.2.2.2.2.2.2.2.2.2.2.2.2.2.2.2.2.2.2.2.2.2.2.2.1, v, u.2.2.2.2.2.2.2.2.2.2.2.2.2.2.2.2.2.2.2.2.2.2.2.2.2.2.2.1, u.2.2.2.2.2.2.2.2.2.2.2.2.2.2.2.2.2.2.2.2.2.2.2.2.2.2.2.2.1, u.2.2.2.2.2.2.2.2.2.2.2.2.2.2.2.2.2.2.2.2.2.2.2.2.2.2.2.2.2.1, u.2.2.2.2.2.2.2.2.2.2.2.2.2.2.2.2.2.2.2.2.2.2.2.2.2.2.2.2.2.2)
def Xs_testing_waiting (u : XS) (v : Nat → Int32) : XS := (u.1, u.2.1, u.2.2.1, u.2.2.2.1, u.2.2.2.2.1, u.2.2.2.2.2.1, u.2.2.2.2.2.2.1, u.2.2.2.2.2.2.2.1, u.2.2.2.2.2.2.2.2.1, u.2.2.2.2.2.2.2.2.2.1, u.2.2.2.2.2.2.2.2.2.2.1, u.2.2.2.2.2.2.2.2.2.2.2.1, u.2.2.2.2.2.2.2.2.2.2.2.2.1, u.2.2.2.2.2.2.2.2.2.2.2.2.2.1, u.2.2.2.2.2.2.2.2.2.2.2.2.2.2.1, u.2.2.2.2.2.2.2.2.2.2.2.2.2.2.2.1, u.2.2.2.2.2.2.2.2.2.2.2.2.2.2.2.2.1, u.2.2.2.2.2.2.2.2.2.2.2.2.2.2.2.2.2.1, u.2.2.2.2.2.2.2.2.2.2.2.2.2.2.2.2.2.2.1, u.2.2.2.2.2.2.2.2.2.2.2.2.2.2.2.2.2.2.2.1, u.2.2.2.2.2.2.2.2.2.2.2.2.2.2.2.2.2.2.2.2.1, u.2.2.2.2.2.2.2.2.2.2.2.2.2.2.2.2.2.2.2.2.2.1, u.2.2.2.2.2.2.2.2.2.2.2.2.2.2.2.2.2.2.2.2.2.2.1, u.2.2.2.2.2.2.2.2.2.2.2.2.2.2.2.2.2.2.2.2.2.2.2.1, u.2.2.2.2.2.2.2.2.2.2.2.2.2.2.2.2.2.2.2.2.2.2.2.2.1, u.2.2.2.2.2.2.2.2.2.2.2.2.2.2.2.2.2.2.2.2.2.2.2.2.2.1, u.2.2.2.2.2.2.2.2.2.2.2.2.2.2.2.2.2.2.2.2.2.2.2.2.2.2.1, v, u.2.2.2.2.2.2.2.2.2.2.2.2.2.2.2.2.2.2.2.2.2.2.2.2.2.2.2.2.1, u.2.2.2.2.2.2.2.2.2.2.2.2.2.2.2.2.2.2.2.2.2.2.2.2.2.2.2.2.2.1, u.2.2.2.2.2.2.2.2.2.2.2.2.2.2.2.2.2.2.2.2.2.2.2.2.2.2.2.2.2.2)
def Xs_switches (u : XS) (v : Nat → Int32) : XS := (u.1, u.2.1, u.2.2.1, u.2.2.2.1, u.2.2.2.2.1, u.2.2.2.2.2.1, u.2.2.2.2.2.2.1, u.2.2.2.2.2.2.2.1, u.2.2.2.2.2.2.2.2.1, u.2.2.2.2.2.2.2.2.2.1, u.2.2.2.2.2.2.2.2.2.2.1, u.2.2.2.2.2.2.2.2.2.2.2.1, u.2.2.2.2.2.2.2.2.2.2.2.2.1, u.2.2.2.2.2.2.2.2.2.2.2.2.2.1, u.2.2.2.2.2.2.2.2.2.2.2.2.2.2.1, u.2.2.2.2.2.2.2.2.2.2.2.2.2.2.2.1, u.2.2.2.2.2.2.2.2.2.2.2.2.2.2.2.2.1, u.2.2.2.2.2.2.2.2.2.2.2.2.2.2.2.2.2.1, u.2.2.2.2.2.2.2.2.2.2.2.2.2.2.2.2.2.2.1, u.2.2.2.2.2.2.2.2.2.2.2.2.2.2.2.2.2.2.2.1, u.2.2.2.2.2.2.2.2.2.2.2.2.2.2.2.2.2.2.2.2.1, u.2.2.2.2.2.2.2.2.2.2.2.2.2.2.2.2.2.2.2.2.2.1, u.2.2.2.2.2.2.2.2.2.2.2.2.2.2.2.2.2.2.2.2.2.2.1, u.2.2.2.2.2.2.2.2.2.2.2.2.2.2.2.2.2.2.2.2.2.2.2.1, u.2.2.2.2.2.2.2.2.2.2.2.2.2.2.2.2.2.2.2.2.2.2.2.2.1, u.2.2.2.2.2.2.2.2.2.2.2.2.2.2.2.2.2.2.2.2.2.2.2.2.2.1, u.2.2.2.2.2.2.2.2.2.2.2.2.2.2.2.2.2.2.2.2.2.2.2.2.2.2.1, u.2.2.2.2.2.2.2.2.2.2.2.2.2.2.2.2.2.2.2.2.2.2.2.2.2.2.2.1, v, u.2.2.2.2.2.2.2.2.2.2.2.2.2.2.2.2.2.2.2.2.2.2.2.2.2.2.2.2.2.1, u.2.2.2.2.2.2.2.2.2.2.2.2.2.2.2.2.2.2.2.2.2.2.2.2.2.2.2.2.2.2)
def Xs_leftText (u : XS) (v : Nat → Int32) : XS := (u.1, u.2.1, u.2.2.1, u.2.2.2.1, u.2.2.2.2.1, u.2.2.2.2.2.1, u.2.2.2.2.2.2.1, u.2.2.2.2.2.2.2.1, u.2.2.2.2.2.2.2.2.1, u.2.2.2.2.2.2.2.2.2.1, u.2.2.2.2.2.2.2.2.2.2.1, u.2.2.2.2.2.2.2.2.2.2.2.1, u.2.2.2.2.2.2.2.2.2.2.2.2.1, u.2.2.2.2.2.2.2.2.2.2.2.2.2.1, u.2.2.2.2.2.2.2.2.2.2.2.2.2.2.1, u.2.2.2.2.2.2.2.2.2.2.2.2.2.2.2.1, u.2.2.2.2.2.2.2.2.2.2.2.2.2.2.2.2.1, u.2.2.2.2.2.2.2.2.2.2.2.2.2.2.2.2.2.1, u.2.2.2.2.2.2.2.2.2.2.2.2.2.2.2.2.2.2.1, u.2.2.2.2.2.2.2.2.2.2.2.2.2.2.2.2.2.2.2.1, u.2.2.2.2.2.2.2.2.2.2.2.2.2.2.2.2.2.2.2.2.1, u.2.2.2.2.2.2.2.2.2.2.2.2.2.2.2.2.2.2.2.2.2.1, u.2.2.2.2.2.2.2.2.2.2.2.2.2.2.2.2.2.2.2.2.2.2.1, u.2.2.2.2.2.2.2.2.2.2.2.2.2.2.2.2.2.2.2.2.2.2.2.1, u.2.2.2.2.2.2.2.2.2.2.2.2.2.2.2.2.2.2.2.2.2.2.2.2.1, u.2.2.2.2.2.2.2.2.2.2.2.2.2.2.2.2.2.2.2.2.2.2.2.2.2.1, u.2.2.2.2.2.2.2.2.2.2.2.2.2.2.2.2.2.2.2.2.2.2.2.2.2.2.1, u.2.2.2.2.2.2.2.2.2.2.2.2.2.2.2.2.2.2.2.2.2.2.2.2.2.2.2.1, u.2.2.2.2.2.2.2.2.2.2.2.2.2.2.2.2.2.2.2.2.2.2.2.2.2.2.2.2.1, v, u.2.2.2.2.2.2.2.2.2.2.2.2.2.2.2.2.2.2.2.2.2.2.2.2.2.2.2.2.2.2)
def Xs_rightText (u : XS) (v : Nat → Int32) : XS := (u.1, u.2.1, u.2.2.1, u.2.2.2.1, u.2.2.2.2.1, u.2.2.2.2.2.1, u.2.2.2.2.2.2.1, u.2.2.2.2.2.2.2.1, u.2.2.2.2.2.2.2.2.1, u.2.2.2.2.2.2.2.2.2.1, u.2.2.2.2.2.2.2.2.2.2.1, u.2.2.2.2.2.2.2.2.2.2.2.1, u.2.2.2.2.2.2.2.2.2.2.2.2.1, u.2.2.2.2.2.2.2.2.2.2.2.2.2.1, u.2.2.2.2.2.2.2.2.2.2.2.2.2.2.1, u.2.2.2.2.2.2.2.2.2.2.2.2.2.2.2.1, u.2.2.2.2.2.2.2.2.2.2.2.2.2.2.2.2.1, u.2.2.2.2.2.2.2.2.2.2.2.2.2.2.2.2.2.1, u.2.2.2.2.2.2.2.2.2.2.2.2.2.2.2.2.2.2.1, u.2.2.2.2.2.2.2.2.2.2.2.2.2.2.2.2.2.2.2.1, u.2.2.2.2.2.2.2.2.2.2.2.2.2.2.2.2.2.2.2.2.1, u.2.2.2.2.2.2.2.2.2.2.2.2.2.2.2.2.2.2.2.2.2.1, u.2.2.2.2.2.2.2.2.2.2.2.2.2.2.2.2.2.2.2.2.2.2.1, u.2.2.2.2.2.2.2.2.2.2.2.2.2.2.2.2.2.2.2.2.2.2.2.1, u.2.2.2.2.2.2.2.2.2.2.2.2.2.2.2.2.2.2.2.2.2.2.2.2.1, u.2.2.2.2.2.2.2.2.2.2.2.2.2.2.2.2.2.2.2.2.2.2.2.2.2.1, u.2.2.2.2.2.2.2.2.2.2.2.2.2.2.2.2.2.2.2.2.2.2.2.2.2.2.1, u.2.2.2.2.2.2.2.2.2.2.2.2.2.2.2.2.2.2.2.2.2.2.2.2.2.2.2.1, u.2.2.2.2.2.2.2.2.2.2.2.2.2.2.2.2.2.2.2.2.2.2.2.2.2.2.2.2.1, u.2.2.2.2.2.2.2.2.2.2.2.2.2.2.2.2.2.2.2.2.2.2.2.2.2.2.2.2.2.1, v)
def wX (k : zK) (a : Nat → Nat) (u : XS) : va_W := [((a 0), .inr (0, [.int (Xg_whole u), .ref (a 1), .ref (a 6), .ref (a 8), .ref (a 13), .ref (a 17), .ref (a 22), .ref (a 26), .ref (a 27), .ref (a 28)])),
  ((a 1), .inr (1, [.ref (a 2), .ref (a 3), .ref (a 4), .ref (a 5), .int (Xg_fields_made u)])),
  ((a 2), .inl (k.2.1, 40, .inl (Xg_fields_category u))),
  ((a 3), .inl (k.2.1, 40, .inl (Xg_fields_size u))),
  ((a 4), .inl (k.2.1, 40, .inl (Xg_fields_scale u))),
  ((a 5), .inl (k.2.1, 1280, .inl (Xg_fields_bytes u))),
  ((a 6), .inr (2, [.ref (a 7)])),
  ((a 7), .inl (k.2.1, 256, .inl (Xg_weights_of u))),
  ((a 8), .inr (3, [.ref (a 9), .ref (a 10), .ref (a 11), .ref (a 12), .int (Xg_names_made u)])),
  ((a 9), .inl (k.2.1, 41, .inl (Xg_names_field u))),
  ((a 10), .inl (k.2.1, 41, .inl (Xg_names_ranges u))),
  ((a 11), .inl (k.2.2.1, 328, .inr (.inl (Xg_names_low u)))),
  ((a 12), .inl (k.2.2.1, 328, .inr (.inl (Xg_names_high u)))),
  ((a 13), .inr (4, [.ref (a 14), .ref (a 15), .ref (a 16), .int (Xg_nodes_made u)])),
  ((a 14), .inl (k.2.1, 201, .inl (Xg_nodes_op u))),
  ((a 15), .inl (k.2.1, 201, .inl (Xg_nodes_a u))),
  ((a 16), .inl (k.2.1, 201, .inl (Xg_nodes_b u))),
  ((a 17), .inr (5, [.ref (a 18), .ref (a 19), .ref (a 20), .ref (a 21), .int (Xg_row_subject u), .int (Xg_row_carried u), .int (Xg_row_length u)])),
  ((a 18), .inl (k.2.1, 20, .inl (Xg_row_with u))),
  ((a 19), .inl (k.2.1, 20, .inl (Xg_row_op u))),
  ((a 20), .inl (k.2.2.2, 20, .inl (Xg_row_negated u))),
  ((a 21), .inl (k.2.1, 20, .inl (Xg_row_object u))),
  ((a 22), .inr (6, [.ref (a 23), .ref (a 24), .ref (a 25), .int (Xg_testing_noted u), .int (Xg_testing_depth u)])),
  ((a 23), .inl (k.2.1, 201, .inl (Xg_testing_outcome u))),
  ((a 24), .inl (k.2.1, 200, .inl (Xg_testing_leaves u))),
  ((a 25), .inl (k.2.1, 200, .inl (Xg_testing_waiting u))),
  ((a 26), .inl (k.2.2.2, 16, .inl (Xg_switches u))),
  ((a 27), .inl (k.2.1, 32, .inl (Xg_leftText u))),
  ((a 28), .inl (k.2.1, 32, .inl (Xg_rightText u)))]
theorem XD {k : zK} {a : Nat → Nat} (hI : zI 29 a) (u : XS) : va_D (zA 29 a) (wX k a u) := zDg hI rfl
theorem Xq_whole_whole (u : XS) (v : Int32) : Xg_whole (Xs_whole u v) = v := rfl
theorem Xq_fields_made_whole (u : XS) (v : Int32) : Xg_fields_made (Xs_whole u v) = Xg_fields_made u := rfl
theorem Xq_fields_category_whole (u : XS) (v : Int32) : Xg_fields_category (Xs_whole u v) = Xg_fields_category u := rfl
theorem Xq_fields_size_whole (u : XS) (v : Int32) : Xg_fields_size (Xs_whole u v) = Xg_fields_size u := rfl
theorem Xq_fields_scale_whole (u : XS) (v : Int32) : Xg_fields_scale (Xs_whole u v) = Xg_fields_scale u := rfl
theorem Xq_fields_bytes_whole (u : XS) (v : Int32) : Xg_fields_bytes (Xs_whole u v) = Xg_fields_bytes u := rfl
theorem Xq_weights_of_whole (u : XS) (v : Int32) : Xg_weights_of (Xs_whole u v) = Xg_weights_of u := rfl
theorem Xq_names_made_whole (u : XS) (v : Int32) : Xg_names_made (Xs_whole u v) = Xg_names_made u := rfl
theorem Xq_names_field_whole (u : XS) (v : Int32) : Xg_names_field (Xs_whole u v) = Xg_names_field u := rfl
theorem Xq_names_ranges_whole (u : XS) (v : Int32) : Xg_names_ranges (Xs_whole u v) = Xg_names_ranges u := rfl
theorem Xq_names_low_whole (u : XS) (v : Int32) : Xg_names_low (Xs_whole u v) = Xg_names_low u := rfl
theorem Xq_names_high_whole (u : XS) (v : Int32) : Xg_names_high (Xs_whole u v) = Xg_names_high u := rfl
theorem Xq_nodes_made_whole (u : XS) (v : Int32) : Xg_nodes_made (Xs_whole u v) = Xg_nodes_made u := rfl
theorem Xq_nodes_op_whole (u : XS) (v : Int32) : Xg_nodes_op (Xs_whole u v) = Xg_nodes_op u := rfl
theorem Xq_nodes_a_whole (u : XS) (v : Int32) : Xg_nodes_a (Xs_whole u v) = Xg_nodes_a u := rfl
theorem Xq_nodes_b_whole (u : XS) (v : Int32) : Xg_nodes_b (Xs_whole u v) = Xg_nodes_b u := rfl
theorem Xq_row_subject_whole (u : XS) (v : Int32) : Xg_row_subject (Xs_whole u v) = Xg_row_subject u := rfl
theorem Xq_row_carried_whole (u : XS) (v : Int32) : Xg_row_carried (Xs_whole u v) = Xg_row_carried u := rfl
theorem Xq_row_length_whole (u : XS) (v : Int32) : Xg_row_length (Xs_whole u v) = Xg_row_length u := rfl
theorem Xq_row_with_whole (u : XS) (v : Int32) : Xg_row_with (Xs_whole u v) = Xg_row_with u := rfl
theorem Xq_row_op_whole (u : XS) (v : Int32) : Xg_row_op (Xs_whole u v) = Xg_row_op u := rfl
theorem Xq_row_negated_whole (u : XS) (v : Int32) : Xg_row_negated (Xs_whole u v) = Xg_row_negated u := rfl
theorem Xq_row_object_whole (u : XS) (v : Int32) : Xg_row_object (Xs_whole u v) = Xg_row_object u := rfl
theorem Xq_testing_noted_whole (u : XS) (v : Int32) : Xg_testing_noted (Xs_whole u v) = Xg_testing_noted u := rfl
theorem Xq_testing_depth_whole (u : XS) (v : Int32) : Xg_testing_depth (Xs_whole u v) = Xg_testing_depth u := rfl
theorem Xq_testing_outcome_whole (u : XS) (v : Int32) : Xg_testing_outcome (Xs_whole u v) = Xg_testing_outcome u := rfl
theorem Xq_testing_leaves_whole (u : XS) (v : Int32) : Xg_testing_leaves (Xs_whole u v) = Xg_testing_leaves u := rfl
theorem Xq_testing_waiting_whole (u : XS) (v : Int32) : Xg_testing_waiting (Xs_whole u v) = Xg_testing_waiting u := rfl
theorem Xq_switches_whole (u : XS) (v : Int32) : Xg_switches (Xs_whole u v) = Xg_switches u := rfl
theorem Xq_leftText_whole (u : XS) (v : Int32) : Xg_leftText (Xs_whole u v) = Xg_leftText u := rfl
theorem Xq_rightText_whole (u : XS) (v : Int32) : Xg_rightText (Xs_whole u v) = Xg_rightText u := rfl
theorem Xq_whole_fields_made (u : XS) (v : Int32) : Xg_whole (Xs_fields_made u v) = Xg_whole u := rfl
theorem Xq_fields_made_fields_made (u : XS) (v : Int32) : Xg_fields_made (Xs_fields_made u v) = v := rfl
theorem Xq_fields_category_fields_made (u : XS) (v : Int32) : Xg_fields_category (Xs_fields_made u v) = Xg_fields_category u := rfl
theorem Xq_fields_size_fields_made (u : XS) (v : Int32) : Xg_fields_size (Xs_fields_made u v) = Xg_fields_size u := rfl
theorem Xq_fields_scale_fields_made (u : XS) (v : Int32) : Xg_fields_scale (Xs_fields_made u v) = Xg_fields_scale u := rfl
theorem Xq_fields_bytes_fields_made (u : XS) (v : Int32) : Xg_fields_bytes (Xs_fields_made u v) = Xg_fields_bytes u := rfl
theorem Xq_weights_of_fields_made (u : XS) (v : Int32) : Xg_weights_of (Xs_fields_made u v) = Xg_weights_of u := rfl
theorem Xq_names_made_fields_made (u : XS) (v : Int32) : Xg_names_made (Xs_fields_made u v) = Xg_names_made u := rfl
theorem Xq_names_field_fields_made (u : XS) (v : Int32) : Xg_names_field (Xs_fields_made u v) = Xg_names_field u := rfl
theorem Xq_names_ranges_fields_made (u : XS) (v : Int32) : Xg_names_ranges (Xs_fields_made u v) = Xg_names_ranges u := rfl
theorem Xq_names_low_fields_made (u : XS) (v : Int32) : Xg_names_low (Xs_fields_made u v) = Xg_names_low u := rfl
theorem Xq_names_high_fields_made (u : XS) (v : Int32) : Xg_names_high (Xs_fields_made u v) = Xg_names_high u := rfl
theorem Xq_nodes_made_fields_made (u : XS) (v : Int32) : Xg_nodes_made (Xs_fields_made u v) = Xg_nodes_made u := rfl
theorem Xq_nodes_op_fields_made (u : XS) (v : Int32) : Xg_nodes_op (Xs_fields_made u v) = Xg_nodes_op u := rfl
theorem Xq_nodes_a_fields_made (u : XS) (v : Int32) : Xg_nodes_a (Xs_fields_made u v) = Xg_nodes_a u := rfl
theorem Xq_nodes_b_fields_made (u : XS) (v : Int32) : Xg_nodes_b (Xs_fields_made u v) = Xg_nodes_b u := rfl
theorem Xq_row_subject_fields_made (u : XS) (v : Int32) : Xg_row_subject (Xs_fields_made u v) = Xg_row_subject u := rfl
theorem Xq_row_carried_fields_made (u : XS) (v : Int32) : Xg_row_carried (Xs_fields_made u v) = Xg_row_carried u := rfl
theorem Xq_row_length_fields_made (u : XS) (v : Int32) : Xg_row_length (Xs_fields_made u v) = Xg_row_length u := rfl
theorem Xq_row_with_fields_made (u : XS) (v : Int32) : Xg_row_with (Xs_fields_made u v) = Xg_row_with u := rfl
theorem Xq_row_op_fields_made (u : XS) (v : Int32) : Xg_row_op (Xs_fields_made u v) = Xg_row_op u := rfl
theorem Xq_row_negated_fields_made (u : XS) (v : Int32) : Xg_row_negated (Xs_fields_made u v) = Xg_row_negated u := rfl
theorem Xq_row_object_fields_made (u : XS) (v : Int32) : Xg_row_object (Xs_fields_made u v) = Xg_row_object u := rfl
theorem Xq_testing_noted_fields_made (u : XS) (v : Int32) : Xg_testing_noted (Xs_fields_made u v) = Xg_testing_noted u := rfl
theorem Xq_testing_depth_fields_made (u : XS) (v : Int32) : Xg_testing_depth (Xs_fields_made u v) = Xg_testing_depth u := rfl
theorem Xq_testing_outcome_fields_made (u : XS) (v : Int32) : Xg_testing_outcome (Xs_fields_made u v) = Xg_testing_outcome u := rfl
theorem Xq_testing_leaves_fields_made (u : XS) (v : Int32) : Xg_testing_leaves (Xs_fields_made u v) = Xg_testing_leaves u := rfl
theorem Xq_testing_waiting_fields_made (u : XS) (v : Int32) : Xg_testing_waiting (Xs_fields_made u v) = Xg_testing_waiting u := rfl
theorem Xq_switches_fields_made (u : XS) (v : Int32) : Xg_switches (Xs_fields_made u v) = Xg_switches u := rfl
theorem Xq_leftText_fields_made (u : XS) (v : Int32) : Xg_leftText (Xs_fields_made u v) = Xg_leftText u := rfl
theorem Xq_rightText_fields_made (u : XS) (v : Int32) : Xg_rightText (Xs_fields_made u v) = Xg_rightText u := rfl
theorem Xq_whole_fields_category (u : XS) (v : Nat → Int32) : Xg_whole (Xs_fields_category u v) = Xg_whole u := rfl
theorem Xq_fields_made_fields_category (u : XS) (v : Nat → Int32) : Xg_fields_made (Xs_fields_category u v) = Xg_fields_made u := rfl
theorem Xq_fields_category_fields_category (u : XS) (v : Nat → Int32) : Xg_fields_category (Xs_fields_category u v) = v := rfl
theorem Xq_fields_size_fields_category (u : XS) (v : Nat → Int32) : Xg_fields_size (Xs_fields_category u v) = Xg_fields_size u := rfl
theorem Xq_fields_scale_fields_category (u : XS) (v : Nat → Int32) : Xg_fields_scale (Xs_fields_category u v) = Xg_fields_scale u := rfl
theorem Xq_fields_bytes_fields_category (u : XS) (v : Nat → Int32) : Xg_fields_bytes (Xs_fields_category u v) = Xg_fields_bytes u := rfl
theorem Xq_weights_of_fields_category (u : XS) (v : Nat → Int32) : Xg_weights_of (Xs_fields_category u v) = Xg_weights_of u := rfl
theorem Xq_names_made_fields_category (u : XS) (v : Nat → Int32) : Xg_names_made (Xs_fields_category u v) = Xg_names_made u := rfl
theorem Xq_names_field_fields_category (u : XS) (v : Nat → Int32) : Xg_names_field (Xs_fields_category u v) = Xg_names_field u := rfl
theorem Xq_names_ranges_fields_category (u : XS) (v : Nat → Int32) : Xg_names_ranges (Xs_fields_category u v) = Xg_names_ranges u := rfl
theorem Xq_names_low_fields_category (u : XS) (v : Nat → Int32) : Xg_names_low (Xs_fields_category u v) = Xg_names_low u := rfl
theorem Xq_names_high_fields_category (u : XS) (v : Nat → Int32) : Xg_names_high (Xs_fields_category u v) = Xg_names_high u := rfl
theorem Xq_nodes_made_fields_category (u : XS) (v : Nat → Int32) : Xg_nodes_made (Xs_fields_category u v) = Xg_nodes_made u := rfl
theorem Xq_nodes_op_fields_category (u : XS) (v : Nat → Int32) : Xg_nodes_op (Xs_fields_category u v) = Xg_nodes_op u := rfl
theorem Xq_nodes_a_fields_category (u : XS) (v : Nat → Int32) : Xg_nodes_a (Xs_fields_category u v) = Xg_nodes_a u := rfl
theorem Xq_nodes_b_fields_category (u : XS) (v : Nat → Int32) : Xg_nodes_b (Xs_fields_category u v) = Xg_nodes_b u := rfl
theorem Xq_row_subject_fields_category (u : XS) (v : Nat → Int32) : Xg_row_subject (Xs_fields_category u v) = Xg_row_subject u := rfl
theorem Xq_row_carried_fields_category (u : XS) (v : Nat → Int32) : Xg_row_carried (Xs_fields_category u v) = Xg_row_carried u := rfl
theorem Xq_row_length_fields_category (u : XS) (v : Nat → Int32) : Xg_row_length (Xs_fields_category u v) = Xg_row_length u := rfl
theorem Xq_row_with_fields_category (u : XS) (v : Nat → Int32) : Xg_row_with (Xs_fields_category u v) = Xg_row_with u := rfl
theorem Xq_row_op_fields_category (u : XS) (v : Nat → Int32) : Xg_row_op (Xs_fields_category u v) = Xg_row_op u := rfl
theorem Xq_row_negated_fields_category (u : XS) (v : Nat → Int32) : Xg_row_negated (Xs_fields_category u v) = Xg_row_negated u := rfl
theorem Xq_row_object_fields_category (u : XS) (v : Nat → Int32) : Xg_row_object (Xs_fields_category u v) = Xg_row_object u := rfl
theorem Xq_testing_noted_fields_category (u : XS) (v : Nat → Int32) : Xg_testing_noted (Xs_fields_category u v) = Xg_testing_noted u := rfl
theorem Xq_testing_depth_fields_category (u : XS) (v : Nat → Int32) : Xg_testing_depth (Xs_fields_category u v) = Xg_testing_depth u := rfl
theorem Xq_testing_outcome_fields_category (u : XS) (v : Nat → Int32) : Xg_testing_outcome (Xs_fields_category u v) = Xg_testing_outcome u := rfl
theorem Xq_testing_leaves_fields_category (u : XS) (v : Nat → Int32) : Xg_testing_leaves (Xs_fields_category u v) = Xg_testing_leaves u := rfl
theorem Xq_testing_waiting_fields_category (u : XS) (v : Nat → Int32) : Xg_testing_waiting (Xs_fields_category u v) = Xg_testing_waiting u := rfl
theorem Xq_switches_fields_category (u : XS) (v : Nat → Int32) : Xg_switches (Xs_fields_category u v) = Xg_switches u := rfl
theorem Xq_leftText_fields_category (u : XS) (v : Nat → Int32) : Xg_leftText (Xs_fields_category u v) = Xg_leftText u := rfl
theorem Xq_rightText_fields_category (u : XS) (v : Nat → Int32) : Xg_rightText (Xs_fields_category u v) = Xg_rightText u := rfl
theorem Xq_whole_fields_size (u : XS) (v : Nat → Int32) : Xg_whole (Xs_fields_size u v) = Xg_whole u := rfl
theorem Xq_fields_made_fields_size (u : XS) (v : Nat → Int32) : Xg_fields_made (Xs_fields_size u v) = Xg_fields_made u := rfl
theorem Xq_fields_category_fields_size (u : XS) (v : Nat → Int32) : Xg_fields_category (Xs_fields_size u v) = Xg_fields_category u := rfl
theorem Xq_fields_size_fields_size (u : XS) (v : Nat → Int32) : Xg_fields_size (Xs_fields_size u v) = v := rfl
theorem Xq_fields_scale_fields_size (u : XS) (v : Nat → Int32) : Xg_fields_scale (Xs_fields_size u v) = Xg_fields_scale u := rfl
theorem Xq_fields_bytes_fields_size (u : XS) (v : Nat → Int32) : Xg_fields_bytes (Xs_fields_size u v) = Xg_fields_bytes u := rfl
theorem Xq_weights_of_fields_size (u : XS) (v : Nat → Int32) : Xg_weights_of (Xs_fields_size u v) = Xg_weights_of u := rfl
theorem Xq_names_made_fields_size (u : XS) (v : Nat → Int32) : Xg_names_made (Xs_fields_size u v) = Xg_names_made u := rfl
theorem Xq_names_field_fields_size (u : XS) (v : Nat → Int32) : Xg_names_field (Xs_fields_size u v) = Xg_names_field u := rfl
theorem Xq_names_ranges_fields_size (u : XS) (v : Nat → Int32) : Xg_names_ranges (Xs_fields_size u v) = Xg_names_ranges u := rfl
theorem Xq_names_low_fields_size (u : XS) (v : Nat → Int32) : Xg_names_low (Xs_fields_size u v) = Xg_names_low u := rfl
theorem Xq_names_high_fields_size (u : XS) (v : Nat → Int32) : Xg_names_high (Xs_fields_size u v) = Xg_names_high u := rfl
theorem Xq_nodes_made_fields_size (u : XS) (v : Nat → Int32) : Xg_nodes_made (Xs_fields_size u v) = Xg_nodes_made u := rfl
theorem Xq_nodes_op_fields_size (u : XS) (v : Nat → Int32) : Xg_nodes_op (Xs_fields_size u v) = Xg_nodes_op u := rfl
theorem Xq_nodes_a_fields_size (u : XS) (v : Nat → Int32) : Xg_nodes_a (Xs_fields_size u v) = Xg_nodes_a u := rfl
theorem Xq_nodes_b_fields_size (u : XS) (v : Nat → Int32) : Xg_nodes_b (Xs_fields_size u v) = Xg_nodes_b u := rfl
theorem Xq_row_subject_fields_size (u : XS) (v : Nat → Int32) : Xg_row_subject (Xs_fields_size u v) = Xg_row_subject u := rfl
theorem Xq_row_carried_fields_size (u : XS) (v : Nat → Int32) : Xg_row_carried (Xs_fields_size u v) = Xg_row_carried u := rfl
theorem Xq_row_length_fields_size (u : XS) (v : Nat → Int32) : Xg_row_length (Xs_fields_size u v) = Xg_row_length u := rfl
theorem Xq_row_with_fields_size (u : XS) (v : Nat → Int32) : Xg_row_with (Xs_fields_size u v) = Xg_row_with u := rfl
theorem Xq_row_op_fields_size (u : XS) (v : Nat → Int32) : Xg_row_op (Xs_fields_size u v) = Xg_row_op u := rfl
theorem Xq_row_negated_fields_size (u : XS) (v : Nat → Int32) : Xg_row_negated (Xs_fields_size u v) = Xg_row_negated u := rfl
theorem Xq_row_object_fields_size (u : XS) (v : Nat → Int32) : Xg_row_object (Xs_fields_size u v) = Xg_row_object u := rfl
theorem Xq_testing_noted_fields_size (u : XS) (v : Nat → Int32) : Xg_testing_noted (Xs_fields_size u v) = Xg_testing_noted u := rfl
theorem Xq_testing_depth_fields_size (u : XS) (v : Nat → Int32) : Xg_testing_depth (Xs_fields_size u v) = Xg_testing_depth u := rfl
theorem Xq_testing_outcome_fields_size (u : XS) (v : Nat → Int32) : Xg_testing_outcome (Xs_fields_size u v) = Xg_testing_outcome u := rfl
theorem Xq_testing_leaves_fields_size (u : XS) (v : Nat → Int32) : Xg_testing_leaves (Xs_fields_size u v) = Xg_testing_leaves u := rfl
theorem Xq_testing_waiting_fields_size (u : XS) (v : Nat → Int32) : Xg_testing_waiting (Xs_fields_size u v) = Xg_testing_waiting u := rfl
theorem Xq_switches_fields_size (u : XS) (v : Nat → Int32) : Xg_switches (Xs_fields_size u v) = Xg_switches u := rfl
theorem Xq_leftText_fields_size (u : XS) (v : Nat → Int32) : Xg_leftText (Xs_fields_size u v) = Xg_leftText u := rfl
theorem Xq_rightText_fields_size (u : XS) (v : Nat → Int32) : Xg_rightText (Xs_fields_size u v) = Xg_rightText u := rfl
theorem Xq_whole_fields_scale (u : XS) (v : Nat → Int32) : Xg_whole (Xs_fields_scale u v) = Xg_whole u := rfl
theorem Xq_fields_made_fields_scale (u : XS) (v : Nat → Int32) : Xg_fields_made (Xs_fields_scale u v) = Xg_fields_made u := rfl
theorem Xq_fields_category_fields_scale (u : XS) (v : Nat → Int32) : Xg_fields_category (Xs_fields_scale u v) = Xg_fields_category u := rfl
theorem Xq_fields_size_fields_scale (u : XS) (v : Nat → Int32) : Xg_fields_size (Xs_fields_scale u v) = Xg_fields_size u := rfl
theorem Xq_fields_scale_fields_scale (u : XS) (v : Nat → Int32) : Xg_fields_scale (Xs_fields_scale u v) = v := rfl
theorem Xq_fields_bytes_fields_scale (u : XS) (v : Nat → Int32) : Xg_fields_bytes (Xs_fields_scale u v) = Xg_fields_bytes u := rfl
theorem Xq_weights_of_fields_scale (u : XS) (v : Nat → Int32) : Xg_weights_of (Xs_fields_scale u v) = Xg_weights_of u := rfl
theorem Xq_names_made_fields_scale (u : XS) (v : Nat → Int32) : Xg_names_made (Xs_fields_scale u v) = Xg_names_made u := rfl
theorem Xq_names_field_fields_scale (u : XS) (v : Nat → Int32) : Xg_names_field (Xs_fields_scale u v) = Xg_names_field u := rfl
theorem Xq_names_ranges_fields_scale (u : XS) (v : Nat → Int32) : Xg_names_ranges (Xs_fields_scale u v) = Xg_names_ranges u := rfl
theorem Xq_names_low_fields_scale (u : XS) (v : Nat → Int32) : Xg_names_low (Xs_fields_scale u v) = Xg_names_low u := rfl
theorem Xq_names_high_fields_scale (u : XS) (v : Nat → Int32) : Xg_names_high (Xs_fields_scale u v) = Xg_names_high u := rfl
theorem Xq_nodes_made_fields_scale (u : XS) (v : Nat → Int32) : Xg_nodes_made (Xs_fields_scale u v) = Xg_nodes_made u := rfl
theorem Xq_nodes_op_fields_scale (u : XS) (v : Nat → Int32) : Xg_nodes_op (Xs_fields_scale u v) = Xg_nodes_op u := rfl
theorem Xq_nodes_a_fields_scale (u : XS) (v : Nat → Int32) : Xg_nodes_a (Xs_fields_scale u v) = Xg_nodes_a u := rfl
theorem Xq_nodes_b_fields_scale (u : XS) (v : Nat → Int32) : Xg_nodes_b (Xs_fields_scale u v) = Xg_nodes_b u := rfl
theorem Xq_row_subject_fields_scale (u : XS) (v : Nat → Int32) : Xg_row_subject (Xs_fields_scale u v) = Xg_row_subject u := rfl
theorem Xq_row_carried_fields_scale (u : XS) (v : Nat → Int32) : Xg_row_carried (Xs_fields_scale u v) = Xg_row_carried u := rfl
theorem Xq_row_length_fields_scale (u : XS) (v : Nat → Int32) : Xg_row_length (Xs_fields_scale u v) = Xg_row_length u := rfl
theorem Xq_row_with_fields_scale (u : XS) (v : Nat → Int32) : Xg_row_with (Xs_fields_scale u v) = Xg_row_with u := rfl
theorem Xq_row_op_fields_scale (u : XS) (v : Nat → Int32) : Xg_row_op (Xs_fields_scale u v) = Xg_row_op u := rfl
theorem Xq_row_negated_fields_scale (u : XS) (v : Nat → Int32) : Xg_row_negated (Xs_fields_scale u v) = Xg_row_negated u := rfl
theorem Xq_row_object_fields_scale (u : XS) (v : Nat → Int32) : Xg_row_object (Xs_fields_scale u v) = Xg_row_object u := rfl
theorem Xq_testing_noted_fields_scale (u : XS) (v : Nat → Int32) : Xg_testing_noted (Xs_fields_scale u v) = Xg_testing_noted u := rfl
theorem Xq_testing_depth_fields_scale (u : XS) (v : Nat → Int32) : Xg_testing_depth (Xs_fields_scale u v) = Xg_testing_depth u := rfl
theorem Xq_testing_outcome_fields_scale (u : XS) (v : Nat → Int32) : Xg_testing_outcome (Xs_fields_scale u v) = Xg_testing_outcome u := rfl
theorem Xq_testing_leaves_fields_scale (u : XS) (v : Nat → Int32) : Xg_testing_leaves (Xs_fields_scale u v) = Xg_testing_leaves u := rfl
theorem Xq_testing_waiting_fields_scale (u : XS) (v : Nat → Int32) : Xg_testing_waiting (Xs_fields_scale u v) = Xg_testing_waiting u := rfl
theorem Xq_switches_fields_scale (u : XS) (v : Nat → Int32) : Xg_switches (Xs_fields_scale u v) = Xg_switches u := rfl
theorem Xq_leftText_fields_scale (u : XS) (v : Nat → Int32) : Xg_leftText (Xs_fields_scale u v) = Xg_leftText u := rfl
theorem Xq_rightText_fields_scale (u : XS) (v : Nat → Int32) : Xg_rightText (Xs_fields_scale u v) = Xg_rightText u := rfl
theorem Xq_whole_fields_bytes (u : XS) (v : Nat → Int32) : Xg_whole (Xs_fields_bytes u v) = Xg_whole u := rfl
theorem Xq_fields_made_fields_bytes (u : XS) (v : Nat → Int32) : Xg_fields_made (Xs_fields_bytes u v) = Xg_fields_made u := rfl
theorem Xq_fields_category_fields_bytes (u : XS) (v : Nat → Int32) : Xg_fields_category (Xs_fields_bytes u v) = Xg_fields_category u := rfl
theorem Xq_fields_size_fields_bytes (u : XS) (v : Nat → Int32) : Xg_fields_size (Xs_fields_bytes u v) = Xg_fields_size u := rfl
theorem Xq_fields_scale_fields_bytes (u : XS) (v : Nat → Int32) : Xg_fields_scale (Xs_fields_bytes u v) = Xg_fields_scale u := rfl
theorem Xq_fields_bytes_fields_bytes (u : XS) (v : Nat → Int32) : Xg_fields_bytes (Xs_fields_bytes u v) = v := rfl
theorem Xq_weights_of_fields_bytes (u : XS) (v : Nat → Int32) : Xg_weights_of (Xs_fields_bytes u v) = Xg_weights_of u := rfl
theorem Xq_names_made_fields_bytes (u : XS) (v : Nat → Int32) : Xg_names_made (Xs_fields_bytes u v) = Xg_names_made u := rfl
theorem Xq_names_field_fields_bytes (u : XS) (v : Nat → Int32) : Xg_names_field (Xs_fields_bytes u v) = Xg_names_field u := rfl
theorem Xq_names_ranges_fields_bytes (u : XS) (v : Nat → Int32) : Xg_names_ranges (Xs_fields_bytes u v) = Xg_names_ranges u := rfl
theorem Xq_names_low_fields_bytes (u : XS) (v : Nat → Int32) : Xg_names_low (Xs_fields_bytes u v) = Xg_names_low u := rfl
theorem Xq_names_high_fields_bytes (u : XS) (v : Nat → Int32) : Xg_names_high (Xs_fields_bytes u v) = Xg_names_high u := rfl
theorem Xq_nodes_made_fields_bytes (u : XS) (v : Nat → Int32) : Xg_nodes_made (Xs_fields_bytes u v) = Xg_nodes_made u := rfl
theorem Xq_nodes_op_fields_bytes (u : XS) (v : Nat → Int32) : Xg_nodes_op (Xs_fields_bytes u v) = Xg_nodes_op u := rfl
theorem Xq_nodes_a_fields_bytes (u : XS) (v : Nat → Int32) : Xg_nodes_a (Xs_fields_bytes u v) = Xg_nodes_a u := rfl
theorem Xq_nodes_b_fields_bytes (u : XS) (v : Nat → Int32) : Xg_nodes_b (Xs_fields_bytes u v) = Xg_nodes_b u := rfl
theorem Xq_row_subject_fields_bytes (u : XS) (v : Nat → Int32) : Xg_row_subject (Xs_fields_bytes u v) = Xg_row_subject u := rfl
theorem Xq_row_carried_fields_bytes (u : XS) (v : Nat → Int32) : Xg_row_carried (Xs_fields_bytes u v) = Xg_row_carried u := rfl
theorem Xq_row_length_fields_bytes (u : XS) (v : Nat → Int32) : Xg_row_length (Xs_fields_bytes u v) = Xg_row_length u := rfl
theorem Xq_row_with_fields_bytes (u : XS) (v : Nat → Int32) : Xg_row_with (Xs_fields_bytes u v) = Xg_row_with u := rfl
theorem Xq_row_op_fields_bytes (u : XS) (v : Nat → Int32) : Xg_row_op (Xs_fields_bytes u v) = Xg_row_op u := rfl
theorem Xq_row_negated_fields_bytes (u : XS) (v : Nat → Int32) : Xg_row_negated (Xs_fields_bytes u v) = Xg_row_negated u := rfl
theorem Xq_row_object_fields_bytes (u : XS) (v : Nat → Int32) : Xg_row_object (Xs_fields_bytes u v) = Xg_row_object u := rfl
theorem Xq_testing_noted_fields_bytes (u : XS) (v : Nat → Int32) : Xg_testing_noted (Xs_fields_bytes u v) = Xg_testing_noted u := rfl
theorem Xq_testing_depth_fields_bytes (u : XS) (v : Nat → Int32) : Xg_testing_depth (Xs_fields_bytes u v) = Xg_testing_depth u := rfl
theorem Xq_testing_outcome_fields_bytes (u : XS) (v : Nat → Int32) : Xg_testing_outcome (Xs_fields_bytes u v) = Xg_testing_outcome u := rfl
theorem Xq_testing_leaves_fields_bytes (u : XS) (v : Nat → Int32) : Xg_testing_leaves (Xs_fields_bytes u v) = Xg_testing_leaves u := rfl
theorem Xq_testing_waiting_fields_bytes (u : XS) (v : Nat → Int32) : Xg_testing_waiting (Xs_fields_bytes u v) = Xg_testing_waiting u := rfl
theorem Xq_switches_fields_bytes (u : XS) (v : Nat → Int32) : Xg_switches (Xs_fields_bytes u v) = Xg_switches u := rfl
theorem Xq_leftText_fields_bytes (u : XS) (v : Nat → Int32) : Xg_leftText (Xs_fields_bytes u v) = Xg_leftText u := rfl
theorem Xq_rightText_fields_bytes (u : XS) (v : Nat → Int32) : Xg_rightText (Xs_fields_bytes u v) = Xg_rightText u := rfl
theorem Xq_whole_weights_of (u : XS) (v : Nat → Int32) : Xg_whole (Xs_weights_of u v) = Xg_whole u := rfl
theorem Xq_fields_made_weights_of (u : XS) (v : Nat → Int32) : Xg_fields_made (Xs_weights_of u v) = Xg_fields_made u := rfl
theorem Xq_fields_category_weights_of (u : XS) (v : Nat → Int32) : Xg_fields_category (Xs_weights_of u v) = Xg_fields_category u := rfl
theorem Xq_fields_size_weights_of (u : XS) (v : Nat → Int32) : Xg_fields_size (Xs_weights_of u v) = Xg_fields_size u := rfl
theorem Xq_fields_scale_weights_of (u : XS) (v : Nat → Int32) : Xg_fields_scale (Xs_weights_of u v) = Xg_fields_scale u := rfl
theorem Xq_fields_bytes_weights_of (u : XS) (v : Nat → Int32) : Xg_fields_bytes (Xs_weights_of u v) = Xg_fields_bytes u := rfl
theorem Xq_weights_of_weights_of (u : XS) (v : Nat → Int32) : Xg_weights_of (Xs_weights_of u v) = v := rfl
theorem Xq_names_made_weights_of (u : XS) (v : Nat → Int32) : Xg_names_made (Xs_weights_of u v) = Xg_names_made u := rfl
theorem Xq_names_field_weights_of (u : XS) (v : Nat → Int32) : Xg_names_field (Xs_weights_of u v) = Xg_names_field u := rfl
theorem Xq_names_ranges_weights_of (u : XS) (v : Nat → Int32) : Xg_names_ranges (Xs_weights_of u v) = Xg_names_ranges u := rfl
theorem Xq_names_low_weights_of (u : XS) (v : Nat → Int32) : Xg_names_low (Xs_weights_of u v) = Xg_names_low u := rfl
theorem Xq_names_high_weights_of (u : XS) (v : Nat → Int32) : Xg_names_high (Xs_weights_of u v) = Xg_names_high u := rfl
theorem Xq_nodes_made_weights_of (u : XS) (v : Nat → Int32) : Xg_nodes_made (Xs_weights_of u v) = Xg_nodes_made u := rfl
theorem Xq_nodes_op_weights_of (u : XS) (v : Nat → Int32) : Xg_nodes_op (Xs_weights_of u v) = Xg_nodes_op u := rfl
theorem Xq_nodes_a_weights_of (u : XS) (v : Nat → Int32) : Xg_nodes_a (Xs_weights_of u v) = Xg_nodes_a u := rfl
theorem Xq_nodes_b_weights_of (u : XS) (v : Nat → Int32) : Xg_nodes_b (Xs_weights_of u v) = Xg_nodes_b u := rfl
theorem Xq_row_subject_weights_of (u : XS) (v : Nat → Int32) : Xg_row_subject (Xs_weights_of u v) = Xg_row_subject u := rfl
theorem Xq_row_carried_weights_of (u : XS) (v : Nat → Int32) : Xg_row_carried (Xs_weights_of u v) = Xg_row_carried u := rfl
theorem Xq_row_length_weights_of (u : XS) (v : Nat → Int32) : Xg_row_length (Xs_weights_of u v) = Xg_row_length u := rfl
theorem Xq_row_with_weights_of (u : XS) (v : Nat → Int32) : Xg_row_with (Xs_weights_of u v) = Xg_row_with u := rfl
theorem Xq_row_op_weights_of (u : XS) (v : Nat → Int32) : Xg_row_op (Xs_weights_of u v) = Xg_row_op u := rfl
theorem Xq_row_negated_weights_of (u : XS) (v : Nat → Int32) : Xg_row_negated (Xs_weights_of u v) = Xg_row_negated u := rfl
theorem Xq_row_object_weights_of (u : XS) (v : Nat → Int32) : Xg_row_object (Xs_weights_of u v) = Xg_row_object u := rfl
theorem Xq_testing_noted_weights_of (u : XS) (v : Nat → Int32) : Xg_testing_noted (Xs_weights_of u v) = Xg_testing_noted u := rfl
theorem Xq_testing_depth_weights_of (u : XS) (v : Nat → Int32) : Xg_testing_depth (Xs_weights_of u v) = Xg_testing_depth u := rfl
theorem Xq_testing_outcome_weights_of (u : XS) (v : Nat → Int32) : Xg_testing_outcome (Xs_weights_of u v) = Xg_testing_outcome u := rfl
theorem Xq_testing_leaves_weights_of (u : XS) (v : Nat → Int32) : Xg_testing_leaves (Xs_weights_of u v) = Xg_testing_leaves u := rfl
theorem Xq_testing_waiting_weights_of (u : XS) (v : Nat → Int32) : Xg_testing_waiting (Xs_weights_of u v) = Xg_testing_waiting u := rfl
theorem Xq_switches_weights_of (u : XS) (v : Nat → Int32) : Xg_switches (Xs_weights_of u v) = Xg_switches u := rfl
theorem Xq_leftText_weights_of (u : XS) (v : Nat → Int32) : Xg_leftText (Xs_weights_of u v) = Xg_leftText u := rfl
theorem Xq_rightText_weights_of (u : XS) (v : Nat → Int32) : Xg_rightText (Xs_weights_of u v) = Xg_rightText u := rfl
theorem Xq_whole_names_made (u : XS) (v : Int32) : Xg_whole (Xs_names_made u v) = Xg_whole u := rfl
theorem Xq_fields_made_names_made (u : XS) (v : Int32) : Xg_fields_made (Xs_names_made u v) = Xg_fields_made u := rfl
theorem Xq_fields_category_names_made (u : XS) (v : Int32) : Xg_fields_category (Xs_names_made u v) = Xg_fields_category u := rfl
theorem Xq_fields_size_names_made (u : XS) (v : Int32) : Xg_fields_size (Xs_names_made u v) = Xg_fields_size u := rfl
theorem Xq_fields_scale_names_made (u : XS) (v : Int32) : Xg_fields_scale (Xs_names_made u v) = Xg_fields_scale u := rfl
theorem Xq_fields_bytes_names_made (u : XS) (v : Int32) : Xg_fields_bytes (Xs_names_made u v) = Xg_fields_bytes u := rfl
theorem Xq_weights_of_names_made (u : XS) (v : Int32) : Xg_weights_of (Xs_names_made u v) = Xg_weights_of u := rfl
theorem Xq_names_made_names_made (u : XS) (v : Int32) : Xg_names_made (Xs_names_made u v) = v := rfl
theorem Xq_names_field_names_made (u : XS) (v : Int32) : Xg_names_field (Xs_names_made u v) = Xg_names_field u := rfl
theorem Xq_names_ranges_names_made (u : XS) (v : Int32) : Xg_names_ranges (Xs_names_made u v) = Xg_names_ranges u := rfl
theorem Xq_names_low_names_made (u : XS) (v : Int32) : Xg_names_low (Xs_names_made u v) = Xg_names_low u := rfl
theorem Xq_names_high_names_made (u : XS) (v : Int32) : Xg_names_high (Xs_names_made u v) = Xg_names_high u := rfl
theorem Xq_nodes_made_names_made (u : XS) (v : Int32) : Xg_nodes_made (Xs_names_made u v) = Xg_nodes_made u := rfl
theorem Xq_nodes_op_names_made (u : XS) (v : Int32) : Xg_nodes_op (Xs_names_made u v) = Xg_nodes_op u := rfl
theorem Xq_nodes_a_names_made (u : XS) (v : Int32) : Xg_nodes_a (Xs_names_made u v) = Xg_nodes_a u := rfl
theorem Xq_nodes_b_names_made (u : XS) (v : Int32) : Xg_nodes_b (Xs_names_made u v) = Xg_nodes_b u := rfl
theorem Xq_row_subject_names_made (u : XS) (v : Int32) : Xg_row_subject (Xs_names_made u v) = Xg_row_subject u := rfl
theorem Xq_row_carried_names_made (u : XS) (v : Int32) : Xg_row_carried (Xs_names_made u v) = Xg_row_carried u := rfl
theorem Xq_row_length_names_made (u : XS) (v : Int32) : Xg_row_length (Xs_names_made u v) = Xg_row_length u := rfl
theorem Xq_row_with_names_made (u : XS) (v : Int32) : Xg_row_with (Xs_names_made u v) = Xg_row_with u := rfl
theorem Xq_row_op_names_made (u : XS) (v : Int32) : Xg_row_op (Xs_names_made u v) = Xg_row_op u := rfl
theorem Xq_row_negated_names_made (u : XS) (v : Int32) : Xg_row_negated (Xs_names_made u v) = Xg_row_negated u := rfl
theorem Xq_row_object_names_made (u : XS) (v : Int32) : Xg_row_object (Xs_names_made u v) = Xg_row_object u := rfl
theorem Xq_testing_noted_names_made (u : XS) (v : Int32) : Xg_testing_noted (Xs_names_made u v) = Xg_testing_noted u := rfl
theorem Xq_testing_depth_names_made (u : XS) (v : Int32) : Xg_testing_depth (Xs_names_made u v) = Xg_testing_depth u := rfl
theorem Xq_testing_outcome_names_made (u : XS) (v : Int32) : Xg_testing_outcome (Xs_names_made u v) = Xg_testing_outcome u := rfl
theorem Xq_testing_leaves_names_made (u : XS) (v : Int32) : Xg_testing_leaves (Xs_names_made u v) = Xg_testing_leaves u := rfl
theorem Xq_testing_waiting_names_made (u : XS) (v : Int32) : Xg_testing_waiting (Xs_names_made u v) = Xg_testing_waiting u := rfl
theorem Xq_switches_names_made (u : XS) (v : Int32) : Xg_switches (Xs_names_made u v) = Xg_switches u := rfl
theorem Xq_leftText_names_made (u : XS) (v : Int32) : Xg_leftText (Xs_names_made u v) = Xg_leftText u := rfl
theorem Xq_rightText_names_made (u : XS) (v : Int32) : Xg_rightText (Xs_names_made u v) = Xg_rightText u := rfl
theorem Xq_whole_names_field (u : XS) (v : Nat → Int32) : Xg_whole (Xs_names_field u v) = Xg_whole u := rfl
theorem Xq_fields_made_names_field (u : XS) (v : Nat → Int32) : Xg_fields_made (Xs_names_field u v) = Xg_fields_made u := rfl
theorem Xq_fields_category_names_field (u : XS) (v : Nat → Int32) : Xg_fields_category (Xs_names_field u v) = Xg_fields_category u := rfl
theorem Xq_fields_size_names_field (u : XS) (v : Nat → Int32) : Xg_fields_size (Xs_names_field u v) = Xg_fields_size u := rfl
theorem Xq_fields_scale_names_field (u : XS) (v : Nat → Int32) : Xg_fields_scale (Xs_names_field u v) = Xg_fields_scale u := rfl
theorem Xq_fields_bytes_names_field (u : XS) (v : Nat → Int32) : Xg_fields_bytes (Xs_names_field u v) = Xg_fields_bytes u := rfl
theorem Xq_weights_of_names_field (u : XS) (v : Nat → Int32) : Xg_weights_of (Xs_names_field u v) = Xg_weights_of u := rfl
theorem Xq_names_made_names_field (u : XS) (v : Nat → Int32) : Xg_names_made (Xs_names_field u v) = Xg_names_made u := rfl
theorem Xq_names_field_names_field (u : XS) (v : Nat → Int32) : Xg_names_field (Xs_names_field u v) = v := rfl
theorem Xq_names_ranges_names_field (u : XS) (v : Nat → Int32) : Xg_names_ranges (Xs_names_field u v) = Xg_names_ranges u := rfl
theorem Xq_names_low_names_field (u : XS) (v : Nat → Int32) : Xg_names_low (Xs_names_field u v) = Xg_names_low u := rfl
theorem Xq_names_high_names_field (u : XS) (v : Nat → Int32) : Xg_names_high (Xs_names_field u v) = Xg_names_high u := rfl
theorem Xq_nodes_made_names_field (u : XS) (v : Nat → Int32) : Xg_nodes_made (Xs_names_field u v) = Xg_nodes_made u := rfl
theorem Xq_nodes_op_names_field (u : XS) (v : Nat → Int32) : Xg_nodes_op (Xs_names_field u v) = Xg_nodes_op u := rfl
theorem Xq_nodes_a_names_field (u : XS) (v : Nat → Int32) : Xg_nodes_a (Xs_names_field u v) = Xg_nodes_a u := rfl
theorem Xq_nodes_b_names_field (u : XS) (v : Nat → Int32) : Xg_nodes_b (Xs_names_field u v) = Xg_nodes_b u := rfl
theorem Xq_row_subject_names_field (u : XS) (v : Nat → Int32) : Xg_row_subject (Xs_names_field u v) = Xg_row_subject u := rfl
theorem Xq_row_carried_names_field (u : XS) (v : Nat → Int32) : Xg_row_carried (Xs_names_field u v) = Xg_row_carried u := rfl
theorem Xq_row_length_names_field (u : XS) (v : Nat → Int32) : Xg_row_length (Xs_names_field u v) = Xg_row_length u := rfl
theorem Xq_row_with_names_field (u : XS) (v : Nat → Int32) : Xg_row_with (Xs_names_field u v) = Xg_row_with u := rfl
theorem Xq_row_op_names_field (u : XS) (v : Nat → Int32) : Xg_row_op (Xs_names_field u v) = Xg_row_op u := rfl
theorem Xq_row_negated_names_field (u : XS) (v : Nat → Int32) : Xg_row_negated (Xs_names_field u v) = Xg_row_negated u := rfl
theorem Xq_row_object_names_field (u : XS) (v : Nat → Int32) : Xg_row_object (Xs_names_field u v) = Xg_row_object u := rfl
theorem Xq_testing_noted_names_field (u : XS) (v : Nat → Int32) : Xg_testing_noted (Xs_names_field u v) = Xg_testing_noted u := rfl
theorem Xq_testing_depth_names_field (u : XS) (v : Nat → Int32) : Xg_testing_depth (Xs_names_field u v) = Xg_testing_depth u := rfl
theorem Xq_testing_outcome_names_field (u : XS) (v : Nat → Int32) : Xg_testing_outcome (Xs_names_field u v) = Xg_testing_outcome u := rfl
theorem Xq_testing_leaves_names_field (u : XS) (v : Nat → Int32) : Xg_testing_leaves (Xs_names_field u v) = Xg_testing_leaves u := rfl
theorem Xq_testing_waiting_names_field (u : XS) (v : Nat → Int32) : Xg_testing_waiting (Xs_names_field u v) = Xg_testing_waiting u := rfl
theorem Xq_switches_names_field (u : XS) (v : Nat → Int32) : Xg_switches (Xs_names_field u v) = Xg_switches u := rfl
theorem Xq_leftText_names_field (u : XS) (v : Nat → Int32) : Xg_leftText (Xs_names_field u v) = Xg_leftText u := rfl
theorem Xq_rightText_names_field (u : XS) (v : Nat → Int32) : Xg_rightText (Xs_names_field u v) = Xg_rightText u := rfl
theorem Xq_whole_names_ranges (u : XS) (v : Nat → Int32) : Xg_whole (Xs_names_ranges u v) = Xg_whole u := rfl
theorem Xq_fields_made_names_ranges (u : XS) (v : Nat → Int32) : Xg_fields_made (Xs_names_ranges u v) = Xg_fields_made u := rfl
theorem Xq_fields_category_names_ranges (u : XS) (v : Nat → Int32) : Xg_fields_category (Xs_names_ranges u v) = Xg_fields_category u := rfl
theorem Xq_fields_size_names_ranges (u : XS) (v : Nat → Int32) : Xg_fields_size (Xs_names_ranges u v) = Xg_fields_size u := rfl
theorem Xq_fields_scale_names_ranges (u : XS) (v : Nat → Int32) : Xg_fields_scale (Xs_names_ranges u v) = Xg_fields_scale u := rfl
theorem Xq_fields_bytes_names_ranges (u : XS) (v : Nat → Int32) : Xg_fields_bytes (Xs_names_ranges u v) = Xg_fields_bytes u := rfl
theorem Xq_weights_of_names_ranges (u : XS) (v : Nat → Int32) : Xg_weights_of (Xs_names_ranges u v) = Xg_weights_of u := rfl
theorem Xq_names_made_names_ranges (u : XS) (v : Nat → Int32) : Xg_names_made (Xs_names_ranges u v) = Xg_names_made u := rfl
theorem Xq_names_field_names_ranges (u : XS) (v : Nat → Int32) : Xg_names_field (Xs_names_ranges u v) = Xg_names_field u := rfl
theorem Xq_names_ranges_names_ranges (u : XS) (v : Nat → Int32) : Xg_names_ranges (Xs_names_ranges u v) = v := rfl
theorem Xq_names_low_names_ranges (u : XS) (v : Nat → Int32) : Xg_names_low (Xs_names_ranges u v) = Xg_names_low u := rfl
theorem Xq_names_high_names_ranges (u : XS) (v : Nat → Int32) : Xg_names_high (Xs_names_ranges u v) = Xg_names_high u := rfl
theorem Xq_nodes_made_names_ranges (u : XS) (v : Nat → Int32) : Xg_nodes_made (Xs_names_ranges u v) = Xg_nodes_made u := rfl
theorem Xq_nodes_op_names_ranges (u : XS) (v : Nat → Int32) : Xg_nodes_op (Xs_names_ranges u v) = Xg_nodes_op u := rfl
theorem Xq_nodes_a_names_ranges (u : XS) (v : Nat → Int32) : Xg_nodes_a (Xs_names_ranges u v) = Xg_nodes_a u := rfl
theorem Xq_nodes_b_names_ranges (u : XS) (v : Nat → Int32) : Xg_nodes_b (Xs_names_ranges u v) = Xg_nodes_b u := rfl
theorem Xq_row_subject_names_ranges (u : XS) (v : Nat → Int32) : Xg_row_subject (Xs_names_ranges u v) = Xg_row_subject u := rfl
theorem Xq_row_carried_names_ranges (u : XS) (v : Nat → Int32) : Xg_row_carried (Xs_names_ranges u v) = Xg_row_carried u := rfl
theorem Xq_row_length_names_ranges (u : XS) (v : Nat → Int32) : Xg_row_length (Xs_names_ranges u v) = Xg_row_length u := rfl
theorem Xq_row_with_names_ranges (u : XS) (v : Nat → Int32) : Xg_row_with (Xs_names_ranges u v) = Xg_row_with u := rfl
theorem Xq_row_op_names_ranges (u : XS) (v : Nat → Int32) : Xg_row_op (Xs_names_ranges u v) = Xg_row_op u := rfl
theorem Xq_row_negated_names_ranges (u : XS) (v : Nat → Int32) : Xg_row_negated (Xs_names_ranges u v) = Xg_row_negated u := rfl
theorem Xq_row_object_names_ranges (u : XS) (v : Nat → Int32) : Xg_row_object (Xs_names_ranges u v) = Xg_row_object u := rfl
theorem Xq_testing_noted_names_ranges (u : XS) (v : Nat → Int32) : Xg_testing_noted (Xs_names_ranges u v) = Xg_testing_noted u := rfl
theorem Xq_testing_depth_names_ranges (u : XS) (v : Nat → Int32) : Xg_testing_depth (Xs_names_ranges u v) = Xg_testing_depth u := rfl
theorem Xq_testing_outcome_names_ranges (u : XS) (v : Nat → Int32) : Xg_testing_outcome (Xs_names_ranges u v) = Xg_testing_outcome u := rfl
theorem Xq_testing_leaves_names_ranges (u : XS) (v : Nat → Int32) : Xg_testing_leaves (Xs_names_ranges u v) = Xg_testing_leaves u := rfl
theorem Xq_testing_waiting_names_ranges (u : XS) (v : Nat → Int32) : Xg_testing_waiting (Xs_names_ranges u v) = Xg_testing_waiting u := rfl
theorem Xq_switches_names_ranges (u : XS) (v : Nat → Int32) : Xg_switches (Xs_names_ranges u v) = Xg_switches u := rfl
theorem Xq_leftText_names_ranges (u : XS) (v : Nat → Int32) : Xg_leftText (Xs_names_ranges u v) = Xg_leftText u := rfl
theorem Xq_rightText_names_ranges (u : XS) (v : Nat → Int32) : Xg_rightText (Xs_names_ranges u v) = Xg_rightText u := rfl
theorem Xq_whole_names_low (u : XS) (v : Nat → Int64) : Xg_whole (Xs_names_low u v) = Xg_whole u := rfl
theorem Xq_fields_made_names_low (u : XS) (v : Nat → Int64) : Xg_fields_made (Xs_names_low u v) = Xg_fields_made u := rfl
theorem Xq_fields_category_names_low (u : XS) (v : Nat → Int64) : Xg_fields_category (Xs_names_low u v) = Xg_fields_category u := rfl
theorem Xq_fields_size_names_low (u : XS) (v : Nat → Int64) : Xg_fields_size (Xs_names_low u v) = Xg_fields_size u := rfl
theorem Xq_fields_scale_names_low (u : XS) (v : Nat → Int64) : Xg_fields_scale (Xs_names_low u v) = Xg_fields_scale u := rfl
theorem Xq_fields_bytes_names_low (u : XS) (v : Nat → Int64) : Xg_fields_bytes (Xs_names_low u v) = Xg_fields_bytes u := rfl
theorem Xq_weights_of_names_low (u : XS) (v : Nat → Int64) : Xg_weights_of (Xs_names_low u v) = Xg_weights_of u := rfl
theorem Xq_names_made_names_low (u : XS) (v : Nat → Int64) : Xg_names_made (Xs_names_low u v) = Xg_names_made u := rfl
theorem Xq_names_field_names_low (u : XS) (v : Nat → Int64) : Xg_names_field (Xs_names_low u v) = Xg_names_field u := rfl
theorem Xq_names_ranges_names_low (u : XS) (v : Nat → Int64) : Xg_names_ranges (Xs_names_low u v) = Xg_names_ranges u := rfl
theorem Xq_names_low_names_low (u : XS) (v : Nat → Int64) : Xg_names_low (Xs_names_low u v) = v := rfl
theorem Xq_names_high_names_low (u : XS) (v : Nat → Int64) : Xg_names_high (Xs_names_low u v) = Xg_names_high u := rfl
theorem Xq_nodes_made_names_low (u : XS) (v : Nat → Int64) : Xg_nodes_made (Xs_names_low u v) = Xg_nodes_made u := rfl
theorem Xq_nodes_op_names_low (u : XS) (v : Nat → Int64) : Xg_nodes_op (Xs_names_low u v) = Xg_nodes_op u := rfl
theorem Xq_nodes_a_names_low (u : XS) (v : Nat → Int64) : Xg_nodes_a (Xs_names_low u v) = Xg_nodes_a u := rfl
theorem Xq_nodes_b_names_low (u : XS) (v : Nat → Int64) : Xg_nodes_b (Xs_names_low u v) = Xg_nodes_b u := rfl
theorem Xq_row_subject_names_low (u : XS) (v : Nat → Int64) : Xg_row_subject (Xs_names_low u v) = Xg_row_subject u := rfl
theorem Xq_row_carried_names_low (u : XS) (v : Nat → Int64) : Xg_row_carried (Xs_names_low u v) = Xg_row_carried u := rfl
theorem Xq_row_length_names_low (u : XS) (v : Nat → Int64) : Xg_row_length (Xs_names_low u v) = Xg_row_length u := rfl
theorem Xq_row_with_names_low (u : XS) (v : Nat → Int64) : Xg_row_with (Xs_names_low u v) = Xg_row_with u := rfl
theorem Xq_row_op_names_low (u : XS) (v : Nat → Int64) : Xg_row_op (Xs_names_low u v) = Xg_row_op u := rfl
theorem Xq_row_negated_names_low (u : XS) (v : Nat → Int64) : Xg_row_negated (Xs_names_low u v) = Xg_row_negated u := rfl
theorem Xq_row_object_names_low (u : XS) (v : Nat → Int64) : Xg_row_object (Xs_names_low u v) = Xg_row_object u := rfl
theorem Xq_testing_noted_names_low (u : XS) (v : Nat → Int64) : Xg_testing_noted (Xs_names_low u v) = Xg_testing_noted u := rfl
theorem Xq_testing_depth_names_low (u : XS) (v : Nat → Int64) : Xg_testing_depth (Xs_names_low u v) = Xg_testing_depth u := rfl
theorem Xq_testing_outcome_names_low (u : XS) (v : Nat → Int64) : Xg_testing_outcome (Xs_names_low u v) = Xg_testing_outcome u := rfl
theorem Xq_testing_leaves_names_low (u : XS) (v : Nat → Int64) : Xg_testing_leaves (Xs_names_low u v) = Xg_testing_leaves u := rfl
theorem Xq_testing_waiting_names_low (u : XS) (v : Nat → Int64) : Xg_testing_waiting (Xs_names_low u v) = Xg_testing_waiting u := rfl
theorem Xq_switches_names_low (u : XS) (v : Nat → Int64) : Xg_switches (Xs_names_low u v) = Xg_switches u := rfl
theorem Xq_leftText_names_low (u : XS) (v : Nat → Int64) : Xg_leftText (Xs_names_low u v) = Xg_leftText u := rfl
theorem Xq_rightText_names_low (u : XS) (v : Nat → Int64) : Xg_rightText (Xs_names_low u v) = Xg_rightText u := rfl
theorem Xq_whole_names_high (u : XS) (v : Nat → Int64) : Xg_whole (Xs_names_high u v) = Xg_whole u := rfl
theorem Xq_fields_made_names_high (u : XS) (v : Nat → Int64) : Xg_fields_made (Xs_names_high u v) = Xg_fields_made u := rfl
theorem Xq_fields_category_names_high (u : XS) (v : Nat → Int64) : Xg_fields_category (Xs_names_high u v) = Xg_fields_category u := rfl
theorem Xq_fields_size_names_high (u : XS) (v : Nat → Int64) : Xg_fields_size (Xs_names_high u v) = Xg_fields_size u := rfl
theorem Xq_fields_scale_names_high (u : XS) (v : Nat → Int64) : Xg_fields_scale (Xs_names_high u v) = Xg_fields_scale u := rfl
theorem Xq_fields_bytes_names_high (u : XS) (v : Nat → Int64) : Xg_fields_bytes (Xs_names_high u v) = Xg_fields_bytes u := rfl
theorem Xq_weights_of_names_high (u : XS) (v : Nat → Int64) : Xg_weights_of (Xs_names_high u v) = Xg_weights_of u := rfl
theorem Xq_names_made_names_high (u : XS) (v : Nat → Int64) : Xg_names_made (Xs_names_high u v) = Xg_names_made u := rfl
theorem Xq_names_field_names_high (u : XS) (v : Nat → Int64) : Xg_names_field (Xs_names_high u v) = Xg_names_field u := rfl
theorem Xq_names_ranges_names_high (u : XS) (v : Nat → Int64) : Xg_names_ranges (Xs_names_high u v) = Xg_names_ranges u := rfl
theorem Xq_names_low_names_high (u : XS) (v : Nat → Int64) : Xg_names_low (Xs_names_high u v) = Xg_names_low u := rfl
theorem Xq_names_high_names_high (u : XS) (v : Nat → Int64) : Xg_names_high (Xs_names_high u v) = v := rfl
theorem Xq_nodes_made_names_high (u : XS) (v : Nat → Int64) : Xg_nodes_made (Xs_names_high u v) = Xg_nodes_made u := rfl
theorem Xq_nodes_op_names_high (u : XS) (v : Nat → Int64) : Xg_nodes_op (Xs_names_high u v) = Xg_nodes_op u := rfl
theorem Xq_nodes_a_names_high (u : XS) (v : Nat → Int64) : Xg_nodes_a (Xs_names_high u v) = Xg_nodes_a u := rfl
theorem Xq_nodes_b_names_high (u : XS) (v : Nat → Int64) : Xg_nodes_b (Xs_names_high u v) = Xg_nodes_b u := rfl
theorem Xq_row_subject_names_high (u : XS) (v : Nat → Int64) : Xg_row_subject (Xs_names_high u v) = Xg_row_subject u := rfl
theorem Xq_row_carried_names_high (u : XS) (v : Nat → Int64) : Xg_row_carried (Xs_names_high u v) = Xg_row_carried u := rfl
theorem Xq_row_length_names_high (u : XS) (v : Nat → Int64) : Xg_row_length (Xs_names_high u v) = Xg_row_length u := rfl
theorem Xq_row_with_names_high (u : XS) (v : Nat → Int64) : Xg_row_with (Xs_names_high u v) = Xg_row_with u := rfl
theorem Xq_row_op_names_high (u : XS) (v : Nat → Int64) : Xg_row_op (Xs_names_high u v) = Xg_row_op u := rfl
theorem Xq_row_negated_names_high (u : XS) (v : Nat → Int64) : Xg_row_negated (Xs_names_high u v) = Xg_row_negated u := rfl
theorem Xq_row_object_names_high (u : XS) (v : Nat → Int64) : Xg_row_object (Xs_names_high u v) = Xg_row_object u := rfl
theorem Xq_testing_noted_names_high (u : XS) (v : Nat → Int64) : Xg_testing_noted (Xs_names_high u v) = Xg_testing_noted u := rfl
theorem Xq_testing_depth_names_high (u : XS) (v : Nat → Int64) : Xg_testing_depth (Xs_names_high u v) = Xg_testing_depth u := rfl
theorem Xq_testing_outcome_names_high (u : XS) (v : Nat → Int64) : Xg_testing_outcome (Xs_names_high u v) = Xg_testing_outcome u := rfl
theorem Xq_testing_leaves_names_high (u : XS) (v : Nat → Int64) : Xg_testing_leaves (Xs_names_high u v) = Xg_testing_leaves u := rfl
theorem Xq_testing_waiting_names_high (u : XS) (v : Nat → Int64) : Xg_testing_waiting (Xs_names_high u v) = Xg_testing_waiting u := rfl
theorem Xq_switches_names_high (u : XS) (v : Nat → Int64) : Xg_switches (Xs_names_high u v) = Xg_switches u := rfl
theorem Xq_leftText_names_high (u : XS) (v : Nat → Int64) : Xg_leftText (Xs_names_high u v) = Xg_leftText u := rfl
theorem Xq_rightText_names_high (u : XS) (v : Nat → Int64) : Xg_rightText (Xs_names_high u v) = Xg_rightText u := rfl
theorem Xq_whole_nodes_made (u : XS) (v : Int32) : Xg_whole (Xs_nodes_made u v) = Xg_whole u := rfl
theorem Xq_fields_made_nodes_made (u : XS) (v : Int32) : Xg_fields_made (Xs_nodes_made u v) = Xg_fields_made u := rfl
theorem Xq_fields_category_nodes_made (u : XS) (v : Int32) : Xg_fields_category (Xs_nodes_made u v) = Xg_fields_category u := rfl
theorem Xq_fields_size_nodes_made (u : XS) (v : Int32) : Xg_fields_size (Xs_nodes_made u v) = Xg_fields_size u := rfl
theorem Xq_fields_scale_nodes_made (u : XS) (v : Int32) : Xg_fields_scale (Xs_nodes_made u v) = Xg_fields_scale u := rfl
theorem Xq_fields_bytes_nodes_made (u : XS) (v : Int32) : Xg_fields_bytes (Xs_nodes_made u v) = Xg_fields_bytes u := rfl
theorem Xq_weights_of_nodes_made (u : XS) (v : Int32) : Xg_weights_of (Xs_nodes_made u v) = Xg_weights_of u := rfl
theorem Xq_names_made_nodes_made (u : XS) (v : Int32) : Xg_names_made (Xs_nodes_made u v) = Xg_names_made u := rfl
theorem Xq_names_field_nodes_made (u : XS) (v : Int32) : Xg_names_field (Xs_nodes_made u v) = Xg_names_field u := rfl
theorem Xq_names_ranges_nodes_made (u : XS) (v : Int32) : Xg_names_ranges (Xs_nodes_made u v) = Xg_names_ranges u := rfl
theorem Xq_names_low_nodes_made (u : XS) (v : Int32) : Xg_names_low (Xs_nodes_made u v) = Xg_names_low u := rfl
theorem Xq_names_high_nodes_made (u : XS) (v : Int32) : Xg_names_high (Xs_nodes_made u v) = Xg_names_high u := rfl
theorem Xq_nodes_made_nodes_made (u : XS) (v : Int32) : Xg_nodes_made (Xs_nodes_made u v) = v := rfl
theorem Xq_nodes_op_nodes_made (u : XS) (v : Int32) : Xg_nodes_op (Xs_nodes_made u v) = Xg_nodes_op u := rfl
theorem Xq_nodes_a_nodes_made (u : XS) (v : Int32) : Xg_nodes_a (Xs_nodes_made u v) = Xg_nodes_a u := rfl
theorem Xq_nodes_b_nodes_made (u : XS) (v : Int32) : Xg_nodes_b (Xs_nodes_made u v) = Xg_nodes_b u := rfl
theorem Xq_row_subject_nodes_made (u : XS) (v : Int32) : Xg_row_subject (Xs_nodes_made u v) = Xg_row_subject u := rfl
theorem Xq_row_carried_nodes_made (u : XS) (v : Int32) : Xg_row_carried (Xs_nodes_made u v) = Xg_row_carried u := rfl
theorem Xq_row_length_nodes_made (u : XS) (v : Int32) : Xg_row_length (Xs_nodes_made u v) = Xg_row_length u := rfl
theorem Xq_row_with_nodes_made (u : XS) (v : Int32) : Xg_row_with (Xs_nodes_made u v) = Xg_row_with u := rfl
theorem Xq_row_op_nodes_made (u : XS) (v : Int32) : Xg_row_op (Xs_nodes_made u v) = Xg_row_op u := rfl
theorem Xq_row_negated_nodes_made (u : XS) (v : Int32) : Xg_row_negated (Xs_nodes_made u v) = Xg_row_negated u := rfl
theorem Xq_row_object_nodes_made (u : XS) (v : Int32) : Xg_row_object (Xs_nodes_made u v) = Xg_row_object u := rfl
theorem Xq_testing_noted_nodes_made (u : XS) (v : Int32) : Xg_testing_noted (Xs_nodes_made u v) = Xg_testing_noted u := rfl
theorem Xq_testing_depth_nodes_made (u : XS) (v : Int32) : Xg_testing_depth (Xs_nodes_made u v) = Xg_testing_depth u := rfl
theorem Xq_testing_outcome_nodes_made (u : XS) (v : Int32) : Xg_testing_outcome (Xs_nodes_made u v) = Xg_testing_outcome u := rfl
theorem Xq_testing_leaves_nodes_made (u : XS) (v : Int32) : Xg_testing_leaves (Xs_nodes_made u v) = Xg_testing_leaves u := rfl
theorem Xq_testing_waiting_nodes_made (u : XS) (v : Int32) : Xg_testing_waiting (Xs_nodes_made u v) = Xg_testing_waiting u := rfl
theorem Xq_switches_nodes_made (u : XS) (v : Int32) : Xg_switches (Xs_nodes_made u v) = Xg_switches u := rfl
theorem Xq_leftText_nodes_made (u : XS) (v : Int32) : Xg_leftText (Xs_nodes_made u v) = Xg_leftText u := rfl
theorem Xq_rightText_nodes_made (u : XS) (v : Int32) : Xg_rightText (Xs_nodes_made u v) = Xg_rightText u := rfl
theorem Xq_whole_nodes_op (u : XS) (v : Nat → Int32) : Xg_whole (Xs_nodes_op u v) = Xg_whole u := rfl
theorem Xq_fields_made_nodes_op (u : XS) (v : Nat → Int32) : Xg_fields_made (Xs_nodes_op u v) = Xg_fields_made u := rfl
theorem Xq_fields_category_nodes_op (u : XS) (v : Nat → Int32) : Xg_fields_category (Xs_nodes_op u v) = Xg_fields_category u := rfl
theorem Xq_fields_size_nodes_op (u : XS) (v : Nat → Int32) : Xg_fields_size (Xs_nodes_op u v) = Xg_fields_size u := rfl
theorem Xq_fields_scale_nodes_op (u : XS) (v : Nat → Int32) : Xg_fields_scale (Xs_nodes_op u v) = Xg_fields_scale u := rfl
theorem Xq_fields_bytes_nodes_op (u : XS) (v : Nat → Int32) : Xg_fields_bytes (Xs_nodes_op u v) = Xg_fields_bytes u := rfl
theorem Xq_weights_of_nodes_op (u : XS) (v : Nat → Int32) : Xg_weights_of (Xs_nodes_op u v) = Xg_weights_of u := rfl
theorem Xq_names_made_nodes_op (u : XS) (v : Nat → Int32) : Xg_names_made (Xs_nodes_op u v) = Xg_names_made u := rfl
theorem Xq_names_field_nodes_op (u : XS) (v : Nat → Int32) : Xg_names_field (Xs_nodes_op u v) = Xg_names_field u := rfl
theorem Xq_names_ranges_nodes_op (u : XS) (v : Nat → Int32) : Xg_names_ranges (Xs_nodes_op u v) = Xg_names_ranges u := rfl
theorem Xq_names_low_nodes_op (u : XS) (v : Nat → Int32) : Xg_names_low (Xs_nodes_op u v) = Xg_names_low u := rfl
theorem Xq_names_high_nodes_op (u : XS) (v : Nat → Int32) : Xg_names_high (Xs_nodes_op u v) = Xg_names_high u := rfl
theorem Xq_nodes_made_nodes_op (u : XS) (v : Nat → Int32) : Xg_nodes_made (Xs_nodes_op u v) = Xg_nodes_made u := rfl
theorem Xq_nodes_op_nodes_op (u : XS) (v : Nat → Int32) : Xg_nodes_op (Xs_nodes_op u v) = v := rfl
theorem Xq_nodes_a_nodes_op (u : XS) (v : Nat → Int32) : Xg_nodes_a (Xs_nodes_op u v) = Xg_nodes_a u := rfl
theorem Xq_nodes_b_nodes_op (u : XS) (v : Nat → Int32) : Xg_nodes_b (Xs_nodes_op u v) = Xg_nodes_b u := rfl
theorem Xq_row_subject_nodes_op (u : XS) (v : Nat → Int32) : Xg_row_subject (Xs_nodes_op u v) = Xg_row_subject u := rfl
theorem Xq_row_carried_nodes_op (u : XS) (v : Nat → Int32) : Xg_row_carried (Xs_nodes_op u v) = Xg_row_carried u := rfl
theorem Xq_row_length_nodes_op (u : XS) (v : Nat → Int32) : Xg_row_length (Xs_nodes_op u v) = Xg_row_length u := rfl
theorem Xq_row_with_nodes_op (u : XS) (v : Nat → Int32) : Xg_row_with (Xs_nodes_op u v) = Xg_row_with u := rfl
theorem Xq_row_op_nodes_op (u : XS) (v : Nat → Int32) : Xg_row_op (Xs_nodes_op u v) = Xg_row_op u := rfl
theorem Xq_row_negated_nodes_op (u : XS) (v : Nat → Int32) : Xg_row_negated (Xs_nodes_op u v) = Xg_row_negated u := rfl
theorem Xq_row_object_nodes_op (u : XS) (v : Nat → Int32) : Xg_row_object (Xs_nodes_op u v) = Xg_row_object u := rfl
theorem Xq_testing_noted_nodes_op (u : XS) (v : Nat → Int32) : Xg_testing_noted (Xs_nodes_op u v) = Xg_testing_noted u := rfl
theorem Xq_testing_depth_nodes_op (u : XS) (v : Nat → Int32) : Xg_testing_depth (Xs_nodes_op u v) = Xg_testing_depth u := rfl
theorem Xq_testing_outcome_nodes_op (u : XS) (v : Nat → Int32) : Xg_testing_outcome (Xs_nodes_op u v) = Xg_testing_outcome u := rfl
theorem Xq_testing_leaves_nodes_op (u : XS) (v : Nat → Int32) : Xg_testing_leaves (Xs_nodes_op u v) = Xg_testing_leaves u := rfl
theorem Xq_testing_waiting_nodes_op (u : XS) (v : Nat → Int32) : Xg_testing_waiting (Xs_nodes_op u v) = Xg_testing_waiting u := rfl
theorem Xq_switches_nodes_op (u : XS) (v : Nat → Int32) : Xg_switches (Xs_nodes_op u v) = Xg_switches u := rfl
theorem Xq_leftText_nodes_op (u : XS) (v : Nat → Int32) : Xg_leftText (Xs_nodes_op u v) = Xg_leftText u := rfl
theorem Xq_rightText_nodes_op (u : XS) (v : Nat → Int32) : Xg_rightText (Xs_nodes_op u v) = Xg_rightText u := rfl
theorem Xq_whole_nodes_a (u : XS) (v : Nat → Int32) : Xg_whole (Xs_nodes_a u v) = Xg_whole u := rfl
theorem Xq_fields_made_nodes_a (u : XS) (v : Nat → Int32) : Xg_fields_made (Xs_nodes_a u v) = Xg_fields_made u := rfl
theorem Xq_fields_category_nodes_a (u : XS) (v : Nat → Int32) : Xg_fields_category (Xs_nodes_a u v) = Xg_fields_category u := rfl
theorem Xq_fields_size_nodes_a (u : XS) (v : Nat → Int32) : Xg_fields_size (Xs_nodes_a u v) = Xg_fields_size u := rfl
theorem Xq_fields_scale_nodes_a (u : XS) (v : Nat → Int32) : Xg_fields_scale (Xs_nodes_a u v) = Xg_fields_scale u := rfl
theorem Xq_fields_bytes_nodes_a (u : XS) (v : Nat → Int32) : Xg_fields_bytes (Xs_nodes_a u v) = Xg_fields_bytes u := rfl
theorem Xq_weights_of_nodes_a (u : XS) (v : Nat → Int32) : Xg_weights_of (Xs_nodes_a u v) = Xg_weights_of u := rfl
theorem Xq_names_made_nodes_a (u : XS) (v : Nat → Int32) : Xg_names_made (Xs_nodes_a u v) = Xg_names_made u := rfl
theorem Xq_names_field_nodes_a (u : XS) (v : Nat → Int32) : Xg_names_field (Xs_nodes_a u v) = Xg_names_field u := rfl
theorem Xq_names_ranges_nodes_a (u : XS) (v : Nat → Int32) : Xg_names_ranges (Xs_nodes_a u v) = Xg_names_ranges u := rfl
theorem Xq_names_low_nodes_a (u : XS) (v : Nat → Int32) : Xg_names_low (Xs_nodes_a u v) = Xg_names_low u := rfl
theorem Xq_names_high_nodes_a (u : XS) (v : Nat → Int32) : Xg_names_high (Xs_nodes_a u v) = Xg_names_high u := rfl
theorem Xq_nodes_made_nodes_a (u : XS) (v : Nat → Int32) : Xg_nodes_made (Xs_nodes_a u v) = Xg_nodes_made u := rfl
theorem Xq_nodes_op_nodes_a (u : XS) (v : Nat → Int32) : Xg_nodes_op (Xs_nodes_a u v) = Xg_nodes_op u := rfl
theorem Xq_nodes_a_nodes_a (u : XS) (v : Nat → Int32) : Xg_nodes_a (Xs_nodes_a u v) = v := rfl
theorem Xq_nodes_b_nodes_a (u : XS) (v : Nat → Int32) : Xg_nodes_b (Xs_nodes_a u v) = Xg_nodes_b u := rfl
theorem Xq_row_subject_nodes_a (u : XS) (v : Nat → Int32) : Xg_row_subject (Xs_nodes_a u v) = Xg_row_subject u := rfl
theorem Xq_row_carried_nodes_a (u : XS) (v : Nat → Int32) : Xg_row_carried (Xs_nodes_a u v) = Xg_row_carried u := rfl
theorem Xq_row_length_nodes_a (u : XS) (v : Nat → Int32) : Xg_row_length (Xs_nodes_a u v) = Xg_row_length u := rfl
theorem Xq_row_with_nodes_a (u : XS) (v : Nat → Int32) : Xg_row_with (Xs_nodes_a u v) = Xg_row_with u := rfl
theorem Xq_row_op_nodes_a (u : XS) (v : Nat → Int32) : Xg_row_op (Xs_nodes_a u v) = Xg_row_op u := rfl
theorem Xq_row_negated_nodes_a (u : XS) (v : Nat → Int32) : Xg_row_negated (Xs_nodes_a u v) = Xg_row_negated u := rfl
theorem Xq_row_object_nodes_a (u : XS) (v : Nat → Int32) : Xg_row_object (Xs_nodes_a u v) = Xg_row_object u := rfl
theorem Xq_testing_noted_nodes_a (u : XS) (v : Nat → Int32) : Xg_testing_noted (Xs_nodes_a u v) = Xg_testing_noted u := rfl
theorem Xq_testing_depth_nodes_a (u : XS) (v : Nat → Int32) : Xg_testing_depth (Xs_nodes_a u v) = Xg_testing_depth u := rfl
theorem Xq_testing_outcome_nodes_a (u : XS) (v : Nat → Int32) : Xg_testing_outcome (Xs_nodes_a u v) = Xg_testing_outcome u := rfl
theorem Xq_testing_leaves_nodes_a (u : XS) (v : Nat → Int32) : Xg_testing_leaves (Xs_nodes_a u v) = Xg_testing_leaves u := rfl
theorem Xq_testing_waiting_nodes_a (u : XS) (v : Nat → Int32) : Xg_testing_waiting (Xs_nodes_a u v) = Xg_testing_waiting u := rfl
theorem Xq_switches_nodes_a (u : XS) (v : Nat → Int32) : Xg_switches (Xs_nodes_a u v) = Xg_switches u := rfl
theorem Xq_leftText_nodes_a (u : XS) (v : Nat → Int32) : Xg_leftText (Xs_nodes_a u v) = Xg_leftText u := rfl
theorem Xq_rightText_nodes_a (u : XS) (v : Nat → Int32) : Xg_rightText (Xs_nodes_a u v) = Xg_rightText u := rfl
theorem Xq_whole_nodes_b (u : XS) (v : Nat → Int32) : Xg_whole (Xs_nodes_b u v) = Xg_whole u := rfl
theorem Xq_fields_made_nodes_b (u : XS) (v : Nat → Int32) : Xg_fields_made (Xs_nodes_b u v) = Xg_fields_made u := rfl
theorem Xq_fields_category_nodes_b (u : XS) (v : Nat → Int32) : Xg_fields_category (Xs_nodes_b u v) = Xg_fields_category u := rfl
theorem Xq_fields_size_nodes_b (u : XS) (v : Nat → Int32) : Xg_fields_size (Xs_nodes_b u v) = Xg_fields_size u := rfl
theorem Xq_fields_scale_nodes_b (u : XS) (v : Nat → Int32) : Xg_fields_scale (Xs_nodes_b u v) = Xg_fields_scale u := rfl
theorem Xq_fields_bytes_nodes_b (u : XS) (v : Nat → Int32) : Xg_fields_bytes (Xs_nodes_b u v) = Xg_fields_bytes u := rfl
theorem Xq_weights_of_nodes_b (u : XS) (v : Nat → Int32) : Xg_weights_of (Xs_nodes_b u v) = Xg_weights_of u := rfl
theorem Xq_names_made_nodes_b (u : XS) (v : Nat → Int32) : Xg_names_made (Xs_nodes_b u v) = Xg_names_made u := rfl
theorem Xq_names_field_nodes_b (u : XS) (v : Nat → Int32) : Xg_names_field (Xs_nodes_b u v) = Xg_names_field u := rfl
theorem Xq_names_ranges_nodes_b (u : XS) (v : Nat → Int32) : Xg_names_ranges (Xs_nodes_b u v) = Xg_names_ranges u := rfl
theorem Xq_names_low_nodes_b (u : XS) (v : Nat → Int32) : Xg_names_low (Xs_nodes_b u v) = Xg_names_low u := rfl
theorem Xq_names_high_nodes_b (u : XS) (v : Nat → Int32) : Xg_names_high (Xs_nodes_b u v) = Xg_names_high u := rfl
theorem Xq_nodes_made_nodes_b (u : XS) (v : Nat → Int32) : Xg_nodes_made (Xs_nodes_b u v) = Xg_nodes_made u := rfl
theorem Xq_nodes_op_nodes_b (u : XS) (v : Nat → Int32) : Xg_nodes_op (Xs_nodes_b u v) = Xg_nodes_op u := rfl
theorem Xq_nodes_a_nodes_b (u : XS) (v : Nat → Int32) : Xg_nodes_a (Xs_nodes_b u v) = Xg_nodes_a u := rfl
theorem Xq_nodes_b_nodes_b (u : XS) (v : Nat → Int32) : Xg_nodes_b (Xs_nodes_b u v) = v := rfl
theorem Xq_row_subject_nodes_b (u : XS) (v : Nat → Int32) : Xg_row_subject (Xs_nodes_b u v) = Xg_row_subject u := rfl
theorem Xq_row_carried_nodes_b (u : XS) (v : Nat → Int32) : Xg_row_carried (Xs_nodes_b u v) = Xg_row_carried u := rfl
theorem Xq_row_length_nodes_b (u : XS) (v : Nat → Int32) : Xg_row_length (Xs_nodes_b u v) = Xg_row_length u := rfl
theorem Xq_row_with_nodes_b (u : XS) (v : Nat → Int32) : Xg_row_with (Xs_nodes_b u v) = Xg_row_with u := rfl
theorem Xq_row_op_nodes_b (u : XS) (v : Nat → Int32) : Xg_row_op (Xs_nodes_b u v) = Xg_row_op u := rfl
theorem Xq_row_negated_nodes_b (u : XS) (v : Nat → Int32) : Xg_row_negated (Xs_nodes_b u v) = Xg_row_negated u := rfl
theorem Xq_row_object_nodes_b (u : XS) (v : Nat → Int32) : Xg_row_object (Xs_nodes_b u v) = Xg_row_object u := rfl
theorem Xq_testing_noted_nodes_b (u : XS) (v : Nat → Int32) : Xg_testing_noted (Xs_nodes_b u v) = Xg_testing_noted u := rfl
theorem Xq_testing_depth_nodes_b (u : XS) (v : Nat → Int32) : Xg_testing_depth (Xs_nodes_b u v) = Xg_testing_depth u := rfl
theorem Xq_testing_outcome_nodes_b (u : XS) (v : Nat → Int32) : Xg_testing_outcome (Xs_nodes_b u v) = Xg_testing_outcome u := rfl
theorem Xq_testing_leaves_nodes_b (u : XS) (v : Nat → Int32) : Xg_testing_leaves (Xs_nodes_b u v) = Xg_testing_leaves u := rfl
theorem Xq_testing_waiting_nodes_b (u : XS) (v : Nat → Int32) : Xg_testing_waiting (Xs_nodes_b u v) = Xg_testing_waiting u := rfl
theorem Xq_switches_nodes_b (u : XS) (v : Nat → Int32) : Xg_switches (Xs_nodes_b u v) = Xg_switches u := rfl
theorem Xq_leftText_nodes_b (u : XS) (v : Nat → Int32) : Xg_leftText (Xs_nodes_b u v) = Xg_leftText u := rfl
theorem Xq_rightText_nodes_b (u : XS) (v : Nat → Int32) : Xg_rightText (Xs_nodes_b u v) = Xg_rightText u := rfl
theorem Xq_whole_row_subject (u : XS) (v : Int32) : Xg_whole (Xs_row_subject u v) = Xg_whole u := rfl
theorem Xq_fields_made_row_subject (u : XS) (v : Int32) : Xg_fields_made (Xs_row_subject u v) = Xg_fields_made u := rfl
theorem Xq_fields_category_row_subject (u : XS) (v : Int32) : Xg_fields_category (Xs_row_subject u v) = Xg_fields_category u := rfl
theorem Xq_fields_size_row_subject (u : XS) (v : Int32) : Xg_fields_size (Xs_row_subject u v) = Xg_fields_size u := rfl
theorem Xq_fields_scale_row_subject (u : XS) (v : Int32) : Xg_fields_scale (Xs_row_subject u v) = Xg_fields_scale u := rfl
theorem Xq_fields_bytes_row_subject (u : XS) (v : Int32) : Xg_fields_bytes (Xs_row_subject u v) = Xg_fields_bytes u := rfl
theorem Xq_weights_of_row_subject (u : XS) (v : Int32) : Xg_weights_of (Xs_row_subject u v) = Xg_weights_of u := rfl
theorem Xq_names_made_row_subject (u : XS) (v : Int32) : Xg_names_made (Xs_row_subject u v) = Xg_names_made u := rfl
theorem Xq_names_field_row_subject (u : XS) (v : Int32) : Xg_names_field (Xs_row_subject u v) = Xg_names_field u := rfl
theorem Xq_names_ranges_row_subject (u : XS) (v : Int32) : Xg_names_ranges (Xs_row_subject u v) = Xg_names_ranges u := rfl
theorem Xq_names_low_row_subject (u : XS) (v : Int32) : Xg_names_low (Xs_row_subject u v) = Xg_names_low u := rfl
theorem Xq_names_high_row_subject (u : XS) (v : Int32) : Xg_names_high (Xs_row_subject u v) = Xg_names_high u := rfl
theorem Xq_nodes_made_row_subject (u : XS) (v : Int32) : Xg_nodes_made (Xs_row_subject u v) = Xg_nodes_made u := rfl
theorem Xq_nodes_op_row_subject (u : XS) (v : Int32) : Xg_nodes_op (Xs_row_subject u v) = Xg_nodes_op u := rfl
theorem Xq_nodes_a_row_subject (u : XS) (v : Int32) : Xg_nodes_a (Xs_row_subject u v) = Xg_nodes_a u := rfl
theorem Xq_nodes_b_row_subject (u : XS) (v : Int32) : Xg_nodes_b (Xs_row_subject u v) = Xg_nodes_b u := rfl
theorem Xq_row_subject_row_subject (u : XS) (v : Int32) : Xg_row_subject (Xs_row_subject u v) = v := rfl
theorem Xq_row_carried_row_subject (u : XS) (v : Int32) : Xg_row_carried (Xs_row_subject u v) = Xg_row_carried u := rfl
theorem Xq_row_length_row_subject (u : XS) (v : Int32) : Xg_row_length (Xs_row_subject u v) = Xg_row_length u := rfl
theorem Xq_row_with_row_subject (u : XS) (v : Int32) : Xg_row_with (Xs_row_subject u v) = Xg_row_with u := rfl
theorem Xq_row_op_row_subject (u : XS) (v : Int32) : Xg_row_op (Xs_row_subject u v) = Xg_row_op u := rfl
theorem Xq_row_negated_row_subject (u : XS) (v : Int32) : Xg_row_negated (Xs_row_subject u v) = Xg_row_negated u := rfl
theorem Xq_row_object_row_subject (u : XS) (v : Int32) : Xg_row_object (Xs_row_subject u v) = Xg_row_object u := rfl
theorem Xq_testing_noted_row_subject (u : XS) (v : Int32) : Xg_testing_noted (Xs_row_subject u v) = Xg_testing_noted u := rfl
theorem Xq_testing_depth_row_subject (u : XS) (v : Int32) : Xg_testing_depth (Xs_row_subject u v) = Xg_testing_depth u := rfl
theorem Xq_testing_outcome_row_subject (u : XS) (v : Int32) : Xg_testing_outcome (Xs_row_subject u v) = Xg_testing_outcome u := rfl
theorem Xq_testing_leaves_row_subject (u : XS) (v : Int32) : Xg_testing_leaves (Xs_row_subject u v) = Xg_testing_leaves u := rfl
theorem Xq_testing_waiting_row_subject (u : XS) (v : Int32) : Xg_testing_waiting (Xs_row_subject u v) = Xg_testing_waiting u := rfl
theorem Xq_switches_row_subject (u : XS) (v : Int32) : Xg_switches (Xs_row_subject u v) = Xg_switches u := rfl
theorem Xq_leftText_row_subject (u : XS) (v : Int32) : Xg_leftText (Xs_row_subject u v) = Xg_leftText u := rfl
theorem Xq_rightText_row_subject (u : XS) (v : Int32) : Xg_rightText (Xs_row_subject u v) = Xg_rightText u := rfl
theorem Xq_whole_row_carried (u : XS) (v : Int32) : Xg_whole (Xs_row_carried u v) = Xg_whole u := rfl
theorem Xq_fields_made_row_carried (u : XS) (v : Int32) : Xg_fields_made (Xs_row_carried u v) = Xg_fields_made u := rfl
theorem Xq_fields_category_row_carried (u : XS) (v : Int32) : Xg_fields_category (Xs_row_carried u v) = Xg_fields_category u := rfl
theorem Xq_fields_size_row_carried (u : XS) (v : Int32) : Xg_fields_size (Xs_row_carried u v) = Xg_fields_size u := rfl
theorem Xq_fields_scale_row_carried (u : XS) (v : Int32) : Xg_fields_scale (Xs_row_carried u v) = Xg_fields_scale u := rfl
theorem Xq_fields_bytes_row_carried (u : XS) (v : Int32) : Xg_fields_bytes (Xs_row_carried u v) = Xg_fields_bytes u := rfl
theorem Xq_weights_of_row_carried (u : XS) (v : Int32) : Xg_weights_of (Xs_row_carried u v) = Xg_weights_of u := rfl
theorem Xq_names_made_row_carried (u : XS) (v : Int32) : Xg_names_made (Xs_row_carried u v) = Xg_names_made u := rfl
theorem Xq_names_field_row_carried (u : XS) (v : Int32) : Xg_names_field (Xs_row_carried u v) = Xg_names_field u := rfl
theorem Xq_names_ranges_row_carried (u : XS) (v : Int32) : Xg_names_ranges (Xs_row_carried u v) = Xg_names_ranges u := rfl
theorem Xq_names_low_row_carried (u : XS) (v : Int32) : Xg_names_low (Xs_row_carried u v) = Xg_names_low u := rfl
theorem Xq_names_high_row_carried (u : XS) (v : Int32) : Xg_names_high (Xs_row_carried u v) = Xg_names_high u := rfl
theorem Xq_nodes_made_row_carried (u : XS) (v : Int32) : Xg_nodes_made (Xs_row_carried u v) = Xg_nodes_made u := rfl
theorem Xq_nodes_op_row_carried (u : XS) (v : Int32) : Xg_nodes_op (Xs_row_carried u v) = Xg_nodes_op u := rfl
theorem Xq_nodes_a_row_carried (u : XS) (v : Int32) : Xg_nodes_a (Xs_row_carried u v) = Xg_nodes_a u := rfl
theorem Xq_nodes_b_row_carried (u : XS) (v : Int32) : Xg_nodes_b (Xs_row_carried u v) = Xg_nodes_b u := rfl
theorem Xq_row_subject_row_carried (u : XS) (v : Int32) : Xg_row_subject (Xs_row_carried u v) = Xg_row_subject u := rfl
theorem Xq_row_carried_row_carried (u : XS) (v : Int32) : Xg_row_carried (Xs_row_carried u v) = v := rfl
theorem Xq_row_length_row_carried (u : XS) (v : Int32) : Xg_row_length (Xs_row_carried u v) = Xg_row_length u := rfl
theorem Xq_row_with_row_carried (u : XS) (v : Int32) : Xg_row_with (Xs_row_carried u v) = Xg_row_with u := rfl
theorem Xq_row_op_row_carried (u : XS) (v : Int32) : Xg_row_op (Xs_row_carried u v) = Xg_row_op u := rfl
theorem Xq_row_negated_row_carried (u : XS) (v : Int32) : Xg_row_negated (Xs_row_carried u v) = Xg_row_negated u := rfl
theorem Xq_row_object_row_carried (u : XS) (v : Int32) : Xg_row_object (Xs_row_carried u v) = Xg_row_object u := rfl
theorem Xq_testing_noted_row_carried (u : XS) (v : Int32) : Xg_testing_noted (Xs_row_carried u v) = Xg_testing_noted u := rfl
theorem Xq_testing_depth_row_carried (u : XS) (v : Int32) : Xg_testing_depth (Xs_row_carried u v) = Xg_testing_depth u := rfl
theorem Xq_testing_outcome_row_carried (u : XS) (v : Int32) : Xg_testing_outcome (Xs_row_carried u v) = Xg_testing_outcome u := rfl
theorem Xq_testing_leaves_row_carried (u : XS) (v : Int32) : Xg_testing_leaves (Xs_row_carried u v) = Xg_testing_leaves u := rfl
theorem Xq_testing_waiting_row_carried (u : XS) (v : Int32) : Xg_testing_waiting (Xs_row_carried u v) = Xg_testing_waiting u := rfl
theorem Xq_switches_row_carried (u : XS) (v : Int32) : Xg_switches (Xs_row_carried u v) = Xg_switches u := rfl
theorem Xq_leftText_row_carried (u : XS) (v : Int32) : Xg_leftText (Xs_row_carried u v) = Xg_leftText u := rfl
theorem Xq_rightText_row_carried (u : XS) (v : Int32) : Xg_rightText (Xs_row_carried u v) = Xg_rightText u := rfl
theorem Xq_whole_row_length (u : XS) (v : Int32) : Xg_whole (Xs_row_length u v) = Xg_whole u := rfl
theorem Xq_fields_made_row_length (u : XS) (v : Int32) : Xg_fields_made (Xs_row_length u v) = Xg_fields_made u := rfl
theorem Xq_fields_category_row_length (u : XS) (v : Int32) : Xg_fields_category (Xs_row_length u v) = Xg_fields_category u := rfl
theorem Xq_fields_size_row_length (u : XS) (v : Int32) : Xg_fields_size (Xs_row_length u v) = Xg_fields_size u := rfl
theorem Xq_fields_scale_row_length (u : XS) (v : Int32) : Xg_fields_scale (Xs_row_length u v) = Xg_fields_scale u := rfl
theorem Xq_fields_bytes_row_length (u : XS) (v : Int32) : Xg_fields_bytes (Xs_row_length u v) = Xg_fields_bytes u := rfl
theorem Xq_weights_of_row_length (u : XS) (v : Int32) : Xg_weights_of (Xs_row_length u v) = Xg_weights_of u := rfl
theorem Xq_names_made_row_length (u : XS) (v : Int32) : Xg_names_made (Xs_row_length u v) = Xg_names_made u := rfl
theorem Xq_names_field_row_length (u : XS) (v : Int32) : Xg_names_field (Xs_row_length u v) = Xg_names_field u := rfl
theorem Xq_names_ranges_row_length (u : XS) (v : Int32) : Xg_names_ranges (Xs_row_length u v) = Xg_names_ranges u := rfl
theorem Xq_names_low_row_length (u : XS) (v : Int32) : Xg_names_low (Xs_row_length u v) = Xg_names_low u := rfl
theorem Xq_names_high_row_length (u : XS) (v : Int32) : Xg_names_high (Xs_row_length u v) = Xg_names_high u := rfl
theorem Xq_nodes_made_row_length (u : XS) (v : Int32) : Xg_nodes_made (Xs_row_length u v) = Xg_nodes_made u := rfl
theorem Xq_nodes_op_row_length (u : XS) (v : Int32) : Xg_nodes_op (Xs_row_length u v) = Xg_nodes_op u := rfl
theorem Xq_nodes_a_row_length (u : XS) (v : Int32) : Xg_nodes_a (Xs_row_length u v) = Xg_nodes_a u := rfl
theorem Xq_nodes_b_row_length (u : XS) (v : Int32) : Xg_nodes_b (Xs_row_length u v) = Xg_nodes_b u := rfl
theorem Xq_row_subject_row_length (u : XS) (v : Int32) : Xg_row_subject (Xs_row_length u v) = Xg_row_subject u := rfl
theorem Xq_row_carried_row_length (u : XS) (v : Int32) : Xg_row_carried (Xs_row_length u v) = Xg_row_carried u := rfl
theorem Xq_row_length_row_length (u : XS) (v : Int32) : Xg_row_length (Xs_row_length u v) = v := rfl
theorem Xq_row_with_row_length (u : XS) (v : Int32) : Xg_row_with (Xs_row_length u v) = Xg_row_with u := rfl
theorem Xq_row_op_row_length (u : XS) (v : Int32) : Xg_row_op (Xs_row_length u v) = Xg_row_op u := rfl
theorem Xq_row_negated_row_length (u : XS) (v : Int32) : Xg_row_negated (Xs_row_length u v) = Xg_row_negated u := rfl
theorem Xq_row_object_row_length (u : XS) (v : Int32) : Xg_row_object (Xs_row_length u v) = Xg_row_object u := rfl
theorem Xq_testing_noted_row_length (u : XS) (v : Int32) : Xg_testing_noted (Xs_row_length u v) = Xg_testing_noted u := rfl
theorem Xq_testing_depth_row_length (u : XS) (v : Int32) : Xg_testing_depth (Xs_row_length u v) = Xg_testing_depth u := rfl
theorem Xq_testing_outcome_row_length (u : XS) (v : Int32) : Xg_testing_outcome (Xs_row_length u v) = Xg_testing_outcome u := rfl
theorem Xq_testing_leaves_row_length (u : XS) (v : Int32) : Xg_testing_leaves (Xs_row_length u v) = Xg_testing_leaves u := rfl
theorem Xq_testing_waiting_row_length (u : XS) (v : Int32) : Xg_testing_waiting (Xs_row_length u v) = Xg_testing_waiting u := rfl
theorem Xq_switches_row_length (u : XS) (v : Int32) : Xg_switches (Xs_row_length u v) = Xg_switches u := rfl
theorem Xq_leftText_row_length (u : XS) (v : Int32) : Xg_leftText (Xs_row_length u v) = Xg_leftText u := rfl
theorem Xq_rightText_row_length (u : XS) (v : Int32) : Xg_rightText (Xs_row_length u v) = Xg_rightText u := rfl
theorem Xq_whole_row_with (u : XS) (v : Nat → Int32) : Xg_whole (Xs_row_with u v) = Xg_whole u := rfl
theorem Xq_fields_made_row_with (u : XS) (v : Nat → Int32) : Xg_fields_made (Xs_row_with u v) = Xg_fields_made u := rfl
theorem Xq_fields_category_row_with (u : XS) (v : Nat → Int32) : Xg_fields_category (Xs_row_with u v) = Xg_fields_category u := rfl
theorem Xq_fields_size_row_with (u : XS) (v : Nat → Int32) : Xg_fields_size (Xs_row_with u v) = Xg_fields_size u := rfl
theorem Xq_fields_scale_row_with (u : XS) (v : Nat → Int32) : Xg_fields_scale (Xs_row_with u v) = Xg_fields_scale u := rfl
theorem Xq_fields_bytes_row_with (u : XS) (v : Nat → Int32) : Xg_fields_bytes (Xs_row_with u v) = Xg_fields_bytes u := rfl
theorem Xq_weights_of_row_with (u : XS) (v : Nat → Int32) : Xg_weights_of (Xs_row_with u v) = Xg_weights_of u := rfl
theorem Xq_names_made_row_with (u : XS) (v : Nat → Int32) : Xg_names_made (Xs_row_with u v) = Xg_names_made u := rfl
theorem Xq_names_field_row_with (u : XS) (v : Nat → Int32) : Xg_names_field (Xs_row_with u v) = Xg_names_field u := rfl
theorem Xq_names_ranges_row_with (u : XS) (v : Nat → Int32) : Xg_names_ranges (Xs_row_with u v) = Xg_names_ranges u := rfl
theorem Xq_names_low_row_with (u : XS) (v : Nat → Int32) : Xg_names_low (Xs_row_with u v) = Xg_names_low u := rfl
theorem Xq_names_high_row_with (u : XS) (v : Nat → Int32) : Xg_names_high (Xs_row_with u v) = Xg_names_high u := rfl
theorem Xq_nodes_made_row_with (u : XS) (v : Nat → Int32) : Xg_nodes_made (Xs_row_with u v) = Xg_nodes_made u := rfl
theorem Xq_nodes_op_row_with (u : XS) (v : Nat → Int32) : Xg_nodes_op (Xs_row_with u v) = Xg_nodes_op u := rfl
theorem Xq_nodes_a_row_with (u : XS) (v : Nat → Int32) : Xg_nodes_a (Xs_row_with u v) = Xg_nodes_a u := rfl
theorem Xq_nodes_b_row_with (u : XS) (v : Nat → Int32) : Xg_nodes_b (Xs_row_with u v) = Xg_nodes_b u := rfl
theorem Xq_row_subject_row_with (u : XS) (v : Nat → Int32) : Xg_row_subject (Xs_row_with u v) = Xg_row_subject u := rfl
theorem Xq_row_carried_row_with (u : XS) (v : Nat → Int32) : Xg_row_carried (Xs_row_with u v) = Xg_row_carried u := rfl
theorem Xq_row_length_row_with (u : XS) (v : Nat → Int32) : Xg_row_length (Xs_row_with u v) = Xg_row_length u := rfl
theorem Xq_row_with_row_with (u : XS) (v : Nat → Int32) : Xg_row_with (Xs_row_with u v) = v := rfl
theorem Xq_row_op_row_with (u : XS) (v : Nat → Int32) : Xg_row_op (Xs_row_with u v) = Xg_row_op u := rfl
theorem Xq_row_negated_row_with (u : XS) (v : Nat → Int32) : Xg_row_negated (Xs_row_with u v) = Xg_row_negated u := rfl
theorem Xq_row_object_row_with (u : XS) (v : Nat → Int32) : Xg_row_object (Xs_row_with u v) = Xg_row_object u := rfl
theorem Xq_testing_noted_row_with (u : XS) (v : Nat → Int32) : Xg_testing_noted (Xs_row_with u v) = Xg_testing_noted u := rfl
theorem Xq_testing_depth_row_with (u : XS) (v : Nat → Int32) : Xg_testing_depth (Xs_row_with u v) = Xg_testing_depth u := rfl
theorem Xq_testing_outcome_row_with (u : XS) (v : Nat → Int32) : Xg_testing_outcome (Xs_row_with u v) = Xg_testing_outcome u := rfl
theorem Xq_testing_leaves_row_with (u : XS) (v : Nat → Int32) : Xg_testing_leaves (Xs_row_with u v) = Xg_testing_leaves u := rfl
theorem Xq_testing_waiting_row_with (u : XS) (v : Nat → Int32) : Xg_testing_waiting (Xs_row_with u v) = Xg_testing_waiting u := rfl
theorem Xq_switches_row_with (u : XS) (v : Nat → Int32) : Xg_switches (Xs_row_with u v) = Xg_switches u := rfl
theorem Xq_leftText_row_with (u : XS) (v : Nat → Int32) : Xg_leftText (Xs_row_with u v) = Xg_leftText u := rfl
theorem Xq_rightText_row_with (u : XS) (v : Nat → Int32) : Xg_rightText (Xs_row_with u v) = Xg_rightText u := rfl
theorem Xq_whole_row_op (u : XS) (v : Nat → Int32) : Xg_whole (Xs_row_op u v) = Xg_whole u := rfl
theorem Xq_fields_made_row_op (u : XS) (v : Nat → Int32) : Xg_fields_made (Xs_row_op u v) = Xg_fields_made u := rfl
theorem Xq_fields_category_row_op (u : XS) (v : Nat → Int32) : Xg_fields_category (Xs_row_op u v) = Xg_fields_category u := rfl
theorem Xq_fields_size_row_op (u : XS) (v : Nat → Int32) : Xg_fields_size (Xs_row_op u v) = Xg_fields_size u := rfl
theorem Xq_fields_scale_row_op (u : XS) (v : Nat → Int32) : Xg_fields_scale (Xs_row_op u v) = Xg_fields_scale u := rfl
theorem Xq_fields_bytes_row_op (u : XS) (v : Nat → Int32) : Xg_fields_bytes (Xs_row_op u v) = Xg_fields_bytes u := rfl
theorem Xq_weights_of_row_op (u : XS) (v : Nat → Int32) : Xg_weights_of (Xs_row_op u v) = Xg_weights_of u := rfl
theorem Xq_names_made_row_op (u : XS) (v : Nat → Int32) : Xg_names_made (Xs_row_op u v) = Xg_names_made u := rfl
theorem Xq_names_field_row_op (u : XS) (v : Nat → Int32) : Xg_names_field (Xs_row_op u v) = Xg_names_field u := rfl
theorem Xq_names_ranges_row_op (u : XS) (v : Nat → Int32) : Xg_names_ranges (Xs_row_op u v) = Xg_names_ranges u := rfl
theorem Xq_names_low_row_op (u : XS) (v : Nat → Int32) : Xg_names_low (Xs_row_op u v) = Xg_names_low u := rfl
theorem Xq_names_high_row_op (u : XS) (v : Nat → Int32) : Xg_names_high (Xs_row_op u v) = Xg_names_high u := rfl
theorem Xq_nodes_made_row_op (u : XS) (v : Nat → Int32) : Xg_nodes_made (Xs_row_op u v) = Xg_nodes_made u := rfl
theorem Xq_nodes_op_row_op (u : XS) (v : Nat → Int32) : Xg_nodes_op (Xs_row_op u v) = Xg_nodes_op u := rfl
theorem Xq_nodes_a_row_op (u : XS) (v : Nat → Int32) : Xg_nodes_a (Xs_row_op u v) = Xg_nodes_a u := rfl
theorem Xq_nodes_b_row_op (u : XS) (v : Nat → Int32) : Xg_nodes_b (Xs_row_op u v) = Xg_nodes_b u := rfl
theorem Xq_row_subject_row_op (u : XS) (v : Nat → Int32) : Xg_row_subject (Xs_row_op u v) = Xg_row_subject u := rfl
theorem Xq_row_carried_row_op (u : XS) (v : Nat → Int32) : Xg_row_carried (Xs_row_op u v) = Xg_row_carried u := rfl
theorem Xq_row_length_row_op (u : XS) (v : Nat → Int32) : Xg_row_length (Xs_row_op u v) = Xg_row_length u := rfl
theorem Xq_row_with_row_op (u : XS) (v : Nat → Int32) : Xg_row_with (Xs_row_op u v) = Xg_row_with u := rfl
theorem Xq_row_op_row_op (u : XS) (v : Nat → Int32) : Xg_row_op (Xs_row_op u v) = v := rfl
theorem Xq_row_negated_row_op (u : XS) (v : Nat → Int32) : Xg_row_negated (Xs_row_op u v) = Xg_row_negated u := rfl
theorem Xq_row_object_row_op (u : XS) (v : Nat → Int32) : Xg_row_object (Xs_row_op u v) = Xg_row_object u := rfl
theorem Xq_testing_noted_row_op (u : XS) (v : Nat → Int32) : Xg_testing_noted (Xs_row_op u v) = Xg_testing_noted u := rfl
theorem Xq_testing_depth_row_op (u : XS) (v : Nat → Int32) : Xg_testing_depth (Xs_row_op u v) = Xg_testing_depth u := rfl
theorem Xq_testing_outcome_row_op (u : XS) (v : Nat → Int32) : Xg_testing_outcome (Xs_row_op u v) = Xg_testing_outcome u := rfl
theorem Xq_testing_leaves_row_op (u : XS) (v : Nat → Int32) : Xg_testing_leaves (Xs_row_op u v) = Xg_testing_leaves u := rfl
theorem Xq_testing_waiting_row_op (u : XS) (v : Nat → Int32) : Xg_testing_waiting (Xs_row_op u v) = Xg_testing_waiting u := rfl
theorem Xq_switches_row_op (u : XS) (v : Nat → Int32) : Xg_switches (Xs_row_op u v) = Xg_switches u := rfl
theorem Xq_leftText_row_op (u : XS) (v : Nat → Int32) : Xg_leftText (Xs_row_op u v) = Xg_leftText u := rfl
theorem Xq_rightText_row_op (u : XS) (v : Nat → Int32) : Xg_rightText (Xs_row_op u v) = Xg_rightText u := rfl
theorem Xq_whole_row_negated (u : XS) (v : Nat → Int32) : Xg_whole (Xs_row_negated u v) = Xg_whole u := rfl
theorem Xq_fields_made_row_negated (u : XS) (v : Nat → Int32) : Xg_fields_made (Xs_row_negated u v) = Xg_fields_made u := rfl
theorem Xq_fields_category_row_negated (u : XS) (v : Nat → Int32) : Xg_fields_category (Xs_row_negated u v) = Xg_fields_category u := rfl
theorem Xq_fields_size_row_negated (u : XS) (v : Nat → Int32) : Xg_fields_size (Xs_row_negated u v) = Xg_fields_size u := rfl
theorem Xq_fields_scale_row_negated (u : XS) (v : Nat → Int32) : Xg_fields_scale (Xs_row_negated u v) = Xg_fields_scale u := rfl
theorem Xq_fields_bytes_row_negated (u : XS) (v : Nat → Int32) : Xg_fields_bytes (Xs_row_negated u v) = Xg_fields_bytes u := rfl
theorem Xq_weights_of_row_negated (u : XS) (v : Nat → Int32) : Xg_weights_of (Xs_row_negated u v) = Xg_weights_of u := rfl
theorem Xq_names_made_row_negated (u : XS) (v : Nat → Int32) : Xg_names_made (Xs_row_negated u v) = Xg_names_made u := rfl
theorem Xq_names_field_row_negated (u : XS) (v : Nat → Int32) : Xg_names_field (Xs_row_negated u v) = Xg_names_field u := rfl
theorem Xq_names_ranges_row_negated (u : XS) (v : Nat → Int32) : Xg_names_ranges (Xs_row_negated u v) = Xg_names_ranges u := rfl
theorem Xq_names_low_row_negated (u : XS) (v : Nat → Int32) : Xg_names_low (Xs_row_negated u v) = Xg_names_low u := rfl
theorem Xq_names_high_row_negated (u : XS) (v : Nat → Int32) : Xg_names_high (Xs_row_negated u v) = Xg_names_high u := rfl
theorem Xq_nodes_made_row_negated (u : XS) (v : Nat → Int32) : Xg_nodes_made (Xs_row_negated u v) = Xg_nodes_made u := rfl
theorem Xq_nodes_op_row_negated (u : XS) (v : Nat → Int32) : Xg_nodes_op (Xs_row_negated u v) = Xg_nodes_op u := rfl
theorem Xq_nodes_a_row_negated (u : XS) (v : Nat → Int32) : Xg_nodes_a (Xs_row_negated u v) = Xg_nodes_a u := rfl
theorem Xq_nodes_b_row_negated (u : XS) (v : Nat → Int32) : Xg_nodes_b (Xs_row_negated u v) = Xg_nodes_b u := rfl
theorem Xq_row_subject_row_negated (u : XS) (v : Nat → Int32) : Xg_row_subject (Xs_row_negated u v) = Xg_row_subject u := rfl
theorem Xq_row_carried_row_negated (u : XS) (v : Nat → Int32) : Xg_row_carried (Xs_row_negated u v) = Xg_row_carried u := rfl
theorem Xq_row_length_row_negated (u : XS) (v : Nat → Int32) : Xg_row_length (Xs_row_negated u v) = Xg_row_length u := rfl
theorem Xq_row_with_row_negated (u : XS) (v : Nat → Int32) : Xg_row_with (Xs_row_negated u v) = Xg_row_with u := rfl
theorem Xq_row_op_row_negated (u : XS) (v : Nat → Int32) : Xg_row_op (Xs_row_negated u v) = Xg_row_op u := rfl
theorem Xq_row_negated_row_negated (u : XS) (v : Nat → Int32) : Xg_row_negated (Xs_row_negated u v) = v := rfl
theorem Xq_row_object_row_negated (u : XS) (v : Nat → Int32) : Xg_row_object (Xs_row_negated u v) = Xg_row_object u := rfl
theorem Xq_testing_noted_row_negated (u : XS) (v : Nat → Int32) : Xg_testing_noted (Xs_row_negated u v) = Xg_testing_noted u := rfl
theorem Xq_testing_depth_row_negated (u : XS) (v : Nat → Int32) : Xg_testing_depth (Xs_row_negated u v) = Xg_testing_depth u := rfl
theorem Xq_testing_outcome_row_negated (u : XS) (v : Nat → Int32) : Xg_testing_outcome (Xs_row_negated u v) = Xg_testing_outcome u := rfl
theorem Xq_testing_leaves_row_negated (u : XS) (v : Nat → Int32) : Xg_testing_leaves (Xs_row_negated u v) = Xg_testing_leaves u := rfl
theorem Xq_testing_waiting_row_negated (u : XS) (v : Nat → Int32) : Xg_testing_waiting (Xs_row_negated u v) = Xg_testing_waiting u := rfl
theorem Xq_switches_row_negated (u : XS) (v : Nat → Int32) : Xg_switches (Xs_row_negated u v) = Xg_switches u := rfl
theorem Xq_leftText_row_negated (u : XS) (v : Nat → Int32) : Xg_leftText (Xs_row_negated u v) = Xg_leftText u := rfl
theorem Xq_rightText_row_negated (u : XS) (v : Nat → Int32) : Xg_rightText (Xs_row_negated u v) = Xg_rightText u := rfl
theorem Xq_whole_row_object (u : XS) (v : Nat → Int32) : Xg_whole (Xs_row_object u v) = Xg_whole u := rfl
theorem Xq_fields_made_row_object (u : XS) (v : Nat → Int32) : Xg_fields_made (Xs_row_object u v) = Xg_fields_made u := rfl
theorem Xq_fields_category_row_object (u : XS) (v : Nat → Int32) : Xg_fields_category (Xs_row_object u v) = Xg_fields_category u := rfl
theorem Xq_fields_size_row_object (u : XS) (v : Nat → Int32) : Xg_fields_size (Xs_row_object u v) = Xg_fields_size u := rfl
theorem Xq_fields_scale_row_object (u : XS) (v : Nat → Int32) : Xg_fields_scale (Xs_row_object u v) = Xg_fields_scale u := rfl
theorem Xq_fields_bytes_row_object (u : XS) (v : Nat → Int32) : Xg_fields_bytes (Xs_row_object u v) = Xg_fields_bytes u := rfl
theorem Xq_weights_of_row_object (u : XS) (v : Nat → Int32) : Xg_weights_of (Xs_row_object u v) = Xg_weights_of u := rfl
theorem Xq_names_made_row_object (u : XS) (v : Nat → Int32) : Xg_names_made (Xs_row_object u v) = Xg_names_made u := rfl
theorem Xq_names_field_row_object (u : XS) (v : Nat → Int32) : Xg_names_field (Xs_row_object u v) = Xg_names_field u := rfl
theorem Xq_names_ranges_row_object (u : XS) (v : Nat → Int32) : Xg_names_ranges (Xs_row_object u v) = Xg_names_ranges u := rfl
theorem Xq_names_low_row_object (u : XS) (v : Nat → Int32) : Xg_names_low (Xs_row_object u v) = Xg_names_low u := rfl
theorem Xq_names_high_row_object (u : XS) (v : Nat → Int32) : Xg_names_high (Xs_row_object u v) = Xg_names_high u := rfl
theorem Xq_nodes_made_row_object (u : XS) (v : Nat → Int32) : Xg_nodes_made (Xs_row_object u v) = Xg_nodes_made u := rfl
theorem Xq_nodes_op_row_object (u : XS) (v : Nat → Int32) : Xg_nodes_op (Xs_row_object u v) = Xg_nodes_op u := rfl
theorem Xq_nodes_a_row_object (u : XS) (v : Nat → Int32) : Xg_nodes_a (Xs_row_object u v) = Xg_nodes_a u := rfl
theorem Xq_nodes_b_row_object (u : XS) (v : Nat → Int32) : Xg_nodes_b (Xs_row_object u v) = Xg_nodes_b u := rfl
theorem Xq_row_subject_row_object (u : XS) (v : Nat → Int32) : Xg_row_subject (Xs_row_object u v) = Xg_row_subject u := rfl
theorem Xq_row_carried_row_object (u : XS) (v : Nat → Int32) : Xg_row_carried (Xs_row_object u v) = Xg_row_carried u := rfl
theorem Xq_row_length_row_object (u : XS) (v : Nat → Int32) : Xg_row_length (Xs_row_object u v) = Xg_row_length u := rfl
theorem Xq_row_with_row_object (u : XS) (v : Nat → Int32) : Xg_row_with (Xs_row_object u v) = Xg_row_with u := rfl
theorem Xq_row_op_row_object (u : XS) (v : Nat → Int32) : Xg_row_op (Xs_row_object u v) = Xg_row_op u := rfl
theorem Xq_row_negated_row_object (u : XS) (v : Nat → Int32) : Xg_row_negated (Xs_row_object u v) = Xg_row_negated u := rfl
theorem Xq_row_object_row_object (u : XS) (v : Nat → Int32) : Xg_row_object (Xs_row_object u v) = v := rfl
theorem Xq_testing_noted_row_object (u : XS) (v : Nat → Int32) : Xg_testing_noted (Xs_row_object u v) = Xg_testing_noted u := rfl
theorem Xq_testing_depth_row_object (u : XS) (v : Nat → Int32) : Xg_testing_depth (Xs_row_object u v) = Xg_testing_depth u := rfl
theorem Xq_testing_outcome_row_object (u : XS) (v : Nat → Int32) : Xg_testing_outcome (Xs_row_object u v) = Xg_testing_outcome u := rfl
theorem Xq_testing_leaves_row_object (u : XS) (v : Nat → Int32) : Xg_testing_leaves (Xs_row_object u v) = Xg_testing_leaves u := rfl
theorem Xq_testing_waiting_row_object (u : XS) (v : Nat → Int32) : Xg_testing_waiting (Xs_row_object u v) = Xg_testing_waiting u := rfl
theorem Xq_switches_row_object (u : XS) (v : Nat → Int32) : Xg_switches (Xs_row_object u v) = Xg_switches u := rfl
theorem Xq_leftText_row_object (u : XS) (v : Nat → Int32) : Xg_leftText (Xs_row_object u v) = Xg_leftText u := rfl
theorem Xq_rightText_row_object (u : XS) (v : Nat → Int32) : Xg_rightText (Xs_row_object u v) = Xg_rightText u := rfl
theorem Xq_whole_testing_noted (u : XS) (v : Int32) : Xg_whole (Xs_testing_noted u v) = Xg_whole u := rfl
theorem Xq_fields_made_testing_noted (u : XS) (v : Int32) : Xg_fields_made (Xs_testing_noted u v) = Xg_fields_made u := rfl
theorem Xq_fields_category_testing_noted (u : XS) (v : Int32) : Xg_fields_category (Xs_testing_noted u v) = Xg_fields_category u := rfl
theorem Xq_fields_size_testing_noted (u : XS) (v : Int32) : Xg_fields_size (Xs_testing_noted u v) = Xg_fields_size u := rfl
theorem Xq_fields_scale_testing_noted (u : XS) (v : Int32) : Xg_fields_scale (Xs_testing_noted u v) = Xg_fields_scale u := rfl
theorem Xq_fields_bytes_testing_noted (u : XS) (v : Int32) : Xg_fields_bytes (Xs_testing_noted u v) = Xg_fields_bytes u := rfl
theorem Xq_weights_of_testing_noted (u : XS) (v : Int32) : Xg_weights_of (Xs_testing_noted u v) = Xg_weights_of u := rfl
theorem Xq_names_made_testing_noted (u : XS) (v : Int32) : Xg_names_made (Xs_testing_noted u v) = Xg_names_made u := rfl
theorem Xq_names_field_testing_noted (u : XS) (v : Int32) : Xg_names_field (Xs_testing_noted u v) = Xg_names_field u := rfl
theorem Xq_names_ranges_testing_noted (u : XS) (v : Int32) : Xg_names_ranges (Xs_testing_noted u v) = Xg_names_ranges u := rfl
theorem Xq_names_low_testing_noted (u : XS) (v : Int32) : Xg_names_low (Xs_testing_noted u v) = Xg_names_low u := rfl
theorem Xq_names_high_testing_noted (u : XS) (v : Int32) : Xg_names_high (Xs_testing_noted u v) = Xg_names_high u := rfl
theorem Xq_nodes_made_testing_noted (u : XS) (v : Int32) : Xg_nodes_made (Xs_testing_noted u v) = Xg_nodes_made u := rfl
theorem Xq_nodes_op_testing_noted (u : XS) (v : Int32) : Xg_nodes_op (Xs_testing_noted u v) = Xg_nodes_op u := rfl
theorem Xq_nodes_a_testing_noted (u : XS) (v : Int32) : Xg_nodes_a (Xs_testing_noted u v) = Xg_nodes_a u := rfl
theorem Xq_nodes_b_testing_noted (u : XS) (v : Int32) : Xg_nodes_b (Xs_testing_noted u v) = Xg_nodes_b u := rfl
theorem Xq_row_subject_testing_noted (u : XS) (v : Int32) : Xg_row_subject (Xs_testing_noted u v) = Xg_row_subject u := rfl
theorem Xq_row_carried_testing_noted (u : XS) (v : Int32) : Xg_row_carried (Xs_testing_noted u v) = Xg_row_carried u := rfl
theorem Xq_row_length_testing_noted (u : XS) (v : Int32) : Xg_row_length (Xs_testing_noted u v) = Xg_row_length u := rfl
theorem Xq_row_with_testing_noted (u : XS) (v : Int32) : Xg_row_with (Xs_testing_noted u v) = Xg_row_with u := rfl
theorem Xq_row_op_testing_noted (u : XS) (v : Int32) : Xg_row_op (Xs_testing_noted u v) = Xg_row_op u := rfl
theorem Xq_row_negated_testing_noted (u : XS) (v : Int32) : Xg_row_negated (Xs_testing_noted u v) = Xg_row_negated u := rfl
theorem Xq_row_object_testing_noted (u : XS) (v : Int32) : Xg_row_object (Xs_testing_noted u v) = Xg_row_object u := rfl
theorem Xq_testing_noted_testing_noted (u : XS) (v : Int32) : Xg_testing_noted (Xs_testing_noted u v) = v := rfl
theorem Xq_testing_depth_testing_noted (u : XS) (v : Int32) : Xg_testing_depth (Xs_testing_noted u v) = Xg_testing_depth u := rfl
theorem Xq_testing_outcome_testing_noted (u : XS) (v : Int32) : Xg_testing_outcome (Xs_testing_noted u v) = Xg_testing_outcome u := rfl
theorem Xq_testing_leaves_testing_noted (u : XS) (v : Int32) : Xg_testing_leaves (Xs_testing_noted u v) = Xg_testing_leaves u := rfl
theorem Xq_testing_waiting_testing_noted (u : XS) (v : Int32) : Xg_testing_waiting (Xs_testing_noted u v) = Xg_testing_waiting u := rfl
theorem Xq_switches_testing_noted (u : XS) (v : Int32) : Xg_switches (Xs_testing_noted u v) = Xg_switches u := rfl
theorem Xq_leftText_testing_noted (u : XS) (v : Int32) : Xg_leftText (Xs_testing_noted u v) = Xg_leftText u := rfl
theorem Xq_rightText_testing_noted (u : XS) (v : Int32) : Xg_rightText (Xs_testing_noted u v) = Xg_rightText u := rfl
theorem Xq_whole_testing_depth (u : XS) (v : Int32) : Xg_whole (Xs_testing_depth u v) = Xg_whole u := rfl
theorem Xq_fields_made_testing_depth (u : XS) (v : Int32) : Xg_fields_made (Xs_testing_depth u v) = Xg_fields_made u := rfl
theorem Xq_fields_category_testing_depth (u : XS) (v : Int32) : Xg_fields_category (Xs_testing_depth u v) = Xg_fields_category u := rfl
theorem Xq_fields_size_testing_depth (u : XS) (v : Int32) : Xg_fields_size (Xs_testing_depth u v) = Xg_fields_size u := rfl
theorem Xq_fields_scale_testing_depth (u : XS) (v : Int32) : Xg_fields_scale (Xs_testing_depth u v) = Xg_fields_scale u := rfl
theorem Xq_fields_bytes_testing_depth (u : XS) (v : Int32) : Xg_fields_bytes (Xs_testing_depth u v) = Xg_fields_bytes u := rfl
theorem Xq_weights_of_testing_depth (u : XS) (v : Int32) : Xg_weights_of (Xs_testing_depth u v) = Xg_weights_of u := rfl
theorem Xq_names_made_testing_depth (u : XS) (v : Int32) : Xg_names_made (Xs_testing_depth u v) = Xg_names_made u := rfl
theorem Xq_names_field_testing_depth (u : XS) (v : Int32) : Xg_names_field (Xs_testing_depth u v) = Xg_names_field u := rfl
theorem Xq_names_ranges_testing_depth (u : XS) (v : Int32) : Xg_names_ranges (Xs_testing_depth u v) = Xg_names_ranges u := rfl
theorem Xq_names_low_testing_depth (u : XS) (v : Int32) : Xg_names_low (Xs_testing_depth u v) = Xg_names_low u := rfl
theorem Xq_names_high_testing_depth (u : XS) (v : Int32) : Xg_names_high (Xs_testing_depth u v) = Xg_names_high u := rfl
theorem Xq_nodes_made_testing_depth (u : XS) (v : Int32) : Xg_nodes_made (Xs_testing_depth u v) = Xg_nodes_made u := rfl
theorem Xq_nodes_op_testing_depth (u : XS) (v : Int32) : Xg_nodes_op (Xs_testing_depth u v) = Xg_nodes_op u := rfl
theorem Xq_nodes_a_testing_depth (u : XS) (v : Int32) : Xg_nodes_a (Xs_testing_depth u v) = Xg_nodes_a u := rfl
theorem Xq_nodes_b_testing_depth (u : XS) (v : Int32) : Xg_nodes_b (Xs_testing_depth u v) = Xg_nodes_b u := rfl
theorem Xq_row_subject_testing_depth (u : XS) (v : Int32) : Xg_row_subject (Xs_testing_depth u v) = Xg_row_subject u := rfl
theorem Xq_row_carried_testing_depth (u : XS) (v : Int32) : Xg_row_carried (Xs_testing_depth u v) = Xg_row_carried u := rfl
theorem Xq_row_length_testing_depth (u : XS) (v : Int32) : Xg_row_length (Xs_testing_depth u v) = Xg_row_length u := rfl
theorem Xq_row_with_testing_depth (u : XS) (v : Int32) : Xg_row_with (Xs_testing_depth u v) = Xg_row_with u := rfl
theorem Xq_row_op_testing_depth (u : XS) (v : Int32) : Xg_row_op (Xs_testing_depth u v) = Xg_row_op u := rfl
theorem Xq_row_negated_testing_depth (u : XS) (v : Int32) : Xg_row_negated (Xs_testing_depth u v) = Xg_row_negated u := rfl
theorem Xq_row_object_testing_depth (u : XS) (v : Int32) : Xg_row_object (Xs_testing_depth u v) = Xg_row_object u := rfl
theorem Xq_testing_noted_testing_depth (u : XS) (v : Int32) : Xg_testing_noted (Xs_testing_depth u v) = Xg_testing_noted u := rfl
theorem Xq_testing_depth_testing_depth (u : XS) (v : Int32) : Xg_testing_depth (Xs_testing_depth u v) = v := rfl
theorem Xq_testing_outcome_testing_depth (u : XS) (v : Int32) : Xg_testing_outcome (Xs_testing_depth u v) = Xg_testing_outcome u := rfl
theorem Xq_testing_leaves_testing_depth (u : XS) (v : Int32) : Xg_testing_leaves (Xs_testing_depth u v) = Xg_testing_leaves u := rfl
theorem Xq_testing_waiting_testing_depth (u : XS) (v : Int32) : Xg_testing_waiting (Xs_testing_depth u v) = Xg_testing_waiting u := rfl
theorem Xq_switches_testing_depth (u : XS) (v : Int32) : Xg_switches (Xs_testing_depth u v) = Xg_switches u := rfl
theorem Xq_leftText_testing_depth (u : XS) (v : Int32) : Xg_leftText (Xs_testing_depth u v) = Xg_leftText u := rfl
theorem Xq_rightText_testing_depth (u : XS) (v : Int32) : Xg_rightText (Xs_testing_depth u v) = Xg_rightText u := rfl
theorem Xq_whole_testing_outcome (u : XS) (v : Nat → Int32) : Xg_whole (Xs_testing_outcome u v) = Xg_whole u := rfl
theorem Xq_fields_made_testing_outcome (u : XS) (v : Nat → Int32) : Xg_fields_made (Xs_testing_outcome u v) = Xg_fields_made u := rfl
theorem Xq_fields_category_testing_outcome (u : XS) (v : Nat → Int32) : Xg_fields_category (Xs_testing_outcome u v) = Xg_fields_category u := rfl
theorem Xq_fields_size_testing_outcome (u : XS) (v : Nat → Int32) : Xg_fields_size (Xs_testing_outcome u v) = Xg_fields_size u := rfl
theorem Xq_fields_scale_testing_outcome (u : XS) (v : Nat → Int32) : Xg_fields_scale (Xs_testing_outcome u v) = Xg_fields_scale u := rfl
theorem Xq_fields_bytes_testing_outcome (u : XS) (v : Nat → Int32) : Xg_fields_bytes (Xs_testing_outcome u v) = Xg_fields_bytes u := rfl
theorem Xq_weights_of_testing_outcome (u : XS) (v : Nat → Int32) : Xg_weights_of (Xs_testing_outcome u v) = Xg_weights_of u := rfl
theorem Xq_names_made_testing_outcome (u : XS) (v : Nat → Int32) : Xg_names_made (Xs_testing_outcome u v) = Xg_names_made u := rfl
theorem Xq_names_field_testing_outcome (u : XS) (v : Nat → Int32) : Xg_names_field (Xs_testing_outcome u v) = Xg_names_field u := rfl
theorem Xq_names_ranges_testing_outcome (u : XS) (v : Nat → Int32) : Xg_names_ranges (Xs_testing_outcome u v) = Xg_names_ranges u := rfl
theorem Xq_names_low_testing_outcome (u : XS) (v : Nat → Int32) : Xg_names_low (Xs_testing_outcome u v) = Xg_names_low u := rfl
theorem Xq_names_high_testing_outcome (u : XS) (v : Nat → Int32) : Xg_names_high (Xs_testing_outcome u v) = Xg_names_high u := rfl
theorem Xq_nodes_made_testing_outcome (u : XS) (v : Nat → Int32) : Xg_nodes_made (Xs_testing_outcome u v) = Xg_nodes_made u := rfl
theorem Xq_nodes_op_testing_outcome (u : XS) (v : Nat → Int32) : Xg_nodes_op (Xs_testing_outcome u v) = Xg_nodes_op u := rfl
theorem Xq_nodes_a_testing_outcome (u : XS) (v : Nat → Int32) : Xg_nodes_a (Xs_testing_outcome u v) = Xg_nodes_a u := rfl
theorem Xq_nodes_b_testing_outcome (u : XS) (v : Nat → Int32) : Xg_nodes_b (Xs_testing_outcome u v) = Xg_nodes_b u := rfl
theorem Xq_row_subject_testing_outcome (u : XS) (v : Nat → Int32) : Xg_row_subject (Xs_testing_outcome u v) = Xg_row_subject u := rfl
theorem Xq_row_carried_testing_outcome (u : XS) (v : Nat → Int32) : Xg_row_carried (Xs_testing_outcome u v) = Xg_row_carried u := rfl
theorem Xq_row_length_testing_outcome (u : XS) (v : Nat → Int32) : Xg_row_length (Xs_testing_outcome u v) = Xg_row_length u := rfl
theorem Xq_row_with_testing_outcome (u : XS) (v : Nat → Int32) : Xg_row_with (Xs_testing_outcome u v) = Xg_row_with u := rfl
theorem Xq_row_op_testing_outcome (u : XS) (v : Nat → Int32) : Xg_row_op (Xs_testing_outcome u v) = Xg_row_op u := rfl
theorem Xq_row_negated_testing_outcome (u : XS) (v : Nat → Int32) : Xg_row_negated (Xs_testing_outcome u v) = Xg_row_negated u := rfl
theorem Xq_row_object_testing_outcome (u : XS) (v : Nat → Int32) : Xg_row_object (Xs_testing_outcome u v) = Xg_row_object u := rfl
theorem Xq_testing_noted_testing_outcome (u : XS) (v : Nat → Int32) : Xg_testing_noted (Xs_testing_outcome u v) = Xg_testing_noted u := rfl
theorem Xq_testing_depth_testing_outcome (u : XS) (v : Nat → Int32) : Xg_testing_depth (Xs_testing_outcome u v) = Xg_testing_depth u := rfl
theorem Xq_testing_outcome_testing_outcome (u : XS) (v : Nat → Int32) : Xg_testing_outcome (Xs_testing_outcome u v) = v := rfl
theorem Xq_testing_leaves_testing_outcome (u : XS) (v : Nat → Int32) : Xg_testing_leaves (Xs_testing_outcome u v) = Xg_testing_leaves u := rfl
theorem Xq_testing_waiting_testing_outcome (u : XS) (v : Nat → Int32) : Xg_testing_waiting (Xs_testing_outcome u v) = Xg_testing_waiting u := rfl
theorem Xq_switches_testing_outcome (u : XS) (v : Nat → Int32) : Xg_switches (Xs_testing_outcome u v) = Xg_switches u := rfl
theorem Xq_leftText_testing_outcome (u : XS) (v : Nat → Int32) : Xg_leftText (Xs_testing_outcome u v) = Xg_leftText u := rfl
theorem Xq_rightText_testing_outcome (u : XS) (v : Nat → Int32) : Xg_rightText (Xs_testing_outcome u v) = Xg_rightText u := rfl
theorem Xq_whole_testing_leaves (u : XS) (v : Nat → Int32) : Xg_whole (Xs_testing_leaves u v) = Xg_whole u := rfl
theorem Xq_fields_made_testing_leaves (u : XS) (v : Nat → Int32) : Xg_fields_made (Xs_testing_leaves u v) = Xg_fields_made u := rfl
theorem Xq_fields_category_testing_leaves (u : XS) (v : Nat → Int32) : Xg_fields_category (Xs_testing_leaves u v) = Xg_fields_category u := rfl
theorem Xq_fields_size_testing_leaves (u : XS) (v : Nat → Int32) : Xg_fields_size (Xs_testing_leaves u v) = Xg_fields_size u := rfl
theorem Xq_fields_scale_testing_leaves (u : XS) (v : Nat → Int32) : Xg_fields_scale (Xs_testing_leaves u v) = Xg_fields_scale u := rfl
theorem Xq_fields_bytes_testing_leaves (u : XS) (v : Nat → Int32) : Xg_fields_bytes (Xs_testing_leaves u v) = Xg_fields_bytes u := rfl
theorem Xq_weights_of_testing_leaves (u : XS) (v : Nat → Int32) : Xg_weights_of (Xs_testing_leaves u v) = Xg_weights_of u := rfl
theorem Xq_names_made_testing_leaves (u : XS) (v : Nat → Int32) : Xg_names_made (Xs_testing_leaves u v) = Xg_names_made u := rfl
theorem Xq_names_field_testing_leaves (u : XS) (v : Nat → Int32) : Xg_names_field (Xs_testing_leaves u v) = Xg_names_field u := rfl
theorem Xq_names_ranges_testing_leaves (u : XS) (v : Nat → Int32) : Xg_names_ranges (Xs_testing_leaves u v) = Xg_names_ranges u := rfl
theorem Xq_names_low_testing_leaves (u : XS) (v : Nat → Int32) : Xg_names_low (Xs_testing_leaves u v) = Xg_names_low u := rfl
theorem Xq_names_high_testing_leaves (u : XS) (v : Nat → Int32) : Xg_names_high (Xs_testing_leaves u v) = Xg_names_high u := rfl
theorem Xq_nodes_made_testing_leaves (u : XS) (v : Nat → Int32) : Xg_nodes_made (Xs_testing_leaves u v) = Xg_nodes_made u := rfl
theorem Xq_nodes_op_testing_leaves (u : XS) (v : Nat → Int32) : Xg_nodes_op (Xs_testing_leaves u v) = Xg_nodes_op u := rfl
theorem Xq_nodes_a_testing_leaves (u : XS) (v : Nat → Int32) : Xg_nodes_a (Xs_testing_leaves u v) = Xg_nodes_a u := rfl
theorem Xq_nodes_b_testing_leaves (u : XS) (v : Nat → Int32) : Xg_nodes_b (Xs_testing_leaves u v) = Xg_nodes_b u := rfl
theorem Xq_row_subject_testing_leaves (u : XS) (v : Nat → Int32) : Xg_row_subject (Xs_testing_leaves u v) = Xg_row_subject u := rfl
theorem Xq_row_carried_testing_leaves (u : XS) (v : Nat → Int32) : Xg_row_carried (Xs_testing_leaves u v) = Xg_row_carried u := rfl
theorem Xq_row_length_testing_leaves (u : XS) (v : Nat → Int32) : Xg_row_length (Xs_testing_leaves u v) = Xg_row_length u := rfl
theorem Xq_row_with_testing_leaves (u : XS) (v : Nat → Int32) : Xg_row_with (Xs_testing_leaves u v) = Xg_row_with u := rfl
theorem Xq_row_op_testing_leaves (u : XS) (v : Nat → Int32) : Xg_row_op (Xs_testing_leaves u v) = Xg_row_op u := rfl
theorem Xq_row_negated_testing_leaves (u : XS) (v : Nat → Int32) : Xg_row_negated (Xs_testing_leaves u v) = Xg_row_negated u := rfl
theorem Xq_row_object_testing_leaves (u : XS) (v : Nat → Int32) : Xg_row_object (Xs_testing_leaves u v) = Xg_row_object u := rfl
theorem Xq_testing_noted_testing_leaves (u : XS) (v : Nat → Int32) : Xg_testing_noted (Xs_testing_leaves u v) = Xg_testing_noted u := rfl
theorem Xq_testing_depth_testing_leaves (u : XS) (v : Nat → Int32) : Xg_testing_depth (Xs_testing_leaves u v) = Xg_testing_depth u := rfl
theorem Xq_testing_outcome_testing_leaves (u : XS) (v : Nat → Int32) : Xg_testing_outcome (Xs_testing_leaves u v) = Xg_testing_outcome u := rfl
theorem Xq_testing_leaves_testing_leaves (u : XS) (v : Nat → Int32) : Xg_testing_leaves (Xs_testing_leaves u v) = v := rfl
theorem Xq_testing_waiting_testing_leaves (u : XS) (v : Nat → Int32) : Xg_testing_waiting (Xs_testing_leaves u v) = Xg_testing_waiting u := rfl
theorem Xq_switches_testing_leaves (u : XS) (v : Nat → Int32) : Xg_switches (Xs_testing_leaves u v) = Xg_switches u := rfl
theorem Xq_leftText_testing_leaves (u : XS) (v : Nat → Int32) : Xg_leftText (Xs_testing_leaves u v) = Xg_leftText u := rfl
theorem Xq_rightText_testing_leaves (u : XS) (v : Nat → Int32) : Xg_rightText (Xs_testing_leaves u v) = Xg_rightText u := rfl
theorem Xq_whole_testing_waiting (u : XS) (v : Nat → Int32) : Xg_whole (Xs_testing_waiting u v) = Xg_whole u := rfl
theorem Xq_fields_made_testing_waiting (u : XS) (v : Nat → Int32) : Xg_fields_made (Xs_testing_waiting u v) = Xg_fields_made u := rfl
theorem Xq_fields_category_testing_waiting (u : XS) (v : Nat → Int32) : Xg_fields_category (Xs_testing_waiting u v) = Xg_fields_category u := rfl
theorem Xq_fields_size_testing_waiting (u : XS) (v : Nat → Int32) : Xg_fields_size (Xs_testing_waiting u v) = Xg_fields_size u := rfl
theorem Xq_fields_scale_testing_waiting (u : XS) (v : Nat → Int32) : Xg_fields_scale (Xs_testing_waiting u v) = Xg_fields_scale u := rfl
theorem Xq_fields_bytes_testing_waiting (u : XS) (v : Nat → Int32) : Xg_fields_bytes (Xs_testing_waiting u v) = Xg_fields_bytes u := rfl
theorem Xq_weights_of_testing_waiting (u : XS) (v : Nat → Int32) : Xg_weights_of (Xs_testing_waiting u v) = Xg_weights_of u := rfl
theorem Xq_names_made_testing_waiting (u : XS) (v : Nat → Int32) : Xg_names_made (Xs_testing_waiting u v) = Xg_names_made u := rfl
theorem Xq_names_field_testing_waiting (u : XS) (v : Nat → Int32) : Xg_names_field (Xs_testing_waiting u v) = Xg_names_field u := rfl
theorem Xq_names_ranges_testing_waiting (u : XS) (v : Nat → Int32) : Xg_names_ranges (Xs_testing_waiting u v) = Xg_names_ranges u := rfl
theorem Xq_names_low_testing_waiting (u : XS) (v : Nat → Int32) : Xg_names_low (Xs_testing_waiting u v) = Xg_names_low u := rfl
theorem Xq_names_high_testing_waiting (u : XS) (v : Nat → Int32) : Xg_names_high (Xs_testing_waiting u v) = Xg_names_high u := rfl
theorem Xq_nodes_made_testing_waiting (u : XS) (v : Nat → Int32) : Xg_nodes_made (Xs_testing_waiting u v) = Xg_nodes_made u := rfl
theorem Xq_nodes_op_testing_waiting (u : XS) (v : Nat → Int32) : Xg_nodes_op (Xs_testing_waiting u v) = Xg_nodes_op u := rfl
theorem Xq_nodes_a_testing_waiting (u : XS) (v : Nat → Int32) : Xg_nodes_a (Xs_testing_waiting u v) = Xg_nodes_a u := rfl
theorem Xq_nodes_b_testing_waiting (u : XS) (v : Nat → Int32) : Xg_nodes_b (Xs_testing_waiting u v) = Xg_nodes_b u := rfl
theorem Xq_row_subject_testing_waiting (u : XS) (v : Nat → Int32) : Xg_row_subject (Xs_testing_waiting u v) = Xg_row_subject u := rfl
theorem Xq_row_carried_testing_waiting (u : XS) (v : Nat → Int32) : Xg_row_carried (Xs_testing_waiting u v) = Xg_row_carried u := rfl
theorem Xq_row_length_testing_waiting (u : XS) (v : Nat → Int32) : Xg_row_length (Xs_testing_waiting u v) = Xg_row_length u := rfl
theorem Xq_row_with_testing_waiting (u : XS) (v : Nat → Int32) : Xg_row_with (Xs_testing_waiting u v) = Xg_row_with u := rfl
theorem Xq_row_op_testing_waiting (u : XS) (v : Nat → Int32) : Xg_row_op (Xs_testing_waiting u v) = Xg_row_op u := rfl
theorem Xq_row_negated_testing_waiting (u : XS) (v : Nat → Int32) : Xg_row_negated (Xs_testing_waiting u v) = Xg_row_negated u := rfl
theorem Xq_row_object_testing_waiting (u : XS) (v : Nat → Int32) : Xg_row_object (Xs_testing_waiting u v) = Xg_row_object u := rfl
theorem Xq_testing_noted_testing_waiting (u : XS) (v : Nat → Int32) : Xg_testing_noted (Xs_testing_waiting u v) = Xg_testing_noted u := rfl
theorem Xq_testing_depth_testing_waiting (u : XS) (v : Nat → Int32) : Xg_testing_depth (Xs_testing_waiting u v) = Xg_testing_depth u := rfl
theorem Xq_testing_outcome_testing_waiting (u : XS) (v : Nat → Int32) : Xg_testing_outcome (Xs_testing_waiting u v) = Xg_testing_outcome u := rfl
theorem Xq_testing_leaves_testing_waiting (u : XS) (v : Nat → Int32) : Xg_testing_leaves (Xs_testing_waiting u v) = Xg_testing_leaves u := rfl
theorem Xq_testing_waiting_testing_waiting (u : XS) (v : Nat → Int32) : Xg_testing_waiting (Xs_testing_waiting u v) = v := rfl
theorem Xq_switches_testing_waiting (u : XS) (v : Nat → Int32) : Xg_switches (Xs_testing_waiting u v) = Xg_switches u := rfl
theorem Xq_leftText_testing_waiting (u : XS) (v : Nat → Int32) : Xg_leftText (Xs_testing_waiting u v) = Xg_leftText u := rfl
theorem Xq_rightText_testing_waiting (u : XS) (v : Nat → Int32) : Xg_rightText (Xs_testing_waiting u v) = Xg_rightText u := rfl
theorem Xq_whole_switches (u : XS) (v : Nat → Int32) : Xg_whole (Xs_switches u v) = Xg_whole u := rfl
theorem Xq_fields_made_switches (u : XS) (v : Nat → Int32) : Xg_fields_made (Xs_switches u v) = Xg_fields_made u := rfl
theorem Xq_fields_category_switches (u : XS) (v : Nat → Int32) : Xg_fields_category (Xs_switches u v) = Xg_fields_category u := rfl
theorem Xq_fields_size_switches (u : XS) (v : Nat → Int32) : Xg_fields_size (Xs_switches u v) = Xg_fields_size u := rfl
theorem Xq_fields_scale_switches (u : XS) (v : Nat → Int32) : Xg_fields_scale (Xs_switches u v) = Xg_fields_scale u := rfl
theorem Xq_fields_bytes_switches (u : XS) (v : Nat → Int32) : Xg_fields_bytes (Xs_switches u v) = Xg_fields_bytes u := rfl
theorem Xq_weights_of_switches (u : XS) (v : Nat → Int32) : Xg_weights_of (Xs_switches u v) = Xg_weights_of u := rfl
theorem Xq_names_made_switches (u : XS) (v : Nat → Int32) : Xg_names_made (Xs_switches u v) = Xg_names_made u := rfl
theorem Xq_names_field_switches (u : XS) (v : Nat → Int32) : Xg_names_field (Xs_switches u v) = Xg_names_field u := rfl
theorem Xq_names_ranges_switches (u : XS) (v : Nat → Int32) : Xg_names_ranges (Xs_switches u v) = Xg_names_ranges u := rfl
theorem Xq_names_low_switches (u : XS) (v : Nat → Int32) : Xg_names_low (Xs_switches u v) = Xg_names_low u := rfl
theorem Xq_names_high_switches (u : XS) (v : Nat → Int32) : Xg_names_high (Xs_switches u v) = Xg_names_high u := rfl
theorem Xq_nodes_made_switches (u : XS) (v : Nat → Int32) : Xg_nodes_made (Xs_switches u v) = Xg_nodes_made u := rfl
theorem Xq_nodes_op_switches (u : XS) (v : Nat → Int32) : Xg_nodes_op (Xs_switches u v) = Xg_nodes_op u := rfl
theorem Xq_nodes_a_switches (u : XS) (v : Nat → Int32) : Xg_nodes_a (Xs_switches u v) = Xg_nodes_a u := rfl
theorem Xq_nodes_b_switches (u : XS) (v : Nat → Int32) : Xg_nodes_b (Xs_switches u v) = Xg_nodes_b u := rfl
theorem Xq_row_subject_switches (u : XS) (v : Nat → Int32) : Xg_row_subject (Xs_switches u v) = Xg_row_subject u := rfl
theorem Xq_row_carried_switches (u : XS) (v : Nat → Int32) : Xg_row_carried (Xs_switches u v) = Xg_row_carried u := rfl
theorem Xq_row_length_switches (u : XS) (v : Nat → Int32) : Xg_row_length (Xs_switches u v) = Xg_row_length u := rfl
theorem Xq_row_with_switches (u : XS) (v : Nat → Int32) : Xg_row_with (Xs_switches u v) = Xg_row_with u := rfl
theorem Xq_row_op_switches (u : XS) (v : Nat → Int32) : Xg_row_op (Xs_switches u v) = Xg_row_op u := rfl
theorem Xq_row_negated_switches (u : XS) (v : Nat → Int32) : Xg_row_negated (Xs_switches u v) = Xg_row_negated u := rfl
theorem Xq_row_object_switches (u : XS) (v : Nat → Int32) : Xg_row_object (Xs_switches u v) = Xg_row_object u := rfl
theorem Xq_testing_noted_switches (u : XS) (v : Nat → Int32) : Xg_testing_noted (Xs_switches u v) = Xg_testing_noted u := rfl
theorem Xq_testing_depth_switches (u : XS) (v : Nat → Int32) : Xg_testing_depth (Xs_switches u v) = Xg_testing_depth u := rfl
theorem Xq_testing_outcome_switches (u : XS) (v : Nat → Int32) : Xg_testing_outcome (Xs_switches u v) = Xg_testing_outcome u := rfl
theorem Xq_testing_leaves_switches (u : XS) (v : Nat → Int32) : Xg_testing_leaves (Xs_switches u v) = Xg_testing_leaves u := rfl
theorem Xq_testing_waiting_switches (u : XS) (v : Nat → Int32) : Xg_testing_waiting (Xs_switches u v) = Xg_testing_waiting u := rfl
theorem Xq_switches_switches (u : XS) (v : Nat → Int32) : Xg_switches (Xs_switches u v) = v := rfl
theorem Xq_leftText_switches (u : XS) (v : Nat → Int32) : Xg_leftText (Xs_switches u v) = Xg_leftText u := rfl
theorem Xq_rightText_switches (u : XS) (v : Nat → Int32) : Xg_rightText (Xs_switches u v) = Xg_rightText u := rfl
theorem Xq_whole_leftText (u : XS) (v : Nat → Int32) : Xg_whole (Xs_leftText u v) = Xg_whole u := rfl
theorem Xq_fields_made_leftText (u : XS) (v : Nat → Int32) : Xg_fields_made (Xs_leftText u v) = Xg_fields_made u := rfl
theorem Xq_fields_category_leftText (u : XS) (v : Nat → Int32) : Xg_fields_category (Xs_leftText u v) = Xg_fields_category u := rfl
theorem Xq_fields_size_leftText (u : XS) (v : Nat → Int32) : Xg_fields_size (Xs_leftText u v) = Xg_fields_size u := rfl
theorem Xq_fields_scale_leftText (u : XS) (v : Nat → Int32) : Xg_fields_scale (Xs_leftText u v) = Xg_fields_scale u := rfl
theorem Xq_fields_bytes_leftText (u : XS) (v : Nat → Int32) : Xg_fields_bytes (Xs_leftText u v) = Xg_fields_bytes u := rfl
theorem Xq_weights_of_leftText (u : XS) (v : Nat → Int32) : Xg_weights_of (Xs_leftText u v) = Xg_weights_of u := rfl
theorem Xq_names_made_leftText (u : XS) (v : Nat → Int32) : Xg_names_made (Xs_leftText u v) = Xg_names_made u := rfl
theorem Xq_names_field_leftText (u : XS) (v : Nat → Int32) : Xg_names_field (Xs_leftText u v) = Xg_names_field u := rfl
theorem Xq_names_ranges_leftText (u : XS) (v : Nat → Int32) : Xg_names_ranges (Xs_leftText u v) = Xg_names_ranges u := rfl
theorem Xq_names_low_leftText (u : XS) (v : Nat → Int32) : Xg_names_low (Xs_leftText u v) = Xg_names_low u := rfl
theorem Xq_names_high_leftText (u : XS) (v : Nat → Int32) : Xg_names_high (Xs_leftText u v) = Xg_names_high u := rfl
theorem Xq_nodes_made_leftText (u : XS) (v : Nat → Int32) : Xg_nodes_made (Xs_leftText u v) = Xg_nodes_made u := rfl
theorem Xq_nodes_op_leftText (u : XS) (v : Nat → Int32) : Xg_nodes_op (Xs_leftText u v) = Xg_nodes_op u := rfl
theorem Xq_nodes_a_leftText (u : XS) (v : Nat → Int32) : Xg_nodes_a (Xs_leftText u v) = Xg_nodes_a u := rfl
theorem Xq_nodes_b_leftText (u : XS) (v : Nat → Int32) : Xg_nodes_b (Xs_leftText u v) = Xg_nodes_b u := rfl
theorem Xq_row_subject_leftText (u : XS) (v : Nat → Int32) : Xg_row_subject (Xs_leftText u v) = Xg_row_subject u := rfl
theorem Xq_row_carried_leftText (u : XS) (v : Nat → Int32) : Xg_row_carried (Xs_leftText u v) = Xg_row_carried u := rfl
theorem Xq_row_length_leftText (u : XS) (v : Nat → Int32) : Xg_row_length (Xs_leftText u v) = Xg_row_length u := rfl
theorem Xq_row_with_leftText (u : XS) (v : Nat → Int32) : Xg_row_with (Xs_leftText u v) = Xg_row_with u := rfl
theorem Xq_row_op_leftText (u : XS) (v : Nat → Int32) : Xg_row_op (Xs_leftText u v) = Xg_row_op u := rfl
theorem Xq_row_negated_leftText (u : XS) (v : Nat → Int32) : Xg_row_negated (Xs_leftText u v) = Xg_row_negated u := rfl
theorem Xq_row_object_leftText (u : XS) (v : Nat → Int32) : Xg_row_object (Xs_leftText u v) = Xg_row_object u := rfl
theorem Xq_testing_noted_leftText (u : XS) (v : Nat → Int32) : Xg_testing_noted (Xs_leftText u v) = Xg_testing_noted u := rfl
theorem Xq_testing_depth_leftText (u : XS) (v : Nat → Int32) : Xg_testing_depth (Xs_leftText u v) = Xg_testing_depth u := rfl
theorem Xq_testing_outcome_leftText (u : XS) (v : Nat → Int32) : Xg_testing_outcome (Xs_leftText u v) = Xg_testing_outcome u := rfl
theorem Xq_testing_leaves_leftText (u : XS) (v : Nat → Int32) : Xg_testing_leaves (Xs_leftText u v) = Xg_testing_leaves u := rfl
theorem Xq_testing_waiting_leftText (u : XS) (v : Nat → Int32) : Xg_testing_waiting (Xs_leftText u v) = Xg_testing_waiting u := rfl
theorem Xq_switches_leftText (u : XS) (v : Nat → Int32) : Xg_switches (Xs_leftText u v) = Xg_switches u := rfl
theorem Xq_leftText_leftText (u : XS) (v : Nat → Int32) : Xg_leftText (Xs_leftText u v) = v := rfl
theorem Xq_rightText_leftText (u : XS) (v : Nat → Int32) : Xg_rightText (Xs_leftText u v) = Xg_rightText u := rfl
theorem Xq_whole_rightText (u : XS) (v : Nat → Int32) : Xg_whole (Xs_rightText u v) = Xg_whole u := rfl
theorem Xq_fields_made_rightText (u : XS) (v : Nat → Int32) : Xg_fields_made (Xs_rightText u v) = Xg_fields_made u := rfl
theorem Xq_fields_category_rightText (u : XS) (v : Nat → Int32) : Xg_fields_category (Xs_rightText u v) = Xg_fields_category u := rfl
theorem Xq_fields_size_rightText (u : XS) (v : Nat → Int32) : Xg_fields_size (Xs_rightText u v) = Xg_fields_size u := rfl
theorem Xq_fields_scale_rightText (u : XS) (v : Nat → Int32) : Xg_fields_scale (Xs_rightText u v) = Xg_fields_scale u := rfl
theorem Xq_fields_bytes_rightText (u : XS) (v : Nat → Int32) : Xg_fields_bytes (Xs_rightText u v) = Xg_fields_bytes u := rfl
theorem Xq_weights_of_rightText (u : XS) (v : Nat → Int32) : Xg_weights_of (Xs_rightText u v) = Xg_weights_of u := rfl
theorem Xq_names_made_rightText (u : XS) (v : Nat → Int32) : Xg_names_made (Xs_rightText u v) = Xg_names_made u := rfl
theorem Xq_names_field_rightText (u : XS) (v : Nat → Int32) : Xg_names_field (Xs_rightText u v) = Xg_names_field u := rfl
theorem Xq_names_ranges_rightText (u : XS) (v : Nat → Int32) : Xg_names_ranges (Xs_rightText u v) = Xg_names_ranges u := rfl
theorem Xq_names_low_rightText (u : XS) (v : Nat → Int32) : Xg_names_low (Xs_rightText u v) = Xg_names_low u := rfl
theorem Xq_names_high_rightText (u : XS) (v : Nat → Int32) : Xg_names_high (Xs_rightText u v) = Xg_names_high u := rfl
theorem Xq_nodes_made_rightText (u : XS) (v : Nat → Int32) : Xg_nodes_made (Xs_rightText u v) = Xg_nodes_made u := rfl
theorem Xq_nodes_op_rightText (u : XS) (v : Nat → Int32) : Xg_nodes_op (Xs_rightText u v) = Xg_nodes_op u := rfl
theorem Xq_nodes_a_rightText (u : XS) (v : Nat → Int32) : Xg_nodes_a (Xs_rightText u v) = Xg_nodes_a u := rfl
theorem Xq_nodes_b_rightText (u : XS) (v : Nat → Int32) : Xg_nodes_b (Xs_rightText u v) = Xg_nodes_b u := rfl
theorem Xq_row_subject_rightText (u : XS) (v : Nat → Int32) : Xg_row_subject (Xs_rightText u v) = Xg_row_subject u := rfl
theorem Xq_row_carried_rightText (u : XS) (v : Nat → Int32) : Xg_row_carried (Xs_rightText u v) = Xg_row_carried u := rfl
theorem Xq_row_length_rightText (u : XS) (v : Nat → Int32) : Xg_row_length (Xs_rightText u v) = Xg_row_length u := rfl
theorem Xq_row_with_rightText (u : XS) (v : Nat → Int32) : Xg_row_with (Xs_rightText u v) = Xg_row_with u := rfl
theorem Xq_row_op_rightText (u : XS) (v : Nat → Int32) : Xg_row_op (Xs_rightText u v) = Xg_row_op u := rfl
theorem Xq_row_negated_rightText (u : XS) (v : Nat → Int32) : Xg_row_negated (Xs_rightText u v) = Xg_row_negated u := rfl
theorem Xq_row_object_rightText (u : XS) (v : Nat → Int32) : Xg_row_object (Xs_rightText u v) = Xg_row_object u := rfl
theorem Xq_testing_noted_rightText (u : XS) (v : Nat → Int32) : Xg_testing_noted (Xs_rightText u v) = Xg_testing_noted u := rfl
theorem Xq_testing_depth_rightText (u : XS) (v : Nat → Int32) : Xg_testing_depth (Xs_rightText u v) = Xg_testing_depth u := rfl
theorem Xq_testing_outcome_rightText (u : XS) (v : Nat → Int32) : Xg_testing_outcome (Xs_rightText u v) = Xg_testing_outcome u := rfl
theorem Xq_testing_leaves_rightText (u : XS) (v : Nat → Int32) : Xg_testing_leaves (Xs_rightText u v) = Xg_testing_leaves u := rfl
theorem Xq_testing_waiting_rightText (u : XS) (v : Nat → Int32) : Xg_testing_waiting (Xs_rightText u v) = Xg_testing_waiting u := rfl
theorem Xq_switches_rightText (u : XS) (v : Nat → Int32) : Xg_switches (Xs_rightText u v) = Xg_switches u := rfl
theorem Xq_leftText_rightText (u : XS) (v : Nat → Int32) : Xg_leftText (Xs_rightText u v) = Xg_leftText u := rfl
theorem Xq_rightText_rightText (u : XS) (v : Nat → Int32) : Xg_rightText (Xs_rightText u v) = v := rfl
theorem Xe_whole (k : zK) (a : Nat → Nat) (u : XS) (v : Int32) : wX k a (Xs_whole u v) = (wX k a u).set 0 ((a 0), .inr (0, ([.int (Xg_whole u), .ref (a 1), .ref (a 6), .ref (a 8), .ref (a 13), .ref (a 17), .ref (a 22), .ref (a 26), .ref (a 27), .ref (a 28)] : List Value).set 0 (.int v))) := by
  simp only [wX, Xq_whole_whole, Xq_fields_made_whole, Xq_fields_category_whole, Xq_fields_size_whole, Xq_fields_scale_whole, Xq_fields_bytes_whole, Xq_weights_of_whole, Xq_names_made_whole, Xq_names_field_whole, Xq_names_ranges_whole, Xq_names_low_whole, Xq_names_high_whole, Xq_nodes_made_whole, Xq_nodes_op_whole, Xq_nodes_a_whole, Xq_nodes_b_whole, Xq_row_subject_whole, Xq_row_carried_whole, Xq_row_length_whole, Xq_row_with_whole, Xq_row_op_whole, Xq_row_negated_whole, Xq_row_object_whole, Xq_testing_noted_whole, Xq_testing_depth_whole, Xq_testing_outcome_whole, Xq_testing_leaves_whole, Xq_testing_waiting_whole, Xq_switches_whole, Xq_leftText_whole, Xq_rightText_whole, List.set_cons_succ, List.set_cons_zero]
theorem Xp_whole {D : va_G} {k : zK} {a : Nat → Nat} {u : XS} {v : Int32} {H : Heap} (h : va_P D vwCl ((wX k a u).set 0 ((a 0), .inr (0, ([.int (Xg_whole u), .ref (a 1), .ref (a 6), .ref (a 8), .ref (a 13), .ref (a 17), .ref (a 22), .ref (a 26), .ref (a 27), .ref (a 28)] : List Value).set 0 (.int v)))) H) : va_P D vwCl (wX k a (Xs_whole u v)) H := by
  rw [Xe_whole]; exact h
theorem Xe_fields_made (k : zK) (a : Nat → Nat) (u : XS) (v : Int32) : wX k a (Xs_fields_made u v) = (wX k a u).set 1 ((a 1), .inr (1, ([.ref (a 2), .ref (a 3), .ref (a 4), .ref (a 5), .int (Xg_fields_made u)] : List Value).set 4 (.int v))) := by
  simp only [wX, Xq_whole_fields_made, Xq_fields_made_fields_made, Xq_fields_category_fields_made, Xq_fields_size_fields_made, Xq_fields_scale_fields_made, Xq_fields_bytes_fields_made, Xq_weights_of_fields_made, Xq_names_made_fields_made, Xq_names_field_fields_made, Xq_names_ranges_fields_made, Xq_names_low_fields_made, Xq_names_high_fields_made, Xq_nodes_made_fields_made, Xq_nodes_op_fields_made, Xq_nodes_a_fields_made, Xq_nodes_b_fields_made, Xq_row_subject_fields_made, Xq_row_carried_fields_made, Xq_row_length_fields_made, Xq_row_with_fields_made, Xq_row_op_fields_made, Xq_row_negated_fields_made, Xq_row_object_fields_made, Xq_testing_noted_fields_made, Xq_testing_depth_fields_made, Xq_testing_outcome_fields_made, Xq_testing_leaves_fields_made, Xq_testing_waiting_fields_made, Xq_switches_fields_made, Xq_leftText_fields_made, Xq_rightText_fields_made, List.set_cons_succ, List.set_cons_zero]
theorem Xp_fields_made {D : va_G} {k : zK} {a : Nat → Nat} {u : XS} {v : Int32} {H : Heap} (h : va_P D vwCl ((wX k a u).set 1 ((a 1), .inr (1, ([.ref (a 2), .ref (a 3), .ref (a 4), .ref (a 5), .int (Xg_fields_made u)] : List Value).set 4 (.int v)))) H) : va_P D vwCl (wX k a (Xs_fields_made u v)) H := by
  rw [Xe_fields_made]; exact h
theorem Xe_fields_category (k : zK) (a : Nat → Nat) (u : XS) (v : Nat → Int32) : wX k a (Xs_fields_category u v) = (wX k a u).set 2 ((a 2), .inl (k.2.1, 40, .inl v)) := by
  simp only [wX, Xq_whole_fields_category, Xq_fields_made_fields_category, Xq_fields_category_fields_category, Xq_fields_size_fields_category, Xq_fields_scale_fields_category, Xq_fields_bytes_fields_category, Xq_weights_of_fields_category, Xq_names_made_fields_category, Xq_names_field_fields_category, Xq_names_ranges_fields_category, Xq_names_low_fields_category, Xq_names_high_fields_category, Xq_nodes_made_fields_category, Xq_nodes_op_fields_category, Xq_nodes_a_fields_category, Xq_nodes_b_fields_category, Xq_row_subject_fields_category, Xq_row_carried_fields_category, Xq_row_length_fields_category, Xq_row_with_fields_category, Xq_row_op_fields_category, Xq_row_negated_fields_category, Xq_row_object_fields_category, Xq_testing_noted_fields_category, Xq_testing_depth_fields_category, Xq_testing_outcome_fields_category, Xq_testing_leaves_fields_category, Xq_testing_waiting_fields_category, Xq_switches_fields_category, Xq_leftText_fields_category, Xq_rightText_fields_category, List.set_cons_succ, List.set_cons_zero]
theorem Xp_fields_category {D : va_G} {k : zK} {a : Nat → Nat} {u : XS} {v : Nat → Int32} {H : Heap} (h : va_P D vwCl ((wX k a u).set 2 ((a 2), .inl (k.2.1, 40, .inl v))) H) : va_P D vwCl (wX k a (Xs_fields_category u v)) H := by
  rw [Xe_fields_category]; exact h
theorem Xe_fields_size (k : zK) (a : Nat → Nat) (u : XS) (v : Nat → Int32) : wX k a (Xs_fields_size u v) = (wX k a u).set 3 ((a 3), .inl (k.2.1, 40, .inl v)) := by
  simp only [wX, Xq_whole_fields_size, Xq_fields_made_fields_size, Xq_fields_category_fields_size, Xq_fields_size_fields_size, Xq_fields_scale_fields_size, Xq_fields_bytes_fields_size, Xq_weights_of_fields_size, Xq_names_made_fields_size, Xq_names_field_fields_size, Xq_names_ranges_fields_size, Xq_names_low_fields_size, Xq_names_high_fields_size, Xq_nodes_made_fields_size, Xq_nodes_op_fields_size, Xq_nodes_a_fields_size, Xq_nodes_b_fields_size, Xq_row_subject_fields_size, Xq_row_carried_fields_size, Xq_row_length_fields_size, Xq_row_with_fields_size, Xq_row_op_fields_size, Xq_row_negated_fields_size, Xq_row_object_fields_size, Xq_testing_noted_fields_size, Xq_testing_depth_fields_size, Xq_testing_outcome_fields_size, Xq_testing_leaves_fields_size, Xq_testing_waiting_fields_size, Xq_switches_fields_size, Xq_leftText_fields_size, Xq_rightText_fields_size, List.set_cons_succ, List.set_cons_zero]
theorem Xp_fields_size {D : va_G} {k : zK} {a : Nat → Nat} {u : XS} {v : Nat → Int32} {H : Heap} (h : va_P D vwCl ((wX k a u).set 3 ((a 3), .inl (k.2.1, 40, .inl v))) H) : va_P D vwCl (wX k a (Xs_fields_size u v)) H := by
  rw [Xe_fields_size]; exact h
theorem Xe_fields_scale (k : zK) (a : Nat → Nat) (u : XS) (v : Nat → Int32) : wX k a (Xs_fields_scale u v) = (wX k a u).set 4 ((a 4), .inl (k.2.1, 40, .inl v)) := by
  simp only [wX, Xq_whole_fields_scale, Xq_fields_made_fields_scale, Xq_fields_category_fields_scale, Xq_fields_size_fields_scale, Xq_fields_scale_fields_scale, Xq_fields_bytes_fields_scale, Xq_weights_of_fields_scale, Xq_names_made_fields_scale, Xq_names_field_fields_scale, Xq_names_ranges_fields_scale, Xq_names_low_fields_scale, Xq_names_high_fields_scale, Xq_nodes_made_fields_scale, Xq_nodes_op_fields_scale, Xq_nodes_a_fields_scale, Xq_nodes_b_fields_scale, Xq_row_subject_fields_scale, Xq_row_carried_fields_scale, Xq_row_length_fields_scale, Xq_row_with_fields_scale, Xq_row_op_fields_scale, Xq_row_negated_fields_scale, Xq_row_object_fields_scale, Xq_testing_noted_fields_scale, Xq_testing_depth_fields_scale, Xq_testing_outcome_fields_scale, Xq_testing_leaves_fields_scale, Xq_testing_waiting_fields_scale, Xq_switches_fields_scale, Xq_leftText_fields_scale, Xq_rightText_fields_scale, List.set_cons_succ, List.set_cons_zero]
theorem Xp_fields_scale {D : va_G} {k : zK} {a : Nat → Nat} {u : XS} {v : Nat → Int32} {H : Heap} (h : va_P D vwCl ((wX k a u).set 4 ((a 4), .inl (k.2.1, 40, .inl v))) H) : va_P D vwCl (wX k a (Xs_fields_scale u v)) H := by
  rw [Xe_fields_scale]; exact h
theorem Xe_fields_bytes (k : zK) (a : Nat → Nat) (u : XS) (v : Nat → Int32) : wX k a (Xs_fields_bytes u v) = (wX k a u).set 5 ((a 5), .inl (k.2.1, 1280, .inl v)) := by
  simp only [wX, Xq_whole_fields_bytes, Xq_fields_made_fields_bytes, Xq_fields_category_fields_bytes, Xq_fields_size_fields_bytes, Xq_fields_scale_fields_bytes, Xq_fields_bytes_fields_bytes, Xq_weights_of_fields_bytes, Xq_names_made_fields_bytes, Xq_names_field_fields_bytes, Xq_names_ranges_fields_bytes, Xq_names_low_fields_bytes, Xq_names_high_fields_bytes, Xq_nodes_made_fields_bytes, Xq_nodes_op_fields_bytes, Xq_nodes_a_fields_bytes, Xq_nodes_b_fields_bytes, Xq_row_subject_fields_bytes, Xq_row_carried_fields_bytes, Xq_row_length_fields_bytes, Xq_row_with_fields_bytes, Xq_row_op_fields_bytes, Xq_row_negated_fields_bytes, Xq_row_object_fields_bytes, Xq_testing_noted_fields_bytes, Xq_testing_depth_fields_bytes, Xq_testing_outcome_fields_bytes, Xq_testing_leaves_fields_bytes, Xq_testing_waiting_fields_bytes, Xq_switches_fields_bytes, Xq_leftText_fields_bytes, Xq_rightText_fields_bytes, List.set_cons_succ, List.set_cons_zero]
theorem Xp_fields_bytes {D : va_G} {k : zK} {a : Nat → Nat} {u : XS} {v : Nat → Int32} {H : Heap} (h : va_P D vwCl ((wX k a u).set 5 ((a 5), .inl (k.2.1, 1280, .inl v))) H) : va_P D vwCl (wX k a (Xs_fields_bytes u v)) H := by
  rw [Xe_fields_bytes]; exact h
theorem Xe_weights_of (k : zK) (a : Nat → Nat) (u : XS) (v : Nat → Int32) : wX k a (Xs_weights_of u v) = (wX k a u).set 7 ((a 7), .inl (k.2.1, 256, .inl v)) := by
  simp only [wX, Xq_whole_weights_of, Xq_fields_made_weights_of, Xq_fields_category_weights_of, Xq_fields_size_weights_of, Xq_fields_scale_weights_of, Xq_fields_bytes_weights_of, Xq_weights_of_weights_of, Xq_names_made_weights_of, Xq_names_field_weights_of, Xq_names_ranges_weights_of, Xq_names_low_weights_of, Xq_names_high_weights_of, Xq_nodes_made_weights_of, Xq_nodes_op_weights_of, Xq_nodes_a_weights_of, Xq_nodes_b_weights_of, Xq_row_subject_weights_of, Xq_row_carried_weights_of, Xq_row_length_weights_of, Xq_row_with_weights_of, Xq_row_op_weights_of, Xq_row_negated_weights_of, Xq_row_object_weights_of, Xq_testing_noted_weights_of, Xq_testing_depth_weights_of, Xq_testing_outcome_weights_of, Xq_testing_leaves_weights_of, Xq_testing_waiting_weights_of, Xq_switches_weights_of, Xq_leftText_weights_of, Xq_rightText_weights_of, List.set_cons_succ, List.set_cons_zero]
theorem Xp_weights_of {D : va_G} {k : zK} {a : Nat → Nat} {u : XS} {v : Nat → Int32} {H : Heap} (h : va_P D vwCl ((wX k a u).set 7 ((a 7), .inl (k.2.1, 256, .inl v))) H) : va_P D vwCl (wX k a (Xs_weights_of u v)) H := by
  rw [Xe_weights_of]; exact h
theorem Xe_names_made (k : zK) (a : Nat → Nat) (u : XS) (v : Int32) : wX k a (Xs_names_made u v) = (wX k a u).set 8 ((a 8), .inr (3, ([.ref (a 9), .ref (a 10), .ref (a 11), .ref (a 12), .int (Xg_names_made u)] : List Value).set 4 (.int v))) := by
  simp only [wX, Xq_whole_names_made, Xq_fields_made_names_made, Xq_fields_category_names_made, Xq_fields_size_names_made, Xq_fields_scale_names_made, Xq_fields_bytes_names_made, Xq_weights_of_names_made, Xq_names_made_names_made, Xq_names_field_names_made, Xq_names_ranges_names_made, Xq_names_low_names_made, Xq_names_high_names_made, Xq_nodes_made_names_made, Xq_nodes_op_names_made, Xq_nodes_a_names_made, Xq_nodes_b_names_made, Xq_row_subject_names_made, Xq_row_carried_names_made, Xq_row_length_names_made, Xq_row_with_names_made, Xq_row_op_names_made, Xq_row_negated_names_made, Xq_row_object_names_made, Xq_testing_noted_names_made, Xq_testing_depth_names_made, Xq_testing_outcome_names_made, Xq_testing_leaves_names_made, Xq_testing_waiting_names_made, Xq_switches_names_made, Xq_leftText_names_made, Xq_rightText_names_made, List.set_cons_succ, List.set_cons_zero]
theorem Xp_names_made {D : va_G} {k : zK} {a : Nat → Nat} {u : XS} {v : Int32} {H : Heap} (h : va_P D vwCl ((wX k a u).set 8 ((a 8), .inr (3, ([.ref (a 9), .ref (a 10), .ref (a 11), .ref (a 12), .int (Xg_names_made u)] : List Value).set 4 (.int v)))) H) : va_P D vwCl (wX k a (Xs_names_made u v)) H := by
  rw [Xe_names_made]; exact h
theorem Xe_names_field (k : zK) (a : Nat → Nat) (u : XS) (v : Nat → Int32) : wX k a (Xs_names_field u v) = (wX k a u).set 9 ((a 9), .inl (k.2.1, 41, .inl v)) := by
  simp only [wX, Xq_whole_names_field, Xq_fields_made_names_field, Xq_fields_category_names_field, Xq_fields_size_names_field, Xq_fields_scale_names_field, Xq_fields_bytes_names_field, Xq_weights_of_names_field, Xq_names_made_names_field, Xq_names_field_names_field, Xq_names_ranges_names_field, Xq_names_low_names_field, Xq_names_high_names_field, Xq_nodes_made_names_field, Xq_nodes_op_names_field, Xq_nodes_a_names_field, Xq_nodes_b_names_field, Xq_row_subject_names_field, Xq_row_carried_names_field, Xq_row_length_names_field, Xq_row_with_names_field, Xq_row_op_names_field, Xq_row_negated_names_field, Xq_row_object_names_field, Xq_testing_noted_names_field, Xq_testing_depth_names_field, Xq_testing_outcome_names_field, Xq_testing_leaves_names_field, Xq_testing_waiting_names_field, Xq_switches_names_field, Xq_leftText_names_field, Xq_rightText_names_field, List.set_cons_succ, List.set_cons_zero]
theorem Xp_names_field {D : va_G} {k : zK} {a : Nat → Nat} {u : XS} {v : Nat → Int32} {H : Heap} (h : va_P D vwCl ((wX k a u).set 9 ((a 9), .inl (k.2.1, 41, .inl v))) H) : va_P D vwCl (wX k a (Xs_names_field u v)) H := by
  rw [Xe_names_field]; exact h
theorem Xe_names_ranges (k : zK) (a : Nat → Nat) (u : XS) (v : Nat → Int32) : wX k a (Xs_names_ranges u v) = (wX k a u).set 10 ((a 10), .inl (k.2.1, 41, .inl v)) := by
  simp only [wX, Xq_whole_names_ranges, Xq_fields_made_names_ranges, Xq_fields_category_names_ranges, Xq_fields_size_names_ranges, Xq_fields_scale_names_ranges, Xq_fields_bytes_names_ranges, Xq_weights_of_names_ranges, Xq_names_made_names_ranges, Xq_names_field_names_ranges, Xq_names_ranges_names_ranges, Xq_names_low_names_ranges, Xq_names_high_names_ranges, Xq_nodes_made_names_ranges, Xq_nodes_op_names_ranges, Xq_nodes_a_names_ranges, Xq_nodes_b_names_ranges, Xq_row_subject_names_ranges, Xq_row_carried_names_ranges, Xq_row_length_names_ranges, Xq_row_with_names_ranges, Xq_row_op_names_ranges, Xq_row_negated_names_ranges, Xq_row_object_names_ranges, Xq_testing_noted_names_ranges, Xq_testing_depth_names_ranges, Xq_testing_outcome_names_ranges, Xq_testing_leaves_names_ranges, Xq_testing_waiting_names_ranges, Xq_switches_names_ranges, Xq_leftText_names_ranges, Xq_rightText_names_ranges, List.set_cons_succ, List.set_cons_zero]
theorem Xp_names_ranges {D : va_G} {k : zK} {a : Nat → Nat} {u : XS} {v : Nat → Int32} {H : Heap} (h : va_P D vwCl ((wX k a u).set 10 ((a 10), .inl (k.2.1, 41, .inl v))) H) : va_P D vwCl (wX k a (Xs_names_ranges u v)) H := by
  rw [Xe_names_ranges]; exact h
theorem Xe_names_low (k : zK) (a : Nat → Nat) (u : XS) (v : Nat → Int64) : wX k a (Xs_names_low u v) = (wX k a u).set 11 ((a 11), .inl (k.2.2.1, 328, .inr (.inl v))) := by
  simp only [wX, Xq_whole_names_low, Xq_fields_made_names_low, Xq_fields_category_names_low, Xq_fields_size_names_low, Xq_fields_scale_names_low, Xq_fields_bytes_names_low, Xq_weights_of_names_low, Xq_names_made_names_low, Xq_names_field_names_low, Xq_names_ranges_names_low, Xq_names_low_names_low, Xq_names_high_names_low, Xq_nodes_made_names_low, Xq_nodes_op_names_low, Xq_nodes_a_names_low, Xq_nodes_b_names_low, Xq_row_subject_names_low, Xq_row_carried_names_low, Xq_row_length_names_low, Xq_row_with_names_low, Xq_row_op_names_low, Xq_row_negated_names_low, Xq_row_object_names_low, Xq_testing_noted_names_low, Xq_testing_depth_names_low, Xq_testing_outcome_names_low, Xq_testing_leaves_names_low, Xq_testing_waiting_names_low, Xq_switches_names_low, Xq_leftText_names_low, Xq_rightText_names_low, List.set_cons_succ, List.set_cons_zero]
theorem Xp_names_low {D : va_G} {k : zK} {a : Nat → Nat} {u : XS} {v : Nat → Int64} {H : Heap} (h : va_P D vwCl ((wX k a u).set 11 ((a 11), .inl (k.2.2.1, 328, .inr (.inl v)))) H) : va_P D vwCl (wX k a (Xs_names_low u v)) H := by
  rw [Xe_names_low]; exact h
theorem Xe_names_high (k : zK) (a : Nat → Nat) (u : XS) (v : Nat → Int64) : wX k a (Xs_names_high u v) = (wX k a u).set 12 ((a 12), .inl (k.2.2.1, 328, .inr (.inl v))) := by
  simp only [wX, Xq_whole_names_high, Xq_fields_made_names_high, Xq_fields_category_names_high, Xq_fields_size_names_high, Xq_fields_scale_names_high, Xq_fields_bytes_names_high, Xq_weights_of_names_high, Xq_names_made_names_high, Xq_names_field_names_high, Xq_names_ranges_names_high, Xq_names_low_names_high, Xq_names_high_names_high, Xq_nodes_made_names_high, Xq_nodes_op_names_high, Xq_nodes_a_names_high, Xq_nodes_b_names_high, Xq_row_subject_names_high, Xq_row_carried_names_high, Xq_row_length_names_high, Xq_row_with_names_high, Xq_row_op_names_high, Xq_row_negated_names_high, Xq_row_object_names_high, Xq_testing_noted_names_high, Xq_testing_depth_names_high, Xq_testing_outcome_names_high, Xq_testing_leaves_names_high, Xq_testing_waiting_names_high, Xq_switches_names_high, Xq_leftText_names_high, Xq_rightText_names_high, List.set_cons_succ, List.set_cons_zero]
theorem Xp_names_high {D : va_G} {k : zK} {a : Nat → Nat} {u : XS} {v : Nat → Int64} {H : Heap} (h : va_P D vwCl ((wX k a u).set 12 ((a 12), .inl (k.2.2.1, 328, .inr (.inl v)))) H) : va_P D vwCl (wX k a (Xs_names_high u v)) H := by
  rw [Xe_names_high]; exact h
theorem Xe_nodes_made (k : zK) (a : Nat → Nat) (u : XS) (v : Int32) : wX k a (Xs_nodes_made u v) = (wX k a u).set 13 ((a 13), .inr (4, ([.ref (a 14), .ref (a 15), .ref (a 16), .int (Xg_nodes_made u)] : List Value).set 3 (.int v))) := by
  simp only [wX, Xq_whole_nodes_made, Xq_fields_made_nodes_made, Xq_fields_category_nodes_made, Xq_fields_size_nodes_made, Xq_fields_scale_nodes_made, Xq_fields_bytes_nodes_made, Xq_weights_of_nodes_made, Xq_names_made_nodes_made, Xq_names_field_nodes_made, Xq_names_ranges_nodes_made, Xq_names_low_nodes_made, Xq_names_high_nodes_made, Xq_nodes_made_nodes_made, Xq_nodes_op_nodes_made, Xq_nodes_a_nodes_made, Xq_nodes_b_nodes_made, Xq_row_subject_nodes_made, Xq_row_carried_nodes_made, Xq_row_length_nodes_made, Xq_row_with_nodes_made, Xq_row_op_nodes_made, Xq_row_negated_nodes_made, Xq_row_object_nodes_made, Xq_testing_noted_nodes_made, Xq_testing_depth_nodes_made, Xq_testing_outcome_nodes_made, Xq_testing_leaves_nodes_made, Xq_testing_waiting_nodes_made, Xq_switches_nodes_made, Xq_leftText_nodes_made, Xq_rightText_nodes_made, List.set_cons_succ, List.set_cons_zero]
theorem Xp_nodes_made {D : va_G} {k : zK} {a : Nat → Nat} {u : XS} {v : Int32} {H : Heap} (h : va_P D vwCl ((wX k a u).set 13 ((a 13), .inr (4, ([.ref (a 14), .ref (a 15), .ref (a 16), .int (Xg_nodes_made u)] : List Value).set 3 (.int v)))) H) : va_P D vwCl (wX k a (Xs_nodes_made u v)) H := by
  rw [Xe_nodes_made]; exact h
theorem Xe_nodes_op (k : zK) (a : Nat → Nat) (u : XS) (v : Nat → Int32) : wX k a (Xs_nodes_op u v) = (wX k a u).set 14 ((a 14), .inl (k.2.1, 201, .inl v)) := by
  simp only [wX, Xq_whole_nodes_op, Xq_fields_made_nodes_op, Xq_fields_category_nodes_op, Xq_fields_size_nodes_op, Xq_fields_scale_nodes_op, Xq_fields_bytes_nodes_op, Xq_weights_of_nodes_op, Xq_names_made_nodes_op, Xq_names_field_nodes_op, Xq_names_ranges_nodes_op, Xq_names_low_nodes_op, Xq_names_high_nodes_op, Xq_nodes_made_nodes_op, Xq_nodes_op_nodes_op, Xq_nodes_a_nodes_op, Xq_nodes_b_nodes_op, Xq_row_subject_nodes_op, Xq_row_carried_nodes_op, Xq_row_length_nodes_op, Xq_row_with_nodes_op, Xq_row_op_nodes_op, Xq_row_negated_nodes_op, Xq_row_object_nodes_op, Xq_testing_noted_nodes_op, Xq_testing_depth_nodes_op, Xq_testing_outcome_nodes_op, Xq_testing_leaves_nodes_op, Xq_testing_waiting_nodes_op, Xq_switches_nodes_op, Xq_leftText_nodes_op, Xq_rightText_nodes_op, List.set_cons_succ, List.set_cons_zero]
theorem Xp_nodes_op {D : va_G} {k : zK} {a : Nat → Nat} {u : XS} {v : Nat → Int32} {H : Heap} (h : va_P D vwCl ((wX k a u).set 14 ((a 14), .inl (k.2.1, 201, .inl v))) H) : va_P D vwCl (wX k a (Xs_nodes_op u v)) H := by
  rw [Xe_nodes_op]; exact h
theorem Xe_nodes_a (k : zK) (a : Nat → Nat) (u : XS) (v : Nat → Int32) : wX k a (Xs_nodes_a u v) = (wX k a u).set 15 ((a 15), .inl (k.2.1, 201, .inl v)) := by
  simp only [wX, Xq_whole_nodes_a, Xq_fields_made_nodes_a, Xq_fields_category_nodes_a, Xq_fields_size_nodes_a, Xq_fields_scale_nodes_a, Xq_fields_bytes_nodes_a, Xq_weights_of_nodes_a, Xq_names_made_nodes_a, Xq_names_field_nodes_a, Xq_names_ranges_nodes_a, Xq_names_low_nodes_a, Xq_names_high_nodes_a, Xq_nodes_made_nodes_a, Xq_nodes_op_nodes_a, Xq_nodes_a_nodes_a, Xq_nodes_b_nodes_a, Xq_row_subject_nodes_a, Xq_row_carried_nodes_a, Xq_row_length_nodes_a, Xq_row_with_nodes_a, Xq_row_op_nodes_a, Xq_row_negated_nodes_a, Xq_row_object_nodes_a, Xq_testing_noted_nodes_a, Xq_testing_depth_nodes_a, Xq_testing_outcome_nodes_a, Xq_testing_leaves_nodes_a, Xq_testing_waiting_nodes_a, Xq_switches_nodes_a, Xq_leftText_nodes_a, Xq_rightText_nodes_a, List.set_cons_succ, List.set_cons_zero]
theorem Xp_nodes_a {D : va_G} {k : zK} {a : Nat → Nat} {u : XS} {v : Nat → Int32} {H : Heap} (h : va_P D vwCl ((wX k a u).set 15 ((a 15), .inl (k.2.1, 201, .inl v))) H) : va_P D vwCl (wX k a (Xs_nodes_a u v)) H := by
  rw [Xe_nodes_a]; exact h
theorem Xe_nodes_b (k : zK) (a : Nat → Nat) (u : XS) (v : Nat → Int32) : wX k a (Xs_nodes_b u v) = (wX k a u).set 16 ((a 16), .inl (k.2.1, 201, .inl v)) := by
  simp only [wX, Xq_whole_nodes_b, Xq_fields_made_nodes_b, Xq_fields_category_nodes_b, Xq_fields_size_nodes_b, Xq_fields_scale_nodes_b, Xq_fields_bytes_nodes_b, Xq_weights_of_nodes_b, Xq_names_made_nodes_b, Xq_names_field_nodes_b, Xq_names_ranges_nodes_b, Xq_names_low_nodes_b, Xq_names_high_nodes_b, Xq_nodes_made_nodes_b, Xq_nodes_op_nodes_b, Xq_nodes_a_nodes_b, Xq_nodes_b_nodes_b, Xq_row_subject_nodes_b, Xq_row_carried_nodes_b, Xq_row_length_nodes_b, Xq_row_with_nodes_b, Xq_row_op_nodes_b, Xq_row_negated_nodes_b, Xq_row_object_nodes_b, Xq_testing_noted_nodes_b, Xq_testing_depth_nodes_b, Xq_testing_outcome_nodes_b, Xq_testing_leaves_nodes_b, Xq_testing_waiting_nodes_b, Xq_switches_nodes_b, Xq_leftText_nodes_b, Xq_rightText_nodes_b, List.set_cons_succ, List.set_cons_zero]
theorem Xp_nodes_b {D : va_G} {k : zK} {a : Nat → Nat} {u : XS} {v : Nat → Int32} {H : Heap} (h : va_P D vwCl ((wX k a u).set 16 ((a 16), .inl (k.2.1, 201, .inl v))) H) : va_P D vwCl (wX k a (Xs_nodes_b u v)) H := by
  rw [Xe_nodes_b]; exact h
theorem Xe_row_subject (k : zK) (a : Nat → Nat) (u : XS) (v : Int32) : wX k a (Xs_row_subject u v) = (wX k a u).set 17 ((a 17), .inr (5, ([.ref (a 18), .ref (a 19), .ref (a 20), .ref (a 21), .int (Xg_row_subject u), .int (Xg_row_carried u), .int (Xg_row_length u)] : List Value).set 4 (.int v))) := by
  simp only [wX, Xq_whole_row_subject, Xq_fields_made_row_subject, Xq_fields_category_row_subject, Xq_fields_size_row_subject, Xq_fields_scale_row_subject, Xq_fields_bytes_row_subject, Xq_weights_of_row_subject, Xq_names_made_row_subject, Xq_names_field_row_subject, Xq_names_ranges_row_subject, Xq_names_low_row_subject, Xq_names_high_row_subject, Xq_nodes_made_row_subject, Xq_nodes_op_row_subject, Xq_nodes_a_row_subject, Xq_nodes_b_row_subject, Xq_row_subject_row_subject, Xq_row_carried_row_subject, Xq_row_length_row_subject, Xq_row_with_row_subject, Xq_row_op_row_subject, Xq_row_negated_row_subject, Xq_row_object_row_subject, Xq_testing_noted_row_subject, Xq_testing_depth_row_subject, Xq_testing_outcome_row_subject, Xq_testing_leaves_row_subject, Xq_testing_waiting_row_subject, Xq_switches_row_subject, Xq_leftText_row_subject, Xq_rightText_row_subject, List.set_cons_succ, List.set_cons_zero]
theorem Xp_row_subject {D : va_G} {k : zK} {a : Nat → Nat} {u : XS} {v : Int32} {H : Heap} (h : va_P D vwCl ((wX k a u).set 17 ((a 17), .inr (5, ([.ref (a 18), .ref (a 19), .ref (a 20), .ref (a 21), .int (Xg_row_subject u), .int (Xg_row_carried u), .int (Xg_row_length u)] : List Value).set 4 (.int v)))) H) : va_P D vwCl (wX k a (Xs_row_subject u v)) H := by
  rw [Xe_row_subject]; exact h
theorem Xe_row_carried (k : zK) (a : Nat → Nat) (u : XS) (v : Int32) : wX k a (Xs_row_carried u v) = (wX k a u).set 17 ((a 17), .inr (5, ([.ref (a 18), .ref (a 19), .ref (a 20), .ref (a 21), .int (Xg_row_subject u), .int (Xg_row_carried u), .int (Xg_row_length u)] : List Value).set 5 (.int v))) := by
  simp only [wX, Xq_whole_row_carried, Xq_fields_made_row_carried, Xq_fields_category_row_carried, Xq_fields_size_row_carried, Xq_fields_scale_row_carried, Xq_fields_bytes_row_carried, Xq_weights_of_row_carried, Xq_names_made_row_carried, Xq_names_field_row_carried, Xq_names_ranges_row_carried, Xq_names_low_row_carried, Xq_names_high_row_carried, Xq_nodes_made_row_carried, Xq_nodes_op_row_carried, Xq_nodes_a_row_carried, Xq_nodes_b_row_carried, Xq_row_subject_row_carried, Xq_row_carried_row_carried, Xq_row_length_row_carried, Xq_row_with_row_carried, Xq_row_op_row_carried, Xq_row_negated_row_carried, Xq_row_object_row_carried, Xq_testing_noted_row_carried, Xq_testing_depth_row_carried, Xq_testing_outcome_row_carried, Xq_testing_leaves_row_carried, Xq_testing_waiting_row_carried, Xq_switches_row_carried, Xq_leftText_row_carried, Xq_rightText_row_carried, List.set_cons_succ, List.set_cons_zero]
theorem Xp_row_carried {D : va_G} {k : zK} {a : Nat → Nat} {u : XS} {v : Int32} {H : Heap} (h : va_P D vwCl ((wX k a u).set 17 ((a 17), .inr (5, ([.ref (a 18), .ref (a 19), .ref (a 20), .ref (a 21), .int (Xg_row_subject u), .int (Xg_row_carried u), .int (Xg_row_length u)] : List Value).set 5 (.int v)))) H) : va_P D vwCl (wX k a (Xs_row_carried u v)) H := by
  rw [Xe_row_carried]; exact h
theorem Xe_row_length (k : zK) (a : Nat → Nat) (u : XS) (v : Int32) : wX k a (Xs_row_length u v) = (wX k a u).set 17 ((a 17), .inr (5, ([.ref (a 18), .ref (a 19), .ref (a 20), .ref (a 21), .int (Xg_row_subject u), .int (Xg_row_carried u), .int (Xg_row_length u)] : List Value).set 6 (.int v))) := by
  simp only [wX, Xq_whole_row_length, Xq_fields_made_row_length, Xq_fields_category_row_length, Xq_fields_size_row_length, Xq_fields_scale_row_length, Xq_fields_bytes_row_length, Xq_weights_of_row_length, Xq_names_made_row_length, Xq_names_field_row_length, Xq_names_ranges_row_length, Xq_names_low_row_length, Xq_names_high_row_length, Xq_nodes_made_row_length, Xq_nodes_op_row_length, Xq_nodes_a_row_length, Xq_nodes_b_row_length, Xq_row_subject_row_length, Xq_row_carried_row_length, Xq_row_length_row_length, Xq_row_with_row_length, Xq_row_op_row_length, Xq_row_negated_row_length, Xq_row_object_row_length, Xq_testing_noted_row_length, Xq_testing_depth_row_length, Xq_testing_outcome_row_length, Xq_testing_leaves_row_length, Xq_testing_waiting_row_length, Xq_switches_row_length, Xq_leftText_row_length, Xq_rightText_row_length, List.set_cons_succ, List.set_cons_zero]
theorem Xp_row_length {D : va_G} {k : zK} {a : Nat → Nat} {u : XS} {v : Int32} {H : Heap} (h : va_P D vwCl ((wX k a u).set 17 ((a 17), .inr (5, ([.ref (a 18), .ref (a 19), .ref (a 20), .ref (a 21), .int (Xg_row_subject u), .int (Xg_row_carried u), .int (Xg_row_length u)] : List Value).set 6 (.int v)))) H) : va_P D vwCl (wX k a (Xs_row_length u v)) H := by
  rw [Xe_row_length]; exact h
theorem Xe_row_with (k : zK) (a : Nat → Nat) (u : XS) (v : Nat → Int32) : wX k a (Xs_row_with u v) = (wX k a u).set 18 ((a 18), .inl (k.2.1, 20, .inl v)) := by
  simp only [wX, Xq_whole_row_with, Xq_fields_made_row_with, Xq_fields_category_row_with, Xq_fields_size_row_with, Xq_fields_scale_row_with, Xq_fields_bytes_row_with, Xq_weights_of_row_with, Xq_names_made_row_with, Xq_names_field_row_with, Xq_names_ranges_row_with, Xq_names_low_row_with, Xq_names_high_row_with, Xq_nodes_made_row_with, Xq_nodes_op_row_with, Xq_nodes_a_row_with, Xq_nodes_b_row_with, Xq_row_subject_row_with, Xq_row_carried_row_with, Xq_row_length_row_with, Xq_row_with_row_with, Xq_row_op_row_with, Xq_row_negated_row_with, Xq_row_object_row_with, Xq_testing_noted_row_with, Xq_testing_depth_row_with, Xq_testing_outcome_row_with, Xq_testing_leaves_row_with, Xq_testing_waiting_row_with, Xq_switches_row_with, Xq_leftText_row_with, Xq_rightText_row_with, List.set_cons_succ, List.set_cons_zero]
theorem Xp_row_with {D : va_G} {k : zK} {a : Nat → Nat} {u : XS} {v : Nat → Int32} {H : Heap} (h : va_P D vwCl ((wX k a u).set 18 ((a 18), .inl (k.2.1, 20, .inl v))) H) : va_P D vwCl (wX k a (Xs_row_with u v)) H := by
  rw [Xe_row_with]; exact h
theorem Xe_row_op (k : zK) (a : Nat → Nat) (u : XS) (v : Nat → Int32) : wX k a (Xs_row_op u v) = (wX k a u).set 19 ((a 19), .inl (k.2.1, 20, .inl v)) := by
  simp only [wX, Xq_whole_row_op, Xq_fields_made_row_op, Xq_fields_category_row_op, Xq_fields_size_row_op, Xq_fields_scale_row_op, Xq_fields_bytes_row_op, Xq_weights_of_row_op, Xq_names_made_row_op, Xq_names_field_row_op, Xq_names_ranges_row_op, Xq_names_low_row_op, Xq_names_high_row_op, Xq_nodes_made_row_op, Xq_nodes_op_row_op, Xq_nodes_a_row_op, Xq_nodes_b_row_op, Xq_row_subject_row_op, Xq_row_carried_row_op, Xq_row_length_row_op, Xq_row_with_row_op, Xq_row_op_row_op, Xq_row_negated_row_op, Xq_row_object_row_op, Xq_testing_noted_row_op, Xq_testing_depth_row_op, Xq_testing_outcome_row_op, Xq_testing_leaves_row_op, Xq_testing_waiting_row_op, Xq_switches_row_op, Xq_leftText_row_op, Xq_rightText_row_op, List.set_cons_succ, List.set_cons_zero]
theorem Xp_row_op {D : va_G} {k : zK} {a : Nat → Nat} {u : XS} {v : Nat → Int32} {H : Heap} (h : va_P D vwCl ((wX k a u).set 19 ((a 19), .inl (k.2.1, 20, .inl v))) H) : va_P D vwCl (wX k a (Xs_row_op u v)) H := by
  rw [Xe_row_op]; exact h
theorem Xe_row_negated (k : zK) (a : Nat → Nat) (u : XS) (v : Nat → Int32) : wX k a (Xs_row_negated u v) = (wX k a u).set 20 ((a 20), .inl (k.2.2.2, 20, .inl v)) := by
  simp only [wX, Xq_whole_row_negated, Xq_fields_made_row_negated, Xq_fields_category_row_negated, Xq_fields_size_row_negated, Xq_fields_scale_row_negated, Xq_fields_bytes_row_negated, Xq_weights_of_row_negated, Xq_names_made_row_negated, Xq_names_field_row_negated, Xq_names_ranges_row_negated, Xq_names_low_row_negated, Xq_names_high_row_negated, Xq_nodes_made_row_negated, Xq_nodes_op_row_negated, Xq_nodes_a_row_negated, Xq_nodes_b_row_negated, Xq_row_subject_row_negated, Xq_row_carried_row_negated, Xq_row_length_row_negated, Xq_row_with_row_negated, Xq_row_op_row_negated, Xq_row_negated_row_negated, Xq_row_object_row_negated, Xq_testing_noted_row_negated, Xq_testing_depth_row_negated, Xq_testing_outcome_row_negated, Xq_testing_leaves_row_negated, Xq_testing_waiting_row_negated, Xq_switches_row_negated, Xq_leftText_row_negated, Xq_rightText_row_negated, List.set_cons_succ, List.set_cons_zero]
theorem Xp_row_negated {D : va_G} {k : zK} {a : Nat → Nat} {u : XS} {v : Nat → Int32} {H : Heap} (h : va_P D vwCl ((wX k a u).set 20 ((a 20), .inl (k.2.2.2, 20, .inl v))) H) : va_P D vwCl (wX k a (Xs_row_negated u v)) H := by
  rw [Xe_row_negated]; exact h
theorem Xe_row_object (k : zK) (a : Nat → Nat) (u : XS) (v : Nat → Int32) : wX k a (Xs_row_object u v) = (wX k a u).set 21 ((a 21), .inl (k.2.1, 20, .inl v)) := by
  simp only [wX, Xq_whole_row_object, Xq_fields_made_row_object, Xq_fields_category_row_object, Xq_fields_size_row_object, Xq_fields_scale_row_object, Xq_fields_bytes_row_object, Xq_weights_of_row_object, Xq_names_made_row_object, Xq_names_field_row_object, Xq_names_ranges_row_object, Xq_names_low_row_object, Xq_names_high_row_object, Xq_nodes_made_row_object, Xq_nodes_op_row_object, Xq_nodes_a_row_object, Xq_nodes_b_row_object, Xq_row_subject_row_object, Xq_row_carried_row_object, Xq_row_length_row_object, Xq_row_with_row_object, Xq_row_op_row_object, Xq_row_negated_row_object, Xq_row_object_row_object, Xq_testing_noted_row_object, Xq_testing_depth_row_object, Xq_testing_outcome_row_object, Xq_testing_leaves_row_object, Xq_testing_waiting_row_object, Xq_switches_row_object, Xq_leftText_row_object, Xq_rightText_row_object, List.set_cons_succ, List.set_cons_zero]
theorem Xp_row_object {D : va_G} {k : zK} {a : Nat → Nat} {u : XS} {v : Nat → Int32} {H : Heap} (h : va_P D vwCl ((wX k a u).set 21 ((a 21), .inl (k.2.1, 20, .inl v))) H) : va_P D vwCl (wX k a (Xs_row_object u v)) H := by
  rw [Xe_row_object]; exact h
theorem Xe_testing_noted (k : zK) (a : Nat → Nat) (u : XS) (v : Int32) : wX k a (Xs_testing_noted u v) = (wX k a u).set 22 ((a 22), .inr (6, ([.ref (a 23), .ref (a 24), .ref (a 25), .int (Xg_testing_noted u), .int (Xg_testing_depth u)] : List Value).set 3 (.int v))) := by
  simp only [wX, Xq_whole_testing_noted, Xq_fields_made_testing_noted, Xq_fields_category_testing_noted, Xq_fields_size_testing_noted, Xq_fields_scale_testing_noted, Xq_fields_bytes_testing_noted, Xq_weights_of_testing_noted, Xq_names_made_testing_noted, Xq_names_field_testing_noted, Xq_names_ranges_testing_noted, Xq_names_low_testing_noted, Xq_names_high_testing_noted, Xq_nodes_made_testing_noted, Xq_nodes_op_testing_noted, Xq_nodes_a_testing_noted, Xq_nodes_b_testing_noted, Xq_row_subject_testing_noted, Xq_row_carried_testing_noted, Xq_row_length_testing_noted, Xq_row_with_testing_noted, Xq_row_op_testing_noted, Xq_row_negated_testing_noted, Xq_row_object_testing_noted, Xq_testing_noted_testing_noted, Xq_testing_depth_testing_noted, Xq_testing_outcome_testing_noted, Xq_testing_leaves_testing_noted, Xq_testing_waiting_testing_noted, Xq_switches_testing_noted, Xq_leftText_testing_noted, Xq_rightText_testing_noted, List.set_cons_succ, List.set_cons_zero]
theorem Xp_testing_noted {D : va_G} {k : zK} {a : Nat → Nat} {u : XS} {v : Int32} {H : Heap} (h : va_P D vwCl ((wX k a u).set 22 ((a 22), .inr (6, ([.ref (a 23), .ref (a 24), .ref (a 25), .int (Xg_testing_noted u), .int (Xg_testing_depth u)] : List Value).set 3 (.int v)))) H) : va_P D vwCl (wX k a (Xs_testing_noted u v)) H := by
  rw [Xe_testing_noted]; exact h
theorem Xe_testing_depth (k : zK) (a : Nat → Nat) (u : XS) (v : Int32) : wX k a (Xs_testing_depth u v) = (wX k a u).set 22 ((a 22), .inr (6, ([.ref (a 23), .ref (a 24), .ref (a 25), .int (Xg_testing_noted u), .int (Xg_testing_depth u)] : List Value).set 4 (.int v))) := by
  simp only [wX, Xq_whole_testing_depth, Xq_fields_made_testing_depth, Xq_fields_category_testing_depth, Xq_fields_size_testing_depth, Xq_fields_scale_testing_depth, Xq_fields_bytes_testing_depth, Xq_weights_of_testing_depth, Xq_names_made_testing_depth, Xq_names_field_testing_depth, Xq_names_ranges_testing_depth, Xq_names_low_testing_depth, Xq_names_high_testing_depth, Xq_nodes_made_testing_depth, Xq_nodes_op_testing_depth, Xq_nodes_a_testing_depth, Xq_nodes_b_testing_depth, Xq_row_subject_testing_depth, Xq_row_carried_testing_depth, Xq_row_length_testing_depth, Xq_row_with_testing_depth, Xq_row_op_testing_depth, Xq_row_negated_testing_depth, Xq_row_object_testing_depth, Xq_testing_noted_testing_depth, Xq_testing_depth_testing_depth, Xq_testing_outcome_testing_depth, Xq_testing_leaves_testing_depth, Xq_testing_waiting_testing_depth, Xq_switches_testing_depth, Xq_leftText_testing_depth, Xq_rightText_testing_depth, List.set_cons_succ, List.set_cons_zero]
theorem Xp_testing_depth {D : va_G} {k : zK} {a : Nat → Nat} {u : XS} {v : Int32} {H : Heap} (h : va_P D vwCl ((wX k a u).set 22 ((a 22), .inr (6, ([.ref (a 23), .ref (a 24), .ref (a 25), .int (Xg_testing_noted u), .int (Xg_testing_depth u)] : List Value).set 4 (.int v)))) H) : va_P D vwCl (wX k a (Xs_testing_depth u v)) H := by
  rw [Xe_testing_depth]; exact h
theorem Xe_testing_outcome (k : zK) (a : Nat → Nat) (u : XS) (v : Nat → Int32) : wX k a (Xs_testing_outcome u v) = (wX k a u).set 23 ((a 23), .inl (k.2.1, 201, .inl v)) := by
  simp only [wX, Xq_whole_testing_outcome, Xq_fields_made_testing_outcome, Xq_fields_category_testing_outcome, Xq_fields_size_testing_outcome, Xq_fields_scale_testing_outcome, Xq_fields_bytes_testing_outcome, Xq_weights_of_testing_outcome, Xq_names_made_testing_outcome, Xq_names_field_testing_outcome, Xq_names_ranges_testing_outcome, Xq_names_low_testing_outcome, Xq_names_high_testing_outcome, Xq_nodes_made_testing_outcome, Xq_nodes_op_testing_outcome, Xq_nodes_a_testing_outcome, Xq_nodes_b_testing_outcome, Xq_row_subject_testing_outcome, Xq_row_carried_testing_outcome, Xq_row_length_testing_outcome, Xq_row_with_testing_outcome, Xq_row_op_testing_outcome, Xq_row_negated_testing_outcome, Xq_row_object_testing_outcome, Xq_testing_noted_testing_outcome, Xq_testing_depth_testing_outcome, Xq_testing_outcome_testing_outcome, Xq_testing_leaves_testing_outcome, Xq_testing_waiting_testing_outcome, Xq_switches_testing_outcome, Xq_leftText_testing_outcome, Xq_rightText_testing_outcome, List.set_cons_succ, List.set_cons_zero]
theorem Xp_testing_outcome {D : va_G} {k : zK} {a : Nat → Nat} {u : XS} {v : Nat → Int32} {H : Heap} (h : va_P D vwCl ((wX k a u).set 23 ((a 23), .inl (k.2.1, 201, .inl v))) H) : va_P D vwCl (wX k a (Xs_testing_outcome u v)) H := by
  rw [Xe_testing_outcome]; exact h
theorem Xe_testing_leaves (k : zK) (a : Nat → Nat) (u : XS) (v : Nat → Int32) : wX k a (Xs_testing_leaves u v) = (wX k a u).set 24 ((a 24), .inl (k.2.1, 200, .inl v)) := by
  simp only [wX, Xq_whole_testing_leaves, Xq_fields_made_testing_leaves, Xq_fields_category_testing_leaves, Xq_fields_size_testing_leaves, Xq_fields_scale_testing_leaves, Xq_fields_bytes_testing_leaves, Xq_weights_of_testing_leaves, Xq_names_made_testing_leaves, Xq_names_field_testing_leaves, Xq_names_ranges_testing_leaves, Xq_names_low_testing_leaves, Xq_names_high_testing_leaves, Xq_nodes_made_testing_leaves, Xq_nodes_op_testing_leaves, Xq_nodes_a_testing_leaves, Xq_nodes_b_testing_leaves, Xq_row_subject_testing_leaves, Xq_row_carried_testing_leaves, Xq_row_length_testing_leaves, Xq_row_with_testing_leaves, Xq_row_op_testing_leaves, Xq_row_negated_testing_leaves, Xq_row_object_testing_leaves, Xq_testing_noted_testing_leaves, Xq_testing_depth_testing_leaves, Xq_testing_outcome_testing_leaves, Xq_testing_leaves_testing_leaves, Xq_testing_waiting_testing_leaves, Xq_switches_testing_leaves, Xq_leftText_testing_leaves, Xq_rightText_testing_leaves, List.set_cons_succ, List.set_cons_zero]
theorem Xp_testing_leaves {D : va_G} {k : zK} {a : Nat → Nat} {u : XS} {v : Nat → Int32} {H : Heap} (h : va_P D vwCl ((wX k a u).set 24 ((a 24), .inl (k.2.1, 200, .inl v))) H) : va_P D vwCl (wX k a (Xs_testing_leaves u v)) H := by
  rw [Xe_testing_leaves]; exact h
theorem Xe_testing_waiting (k : zK) (a : Nat → Nat) (u : XS) (v : Nat → Int32) : wX k a (Xs_testing_waiting u v) = (wX k a u).set 25 ((a 25), .inl (k.2.1, 200, .inl v)) := by
  simp only [wX, Xq_whole_testing_waiting, Xq_fields_made_testing_waiting, Xq_fields_category_testing_waiting, Xq_fields_size_testing_waiting, Xq_fields_scale_testing_waiting, Xq_fields_bytes_testing_waiting, Xq_weights_of_testing_waiting, Xq_names_made_testing_waiting, Xq_names_field_testing_waiting, Xq_names_ranges_testing_waiting, Xq_names_low_testing_waiting, Xq_names_high_testing_waiting, Xq_nodes_made_testing_waiting, Xq_nodes_op_testing_waiting, Xq_nodes_a_testing_waiting, Xq_nodes_b_testing_waiting, Xq_row_subject_testing_waiting, Xq_row_carried_testing_waiting, Xq_row_length_testing_waiting, Xq_row_with_testing_waiting, Xq_row_op_testing_waiting, Xq_row_negated_testing_waiting, Xq_row_object_testing_waiting, Xq_testing_noted_testing_waiting, Xq_testing_depth_testing_waiting, Xq_testing_outcome_testing_waiting, Xq_testing_leaves_testing_waiting, Xq_testing_waiting_testing_waiting, Xq_switches_testing_waiting, Xq_leftText_testing_waiting, Xq_rightText_testing_waiting, List.set_cons_succ, List.set_cons_zero]
theorem Xp_testing_waiting {D : va_G} {k : zK} {a : Nat → Nat} {u : XS} {v : Nat → Int32} {H : Heap} (h : va_P D vwCl ((wX k a u).set 25 ((a 25), .inl (k.2.1, 200, .inl v))) H) : va_P D vwCl (wX k a (Xs_testing_waiting u v)) H := by
  rw [Xe_testing_waiting]; exact h
theorem Xe_switches (k : zK) (a : Nat → Nat) (u : XS) (v : Nat → Int32) : wX k a (Xs_switches u v) = (wX k a u).set 26 ((a 26), .inl (k.2.2.2, 16, .inl v)) := by
  simp only [wX, Xq_whole_switches, Xq_fields_made_switches, Xq_fields_category_switches, Xq_fields_size_switches, Xq_fields_scale_switches, Xq_fields_bytes_switches, Xq_weights_of_switches, Xq_names_made_switches, Xq_names_field_switches, Xq_names_ranges_switches, Xq_names_low_switches, Xq_names_high_switches, Xq_nodes_made_switches, Xq_nodes_op_switches, Xq_nodes_a_switches, Xq_nodes_b_switches, Xq_row_subject_switches, Xq_row_carried_switches, Xq_row_length_switches, Xq_row_with_switches, Xq_row_op_switches, Xq_row_negated_switches, Xq_row_object_switches, Xq_testing_noted_switches, Xq_testing_depth_switches, Xq_testing_outcome_switches, Xq_testing_leaves_switches, Xq_testing_waiting_switches, Xq_switches_switches, Xq_leftText_switches, Xq_rightText_switches, List.set_cons_succ, List.set_cons_zero]
theorem Xp_switches {D : va_G} {k : zK} {a : Nat → Nat} {u : XS} {v : Nat → Int32} {H : Heap} (h : va_P D vwCl ((wX k a u).set 26 ((a 26), .inl (k.2.2.2, 16, .inl v))) H) : va_P D vwCl (wX k a (Xs_switches u v)) H := by
  rw [Xe_switches]; exact h
theorem Xe_leftText (k : zK) (a : Nat → Nat) (u : XS) (v : Nat → Int32) : wX k a (Xs_leftText u v) = (wX k a u).set 27 ((a 27), .inl (k.2.1, 32, .inl v)) := by
  simp only [wX, Xq_whole_leftText, Xq_fields_made_leftText, Xq_fields_category_leftText, Xq_fields_size_leftText, Xq_fields_scale_leftText, Xq_fields_bytes_leftText, Xq_weights_of_leftText, Xq_names_made_leftText, Xq_names_field_leftText, Xq_names_ranges_leftText, Xq_names_low_leftText, Xq_names_high_leftText, Xq_nodes_made_leftText, Xq_nodes_op_leftText, Xq_nodes_a_leftText, Xq_nodes_b_leftText, Xq_row_subject_leftText, Xq_row_carried_leftText, Xq_row_length_leftText, Xq_row_with_leftText, Xq_row_op_leftText, Xq_row_negated_leftText, Xq_row_object_leftText, Xq_testing_noted_leftText, Xq_testing_depth_leftText, Xq_testing_outcome_leftText, Xq_testing_leaves_leftText, Xq_testing_waiting_leftText, Xq_switches_leftText, Xq_leftText_leftText, Xq_rightText_leftText, List.set_cons_succ, List.set_cons_zero]
theorem Xp_leftText {D : va_G} {k : zK} {a : Nat → Nat} {u : XS} {v : Nat → Int32} {H : Heap} (h : va_P D vwCl ((wX k a u).set 27 ((a 27), .inl (k.2.1, 32, .inl v))) H) : va_P D vwCl (wX k a (Xs_leftText u v)) H := by
  rw [Xe_leftText]; exact h
theorem Xe_rightText (k : zK) (a : Nat → Nat) (u : XS) (v : Nat → Int32) : wX k a (Xs_rightText u v) = (wX k a u).set 28 ((a 28), .inl (k.2.1, 32, .inl v)) := by
  simp only [wX, Xq_whole_rightText, Xq_fields_made_rightText, Xq_fields_category_rightText, Xq_fields_size_rightText, Xq_fields_scale_rightText, Xq_fields_bytes_rightText, Xq_weights_of_rightText, Xq_names_made_rightText, Xq_names_field_rightText, Xq_names_ranges_rightText, Xq_names_low_rightText, Xq_names_high_rightText, Xq_nodes_made_rightText, Xq_nodes_op_rightText, Xq_nodes_a_rightText, Xq_nodes_b_rightText, Xq_row_subject_rightText, Xq_row_carried_rightText, Xq_row_length_rightText, Xq_row_with_rightText, Xq_row_op_rightText, Xq_row_negated_rightText, Xq_row_object_rightText, Xq_testing_noted_rightText, Xq_testing_depth_rightText, Xq_testing_outcome_rightText, Xq_testing_leaves_rightText, Xq_testing_waiting_rightText, Xq_switches_rightText, Xq_leftText_rightText, Xq_rightText_rightText, List.set_cons_succ, List.set_cons_zero]
theorem Xp_rightText {D : va_G} {k : zK} {a : Nat → Nat} {u : XS} {v : Nat → Int32} {H : Heap} (h : va_P D vwCl ((wX k a u).set 28 ((a 28), .inl (k.2.1, 32, .inl v))) H) : va_P D vwCl (wX k a (Xs_rightText u v)) H := by
  rw [Xe_rightText]; exact h
end
