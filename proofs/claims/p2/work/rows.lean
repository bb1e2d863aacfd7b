section
-- ===== PART A: goes FIRST, ahead of the names: the tables' words, and 'selects' of the private methods out of them =====
/-- a private method of a class that the tables say can be made, by its rows of tables_1 -/
def lw_okq (q : MethodName × Nat) : Prop := (q.1.cls ≠ "java/lang/invoke/MethodHandle" ∧ q.1.cls ≠ "java/lang/invoke/VarHandle") ∧ Cond.instantiable q.1.cls q.2 ∈ tables_1 ∧ Cond.privateMethod q.1 ∈ tables_1 ∧ Cond.instanceMethod q.1 ∈ tables_1
theorem lw_p0 : lw_okq (⟨"ConditionRows", "hasParts", "(III)Z"⟩, 10) := ⟨⟨by decide +kernel, by decide +kernel⟩, List.mem_of_getElem? (i := 18) (by decide +kernel), List.mem_of_getElem? (i := 258) (by decide +kernel), List.mem_of_getElem? (i := 259) (by decide +kernel)⟩
theorem lw_p1 : lw_okq (⟨"ConditionRows", "isAbove", "(IJJ)Z"⟩, 10) := ⟨⟨by decide +kernel, by decide +kernel⟩, List.mem_of_getElem? (i := 18) (by decide +kernel), List.mem_of_getElem? (i := 278) (by decide +kernel), List.mem_of_getElem? (i := 279) (by decide +kernel)⟩
theorem lw_p2 : lw_okq (⟨"ConditionRows", "unfoldRow", "()I"⟩, 10) := ⟨⟨by decide +kernel, by decide +kernel⟩, List.mem_of_getElem? (i := 18) (by decide +kernel), List.mem_of_getElem? (i := 331) (by decide +kernel), List.mem_of_getElem? (i := 332) (by decide +kernel)⟩
theorem lw_p3 : lw_okq (⟨"ConditionRows", "joined", "(III)I"⟩, 10) := ⟨⟨by decide +kernel, by decide +kernel⟩, List.mem_of_getElem? (i := 18) (by decide +kernel), List.mem_of_getElem? (i := 335) (by decide +kernel), List.mem_of_getElem? (i := 336) (by decide +kernel)⟩
theorem lw_p4 : lw_okq (⟨"ConditionRows", "relationNode", "(I)I"⟩, 10) := ⟨⟨by decide +kernel, by decide +kernel⟩, List.mem_of_getElem? (i := 18) (by decide +kernel), List.mem_of_getElem? (i := 339) (by decide +kernel), List.mem_of_getElem? (i := 340) (by decide +kernel)⟩
theorem lw_p5 : lw_okq (⟨"ConditionRows", "switchesOn", "()I"⟩, 10) := ⟨⟨by decide +kernel, by decide +kernel⟩, List.mem_of_getElem? (i := 18) (by decide +kernel), List.mem_of_getElem? (i := 355) (by decide +kernel), List.mem_of_getElem? (i := 356) (by decide +kernel)⟩
theorem lw_p6 : lw_okq (⟨"java/lang/Throwable", "fillInStackTrace", "(I)Ljava/lang/Throwable;"⟩, 6) := ⟨⟨by decide +kernel, by decide +kernel⟩, List.mem_of_getElem? (i := 408) (by decide +kernel), List.mem_of_getElem? (i := 406) (by decide +kernel), List.mem_of_getElem? (i := 407) (by decide +kernel)⟩
theorem lw_p7 : lw_okq (⟨"ConditionRows", "outcomeOf", "(I)I"⟩, 10) := ⟨⟨by decide +kernel, by decide +kernel⟩, List.mem_of_getElem? (i := 18) (by decide +kernel), List.mem_of_getElem? (i := 438) (by decide +kernel), List.mem_of_getElem? (i := 439) (by decide +kernel)⟩
theorem lw_p8 : lw_okq (⟨"ConditionRows", "partToTest", "(I)I"⟩, 10) := ⟨⟨by decide +kernel, by decide +kernel⟩, List.mem_of_getElem? (i := 18) (by decide +kernel), List.mem_of_getElem? (i := 450) (by decide +kernel), List.mem_of_getElem? (i := 451) (by decide +kernel)⟩
theorem lw_p9 : lw_okq (⟨"ConditionRows", "leafOutcome", "(I)I"⟩, 10) := ⟨⟨by decide +kernel, by decide +kernel⟩, List.mem_of_getElem? (i := 18) (by decide +kernel), List.mem_of_getElem? (i := 457) (by decide +kernel), List.mem_of_getElem? (i := 458) (by decide +kernel)⟩
theorem lw_p10 : lw_okq (⟨"ConditionRows$Fields", "digitsValue", "(I)J"⟩, 5) := ⟨⟨by decide +kernel, by decide +kernel⟩, List.mem_of_getElem? (i := 26) (by decide +kernel), List.mem_of_getElem? (i := 487) (by decide +kernel), List.mem_of_getElem? (i := 488) (by decide +kernel)⟩
theorem lw_p11 : lw_okq (⟨"ConditionRows$Fields", "binaryValue", "(I)J"⟩, 5) := ⟨⟨by decide +kernel, by decide +kernel⟩, List.mem_of_getElem? (i := 26) (by decide +kernel), List.mem_of_getElem? (i := 492) (by decide +kernel), List.mem_of_getElem? (i := 493) (by decide +kernel)⟩
theorem lw_p12 : lw_okq (⟨"ConditionRows", "holds", "(I)Z"⟩, 10) := ⟨⟨by decide +kernel, by decide +kernel⟩, List.mem_of_getElem? (i := 18) (by decide +kernel), List.mem_of_getElem? (i := 500) (by decide +kernel), List.mem_of_getElem? (i := 501) (by decide +kernel)⟩
theorem lw_p13 : lw_okq (⟨"ConditionRows", "relationOutcome", "(III)I"⟩, 10) := ⟨⟨by decide +kernel, by decide +kernel⟩, List.mem_of_getElem? (i := 18) (by decide +kernel), List.mem_of_getElem? (i := 517) (by decide +kernel), List.mem_of_getElem? (i := 518) (by decide +kernel)⟩
theorem lw_p14 : lw_okq (⟨"ConditionRows", "compareFields", "(II)I"⟩, 10) := ⟨⟨by decide +kernel, by decide +kernel⟩, List.mem_of_getElem? (i := 18) (by decide +kernel), List.mem_of_getElem? (i := 521) (by decide +kernel), List.mem_of_getElem? (i := 522) (by decide +kernel)⟩
theorem lw_p15 : lw_okq (⟨"ConditionRows$Fields", "spellBytes", "(I[I)I"⟩, 5) := ⟨⟨by decide +kernel, by decide +kernel⟩, List.mem_of_getElem? (i := 26) (by decide +kernel), List.mem_of_getElem? (i := 548) (by decide +kernel), List.mem_of_getElem? (i := 549) (by decide +kernel)⟩
def lw_privs_1 : List (MethodName × Nat) := [(⟨"ConditionRows", "hasParts", "(III)Z"⟩, 10), (⟨"ConditionRows", "isAbove", "(IJJ)Z"⟩, 10), (⟨"ConditionRows", "unfoldRow", "()I"⟩, 10), (⟨"ConditionRows", "joined", "(III)I"⟩, 10), (⟨"ConditionRows", "relationNode", "(I)I"⟩, 10), (⟨"ConditionRows", "switchesOn", "()I"⟩, 10), (⟨"java/lang/Throwable", "fillInStackTrace", "(I)Ljava/lang/Throwable;"⟩, 6), (⟨"ConditionRows", "outcomeOf", "(I)I"⟩, 10), (⟨"ConditionRows", "partToTest", "(I)I"⟩, 10), (⟨"ConditionRows", "leafOutcome", "(I)I"⟩, 10), (⟨"ConditionRows$Fields", "digitsValue", "(I)J"⟩, 5), (⟨"ConditionRows$Fields", "binaryValue", "(I)J"⟩, 5), (⟨"ConditionRows", "holds", "(I)Z"⟩, 10), (⟨"ConditionRows", "relationOutcome", "(III)I"⟩, 10), (⟨"ConditionRows", "compareFields", "(II)I"⟩, 10), (⟨"ConditionRows$Fields", "spellBytes", "(I[I)I"⟩, 5)]
theorem lw_r1 : ∀ q ∈ lw_privs_1, lw_okq q := List.forall_mem_cons.mpr ⟨lw_p0, List.forall_mem_cons.mpr ⟨lw_p1, List.forall_mem_cons.mpr ⟨lw_p2, List.forall_mem_cons.mpr ⟨lw_p3, List.forall_mem_cons.mpr ⟨lw_p4, List.forall_mem_cons.mpr ⟨lw_p5, List.forall_mem_cons.mpr ⟨lw_p6, List.forall_mem_cons.mpr ⟨lw_p7, List.forall_mem_cons.mpr ⟨lw_p8, List.forall_mem_cons.mpr ⟨lw_p9, List.forall_mem_cons.mpr ⟨lw_p10, List.forall_mem_cons.mpr ⟨lw_p11, List.forall_mem_cons.mpr ⟨lw_p12, List.forall_mem_cons.mpr ⟨lw_p13, List.forall_mem_cons.mpr ⟨lw_p14, List.forall_mem_cons.mpr ⟨lw_p15, fun _ h => absurd h List.not_mem_nil⟩⟩⟩⟩⟩⟩⟩⟩⟩⟩⟩⟩⟩⟩⟩⟩
theorem lw_p16 : lw_okq (⟨"ConditionRows", "joinedOutcome", "(I)I"⟩, 10) := ⟨⟨by decide +kernel, by decide +kernel⟩, List.mem_of_getElem? (i := 18) (by decide +kernel), List.mem_of_getElem? (i := 559) (by decide +kernel), List.mem_of_getElem? (i := 560) (by decide +kernel)⟩
theorem lw_p17 : lw_okq (⟨"ConditionRowsModel", "isField", "(I)Z"⟩, 30) := ⟨⟨by decide +kernel, by decide +kernel⟩, List.mem_of_getElem? (i := 592) (by decide +kernel), List.mem_of_getElem? (i := 697) (by decide +kernel), List.mem_of_getElem? (i := 698) (by decide +kernel)⟩
theorem lw_p18 : lw_okq (⟨"ConditionRowsModel", "refusal", "(III)I"⟩, 30) := ⟨⟨by decide +kernel, by decide +kernel⟩, List.mem_of_getElem? (i := 592) (by decide +kernel), List.mem_of_getElem? (i := 716) (by decide +kernel), List.mem_of_getElem? (i := 717) (by decide +kernel)⟩
theorem lw_p19 : lw_okq (⟨"ConditionRowsModel", "isName", "(I)Z"⟩, 30) := ⟨⟨by decide +kernel, by decide +kernel⟩, List.mem_of_getElem? (i := 592) (by decide +kernel), List.mem_of_getElem? (i := 720) (by decide +kernel), List.mem_of_getElem? (i := 721) (by decide +kernel)⟩
theorem lw_p20 : lw_okq (⟨"ConditionRowsModel", "isNode", "(I)Z"⟩, 30) := ⟨⟨by decide +kernel, by decide +kernel⟩, List.mem_of_getElem? (i := 592) (by decide +kernel), List.mem_of_getElem? (i := 724) (by decide +kernel), List.mem_of_getElem? (i := 725) (by decide +kernel)⟩
theorem lw_p21 : lw_okq (⟨"ConditionRowsModel", "made", "(III)I"⟩, 30) := ⟨⟨by decide +kernel, by decide +kernel⟩, List.mem_of_getElem? (i := 592) (by decide +kernel), List.mem_of_getElem? (i := 728) (by decide +kernel), List.mem_of_getElem? (i := 729) (by decide +kernel)⟩
theorem lw_p22 : lw_okq (⟨"ConditionRowsModel", "isTurned", "(IJJ)Z"⟩, 30) := ⟨⟨by decide +kernel, by decide +kernel⟩, List.mem_of_getElem? (i := 592) (by decide +kernel), List.mem_of_getElem? (i := 736) (by decide +kernel), List.mem_of_getElem? (i := 737) (by decide +kernel)⟩
theorem lw_p23 : lw_okq (⟨"ConditionRowsModel", "relation", "(I)I"⟩, 30) := ⟨⟨by decide +kernel, by decide +kernel⟩, List.mem_of_getElem? (i := 592) (by decide +kernel), List.mem_of_getElem? (i := 763) (by decide +kernel), List.mem_of_getElem? (i := 764) (by decide +kernel)⟩
theorem lw_p24 : lw_okq (⟨"ConditionRowsModel", "leaf", "(I)Z"⟩, 30) := ⟨⟨by decide +kernel, by decide +kernel⟩, List.mem_of_getElem? (i := 592) (by decide +kernel), List.mem_of_getElem? (i := 771) (by decide +kernel), List.mem_of_getElem? (i := 772) (by decide +kernel)⟩
theorem lw_p25 : lw_okq (⟨"ConditionRowsModel", "isBad", "(I)Z"⟩, 30) := ⟨⟨by decide +kernel, by decide +kernel⟩, List.mem_of_getElem? (i := 592) (by decide +kernel), List.mem_of_getElem? (i := 775) (by decide +kernel), List.mem_of_getElem? (i := 776) (by decide +kernel)⟩
theorem lw_p26 : lw_okq (⟨"ConditionRowsModel", "read", "(II)I"⟩, 30) := ⟨⟨by decide +kernel, by decide +kernel⟩, List.mem_of_getElem? (i := 592) (by decide +kernel), List.mem_of_getElem? (i := 779) (by decide +kernel), List.mem_of_getElem? (i := 780) (by decide +kernel)⟩
theorem lw_p27 : lw_okq (⟨"ConditionRowsModel", "related", "(III)Z"⟩, 30) := ⟨⟨by decide +kernel, by decide +kernel⟩, List.mem_of_getElem? (i := 592) (by decide +kernel), List.mem_of_getElem? (i := 783) (by decide +kernel), List.mem_of_getElem? (i := 784) (by decide +kernel)⟩
theorem lw_p28 : lw_okq (⟨"ConditionRowsModel", "order", "(II)I"⟩, 30) := ⟨⟨by decide +kernel, by decide +kernel⟩, List.mem_of_getElem? (i := 592) (by decide +kernel), List.mem_of_getElem? (i := 787) (by decide +kernel), List.mem_of_getElem? (i := 788) (by decide +kernel)⟩
theorem lw_p29 : lw_okq (⟨"ConditionRowsModel", "part", "(I)J"⟩, 30) := ⟨⟨by decide +kernel, by decide +kernel⟩, List.mem_of_getElem? (i := 592) (by decide +kernel), List.mem_of_getElem? (i := 791) (by decide +kernel), List.mem_of_getElem? (i := 792) (by decide +kernel)⟩
theorem lw_p30 : lw_okq (⟨"ConditionRowsModel", "whole", "(I)J"⟩, 30) := ⟨⟨by decide +kernel, by decide +kernel⟩, List.mem_of_getElem? (i := 592) (by decide +kernel), List.mem_of_getElem? (i := 795) (by decide +kernel), List.mem_of_getElem? (i := 796) (by decide +kernel)⟩
theorem lw_p31 : lw_okq (⟨"ConditionRowsModel", "rest", "(I)J"⟩, 30) := ⟨⟨by decide +kernel, by decide +kernel⟩, List.mem_of_getElem? (i := 592) (by decide +kernel), List.mem_of_getElem? (i := 807) (by decide +kernel), List.mem_of_getElem? (i := 808) (by decide +kernel)⟩
def lw_privs_2 : List (MethodName × Nat) := [(⟨"ConditionRows", "joinedOutcome", "(I)I"⟩, 10), (⟨"ConditionRowsModel", "isField", "(I)Z"⟩, 30), (⟨"ConditionRowsModel", "refusal", "(III)I"⟩, 30), (⟨"ConditionRowsModel", "isName", "(I)Z"⟩, 30), (⟨"ConditionRowsModel", "isNode", "(I)Z"⟩, 30), (⟨"ConditionRowsModel", "made", "(III)I"⟩, 30), (⟨"ConditionRowsModel", "isTurned", "(IJJ)Z"⟩, 30), (⟨"ConditionRowsModel", "relation", "(I)I"⟩, 30), (⟨"ConditionRowsModel", "leaf", "(I)Z"⟩, 30), (⟨"ConditionRowsModel", "isBad", "(I)Z"⟩, 30), (⟨"ConditionRowsModel", "read", "(II)I"⟩, 30), (⟨"ConditionRowsModel", "related", "(III)Z"⟩, 30), (⟨"ConditionRowsModel", "order", "(II)I"⟩, 30), (⟨"ConditionRowsModel", "part", "(I)J"⟩, 30), (⟨"ConditionRowsModel", "whole", "(I)J"⟩, 30), (⟨"ConditionRowsModel", "rest", "(I)J"⟩, 30)]
theorem lw_r2 : ∀ q ∈ lw_privs_2, lw_okq q := List.forall_mem_cons.mpr ⟨lw_p16, List.forall_mem_cons.mpr ⟨lw_p17, List.forall_mem_cons.mpr ⟨lw_p18, List.forall_mem_cons.mpr ⟨lw_p19, List.forall_mem_cons.mpr ⟨lw_p20, List.forall_mem_cons.mpr ⟨lw_p21, List.forall_mem_cons.mpr ⟨lw_p22, List.forall_mem_cons.mpr ⟨lw_p23, List.forall_mem_cons.mpr ⟨lw_p24, List.forall_mem_cons.mpr ⟨lw_p25, List.forall_mem_cons.mpr ⟨lw_p26, List.forall_mem_cons.mpr ⟨lw_p27, List.forall_mem_cons.mpr ⟨lw_p28, List.forall_mem_cons.mpr ⟨lw_p29, List.forall_mem_cons.mpr ⟨lw_p30, List.forall_mem_cons.mpr ⟨lw_p31, fun _ h => absurd h List.not_mem_nil⟩⟩⟩⟩⟩⟩⟩⟩⟩⟩⟩⟩⟩⟩⟩⟩
theorem lw_p32 : lw_okq (⟨"ConditionRowsModel", "spell", "(I)V"⟩, 30) := ⟨⟨by decide +kernel, by decide +kernel⟩, List.mem_of_getElem? (i := 592) (by decide +kernel), List.mem_of_getElem? (i := 811) (by decide +kernel), List.mem_of_getElem? (i := 812) (by decide +kernel)⟩
theorem lw_p33 : lw_okq (⟨"ConditionRowsModel", "isOf", "(II)Z"⟩, 30) := ⟨⟨by decide +kernel, by decide +kernel⟩, List.mem_of_getElem? (i := 592) (by decide +kernel), List.mem_of_getElem? (i := 816) (by decide +kernel), List.mem_of_getElem? (i := 817) (by decide +kernel)⟩
theorem lw_p34 : lw_okq (⟨"ConditionRowsModel", "isIn", "(I)Z"⟩, 30) := ⟨⟨by decide +kernel, by decide +kernel⟩, List.mem_of_getElem? (i := 592) (by decide +kernel), List.mem_of_getElem? (i := 820) (by decide +kernel), List.mem_of_getElem? (i := 821) (by decide +kernel)⟩
theorem lw_p35 : lw_okq (⟨"ConditionRowsModel", "settled", "(I)I"⟩, 30) := ⟨⟨by decide +kernel, by decide +kernel⟩, List.mem_of_getElem? (i := 592) (by decide +kernel), List.mem_of_getElem? (i := 824) (by decide +kernel), List.mem_of_getElem? (i := 825) (by decide +kernel)⟩
def lw_privs_3 : List (MethodName × Nat) := [(⟨"ConditionRowsModel", "spell", "(I)V"⟩, 30), (⟨"ConditionRowsModel", "isOf", "(II)Z"⟩, 30), (⟨"ConditionRowsModel", "isIn", "(I)Z"⟩, 30), (⟨"ConditionRowsModel", "settled", "(I)I"⟩, 30)]
theorem lw_r3 : ∀ q ∈ lw_privs_3, lw_okq q := List.forall_mem_cons.mpr ⟨lw_p32, List.forall_mem_cons.mpr ⟨lw_p33, List.forall_mem_cons.mpr ⟨lw_p34, List.forall_mem_cons.mpr ⟨lw_p35, fun _ h => absurd h List.not_mem_nil⟩⟩⟩⟩
def lw_privs : List (MethodName × Nat) := lw_privs_1 ++ (lw_privs_2 ++ (lw_privs_3))
def lw_tbl : List Cond := k2_sels lw_privs ++ tables_1
theorem lw_privs_ok : ∀ q ∈ lw_privs, lw_okq q := by
  show ∀ q ∈ lw_privs_1 ++ (lw_privs_2 ++ (lw_privs_3)), lw_okq q
  exact List.forall_mem_append.mpr ⟨lw_r1, List.forall_mem_append.mpr ⟨lw_r2, lw_r3⟩⟩
end
section
def RX : String := "ConditionRows"
def TX : u_T := fun k => match k with
  | 0 => ("ConditionRows", "whole", "Z", true)
  | 1 => ("ConditionRows", "fields", "LConditionRows$Fields;", true)
  | 2 => ("ConditionRows", "weights", "LConditionRows$Weights;", true)
  | 3 => ("ConditionRows", "names", "LConditionRows$Names;", true)
  | 4 => ("ConditionRows", "nodes", "LConditionRows$Nodes;", true)
  | 5 => ("ConditionRows", "row", "LConditionRows$Row;", true)
  | 6 => ("ConditionRows", "testing", "LConditionRows$Testing;", true)
  | 7 => ("ConditionRows", "switches", "[Z", true)
  | 8 => ("ConditionRows", "leftText", "[I", true)
  | _ => ("ConditionRows", "rightText", "[I", true)
def tyX : Nat → FieldType := fun k => match k with
  | 0 => .boolean
  | 1 => .object "ConditionRows$Fields"
  | 2 => .object "ConditionRows$Weights"
  | 3 => .object "ConditionRows$Names"
  | 4 => .object "ConditionRows$Nodes"
  | 5 => .object "ConditionRows$Row"
  | 6 => .object "ConditionRows$Testing"
  | 7 => .array .boolean
  | 8 => .array .int
  | _ => .array .int
theorem nmX : ∀ a, a < 10 → ∀ b, b < 10 → a ≠ b → (TX a).2.1 ≠ (TX b).2.1 := by decide +kernel
theorem tyX_ok : ∀ k, k < 10 → parseFieldDescriptor (TX k).2.2.1 = some (tyX k) := by decide +kernel
def RXF : String := "ConditionRows$Fields"
def TXF : u_T := fun k => match k with
  | 0 => ("ConditionRows$Fields", "category", "[I", true)
  | 1 => ("ConditionRows$Fields", "size", "[I", true)
  | 2 => ("ConditionRows$Fields", "scale", "[I", true)
  | 3 => ("ConditionRows$Fields", "bytes", "[I", true)
  | _ => ("ConditionRows$Fields", "made", "I", false)
def tyXF : Nat → FieldType := fun k => match k with
  | 0 => .array .int
  | 1 => .array .int
  | 2 => .array .int
  | 3 => .array .int
  | _ => .int
theorem nmXF : ∀ a, a < 5 → ∀ b, b < 5 → a ≠ b → (TXF a).2.1 ≠ (TXF b).2.1 := by decide +kernel
theorem tyXF_ok : ∀ k, k < 5 → parseFieldDescriptor (TXF k).2.2.1 = some (tyXF k) := by decide +kernel
def RXW : String := "ConditionRows$Weights"
def TXW : u_T := fun k => match k with
  | _ => ("ConditionRows$Weights", "of", "[I", true)
def tyXW : Nat → FieldType := fun k => match k with
  | _ => .array .int
theorem nmXW : ∀ a, a < 1 → ∀ b, b < 1 → a ≠ b → (TXW a).2.1 ≠ (TXW b).2.1 := by decide +kernel
theorem tyXW_ok : ∀ k, k < 1 → parseFieldDescriptor (TXW k).2.2.1 = some (tyXW k) := by decide +kernel
def RXN : String := "ConditionRows$Names"
def TXN : u_T := fun k => match k with
  | 0 => ("ConditionRows$Names", "field", "[I", true)
  | 1 => ("ConditionRows$Names", "ranges", "[I", true)
  | 2 => ("ConditionRows$Names", "low", "[J", true)
  | 3 => ("ConditionRows$Names", "high", "[J", true)
  | _ => ("ConditionRows$Names", "made", "I", false)
def tyXN : Nat → FieldType := fun k => match k with
  | 0 => .array .int
  | 1 => .array .int
  | 2 => .array .long
  | 3 => .array .long
  | _ => .int
theorem nmXN : ∀ a, a < 5 → ∀ b, b < 5 → a ≠ b → (TXN a).2.1 ≠ (TXN b).2.1 := by decide +kernel
theorem tyXN_ok : ∀ k, k < 5 → parseFieldDescriptor (TXN k).2.2.1 = some (tyXN k) := by decide +kernel
def RXO : String := "ConditionRows$Nodes"
def TXO : u_T := fun k => match k with
  | 0 => ("ConditionRows$Nodes", "op", "[I", true)
  | 1 => ("ConditionRows$Nodes", "a", "[I", true)
  | 2 => ("ConditionRows$Nodes", "b", "[I", true)
  | _ => ("ConditionRows$Nodes", "made", "I", false)
def tyXO : Nat → FieldType := fun k => match k with
  | 0 => .array .int
  | 1 => .array .int
  | 2 => .array .int
  | _ => .int
theorem nmXO : ∀ a, a < 4 → ∀ b, b < 4 → a ≠ b → (TXO a).2.1 ≠ (TXO b).2.1 := by decide +kernel
theorem tyXO_ok : ∀ k, k < 4 → parseFieldDescriptor (TXO k).2.2.1 = some (tyXO k) := by decide +kernel
def RXR : String := "ConditionRows$Row"
def TXR : u_T := fun k => match k with
  | 0 => ("ConditionRows$Row", "with", "[I", true)
  | 1 => ("ConditionRows$Row", "op", "[I", true)
  | 2 => ("ConditionRows$Row", "negated", "[Z", true)
  | 3 => ("ConditionRows$Row", "object", "[I", true)
  | 4 => ("ConditionRows$Row", "subject", "I", false)
  | 5 => ("ConditionRows$Row", "carried", "I", false)
  | _ => ("ConditionRows$Row", "length", "I", false)
def tyXR : Nat → FieldType := fun k => match k with
  | 0 => .array .int
  | 1 => .array .int
  | 2 => .array .boolean
  | 3 => .array .int
  | 4 => .int
  | 5 => .int
  | _ => .int
theorem nmXR : ∀ a, a < 7 → ∀ b, b < 7 → a ≠ b → (TXR a).2.1 ≠ (TXR b).2.1 := by decide +kernel
theorem tyXR_ok : ∀ k, k < 7 → parseFieldDescriptor (TXR k).2.2.1 = some (tyXR k) := by decide +kernel
def RXT : String := "ConditionRows$Testing"
def TXT : u_T := fun k => match k with
  | 0 => ("ConditionRows$Testing", "outcome", "[I", true)
  | 1 => ("ConditionRows$Testing", "leaves", "[I", true)
  | 2 => ("ConditionRows$Testing", "waiting", "[I", true)
  | 3 => ("ConditionRows$Testing", "noted", "I", false)
  | _ => ("ConditionRows$Testing", "depth", "I", false)
def tyXT : Nat → FieldType := fun k => match k with
  | 0 => .array .int
  | 1 => .array .int
  | 2 => .array .int
  | 3 => .int
  | _ => .int
theorem nmXT : ∀ a, a < 5 → ∀ b, b < 5 → a ≠ b → (TXT a).2.1 ≠ (TXT b).2.1 := by decide +kernel
theorem tyXT_ok : ∀ k, k < 5 → parseFieldDescriptor (TXT k).2.2.1 = some (tyXT k) := by decide +kernel
def RM : String := "ConditionRowsModel"
def TM : u_T := fun k => match k with
  | 0 => ("ConditionRowsModel", "whole", "Z", true)
  | 1 => ("ConditionRowsModel", "thrown", "I", false)
  | 2 => ("ConditionRowsModel", "bytes", "[I", true)
  | 3 => ("ConditionRowsModel", "categories", "[I", true)
  | 4 => ("ConditionRowsModel", "sizes", "[I", true)
  | 5 => ("ConditionRowsModel", "scales", "[I", true)
  | 6 => ("ConditionRowsModel", "weights", "[I", true)
  | 7 => ("ConditionRowsModel", "fields", "I", false)
  | 8 => ("ConditionRowsModel", "ops", "[I", true)
  | 9 => ("ConditionRowsModel", "as", "[I", true)
  | 10 => ("ConditionRowsModel", "bs", "[I", true)
  | 11 => ("ConditionRowsModel", "nodes", "I", false)
  | 12 => ("ConditionRowsModel", "nameFields", "[I", true)
  | 13 => ("ConditionRowsModel", "ranges", "[I", true)
  | 14 => ("ConditionRowsModel", "lows", "[J", true)
  | 15 => ("ConditionRowsModel", "highs", "[J", true)
  | 16 => ("ConditionRowsModel", "names", "I", false)
  | 17 => ("ConditionRowsModel", "switches", "[Z", true)
  | 18 => ("ConditionRowsModel", "ways", "[I", true)
  | 19 => ("ConditionRowsModel", "rowOps", "[I", true)
  | 20 => ("ConditionRowsModel", "objects", "[I", true)
  | 21 => ("ConditionRowsModel", "turned", "[Z", true)
  | 22 => ("ConditionRowsModel", "row", "I", false)
  | 23 => ("ConditionRowsModel", "subject", "I", false)
  | 24 => ("ConditionRowsModel", "known", "[I", true)
  | 25 => ("ConditionRowsModel", "pile", "[I", true)
  | 26 => ("ConditionRowsModel", "leaves", "[I", true)
  | 27 => ("ConditionRowsModel", "noted", "I", false)
  | 28 => ("ConditionRowsModel", "fault", "Z", false)
  | _ => ("ConditionRowsModel", "digits", "[I", true)
def tyM : Nat → FieldType := fun k => match k with
  | 0 => .boolean
  | 1 => .int
  | 2 => .array .int
  | 3 => .array .int
  | 4 => .array .int
  | 5 => .array .int
  | 6 => .array .int
  | 7 => .int
  | 8 => .array .int
  | 9 => .array .int
  | 10 => .array .int
  | 11 => .int
  | 12 => .array .int
  | 13 => .array .int
  | 14 => .array .long
  | 15 => .array .long
  | 16 => .int
  | 17 => .array .boolean
  | 18 => .array .int
  | 19 => .array .int
  | 20 => .array .int
  | 21 => .array .boolean
  | 22 => .int
  | 23 => .int
  | 24 => .array .int
  | 25 => .array .int
  | 26 => .array .int
  | 27 => .int
  | 28 => .boolean
  | _ => .array .int
theorem nmM : ∀ a, a < 30 → ∀ b, b < 30 → a ≠ b → (TM a).2.1 ≠ (TM b).2.1 := by decide +kernel
theorem tyM_ok : ∀ k, k < 30 → parseFieldDescriptor (TM k).2.2.1 = some (tyM k) := by decide +kernel
def RJM : String := "java/lang/Math"
def RJL : String := "java/lang/Long"
def RJI : String := "java/lang/Integer"
def RL : String := "ConditionRowsLaw"
abbrev vwCl : List vw_C := [(RX, TX, 10), (RXF, TXF, 5), (RXW, TXW, 1), (RXN, TXN, 5), (RXO, TXO, 4), (RXR, TXR, 7), (RXT, TXT, 5), (RM, TM, 30)]
abbrev cX_init : ByteArray := prog_1_method_1_code
def yX_init : MethodName := ⟨RX, "<init>", "(I)V"⟩
abbrev cXF_init : ByteArray := prog_2_method_1_code
def yXF_init : MethodName := ⟨RXF, "<init>", "()V"⟩
abbrev cXW_init : ByteArray := prog_7_method_1_code
def yXW_init : MethodName := ⟨RXW, "<init>", "()V"⟩
abbrev cXN_init : ByteArray := prog_3_method_1_code
def yXN_init : MethodName := ⟨RXN, "<init>", "()V"⟩
abbrev cXO_init : ByteArray := prog_4_method_1_code
def yXO_init : MethodName := ⟨RXO, "<init>", "()V"⟩
abbrev cXR_init : ByteArray := prog_5_method_1_code
def yXR_init : MethodName := ⟨RXR, "<init>", "()V"⟩
abbrev cXT_init : ByteArray := prog_6_method_1_code
def yXT_init : MethodName := ⟨RXT, "<init>", "()V"⟩
abbrev cX_field : ByteArray := prog_1_method_2_code
def yX_field : MethodName := ⟨RX, "field", "(II)I"⟩
abbrev cX_mostBytes : ByteArray := prog_1_method_17_code
def yX_mostBytes : MethodName := ⟨RX, "mostBytes", "(I)I"⟩
abbrev cXF_add : ByteArray := prog_2_method_5_code
def yXF_add : MethodName := ⟨RXF, "add", "(II)I"⟩
abbrev cXF_firstByte : ByteArray := prog_2_method_6_code
def yXF_firstByte : MethodName := ⟨RXF, "firstByte", "(I)I"⟩
abbrev cX_octet : ByteArray := prog_1_method_3_code
def yX_octet : MethodName := ⟨RX, "octet", "(III)I"⟩
abbrev cXF_has : ByteArray := prog_2_method_2_code
def yXF_has : MethodName := ⟨RXF, "has", "(I)Z"⟩
abbrev cX_scale : ByteArray := prog_1_method_4_code
def yX_scale : MethodName := ⟨RX, "scale", "(II)I"⟩
abbrev cXF_hasNumber : ByteArray := prog_2_method_4_code
def yXF_hasNumber : MethodName := ⟨RXF, "hasNumber", "(I)Z"⟩
abbrev cXF_isText : ByteArray := prog_2_method_3_code
def yXF_isText : MethodName := ⟨RXF, "isText", "(I)Z"⟩
abbrev cX_weight : ByteArray := prog_1_method_5_code
def yX_weight : MethodName := ⟨RX, "weight", "(II)I"⟩
abbrev cX_isByte : ByteArray := prog_1_method_18_code
def yX_isByte : MethodName := ⟨RX, "isByte", "(I)Z"⟩
abbrev cX_node : ByteArray := prog_1_method_6_code
def yX_node : MethodName := ⟨RX, "node", "(III)I"⟩
abbrev cX_isInside : ByteArray := prog_1_method_22_code
def yX_isInside : MethodName := ⟨RX, "isInside", "(III)Z"⟩
abbrev cX_isSwitch : ByteArray := prog_1_method_19_code
def yX_isSwitch : MethodName := ⟨RX, "isSwitch", "(I)Z"⟩
abbrev cX_hasParts : ByteArray := prog_1_method_23_code
def yX_hasParts : MethodName := ⟨RX, "hasParts", "(III)Z"⟩
abbrev cXN_has : ByteArray := prog_3_method_2_code
def yXN_has : MethodName := ⟨RXN, "has", "(I)Z"⟩
abbrev cXO_has : ByteArray := prog_4_method_2_code
def yXO_has : MethodName := ⟨RXO, "has", "(I)Z"⟩
abbrev cXO_add : ByteArray := prog_4_method_3_code
def yXO_add : MethodName := ⟨RXO, "add", "(III)I"⟩
abbrev cX_name88 : ByteArray := prog_1_method_7_code
def yX_name88 : MethodName := ⟨RX, "name88", "(IJJ)I"⟩
abbrev cX_isAbove : ByteArray := prog_1_method_24_code
def yX_isAbove : MethodName := ⟨RX, "isAbove", "(IJJ)Z"⟩
abbrev cX_isBelowUnsigned : ByteArray := prog_1_method_25_code
def yX_isBelowUnsigned : MethodName := ⟨RX, "isBelowUnsigned", "(JJ)Z"⟩
abbrev cXN_add : ByteArray := prog_3_method_3_code
def yXN_add : MethodName := ⟨RXN, "add", "(IJJ)I"⟩
abbrev cXN_widen : ByteArray := prog_3_method_4_code
def yXN_widen : MethodName := ⟨RXN, "widen", "(IJJ)I"⟩
abbrev cX_range : ByteArray := prog_1_method_8_code
def yX_range : MethodName := ⟨RX, "range", "(IJJ)I"⟩
abbrev cX_short0 : ByteArray := prog_1_method_9_code
def yX_short0 : MethodName := ⟨RX, "short0", "(III)I"⟩
abbrev cX_isRelation : ByteArray := prog_1_method_20_code
def yX_isRelation : MethodName := ⟨RX, "isRelation", "(I)Z"⟩
abbrev cXR_begin : ByteArray := prog_5_method_2_code
def yXR_begin : MethodName := ⟨RXR, "begin", "(III)V"⟩
abbrev cXR_append : ByteArray := prog_5_method_3_code
def yXR_append : MethodName := ⟨RXR, "append", "(IIZI)V"⟩
abbrev cX_more : ByteArray := prog_1_method_10_code
def yX_more : MethodName := ⟨RX, "more", "(IZII)I"⟩
abbrev cX_turned : ByteArray := prog_1_method_21_code
def yX_turned : MethodName := ⟨RX, "turned", "(I)I"⟩
abbrev cX_unfold : ByteArray := prog_1_method_11_code
def yX_unfold : MethodName := ⟨RX, "unfold", "()I"⟩
abbrev cXR_nodesNeeded : ByteArray := prog_5_method_4_code
def yXR_nodesNeeded : MethodName := ⟨RXR, "nodesNeeded", "()I"⟩
abbrev cX_unfoldRow : ByteArray := prog_1_method_27_code
def yX_unfoldRow : MethodName := ⟨RX, "unfoldRow", "()I"⟩
abbrev cX_joined : ByteArray := prog_1_method_29_code
def yX_joined : MethodName := ⟨RX, "joined", "(III)I"⟩
abbrev cX_relationNode : ByteArray := prog_1_method_28_code
def yX_relationNode : MethodName := ⟨RX, "relationNode", "(I)I"⟩
abbrev cX_asked : ByteArray := prog_1_method_13_code
def yX_asked : MethodName := ⟨RX, "asked", "(I)I"⟩
abbrev cX_switchOn : ByteArray := prog_1_method_14_code
def yX_switchOn : MethodName := ⟨RX, "switchOn", "(IZ)I"⟩
abbrev cX_count : ByteArray := prog_1_method_16_code
def yX_count : MethodName := ⟨RX, "count", "(I)I"⟩
abbrev cX_switchesOn : ByteArray := prog_1_method_26_code
def yX_switchesOn : MethodName := ⟨RX, "switchesOn", "()I"⟩
abbrev cL_cell : ByteArray := method_2_code
def yL_cell : MethodName := ⟨RL, "cell", "([II)I"⟩
abbrev cL_truth : ByteArray := method_3_code
def yL_truth : MethodName := ⟨RL, "truth", "(LConditionRows;I[J)I"⟩
abbrev cX_truth : ByteArray := prog_1_method_12_code
def yX_truth : MethodName := ⟨RX, "truth", "(I)Z"⟩
abbrev cX_outcomeOf : ByteArray := prog_1_method_30_code
def yX_outcomeOf : MethodName := ⟨RX, "outcomeOf", "(I)I"⟩
abbrev cXT_begin : ByteArray := prog_6_method_2_code
def yXT_begin : MethodName := ⟨RXT, "begin", "()V"⟩
abbrev cXT_open : ByteArray := prog_6_method_3_code
def yXT_open : MethodName := ⟨RXT, "open", "(I)V"⟩
abbrev cX_partToTest : ByteArray := prog_1_method_31_code
def yX_partToTest : MethodName := ⟨RX, "partToTest", "(I)I"⟩
abbrev cX_settledBy : ByteArray := prog_1_method_32_code
def yX_settledBy : MethodName := ⟨RX, "settledBy", "(I)I"⟩
abbrev cX_leafOutcome : ByteArray := prog_1_method_34_code
def yX_leafOutcome : MethodName := ⟨RX, "leafOutcome", "(I)I"⟩
abbrev cXT_note : ByteArray := prog_6_method_5_code
def yXT_note : MethodName := ⟨RXT, "note", "(I)V"⟩
abbrev cXF_isOfClass : ByteArray := prog_2_method_9_code
def yXF_isOfClass : MethodName := ⟨RXF, "isOfClass", "(II)Z"⟩
abbrev cXF_isBad : ByteArray := prog_2_method_8_code
def yXF_isBad : MethodName := ⟨RXF, "isBad", "(I)Z"⟩
abbrev cXF_isDigit : ByteArray := prog_2_method_7_code
def yXF_isDigit : MethodName := ⟨RXF, "isDigit", "(I)Z"⟩
abbrev cXF_fits : ByteArray := prog_2_method_10_code
def yXF_fits : MethodName := ⟨RXF, "fits", "(II)Z"⟩
abbrev cX_asOutcome : ByteArray := prog_1_method_35_code
def yX_asOutcome : MethodName := ⟨RX, "asOutcome", "(Z)I"⟩
abbrev cXF_value : ByteArray := prog_2_method_11_code
def yXF_value : MethodName := ⟨RXF, "value", "(I)J"⟩
abbrev cXF_digitsValue : ByteArray := prog_2_method_12_code
def yXF_digitsValue : MethodName := ⟨RXF, "digitsValue", "(I)J"⟩
abbrev cXF_binaryValue : ByteArray := prog_2_method_13_code
def yXF_binaryValue : MethodName := ⟨RXF, "binaryValue", "(I)J"⟩
abbrev cJL_compare : ByteArray := prog_14_method_42_code
def yJL_compare : MethodName := ⟨RJL, "compare", "(JJ)I"⟩
abbrev cX_holds : ByteArray := prog_1_method_37_code
def yX_holds : MethodName := ⟨RX, "holds", "(I)Z"⟩
abbrev cXF_firstBytes : ByteArray := prog_2_method_14_code
def yXF_firstBytes : MethodName := ⟨RXF, "firstBytes", "(I)J"⟩
abbrev cXN_hasUnsigned : ByteArray := prog_3_method_6_code
def yXN_hasUnsigned : MethodName := ⟨RXN, "hasUnsigned", "(IJ)Z"⟩
abbrev cXN_hasSigned : ByteArray := prog_3_method_5_code
def yXN_hasSigned : MethodName := ⟨RXN, "hasSigned", "(IJ)Z"⟩
abbrev cX_relationOutcome : ByteArray := prog_1_method_36_code
def yX_relationOutcome : MethodName := ⟨RX, "relationOutcome", "(III)I"⟩
abbrev cX_compareFields : ByteArray := prog_1_method_38_code
def yX_compareFields : MethodName := ⟨RX, "compareFields", "(II)I"⟩
abbrev cXF_compareNumbers : ByteArray := prog_2_method_15_code
def yXF_compareNumbers : MethodName := ⟨RXF, "compareNumbers", "(II)I"⟩
abbrev cXF_compareScaled : ByteArray := prog_2_method_16_code
def yXF_compareScaled : MethodName := ⟨RXF, "compareScaled", "(JJI)I"⟩
abbrev cJM_floorDiv : ByteArray := prog_15_method_49_code
def yJM_floorDiv : MethodName := ⟨RJM, "floorDiv", "(JJ)J"⟩
abbrev cJM_floorMod : ByteArray := prog_15_method_52_code
def yJM_floorMod : MethodName := ⟨RJM, "floorMod", "(JJ)J"⟩
abbrev cXF_spell : ByteArray := prog_2_method_17_code
def yXF_spell : MethodName := ⟨RXF, "spell", "(I[I)V"⟩
abbrev cXF_spellDecimals : ByteArray := prog_2_method_19_code
def yXF_spellDecimals : MethodName := ⟨RXF, "spellDecimals", "(J[I)I"⟩
abbrev cXF_spellBytes : ByteArray := prog_2_method_18_code
def yXF_spellBytes : MethodName := ⟨RXF, "spellBytes", "(I[I)I"⟩
abbrev cXW_compareTexts : ByteArray := prog_7_method_2_code
def yXW_compareTexts : MethodName := ⟨RXW, "compareTexts", "([I[I)I"⟩
abbrev cJI_compare : ByteArray := prog_13_method_40_code
def yJI_compare : MethodName := ⟨RJI, "compare", "(II)I"⟩
abbrev cX_joinedOutcome : ByteArray := prog_1_method_33_code
def yX_joinedOutcome : MethodName := ⟨RX, "joinedOutcome", "(I)I"⟩
abbrev cXT_close : ByteArray := prog_6_method_4_code
def yXT_close : MethodName := ⟨RXT, "close", "(I)V"⟩
abbrev cL_compare : ByteArray := method_4_code
def yL_compare : MethodName := ⟨RL, "compare", "(LConditionRows;II[J)I"⟩
abbrev cX_compare : ByteArray := prog_1_method_15_code
def yX_compare : MethodName := ⟨RX, "compare", "(II)I"⟩
abbrev cM_init : ByteArray := prog_9_method_1_code
def yM_init : MethodName := ⟨RM, "<init>", "(I)V"⟩
abbrev cM_field : ByteArray := prog_9_method_6_code
def yM_field : MethodName := ⟨RM, "field", "(II)I"⟩
abbrev cM_octet : ByteArray := prog_9_method_7_code
def yM_octet : MethodName := ⟨RM, "octet", "(III)I"⟩
abbrev cM_isField : ByteArray := prog_9_method_3_code
def yM_isField : MethodName := ⟨RM, "isField", "(I)Z"⟩
abbrev cM_scale : ByteArray := prog_9_method_8_code
def yM_scale : MethodName := ⟨RM, "scale", "(II)I"⟩
abbrev cM_weight : ByteArray := prog_9_method_10_code
def yM_weight : MethodName := ⟨RM, "weight", "(II)I"⟩
abbrev cM_isByte : ByteArray := prog_9_method_9_code
def yM_isByte : MethodName := ⟨RM, "isByte", "(I)Z"⟩
abbrev cM_node : ByteArray := prog_9_method_22_code
def yM_node : MethodName := ⟨RM, "node", "(III)I"⟩
abbrev cM_refusal : ByteArray := prog_9_method_20_code
def yM_refusal : MethodName := ⟨RM, "refusal", "(III)I"⟩
abbrev cM_isName : ByteArray := prog_9_method_5_code
def yM_isName : MethodName := ⟨RM, "isName", "(I)Z"⟩
abbrev cM_isNode : ByteArray := prog_9_method_4_code
def yM_isNode : MethodName := ⟨RM, "isNode", "(I)Z"⟩
abbrev cM_made : ByteArray := prog_9_method_21_code
def yM_made : MethodName := ⟨RM, "made", "(III)I"⟩
abbrev cM_name88 : ByteArray := prog_9_method_25_code
def yM_name88 : MethodName := ⟨RM, "name88", "(IJJ)I"⟩
abbrev cM_isTurned : ByteArray := prog_9_method_24_code
def yM_isTurned : MethodName := ⟨RM, "isTurned", "(IJJ)Z"⟩
abbrev cM_isLess : ByteArray := prog_9_method_23_code
def yM_isLess : MethodName := ⟨RM, "isLess", "(JJ)Z"⟩
abbrev cM_range : ByteArray := prog_9_method_26_code
def yM_range : MethodName := ⟨RM, "range", "(IJJ)I"⟩
abbrev cM_short0 : ByteArray := prog_9_method_28_code
def yM_short0 : MethodName := ⟨RM, "short0", "(III)I"⟩
abbrev cM_isRelation : ByteArray := prog_9_method_27_code
def yM_isRelation : MethodName := ⟨RM, "isRelation", "(I)Z"⟩
abbrev cM_more : ByteArray := prog_9_method_29_code
def yM_more : MethodName := ⟨RM, "more", "(IZII)I"⟩
abbrev cM_unfold : ByteArray := prog_9_method_31_code
def yM_unfold : MethodName := ⟨RM, "unfold", "()I"⟩
abbrev cM_relation : ByteArray := prog_9_method_30_code
def yM_relation : MethodName := ⟨RM, "relation", "(I)I"⟩
abbrev cM_truth : ByteArray := prog_9_method_37_code
def yM_truth : MethodName := ⟨RM, "truth", "(I)Z"⟩
abbrev cM_leaf : ByteArray := prog_9_method_35_code
def yM_leaf : MethodName := ⟨RM, "leaf", "(I)Z"⟩
abbrev cM_isBad : ByteArray := prog_9_method_12_code
def yM_isBad : MethodName := ⟨RM, "isBad", "(I)Z"⟩
abbrev cM_read : ByteArray := prog_9_method_11_code
def yM_read : MethodName := ⟨RM, "read", "(II)I"⟩
abbrev cM_related : ByteArray := prog_9_method_34_code
def yM_related : MethodName := ⟨RM, "related", "(III)Z"⟩
abbrev cM_order : ByteArray := prog_9_method_19_code
def yM_order : MethodName := ⟨RM, "order", "(II)I"⟩
abbrev cM_part : ByteArray := prog_9_method_15_code
def yM_part : MethodName := ⟨RM, "part", "(I)J"⟩
abbrev cM_whole : ByteArray := prog_9_method_13_code
def yM_whole : MethodName := ⟨RM, "whole", "(I)J"⟩
abbrev cM_ten : ByteArray := prog_9_method_14_code
def yM_ten : MethodName := ⟨RM, "ten", "(I)J"⟩
abbrev cM_sign : ByteArray := prog_9_method_18_code
def yM_sign : MethodName := ⟨RM, "sign", "(JJ)I"⟩
abbrev cM_rest : ByteArray := prog_9_method_16_code
def yM_rest : MethodName := ⟨RM, "rest", "(I)J"⟩
abbrev cM_spell : ByteArray := prog_9_method_17_code
def yM_spell : MethodName := ⟨RM, "spell", "(I)V"⟩
abbrev cM_isOf : ByteArray := prog_9_method_32_code
def yM_isOf : MethodName := ⟨RM, "isOf", "(II)Z"⟩
abbrev cM_isIn : ByteArray := prog_9_method_33_code
def yM_isIn : MethodName := ⟨RM, "isIn", "(I)Z"⟩
abbrev cM_settled : ByteArray := prog_9_method_36_code
def yM_settled : MethodName := ⟨RM, "settled", "(I)I"⟩
abbrev cM_asked : ByteArray := prog_9_method_38_code
def yM_asked : MethodName := ⟨RM, "asked", "(I)I"⟩
abbrev cM_switchOn : ByteArray := prog_9_method_39_code
def yM_switchOn : MethodName := ⟨RM, "switchOn", "(IZ)I"⟩
abbrev cM_compare : ByteArray := prog_9_method_40_code
def yM_compare : MethodName := ⟨RM, "compare", "(II)I"⟩
abbrev cM_count : ByteArray := prog_9_method_41_code
def yM_count : MethodName := ⟨RM, "count", "(I)I"⟩
end
section
def zWords : List Cond := lw_tbl.filter goodWord
theorem zmem {w : Cond} (i : Nat) (h : tables_1[i]? = some w) (g : goodWord w = true) : w ∈ zWords := List.mem_filter.mpr ⟨List.mem_append_right _ (List.mem_of_getElem? h), g⟩
theorem zmemP {w : Cond} (i : Nat) (h : (k2_sels lw_privs)[i]? = some w) (g : goodWord w = true) : w ∈ zWords := List.mem_filter.mpr ⟨List.mem_append_left _ (List.mem_of_getElem? h), g⟩
theorem zc {w c : Cond} (h : w ∈ zWords) : w ∈ c :: zWords := List.mem_cons_of_mem _ h
theorem zgood {w c0 : Cond} (h : w ∈ zWords) : w ∈ c0 :: zWords ∧ ((w.onTables && w.keeps) = true ∨ ∃ ty, w = .arrayClass ty) := ⟨zc h, good_of_word (List.mem_filter.mp h).2⟩
theorem zgC {w c0 : Cond} (h : w ∈ zWords) : GoodIn (c0 :: zWords) (w :: zWords) := by
  intro v hv
  rcases List.mem_cons.mp hv with e | e
  · rw [e]; exact zgood h
  · exact zgood e
theorem zgV {c0 w : Cond} {own C : String} {idx : Nat} {y : MethodName} (h1 : Cond.methodLink own idx y ∈ zWords) (h2 : Cond.instanceMethod y ∈ zWords) (h3 : Cond.selects C y y ∈ zWords) (h4 : Cond.initialized C ∈ zWords) (h : w ∈ zWords) : GoodIn (c0 :: zWords) (wsV own idx C y (w :: zWords)) := by
  intro v hv
  rcases List.mem_append.mp hv with e | e
  · simp only [List.mem_cons, List.not_mem_nil, or_false] at e
    rcases e with e | e | e | e <;> (rw [e]; apply zgood; assumption)
  · exact zgC h v e
theorem zgS {c0 w : Cond} {own : String} {idx : Nat} {y : MethodName} (h1 : Cond.methodLink own idx y ∈ zWords) (h2 : Cond.static y ∈ zWords) (h4 : Cond.initialized y.cls ∈ zWords) (h : w ∈ zWords) : GoodIn (c0 :: zWords) (va_wsS own idx y (w :: zWords)) := by
  intro v hv
  rcases List.mem_append.mp hv with e | e
  · simp only [List.mem_cons, List.not_mem_nil, or_false] at e
    rcases e with e | e | e <;> (rw [e]; apply zgood; assumption)
  · exact zgC h v e
theorem m_211 : (Jvm.Cond.code ({ cls := "ConditionRows", name := "mostBytes", desc := "(I)I" } : Jvm.MethodName) prog_1_method_17_code (1 : Nat) (Option.some Jvm.ClassFile.FieldType.int)) ∈ zWords := zmem 211 (by decide +kernel) (by decide +kernel)
theorem m_209 : (Jvm.Cond.methodLink "ConditionRows" (66 : Nat) ({ cls := "ConditionRows", name := "mostBytes", desc := "(I)I" } : Jvm.MethodName)) ∈ zWords := zmem 209 (by decide +kernel) (by decide +kernel)
theorem m_210 : (Jvm.Cond.static ({ cls := "ConditionRows", name := "mostBytes", desc := "(I)I" } : Jvm.MethodName)) ∈ zWords := zmem 210 (by decide +kernel) (by decide +kernel)
theorem m_1 : (Jvm.Cond.initialized "ConditionRows") ∈ zWords := zmem 1 (by decide +kernel) (by decide +kernel)
theorem m_175 : (Jvm.Cond.fieldLink "ConditionRows" (10 : Nat) "ConditionRows" "fields" "LConditionRows$Fields;") ∈ zWords := zmem 175 (by decide +kernel) (by decide +kernel)
theorem m_38 : (Jvm.Cond.fieldLink "ConditionRows$Fields" (24 : Nat) "ConditionRows$Fields" "made" "I") ∈ zWords := zmem 38 (by decide +kernel) (by decide +kernel)
theorem m_31 : (Jvm.Cond.fieldLink "ConditionRows$Fields" (9 : Nat) "ConditionRows$Fields" "category" "[I") ∈ zWords := zmem 31 (by decide +kernel) (by decide +kernel)
theorem m_32 : (Jvm.Cond.fieldLink "ConditionRows$Fields" (15 : Nat) "ConditionRows$Fields" "size" "[I") ∈ zWords := zmem 32 (by decide +kernel) (by decide +kernel)
theorem m_36 : (Jvm.Cond.fieldLink "ConditionRows$Fields" (21 : Nat) "ConditionRows$Fields" "bytes" "[I") ∈ zWords := zmem 36 (by decide +kernel) (by decide +kernel)
theorem m_218 : (Jvm.Cond.code ({ cls := "ConditionRows$Fields", name := "firstByte", desc := "(I)I" } : Jvm.MethodName) prog_2_method_6_code (1 : Nat) (Option.some Jvm.ClassFile.FieldType.int)) ∈ zWords := zmem 218 (by decide +kernel) (by decide +kernel)
theorem m_216 : (Jvm.Cond.methodLink "ConditionRows$Fields" (35 : Nat) ({ cls := "ConditionRows$Fields", name := "firstByte", desc := "(I)I" } : Jvm.MethodName)) ∈ zWords := zmem 216 (by decide +kernel) (by decide +kernel)
theorem m_217 : (Jvm.Cond.static ({ cls := "ConditionRows$Fields", name := "firstByte", desc := "(I)I" } : Jvm.MethodName)) ∈ zWords := zmem 217 (by decide +kernel) (by decide +kernel)
theorem m_2 : (Jvm.Cond.initialized "ConditionRows$Fields") ∈ zWords := zmem 2 (by decide +kernel) (by decide +kernel)
theorem m_215 : (Jvm.Cond.code ({ cls := "ConditionRows$Fields", name := "add", desc := "(II)I" } : Jvm.MethodName) prog_2_method_5_code (5 : Nat) (Option.some Jvm.ClassFile.FieldType.int)) ∈ zWords := zmem 215 (by decide +kernel) (by decide +kernel)
theorem m_212 : (Jvm.Cond.methodLink "ConditionRows" (70 : Nat) ({ cls := "ConditionRows$Fields", name := "add", desc := "(II)I" } : Jvm.MethodName)) ∈ zWords := zmem 212 (by decide +kernel) (by decide +kernel)
theorem m_213 : (Jvm.Cond.instanceMethod ({ cls := "ConditionRows$Fields", name := "add", desc := "(II)I" } : Jvm.MethodName)) ∈ zWords := zmem 213 (by decide +kernel) (by decide +kernel)
theorem m_214 : (Jvm.Cond.selects "ConditionRows$Fields" ({ cls := "ConditionRows$Fields", name := "add", desc := "(II)I" } : Jvm.MethodName) ({ cls := "ConditionRows$Fields", name := "add", desc := "(II)I" } : Jvm.MethodName)) ∈ zWords := zmem 214 (by decide +kernel) (by decide +kernel)
theorem m_226 : (Jvm.Cond.code ({ cls := "ConditionRows$Fields", name := "has", desc := "(I)Z" } : Jvm.MethodName) prog_2_method_2_code (2 : Nat) (Option.some Jvm.ClassFile.FieldType.boolean)) ∈ zWords := zmem 226 (by decide +kernel) (by decide +kernel)
theorem m_223 : (Jvm.Cond.methodLink "ConditionRows" (74 : Nat) ({ cls := "ConditionRows$Fields", name := "has", desc := "(I)Z" } : Jvm.MethodName)) ∈ zWords := zmem 223 (by decide +kernel) (by decide +kernel)
theorem m_224 : (Jvm.Cond.instanceMethod ({ cls := "ConditionRows$Fields", name := "has", desc := "(I)Z" } : Jvm.MethodName)) ∈ zWords := zmem 224 (by decide +kernel) (by decide +kernel)
theorem m_225 : (Jvm.Cond.selects "ConditionRows$Fields" ({ cls := "ConditionRows$Fields", name := "has", desc := "(I)Z" } : Jvm.MethodName) ({ cls := "ConditionRows$Fields", name := "has", desc := "(I)Z" } : Jvm.MethodName)) ∈ zWords := zmem 225 (by decide +kernel) (by decide +kernel)
theorem m_235 : (Jvm.Cond.methodLink "ConditionRows$Fields" (28 : Nat) ({ cls := "ConditionRows$Fields", name := "has", desc := "(I)Z" } : Jvm.MethodName)) ∈ zWords := zmem 235 (by decide +kernel) (by decide +kernel)
theorem m_239 : (Jvm.Cond.code ({ cls := "ConditionRows$Fields", name := "isText", desc := "(I)Z" } : Jvm.MethodName) prog_2_method_3_code (2 : Nat) (Option.some Jvm.ClassFile.FieldType.boolean)) ∈ zWords := zmem 239 (by decide +kernel) (by decide +kernel)
theorem m_236 : (Jvm.Cond.methodLink "ConditionRows$Fields" (32 : Nat) ({ cls := "ConditionRows$Fields", name := "isText", desc := "(I)Z" } : Jvm.MethodName)) ∈ zWords := zmem 236 (by decide +kernel) (by decide +kernel)
theorem m_237 : (Jvm.Cond.instanceMethod ({ cls := "ConditionRows$Fields", name := "isText", desc := "(I)Z" } : Jvm.MethodName)) ∈ zWords := zmem 237 (by decide +kernel) (by decide +kernel)
theorem m_238 : (Jvm.Cond.selects "ConditionRows$Fields" ({ cls := "ConditionRows$Fields", name := "isText", desc := "(I)Z" } : Jvm.MethodName) ({ cls := "ConditionRows$Fields", name := "isText", desc := "(I)Z" } : Jvm.MethodName)) ∈ zWords := zmem 238 (by decide +kernel) (by decide +kernel)
theorem m_234 : (Jvm.Cond.code ({ cls := "ConditionRows$Fields", name := "hasNumber", desc := "(I)Z" } : Jvm.MethodName) prog_2_method_4_code (2 : Nat) (Option.some Jvm.ClassFile.FieldType.boolean)) ∈ zWords := zmem 234 (by decide +kernel) (by decide +kernel)
theorem m_231 : (Jvm.Cond.methodLink "ConditionRows" (84 : Nat) ({ cls := "ConditionRows$Fields", name := "hasNumber", desc := "(I)Z" } : Jvm.MethodName)) ∈ zWords := zmem 231 (by decide +kernel) (by decide +kernel)
theorem m_232 : (Jvm.Cond.instanceMethod ({ cls := "ConditionRows$Fields", name := "hasNumber", desc := "(I)Z" } : Jvm.MethodName)) ∈ zWords := zmem 232 (by decide +kernel) (by decide +kernel)
theorem m_233 : (Jvm.Cond.selects "ConditionRows$Fields" ({ cls := "ConditionRows$Fields", name := "hasNumber", desc := "(I)Z" } : Jvm.MethodName) ({ cls := "ConditionRows$Fields", name := "hasNumber", desc := "(I)Z" } : Jvm.MethodName)) ∈ zWords := zmem 233 (by decide +kernel) (by decide +kernel)
theorem m_246 : (Jvm.Cond.code ({ cls := "ConditionRows", name := "isByte", desc := "(I)Z" } : Jvm.MethodName) prog_1_method_18_code (1 : Nat) (Option.some Jvm.ClassFile.FieldType.boolean)) ∈ zWords := zmem 246 (by decide +kernel) (by decide +kernel)
theorem m_244 : (Jvm.Cond.methodLink "ConditionRows" (90 : Nat) ({ cls := "ConditionRows", name := "isByte", desc := "(I)Z" } : Jvm.MethodName)) ∈ zWords := zmem 244 (by decide +kernel) (by decide +kernel)
theorem m_245 : (Jvm.Cond.static ({ cls := "ConditionRows", name := "isByte", desc := "(I)Z" } : Jvm.MethodName)) ∈ zWords := zmem 245 (by decide +kernel) (by decide +kernel)
theorem m_176 : (Jvm.Cond.fieldLink "ConditionRows" (19 : Nat) "ConditionRows" "weights" "LConditionRows$Weights;") ∈ zWords := zmem 176 (by decide +kernel) (by decide +kernel)
theorem m_256 : (Jvm.Cond.code ({ cls := "ConditionRows", name := "isSwitch", desc := "(I)Z" } : Jvm.MethodName) prog_1_method_19_code (1 : Nat) (Option.some Jvm.ClassFile.FieldType.boolean)) ∈ zWords := zmem 256 (by decide +kernel) (by decide +kernel)
theorem m_254 : (Jvm.Cond.methodLink "ConditionRows" (173 : Nat) ({ cls := "ConditionRows", name := "isSwitch", desc := "(I)Z" } : Jvm.MethodName)) ∈ zWords := zmem 254 (by decide +kernel) (by decide +kernel)
theorem m_255 : (Jvm.Cond.static ({ cls := "ConditionRows", name := "isSwitch", desc := "(I)Z" } : Jvm.MethodName)) ∈ zWords := zmem 255 (by decide +kernel) (by decide +kernel)
theorem m_253 : (Jvm.Cond.code ({ cls := "ConditionRows", name := "isInside", desc := "(III)Z" } : Jvm.MethodName) prog_1_method_22_code (3 : Nat) (Option.some Jvm.ClassFile.FieldType.boolean)) ∈ zWords := zmem 253 (by decide +kernel) (by decide +kernel)
theorem m_251 : (Jvm.Cond.methodLink "ConditionRows" (96 : Nat) ({ cls := "ConditionRows", name := "isInside", desc := "(III)Z" } : Jvm.MethodName)) ∈ zWords := zmem 251 (by decide +kernel) (by decide +kernel)
theorem m_252 : (Jvm.Cond.static ({ cls := "ConditionRows", name := "isInside", desc := "(III)Z" } : Jvm.MethodName)) ∈ zWords := zmem 252 (by decide +kernel) (by decide +kernel)
theorem m_177 : (Jvm.Cond.fieldLink "ConditionRows" (26 : Nat) "ConditionRows" "names" "LConditionRows$Names;") ∈ zWords := zmem 177 (by decide +kernel) (by decide +kernel)
theorem m_74 : (Jvm.Cond.fieldLink "ConditionRows$Names" (25 : Nat) "ConditionRows$Names" "made" "I") ∈ zWords := zmem 74 (by decide +kernel) (by decide +kernel)
theorem m_264 : (Jvm.Cond.code ({ cls := "ConditionRows$Names", name := "has", desc := "(I)Z" } : Jvm.MethodName) prog_3_method_2_code (2 : Nat) (Option.some Jvm.ClassFile.FieldType.boolean)) ∈ zWords := zmem 264 (by decide +kernel) (by decide +kernel)
theorem m_261 : (Jvm.Cond.methodLink "ConditionRows" (113 : Nat) ({ cls := "ConditionRows$Names", name := "has", desc := "(I)Z" } : Jvm.MethodName)) ∈ zWords := zmem 261 (by decide +kernel) (by decide +kernel)
theorem m_262 : (Jvm.Cond.instanceMethod ({ cls := "ConditionRows$Names", name := "has", desc := "(I)Z" } : Jvm.MethodName)) ∈ zWords := zmem 262 (by decide +kernel) (by decide +kernel)
theorem m_263 : (Jvm.Cond.selects "ConditionRows$Names" ({ cls := "ConditionRows$Names", name := "has", desc := "(I)Z" } : Jvm.MethodName) ({ cls := "ConditionRows$Names", name := "has", desc := "(I)Z" } : Jvm.MethodName)) ∈ zWords := zmem 263 (by decide +kernel) (by decide +kernel)
theorem m_4 : (Jvm.Cond.initialized "ConditionRows$Names") ∈ zWords := zmem 4 (by decide +kernel) (by decide +kernel)
theorem m_178 : (Jvm.Cond.fieldLink "ConditionRows" (33 : Nat) "ConditionRows" "nodes" "LConditionRows$Nodes;") ∈ zWords := zmem 178 (by decide +kernel) (by decide +kernel)
theorem m_100 : (Jvm.Cond.fieldLink "ConditionRows$Nodes" (21 : Nat) "ConditionRows$Nodes" "made" "I") ∈ zWords := zmem 100 (by decide +kernel) (by decide +kernel)
theorem m_268 : (Jvm.Cond.code ({ cls := "ConditionRows$Nodes", name := "has", desc := "(I)Z" } : Jvm.MethodName) prog_4_method_2_code (2 : Nat) (Option.some Jvm.ClassFile.FieldType.boolean)) ∈ zWords := zmem 268 (by decide +kernel) (by decide +kernel)
theorem m_265 : (Jvm.Cond.methodLink "ConditionRows" (151 : Nat) ({ cls := "ConditionRows$Nodes", name := "has", desc := "(I)Z" } : Jvm.MethodName)) ∈ zWords := zmem 265 (by decide +kernel) (by decide +kernel)
theorem m_266 : (Jvm.Cond.instanceMethod ({ cls := "ConditionRows$Nodes", name := "has", desc := "(I)Z" } : Jvm.MethodName)) ∈ zWords := zmem 266 (by decide +kernel) (by decide +kernel)
theorem m_267 : (Jvm.Cond.selects "ConditionRows$Nodes" ({ cls := "ConditionRows$Nodes", name := "has", desc := "(I)Z" } : Jvm.MethodName) ({ cls := "ConditionRows$Nodes", name := "has", desc := "(I)Z" } : Jvm.MethodName)) ∈ zWords := zmem 267 (by decide +kernel) (by decide +kernel)
theorem m_5 : (Jvm.Cond.initialized "ConditionRows$Nodes") ∈ zWords := zmem 5 (by decide +kernel) (by decide +kernel)
theorem m_260 : (Jvm.Cond.code ({ cls := "ConditionRows", name := "hasParts", desc := "(III)Z" } : Jvm.MethodName) prog_1_method_23_code (4 : Nat) (Option.some Jvm.ClassFile.FieldType.boolean)) ∈ zWords := zmem 260 (by decide +kernel) (by decide +kernel)
theorem m_257 : (Jvm.Cond.methodLink "ConditionRows" (100 : Nat) ({ cls := "ConditionRows", name := "hasParts", desc := "(III)Z" } : Jvm.MethodName)) ∈ zWords := zmem 257 (by decide +kernel) (by decide +kernel)
theorem m_259 : (Jvm.Cond.instanceMethod ({ cls := "ConditionRows", name := "hasParts", desc := "(III)Z" } : Jvm.MethodName)) ∈ zWords := zmem 259 (by decide +kernel) (by decide +kernel)
theorem mp_0 : (Jvm.Cond.selects "ConditionRows" ({ cls := "ConditionRows", name := "hasParts", desc := "(III)Z" } : Jvm.MethodName) ({ cls := "ConditionRows", name := "hasParts", desc := "(III)Z" } : Jvm.MethodName)) ∈ zWords := zmemP 0 (by decide +kernel) (by decide +kernel)
theorem m_94 : (Jvm.Cond.fieldLink "ConditionRows$Nodes" (9 : Nat) "ConditionRows$Nodes" "op" "[I") ∈ zWords := zmem 94 (by decide +kernel) (by decide +kernel)
theorem m_96 : (Jvm.Cond.fieldLink "ConditionRows$Nodes" (15 : Nat) "ConditionRows$Nodes" "a" "[I") ∈ zWords := zmem 96 (by decide +kernel) (by decide +kernel)
theorem m_98 : (Jvm.Cond.fieldLink "ConditionRows$Nodes" (18 : Nat) "ConditionRows$Nodes" "b" "[I") ∈ zWords := zmem 98 (by decide +kernel) (by decide +kernel)
theorem m_272 : (Jvm.Cond.code ({ cls := "ConditionRows$Nodes", name := "add", desc := "(III)I" } : Jvm.MethodName) prog_4_method_3_code (4 : Nat) (Option.some Jvm.ClassFile.FieldType.int)) ∈ zWords := zmem 272 (by decide +kernel) (by decide +kernel)
theorem m_269 : (Jvm.Cond.methodLink "ConditionRows" (103 : Nat) ({ cls := "ConditionRows$Nodes", name := "add", desc := "(III)I" } : Jvm.MethodName)) ∈ zWords := zmem 269 (by decide +kernel) (by decide +kernel)
theorem m_270 : (Jvm.Cond.instanceMethod ({ cls := "ConditionRows$Nodes", name := "add", desc := "(III)I" } : Jvm.MethodName)) ∈ zWords := zmem 270 (by decide +kernel) (by decide +kernel)
theorem m_271 : (Jvm.Cond.selects "ConditionRows$Nodes" ({ cls := "ConditionRows$Nodes", name := "add", desc := "(III)I" } : Jvm.MethodName) ({ cls := "ConditionRows$Nodes", name := "add", desc := "(III)I" } : Jvm.MethodName)) ∈ zWords := zmem 271 (by decide +kernel) (by decide +kernel)
theorem m_281 : (Jvm.Cond.methodLink "ConditionRows" (191 : Nat) ({ cls := "ConditionRows$Fields", name := "isText", desc := "(I)Z" } : Jvm.MethodName)) ∈ zWords := zmem 281 (by decide +kernel) (by decide +kernel)
theorem m_285 : (Jvm.Cond.constantLong "ConditionRows" (200 : Nat) (-9223372036854775808 : Int64)) ∈ zWords := zmem 285 (by decide +kernel) (by decide +kernel)
theorem m_284 : (Jvm.Cond.code ({ cls := "ConditionRows", name := "isBelowUnsigned", desc := "(JJ)Z" } : Jvm.MethodName) prog_1_method_25_code (4 : Nat) (Option.some Jvm.ClassFile.FieldType.boolean)) ∈ zWords := zmem 284 (by decide +kernel) (by decide +kernel)
theorem m_282 : (Jvm.Cond.methodLink "ConditionRows" (194 : Nat) ({ cls := "ConditionRows", name := "isBelowUnsigned", desc := "(JJ)Z" } : Jvm.MethodName)) ∈ zWords := zmem 282 (by decide +kernel) (by decide +kernel)
theorem m_283 : (Jvm.Cond.static ({ cls := "ConditionRows", name := "isBelowUnsigned", desc := "(JJ)Z" } : Jvm.MethodName)) ∈ zWords := zmem 283 (by decide +kernel) (by decide +kernel)
theorem m_280 : (Jvm.Cond.code ({ cls := "ConditionRows", name := "isAbove", desc := "(IJJ)Z" } : Jvm.MethodName) prog_1_method_24_code (6 : Nat) (Option.some Jvm.ClassFile.FieldType.boolean)) ∈ zWords := zmem 280 (by decide +kernel) (by decide +kernel)
theorem m_277 : (Jvm.Cond.methodLink "ConditionRows" (106 : Nat) ({ cls := "ConditionRows", name := "isAbove", desc := "(IJJ)Z" } : Jvm.MethodName)) ∈ zWords := zmem 277 (by decide +kernel) (by decide +kernel)
theorem m_279 : (Jvm.Cond.instanceMethod ({ cls := "ConditionRows", name := "isAbove", desc := "(IJJ)Z" } : Jvm.MethodName)) ∈ zWords := zmem 279 (by decide +kernel) (by decide +kernel)
theorem mp_1 : (Jvm.Cond.selects "ConditionRows" ({ cls := "ConditionRows", name := "isAbove", desc := "(IJJ)Z" } : Jvm.MethodName) ({ cls := "ConditionRows", name := "isAbove", desc := "(IJJ)Z" } : Jvm.MethodName)) ∈ zWords := zmemP 1 (by decide +kernel) (by decide +kernel)
theorem m_69 : (Jvm.Cond.fieldLink "ConditionRows$Names" (9 : Nat) "ConditionRows$Names" "field" "[I") ∈ zWords := zmem 69 (by decide +kernel) (by decide +kernel)
theorem m_71 : (Jvm.Cond.fieldLink "ConditionRows$Names" (15 : Nat) "ConditionRows$Names" "ranges" "[I") ∈ zWords := zmem 71 (by decide +kernel) (by decide +kernel)
theorem m_72 : (Jvm.Cond.fieldLink "ConditionRows$Names" (18 : Nat) "ConditionRows$Names" "low" "[J") ∈ zWords := zmem 72 (by decide +kernel) (by decide +kernel)
theorem m_73 : (Jvm.Cond.fieldLink "ConditionRows$Names" (22 : Nat) "ConditionRows$Names" "high" "[J") ∈ zWords := zmem 73 (by decide +kernel) (by decide +kernel)
theorem m_293 : (Jvm.Cond.code ({ cls := "ConditionRows$Names", name := "widen", desc := "(IJJ)I" } : Jvm.MethodName) prog_3_method_4_code (7 : Nat) (Option.some Jvm.ClassFile.FieldType.int)) ∈ zWords := zmem 293 (by decide +kernel) (by decide +kernel)
theorem m_290 : (Jvm.Cond.methodLink "ConditionRows$Names" (29 : Nat) ({ cls := "ConditionRows$Names", name := "widen", desc := "(IJJ)I" } : Jvm.MethodName)) ∈ zWords := zmem 290 (by decide +kernel) (by decide +kernel)
theorem m_291 : (Jvm.Cond.instanceMethod ({ cls := "ConditionRows$Names", name := "widen", desc := "(IJJ)I" } : Jvm.MethodName)) ∈ zWords := zmem 291 (by decide +kernel) (by decide +kernel)
theorem m_292 : (Jvm.Cond.selects "ConditionRows$Names" ({ cls := "ConditionRows$Names", name := "widen", desc := "(IJJ)I" } : Jvm.MethodName) ({ cls := "ConditionRows$Names", name := "widen", desc := "(IJJ)I" } : Jvm.MethodName)) ∈ zWords := zmem 292 (by decide +kernel) (by decide +kernel)
theorem m_289 : (Jvm.Cond.code ({ cls := "ConditionRows$Names", name := "add", desc := "(IJJ)I" } : Jvm.MethodName) prog_3_method_3_code (6 : Nat) (Option.some Jvm.ClassFile.FieldType.int)) ∈ zWords := zmem 289 (by decide +kernel) (by decide +kernel)
theorem m_286 : (Jvm.Cond.methodLink "ConditionRows" (110 : Nat) ({ cls := "ConditionRows$Names", name := "add", desc := "(IJJ)I" } : Jvm.MethodName)) ∈ zWords := zmem 286 (by decide +kernel) (by decide +kernel)
theorem m_287 : (Jvm.Cond.instanceMethod ({ cls := "ConditionRows$Names", name := "add", desc := "(IJJ)I" } : Jvm.MethodName)) ∈ zWords := zmem 287 (by decide +kernel) (by decide +kernel)
theorem m_288 : (Jvm.Cond.selects "ConditionRows$Names" ({ cls := "ConditionRows$Names", name := "add", desc := "(IJJ)I" } : Jvm.MethodName) ({ cls := "ConditionRows$Names", name := "add", desc := "(IJJ)I" } : Jvm.MethodName)) ∈ zWords := zmem 288 (by decide +kernel) (by decide +kernel)
theorem m_298 : (Jvm.Cond.methodLink "ConditionRows" (117 : Nat) ({ cls := "ConditionRows$Names", name := "widen", desc := "(IJJ)I" } : Jvm.MethodName)) ∈ zWords := zmem 298 (by decide +kernel) (by decide +kernel)
theorem m_305 : (Jvm.Cond.code ({ cls := "ConditionRows", name := "isRelation", desc := "(I)Z" } : Jvm.MethodName) prog_1_method_20_code (1 : Nat) (Option.some Jvm.ClassFile.FieldType.boolean)) ∈ zWords := zmem 305 (by decide +kernel) (by decide +kernel)
theorem m_303 : (Jvm.Cond.methodLink "ConditionRows" (120 : Nat) ({ cls := "ConditionRows", name := "isRelation", desc := "(I)Z" } : Jvm.MethodName)) ∈ zWords := zmem 303 (by decide +kernel) (by decide +kernel)
theorem m_304 : (Jvm.Cond.static ({ cls := "ConditionRows", name := "isRelation", desc := "(I)Z" } : Jvm.MethodName)) ∈ zWords := zmem 304 (by decide +kernel) (by decide +kernel)
theorem m_179 : (Jvm.Cond.fieldLink "ConditionRows" (40 : Nat) "ConditionRows" "row" "LConditionRows$Row;") ∈ zWords := zmem 179 (by decide +kernel) (by decide +kernel)
theorem m_129 : (Jvm.Cond.fieldLink "ConditionRows$Row" (25 : Nat) "ConditionRows$Row" "length" "I") ∈ zWords := zmem 129 (by decide +kernel) (by decide +kernel)
theorem m_125 : (Jvm.Cond.fieldLink "ConditionRows$Row" (29 : Nat) "ConditionRows$Row" "subject" "I") ∈ zWords := zmem 125 (by decide +kernel) (by decide +kernel)
theorem m_117 : (Jvm.Cond.fieldLink "ConditionRows$Row" (9 : Nat) "ConditionRows$Row" "with" "[I") ∈ zWords := zmem 117 (by decide +kernel) (by decide +kernel)
theorem m_119 : (Jvm.Cond.fieldLink "ConditionRows$Row" (15 : Nat) "ConditionRows$Row" "op" "[I") ∈ zWords := zmem 119 (by decide +kernel) (by decide +kernel)
theorem m_121 : (Jvm.Cond.fieldLink "ConditionRows$Row" (18 : Nat) "ConditionRows$Row" "negated" "[Z") ∈ zWords := zmem 121 (by decide +kernel) (by decide +kernel)
theorem m_123 : (Jvm.Cond.fieldLink "ConditionRows$Row" (22 : Nat) "ConditionRows$Row" "object" "[I") ∈ zWords := zmem 123 (by decide +kernel) (by decide +kernel)
theorem m_127 : (Jvm.Cond.fieldLink "ConditionRows$Row" (36 : Nat) "ConditionRows$Row" "carried" "I") ∈ zWords := zmem 127 (by decide +kernel) (by decide +kernel)
theorem m_313 : (Jvm.Cond.code ({ cls := "ConditionRows$Row", name := "append", desc := "(IIZI)V" } : Jvm.MethodName) prog_5_method_3_code (5 : Nat) (Option.none : Option Jvm.ClassFile.FieldType)) ∈ zWords := zmem 313 (by decide +kernel) (by decide +kernel)
theorem m_310 : (Jvm.Cond.methodLink "ConditionRows$Row" (32 : Nat) ({ cls := "ConditionRows$Row", name := "append", desc := "(IIZI)V" } : Jvm.MethodName)) ∈ zWords := zmem 310 (by decide +kernel) (by decide +kernel)
theorem m_311 : (Jvm.Cond.instanceMethod ({ cls := "ConditionRows$Row", name := "append", desc := "(IIZI)V" } : Jvm.MethodName)) ∈ zWords := zmem 311 (by decide +kernel) (by decide +kernel)
theorem m_312 : (Jvm.Cond.selects "ConditionRows$Row" ({ cls := "ConditionRows$Row", name := "append", desc := "(IIZI)V" } : Jvm.MethodName) ({ cls := "ConditionRows$Row", name := "append", desc := "(IIZI)V" } : Jvm.MethodName)) ∈ zWords := zmem 312 (by decide +kernel) (by decide +kernel)
theorem m_6 : (Jvm.Cond.initialized "ConditionRows$Row") ∈ zWords := zmem 6 (by decide +kernel) (by decide +kernel)
theorem m_309 : (Jvm.Cond.code ({ cls := "ConditionRows$Row", name := "begin", desc := "(III)V" } : Jvm.MethodName) prog_5_method_2_code (4 : Nat) (Option.none : Option Jvm.ClassFile.FieldType)) ∈ zWords := zmem 309 (by decide +kernel) (by decide +kernel)
theorem m_306 : (Jvm.Cond.methodLink "ConditionRows" (123 : Nat) ({ cls := "ConditionRows$Row", name := "begin", desc := "(III)V" } : Jvm.MethodName)) ∈ zWords := zmem 306 (by decide +kernel) (by decide +kernel)
theorem m_307 : (Jvm.Cond.instanceMethod ({ cls := "ConditionRows$Row", name := "begin", desc := "(III)V" } : Jvm.MethodName)) ∈ zWords := zmem 307 (by decide +kernel) (by decide +kernel)
theorem m_308 : (Jvm.Cond.selects "ConditionRows$Row" ({ cls := "ConditionRows$Row", name := "begin", desc := "(III)V" } : Jvm.MethodName) ({ cls := "ConditionRows$Row", name := "begin", desc := "(III)V" } : Jvm.MethodName)) ∈ zWords := zmem 308 (by decide +kernel) (by decide +kernel)
theorem m_318 : (Jvm.Cond.methodLink "ConditionRows" (134 : Nat) ({ cls := "ConditionRows$Row", name := "append", desc := "(IIZI)V" } : Jvm.MethodName)) ∈ zWords := zmem 318 (by decide +kernel) (by decide +kernel)
theorem m_321 : (Jvm.Cond.code ({ cls := "ConditionRows", name := "turned", desc := "(I)I" } : Jvm.MethodName) prog_1_method_21_code (1 : Nat) (Option.some Jvm.ClassFile.FieldType.int)) ∈ zWords := zmem 321 (by decide +kernel) (by decide +kernel)
theorem m_319 : (Jvm.Cond.methodLink "ConditionRows" (138 : Nat) ({ cls := "ConditionRows", name := "turned", desc := "(I)I" } : Jvm.MethodName)) ∈ zWords := zmem 319 (by decide +kernel) (by decide +kernel)
theorem m_320 : (Jvm.Cond.static ({ cls := "ConditionRows", name := "turned", desc := "(I)I" } : Jvm.MethodName)) ∈ zWords := zmem 320 (by decide +kernel) (by decide +kernel)
theorem m_329 : (Jvm.Cond.code ({ cls := "ConditionRows$Row", name := "nodesNeeded", desc := "()I" } : Jvm.MethodName) prog_5_method_4_code (3 : Nat) (Option.some Jvm.ClassFile.FieldType.int)) ∈ zWords := zmem 329 (by decide +kernel) (by decide +kernel)
theorem m_326 : (Jvm.Cond.methodLink "ConditionRows" (141 : Nat) ({ cls := "ConditionRows$Row", name := "nodesNeeded", desc := "()I" } : Jvm.MethodName)) ∈ zWords := zmem 326 (by decide +kernel) (by decide +kernel)
theorem m_327 : (Jvm.Cond.instanceMethod ({ cls := "ConditionRows$Row", name := "nodesNeeded", desc := "()I" } : Jvm.MethodName)) ∈ zWords := zmem 327 (by decide +kernel) (by decide +kernel)
theorem m_328 : (Jvm.Cond.selects "ConditionRows$Row" ({ cls := "ConditionRows$Row", name := "nodesNeeded", desc := "()I" } : Jvm.MethodName) ({ cls := "ConditionRows$Row", name := "nodesNeeded", desc := "()I" } : Jvm.MethodName)) ∈ zWords := zmem 328 (by decide +kernel) (by decide +kernel)
theorem m_337 : (Jvm.Cond.code ({ cls := "ConditionRows", name := "joined", desc := "(III)I" } : Jvm.MethodName) prog_1_method_29_code (4 : Nat) (Option.some Jvm.ClassFile.FieldType.int)) ∈ zWords := zmem 337 (by decide +kernel) (by decide +kernel)
theorem m_334 : (Jvm.Cond.methodLink "ConditionRows" (205 : Nat) ({ cls := "ConditionRows", name := "joined", desc := "(III)I" } : Jvm.MethodName)) ∈ zWords := zmem 334 (by decide +kernel) (by decide +kernel)
theorem m_336 : (Jvm.Cond.instanceMethod ({ cls := "ConditionRows", name := "joined", desc := "(III)I" } : Jvm.MethodName)) ∈ zWords := zmem 336 (by decide +kernel) (by decide +kernel)
theorem mp_3 : (Jvm.Cond.selects "ConditionRows" ({ cls := "ConditionRows", name := "joined", desc := "(III)I" } : Jvm.MethodName) ({ cls := "ConditionRows", name := "joined", desc := "(III)I" } : Jvm.MethodName)) ∈ zWords := zmemP 3 (by decide +kernel) (by decide +kernel)
theorem m_341 : (Jvm.Cond.code ({ cls := "ConditionRows", name := "relationNode", desc := "(I)I" } : Jvm.MethodName) prog_1_method_28_code (3 : Nat) (Option.some Jvm.ClassFile.FieldType.int)) ∈ zWords := zmem 341 (by decide +kernel) (by decide +kernel)
theorem m_338 : (Jvm.Cond.methodLink "ConditionRows" (208 : Nat) ({ cls := "ConditionRows", name := "relationNode", desc := "(I)I" } : Jvm.MethodName)) ∈ zWords := zmem 338 (by decide +kernel) (by decide +kernel)
theorem m_340 : (Jvm.Cond.instanceMethod ({ cls := "ConditionRows", name := "relationNode", desc := "(I)I" } : Jvm.MethodName)) ∈ zWords := zmem 340 (by decide +kernel) (by decide +kernel)
theorem mp_4 : (Jvm.Cond.selects "ConditionRows" ({ cls := "ConditionRows", name := "relationNode", desc := "(I)I" } : Jvm.MethodName) ({ cls := "ConditionRows", name := "relationNode", desc := "(I)I" } : Jvm.MethodName)) ∈ zWords := zmemP 4 (by decide +kernel) (by decide +kernel)
theorem m_333 : (Jvm.Cond.code ({ cls := "ConditionRows", name := "unfoldRow", desc := "()I" } : Jvm.MethodName) prog_1_method_27_code (4 : Nat) (Option.some Jvm.ClassFile.FieldType.int)) ∈ zWords := zmem 333 (by decide +kernel) (by decide +kernel)
theorem m_330 : (Jvm.Cond.methodLink "ConditionRows" (148 : Nat) ({ cls := "ConditionRows", name := "unfoldRow", desc := "()I" } : Jvm.MethodName)) ∈ zWords := zmem 330 (by decide +kernel) (by decide +kernel)
theorem m_332 : (Jvm.Cond.instanceMethod ({ cls := "ConditionRows", name := "unfoldRow", desc := "()I" } : Jvm.MethodName)) ∈ zWords := zmem 332 (by decide +kernel) (by decide +kernel)
theorem mp_2 : (Jvm.Cond.selects "ConditionRows" ({ cls := "ConditionRows", name := "unfoldRow", desc := "()I" } : Jvm.MethodName) ({ cls := "ConditionRows", name := "unfoldRow", desc := "()I" } : Jvm.MethodName)) ∈ zWords := zmemP 2 (by decide +kernel) (by decide +kernel)
theorem m_180 : (Jvm.Cond.fieldLink "ConditionRows" (47 : Nat) "ConditionRows" "testing" "LConditionRows$Testing;") ∈ zWords := zmem 180 (by decide +kernel) (by decide +kernel)
theorem m_159 : (Jvm.Cond.fieldLink "ConditionRows$Testing" (21 : Nat) "ConditionRows$Testing" "noted" "I") ∈ zWords := zmem 159 (by decide +kernel) (by decide +kernel)
theorem m_161 : (Jvm.Cond.fieldLink "ConditionRows$Testing" (25 : Nat) "ConditionRows$Testing" "depth" "I") ∈ zWords := zmem 161 (by decide +kernel) (by decide +kernel)
theorem m_153 : (Jvm.Cond.fieldLink "ConditionRows$Testing" (9 : Nat) "ConditionRows$Testing" "outcome" "[I") ∈ zWords := zmem 153 (by decide +kernel) (by decide +kernel)
theorem m_444 : (Jvm.Cond.code ({ cls := "ConditionRows$Testing", name := "begin", desc := "()V" } : Jvm.MethodName) prog_6_method_2_code (2 : Nat) (Option.none : Option Jvm.ClassFile.FieldType)) ∈ zWords := zmem 444 (by decide +kernel) (by decide +kernel)
theorem m_441 : (Jvm.Cond.methodLink "ConditionRows" (223 : Nat) ({ cls := "ConditionRows$Testing", name := "begin", desc := "()V" } : Jvm.MethodName)) ∈ zWords := zmem 441 (by decide +kernel) (by decide +kernel)
theorem m_442 : (Jvm.Cond.instanceMethod ({ cls := "ConditionRows$Testing", name := "begin", desc := "()V" } : Jvm.MethodName)) ∈ zWords := zmem 442 (by decide +kernel) (by decide +kernel)
theorem m_443 : (Jvm.Cond.selects "ConditionRows$Testing" ({ cls := "ConditionRows$Testing", name := "begin", desc := "()V" } : Jvm.MethodName) ({ cls := "ConditionRows$Testing", name := "begin", desc := "()V" } : Jvm.MethodName)) ∈ zWords := zmem 443 (by decide +kernel) (by decide +kernel)
theorem m_7 : (Jvm.Cond.initialized "ConditionRows$Testing") ∈ zWords := zmem 7 (by decide +kernel) (by decide +kernel)
theorem m_157 : (Jvm.Cond.fieldLink "ConditionRows$Testing" (18 : Nat) "ConditionRows$Testing" "waiting" "[I") ∈ zWords := zmem 157 (by decide +kernel) (by decide +kernel)
theorem m_448 : (Jvm.Cond.code ({ cls := "ConditionRows$Testing", name := "open", desc := "(I)V" } : Jvm.MethodName) prog_6_method_3_code (2 : Nat) (Option.none : Option Jvm.ClassFile.FieldType)) ∈ zWords := zmem 448 (by decide +kernel) (by decide +kernel)
theorem m_445 : (Jvm.Cond.methodLink "ConditionRows" (225 : Nat) ({ cls := "ConditionRows$Testing", name := "open", desc := "(I)V" } : Jvm.MethodName)) ∈ zWords := zmem 445 (by decide +kernel) (by decide +kernel)
theorem m_446 : (Jvm.Cond.instanceMethod ({ cls := "ConditionRows$Testing", name := "open", desc := "(I)V" } : Jvm.MethodName)) ∈ zWords := zmem 446 (by decide +kernel) (by decide +kernel)
theorem m_447 : (Jvm.Cond.selects "ConditionRows$Testing" ({ cls := "ConditionRows$Testing", name := "open", desc := "(I)V" } : Jvm.MethodName) ({ cls := "ConditionRows$Testing", name := "open", desc := "(I)V" } : Jvm.MethodName)) ∈ zWords := zmem 447 (by decide +kernel) (by decide +kernel)
theorem m_174 : (Jvm.Cond.fieldLink "ConditionRows" (62 : Nat) "ConditionRows" "whole" "Z") ∈ zWords := zmem 174 (by decide +kernel) (by decide +kernel)
theorem m_455 : (Jvm.Cond.code ({ cls := "ConditionRows", name := "settledBy", desc := "(I)I" } : Jvm.MethodName) prog_1_method_32_code (1 : Nat) (Option.some Jvm.ClassFile.FieldType.int)) ∈ zWords := zmem 455 (by decide +kernel) (by decide +kernel)
theorem m_453 : (Jvm.Cond.methodLink "ConditionRows" (257 : Nat) ({ cls := "ConditionRows", name := "settledBy", desc := "(I)I" } : Jvm.MethodName)) ∈ zWords := zmem 453 (by decide +kernel) (by decide +kernel)
theorem m_454 : (Jvm.Cond.static ({ cls := "ConditionRows", name := "settledBy", desc := "(I)I" } : Jvm.MethodName)) ∈ zWords := zmem 454 (by decide +kernel) (by decide +kernel)
theorem m_452 : (Jvm.Cond.code ({ cls := "ConditionRows", name := "partToTest", desc := "(I)I" } : Jvm.MethodName) prog_1_method_31_code (4 : Nat) (Option.some Jvm.ClassFile.FieldType.int)) ∈ zWords := zmem 452 (by decide +kernel) (by decide +kernel)
theorem m_449 : (Jvm.Cond.methodLink "ConditionRows" (235 : Nat) ({ cls := "ConditionRows", name := "partToTest", desc := "(I)I" } : Jvm.MethodName)) ∈ zWords := zmem 449 (by decide +kernel) (by decide +kernel)
theorem m_451 : (Jvm.Cond.instanceMethod ({ cls := "ConditionRows", name := "partToTest", desc := "(I)I" } : Jvm.MethodName)) ∈ zWords := zmem 451 (by decide +kernel) (by decide +kernel)
theorem mp_8 : (Jvm.Cond.selects "ConditionRows" ({ cls := "ConditionRows", name := "partToTest", desc := "(I)I" } : Jvm.MethodName) ({ cls := "ConditionRows", name := "partToTest", desc := "(I)I" } : Jvm.MethodName)) ∈ zWords := zmemP 8 (by decide +kernel) (by decide +kernel)
theorem m_480 : (Jvm.Cond.code ({ cls := "ConditionRows", name := "asOutcome", desc := "(Z)I" } : Jvm.MethodName) prog_1_method_35_code (1 : Nat) (Option.some Jvm.ClassFile.FieldType.int)) ∈ zWords := zmem 480 (by decide +kernel) (by decide +kernel)
theorem m_478 : (Jvm.Cond.methodLink "ConditionRows" (260 : Nat) ({ cls := "ConditionRows", name := "asOutcome", desc := "(Z)I" } : Jvm.MethodName)) ∈ zWords := zmem 478 (by decide +kernel) (by decide +kernel)
theorem m_479 : (Jvm.Cond.static ({ cls := "ConditionRows", name := "asOutcome", desc := "(Z)I" } : Jvm.MethodName)) ∈ zWords := zmem 479 (by decide +kernel) (by decide +kernel)
theorem m_561 : (Jvm.Cond.code ({ cls := "ConditionRows", name := "joinedOutcome", desc := "(I)I" } : Jvm.MethodName) prog_1_method_33_code (4 : Nat) (Option.some Jvm.ClassFile.FieldType.int)) ∈ zWords := zmem 561 (by decide +kernel) (by decide +kernel)
theorem m_558 : (Jvm.Cond.methodLink "ConditionRows" (242 : Nat) ({ cls := "ConditionRows", name := "joinedOutcome", desc := "(I)I" } : Jvm.MethodName)) ∈ zWords := zmem 558 (by decide +kernel) (by decide +kernel)
theorem m_560 : (Jvm.Cond.instanceMethod ({ cls := "ConditionRows", name := "joinedOutcome", desc := "(I)I" } : Jvm.MethodName)) ∈ zWords := zmem 560 (by decide +kernel) (by decide +kernel)
theorem mp_16 : (Jvm.Cond.selects "ConditionRows" ({ cls := "ConditionRows", name := "joinedOutcome", desc := "(I)I" } : Jvm.MethodName) ({ cls := "ConditionRows", name := "joinedOutcome", desc := "(I)I" } : Jvm.MethodName)) ∈ zWords := zmemP 16 (by decide +kernel) (by decide +kernel)
theorem m_565 : (Jvm.Cond.code ({ cls := "ConditionRows$Testing", name := "close", desc := "(I)V" } : Jvm.MethodName) prog_6_method_4_code (2 : Nat) (Option.none : Option Jvm.ClassFile.FieldType)) ∈ zWords := zmem 565 (by decide +kernel) (by decide +kernel)
theorem m_562 : (Jvm.Cond.methodLink "ConditionRows" (245 : Nat) ({ cls := "ConditionRows$Testing", name := "close", desc := "(I)V" } : Jvm.MethodName)) ∈ zWords := zmem 562 (by decide +kernel) (by decide +kernel)
theorem m_563 : (Jvm.Cond.instanceMethod ({ cls := "ConditionRows$Testing", name := "close", desc := "(I)V" } : Jvm.MethodName)) ∈ zWords := zmem 563 (by decide +kernel) (by decide +kernel)
theorem m_564 : (Jvm.Cond.selects "ConditionRows$Testing" ({ cls := "ConditionRows$Testing", name := "close", desc := "(I)V" } : Jvm.MethodName) ({ cls := "ConditionRows$Testing", name := "close", desc := "(I)V" } : Jvm.MethodName)) ∈ zWords := zmem 564 (by decide +kernel) (by decide +kernel)
theorem m_155 : (Jvm.Cond.fieldLink "ConditionRows$Testing" (15 : Nat) "ConditionRows$Testing" "leaves" "[I") ∈ zWords := zmem 155 (by decide +kernel) (by decide +kernel)
theorem m_463 : (Jvm.Cond.code ({ cls := "ConditionRows$Testing", name := "note", desc := "(I)V" } : Jvm.MethodName) prog_6_method_5_code (2 : Nat) (Option.none : Option Jvm.ClassFile.FieldType)) ∈ zWords := zmem 463 (by decide +kernel) (by decide +kernel)
theorem m_460 : (Jvm.Cond.methodLink "ConditionRows" (264 : Nat) ({ cls := "ConditionRows$Testing", name := "note", desc := "(I)V" } : Jvm.MethodName)) ∈ zWords := zmem 460 (by decide +kernel) (by decide +kernel)
theorem m_461 : (Jvm.Cond.instanceMethod ({ cls := "ConditionRows$Testing", name := "note", desc := "(I)V" } : Jvm.MethodName)) ∈ zWords := zmem 461 (by decide +kernel) (by decide +kernel)
theorem m_462 : (Jvm.Cond.selects "ConditionRows$Testing" ({ cls := "ConditionRows$Testing", name := "note", desc := "(I)V" } : Jvm.MethodName) ({ cls := "ConditionRows$Testing", name := "note", desc := "(I)V" } : Jvm.MethodName)) ∈ zWords := zmem 462 (by decide +kernel) (by decide +kernel)
theorem m_474 : (Jvm.Cond.code ({ cls := "ConditionRows$Fields", name := "isDigit", desc := "(I)Z" } : Jvm.MethodName) prog_2_method_7_code (1 : Nat) (Option.some Jvm.ClassFile.FieldType.boolean)) ∈ zWords := zmem 474 (by decide +kernel) (by decide +kernel)
theorem m_472 : (Jvm.Cond.methodLink "ConditionRows$Fields" (39 : Nat) ({ cls := "ConditionRows$Fields", name := "isDigit", desc := "(I)Z" } : Jvm.MethodName)) ∈ zWords := zmem 472 (by decide +kernel) (by decide +kernel)
theorem m_473 : (Jvm.Cond.static ({ cls := "ConditionRows$Fields", name := "isDigit", desc := "(I)Z" } : Jvm.MethodName)) ∈ zWords := zmem 473 (by decide +kernel) (by decide +kernel)
theorem m_471 : (Jvm.Cond.code ({ cls := "ConditionRows$Fields", name := "isBad", desc := "(I)Z" } : Jvm.MethodName) prog_2_method_8_code (4 : Nat) (Option.some Jvm.ClassFile.FieldType.boolean)) ∈ zWords := zmem 471 (by decide +kernel) (by decide +kernel)
theorem m_468 : (Jvm.Cond.methodLink "ConditionRows$Fields" (42 : Nat) ({ cls := "ConditionRows$Fields", name := "isBad", desc := "(I)Z" } : Jvm.MethodName)) ∈ zWords := zmem 468 (by decide +kernel) (by decide +kernel)
theorem m_469 : (Jvm.Cond.instanceMethod ({ cls := "ConditionRows$Fields", name := "isBad", desc := "(I)Z" } : Jvm.MethodName)) ∈ zWords := zmem 469 (by decide +kernel) (by decide +kernel)
theorem m_470 : (Jvm.Cond.selects "ConditionRows$Fields" ({ cls := "ConditionRows$Fields", name := "isBad", desc := "(I)Z" } : Jvm.MethodName) ({ cls := "ConditionRows$Fields", name := "isBad", desc := "(I)Z" } : Jvm.MethodName)) ∈ zWords := zmem 470 (by decide +kernel) (by decide +kernel)
theorem m_477 : (Jvm.Cond.code ({ cls := "ConditionRows$Fields", name := "fits", desc := "(II)Z" } : Jvm.MethodName) prog_2_method_10_code (4 : Nat) (Option.some Jvm.ClassFile.FieldType.boolean)) ∈ zWords := zmem 477 (by decide +kernel) (by decide +kernel)
theorem m_475 : (Jvm.Cond.methodLink "ConditionRows$Fields" (45 : Nat) ({ cls := "ConditionRows$Fields", name := "fits", desc := "(II)Z" } : Jvm.MethodName)) ∈ zWords := zmem 475 (by decide +kernel) (by decide +kernel)
theorem m_476 : (Jvm.Cond.static ({ cls := "ConditionRows$Fields", name := "fits", desc := "(II)Z" } : Jvm.MethodName)) ∈ zWords := zmem 476 (by decide +kernel) (by decide +kernel)
theorem m_467 : (Jvm.Cond.code ({ cls := "ConditionRows$Fields", name := "isOfClass", desc := "(II)Z" } : Jvm.MethodName) prog_2_method_9_code (5 : Nat) (Option.some Jvm.ClassFile.FieldType.boolean)) ∈ zWords := zmem 467 (by decide +kernel) (by decide +kernel)
theorem m_464 : (Jvm.Cond.methodLink "ConditionRows" (267 : Nat) ({ cls := "ConditionRows$Fields", name := "isOfClass", desc := "(II)Z" } : Jvm.MethodName)) ∈ zWords := zmem 464 (by decide +kernel) (by decide +kernel)
theorem m_465 : (Jvm.Cond.instanceMethod ({ cls := "ConditionRows$Fields", name := "isOfClass", desc := "(II)Z" } : Jvm.MethodName)) ∈ zWords := zmem 465 (by decide +kernel) (by decide +kernel)
theorem m_466 : (Jvm.Cond.selects "ConditionRows$Fields" ({ cls := "ConditionRows$Fields", name := "isOfClass", desc := "(II)Z" } : Jvm.MethodName) ({ cls := "ConditionRows$Fields", name := "isOfClass", desc := "(II)Z" } : Jvm.MethodName)) ∈ zWords := zmem 466 (by decide +kernel) (by decide +kernel)
theorem m_481 : (Jvm.Cond.methodLink "ConditionRows" (178 : Nat) ({ cls := "ConditionRows$Fields", name := "isBad", desc := "(I)Z" } : Jvm.MethodName)) ∈ zWords := zmem 481 (by decide +kernel) (by decide +kernel)
theorem m_495 : (Jvm.Cond.constantLong "ConditionRows$Fields" (58 : Nat) (-1 : Int64)) ∈ zWords := zmem 495 (by decide +kernel) (by decide +kernel)
theorem m_494 : (Jvm.Cond.code ({ cls := "ConditionRows$Fields", name := "binaryValue", desc := "(I)J" } : Jvm.MethodName) prog_2_method_13_code (6 : Nat) (Option.some Jvm.ClassFile.FieldType.long)) ∈ zWords := zmem 494 (by decide +kernel) (by decide +kernel)
theorem m_491 : (Jvm.Cond.methodLink "ConditionRows$Fields" (53 : Nat) ({ cls := "ConditionRows$Fields", name := "binaryValue", desc := "(I)J" } : Jvm.MethodName)) ∈ zWords := zmem 491 (by decide +kernel) (by decide +kernel)
theorem m_493 : (Jvm.Cond.instanceMethod ({ cls := "ConditionRows$Fields", name := "binaryValue", desc := "(I)J" } : Jvm.MethodName)) ∈ zWords := zmem 493 (by decide +kernel) (by decide +kernel)
theorem mp_11 : (Jvm.Cond.selects "ConditionRows$Fields" ({ cls := "ConditionRows$Fields", name := "binaryValue", desc := "(I)J" } : Jvm.MethodName) ({ cls := "ConditionRows$Fields", name := "binaryValue", desc := "(I)J" } : Jvm.MethodName)) ∈ zWords := zmemP 11 (by decide +kernel) (by decide +kernel)
theorem m_490 : (Jvm.Cond.constantLong "ConditionRows$Fields" (56 : Nat) (10 : Int64)) ∈ zWords := zmem 490 (by decide +kernel) (by decide +kernel)
theorem m_489 : (Jvm.Cond.code ({ cls := "ConditionRows$Fields", name := "digitsValue", desc := "(I)J" } : Jvm.MethodName) prog_2_method_12_code (6 : Nat) (Option.some Jvm.ClassFile.FieldType.long)) ∈ zWords := zmem 489 (by decide +kernel) (by decide +kernel)
theorem m_486 : (Jvm.Cond.methodLink "ConditionRows$Fields" (49 : Nat) ({ cls := "ConditionRows$Fields", name := "digitsValue", desc := "(I)J" } : Jvm.MethodName)) ∈ zWords := zmem 486 (by decide +kernel) (by decide +kernel)
theorem m_488 : (Jvm.Cond.instanceMethod ({ cls := "ConditionRows$Fields", name := "digitsValue", desc := "(I)J" } : Jvm.MethodName)) ∈ zWords := zmem 488 (by decide +kernel) (by decide +kernel)
theorem mp_10 : (Jvm.Cond.selects "ConditionRows$Fields" ({ cls := "ConditionRows$Fields", name := "digitsValue", desc := "(I)J" } : Jvm.MethodName) ({ cls := "ConditionRows$Fields", name := "digitsValue", desc := "(I)J" } : Jvm.MethodName)) ∈ zWords := zmemP 10 (by decide +kernel) (by decide +kernel)
theorem m_485 : (Jvm.Cond.code ({ cls := "ConditionRows$Fields", name := "value", desc := "(I)J" } : Jvm.MethodName) prog_2_method_11_code (2 : Nat) (Option.some Jvm.ClassFile.FieldType.long)) ∈ zWords := zmem 485 (by decide +kernel) (by decide +kernel)
theorem m_482 : (Jvm.Cond.methodLink "ConditionRows" (271 : Nat) ({ cls := "ConditionRows$Fields", name := "value", desc := "(I)J" } : Jvm.MethodName)) ∈ zWords := zmem 482 (by decide +kernel) (by decide +kernel)
theorem m_483 : (Jvm.Cond.instanceMethod ({ cls := "ConditionRows$Fields", name := "value", desc := "(I)J" } : Jvm.MethodName)) ∈ zWords := zmem 483 (by decide +kernel) (by decide +kernel)
theorem m_484 : (Jvm.Cond.selects "ConditionRows$Fields" ({ cls := "ConditionRows$Fields", name := "value", desc := "(I)J" } : Jvm.MethodName) ({ cls := "ConditionRows$Fields", name := "value", desc := "(I)J" } : Jvm.MethodName)) ∈ zWords := zmem 484 (by decide +kernel) (by decide +kernel)
theorem m_498 : (Jvm.Cond.code ({ cls := "java/lang/Long", name := "compare", desc := "(JJ)I" } : Jvm.MethodName) prog_14_method_42_code (4 : Nat) (Option.some Jvm.ClassFile.FieldType.int)) ∈ zWords := zmem 498 (by decide +kernel) (by decide +kernel)
theorem m_496 : (Jvm.Cond.methodLink "ConditionRows" (275 : Nat) ({ cls := "java/lang/Long", name := "compare", desc := "(JJ)I" } : Jvm.MethodName)) ∈ zWords := zmem 496 (by decide +kernel) (by decide +kernel)
theorem m_497 : (Jvm.Cond.static ({ cls := "java/lang/Long", name := "compare", desc := "(JJ)I" } : Jvm.MethodName)) ∈ zWords := zmem 497 (by decide +kernel) (by decide +kernel)
theorem m_13 : (Jvm.Cond.initialized "java/lang/Long") ∈ zWords := zmem 13 (by decide +kernel) (by decide +kernel)
theorem m_515 : (Jvm.Cond.code ({ cls := "ConditionRows$Names", name := "hasSigned", desc := "(IJ)Z" } : Jvm.MethodName) prog_3_method_5_code (6 : Nat) (Option.some Jvm.ClassFile.FieldType.boolean)) ∈ zWords := zmem 515 (by decide +kernel) (by decide +kernel)
theorem m_512 : (Jvm.Cond.methodLink "ConditionRows" (292 : Nat) ({ cls := "ConditionRows$Names", name := "hasSigned", desc := "(IJ)Z" } : Jvm.MethodName)) ∈ zWords := zmem 512 (by decide +kernel) (by decide +kernel)
theorem m_513 : (Jvm.Cond.instanceMethod ({ cls := "ConditionRows$Names", name := "hasSigned", desc := "(IJ)Z" } : Jvm.MethodName)) ∈ zWords := zmem 513 (by decide +kernel) (by decide +kernel)
theorem m_514 : (Jvm.Cond.selects "ConditionRows$Names" ({ cls := "ConditionRows$Names", name := "hasSigned", desc := "(IJ)Z" } : Jvm.MethodName) ({ cls := "ConditionRows$Names", name := "hasSigned", desc := "(IJ)Z" } : Jvm.MethodName)) ∈ zWords := zmem 514 (by decide +kernel) (by decide +kernel)
theorem m_506 : (Jvm.Cond.code ({ cls := "ConditionRows$Fields", name := "firstBytes", desc := "(I)J" } : Jvm.MethodName) prog_2_method_14_code (6 : Nat) (Option.some Jvm.ClassFile.FieldType.long)) ∈ zWords := zmem 506 (by decide +kernel) (by decide +kernel)
theorem m_503 : (Jvm.Cond.methodLink "ConditionRows" (285 : Nat) ({ cls := "ConditionRows$Fields", name := "firstBytes", desc := "(I)J" } : Jvm.MethodName)) ∈ zWords := zmem 503 (by decide +kernel) (by decide +kernel)
theorem m_504 : (Jvm.Cond.instanceMethod ({ cls := "ConditionRows$Fields", name := "firstBytes", desc := "(I)J" } : Jvm.MethodName)) ∈ zWords := zmem 504 (by decide +kernel) (by decide +kernel)
theorem m_505 : (Jvm.Cond.selects "ConditionRows$Fields" ({ cls := "ConditionRows$Fields", name := "firstBytes", desc := "(I)J" } : Jvm.MethodName) ({ cls := "ConditionRows$Fields", name := "firstBytes", desc := "(I)J" } : Jvm.MethodName)) ∈ zWords := zmem 505 (by decide +kernel) (by decide +kernel)
theorem m_510 : (Jvm.Cond.code ({ cls := "ConditionRows$Names", name := "hasUnsigned", desc := "(IJ)Z" } : Jvm.MethodName) prog_3_method_6_code (6 : Nat) (Option.some Jvm.ClassFile.FieldType.boolean)) ∈ zWords := zmem 510 (by decide +kernel) (by decide +kernel)
theorem m_507 : (Jvm.Cond.methodLink "ConditionRows" (288 : Nat) ({ cls := "ConditionRows$Names", name := "hasUnsigned", desc := "(IJ)Z" } : Jvm.MethodName)) ∈ zWords := zmem 507 (by decide +kernel) (by decide +kernel)
theorem m_508 : (Jvm.Cond.instanceMethod ({ cls := "ConditionRows$Names", name := "hasUnsigned", desc := "(IJ)Z" } : Jvm.MethodName)) ∈ zWords := zmem 508 (by decide +kernel) (by decide +kernel)
theorem m_509 : (Jvm.Cond.selects "ConditionRows$Names" ({ cls := "ConditionRows$Names", name := "hasUnsigned", desc := "(IJ)Z" } : Jvm.MethodName) ({ cls := "ConditionRows$Names", name := "hasUnsigned", desc := "(IJ)Z" } : Jvm.MethodName)) ∈ zWords := zmem 509 (by decide +kernel) (by decide +kernel)
theorem m_502 : (Jvm.Cond.code ({ cls := "ConditionRows", name := "holds", desc := "(I)Z" } : Jvm.MethodName) prog_1_method_37_code (3 : Nat) (Option.some Jvm.ClassFile.FieldType.boolean)) ∈ zWords := zmem 502 (by decide +kernel) (by decide +kernel)
theorem m_499 : (Jvm.Cond.methodLink "ConditionRows" (279 : Nat) ({ cls := "ConditionRows", name := "holds", desc := "(I)Z" } : Jvm.MethodName)) ∈ zWords := zmem 499 (by decide +kernel) (by decide +kernel)
theorem m_501 : (Jvm.Cond.instanceMethod ({ cls := "ConditionRows", name := "holds", desc := "(I)Z" } : Jvm.MethodName)) ∈ zWords := zmem 501 (by decide +kernel) (by decide +kernel)
theorem mp_12 : (Jvm.Cond.selects "ConditionRows" ({ cls := "ConditionRows", name := "holds", desc := "(I)Z" } : Jvm.MethodName) ({ cls := "ConditionRows", name := "holds", desc := "(I)Z" } : Jvm.MethodName)) ∈ zWords := zmemP 12 (by decide +kernel) (by decide +kernel)
theorem m_181 : (Jvm.Cond.fieldLink "ConditionRows" (51 : Nat) "ConditionRows" "switches" "[Z") ∈ zWords := zmem 181 (by decide +kernel) (by decide +kernel)
theorem m_34 : (Jvm.Cond.fieldLink "ConditionRows$Fields" (18 : Nat) "ConditionRows$Fields" "scale" "[I") ∈ zWords := zmem 34 (by decide +kernel) (by decide +kernel)
theorem m_528 : (Jvm.Cond.methodLink "ConditionRows$Fields" (60 : Nat) ({ cls := "ConditionRows$Fields", name := "value", desc := "(I)J" } : Jvm.MethodName)) ∈ zWords := zmem 528 (by decide +kernel) (by decide +kernel)
theorem m_536 : (Jvm.Cond.code ({ cls := "java/lang/Math", name := "floorDiv", desc := "(JJ)J" } : Jvm.MethodName) prog_15_method_49_code (6 : Nat) (Option.some Jvm.ClassFile.FieldType.long)) ∈ zWords := zmem 536 (by decide +kernel) (by decide +kernel)
theorem m_534 : (Jvm.Cond.methodLink "ConditionRows$Fields" (71 : Nat) ({ cls := "java/lang/Math", name := "floorDiv", desc := "(JJ)J" } : Jvm.MethodName)) ∈ zWords := zmem 534 (by decide +kernel) (by decide +kernel)
theorem m_535 : (Jvm.Cond.static ({ cls := "java/lang/Math", name := "floorDiv", desc := "(JJ)J" } : Jvm.MethodName)) ∈ zWords := zmem 535 (by decide +kernel) (by decide +kernel)
theorem m_14 : (Jvm.Cond.initialized "java/lang/Math") ∈ zWords := zmem 14 (by decide +kernel) (by decide +kernel)
theorem m_539 : (Jvm.Cond.code ({ cls := "java/lang/Math", name := "floorMod", desc := "(JJ)J" } : Jvm.MethodName) prog_15_method_52_code (6 : Nat) (Option.some Jvm.ClassFile.FieldType.long)) ∈ zWords := zmem 539 (by decide +kernel) (by decide +kernel)
theorem m_537 : (Jvm.Cond.methodLink "ConditionRows$Fields" (77 : Nat) ({ cls := "java/lang/Math", name := "floorMod", desc := "(JJ)J" } : Jvm.MethodName)) ∈ zWords := zmem 537 (by decide +kernel) (by decide +kernel)
theorem m_538 : (Jvm.Cond.static ({ cls := "java/lang/Math", name := "floorMod", desc := "(JJ)J" } : Jvm.MethodName)) ∈ zWords := zmem 538 (by decide +kernel) (by decide +kernel)
theorem m_531 : (Jvm.Cond.code ({ cls := "ConditionRows$Fields", name := "compareScaled", desc := "(JJI)I" } : Jvm.MethodName) prog_2_method_16_code (9 : Nat) (Option.some Jvm.ClassFile.FieldType.int)) ∈ zWords := zmem 531 (by decide +kernel) (by decide +kernel)
theorem m_529 : (Jvm.Cond.methodLink "ConditionRows$Fields" (63 : Nat) ({ cls := "ConditionRows$Fields", name := "compareScaled", desc := "(JJI)I" } : Jvm.MethodName)) ∈ zWords := zmem 529 (by decide +kernel) (by decide +kernel)
theorem m_530 : (Jvm.Cond.static ({ cls := "ConditionRows$Fields", name := "compareScaled", desc := "(JJI)I" } : Jvm.MethodName)) ∈ zWords := zmem 530 (by decide +kernel) (by decide +kernel)
theorem m_527 : (Jvm.Cond.code ({ cls := "ConditionRows$Fields", name := "compareNumbers", desc := "(II)I" } : Jvm.MethodName) prog_2_method_15_code (4 : Nat) (Option.some Jvm.ClassFile.FieldType.int)) ∈ zWords := zmem 527 (by decide +kernel) (by decide +kernel)
theorem m_524 : (Jvm.Cond.methodLink "ConditionRows" (295 : Nat) ({ cls := "ConditionRows$Fields", name := "compareNumbers", desc := "(II)I" } : Jvm.MethodName)) ∈ zWords := zmem 524 (by decide +kernel) (by decide +kernel)
theorem m_525 : (Jvm.Cond.instanceMethod ({ cls := "ConditionRows$Fields", name := "compareNumbers", desc := "(II)I" } : Jvm.MethodName)) ∈ zWords := zmem 525 (by decide +kernel) (by decide +kernel)
theorem m_526 : (Jvm.Cond.selects "ConditionRows$Fields" ({ cls := "ConditionRows$Fields", name := "compareNumbers", desc := "(II)I" } : Jvm.MethodName) ({ cls := "ConditionRows$Fields", name := "compareNumbers", desc := "(II)I" } : Jvm.MethodName)) ∈ zWords := zmem 526 (by decide +kernel) (by decide +kernel)
theorem m_182 : (Jvm.Cond.fieldLink "ConditionRows" (55 : Nat) "ConditionRows" "leftText" "[I") ∈ zWords := zmem 182 (by decide +kernel) (by decide +kernel)
theorem m_550 : (Jvm.Cond.code ({ cls := "ConditionRows$Fields", name := "spellBytes", desc := "(I[I)I" } : Jvm.MethodName) prog_2_method_18_code (5 : Nat) (Option.some Jvm.ClassFile.FieldType.int)) ∈ zWords := zmem 550 (by decide +kernel) (by decide +kernel)
theorem m_547 : (Jvm.Cond.methodLink "ConditionRows$Fields" (84 : Nat) ({ cls := "ConditionRows$Fields", name := "spellBytes", desc := "(I[I)I" } : Jvm.MethodName)) ∈ zWords := zmem 547 (by decide +kernel) (by decide +kernel)
theorem m_549 : (Jvm.Cond.instanceMethod ({ cls := "ConditionRows$Fields", name := "spellBytes", desc := "(I[I)I" } : Jvm.MethodName)) ∈ zWords := zmem 549 (by decide +kernel) (by decide +kernel)
theorem mp_15 : (Jvm.Cond.selects "ConditionRows$Fields" ({ cls := "ConditionRows$Fields", name := "spellBytes", desc := "(I[I)I" } : Jvm.MethodName) ({ cls := "ConditionRows$Fields", name := "spellBytes", desc := "(I[I)I" } : Jvm.MethodName)) ∈ zWords := zmemP 15 (by decide +kernel) (by decide +kernel)
theorem m_546 : (Jvm.Cond.code ({ cls := "ConditionRows$Fields", name := "spellDecimals", desc := "(J[I)I" } : Jvm.MethodName) prog_2_method_19_code (8 : Nat) (Option.some Jvm.ClassFile.FieldType.int)) ∈ zWords := zmem 546 (by decide +kernel) (by decide +kernel)
theorem m_544 : (Jvm.Cond.methodLink "ConditionRows$Fields" (80 : Nat) ({ cls := "ConditionRows$Fields", name := "spellDecimals", desc := "(J[I)I" } : Jvm.MethodName)) ∈ zWords := zmem 544 (by decide +kernel) (by decide +kernel)
theorem m_545 : (Jvm.Cond.static ({ cls := "ConditionRows$Fields", name := "spellDecimals", desc := "(J[I)I" } : Jvm.MethodName)) ∈ zWords := zmem 545 (by decide +kernel) (by decide +kernel)
theorem m_543 : (Jvm.Cond.code ({ cls := "ConditionRows$Fields", name := "spell", desc := "(I[I)V" } : Jvm.MethodName) prog_2_method_17_code (5 : Nat) (Option.none : Option Jvm.ClassFile.FieldType)) ∈ zWords := zmem 543 (by decide +kernel) (by decide +kernel)
theorem m_540 : (Jvm.Cond.methodLink "ConditionRows" (298 : Nat) ({ cls := "ConditionRows$Fields", name := "spell", desc := "(I[I)V" } : Jvm.MethodName)) ∈ zWords := zmem 540 (by decide +kernel) (by decide +kernel)
theorem m_541 : (Jvm.Cond.instanceMethod ({ cls := "ConditionRows$Fields", name := "spell", desc := "(I[I)V" } : Jvm.MethodName)) ∈ zWords := zmem 541 (by decide +kernel) (by decide +kernel)
theorem m_542 : (Jvm.Cond.selects "ConditionRows$Fields" ({ cls := "ConditionRows$Fields", name := "spell", desc := "(I[I)V" } : Jvm.MethodName) ({ cls := "ConditionRows$Fields", name := "spell", desc := "(I[I)V" } : Jvm.MethodName)) ∈ zWords := zmem 542 (by decide +kernel) (by decide +kernel)
theorem m_183 : (Jvm.Cond.fieldLink "ConditionRows" (59 : Nat) "ConditionRows" "rightText" "[I") ∈ zWords := zmem 183 (by decide +kernel) (by decide +kernel)
theorem m_58 : (Jvm.Cond.fieldLink "ConditionRows$Weights" (9 : Nat) "ConditionRows$Weights" "of" "[I") ∈ zWords := zmem 58 (by decide +kernel) (by decide +kernel)
theorem m_557 : (Jvm.Cond.code ({ cls := "java/lang/Integer", name := "compare", desc := "(II)I" } : Jvm.MethodName) prog_13_method_40_code (2 : Nat) (Option.some Jvm.ClassFile.FieldType.int)) ∈ zWords := zmem 557 (by decide +kernel) (by decide +kernel)
theorem m_555 : (Jvm.Cond.methodLink "ConditionRows$Weights" (15 : Nat) ({ cls := "java/lang/Integer", name := "compare", desc := "(II)I" } : Jvm.MethodName)) ∈ zWords := zmem 555 (by decide +kernel) (by decide +kernel)
theorem m_556 : (Jvm.Cond.static ({ cls := "java/lang/Integer", name := "compare", desc := "(II)I" } : Jvm.MethodName)) ∈ zWords := zmem 556 (by decide +kernel) (by decide +kernel)
theorem m_15 : (Jvm.Cond.initialized "java/lang/Integer") ∈ zWords := zmem 15 (by decide +kernel) (by decide +kernel)
theorem m_554 : (Jvm.Cond.code ({ cls := "ConditionRows$Weights", name := "compareTexts", desc := "([I[I)I" } : Jvm.MethodName) prog_7_method_2_code (5 : Nat) (Option.some Jvm.ClassFile.FieldType.int)) ∈ zWords := zmem 554 (by decide +kernel) (by decide +kernel)
theorem m_551 : (Jvm.Cond.methodLink "ConditionRows" (302 : Nat) ({ cls := "ConditionRows$Weights", name := "compareTexts", desc := "([I[I)I" } : Jvm.MethodName)) ∈ zWords := zmem 551 (by decide +kernel) (by decide +kernel)
theorem m_552 : (Jvm.Cond.instanceMethod ({ cls := "ConditionRows$Weights", name := "compareTexts", desc := "([I[I)I" } : Jvm.MethodName)) ∈ zWords := zmem 552 (by decide +kernel) (by decide +kernel)
theorem m_553 : (Jvm.Cond.selects "ConditionRows$Weights" ({ cls := "ConditionRows$Weights", name := "compareTexts", desc := "([I[I)I" } : Jvm.MethodName) ({ cls := "ConditionRows$Weights", name := "compareTexts", desc := "([I[I)I" } : Jvm.MethodName)) ∈ zWords := zmem 553 (by decide +kernel) (by decide +kernel)
theorem m_3 : (Jvm.Cond.initialized "ConditionRows$Weights") ∈ zWords := zmem 3 (by decide +kernel) (by decide +kernel)
theorem m_523 : (Jvm.Cond.code ({ cls := "ConditionRows", name := "compareFields", desc := "(II)I" } : Jvm.MethodName) prog_1_method_38_code (3 : Nat) (Option.some Jvm.ClassFile.FieldType.int)) ∈ zWords := zmem 523 (by decide +kernel) (by decide +kernel)
theorem m_520 : (Jvm.Cond.methodLink "ConditionRows" (183 : Nat) ({ cls := "ConditionRows", name := "compareFields", desc := "(II)I" } : Jvm.MethodName)) ∈ zWords := zmem 520 (by decide +kernel) (by decide +kernel)
theorem m_522 : (Jvm.Cond.instanceMethod ({ cls := "ConditionRows", name := "compareFields", desc := "(II)I" } : Jvm.MethodName)) ∈ zWords := zmem 522 (by decide +kernel) (by decide +kernel)
theorem mp_14 : (Jvm.Cond.selects "ConditionRows" ({ cls := "ConditionRows", name := "compareFields", desc := "(II)I" } : Jvm.MethodName) ({ cls := "ConditionRows", name := "compareFields", desc := "(II)I" } : Jvm.MethodName)) ∈ zWords := zmemP 14 (by decide +kernel) (by decide +kernel)
theorem m_519 : (Jvm.Cond.code ({ cls := "ConditionRows", name := "relationOutcome", desc := "(III)I" } : Jvm.MethodName) prog_1_method_36_code (5 : Nat) (Option.some Jvm.ClassFile.FieldType.int)) ∈ zWords := zmem 519 (by decide +kernel) (by decide +kernel)
theorem m_516 : (Jvm.Cond.methodLink "ConditionRows" (282 : Nat) ({ cls := "ConditionRows", name := "relationOutcome", desc := "(III)I" } : Jvm.MethodName)) ∈ zWords := zmem 516 (by decide +kernel) (by decide +kernel)
theorem m_518 : (Jvm.Cond.instanceMethod ({ cls := "ConditionRows", name := "relationOutcome", desc := "(III)I" } : Jvm.MethodName)) ∈ zWords := zmem 518 (by decide +kernel) (by decide +kernel)
theorem mp_13 : (Jvm.Cond.selects "ConditionRows" ({ cls := "ConditionRows", name := "relationOutcome", desc := "(III)I" } : Jvm.MethodName) ({ cls := "ConditionRows", name := "relationOutcome", desc := "(III)I" } : Jvm.MethodName)) ∈ zWords := zmemP 13 (by decide +kernel) (by decide +kernel)
theorem m_459 : (Jvm.Cond.code ({ cls := "ConditionRows", name := "leafOutcome", desc := "(I)I" } : Jvm.MethodName) prog_1_method_34_code (4 : Nat) (Option.some Jvm.ClassFile.FieldType.int)) ∈ zWords := zmem 459 (by decide +kernel) (by decide +kernel)
theorem m_456 : (Jvm.Cond.methodLink "ConditionRows" (239 : Nat) ({ cls := "ConditionRows", name := "leafOutcome", desc := "(I)I" } : Jvm.MethodName)) ∈ zWords := zmem 456 (by decide +kernel) (by decide +kernel)
theorem m_458 : (Jvm.Cond.instanceMethod ({ cls := "ConditionRows", name := "leafOutcome", desc := "(I)I" } : Jvm.MethodName)) ∈ zWords := zmem 458 (by decide +kernel) (by decide +kernel)
theorem mp_9 : (Jvm.Cond.selects "ConditionRows" ({ cls := "ConditionRows", name := "leafOutcome", desc := "(I)I" } : Jvm.MethodName) ({ cls := "ConditionRows", name := "leafOutcome", desc := "(I)I" } : Jvm.MethodName)) ∈ zWords := zmemP 9 (by decide +kernel) (by decide +kernel)
theorem m_440 : (Jvm.Cond.code ({ cls := "ConditionRows", name := "outcomeOf", desc := "(I)I" } : Jvm.MethodName) prog_1_method_30_code (6 : Nat) (Option.some Jvm.ClassFile.FieldType.int)) ∈ zWords := zmem 440 (by decide +kernel) (by decide +kernel)
theorem m_437 : (Jvm.Cond.methodLink "ConditionRows" (159 : Nat) ({ cls := "ConditionRows", name := "outcomeOf", desc := "(I)I" } : Jvm.MethodName)) ∈ zWords := zmem 437 (by decide +kernel) (by decide +kernel)
theorem m_439 : (Jvm.Cond.instanceMethod ({ cls := "ConditionRows", name := "outcomeOf", desc := "(I)I" } : Jvm.MethodName)) ∈ zWords := zmem 439 (by decide +kernel) (by decide +kernel)
theorem mp_7 : (Jvm.Cond.selects "ConditionRows" ({ cls := "ConditionRows", name := "outcomeOf", desc := "(I)I" } : Jvm.MethodName) ({ cls := "ConditionRows", name := "outcomeOf", desc := "(I)I" } : Jvm.MethodName)) ∈ zWords := zmemP 7 (by decide +kernel) (by decide +kernel)
theorem m_357 : (Jvm.Cond.code ({ cls := "ConditionRows", name := "switchesOn", desc := "()I" } : Jvm.MethodName) prog_1_method_26_code (3 : Nat) (Option.some Jvm.ClassFile.FieldType.int)) ∈ zWords := zmem 357 (by decide +kernel) (by decide +kernel)
theorem m_354 : (Jvm.Cond.methodLink "ConditionRows" (188 : Nat) ({ cls := "ConditionRows", name := "switchesOn", desc := "()I" } : Jvm.MethodName)) ∈ zWords := zmem 354 (by decide +kernel) (by decide +kernel)
theorem m_356 : (Jvm.Cond.instanceMethod ({ cls := "ConditionRows", name := "switchesOn", desc := "()I" } : Jvm.MethodName)) ∈ zWords := zmem 356 (by decide +kernel) (by decide +kernel)
theorem mp_5 : (Jvm.Cond.selects "ConditionRows" ({ cls := "ConditionRows", name := "switchesOn", desc := "()I" } : Jvm.MethodName) ({ cls := "ConditionRows", name := "switchesOn", desc := "()I" } : Jvm.MethodName)) ∈ zWords := zmemP 5 (by decide +kernel) (by decide +kernel)
theorem m_604 : (Jvm.Cond.fieldLink "ConditionRowsModel" (83 : Nat) "ConditionRowsModel" "fields" "I") ∈ zWords := zmem 604 (by decide +kernel) (by decide +kernel)
theorem m_608 : (Jvm.Cond.fieldLink "ConditionRowsModel" (86 : Nat) "ConditionRowsModel" "nodes" "I") ∈ zWords := zmem 608 (by decide +kernel) (by decide +kernel)
theorem m_613 : (Jvm.Cond.fieldLink "ConditionRowsModel" (89 : Nat) "ConditionRowsModel" "names" "I") ∈ zWords := zmem 613 (by decide +kernel) (by decide +kernel)
theorem m_598 : (Jvm.Cond.fieldLink "ConditionRowsModel" (79 : Nat) "ConditionRowsModel" "thrown" "I") ∈ zWords := zmem 598 (by decide +kernel) (by decide +kernel)
theorem m_600 : (Jvm.Cond.fieldLink "ConditionRowsModel" (13 : Nat) "ConditionRowsModel" "categories" "[I") ∈ zWords := zmem 600 (by decide +kernel) (by decide +kernel)
theorem m_601 : (Jvm.Cond.fieldLink "ConditionRowsModel" (16 : Nat) "ConditionRowsModel" "sizes" "[I") ∈ zWords := zmem 601 (by decide +kernel) (by decide +kernel)
theorem m_599 : (Jvm.Cond.fieldLink "ConditionRowsModel" (7 : Nat) "ConditionRowsModel" "bytes" "[I") ∈ zWords := zmem 599 (by decide +kernel) (by decide +kernel)
theorem m_699 : (Jvm.Cond.code ({ cls := "ConditionRowsModel", name := "isField", desc := "(I)Z" } : Jvm.MethodName) prog_9_method_3_code (2 : Nat) (Option.some Jvm.ClassFile.FieldType.boolean)) ∈ zWords := zmem 699 (by decide +kernel) (by decide +kernel)
theorem m_696 : (Jvm.Cond.methodLink "ConditionRowsModel" (92 : Nat) ({ cls := "ConditionRowsModel", name := "isField", desc := "(I)Z" } : Jvm.MethodName)) ∈ zWords := zmem 696 (by decide +kernel) (by decide +kernel)
theorem m_698 : (Jvm.Cond.instanceMethod ({ cls := "ConditionRowsModel", name := "isField", desc := "(I)Z" } : Jvm.MethodName)) ∈ zWords := zmem 698 (by decide +kernel) (by decide +kernel)
theorem mp_17 : (Jvm.Cond.selects "ConditionRowsModel" ({ cls := "ConditionRowsModel", name := "isField", desc := "(I)Z" } : Jvm.MethodName) ({ cls := "ConditionRowsModel", name := "isField", desc := "(I)Z" } : Jvm.MethodName)) ∈ zWords := zmemP 17 (by decide +kernel) (by decide +kernel)
theorem m_8 : (Jvm.Cond.initialized "ConditionRowsModel") ∈ zWords := zmem 8 (by decide +kernel) (by decide +kernel)
theorem m_602 : (Jvm.Cond.fieldLink "ConditionRowsModel" (19 : Nat) "ConditionRowsModel" "scales" "[I") ∈ zWords := zmem 602 (by decide +kernel) (by decide +kernel)
theorem m_710 : (Jvm.Cond.code ({ cls := "ConditionRowsModel", name := "isByte", desc := "(I)Z" } : Jvm.MethodName) prog_9_method_9_code (1 : Nat) (Option.some Jvm.ClassFile.FieldType.boolean)) ∈ zWords := zmem 710 (by decide +kernel) (by decide +kernel)
theorem m_708 : (Jvm.Cond.methodLink "ConditionRowsModel" (96 : Nat) ({ cls := "ConditionRowsModel", name := "isByte", desc := "(I)Z" } : Jvm.MethodName)) ∈ zWords := zmem 708 (by decide +kernel) (by decide +kernel)
theorem m_709 : (Jvm.Cond.static ({ cls := "ConditionRowsModel", name := "isByte", desc := "(I)Z" } : Jvm.MethodName)) ∈ zWords := zmem 709 (by decide +kernel) (by decide +kernel)
theorem m_603 : (Jvm.Cond.fieldLink "ConditionRowsModel" (22 : Nat) "ConditionRowsModel" "weights" "[I") ∈ zWords := zmem 603 (by decide +kernel) (by decide +kernel)
theorem m_781 : (Jvm.Cond.code ({ cls := "ConditionRowsModel", name := "read", desc := "(II)I" } : Jvm.MethodName) prog_9_method_11_code (3 : Nat) (Option.some Jvm.ClassFile.FieldType.int)) ∈ zWords := zmem 781 (by decide +kernel) (by decide +kernel)
theorem m_778 : (Jvm.Cond.methodLink "ConditionRowsModel" (99 : Nat) ({ cls := "ConditionRowsModel", name := "read", desc := "(II)I" } : Jvm.MethodName)) ∈ zWords := zmem 778 (by decide +kernel) (by decide +kernel)
theorem m_780 : (Jvm.Cond.instanceMethod ({ cls := "ConditionRowsModel", name := "read", desc := "(II)I" } : Jvm.MethodName)) ∈ zWords := zmem 780 (by decide +kernel) (by decide +kernel)
theorem mp_26 : (Jvm.Cond.selects "ConditionRowsModel" ({ cls := "ConditionRowsModel", name := "read", desc := "(II)I" } : Jvm.MethodName) ({ cls := "ConditionRowsModel", name := "read", desc := "(II)I" } : Jvm.MethodName)) ∈ zWords := zmemP 26 (by decide +kernel) (by decide +kernel)
theorem m_798 : (Jvm.Cond.constantLong "ConditionRowsModel" (103 : Nat) (-1 : Int64)) ∈ zWords := zmem 798 (by decide +kernel) (by decide +kernel)
theorem m_799 : (Jvm.Cond.constantLong "ConditionRowsModel" (105 : Nat) (10 : Int64)) ∈ zWords := zmem 799 (by decide +kernel) (by decide +kernel)
theorem m_797 : (Jvm.Cond.code ({ cls := "ConditionRowsModel", name := "whole", desc := "(I)J" } : Jvm.MethodName) prog_9_method_13_code (5 : Nat) (Option.some Jvm.ClassFile.FieldType.long)) ∈ zWords := zmem 797 (by decide +kernel) (by decide +kernel)
theorem m_794 : (Jvm.Cond.methodLink "ConditionRowsModel" (107 : Nat) ({ cls := "ConditionRowsModel", name := "whole", desc := "(I)J" } : Jvm.MethodName)) ∈ zWords := zmem 794 (by decide +kernel) (by decide +kernel)
theorem m_796 : (Jvm.Cond.instanceMethod ({ cls := "ConditionRowsModel", name := "whole", desc := "(I)J" } : Jvm.MethodName)) ∈ zWords := zmem 796 (by decide +kernel) (by decide +kernel)
theorem mp_30 : (Jvm.Cond.selects "ConditionRowsModel" ({ cls := "ConditionRowsModel", name := "whole", desc := "(I)J" } : Jvm.MethodName) ({ cls := "ConditionRowsModel", name := "whole", desc := "(I)J" } : Jvm.MethodName)) ∈ zWords := zmemP 30 (by decide +kernel) (by decide +kernel)
theorem m_802 : (Jvm.Cond.code ({ cls := "ConditionRowsModel", name := "ten", desc := "(I)J" } : Jvm.MethodName) prog_9_method_14_code (4 : Nat) (Option.some Jvm.ClassFile.FieldType.long)) ∈ zWords := zmem 802 (by decide +kernel) (by decide +kernel)
theorem m_800 : (Jvm.Cond.methodLink "ConditionRowsModel" (110 : Nat) ({ cls := "ConditionRowsModel", name := "ten", desc := "(I)J" } : Jvm.MethodName)) ∈ zWords := zmem 800 (by decide +kernel) (by decide +kernel)
theorem m_801 : (Jvm.Cond.static ({ cls := "ConditionRowsModel", name := "ten", desc := "(I)J" } : Jvm.MethodName)) ∈ zWords := zmem 801 (by decide +kernel) (by decide +kernel)
theorem m_626 : (Jvm.Cond.fieldLink "ConditionRowsModel" (72 : Nat) "ConditionRowsModel" "digits" "[I") ∈ zWords := zmem 626 (by decide +kernel) (by decide +kernel)
theorem m_814 : (Jvm.Cond.constantLong "ConditionRowsModel" (113 : Nat) (5 : Int64)) ∈ zWords := zmem 814 (by decide +kernel) (by decide +kernel)
theorem m_793 : (Jvm.Cond.code ({ cls := "ConditionRowsModel", name := "part", desc := "(I)J" } : Jvm.MethodName) prog_9_method_15_code (8 : Nat) (Option.some Jvm.ClassFile.FieldType.long)) ∈ zWords := zmem 793 (by decide +kernel) (by decide +kernel)
theorem m_790 : (Jvm.Cond.methodLink "ConditionRowsModel" (115 : Nat) ({ cls := "ConditionRowsModel", name := "part", desc := "(I)J" } : Jvm.MethodName)) ∈ zWords := zmem 790 (by decide +kernel) (by decide +kernel)
theorem m_792 : (Jvm.Cond.instanceMethod ({ cls := "ConditionRowsModel", name := "part", desc := "(I)J" } : Jvm.MethodName)) ∈ zWords := zmem 792 (by decide +kernel) (by decide +kernel)
theorem mp_29 : (Jvm.Cond.selects "ConditionRowsModel" ({ cls := "ConditionRowsModel", name := "part", desc := "(I)J" } : Jvm.MethodName) ({ cls := "ConditionRowsModel", name := "part", desc := "(I)J" } : Jvm.MethodName)) ∈ zWords := zmemP 29 (by decide +kernel) (by decide +kernel)
theorem m_805 : (Jvm.Cond.code ({ cls := "ConditionRowsModel", name := "sign", desc := "(JJ)I" } : Jvm.MethodName) prog_9_method_18_code (4 : Nat) (Option.some Jvm.ClassFile.FieldType.int)) ∈ zWords := zmem 805 (by decide +kernel) (by decide +kernel)
theorem m_803 : (Jvm.Cond.methodLink "ConditionRowsModel" (118 : Nat) ({ cls := "ConditionRowsModel", name := "sign", desc := "(JJ)I" } : Jvm.MethodName)) ∈ zWords := zmem 803 (by decide +kernel) (by decide +kernel)
theorem m_804 : (Jvm.Cond.static ({ cls := "ConditionRowsModel", name := "sign", desc := "(JJ)I" } : Jvm.MethodName)) ∈ zWords := zmem 804 (by decide +kernel) (by decide +kernel)
theorem m_809 : (Jvm.Cond.code ({ cls := "ConditionRowsModel", name := "rest", desc := "(I)J" } : Jvm.MethodName) prog_9_method_16_code (6 : Nat) (Option.some Jvm.ClassFile.FieldType.long)) ∈ zWords := zmem 809 (by decide +kernel) (by decide +kernel)
theorem m_806 : (Jvm.Cond.methodLink "ConditionRowsModel" (122 : Nat) ({ cls := "ConditionRowsModel", name := "rest", desc := "(I)J" } : Jvm.MethodName)) ∈ zWords := zmem 806 (by decide +kernel) (by decide +kernel)
theorem m_808 : (Jvm.Cond.instanceMethod ({ cls := "ConditionRowsModel", name := "rest", desc := "(I)J" } : Jvm.MethodName)) ∈ zWords := zmem 808 (by decide +kernel) (by decide +kernel)
theorem mp_31 : (Jvm.Cond.selects "ConditionRowsModel" ({ cls := "ConditionRowsModel", name := "rest", desc := "(I)J" } : Jvm.MethodName) ({ cls := "ConditionRowsModel", name := "rest", desc := "(I)J" } : Jvm.MethodName)) ∈ zWords := zmemP 31 (by decide +kernel) (by decide +kernel)
theorem m_813 : (Jvm.Cond.code ({ cls := "ConditionRowsModel", name := "spell", desc := "(I)V" } : Jvm.MethodName) prog_9_method_17_code (12 : Nat) (Option.none : Option Jvm.ClassFile.FieldType)) ∈ zWords := zmem 813 (by decide +kernel) (by decide +kernel)
theorem m_810 : (Jvm.Cond.methodLink "ConditionRowsModel" (125 : Nat) ({ cls := "ConditionRowsModel", name := "spell", desc := "(I)V" } : Jvm.MethodName)) ∈ zWords := zmem 810 (by decide +kernel) (by decide +kernel)
theorem m_812 : (Jvm.Cond.instanceMethod ({ cls := "ConditionRowsModel", name := "spell", desc := "(I)V" } : Jvm.MethodName)) ∈ zWords := zmem 812 (by decide +kernel) (by decide +kernel)
theorem mp_32 : (Jvm.Cond.selects "ConditionRowsModel" ({ cls := "ConditionRowsModel", name := "spell", desc := "(I)V" } : Jvm.MethodName) ({ cls := "ConditionRowsModel", name := "spell", desc := "(I)V" } : Jvm.MethodName)) ∈ zWords := zmemP 32 (by decide +kernel) (by decide +kernel)
theorem m_726 : (Jvm.Cond.code ({ cls := "ConditionRowsModel", name := "isNode", desc := "(I)Z" } : Jvm.MethodName) prog_9_method_4_code (2 : Nat) (Option.some Jvm.ClassFile.FieldType.boolean)) ∈ zWords := zmem 726 (by decide +kernel) (by decide +kernel)
theorem m_723 : (Jvm.Cond.methodLink "ConditionRowsModel" (132 : Nat) ({ cls := "ConditionRowsModel", name := "isNode", desc := "(I)Z" } : Jvm.MethodName)) ∈ zWords := zmem 723 (by decide +kernel) (by decide +kernel)
theorem m_725 : (Jvm.Cond.instanceMethod ({ cls := "ConditionRowsModel", name := "isNode", desc := "(I)Z" } : Jvm.MethodName)) ∈ zWords := zmem 725 (by decide +kernel) (by decide +kernel)
theorem mp_20 : (Jvm.Cond.selects "ConditionRowsModel" ({ cls := "ConditionRowsModel", name := "isNode", desc := "(I)Z" } : Jvm.MethodName) ({ cls := "ConditionRowsModel", name := "isNode", desc := "(I)Z" } : Jvm.MethodName)) ∈ zWords := zmemP 20 (by decide +kernel) (by decide +kernel)
theorem m_722 : (Jvm.Cond.code ({ cls := "ConditionRowsModel", name := "isName", desc := "(I)Z" } : Jvm.MethodName) prog_9_method_5_code (2 : Nat) (Option.some Jvm.ClassFile.FieldType.boolean)) ∈ zWords := zmem 722 (by decide +kernel) (by decide +kernel)
theorem m_719 : (Jvm.Cond.methodLink "ConditionRowsModel" (129 : Nat) ({ cls := "ConditionRowsModel", name := "isName", desc := "(I)Z" } : Jvm.MethodName)) ∈ zWords := zmem 719 (by decide +kernel) (by decide +kernel)
theorem m_721 : (Jvm.Cond.instanceMethod ({ cls := "ConditionRowsModel", name := "isName", desc := "(I)Z" } : Jvm.MethodName)) ∈ zWords := zmem 721 (by decide +kernel) (by decide +kernel)
theorem mp_19 : (Jvm.Cond.selects "ConditionRowsModel" ({ cls := "ConditionRowsModel", name := "isName", desc := "(I)Z" } : Jvm.MethodName) ({ cls := "ConditionRowsModel", name := "isName", desc := "(I)Z" } : Jvm.MethodName)) ∈ zWords := zmemP 19 (by decide +kernel) (by decide +kernel)
theorem m_605 : (Jvm.Cond.fieldLink "ConditionRowsModel" (25 : Nat) "ConditionRowsModel" "ops" "[I") ∈ zWords := zmem 605 (by decide +kernel) (by decide +kernel)
theorem m_606 : (Jvm.Cond.fieldLink "ConditionRowsModel" (28 : Nat) "ConditionRowsModel" "as" "[I") ∈ zWords := zmem 606 (by decide +kernel) (by decide +kernel)
theorem m_607 : (Jvm.Cond.fieldLink "ConditionRowsModel" (31 : Nat) "ConditionRowsModel" "bs" "[I") ∈ zWords := zmem 607 (by decide +kernel) (by decide +kernel)
theorem m_718 : (Jvm.Cond.code ({ cls := "ConditionRowsModel", name := "refusal", desc := "(III)I" } : Jvm.MethodName) prog_9_method_20_code (4 : Nat) (Option.some Jvm.ClassFile.FieldType.int)) ∈ zWords := zmem 718 (by decide +kernel) (by decide +kernel)
theorem m_715 : (Jvm.Cond.methodLink "ConditionRowsModel" (135 : Nat) ({ cls := "ConditionRowsModel", name := "refusal", desc := "(III)I" } : Jvm.MethodName)) ∈ zWords := zmem 715 (by decide +kernel) (by decide +kernel)
theorem m_717 : (Jvm.Cond.instanceMethod ({ cls := "ConditionRowsModel", name := "refusal", desc := "(III)I" } : Jvm.MethodName)) ∈ zWords := zmem 717 (by decide +kernel) (by decide +kernel)
theorem mp_18 : (Jvm.Cond.selects "ConditionRowsModel" ({ cls := "ConditionRowsModel", name := "refusal", desc := "(III)I" } : Jvm.MethodName) ({ cls := "ConditionRowsModel", name := "refusal", desc := "(III)I" } : Jvm.MethodName)) ∈ zWords := zmemP 18 (by decide +kernel) (by decide +kernel)
theorem m_730 : (Jvm.Cond.code ({ cls := "ConditionRowsModel", name := "made", desc := "(III)I" } : Jvm.MethodName) prog_9_method_21_code (4 : Nat) (Option.some Jvm.ClassFile.FieldType.int)) ∈ zWords := zmem 730 (by decide +kernel) (by decide +kernel)
theorem m_727 : (Jvm.Cond.methodLink "ConditionRowsModel" (139 : Nat) ({ cls := "ConditionRowsModel", name := "made", desc := "(III)I" } : Jvm.MethodName)) ∈ zWords := zmem 727 (by decide +kernel) (by decide +kernel)
theorem m_729 : (Jvm.Cond.instanceMethod ({ cls := "ConditionRowsModel", name := "made", desc := "(III)I" } : Jvm.MethodName)) ∈ zWords := zmem 729 (by decide +kernel) (by decide +kernel)
theorem mp_21 : (Jvm.Cond.selects "ConditionRowsModel" ({ cls := "ConditionRowsModel", name := "made", desc := "(III)I" } : Jvm.MethodName) ({ cls := "ConditionRowsModel", name := "made", desc := "(III)I" } : Jvm.MethodName)) ∈ zWords := zmemP 21 (by decide +kernel) (by decide +kernel)
theorem m_742 : (Jvm.Cond.constantLong "ConditionRowsModel" (142 : Nat) (-9223372036854775808 : Int64)) ∈ zWords := zmem 742 (by decide +kernel) (by decide +kernel)
theorem m_741 : (Jvm.Cond.code ({ cls := "ConditionRowsModel", name := "isLess", desc := "(JJ)Z" } : Jvm.MethodName) prog_9_method_23_code (4 : Nat) (Option.some Jvm.ClassFile.FieldType.boolean)) ∈ zWords := zmem 741 (by decide +kernel) (by decide +kernel)
theorem m_739 : (Jvm.Cond.methodLink "ConditionRowsModel" (144 : Nat) ({ cls := "ConditionRowsModel", name := "isLess", desc := "(JJ)Z" } : Jvm.MethodName)) ∈ zWords := zmem 739 (by decide +kernel) (by decide +kernel)
theorem m_740 : (Jvm.Cond.static ({ cls := "ConditionRowsModel", name := "isLess", desc := "(JJ)Z" } : Jvm.MethodName)) ∈ zWords := zmem 740 (by decide +kernel) (by decide +kernel)
theorem m_738 : (Jvm.Cond.code ({ cls := "ConditionRowsModel", name := "isTurned", desc := "(IJJ)Z" } : Jvm.MethodName) prog_9_method_24_code (6 : Nat) (Option.some Jvm.ClassFile.FieldType.boolean)) ∈ zWords := zmem 738 (by decide +kernel) (by decide +kernel)
theorem m_735 : (Jvm.Cond.methodLink "ConditionRowsModel" (148 : Nat) ({ cls := "ConditionRowsModel", name := "isTurned", desc := "(IJJ)Z" } : Jvm.MethodName)) ∈ zWords := zmem 735 (by decide +kernel) (by decide +kernel)
theorem m_737 : (Jvm.Cond.instanceMethod ({ cls := "ConditionRowsModel", name := "isTurned", desc := "(IJJ)Z" } : Jvm.MethodName)) ∈ zWords := zmem 737 (by decide +kernel) (by decide +kernel)
theorem mp_22 : (Jvm.Cond.selects "ConditionRowsModel" ({ cls := "ConditionRowsModel", name := "isTurned", desc := "(IJJ)Z" } : Jvm.MethodName) ({ cls := "ConditionRowsModel", name := "isTurned", desc := "(IJJ)Z" } : Jvm.MethodName)) ∈ zWords := zmemP 22 (by decide +kernel) (by decide +kernel)
theorem m_609 : (Jvm.Cond.fieldLink "ConditionRowsModel" (34 : Nat) "ConditionRowsModel" "nameFields" "[I") ∈ zWords := zmem 609 (by decide +kernel) (by decide +kernel)
theorem m_610 : (Jvm.Cond.fieldLink "ConditionRowsModel" (37 : Nat) "ConditionRowsModel" "ranges" "[I") ∈ zWords := zmem 610 (by decide +kernel) (by decide +kernel)
theorem m_611 : (Jvm.Cond.fieldLink "ConditionRowsModel" (40 : Nat) "ConditionRowsModel" "lows" "[J") ∈ zWords := zmem 611 (by decide +kernel) (by decide +kernel)
theorem m_612 : (Jvm.Cond.fieldLink "ConditionRowsModel" (44 : Nat) "ConditionRowsModel" "highs" "[J") ∈ zWords := zmem 612 (by decide +kernel) (by decide +kernel)
theorem m_753 : (Jvm.Cond.code ({ cls := "ConditionRowsModel", name := "isRelation", desc := "(I)Z" } : Jvm.MethodName) prog_9_method_27_code (1 : Nat) (Option.some Jvm.ClassFile.FieldType.boolean)) ∈ zWords := zmem 753 (by decide +kernel) (by decide +kernel)
theorem m_751 : (Jvm.Cond.methodLink "ConditionRowsModel" (152 : Nat) ({ cls := "ConditionRowsModel", name := "isRelation", desc := "(I)Z" } : Jvm.MethodName)) ∈ zWords := zmem 751 (by decide +kernel) (by decide +kernel)
theorem m_752 : (Jvm.Cond.static ({ cls := "ConditionRowsModel", name := "isRelation", desc := "(I)Z" } : Jvm.MethodName)) ∈ zWords := zmem 752 (by decide +kernel) (by decide +kernel)
theorem m_620 : (Jvm.Cond.fieldLink "ConditionRowsModel" (155 : Nat) "ConditionRowsModel" "subject" "I") ∈ zWords := zmem 620 (by decide +kernel) (by decide +kernel)
theorem m_619 : (Jvm.Cond.fieldLink "ConditionRowsModel" (158 : Nat) "ConditionRowsModel" "row" "I") ∈ zWords := zmem 619 (by decide +kernel) (by decide +kernel)
theorem m_615 : (Jvm.Cond.fieldLink "ConditionRowsModel" (51 : Nat) "ConditionRowsModel" "ways" "[I") ∈ zWords := zmem 615 (by decide +kernel) (by decide +kernel)
theorem m_616 : (Jvm.Cond.fieldLink "ConditionRowsModel" (54 : Nat) "ConditionRowsModel" "rowOps" "[I") ∈ zWords := zmem 616 (by decide +kernel) (by decide +kernel)
theorem m_618 : (Jvm.Cond.fieldLink "ConditionRowsModel" (60 : Nat) "ConditionRowsModel" "turned" "[Z") ∈ zWords := zmem 618 (by decide +kernel) (by decide +kernel)
theorem m_617 : (Jvm.Cond.fieldLink "ConditionRowsModel" (57 : Nat) "ConditionRowsModel" "objects" "[I") ∈ zWords := zmem 617 (by decide +kernel) (by decide +kernel)
theorem m_765 : (Jvm.Cond.code ({ cls := "ConditionRowsModel", name := "relation", desc := "(I)I" } : Jvm.MethodName) prog_9_method_30_code (3 : Nat) (Option.some Jvm.ClassFile.FieldType.int)) ∈ zWords := zmem 765 (by decide +kernel) (by decide +kernel)
theorem m_762 : (Jvm.Cond.methodLink "ConditionRowsModel" (161 : Nat) ({ cls := "ConditionRowsModel", name := "relation", desc := "(I)I" } : Jvm.MethodName)) ∈ zWords := zmem 762 (by decide +kernel) (by decide +kernel)
theorem m_764 : (Jvm.Cond.instanceMethod ({ cls := "ConditionRowsModel", name := "relation", desc := "(I)I" } : Jvm.MethodName)) ∈ zWords := zmem 764 (by decide +kernel) (by decide +kernel)
theorem mp_23 : (Jvm.Cond.selects "ConditionRowsModel" ({ cls := "ConditionRowsModel", name := "relation", desc := "(I)I" } : Jvm.MethodName) ({ cls := "ConditionRowsModel", name := "relation", desc := "(I)I" } : Jvm.MethodName)) ∈ zWords := zmemP 23 (by decide +kernel) (by decide +kernel)
theorem m_777 : (Jvm.Cond.code ({ cls := "ConditionRowsModel", name := "isBad", desc := "(I)Z" } : Jvm.MethodName) prog_9_method_12_code (5 : Nat) (Option.some Jvm.ClassFile.FieldType.boolean)) ∈ zWords := zmem 777 (by decide +kernel) (by decide +kernel)
theorem m_774 : (Jvm.Cond.methodLink "ConditionRowsModel" (165 : Nat) ({ cls := "ConditionRowsModel", name := "isBad", desc := "(I)Z" } : Jvm.MethodName)) ∈ zWords := zmem 774 (by decide +kernel) (by decide +kernel)
theorem m_776 : (Jvm.Cond.instanceMethod ({ cls := "ConditionRowsModel", name := "isBad", desc := "(I)Z" } : Jvm.MethodName)) ∈ zWords := zmem 776 (by decide +kernel) (by decide +kernel)
theorem mp_25 : (Jvm.Cond.selects "ConditionRowsModel" ({ cls := "ConditionRowsModel", name := "isBad", desc := "(I)Z" } : Jvm.MethodName) ({ cls := "ConditionRowsModel", name := "isBad", desc := "(I)Z" } : Jvm.MethodName)) ∈ zWords := zmemP 25 (by decide +kernel) (by decide +kernel)
theorem m_789 : (Jvm.Cond.code ({ cls := "ConditionRowsModel", name := "order", desc := "(II)I" } : Jvm.MethodName) prog_9_method_19_code (6 : Nat) (Option.some Jvm.ClassFile.FieldType.int)) ∈ zWords := zmem 789 (by decide +kernel) (by decide +kernel)
theorem m_786 : (Jvm.Cond.methodLink "ConditionRowsModel" (168 : Nat) ({ cls := "ConditionRowsModel", name := "order", desc := "(II)I" } : Jvm.MethodName)) ∈ zWords := zmem 786 (by decide +kernel) (by decide +kernel)
theorem m_788 : (Jvm.Cond.instanceMethod ({ cls := "ConditionRowsModel", name := "order", desc := "(II)I" } : Jvm.MethodName)) ∈ zWords := zmem 788 (by decide +kernel) (by decide +kernel)
theorem mp_28 : (Jvm.Cond.selects "ConditionRowsModel" ({ cls := "ConditionRowsModel", name := "order", desc := "(II)I" } : Jvm.MethodName) ({ cls := "ConditionRowsModel", name := "order", desc := "(II)I" } : Jvm.MethodName)) ∈ zWords := zmemP 28 (by decide +kernel) (by decide +kernel)
theorem m_623 : (Jvm.Cond.fieldLink "ConditionRowsModel" (69 : Nat) "ConditionRowsModel" "leaves" "[I") ∈ zWords := zmem 623 (by decide +kernel) (by decide +kernel)
theorem m_624 : (Jvm.Cond.fieldLink "ConditionRowsModel" (171 : Nat) "ConditionRowsModel" "noted" "I") ∈ zWords := zmem 624 (by decide +kernel) (by decide +kernel)
theorem m_625 : (Jvm.Cond.fieldLink "ConditionRowsModel" (174 : Nat) "ConditionRowsModel" "fault" "Z") ∈ zWords := zmem 625 (by decide +kernel) (by decide +kernel)
theorem m_614 : (Jvm.Cond.fieldLink "ConditionRowsModel" (47 : Nat) "ConditionRowsModel" "switches" "[Z") ∈ zWords := zmem 614 (by decide +kernel) (by decide +kernel)
theorem m_822 : (Jvm.Cond.code ({ cls := "ConditionRowsModel", name := "isIn", desc := "(I)Z" } : Jvm.MethodName) prog_9_method_33_code (11 : Nat) (Option.some Jvm.ClassFile.FieldType.boolean)) ∈ zWords := zmem 822 (by decide +kernel) (by decide +kernel)
theorem m_819 : (Jvm.Cond.methodLink "ConditionRowsModel" (185 : Nat) ({ cls := "ConditionRowsModel", name := "isIn", desc := "(I)Z" } : Jvm.MethodName)) ∈ zWords := zmem 819 (by decide +kernel) (by decide +kernel)
theorem m_821 : (Jvm.Cond.instanceMethod ({ cls := "ConditionRowsModel", name := "isIn", desc := "(I)Z" } : Jvm.MethodName)) ∈ zWords := zmem 821 (by decide +kernel) (by decide +kernel)
theorem mp_34 : (Jvm.Cond.selects "ConditionRowsModel" ({ cls := "ConditionRowsModel", name := "isIn", desc := "(I)Z" } : Jvm.MethodName) ({ cls := "ConditionRowsModel", name := "isIn", desc := "(I)Z" } : Jvm.MethodName)) ∈ zWords := zmemP 34 (by decide +kernel) (by decide +kernel)
theorem m_818 : (Jvm.Cond.code ({ cls := "ConditionRowsModel", name := "isOf", desc := "(II)Z" } : Jvm.MethodName) prog_9_method_32_code (8 : Nat) (Option.some Jvm.ClassFile.FieldType.boolean)) ∈ zWords := zmem 818 (by decide +kernel) (by decide +kernel)
theorem m_815 : (Jvm.Cond.methodLink "ConditionRowsModel" (181 : Nat) ({ cls := "ConditionRowsModel", name := "isOf", desc := "(II)Z" } : Jvm.MethodName)) ∈ zWords := zmem 815 (by decide +kernel) (by decide +kernel)
theorem m_817 : (Jvm.Cond.instanceMethod ({ cls := "ConditionRowsModel", name := "isOf", desc := "(II)Z" } : Jvm.MethodName)) ∈ zWords := zmem 817 (by decide +kernel) (by decide +kernel)
theorem mp_33 : (Jvm.Cond.selects "ConditionRowsModel" ({ cls := "ConditionRowsModel", name := "isOf", desc := "(II)Z" } : Jvm.MethodName) ({ cls := "ConditionRowsModel", name := "isOf", desc := "(II)Z" } : Jvm.MethodName)) ∈ zWords := zmemP 33 (by decide +kernel) (by decide +kernel)
theorem m_785 : (Jvm.Cond.code ({ cls := "ConditionRowsModel", name := "related", desc := "(III)Z" } : Jvm.MethodName) prog_9_method_34_code (5 : Nat) (Option.some Jvm.ClassFile.FieldType.boolean)) ∈ zWords := zmem 785 (by decide +kernel) (by decide +kernel)
theorem m_782 : (Jvm.Cond.methodLink "ConditionRowsModel" (177 : Nat) ({ cls := "ConditionRowsModel", name := "related", desc := "(III)Z" } : Jvm.MethodName)) ∈ zWords := zmem 782 (by decide +kernel) (by decide +kernel)
theorem m_784 : (Jvm.Cond.instanceMethod ({ cls := "ConditionRowsModel", name := "related", desc := "(III)Z" } : Jvm.MethodName)) ∈ zWords := zmem 784 (by decide +kernel) (by decide +kernel)
theorem mp_27 : (Jvm.Cond.selects "ConditionRowsModel" ({ cls := "ConditionRowsModel", name := "related", desc := "(III)Z" } : Jvm.MethodName) ({ cls := "ConditionRowsModel", name := "related", desc := "(III)Z" } : Jvm.MethodName)) ∈ zWords := zmemP 27 (by decide +kernel) (by decide +kernel)
theorem m_621 : (Jvm.Cond.fieldLink "ConditionRowsModel" (63 : Nat) "ConditionRowsModel" "known" "[I") ∈ zWords := zmem 621 (by decide +kernel) (by decide +kernel)
theorem m_597 : (Jvm.Cond.fieldLink "ConditionRowsModel" (75 : Nat) "ConditionRowsModel" "whole" "Z") ∈ zWords := zmem 597 (by decide +kernel) (by decide +kernel)
theorem m_622 : (Jvm.Cond.fieldLink "ConditionRowsModel" (66 : Nat) "ConditionRowsModel" "pile" "[I") ∈ zWords := zmem 622 (by decide +kernel) (by decide +kernel)
theorem m_826 : (Jvm.Cond.code ({ cls := "ConditionRowsModel", name := "settled", desc := "(I)I" } : Jvm.MethodName) prog_9_method_36_code (5 : Nat) (Option.some Jvm.ClassFile.FieldType.int)) ∈ zWords := zmem 826 (by decide +kernel) (by decide +kernel)
theorem m_823 : (Jvm.Cond.methodLink "ConditionRowsModel" (191 : Nat) ({ cls := "ConditionRowsModel", name := "settled", desc := "(I)I" } : Jvm.MethodName)) ∈ zWords := zmem 823 (by decide +kernel) (by decide +kernel)
theorem m_825 : (Jvm.Cond.instanceMethod ({ cls := "ConditionRowsModel", name := "settled", desc := "(I)I" } : Jvm.MethodName)) ∈ zWords := zmem 825 (by decide +kernel) (by decide +kernel)
theorem mp_35 : (Jvm.Cond.selects "ConditionRowsModel" ({ cls := "ConditionRowsModel", name := "settled", desc := "(I)I" } : Jvm.MethodName) ({ cls := "ConditionRowsModel", name := "settled", desc := "(I)I" } : Jvm.MethodName)) ∈ zWords := zmemP 35 (by decide +kernel) (by decide +kernel)
theorem m_773 : (Jvm.Cond.code ({ cls := "ConditionRowsModel", name := "leaf", desc := "(I)Z" } : Jvm.MethodName) prog_9_method_35_code (4 : Nat) (Option.some Jvm.ClassFile.FieldType.boolean)) ∈ zWords := zmem 773 (by decide +kernel) (by decide +kernel)
theorem m_770 : (Jvm.Cond.methodLink "ConditionRowsModel" (188 : Nat) ({ cls := "ConditionRowsModel", name := "leaf", desc := "(I)Z" } : Jvm.MethodName)) ∈ zWords := zmem 770 (by decide +kernel) (by decide +kernel)
theorem m_772 : (Jvm.Cond.instanceMethod ({ cls := "ConditionRowsModel", name := "leaf", desc := "(I)Z" } : Jvm.MethodName)) ∈ zWords := zmem 772 (by decide +kernel) (by decide +kernel)
theorem mp_24 : (Jvm.Cond.selects "ConditionRowsModel" ({ cls := "ConditionRowsModel", name := "leaf", desc := "(I)Z" } : Jvm.MethodName) ({ cls := "ConditionRowsModel", name := "leaf", desc := "(I)Z" } : Jvm.MethodName)) ∈ zWords := zmemP 24 (by decide +kernel) (by decide +kernel)
theorem m_184 : (Jvm.Cond.laysFinal "ConditionRows" "ConditionRows" "whole" "Z") ∈ zWords := zmem 184 (by decide +kernel) (by decide +kernel)
theorem m_186 : (Jvm.Cond.laysFinal "ConditionRows" "ConditionRows" "fields" "LConditionRows$Fields;") ∈ zWords := zmem 186 (by decide +kernel) (by decide +kernel)
theorem m_188 : (Jvm.Cond.laysFinal "ConditionRows" "ConditionRows" "weights" "LConditionRows$Weights;") ∈ zWords := zmem 188 (by decide +kernel) (by decide +kernel)
theorem m_190 : (Jvm.Cond.laysFinal "ConditionRows" "ConditionRows" "names" "LConditionRows$Names;") ∈ zWords := zmem 190 (by decide +kernel) (by decide +kernel)
theorem m_192 : (Jvm.Cond.laysFinal "ConditionRows" "ConditionRows" "nodes" "LConditionRows$Nodes;") ∈ zWords := zmem 192 (by decide +kernel) (by decide +kernel)
theorem m_194 : (Jvm.Cond.laysFinal "ConditionRows" "ConditionRows" "row" "LConditionRows$Row;") ∈ zWords := zmem 194 (by decide +kernel) (by decide +kernel)
theorem m_196 : (Jvm.Cond.laysFinal "ConditionRows" "ConditionRows" "testing" "LConditionRows$Testing;") ∈ zWords := zmem 196 (by decide +kernel) (by decide +kernel)
theorem m_198 : (Jvm.Cond.laysFinal "ConditionRows" "ConditionRows" "switches" "[Z") ∈ zWords := zmem 198 (by decide +kernel) (by decide +kernel)
theorem m_200 : (Jvm.Cond.laysFinal "ConditionRows" "ConditionRows" "leftText" "[I") ∈ zWords := zmem 200 (by decide +kernel) (by decide +kernel)
theorem m_202 : (Jvm.Cond.laysFinal "ConditionRows" "ConditionRows" "rightText" "[I") ∈ zWords := zmem 202 (by decide +kernel) (by decide +kernel)
theorem m_40 : (Jvm.Cond.laysFinal "ConditionRows$Fields" "ConditionRows$Fields" "category" "[I") ∈ zWords := zmem 40 (by decide +kernel) (by decide +kernel)
theorem m_42 : (Jvm.Cond.laysFinal "ConditionRows$Fields" "ConditionRows$Fields" "size" "[I") ∈ zWords := zmem 42 (by decide +kernel) (by decide +kernel)
theorem m_44 : (Jvm.Cond.laysFinal "ConditionRows$Fields" "ConditionRows$Fields" "scale" "[I") ∈ zWords := zmem 44 (by decide +kernel) (by decide +kernel)
theorem m_46 : (Jvm.Cond.laysFinal "ConditionRows$Fields" "ConditionRows$Fields" "bytes" "[I") ∈ zWords := zmem 46 (by decide +kernel) (by decide +kernel)
theorem m_48 : (Jvm.Cond.lays "ConditionRows$Fields" "ConditionRows$Fields" "made" "I") ∈ zWords := zmem 48 (by decide +kernel) (by decide +kernel)
theorem m_60 : (Jvm.Cond.laysFinal "ConditionRows$Weights" "ConditionRows$Weights" "of" "[I") ∈ zWords := zmem 60 (by decide +kernel) (by decide +kernel)
theorem m_76 : (Jvm.Cond.laysFinal "ConditionRows$Names" "ConditionRows$Names" "field" "[I") ∈ zWords := zmem 76 (by decide +kernel) (by decide +kernel)
theorem m_78 : (Jvm.Cond.laysFinal "ConditionRows$Names" "ConditionRows$Names" "ranges" "[I") ∈ zWords := zmem 78 (by decide +kernel) (by decide +kernel)
theorem m_80 : (Jvm.Cond.laysFinal "ConditionRows$Names" "ConditionRows$Names" "low" "[J") ∈ zWords := zmem 80 (by decide +kernel) (by decide +kernel)
theorem m_82 : (Jvm.Cond.laysFinal "ConditionRows$Names" "ConditionRows$Names" "high" "[J") ∈ zWords := zmem 82 (by decide +kernel) (by decide +kernel)
theorem m_84 : (Jvm.Cond.lays "ConditionRows$Names" "ConditionRows$Names" "made" "I") ∈ zWords := zmem 84 (by decide +kernel) (by decide +kernel)
theorem m_102 : (Jvm.Cond.laysFinal "ConditionRows$Nodes" "ConditionRows$Nodes" "op" "[I") ∈ zWords := zmem 102 (by decide +kernel) (by decide +kernel)
theorem m_104 : (Jvm.Cond.laysFinal "ConditionRows$Nodes" "ConditionRows$Nodes" "a" "[I") ∈ zWords := zmem 104 (by decide +kernel) (by decide +kernel)
theorem m_106 : (Jvm.Cond.laysFinal "ConditionRows$Nodes" "ConditionRows$Nodes" "b" "[I") ∈ zWords := zmem 106 (by decide +kernel) (by decide +kernel)
theorem m_108 : (Jvm.Cond.lays "ConditionRows$Nodes" "ConditionRows$Nodes" "made" "I") ∈ zWords := zmem 108 (by decide +kernel) (by decide +kernel)
theorem m_131 : (Jvm.Cond.laysFinal "ConditionRows$Row" "ConditionRows$Row" "with" "[I") ∈ zWords := zmem 131 (by decide +kernel) (by decide +kernel)
theorem m_133 : (Jvm.Cond.laysFinal "ConditionRows$Row" "ConditionRows$Row" "op" "[I") ∈ zWords := zmem 133 (by decide +kernel) (by decide +kernel)
theorem m_135 : (Jvm.Cond.laysFinal "ConditionRows$Row" "ConditionRows$Row" "negated" "[Z") ∈ zWords := zmem 135 (by decide +kernel) (by decide +kernel)
theorem m_137 : (Jvm.Cond.laysFinal "ConditionRows$Row" "ConditionRows$Row" "object" "[I") ∈ zWords := zmem 137 (by decide +kernel) (by decide +kernel)
theorem m_139 : (Jvm.Cond.lays "ConditionRows$Row" "ConditionRows$Row" "subject" "I") ∈ zWords := zmem 139 (by decide +kernel) (by decide +kernel)
theorem m_141 : (Jvm.Cond.lays "ConditionRows$Row" "ConditionRows$Row" "carried" "I") ∈ zWords := zmem 141 (by decide +kernel) (by decide +kernel)
theorem m_143 : (Jvm.Cond.lays "ConditionRows$Row" "ConditionRows$Row" "length" "I") ∈ zWords := zmem 143 (by decide +kernel) (by decide +kernel)
theorem m_163 : (Jvm.Cond.laysFinal "ConditionRows$Testing" "ConditionRows$Testing" "outcome" "[I") ∈ zWords := zmem 163 (by decide +kernel) (by decide +kernel)
theorem m_165 : (Jvm.Cond.laysFinal "ConditionRows$Testing" "ConditionRows$Testing" "leaves" "[I") ∈ zWords := zmem 165 (by decide +kernel) (by decide +kernel)
theorem m_167 : (Jvm.Cond.laysFinal "ConditionRows$Testing" "ConditionRows$Testing" "waiting" "[I") ∈ zWords := zmem 167 (by decide +kernel) (by decide +kernel)
theorem m_169 : (Jvm.Cond.lays "ConditionRows$Testing" "ConditionRows$Testing" "noted" "I") ∈ zWords := zmem 169 (by decide +kernel) (by decide +kernel)
theorem m_171 : (Jvm.Cond.lays "ConditionRows$Testing" "ConditionRows$Testing" "depth" "I") ∈ zWords := zmem 171 (by decide +kernel) (by decide +kernel)
theorem m_627 : (Jvm.Cond.laysFinal "ConditionRowsModel" "ConditionRowsModel" "whole" "Z") ∈ zWords := zmem 627 (by decide +kernel) (by decide +kernel)
theorem m_629 : (Jvm.Cond.lays "ConditionRowsModel" "ConditionRowsModel" "thrown" "I") ∈ zWords := zmem 629 (by decide +kernel) (by decide +kernel)
theorem m_631 : (Jvm.Cond.laysFinal "ConditionRowsModel" "ConditionRowsModel" "bytes" "[I") ∈ zWords := zmem 631 (by decide +kernel) (by decide +kernel)
theorem m_633 : (Jvm.Cond.laysFinal "ConditionRowsModel" "ConditionRowsModel" "categories" "[I") ∈ zWords := zmem 633 (by decide +kernel) (by decide +kernel)
theorem m_635 : (Jvm.Cond.laysFinal "ConditionRowsModel" "ConditionRowsModel" "sizes" "[I") ∈ zWords := zmem 635 (by decide +kernel) (by decide +kernel)
theorem m_637 : (Jvm.Cond.laysFinal "ConditionRowsModel" "ConditionRowsModel" "scales" "[I") ∈ zWords := zmem 637 (by decide +kernel) (by decide +kernel)
theorem m_639 : (Jvm.Cond.laysFinal "ConditionRowsModel" "ConditionRowsModel" "weights" "[I") ∈ zWords := zmem 639 (by decide +kernel) (by decide +kernel)
theorem m_641 : (Jvm.Cond.lays "ConditionRowsModel" "ConditionRowsModel" "fields" "I") ∈ zWords := zmem 641 (by decide +kernel) (by decide +kernel)
theorem m_643 : (Jvm.Cond.laysFinal "ConditionRowsModel" "ConditionRowsModel" "ops" "[I") ∈ zWords := zmem 643 (by decide +kernel) (by decide +kernel)
theorem m_645 : (Jvm.Cond.laysFinal "ConditionRowsModel" "ConditionRowsModel" "as" "[I") ∈ zWords := zmem 645 (by decide +kernel) (by decide +kernel)
theorem m_647 : (Jvm.Cond.laysFinal "ConditionRowsModel" "ConditionRowsModel" "bs" "[I") ∈ zWords := zmem 647 (by decide +kernel) (by decide +kernel)
theorem m_649 : (Jvm.Cond.lays "ConditionRowsModel" "ConditionRowsModel" "nodes" "I") ∈ zWords := zmem 649 (by decide +kernel) (by decide +kernel)
theorem m_651 : (Jvm.Cond.laysFinal "ConditionRowsModel" "ConditionRowsModel" "nameFields" "[I") ∈ zWords := zmem 651 (by decide +kernel) (by decide +kernel)
theorem m_653 : (Jvm.Cond.laysFinal "ConditionRowsModel" "ConditionRowsModel" "ranges" "[I") ∈ zWords := zmem 653 (by decide +kernel) (by decide +kernel)
theorem m_655 : (Jvm.Cond.laysFinal "ConditionRowsModel" "ConditionRowsModel" "lows" "[J") ∈ zWords := zmem 655 (by decide +kernel) (by decide +kernel)
theorem m_657 : (Jvm.Cond.laysFinal "ConditionRowsModel" "ConditionRowsModel" "highs" "[J") ∈ zWords := zmem 657 (by decide +kernel) (by decide +kernel)
theorem m_659 : (Jvm.Cond.lays "ConditionRowsModel" "ConditionRowsModel" "names" "I") ∈ zWords := zmem 659 (by decide +kernel) (by decide +kernel)
theorem m_661 : (Jvm.Cond.laysFinal "ConditionRowsModel" "ConditionRowsModel" "switches" "[Z") ∈ zWords := zmem 661 (by decide +kernel) (by decide +kernel)
theorem m_663 : (Jvm.Cond.laysFinal "ConditionRowsModel" "ConditionRowsModel" "ways" "[I") ∈ zWords := zmem 663 (by decide +kernel) (by decide +kernel)
theorem m_665 : (Jvm.Cond.laysFinal "ConditionRowsModel" "ConditionRowsModel" "rowOps" "[I") ∈ zWords := zmem 665 (by decide +kernel) (by decide +kernel)
theorem m_667 : (Jvm.Cond.laysFinal "ConditionRowsModel" "ConditionRowsModel" "objects" "[I") ∈ zWords := zmem 667 (by decide +kernel) (by decide +kernel)
theorem m_669 : (Jvm.Cond.laysFinal "ConditionRowsModel" "ConditionRowsModel" "turned" "[Z") ∈ zWords := zmem 669 (by decide +kernel) (by decide +kernel)
theorem m_671 : (Jvm.Cond.lays "ConditionRowsModel" "ConditionRowsModel" "row" "I") ∈ zWords := zmem 671 (by decide +kernel) (by decide +kernel)
theorem m_673 : (Jvm.Cond.lays "ConditionRowsModel" "ConditionRowsModel" "subject" "I") ∈ zWords := zmem 673 (by decide +kernel) (by decide +kernel)
theorem m_675 : (Jvm.Cond.laysFinal "ConditionRowsModel" "ConditionRowsModel" "known" "[I") ∈ zWords := zmem 675 (by decide +kernel) (by decide +kernel)
theorem m_677 : (Jvm.Cond.laysFinal "ConditionRowsModel" "ConditionRowsModel" "pile" "[I") ∈ zWords := zmem 677 (by decide +kernel) (by decide +kernel)
theorem m_679 : (Jvm.Cond.laysFinal "ConditionRowsModel" "ConditionRowsModel" "leaves" "[I") ∈ zWords := zmem 679 (by decide +kernel) (by decide +kernel)
theorem m_681 : (Jvm.Cond.lays "ConditionRowsModel" "ConditionRowsModel" "noted" "I") ∈ zWords := zmem 681 (by decide +kernel) (by decide +kernel)
theorem m_683 : (Jvm.Cond.lays "ConditionRowsModel" "ConditionRowsModel" "fault" "Z") ∈ zWords := zmem 683 (by decide +kernel) (by decide +kernel)
theorem m_685 : (Jvm.Cond.laysFinal "ConditionRowsModel" "ConditionRowsModel" "digits" "[I") ∈ zWords := zmem 685 (by decide +kernel) (by decide +kernel)
theorem inX : ∀ w ∈ u_ws RX TX 10, w ∈ zWords := by
  intro w hw
  obtain ⟨k, hk, rfl⟩ := List.mem_map.mp hw
  have hk := List.mem_range.mp hk
  rcases (show k = 0 ∨ k = 1 ∨ k = 2 ∨ k = 3 ∨ k = 4 ∨ k = 5 ∨ k = 6 ∨ k = 7 ∨ k = 8 ∨ k = 9 by omega) with rfl | rfl | rfl | rfl | rfl | rfl | rfl | rfl | rfl | rfl
  · exact m_184
  · exact m_186
  · exact m_188
  · exact m_190
  · exact m_192
  · exact m_194
  · exact m_196
  · exact m_198
  · exact m_200
  · exact m_202
theorem inXF : ∀ w ∈ u_ws RXF TXF 5, w ∈ zWords := by
  intro w hw
  obtain ⟨k, hk, rfl⟩ := List.mem_map.mp hw
  have hk := List.mem_range.mp hk
  rcases (show k = 0 ∨ k = 1 ∨ k = 2 ∨ k = 3 ∨ k = 4 by omega) with rfl | rfl | rfl | rfl | rfl
  · exact m_40
  · exact m_42
  · exact m_44
  · exact m_46
  · exact m_48
theorem inXW : ∀ w ∈ u_ws RXW TXW 1, w ∈ zWords := by
  intro w hw
  obtain ⟨k, hk, rfl⟩ := List.mem_map.mp hw
  have hk := List.mem_range.mp hk
  rcases (show k = 0 by omega) with rfl
  · exact m_60
theorem inXN : ∀ w ∈ u_ws RXN TXN 5, w ∈ zWords := by
  intro w hw
  obtain ⟨k, hk, rfl⟩ := List.mem_map.mp hw
  have hk := List.mem_range.mp hk
  rcases (show k = 0 ∨ k = 1 ∨ k = 2 ∨ k = 3 ∨ k = 4 by omega) with rfl | rfl | rfl | rfl | rfl
  · exact m_76
  · exact m_78
  · exact m_80
  · exact m_82
  · exact m_84
theorem inXO : ∀ w ∈ u_ws RXO TXO 4, w ∈ zWords := by
  intro w hw
  obtain ⟨k, hk, rfl⟩ := List.mem_map.mp hw
  have hk := List.mem_range.mp hk
  rcases (show k = 0 ∨ k = 1 ∨ k = 2 ∨ k = 3 by omega) with rfl | rfl | rfl | rfl
  · exact m_102
  · exact m_104
  · exact m_106
  · exact m_108
theorem inXR : ∀ w ∈ u_ws RXR TXR 7, w ∈ zWords := by
  intro w hw
  obtain ⟨k, hk, rfl⟩ := List.mem_map.mp hw
  have hk := List.mem_range.mp hk
  rcases (show k = 0 ∨ k = 1 ∨ k = 2 ∨ k = 3 ∨ k = 4 ∨ k = 5 ∨ k = 6 by omega) with rfl | rfl | rfl | rfl | rfl | rfl | rfl
  · exact m_131
  · exact m_133
  · exact m_135
  · exact m_137
  · exact m_139
  · exact m_141
  · exact m_143
theorem inXT : ∀ w ∈ u_ws RXT TXT 5, w ∈ zWords := by
  intro w hw
  obtain ⟨k, hk, rfl⟩ := List.mem_map.mp hw
  have hk := List.mem_range.mp hk
  rcases (show k = 0 ∨ k = 1 ∨ k = 2 ∨ k = 3 ∨ k = 4 by omega) with rfl | rfl | rfl | rfl | rfl
  · exact m_163
  · exact m_165
  · exact m_167
  · exact m_169
  · exact m_171
theorem inM : ∀ w ∈ u_ws RM TM 30, w ∈ zWords := by
  intro w hw
  obtain ⟨k, hk, rfl⟩ := List.mem_map.mp hw
  have hk := List.mem_range.mp hk
  rcases (show k = 0 ∨ k = 1 ∨ k = 2 ∨ k = 3 ∨ k = 4 ∨ k = 5 ∨ k = 6 ∨ k = 7 ∨ k = 8 ∨ k = 9 ∨ k = 10 ∨ k = 11 ∨ k = 12 ∨ k = 13 ∨ k = 14 ∨ k = 15 ∨ k = 16 ∨ k = 17 ∨ k = 18 ∨ k = 19 ∨ k = 20 ∨ k = 21 ∨ k = 22 ∨ k = 23 ∨ k = 24 ∨ k = 25 ∨ k = 26 ∨ k = 27 ∨ k = 28 ∨ k = 29 by omega) with rfl | rfl | rfl | rfl | rfl | rfl | rfl | rfl | rfl | rfl | rfl | rfl | rfl | rfl | rfl | rfl | rfl | rfl | rfl | rfl | rfl | rfl | rfl | rfl | rfl | rfl | rfl | rfl | rfl | rfl
  · exact m_627
  · exact m_629
  · exact m_631
  · exact m_633
  · exact m_635
  · exact m_637
  · exact m_639
  · exact m_641
  · exact m_643
  · exact m_645
  · exact m_647
  · exact m_649
  · exact m_651
  · exact m_653
  · exact m_655
  · exact m_657
  · exact m_659
  · exact m_661
  · exact m_663
  · exact m_665
  · exact m_667
  · exact m_669
  · exact m_671
  · exact m_673
  · exact m_675
  · exact m_677
  · exact m_679
  · exact m_681
  · exact m_683
  · exact m_685
def zN : List Cond := [(Jvm.Cond.methodLinkNest "ConditionRows" (9 : Nat) ({ cls := "ConditionRows$Fields", name := "<init>", desc := "()V" } : Jvm.MethodName) "ConditionRows"),
  (Jvm.Cond.fieldLinkNest "ConditionRows" (78 : Nat) "ConditionRows$Fields" "size" "[I" "ConditionRows"),
  (Jvm.Cond.fieldLinkNest "ConditionRows" (87 : Nat) "ConditionRows$Fields" "scale" "[I" "ConditionRows"),
  (Jvm.Cond.fieldLinkNest "ConditionRows" (81 : Nat) "ConditionRows$Fields" "bytes" "[I" "ConditionRows"),
  (Jvm.Cond.fieldLinkNest "ConditionRows" (186 : Nat) "ConditionRows$Fields" "made" "I" "ConditionRows"),
  (Jvm.Cond.fieldLinkNest "ConditionRows" (93 : Nat) "ConditionRows$Weights" "of" "[I" "ConditionRows"),
  (Jvm.Cond.methodLinkNest "ConditionRows" (25 : Nat) ({ cls := "ConditionRows$Names", name := "<init>", desc := "()V" } : Jvm.MethodName) "ConditionRows"),
  (Jvm.Cond.fieldLinkNest "ConditionRows" (114 : Nat) "ConditionRows$Names" "field" "[I" "ConditionRows"),
  (Jvm.Cond.fieldLinkNest "ConditionRows" (187 : Nat) "ConditionRows$Names" "made" "I" "ConditionRows"),
  (Jvm.Cond.methodLinkNest "ConditionRows" (32 : Nat) ({ cls := "ConditionRows$Nodes", name := "<init>", desc := "()V" } : Jvm.MethodName) "ConditionRows"),
  (Jvm.Cond.fieldLinkNest "ConditionRows" (238 : Nat) "ConditionRows$Nodes" "op" "[I" "ConditionRows"),
  (Jvm.Cond.fieldLinkNest "ConditionRows" (251 : Nat) "ConditionRows$Nodes" "a" "[I" "ConditionRows"),
  (Jvm.Cond.fieldLinkNest "ConditionRows" (254 : Nat) "ConditionRows$Nodes" "b" "[I" "ConditionRows"),
  (Jvm.Cond.fieldLinkNest "ConditionRows" (145 : Nat) "ConditionRows$Nodes" "made" "I" "ConditionRows"),
  (Jvm.Cond.methodLinkNest "ConditionRows" (39 : Nat) ({ cls := "ConditionRows$Row", name := "<init>", desc := "()V" } : Jvm.MethodName) "ConditionRows"),
  (Jvm.Cond.fieldLinkNest "ConditionRows" (202 : Nat) "ConditionRows$Row" "with" "[I" "ConditionRows"),
  (Jvm.Cond.fieldLinkNest "ConditionRows" (211 : Nat) "ConditionRows$Row" "op" "[I" "ConditionRows"),
  (Jvm.Cond.fieldLinkNest "ConditionRows" (220 : Nat) "ConditionRows$Row" "negated" "[Z" "ConditionRows"),
  (Jvm.Cond.fieldLinkNest "ConditionRows" (217 : Nat) "ConditionRows$Row" "object" "[I" "ConditionRows"),
  (Jvm.Cond.fieldLinkNest "ConditionRows" (214 : Nat) "ConditionRows$Row" "subject" "I" "ConditionRows"),
  (Jvm.Cond.fieldLinkNest "ConditionRows" (131 : Nat) "ConditionRows$Row" "carried" "I" "ConditionRows"),
  (Jvm.Cond.fieldLinkNest "ConditionRows" (127 : Nat) "ConditionRows$Row" "length" "I" "ConditionRows"),
  (Jvm.Cond.methodLinkNest "ConditionRows" (46 : Nat) ({ cls := "ConditionRows$Testing", name := "<init>", desc := "()V" } : Jvm.MethodName) "ConditionRows"),
  (Jvm.Cond.fieldLinkNest "ConditionRows" (248 : Nat) "ConditionRows$Testing" "outcome" "[I" "ConditionRows"),
  (Jvm.Cond.fieldLinkNest "ConditionRows" (170 : Nat) "ConditionRows$Testing" "leaves" "[I" "ConditionRows"),
  (Jvm.Cond.fieldLinkNest "ConditionRows" (232 : Nat) "ConditionRows$Testing" "waiting" "[I" "ConditionRows"),
  (Jvm.Cond.fieldLinkNest "ConditionRows" (167 : Nat) "ConditionRows$Testing" "noted" "I" "ConditionRows"),
  (Jvm.Cond.fieldLinkNest "ConditionRows" (229 : Nat) "ConditionRows$Testing" "depth" "I" "ConditionRows"),
  (Jvm.Cond.methodLinkNest "ConditionRows$Names" (33 : Nat) ({ cls := "ConditionRows", name := "isBelowUnsigned", desc := "(JJ)Z" } : Jvm.MethodName) "ConditionRows"),
  (Jvm.Cond.fieldLinkNest "ConditionRows$Fields" (67 : Nat) "ConditionRows" "TENS" "[J" "ConditionRows")]
theorem zn_0 : (Jvm.Cond.methodLinkNest "ConditionRows" (9 : Nat) ({ cls := "ConditionRows$Fields", name := "<init>", desc := "()V" } : Jvm.MethodName) "ConditionRows") ∈ zN := List.mem_of_getElem? (i := 0) rfl
theorem zn_1 : (Jvm.Cond.fieldLinkNest "ConditionRows" (78 : Nat) "ConditionRows$Fields" "size" "[I" "ConditionRows") ∈ zN := List.mem_of_getElem? (i := 1) rfl
theorem zn_2 : (Jvm.Cond.fieldLinkNest "ConditionRows" (87 : Nat) "ConditionRows$Fields" "scale" "[I" "ConditionRows") ∈ zN := List.mem_of_getElem? (i := 2) rfl
theorem zn_3 : (Jvm.Cond.fieldLinkNest "ConditionRows" (81 : Nat) "ConditionRows$Fields" "bytes" "[I" "ConditionRows") ∈ zN := List.mem_of_getElem? (i := 3) rfl
theorem zn_4 : (Jvm.Cond.fieldLinkNest "ConditionRows" (186 : Nat) "ConditionRows$Fields" "made" "I" "ConditionRows") ∈ zN := List.mem_of_getElem? (i := 4) rfl
theorem zn_5 : (Jvm.Cond.fieldLinkNest "ConditionRows" (93 : Nat) "ConditionRows$Weights" "of" "[I" "ConditionRows") ∈ zN := List.mem_of_getElem? (i := 5) rfl
theorem zn_6 : (Jvm.Cond.methodLinkNest "ConditionRows" (25 : Nat) ({ cls := "ConditionRows$Names", name := "<init>", desc := "()V" } : Jvm.MethodName) "ConditionRows") ∈ zN := List.mem_of_getElem? (i := 6) rfl
theorem zn_7 : (Jvm.Cond.fieldLinkNest "ConditionRows" (114 : Nat) "ConditionRows$Names" "field" "[I" "ConditionRows") ∈ zN := List.mem_of_getElem? (i := 7) rfl
theorem zn_8 : (Jvm.Cond.fieldLinkNest "ConditionRows" (187 : Nat) "ConditionRows$Names" "made" "I" "ConditionRows") ∈ zN := List.mem_of_getElem? (i := 8) rfl
theorem zn_9 : (Jvm.Cond.methodLinkNest "ConditionRows" (32 : Nat) ({ cls := "ConditionRows$Nodes", name := "<init>", desc := "()V" } : Jvm.MethodName) "ConditionRows") ∈ zN := List.mem_of_getElem? (i := 9) rfl
theorem zn_10 : (Jvm.Cond.fieldLinkNest "ConditionRows" (238 : Nat) "ConditionRows$Nodes" "op" "[I" "ConditionRows") ∈ zN := List.mem_of_getElem? (i := 10) rfl
theorem zn_11 : (Jvm.Cond.fieldLinkNest "ConditionRows" (251 : Nat) "ConditionRows$Nodes" "a" "[I" "ConditionRows") ∈ zN := List.mem_of_getElem? (i := 11) rfl
theorem zn_12 : (Jvm.Cond.fieldLinkNest "ConditionRows" (254 : Nat) "ConditionRows$Nodes" "b" "[I" "ConditionRows") ∈ zN := List.mem_of_getElem? (i := 12) rfl
theorem zn_13 : (Jvm.Cond.fieldLinkNest "ConditionRows" (145 : Nat) "ConditionRows$Nodes" "made" "I" "ConditionRows") ∈ zN := List.mem_of_getElem? (i := 13) rfl
theorem zn_14 : (Jvm.Cond.methodLinkNest "ConditionRows" (39 : Nat) ({ cls := "ConditionRows$Row", name := "<init>", desc := "()V" } : Jvm.MethodName) "ConditionRows") ∈ zN := List.mem_of_getElem? (i := 14) rfl
theorem zn_15 : (Jvm.Cond.fieldLinkNest "ConditionRows" (202 : Nat) "ConditionRows$Row" "with" "[I" "ConditionRows") ∈ zN := List.mem_of_getElem? (i := 15) rfl
theorem zn_16 : (Jvm.Cond.fieldLinkNest "ConditionRows" (211 : Nat) "ConditionRows$Row" "op" "[I" "ConditionRows") ∈ zN := List.mem_of_getElem? (i := 16) rfl
theorem zn_17 : (Jvm.Cond.fieldLinkNest "ConditionRows" (220 : Nat) "ConditionRows$Row" "negated" "[Z" "ConditionRows") ∈ zN := List.mem_of_getElem? (i := 17) rfl
theorem zn_18 : (Jvm.Cond.fieldLinkNest "ConditionRows" (217 : Nat) "ConditionRows$Row" "object" "[I" "ConditionRows") ∈ zN := List.mem_of_getElem? (i := 18) rfl
theorem zn_19 : (Jvm.Cond.fieldLinkNest "ConditionRows" (214 : Nat) "ConditionRows$Row" "subject" "I" "ConditionRows") ∈ zN := List.mem_of_getElem? (i := 19) rfl
theorem zn_20 : (Jvm.Cond.fieldLinkNest "ConditionRows" (131 : Nat) "ConditionRows$Row" "carried" "I" "ConditionRows") ∈ zN := List.mem_of_getElem? (i := 20) rfl
theorem zn_21 : (Jvm.Cond.fieldLinkNest "ConditionRows" (127 : Nat) "ConditionRows$Row" "length" "I" "ConditionRows") ∈ zN := List.mem_of_getElem? (i := 21) rfl
theorem zn_22 : (Jvm.Cond.methodLinkNest "ConditionRows" (46 : Nat) ({ cls := "ConditionRows$Testing", name := "<init>", desc := "()V" } : Jvm.MethodName) "ConditionRows") ∈ zN := List.mem_of_getElem? (i := 22) rfl
theorem zn_23 : (Jvm.Cond.fieldLinkNest "ConditionRows" (248 : Nat) "ConditionRows$Testing" "outcome" "[I" "ConditionRows") ∈ zN := List.mem_of_getElem? (i := 23) rfl
theorem zn_24 : (Jvm.Cond.fieldLinkNest "ConditionRows" (170 : Nat) "ConditionRows$Testing" "leaves" "[I" "ConditionRows") ∈ zN := List.mem_of_getElem? (i := 24) rfl
theorem zn_25 : (Jvm.Cond.fieldLinkNest "ConditionRows" (232 : Nat) "ConditionRows$Testing" "waiting" "[I" "ConditionRows") ∈ zN := List.mem_of_getElem? (i := 25) rfl
theorem zn_26 : (Jvm.Cond.fieldLinkNest "ConditionRows" (167 : Nat) "ConditionRows$Testing" "noted" "I" "ConditionRows") ∈ zN := List.mem_of_getElem? (i := 26) rfl
theorem zn_27 : (Jvm.Cond.fieldLinkNest "ConditionRows" (229 : Nat) "ConditionRows$Testing" "depth" "I" "ConditionRows") ∈ zN := List.mem_of_getElem? (i := 27) rfl
theorem zn_28 : (Jvm.Cond.methodLinkNest "ConditionRows$Names" (33 : Nat) ({ cls := "ConditionRows", name := "isBelowUnsigned", desc := "(JJ)Z" } : Jvm.MethodName) "ConditionRows") ∈ zN := List.mem_of_getElem? (i := 28) rfl
theorem zn_29 : (Jvm.Cond.fieldLinkNest "ConditionRows$Fields" (67 : Nat) "ConditionRows" "TENS" "[J" "ConditionRows") ∈ zN := List.mem_of_getElem? (i := 29) rfl
end
section
/-! our frame: a world of fixed cells, what a method is given (zPc), what it hands back (zQi ..), its calls -/
abbrev zK : Type := Nat × ClassId × ClassId × ClassId
def zty (k : zK) : List (ClassId × FieldType) := [(k.2.1, .int), (k.2.2.1, .long), (k.2.2.2, .boolean)]
def zA (n : Nat) (a : Nat → Nat) : Nat → Prop := fun q => ∃ j, j < n ∧ q = a j
def zI (n : Nat) (a : Nat → Nat) : Prop := ∀ i j, i < n → j < n → a i = a j → i = j
theorem zDg {n : Nat} {a : Nat → Nat} {ws : va_W} (hI : zI n a) (h : ws.map (fun q => q.1) = (List.range n).map a) : va_D (zA n a) ws := by
  have key : ∀ (i : Nat) (p : Nat × va_E), ws[i]? = some p → i < n ∧ p.1 = a i := by
    intro i p hp
    have h1 : (ws.map (fun q => q.1))[i]? = some p.1 := by rw [List.getElem?_map, hp]; rfl
    rw [h, List.getElem?_map] at h1
    by_cases hi : i < n
    · rw [List.getElem?_range hi] at h1
      exact ⟨hi, (Option.some.inj h1).symm⟩
    · rw [List.getElem?_eq_none (by simp; omega)] at h1
      cases h1
  refine ⟨fun i j p q hp hq e => ?_, fun i p hp => ?_⟩
  · obtain ⟨h1, h2⟩ := key i p hp
    obtain ⟨h3, h4⟩ := key j q hq
    exact hI i j h1 h3 (by rw [← h2, ← h4]; exact e)
  · obtain ⟨h1, h2⟩ := key i p hp
    exact ⟨i, h1, h2⟩
def zNk : Cond → Bool
  | .fieldLinkNest .. => true
  | .methodLinkNest .. => true
  | _ => false
theorem zNk_at {w : Cond} (h : zNk w = true) {s U : State} (hW : s.WarmedH U.vm) (hz : va_Nw w s) : va_Nw w U := by
  cases w <;> first | exact va_Nw.warmF hW hz | exact va_Nw.warmM hW hz | (exact absurd h (by simp [zNk]))
theorem zN_k : ∀ w ∈ zN, zNk w = true := by decide +kernel
def tensL : List Int64 := [1, 10, 100, 1000, 10000, 100000, 1000000, 10000000, 100000000, 1000000000]
def tens (j : Nat) : Int64 := tensL.getD j 0
/-- the surroundings: the tables, the nest's links, the class's one static table -/
def zE (D : va_G) (k : zK) (A : Nat → Prop) (U : State) : Prop := va_K D vwCl (zty k) U ∧ (∀ w ∈ zN, va_Nw w U) ∧ va_Z "ConditionRows" "TENS" "[J" (.ref k.1) A U U.heap ∧ va_T .long k.1 10 (fun j => .long (tens j)) A U U.heap
theorem zE.to {D : va_G} {k : zK} {A : Nat → Prop} {s U : State} {H : Heap} (h : zE D k A s) (hq : ∀ q : Nat, q < s.heap.size → ¬ A q → H[q]? = s.heap[q]?) (hW : s.WarmedH U.vm) (hU : U.heap = H) : zE D k A U := by
  obtain ⟨h1, h2, h3, h4⟩ := h
  refine ⟨va_K.moved hW.alike h1, fun w hw => zNk_at (zN_k w hw) hW (h2 w hw), ?_, ?_⟩
  · rw [hU]; exact va_Z.moved hW.alike (h3.kept hq)
  · rw [hU]; exact va_T.moved hW.alike (h4.kept hq)
theorem zE.blind {D : va_G} {k : zK} {A : Nat → Prop} {U : State} (h : zE D k A U) (g : JFrame) (mk : MethodId) (a : Array Value) : zE D k A (U.calling g mk a) :=
  h.to (fun _ _ _ => rfl) (State.WarmedH.refl U) rfl
def zPc (D : va_G) (k : zK) (A : Nat → Prop) (w : va_W) (av : List Value) : Array Value → State → Prop := va_Pc av (fun U => va_P D vwCl w U.heap ∧ zE D k A U)
theorem zpreS {D : va_G} {k : zK} {A : Nat → Prop} {w : va_W} {s : State} {H : Heap} {As : List Value} (hP : va_P D vwCl w H) (hE : zE D k A s) (hq : ∀ q : Nat, q < s.heap.size → ¬ A q → H[q]? = s.heap[q]?) : PreS s H (zPc D k A w As) As :=
  ⟨fun a U g mk q => ⟨q.1, q.2.1, q.2.2.blind g mk a⟩, fun U hU hW => ⟨rfl, by rw [hU]; exact hP, hE.to hq hW hU⟩⟩
theorem zpre {D : va_G} {k : zK} {A : Nat → Prop} {w : va_W} {s : State} {H : Heap} {As : List Value} {C : String} {b : Addr} (hP : va_P D vwCl w H) (hE : zE D k A s) (hq : ∀ q : Nat, q < s.heap.size → ¬ A q → H[q]? = s.heap[q]?) (hr : ∃ cellB : Cell, H[b]? = some cellB ∧ cellB.vm.isStatics = false ∧ s.vm.findClass C = some cellB.cls) : PreV s H C b (zPc D k A w (.ref b :: As)) As :=
  ⟨fun a U g mk q => ⟨q.1, q.2.1, q.2.2.blind g mk a⟩, hr, fun U hU hW => ⟨rfl, by rw [hU]; exact hP, hE.to hq hW hU⟩⟩
def zQi {S : Type} (D : va_G) (w : S → va_W) (A : Nat → Prop) (rs : Int32 × S) : Array Value → State → Outcome → State → Prop := fun _ st oc t => oc = .returned (some (.int rs.1)) ∧ va_P D vwCl (w rs.2) t.heap ∧ va_F A st t
def zQl {S : Type} (D : va_G) (w : S → va_W) (A : Nat → Prop) (rs : Int64 × S) : Array Value → State → Outcome → State → Prop := fun _ st oc t => oc = .returned (some (.long rs.1)) ∧ va_P D vwCl (w rs.2) t.heap ∧ va_F A st t
def zQv {S : Type} (D : va_G) (w : S → va_W) (A : Nat → Prop) (u : S) : Array Value → State → Outcome → State → Prop := fun _ st oc t => oc = .returned none ∧ va_P D vwCl (w u) t.heap ∧ va_F A st t
def zC (p : Program) (s : State) (m : MethodId) (args : Array Value) (meth : Method) (c : Code) (cc : ByteArray) (ret : Option FieldType) (nL : Nat) (own : String) (ws : List Cond) (D : va_G) (k : zK) (A : Nat → Prop) : Prop :=
  p.tables.exec = Jvm.exec ∧ c.code = cc ∧ meth.sig.returnType = ret ∧ c.maxLocals = nL ∧ s.vm.findClass own = some m.cls ∧ (∀ w ∈ ws, w.before args s = true) ∧ meth.locks = false ∧ zE D k A s
theorem zt {α : Sort _} {c : Prop} {i : Decidable c} {a b t : α} (e : @ite α c i a b = t) (h : c) : a = t := (if_pos h).symm.trans e
theorem zn {α : Sort _} {c : Prop} {i : Decidable c} {a b t : α} (e : @ite α c i a b = t) (h : ¬ c) : b = t := (if_neg h).symm.trans e
theorem zgt {c : Prop} {i : Decidable c} {A B : Prop} (e : @ite Prop c i A B) (h : c) : A := by rw [if_pos h] at e; exact e
theorem zgn {c : Prop} {i : Decidable c} {A B : Prop} (e : @ite Prop c i A B) (h : ¬ c) : B := by rw [if_neg h] at e; exact e
theorem zb {x : Int32} (h : x = 0 ∨ x = 1) : narrow .boolean (.int x) = .int x := by rcases h with h | h <;> (subst h; rfl)
def zlet {α : Type} {β : Sort _} (x : α) (f : α → β) : β := f x
theorem zlets {S β : Type} {E : S} {w : S → va_W} {D : va_G} {H : Heap} {f : S → β} {t : β} {g : S → Prop} (hP : va_P D vwCl (w E) H) (hf : zlet E f = t) (hg : zlet E g) : ∃ z, va_P D vwCl (w z) H ∧ f z = t ∧ g z := ⟨E, hP, hf, hg⟩
section ZM
variable {p : Program} {l : Launch} {e : Env} {R : Room} {s : State} {m : MethodId} {args : Array Value} {below : List Frame} {meth : Method} {c : Code} {H : Heap} {locs : List Loc} {cells slots : Nat} {Q : State → Prop}
variable {pc : Nat} {ls : Array Slot} {rest st0 : List Value} {a : Array Value} {A A0 : Nat → Prop} {H0 : Heap} {D : va_G} {S : Type} {w : S → va_W}
theorem zS_call {L : List Loc} {st₀ t T' : State} (hS : va_S A0 H0 H locs) (hA : ∀ q, A q → A0 q) (h0 : st₀.heap = H) (e1 : T'.heap = t.heap) (hL : ∀ q ∈ L, A q.base) (hF : va_F A st₀ t) : va_S A0 H0 T'.heap (locs ++ L) ∧ H.size ≤ T'.heap.size ∧ ∀ q : Nat, q < H.size → ¬ A q → T'.heap[q]? = H[q]? := by
  obtain ⟨f1, f2⟩ := hF
  rw [h0] at f1 f2
  rw [e1]
  refine ⟨⟨Nat.le_trans hS.1 f1, fun q h1 h2 => ?_, fun q hq => ?_⟩, f1, f2⟩
  · rw [f2 q (Nat.lt_of_lt_of_le h1 hS.1) (fun z => h2 (hA q z))]
    exact hS.2.1 q h1 h2
  · rcases List.mem_append.mp hq with h | h
    · exact hS.2.2 q h
    · exact hA _ (hL q h)
theorem zmuI {rs : Int32 × S} (hr : CallRun p l e R s m args below meth c H locs cells slots 0 0 (F0 m pc ls st0) rest (zQi D w A rs a) A) (hS : va_S A0 H0 H locs) (hA : ∀ q, A q → A0 q)
    (kk : ∀ (H1 : Heap) (locs1 : List Loc), va_P D vwCl (w rs.2) H1 → va_S A0 H0 H1 locs1 → H.size ≤ H1.size → (∀ q : Nat, q < H.size → ¬ A q → H1[q]? = H[q]?) → W p l e R s m args below meth c H1 locs1 cells slots Q (F0 m (pc + 3) ls (.int rs.1 :: rest))) : W p l e R s m args below meth c H locs cells slots Q (F0 m pc ls st0) := by
  intro T hT X
  obtain ⟨v, st₀, t, T', L, h0, X', hL, e1, ⟨hv, hp, hF⟩, st⟩ := hr T hT X
  cases hv
  obtain ⟨g1, g2, g3⟩ := zS_call (T' := T') hS hA h0 e1 hL hF
  obtain ⟨t2, a1, b1⟩ := kk T'.heap (locs ++ L) (by rw [e1]; exact hp) g1 g2 g3 T' rfl X'
  exact ⟨t2, st t2 a1, b1⟩
theorem zmuL {rs : Int64 × S} (hr : CallRun p l e R s m args below meth c H locs cells slots 0 0 (F0 m pc ls st0) rest (zQl D w A rs a) A) (hS : va_S A0 H0 H locs) (hA : ∀ q, A q → A0 q)
    (kk : ∀ (H1 : Heap) (locs1 : List Loc), va_P D vwCl (w rs.2) H1 → va_S A0 H0 H1 locs1 → H.size ≤ H1.size → (∀ q : Nat, q < H.size → ¬ A q → H1[q]? = H[q]?) → W p l e R s m args below meth c H1 locs1 cells slots Q (F0 m (pc + 3) ls (.long rs.1 :: rest))) : W p l e R s m args below meth c H locs cells slots Q (F0 m pc ls st0) := by
  intro T hT X
  obtain ⟨v, st₀, t, T', L, h0, X', hL, e1, ⟨hv, hp, hF⟩, st⟩ := hr T hT X
  cases hv
  obtain ⟨g1, g2, g3⟩ := zS_call (T' := T') hS hA h0 e1 hL hF
  obtain ⟨t2, a1, b1⟩ := kk T'.heap (locs ++ L) (by rw [e1]; exact hp) g1 g2 g3 T' rfl X'
  exact ⟨t2, st t2 a1, b1⟩
theorem zmuV {u : S} (hr : CallRun p l e R s m args below meth c H locs cells slots 0 0 (F0 m pc ls st0) rest (zQv D w A u a) A) (hS : va_S A0 H0 H locs) (hA : ∀ q, A q → A0 q)
    (kk : ∀ (H1 : Heap) (locs1 : List Loc), va_P D vwCl (w u) H1 → va_S A0 H0 H1 locs1 → H.size ≤ H1.size → (∀ q : Nat, q < H.size → ¬ A q → H1[q]? = H[q]?) → W p l e R s m args below meth c H1 locs1 cells slots Q (F0 m (pc + 3) ls rest)) : W p l e R s m args below meth c H locs cells slots Q (F0 m pc ls st0) := by
  intro T hT X
  obtain ⟨v, st₀, t, T', L, h0, X', hL, e1, ⟨hv, hp, hF⟩, st⟩ := hr T hT X
  cases hv
  obtain ⟨g1, g2, g3⟩ := zS_call (T' := T') hS hA h0 e1 hL hF
  obtain ⟨t2, a1, b1⟩ := kk T'.heap (locs ++ L) (by rw [e1]; exact hp) g1 g2 g3 T' rfl X'
  exact ⟨t2, st t2 a1, b1⟩
theorem zmui {rs : Int32 × S} {β : Type} {ff : Int32 × S → β} {tt : β} {gg : Int32 × S → Prop} (hr : CallRun p l e R s m args below meth c H locs cells slots 0 0 (F0 m pc ls st0) rest (zQi D w A rs a) A) (hS : va_S A H0 H locs) (hf : zlet rs ff = tt) (hg : zlet rs gg)
    (kk : ∀ (r : Int32 × S) (H1 : Heap) (locs1 : List Loc), ff r = tt → gg r → va_P D vwCl (w r.2) H1 → va_S A H0 H1 locs1 → W p l e R s m args below meth c H1 locs1 cells slots Q (F0 m (pc + 3) ls (.int r.1 :: rest))) : W p l e R s m args below meth c H locs cells slots Q (F0 m pc ls st0) :=
  zmuI hr hS (fun _ h => h) (fun H1 locs1 h1 h2 _ _ => kk rs H1 locs1 hf hg h1 h2)
theorem zmul {rs : Int64 × S} {β : Type} {ff : Int64 × S → β} {tt : β} {gg : Int64 × S → Prop} (hr : CallRun p l e R s m args below meth c H locs cells slots 0 0 (F0 m pc ls st0) rest (zQl D w A rs a) A) (hS : va_S A H0 H locs) (hf : zlet rs ff = tt) (hg : zlet rs gg)
    (kk : ∀ (r : Int64 × S) (H1 : Heap) (locs1 : List Loc), ff r = tt → gg r → va_P D vwCl (w r.2) H1 → va_S A H0 H1 locs1 → W p l e R s m args below meth c H1 locs1 cells slots Q (F0 m (pc + 3) ls (.long r.1 :: rest))) : W p l e R s m args below meth c H locs cells slots Q (F0 m pc ls st0) :=
  zmuL hr hS (fun _ h => h) (fun H1 locs1 h1 h2 _ _ => kk rs H1 locs1 hf hg h1 h2)
theorem zmuv {u : S} {β : Type} {ff : S → β} {tt : β} {gg : S → Prop} (hr : CallRun p l e R s m args below meth c H locs cells slots 0 0 (F0 m pc ls st0) rest (zQv D w A u a) A) (hS : va_S A H0 H locs) (hf : zlet u ff = tt) (hg : zlet u gg)
    (kk : ∀ (r : S) (H1 : Heap) (locs1 : List Loc), ff r = tt → gg r → va_P D vwCl (w r) H1 → va_S A H0 H1 locs1 → W p l e R s m args below meth c H1 locs1 cells slots Q (F0 m (pc + 3) ls rest)) : W p l e R s m args below meth c H locs cells slots Q (F0 m pc ls st0) :=
  zmuV hr hS (fun _ h => h) (fun H1 locs1 h1 h2 _ _ => kk u H1 locs1 hf hg h1 h2)
theorem zRun {mc ms : Nat} {g : JFrame} {Qa : State → Outcome → State → Prop} {free : Addr → Prop} (h : va_Run p l e R s m args below meth c H locs cells slots mc ms g rest Qa free) : CallRun p l e R s m args below meth c H locs cells slots mc ms g rest Qa free := by
  intro T hT X
  obtain ⟨v, st₀, t, T', L, h0, X', hL, e1, -, hq, st⟩ := h T hT X
  exact ⟨v, st₀, t, T', L, h0, X', hL, e1, hq, st⟩
end ZM
end
section
abbrev XS : Type := Int32 × Int32 × (Nat → Int32) × (Nat → Int32) × (Nat → Int32) × (Nat → Int32) × (Nat → Int32) × Int32 × (Nat → Int32) × (Nat → Int32) × (Nat → Int64) × (Nat → Int64) × Int32 × (Nat → Int32) × (Nat → Int32) × (Nat → Int32) × Int32 × Int32 × Int32 × (Nat → Int32) × (Nat → Int32) × (Nat → Int32) × (Nat → Int32) × Int32 × Int32 × (Nat → Int32) × (Nat → Int32) × (Nat → Int32) × (Nat → Int32) × (Nat → Int32) × (Nat → Int32)
def Xg_whole (u : XS) : Int32 := u.1
def Xg_fields_made (u : XS) : Int32 := u.2.1
def Xg_fields_category (u : XS) : Nat → Int32 := u.2.2.1
def Xg_fields_size (u : XS) : Nat → Int32 := u.2.2.2.1
def Xg_fields_scale (u : XS) : Nat → Int32 := u.2.2.2.2.1
def Xg_fields_bytes (u : XS) : Nat → Int32 := u.2.2.2.2.2.1
def Xg_weights_of (u : XS) : Nat → Int32 := u.2.2.2.2.2.2.1
def Xg_names_made (u : XS) : Int32 := u.2.2.2.2.2.2.2.1
def Xg_names_field (u : XS) : Nat → Int32 := u.2.2.2.2.2.2.2.2.1
def Xg_names_ranges (u : XS) : Nat → Int32 := u.2.2.2.2.2.2.2.2.2.1
def Xg_names_low (u : XS) : Nat → Int64 := u.2.2.2.2.2.2.2.2.2.2.1
def Xg_names_high (u : XS) : Nat → Int64 := u.2.2.2.2.2.2.2.2.2.2.2.1
def Xg_nodes_made (u : XS) : Int32 := u.2.2.2.2.2.2.2.2.2.2.2.2.1
def Xg_nodes_op (u : XS) : Nat → Int32 := u.2.2.2.2.2.2.2.2.2.2.2.2.2.1
def Xg_nodes_a (u : XS) : Nat → Int32 := u.2.2.2.2.2.2.2.2.2.2.2.2.2.2.1
def Xg_nodes_b (u : XS) : Nat → Int32 := u.2.2.2.2.2.2.2.2.2.2.2.2.2.2.2.1
def Xg_row_subject (u : XS) : Int32 := u.2.2.2.2.2.2.2.2.2.2.2.2.2.2.2.2.1
def Xg_row_carried (u : XS) : Int32 := u.2.2.2.2.2.2.2.2.2.2.2.2.2.2.2.2.2.1
def Xg_row_length (u : XS) : Int32 := u.2.2.2.2.2.2.2.2.2.2.2.2.2.2.2.2.2.2.1
def Xg_row_with (u : XS) : Nat → Int32 := u.2.2.2.2.2.2.2.2.2.2.2.2.2.2.2.2.2.2.2.1
def Xg_row_op (u : XS) : Nat → Int32 := u.2.2.2.2.2.2.2.2.2.2.2.2.2.2.2.2.2.2.2.2.1
def Xg_row_negated (u : XS) : Nat → Int32 := u.2.2.2.2.2.2.2.2.2.2.2.2.2.2.2.2.2.2.2.2.2.1
def Xg_row_object (u : XS) : Nat → Int32 := u.2.2.2.2.2.2.2.2.2.2.2.2.2.2.2.2.2.2.2.2.2.2.1
def Xg_testing_noted (u : XS) : Int32 := u.2.2.2.2.2.2.2.2.2.2.2.2.2.2.2.2.2.2.2.2.2.2.2.1
def Xg_testing_depth (u : XS) : Int32 := u.2.2.2.2.2.2.2.2.2.2.2.2.2.2.2.2.2.2.2.2.2.2.2.2.1
def Xg_testing_outcome (u : XS) : Nat → Int32 := u.2.2.2.2.2.2.2.2.2.2.2.2.2.2.2.2.2.2.2.2.2.2.2.2.2.1
def Xg_testing_leaves (u : XS) : Nat → Int32 := u.2.2.2.2.2.2.2.2.2.2.2.2.2.2.2.2.2.2.2.2.2.2.2.2.2.2.1
def Xg_testing_waiting (u : XS) : Nat → Int32 := u.2.2.2.2.2.2.2.2.2.2.2.2.2.2.2.2.2.2.2.2.2.2.2.2.2.2.2.1
def Xg_switches (u : XS) : Nat → Int32 := u.2.2.2.2.2.2.2.2.2.2.2.2.2.2.2.2.2.2.2.2.2.2.2.2.2.2.2.2.1
def Xg_leftText (u : XS) : Nat → Int32 := u.2.2.2.2.2.2.2.2.2.2.2.2.2.2.2.2.2.2.2.2.2.2.2.2.2.2.2.2.2.1
def Xg_rightText (u : XS) : Nat → Int32 := u.2.2.2.2.2.2.2.2.2.2.2.2.2.2.2.2.2.2.2.2.2.2.2.2.2.2.2.2.2.2
def Xs_whole (u : XS) (v : Int32) : XS := (v, u.2.1, u.2.2.1, u.2.2.2.1, u.2.2.2.2.1, u.2.2.2.2.2.1, u.2.2.2.2.2.2.1, u.2.2.2.2.2.2.2.1, u.2.2.2.2.2.2.2.2.1, u.2.2.2.2.2.2.2.2.2.1, u.2.2.2.2.2.2.2.2.2.2.1, u.2.2.2.2.2.2.2.2.2.2.2.1, u.2.2.2.2.2.2.2.2.2.2.2.2.1, u.2.2.2.2.2.2.2.2.2.2.2.2.2.1, u.2.2.2.2.2.2.2.2.2.2.2.2.2.2.1, u.2.2.2.2.2.2.2.2.2.2.2.2.2.2.2.1, u.2.2.2.2.2.2.2.2.2.2.2.2.2.2.2.2.1, u.2.2.2.2.2.2.2.2.2.2.2.2.2.2.2.2.2.1, u.2.2.2.2.2.2.2.2.2.2.2.2.2.2.2.2.2.2.1, u.2.2.2.2.2.2.2.2.2.2.2.2.2.2.2.2.2.2.2.1, u.2.2.2.2.2.2.2.2.2.2.2.2.2.2.2.2.2.2.2.2.1, u.2.2.2.2.2.2.2.2.2.2.2.2.2.2.2.2.2.2.2.2.2.1, u.2.2.2.2.2.2.2.2.2.2.2.2.2.2.2.2.2.2.2.2.2.2.1, u.2.2.2.2.2.2.2.2.2.2.2.2.2.2.2.2.2.2.2.2.2.2.2.1, u.2.2.2.2.2.2.2.2.2.2.2.2.2.2.2.2.2.2.2.2.2.2.2.2.1, u.2.2.2.2.2.2.2.2.2.2.2.2.2.2.2.2.2.2.2.2.2.2.2.2.2.1, u.2.2.2.2.2.2.2.2.2.2.2.2.2.2.2.2.2.2.2.2.2.2.2.2.2.2.1, u.2.2.2.2.2.2.2.2.2.2.2.2.2.2.2.2.2.2.2.2.2.2.2.2.2.2.2.1, u.2.2.2.2.2.2.2.2.2.2.2.2.2.2.2.2.2.2.2.2.2.2.2.2.2.2.2.2.1, u.2.2.2.2.2.2.2.2.2.2.2.2.2.2.2.2.2.2.2.2.2.2.2.2.2.2.2.2.2.1, u.2.2.2.2.2.2.2.2.2.2.2.2.2.2.2.2.2.2.2.2.2.2.2.2.2.2.2.2.2.2)
def Xs_fields_made (u : XS) (v : Int32) : XS := (u.1, v, u.2.2.1, u.2.2.2.1, u.2.2.2.2.1, u.2.2.2.2.2.1, u.2.2.2.2.2.2.1, u.2.2.2.2.2.2.2.1, u.2.2.2.2.2.2.2.2.1, u.2.2.2.2.2.2.2.2.2.1, u.2.2.2.2.2.2.2.2.2.2.1, u.2.2.2.2.2.2.2.2.2.2.2.1, u.2.2.2.2.2.2.2.2.2.2.2.2.1, u.2.2.2.2.2.2.2.2.2.2.2.2.2.1, u.2.2.2.2.2.2.2.2.2.2.2.2.2.2.1, u.2.2.2.2.2.2.2.2.2.2.2.2.2.2.2.1, u.2.2.2.2.2.2.2.2.2.2.2.2.2.2.2.2.1, u.2.2.2.2.2.2.2.2.2.2.2.2.2.2.2.2.2.1, u.2.2.2.2.2.2.2.2.2.2.2.2.2.2.2.2.2.2.1, u.2.2.2.2.2.2.2.2.2.2.2.2.2.2.2.2.2.2.2.1, u.2.2.2.2.2.2.2.2.2.2.2.2.2.2.2.2.2.2.2.2.1, u.2.2.2.2.2.2.2.2.2.2.2.2.2.2.2.2.2.2.2.2.2.1, u.2.2.2.2.2.2.2.2.2.2.2.2.2.2.2.2.2.2.2.2.2.2.1, u.2.2.2.2.2.2.2.2.2.2.2.2.2.2.2.2.2.2.2.2.2.2.2.1, u.2.2.2.2.2.2.2.2.2.2.2.2.2.2.2.2.2.2.2.2.2.2.2.2.1, u.2.2.2.2.2.2.2.2.2.2.2.2.2.2.2.2.2.2.2.2.2.2.2.2.2.1, u.2.2.2.2.2.2.2.2.2.2.2.2.2.2.2.2.2.2.2.2.2.2.2.2.2.2.1, u.2.2.2.2.2.2.2.2.2.2.2.2.2.2.2.2.2.2.2.2.2.2.2.2.2.2.2.1, u.2.2.2.2.2.2.2.2.2.2.2.2.2.2.2.2.2.2.2.2.2.2.2.2.2.2.2.2.1, u.2.2.2.2.2.2.2.2.2.2.2.2.2.2.2.2.2.2.2.2.2.2.2.2.2.2.2.2.2.1, u.2.2.2.2.2.2.2.2.2.2.2.2.2.2.2.2.2.2.2.2.2.2.2.2.2.2.2.2.2.2)
def Xs_fields_category (u : XS) (v : Nat → Int32) : XS := (u.1, u.2.1, v, u.2.2.2.1, u.2.2.2.2.1, u.2.2.2.2.2.1, u.2.2.2.2.2.2.1, u.2.2.2.2.2.2.2.1, u.2.2.2.2.2.2.2.2.1, u.2.2.2.2.2.2.2.2.2.1, u.2.2.2.2.2.2.2.2.2.2.1, u.2.2.2.2.2.2.2.2.2.2.2.1, u.2.2.2.2.2.2.2.2.2.2.2.2.1, u.2.2.2.2.2.2.2.2.2.2.2.2.2.1, u.2.2.2.2.2.2.2.2.2.2.2.2.2.2.1, u.2.2.2.2.2.2.2.2.2.2.2.2.2.2.2.1, u.2.2.2.2.2.2.2.2.2.2.2.2.2.2.2.2.1, u.2.2.2.2.2.2.2.2.2.2.2.2.2.2.2.2.2.1, u.2.2.2.2.2.2.2.2.2.2.2.2.2.2.2.2.2.2.1, u.2.2.2.2.2.2.2.2.2.2.2.2.2.2.2.2.2.2.2.1, u.2.2.2.2.2.2.2.2.2.2.2.2.2.2.2.2.2.2.2.2.1, u.2.2.2.2.2.2.2.2.2.2.2.2.2.2.2.2.2.2.2.2.2.1, u.2.2.2.2.2.2.2.2.2.2.2.2.2.2.2.2.2.2.2.2.2.2.1, u.2.2.2.2.2.2.2.2.2.2.2.2.2.2.2.2.2.2.2.2.2.2.2.1, u.2.2.2.2.2.2.2.2.2.2.2.2.2.2.2.2.2.2.2.2.2.2.2.2.1, u.2.2.2.2.2.2.2.2.2.2.2.2.2.2.2.2.2.2.2.2.2.2.2.2.2.1, u.2.2.2.2.2.2.2.2.2.2.2.2.2.2.2.2.2.2.2.2.2.2.2.2.2.2.1, u.2.2.2.2.2.2.2.2.2.2.2.2.2.2.2.2.2.2.2.2.2.2.2.2.2.2.2.1, u.2.2.2.2.2.2.2.2.2.2.2.2.2.2.2.2.2.2.2.2.2.2.2.2.2.2.2.2.1, u.2.2.2.2.2.2.2.2.2.2.2.2.2.2.2.2.2.2.2.2.2.2.2.2.2.2.2.2.2.1, u.2.2.2.2.2.2.2.2.2.2.2.2.2.2.2.2.2.2.2.2.2.2.2.2.2.2.2.2.2.2)
def Xs_fields_size (u : XS) (v : Nat → Int32) : XS := (u.1, u.2.1, u.2.2.1, v, u.2.2.2.2.1, u.2.2.2.2.2.1, u.2.2.2.2.2.2.1, u.2.2.2.2.2.2.2.1, u.2.2.2.2.2.2.2.2.1, u.2.2.2.2.2.2.2.2.2.1, u.2.2.2.2.2.2.2.2.2.2.1, u.2.2.2.2.2.2.2.2.2.2.2.1, u.2.2.2.2.2.2.2.2.2.2.2.2.1, u.2.2.2.2.2.2.2.2.2.2.2.2.2.1, u.2.2.2.2.2.2.2.2.2.2.2.2.2.2.1, u.2.2.2.2.2.2.2.2.2.2.2.2.2.2.2.1, u.2.2.2.2.2.2.2.2.2.2.2.2.2.2.2.2.1, u.2.2.2.2.2.2.2.2.2.2.2.2.2.2.2.2.2.1, u.2.2.2.2.2.2.2.2.2.2.2.2.2.2.2.2.2.2.1, u.2.2.2.2.2.2.2.2.2.2.2.2.2.2.2.2.2.2.2.1, u.2.2.2.2.2.2.2.2.2.2.2.2.2.2.2.2.2.2.2.2.1, u.2.2.2.2.2.2.2.2.2.2.2.2.2.2.2.2.2.2.2.2.2.1, u.2.2.2.2.2.2.2.2.2.2.2.2.2.2.2.2.2.2.2.2.2.2.1, u.2.2.2.2.2.2.2.2.2.2.2.2.2.2.2.2.2.2.2.2.2.2.2.1, u.2.2.2.2.2.2.2.2.2.2.2.2.2.2.2.2.2.2.2.2.2.2.2.2.1, u.2.2.2.2.2.2.2.2.2.2.2.2.2.2.2.2.2.2.2.2.2.2.2.2.2.1, u.2.2.2.2.2.2.2.2.2.2.2.2.2.2.2.2.2.2.2.2.2.2.2.2.2.2.1, u.2.2.2.2.2.2.2.2.2.2.2.2.2.2.2.2.2.2.2.2.2.2.2.2.2.2.2.1, u.2.2.2.2.2.2.2.2.2.2.2.2.2.2.2.2.2.2.2.2.2.2.2.2.2.2.2.2.1, u.2.2.2.2.2.2.2.2.2.2.2.2.2.2.2.2.2.2.2.2.2.2.2.2.2.2.2.2.2.1, u.2.2.2.2.2.2.2.2.2.2.2.2.2.2.2.2.2.2.2.2.2.2.2.2.2.2.2.2.2.2)
def Xs_fields_scale (u : XS) (v : Nat → Int32) : XS := (u.1, u.2.1, u.2.2.1, u.2.2.2.1, v, u.2.2.2.2.2.1, u.2.2.2.2.2.2.1, u.2.2.2.2.2.2.2.1, u.2.2.2.2.2.2.2.2.1, u.2.2.2.2.2.2.2.2.2.1, u.2.2.2.2.2.2.2.2.2.2.1, u.2.2.2.2.2.2.2.2.2.2.2.1, u.2.2.2.2.2.2.2.2.2.2.2.2.1, u.2.2.2.2.2.2.2.2.2.2.2.2.2.1, u.2.2.2.2.2.2.2.2.2.2.2.2.2.2.1, u.2.2.2.2.2.2.2.2.2.2.2.2.2.2.2.1, u.2.2.2.2.2.2.2.2.2.2.2.2.2.2.2.2.1, u.2.2.2.2.2.2.2.2.2.2.2.2.2.2.2.2.2.1, u.2.2.2.2.2.2.2.2.2.2.2.2.2.2.2.2.2.2.1, u.2.2.2.2.2.2.2.2.2.2.2.2.2.2.2.2.2.2.2.1, u.2.2.2.2.2.2.2.2.2.2.2.2.2.2.2.2.2.2.2.2.1, u.2.2.2.2.2.2.2.2.2.2.2.2.2.2.2.2.2.2.2.2.2.1, u.2.2.2.2.2.2.2.2.2.2.2.2.2.2.2.2.2.2.2.2.2.2.1, u.2.2.2.2.2.2.2.2.2.2.2.2.2.2.2.2.2.2.2.2.2.2.2.1, u.2.2.2.2.2.2.2.2.2.2.2.2.2.2.2.2.2.2.2.2.2.2.2.2.1, u.2.2.2.2.2.2.2.2.2.2.2.2.2.2.2.2.2.2.2.2.2.2.2.2.2.1, u.2.2.2.2.2.2.2.2.2.2.2.2.2.2.2.2.2.2.2.2.2.2.2.2.2.2.1, u.2.2.2.2.2.2.2.2.2.2.2.2.2.2.2.2.2.2.2.2.2.2.2.2.2.2.2.1, u.2.2.2.2.2.2.2.2.2.2.2.2.2.2.2.2.2.2.2.2.2.2.2.2.2.2.2.2.1, u.2.2.2.2.2.2.2.2.2.2.2.2.2.2.2.2.2.2.2.2.2.2.2.2.2.2.2.2.2.1, u.2.2.2.2.2.2.2.2.2.2.2.2.2.2.2.2.2.2.2.2.2.2.2.2.2.2.2.2.2.2)
def Xs_fields_bytes (u : XS) (v : Nat → Int32) : XS := (u.1, u.2.1, u.2.2.1, u.2.2.2.1, u.2.2.2.2.1, v, u.2.2.2.2.2.2.1, u.2.2.2.2.2.2.2.1, u.2.2.2.2.2.2.2.2.1, u.2.2.2.2.2.2.2.2.2.1, u.2.2.2.2.2.2.2.2.2.2.1, u.2.2.2.2.2.2.2.2.2.2.2.1, u.2.2.2.2.2.2.2.2.2.2.2.2.1, u.2.2.2.2.2.2.2.2.2.2.2.2.2.1, u.2.2.2.2.2.2.2.2.2.2.2.2.2.2.1, u.2.2.2.2.2.2.2.2.2.2.2.2.2.2.2.1, u.2.2.2.2.2.2.2.2.2.2.2.2.2.2.2.2.1, u.2.2.2.2.2.2.2.2.2.2.2.2.2.2.2.2.2.1, u.2.2.2.2.2.2.2.2.2.2.2.2.2.2.2.2.2.2.1, u.2.2.2.2.2.2.2.2.2.2.2.2.2.2.2.2.2.2.2.1, u.2.2.2.2.2.2.2.2.2.2.2.2.2.2.2.2.2.2.2.2.1, u.2.2.2.2.2.2.2.2.2.2.2.2.2.2.2.2.2.2.2.2.2.1, u.2.2.2.2.2.2.2.2.2.2.2.2.2.2.2.2.2.2.2.2.2.2.1, u.2.2.2.2.2.2.2.2.2.2.2.2.2.2.2.2.2.2.2.2.2.2.2.1, u.2.2.2.2.2.2.2.2.2.2.2.2.2.2.2.2.2.2.2.2.2.2.2.2.1, u.2.2.2.2.2.2.2.2.2.2.2.2.2.2.2.2.2.2.2.2.2.2.2.2.2.1, u.2.2.2.2.2.2.2.2.2.2.2.2.2.2.2.2.2.2.2.2.2.2.2.2.2.2.1, u.2.2.2.2.2.2.2.2.2.2.2.2.2.2.2.2.2.2.2.2.2.2.2.2.2.2.2.1, u.2.2.2.2.2.2.2.2.2.2.2.2.2.2.2.2.2.2.2.2.2.2.2.2.2.2.2.2.1, u.2.2.2.2.2.2.2.2.2.2.2.2.2.2.2.2.2.2.2.2.2.2.2.2.2.2.2.2.2.1, u.2.2.2.2.2.2.2.2.2.2.2.2.2.2.2.2.2.2.2.2.2.2.2.2.2.2.2.2.2.2)
def Xs_weights_of (u : XS) (v : Nat → Int32) : XS := (u.1, u.2.1, u.2.2.1, u.2.2.2.1, u.2.2.2.2.1, u.2.2.2.2.2.1, v, u.2.2.2.2.2.2.2.1, u.2.2.2.2.2.2.2.2.1, u.2.2.2.2.2.2.2.2.2.1, u.2.2.2.2.2.2.2.2.2.2.1, u.2.2.2.2.2.2.2.2.2.2.2.1, u.2.2.2.2.2.2.2.2.2.2.2.2.1, u.2.2.2.2.2.2.2.2.2.2.2.2.2.1, u.2.2.2.2.2.2.2.2.2.2.2.2.2.2.1, u.2.2.2.2.2.2.2.2.2.2.2.2.2.2.2.1, u.2.2.2.2.2.2.2.2.2.2.2.2.2.2.2.2.1, u.2.2.2.2.2.2.2.2.2.2.2.2.2.2.2.2.2.1, u.2.2.2.2.2.2.2.2.2.2.2.2.2.2.2.2.2.2.1, u.2.2.2.2.2.2.2.2.2.2.2.2.2.2.2.2.2.2.2.1, u.2.2.2.2.2.2.2.2.2.2.2.2.2.2.2.2.2.2.2.2.1, u.2.2.2.2.2.2.2.2.2.2.2.2.2.2.2.2.2.2.2.2.2.1, u.2.2.2.2.2.2.2.2.2.2.2.2.2.2.2.2.2.2.2.2.2.2.1, u.2.2.2.2.2.2.2.2.2.2.2.2.2.2.2.2.2.2.2.2.2.2.2.1, u.2.2.2.2.2.2.2.2.2.2.2.2.2.2.2.2.2.2.2.2.2.2.2.2.1, u.2.2.2.2.2.2.2.2.2.2.2.2.2.2.2.2.2.2.2.2.2.2.2.2.2.1, u.2.2.2.2.2.2.2.2.2.2.2.2.2.2.2.2.2.2.2.2.2.2.2.2.2.2.1, u.2.2.2.2.2.2.2.2.2.2.2.2.2.2.2.2.2.2.2.2.2.2.2.2.2.2.2.1, u.2.2.2.2.2.2.2.2.2.2.2.2.2.2.2.2.2.2.2.2.2.2.2.2.2.2.2.2.1, u.2.2.2.2.2.2.2.2.2.2.2.2.2.2.2.2.2.2.2.2.2.2.2.2.2.2.2.2.2.1, u.2.2.2.2.2.2.2.2.2.2.2.2.2.2.2.2.2.2.2.2.2.2.2.2.2.2.2.2.2.2)
def Xs_names_made (u : XS) (v : Int32) : XS := (u.1, u.2.1, u.2.2.1, u.2.2.2.1, u.2.2.2.2.1, u.2.2.2.2.2.1, u.2.2.2.2.2.2.1, v, u.2.2.2.2.2.2.2.2.1, u.2.2.2.2.2.2.2.2.2.1, u.2.2.2.2.2.2.2.2.2.2.1, u.2.2.2.2.2.2.2.2.2.2.2.1, u.2.2.2.2.2.2.2.2.2.2.2.2.1, u.2.2.2.2.2.2.2.2.2.2.2.2.2.1, u.2.2.2.2.2.2.2.2.2.2.2.2.2.2.1, u.2.2.2.2.2.2.2.2.2.2.2.2.2.2.2.1, u.2.2.2.2.2.2.2.2.2.2.2.2.2.2.2.2.1, u.2.2.2.2.2.2.2.2.2.2.2.2.2.2.2.2.2.1, u.2.2.2.2.2.2.2.2.2.2.2.2.2.2.2.2.2.2.1, u.2.2.2.2.2.2.2.2.2.2.2.2.2.2.2.2.2.2.2.1, u.2.2.2.2.2.2.2.2.2.2.2.2.2.2.2.2.2.2.2.2.1, u.2.2.2.2.2.2.2.2.2.2.2.2.2.2.2.2.2.2.2.2.2.1, u.2.2.2.2.2.2.2.2.2.2.2.2.2.2.2.2.2.2.2.2.2.2.1, u.2.2.2.2.2.2.2.2.2.2.2.2.2.2.2.2.2.2.2.2.2.2.2.1, u.2.2.2.2.2.2.2.2.2.2.2.2.2.2.2.2.2.2.2.2.2.2.2.2.1, u.2.2.2.2.2.2.2.2.2.2.2.2.2.2.2.2.2.2.2.2.2.2.2.2.2.1, u.2.2.2.2.2.2.2.2.2.2.2.2.2.2.2.2.2.2.2.2.2.2.2.2.2.2.1, u.2.2.2.2.2.2.2.2.2.2.2.2.2.2.2.2.2.2.2.2.2.2.2.2.2.2.2.1, u.2.2.2.2.2.2.2.2.2.2.2.2.2.2.2.2.2.2.2.2.2.2.2.2.2.2.2.2.1, u.2.2.2.2.2.2.2.2.2.2.2.2.2.2.2.2.2.2.2.2.2.2.2.2.2.2.2.2.2.1, u.2.2.2.2.2.2.2.2.2.2.2.2.2.2.2.2.2.2.2.2.2.2.2.2.2.2.2.2.2.2)
def Xs_names_field (u : XS) (v : Nat → Int32) : XS := (u.1, u.2.1, u.2.2.1, u.2.2.2.1, u.2.2.2.2.1, u.2.2.2.2.2.1, u.2.2.2.2.2.2.1, u.2.2.2.2.2.2.2.1, v, u.2.2.2.2.2.2.2.2.2.1, u.2.2.2.2.2.2.2.2.2.2.1, u.2.2.2.2.2.2.2.2.2.2.2.1, u.2.2.2.2.2.2.2.2.2.2.2.2.1, u.2.2.2.2.2.2.2.2.2.2.2.2.2.1, u.2.2.2.2.2.2.2.2.2.2.2.2.2.2.1, u.2.2.2.2.2.2.2.2.2.2.2.2.2.2.2.1, u.2.2.2.2.2.2.2.2.2.2.2.2.2.2.2.2.1, u.2.2.2.2.2.2.2.2.2.2.2.2.2.2.2.2.2.1, u.2.2.2.2.2.2.2.2.2.2.2.2.2.2.2.2.2.2.1, u.2.2.2.2.2.2.2.2.2.2.2.2.2.2.2.2.2.2.2.1, u.2.2.2.2.2.2.2.2.2.2.2.2.2.2.2.2.2.2.2.2.1, u.2.2.2.2.2.2.2.2.2.2.2.2.2.2.2.2.2.2.2.2.2.1, u.2.2.2.2.2.2.2.2.2.2.2.2.2.2.2.2.2.2.2.2.2.2.1, u.2.2.2.2.2.2.2.2.2.2.2.2.2.2.2.2.2.2.2.2.2.2.2.1, u.2.2.2.2.2.2.2.2.2.2.2.2.2.2.2.2.2.2.2.2.2.2.2.2.1, u.2.2.2.2.2.2.2.2.2.2.2.2.2.2.2.2.2.2.2.2.2.2.2.2.2.1, u.2.2.2.2.2.2.2.2.2.2.2.2.2.2.2.2.2.2.2.2.2.2.2.2.2.2.1, u.2.2.2.2.2.2.2.2.2.2.2.2.2.2.2.2.2.2.2.2.2.2.2.2.2.2.2.1, u.2.2.2.2.2.2.2.2.2.2.2.2.2.2.2.2.2.2.2.2.2.2.2.2.2.2.2.2.1, u.2.2.2.2.2.2.2.2.2.2.2.2.2.2.2.2.2.2.2.2.2.2.2.2.2.2.2.2.2.1, u.2.2.2.2.2.2.2.2.2.2.2.2.2.2.2.2.2.2.2.2.2.2.2.2.2.2.2.2.2.2)
def Xs_names_ranges (u : XS) (v : Nat → Int32) : XS := (u.1, u.2.1, u.2.2.1, u.2.2.2.1, u.2.2.2.2.1, u.2.2.2.2.2.1, u.2.2.2.2.2.2.1, u.2.2.2.2.2.2.2.1, u.2.2.2.2.2.2.2.2.1, v, u.2.2.2.2.2.2.2.2.2.2.1, u.2.2.2.2.2.2.2.2.2.2.2.1, u.2.2.2.2.2.2.2.2.2.2.2.2.1, u.2.2.2.2.2.2.2.2.2.2.2.2.2.1, u.2.2.2.2.2.2.2.2.2.2.2.2.2.2.1, u.2.2.2.2.2.2.2.2.2.2.2.2.2.2.2.1, u.2.2.2.2.2.2.2.2.2.2.2.2.2.2.2.2.1, u.2.2.2.2.2.2.2.2.2.2.2.2.2.2.2.2.2.1, u.2.2.2.2.2.2.2.2.2.2.2.2.2.2.2.2.2.2.1, u.2.2.2.2.2.2.2.2.2.2.2.2.2.2.2.2.2.2.2.1, u.2.2.2.2.2.2.2.2.2.2.2.2.2.2.2.2.2.2.2.2.1, u.2.2.2.2.2.2.2.2.2.2.2.2.2.2.2.2.2.2.2.2.2.1, u.2.2.2.2.2.2.2.2.2.2.2.2.2.2.2.2.2.2.2.2.2.2.1, u.2.2.2.2.2.2.2.2.2.2.2.2.2.2.2.2.2.2.2.2.2.2.2.1, u.2.2.2.2.2.2.2.2.2.2.2.2.2.2.2.2.2.2.2.2.2.2.2.2.1, u.2.2.2.2.2.2.2.2.2.2.2.2.2.2.2.2.2.2.2.2.2.2.2.2.2.1, u.2.2.2.2.2.2.2.2.2.2.2.2.2.2.2.2.2.2.2.2.2.2.2.2.2.2.1, u.2.2.2.2.2.2.2.2.2.2.2.2.2.2.2.2.2.2.2.2.2.2.2.2.2.2.2.1, u.2.2.2.2.2.2.2.2.2.2.2.2.2.2.2.2.2.2.2.2.2.2.2.2.2.2.2.2.1, u.2.2.2.2.2.2.2.2.2.2.2.2.2.2.2.2.2.2.2.2.2.2.2.2.2.2.2.2.2.1, u.2.2.2.2.2.2.2.2.2.2.2.2.2.2.2.2.2.2.2.2.2.2.2.2.2.2.2.2.2.2)
def Xs_names_low (u : XS) (v : Nat → Int64) : XS := (u.1, u.2.1, u.2.2.1, u.2.2.2.1, u.2.2.2.2.1, u.2.2.2.2.2.1, u.2.2.2.2.2.2.1, u.2.2.2.2.2.2.2.1, u.2.2.2.2.2.2.2.2.1, u.2.2.2.2.2.2.2.2.2.1, v, u.2.2.2.2.2.2.2.2.2.2.2.1, u.2.2.2.2.2.2.2.2.2.2.2.2.1, u.2.2.2.2.2.2.2.2.2.2.2.2.2.1, u.2.2.2.2.2.2.2.2.2.2.2.2.2.2.1, u.2.2.2.2.2.2.2.2.2.2.2.2.2.2.2.1, u.2.2.2.2.2.2.2.2.2.2.2.2.2.2.2.2.1, u.2.2.2.2.2.2.2.2.2.2.2.2.2.2.2.2.2.1, u.2.2.2.2.2.2.2.2.2.2.2.2.2.2.2.2.2.2.1, u.2.2.2.2.2.2.2.2.2.2.2.2.2.2.2.2.2.2.2.1, u.2.2.2.2.2.2.2.2.2.2.2.2.2.2.2.2.2.2.2.2.1, u.2.2.2.2.2.2.2.2.2.2.2.2.2.2.2.2.2.2.2.2.2.1, u.2.2.2.2.2.2.2.2.2.2.2.2.2.2.2.2.2.2.2.2.2.2.1, u.2.2.2.2.2.2.2.2.2.2.2.2.2.2.2.2.2.2.2.2.2.2.2.1, u.2.2.2.2.2.2.2.2.2.2.2.2.2.2.2.2.2.2.2.2.2.2.2.2.1, u.2.2.2.2.2.2.2.2.2.2.2.2.2.2.2.2.2.2.2.2.2.2.2.2.2.1, u.2.2.2.2.2.2.2.2.2.2.2.2.2.2.2.2.2.2.2.2.2.2.2.2.2.2.1, u.2.2.2.2.2.2.2.2.2.2.2.2.2.2.2.2.2.2.2.2.2.2.2.2.2.2.2.1, u.2.2.2.2.2.2.2.2.2.2.2.2.2.2.2.2.2.2.2.2.2.2.2.2.2.2.2.2.1, u.2.2.2.2.2.2.2.2.2.2.2.2.2.2.2.2.2.2.2.2.2.2.2.2.2.2.2.2.2.1, u.2.2.2.2.2.2.2.2.2.2.2.2.2.2.2.2.2.2.2.2.2.2.2.2.2.2.2.2.2.2)
def Xs_names_high (u : XS) (v : Nat → Int64) : XS := (u.1, u.2.1, u.2.2.1, u.2.2.2.1, u.2.2.2.2.1, u.2.2.2.2.2.1, u.2.2.2.2.2.2.1, u.2.2.2.2.2.2.2.1, u.2.2.2.2.2.2.2.2.1, u.2.2.2.2.2.2.2.2.2.1, u.2.2.2.2.2.2.2.2.2.2.1, v, u.2.2.2.2.2.2.2.2.2.2.2.2.1, u.2.2.2.2.2.2.2.2.2.2.2.2.2.1, u.2.2.2.2.2.2.2.2.2.2.2.2.2.2.1, u.2.2.2.2.2.2.2.2.2.2.2.2.2.2.2.1, u.2.2.2.2.2.2.2.2.2.2.2.2.2.2.2.2.1, u.2.2.2.2.2.2.2.2.2.2.2.2.2.2.2.2.2.1, u.2.2.2.2.2.2.2.2.2.2.2.2.2.2.2.2.2.2.1, u.2.2.2.2.2.2.2.2.2.2.2.2.2.2.2.2.2.2.2.1, u.2.2.2.2.2.2.2.2.2.2.2.2.2.2.2.2.2.2.2.2.1, u.2.2.2.2.2.2.2.2.2.2.2.2.2.2.2.2.2.2.2.2.2.1, u.2.2.2.2.2.2.2.2.2.2.2.2.2.2.2.2.2.2.2.2.2.2.1, u.2.2.2.2.2.2.2.2.2.2.2.2.2.2.2.2.2.2.2.2.2.2.2.1, u.2.2.2.2.2.2.2.2.2.2.2.2.2.2.2.2.2.2.2.2.2.2.2.2.1, u.2.2.2.2.2.2.2.2.2.2.2.2.2.2.2.2.2.2.2.2.2.2.2.2.2.1, u.2.2.2.2.2.2.2.2.2.2.2.2.2.2.2.2.2.2.2.2.2.2.2.2.2.2.1, u.2.2.2.2.2.2.2.2.2.2.2.2.2.2.2.2.2.2.2.2.2.2.2.2.2.2.2.1, u.2.2.2.2.2.2.2.2.2.2.2.2.2.2.2.2.2.2.2.2.2.2.2.2.2.2.2.2.1, u.2.2.2.2.2.2.2.2.2.2.2.2.2.2.2.2.2.2.2.2.2.2.2.2.2.2.2.2.2.1, u.2.2.2.2.2.2.2.2.2.2.2.2.2.2.2.2.2.2.2.2.2.2.2.2.2.2.2.2.2.2)
def Xs_nodes_made (u : XS) (v : Int32) : XS := (u.1, u.2.1, u.2.2.1, u.2.2.2.1, u.2.2.2.2.1, u.2.2.2.2.2.1, u.2.2.2.2.2.2.1, u.2.2.2.2.2.2.2.1, u.2.2.2.2.2.2.2.2.1, u.2.2.2.2.2.2.2.2.2.1, u.2.2.2.2.2.2.2.2.2.2.1, u.2.2.2.2.2.2.2.2.2.2.2.1, v, u.2.2.2.2.2.2.2.2.2.2.2.2.2.1, u.2.2.2.2.2.2.2.2.2.2.2.2.2.2.1, u.2.2.2.2.2.2.2.2.2.2.2.2.2.2.2.1, u.2.2.2.2.2.2.2.2.2.2.2.2.2.2.2.2.1, u.2.2.2.2.2.2.2.2.2.2.2.2.2.2.2.2.2.1, u.2.2.2.2.2.2.2.2.2.2.2.2.2.2.2.2.2.2.1, u.2.2.2.2.2.2.2.2.2.2.2.2.2.2.2.2.2.2.2.1, u.2.2.2.2.2.2.2.2.2.2.2.2.2.2.2.2.2.2.2.2.1, u.2.2.2.2.2.2.2.2.2.2.2.2.2.2.2.2.2.2.2.2.2.1, u.2.2.2.2.2.2.2.2.2.2.2.2.2.2.2.2.2.2.2.2.2.2.1, u.2.2.2.2.2.2.2.2.2.2.2.2.2.2.2.2.2.2.2.2.2.2.2.1, u.2.2.2.2.2.2.2.2.2.2.2.2.2.2.2.2.2.2.2.2.2.2.2.2.1, u.2.2.2.2.2.2.2.2.2.2.2.2.2.2.2.2.2.2.2.2.2.2.2.2.2.1, u.2.2.2.2.2.2.2.2.2.2.2.2.2.2.2.2.2.2.2.2.2.2.2.2.2.2.1, u.2.2.2.2.2.2.2.2.2.2.2.2.2.2.2.2.2.2.2.2.2.2.2.2.2.2.2.1, u.2.2.2.2.2.2.2.2.2.2.2.2.2.2.2.2.2.2.2.2.2.2.2.2.2.2.2.2.1, u.2.2.2.2.2.2.2.2.2.2.2.2.2.2.2.2.2.2.2.2.2.2.2.2.2.2.2.2.2.1, u.2.2.2.2.2.2.2.2.2.2.2.2.2.2.2.2.2.2.2.2.2.2.2.2.2.2.2.2.2.2)
def Xs_nodes_op (u : XS) (v : Nat → Int32) : XS := (u.1, u.2.1, u.2.2.1, u.2.2.2.1, u.2.2.2.2.1, u.2.2.2.2.2.1, u.2.2.2.2.2.2.1, u.2.2.2.2.2.2.2.1, u.2.2.2.2.2.2.2.2.1, u.2.2.2.2.2.2.2.2.2.1, u.2.2.2.2.2.2.2.2.2.2.1, u.2.2.2.2.2.2.2.2.2.2.2.1, u.2.2.2.2.2.2.2.2.2.2.2.2.1, v, u.2.2.2.2.2.2.2.2.2.2.2.2.2.2.1, u.2.2.2.2.2.2.2.2.2.2.2.2.2.2.2.1, u.2.2.2.2.2.2.2.2.2.2.2.2.2.2.2.2.1, u.2.2.2.2.2.2.2.2.2.2.2.2.2.2.2.2.2.1, u.2.2.2.2.2.2.2.2.2.2.2.2.2.2.2.2.2.2.1, u.2.2.2.2.2.2.2.2.2.2.2.2.2.2.2.2.2.2.2.1, u.2.2.2.2.2.2.2.2.2.2.2.2.2.2.2.2.2.2.2.2.1, u.2.2.2.2.2.2.2.2.2.2.2.2.2.2.2.2.2.2.2.2.2.1, u.2.2.2.2.2.2.2.2.2.2.2.2.2.2.2.2.2.2.2.2.2.2.1, u.2.2.2.2.2.2.2.2.2.2.2.2.2.2.2.2.2.2.2.2.2.2.2.1, u.2.2.2.2.2.2.2.2.2.2.2.2.2.2.2.2.2.2.2.2.2.2.2.2.1, u.2.2.2.2.2.2.2.2.2.2.2.2.2.2.2.2.2.2.2.2.2.2.2.2.2.1, u.2.2.2.2.2.2.2.2.2.2.2.2.2.2.2.2.2.2.2.2.2.2.2.2.2.2.1, u.2.2.2.2.2.2.2.2.2.2.2.2.2.2.2.2.2.2.2.2.2.2.2.2.2.2.2.1, u.2.2.2.2.2.2.2.2.2.2.2.2.2.2.2.2.2.2.2.2.2.2.2.2.2.2.2.2.1, u.2.2.2.2.2.2.2.2.2.2.2.2.2.2.2.2.2.2.2.2.2.2.2.2.2.2.2.2.2.1, u.2.2.2.2.2.2.2.2.2.2.2.2.2.2.2.2.2.2.2.2.2.2.2.2.2.2.2.2.2.2)
def Xs_nodes_a (u : XS) (v : Nat → Int32) : XS := (u.1, u.2.1, u.2.2.1, u.2.2.2.1, u.2.2.2.2.1, u.2.2.2.2.2.1, u.2.2.2.2.2.2.1, u.2.2.2.2.2.2.2.1, u.2.2.2.2.2.2.2.2.1, u.2.2.2.2.2.2.2.2.2.1, u.2.2.2.2.2.2.2.2.2.2.1, u.2.2.2.2.2.2.2.2.2.2.2.1, u.2.2.2.2.2.2.2.2.2.2.2.2.1, u.2.2.2.2.2.2.2.2.2.2.2.2.2.1, v, u.2.2.2.2.2.2.2.2.2.2.2.2.2.2.2.1, u.2.2.2.2.2.2.2.2.2.2.2.2.2.2.2.2.1, u.2.2.2.2.2.2.2.2.2.2.2.2.2.2.2.2.2.1, u.2.2.2.2.2.2.2.2.2.2.2.2.2.2.2.2.2.2.1, u.2.2.2.2.2.2.2.2.2.2.2.2.2.2.2.2.2.2.2.1, u.2.2.2.2.2.2.2.2.2.2.2.2.2.2.2.2.2.2.2.2.1, u.2.2.2.2.2.2.2.2.2.2.2.2.2.2.2.2.2.2.2.2.2.1, u.2.2.2.2.2.2.2.2.2.2.2.2.2.2.2.2.2.2.2.2.2.2.1, u.2.2.2.2.2.2.2.2.2.2.2.2.2.2.2.2.2.2.2.2.2.2.2.1, u.2.2.2.2.2.2.2.2.2.2.2.2.2.2.2.2.2.2.2.2.2.2.2.2.1, u.2.2.2.2.2.2.2.2.2.2.2.2.2.2.2.2.2.2.2.2.2.2.2.2.2.1, u.2.2.2.2.2.2.2.2.2.2.2.2.2.2.2.2.2.2.2.2.2.2.2.2.2.2.1, u.2.2.2.2.2.2.2.2.2.2.2.2.2.2.2.2.2.2.2.2.2.2.2.2.2.2.2.1, u.2.2.2.2.2.2.2.2.2.2.2.2.2.2.2.2.2.2.2.2.2.2.2.2.2.2.2.2.1, u.2.2.2.2.2.2.2.2.2.2.2.2.2.2.2.2.2.2.2.2.2.2.2.2.2.2.2.2.2.1, u.2.2.2.2.2.2.2.2.2.2.2.2.2.2.2.2.2.2.2.2.2.2.2.2.2.2.2.2.2.2)
def Xs_nodes_b (u : XS) (v : Nat → Int32) : XS := (u.1, u.2.1, u.2.2.1, u.2.2.2.1, u.2.2.2.2.1, u.2.2.2.2.2.1, u.2.2.2.2.2.2.1, u.2.2.2.2.2.2.2.1, u.2.2.2.2.2.2.2.2.1, u.2.2.2.2.2.2.2.2.2.1, u.2.2.2.2.2.2.2.2.2.2.1, u.2.2.2.2.2.2.2.2.2.2.2.1, u.2.2.2.2.2.2.2.2.2.2.2.2.1, u.2.2.2.2.2.2.2.2.2.2.2.2.2.1, u.2.2.2.2.2.2.2.2.2.2.2.2.2.2.1, v, u.2.2.2.2.2.2.2.2.2.2.2.2.2.2.2.2.1, u.2.2.2.2.2.2.2.2.2.2.2.2.2.2.2.2.2.1, u.2.2.2.2.2.2.2.2.2.2.2.2.2.2.2.2.2.2.1, u.2.2.2.2.2.2.2.2.2.2.2.2.2.2.2.2.2.2.2.1, u.2.2.2.2.2.2.2.2.2.2.2.2.2.2.2.2.2.2.2.2.1, u.2.2.2.2.2.2.2.2.2.2.2.2.2.2.2.2.2.2.2.2.2.1, u.2.2.2.2.2.2.2.2.2.2.2.2.2.2.2.2.2.2.2.2.2.2.1, u.2.2.2.2.2.2.2.2.2.2.2.2.2.2.2.2.2.2.2.2.2.2.2.1, u.2.2.2.2.2.2.2.2.2.2.2.2.2.2.2.2.2.2.2.2.2.2.2.2.1, u.2.2.2.2.2.2.2.2.2.2.2.2.2.2.2.2.2.2.2.2.2.2.2.2.2.1, u.2.2.2.2.2.2.2.2.2.2.2.2.2.2.2.2.2.2.2.2.2.2.2.2.2.2.1, u.2.2.2.2.2.2.2.2.2.2.2.2.2.2.2.2.2.2.2.2.2.2.2.2.2.2.2.1, u.2.2.2.2.2.2.2.2.2.2.2.2.2.2.2.2.2.2.2.2.2.2.2.2.2.2.2.2.1, u.2.2.2.2.2.2.2.2.2.2.2.2.2.2.2.2.2.2.2.2.2.2.2.2.2.2.2.2.2.1, u.2.2.2.2.2.2.2.2.2.2.2.2.2.2.2.2.2.2.2.2.2.2.2.2.2.2.2.2.2.2)
def Xs_row_subject (u : XS) (v : Int32) : XS := (u.1, u.2.1, u.2.2.1, u.2.2.2.1, u.2.2.2.2.1, u.2.2.2.2.2.1, u.2.2.2.2.2.2.1, u.2.2.2.2.2.2.2.1, u.2.2.2.2.2.2.2.2.1, u.2.2.2.2.2.2.2.2.2.1, u.2.2.2.2.2.2.2.2.2.2.1, u.2.2.2.2.2.2.2.2.2.2.2.1, u.2.2.2.2.2.2.2.2.2.2.2.2.1, u.2.2.2.2.2.2.2.2.2.2.2.2.2.1, u.2.2.2.2.2.2.2.2.2.2.2.2.2.2.1, u.2.2.2.2.2.2.2.2.2.2.2.2.2.2.2.1, v, u.2.2.2.2.2.2.2.2.2.2.2.2.2.2.2.2.2.1, u.2.2.2.2.2.2.2.2.2.2.2.2.2.2.2.2.2.2.1, u.2.2.2.2.2.2.2.2.2.2.2.2.2.2.2.2.2.2.2.1, u.2.2.2.2.2.2.2.2.2.2.2.2.2.2.2.2.2.2.2.2.1, u.2.2.2.2.2.2.2.2.2.2.2.2.2.2.2.2.2.2.2.2.2.1, u.2.2.2.2.2.2.2.2.2.2.2.2.2.2.2.2.2.2.2.2.2.2.1, u.2.2.2.2.2.2.2.2.2.2.2.2.2.2.2.2.2.2.2.2.2.2.2.1, u.2.2.2.2.2.2.2.2.2.2.2.2.2.2.2.2.2.2.2.2.2.2.2.2.1, u.2.2.2.2.2.2.2.2.2.2.2.2.2.2.2.2.2.2.2.2.2.2.2.2.2.1, u.2.2.2.2.2.2.2.2.2.2.2.2.2.2.2.2.2.2.2.2.2.2.2.2.2.2.1, u.2.2.2.2.2.2.2.2.2.2.2.2.2.2.2.2.2.2.2.2.2.2.2.2.2.2.2.1, u.2.2.2.2.2.2.2.2.2.2.2.2.2.2.2.2.2.2.2.2.2.2.2.2.2.2.2.2.1, u.2.2.2.2.2.2.2.2.2.2.2.2.2.2.2.2.2.2.2.2.2.2.2.2.2.2.2.2.2.1, u.2.2.2.2.2.2.2.2.2.2.2.2.2.2.2.2.2.2.2.2.2.2.2.2.2.2.2.2.2.2)
def Xs_row_carried (u : XS) (v : Int32) : XS := (u.1, u.2.1, u.2.2.1, u.2.2.2.1, u.2.2.2.2.1, u.2.2.2.2.2.1, u.2.2.2.2.2.2.1, u.2.2.2.2.2.2.2.1, u.2.2.2.2.2.2.2.2.1, u.2.2.2.2.2.2.2.2.2.1, u.2.2.2.2.2.2.2.2.2.2.1, u.2.2.2.2.2.2.2.2.2.2.2.1, u.2.2.2.2.2.2.2.2.2.2.2.2.1, u.2.2.2.2.2.2.2.2.2.2.2.2.2.1, u.2.2.2.2.2.2.2.2.2.2.2.2.2.2.1, u.2.2.2.2.2.2.2.2.2.2.2.2.2.2.2.1, u.2.2.2.2.2.2.2.2.2.2.2.2.2.2.2.2.1, v, u.2.2.2.2.2.2.2.2.2.2.2.2.2.2.2.2.2.2.1, u.2.2.2.2.2.2.2.2.2.2.2.2.2.2.2.2.2.2.2.1, u.2.2.2.2.2.2.2.2.2.2.2.2.2.2.2.2.2.2.2.2.1, u.2.2.2.2.2.2.2.2.2.2.2.2.2.2.2.2.2.2.2.2.2.1, u.2.2.2.2.2.2.2.2.2.2.2.2.2.2.2.2.2.2.2.2.2.2.1, u.2.2.2.2.2.2.2.2.2.2.2.2.2.2.2.2.2.2.2.2.2.2.2.1, u.2.2.2.2.2.2.2.2.2.2.2.2.2.2.2.2.2.2.2.2.2.2.2.2.1, u.2.2.2.2.2.2.2.2.2.2.2.2.2.2.2.2.2.2.2.2.2.2.2.2.2.1, u.2.2.2.2.2.2.2.2.2.2.2.2.2.2.2.2.2.2.2.2.2.2.2.2.2.2.1, u.2.2.2.2.2.2.2.2.2.2.2.2.2.2.2.2.2.2.2.2.2.2.2.2.2.2.2.1, u.2.2.2.2.2.2.2.2.2.2.2.2.2.2.2.2.2.2.2.2.2.2.2.2.2.2.2.2.1, u.2.2.2.2.2.2.2.2.2.2.2.2.2.2.2.2.2.2.2.2.2.2.2.2.2.2.2.2.2.1, u.2.2.2.2.2.2.2.2.2.2.2.2.2.2.2.2.2.2.2.2.2.2.2.2.2.2.2.2.2.2)
def Xs_row_length (u : XS) (v : Int32) : XS := (u.1, u.2.1, u.2.2.1, u.2.2.2.1, u.2.2.2.2.1, u.2.2.2.2.2.1, u.2.2.2.2.2.2.1, u.2.2.2.2.2.2.2.1, u.2.2.2.2.2.2.2.2.1, u.2.2.2.2.2.2.2.2.2.1, u.2.2.2.2.2.2.2.2.2.2.1, u.2.2.2.2.2.2.2.2.2.2.2.1, u.2.2.2.2.2.2.2.2.2.2.2.2.1, u.2.2.2.2.2.2.2.2.2.2.2.2.2.1, u.2.2.2.2.2.2.2.2.2.2.2.2.2.2.1, u.2.2.2.2.2.2.2.2.2.2.2.2.2.2.2.1, u.2.2.2.2.2.2.2.2.2.2.2.2.2.2.2.2.1, u.2.2.2.2.2.2.2.2.2.2.2.2.2.2.2.2.2.1, v, u.2.2.2.2.2.2.2.2.2.2.2.2.2.2.2.2.2.2.2.1, u.2.2.2.2.2.2.2.2.2.2.2.2.2.2.2.2.2.2.2.2.1, u.2.2.2.2.2.2.2.2.2.2.2.2.2.2.2.2.2.2.2.2.2.1, u.2.2.2.2.2.2.2.2.2.2.2.2.2.2.2.2.2.2.2.2.2.2.1, u.2.2.2.2.2.2.2.2.2.2.2.2.2.2.2.2.2.2.2.2.2.2.2.1, u.2.2.2.2.2.2.2.2.2.2.2.2.2.2.2.2.2.2.2.2.2.2.2.2.1, u.2.2.2.2.2.2.2.2.2.2.2.2.2.2.2.2.2.2.2.2.2.2.2.2.2.1, u.2.2.2.2.2.2.2.2.2.2.2.2.2.2.2.2.2.2.2.2.2.2.2.2.2.2.1, u.2.2.2.2.2.2.2.2.2.2.2.2.2.2.2.2.2.2.2.2.2.2.2.2.2.2.2.1, u.2.2.2.2.2.2.2.2.2.2.2.2.2.2.2.2.2.2.2.2.2.2.2.2.2.2.2.2.1, u.2.2.2.2.2.2.2.2.2.2.2.2.2.2.2.2.2.2.2.2.2.2.2.2.2.2.2.2.2.1, u.2.2.2.2.2.2.2.2.2.2.2.2.2.2.2.2.2.2.2.2.2.2.2.2.2.2.2.2.2.2)
def Xs_row_with (u : XS) (v : Nat → Int32) : XS := (u.1, u.2.1, u.2.2.1, u.2.2.2.1, u.2.2.2.2.1, u.2.2.2.2.2.1, u.2.2.2.2.2.2.1, u.2.2.2.2.2.2.2.1, u.2.2.2.2.2.2.2.2.1, u.2.2.2.2.2.2.2.2.2.1, u.2.2.2.2.2.2.2.2.2.2.1, u.2.2.2.2.2.2.2.2.2.2.2.1, u.2.2.2.2.2.2.2.2.2.2.2.2.1, u.2.2.2.2.2.2.2.2.2.2.2.2.2.1, u.2.2.2.2.2.2.2.2.2.2.2.2.2.2.1, u.2.2.2.2.2.2.2.2.2.2.2.2.2.2.2.1, u.2.2.2.2.2.2.2.2.2.2.2.2.2.2.2.2.1, u.2.2.2.2.2.2.2.2.2.2.2.2.2.2.2.2.2.1, u.2.2.2.2.2.2.2.2.2.2.2.2.2.2.2.2.2.2.1, v, u.2.2.2.2.2.2.2.2.2.2.2.2.2.2.2.2.2.2.2.2.1, u.2.2.2.2.2.2.2.2.2.2.2.2.2.2.2.2.2.2.2.2.2.1, u.2.2.2.2.2.2.2.2.2.2.2.2.2.2.2.2.2.2.2.2.2.2.1, u.2.2.2.2.2.2.2.2.2.2.2.2.2.2.2.2.2.2.2.2.2.2.2.1, u.2.2.2.2.2.2.2.2.2.2.2.2.2.2.2.2.2.2.2.2.2.2.2.2.1, u.2.2.2.2.2.2.2.2.2.2.2.2.2.2.2.2.2.2.2.2.2.2.2.2.2.1, u.2.2.2.2.2.2.2.2.2.2.2.2.2.2.2.2.2.2.2.2.2.2.2.2.2.2.1, u.2.2.2.2.2.2.2.2.2.2.2.2.2.2.2.2.2.2.2.2.2.2.2.2.2.2.2.1, u.2.2.2.2.2.2.2.2.2.2.2.2.2.2.2.2.2.2.2.2.2.2.2.2.2.2.2.2.1, u.2.2.2.2.2.2.2.2.2.2.2.2.2.2.2.2.2.2.2.2.2.2.2.2.2.2.2.2.2.1, u.2.2.2.2.2.2.2.2.2.2.2.2.2.2.2.2.2.2.2.2.2.2.2.2.2.2.2.2.2.2)
def Xs_row_op (u : XS) (v : Nat → Int32) : XS := (u.1, u.2.1, u.2.2.1, u.2.2.2.1, u.2.2.2.2.1, u.2.2.2.2.2.1, u.2.2.2.2.2.2.1, u.2.2.2.2.2.2.2.1, u.2.2.2.2.2.2.2.2.1, u.2.2.2.2.2.2.2.2.2.1, u.2.2.2.2.2.2.2.2.2.2.1, u.2.2.2.2.2.2.2.2.2.2.2.1, u.2.2.2.2.2.2.2.2.2.2.2.2.1, u.2.2.2.2.2.2.2.2.2.2.2.2.2.1, u.2.2.2.2.2.2.2.2.2.2.2.2.2.2.1, u.2.2.2.2.2.2.2.2.2.2.2.2.2.2.2.1, u.2.2.2.2.2.2.2.2.2.2.2.2.2.2.2.2.1, u.2.2.2.2.2.2.2.2.2.2.2.2.2.2.2.2.2.1, u.2.2.2.2.2.2.2.2.2.2.2.2.2.2.2.2.2.2.1, u.2.2.2.2.2.2.2.2.2.2.2.2.2.2.2.2.2.2.2.1, v, u.2.2.2.2.2.2.2.2.2.2.2.2.2.2.2.2.2.2.2.2.2.1, u.2.2.2.2.2.2.2.2.2.2.2.2.2.2.2.2.2.2.2.2.2.2.1, u.2.2.2.2.2.2.2.2.2.2.2.2.2.2.2.2.2.2.2.2.2.2.2.1, u.2.2.2.2.2.2.2.2.2.2.2.2.2.2.2.2.2.2.2.2.2.2.2.2.1, u.2.2.2.2.2.2.2.2.2.2.2.2.2.2.2.2.2.2.2.2.2.2.2.2.2.1, u.2.2.2.2.2.2.2.2.2.2.2.2.2.2.2.2.2.2.2.2.2.2.2.2.2.2.1, u.2.2.2.2.2.2.2.2.2.2.2.2.2.2.2.2.2.2.2.2.2.2.2.2.2.2.2.1, u.2.2.2.2.2.2.2.2.2.2.2.2.2.2.2.2.2.2.2.2.2.2.2.2.2.2.2.2.1, u.2.2.2.2.2.2.2.2.2.2.2.2.2.2.2.2.2.2.2.2.2.2.2.2.2.2.2.2.2.1, u.2.2.2.2.2.2.2.2.2.2.2.2.2.2.2.2.2.2.2.2.2.2.2.2.2.2.2.2.2.2)
def Xs_row_negated (u : XS) (v : Nat → Int32) : XS := (u.1, u.2.1, u.2.2.1, u.2.2.2.1, u.2.2.2.2.1, u.2.2.2.2.2.1, u.2.2.2.2.2.2.1, u.2.2.2.2.2.2.2.1, u.2.2.2.2.2.2.2.2.1, u.2.2.2.2.2.2.2.2.2.1, u.2.2.2.2.2.2.2.2.2.2.1, u.2.2.2.2.2.2.2.2.2.2.2.1, u.2.2.2.2.2.2.2.2.2.2.2.2.1, u.2.2.2.2.2.2.2.2.2.2.2.2.2.1, u.2.2.2.2.2.2.2.2.2.2.2.2.2.2.1, u.2.2.2.2.2.2.2.2.2.2.2.2.2.2.2.1, u.2.2.2.2.2.2.2.2.2.2.2.2.2.2.2.2.1, u.2.2.2.2.2.2.2.2.2.2.2.2.2.2.2.2.2.1, u.2.2.2.2.2.2.2.2.2.2.2.2.2.2.2.2.2.2.1, u.2.2.2.2.2.2.2.2.2.2.2.2.2.2.2.2.2.2.2.1, u.2.2.2.2.2.2.2.2.2.2.2.2.2.2.2.2.2.2.2.2.1, v, u.2.2.2.2.2.2.2.2.2.2.2.2.2.2.2.2.2.2.2.2.2.2.1, u.2.2.2.2.2.2.2.2.2.2.2.2.2.2.2.2.2.2.2.2.2.2.2.1, u.2.2.2.2.2.2.2.2.2.2.2.2.2.2.2.2.2.2.2.2.2.2.2.2.1, u.2.2.2.2.2.2.2.2.2.2.2.2.2.2.2.2.2.2.2.2.2.2.2.2.2.1, u.2.2.2.2.2.2.2.2.2.2.2.2.2.2.2.2.2.2.2.2.2.2.2.2.2.2.1, u.2.2.2.2.2.2.2.2.2.2.2.2.2.2.2.2.2.2.2.2.2.2.2.2.2.2.2.1, u.2.2.2.2.2.2.2.2.2.2.2.2.2.2.2.2.2.2.2.2.2.2.2.2.2.2.2.2.1, u.2.2.2.2.2.2.2.2.2.2.2.2.2.2.2.2.2.2.2.2.2.2.2.2.2.2.2.2.2.1, u.2.2.2.2.2.2.2.2.2.2.2.2.2.2.2.2.2.2.2.2.2.2.2.2.2.2.2.2.2.2)
def Xs_row_object (u : XS) (v : Nat → Int32) : XS := (u.1, u.2.1, u.2.2.1, u.2.2.2.1, u.2.2.2.2.1, u.2.2.2.2.2.1, u.2.2.2.2.2.2.1, u.2.2.2.2.2.2.2.1, u.2.2.2.2.2.2.2.2.1, u.2.2.2.2.2.2.2.2.2.1, u.2.2.2.2.2.2.2.2.2.2.1, u.2.2.2.2.2.2.2.2.2.2.2.1, u.2.2.2.2.2.2.2.2.2.2.2.2.1, u.2.2.2.2.2.2.2.2.2.2.2.2.2.1, u.2.2.2.2.2.2.2.2.2.2.2.2.2.2.1, u.2.2.2.2.2.2.2.2.2.2.2.2.2.2.2.1, u.2.2.2.2.2.2.2.2.2.2.2.2.2.2.2.2.1, u.2.2.2.2.2.2.2.2.2.2.2.2.2.2.2.2.2.1, u.2.2.2.2.2.2.2.2.2.2.2.2.2.2.2.2.2.2.1, u.2.2.2.2.2.2.2.2.2.2.2.2.2.2.2.2.2.2.2.1, u.2.2.2.2.2.2.2.2.2.2.2.2.2.2.2.2.2.2.2.2.1, u.2.2.2.2.2.2.2.2.2.2.2.2.2.2.2.2.2.2.2.2.2.1, v, u.2.2.2.2.2.2.2.2.2.2.2.2.2.2.2.2.2.2.2.2.2.2.2.1, u.2.2.2.2.2.2.2.2.2.2.2.2.2.2.2.2.2.2.2.2.2.2.2.2.1, u.2.2.2.2.2.2.2.2.2.2.2.2.2.2.2.2.2.2.2.2.2.2.2.2.2.1, u.2.2.2.2.2.2.2.2.2.2.2.2.2.2.2.2.2.2.2.2.2.2.2.2.2.2.1, u.2.2.2.2.2.2.2.2.2.2.2.2.2.2.2.2.2.2.2.2.2.2.2.2.2.2.2.1, u.2.2.2.2.2.2.2.2.2.2.2.2.2.2.2.2.2.2.2.2.2.2.2.2.2.2.2.2.1, u.2.2.2.2.2.2.2.2.2.2.2.2.2.2.2.2.2.2.2.2.2.2.2.2.2.2.2.2.2.1, u.2.2.2.2.2.2.2.2.2.2.2.2.2.2.2.2.2.2.2.2.2.2.2.2.2.2.2.2.2.2)
def Xs_testing_noted (u : XS) (v : Int32) : XS := (u.1, u.2.1, u.2.2.1, u.2.2.2.1, u.2.2.2.2.1, u.2.2.2.2.2.1, u.2.2.2.2.2.2.1, u.2.2.2.2.2.2.2.1, u.2.2.2.2.2.2.2.2.1, u.2.2.2.2.2.2.2.2.2.1, u.2.2.2.2.2.2.2.2.2.2.1, u.2.2.2.2.2.2.2.2.2.2.2.1, u.2.2.2.2.2.2.2.2.2.2.2.2.1, u.2.2.2.2.2.2.2.2.2.2.2.2.2.1, u.2.2.2.2.2.2.2.2.2.2.2.2.2.2.1, u.2.2.2.2.2.2.2.2.2.2.2.2.2.2.2.1, u.2.2.2.2.2.2.2.2.2.2.2.2.2.2.2.2.1, u.2.2.2.2.2.2.2.2.2.2.2.2.2.2.2.2.2.1, u.2.2.2.2.2.2.2.2.2.2.2.2.2.2.2.2.2.2.1, u.2.2.2.2.2.2.2.2.2.2.2.2.2.2.2.2.2.2.2.1, u.2.2.2.2.2.2.2.2.2.2.2.2.2.2.2.2.2.2.2.2.1, u.2.2.2.2.2.2.2.2.2.2.2.2.2.2.2.2.2.2.2.2.2.1, u.2.2.2.2.2.2.2.2.2.2.2.2.2.2.2.2.2.2.2.2.2.2.1, v, u.2.2.2.2.2.2.2.2.2.2.2.2.2.2.2.2.2.2.2.2.2.2.2.2.1, u.2.2.2.2.2.2.2.2.2.2.2.2.2.2.2.2.2.2.2.2.2.2.2.2.2.1, u.2.2.2.2.2.2.2.2.2.2.2.2.2.2.2.2.2.2.2.2.2.2.2.2.2.2.1, u.2.2.2.2.2.2.2.2.2.2.2.2.2.2.2.2.2.2.2.2.2.2.2.2.2.2.2.1, u.2.2.2.2.2.2.2.2.2.2.2.2.2.2.2.2.2.2.2.2.2.2.2.2.2.2.2.2.1, u.2.2.2.2.2.2.2.2.2.2.2.2.2.2.2.2.2.2.2.2.2.2.2.2.2.2.2.2.2.1, u.2.2.2.2.2.2.2.2.2.2.2.2.2.2.2.2.2.2.2.2.2.2.2.2.2.2.2.2.2.2)
def Xs_testing_depth (u : XS) (v : Int32) : XS := (u.1, u.2.1, u.2.2.1, u.2.2.2.1, u.2.2.2.2.1, u.2.2.2.2.2.1, u.2.2.2.2.2.2.1, u.2.2.2.2.2.2.2.1, u.2.2.2.2.2.2.2.2.1, u.2.2.2.2.2.2.2.2.2.1, u.2.2.2.2.2.2.2.2.2.2.1, u.2.2.2.2.2.2.2.2.2.2.2.1, u.2.2.2.2.2.2.2.2.2.2.2.2.1, u.2.2.2.2.2.2.2.2.2.2.2.2.2.1, u.2.2.2.2.2.2.2.2.2.2.2.2.2.2.1, u.2.2.2.2.2.2.2.2.2.2.2.2.2.2.2.1, u.2.2.2.2.2.2.2.2.2.2.2.2.2.2.2.2.1, u.2.2.2.2.2.2.2.2.2.2.2.2.2.2.2.2.2.1, u.2.2.2.2.2.2.2.2.2.2.2.2.2.2.2.2.2.2.1, u.2.2.2.2.2.2.2.2.2.2.2.2.2.2.2.2.2.2.2.1, u.2.2.2.2.2.2.2.2.2.2.2.2.2.2.2.2.2.2.2.2.1, u.2.2.2.2.2.2.2.2.2.2.2.2.2.2.2.2.2.2.2.2.2.1, u.2.2.2.2.2.2.2.2.2.2.2.2.2.2.2.2.2.2.2.2.2.2.1, u.2.2.2.2.2.2.2.2.2.2.2.2.2.2.2.2.2.2.2.2.2.2.2.1, v, u.2.2.2.2.2.2.2.2.2.2.2.2.2.2.2.2.2.2.2.2.2.2.2.2.2.1, u.2.2.2.2.2.2.2.2.2.2.2.2.2.2.2.2.2.2.2.2.2.2.2.2.2.2.1, u.2.2.2.2.2.2.2.2.2.2.2.2.2.2.2.2.2.2.2.2.2.2.2.2.2.2.2.1, u.2.2.2.2.2.2.2.2.2.2.2.2.2.2.2.2.2.2.2.2.2.2.2.2.2.2.2.2.1, u.2.2.2.2.2.2.2.2.2.2.2.2.2.2.2.2.2.2.2.2.2.2.2.2.2.2.2.2.2.1, u.2.2.2.2.2.2.2.2.2.2.2.2.2.2.2.2.2.2.2.2.2.2.2.2.2.2.2.2.2.2)
def Xs_testing_outcome (u : XS) (v : Nat → Int32) : XS := (u.1, u.2.1, u.2.2.1, u.2.2.2.1, u.2.2.2.2.1, u.2.2.2.2.2.1, u.2.2.2.2.2.2.1, u.2.2.2.2.2.2.2.1, u.2.2.2.2.2.2.2.2.1, u.2.2.2.2.2.2.2.2.2.1, u.2.2.2.2.2.2.2.2.2.2.1, u.2.2.2.2.2.2.2.2.2.2.2.1, u.2.2.2.2.2.2.2.2.2.2.2.2.1, u.2.2.2.2.2.2.2.2.2.2.2.2.2.1, u.2.2.2.2.2.2.2.2.2.2.2.2.2.2.1, u.2.2.2.2.2.2.2.2.2.2.2.2.2.2.2.1, u.2.2.2.2.2.2.2.2.2.2.2.2.2.2.2.2.1, u.2.2.2.2.2.2.2.2.2.2.2.2.2.2.2.2.2.1, u.2.2.2.2.2.2.2.2.2.2.2.2.2.2.2.2.2.2.1, u.2.2.2.2.2.2.2.2.2.2.2.2.2.2.2.2.2.2.2.1, u.2.2.2.2.2.2.2.2.2.2.2.2.2.2.2.2.2.2.2.2.1, u.2.2.2.2.2.2.2.2.2.2.2.2.2.2.2.2.2.2.2.2.2.1, u.2.2.2.2.2.2.2.2.2.2.2.2.2.2.2.2.2.2.2.2.2.2.1, u.2.2.2.2.2.2.2.2.2.2.2.2.2.2.2.2.2.2.2.2.2.2.2.1, u.2.2.2.2.2.2.2.2.2.2.2.2.2.2.2.2.2.2.2.2.2.2.2.2.1, v, u.2.2.2.2.2.2.2.2.2.2.2.2.2.2.2.2.2.2.2.2.2.2.2.2.2.2.1, u.2.2.2.2.2.2.2.2.2.2.2.2.2.2.2.2.2.2.2.2.2.2.2.2.2.2.2.1, u.2.2.2.2.2.2.2.2.2.2.2.2.2.2.2.2.2.2.2.2.2.2.2.2.2.2.2.2.1, u.2.2.2.2.2.2.2.2.2.2.2.2.2.2.2.2.2.2.2.2.2.2.2.2.2.2.2.2.2.1, u.2.2.2.2.2.2.2.2.2.2.2.2.2.2.2.2.2.2.2.2.2.2.2.2.2.2.2.2.2.2)
def Xs_testing_leaves (u : XS) (v : Nat → Int32) : XS := (u.1, u.2.1, u.2.2.1, u.2.2.2.1, u.2.2.2.2.1, u.2.2.2.2.2.1, u.2.2.2.2.2.2.1, u.2.2.2.2.2.2.2.1, u.2.2.2.2.2.2.2.2.1, u.2.2.2.2.2.2.2.2.2.1, u.2.2.2.2.2.2.2.2.2.2.1, u.2.2.2.2.2.2.2.2.2.2.2.1, u.2.2.2.2.2.2.2.2.2.2.2.2.1, u.2.2.2.2.2.2.2.2.2.2.2.2.2.1, u.2.2.2.2.2.2.2.2.2.2.2.2.2.2.1, u.2.2.2.2.2.2.2.2.2.2.2.2.2.2.2.1, u.2.2.2.2.2.2.2.2.2.2.2.2.2.2.2.2.1, u.2.2.2.2.2.2.2.2.2.2.2.2.2.2.2.2.2.1, u.2.2.2.2.2.2.2.2.2.2.2.2.2.2.2.2.2.2.1, u.2.2.2.2.2.2.2.2.2.2.2.2.2.2.2.2.2.2.2.1, u.2.2.2.2.2.2.2.2.2.2.2.2.2.2.2.2.2.2.2.2.1, u.2.2.2.2.2.2.2.2.2.2.2.2.2.2.2.2.2.2.2.2.2.1, u.2.2.2.2.2.2.2.2.2.2.2.2.2.2.2.2.2.2.2.2.2.2.1, u.2.2.2.2.2.2.2.2.2.2.2.2.2.2.2.2.2.2.2.2.2.2.2.1, u.2.2.2.2.2.2.2.2.2.2.2.2.2.2.2.2.2.2.2.2.2.2.2.2.1, u.2.2.2.2.2.2.2.2.2.2.2.2.2.2.2.2.2.2.2.2.2.2.2.2.2.1, v, u.2.2.2.2.2.2.2.2.2.2.2.2.2.2.2.2.2.2.2.2.2.2.2.2.2.2.2.1, u.2.2.2.2.2.2.2.2.2.2.2.2.2.2.2.2.2.2.2.2.2.2.2.2.2.2.2.2.1, u.2.2.2.2.2.2.2.2.2.2.2.2.2.2.2.2.2.2.2.2.2.2.2.2.2.2.2.2.2.1, u.2.2.2.2.2.2.2.2.2.2.2.2.2.2.2.2.2.2.2.2.2.2.2.2.2.2.2.2.2.2)
def Xs_testing_waiting (u : XS) (v : Nat → Int32) : XS := (u.1, u.2.1, u.2.2.1, u.2.2.2.1, u.2.2.2.2.1, u.2.2.2.2.2.1, u.2.2.2.2.2.2.1, u.2.2.2.2.2.2.2.1, u.2.2.2.2.2.2.2.2.1, u.2.2.2.2.2.2.2.2.2.1, u.2.2.2.2.2.2.2.2.2.2.1, u.2.2.2.2.2.2.2.2.2.2.2.1, u.2.2.2.2.2.2.2.2.2.2.2.2.1, u.2.2.2.2.2.2.2.2.2.2.2.2.2.1, u.2.2.2.2.2.2.2.2.2.2.2.2.2.2.1, u.2.2.2.2.2.2.2.2.2.2.2.2.2.2.2.1, u.2.2.2.2.2.2.2.2.2.2.2.2.2.2.2.2.1, u.2.2.2.2.2.2.2.2.2.2.2.2.2.2.2.2.2.1, u.2.2.2.2.2.2.2.2.2.2.2.2.2.2.2.2.2.2.1, u.2.2.2.2.2.2.2.2.2.2.2.2.2.2.2.2.2.2.2.1, u.2.2.2.2.2.2.2.2.2.2.2.2.2.2.2.2.2.2.2.2.1, u.2.2.2.2.2.2.2.2.2.2.2.2.2.2.2.2.2.2.2.2.2.1, u.2.2.2.2.2.2.2.2.2.2.2.2.2.2.2.2.2.2.2.2.2.2.1, u.2.2.2.2.2.2.2.2.2.2.2.2.2.2.2.2.2.2.2.2.2.2.2.1, u.2.2.2.2.2.2.2.2.2.2.2.2.2.2.2.2.2.2.2.2.2.2.2.2.1, u.2.2.2.2.2.2.2.2.2.2.2.2.2.2.2.2.2.2.2.2.2.2.2.2.2.1, u.2.2.2.2.2.2.2.2.2.2.2.2.2.2.2.2.2.2.2.2.2.2.2.2.2.2.1, v, u.2.2.2.2.2.2.2.2.2.2.2.2.2.2.2.2.2.2.2.2.2.2.2.2.2.2.2.2.1, u.2.2.2.2.2.2.2.2.2.2.2.2.2.2.2.2.2.2.2.2.2.2.2.2.2.2.2.2.2.1, u.2.2.2.2.2.2.2.2.2.2.2.2.2.2.2.2.2.2.2.2.2.2.2.2.2.2.2.2.2.2)
def Xs_switches (u : XS) (v : Nat → Int32) : XS := (u.1, u.2.1, u.2.2.1, u.2.2.2.1, u.2.2.2.2.1, u.2.2.2.2.2.1, u.2.2.2.2.2.2.1, u.2.2.2.2.2.2.2.1, u.2.2.2.2.2.2.2.2.1, u.2.2.2.2.2.2.2.2.2.1, u.2.2.2.2.2.2.2.2.2.2.1, u.2.2.2.2.2.2.2.2.2.2.2.1, u.2.2.2.2.2.2.2.2.2.2.2.2.1, u.2.2.2.2.2.2.2.2.2.2.2.2.2.1, u.2.2.2.2.2.2.2.2.2.2.2.2.2.2.1, u.2.2.2.2.2.2.2.2.2.2.2.2.2.2.2.1, u.2.2.2.2.2.2.2.2.2.2.2.2.2.2.2.2.1, u.2.2.2.2.2.2.2.2.2.2.2.2.2.2.2.2.2.1, u.2.2.2.2.2.2.2.2.2.2.2.2.2.2.2.2.2.2.1, u.2.2.2.2.2.2.2.2.2.2.2.2.2.2.2.2.2.2.2.1, u.2.2.2.2.2.2.2.2.2.2.2.2.2.2.2.2.2.2.2.2.1, u.2.2.2.2.2.2.2.2.2.2.2.2.2.2.2.2.2.2.2.2.2.1, u.2.2.2.2.2.2.2.2.2.2.2.2.2.2.2.2.2.2.2.2.2.2.1, u.2.2.2.2.2.2.2.2.2.2.2.2.2.2.2.2.2.2.2.2.2.2.2.1, u.2.2.2.2.2.2.2.2.2.2.2.2.2.2.2.2.2.2.2.2.2.2.2.2.1, u.2.2.2.2.2.2.2.2.2.2.2.2.2.2.2.2.2.2.2.2.2.2.2.2.2.1, u.2.2.2.2.2.2.2.2.2.2.2.2.2.2.2.2.2.2.2.2.2.2.2.2.2.2.1, u.2.2.2.2.2.2.2.2.2.2.2.2.2.2.2.2.2.2.2.2.2.2.2.2.2.2.2.1, v, u.2.2.2.2.2.2.2.2.2.2.2.2.2.2.2.2.2.2.2.2.2.2.2.2.2.2.2.2.2.1, u.2.2.2.2.2.2.2.2.2.2.2.2.2.2.2.2.2.2.2.2.2.2.2.2.2.2.2.2.2.2)
def Xs_leftText (u : XS) (v : Nat → Int32) : XS := (u.1, u.2.1, u.2.2.1, u.2.2.2.1, u.2.2.2.2.1, u.2.2.2.2.2.1, u.2.2.2.2.2.2.1, u.2.2.2.2.2.2.2.1, u.2.2.2.2.2.2.2.2.1, u.2.2.2.2.2.2.2.2.2.1, u.2.2.2.2.2.2.2.2.2.2.1, u.2.2.2.2.2.2.2.2.2.2.2.1, u.2.2.2.2.2.2.2.2.2.2.2.2.1, u.2.2.2.2.2.2.2.2.2.2.2.2.2.1, u.2.2.2.2.2.2.2.2.2.2.2.2.2.2.1, u.2.2.2.2.2.2.2.2.2.2.2.2.2.2.2.1, u.2.2.2.2.2.2.2.2.2.2.2.2.2.2.2.2.1, u.2.2.2.2.2.2.2.2.2.2.2.2.2.2.2.2.2.1, u.2.2.2.2.2.2.2.2.2.2.2.2.2.2.2.2.2.2.1, u.2.2.2.2.2.2.2.2.2.2.2.2.2.2.2.2.2.2.2.1, u.2.2.2.2.2.2.2.2.2.2.2.2.2.2.2.2.2.2.2.2.1, u.2.2.2.2.2.2.2.2.2.2.2.2.2.2.2.2.2.2.2.2.2.1, u.2.2.2.2.2.2.2.2.2.2.2.2.2.2.2.2.2.2.2.2.2.2.1, u.2.2.2.2.2.2.2.2.2.2.2.2.2.2.2.2.2.2.2.2.2.2.2.1, u.2.2.2.2.2.2.2.2.2.2.2.2.2.2.2.2.2.2.2.2.2.2.2.2.1, u.2.2.2.2.2.2.2.2.2.2.2.2.2.2.2.2.2.2.2.2.2.2.2.2.2.1, u.2.2.2.2.2.2.2.2.2.2.2.2.2.2.2.2.2.2.2.2.2.2.2.2.2.2.1, u.2.2.2.2.2.2.2.2.2.2.2.2.2.2.2.2.2.2.2.2.2.2.2.2.2.2.2.1, u.2.2.2.2.2.2.2.2.2.2.2.2.2.2.2.2.2.2.2.2.2.2.2.2.2.2.2.2.1, v, u.2.2.2.2.2.2.2.2.2.2.2.2.2.2.2.2.2.2.2.2.2.2.2.2.2.2.2.2.2.2)
def Xs_rightText (u : XS) (v : Nat → Int32) : XS := (u.1, u.2.1, u.2.2.1, u.2.2.2.1, u.2.2.2.2.1, u.2.2.2.2.2.1, u.2.2.2.2.2.2.1, u.2.2.2.2.2.2.2.1, u.2.2.2.2.2.2.2.2.1, u.2.2.2.2.2.2.2.2.2.1, u.2.2.2.2.2.2.2.2.2.2.1, u.2.2.2.2.2.2.2.2.2.2.2.1, u.2.2.2.2.2.2.2.2.2.2.2.2.1, u.2.2.2.2.2.2.2.2.2.2.2.2.2.1, u.2.2.2.2.2.2.2.2.2.2.2.2.2.2.1, u.2.2.2.2.2.2.2.2.2.2.2.2.2.2.2.1, u.2.2.2.2.2.2.2.2.2.2.2.2.2.2.2.2.1, u.2.2.2.2.2.2.2.2.2.2.2.2.2.2.2.2.2.1, u.2.2.2.2.2.2.2.2.2.2.2.2.2.2.2.2.2.2.1, u.2.2.2.2.2.2.2.2.2.2.2.2.2.2.2.2.2.2.2.1, u.2.2.2.2.2.2.2.2.2.2.2.2.2.2.2.2.2.2.2.2.1, u.2.2.2.2.2.2.2.2.2.2.2.2.2.2.2.2.2.2.2.2.2.1, u.2.2.2.2.2.2.2.2.2.2.2.2.2.2.2.2.2.2.2.2.2.2.1, u.2.2.2.2.2.2.2.2.2.2.2.2.2.2.2.2.2.2.2.2.2.2.2.1, u.2.2.2.2.2.2.2.2.2.2.2.2.2.2.2.2.2.2.2.2.2.2.2.2.1, u.2.2.2.2.2.2.2.2.2.2.2.2.2.2.2.2.2.2.2.2.2.2.2.2.2.1, u.2.2.2.2.2.2.2.2.2.2.2.2.2.2.2.2.2.2.2.2.2.2.2.2.2.2.1, u.2.2.2.2.2.2.2.2.2.2.2.2.2.2.2.2.2.2.2.2.2.2.2.2.2.2.2.1, u.2.2.2.2.2.2.2.2.2.2.2.2.2.2.2.2.2.2.2.2.2.2.2.2.2.2.2.2.1, u.2.2.2.2.2.2.2.2.2.2.2.2.2.2.2.2.2.2.2.2.2.2.2.2.2.2.2.2.2.1, v)
def wX (k : zK) (a : Nat → Nat) (u : XS) : va_W := [((a 0), .inr (0, [.int (Xg_whole u), .ref (a 1), .ref (a 6), .ref (a 8), .ref (a 13), .ref (a 17), .ref (a 22), .ref (a 26), .ref (a 27), .ref (a 28)])),
  ((a 1), .inr (1, [.ref (a 2), .ref (a 3), .ref (a 4), .ref (a 5), .int (Xg_fields_made u)])),
  ((a 2), .inl (k.2.1, 40, .inl (Xg_fields_category u))),
  ((a 3), .inl (k.2.1, 40, .inl (Xg_fields_size u))),
  ((a 4), .inl (k.2.1, 40, .inl (Xg_fields_scale u))),
  ((a 5), .inl (k.2.1, 1280, .inl (Xg_fields_bytes u))),
  ((a 6), .inr (2, [.ref (a 7)])),
  ((a 7), .inl (k.2.1, 256, .inl (Xg_weights_of u))),
  ((a 8), .inr (3, [.ref (a 9), .ref (a 10), .ref (a 11), .ref (a 12), .int (Xg_names_made u)])),
  ((a 9), .inl (k.2.1, 41, .inl (Xg_names_field u))),
  ((a 10), .inl (k.2.1, 41, .inl (Xg_names_ranges u))),
  ((a 11), .inl (k.2.2.1, 328, .inr (.inl (Xg_names_low u)))),
  ((a 12), .inl (k.2.2.1, 328, .inr (.inl (Xg_names_high u)))),
  ((a 13), .inr (4, [.ref (a 14), .ref (a 15), .ref (a 16), .int (Xg_nodes_made u)])),
  ((a 14), .inl (k.2.1, 201, .inl (Xg_nodes_op u))),
  ((a 15), .inl (k.2.1, 201, .inl (Xg_nodes_a u))),
  ((a 16), .inl (k.2.1, 201, .inl (Xg_nodes_b u))),
  ((a 17), .inr (5, [.ref (a 18), .ref (a 19), .ref (a 20), .ref (a 21), .int (Xg_row_subject u), .int (Xg_row_carried u), .int (Xg_row_length u)])),
  ((a 18), .inl (k.2.1, 20, .inl (Xg_row_with u))),
  ((a 19), .inl (k.2.1, 20, .inl (Xg_row_op u))),
  ((a 20), .inl (k.2.2.2, 20, .inl (Xg_row_negated u))),
  ((a 21), .inl (k.2.1, 20, .inl (Xg_row_object u))),
  ((a 22), .inr (6, [.ref (a 23), .ref (a 24), .ref (a 25), .int (Xg_testing_noted u), .int (Xg_testing_depth u)])),
  ((a 23), .inl (k.2.1, 201, .inl (Xg_testing_outcome u))),
  ((a 24), .inl (k.2.1, 200, .inl (Xg_testing_leaves u))),
  ((a 25), .inl (k.2.1, 200, .inl (Xg_testing_waiting u))),
  ((a 26), .inl (k.2.2.2, 16, .inl (Xg_switches u))),
  ((a 27), .inl (k.2.1, 32, .inl (Xg_leftText u))),
  ((a 28), .inl (k.2.1, 32, .inl (Xg_rightText u)))]
theorem XD {k : zK} {a : Nat → Nat} (hI : zI 29 a) (u : XS) : va_D (zA 29 a) (wX k a u) := zDg hI rfl
theorem Xq_whole_whole (u : XS) (v : Int32) : Xg_whole (Xs_whole u v) = v := rfl
theorem Xq_fields_made_whole (u : XS) (v : Int32) : Xg_fields_made (Xs_whole u v) = Xg_fields_made u := rfl
theorem Xq_fields_category_whole (u : XS) (v : Int32) : Xg_fields_category (Xs_whole u v) = Xg_fields_category u := rfl
theorem Xq_fields_size_whole (u : XS) (v : Int32) : Xg_fields_size (Xs_whole u v) = Xg_fields_size u := rfl
theorem Xq_fields_scale_whole (u : XS) (v : Int32) : Xg_fields_scale (Xs_whole u v) = Xg_fields_scale u := rfl
theorem Xq_fields_bytes_whole (u : XS) (v : Int32) : Xg_fields_bytes (Xs_whole u v) = Xg_fields_bytes u := rfl
theorem Xq_weights_of_whole (u : XS) (v : Int32) : Xg_weights_of (Xs_whole u v) = Xg_weights_of u := rfl
theorem Xq_names_made_whole (u : XS) (v : Int32) : Xg_names_made (Xs_whole u v) = Xg_names_made u := rfl
theorem Xq_names_field_whole (u : XS) (v : Int32) : Xg_names_field (Xs_whole u v) = Xg_names_field u := rfl
theorem Xq_names_ranges_whole (u : XS) (v : Int32) : Xg_names_ranges (Xs_whole u v) = Xg_names_ranges u := rfl
theorem Xq_names_low_whole (u : XS) (v : Int32) : Xg_names_low (Xs_whole u v) = Xg_names_low u := rfl
theorem Xq_names_high_whole (u : XS) (v : Int32) : Xg_names_high (Xs_whole u v) = Xg_names_high u := rfl
theorem Xq_nodes_made_whole (u : XS) (v : Int32) : Xg_nodes_made (Xs_whole u v) = Xg_nodes_made u := rfl
theorem Xq_nodes_op_whole (u : XS) (v : Int32) : Xg_nodes_op (Xs_whole u v) = Xg_nodes_op u := rfl
theorem Xq_nodes_a_whole (u : XS) (v : Int32) : Xg_nodes_a (Xs_whole u v) = Xg_nodes_a u := rfl
theorem Xq_nodes_b_whole (u : XS) (v : Int32) : Xg_nodes_b (Xs_whole u v) = Xg_nodes_b u := rfl
theorem Xq_row_subject_whole (u : XS) (v : Int32) : Xg_row_subject (Xs_whole u v) = Xg_row_subject u := rfl
theorem Xq_row_carried_whole (u : XS) (v : Int32) : Xg_row_carried (Xs_whole u v) = Xg_row_carried u := rfl
theorem Xq_row_length_whole (u : XS) (v : Int32) : Xg_row_length (Xs_whole u v) = Xg_row_length u := rfl
theorem Xq_row_with_whole (u : XS) (v : Int32) : Xg_row_with (Xs_whole u v) = Xg_row_with u := rfl
theorem Xq_row_op_whole (u : XS) (v : Int32) : Xg_row_op (Xs_whole u v) = Xg_row_op u := rfl
theorem Xq_row_negated_whole (u : XS) (v : Int32) : Xg_row_negated (Xs_whole u v) = Xg_row_negated u := rfl
theorem Xq_row_object_whole (u : XS) (v : Int32) : Xg_row_object (Xs_whole u v) = Xg_row_object u := rfl
theorem Xq_testing_noted_whole (u : XS) (v : Int32) : Xg_testing_noted (Xs_whole u v) = Xg_testing_noted u := rfl
theorem Xq_testing_depth_whole (u : XS) (v : Int32) : Xg_testing_depth (Xs_whole u v) = Xg_testing_depth u := rfl
theorem Xq_testing_outcome_whole (u : XS) (v : Int32) : Xg_testing_outcome (Xs_whole u v) = Xg_testing_outcome u := rfl
theorem Xq_testing_leaves_whole (u : XS) (v : Int32) : Xg_testing_leaves (Xs_whole u v) = Xg_testing_leaves u := rfl
theorem Xq_testing_waiting_whole (u : XS) (v : Int32) : Xg_testing_waiting (Xs_whole u v) = Xg_testing_waiting u := rfl
theorem Xq_switches_whole (u : XS) (v : Int32) : Xg_switches (Xs_whole u v) = Xg_switches u := rfl
theorem Xq_leftText_whole (u : XS) (v : Int32) : Xg_leftText (Xs_whole u v) = Xg_leftText u := rfl
theorem Xq_rightText_whole (u : XS) (v : Int32) : Xg_rightText (Xs_whole u v) = Xg_rightText u := rfl
theorem Xq_whole_fields_made (u : XS) (v : Int32) : Xg_whole (Xs_fields_made u v) = Xg_whole u := rfl
theorem Xq_fields_made_fields_made (u : XS) (v : Int32) : Xg_fields_made (Xs_fields_made u v) = v := rfl
theorem Xq_fields_category_fields_made (u : XS) (v : Int32) : Xg_fields_category (Xs_fields_made u v) = Xg_fields_category u := rfl
theorem Xq_fields_size_fields_made (u : XS) (v : Int32) : Xg_fields_size (Xs_fields_made u v) = Xg_fields_size u := rfl
theorem Xq_fields_scale_fields_made (u : XS) (v : Int32) : Xg_fields_scale (Xs_fields_made u v) = Xg_fields_scale u := rfl
theorem Xq_fields_bytes_fields_made (u : XS) (v : Int32) : Xg_fields_bytes (Xs_fields_made u v) = Xg_fields_bytes u := rfl
theorem Xq_weights_of_fields_made (u : XS) (v : Int32) : Xg_weights_of (Xs_fields_made u v) = Xg_weights_of u := rfl
theorem Xq_names_made_fields_made (u : XS) (v : Int32) : Xg_names_made (Xs_fields_made u v) = Xg_names_made u := rfl
theorem Xq_names_field_fields_made (u : XS) (v : Int32) : Xg_names_field (Xs_fields_made u v) = Xg_names_field u := rfl
theorem Xq_names_ranges_fields_made (u : XS) (v : Int32) : Xg_names_ranges (Xs_fields_made u v) = Xg_names_ranges u := rfl
theorem Xq_names_low_fields_made (u : XS) (v : Int32) : Xg_names_low (Xs_fields_made u v) = Xg_names_low u := rfl
theorem Xq_names_high_fields_made (u : XS) (v : Int32) : Xg_names_high (Xs_fields_made u v) = Xg_names_high u := rfl
theorem Xq_nodes_made_fields_made (u : XS) (v : Int32) : Xg_nodes_made (Xs_fields_made u v) = Xg_nodes_made u := rfl
theorem Xq_nodes_op_fields_made (u : XS) (v : Int32) : Xg_nodes_op (Xs_fields_made u v) = Xg_nodes_op u := rfl
theorem Xq_nodes_a_fields_made (u : XS) (v : Int32) : Xg_nodes_a (Xs_fields_made u v) = Xg_nodes_a u := rfl
theorem Xq_nodes_b_fields_made (u : XS) (v : Int32) : Xg_nodes_b (Xs_fields_made u v) = Xg_nodes_b u := rfl
theorem Xq_row_subject_fields_made (u : XS) (v : Int32) : Xg_row_subject (Xs_fields_made u v) = Xg_row_subject u := rfl
theorem Xq_row_carried_fields_made (u : XS) (v : Int32) : Xg_row_carried (Xs_fields_made u v) = Xg_row_carried u := rfl
theorem Xq_row_length_fields_made (u : XS) (v : Int32) : Xg_row_length (Xs_fields_made u v) = Xg_row_length u := rfl
theorem Xq_row_with_fields_made (u : XS) (v : Int32) : Xg_row_with (Xs_fields_made u v) = Xg_row_with u := rfl
theorem Xq_row_op_fields_made (u : XS) (v : Int32) : Xg_row_op (Xs_fields_made u v) = Xg_row_op u := rfl
theorem Xq_row_negated_fields_made (u : XS) (v : Int32) : Xg_row_negated (Xs_fields_made u v) = Xg_row_negated u := rfl
theorem Xq_row_object_fields_made (u : XS) (v : Int32) : Xg_row_object (Xs_fields_made u v) = Xg_row_object u := rfl
theorem Xq_testing_noted_fields_made (u : XS) (v : Int32) : Xg_testing_noted (Xs_fields_made u v) = Xg_testing_noted u := rfl
theorem Xq_testing_depth_fields_made (u : XS) (v : Int32) : Xg_testing_depth (Xs_fields_made u v) = Xg_testing_depth u := rfl
theorem Xq_testing_outcome_fields_made (u : XS) (v : Int32) : Xg_testing_outcome (Xs_fields_made u v) = Xg_testing_outcome u := rfl
theorem Xq_testing_leaves_fields_made (u : XS) (v : Int32) : Xg_testing_leaves (Xs_fields_made u v) = Xg_testing_leaves u := rfl
theorem Xq_testing_waiting_fields_made (u : XS) (v : Int32) : Xg_testing_waiting (Xs_fields_made u v) = Xg_testing_waiting u := rfl
theorem Xq_switches_fields_made (u : XS) (v : Int32) : Xg_switches (Xs_fields_made u v) = Xg_switches u := rfl
theorem Xq_leftText_fields_made (u : XS) (v : Int32) : Xg_leftText (Xs_fields_made u v) = Xg_leftText u := rfl
theorem Xq_rightText_fields_made (u : XS) (v : Int32) : Xg_rightText (Xs_fields_made u v) = Xg_rightText u := rfl
theorem Xq_whole_fields_category (u : XS) (v : Nat → Int32) : Xg_whole (Xs_fields_category u v) = Xg_whole u := rfl
theorem Xq_fields_made_fields_category (u : XS) (v : Nat → Int32) : Xg_fields_made (Xs_fields_category u v) = Xg_fields_made u := rfl
theorem Xq_fields_category_fields_category (u : XS) (v : Nat → Int32) : Xg_fields_category (Xs_fields_category u v) = v := rfl
theorem Xq_fields_size_fields_category (u : XS) (v : Nat → Int32) : Xg_fields_size (Xs_fields_category u v) = Xg_fields_size u := rfl
theorem Xq_fields_scale_fields_category (u : XS) (v : Nat → Int32) : Xg_fields_scale (Xs_fields_category u v) = Xg_fields_scale u := rfl
theorem Xq_fields_bytes_fields_category (u : XS) (v : Nat → Int32) : Xg_fields_bytes (Xs_fields_category u v) = Xg_fields_bytes u := rfl
theorem Xq_weights_of_fields_category (u : XS) (v : Nat → Int32) : Xg_weights_of (Xs_fields_category u v) = Xg_weights_of u := rfl
theorem Xq_names_made_fields_category (u : XS) (v : Nat → Int32) : Xg_names_made (Xs_fields_category u v) = Xg_names_made u := rfl
theorem Xq_names_field_fields_category (u : XS) (v : Nat → Int32) : Xg_names_field (Xs_fields_category u v) = Xg_names_field u := rfl
theorem Xq_names_ranges_fields_category (u : XS) (v : Nat → Int32) : Xg_names_ranges (Xs_fields_category u v) = Xg_names_ranges u := rfl
theorem Xq_names_low_fields_category (u : XS) (v : Nat → Int32) : Xg_names_low (Xs_fields_category u v) = Xg_names_low u := rfl
theorem Xq_names_high_fields_category (u : XS) (v : Nat → Int32) : Xg_names_high (Xs_fields_category u v) = Xg_names_high u := rfl
theorem Xq_nodes_made_fields_category (u : XS) (v : Nat → Int32) : Xg_nodes_made (Xs_fields_category u v) = Xg_nodes_made u := rfl
theorem Xq_nodes_op_fields_category (u : XS) (v : Nat → Int32) : Xg_nodes_op (Xs_fields_category u v) = Xg_nodes_op u := rfl
theorem Xq_nodes_a_fields_category (u : XS) (v : Nat → Int32) : Xg_nodes_a (Xs_fields_category u v) = Xg_nodes_a u := rfl
theorem Xq_nodes_b_fields_category (u : XS) (v : Nat → Int32) : Xg_nodes_b (Xs_fields_category u v) = Xg_nodes_b u := rfl
theorem Xq_row_subject_fields_category (u : XS) (v : Nat → Int32) : Xg_row_subject (Xs_fields_category u v) = Xg_row_subject u := rfl
theorem Xq_row_carried_fields_category (u : XS) (v : Nat → Int32) : Xg_row_carried (Xs_fields_category u v) = Xg_row_carried u := rfl
theorem Xq_row_length_fields_category (u : XS) (v : Nat → Int32) : Xg_row_length (Xs_fields_category u v) = Xg_row_length u := rfl
theorem Xq_row_with_fields_category (u : XS) (v : Nat → Int32) : Xg_row_with (Xs_fields_category u v) = Xg_row_with u := rfl
theorem Xq_row_op_fields_category (u : XS) (v : Nat → Int32) : Xg_row_op (Xs_fields_category u v) = Xg_row_op u := rfl
theorem Xq_row_negated_fields_category (u : XS) (v : Nat → Int32) : Xg_row_negated (Xs_fields_category u v) = Xg_row_negated u := rfl
theorem Xq_row_object_fields_category (u : XS) (v : Nat → Int32) : Xg_row_object (Xs_fields_category u v) = Xg_row_object u := rfl
theorem Xq_testing_noted_fields_category (u : XS) (v : Nat → Int32) : Xg_testing_noted (Xs_fields_category u v) = Xg_testing_noted u := rfl
theorem Xq_testing_depth_fields_category (u : XS) (v : Nat → Int32) : Xg_testing_depth (Xs_fields_category u v) = Xg_testing_depth u := rfl
theorem Xq_testing_outcome_fields_category (u : XS) (v : Nat → Int32) : Xg_testing_outcome (Xs_fields_category u v) = Xg_testing_outcome u := rfl
theorem Xq_testing_leaves_fields_category (u : XS) (v : Nat → Int32) : Xg_testing_leaves (Xs_fields_category u v) = Xg_testing_leaves u := rfl
theorem Xq_testing_waiting_fields_category (u : XS) (v : Nat → Int32) : Xg_testing_waiting (Xs_fields_category u v) = Xg_testing_waiting u := rfl
theorem Xq_switches_fields_category (u : XS) (v : Nat → Int32) : Xg_switches (Xs_fields_category u v) = Xg_switches u := rfl
theorem Xq_leftText_fields_category (u : XS) (v : Nat → Int32) : Xg_leftText (Xs_fields_category u v) = Xg_leftText u := rfl
theorem Xq_rightText_fields_category (u : XS) (v : Nat → Int32) : Xg_rightText (Xs_fields_category u v) = Xg_rightText u := rfl
theorem Xq_whole_fields_size (u : XS) (v : Nat → Int32) : Xg_whole (Xs_fields_size u v) = Xg_whole u := rfl
theorem Xq_fields_made_fields_size (u : XS) (v : Nat → Int32) : Xg_fields_made (Xs_fields_size u v) = Xg_fields_made u := rfl
theorem Xq_fields_category_fields_size (u : XS) (v : Nat → Int32) : Xg_fields_category (Xs_fields_size u v) = Xg_fields_category u := rfl
theorem Xq_fields_size_fields_size (u : XS) (v : Nat → Int32) : Xg_fields_size (Xs_fields_size u v) = v := rfl
theorem Xq_fields_scale_fields_size (u : XS) (v : Nat → Int32) : Xg_fields_scale (Xs_fields_size u v) = Xg_fields_scale u := rfl
theorem Xq_fields_bytes_fields_size (u : XS) (v : Nat → Int32) : Xg_fields_bytes (Xs_fields_size u v) = Xg_fields_bytes u := rfl
theorem Xq_weights_of_fields_size (u : XS) (v : Nat → Int32) : Xg_weights_of (Xs_fields_size u v) = Xg_weights_of u := rfl
theorem Xq_names_made_fields_size (u : XS) (v : Nat → Int32) : Xg_names_made (Xs_fields_size u v) = Xg_names_made u := rfl
theorem Xq_names_field_fields_size (u : XS) (v : Nat → Int32) : Xg_names_field (Xs_fields_size u v) = Xg_names_field u := rfl
theorem Xq_names_ranges_fields_size (u : XS) (v : Nat → Int32) : Xg_names_ranges (Xs_fields_size u v) = Xg_names_ranges u := rfl
theorem Xq_names_low_fields_size (u : XS) (v : Nat → Int32) : Xg_names_low (Xs_fields_size u v) = Xg_names_low u := rfl
theorem Xq_names_high_fields_size (u : XS) (v : Nat → Int32) : Xg_names_high (Xs_fields_size u v) = Xg_names_high u := rfl
theorem Xq_nodes_made_fields_size (u : XS) (v : Nat → Int32) : Xg_nodes_made (Xs_fields_size u v) = Xg_nodes_made u := rfl
theorem Xq_nodes_op_fields_size (u : XS) (v : Nat → Int32) : Xg_nodes_op (Xs_fields_size u v) = Xg_nodes_op u := rfl
theorem Xq_nodes_a_fields_size (u : XS) (v : Nat → Int32) : Xg_nodes_a (Xs_fields_size u v) = Xg_nodes_a u := rfl
theorem Xq_nodes_b_fields_size (u : XS) (v : Nat → Int32) : Xg_nodes_b (Xs_fields_size u v) = Xg_nodes_b u := rfl
theorem Xq_row_subject_fields_size (u : XS) (v : Nat → Int32) : Xg_row_subject (Xs_fields_size u v) = Xg_row_subject u := rfl
theorem Xq_row_carried_fields_size (u : XS) (v : Nat → Int32) : Xg_row_carried (Xs_fields_size u v) = Xg_row_carried u := rfl
theorem Xq_row_length_fields_size (u : XS) (v : Nat → Int32) : Xg_row_length (Xs_fields_size u v) = Xg_row_length u := rfl
theorem Xq_row_with_fields_size (u : XS) (v : Nat → Int32) : Xg_row_with (Xs_fields_size u v) = Xg_row_with u := rfl
theorem Xq_row_op_fields_size (u : XS) (v : Nat → Int32) : Xg_row_op (Xs_fields_size u v) = Xg_row_op u := rfl
theorem Xq_row_negated_fields_size (u : XS) (v : Nat → Int32) : Xg_row_negated (Xs_fields_size u v) = Xg_row_negated u := rfl
theorem Xq_row_object_fields_size (u : XS) (v : Nat → Int32) : Xg_row_object (Xs_fields_size u v) = Xg_row_object u := rfl
theorem Xq_testing_noted_fields_size (u : XS) (v : Nat → Int32) : Xg_testing_noted (Xs_fields_size u v) = Xg_testing_noted u := rfl
theorem Xq_testing_depth_fields_size (u : XS) (v : Nat → Int32) : Xg_testing_depth (Xs_fields_size u v) = Xg_testing_depth u := rfl
theorem Xq_testing_outcome_fields_size (u : XS) (v : Nat → Int32) : Xg_testing_outcome (Xs_fields_size u v) = Xg_testing_outcome u := rfl
theorem Xq_testing_leaves_fields_size (u : XS) (v : Nat → Int32) : Xg_testing_leaves (Xs_fields_size u v) = Xg_testing_leaves u := rfl
theorem Xq_testing_waiting_fields_size (u : XS) (v : Nat → Int32) : Xg_testing_waiting (Xs_fields_size u v) = Xg_testing_waiting u := rfl
theorem Xq_switches_fields_size (u : XS) (v : Nat → Int32) : Xg_switches (Xs_fields_size u v) = Xg_switches u := rfl
theorem Xq_leftText_fields_size (u : XS) (v : Nat → Int32) : Xg_leftText (Xs_fields_size u v) = Xg_leftText u := rfl
theorem Xq_rightText_fields_size (u : XS) (v : Nat → Int32) : Xg_rightText (Xs_fields_size u v) = Xg_rightText u := rfl
theorem Xq_whole_fields_scale (u : XS) (v : Nat → Int32) : Xg_whole (Xs_fields_scale u v) = Xg_whole u := rfl
theorem Xq_fields_made_fields_scale (u : XS) (v : Nat → Int32) : Xg_fields_made (Xs_fields_scale u v) = Xg_fields_made u := rfl
theorem Xq_fields_category_fields_scale (u : XS) (v : Nat → Int32) : Xg_fields_category (Xs_fields_scale u v) = Xg_fields_category u := rfl
theorem Xq_fields_size_fields_scale (u : XS) (v : Nat → Int32) : Xg_fields_size (Xs_fields_scale u v) = Xg_fields_size u := rfl
theorem Xq_fields_scale_fields_scale (u : XS) (v : Nat → Int32) : Xg_fields_scale (Xs_fields_scale u v) = v := rfl
theorem Xq_fields_bytes_fields_scale (u : XS) (v : Nat → Int32) : Xg_fields_bytes (Xs_fields_scale u v) = Xg_fields_bytes u := rfl
theorem Xq_weights_of_fields_scale (u : XS) (v : Nat → Int32) : Xg_weights_of (Xs_fields_scale u v) = Xg_weights_of u := rfl
theorem Xq_names_made_fields_scale (u : XS) (v : Nat → Int32) : Xg_names_made (Xs_fields_scale u v) = Xg_names_made u := rfl
theorem Xq_names_field_fields_scale (u : XS) (v : Nat → Int32) : Xg_names_field (Xs_fields_scale u v) = Xg_names_field u := rfl
theorem Xq_names_ranges_fields_scale (u : XS) (v : Nat → Int32) : Xg_names_ranges (Xs_fields_scale u v) = Xg_names_ranges u := rfl
theorem Xq_names_low_fields_scale (u : XS) (v : Nat → Int32) : Xg_names_low (Xs_fields_scale u v) = Xg_names_low u := rfl
theorem Xq_names_high_fields_scale (u : XS) (v : Nat → Int32) : Xg_names_high (Xs_fields_scale u v) = Xg_names_high u := rfl
theorem Xq_nodes_made_fields_scale (u : XS) (v : Nat → Int32) : Xg_nodes_made (Xs_fields_scale u v) = Xg_nodes_made u := rfl
theorem Xq_nodes_op_fields_scale (u : XS) (v : Nat → Int32) : Xg_nodes_op (Xs_fields_scale u v) = Xg_nodes_op u := rfl
theorem Xq_nodes_a_fields_scale (u : XS) (v : Nat → Int32) : Xg_nodes_a (Xs_fields_scale u v) = Xg_nodes_a u := rfl
theorem Xq_nodes_b_fields_scale (u : XS) (v : Nat → Int32) : Xg_nodes_b (Xs_fields_scale u v) = Xg_nodes_b u := rfl
theorem Xq_row_subject_fields_scale (u : XS) (v : Nat → Int32) : Xg_row_subject (Xs_fields_scale u v) = Xg_row_subject u := rfl
theorem Xq_row_carried_fields_scale (u : XS) (v : Nat → Int32) : Xg_row_carried (Xs_fields_scale u v) = Xg_row_carried u := rfl
theorem Xq_row_length_fields_scale (u : XS) (v : Nat → Int32) : Xg_row_length (Xs_fields_scale u v) = Xg_row_length u := rfl
theorem Xq_row_with_fields_scale (u : XS) (v : Nat → Int32) : Xg_row_with (Xs_fields_scale u v) = Xg_row_with u := rfl
theorem Xq_row_op_fields_scale (u : XS) (v : Nat → Int32) : Xg_row_op (Xs_fields_scale u v) = Xg_row_op u := rfl
theorem Xq_row_negated_fields_scale (u : XS) (v : Nat → Int32) : Xg_row_negated (Xs_fields_scale u v) = Xg_row_negated u := rfl
theorem Xq_row_object_fields_scale (u : XS) (v : Nat → Int32) : Xg_row_object (Xs_fields_scale u v) = Xg_row_object u := rfl
theorem Xq_testing_noted_fields_scale (u : XS) (v : Nat → Int32) : Xg_testing_noted (Xs_fields_scale u v) = Xg_testing_noted u := rfl
theorem Xq_testing_depth_fields_scale (u : XS) (v : Nat → Int32) : Xg_testing_depth (Xs_fields_scale u v) = Xg_testing_depth u := rfl
theorem Xq_testing_outcome_fields_scale (u : XS) (v : Nat → Int32) : Xg_testing_outcome (Xs_fields_scale u v) = Xg_testing_outcome u := rfl
theorem Xq_testing_leaves_fields_scale (u : XS) (v : Nat → Int32) : Xg_testing_leaves (Xs_fields_scale u v) = Xg_testing_leaves u := rfl
theorem Xq_testing_waiting_fields_scale (u : XS) (v : Nat → Int32) : Xg_testing_waiting (Xs_fields_scale u v) = Xg_testing_waiting u := rfl
theorem Xq_switches_fields_scale (u : XS) (v : Nat → Int32) : Xg_switches (Xs_fields_scale u v) = Xg_switches u := rfl
theorem Xq_leftText_fields_scale (u : XS) (v : Nat → Int32) : Xg_leftText (Xs_fields_scale u v) = Xg_leftText u := rfl
theorem Xq_rightText_fields_scale (u : XS) (v : Nat → Int32) : Xg_rightText (Xs_fields_scale u v) = Xg_rightText u := rfl
theorem Xq_whole_fields_bytes (u : XS) (v : Nat → Int32) : Xg_whole (Xs_fields_bytes u v) = Xg_whole u := rfl
theorem Xq_fields_made_fields_bytes (u : XS) (v : Nat → Int32) : Xg_fields_made (Xs_fields_bytes u v) = Xg_fields_made u := rfl
theorem Xq_fields_category_fields_bytes (u : XS) (v : Nat → Int32) : Xg_fields_category (Xs_fields_bytes u v) = Xg_fields_category u := rfl
theorem Xq_fields_size_fields_bytes (u : XS) (v : Nat → Int32) : Xg_fields_size (Xs_fields_bytes u v) = Xg_fields_size u := rfl
theorem Xq_fields_scale_fields_bytes (u : XS) (v : Nat → Int32) : Xg_fields_scale (Xs_fields_bytes u v) = Xg_fields_scale u := rfl
theorem Xq_fields_bytes_fields_bytes (u : XS) (v : Nat → Int32) : Xg_fields_bytes (Xs_fields_bytes u v) = v := rfl
theorem Xq_weights_of_fields_bytes (u : XS) (v : Nat → Int32) : Xg_weights_of (Xs_fields_bytes u v) = Xg_weights_of u := rfl
theorem Xq_names_made_fields_bytes (u : XS) (v : Nat → Int32) : Xg_names_made (Xs_fields_bytes u v) = Xg_names_made u := rfl
theorem Xq_names_field_fields_bytes (u : XS) (v : Nat → Int32) : Xg_names_field (Xs_fields_bytes u v) = Xg_names_field u := rfl
theorem Xq_names_ranges_fields_bytes (u : XS) (v : Nat → Int32) : Xg_names_ranges (Xs_fields_bytes u v) = Xg_names_ranges u := rfl
theorem Xq_names_low_fields_bytes (u : XS) (v : Nat → Int32) : Xg_names_low (Xs_fields_bytes u v) = Xg_names_low u := rfl
theorem Xq_names_high_fields_bytes (u : XS) (v : Nat → Int32) : Xg_names_high (Xs_fields_bytes u v) = Xg_names_high u := rfl
theorem Xq_nodes_made_fields_bytes (u : XS) (v : Nat → Int32) : Xg_nodes_made (Xs_fields_bytes u v) = Xg_nodes_made u := rfl
theorem Xq_nodes_op_fields_bytes (u : XS) (v : Nat → Int32) : Xg_nodes_op (Xs_fields_bytes u v) = Xg_nodes_op u := rfl
theorem Xq_nodes_a_fields_bytes (u : XS) (v : Nat → Int32) : Xg_nodes_a (Xs_fields_bytes u v) = Xg_nodes_a u := rfl
theorem Xq_nodes_b_fields_bytes (u : XS) (v : Nat → Int32) : Xg_nodes_b (Xs_fields_bytes u v) = Xg_nodes_b u := rfl
theorem Xq_row_subject_fields_bytes (u : XS) (v : Nat → Int32) : Xg_row_subject (Xs_fields_bytes u v) = Xg_row_subject u := rfl
theorem Xq_row_carried_fields_bytes (u : XS) (v : Nat → Int32) : Xg_row_carried (Xs_fields_bytes u v) = Xg_row_carried u := rfl
theorem Xq_row_length_fields_bytes (u : XS) (v : Nat → Int32) : Xg_row_length (Xs_fields_bytes u v) = Xg_row_length u := rfl
theorem Xq_row_with_fields_bytes (u : XS) (v : Nat → Int32) : Xg_row_with (Xs_fields_bytes u v) = Xg_row_with u := rfl
theorem Xq_row_op_fields_bytes (u : XS) (v : Nat → Int32) : Xg_row_op (Xs_fields_bytes u v) = Xg_row_op u := rfl
theorem Xq_row_negated_fields_bytes (u : XS) (v : Nat → Int32) : Xg_row_negated (Xs_fields_bytes u v) = Xg_row_negated u := rfl
theorem Xq_row_object_fields_bytes (u : XS) (v : Nat → Int32) : Xg_row_object (Xs_fields_bytes u v) = Xg_row_object u := rfl
theorem Xq_testing_noted_fields_bytes (u : XS) (v : Nat → Int32) : Xg_testing_noted (Xs_fields_bytes u v) = Xg_testing_noted u := rfl
theorem Xq_testing_depth_fields_bytes (u : XS) (v : Nat → Int32) : Xg_testing_depth (Xs_fields_bytes u v) = Xg_testing_depth u := rfl
theorem Xq_testing_outcome_fields_bytes (u : XS) (v : Nat → Int32) : Xg_testing_outcome (Xs_fields_bytes u v) = Xg_testing_outcome u := rfl
theorem Xq_testing_leaves_fields_bytes (u : XS) (v : Nat → Int32) : Xg_testing_leaves (Xs_fields_bytes u v) = Xg_testing_leaves u := rfl
theorem Xq_testing_waiting_fields_bytes (u : XS) (v : Nat → Int32) : Xg_testing_waiting (Xs_fields_bytes u v) = Xg_testing_waiting u := rfl
theorem Xq_switches_fields_bytes (u : XS) (v : Nat → Int32) : Xg_switches (Xs_fields_bytes u v) = Xg_switches u := rfl
theorem Xq_leftText_fields_bytes (u : XS) (v : Nat → Int32) : Xg_leftText (Xs_fields_bytes u v) = Xg_leftText u := rfl
theorem Xq_rightText_fields_bytes (u : XS) (v : Nat → Int32) : Xg_rightText (Xs_fields_bytes u v) = Xg_rightText u := rfl
theorem Xq_whole_weights_of (u : XS) (v : Nat → Int32) : Xg_whole (Xs_weights_of u v) = Xg_whole u := rfl
theorem Xq_fields_made_weights_of (u : XS) (v : Nat → Int32) : Xg_fields_made (Xs_weights_of u v) = Xg_fields_made u := rfl
theorem Xq_fields_category_weights_of (u : XS) (v : Nat → Int32) : Xg_fields_category (Xs_weights_of u v) = Xg_fields_category u := rfl
theorem Xq_fields_size_weights_of (u : XS) (v : Nat → Int32) : Xg_fields_size (Xs_weights_of u v) = Xg_fields_size u := rfl
theorem Xq_fields_scale_weights_of (u : XS) (v : Nat → Int32) : Xg_fields_scale (Xs_weights_of u v) = Xg_fields_scale u := rfl
theorem Xq_fields_bytes_weights_of (u : XS) (v : Nat → Int32) : Xg_fields_bytes (Xs_weights_of u v) = Xg_fields_bytes u := rfl
theorem Xq_weights_of_weights_of (u : XS) (v : Nat → Int32) : Xg_weights_of (Xs_weights_of u v) = v := rfl
theorem Xq_names_made_weights_of (u : XS) (v : Nat → Int32) : Xg_names_made (Xs_weights_of u v) = Xg_names_made u := rfl
theorem Xq_names_field_weights_of (u : XS) (v : Nat → Int32) : Xg_names_field (Xs_weights_of u v) = Xg_names_field u := rfl
theorem Xq_names_ranges_weights_of (u : XS) (v : Nat → Int32) : Xg_names_ranges (Xs_weights_of u v) = Xg_names_ranges u := rfl
theorem Xq_names_low_weights_of (u : XS) (v : Nat → Int32) : Xg_names_low (Xs_weights_of u v) = Xg_names_low u := rfl
theorem Xq_names_high_weights_of (u : XS) (v : Nat → Int32) : Xg_names_high (Xs_weights_of u v) = Xg_names_high u := rfl
theorem Xq_nodes_made_weights_of (u : XS) (v : Nat → Int32) : Xg_nodes_made (Xs_weights_of u v) = Xg_nodes_made u := rfl
theorem Xq_nodes_op_weights_of (u : XS) (v : Nat → Int32) : Xg_nodes_op (Xs_weights_of u v) = Xg_nodes_op u := rfl
theorem Xq_nodes_a_weights_of (u : XS) (v : Nat → Int32) : Xg_nodes_a (Xs_weights_of u v) = Xg_nodes_a u := rfl
theorem Xq_nodes_b_weights_of (u : XS) (v : Nat → Int32) : Xg_nodes_b (Xs_weights_of u v) = Xg_nodes_b u := rfl
theorem Xq_row_subject_weights_of (u : XS) (v : Nat → Int32) : Xg_row_subject (Xs_weights_of u v) = Xg_row_subject u := rfl
theorem Xq_row_carried_weights_of (u : XS) (v : Nat → Int32) : Xg_row_carried (Xs_weights_of u v) = Xg_row_carried u := rfl
theorem Xq_row_length_weights_of (u : XS) (v : Nat → Int32) : Xg_row_length (Xs_weights_of u v) = Xg_row_length u := rfl
theorem Xq_row_with_weights_of (u : XS) (v : Nat → Int32) : Xg_row_with (Xs_weights_of u v) = Xg_row_with u := rfl
theorem Xq_row_op_weights_of (u : XS) (v : Nat → Int32) : Xg_row_op (Xs_weights_of u v) = Xg_row_op u := rfl
theorem Xq_row_negated_weights_of (u : XS) (v : Nat → Int32) : Xg_row_negated (Xs_weights_of u v) = Xg_row_negated u := rfl
theorem Xq_row_object_weights_of (u : XS) (v : Nat → Int32) : Xg_row_object (Xs_weights_of u v) = Xg_row_object u := rfl
theorem Xq_testing_noted_weights_of (u : XS) (v : Nat → Int32) : Xg_testing_noted (Xs_weights_of u v) = Xg_testing_noted u := rfl
theorem Xq_testing_depth_weights_of (u : XS) (v : Nat → Int32) : Xg_testing_depth (Xs_weights_of u v) = Xg_testing_depth u := rfl
theorem Xq_testing_outcome_weights_of (u : XS) (v : Nat → Int32) : Xg_testing_outcome (Xs_weights_of u v) = Xg_testing_outcome u := rfl
theorem Xq_testing_leaves_weights_of (u : XS) (v : Nat → Int32) : Xg_testing_leaves (Xs_weights_of u v) = Xg_testing_leaves u := rfl
theorem Xq_testing_waiting_weights_of (u : XS) (v : Nat → Int32) : Xg_testing_waiting (Xs_weights_of u v) = Xg_testing_waiting u := rfl
theorem Xq_switches_weights_of (u : XS) (v : Nat → Int32) : Xg_switches (Xs_weights_of u v) = Xg_switches u := rfl
theorem Xq_leftText_weights_of (u : XS) (v : Nat → Int32) : Xg_leftText (Xs_weights_of u v) = Xg_leftText u := rfl
theorem Xq_rightText_weights_of (u : XS) (v : Nat → Int32) : Xg_rightText (Xs_weights_of u v) = Xg_rightText u := rfl
theorem Xq_whole_names_made (u : XS) (v : Int32) : Xg_whole (Xs_names_made u v) = Xg_whole u := rfl
theorem Xq_fields_made_names_made (u : XS) (v : Int32) : Xg_fields_made (Xs_names_made u v) = Xg_fields_made u := rfl
theorem Xq_fields_category_names_made (u : XS) (v : Int32) : Xg_fields_category (Xs_names_made u v) = Xg_fields_category u := rfl
theorem Xq_fields_size_names_made (u : XS) (v : Int32) : Xg_fields_size (Xs_names_made u v) = Xg_fields_size u := rfl
theorem Xq_fields_scale_names_made (u : XS) (v : Int32) : Xg_fields_scale (Xs_names_made u v) = Xg_fields_scale u := rfl
theorem Xq_fields_bytes_names_made (u : XS) (v : Int32) : Xg_fields_bytes (Xs_names_made u v) = Xg_fields_bytes u := rfl
theorem Xq_weights_of_names_made (u : XS) (v : Int32) : Xg_weights_of (Xs_names_made u v) = Xg_weights_of u := rfl
theorem Xq_names_made_names_made (u : XS) (v : Int32) : Xg_names_made (Xs_names_made u v) = v := rfl
theorem Xq_names_field_names_made (u : XS) (v : Int32) : Xg_names_field (Xs_names_made u v) = Xg_names_field u := rfl
theorem Xq_names_ranges_names_made (u : XS) (v : Int32) : Xg_names_ranges (Xs_names_made u v) = Xg_names_ranges u := rfl
theorem Xq_names_low_names_made (u : XS) (v : Int32) : Xg_names_low (Xs_names_made u v) = Xg_names_low u := rfl
theorem Xq_names_high_names_made (u : XS) (v : Int32) : Xg_names_high (Xs_names_made u v) = Xg_names_high u := rfl
theorem Xq_nodes_made_names_made (u : XS) (v : Int32) : Xg_nodes_made (Xs_names_made u v) = Xg_nodes_made u := rfl
theorem Xq_nodes_op_names_made (u : XS) (v : Int32) : Xg_nodes_op (Xs_names_made u v) = Xg_nodes_op u := rfl
theorem Xq_nodes_a_names_made (u : XS) (v : Int32) : Xg_nodes_a (Xs_names_made u v) = Xg_nodes_a u := rfl
theorem Xq_nodes_b_names_made (u : XS) (v : Int32) : Xg_nodes_b (Xs_names_made u v) = Xg_nodes_b u := rfl
theorem Xq_row_subject_names_made (u : XS) (v : Int32) : Xg_row_subject (Xs_names_made u v) = Xg_row_subject u := rfl
theorem Xq_row_carried_names_made (u : XS) (v : Int32) : Xg_row_carried (Xs_names_made u v) = Xg_row_carried u := rfl
theorem Xq_row_length_names_made (u : XS) (v : Int32) : Xg_row_length (Xs_names_made u v) = Xg_row_length u := rfl
theorem Xq_row_with_names_made (u : XS) (v : Int32) : Xg_row_with (Xs_names_made u v) = Xg_row_with u := rfl
theorem Xq_row_op_names_made (u : XS) (v : Int32) : Xg_row_op (Xs_names_made u v) = Xg_row_op u := rfl
theorem Xq_row_negated_names_made (u : XS) (v : Int32) : Xg_row_negated (Xs_names_made u v) = Xg_row_negated u := rfl
theorem Xq_row_object_names_made (u : XS) (v : Int32) : Xg_row_object (Xs_names_made u v) = Xg_row_object u := rfl
theorem Xq_testing_noted_names_made (u : XS) (v : Int32) : Xg_testing_noted (Xs_names_made u v) = Xg_testing_noted u := rfl
theorem Xq_testing_depth_names_made (u : XS) (v : Int32) : Xg_testing_depth (Xs_names_made u v) = Xg_testing_depth u := rfl
theorem Xq_testing_outcome_names_made (u : XS) (v : Int32) : Xg_testing_outcome (Xs_names_made u v) = Xg_testing_outcome u := rfl
theorem Xq_testing_leaves_names_made (u : XS) (v : Int32) : Xg_testing_leaves (Xs_names_made u v) = Xg_testing_leaves u := rfl
theorem Xq_testing_waiting_names_made (u : XS) (v : Int32) : Xg_testing_waiting (Xs_names_made u v) = Xg_testing_waiting u := rfl
theorem Xq_switches_names_made (u : XS) (v : Int32) : Xg_switches (Xs_names_made u v) = Xg_switches u := rfl
theorem Xq_leftText_names_made (u : XS) (v : Int32) : Xg_leftText (Xs_names_made u v) = Xg_leftText u := rfl
theorem Xq_rightText_names_made (u : XS) (v : Int32) : Xg_rightText (Xs_names_made u v) = Xg_rightText u := rfl
theorem Xq_whole_names_field (u : XS) (v : Nat → Int32) : Xg_whole (Xs_names_field u v) = Xg_whole u := rfl
theorem Xq_fields_made_names_field (u : XS) (v : Nat → Int32) : Xg_fields_made (Xs_names_field u v) = Xg_fields_made u := rfl
theorem Xq_fields_category_names_field (u : XS) (v : Nat → Int32) : Xg_fields_category (Xs_names_field u v) = Xg_fields_category u := rfl
theorem Xq_fields_size_names_field (u : XS) (v : Nat → Int32) : Xg_fields_size (Xs_names_field u v) = Xg_fields_size u := rfl
theorem Xq_fields_scale_names_field (u : XS) (v : Nat → Int32) : Xg_fields_scale (Xs_names_field u v) = Xg_fields_scale u := rfl
theorem Xq_fields_bytes_names_field (u : XS) (v : Nat → Int32) : Xg_fields_bytes (Xs_names_field u v) = Xg_fields_bytes u := rfl
theorem Xq_weights_of_names_field (u : XS) (v : Nat → Int32) : Xg_weights_of (Xs_names_field u v) = Xg_weights_of u := rfl
theorem Xq_names_made_names_field (u : XS) (v : Nat → Int32) : Xg_names_made (Xs_names_field u v) = Xg_names_made u := rfl
theorem Xq_names_field_names_field (u : XS) (v : Nat → Int32) : Xg_names_field (Xs_names_field u v) = v := rfl
theorem Xq_names_ranges_names_field (u : XS) (v : Nat → Int32) : Xg_names_ranges (Xs_names_field u v) = Xg_names_ranges u := rfl
theorem Xq_names_low_names_field (u : XS) (v : Nat → Int32) : Xg_names_low (Xs_names_field u v) = Xg_names_low u := rfl
theorem Xq_names_high_names_field (u : XS) (v : Nat → Int32) : Xg_names_high (Xs_names_field u v) = Xg_names_high u := rfl
theorem Xq_nodes_made_names_field (u : XS) (v : Nat → Int32) : Xg_nodes_made (Xs_names_field u v) = Xg_nodes_made u := rfl
theorem Xq_nodes_op_names_field (u : XS) (v : Nat → Int32) : Xg_nodes_op (Xs_names_field u v) = Xg_nodes_op u := rfl
theorem Xq_nodes_a_names_field (u : XS) (v : Nat → Int32) : Xg_nodes_a (Xs_names_field u v) = Xg_nodes_a u := rfl
theorem Xq_nodes_b_names_field (u : XS) (v : Nat → Int32) : Xg_nodes_b (Xs_names_field u v) = Xg_nodes_b u := rfl
theorem Xq_row_subject_names_field (u : XS) (v : Nat → Int32) : Xg_row_subject (Xs_names_field u v) = Xg_row_subject u := rfl
theorem Xq_row_carried_names_field (u : XS) (v : Nat → Int32) : Xg_row_carried (Xs_names_field u v) = Xg_row_carried u := rfl
theorem Xq_row_length_names_field (u : XS) (v : Nat → Int32) : Xg_row_length (Xs_names_field u v) = Xg_row_length u := rfl
theorem Xq_row_with_names_field (u : XS) (v : Nat → Int32) : Xg_row_with (Xs_names_field u v) = Xg_row_with u := rfl
theorem Xq_row_op_names_field (u : XS) (v : Nat → Int32) : Xg_row_op (Xs_names_field u v) = Xg_row_op u := rfl
theorem Xq_row_negated_names_field (u : XS) (v : Nat → Int32) : Xg_row_negated (Xs_names_field u v) = Xg_row_negated u := rfl
theorem Xq_row_object_names_field (u : XS) (v : Nat → Int32) : Xg_row_object (Xs_names_field u v) = Xg_row_object u := rfl
theorem Xq_testing_noted_names_field (u : XS) (v : Nat → Int32) : Xg_testing_noted (Xs_names_field u v) = Xg_testing_noted u := rfl
theorem Xq_testing_depth_names_field (u : XS) (v : Nat → Int32) : Xg_testing_depth (Xs_names_field u v) = Xg_testing_depth u := rfl
theorem Xq_testing_outcome_names_field (u : XS) (v : Nat → Int32) : Xg_testing_outcome (Xs_names_field u v) = Xg_testing_outcome u := rfl
theorem Xq_testing_leaves_names_field (u : XS) (v : Nat → Int32) : Xg_testing_leaves (Xs_names_field u v) = Xg_testing_leaves u := rfl
theorem Xq_testing_waiting_names_field (u : XS) (v : Nat → Int32) : Xg_testing_waiting (Xs_names_field u v) = Xg_testing_waiting u := rfl
theorem Xq_switches_names_field (u : XS) (v : Nat → Int32) : Xg_switches (Xs_names_field u v) = Xg_switches u := rfl
theorem Xq_leftText_names_field (u : XS) (v : Nat → Int32) : Xg_leftText (Xs_names_field u v) = Xg_leftText u := rfl
theorem Xq_rightText_names_field (u : XS) (v : Nat → Int32) : Xg_rightText (Xs_names_field u v) = Xg_rightText u := rfl
theorem Xq_whole_names_ranges (u : XS) (v : Nat → Int32) : Xg_whole (Xs_names_ranges u v) = Xg_whole u := rfl
theorem Xq_fields_made_names_ranges (u : XS) (v : Nat → Int32) : Xg_fields_made (Xs_names_ranges u v) = Xg_fields_made u := rfl
theorem Xq_fields_category_names_ranges (u : XS) (v : Nat → Int32) : Xg_fields_category (Xs_names_ranges u v) = Xg_fields_category u := rfl
theorem Xq_fields_size_names_ranges (u : XS) (v : Nat → Int32) : Xg_fields_size (Xs_names_ranges u v) = Xg_fields_size u := rfl
theorem Xq_fields_scale_names_ranges (u : XS) (v : Nat → Int32) : Xg_fields_scale (Xs_names_ranges u v) = Xg_fields_scale u := rfl
theorem Xq_fields_bytes_names_ranges (u : XS) (v : Nat → Int32) : Xg_fields_bytes (Xs_names_ranges u v) = Xg_fields_bytes u := rfl
theorem Xq_weights_of_names_ranges (u : XS) (v : Nat → Int32) : Xg_weights_of (Xs_names_ranges u v) = Xg_weights_of u := rfl
theorem Xq_names_made_names_ranges (u : XS) (v : Nat → Int32) : Xg_names_made (Xs_names_ranges u v) = Xg_names_made u := rfl
theorem Xq_names_field_names_ranges (u : XS) (v : Nat → Int32) : Xg_names_field (Xs_names_ranges u v) = Xg_names_field u := rfl
theorem Xq_names_ranges_names_ranges (u : XS) (v : Nat → Int32) : Xg_names_ranges (Xs_names_ranges u v) = v := rfl
theorem Xq_names_low_names_ranges (u : XS) (v : Nat → Int32) : Xg_names_low (Xs_names_ranges u v) = Xg_names_low u := rfl
theorem Xq_names_high_names_ranges (u : XS) (v : Nat → Int32) : Xg_names_high (Xs_names_ranges u v) = Xg_names_high u := rfl
theorem Xq_nodes_made_names_ranges (u : XS) (v : Nat → Int32) : Xg_nodes_made (Xs_names_ranges u v) = Xg_nodes_made u := rfl
theorem Xq_nodes_op_names_ranges (u : XS) (v : Nat → Int32) : Xg_nodes_op (Xs_names_ranges u v) = Xg_nodes_op u := rfl
theorem Xq_nodes_a_names_ranges (u : XS) (v : Nat → Int32) : Xg_nodes_a (Xs_names_ranges u v) = Xg_nodes_a u := rfl
theorem Xq_nodes_b_names_ranges (u : XS) (v : Nat → Int32) : Xg_nodes_b (Xs_names_ranges u v) = Xg_nodes_b u := rfl
theorem Xq_row_subject_names_ranges (u : XS) (v : Nat → Int32) : Xg_row_subject (Xs_names_ranges u v) = Xg_row_subject u := rfl
theorem Xq_row_carried_names_ranges (u : XS) (v : Nat → Int32) : Xg_row_carried (Xs_names_ranges u v) = Xg_row_carried u := rfl
theorem Xq_row_length_names_ranges (u : XS) (v : Nat → Int32) : Xg_row_length (Xs_names_ranges u v) = Xg_row_length u := rfl
theorem Xq_row_with_names_ranges (u : XS) (v : Nat → Int32) : Xg_row_with (Xs_names_ranges u v) = Xg_row_with u := rfl
theorem Xq_row_op_names_ranges (u : XS) (v : Nat → Int32) : Xg_row_op (Xs_names_ranges u v) = Xg_row_op u := rfl
theorem Xq_row_negated_names_ranges (u : XS) (v : Nat → Int32) : Xg_row_negated (Xs_names_ranges u v) = Xg_row_negated u := rfl
theorem Xq_row_object_names_ranges (u : XS) (v : Nat → Int32) : Xg_row_object (Xs_names_ranges u v) = Xg_row_object u := rfl
theorem Xq_testing_noted_names_ranges (u : XS) (v : Nat → Int32) : Xg_testing_noted (Xs_names_ranges u v) = Xg_testing_noted u := rfl
theorem Xq_testing_depth_names_ranges (u : XS) (v : Nat → Int32) : Xg_testing_depth (Xs_names_ranges u v) = Xg_testing_depth u := rfl
theorem Xq_testing_outcome_names_ranges (u : XS) (v : Nat → Int32) : Xg_testing_outcome (Xs_names_ranges u v) = Xg_testing_outcome u := rfl
theorem Xq_testing_leaves_names_ranges (u : XS) (v : Nat → Int32) : Xg_testing_leaves (Xs_names_ranges u v) = Xg_testing_leaves u := rfl
theorem Xq_testing_waiting_names_ranges (u : XS) (v : Nat → Int32) : Xg_testing_waiting (Xs_names_ranges u v) = Xg_testing_waiting u := rfl
theorem Xq_switches_names_ranges (u : XS) (v : Nat → Int32) : Xg_switches (Xs_names_ranges u v) = Xg_switches u := rfl
theorem Xq_leftText_names_ranges (u : XS) (v : Nat → Int32) : Xg_leftText (Xs_names_ranges u v) = Xg_leftText u := rfl
theorem Xq_rightText_names_ranges (u : XS) (v : Nat → Int32) : Xg_rightText (Xs_names_ranges u v) = Xg_rightText u := rfl
theorem Xq_whole_names_low (u : XS) (v : Nat → Int64) : Xg_whole (Xs_names_low u v) = Xg_whole u := rfl
theorem Xq_fields_made_names_low (u : XS) (v : Nat → Int64) : Xg_fields_made (Xs_names_low u v) = Xg_fields_made u := rfl
theorem Xq_fields_category_names_low (u : XS) (v : Nat → Int64) : Xg_fields_category (Xs_names_low u v) = Xg_fields_category u := rfl
theorem Xq_fields_size_names_low (u : XS) (v : Nat → Int64) : Xg_fields_size (Xs_names_low u v) = Xg_fields_size u := rfl
theorem Xq_fields_scale_names_low (u : XS) (v : Nat → Int64) : Xg_fields_scale (Xs_names_low u v) = Xg_fields_scale u := rfl
theorem Xq_fields_bytes_names_low (u : XS) (v : Nat → Int64) : Xg_fields_bytes (Xs_names_low u v) = Xg_fields_bytes u := rfl
theorem Xq_weights_of_names_low (u : XS) (v : Nat → Int64) : Xg_weights_of (Xs_names_low u v) = Xg_weights_of u := rfl
theorem Xq_names_made_names_low (u : XS) (v : Nat → Int64) : Xg_names_made (Xs_names_low u v) = Xg_names_made u := rfl
theorem Xq_names_field_names_low (u : XS) (v : Nat → Int64) : Xg_names_field (Xs_names_low u v) = Xg_names_field u := rfl
theorem Xq_names_ranges_names_low (u : XS) (v : Nat → Int64) : Xg_names_ranges (Xs_names_low u v) = Xg_names_ranges u := rfl
theorem Xq_names_low_names_low (u : XS) (v : Nat → Int64) : Xg_names_low (Xs_names_low u v) = v := rfl
theorem Xq_names_high_names_low (u : XS) (v : Nat → Int64) : Xg_names_high (Xs_names_low u v) = Xg_names_high u := rfl
theorem Xq_nodes_made_names_low (u : XS) (v : Nat → Int64) : Xg_nodes_made (Xs_names_low u v) = Xg_nodes_made u := rfl
theorem Xq_nodes_op_names_low (u : XS) (v : Nat → Int64) : Xg_nodes_op (Xs_names_low u v) = Xg_nodes_op u := rfl
theorem Xq_nodes_a_names_low (u : XS) (v : Nat → Int64) : Xg_nodes_a (Xs_names_low u v) = Xg_nodes_a u := rfl
theorem Xq_nodes_b_names_low (u : XS) (v : Nat → Int64) : Xg_nodes_b (Xs_names_low u v) = Xg_nodes_b u := rfl
theorem Xq_row_subject_names_low (u : XS) (v : Nat → Int64) : Xg_row_subject (Xs_names_low u v) = Xg_row_subject u := rfl
theorem Xq_row_carried_names_low (u : XS) (v : Nat → Int64) : Xg_row_carried (Xs_names_low u v) = Xg_row_carried u := rfl
theorem Xq_row_length_names_low (u : XS) (v : Nat → Int64) : Xg_row_length (Xs_names_low u v) = Xg_row_length u := rfl
theorem Xq_row_with_names_low (u : XS) (v : Nat → Int64) : Xg_row_with (Xs_names_low u v) = Xg_row_with u := rfl
theorem Xq_row_op_names_low (u : XS) (v : Nat → Int64) : Xg_row_op (Xs_names_low u v) = Xg_row_op u := rfl
theorem Xq_row_negated_names_low (u : XS) (v : Nat → Int64) : Xg_row_negated (Xs_names_low u v) = Xg_row_negated u := rfl
theorem Xq_row_object_names_low (u : XS) (v : Nat → Int64) : Xg_row_object (Xs_names_low u v) = Xg_row_object u := rfl
theorem Xq_testing_noted_names_low (u : XS) (v : Nat → Int64) : Xg_testing_noted (Xs_names_low u v) = Xg_testing_noted u := rfl
theorem Xq_testing_depth_names_low (u : XS) (v : Nat → Int64) : Xg_testing_depth (Xs_names_low u v) = Xg_testing_depth u := rfl
theorem Xq_testing_outcome_names_low (u : XS) (v : Nat → Int64) : Xg_testing_outcome (Xs_names_low u v) = Xg_testing_outcome u := rfl
theorem Xq_testing_leaves_names_low (u : XS) (v : Nat → Int64) : Xg_testing_leaves (Xs_names_low u v) = Xg_testing_leaves u := rfl
theorem Xq_testing_waiting_names_low (u : XS) (v : Nat → Int64) : Xg_testing_waiting (Xs_names_low u v) = Xg_testing_waiting u := rfl
theorem Xq_switches_names_low (u : XS) (v : Nat → Int64) : Xg_switches (Xs_names_low u v) = Xg_switches u := rfl
theorem Xq_leftText_names_low (u : XS) (v : Nat → Int64) : Xg_leftText (Xs_names_low u v) = Xg_leftText u := rfl
theorem Xq_rightText_names_low (u : XS) (v : Nat → Int64) : Xg_rightText (Xs_names_low u v) = Xg_rightText u := rfl
theorem Xq_whole_names_high (u : XS) (v : Nat → Int64) : Xg_whole (Xs_names_high u v) = Xg_whole u := rfl
theorem Xq_fields_made_names_high (u : XS) (v : Nat → Int64) : Xg_fields_made (Xs_names_high u v) = Xg_fields_made u := rfl
theorem Xq_fields_category_names_high (u : XS) (v : Nat → Int64) : Xg_fields_category (Xs_names_high u v) = Xg_fields_category u := rfl
theorem Xq_fields_size_names_high (u : XS) (v : Nat → Int64) : Xg_fields_size (Xs_names_high u v) = Xg_fields_size u := rfl
theorem Xq_fields_scale_names_high (u : XS) (v : Nat → Int64) : Xg_fields_scale (Xs_names_high u v) = Xg_fields_scale u := rfl
theorem Xq_fields_bytes_names_high (u : XS) (v : Nat → Int64) : Xg_fields_bytes (Xs_names_high u v) = Xg_fields_bytes u := rfl
theorem Xq_weights_of_names_high (u : XS) (v : Nat → Int64) : Xg_weights_of (Xs_names_high u v) = Xg_weights_of u := rfl
theorem Xq_names_made_names_high (u : XS) (v : Nat → Int64) : Xg_names_made (Xs_names_high u v) = Xg_names_made u := rfl
theorem Xq_names_field_names_high (u : XS) (v : Nat → Int64) : Xg_names_field (Xs_names_high u v) = Xg_names_field u := rfl
theorem Xq_names_ranges_names_high (u : XS) (v : Nat → Int64) : Xg_names_ranges (Xs_names_high u v) = Xg_names_ranges u := rfl
theorem Xq_names_low_names_high (u : XS) (v : Nat → Int64) : Xg_names_low (Xs_names_high u v) = Xg_names_low u := rfl
theorem Xq_names_high_names_high (u : XS) (v : Nat → Int64) : Xg_names_high (Xs_names_high u v) = v := rfl
theorem Xq_nodes_made_names_high (u : XS) (v : Nat → Int64) : Xg_nodes_made (Xs_names_high u v) = Xg_nodes_made u := rfl
theorem Xq_nodes_op_names_high (u : XS) (v : Nat → Int64) : Xg_nodes_op (Xs_names_high u v) = Xg_nodes_op u := rfl
theorem Xq_nodes_a_names_high (u : XS) (v : Nat → Int64) : Xg_nodes_a (Xs_names_high u v) = Xg_nodes_a u := rfl
theorem Xq_nodes_b_names_high (u : XS) (v : Nat → Int64) : Xg_nodes_b (Xs_names_high u v) = Xg_nodes_b u := rfl
theorem Xq_row_subject_names_high (u : XS) (v : Nat → Int64) : Xg_row_subject (Xs_names_high u v) = Xg_row_subject u := rfl
theorem Xq_row_carried_names_high (u : XS) (v : Nat → Int64) : Xg_row_carried (Xs_names_high u v) = Xg_row_carried u := rfl
theorem Xq_row_length_names_high (u : XS) (v : Nat → Int64) : Xg_row_length (Xs_names_high u v) = Xg_row_length u := rfl
theorem Xq_row_with_names_high (u : XS) (v : Nat → Int64) : Xg_row_with (Xs_names_high u v) = Xg_row_with u := rfl
theorem Xq_row_op_names_high (u : XS) (v : Nat → Int64) : Xg_row_op (Xs_names_high u v) = Xg_row_op u := rfl
theorem Xq_row_negated_names_high (u : XS) (v : Nat → Int64) : Xg_row_negated (Xs_names_high u v) = Xg_row_negated u := rfl
theorem Xq_row_object_names_high (u : XS) (v : Nat → Int64) : Xg_row_object (Xs_names_high u v) = Xg_row_object u := rfl
theorem Xq_testing_noted_names_high (u : XS) (v : Nat → Int64) : Xg_testing_noted (Xs_names_high u v) = Xg_testing_noted u := rfl
theorem Xq_testing_depth_names_high (u : XS) (v : Nat → Int64) : Xg_testing_depth (Xs_names_high u v) = Xg_testing_depth u := rfl
theorem Xq_testing_outcome_names_high (u : XS) (v : Nat → Int64) : Xg_testing_outcome (Xs_names_high u v) = Xg_testing_outcome u := rfl
theorem Xq_testing_leaves_names_high (u : XS) (v : Nat → Int64) : Xg_testing_leaves (Xs_names_high u v) = Xg_testing_leaves u := rfl
theorem Xq_testing_waiting_names_high (u : XS) (v : Nat → Int64) : Xg_testing_waiting (Xs_names_high u v) = Xg_testing_waiting u := rfl
theorem Xq_switches_names_high (u : XS) (v : Nat → Int64) : Xg_switches (Xs_names_high u v) = Xg_switches u := rfl
theorem Xq_leftText_names_high (u : XS) (v : Nat → Int64) : Xg_leftText (Xs_names_high u v) = Xg_leftText u := rfl
theorem Xq_rightText_names_high (u : XS) (v : Nat → Int64) : Xg_rightText (Xs_names_high u v) = Xg_rightText u := rfl
theorem Xq_whole_nodes_made (u : XS) (v : Int32) : Xg_whole (Xs_nodes_made u v) = Xg_whole u := rfl
theorem Xq_fields_made_nodes_made (u : XS) (v : Int32) : Xg_fields_made (Xs_nodes_made u v) = Xg_fields_made u := rfl
theorem Xq_fields_category_nodes_made (u : XS) (v : Int32) : Xg_fields_category (Xs_nodes_made u v) = Xg_fields_category u := rfl
theorem Xq_fields_size_nodes_made (u : XS) (v : Int32) : Xg_fields_size (Xs_nodes_made u v) = Xg_fields_size u := rfl
theorem Xq_fields_scale_nodes_made (u : XS) (v : Int32) : Xg_fields_scale (Xs_nodes_made u v) = Xg_fields_scale u := rfl
theorem Xq_fields_bytes_nodes_made (u : XS) (v : Int32) : Xg_fields_bytes (Xs_nodes_made u v) = Xg_fields_bytes u := rfl
theorem Xq_weights_of_nodes_made (u : XS) (v : Int32) : Xg_weights_of (Xs_nodes_made u v) = Xg_weights_of u := rfl
theorem Xq_names_made_nodes_made (u : XS) (v : Int32) : Xg_names_made (Xs_nodes_made u v) = Xg_names_made u := rfl
theorem Xq_names_field_nodes_made (u : XS) (v : Int32) : Xg_names_field (Xs_nodes_made u v) = Xg_names_field u := rfl
theorem Xq_names_ranges_nodes_made (u : XS) (v : Int32) : Xg_names_ranges (Xs_nodes_made u v) = Xg_names_ranges u := rfl
theorem Xq_names_low_nodes_made (u : XS) (v : Int32) : Xg_names_low (Xs_nodes_made u v) = Xg_names_low u := rfl
theorem Xq_names_high_nodes_made (u : XS) (v : Int32) : Xg_names_high (Xs_nodes_made u v) = Xg_names_high u := rfl
theorem Xq_nodes_made_nodes_made (u : XS) (v : Int32) : Xg_nodes_made (Xs_nodes_made u v) = v := rfl
theorem Xq_nodes_op_nodes_made (u : XS) (v : Int32) : Xg_nodes_op (Xs_nodes_made u v) = Xg_nodes_op u := rfl
theorem Xq_nodes_a_nodes_made (u : XS) (v : Int32) : Xg_nodes_a (Xs_nodes_made u v) = Xg_nodes_a u := rfl
theorem Xq_nodes_b_nodes_made (u : XS) (v : Int32) : Xg_nodes_b (Xs_nodes_made u v) = Xg_nodes_b u := rfl
theorem Xq_row_subject_nodes_made (u : XS) (v : Int32) : Xg_row_subject (Xs_nodes_made u v) = Xg_row_subject u := rfl
theorem Xq_row_carried_nodes_made (u : XS) (v : Int32) : Xg_row_carried (Xs_nodes_made u v) = Xg_row_carried u := rfl
theorem Xq_row_length_nodes_made (u : XS) (v : Int32) : Xg_row_length (Xs_nodes_made u v) = Xg_row_length u := rfl
theorem Xq_row_with_nodes_made (u : XS) (v : Int32) : Xg_row_with (Xs_nodes_made u v) = Xg_row_with u := rfl
theorem Xq_row_op_nodes_made (u : XS) (v : Int32) : Xg_row_op (Xs_nodes_made u v) = Xg_row_op u := rfl
theorem Xq_row_negated_nodes_made (u : XS) (v : Int32) : Xg_row_negated (Xs_nodes_made u v) = Xg_row_negated u := rfl
theorem Xq_row_object_nodes_made (u : XS) (v : Int32) : Xg_row_object (Xs_nodes_made u v) = Xg_row_object u := rfl
theorem Xq_testing_noted_nodes_made (u : XS) (v : Int32) : Xg_testing_noted (Xs_nodes_made u v) = Xg_testing_noted u := rfl
theorem Xq_testing_depth_nodes_made (u : XS) (v : Int32) : Xg_testing_depth (Xs_nodes_made u v) = Xg_testing_depth u := rfl
theorem Xq_testing_outcome_nodes_made (u : XS) (v : Int32) : Xg_testing_outcome (Xs_nodes_made u v) = Xg_testing_outcome u := rfl
theorem Xq_testing_leaves_nodes_made (u : XS) (v : Int32) : Xg_testing_leaves (Xs_nodes_made u v) = Xg_testing_leaves u := rfl
theorem Xq_testing_waiting_nodes_made (u : XS) (v : Int32) : Xg_testing_waiting (Xs_nodes_made u v) = Xg_testing_waiting u := rfl
theorem Xq_switches_nodes_made (u : XS) (v : Int32) : Xg_switches (Xs_nodes_made u v) = Xg_switches u := rfl
theorem Xq_leftText_nodes_made (u : XS) (v : Int32) : Xg_leftText (Xs_nodes_made u v) = Xg_leftText u := rfl
theorem Xq_rightText_nodes_made (u : XS) (v : Int32) : Xg_rightText (Xs_nodes_made u v) = Xg_rightText u := rfl
theorem Xq_whole_nodes_op (u : XS) (v : Nat → Int32) : Xg_whole (Xs_nodes_op u v) = Xg_whole u := rfl
theorem Xq_fields_made_nodes_op (u : XS) (v : Nat → Int32) : Xg_fields_made (Xs_nodes_op u v) = Xg_fields_made u := rfl
theorem Xq_fields_category_nodes_op (u : XS) (v : Nat → Int32) : Xg_fields_category (Xs_nodes_op u v) = Xg_fields_category u := rfl
theorem Xq_fields_size_nodes_op (u : XS) (v : Nat → Int32) : Xg_fields_size (Xs_nodes_op u v) = Xg_fields_size u := rfl
theorem Xq_fields_scale_nodes_op (u : XS) (v : Nat → Int32) : Xg_fields_scale (Xs_nodes_op u v) = Xg_fields_scale u := rfl
theorem Xq_fields_bytes_nodes_op (u : XS) (v : Nat → Int32) : Xg_fields_bytes (Xs_nodes_op u v) = Xg_fields_bytes u := rfl
theorem Xq_weights_of_nodes_op (u : XS) (v : Nat → Int32) : Xg_weights_of (Xs_nodes_op u v) = Xg_weights_of u := rfl
theorem Xq_names_made_nodes_op (u : XS) (v : Nat → Int32) : Xg_names_made (Xs_nodes_op u v) = Xg_names_made u := rfl
theorem Xq_names_field_nodes_op (u : XS) (v : Nat → Int32) : Xg_names_field (Xs_nodes_op u v) = Xg_names_field u := rfl
theorem Xq_names_ranges_nodes_op (u : XS) (v : Nat → Int32) : Xg_names_ranges (Xs_nodes_op u v) = Xg_names_ranges u := rfl
theorem Xq_names_low_nodes_op (u : XS) (v : Nat → Int32) : Xg_names_low (Xs_nodes_op u v) = Xg_names_low u := rfl
theorem Xq_names_high_nodes_op (u : XS) (v : Nat → Int32) : Xg_names_high (Xs_nodes_op u v) = Xg_names_high u := rfl
theorem Xq_nodes_made_nodes_op (u : XS) (v : Nat → Int32) : Xg_nodes_made (Xs_nodes_op u v) = Xg_nodes_made u := rfl
theorem Xq_nodes_op_nodes_op (u : XS) (v : Nat → Int32) : Xg_nodes_op (Xs_nodes_op u v) = v := rfl
theorem Xq_nodes_a_nodes_op (u : XS) (v : Nat → Int32) : Xg_nodes_a (Xs_nodes_op u v) = Xg_nodes_a u := rfl
theorem Xq_nodes_b_nodes_op (u : XS) (v : Nat → Int32) : Xg_nodes_b (Xs_nodes_op u v) = Xg_nodes_b u := rfl
theorem Xq_row_subject_nodes_op (u : XS) (v : Nat → Int32) : Xg_row_subject (Xs_nodes_op u v) = Xg_row_subject u := rfl
theorem Xq_row_carried_nodes_op (u : XS) (v : Nat → Int32) : Xg_row_carried (Xs_nodes_op u v) = Xg_row_carried u := rfl
theorem Xq_row_length_nodes_op (u : XS) (v : Nat → Int32) : Xg_row_length (Xs_nodes_op u v) = Xg_row_length u := rfl
theorem Xq_row_with_nodes_op (u : XS) (v : Nat → Int32) : Xg_row_with (Xs_nodes_op u v) = Xg_row_with u := rfl
theorem Xq_row_op_nodes_op (u : XS) (v : Nat → Int32) : Xg_row_op (Xs_nodes_op u v) = Xg_row_op u := rfl
theorem Xq_row_negated_nodes_op (u : XS) (v : Nat → Int32) : Xg_row_negated (Xs_nodes_op u v) = Xg_row_negated u := rfl
theorem Xq_row_object_nodes_op (u : XS) (v : Nat → Int32) : Xg_row_object (Xs_nodes_op u v) = Xg_row_object u := rfl
theorem Xq_testing_noted_nodes_op (u : XS) (v : Nat → Int32) : Xg_testing_noted (Xs_nodes_op u v) = Xg_testing_noted u := rfl
theorem Xq_testing_depth_nodes_op (u : XS) (v : Nat → Int32) : Xg_testing_depth (Xs_nodes_op u v) = Xg_testing_depth u := rfl
theorem Xq_testing_outcome_nodes_op (u : XS) (v : Nat → Int32) : Xg_testing_outcome (Xs_nodes_op u v) = Xg_testing_outcome u := rfl
theorem Xq_testing_leaves_nodes_op (u : XS) (v : Nat → Int32) : Xg_testing_leaves (Xs_nodes_op u v) = Xg_testing_leaves u := rfl
theorem Xq_testing_waiting_nodes_op (u : XS) (v : Nat → Int32) : Xg_testing_waiting (Xs_nodes_op u v) = Xg_testing_waiting u := rfl
theorem Xq_switches_nodes_op (u : XS) (v : Nat → Int32) : Xg_switches (Xs_nodes_op u v) = Xg_switches u := rfl
theorem Xq_leftText_nodes_op (u : XS) (v : Nat → Int32) : Xg_leftText (Xs_nodes_op u v) = Xg_leftText u := rfl
theorem Xq_rightText_nodes_op (u : XS) (v : Nat → Int32) : Xg_rightText (Xs_nodes_op u v) = Xg_rightText u := rfl
theorem Xq_whole_nodes_a (u : XS) (v : Nat → Int32) : Xg_whole (Xs_nodes_a u v) = Xg_whole u := rfl
theorem Xq_fields_made_nodes_a (u : XS) (v : Nat → Int32) : Xg_fields_made (Xs_nodes_a u v) = Xg_fields_made u := rfl
theorem Xq_fields_category_nodes_a (u : XS) (v : Nat → Int32) : Xg_fields_category (Xs_nodes_a u v) = Xg_fields_category u := rfl
theorem Xq_fields_size_nodes_a (u : XS) (v : Nat → Int32) : Xg_fields_size (Xs_nodes_a u v) = Xg_fields_size u := rfl
theorem Xq_fields_scale_nodes_a (u : XS) (v : Nat → Int32) : Xg_fields_scale (Xs_nodes_a u v) = Xg_fields_scale u := rfl
theorem Xq_fields_bytes_nodes_a (u : XS) (v : Nat → Int32) : Xg_fields_bytes (Xs_nodes_a u v) = Xg_fields_bytes u := rfl
theorem Xq_weights_of_nodes_a (u : XS) (v : Nat → Int32) : Xg_weights_of (Xs_nodes_a u v) = Xg_weights_of u := rfl
theorem Xq_names_made_nodes_a (u : XS) (v : Nat → Int32) : Xg_names_made (Xs_nodes_a u v) = Xg_names_made u := rfl
theorem Xq_names_field_nodes_a (u : XS) (v : Nat → Int32) : Xg_names_field (Xs_nodes_a u v) = Xg_names_field u := rfl
theorem Xq_names_ranges_nodes_a (u : XS) (v : Nat → Int32) : Xg_names_ranges (Xs_nodes_a u v) = Xg_names_ranges u := rfl
theorem Xq_names_low_nodes_a (u : XS) (v : Nat → Int32) : Xg_names_low (Xs_nodes_a u v) = Xg_names_low u := rfl
theorem Xq_names_high_nodes_a (u : XS) (v : Nat → Int32) : Xg_names_high (Xs_nodes_a u v) = Xg_names_high u := rfl
theorem Xq_nodes_made_nodes_a (u : XS) (v : Nat → Int32) : Xg_nodes_made (Xs_nodes_a u v) = Xg_nodes_made u := rfl
theorem Xq_nodes_op_nodes_a (u : XS) (v : Nat → Int32) : Xg_nodes_op (Xs_nodes_a u v) = Xg_nodes_op u := rfl
theorem Xq_nodes_a_nodes_a (u : XS) (v : Nat → Int32) : Xg_nodes_a (Xs_nodes_a u v) = v := rfl
theorem Xq_nodes_b_nodes_a (u : XS) (v : Nat → Int32) : Xg_nodes_b (Xs_nodes_a u v) = Xg_nodes_b u := rfl
theorem Xq_row_subject_nodes_a (u : XS) (v : Nat → Int32) : Xg_row_subject (Xs_nodes_a u v) = Xg_row_subject u := rfl
theorem Xq_row_carried_nodes_a (u : XS) (v : Nat → Int32) : Xg_row_carried (Xs_nodes_a u v) = Xg_row_carried u := rfl
theorem Xq_row_length_nodes_a (u : XS) (v : Nat → Int32) : Xg_row_length (Xs_nodes_a u v) = Xg_row_length u := rfl
theorem Xq_row_with_nodes_a (u : XS) (v : Nat → Int32) : Xg_row_with (Xs_nodes_a u v) = Xg_row_with u := rfl
theorem Xq_row_op_nodes_a (u : XS) (v : Nat → Int32) : Xg_row_op (Xs_nodes_a u v) = Xg_row_op u := rfl
theorem Xq_row_negated_nodes_a (u : XS) (v : Nat → Int32) : Xg_row_negated (Xs_nodes_a u v) = Xg_row_negated u := rfl
theorem Xq_row_object_nodes_a (u : XS) (v : Nat → Int32) : Xg_row_object (Xs_nodes_a u v) = Xg_row_object u := rfl
theorem Xq_testing_noted_nodes_a (u : XS) (v : Nat → Int32) : Xg_testing_noted (Xs_nodes_a u v) = Xg_testing_noted u := rfl
theorem Xq_testing_depth_nodes_a (u : XS) (v : Nat → Int32) : Xg_testing_depth (Xs_nodes_a u v) = Xg_testing_depth u := rfl
theorem Xq_testing_outcome_nodes_a (u : XS) (v : Nat → Int32) : Xg_testing_outcome (Xs_nodes_a u v) = Xg_testing_outcome u := rfl
theorem Xq_testing_leaves_nodes_a (u : XS) (v : Nat → Int32) : Xg_testing_leaves (Xs_nodes_a u v) = Xg_testing_leaves u := rfl
theorem Xq_testing_waiting_nodes_a (u : XS) (v : Nat → Int32) : Xg_testing_waiting (Xs_nodes_a u v) = Xg_testing_waiting u := rfl
theorem Xq_switches_nodes_a (u : XS) (v : Nat → Int32) : Xg_switches (Xs_nodes_a u v) = Xg_switches u := rfl
theorem Xq_leftText_nodes_a (u : XS) (v : Nat → Int32) : Xg_leftText (Xs_nodes_a u v) = Xg_leftText u := rfl
theorem Xq_rightText_nodes_a (u : XS) (v : Nat → Int32) : Xg_rightText (Xs_nodes_a u v) = Xg_rightText u := rfl
theorem Xq_whole_nodes_b (u : XS) (v : Nat → Int32) : Xg_whole (Xs_nodes_b u v) = Xg_whole u := rfl
theorem Xq_fields_made_nodes_b (u : XS) (v : Nat → Int32) : Xg_fields_made (Xs_nodes_b u v) = Xg_fields_made u := rfl
theorem Xq_fields_category_nodes_b (u : XS) (v : Nat → Int32) : Xg_fields_category (Xs_nodes_b u v) = Xg_fields_category u := rfl
theorem Xq_fields_size_nodes_b (u : XS) (v : Nat → Int32) : Xg_fields_size (Xs_nodes_b u v) = Xg_fields_size u := rfl
theorem Xq_fields_scale_nodes_b (u : XS) (v : Nat → Int32) : Xg_fields_scale (Xs_nodes_b u v) = Xg_fields_scale u := rfl
theorem Xq_fields_bytes_nodes_b (u : XS) (v : Nat → Int32) : Xg_fields_bytes (Xs_nodes_b u v) = Xg_fields_bytes u := rfl
theorem Xq_weights_of_nodes_b (u : XS) (v : Nat → Int32) : Xg_weights_of (Xs_nodes_b u v) = Xg_weights_of u := rfl
theorem Xq_names_made_nodes_b (u : XS) (v : Nat → Int32) : Xg_names_made (Xs_nodes_b u v) = Xg_names_made u := rfl
theorem Xq_names_field_nodes_b (u : XS) (v : Nat → Int32) : Xg_names_field (Xs_nodes_b u v) = Xg_names_field u := rfl
theorem Xq_names_ranges_nodes_b (u : XS) (v : Nat → Int32) : Xg_names_ranges (Xs_nodes_b u v) = Xg_names_ranges u := rfl
theorem Xq_names_low_nodes_b (u : XS) (v : Nat → Int32) : Xg_names_low (Xs_nodes_b u v) = Xg_names_low u := rfl
theorem Xq_names_high_nodes_b (u : XS) (v : Nat → Int32) : Xg_names_high (Xs_nodes_b u v) = Xg_names_high u := rfl
theorem Xq_nodes_made_nodes_b (u : XS) (v : Nat → Int32) : Xg_nodes_made (Xs_nodes_b u v) = Xg_nodes_made u := rfl
theorem Xq_nodes_op_nodes_b (u : XS) (v : Nat → Int32) : Xg_nodes_op (Xs_nodes_b u v) = Xg_nodes_op u := rfl
theorem Xq_nodes_a_nodes_b (u : XS) (v : Nat → Int32) : Xg_nodes_a (Xs_nodes_b u v) = Xg_nodes_a u := rfl
theorem Xq_nodes_b_nodes_b (u : XS) (v : Nat → Int32) : Xg_nodes_b (Xs_nodes_b u v) = v := rfl
theorem Xq_row_subject_nodes_b (u : XS) (v : Nat → Int32) : Xg_row_subject (Xs_nodes_b u v) = Xg_row_subject u := rfl
theorem Xq_row_carried_nodes_b (u : XS) (v : Nat → Int32) : Xg_row_carried (Xs_nodes_b u v) = Xg_row_carried u := rfl
theorem Xq_row_length_nodes_b (u : XS) (v : Nat → Int32) : Xg_row_length (Xs_nodes_b u v) = Xg_row_length u := rfl
theorem Xq_row_with_nodes_b (u : XS) (v : Nat → Int32) : Xg_row_with (Xs_nodes_b u v) = Xg_row_with u := rfl
theorem Xq_row_op_nodes_b (u : XS) (v : Nat → Int32) : Xg_row_op (Xs_nodes_b u v) = Xg_row_op u := rfl
theorem Xq_row_negated_nodes_b (u : XS) (v : Nat → Int32) : Xg_row_negated (Xs_nodes_b u v) = Xg_row_negated u := rfl
theorem Xq_row_object_nodes_b (u : XS) (v : Nat → Int32) : Xg_row_object (Xs_nodes_b u v) = Xg_row_object u := rfl
theorem Xq_testing_noted_nodes_b (u : XS) (v : Nat → Int32) : Xg_testing_noted (Xs_nodes_b u v) = Xg_testing_noted u := rfl
theorem Xq_testing_depth_nodes_b (u : XS) (v : Nat → Int32) : Xg_testing_depth (Xs_nodes_b u v) = Xg_testing_depth u := rfl
theorem Xq_testing_outcome_nodes_b (u : XS) (v : Nat → Int32) : Xg_testing_outcome (Xs_nodes_b u v) = Xg_testing_outcome u := rfl
theorem Xq_testing_leaves_nodes_b (u : XS) (v : Nat → Int32) : Xg_testing_leaves (Xs_nodes_b u v) = Xg_testing_leaves u := rfl
theorem Xq_testing_waiting_nodes_b (u : XS) (v : Nat → Int32) : Xg_testing_waiting (Xs_nodes_b u v) = Xg_testing_waiting u := rfl
theorem Xq_switches_nodes_b (u : XS) (v : Nat → Int32) : Xg_switches (Xs_nodes_b u v) = Xg_switches u := rfl
theorem Xq_leftText_nodes_b (u : XS) (v : Nat → Int32) : Xg_leftText (Xs_nodes_b u v) = Xg_leftText u := rfl
theorem Xq_rightText_nodes_b (u : XS) (v : Nat → Int32) : Xg_rightText (Xs_nodes_b u v) = Xg_rightText u := rfl
theorem Xq_whole_row_subject (u : XS) (v : Int32) : Xg_whole (Xs_row_subject u v) = Xg_whole u := rfl
theorem Xq_fields_made_row_subject (u : XS) (v : Int32) : Xg_fields_made (Xs_row_subject u v) = Xg_fields_made u := rfl
theorem Xq_fields_category_row_subject (u : XS) (v : Int32) : Xg_fields_category (Xs_row_subject u v) = Xg_fields_category u := rfl
theorem Xq_fields_size_row_subject (u : XS) (v : Int32) : Xg_fields_size (Xs_row_subject u v) = Xg_fields_size u := rfl
theorem Xq_fields_scale_row_subject (u : XS) (v : Int32) : Xg_fields_scale (Xs_row_subject u v) = Xg_fields_scale u := rfl
theorem Xq_fields_bytes_row_subject (u : XS) (v : Int32) : Xg_fields_bytes (Xs_row_subject u v) = Xg_fields_bytes u := rfl
theorem Xq_weights_of_row_subject (u : XS) (v : Int32) : Xg_weights_of (Xs_row_subject u v) = Xg_weights_of u := rfl
theorem Xq_names_made_row_subject (u : XS) (v : Int32) : Xg_names_made (Xs_row_subject u v) = Xg_names_made u := rfl
theorem Xq_names_field_row_subject (u : XS) (v : Int32) : Xg_names_field (Xs_row_subject u v) = Xg_names_field u := rfl
theorem Xq_names_ranges_row_subject (u : XS) (v : Int32) : Xg_names_ranges (Xs_row_subject u v) = Xg_names_ranges u := rfl
theorem Xq_names_low_row_subject (u : XS) (v : Int32) : Xg_names_low (Xs_row_subject u v) = Xg_names_low u := rfl
theorem Xq_names_high_row_subject (u : XS) (v : Int32) : Xg_names_high (Xs_row_subject u v) = Xg_names_high u := rfl
theorem Xq_nodes_made_row_subject (u : XS) (v : Int32) : Xg_nodes_made (Xs_row_subject u v) = Xg_nodes_made u := rfl
theorem Xq_nodes_op_row_subject (u : XS) (v : Int32) : Xg_nodes_op (Xs_row_subject u v) = Xg_nodes_op u := rfl
theorem Xq_nodes_a_row_subject (u : XS) (v : Int32) : Xg_nodes_a (Xs_row_subject u v) = Xg_nodes_a u := rfl
theorem Xq_nodes_b_row_subject (u : XS) (v : Int32) : Xg_nodes_b (Xs_row_subject u v) = Xg_nodes_b u := rfl
theorem Xq_row_subject_row_subject (u : XS) (v : Int32) : Xg_row_subject (Xs_row_subject u v) = v := rfl
theorem Xq_row_carried_row_subject (u : XS) (v : Int32) : Xg_row_carried (Xs_row_subject u v) = Xg_row_carried u := rfl
theorem Xq_row_length_row_subject (u : XS) (v : Int32) : Xg_row_length (Xs_row_subject u v) = Xg_row_length u := rfl
theorem Xq_row_with_row_subject (u : XS) (v : Int32) : Xg_row_with (Xs_row_subject u v) = Xg_row_with u := rfl
theorem Xq_row_op_row_subject (u : XS) (v : Int32) : Xg_row_op (Xs_row_subject u v) = Xg_row_op u := rfl
theorem Xq_row_negated_row_subject (u : XS) (v : Int32) : Xg_row_negated (Xs_row_subject u v) = Xg_row_negated u := rfl
theorem Xq_row_object_row_subject (u : XS) (v : Int32) : Xg_row_object (Xs_row_subject u v) = Xg_row_object u := rfl
theorem Xq_testing_noted_row_subject (u : XS) (v : Int32) : Xg_testing_noted (Xs_row_subject u v) = Xg_testing_noted u := rfl
theorem Xq_testing_depth_row_subject (u : XS) (v : Int32) : Xg_testing_depth (Xs_row_subject u v) = Xg_testing_depth u := rfl
theorem Xq_testing_outcome_row_subject (u : XS) (v : Int32) : Xg_testing_outcome (Xs_row_subject u v) = Xg_testing_outcome u := rfl
theorem Xq_testing_leaves_row_subject (u : XS) (v : Int32) : Xg_testing_leaves (Xs_row_subject u v) = Xg_testing_leaves u := rfl
theorem Xq_testing_waiting_row_subject (u : XS) (v : Int32) : Xg_testing_waiting (Xs_row_subject u v) = Xg_testing_waiting u := rfl
theorem Xq_switches_row_subject (u : XS) (v : Int32) : Xg_switches (Xs_row_subject u v) = Xg_switches u := rfl
theorem Xq_leftText_row_subject (u : XS) (v : Int32) : Xg_leftText (Xs_row_subject u v) = Xg_leftText u := rfl
theorem Xq_rightText_row_subject (u : XS) (v : Int32) : Xg_rightText (Xs_row_subject u v) = Xg_rightText u := rfl
theorem Xq_whole_row_carried (u : XS) (v : Int32) : Xg_whole (Xs_row_carried u v) = Xg_whole u := rfl
theorem Xq_fields_made_row_carried (u : XS) (v : Int32) : Xg_fields_made (Xs_row_carried u v) = Xg_fields_made u := rfl
theorem Xq_fields_category_row_carried (u : XS) (v : Int32) : Xg_fields_category (Xs_row_carried u v) = Xg_fields_category u := rfl
theorem Xq_fields_size_row_carried (u : XS) (v : Int32) : Xg_fields_size (Xs_row_carried u v) = Xg_fields_size u := rfl
theorem Xq_fields_scale_row_carried (u : XS) (v : Int32) : Xg_fields_scale (Xs_row_carried u v) = Xg_fields_scale u := rfl
theorem Xq_fields_bytes_row_carried (u : XS) (v : Int32) : Xg_fields_bytes (Xs_row_carried u v) = Xg_fields_bytes u := rfl
theorem Xq_weights_of_row_carried (u : XS) (v : Int32) : Xg_weights_of (Xs_row_carried u v) = Xg_weights_of u := rfl
theorem Xq_names_made_row_carried (u : XS) (v : Int32) : Xg_names_made (Xs_row_carried u v) = Xg_names_made u := rfl
theorem Xq_names_field_row_carried (u : XS) (v : Int32) : Xg_names_field (Xs_row_carried u v) = Xg_names_field u := rfl
theorem Xq_names_ranges_row_carried (u : XS) (v : Int32) : Xg_names_ranges (Xs_row_carried u v) = Xg_names_ranges u := rfl
theorem Xq_names_low_row_carried (u : XS) (v : Int32) : Xg_names_low (Xs_row_carried u v) = Xg_names_low u := rfl
theorem Xq_names_high_row_carried (u : XS) (v : Int32) : Xg_names_high (Xs_row_carried u v) = Xg_names_high u := rfl
theorem Xq_nodes_made_row_carried (u : XS) (v : Int32) : Xg_nodes_made (Xs_row_carried u v) = Xg_nodes_made u := rfl
theorem Xq_nodes_op_row_carried (u : XS) (v : Int32) : Xg_nodes_op (Xs_row_carried u v) = Xg_nodes_op u := rfl
theorem Xq_nodes_a_row_carried (u : XS) (v : Int32) : Xg_nodes_a (Xs_row_carried u v) = Xg_nodes_a u := rfl
theorem Xq_nodes_b_row_carried (u : XS) (v : Int32) : Xg_nodes_b (Xs_row_carried u v) = Xg_nodes_b u := rfl
theorem Xq_row_subject_row_carried (u : XS) (v : Int32) : Xg_row_subject (Xs_row_carried u v) = Xg_row_subject u := rfl
theorem Xq_row_carried_row_carried (u : XS) (v : Int32) : Xg_row_carried (Xs_row_carried u v) = v := rfl
theorem Xq_row_length_row_carried (u : XS) (v : Int32) : Xg_row_length (Xs_row_carried u v) = Xg_row_length u := rfl
theorem Xq_row_with_row_carried (u : XS) (v : Int32) : Xg_row_with (Xs_row_carried u v) = Xg_row_with u := rfl
theorem Xq_row_op_row_carried (u : XS) (v : Int32) : Xg_row_op (Xs_row_carried u v) = Xg_row_op u := rfl
theorem Xq_row_negated_row_carried (u : XS) (v : Int32) : Xg_row_negated (Xs_row_carried u v) = Xg_row_negated u := rfl
theorem Xq_row_object_row_carried (u : XS) (v : Int32) : Xg_row_object (Xs_row_carried u v) = Xg_row_object u := rfl
theorem Xq_testing_noted_row_carried (u : XS) (v : Int32) : Xg_testing_noted (Xs_row_carried u v) = Xg_testing_noted u := rfl
theorem Xq_testing_depth_row_carried (u : XS) (v : Int32) : Xg_testing_depth (Xs_row_carried u v) = Xg_testing_depth u := rfl
theorem Xq_testing_outcome_row_carried (u : XS) (v : Int32) : Xg_testing_outcome (Xs_row_carried u v) = Xg_testing_outcome u := rfl
theorem Xq_testing_leaves_row_carried (u : XS) (v : Int32) : Xg_testing_leaves (Xs_row_carried u v) = Xg_testing_leaves u := rfl
theorem Xq_testing_waiting_row_carried (u : XS) (v : Int32) : Xg_testing_waiting (Xs_row_carried u v) = Xg_testing_waiting u := rfl
theorem Xq_switches_row_carried (u : XS) (v : Int32) : Xg_switches (Xs_row_carried u v) = Xg_switches u := rfl
theorem Xq_leftText_row_carried (u : XS) (v : Int32) : Xg_leftText (Xs_row_carried u v) = Xg_leftText u := rfl
theorem Xq_rightText_row_carried (u : XS) (v : Int32) : Xg_rightText (Xs_row_carried u v) = Xg_rightText u := rfl
theorem Xq_whole_row_length (u : XS) (v : Int32) : Xg_whole (Xs_row_length u v) = Xg_whole u := rfl
theorem Xq_fields_made_row_length (u : XS) (v : Int32) : Xg_fields_made (Xs_row_length u v) = Xg_fields_made u := rfl
theorem Xq_fields_category_row_length (u : XS) (v : Int32) : Xg_fields_category (Xs_row_length u v) = Xg_fields_category u := rfl
theorem Xq_fields_size_row_length (u : XS) (v : Int32) : Xg_fields_size (Xs_row_length u v) = Xg_fields_size u := rfl
theorem Xq_fields_scale_row_length (u : XS) (v : Int32) : Xg_fields_scale (Xs_row_length u v) = Xg_fields_scale u := rfl
theorem Xq_fields_bytes_row_length (u : XS) (v : Int32) : Xg_fields_bytes (Xs_row_length u v) = Xg_fields_bytes u := rfl
theorem Xq_weights_of_row_length (u : XS) (v : Int32) : Xg_weights_of (Xs_row_length u v) = Xg_weights_of u := rfl
theorem Xq_names_made_row_length (u : XS) (v : Int32) : Xg_names_made (Xs_row_length u v) = Xg_names_made u := rfl
theorem Xq_names_field_row_length (u : XS) (v : Int32) : Xg_names_field (Xs_row_length u v) = Xg_names_field u := rfl
theorem Xq_names_ranges_row_length (u : XS) (v : Int32) : Xg_names_ranges (Xs_row_length u v) = Xg_names_ranges u := rfl
theorem Xq_names_low_row_length (u : XS) (v : Int32) : Xg_names_low (Xs_row_length u v) = Xg_names_low u := rfl
theorem Xq_names_high_row_length (u : XS) (v : Int32) : Xg_names_high (Xs_row_length u v) = Xg_names_high u := rfl
theorem Xq_nodes_made_row_length (u : XS) (v : Int32) : Xg_nodes_made (Xs_row_length u v) = Xg_nodes_made u := rfl
theorem Xq_nodes_op_row_length (u : XS) (v : Int32) : Xg_nodes_op (Xs_row_length u v) = Xg_nodes_op u := rfl
theorem Xq_nodes_a_row_length (u : XS) (v : Int32) : Xg_nodes_a (Xs_row_length u v) = Xg_nodes_a u := rfl
theorem Xq_nodes_b_row_length (u : XS) (v : Int32) : Xg_nodes_b (Xs_row_length u v) = Xg_nodes_b u := rfl
theorem Xq_row_subject_row_length (u : XS) (v : Int32) : Xg_row_subject (Xs_row_length u v) = Xg_row_subject u := rfl
theorem Xq_row_carried_row_length (u : XS) (v : Int32) : Xg_row_carried (Xs_row_length u v) = Xg_row_carried u := rfl
theorem Xq_row_length_row_length (u : XS) (v : Int32) : Xg_row_length (Xs_row_length u v) = v := rfl
theorem Xq_row_with_row_length (u : XS) (v : Int32) : Xg_row_with (Xs_row_length u v) = Xg_row_with u := rfl
theorem Xq_row_op_row_length (u : XS) (v : Int32) : Xg_row_op (Xs_row_length u v) = Xg_row_op u := rfl
theorem Xq_row_negated_row_length (u : XS) (v : Int32) : Xg_row_negated (Xs_row_length u v) = Xg_row_negated u := rfl
theorem Xq_row_object_row_length (u : XS) (v : Int32) : Xg_row_object (Xs_row_length u v) = Xg_row_object u := rfl
theorem Xq_testing_noted_row_length (u : XS) (v : Int32) : Xg_testing_noted (Xs_row_length u v) = Xg_testing_noted u := rfl
theorem Xq_testing_depth_row_length (u : XS) (v : Int32) : Xg_testing_depth (Xs_row_length u v) = Xg_testing_depth u := rfl
theorem Xq_testing_outcome_row_length (u : XS) (v : Int32) : Xg_testing_outcome (Xs_row_length u v) = Xg_testing_outcome u := rfl
theorem Xq_testing_leaves_row_length (u : XS) (v : Int32) : Xg_testing_leaves (Xs_row_length u v) = Xg_testing_leaves u := rfl
theorem Xq_testing_waiting_row_length (u : XS) (v : Int32) : Xg_testing_waiting (Xs_row_length u v) = Xg_testing_waiting u := rfl
theorem Xq_switches_row_length (u : XS) (v : Int32) : Xg_switches (Xs_row_length u v) = Xg_switches u := rfl
theorem Xq_leftText_row_length (u : XS) (v : Int32) : Xg_leftText (Xs_row_length u v) = Xg_leftText u := rfl
theorem Xq_rightText_row_length (u : XS) (v : Int32) : Xg_rightText (Xs_row_length u v) = Xg_rightText u := rfl
theorem Xq_whole_row_with (u : XS) (v : Nat → Int32) : Xg_whole (Xs_row_with u v) = Xg_whole u := rfl
theorem Xq_fields_made_row_with (u : XS) (v : Nat → Int32) : Xg_fields_made (Xs_row_with u v) = Xg_fields_made u := rfl
theorem Xq_fields_category_row_with (u : XS) (v : Nat → Int32) : Xg_fields_category (Xs_row_with u v) = Xg_fields_category u := rfl
theorem Xq_fields_size_row_with (u : XS) (v : Nat → Int32) : Xg_fields_size (Xs_row_with u v) = Xg_fields_size u := rfl
theorem Xq_fields_scale_row_with (u : XS) (v : Nat → Int32) : Xg_fields_scale (Xs_row_with u v) = Xg_fields_scale u := rfl
theorem Xq_fields_bytes_row_with (u : XS) (v : Nat → Int32) : Xg_fields_bytes (Xs_row_with u v) = Xg_fields_bytes u := rfl
theorem Xq_weights_of_row_with (u : XS) (v : Nat → Int32) : Xg_weights_of (Xs_row_with u v) = Xg_weights_of u := rfl
theorem Xq_names_made_row_with (u : XS) (v : Nat → Int32) : Xg_names_made (Xs_row_with u v) = Xg_names_made u := rfl
theorem Xq_names_field_row_with (u : XS) (v : Nat → Int32) : Xg_names_field (Xs_row_with u v) = Xg_names_field u := rfl
theorem Xq_names_ranges_row_with (u : XS) (v : Nat → Int32) : Xg_names_ranges (Xs_row_with u v) = Xg_names_ranges u := rfl
theorem Xq_names_low_row_with (u : XS) (v : Nat → Int32) : Xg_names_low (Xs_row_with u v) = Xg_names_low u := rfl
theorem Xq_names_high_row_with (u : XS) (v : Nat → Int32) : Xg_names_high (Xs_row_with u v) = Xg_names_high u := rfl
theorem Xq_nodes_made_row_with (u : XS) (v : Nat → Int32) : Xg_nodes_made (Xs_row_with u v) = Xg_nodes_made u := rfl
theorem Xq_nodes_op_row_with (u : XS) (v : Nat → Int32) : Xg_nodes_op (Xs_row_with u v) = Xg_nodes_op u := rfl
theorem Xq_nodes_a_row_with (u : XS) (v : Nat → Int32) : Xg_nodes_a (Xs_row_with u v) = Xg_nodes_a u := rfl
theorem Xq_nodes_b_row_with (u : XS) (v : Nat → Int32) : Xg_nodes_b (Xs_row_with u v) = Xg_nodes_b u := rfl
theorem Xq_row_subject_row_with (u : XS) (v : Nat → Int32) : Xg_row_subject (Xs_row_with u v) = Xg_row_subject u := rfl
theorem Xq_row_carried_row_with (u : XS) (v : Nat → Int32) : Xg_row_carried (Xs_row_with u v) = Xg_row_carried u := rfl
theorem Xq_row_length_row_with (u : XS) (v : Nat → Int32) : Xg_row_length (Xs_row_with u v) = Xg_row_length u := rfl
theorem Xq_row_with_row_with (u : XS) (v : Nat → Int32) : Xg_row_with (Xs_row_with u v) = v := rfl
theorem Xq_row_op_row_with (u : XS) (v : Nat → Int32) : Xg_row_op (Xs_row_with u v) = Xg_row_op u := rfl
theorem Xq_row_negated_row_with (u : XS) (v : Nat → Int32) : Xg_row_negated (Xs_row_with u v) = Xg_row_negated u := rfl
theorem Xq_row_object_row_with (u : XS) (v : Nat → Int32) : Xg_row_object (Xs_row_with u v) = Xg_row_object u := rfl
theorem Xq_testing_noted_row_with (u : XS) (v : Nat → Int32) : Xg_testing_noted (Xs_row_with u v) = Xg_testing_noted u := rfl
theorem Xq_testing_depth_row_with (u : XS) (v : Nat → Int32) : Xg_testing_depth (Xs_row_with u v) = Xg_testing_depth u := rfl
theorem Xq_testing_outcome_row_with (u : XS) (v : Nat → Int32) : Xg_testing_outcome (Xs_row_with u v) = Xg_testing_outcome u := rfl
theorem Xq_testing_leaves_row_with (u : XS) (v : Nat → Int32) : Xg_testing_leaves (Xs_row_with u v) = Xg_testing_leaves u := rfl
theorem Xq_testing_waiting_row_with (u : XS) (v : Nat → Int32) : Xg_testing_waiting (Xs_row_with u v) = Xg_testing_waiting u := rfl
theorem Xq_switches_row_with (u : XS) (v : Nat → Int32) : Xg_switches (Xs_row_with u v) = Xg_switches u := rfl
theorem Xq_leftText_row_with (u : XS) (v : Nat → Int32) : Xg_leftText (Xs_row_with u v) = Xg_leftText u := rfl
theorem Xq_rightText_row_with (u : XS) (v : Nat → Int32) : Xg_rightText (Xs_row_with u v) = Xg_rightText u := rfl
theorem Xq_whole_row_op (u : XS) (v : Nat → Int32) : Xg_whole (Xs_row_op u v) = Xg_whole u := rfl
theorem Xq_fields_made_row_op (u : XS) (v : Nat → Int32) : Xg_fields_made (Xs_row_op u v) = Xg_fields_made u := rfl
theorem Xq_fields_category_row_op (u : XS) (v : Nat → Int32) : Xg_fields_category (Xs_row_op u v) = Xg_fields_category u := rfl
theorem Xq_fields_size_row_op (u : XS) (v : Nat → Int32) : Xg_fields_size (Xs_row_op u v) = Xg_fields_size u := rfl
theorem Xq_fields_scale_row_op (u : XS) (v : Nat → Int32) : Xg_fields_scale (Xs_row_op u v) = Xg_fields_scale u := rfl
theorem Xq_fields_bytes_row_op (u : XS) (v : Nat → Int32) : Xg_fields_bytes (Xs_row_op u v) = Xg_fields_bytes u := rfl
theorem Xq_weights_of_row_op (u : XS) (v : Nat → Int32) : Xg_weights_of (Xs_row_op u v) = Xg_weights_of u := rfl
theorem Xq_names_made_row_op (u : XS) (v : Nat → Int32) : Xg_names_made (Xs_row_op u v) = Xg_names_made u := rfl
theorem Xq_names_field_row_op (u : XS) (v : Nat → Int32) : Xg_names_field (Xs_row_op u v) = Xg_names_field u := rfl
theorem Xq_names_ranges_row_op (u : XS) (v : Nat → Int32) : Xg_names_ranges (Xs_row_op u v) = Xg_names_ranges u := rfl
theorem Xq_names_low_row_op (u : XS) (v : Nat → Int32) : Xg_names_low (Xs_row_op u v) = Xg_names_low u := rfl
theorem Xq_names_high_row_op (u : XS) (v : Nat → Int32) : Xg_names_high (Xs_row_op u v) = Xg_names_high u := rfl
theorem Xq_nodes_made_row_op (u : XS) (v : Nat → Int32) : Xg_nodes_made (Xs_row_op u v) = Xg_nodes_made u := rfl
theorem Xq_nodes_op_row_op (u : XS) (v : Nat → Int32) : Xg_nodes_op (Xs_row_op u v) = Xg_nodes_op u := rfl
theorem Xq_nodes_a_row_op (u : XS) (v : Nat → Int32) : Xg_nodes_a (Xs_row_op u v) = Xg_nodes_a u := rfl
theorem Xq_nodes_b_row_op (u : XS) (v : Nat → Int32) : Xg_nodes_b (Xs_row_op u v) = Xg_nodes_b u := rfl
theorem Xq_row_subject_row_op (u : XS) (v : Nat → Int32) : Xg_row_subject (Xs_row_op u v) = Xg_row_subject u := rfl
theorem Xq_row_carried_row_op (u : XS) (v : Nat → Int32) : Xg_row_carried (Xs_row_op u v) = Xg_row_carried u := rfl
theorem Xq_row_length_row_op (u : XS) (v : Nat → Int32) : Xg_row_length (Xs_row_op u v) = Xg_row_length u := rfl
theorem Xq_row_with_row_op (u : XS) (v : Nat → Int32) : Xg_row_with (Xs_row_op u v) = Xg_row_with u := rfl
theorem Xq_row_op_row_op (u : XS) (v : Nat → Int32) : Xg_row_op (Xs_row_op u v) = v := rfl
theorem Xq_row_negated_row_op (u : XS) (v : Nat → Int32) : Xg_row_negated (Xs_row_op u v) = Xg_row_negated u := rfl
theorem Xq_row_object_row_op (u : XS) (v : Nat → Int32) : Xg_row_object (Xs_row_op u v) = Xg_row_object u := rfl
theorem Xq_testing_noted_row_op (u : XS) (v : Nat → Int32) : Xg_testing_noted (Xs_row_op u v) = Xg_testing_noted u := rfl
theorem Xq_testing_depth_row_op (u : XS) (v : Nat → Int32) : Xg_testing_depth (Xs_row_op u v) = Xg_testing_depth u := rfl
theorem Xq_testing_outcome_row_op (u : XS) (v : Nat → Int32) : Xg_testing_outcome (Xs_row_op u v) = Xg_testing_outcome u := rfl
theorem Xq_testing_leaves_row_op (u : XS) (v : Nat → Int32) : Xg_testing_leaves (Xs_row_op u v) = Xg_testing_leaves u := rfl
theorem Xq_testing_waiting_row_op (u : XS) (v : Nat → Int32) : Xg_testing_waiting (Xs_row_op u v) = Xg_testing_waiting u := rfl
theorem Xq_switches_row_op (u : XS) (v : Nat → Int32) : Xg_switches (Xs_row_op u v) = Xg_switches u := rfl
theorem Xq_leftText_row_op (u : XS) (v : Nat → Int32) : Xg_leftText (Xs_row_op u v) = Xg_leftText u := rfl
theorem Xq_rightText_row_op (u : XS) (v : Nat → Int32) : Xg_rightText (Xs_row_op u v) = Xg_rightText u := rfl
theorem Xq_whole_row_negated (u : XS) (v : Nat → Int32) : Xg_whole (Xs_row_negated u v) = Xg_whole u := rfl
theorem Xq_fields_made_row_negated (u : XS) (v : Nat → Int32) : Xg_fields_made (Xs_row_negated u v) = Xg_fields_made u := rfl
theorem Xq_fields_category_row_negated (u : XS) (v : Nat → Int32) : Xg_fields_category (Xs_row_negated u v) = Xg_fields_category u := rfl
theorem Xq_fields_size_row_negated (u : XS) (v : Nat → Int32) : Xg_fields_size (Xs_row_negated u v) = Xg_fields_size u := rfl
theorem Xq_fields_scale_row_negated (u : XS) (v : Nat → Int32) : Xg_fields_scale (Xs_row_negated u v) = Xg_fields_scale u := rfl
theorem Xq_fields_bytes_row_negated (u : XS) (v : Nat → Int32) : Xg_fields_bytes (Xs_row_negated u v) = Xg_fields_bytes u := rfl
theorem Xq_weights_of_row_negated (u : XS) (v : Nat → Int32) : Xg_weights_of (Xs_row_negated u v) = Xg_weights_of u := rfl
theorem Xq_names_made_row_negated (u : XS) (v : Nat → Int32) : Xg_names_made (Xs_row_negated u v) = Xg_names_made u := rfl
theorem Xq_names_field_row_negated (u : XS) (v : Nat → Int32) : Xg_names_field (Xs_row_negated u v) = Xg_names_field u := rfl
theorem Xq_names_ranges_row_negated (u : XS) (v : Nat → Int32) : Xg_names_ranges (Xs_row_negated u v) = Xg_names_ranges u := rfl
theorem Xq_names_low_row_negated (u : XS) (v : Nat → Int32) : Xg_names_low (Xs_row_negated u v) = Xg_names_low u := rfl
theorem Xq_names_high_row_negated (u : XS) (v : Nat → Int32) : Xg_names_high (Xs_row_negated u v) = Xg_names_high u := rfl
theorem Xq_nodes_made_row_negated (u : XS) (v : Nat → Int32) : Xg_nodes_made (Xs_row_negated u v) = Xg_nodes_made u := rfl
theorem Xq_nodes_op_row_negated (u : XS) (v : Nat → Int32) : Xg_nodes_op (Xs_row_negated u v) = Xg_nodes_op u := rfl
theorem Xq_nodes_a_row_negated (u : XS) (v : Nat → Int32) : Xg_nodes_a (Xs_row_negated u v) = Xg_nodes_a u := rfl
theorem Xq_nodes_b_row_negated (u : XS) (v : Nat → Int32) : Xg_nodes_b (Xs_row_negated u v) = Xg_nodes_b u := rfl
theorem Xq_row_subject_row_negated (u : XS) (v : Nat → Int32) : Xg_row_subject (Xs_row_negated u v) = Xg_row_subject u := rfl
theorem Xq_row_carried_row_negated (u : XS) (v : Nat → Int32) : Xg_row_carried (Xs_row_negated u v) = Xg_row_carried u := rfl
theorem Xq_row_length_row_negated (u : XS) (v : Nat → Int32) : Xg_row_length (Xs_row_negated u v) = Xg_row_length u := rfl
theorem Xq_row_with_row_negated (u : XS) (v : Nat → Int32) : Xg_row_with (Xs_row_negated u v) = Xg_row_with u := rfl
theorem Xq_row_op_row_negated (u : XS) (v : Nat → Int32) : Xg_row_op (Xs_row_negated u v) = Xg_row_op u := rfl
theorem Xq_row_negated_row_negated (u : XS) (v : Nat → Int32) : Xg_row_negated (Xs_row_negated u v) = v := rfl
theorem Xq_row_object_row_negated (u : XS) (v : Nat → Int32) : Xg_row_object (Xs_row_negated u v) = Xg_row_object u := rfl
theorem Xq_testing_noted_row_negated (u : XS) (v : Nat → Int32) : Xg_testing_noted (Xs_row_negated u v) = Xg_testing_noted u := rfl
theorem Xq_testing_depth_row_negated (u : XS) (v : Nat → Int32) : Xg_testing_depth (Xs_row_negated u v) = Xg_testing_depth u := rfl
theorem Xq_testing_outcome_row_negated (u : XS) (v : Nat → Int32) : Xg_testing_outcome (Xs_row_negated u v) = Xg_testing_outcome u := rfl
theorem Xq_testing_leaves_row_negated (u : XS) (v : Nat → Int32) : Xg_testing_leaves (Xs_row_negated u v) = Xg_testing_leaves u := rfl
theorem Xq_testing_waiting_row_negated (u : XS) (v : Nat → Int32) : Xg_testing_waiting (Xs_row_negated u v) = Xg_testing_waiting u := rfl
theorem Xq_switches_row_negated (u : XS) (v : Nat → Int32) : Xg_switches (Xs_row_negated u v) = Xg_switches u := rfl
theorem Xq_leftText_row_negated (u : XS) (v : Nat → Int32) : Xg_leftText (Xs_row_negated u v) = Xg_leftText u := rfl
theorem Xq_rightText_row_negated (u : XS) (v : Nat → Int32) : Xg_rightText (Xs_row_negated u v) = Xg_rightText u := rfl
theorem Xq_whole_row_object (u : XS) (v : Nat → Int32) : Xg_whole (Xs_row_object u v) = Xg_whole u := rfl
theorem Xq_fields_made_row_object (u : XS) (v : Nat → Int32) : Xg_fields_made (Xs_row_object u v) = Xg_fields_made u := rfl
theorem Xq_fields_category_row_object (u : XS) (v : Nat → Int32) : Xg_fields_category (Xs_row_object u v) = Xg_fields_category u := rfl
theorem Xq_fields_size_row_object (u : XS) (v : Nat → Int32) : Xg_fields_size (Xs_row_object u v) = Xg_fields_size u := rfl
theorem Xq_fields_scale_row_object (u : XS) (v : Nat → Int32) : Xg_fields_scale (Xs_row_object u v) = Xg_fields_scale u := rfl
theorem Xq_fields_bytes_row_object (u : XS) (v : Nat → Int32) : Xg_fields_bytes (Xs_row_object u v) = Xg_fields_bytes u := rfl
theorem Xq_weights_of_row_object (u : XS) (v : Nat → Int32) : Xg_weights_of (Xs_row_object u v) = Xg_weights_of u := rfl
theorem Xq_names_made_row_object (u : XS) (v : Nat → Int32) : Xg_names_made (Xs_row_object u v) = Xg_names_made u := rfl
theorem Xq_names_field_row_object (u : XS) (v : Nat → Int32) : Xg_names_field (Xs_row_object u v) = Xg_names_field u := rfl
theorem Xq_names_ranges_row_object (u : XS) (v : Nat → Int32) : Xg_names_ranges (Xs_row_object u v) = Xg_names_ranges u := rfl
theorem Xq_names_low_row_object (u : XS) (v : Nat → Int32) : Xg_names_low (Xs_row_object u v) = Xg_names_low u := rfl
theorem Xq_names_high_row_object (u : XS) (v : Nat → Int32) : Xg_names_high (Xs_row_object u v) = Xg_names_high u := rfl
theorem Xq_nodes_made_row_object (u : XS) (v : Nat → Int32) : Xg_nodes_made (Xs_row_object u v) = Xg_nodes_made u := rfl
theorem Xq_nodes_op_row_object (u : XS) (v : Nat → Int32) : Xg_nodes_op (Xs_row_object u v) = Xg_nodes_op u := rfl
theorem Xq_nodes_a_row_object (u : XS) (v : Nat → Int32) : Xg_nodes_a (Xs_row_object u v) = Xg_nodes_a u := rfl
theorem Xq_nodes_b_row_object (u : XS) (v : Nat → Int32) : Xg_nodes_b (Xs_row_object u v) = Xg_nodes_b u := rfl
theorem Xq_row_subject_row_object (u : XS) (v : Nat → Int32) : Xg_row_subject (Xs_row_object u v) = Xg_row_subject u := rfl
theorem Xq_row_carried_row_object (u : XS) (v : Nat → Int32) : Xg_row_carried (Xs_row_object u v) = Xg_row_carried u := rfl
theorem Xq_row_length_row_object (u : XS) (v : Nat → Int32) : Xg_row_length (Xs_row_object u v) = Xg_row_length u := rfl
theorem Xq_row_with_row_object (u : XS) (v : Nat → Int32) : Xg_row_with (Xs_row_object u v) = Xg_row_with u := rfl
theorem Xq_row_op_row_object (u : XS) (v : Nat → Int32) : Xg_row_op (Xs_row_object u v) = Xg_row_op u := rfl
theorem Xq_row_negated_row_object (u : XS) (v : Nat → Int32) : Xg_row_negated (Xs_row_object u v) = Xg_row_negated u := rfl
theorem Xq_row_object_row_object (u : XS) (v : Nat → Int32) : Xg_row_object (Xs_row_object u v) = v := rfl
theorem Xq_testing_noted_row_object (u : XS) (v : Nat → Int32) : Xg_testing_noted (Xs_row_object u v) = Xg_testing_noted u := rfl
theorem Xq_testing_depth_row_object (u : XS) (v : Nat → Int32) : Xg_testing_depth (Xs_row_object u v) = Xg_testing_depth u := rfl
theorem Xq_testing_outcome_row_object (u : XS) (v : Nat → Int32) : Xg_testing_outcome (Xs_row_object u v) = Xg_testing_outcome u := rfl
theorem Xq_testing_leaves_row_object (u : XS) (v : Nat → Int32) : Xg_testing_leaves (Xs_row_object u v) = Xg_testing_leaves u := rfl
theorem Xq_testing_waiting_row_object (u : XS) (v : Nat → Int32) : Xg_testing_waiting (Xs_row_object u v) = Xg_testing_waiting u := rfl
theorem Xq_switches_row_object (u : XS) (v : Nat → Int32) : Xg_switches (Xs_row_object u v) = Xg_switches u := rfl
theorem Xq_leftText_row_object (u : XS) (v : Nat → Int32) : Xg_leftText (Xs_row_object u v) = Xg_leftText u := rfl
theorem Xq_rightText_row_object (u : XS) (v : Nat → Int32) : Xg_rightText (Xs_row_object u v) = Xg_rightText u := rfl
theorem Xq_whole_testing_noted (u : XS) (v : Int32) : Xg_whole (Xs_testing_noted u v) = Xg_whole u := rfl
theorem Xq_fields_made_testing_noted (u : XS) (v : Int32) : Xg_fields_made (Xs_testing_noted u v) = Xg_fields_made u := rfl
theorem Xq_fields_category_testing_noted (u : XS) (v : Int32) : Xg_fields_category (Xs_testing_noted u v) = Xg_fields_category u := rfl
theorem Xq_fields_size_testing_noted (u : XS) (v : Int32) : Xg_fields_size (Xs_testing_noted u v) = Xg_fields_size u := rfl
theorem Xq_fields_scale_testing_noted (u : XS) (v : Int32) : Xg_fields_scale (Xs_testing_noted u v) = Xg_fields_scale u := rfl
theorem Xq_fields_bytes_testing_noted (u : XS) (v : Int32) : Xg_fields_bytes (Xs_testing_noted u v) = Xg_fields_bytes u := rfl
theorem Xq_weights_of_testing_noted (u : XS) (v : Int32) : Xg_weights_of (Xs_testing_noted u v) = Xg_weights_of u := rfl
theorem Xq_names_made_testing_noted (u : XS) (v : Int32) : Xg_names_made (Xs_testing_noted u v) = Xg_names_made u := rfl
theorem Xq_names_field_testing_noted (u : XS) (v : Int32) : Xg_names_field (Xs_testing_noted u v) = Xg_names_field u := rfl
theorem Xq_names_ranges_testing_noted (u : XS) (v : Int32) : Xg_names_ranges (Xs_testing_noted u v) = Xg_names_ranges u := rfl
theorem Xq_names_low_testing_noted (u : XS) (v : Int32) : Xg_names_low (Xs_testing_noted u v) = Xg_names_low u := rfl
theorem Xq_names_high_testing_noted (u : XS) (v : Int32) : Xg_names_high (Xs_testing_noted u v) = Xg_names_high u := rfl
theorem Xq_nodes_made_testing_noted (u : XS) (v : Int32) : Xg_nodes_made (Xs_testing_noted u v) = Xg_nodes_made u := rfl
theorem Xq_nodes_op_testing_noted (u : XS) (v : Int32) : Xg_nodes_op (Xs_testing_noted u v) = Xg_nodes_op u := rfl
theorem Xq_nodes_a_testing_noted (u : XS) (v : Int32) : Xg_nodes_a (Xs_testing_noted u v) = Xg_nodes_a u := rfl
theorem Xq_nodes_b_testing_noted (u : XS) (v : Int32) : Xg_nodes_b (Xs_testing_noted u v) = Xg_nodes_b u := rfl
theorem Xq_row_subject_testing_noted (u : XS) (v : Int32) : Xg_row_subject (Xs_testing_noted u v) = Xg_row_subject u := rfl
theorem Xq_row_carried_testing_noted (u : XS) (v : Int32) : Xg_row_carried (Xs_testing_noted u v) = Xg_row_carried u := rfl
theorem Xq_row_length_testing_noted (u : XS) (v : Int32) : Xg_row_length (Xs_testing_noted u v) = Xg_row_length u := rfl
theorem Xq_row_with_testing_noted (u : XS) (v : Int32) : Xg_row_with (Xs_testing_noted u v) = Xg_row_with u := rfl
theorem Xq_row_op_testing_noted (u : XS) (v : Int32) : Xg_row_op (Xs_testing_noted u v) = Xg_row_op u := rfl
theorem Xq_row_negated_testing_noted (u : XS) (v : Int32) : Xg_row_negated (Xs_testing_noted u v) = Xg_row_negated u := rfl
theorem Xq_row_object_testing_noted (u : XS) (v : Int32) : Xg_row_object (Xs_testing_noted u v) = Xg_row_object u := rfl
theorem Xq_testing_noted_testing_noted (u : XS) (v : Int32) : Xg_testing_noted (Xs_testing_noted u v) = v := rfl
theorem Xq_testing_depth_testing_noted (u : XS) (v : Int32) : Xg_testing_depth (Xs_testing_noted u v) = Xg_testing_depth u := rfl
theorem Xq_testing_outcome_testing_noted (u : XS) (v : Int32) : Xg_testing_outcome (Xs_testing_noted u v) = Xg_testing_outcome u := rfl
theorem Xq_testing_leaves_testing_noted (u : XS) (v : Int32) : Xg_testing_leaves (Xs_testing_noted u v) = Xg_testing_leaves u := rfl
theorem Xq_testing_waiting_testing_noted (u : XS) (v : Int32) : Xg_testing_waiting (Xs_testing_noted u v) = Xg_testing_waiting u := rfl
theorem Xq_switches_testing_noted (u : XS) (v : Int32) : Xg_switches (Xs_testing_noted u v) = Xg_switches u := rfl
theorem Xq_leftText_testing_noted (u : XS) (v : Int32) : Xg_leftText (Xs_testing_noted u v) = Xg_leftText u := rfl
theorem Xq_rightText_testing_noted (u : XS) (v : Int32) : Xg_rightText (Xs_testing_noted u v) = Xg_rightText u := rfl
theorem Xq_whole_testing_depth (u : XS) (v : Int32) : Xg_whole (Xs_testing_depth u v) = Xg_whole u := rfl
theorem Xq_fields_made_testing_depth (u : XS) (v : Int32) : Xg_fields_made (Xs_testing_depth u v) = Xg_fields_made u := rfl
theorem Xq_fields_category_testing_depth (u : XS) (v : Int32) : Xg_fields_category (Xs_testing_depth u v) = Xg_fields_category u := rfl
theorem Xq_fields_size_testing_depth (u : XS) (v : Int32) : Xg_fields_size (Xs_testing_depth u v) = Xg_fields_size u := rfl
theorem Xq_fields_scale_testing_depth (u : XS) (v : Int32) : Xg_fields_scale (Xs_testing_depth u v) = Xg_fields_scale u := rfl
theorem Xq_fields_bytes_testing_depth (u : XS) (v : Int32) : Xg_fields_bytes (Xs_testing_depth u v) = Xg_fields_bytes u := rfl
theorem Xq_weights_of_testing_depth (u : XS) (v : Int32) : Xg_weights_of (Xs_testing_depth u v) = Xg_weights_of u := rfl
theorem Xq_names_made_testing_depth (u : XS) (v : Int32) : Xg_names_made (Xs_testing_depth u v) = Xg_names_made u := rfl
theorem Xq_names_field_testing_depth (u : XS) (v : Int32) : Xg_names_field (Xs_testing_depth u v) = Xg_names_field u := rfl
theorem Xq_names_ranges_testing_depth (u : XS) (v : Int32) : Xg_names_ranges (Xs_testing_depth u v) = Xg_names_ranges u := rfl
theorem Xq_names_low_testing_depth (u : XS) (v : Int32) : Xg_names_low (Xs_testing_depth u v) = Xg_names_low u := rfl
theorem Xq_names_high_testing_depth (u : XS) (v : Int32) : Xg_names_high (Xs_testing_depth u v) = Xg_names_high u := rfl
theorem Xq_nodes_made_testing_depth (u : XS) (v : Int32) : Xg_nodes_made (Xs_testing_depth u v) = Xg_nodes_made u := rfl
theorem Xq_nodes_op_testing_depth (u : XS) (v : Int32) : Xg_nodes_op (Xs_testing_depth u v) = Xg_nodes_op u := rfl
theorem Xq_nodes_a_testing_depth (u : XS) (v : Int32) : Xg_nodes_a (Xs_testing_depth u v) = Xg_nodes_a u := rfl
theorem Xq_nodes_b_testing_depth (u : XS) (v : Int32) : Xg_nodes_b (Xs_testing_depth u v) = Xg_nodes_b u := rfl
theorem Xq_row_subject_testing_depth (u : XS) (v : Int32) : Xg_row_subject (Xs_testing_depth u v) = Xg_row_subject u := rfl
theorem Xq_row_carried_testing_depth (u : XS) (v : Int32) : Xg_row_carried (Xs_testing_depth u v) = Xg_row_carried u := rfl
theorem Xq_row_length_testing_depth (u : XS) (v : Int32) : Xg_row_length (Xs_testing_depth u v) = Xg_row_length u := rfl
theorem Xq_row_with_testing_depth (u : XS) (v : Int32) : Xg_row_with (Xs_testing_depth u v) = Xg_row_with u := rfl
theorem Xq_row_op_testing_depth (u : XS) (v : Int32) : Xg_row_op (Xs_testing_depth u v) = Xg_row_op u := rfl
theorem Xq_row_negated_testing_depth (u : XS) (v : Int32) : Xg_row_negated (Xs_testing_depth u v) = Xg_row_negated u := rfl
theorem Xq_row_object_testing_depth (u : XS) (v : Int32) : Xg_row_object (Xs_testing_depth u v) = Xg_row_object u := rfl
theorem Xq_testing_noted_testing_depth (u : XS) (v : Int32) : Xg_testing_noted (Xs_testing_depth u v) = Xg_testing_noted u := rfl
theorem Xq_testing_depth_testing_depth (u : XS) (v : Int32) : Xg_testing_depth (Xs_testing_depth u v) = v := rfl
theorem Xq_testing_outcome_testing_depth (u : XS) (v : Int32) : Xg_testing_outcome (Xs_testing_depth u v) = Xg_testing_outcome u := rfl
theorem Xq_testing_leaves_testing_depth (u : XS) (v : Int32) : Xg_testing_leaves (Xs_testing_depth u v) = Xg_testing_leaves u := rfl
theorem Xq_testing_waiting_testing_depth (u : XS) (v : Int32) : Xg_testing_waiting (Xs_testing_depth u v) = Xg_testing_waiting u := rfl
theorem Xq_switches_testing_depth (u : XS) (v : Int32) : Xg_switches (Xs_testing_depth u v) = Xg_switches u := rfl
theorem Xq_leftText_testing_depth (u : XS) (v : Int32) : Xg_leftText (Xs_testing_depth u v) = Xg_leftText u := rfl
theorem Xq_rightText_testing_depth (u : XS) (v : Int32) : Xg_rightText (Xs_testing_depth u v) = Xg_rightText u := rfl
theorem Xq_whole_testing_outcome (u : XS) (v : Nat → Int32) : Xg_whole (Xs_testing_outcome u v) = Xg_whole u := rfl
theorem Xq_fields_made_testing_outcome (u : XS) (v : Nat → Int32) : Xg_fields_made (Xs_testing_outcome u v) = Xg_fields_made u := rfl
theorem Xq_fields_category_testing_outcome (u : XS) (v : Nat → Int32) : Xg_fields_category (Xs_testing_outcome u v) = Xg_fields_category u := rfl
theorem Xq_fields_size_testing_outcome (u : XS) (v : Nat → Int32) : Xg_fields_size (Xs_testing_outcome u v) = Xg_fields_size u := rfl
theorem Xq_fields_scale_testing_outcome (u : XS) (v : Nat → Int32) : Xg_fields_scale (Xs_testing_outcome u v) = Xg_fields_scale u := rfl
theorem Xq_fields_bytes_testing_outcome (u : XS) (v : Nat → Int32) : Xg_fields_bytes (Xs_testing_outcome u v) = Xg_fields_bytes u := rfl
theorem Xq_weights_of_testing_outcome (u : XS) (v : Nat → Int32) : Xg_weights_of (Xs_testing_outcome u v) = Xg_weights_of u := rfl
theorem Xq_names_made_testing_outcome (u : XS) (v : Nat → Int32) : Xg_names_made (Xs_testing_outcome u v) = Xg_names_made u := rfl
theorem Xq_names_field_testing_outcome (u : XS) (v : Nat → Int32) : Xg_names_field (Xs_testing_outcome u v) = Xg_names_field u := rfl
theorem Xq_names_ranges_testing_outcome (u : XS) (v : Nat → Int32) : Xg_names_ranges (Xs_testing_outcome u v) = Xg_names_ranges u := rfl
theorem Xq_names_low_testing_outcome (u : XS) (v : Nat → Int32) : Xg_names_low (Xs_testing_outcome u v) = Xg_names_low u := rfl
theorem Xq_names_high_testing_outcome (u : XS) (v : Nat → Int32) : Xg_names_high (Xs_testing_outcome u v) = Xg_names_high u := rfl
theorem Xq_nodes_made_testing_outcome (u : XS) (v : Nat → Int32) : Xg_nodes_made (Xs_testing_outcome u v) = Xg_nodes_made u := rfl
theorem Xq_nodes_op_testing_outcome (u : XS) (v : Nat → Int32) : Xg_nodes_op (Xs_testing_outcome u v) = Xg_nodes_op u := rfl
theorem Xq_nodes_a_testing_outcome (u : XS) (v : Nat → Int32) : Xg_nodes_a (Xs_testing_outcome u v) = Xg_nodes_a u := rfl
theorem Xq_nodes_b_testing_outcome (u : XS) (v : Nat → Int32) : Xg_nodes_b (Xs_testing_outcome u v) = Xg_nodes_b u := rfl
theorem Xq_row_subject_testing_outcome (u : XS) (v : Nat → Int32) : Xg_row_subject (Xs_testing_outcome u v) = Xg_row_subject u := rfl
theorem Xq_row_carried_testing_outcome (u : XS) (v : Nat → Int32) : Xg_row_carried (Xs_testing_outcome u v) = Xg_row_carried u := rfl
theorem Xq_row_length_testing_outcome (u : XS) (v : Nat → Int32) : Xg_row_length (Xs_testing_outcome u v) = Xg_row_length u := rfl
theorem Xq_row_with_testing_outcome (u : XS) (v : Nat → Int32) : Xg_row_with (Xs_testing_outcome u v) = Xg_row_with u := rfl
theorem Xq_row_op_testing_outcome (u : XS) (v : Nat → Int32) : Xg_row_op (Xs_testing_outcome u v) = Xg_row_op u := rfl
theorem Xq_row_negated_testing_outcome (u : XS) (v : Nat → Int32) : Xg_row_negated (Xs_testing_outcome u v) = Xg_row_negated u := rfl
theorem Xq_row_object_testing_outcome (u : XS) (v : Nat → Int32) : Xg_row_object (Xs_testing_outcome u v) = Xg_row_object u := rfl
theorem Xq_testing_noted_testing_outcome (u : XS) (v : Nat → Int32) : Xg_testing_noted (Xs_testing_outcome u v) = Xg_testing_noted u := rfl
theorem Xq_testing_depth_testing_outcome (u : XS) (v : Nat → Int32) : Xg_testing_depth (Xs_testing_outcome u v) = Xg_testing_depth u := rfl
theorem Xq_testing_outcome_testing_outcome (u : XS) (v : Nat → Int32) : Xg_testing_outcome (Xs_testing_outcome u v) = v := rfl
theorem Xq_testing_leaves_testing_outcome (u : XS) (v : Nat → Int32) : Xg_testing_leaves (Xs_testing_outcome u v) = Xg_testing_leaves u := rfl
theorem Xq_testing_waiting_testing_outcome (u : XS) (v : Nat → Int32) : Xg_testing_waiting (Xs_testing_outcome u v) = Xg_testing_waiting u := rfl
theorem Xq_switches_testing_outcome (u : XS) (v : Nat → Int32) : Xg_switches (Xs_testing_outcome u v) = Xg_switches u := rfl
theorem Xq_leftText_testing_outcome (u : XS) (v : Nat → Int32) : Xg_leftText (Xs_testing_outcome u v) = Xg_leftText u := rfl
theorem Xq_rightText_testing_outcome (u : XS) (v : Nat → Int32) : Xg_rightText (Xs_testing_outcome u v) = Xg_rightText u := rfl
theorem Xq_whole_testing_leaves (u : XS) (v : Nat → Int32) : Xg_whole (Xs_testing_leaves u v) = Xg_whole u := rfl
theorem Xq_fields_made_testing_leaves (u : XS) (v : Nat → Int32) : Xg_fields_made (Xs_testing_leaves u v) = Xg_fields_made u := rfl
theorem Xq_fields_category_testing_leaves (u : XS) (v : Nat → Int32) : Xg_fields_category (Xs_testing_leaves u v) = Xg_fields_category u := rfl
theorem Xq_fields_size_testing_leaves (u : XS) (v : Nat → Int32) : Xg_fields_size (Xs_testing_leaves u v) = Xg_fields_size u := rfl
theorem Xq_fields_scale_testing_leaves (u : XS) (v : Nat → Int32) : Xg_fields_scale (Xs_testing_leaves u v) = Xg_fields_scale u := rfl
theorem Xq_fields_bytes_testing_leaves (u : XS) (v : Nat → Int32) : Xg_fields_bytes (Xs_testing_leaves u v) = Xg_fields_bytes u := rfl
theorem Xq_weights_of_testing_leaves (u : XS) (v : Nat → Int32) : Xg_weights_of (Xs_testing_leaves u v) = Xg_weights_of u := rfl
theorem Xq_names_made_testing_leaves (u : XS) (v : Nat → Int32) : Xg_names_made (Xs_testing_leaves u v) = Xg_names_made u := rfl
theorem Xq_names_field_testing_leaves (u : XS) (v : Nat → Int32) : Xg_names_field (Xs_testing_leaves u v) = Xg_names_field u := rfl
theorem Xq_names_ranges_testing_leaves (u : XS) (v : Nat → Int32) : Xg_names_ranges (Xs_testing_leaves u v) = Xg_names_ranges u := rfl
theorem Xq_names_low_testing_leaves (u : XS) (v : Nat → Int32) : Xg_names_low (Xs_testing_leaves u v) = Xg_names_low u := rfl
theorem Xq_names_high_testing_leaves (u : XS) (v : Nat → Int32) : Xg_names_high (Xs_testing_leaves u v) = Xg_names_high u := rfl
theorem Xq_nodes_made_testing_leaves (u : XS) (v : Nat → Int32) : Xg_nodes_made (Xs_testing_leaves u v) = Xg_nodes_made u := rfl
theorem Xq_nodes_op_testing_leaves (u : XS) (v : Nat → Int32) : Xg_nodes_op (Xs_testing_leaves u v) = Xg_nodes_op u := rfl
theorem Xq_nodes_a_testing_leaves (u : XS) (v : Nat → Int32) : Xg_nodes_a (Xs_testing_leaves u v) = Xg_nodes_a u := rfl
theorem Xq_nodes_b_testing_leaves (u : XS) (v : Nat → Int32) : Xg_nodes_b (Xs_testing_leaves u v) = Xg_nodes_b u := rfl
theorem Xq_row_subject_testing_leaves (u : XS) (v : Nat → Int32) : Xg_row_subject (Xs_testing_leaves u v) = Xg_row_subject u := rfl
theorem Xq_row_carried_testing_leaves (u : XS) (v : Nat → Int32) : Xg_row_carried (Xs_testing_leaves u v) = Xg_row_carried u := rfl
theorem Xq_row_length_testing_leaves (u : XS) (v : Nat → Int32) : Xg_row_length (Xs_testing_leaves u v) = Xg_row_length u := rfl
theorem Xq_row_with_testing_leaves (u : XS) (v : Nat → Int32) : Xg_row_with (Xs_testing_leaves u v) = Xg_row_with u := rfl
theorem Xq_row_op_testing_leaves (u : XS) (v : Nat → Int32) : Xg_row_op (Xs_testing_leaves u v) = Xg_row_op u := rfl
theorem Xq_row_negated_testing_leaves (u : XS) (v : Nat → Int32) : Xg_row_negated (Xs_testing_leaves u v) = Xg_row_negated u := rfl
theorem Xq_row_object_testing_leaves (u : XS) (v : Nat → Int32) : Xg_row_object (Xs_testing_leaves u v) = Xg_row_object u := rfl
theorem Xq_testing_noted_testing_leaves (u : XS) (v : Nat → Int32) : Xg_testing_noted (Xs_testing_leaves u v) = Xg_testing_noted u := rfl
theorem Xq_testing_depth_testing_leaves (u : XS) (v : Nat → Int32) : Xg_testing_depth (Xs_testing_leaves u v) = Xg_testing_depth u := rfl
theorem Xq_testing_outcome_testing_leaves (u : XS) (v : Nat → Int32) : Xg_testing_outcome (Xs_testing_leaves u v) = Xg_testing_outcome u := rfl
theorem Xq_testing_leaves_testing_leaves (u : XS) (v : Nat → Int32) : Xg_testing_leaves (Xs_testing_leaves u v) = v := rfl
theorem Xq_testing_waiting_testing_leaves (u : XS) (v : Nat → Int32) : Xg_testing_waiting (Xs_testing_leaves u v) = Xg_testing_waiting u := rfl
theorem Xq_switches_testing_leaves (u : XS) (v : Nat → Int32) : Xg_switches (Xs_testing_leaves u v) = Xg_switches u := rfl
theorem Xq_leftText_testing_leaves (u : XS) (v : Nat → Int32) : Xg_leftText (Xs_testing_leaves u v) = Xg_leftText u := rfl
theorem Xq_rightText_testing_leaves (u : XS) (v : Nat → Int32) : Xg_rightText (Xs_testing_leaves u v) = Xg_rightText u := rfl
theorem Xq_whole_testing_waiting (u : XS) (v : Nat → Int32) : Xg_whole (Xs_testing_waiting u v) = Xg_whole u := rfl
theorem Xq_fields_made_testing_waiting (u : XS) (v : Nat → Int32) : Xg_fields_made (Xs_testing_waiting u v) = Xg_fields_made u := rfl
theorem Xq_fields_category_testing_waiting (u : XS) (v : Nat → Int32) : Xg_fields_category (Xs_testing_waiting u v) = Xg_fields_category u := rfl
theorem Xq_fields_size_testing_waiting (u : XS) (v : Nat → Int32) : Xg_fields_size (Xs_testing_waiting u v) = Xg_fields_size u := rfl
theorem Xq_fields_scale_testing_waiting (u : XS) (v : Nat → Int32) : Xg_fields_scale (Xs_testing_waiting u v) = Xg_fields_scale u := rfl
theorem Xq_fields_bytes_testing_waiting (u : XS) (v : Nat → Int32) : Xg_fields_bytes (Xs_testing_waiting u v) = Xg_fields_bytes u := rfl
theorem Xq_weights_of_testing_waiting (u : XS) (v : Nat → Int32) : Xg_weights_of (Xs_testing_waiting u v) = Xg_weights_of u := rfl
theorem Xq_names_made_testing_waiting (u : XS) (v : Nat → Int32) : Xg_names_made (Xs_testing_waiting u v) = Xg_names_made u := rfl
theorem Xq_names_field_testing_waiting (u : XS) (v : Nat → Int32) : Xg_names_field (Xs_testing_waiting u v) = Xg_names_field u := rfl
theorem Xq_names_ranges_testing_waiting (u : XS) (v : Nat → Int32) : Xg_names_ranges (Xs_testing_waiting u v) = Xg_names_ranges u := rfl
theorem Xq_names_low_testing_waiting (u : XS) (v : Nat → Int32) : Xg_names_low (Xs_testing_waiting u v) = Xg_names_low u := rfl
theorem Xq_names_high_testing_waiting (u : XS) (v : Nat → Int32) : Xg_names_high (Xs_testing_waiting u v) = Xg_names_high u := rfl
theorem Xq_nodes_made_testing_waiting (u : XS) (v : Nat → Int32) : Xg_nodes_made (Xs_testing_waiting u v) = Xg_nodes_made u := rfl
theorem Xq_nodes_op_testing_waiting (u : XS) (v : Nat → Int32) : Xg_nodes_op (Xs_testing_waiting u v) = Xg_nodes_op u := rfl
theorem Xq_nodes_a_testing_waiting (u : XS) (v : Nat → Int32) : Xg_nodes_a (Xs_testing_waiting u v) = Xg_nodes_a u := rfl
theorem Xq_nodes_b_testing_waiting (u : XS) (v : Nat → Int32) : Xg_nodes_b (Xs_testing_waiting u v) = Xg_nodes_b u := rfl
theorem Xq_row_subject_testing_waiting (u : XS) (v : Nat → Int32) : Xg_row_subject (Xs_testing_waiting u v) = Xg_row_subject u := rfl
theorem Xq_row_carried_testing_waiting (u : XS) (v : Nat → Int32) : Xg_row_carried (Xs_testing_waiting u v) = Xg_row_carried u := rfl
theorem Xq_row_length_testing_waiting (u : XS) (v : Nat → Int32) : Xg_row_length (Xs_testing_waiting u v) = Xg_row_length u := rfl
theorem Xq_row_with_testing_waiting (u : XS) (v : Nat → Int32) : Xg_row_with (Xs_testing_waiting u v) = Xg_row_with u := rfl
theorem Xq_row_op_testing_waiting (u : XS) (v : Nat → Int32) : Xg_row_op (Xs_testing_waiting u v) = Xg_row_op u := rfl
theorem Xq_row_negated_testing_waiting (u : XS) (v : Nat → Int32) : Xg_row_negated (Xs_testing_waiting u v) = Xg_row_negated u := rfl
theorem Xq_row_object_testing_waiting (u : XS) (v : Nat → Int32) : Xg_row_object (Xs_testing_waiting u v) = Xg_row_object u := rfl
theorem Xq_testing_noted_testing_waiting (u : XS) (v : Nat → Int32) : Xg_testing_noted (Xs_testing_waiting u v) = Xg_testing_noted u := rfl
theorem Xq_testing_depth_testing_waiting (u : XS) (v : Nat → Int32) : Xg_testing_depth (Xs_testing_waiting u v) = Xg_testing_depth u := rfl
theorem Xq_testing_outcome_testing_waiting (u : XS) (v : Nat → Int32) : Xg_testing_outcome (Xs_testing_waiting u v) = Xg_testing_outcome u := rfl
theorem Xq_testing_leaves_testing_waiting (u : XS) (v : Nat → Int32) : Xg_testing_leaves (Xs_testing_waiting u v) = Xg_testing_leaves u := rfl
theorem Xq_testing_waiting_testing_waiting (u : XS) (v : Nat → Int32) : Xg_testing_waiting (Xs_testing_waiting u v) = v := rfl
theorem Xq_switches_testing_waiting (u : XS) (v : Nat → Int32) : Xg_switches (Xs_testing_waiting u v) = Xg_switches u := rfl
theorem Xq_leftText_testing_waiting (u : XS) (v : Nat → Int32) : Xg_leftText (Xs_testing_waiting u v) = Xg_leftText u := rfl
theorem Xq_rightText_testing_waiting (u : XS) (v : Nat → Int32) : Xg_rightText (Xs_testing_waiting u v) = Xg_rightText u := rfl
theorem Xq_whole_switches (u : XS) (v : Nat → Int32) : Xg_whole (Xs_switches u v) = Xg_whole u := rfl
theorem Xq_fields_made_switches (u : XS) (v : Nat → Int32) : Xg_fields_made (Xs_switches u v) = Xg_fields_made u := rfl
theorem Xq_fields_category_switches (u : XS) (v : Nat → Int32) : Xg_fields_category (Xs_switches u v) = Xg_fields_category u := rfl
theorem Xq_fields_size_switches (u : XS) (v : Nat → Int32) : Xg_fields_size (Xs_switches u v) = Xg_fields_size u := rfl
theorem Xq_fields_scale_switches (u : XS) (v : Nat → Int32) : Xg_fields_scale (Xs_switches u v) = Xg_fields_scale u := rfl
theorem Xq_fields_bytes_switches (u : XS) (v : Nat → Int32) : Xg_fields_bytes (Xs_switches u v) = Xg_fields_bytes u := rfl
theorem Xq_weights_of_switches (u : XS) (v : Nat → Int32) : Xg_weights_of (Xs_switches u v) = Xg_weights_of u := rfl
theorem Xq_names_made_switches (u : XS) (v : Nat → Int32) : Xg_names_made (Xs_switches u v) = Xg_names_made u := rfl
theorem Xq_names_field_switches (u : XS) (v : Nat → Int32) : Xg_names_field (Xs_switches u v) = Xg_names_field u := rfl
theorem Xq_names_ranges_switches (u : XS) (v : Nat → Int32) : Xg_names_ranges (Xs_switches u v) = Xg_names_ranges u := rfl
theorem Xq_names_low_switches (u : XS) (v : Nat → Int32) : Xg_names_low (Xs_switches u v) = Xg_names_low u := rfl
theorem Xq_names_high_switches (u : XS) (v : Nat → Int32) : Xg_names_high (Xs_switches u v) = Xg_names_high u := rfl
theorem Xq_nodes_made_switches (u : XS) (v : Nat → Int32) : Xg_nodes_made (Xs_switches u v) = Xg_nodes_made u := rfl
theorem Xq_nodes_op_switches (u : XS) (v : Nat → Int32) : Xg_nodes_op (Xs_switches u v) = Xg_nodes_op u := rfl
theorem Xq_nodes_a_switches (u : XS) (v : Nat → Int32) : Xg_nodes_a (Xs_switches u v) = Xg_nodes_a u := rfl
theorem Xq_nodes_b_switches (u : XS) (v : Nat → Int32) : Xg_nodes_b (Xs_switches u v) = Xg_nodes_b u := rfl
theorem Xq_row_subject_switches (u : XS) (v : Nat → Int32) : Xg_row_subject (Xs_switches u v) = Xg_row_subject u := rfl
theorem Xq_row_carried_switches (u : XS) (v : Nat → Int32) : Xg_row_carried (Xs_switches u v) = Xg_row_carried u := rfl
theorem Xq_row_length_switches (u : XS) (v : Nat → Int32) : Xg_row_length (Xs_switches u v) = Xg_row_length u := rfl
theorem Xq_row_with_switches (u : XS) (v : Nat → Int32) : Xg_row_with (Xs_switches u v) = Xg_row_with u := rfl
theorem Xq_row_op_switches (u : XS) (v : Nat → Int32) : Xg_row_op (Xs_switches u v) = Xg_row_op u := rfl
theorem Xq_row_negated_switches (u : XS) (v : Nat → Int32) : Xg_row_negated (Xs_switches u v) = Xg_row_negated u := rfl
theorem Xq_row_object_switches (u : XS) (v : Nat → Int32) : Xg_row_object (Xs_switches u v) = Xg_row_object u := rfl
theorem Xq_testing_noted_switches (u : XS) (v : Nat → Int32) : Xg_testing_noted (Xs_switches u v) = Xg_testing_noted u := rfl
theorem Xq_testing_depth_switches (u : XS) (v : Nat → Int32) : Xg_testing_depth (Xs_switches u v) = Xg_testing_depth u := rfl
theorem Xq_testing_outcome_switches (u : XS) (v : Nat → Int32) : Xg_testing_outcome (Xs_switches u v) = Xg_testing_outcome u := rfl
theorem Xq_testing_leaves_switches (u : XS) (v : Nat → Int32) : Xg_testing_leaves (Xs_switches u v) = Xg_testing_leaves u := rfl
theorem Xq_testing_waiting_switches (u : XS) (v : Nat → Int32) : Xg_testing_waiting (Xs_switches u v) = Xg_testing_waiting u := rfl
theorem Xq_switches_switches (u : XS) (v : Nat → Int32) : Xg_switches (Xs_switches u v) = v := rfl
theorem Xq_leftText_switches (u : XS) (v : Nat → Int32) : Xg_leftText (Xs_switches u v) = Xg_leftText u := rfl
theorem Xq_rightText_switches (u : XS) (v : Nat → Int32) : Xg_rightText (Xs_switches u v) = Xg_rightText u := rfl
theorem Xq_whole_leftText (u : XS) (v : Nat → Int32) : Xg_whole (Xs_leftText u v) = Xg_whole u := rfl
theorem Xq_fields_made_leftText (u : XS) (v : Nat → Int32) : Xg_fields_made (Xs_leftText u v) = Xg_fields_made u := rfl
theorem Xq_fields_category_leftText (u : XS) (v : Nat → Int32) : Xg_fields_category (Xs_leftText u v) = Xg_fields_category u := rfl
theorem Xq_fields_size_leftText (u : XS) (v : Nat → Int32) : Xg_fields_size (Xs_leftText u v) = Xg_fields_size u := rfl
theorem Xq_fields_scale_leftText (u : XS) (v : Nat → Int32) : Xg_fields_scale (Xs_leftText u v) = Xg_fields_scale u := rfl
theorem Xq_fields_bytes_leftText (u : XS) (v : Nat → Int32) : Xg_fields_bytes (Xs_leftText u v) = Xg_fields_bytes u := rfl
theorem Xq_weights_of_leftText (u : XS) (v : Nat → Int32) : Xg_weights_of (Xs_leftText u v) = Xg_weights_of u := rfl
theorem Xq_names_made_leftText (u : XS) (v : Nat → Int32) : Xg_names_made (Xs_leftText u v) = Xg_names_made u := rfl
theorem Xq_names_field_leftText (u : XS) (v : Nat → Int32) : Xg_names_field (Xs_leftText u v) = Xg_names_field u := rfl
theorem Xq_names_ranges_leftText (u : XS) (v : Nat → Int32) : Xg_names_ranges (Xs_leftText u v) = Xg_names_ranges u := rfl
theorem Xq_names_low_leftText (u : XS) (v : Nat → Int32) : Xg_names_low (Xs_leftText u v) = Xg_names_low u := rfl
theorem Xq_names_high_leftText (u : XS) (v : Nat → Int32) : Xg_names_high (Xs_leftText u v) = Xg_names_high u := rfl
theorem Xq_nodes_made_leftText (u : XS) (v : Nat → Int32) : Xg_nodes_made (Xs_leftText u v) = Xg_nodes_made u := rfl
theorem Xq_nodes_op_leftText (u : XS) (v : Nat → Int32) : Xg_nodes_op (Xs_leftText u v) = Xg_nodes_op u := rfl
theorem Xq_nodes_a_leftText (u : XS) (v : Nat → Int32) : Xg_nodes_a (Xs_leftText u v) = Xg_nodes_a u := rfl
theorem Xq_nodes_b_leftText (u : XS) (v : Nat → Int32) : Xg_nodes_b (Xs_leftText u v) = Xg_nodes_b u := rfl
theorem Xq_row_subject_leftText (u : XS) (v : Nat → Int32) : Xg_row_subject (Xs_leftText u v) = Xg_row_subject u := rfl
theorem Xq_row_carried_leftText (u : XS) (v : Nat → Int32) : Xg_row_carried (Xs_leftText u v) = Xg_row_carried u := rfl
theorem Xq_row_length_leftText (u : XS) (v : Nat → Int32) : Xg_row_length (Xs_leftText u v) = Xg_row_length u := rfl
theorem Xq_row_with_leftText (u : XS) (v : Nat → Int32) : Xg_row_with (Xs_leftText u v) = Xg_row_with u := rfl
theorem Xq_row_op_leftText (u : XS) (v : Nat → Int32) : Xg_row_op (Xs_leftText u v) = Xg_row_op u := rfl
theorem Xq_row_negated_leftText (u : XS) (v : Nat → Int32) : Xg_row_negated (Xs_leftText u v) = Xg_row_negated u := rfl
theorem Xq_row_object_leftText (u : XS) (v : Nat → Int32) : Xg_row_object (Xs_leftText u v) = Xg_row_object u := rfl
theorem Xq_testing_noted_leftText (u : XS) (v : Nat → Int32) : Xg_testing_noted (Xs_leftText u v) = Xg_testing_noted u := rfl
theorem Xq_testing_depth_leftText (u : XS) (v : Nat → Int32) : Xg_testing_depth (Xs_leftText u v) = Xg_testing_depth u := rfl
theorem Xq_testing_outcome_leftText (u : XS) (v : Nat → Int32) : Xg_testing_outcome (Xs_leftText u v) = Xg_testing_outcome u := rfl
theorem Xq_testing_leaves_leftText (u : XS) (v : Nat → Int32) : Xg_testing_leaves (Xs_leftText u v) = Xg_testing_leaves u := rfl
theorem Xq_testing_waiting_leftText (u : XS) (v : Nat → Int32) : Xg_testing_waiting (Xs_leftText u v) = Xg_testing_waiting u := rfl
theorem Xq_switches_leftText (u : XS) (v : Nat → Int32) : Xg_switches (Xs_leftText u v) = Xg_switches u := rfl
theorem Xq_leftText_leftText (u : XS) (v : Nat → Int32) : Xg_leftText (Xs_leftText u v) = v := rfl
theorem Xq_rightText_leftText (u : XS) (v : Nat → Int32) : Xg_rightText (Xs_leftText u v) = Xg_rightText u := rfl
theorem Xq_whole_rightText (u : XS) (v : Nat → Int32) : Xg_whole (Xs_rightText u v) = Xg_whole u := rfl
theorem Xq_fields_made_rightText (u : XS) (v : Nat → Int32) : Xg_fields_made (Xs_rightText u v) = Xg_fields_made u := rfl
theorem Xq_fields_category_rightText (u : XS) (v : Nat → Int32) : Xg_fields_category (Xs_rightText u v) = Xg_fields_category u := rfl
theorem Xq_fields_size_rightText (u : XS) (v : Nat → Int32) : Xg_fields_size (Xs_rightText u v) = Xg_fields_size u := rfl
theorem Xq_fields_scale_rightText (u : XS) (v : Nat → Int32) : Xg_fields_scale (Xs_rightText u v) = Xg_fields_scale u := rfl
theorem Xq_fields_bytes_rightText (u : XS) (v : Nat → Int32) : Xg_fields_bytes (Xs_rightText u v) = Xg_fields_bytes u := rfl
theorem Xq_weights_of_rightText (u : XS) (v : Nat → Int32) : Xg_weights_of (Xs_rightText u v) = Xg_weights_of u := rfl
theorem Xq_names_made_rightText (u : XS) (v : Nat → Int32) : Xg_names_made (Xs_rightText u v) = Xg_names_made u := rfl
theorem Xq_names_field_rightText (u : XS) (v : Nat → Int32) : Xg_names_field (Xs_rightText u v) = Xg_names_field u := rfl
theorem Xq_names_ranges_rightText (u : XS) (v : Nat → Int32) : Xg_names_ranges (Xs_rightText u v) = Xg_names_ranges u := rfl
theorem Xq_names_low_rightText (u : XS) (v : Nat → Int32) : Xg_names_low (Xs_rightText u v) = Xg_names_low u := rfl
theorem Xq_names_high_rightText (u : XS) (v : Nat → Int32) : Xg_names_high (Xs_rightText u v) = Xg_names_high u := rfl
theorem Xq_nodes_made_rightText (u : XS) (v : Nat → Int32) : Xg_nodes_made (Xs_rightText u v) = Xg_nodes_made u := rfl
theorem Xq_nodes_op_rightText (u : XS) (v : Nat → Int32) : Xg_nodes_op (Xs_rightText u v) = Xg_nodes_op u := rfl
theorem Xq_nodes_a_rightText (u : XS) (v : Nat → Int32) : Xg_nodes_a (Xs_rightText u v) = Xg_nodes_a u := rfl
theorem Xq_nodes_b_rightText (u : XS) (v : Nat → Int32) : Xg_nodes_b (Xs_rightText u v) = Xg_nodes_b u := rfl
theorem Xq_row_subject_rightText (u : XS) (v : Nat → Int32) : Xg_row_subject (Xs_rightText u v) = Xg_row_subject u := rfl
theorem Xq_row_carried_rightText (u : XS) (v : Nat → Int32) : Xg_row_carried (Xs_rightText u v) = Xg_row_carried u := rfl
theorem Xq_row_length_rightText (u : XS) (v : Nat → Int32) : Xg_row_length (Xs_rightText u v) = Xg_row_length u := rfl
theorem Xq_row_with_rightText (u : XS) (v : Nat → Int32) : Xg_row_with (Xs_rightText u v) = Xg_row_with u := rfl
theorem Xq_row_op_rightText (u : XS) (v : Nat → Int32) : Xg_row_op (Xs_rightText u v) = Xg_row_op u := rfl
theorem Xq_row_negated_rightText (u : XS) (v : Nat → Int32) : Xg_row_negated (Xs_rightText u v) = Xg_row_negated u := rfl
theorem Xq_row_object_rightText (u : XS) (v : Nat → Int32) : Xg_row_object (Xs_rightText u v) = Xg_row_object u := rfl
theorem Xq_testing_noted_rightText (u : XS) (v : Nat → Int32) : Xg_testing_noted (Xs_rightText u v) = Xg_testing_noted u := rfl
theorem Xq_testing_depth_rightText (u : XS) (v : Nat → Int32) : Xg_testing_depth (Xs_rightText u v) = Xg_testing_depth u := rfl
theorem Xq_testing_outcome_rightText (u : XS) (v : Nat → Int32) : Xg_testing_outcome (Xs_rightText u v) = Xg_testing_outcome u := rfl
theorem Xq_testing_leaves_rightText (u : XS) (v : Nat → Int32) : Xg_testing_leaves (Xs_rightText u v) = Xg_testing_leaves u := rfl
theorem Xq_testing_waiting_rightText (u : XS) (v : Nat → Int32) : Xg_testing_waiting (Xs_rightText u v) = Xg_testing_waiting u := rfl
theorem Xq_switches_rightText (u : XS) (v : Nat → Int32) : Xg_switches (Xs_rightText u v) = Xg_switches u := rfl
theorem Xq_leftText_rightText (u : XS) (v : Nat → Int32) : Xg_leftText (Xs_rightText u v) = Xg_leftText u := rfl
theorem Xq_rightText_rightText (u : XS) (v : Nat → Int32) : Xg_rightText (Xs_rightText u v) = v := rfl
theorem Xe_whole (k : zK) (a : Nat → Nat) (u : XS) (v : Int32) : wX k a (Xs_whole u v) = (wX k a u).set 0 ((a 0), .inr (0, ([.int (Xg_whole u), .ref (a 1), .ref (a 6), .ref (a 8), .ref (a 13), .ref (a 17), .ref (a 22), .ref (a 26), .ref (a 27), .ref (a 28)] : List Value).set 0 (.int v))) := by
  simp only [wX, Xq_whole_whole, Xq_fields_made_whole, Xq_fields_category_whole, Xq_fields_size_whole, Xq_fields_scale_whole, Xq_fields_bytes_whole, Xq_weights_of_whole, Xq_names_made_whole, Xq_names_field_whole, Xq_names_ranges_whole, Xq_names_low_whole, Xq_names_high_whole, Xq_nodes_made_whole, Xq_nodes_op_whole, Xq_nodes_a_whole, Xq_nodes_b_whole, Xq_row_subject_whole, Xq_row_carried_whole, Xq_row_length_whole, Xq_row_with_whole, Xq_row_op_whole, Xq_row_negated_whole, Xq_row_object_whole, Xq_testing_noted_whole, Xq_testing_depth_whole, Xq_testing_outcome_whole, Xq_testing_leaves_whole, Xq_testing_waiting_whole, Xq_switches_whole, Xq_leftText_whole, Xq_rightText_whole, List.set_cons_succ, List.set_cons_zero]
theorem Xp_whole {D : va_G} {k : zK} {a : Nat → Nat} {u : XS} {v : Int32} {H : Heap} (h : va_P D vwCl ((wX k a u).set 0 ((a 0), .inr (0, ([.int (Xg_whole u), .ref (a 1), .ref (a 6), .ref (a 8), .ref (a 13), .ref (a 17), .ref (a 22), .ref (a 26), .ref (a 27), .ref (a 28)] : List Value).set 0 (.int v)))) H) : va_P D vwCl (wX k a (Xs_whole u v)) H := by
  rw [Xe_whole]; exact h
theorem Xe_fields_made (k : zK) (a : Nat → Nat) (u : XS) (v : Int32) : wX k a (Xs_fields_made u v) = (wX k a u).set 1 ((a 1), .inr (1, ([.ref (a 2), .ref (a 3), .ref (a 4), .ref (a 5), .int (Xg_fields_made u)] : List Value).set 4 (.int v))) := by
  simp only [wX, Xq_whole_fields_made, Xq_fields_made_fields_made, Xq_fields_category_fields_made, Xq_fields_size_fields_made, Xq_fields_scale_fields_made, Xq_fields_bytes_fields_made, Xq_weights_of_fields_made, Xq_names_made_fields_made, Xq_names_field_fields_made, Xq_names_ranges_fields_made, Xq_names_low_fields_made, Xq_names_high_fields_made, Xq_nodes_made_fields_made, Xq_nodes_op_fields_made, Xq_nodes_a_fields_made, Xq_nodes_b_fields_made, Xq_row_subject_fields_made, Xq_row_carried_fields_made, Xq_row_length_fields_made, Xq_row_with_fields_made, Xq_row_op_fields_made, Xq_row_negated_fields_made, Xq_row_object_fields_made, Xq_testing_noted_fields_made, Xq_testing_depth_fields_made, Xq_testing_outcome_fields_made, Xq_testing_leaves_fields_made, Xq_testing_waiting_fields_made, Xq_switches_fields_made, Xq_leftText_fields_made, Xq_rightText_fields_made, List.set_cons_succ, List.set_cons_zero]
theorem Xp_fields_made {D : va_G} {k : zK} {a : Nat → Nat} {u : XS} {v : Int32} {H : Heap} (h : va_P D vwCl ((wX k a u).set 1 ((a 1), .inr (1, ([.ref (a 2), .ref (a 3), .ref (a 4), .ref (a 5), .int (Xg_fields_made u)] : List Value).set 4 (.int v)))) H) : va_P D vwCl (wX k a (Xs_fields_made u v)) H := by
  rw [Xe_fields_made]; exact h
theorem Xe_fields_category (k : zK) (a : Nat → Nat) (u : XS) (v : Nat → Int32) : wX k a (Xs_fields_category u v) = (wX k a u).set 2 ((a 2), .inl (k.2.1, 40, .inl v)) := by
  simp only [wX, Xq_whole_fields_category, Xq_fields_made_fields_category, Xq_fields_category_fields_category, Xq_fields_size_fields_category, Xq_fields_scale_fields_category, Xq_fields_bytes_fields_category, Xq_weights_of_fields_category, Xq_names_made_fields_category, Xq_names_field_fields_category, Xq_names_ranges_fields_category, Xq_names_low_fields_category, Xq_names_high_fields_category, Xq_nodes_made_fields_category, Xq_nodes_op_fields_category, Xq_nodes_a_fields_category, Xq_nodes_b_fields_category, Xq_row_subject_fields_category, Xq_row_carried_fields_category, Xq_row_length_fields_category, Xq_row_with_fields_category, Xq_row_op_fields_category, Xq_row_negated_fields_category, Xq_row_object_fields_category, Xq_testing_noted_fields_category, Xq_testing_depth_fields_category, Xq_testing_outcome_fields_category, Xq_testing_leaves_fields_category, Xq_testing_waiting_fields_category, Xq_switches_fields_category, Xq_leftText_fields_category, Xq_rightText_fields_category, List.set_cons_succ, List.set_cons_zero]
theorem Xp_fields_category {D : va_G} {k : zK} {a : Nat → Nat} {u : XS} {v : Nat → Int32} {H : Heap} (h : va_P D vwCl ((wX k a u).set 2 ((a 2), .inl (k.2.1, 40, .inl v))) H) : va_P D vwCl (wX k a (Xs_fields_category u v)) H := by
  rw [Xe_fields_category]; exact h
theorem Xe_fields_size (k : zK) (a : Nat → Nat) (u : XS) (v : Nat → Int32) : wX k a (Xs_fields_size u v) = (wX k a u).set 3 ((a 3), .inl (k.2.1, 40, .inl v)) := by
  simp only [wX, Xq_whole_fields_size, Xq_fields_made_fields_size, Xq_fields_category_fields_size, Xq_fields_size_fields_size, Xq_fields_scale_fields_size, Xq_fields_bytes_fields_size, Xq_weights_of_fields_size, Xq_names_made_fields_size, Xq_names_field_fields_size, Xq_names_ranges_fields_size, Xq_names_low_fields_size, Xq_names_high_fields_size, Xq_nodes_made_fields_size, Xq_nodes_op_fields_size, Xq_nodes_a_fields_size, Xq_nodes_b_fields_size, Xq_row_subject_fields_size, Xq_row_carried_fields_size, Xq_row_length_fields_size, Xq_row_with_fields_size, Xq_row_op_fields_size, Xq_row_negated_fields_size, Xq_row_object_fields_size, Xq_testing_noted_fields_size, Xq_testing_depth_fields_size, Xq_testing_outcome_fields_size, Xq_testing_leaves_fields_size, Xq_testing_waiting_fields_size, Xq_switches_fields_size, Xq_leftText_fields_size, Xq_rightText_fields_size, List.set_cons_succ, List.set_cons_zero]
theorem Xp_fields_size {D : va_G} {k : zK} {a : Nat → Nat} {u : XS} {v : Nat → Int32} {H : Heap} (h : va_P D vwCl ((wX k a u).set 3 ((a 3), .inl (k.2.1, 40, .inl v))) H) : va_P D vwCl (wX k a (Xs_fields_size u v)) H := by
  rw [Xe_fields_size]; exact h
theorem Xe_fields_scale (k : zK) (a : Nat → Nat) (u : XS) (v : Nat → Int32) : wX k a (Xs_fields_scale u v) = (wX k a u).set 4 ((a 4), .inl (k.2.1, 40, .inl v)) := by
  simp only [wX, Xq_whole_fields_scale, Xq_fields_made_fields_scale, Xq_fields_category_fields_scale, Xq_fields_size_fields_scale, Xq_fields_scale_fields_scale, Xq_fields_bytes_fields_scale, Xq_weights_of_fields_scale, Xq_names_made_fields_scale, Xq_names_field_fields_scale, Xq_names_ranges_fields_scale, Xq_names_low_fields_scale, Xq_names_high_fields_scale, Xq_nodes_made_fields_scale, Xq_nodes_op_fields_scale, Xq_nodes_a_fields_scale, Xq_nodes_b_fields_scale, Xq_row_subject_fields_scale, Xq_row_carried_fields_scale, Xq_row_length_fields_scale, Xq_row_with_fields_scale, Xq_row_op_fields_scale, Xq_row_negated_fields_scale, Xq_row_object_fields_scale, Xq_testing_noted_fields_scale, Xq_testing_depth_fields_scale, Xq_testing_outcome_fields_scale, Xq_testing_leaves_fields_scale, Xq_testing_waiting_fields_scale, Xq_switches_fields_scale, Xq_leftText_fields_scale, Xq_rightText_fields_scale, List.set_cons_succ, List.set_cons_zero]
theorem Xp_fields_scale {D : va_G} {k : zK} {a : Nat → Nat} {u : XS} {v : Nat → Int32} {H : Heap} (h : va_P D vwCl ((wX k a u).set 4 ((a 4), .inl (k.2.1, 40, .inl v))) H) : va_P D vwCl (wX k a (Xs_fields_scale u v)) H := by
  rw [Xe_fields_scale]; exact h
theorem Xe_fields_bytes (k : zK) (a : Nat → Nat) (u : XS) (v : Nat → Int32) : wX k a (Xs_fields_bytes u v) = (wX k a u).set 5 ((a 5), .inl (k.2.1, 1280, .inl v)) := by
  simp only [wX, Xq_whole_fields_bytes, Xq_fields_made_fields_bytes, Xq_fields_category_fields_bytes, Xq_fields_size_fields_bytes, Xq_fields_scale_fields_bytes, Xq_fields_bytes_fields_bytes, Xq_weights_of_fields_bytes, Xq_names_made_fields_bytes, Xq_names_field_fields_bytes, Xq_names_ranges_fields_bytes, Xq_names_low_fields_bytes, Xq_names_high_fields_bytes, Xq_nodes_made_fields_bytes, Xq_nodes_op_fields_bytes, Xq_nodes_a_fields_bytes, Xq_nodes_b_fields_bytes, Xq_row_subject_fields_bytes, Xq_row_carried_fields_bytes, Xq_row_length_fields_bytes, Xq_row_with_fields_bytes, Xq_row_op_fields_bytes, Xq_row_negated_fields_bytes, Xq_row_object_fields_bytes, Xq_testing_noted_fields_bytes, Xq_testing_depth_fields_bytes, Xq_testing_outcome_fields_bytes, Xq_testing_leaves_fields_bytes, Xq_testing_waiting_fields_bytes, Xq_switches_fields_bytes, Xq_leftText_fields_bytes, Xq_rightText_fields_bytes, List.set_cons_succ, List.set_cons_zero]
theorem Xp_fields_bytes {D : va_G} {k : zK} {a : Nat → Nat} {u : XS} {v : Nat → Int32} {H : Heap} (h : va_P D vwCl ((wX k a u).set 5 ((a 5), .inl (k.2.1, 1280, .inl v))) H) : va_P D vwCl (wX k a (Xs_fields_bytes u v)) H := by
  rw [Xe_fields_bytes]; exact h
theorem Xe_weights_of (k : zK) (a : Nat → Nat) (u : XS) (v : Nat → Int32) : wX k a (Xs_weights_of u v) = (wX k a u).set 7 ((a 7), .inl (k.2.1, 256, .inl v)) := by
  simp only [wX, Xq_whole_weights_of, Xq_fields_made_weights_of, Xq_fields_category_weights_of, Xq_fields_size_weights_of, Xq_fields_scale_weights_of, Xq_fields_bytes_weights_of, Xq_weights_of_weights_of, Xq_names_made_weights_of, Xq_names_field_weights_of, Xq_names_ranges_weights_of, Xq_names_low_weights_of, Xq_names_high_weights_of, Xq_nodes_made_weights_of, Xq_nodes_op_weights_of, Xq_nodes_a_weights_of, Xq_nodes_b_weights_of, Xq_row_subject_weights_of, Xq_row_carried_weights_of, Xq_row_length_weights_of, Xq_row_with_weights_of, Xq_row_op_weights_of, Xq_row_negated_weights_of, Xq_row_object_weights_of, Xq_testing_noted_weights_of, Xq_testing_depth_weights_of, Xq_testing_outcome_weights_of, Xq_testing_leaves_weights_of, Xq_testing_waiting_weights_of, Xq_switches_weights_of, Xq_leftText_weights_of, Xq_rightText_weights_of, List.set_cons_succ, List.set_cons_zero]
theorem Xp_weights_of {D : va_G} {k : zK} {a : Nat → Nat} {u : XS} {v : Nat → Int32} {H : Heap} (h : va_P D vwCl ((wX k a u).set 7 ((a 7), .inl (k.2.1, 256, .inl v))) H) : va_P D vwCl (wX k a (Xs_weights_of u v)) H := by
  rw [Xe_weights_of]; exact h
theorem Xe_names_made (k : zK) (a : Nat → Nat) (u : XS) (v : Int32) : wX k a (Xs_names_made u v) = (wX k a u).set 8 ((a 8), .inr (3, ([.ref (a 9), .ref (a 10), .ref (a 11), .ref (a 12), .int (Xg_names_made u)] : List Value).set 4 (.int v))) := by
  simp only [wX, Xq_whole_names_made, Xq_fields_made_names_made, Xq_fields_category_names_made, Xq_fields_size_names_made, Xq_fields_scale_names_made, Xq_fields_bytes_names_made, Xq_weights_of_names_made, Xq_names_made_names_made, Xq_names_field_names_made, Xq_names_ranges_names_made, Xq_names_low_names_made, Xq_names_high_names_made, Xq_nodes_made_names_made, Xq_nodes_op_names_made, Xq_nodes_a_names_made, Xq_nodes_b_names_made, Xq_row_subject_names_made, Xq_row_carried_names_made, Xq_row_length_names_made, Xq_row_with_names_made, Xq_row_op_names_made, Xq_row_negated_names_made, Xq_row_object_names_made, Xq_testing_noted_names_made, Xq_testing_depth_names_made, Xq_testing_outcome_names_made, Xq_testing_leaves_names_made, Xq_testing_waiting_names_made, Xq_switches_names_made, Xq_leftText_names_made, Xq_rightText_names_made, List.set_cons_succ, List.set_cons_zero]
theorem Xp_names_made {D : va_G} {k : zK} {a : Nat → Nat} {u : XS} {v : Int32} {H : Heap} (h : va_P D vwCl ((wX k a u).set 8 ((a 8), .inr (3, ([.ref (a 9), .ref (a 10), .ref (a 11), .ref (a 12), .int (Xg_names_made u)] : List Value).set 4 (.int v)))) H) : va_P D vwCl (wX k a (Xs_names_made u v)) H := by
  rw [Xe_names_made]; exact h
theorem Xe_names_field (k : zK) (a : Nat → Nat) (u : XS) (v : Nat → Int32) : wX k a (Xs_names_field u v) = (wX k a u).set 9 ((a 9), .inl (k.2.1, 41, .inl v)) := by
  simp only [wX, Xq_whole_names_field, Xq_fields_made_names_field, Xq_fields_category_names_field, Xq_fields_size_names_field, Xq_fields_scale_names_field, Xq_fields_bytes_names_field, Xq_weights_of_names_field, Xq_names_made_names_field, Xq_names_field_names_field, Xq_names_ranges_names_field, Xq_names_low_names_field, Xq_names_high_names_field, Xq_nodes_made_names_field, Xq_nodes_op_names_field, Xq_nodes_a_names_field, Xq_nodes_b_names_field, Xq_row_subject_names_field, Xq_row_carried_names_field, Xq_row_length_names_field, Xq_row_with_names_field, Xq_row_op_names_field, Xq_row_negated_names_field, Xq_row_object_names_field, Xq_testing_noted_names_field, Xq_testing_depth_names_field, Xq_testing_outcome_names_field, Xq_testing_leaves_names_field, Xq_testing_waiting_names_field, Xq_switches_names_field, Xq_leftText_names_field, Xq_rightText_names_field, List.set_cons_succ, List.set_cons_zero]
theorem Xp_names_field {D : va_G} {k : zK} {a : Nat → Nat} {u : XS} {v : Nat → Int32} {H : Heap} (h : va_P D vwCl ((wX k a u).set 9 ((a 9), .inl (k.2.1, 41, .inl v))) H) : va_P D vwCl (wX k a (Xs_names_field u v)) H := by
  rw [Xe_names_field]; exact h
theorem Xe_names_ranges (k : zK) (a : Nat → Nat) (u : XS) (v : Nat → Int32) : wX k a (Xs_names_ranges u v) = (wX k a u).set 10 ((a 10), .inl (k.2.1, 41, .inl v)) := by
  simp only [wX, Xq_whole_names_ranges, Xq_fields_made_names_ranges, Xq_fields_category_names_ranges, Xq_fields_size_names_ranges, Xq_fields_scale_names_ranges, Xq_fields_bytes_names_ranges, Xq_weights_of_names_ranges, Xq_names_made_names_ranges, Xq_names_field_names_ranges, Xq_names_ranges_names_ranges, Xq_names_low_names_ranges, Xq_names_high_names_ranges, Xq_nodes_made_names_ranges, Xq_nodes_op_names_ranges, Xq_nodes_a_names_ranges, Xq_nodes_b_names_ranges, Xq_row_subject_names_ranges, Xq_row_carried_names_ranges, Xq_row_length_names_ranges, Xq_row_with_names_ranges, Xq_row_op_names_ranges, Xq_row_negated_names_ranges, Xq_row_object_names_ranges, Xq_testing_noted_names_ranges, Xq_testing_depth_names_ranges, Xq_testing_outcome_names_ranges, Xq_testing_leaves_names_ranges, Xq_testing_waiting_names_ranges, Xq_switches_names_ranges, Xq_leftText_names_ranges, Xq_rightText_names_ranges, List.set_cons_succ, List.set_cons_zero]
theorem Xp_names_ranges {D : va_G} {k : zK} {a : Nat → Nat} {u : XS} {v : Nat → Int32} {H : Heap} (h : va_P D vwCl ((wX k a u).set 10 ((a 10), .inl (k.2.1, 41, .inl v))) H) : va_P D vwCl (wX k a (Xs_names_ranges u v)) H := by
  rw [Xe_names_ranges]; exact h
theorem Xe_names_low (k : zK) (a : Nat → Nat) (u : XS) (v : Nat → Int64) : wX k a (Xs_names_low u v) = (wX k a u).set 11 ((a 11), .inl (k.2.2.1, 328, .inr (.inl v))) := by
  simp only [wX, Xq_whole_names_low, Xq_fields_made_names_low, Xq_fields_category_names_low, Xq_fields_size_names_low, Xq_fields_scale_names_low, Xq_fields_bytes_names_low, Xq_weights_of_names_low, Xq_names_made_names_low, Xq_names_field_names_low, Xq_names_ranges_names_low, Xq_names_low_names_low, Xq_names_high_names_low, Xq_nodes_made_names_low, Xq_nodes_op_names_low, Xq_nodes_a_names_low, Xq_nodes_b_names_low, Xq_row_subject_names_low, Xq_row_carried_names_low, Xq_row_length_names_low, Xq_row_with_names_low, Xq_row_op_names_low, Xq_row_negated_names_low, Xq_row_object_names_low, Xq_testing_noted_names_low, Xq_testing_depth_names_low, Xq_testing_outcome_names_low, Xq_testing_leaves_names_low, Xq_testing_waiting_names_low, Xq_switches_names_low, Xq_leftText_names_low, Xq_rightText_names_low, List.set_cons_succ, List.set_cons_zero]
theorem Xp_names_low {D : va_G} {k : zK} {a : Nat → Nat} {u : XS} {v : Nat → Int64} {H : Heap} (h : va_P D vwCl ((wX k a u).set 11 ((a 11), .inl (k.2.2.1, 328, .inr (.inl v)))) H) : va_P D vwCl (wX k a (Xs_names_low u v)) H := by
  rw [Xe_names_low]; exact h
theorem Xe_names_high (k : zK) (a : Nat → Nat) (u : XS) (v : Nat → Int64) : wX k a (Xs_names_high u v) = (wX k a u).set 12 ((a 12), .inl (k.2.2.1, 328, .inr (.inl v))) := by
  simp only [wX, Xq_whole_names_high, Xq_fields_made_names_high, Xq_fields_category_names_high, Xq_fields_size_names_high, Xq_fields_scale_names_high, Xq_fields_bytes_names_high, Xq_weights_of_names_high, Xq_names_made_names_high, Xq_names_field_names_high, Xq_names_ranges_names_high, Xq_names_low_names_high, Xq_names_high_names_high, Xq_nodes_made_names_high, Xq_nodes_op_names_high, Xq_nodes_a_names_high, Xq_nodes_b_names_high, Xq_row_subject_names_high, Xq_row_carried_names_high, Xq_row_length_names_high, Xq_row_with_names_high, Xq_row_op_names_high, Xq_row_negated_names_high, Xq_row_object_names_high, Xq_testing_noted_names_high, Xq_testing_depth_names_high, Xq_testing_outcome_names_high, Xq_testing_leaves_names_high, Xq_testing_waiting_names_high, Xq_switches_names_high, Xq_leftText_names_high, Xq_rightText_names_high, List.set_cons_succ, List.set_cons_zero]
theorem Xp_names_high {D : va_G} {k : zK} {a : Nat → Nat} {u : XS} {v : Nat → Int64} {H : Heap} (h : va_P D vwCl ((wX k a u).set 12 ((a 12), .inl (k.2.2.1, 328, .inr (.inl v)))) H) : va_P D vwCl (wX k a (Xs_names_high u v)) H := by
  rw [Xe_names_high]; exact h
theorem Xe_nodes_made (k : zK) (a : Nat → Nat) (u : XS) (v : Int32) : wX k a (Xs_nodes_made u v) = (wX k a u).set 13 ((a 13), .inr (4, ([.ref (a 14), .ref (a 15), .ref (a 16), .int (Xg_nodes_made u)] : List Value).set 3 (.int v))) := by
  simp only [wX, Xq_whole_nodes_made, Xq_fields_made_nodes_made, Xq_fields_category_nodes_made, Xq_fields_size_nodes_made, Xq_fields_scale_nodes_made, Xq_fields_bytes_nodes_made, Xq_weights_of_nodes_made, Xq_names_made_nodes_made, Xq_names_field_nodes_made, Xq_names_ranges_nodes_made, Xq_names_low_nodes_made, Xq_names_high_nodes_made, Xq_nodes_made_nodes_made, Xq_nodes_op_nodes_made, Xq_nodes_a_nodes_made, Xq_nodes_b_nodes_made, Xq_row_subject_nodes_made, Xq_row_carried_nodes_made, Xq_row_length_nodes_made, Xq_row_with_nodes_made, Xq_row_op_nodes_made, Xq_row_negated_nodes_made, Xq_row_object_nodes_made, Xq_testing_noted_nodes_made, Xq_testing_depth_nodes_made, Xq_testing_outcome_nodes_made, Xq_testing_leaves_nodes_made, Xq_testing_waiting_nodes_made, Xq_switches_nodes_made, Xq_leftText_nodes_made, Xq_rightText_nodes_made, List.set_cons_succ, List.set_cons_zero]
theorem Xp_nodes_made {D : va_G} {k : zK} {a : Nat → Nat} {u : XS} {v : Int32} {H : Heap} (h : va_P D vwCl ((wX k a u).set 13 ((a 13), .inr (4, ([.ref (a 14), .ref (a 15), .ref (a 16), .int (Xg_nodes_made u)] : List Value).set 3 (.int v)))) H) : va_P D vwCl (wX k a (Xs_nodes_made u v)) H := by
  rw [Xe_nodes_made]; exact h
theorem Xe_nodes_op (k : zK) (a : Nat → Nat) (u : XS) (v : Nat → Int32) : wX k a (Xs_nodes_op u v) = (wX k a u).set 14 ((a 14), .inl (k.2.1, 201, .inl v)) := by
  simp only [wX, Xq_whole_nodes_op, Xq_fields_made_nodes_op, Xq_fields_category_nodes_op, Xq_fields_size_nodes_op, Xq_fields_scale_nodes_op, Xq_fields_bytes_nodes_op, Xq_weights_of_nodes_op, Xq_names_made_nodes_op, Xq_names_field_nodes_op, Xq_names_ranges_nodes_op, Xq_names_low_nodes_op, Xq_names_high_nodes_op, Xq_nodes_made_nodes_op, Xq_nodes_op_nodes_op, Xq_nodes_a_nodes_op, Xq_nodes_b_nodes_op, Xq_row_subject_nodes_op, Xq_row_carried_nodes_op, Xq_row_length_nodes_op, Xq_row_with_nodes_op, Xq_row_op_nodes_op, Xq_row_negated_nodes_op, Xq_row_object_nodes_op, Xq_testing_noted_nodes_op, Xq_testing_depth_nodes_op, Xq_testing_outcome_nodes_op, Xq_testing_leaves_nodes_op, Xq_testing_waiting_nodes_op, Xq_switches_nodes_op, Xq_leftText_nodes_op, Xq_rightText_nodes_op, List.set_cons_succ, List.set_cons_zero]
theorem Xp_nodes_op {D : va_G} {k : zK} {a : Nat → Nat} {u : XS} {v : Nat → Int32} {H : Heap} (h : va_P D vwCl ((wX k a u).set 14 ((a 14), .inl (k.2.1, 201, .inl v))) H) : va_P D vwCl (wX k a (Xs_nodes_op u v)) H := by
  rw [Xe_nodes_op]; exact h
theorem Xe_nodes_a (k : zK) (a : Nat → Nat) (u : XS) (v : Nat → Int32) : wX k a (Xs_nodes_a u v) = (wX k a u).set 15 ((a 15), .inl (k.2.1, 201, .inl v)) := by
  simp only [wX, Xq_whole_nodes_a, Xq_fields_made_nodes_a, Xq_fields_category_nodes_a, Xq_fields_size_nodes_a, Xq_fields_scale_nodes_a, Xq_fields_bytes_nodes_a, Xq_weights_of_nodes_a, Xq_names_made_nodes_a, Xq_names_field_nodes_a, Xq_names_ranges_nodes_a, Xq_names_low_nodes_a, Xq_names_high_nodes_a, Xq_nodes_made_nodes_a, Xq_nodes_op_nodes_a, Xq_nodes_a_nodes_a, Xq_nodes_b_nodes_a, Xq_row_subject_nodes_a, Xq_row_carried_nodes_a, Xq_row_length_nodes_a, Xq_row_with_nodes_a, Xq_row_op_nodes_a, Xq_row_negated_nodes_a, Xq_row_object_nodes_a, Xq_testing_noted_nodes_a, Xq_testing_depth_nodes_a, Xq_testing_outcome_nodes_a, Xq_testing_leaves_nodes_a, Xq_testing_waiting_nodes_a, Xq_switches_nodes_a, Xq_leftText_nodes_a, Xq_rightText_nodes_a, List.set_cons_succ, List.set_cons_zero]
theorem Xp_nodes_a {D : va_G} {k : zK} {a : Nat → Nat} {u : XS} {v : Nat → Int32} {H : Heap} (h : va_P D vwCl ((wX k a u).set 15 ((a 15), .inl (k.2.1, 201, .inl v))) H) : va_P D vwCl (wX k a (Xs_nodes_a u v)) H := by
  rw [Xe_nodes_a]; exact h
theorem Xe_nodes_b (k : zK) (a : Nat → Nat) (u : XS) (v : Nat → Int32) : wX k a (Xs_nodes_b u v) = (wX k a u).set 16 ((a 16), .inl (k.2.1, 201, .inl v)) := by
  simp only [wX, Xq_whole_nodes_b, Xq_fields_made_nodes_b, Xq_fields_category_nodes_b, Xq_fields_size_nodes_b, Xq_fields_scale_nodes_b, Xq_fields_bytes_nodes_b, Xq_weights_of_nodes_b, Xq_names_made_nodes_b, Xq_names_field_nodes_b, Xq_names_ranges_nodes_b, Xq_names_low_nodes_b, Xq_names_high_nodes_b, Xq_nodes_made_nodes_b, Xq_nodes_op_nodes_b, Xq_nodes_a_nodes_b, Xq_nodes_b_nodes_b, Xq_row_subject_nodes_b, Xq_row_carried_nodes_b, Xq_row_length_nodes_b, Xq_row_with_nodes_b, Xq_row_op_nodes_b, Xq_row_negated_nodes_b, Xq_row_object_nodes_b, Xq_testing_noted_nodes_b, Xq_testing_depth_nodes_b, Xq_testing_outcome_nodes_b, Xq_testing_leaves_nodes_b, Xq_testing_waiting_nodes_b, Xq_switches_nodes_b, Xq_leftText_nodes_b, Xq_rightText_nodes_b, List.set_cons_succ, List.set_cons_zero]
theorem Xp_nodes_b {D : va_G} {k : zK} {a : Nat → Nat} {u : XS} {v : Nat → Int32} {H : Heap} (h : va_P D vwCl ((wX k a u).set 16 ((a 16), .inl (k.2.1, 201, .inl v))) H) : va_P D vwCl (wX k a (Xs_nodes_b u v)) H := by
  rw [Xe_nodes_b]; exact h
theorem Xe_row_subject (k : zK) (a : Nat → Nat) (u : XS) (v : Int32) : wX k a (Xs_row_subject u v) = (wX k a u).set 17 ((a 17), .inr (5, ([.ref (a 18), .ref (a 19), .ref (a 20), .ref (a 21), .int (Xg_row_subject u), .int (Xg_row_carried u), .int (Xg_row_length u)] : List Value).set 4 (.int v))) := by
  simp only [wX, Xq_whole_row_subject, Xq_fields_made_row_subject, Xq_fields_category_row_subject, Xq_fields_size_row_subject, Xq_fields_scale_row_subject, Xq_fields_bytes_row_subject, Xq_weights_of_row_subject, Xq_names_made_row_subject, Xq_names_field_row_subject, Xq_names_ranges_row_subject, Xq_names_low_row_subject, Xq_names_high_row_subject, Xq_nodes_made_row_subject, Xq_nodes_op_row_subject, Xq_nodes_a_row_subject, Xq_nodes_b_row_subject, Xq_row_subject_row_subject, Xq_row_carried_row_subject, Xq_row_length_row_subject, Xq_row_with_row_subject, Xq_row_op_row_subject, Xq_row_negated_row_subject, Xq_row_object_row_subject, Xq_testing_noted_row_subject, Xq_testing_depth_row_subject, Xq_testing_outcome_row_subject, Xq_testing_leaves_row_subject, Xq_testing_waiting_row_subject, Xq_switches_row_subject, Xq_leftText_row_subject, Xq_rightText_row_subject, List.set_cons_succ, List.set_cons_zero]
theorem Xp_row_subject {D : va_G} {k : zK} {a : Nat → Nat} {u : XS} {v : Int32} {H : Heap} (h : va_P D vwCl ((wX k a u).set 17 ((a 17), .inr (5, ([.ref (a 18), .ref (a 19), .ref (a 20), .ref (a 21), .int (Xg_row_subject u), .int (Xg_row_carried u), .int (Xg_row_length u)] : List Value).set 4 (.int v)))) H) : va_P D vwCl (wX k a (Xs_row_subject u v)) H := by
  rw [Xe_row_subject]; exact h
theorem Xe_row_carried (k : zK) (a : Nat → Nat) (u : XS) (v : Int32) : wX k a (Xs_row_carried u v) = (wX k a u).set 17 ((a 17), .inr (5, ([.ref (a 18), .ref (a 19), .ref (a 20), .ref (a 21), .int (Xg_row_subject u), .int (Xg_row_carried u), .int (Xg_row_length u)] : List Value).set 5 (.int v))) := by
  simp only [wX, Xq_whole_row_carried, Xq_fields_made_row_carried, Xq_fields_category_row_carried, Xq_fields_size_row_carried, Xq_fields_scale_row_carried, Xq_fields_bytes_row_carried, Xq_weights_of_row_carried, Xq_names_made_row_carried, Xq_names_field_row_carried, Xq_names_ranges_row_carried, Xq_names_low_row_carried, Xq_names_high_row_carried, Xq_nodes_made_row_carried, Xq_nodes_op_row_carried, Xq_nodes_a_row_carried, Xq_nodes_b_row_carried, Xq_row_subject_row_carried, Xq_row_carried_row_carried, Xq_row_length_row_carried, Xq_row_with_row_carried, Xq_row_op_row_carried, Xq_row_negated_row_carried, Xq_row_object_row_carried, Xq_testing_noted_row_carried, Xq_testing_depth_row_carried, Xq_testing_outcome_row_carried, Xq_testing_leaves_row_carried, Xq_testing_waiting_row_carried, Xq_switches_row_carried, Xq_leftText_row_carried, Xq_rightText_row_carried, List.set_cons_succ, List.set_cons_zero]
theorem Xp_row_carried {D : va_G} {k : zK} {a : Nat → Nat} {u : XS} {v : Int32} {H : Heap} (h : va_P D vwCl ((wX k a u).set 17 ((a 17), .inr (5, ([.ref (a 18), .ref (a 19), .ref (a 20), .ref (a 21), .int (Xg_row_subject u), .int (Xg_row_carried u), .int (Xg_row_length u)] : List Value).set 5 (.int v)))) H) : va_P D vwCl (wX k a (Xs_row_carried u v)) H := by
  rw [Xe_row_carried]; exact h
theorem Xe_row_length (k : zK) (a : Nat → Nat) (u : XS) (v : Int32) : wX k a (Xs_row_length u v) = (wX k a u).set 17 ((a 17), .inr (5, ([.ref (a 18), .ref (a 19), .ref (a 20), .ref (a 21), .int (Xg_row_subject u), .int (Xg_row_carried u), .int (Xg_row_length u)] : List Value).set 6 (.int v))) := by
  simp only [wX, Xq_whole_row_length, Xq_fields_made_row_length, Xq_fields_category_row_length, Xq_fields_size_row_length, Xq_fields_scale_row_length, Xq_fields_bytes_row_length, Xq_weights_of_row_length, Xq_names_made_row_length, Xq_names_field_row_length, Xq_names_ranges_row_length, Xq_names_low_row_length, Xq_names_high_row_length, Xq_nodes_made_row_length, Xq_nodes_op_row_length, Xq_nodes_a_row_length, Xq_nodes_b_row_length, Xq_row_subject_row_length, Xq_row_carried_row_length, Xq_row_length_row_length, Xq_row_with_row_length, Xq_row_op_row_length, Xq_row_negated_row_length, Xq_row_object_row_length, Xq_testing_noted_row_length, Xq_testing_depth_row_length, Xq_testing_outcome_row_length, Xq_testing_leaves_row_length, Xq_testing_waiting_row_length, Xq_switches_row_length, Xq_leftText_row_length, Xq_rightText_row_length, List.set_cons_succ, List.set_cons_zero]
theorem Xp_row_length {D : va_G} {k : zK} {a : Nat → Nat} {u : XS} {v : Int32} {H : Heap} (h : va_P D vwCl ((wX k a u).set 17 ((a 17), .inr (5, ([.ref (a 18), .ref (a 19), .ref (a 20), .ref (a 21), .int (Xg_row_subject u), .int (Xg_row_carried u), .int (Xg_row_length u)] : List Value).set 6 (.int v)))) H) : va_P D vwCl (wX k a (Xs_row_length u v)) H := by
  rw [Xe_row_length]; exact h
theorem Xe_row_with (k : zK) (a : Nat → Nat) (u : XS) (v : Nat → Int32) : wX k a (Xs_row_with u v) = (wX k a u).set 18 ((a 18), .inl (k.2.1, 20, .inl v)) := by
  simp only [wX, Xq_whole_row_with, Xq_fields_made_row_with, Xq_fields_category_row_with, Xq_fields_size_row_with, Xq_fields_scale_row_with, Xq_fields_bytes_row_with, Xq_weights_of_row_with, Xq_names_made_row_with, Xq_names_field_row_with, Xq_names_ranges_row_with, Xq_names_low_row_with, Xq_names_high_row_with, Xq_nodes_made_row_with, Xq_nodes_op_row_with, Xq_nodes_a_row_with, Xq_nodes_b_row_with, Xq_row_subject_row_with, Xq_row_carried_row_with, Xq_row_length_row_with, Xq_row_with_row_with, Xq_row_op_row_with, Xq_row_negated_row_with, Xq_row_object_row_with, Xq_testing_noted_row_with, Xq_testing_depth_row_with, Xq_testing_outcome_row_with, Xq_testing_leaves_row_with, Xq_testing_waiting_row_with, Xq_switches_row_with, Xq_leftText_row_with, Xq_rightText_row_with, List.set_cons_succ, List.set_cons_zero]
theorem Xp_row_with {D : va_G} {k : zK} {a : Nat → Nat} {u : XS} {v : Nat → Int32} {H : Heap} (h : va_P D vwCl ((wX k a u).set 18 ((a 18), .inl (k.2.1, 20, .inl v))) H) : va_P D vwCl (wX k a (Xs_row_with u v)) H := by
  rw [Xe_row_with]; exact h
theorem Xe_row_op (k : zK) (a : Nat → Nat) (u : XS) (v : Nat → Int32) : wX k a (Xs_row_op u v) = (wX k a u).set 19 ((a 19), .inl (k.2.1, 20, .inl v)) := by
  simp only [wX, Xq_whole_row_op, Xq_fields_made_row_op, Xq_fields_category_row_op, Xq_fields_size_row_op, Xq_fields_scale_row_op, Xq_fields_bytes_row_op, Xq_weights_of_row_op, Xq_names_made_row_op, Xq_names_field_row_op, Xq_names_ranges_row_op, Xq_names_low_row_op, Xq_names_high_row_op, Xq_nodes_made_row_op, Xq_nodes_op_row_op, Xq_nodes_a_row_op, Xq_nodes_b_row_op, Xq_row_subject_row_op, Xq_row_carried_row_op, Xq_row_length_row_op, Xq_row_with_row_op, Xq_row_op_row_op, Xq_row_negated_row_op, Xq_row_object_row_op, Xq_testing_noted_row_op, Xq_testing_depth_row_op, Xq_testing_outcome_row_op, Xq_testing_leaves_row_op, Xq_testing_waiting_row_op, Xq_switches_row_op, Xq_leftText_row_op, Xq_rightText_row_op, List.set_cons_succ, List.set_cons_zero]
theorem Xp_row_op {D : va_G} {k : zK} {a : Nat → Nat} {u : XS} {v : Nat → Int32} {H : Heap} (h : va_P D vwCl ((wX k a u).set 19 ((a 19), .inl (k.2.1, 20, .inl v))) H) : va_P D vwCl (wX k a (Xs_row_op u v)) H := by
  rw [Xe_row_op]; exact h
theorem Xe_row_negated (k : zK) (a : Nat → Nat) (u : XS) (v : Nat → Int32) : wX k a (Xs_row_negated u v) = (wX k a u).set 20 ((a 20), .inl (k.2.2.2, 20, .inl v)) := by
  simp only [wX, Xq_whole_row_negated, Xq_fields_made_row_negated, Xq_fields_category_row_negated, Xq_fields_size_row_negated, Xq_fields_scale_row_negated, Xq_fields_bytes_row_negated, Xq_weights_of_row_negated, Xq_names_made_row_negated, Xq_names_field_row_negated, Xq_names_ranges_row_negated, Xq_names_low_row_negated, Xq_names_high_row_negated, Xq_nodes_made_row_negated, Xq_nodes_op_row_negated, Xq_nodes_a_row_negated, Xq_nodes_b_row_negated, Xq_row_subject_row_negated, Xq_row_carried_row_negated, Xq_row_length_row_negated, Xq_row_with_row_negated, Xq_row_op_row_negated, Xq_row_negated_row_negated, Xq_row_object_row_negated, Xq_testing_noted_row_negated, Xq_testing_depth_row_negated, Xq_testing_outcome_row_negated, Xq_testing_leaves_row_negated, Xq_testing_waiting_row_negated, Xq_switches_row_negated, Xq_leftText_row_negated, Xq_rightText_row_negated, List.set_cons_succ, List.set_cons_zero]
theorem Xp_row_negated {D : va_G} {k : zK} {a : Nat → Nat} {u : XS} {v : Nat → Int32} {H : Heap} (h : va_P D vwCl ((wX k a u).set 20 ((a 20), .inl (k.2.2.2, 20, .inl v))) H) : va_P D vwCl (wX k a (Xs_row_negated u v)) H := by
  rw [Xe_row_negated]; exact h
theorem Xe_row_object (k : zK) (a : Nat → Nat) (u : XS) (v : Nat → Int32) : wX k a (Xs_row_object u v) = (wX k a u).set 21 ((a 21), .inl (k.2.1, 20, .inl v)) := by
  simp only [wX, Xq_whole_row_object, Xq_fields_made_row_object, Xq_fields_category_row_object, Xq_fields_size_row_object, Xq_fields_scale_row_object, Xq_fields_bytes_row_object, Xq_weights_of_row_object, Xq_names_made_row_object, Xq_names_field_row_object, Xq_names_ranges_row_object, Xq_names_low_row_object, Xq_names_high_row_object, Xq_nodes_made_row_object, Xq_nodes_op_row_object, Xq_nodes_a_row_object, Xq_nodes_b_row_object, Xq_row_subject_row_object, Xq_row_carried_row_object, Xq_row_length_row_object, Xq_row_with_row_object, Xq_row_op_row_object, Xq_row_negated_row_object, Xq_row_object_row_object, Xq_testing_noted_row_object, Xq_testing_depth_row_object, Xq_testing_outcome_row_object, Xq_testing_leaves_row_object, Xq_testing_waiting_row_object, Xq_switches_row_object, Xq_leftText_row_object, Xq_rightText_row_object, List.set_cons_succ, List.set_cons_zero]
theorem Xp_row_object {D : va_G} {k : zK} {a : Nat → Nat} {u : XS} {v : Nat → Int32} {H : Heap} (h : va_P D vwCl ((wX k a u).set 21 ((a 21), .inl (k.2.1, 20, .inl v))) H) : va_P D vwCl (wX k a (Xs_row_object u v)) H := by
  rw [Xe_row_object]; exact h
theorem Xe_testing_noted (k : zK) (a : Nat → Nat) (u : XS) (v : Int32) : wX k a (Xs_testing_noted u v) = (wX k a u).set 22 ((a 22), .inr (6, ([.ref (a 23), .ref (a 24), .ref (a 25), .int (Xg_testing_noted u), .int (Xg_testing_depth u)] : List Value).set 3 (.int v))) := by
  simp only [wX, Xq_whole_testing_noted, Xq_fields_made_testing_noted, Xq_fields_category_testing_noted, Xq_fields_size_testing_noted, Xq_fields_scale_testing_noted, Xq_fields_bytes_testing_noted, Xq_weights_of_testing_noted, Xq_names_made_testing_noted, Xq_names_field_testing_noted, Xq_names_ranges_testing_noted, Xq_names_low_testing_noted, Xq_names_high_testing_noted, Xq_nodes_made_testing_noted, Xq_nodes_op_testing_noted, Xq_nodes_a_testing_noted, Xq_nodes_b_testing_noted, Xq_row_subject_testing_noted, Xq_row_carried_testing_noted, Xq_row_length_testing_noted, Xq_row_with_testing_noted, Xq_row_op_testing_noted, Xq_row_negated_testing_noted, Xq_row_object_testing_noted, Xq_testing_noted_testing_noted, Xq_testing_depth_testing_noted, Xq_testing_outcome_testing_noted, Xq_testing_leaves_testing_noted, Xq_testing_waiting_testing_noted, Xq_switches_testing_noted, Xq_leftText_testing_noted, Xq_rightText_testing_noted, List.set_cons_succ, List.set_cons_zero]
theorem Xp_testing_noted {D : va_G} {k : zK} {a : Nat → Nat} {u : XS} {v : Int32} {H : Heap} (h : va_P D vwCl ((wX k a u).set 22 ((a 22), .inr (6, ([.ref (a 23), .ref (a 24), .ref (a 25), .int (Xg_testing_noted u), .int (Xg_testing_depth u)] : List Value).set 3 (.int v)))) H) : va_P D vwCl (wX k a (Xs_testing_noted u v)) H := by
  rw [Xe_testing_noted]; exact h
theorem Xe_testing_depth (k : zK) (a : Nat → Nat) (u : XS) (v : Int32) : wX k a (Xs_testing_depth u v) = (wX k a u).set 22 ((a 22), .inr (6, ([.ref (a 23), .ref (a 24), .ref (a 25), .int (Xg_testing_noted u), .int (Xg_testing_depth u)] : List Value).set 4 (.int v))) := by
  simp only [wX, Xq_whole_testing_depth, Xq_fields_made_testing_depth, Xq_fields_category_testing_depth, Xq_fields_size_testing_depth, Xq_fields_scale_testing_depth, Xq_fields_bytes_testing_depth, Xq_weights_of_testing_depth, Xq_names_made_testing_depth, Xq_names_field_testing_depth, Xq_names_ranges_testing_depth, Xq_names_low_testing_depth, Xq_names_high_testing_depth, Xq_nodes_made_testing_depth, Xq_nodes_op_testing_depth, Xq_nodes_a_testing_depth, Xq_nodes_b_testing_depth, Xq_row_subject_testing_depth, Xq_row_carried_testing_depth, Xq_row_length_testing_depth, Xq_row_with_testing_depth, Xq_row_op_testing_depth, Xq_row_negated_testing_depth, Xq_row_object_testing_depth, Xq_testing_noted_testing_depth, Xq_testing_depth_testing_depth, Xq_testing_outcome_testing_depth, Xq_testing_leaves_testing_depth, Xq_testing_waiting_testing_depth, Xq_switches_testing_depth, Xq_leftText_testing_depth, Xq_rightText_testing_depth, List.set_cons_succ, List.set_cons_zero]
theorem Xp_testing_depth {D : va_G} {k : zK} {a : Nat → Nat} {u : XS} {v : Int32} {H : Heap} (h : va_P D vwCl ((wX k a u).set 22 ((a 22), .inr (6, ([.ref (a 23), .ref (a 24), .ref (a 25), .int (Xg_testing_noted u), .int (Xg_testing_depth u)] : List Value).set 4 (.int v)))) H) : va_P D vwCl (wX k a (Xs_testing_depth u v)) H := by
  rw [Xe_testing_depth]; exact h
theorem Xe_testing_outcome (k : zK) (a : Nat → Nat) (u : XS) (v : Nat → Int32) : wX k a (Xs_testing_outcome u v) = (wX k a u).set 23 ((a 23), .inl (k.2.1, 201, .inl v)) := by
  simp only [wX, Xq_whole_testing_outcome, Xq_fields_made_testing_outcome, Xq_fields_category_testing_outcome, Xq_fields_size_testing_outcome, Xq_fields_scale_testing_outcome, Xq_fields_bytes_testing_outcome, Xq_weights_of_testing_outcome, Xq_names_made_testing_outcome, Xq_names_field_testing_outcome, Xq_names_ranges_testing_outcome, Xq_names_low_testing_outcome, Xq_names_high_testing_outcome, Xq_nodes_made_testing_outcome, Xq_nodes_op_testing_outcome, Xq_nodes_a_testing_outcome, Xq_nodes_b_testing_outcome, Xq_row_subject_testing_outcome, Xq_row_carried_testing_outcome, Xq_row_length_testing_outcome, Xq_row_with_testing_outcome, Xq_row_op_testing_outcome, Xq_row_negated_testing_outcome, Xq_row_object_testing_outcome, Xq_testing_noted_testing_outcome, Xq_testing_depth_testing_outcome, Xq_testing_outcome_testing_outcome, Xq_testing_leaves_testing_outcome, Xq_testing_waiting_testing_outcome, Xq_switches_testing_outcome, Xq_leftText_testing_outcome, Xq_rightText_testing_outcome, List.set_cons_succ, List.set_cons_zero]
theorem Xp_testing_outcome {D : va_G} {k : zK} {a : Nat → Nat} {u : XS} {v : Nat → Int32} {H : Heap} (h : va_P D vwCl ((wX k a u).set 23 ((a 23), .inl (k.2.1, 201, .inl v))) H) : va_P D vwCl (wX k a (Xs_testing_outcome u v)) H := by
  rw [Xe_testing_outcome]; exact h
theorem Xe_testing_leaves (k : zK) (a : Nat → Nat) (u : XS) (v : Nat → Int32) : wX k a (Xs_testing_leaves u v) = (wX k a u).set 24 ((a 24), .inl (k.2.1, 200, .inl v)) := by
  simp only [wX, Xq_whole_testing_leaves, Xq_fields_made_testing_leaves, Xq_fields_category_testing_leaves, Xq_fields_size_testing_leaves, Xq_fields_scale_testing_leaves, Xq_fields_bytes_testing_leaves, Xq_weights_of_testing_leaves, Xq_names_made_testing_leaves, Xq_names_field_testing_leaves, Xq_names_ranges_testing_leaves, Xq_names_low_testing_leaves, Xq_names_high_testing_leaves, Xq_nodes_made_testing_leaves, Xq_nodes_op_testing_leaves, Xq_nodes_a_testing_leaves, Xq_nodes_b_testing_leaves, Xq_row_subject_testing_leaves, Xq_row_carried_testing_leaves, Xq_row_length_testing_leaves, Xq_row_with_testing_leaves, Xq_row_op_testing_leaves, Xq_row_negated_testing_leaves, Xq_row_object_testing_leaves, Xq_testing_noted_testing_leaves, Xq_testing_depth_testing_leaves, Xq_testing_outcome_testing_leaves, Xq_testing_leaves_testing_leaves, Xq_testing_waiting_testing_leaves, Xq_switches_testing_leaves, Xq_leftText_testing_leaves, Xq_rightText_testing_leaves, List.set_cons_succ, List.set_cons_zero]
theorem Xp_testing_leaves {D : va_G} {k : zK} {a : Nat → Nat} {u : XS} {v : Nat → Int32} {H : Heap} (h : va_P D vwCl ((wX k a u).set 24 ((a 24), .inl (k.2.1, 200, .inl v))) H) : va_P D vwCl (wX k a (Xs_testing_leaves u v)) H := by
  rw [Xe_testing_leaves]; exact h
theorem Xe_testing_waiting (k : zK) (a : Nat → Nat) (u : XS) (v : Nat → Int32) : wX k a (Xs_testing_waiting u v) = (wX k a u).set 25 ((a 25), .inl (k.2.1, 200, .inl v)) := by
  simp only [wX, Xq_whole_testing_waiting, Xq_fields_made_testing_waiting, Xq_fields_category_testing_waiting, Xq_fields_size_testing_waiting, Xq_fields_scale_testing_waiting, Xq_fields_bytes_testing_waiting, Xq_weights_of_testing_waiting, Xq_names_made_testing_waiting, Xq_names_field_testing_waiting, Xq_names_ranges_testing_waiting, Xq_names_low_testing_waiting, Xq_names_high_testing_waiting, Xq_nodes_made_testing_waiting, Xq_nodes_op_testing_waiting, Xq_nodes_a_testing_waiting, Xq_nodes_b_testing_waiting, Xq_row_subject_testing_waiting, Xq_row_carried_testing_waiting, Xq_row_length_testing_waiting, Xq_row_with_testing_waiting, Xq_row_op_testing_waiting, Xq_row_negated_testing_waiting, Xq_row_object_testing_waiting, Xq_testing_noted_testing_waiting, Xq_testing_depth_testing_waiting, Xq_testing_outcome_testing_waiting, Xq_testing_leaves_testing_waiting, Xq_testing_waiting_testing_waiting, Xq_switches_testing_waiting, Xq_leftText_testing_waiting, Xq_rightText_testing_waiting, List.set_cons_succ, List.set_cons_zero]
theorem Xp_testing_waiting {D : va_G} {k : zK} {a : Nat → Nat} {u : XS} {v : Nat → Int32} {H : Heap} (h : va_P D vwCl ((wX k a u).set 25 ((a 25), .inl (k.2.1, 200, .inl v))) H) : va_P D vwCl (wX k a (Xs_testing_waiting u v)) H := by
  rw [Xe_testing_waiting]; exact h
theorem Xe_switches (k : zK) (a : Nat → Nat) (u : XS) (v : Nat → Int32) : wX k a (Xs_switches u v) = (wX k a u).set 26 ((a 26), .inl (k.2.2.2, 16, .inl v)) := by
  simp only [wX, Xq_whole_switches, Xq_fields_made_switches, Xq_fields_category_switches, Xq_fields_size_switches, Xq_fields_scale_switches, Xq_fields_bytes_switches, Xq_weights_of_switches, Xq_names_made_switches, Xq_names_field_switches, Xq_names_ranges_switches, Xq_names_low_switches, Xq_names_high_switches, Xq_nodes_made_switches, Xq_nodes_op_switches, Xq_nodes_a_switches, Xq_nodes_b_switches, Xq_row_subject_switches, Xq_row_carried_switches, Xq_row_length_switches, Xq_row_with_switches, Xq_row_op_switches, Xq_row_negated_switches, Xq_row_object_switches, Xq_testing_noted_switches, Xq_testing_depth_switches, Xq_testing_outcome_switches, Xq_testing_leaves_switches, Xq_testing_waiting_switches, Xq_switches_switches, Xq_leftText_switches, Xq_rightText_switches, List.set_cons_succ, List.set_cons_zero]
theorem Xp_switches {D : va_G} {k : zK} {a : Nat → Nat} {u : XS} {v : Nat → Int32} {H : Heap} (h : va_P D vwCl ((wX k a u).set 26 ((a 26), .inl (k.2.2.2, 16, .inl v))) H) : va_P D vwCl (wX k a (Xs_switches u v)) H := by
  rw [Xe_switches]; exact h
theorem Xe_leftText (k : zK) (a : Nat → Nat) (u : XS) (v : Nat → Int32) : wX k a (Xs_leftText u v) = (wX k a u).set 27 ((a 27), .inl (k.2.1, 32, .inl v)) := by
  simp only [wX, Xq_whole_leftText, Xq_fields_made_leftText, Xq_fields_category_leftText, Xq_fields_size_leftText, Xq_fields_scale_leftText, Xq_fields_bytes_leftText, Xq_weights_of_leftText, Xq_names_made_leftText, Xq_names_field_leftText, Xq_names_ranges_leftText, Xq_names_low_leftText, Xq_names_high_leftText, Xq_nodes_made_leftText, Xq_nodes_op_leftText, Xq_nodes_a_leftText, Xq_nodes_b_leftText, Xq_row_subject_leftText, Xq_row_carried_leftText, Xq_row_length_leftText, Xq_row_with_leftText, Xq_row_op_leftText, Xq_row_negated_leftText, Xq_row_object_leftText, Xq_testing_noted_leftText, Xq_testing_depth_leftText, Xq_testing_outcome_leftText, Xq_testing_leaves_leftText, Xq_testing_waiting_leftText, Xq_switches_leftText, Xq_leftText_leftText, Xq_rightText_leftText, List.set_cons_succ, List.set_cons_zero]
theorem Xp_leftText {D : va_G} {k : zK} {a : Nat → Nat} {u : XS} {v : Nat → Int32} {H : Heap} (h : va_P D vwCl ((wX k a u).set 27 ((a 27), .inl (k.2.1, 32, .inl v))) H) : va_P D vwCl (wX k a (Xs_leftText u v)) H := by
  rw [Xe_leftText]; exact h
theorem Xe_rightText (k : zK) (a : Nat → Nat) (u : XS) (v : Nat → Int32) : wX k a (Xs_rightText u v) = (wX k a u).set 28 ((a 28), .inl (k.2.1, 32, .inl v)) := by
  simp only [wX, Xq_whole_rightText, Xq_fields_made_rightText, Xq_fields_category_rightText, Xq_fields_size_rightText, Xq_fields_scale_rightText, Xq_fields_bytes_rightText, Xq_weights_of_rightText, Xq_names_made_rightText, Xq_names_field_rightText, Xq_names_ranges_rightText, Xq_names_low_rightText, Xq_names_high_rightText, Xq_nodes_made_rightText, Xq_nodes_op_rightText, Xq_nodes_a_rightText, Xq_nodes_b_rightText, Xq_row_subject_rightText, Xq_row_carried_rightText, Xq_row_length_rightText, Xq_row_with_rightText, Xq_row_op_rightText, Xq_row_negated_rightText, Xq_row_object_rightText, Xq_testing_noted_rightText, Xq_testing_depth_rightText, Xq_testing_outcome_rightText, Xq_testing_leaves_rightText, Xq_testing_waiting_rightText, Xq_switches_rightText, Xq_leftText_rightText, Xq_rightText_rightText, List.set_cons_succ, List.set_cons_zero]
theorem Xp_rightText {D : va_G} {k : zK} {a : Nat → Nat} {u : XS} {v : Nat → Int32} {H : Heap} (h : va_P D vwCl ((wX k a u).set 28 ((a 28), .inl (k.2.1, 32, .inl v))) H) : va_P D vwCl (wX k a (Xs_rightText u v)) H := by
  rw [Xe_rightText]; exact h
end
section
abbrev MS : Type := Int32 × Int32 × Int32 × Int32 × Int32 × Int32 × Int32 × Int32 × Int32 × (Nat → Int32) × (Nat → Int32) × (Nat → Int32) × (Nat → Int32) × (Nat → Int32) × (Nat → Int32) × (Nat → Int32) × (Nat → Int32) × (Nat → Int32) × (Nat → Int32) × (Nat → Int64) × (Nat → Int64) × (Nat → Int32) × (Nat → Int32) × (Nat → Int32) × (Nat → Int32) × (Nat → Int32) × (Nat → Int32) × (Nat → Int32) × (Nat → Int32) × (Nat → Int32)
def Mg_whole (u : MS) : Int32 := u.1
def Mg_thrown (u : MS) : Int32 := u.2.1
def Mg_fields (u : MS) : Int32 := u.2.2.1
def Mg_nodes (u : MS) : Int32 := u.2.2.2.1
def Mg_names (u : MS) : Int32 := u.2.2.2.2.1
def Mg_row (u : MS) : Int32 := u.2.2.2.2.2.1
def Mg_subject (u : MS) : Int32 := u.2.2.2.2.2.2.1
def Mg_noted (u : MS) : Int32 := u.2.2.2.2.2.2.2.1
def Mg_fault (u : MS) : Int32 := u.2.2.2.2.2.2.2.2.1
def Mg_bytes (u : MS) : Nat → Int32 := u.2.2.2.2.2.2.2.2.2.1
def Mg_categories (u : MS) : Nat → Int32 := u.2.2.2.2.2.2.2.2.2.2.1
def Mg_sizes (u : MS) : Nat → Int32 := u.2.2.2.2.2.2.2.2.2.2.2.1
def Mg_scales (u : MS) : Nat → Int32 := u.2.2.2.2.2.2.2.2.2.2.2.2.1
def Mg_weights (u : MS) : Nat → Int32 := u.2.2.2.2.2.2.2.2.2.2.2.2.2.1
def Mg_ops (u : MS) : Nat → Int32 := u.2.2.2.2.2.2.2.2.2.2.2.2.2.2.1
def Mg_as (u : MS) : Nat → Int32 := u.2.2.2.2.2.2.2.2.2.2.2.2.2.2.2.1
def Mg_bs (u : MS) : Nat → Int32 := u.2.2.2.2.2.2.2.2.2.2.2.2.2.2.2.2.1
def Mg_nameFields (u : MS) : Nat → Int32 := u.2.2.2.2.2.2.2.2.2.2.2.2.2.2.2.2.2.1
def Mg_ranges (u : MS) : Nat → Int32 := u.2.2.2.2.2.2.2.2.2.2.2.2.2.2.2.2.2.2.1
def Mg_lows (u : MS) : Nat → Int64 := u.2.2.2.2.2.2.2.2.2.2.2.2.2.2.2.2.2.2.2.1
def Mg_highs (u : MS) : Nat → Int64 := u.2.2.2.2.2.2.2.2.2.2.2.2.2.2.2.2.2.2.2.2.1
def Mg_switches (u : MS) : Nat → Int32 := u.2.2.2.2.2.2.2.2.2.2.2.2.2.2.2.2.2.2.2.2.2.1
def Mg_ways (u : MS) : Nat → Int32 := u.2.2.2.2.2.2.2.2.2.2.2.2.2.2.2.2.2.2.2.2.2.2.1
def Mg_rowOps (u : MS) : Nat → Int32 := u.2.2.2.2.2.2.2.2.2.2.2.2.2.2.2.2.2.2.2.2.2.2.2.1
def Mg_objects (u : MS) : Nat → Int32 := u.2.2.2.2.2.2.2.2.2.2.2.2.2.2.2.2.2.2.2.2.2.2.2.2.1
def Mg_turned (u : MS) : Nat → Int32 := u.2.2.2.2.2.2.2.2.2.2.2.2.2.2.2.2.2.2.2.2.2.2.2.2.2.1
def Mg_known (u : MS) : Nat → Int32 := u.2.2.2.2.2.2.2.2.2.2.2.2.2.2.2.2.2.2.2.2.2.2.2.2.2.2.1
def Mg_pile (u : MS) : Nat → Int32 := u.2.2.2.2.2.2.2.2.2.2.2.2.2.2.2.2.2.2.2.2.2.2.2.2.2.2.2.1
def Mg_leaves (u : MS) : Nat → Int32 := u.2.2.2.2.2.2.2.2.2.2.2.2.2.2.2.2.2.2.2.2.2.2.2.2.2.2.2.2.1
def Mg_digits (u : MS) : Nat → Int32 := u.2.2.2.2.2.2.2.2.2.2.2.2.2.2.2.2.2.2.2.2.2.2.2.2.2.2.2.2.2
def Ms_whole (u : MS) (v : Int32) : MS := (v, u.2.1, u.2.2.1, u.2.2.2.1, u.2.2.2.2.1, u.2.2.2.2.2.1, u.2.2.2.2.2.2.1, u.2.2.2.2.2.2.2.1, u.2.2.2.2.2.2.2.2.1, u.2.2.2.2.2.2.2.2.2.1, u.2.2.2.2.2.2.2.2.2.2.1, u.2.2.2.2.2.2.2.2.2.2.2.1, u.2.2.2.2.2.2.2.2.2.2.2.2.1, u.2.2.2.2.2.2.2.2.2.2.2.2.2.1, u.2.2.2.2.2.2.2.2.2.2.2.2.2.2.1, u.2.2.2.2.2.2.2.2.2.2.2.2.2.2.2.1, u.2.2.2.2.2.2.2.2.2.2.2.2.2.2.2.2.1, u.2.2.2.2.2.2.2.2.2.2.2.2.2.2.2.2.2.1, u.2.2.2.2.2.2.2.2.2.2.2.2.2.2.2.2.2.2.1, u.2.2.2.2.2.2.2.2.2.2.2.2.2.2.2.2.2.2.2.1, u.2.2.2.2.2.2.2.2.2.2.2.2.2.2.2.2.2.2.2.2.1, u.2.2.2.2.2.2.2.2.2.2.2.2.2.2.2.2.2.2.2.2.2.1, u.2.2.2.2.2.2.2.2.2.2.2.2.2.2.2.2.2.2.2.2.2.2.1, u.2.2.2.2.2.2.2.2.2.2.2.2.2.2.2.2.2.2.2.2.2.2.2.1, u.2.2.2.2.2.2.2.2.2.2.2.2.2.2.2.2.2.2.2.2.2.2.2.2.1, u.2.2.2.2.2.2.2.2.2.2.2.2.2.2.2.2.2.2.2.2.2.2.2.2.2.1, u.2.2.2.2.2.2.2.2.2.2.2.2.2.2.2.2.2.2.2.2.2.2.2.2.2.2.1, u.2.2.2.2.2.2.2.2.2.2.2.2.2.2.2.2.2.2.2.2.2.2.2.2.2.2.2.1, u.2.2.2.2.2.2.2.2.2.2.2.2.2.2.2.2.2.2.2.2.2.2.2.2.2.2.2.2.1, u.2.2.2.2.2.2.2.2.2.2.2.2.2.2.2.2.2.2.2.2.2.2.2.2.2.2.2.2.2)
def Ms_thrown (u : MS) (v : Int32) : MS := (u.1, v, u.2.2.1, u.2.2.2.1, u.2.2.2.2.1, u.2.2.2.2.2.1, u.2.2.2.2.2.2.1, u.2.2.2.2.2.2.2.1, u.2.2.2.2.2.2.2.2.1, u.2.2.2.2.2.2.2.2.2.1, u.2.2.2.2.2.2.2.2.2.2.1, u.2.2.2.2.2.2.2.2.2.2.2.1, u.2.2.2.2.2.2.2.2.2.2.2.2.1, u.2.2.2.2.2.2.2.2.2.2.2.2.2.1, u.2.2.2.2.2.2.2.2.2.2.2.2.2.2.1, u.2.2.2.2.2.2.2.2.2.2.2.2.2.2.2.1, u.2.2.2.2.2.2.2.2.2.2.2.2.2.2.2.2.1, u.2.2.2.2.2.2.2.2.2.2.2.2.2.2.2.2.2.1, u.2.2.2.2.2.2.2.2.2.2.2.2.2.2.2.2.2.2.1, u.2.2.2.2.2.2.2.2.2.2.2.2.2.2.2.2.2.2.2.1, u.2.2.2.2.2.2.2.2.2.2.2.2.2.2.2.2.2.2.2.2.1, u.2.2.2.2.2.2.2.2.2.2.2.2.2.2.2.2.2.2.2.2.2.1, u.2.2.2.2.2.2.2.2.2.2.2.2.2.2.2.2.2.2.2.2.2.2.1, u.2.2.2.2.2.2.2.2.2.2.2.2.2.2.2.2.2.2.2.2.2.2.2.1, u.2.2.2.2.2.2.2.2.2.2.2.2.2.2.2.2.2.2.2.2.2.2.2.2.1, u.2.2.2.2.2.2.2.2.2.2.2.2.2.2.2.2.2.2.2.2.2.2.2.2.2.1, u.2.2.2.2.2.2.2.2.2.2.2.2.2.2.2.2.2.2.2.2.2.2.2.2.2.2.1, u.2.2.2.2.2.2.2.2.2.2.2.2.2.2.2.2.2.2.2.2.2.2.2.2.2.2.2.1, u.2.2.2.2.2.2.2.2.2.2.2.2.2.2.2.2.2.2.2.2.2.2.2.2.2.2.2.2.1, u.2.2.2.2.2.2.2.2.2.2.2.2.2.2.2.2.2.2.2.2.2.2.2.2.2.2.2.2.2)
def Ms_fields (u : MS) (v : Int32) : MS := (u.1, u.2.1, v, u.2.2.2.1, u.2.2.2.2.1, u.2.2.2.2.2.1, u.2.2.2.2.2.2.1, u.2.2.2.2.2.2.2.1, u.2.2.2.2.2.2.2.2.1, u.2.2.2.2.2.2.2.2.2.1, u.2.2.2.2.2.2.2.2.2.2.1, u.2.2.2.2.2.2.2.2.2.2.2.1, u.2.2.2.2.2.2.2.2.2.2.2.2.1, u.2.2.2.2.2.2.2.2.2.2.2.2.2.1, u.2.2.2.2.2.2.2.2.2.2.2.2.2.2.1, u.2.2.2.2.2.2.2.2.2.2.2.2.2.2.2.1, u.2.2.2.2.2.2.2.2.2.2.2.2.2.2.2.2.1, u.2.2.2.2.2.2.2.2.2.2.2.2.2.2.2.2.2.1, u.2.2.2.2.2.2.2.2.2.2.2.2.2.2.2.2.2.2.1, u.2.2.2.2.2.2.2.2.2.2.2.2.2.2.2.2.2.2.2.1, u.2.2.2.2.2.2.2.2.2.2.2.2.2.2.2.2.2.2.2.2.1, u.2.2.2.2.2.2.2.2.2.2.2.2.2.2.2.2.2.2.2.2.2.1, u.2.2.2.2.2.2.2.2.2.2.2.2.2.2.2.2.2.2.2.2.2.2.1, u.2.2.2.2.2.2.2.2.2.2.2.2.2.2.2.2.2.2.2.2.2.2.2.1, u.2.2.2.2.2.2.2.2.2.2.2.2.2.2.2.2.2.2.2.2.2.2.2.2.1, u.2.2.2.2.2.2.2.2.2.2.2.2.2.2.2.2.2.2.2.2.2.2.2.2.2.1, u.2.2.2.2.2.2.2.2.2.2.2.2.2.2.2.2.2.2.2.2.2.2.2.2.2.2.1, u.2.2.2.2.2.2.2.2.2.2.2.2.2.2.2.2.2.2.2.2.2.2.2.2.2.2.2.1, u.2.2.2.2.2.2.2.2.2.2.2.2.2.2.2.2.2.2.2.2.2.2.2.2.2.2.2.2.1, u.2.2.2.2.2.2.2.2.2.2.2.2.2.2.2.2.2.2.2.2.2.2.2.2.2.2.2.2.2)
def Ms_nodes (u : MS) (v : Int32) : MS := (u.1, u.2.1, u.2.2.1, v, u.2.2.2.2.1, u.2.2.2.2.2.1, u.2.2.2.2.2.2.1, u.2.2.2.2.2.2.2.1, u.2.2.2.2.2.2.2.2.1, u.2.2.2.2.2.2.2.2.2.1, u.2.2.2.2.2.2.2.2.2.2.1, u.2.2.2.2.2.2.2.2.2.2.2.1, u.2.2.2.2.2.2.2.2.2.2.2.2.1, u.2.2.2.2.2.2.2.2.2.2.2.2.2.1, u.2.2.2.2.2.2.2.2.2.2.2.2.2.2.1, u.2.2.2.2.2.2.2.2.2.2.2.2.2.2.2.1, u.2.2.2.2.2.2.2.2.2.2.2.2.2.2.2.2.1, u.2.2.2.2.2.2.2.2.2.2.2.2.2.2.2.2.2.1, u.2.2.2.2.2.2.2.2.2.2.2.2.2.2.2.2.2.2.1, u.2.2.2.2.2.2.2.2.2.2.2.2.2.2.2.2.2.2.2.1, u.2.2.2.2.2.2.2.2.2.2.2.2.2.2.2.2.2.2.2.2.1, u.2.2.2.2.2.2.2.2.2.2.2.2.2.2.2.2.2.2.2.2.2.1, u.2.2.2.2.2.2.2.2.2.2.2.2.2.2.2.2.2.2.2.2.2.2.1, u.2.2.2.2.2.2.2.2.2.2.2.2.2.2.2.2.2.2.2.2.2.2.2.1, u.2.2.2.2.2.2.2.2.2.2.2.2.2.2.2.2.2.2.2.2.2.2.2.2.1, u.2.2.2.2.2.2.2.2.2.2.2.2.2.2.2.2.2.2.2.2.2.2.2.2.2.1, u.2.2.2.2.2.2.2.2.2.2.2.2.2.2.2.2.2.2.2.2.2.2.2.2.2.2.1, u.2.2.2.2.2.2.2.2.2.2.2.2.2.2.2.2.2.2.2.2.2.2.2.2.2.2.2.1, u.2.2.2.2.2.2.2.2.2.2.2.2.2.2.2.2.2.2.2.2.2.2.2.2.2.2.2.2.1, u.2.2.2.2.2.2.2.2.2.2.2.2.2.2.2.2.2.2.2.2.2.2.2.2.2.2.2.2.2)
def Ms_names (u : MS) (v : Int32) : MS := (u.1, u.2.1, u.2.2.1, u.2.2.2.1, v, u.2.2.2.2.2.1, u.2.2.2.2.2.2.1, u.2.2.2.2.2.2.2.1, u.2.2.2.2.2.2.2.2.1, u.2.2.2.2.2.2.2.2.2.1, u.2.2.2.2.2.2.2.2.2.2.1, u.2.2.2.2.2.2.2.2.2.2.2.1, u.2.2.2.2.2.2.2.2.2.2.2.2.1, u.2.2.2.2.2.2.2.2.2.2.2.2.2.1, u.2.2.2.2.2.2.2.2.2.2.2.2.2.2.1, u.2.2.2.2.2.2.2.2.2.2.2.2.2.2.2.1, u.2.2.2.2.2.2.2.2.2.2.2.2.2.2.2.2.1, u.2.2.2.2.2.2.2.2.2.2.2.2.2.2.2.2.2.1, u.2.2.2.2.2.2.2.2.2.2.2.2.2.2.2.2.2.2.1, u.2.2.2.2.2.2.2.2.2.2.2.2.2.2.2.2.2.2.2.1, u.2.2.2.2.2.2.2.2.2.2.2.2.2.2.2.2.2.2.2.2.1, u.2.2.2.2.2.2.2.2.2.2.2.2.2.2.2.2.2.2.2.2.2.1, u.2.2.2.2.2.2.2.2.2.2.2.2.2.2.2.2.2.2.2.2.2.2.1, u.2.2.2.2.2.2.2.2.2.2.2.2.2.2.2.2.2.2.2.2.2.2.2.1, u.2.2.2.2.2.2.2.2.2.2.2.2.2.2.2.2.2.2.2.2.2.2.2.2.1, u.2.2.2.2.2.2.2.2.2.2.2.2.2.2.2.2.2.2.2.2.2.2.2.2.2.1, u.2.2.2.2.2.2.2.2.2.2.2.2.2.2.2.2.2.2.2.2.2.2.2.2.2.2.1, u.2.2.2.2.2.2.2.2.2.2.2.2.2.2.2.2.2.2.2.2.2.2.2.2.2.2.2.1, u.2.2.2.2.2.2.2.2.2.2.2.2.2.2.2.2.2.2.2.2.2.2.2.2.2.2.2.2.1, u.2.2.2.2.2.2.2.2.2.2.2.2.2.2.2.2.2.2.2.2.2.2.2.2.2.2.2.2.2)
def Ms_row (u : MS) (v : Int32) : MS := (u.1, u.2.1, u.2.2.1, u.2.2.2.1, u.2.2.2.2.1, v, u.2.2.2.2.2.2.1, u.2.2.2.2.2.2.2.1, u.2.2.2.2.2.2.2.2.1, u.2.2.2.2.2.2.2.2.2.1, u.2.2.2.2.2.2.2.2.2.2.1, u.2.2.2.2.2.2.2.2.2.2.2.1, u.2.2.2.2.2.2.2.2.2.2.2.2.1, u.2.2.2.2.2.2.2.2.2.2.2.2.2.1, u.2.2.2.2.2.2.2.2.2.2.2.2.2.2.1, u.2.2.2.2.2.2.2.2.2.2.2.2.2.2.2.1, u.2.2.2.2.2.2.2.2.2.2.2.2.2.2.2.2.1, u.2.2.2.2.2.2.2.2.2.2.2.2.2.2.2.2.2.1, u.2.2.2.2.2.2.2.2.2.2.2.2.2.2.2.2.2.2.1, u.2.2.2.2.2.2.2.2.2.2.2.2.2.2.2.2.2.2.2.1, u.2.2.2.2.2.2.2.2.2.2.2.2.2.2.2.2.2.2.2.2.1, u.2.2.2.2.2.2.2.2.2.2.2.2.2.2.2.2.2.2.2.2.2.1, u.2.2.2.2.2.2.2.2.2.2.2.2.2.2.2.2.2.2.2.2.2.2.1, u.2.2.2.2.2.2.2.2.2.2.2.2.2.2.2.2.2.2.2.2.2.2.2.1, u.2.2.2.2.2.2.2.2.2.2.2.2.2.2.2.2.2.2.2.2.2.2.2.2.1, u.2.2.2.2.2.2.2.2.2.2.2.2.2.2.2.2.2.2.2.2.2.2.2.2.2.1, u.2.2.2.2.2.2.2.2.2.2.2.2.2.2.2.2.2.2.2.2.2.2.2.2.2.2.1, u.2.2.2.2.2.2.2.2.2.2.2.2.2.2.2.2.2.2.2.2.2.2.2.2.2.2.2.1, u.2.2.2.2.2.2.2.2.2.2.2.2.2.2.2.2.2.2.2.2.2.2.2.2.2.2.2.2.1, u.2.2.2.2.2.2.2.2.2.2.2.2.2.2.2.2.2.2.2.2.2.2.2.2.2.2.2.2.2)
def Ms_subject (u : MS) (v : Int32) : MS := (u.1, u.2.1, u.2.2.1, u.2.2.2.1, u.2.2.2.2.1, u.2.2.2.2.2.1, v, u.2.2.2.2.2.2.2.1, u.2.2.2.2.2.2.2.2.1, u.2.2.2.2.2.2.2.2.2.1, u.2.2.2.2.2.2.2.2.2.2.1, u.2.2.2.2.2.2.2.2.2.2.2.1, u.2.2.2.2.2.2.2.2.2.2.2.2.1, u.2.2.2.2.2.2.2.2.2.2.2.2.2.1, u.2.2.2.2.2.2.2.2.2.2.2.2.2.2.1, u.2.2.2.2.2.2.2.2.2.2.2.2.2.2.2.1, u.2.2.2.2.2.2.2.2.2.2.2.2.2.2.2.2.1, u.2.2.2.2.2.2.2.2.2.2.2.2.2.2.2.2.2.1, u.2.2.2.2.2.2.2.2.2.2.2.2.2.2.2.2.2.2.1, u.2.2.2.2.2.2.2.2.2.2.2.2.2.2.2.2.2.2.2.1, u.2.2.2.2.2.2.2.2.2.2.2.2.2.2.2.2.2.2.2.2.1, u.2.2.2.2.2.2.2.2.2.2.2.2.2.2.2.2.2.2.2.2.2.1, u.2.2.2.2.2.2.2.2.2.2.2.2.2.2.2.2.2.2.2.2.2.2.1, u.2.2.2.2.2.2.2.2.2.2.2.2.2.2.2.2.2.2.2.2.2.2.2.1, u.2.2.2.2.2.2.2.2.2.2.2.2.2.2.2.2.2.2.2.2.2.2.2.2.1, u.2.2.2.2.2.2.2.2.2.2.2.2.2.2.2.2.2.2.2.2.2.2.2.2.2.1, u.2.2.2.2.2.2.2.2.2.2.2.2.2.2.2.2.2.2.2.2.2.2.2.2.2.2.1, u.2.2.2.2.2.2.2.2.2.2.2.2.2.2.2.2.2.2.2.2.2.2.2.2.2.2.2.1, u.2.2.2.2.2.2.2.2.2.2.2.2.2.2.2.2.2.2.2.2.2.2.2.2.2.2.2.2.1, u.2.2.2.2.2.2.2.2.2.2.2.2.2.2.2.2.2.2.2.2.2.2.2.2.2.2.2.2.2)
def Ms_noted (u : MS) (v : Int32) : MS := (u.1, u.2.1, u.2.2.1, u.2.2.2.1, u.2.2.2.2.1, u.2.2.2.2.2.1, u.2.2.2.2.2.2.1, v, u.2.2.2.2.2.2.2.2.1, u.2.2.2.2.2.2.2.2.2.1, u.2.2.2.2.2.2.2.2.2.2.1, u.2.2.2.2.2.2.2.2.2.2.2.1, u.2.2.2.2.2.2.2.2.2.2.2.2.1, u.2.2.2.2.2.2.2.2.2.2.2.2.2.1, u.2.2.2.2.2.2.2.2.2.2.2.2.2.2.1, u.2.2.2.2.2.2.2.2.2.2.2.2.2.2.2.1, u.2.2.2.2.2.2.2.2.2.2.2.2.2.2.2.2.1, u.2.2.2.2.2.2.2.2.2.2.2.2.2.2.2.2.2.1, u.2.2.2.2.2.2.2.2.2.2.2.2.2.2.2.2.2.2.1, u.2.2.2.2.2.2.2.2.2.2.2.2.2.2.2.2.2.2.2.1, u.2.2.2.2.2.2.2.2.2.2.2.2.2.2.2.2.2.2.2.2.1, u.2.2.2.2.2.2.2.2.2.2.2.2.2.2.2.2.2.2.2.2.2.1, u.2.2.2.2.2.2.2.2.2.2.2.2.2.2.2.2.2.2.2.2.2.2.1, u.2.2.2.2.2.2.2.2.2.2.2.2.2.2.2.2.2.2.2.2.2.2.2.1, u.2.2.2.2.2.2.2.2.2.2.2.2.2.2.2.2.2.2.2.2.2.2.2.2.1, u.2.2.2.2.2.2.2.2.2.2.2.2.2.2.2.2.2.2.2.2.2.2.2.2.2.1, u.2.2.2.2.2.2.2.2.2.2.2.2.2.2.2.2.2.2.2.2.2.2.2.2.2.2.1, u.2.2.2.2.2.2.2.2.2.2.2.2.2.2.2.2.2.2.2.2.2.2.2.2.2.2.2.1, u.2.2.2.2.2.2.2.2.2.2.2.2.2.2.2.2.2.2.2.2.2.2.2.2.2.2.2.2.1, u.2.2.2.2.2.2.2.2.2.2.2.2.2.2.2.2.2.2.2.2.2.2.2.2.2.2.2.2.2)
def Ms_fault (u : MS) (v : Int32) : MS := (u.1, u.2.1, u.2.2.1, u.2.2.2.1, u.2.2.2.2.1, u.2.2.2.2.2.1, u.2.2.2.2.2.2.1, u.2.2.2.2.2.2.2.1, v, u.2.2.2.2.2.2.2.2.2.1, u.2.2.2.2.2.2.2.2.2.2.1, u.2.2.2.2.2.2.2.2.2.2.2.1, u.2.2.2.2.2.2.2.2.2.2.2.2.1, u.2.2.2.2.2.2.2.2.2.2.2.2.2.1, u.2.2.2.2.2.2.2.2.2.2.2.2.2.2.1, u.2.2.2.2.2.2.2.2.2.2.2.2.2.2.2.1, u.2.2.2.2.2.2.2.2.2.2.2.2.2.2.2.2.1, u.2.2.2.2.2.2.2.2.2.2.2.2.2.2.2.2.2.1, u.2.2.2.2.2.2.2.2.2.2.2.2.2.2.2.2.2.2.1, u.2.2.2.2.2.2.2.2.2.2.2.2.2.2.2.2.2.2.2.1, u.2.2.2.2.2.2.2.2.2.2.2.2.2.2.2.2.2.2.2.2.1, u.2.2.2.2.2.2.2.2.2.2.2.2.2.2.2.2.2.2.2.2.2.1, u.2.2.2.2.2.2.2.2.2.2.2.2.2.2.2.2.2.2.2.2.2.2.1, u.2.2.2.2.2.2.2.2.2.2.2.2.2.2.2.2.2.2.2.2.2.2.2.1, u.2.2.2.2.2.2.2.2.2.2.2.2.2.2.2.2.2.2.2.2.2.2.2.2.1, u.2.2.2.2.2.2.2.2.2.2.2.2.2.2.2.2.2.2.2.2.2.2.2.2.2.1, u.2.2.2.2.2.2.2.2.2.2.2.2.2.2.2.2.2.2.2.2.2.2.2.2.2.2.1, u.2.2.2.2.2.2.2.2.2.2.2.2.2.2.2.2.2.2.2.2.2.2.2.2.2.2.2.1, u.2.2.2.2.2.2.2.2.2.2.2.2.2.2.2.2.2.2.2.2.2.2.2.2.2.2.2.2.1, u.2.2.2.2.2.2.2.2.2.2.2.2.2.2.2.2.2.2.2.2.2.2.2.2.2.2.2.2.2)
def Ms_bytes (u : MS) (v : Nat → Int32) : MS := (u.1, u.2.1, u.2.2.1, u.2.2.2.1, u.2.2.2.2.1, u.2.2.2.2.2.1, u.2.2.2.2.2.2.1, u.2.2.2.2.2.2.2.1, u.2.2.2.2.2.2.2.2.1, v, u.2.2.2.2.2.2.2.2.2.2.1, u.2.2.2.2.2.2.2.2.2.2.2.1, u.2.2.2.2.2.2.2.2.2.2.2.2.1, u.2.2.2.2.2.2.2.2.2.2.2.2.2.1, u.2.2.2.2.2.2.2.2.2.2.2.2.2.2.1, u.2.2.2.2.2.2.2.2.2.2.2.2.2.2.2.1, u.2.2.2.2.2.2.2.2.2.2.2.2.2.2.2.2.1, u.2.2.2.2.2.2.2.2.2.2.2.2.2.2.2.2.2.1, u.2.2.2.2.2.2.2.2.2.2.2.2.2.2.2.2.2.2.1, u.2.2.2.2.2.2.2.2.2.2.2.2.2.2.2.2.2.2.2.1, u.2.2.2.2.2.2.2.2.2.2.2.2.2.2.2.2.2.2.2.2.1, u.2.2.2.2.2.2.2.2.2.2.2.2.2.2.2.2.2.2.2.2.2.1, u.2.2.2.2.2.2.2.2.2.2.2.2.2.2.2.2.2.2.2.2.2.2.1, u.2.2.2.2.2.2.2.2.2.2.2.2.2.2.2.2.2.2.2.2.2.2.2.1, u.2.2.2.2.2.2.2.2.2.2.2.2.2.2.2.2.2.2.2.2.2.2.2.2.1, u.2.2.2.2.2.2.2.2.2.2.2.2.2.2.2.2.2.2.2.2.2.2.2.2.2.1, u.2.2.2.2.2.2.2.2.2.2.2.2.2.2.2.2.2.2.2.2.2.2.2.2.2.2.1, u.2.2.2.2.2.2.2.2.2.2.2.2.2.2.2.2.2.2.2.2.2.2.2.2.2.2.2.1, u.2.2.2.2.2.2.2.2.2.2.2.2.2.2.2.2.2.2.2.2.2.2.2.2.2.2.2.2.1, u.2.2.2.2.2.2.2.2.2.2.2.2.2.2.2.2.2.2.2.2.2.2.2.2.2.2.2.2.2)
def Ms_categories (u : MS) (v : Nat → Int32) : MS := (u.1, u.2.1, u.2.2.1, u.2.2.2.1, u.2.2.2.2.1, u.2.2.2.2.2.1, u.2.2.2.2.2.2.1, u.2.2.2.2.2.2.2.1, u.2.2.2.2.2.2.2.2.1, u.2.2.2.2.2.2.2.2.2.1, v, u.2.2.2.2.2.2.2.2.2.2.2.1, u.2.2.2.2.2.2.2.2.2.2.2.2.1, u.2.2.2.2.2.2.2.2.2.2.2.2.2.1, u.2.2.2.2.2.2.2.2.2.2.2.2.2.2.1, u.2.2.2.2.2.2.2.2.2.2.2.2.2.2.2.1, u.2.2.2.2.2.2.2.2.2.2.2.2.2.2.2.2.1, u.2.2.2.2.2.2.2.2.2.2.2.2.2.2.2.2.2.1, u.2.2.2.2.2.2.2.2.2.2.2.2.2.2.2.2.2.2.1, u.2.2.2.2.2.2.2.2.2.2.2.2.2.2.2.2.2.2.2.1, u.2.2.2.2.2.2.2.2.2.2.2.2.2.2.2.2.2.2.2.2.1, u.2.2.2.2.2.2.2.2.2.2.2.2.2.2.2.2.2.2.2.2.2.1, u.2.2.2.2.2.2.2.2.2.2.2.2.2.2.2.2.2.2.2.2.2.2.1, u.2.2.2.2.2.2.2.2.2.2.2.2.2.2.2.2.2.2.2.2.2.2.2.1, u.2.2.2.2.2.2.2.2.2.2.2.2.2.2.2.2.2.2.2.2.2.2.2.2.1, u.2.2.2.2.2.2.2.2.2.2.2.2.2.2.2.2.2.2.2.2.2.2.2.2.2.1, u.2.2.2.2.2.2.2.2.2.2.2.2.2.2.2.2.2.2.2.2.2.2.2.2.2.2.1, u.2.2.2.2.2.2.2.2.2.2.2.2.2.2.2.2.2.2.2.2.2.2.2.2.2.2.2.1, u.2.2.2.2.2.2.2.2.2.2.2.2.2.2.2.2.2.2.2.2.2.2.2.2.2.2.2.2.1, u.2.2.2.2.2.2.2.2.2.2.2.2.2.2.2.2.2.2.2.2.2.2.2.2.2.2.2.2.2)
def Ms_sizes (u : MS) (v : Nat → Int32) : MS := (u.1, u.2.1, u.2.2.1, u.2.2.2.1, u.2.2.2.2.1, u.2.2.2.2.2.1, u.2.2.2.2.2.2.1, u.2.2.2.2.2.2.2.1, u.2.2.2.2.2.2.2.2.1, u.2.2.2.2.2.2.2.2.2.1, u.2.2.2.2.2.2.2.2.2.2.1, v, u.2.2.2.2.2.2.2.2.2.2.2.2.1, u.2.2.2.2.2.2.2.2.2.2.2.2.2.1, u.2.2.2.2.2.2.2.2.2.2.2.2.2.2.1, u.2.2.2.2.2.2.2.2.2.2.2.2.2.2.2.1, u.2.2.2.2.2.2.2.2.2.2.2.2.2.2.2.2.1, u.2.2.2.2.2.2.2.2.2.2.2.2.2.2.2.2.2.1, u.2.2.2.2.2.2.2.2.2.2.2.2.2.2.2.2.2.2.1, u.2.2.2.2.2.2.2.2.2.2.2.2.2.2.2.2.2.2.2.1, u.2.2.2.2.2.2.2.2.2.2.2.2.2.2.2.2.2.2.2.2.1, u.2.2.2.2.2.2.2.2.2.2.2.2.2.2.2.2.2.2.2.2.2.1, u.2.2.2.2.2.2.2.2.2.2.2.2.2.2.2.2.2.2.2.2.2.2.1, u.2.2.2.2.2.2.2.2.2.2.2.2.2.2.2.2.2.2.2.2.2.2.2.1, u.2.2.2.2.2.2.2.2.2.2.2.2.2.2.2.2.2.2.2.2.2.2.2.2.1, u.2.2.2.2.2.2.2.2.2.2.2.2.2.2.2.2.2.2.2.2.2.2.2.2.2.1, u.2.2.2.2.2.2.2.2.2.2.2.2.2.2.2.2.2.2.2.2.2.2.2.2.2.2.1, u.2.2.2.2.2.2.2.2.2.2.2.2.2.2.2.2.2.2.2.2.2.2.2.2.2.2.2.1, u.2.2.2.2.2.2.2.2.2.2.2.2.2.2.2.2.2.2.2.2.2.2.2.2.2.2.2.2.1, u.2.2.2.2.2.2.2.2.2.2.2.2.2.2.2.2.2.2.2.2.2.2.2.2.2.2.2.2.2)
def Ms_scales (u : MS) (v : Nat → Int32) : MS := (u.1, u.2.1, u.2.2.1, u.2.2.2.1, u.2.2.2.2.1, u.2.2.2.2.2.1, u.2.2.2.2.2.2.1, u.2.2.2.2.2.2.2.1, u.2.2.2.2.2.2.2.2.1, u.2.2.2.2.2.2.2.2.2.1, u.2.2.2.2.2.2.2.2.2.2.1, u.2.2.2.2.2.2.2.2.2.2.2.1, v, u.2.2.2.2.2.2.2.2.2.2.2.2.2.1, u.2.2.2.2.2.2.2.2.2.2.2.2.2.2.1, u.2.2.2.2.2.2.2.2.2.2.2.2.2.2.2.1, u.2.2.2.2.2.2.2.2.2.2.2.2.2.2.2.2.1, u.2.2.2.2.2.2.2.2.2.2.2.2.2.2.2.2.2.1, u.2.2.2.2.2.2.2.2.2.2.2.2.2.2.2.2.2.2.1, u.2.2.2.2.2.2.2.2.2.2.2.2.2.2.2.2.2.2.2.1, u.2.2.2.2.2.2.2.2.2.2.2.2.2.2.2.2.2.2.2.2.1, u.2.2.2.2.2.2.2.2.2.2.2.2.2.2.2.2.2.2.2.2.2.1, u.2.2.2.2.2.2.2.2.2.2.2.2.2.2.2.2.2.2.2.2.2.2.1, u.2.2.2.2.2.2.2.2.2.2.2.2.2.2.2.2.2.2.2.2.2.2.2.1, u.2.2.2.2.2.2.2.2.2.2.2.2.2.2.2.2.2.2.2.2.2.2.2.2.1, u.2.2.2.2.2.2.2.2.2.2.2.2.2.2.2.2.2.2.2.2.2.2.2.2.2.1, u.2.2.2.2.2.2.2.2.2.2.2.2.2.2.2.2.2.2.2.2.2.2.2.2.2.2.1, u.2.2.2.2.2.2.2.2.2.2.2.2.2.2.2.2.2.2.2.2.2.2.2.2.2.2.2.1, u.2.2.2.2.2.2.2.2.2.2.2.2.2.2.2.2.2.2.2.2.2.2.2.2.2.2.2.2.1, u.2.2.2.2.2.2.2.2.2.2.2.2.2.2.2.2.2.2.2.2.2.2.2.2.2.2.2.2.2)
def Ms_weights (u : MS) (v : Nat → Int32) : MS := (u.1, u.2.1, u.2.2.1, u.2.2.2.1, u.2.2.2.2.1, u.2.2.2.2.2.1, u.2.2.2.2.2.2.1, u.2.2.2.2.2.2.2.1, u.2.2.2.2.2.2.2.2.1, u.2.2.2.2.2.2.2.2.2.1, u.2.2.2.2.2.2.2.2.2.2.1, u.2.2.2.2.2.2.2.2.2.2.2.1, u.2.2.2.2.2.2.2.2.2.2.2.2.1, v, u.2.2.2.2.2.2.2.2.2.2.2.2.2.2.1, u.2.2.2.2.2.2.2.2.2.2.2.2.2.2.2.1, u.2.2.2.2.2.2.2.2.2.2.2.2.2.2.2.2.1, u.2.2.2.2.2.2.2.2.2.2.2.2.2.2.2.2.2.1, u.2.2.2.2.2.2.2.2.2.2.2.2.2.2.2.2.2.2.1, u.2.2.2.2.2.2.2.2.2.2.2.2.2.2.2.2.2.2.2.1, u.2.2.2.2.2.2.2.2.2.2.2.2.2.2.2.2.2.2.2.2.1, u.2.2.2.2.2.2.2.2.2.2.2.2.2.2.2.2.2.2.2.2.2.1, u.2.2.2.2.2.2.2.2.2.2.2.2.2.2.2.2.2.2.2.2.2.2.1, u.2.2.2.2.2.2.2.2.2.2.2.2.2.2.2.2.2.2.2.2.2.2.2.1, u.2.2.2.2.2.2.2.2.2.2.2.2.2.2.2.2.2.2.2.2.2.2.2.2.1, u.2.2.2.2.2.2.2.2.2.2.2.2.2.2.2.2.2.2.2.2.2.2.2.2.2.1, u.2.2.2.2.2.2.2.2.2.2.2.2.2.2.2.2.2.2.2.2.2.2.2.2.2.2.1, u.2.2.2.2.2.2.2.2.2.2.2.2.2.2.2.2.2.2.2.2.2.2.2.2.2.2.2.1, u.2.2.2.2.2.2.2.2.2.2.2.2.2.2.2.2.2.2.2.2.2.2.2.2.2.2.2.2.1, u.2.2.2.2.2.2.2.2.2.2.2.2.2.2.2.2.2.2.2.2.2.2.2.2.2.2.2.2.2)
def Ms_ops (u : MS) (v : Nat → Int32) : MS := (u.1, u.2.1, u.2.2.1, u.2.2.2.1, u.2.2.2.2.1, u.2.2.2.2.2.1, u.2.2.2.2.2.2.1, u.2.2.2.2.2.2.2.1, u.2.2.2.2.2.2.2.2.1, u.2.2.2.2.2.2.2.2.2.1, u.2.2.2.2.2.2.2.2.2.2.1, u.2.2.2.2.2.2.2.2.2.2.2.1, u.2.2.2.2.2.2.2.2.2.2.2.2.1, u.2.2.2.2.2.2.2.2.2.2.2.2.2.1, v, u.2.2.2.2.2.2.2.2.2.2.2.2.2.2.2.1, u.2.2.2.2.2.2.2.2.2.2.2.2.2.2.2.2.1, u.2.2.2.2.2.2.2.2.2.2.2.2.2.2.2.2.2.1, u.2.2.2.2.2.2.2.2.2.2.2.2.2.2.2.2.2.2.1, u.2.2.2.2.2.2.2.2.2.2.2.2.2.2.2.2.2.2.2.1, u.2.2.2.2.2.2.2.2.2.2.2.2.2.2.2.2.2.2.2.2.1, u.2.2.2.2.2.2.2.2.2.2.2.2.2.2.2.2.2.2.2.2.2.1, u.2.2.2.2.2.2.2.2.2.2.2.2.2.2.2.2.2.2.2.2.2.2.1, u.2.2.2.2.2.2.2.2.2.2.2.2.2.2.2.2.2.2.2.2.2.2.2.1, u.2.2.2.2.2.2.2.2.2.2.2.2.2.2.2.2.2.2.2.2.2.2.2.2.1, u.2.2.2.2.2.2.2.2.2.2.2.2.2.2.2.2.2.2.2.2.2.2.2.2.2.1, u.2.2.2.2.2.2.2.2.2.2.2.2.2.2.2.2.2.2.2.2.2.2.2.2.2.2.1, u.2.2.2.2.2.2.2.2.2.2.2.2.2.2.2.2.2.2.2.2.2.2.2.2.2.2.2.1, u.2.2.2.2.2.2.2.2.2.2.2.2.2.2.2.2.2.2.2.2.2.2.2.2.2.2.2.2.1, u.2.2.2.2.2.2.2.2.2.2.2.2.2.2.2.2.2.2.2.2.2.2.2.2.2.2.2.2.2)
def Ms_as (u : MS) (v : Nat → Int32) : MS := (u.1, u.2.1, u.2.2.1, u.2.2.2.1, u.2.2.2.2.1, u.2.2.2.2.2.1, u.2.2.2.2.2.2.1, u.2.2.2.2.2.2.2.1, u.2.2.2.2.2.2.2.2.1, u.2.2.2.2.2.2.2.2.2.1, u.2.2.2.2.2.2.2.2.2.2.1, u.2.2.2.2.2.2.2.2.2.2.2.1, u.2.2.2.2.2.2.2.2.2.2.2.2.1, u.2.2.2.2.2.2.2.2.2.2.2.2.2.1, u.2.2.2.2.2.2.2.2.2.2.2.2.2.2.1, v, u.2.2.2.2.2.2.2.2.2.2.2.2.2.2.2.2.1, u.2.2.2.2.2.2.2.2.2.2.2.2.2.2.2.2.2.1, u.2.2.2.2.2.2.2.2.2.2.2.2.2.2.2.2.2.2.1, u.2.2.2.2.2.2.2.2.2.2.2.2.2.2.2.2.2.2.2.1, u.2.2.2.2.2.2.2.2.2.2.2.2.2.2.2.2.2.2.2.2.1, u.2.2.2.2.2.2.2.2.2.2.2.2.2.2.2.2.2.2.2.2.2.1, u.2.2.2.2.2.2.2.2.2.2.2.2.2.2.2.2.2.2.2.2.2.2.1, u.2.2.2.2.2.2.2.2.2.2.2.2.2.2.2.2.2.2.2.2.2.2.2.1, u.2.2.2.2.2.2.2.2.2.2.2.2.2.2.2.2.2.2.2.2.2.2.2.2.1, u.2.2.2.2.2.2.2.2.2.2.2.2.2.2.2.2.2.2.2.2.2.2.2.2.2.1, u.2.2.2.2.2.2.2.2.2.2.2.2.2.2.2.2.2.2.2.2.2.2.2.2.2.2.1, u.2.2.2.2.2.2.2.2.2.2.2.2.2.2.2.2.2.2.2.2.2.2.2.2.2.2.2.1, u.2.2.2.2.2.2.2.2.2.2.2.2.2.2.2.2.2.2.2.2.2.2.2.2.2.2.2.2.1, u.2.2.2.2.2.2.2.2.2.2.2.2.2.2.2.2.2.2.2.2.2.2.2.2.2.2.2.2.2)
def Ms_bs (u : MS) (v : Nat → Int32) : MS := (u.1, u.2.1, u.2.2.1, u.2.2.2.1, u.2.2.2.2.1, u.2.2.2.2.2.1, u.2.2.2.2.2.2.1, u.2.2.2.2.2.2.2.1, u.2.2.2.2.2.2.2.2.1, u.2.2.2.2.2.2.2.2.2.1, u.2.2.2.2.2.2.2.2.2.2.1, u.2.2.2.2.2.2.2.2.2.2.2.1, u.2.2.2.2.2.2.2.2.2.2.2.2.1, u.2.2.2.2.2.2.2.2.2.2.2.2.2.1, u.2.2.2.2.2.2.2.2.2.2.2.2.2.2.1, u.2.2.2.2.2.2.2.2.2.2.2.2.2.2.2.1, v, u.2.2.2.2.2.2.2.2.2.2.2.2.2.2.2.2.2.1, u.2.2.2.2.2.2.2.2.2.2.2.2.2.2.2.2.2.2.1, u.2.2.2.2.2.2.2.2.2.2.2.2.2.2.2.2.2.2.2.1, u.2.2.2.2.2.2.2.2.2.2.2.2.2.2.2.2.2.2.2.2.1, u.2.2.2.2.2.2.2.2.2.2.2.2.2.2.2.2.2.2.2.2.2.1, u.2.2.2.2.2.2.2.2.2.2.2.2.2.2.2.2.2.2.2.2.2.2.1, u.2.2.2.2.2.2.2.2.2.2.2.2.2.2.2.2.2.2.2.2.2.2.2.1, u.2.2.2.2.2.2.2.2.2.2.2.2.2.2.2.2.2.2.2.2.2.2.2.2.1, u.2.2.2.2.2.2.2.2.2.2.2.2.2.2.2.2.2.2.2.2.2.2.2.2.2.1, u.2.2.2.2.2.2.2.2.2.2.2.2.2.2.2.2.2.2.2.2.2.2.2.2.2.2.1, u.2.2.2.2.2.2.2.2.2.2.2.2.2.2.2.2.2.2.2.2.2.2.2.2.2.2.2.1, u.2.2.2.2.2.2.2.2.2.2.2.2.2.2.2.2.2.2.2.2.2.2.2.2.2.2.2.2.1, u.2.2.2.2.2.2.2.2.2.2.2.2.2.2.2.2.2.2.2.2.2.2.2.2.2.2.2.2.2)
def Ms_nameFields (u : MS) (v : Nat → Int32) : MS := (u.1, u.2.1, u.2.2.1, u.2.2.2.1, u.2.2.2.2.1, u.2.2.2.2.2.1, u.2.2.2.2.2.2.1, u.2.2.2.2.2.2.2.1, u.2.2.2.2.2.2.2.2.1, u.2.2.2.2.2.2.2.2.2.1, u.2.2.2.2.2.2.2.2.2.2.1, u.2.2.2.2.2.2.2.2.2.2.2.1, u.2.2.2.2.2.2.2.2.2.2.2.2.1, u.2.2.2.2.2.2.2.2.2.2.2.2.2.1, u.2.2.2.2.2.2.2.2.2.2.2.2.2.2.1, u.2.2.2.2.2.2.2.2.2.2.2.2.2.2.2.1, u.2.2.2.2.2.2.2.2.2.2.2.2.2.2.2.2.1, v, u.2.2.2.2.2.2.2.2.2.2.2.2.2.2.2.2.2.2.1, u.2.2.2.2.2.2.2.2.2.2.2.2.2.2.2.2.2.2.2.1, u.2.2.2.2.2.2.2.2.2.2.2.2.2.2.2.2.2.2.2.2.1, u.2.2.2.2.2.2.2.2.2.2.2.2.2.2.2.2.2.2.2.2.2.1, u.2.2.2.2.2.2.2.2.2.2.2.2.2.2.2.2.2.2.2.2.2.2.1, u.2.2.2.2.2.2.2.2.2.2.2.2.2.2.2.2.2.2.2.2.2.2.2.1, u.2.2.2.2.2.2.2.2.2.2.2.2.2.2.2.2.2.2.2.2.2.2.2.2.1, u.2.2.2.2.2.2.2.2.2.2.2.2.2.2.2.2.2.2.2.2.2.2.2.2.2.1, u.2.2.2.2.2.2.2.2.2.2.2.2.2.2.2.2.2.2.2.2.2.2.2.2.2.2.1, u.2.2.2.2.2.2.2.2.2.2.2.2.2.2.2.2.2.2.2.2.2.2.2.2.2.2.2.1, u.2.2.2.2.2.2.2.2.2.2.2.2.2.2.2.2.2.2.2.2.2.2.2.2.2.2.2.2.1, u.2.2.2.2.2.2.2.2.2.2.2.2.2.2.2.2.2.2.2.2.2.2.2.2.2.2.2.2.2)
def Ms_ranges (u : MS) (v : Nat → Int32) : MS := (u.1, u.2.1, u.2.2.1, u.2.2.2.1, u.2.2.2.2.1, u.2.2.2.2.2.1, u.2.2.2.2.2.2.1, u.2.2.2.2.2.2.2.1, u.2.2.2.2.2.2.2.2.1, u.2.2.2.2.2.2.2.2.2.1, u.2.2.2.2.2.2.2.2.2.2.1, u.2.2.2.2.2.2.2.2.2.2.2.1, u.2.2.2.2.2.2.2.2.2.2.2.2.1, u.2.2.2.2.2.2.2.2.2.2.2.2.2.1, u.2.2.2.2.2.2.2.2.2.2.2.2.2.2.1, u.2.2.2.2.2.2.2.2.2.2.2.2.2.2.2.1, u.2.2.2.2.2.2.2.2.2.2.2.2.2.2.2.2.1, u.2.2.2.2.2.2.2.2.2.2.2.2.2.2.2.2.2.1, v, u.2.2.2.2.2.2.2.2.2.2.2.2.2.2.2.2.2.2.2.1, u.2.2.2.2.2.2.2.2.2.2.2.2.2.2.2.2.2.2.2.2.1, u.2.2.2.2.2.2.2.2.2.2.2.2.2.2.2.2.2.2.2.2.2.1, u.2.2.2.2.2.2.2.2.2.2.2.2.2.2.2.2.2.2.2.2.2.2.1, u.2.2.2.2.2.2.2.2.2.2.2.2.2.2.2.2.2.2.2.2.2.2.2.1, u.2.2.2.2.2.2.2.2.2.2.2.2.2.2.2.2.2.2.2.2.2.2.2.2.1, u.2.2.2.2.2.2.2.2.2.2.2.2.2.2.2.2.2.2.2.2.2.2.2.2.2.1, u.2.2.2.2.2.2.2.2.2.2.2.2.2.2.2.2.2.2.2.2.2.2.2.2.2.2.1, u.2.2.2.2.2.2.2.2.2.2.2.2.2.2.2.2.2.2.2.2.2.2.2.2.2.2.2.1, u.2.2.2.2.2.2.2.2.2.2.2.2.2.2.2.2.2.2.2.2.2.2.2.2.2.2.2.2.1, u.2.2.2.2.2.2.2.2.2.2.2.2.2.2.2.2.2.2.2.2.2.2.2.2.2.2.2.2.2)
def Ms_lows (u : MS) (v : Nat → Int64) : MS := (u.1, u.2.1, u.2.2.1, u.2.2.2.1, u.2.2.2.2.1, u.2.2.2.2.2.1, u.2.2.2.2.2.2.1, u.2.2.2.2.2.2.2.1, u.2.2.2.2.2.2.2.2.1, u.2.2.2.2.2.2.2.2.2.1, u.2.2.2.2.2.2.2.2.2.2.1, u.2.2.2.2.2.2.2.2.2.2.2.1, u.2.2.2.2.2.2.2.2.2.2.2.2.1, u.2.2.2.2.2.2.2.2.2.2.2.2.2.1, u.2.2.2.2.2.2.2.2.2.2.2.2.2.2.1, u.2.2.2.2.2.2.2.2.2.2.2.2.2.2.2.1, u.2.2.2.2.2.2.2.2.2.2.2.2.2.2.2.2.1, u.2.2.2.2.2.2.2.2.2.2.2.2.2.2.2.2.2.1, u.2.2.2.2.2.2.2.2.2.2.2.2.2.2.2.2.2.2.1, v, u.2.2.2.2.2.2.2.2.2.2.2.2.2.2.2.2.2.2.2.2.1, u.2.2.2.2.2.2.2.2.2.2.2.2.2.2.2.2.2.2.2.2.2.1, u.2.2.2.2.2.2.2.2.2.2.2.2.2.2.2.2.2.2.2.2.2.2.1, u.2.2.2.2.2.2.2.2.2.2.2.2.2.2.2.2.2.2.2.2.2.2.2.1, u.2.2.2.2.2.2.2.2.2.2.2.2.2.2.2.2.2.2.2.2.2.2.2.2.1, u.2.2.2.2.2.2.2.2.2.2.2.2.2.2.2.2.2.2.2.2.2.2.2.2.2.1, u.2.2.2.2.2.2.2.2.2.2.2.2.2.2.2.2.2.2.2.2.2.2.2.2.2.2.1, u.2.2.2.2.2.2.2.2.2.2.2.2.2.2.2.2.2.2.2.2.2.2.2.2.2.2.2.1, u.2.2.2.2.2.2.2.2.2.2.2.2.2.2.2.2.2.2.2.2.2.2.2.2.2.2.2.2.1, u.2.2.2.2.2.2.2.2.2.2.2.2.2.2.2.2.2.2.2.2.2.2.2.2.2.2.2.2.2)
def Ms_highs (u : MS) (v : Nat → Int64) : MS := (u.1, u.2.1, u.2.2.1, u.2.2.2.1, u.2.2.2.2.1, u.2.2.2.2.2.1, u.2.2.2.2.2.2.1, u.2.2.2.2.2.2.2.1, u.2.2.2.2.2.2.2.2.1, u.2.2.2.2.2.2.2.2.2.1, u.2.2.2.2.2.2.2.2.2.2.1, u.2.2.2.2.2.2.2.2.2.2.2.1, u.2.2.2.2.2.2.2.2.2.2.2.2.1, u.2.2.2.2.2.2.2.2.2.2.2.2.2.1, u.2.2.2.2.2.2.2.2.2.2.2.2.2.2.1, u.2.2.2.2.2.2.2.2.2.2.2.2.2.2.2.1, u.2.2.2.2.2.2.2.2.2.2.2.2.2.2.2.2.1, u.2.2.2.2.2.2.2.2.2.2.2.2.2.2.2.2.2.1, u.2.2.2.2.2.2.2.2.2.2.2.2.2.2.2.2.2.2.1, u.2.2.2.2.2.2.2.2.2.2.2.2.2.2.2.2.2.2.2.1, v, u.2.2.2.2.2.2.2.2.2.2.2.2.2.2.2.2.2.2.2.2.2.1, u.2.2.2.2.2.2.2.2.2.2.2.2.2.2.2.2.2.2.2.2.2.2.1, u.2.2.2.2.2.2.2.2.2.2.2.2.2.2.2.2.2.2.2.2.2.2.2.1, u.2.2.2.2.2.2.2.2.2.2.2.2.2.2.2.2.2.2.2.2.2.2.2.2.1, u.2.2.2.2.2.2.2.2.2.2.2.2.2.2.2.2.2.2.2.2.2.2.2.2.2.1, u.2.2.2.2.2.2.2.2.2.2.2.2.2.2.2.2.2.2.2.2.2.2.2.2.2.2.1, u.2.2.2.2.2.2.2.2.2.2.2.2.2.2.2.2.2.2.2.2.2.2.2.2.2.2.2.1, u.2.2.2.2.2.2.2.2.2.2.2.2.2.2.2.2.2.2.2.2.2.2.2.2.2.2.2.2.1, u.2.2.2.2.2.2.2.2.2.2.2.2.2.2.2.2.2.2.2.2.2.2.2.2.2.2.2.2.2)
def Ms_switches (u : MS) (v : Nat → Int32) : MS := (u.1, u.2.1, u.2.2.1, u.2.2.2.1, u.2.2.2.2.1, u.2.2.2.2.2.1, u.2.2.2.2.2.2.1, u.2.2.2.2.2.2.2.1, u.2.2.2.2.2.2.2.2.1, u.2.2.2.2.2.2.2.2.2.1, u.2.2.2.2.2.2.2.2.2.2.1, u.2.2.2.2.2.2.2.2.2.2.2.1, u.2.2.2.2.2.2.2.2.2.2.2.2.1, u.2.2.2.2.2.2.2.2.2.2.2.2.2.1, u.2.2.2.2.2.2.2.2.2.2.2.2.2.2.1, u.2.2.2.2.2.2.2.2.2.2.2.2.2.2.2.1, u.2.2.2.2.2.2.2.2.2.2.2.2.2.2.2.2.1, u.2.2.2.2.2.2.2.2.2.2.2.2.2.2.2.2.2.1, u.2.2.2.2.2.2.2.2.2.2.2.2.2.2.2.2.2.2.1, u.2.2.2.2.2.2.2.2.2.2.2.2.2.2.2.2.2.2.2.1, u.2.2.2.2.2.2.2.2.2.2.2.2.2.2.2.2.2.2.2.2.1, v, u.2.2.2.2.2.2.2.2.2.2.2.2.2.2.2.2.2.2.2.2.2.2.1, u.2.2.2.2.2.2.2.2.2.2.2.2.2.2.2.2.2.2.2.2.2.2.2.1, u.2.2.2.2.2.2.2.2.2.2.2.2.2.2.2.2.2.2.2.2.2.2.2.2.1, u.2.2.2.2.2.2.2.2.2.2.2.2.2.2.2.2.2.2.2.2.2.2.2.2.2.1, u.2.2.2.2.2.2.2.2.2.2.2.2.2.2.2.2.2.2.2.2.2.2.2.2.2.2.1, u.2.2.2.2.2.2.2.2.2.2.2.2.2.2.2.2.2.2.2.2.2.2.2.2.2.2.2.1, u.2.2.2.2.2.2.2.2.2.2.2.2.2.2.2.2.2.2.2.2.2.2.2.2.2.2.2.2.1, u.2.2.2.2.2.2.2.2.2.2.2.2.2.2.2.2.2.2.2.2.2.2.2.2.2.2.2.2.2)
def Ms_ways (u : MS) (v : Nat → Int32) : MS := (u.1, u.2.1, u.2.2.1, u.2.2.2.1, u.2.2.2.2.1, u.2.2.2.2.2.1, u.2.2.2.2.2.2.1, u.2.2.2.2.2.2.2.1, u.2.2.2.2.2.2.2.2.1, u.2.2.2.2.2.2.2.2.2.1, u.2.2.2.2.2.2.2.2.2.2.1, u.2.2.2.2.2.2.2.2.2.2.2.1, u.2.2.2.2.2.2.2.2.2.2.2.2.1, u.2.2.2.2.2.2.2.2.2.2.2.2.2.1, u.2.2.2.2.2.2.2.2.2.2.2.2.2.2.1, u.2.2.2.2.2.2.2.2.2.2.2.2.2.2.2.1, u.2.2.2.2.2.2.2.2.2.2.2.2.2.2.2.2.1, u.2.2.2.2.2.2.2.2.2.2.2.2.2.2.2.2.2.1, u.2.2.2.2.2.2.2.2.2.2.2.2.2.2.2.2.2.2.1, u.2.2.2.2.2.2.2.2.2.2.2.2.2.2.2.2.2.2.2.1, u.2.2.2.2.2.2.2.2.2.2.2.2.2.2.2.2.2.2.2.2.1, u.2.2.2.2.2.2.2.2.2.2.2.2.2.2.2.2.2.2.2.2.2.1, v, u.2.2.2.2.2.2.2.2.2.2.2.2.2.2.2.2.2.2.2.2.2.2.2.1, u.2.2.2.2.2.2.2.2.2.2.2.2.2.2.2.2.2.2.2.2.2.2.2.2.1, u.2.2.2.2.2.2.2.2.2.2.2.2.2.2.2.2.2.2.2.2.2.2.2.2.2.1, u.2.2.2.2.2.2.2.2.2.2.2.2.2.2.2.2.2.2.2.2.2.2.2.2.2.2.1, u.2.2.2.2.2.2.2.2.2.2.2.2.2.2.2.2.2.2.2.2.2.2.2.2.2.2.2.1, u.2.2.2.2.2.2.2.2.2.2.2.2.2.2.2.2.2.2.2.2.2.2.2.2.2.2.2.2.1, u.2.2.2.2.2.2.2.2.2.2.2.2.2.2.2.2.2.2.2.2.2.2.2.2.2.2.2.2.2)
def Ms_rowOps (u : MS) (v : Nat → Int32) : MS := (u.1, u.2.1, u.2.2.1, u.2.2.2.1, u.2.2.2.2.1, u.2.2.2.2.2.1, u.2.2.2.2.2.2.1, u.2.2.2.2.2.2.2.1, u.2.2.2.2.2.2.2.2.1, u.2.2.2.2.2.2.2.2.2.1, u.2.2.2.2.2.2.2.2.2.2.1, u.2.2.2.2.2.2.2.2.2.2.2.1, u.2.2.2.2.2.2.2.2.2.2.2.2.1, u.2.2.2.2.2.2.2.2.2.2.2.2.2.1, u.2.2.2.2.2.2.2.2.2.2.2.2.2.2.1, u.2.2.2.2.2.2.2.2.2.2.2.2.2.2.2.1, u.2.2.2.2.2.2.2.2.2.2.2.2.2.2.2.2.1, u.2.2.2.2.2.2.2.2.2.2.2.2.2.2.2.2.2.1, u.2.2.2.2.2.2.2.2.2.2.2.2.2.2.2.2.2.2.1, u.2.2.2.2.2.2.2.2.2.2.2.2.2.2.2.2.2.2.2.1, u.2.2.2.2.2.2.2.2.2.2.2.2.2.2.2.2.2.2.2.2.1, u.2.2.2.2.2.2.2.2.2.2.2.2.2.2.2.2.2.2.2.2.2.1, u.2.2.2.2.2.2.2.2.2.2.2.2.2.2.2.2.2.2.2.2.2.2.1, v, u.2.2.2.2.2.2.2.2.2.2.2.2.2.2.2.2.2.2.2.2.2.2.2.2.1, u.2.2.2.2.2.2.2.2.2.2.2.2.2.2.2.2.2.2.2.2.2.2.2.2.2.1, u.2.2.2.2.2.2.2.2.2.2.2.2.2.2.2.2.2.2.2.2.2.2.2.2.2.2.1, u.2.2.2.2.2.2.2.2.2.2.2.2.2.2.2.2.2.2.2.2.2.2.2.2.2.2.2.1, u.2.2.2.2.2.2.2.2.2.2.2.2.2.2.2.2.2.2.2.2.2.2.2.2.2.2.2.2.1, u.2.2.2.2.2.2.2.2.2.2.2.2.2.2.2.2.2.2.2.2.2.2.2.2.2.2.2.2.2)
def Ms_objects (u : MS) (v : Nat → Int32) : MS := (u.1, u.2.1, u.2.2.1, u.2.2.2.1, u.2.2.2.2.1, u.2.2.2.2.2.1, u.2.2.2.2.2.2.1, u.2.2.2.2.2.2.2.1, u.2.2.2.2.2.2.2.2.1, u.2.2.2.2.2.2.2.2.2.1, u.2.2.2.2.2.2.2.2.2.2.1, u.2.2.2.2.2.2.2.2.2.2.2.1, u.2.2.2.2.2.2.2.2.2.2.2.2.1, u.2.2.2.2.2.2.2.2.2.2.2.2.2.1, u.2.2.2.2.2.2.2.2.2.2.2.2.2.2.1, u.2.2.2.2.2.2.2.2.2.2.2.2.2.2.2.1, u.2.2.2.2.2.2.2.2.2.2.2.2.2.2.2.2.1, u.2.2.2.2.2.2.2.2.2.2.2.2.2.2.2.2.2.1, u.2.2.2.2.2.2.2.2.2.2.2.2.2.2.2.2.2.2.1, u.2.2.2.2.2.2.2.2.2.2.2.2.2.2.2.2.2.2.2.1, u.2.2.2.2.2.2.2.2.2.2.2.2.2.2.2.2.2.2.2.2.1, u.2.2.2.2.2.2.2.2.2.2.2.2.2.2.2.2.2.2.2.2.2.1, u.2.2.2.2.2.2.2.2.2.2.2.2.2.2.2.2.2.2.2.2.2.2.1, u.2.2.2.2.2.2.2.2.2.2.2.2.2.2.2.2.2.2.2.2.2.2.2.1, v, u.2.2.2.2.2.2.2.2.2.2.2.2.2.2.2.2.2.2.2.2.2.2.2.2.2.1, u.2.2.2.2.2.2.2.2.2.2.2.2.2.2.2.2.2.2.2.2.2.2.2.2.2.2.1, u.2.2.2.2.2.2.2.2.2.2.2.2.2.2.2.2.2.2.2.2.2.2.2.2.2.2.2.1, u.2.2.2.2.2.2.2.2.2.2.2.2.2.2.2.2.2.2.2.2.2.2.2.2.2.2.2.2.1, u.2.2.2.2.2.2.2.2.2.2.2.2.2.2.2.2.2.2.2.2.2.2.2.2.2.2.2.2.2)
def Ms_turned (u : MS) (v : Nat → Int32) : MS := (u.1, u.2.1, u.2.2.1, u.2.2.2.1, u.2.2.2.2.1, u.2.2.2.2.2.1, u.2.2.2.2.2.2.1, u.2.2.2.2.2.2.2.1, u.2.2.2.2.2.2.2.2.1, u.2.2.2.2.2.2.2.2.2.1, u.2.2.2.2.2.2.2.2.2.2.1, u.2.2.2.2.2.2.2.2.2.2.2.1, u.2.2.2.2.2.2.2.2.2.2.2.2.1, u.2.2.2.2.2.2.2.2.2.2.2.2.2.1, u.2.2.2.2.2.2.2.2.2.2.2.2.2.2.1, u.2.2.2.2.2.2.2.2.2.2.2.2.2.2.2.1, u.2.2.2.2.2.2.2.2.2.2.2.2.2.2.2.2.1, u.2.2.2.2.2.2.2.2.2.2.2.2.2.2.2.2.2.1, u.2.2.2.2.2.2.2.2.2.2.2.2.2.2.2.2.2.2.1, u.2.2.2.2.2.2.2.2.2.2.2.2.2.2.2.2.2.2.2.1, u.2.2.2.2.2.2.2.2.2.2.2.2.2.2.2.2.2.2.2.2.1, u.2.2.2.2.2.2.2.2.2.2.2.2.2.2.2.2.2.2.2.2.2.1, u.2.2.2.2.2.2.2.2.2.2.2.2.2.2.2.2.2.2.2.2.2.2.1, u.2.2.2.2.2.2.2.2.2.2.2.2.2.2.2.2.2.2.2.2.2.2.2.1, u.2.2.2.2.2.2.2.2.2.2.2.2.2.2.2.2.2.2.2.2.2.2.2.2.1, v, u.2.2.2.2.2.2.2.2.2.2.2.2.2.2.2.2.2.2.2.2.2.2.2.2.2.2.1, u.2.2.2.2.2.2.2.2.2.2.2.2.2.2.2.2.2.2.2.2.2.2.2.2.2.2.2.1, u.2.2.2.2.2.2.2.2.2.2.2.2.2.2.2.2.2.2.2.2.2.2.2.2.2.2.2.2.1, u.2.2.2.2.2.2.2.2.2.2.2.2.2.2.2.2.2.2.2.2.2.2.2.2.2.2.2.2.2)
def Ms_known (u : MS) (v : Nat → Int32) : MS := (u.1, u.2.1, u.2.2.1, u.2.2.2.1, u.2.2.2.2.1, u.2.2.2.2.2.1, u.2.2.2.2.2.2.1, u.2.2.2.2.2.2.2.1, u.2.2.2.2.2.2.2.2.1, u.2.2.2.2.2.2.2.2.2.1, u.2.2.2.2.2.2.2.2.2.2.1, u.2.2.2.2.2.2.2.2.2.2.2.1, u.2.2.2.2.2.2.2.2.2.2.2.2.1, u.2.2.2.2.2.2.2.2.2.2.2.2.2.1, u.2.2.2.2.2.2.2.2.2.2.2.2.2.2.1, u.2.2.2.2.2.2.2.2.2.2.2.2.2.2.2.1, u.2.2.2.2.2.2.2.2.2.2.2.2.2.2.2.2.1, u.2.2.2.2.2.2.2.2.2.2.2.2.2.2.2.2.2.1, u.2.2.2.2.2.2.2.2.2.2.2.2.2.2.2.2.2.2.1, u.2.2.2.2.2.2.2.2.2.2.2.2.2.2.2.2.2.2.2.1, u.2.2.2.2.2.2.2.2.2.2.2.2.2.2.2.2.2.2.2.2.1, u.2.2.2.2.2.2.2.2.2.2.2.2.2.2.2.2.2.2.2.2.2.1, u.2.2.2.2.2.2.2.2.2.2.2.2.2.2.2.2.2.2.2.2.2.2.1, u.2.2.2.2.2.2.2.2.2.2.2.2.2.2.2.2.2.2.2.2.2.2.2.1, u.2.2.2.2.2.2.2.2.2.2.2.2.2.2.2.2.2.2.2.2.2.2.2.2.1, u.2.2.2.2.2.2.2.2.2.2.2.2.2.2.2.2.2.2.2.2.2.2.2.2.2.1, v, u.2.2.2.2.2.2.2.2.2.2.2.2.2.2.2.2.2.2.2.2.2.2.2.2.2.2.2.1, u.2.2.2.2.2.2.2.2.2.2.2.2.2.2.2.2.2.2.2.2.2.2.2.2.2.2.2.2.1, u.2.2.2.2.2.2.2.2.2.2.2.2.2.2.2.2.2.2.2.2.2.2.2.2.2.2.2.2.2)
def Ms_pile (u : MS) (v : Nat → Int32) : MS := (u.1, u.2.1, u.2.2.1, u.2.2.2.1, u.2.2.2.2.1, u.2.2.2.2.2.1, u.2.2.2.2.2.2.1, u.2.2.2.2.2.2.2.1, u.2.2.2.2.2.2.2.2.1, u.2.2.2.2.2.2.2.2.2.1, u.2.2.2.2.2.2.2.2.2.2.1, u.2.2.2.2.2.2.2.2.2.2.2.1, u.2.2.2.2.2.2.2.2.2.2.2.2.1, u.2.2.2.2.2.2.2.2.2.2.2.2.2.1, u.2.2.2.2.2.2.2.2.2.2.2.2.2.2.1, u.2.2.2.2.2.2.2.2.2.2.2.2.2.2.2.1, u.2.2.2.2.2.2.2.2.2.2.2.2.2.2.2.2.1, u.2.2.2.2.2.2.2.2.2.2.2.2.2.2.2.2.2.1, u.2.2.2.2.2.2.2.2.2.2.2.2.2.2.2.2.2.2.1, u.2.2.2.2.2.2.2.2.2.2.2.2.2.2.2.2.2.2.2.1, u.2.2.2.2.2.2.2.2.2.2.2.2.2.2.2.2.2.2.2.2.1, u.2.2.2.2.2.2.2.2.2.2.2.2.2.2.2.2.2.2.2.2.2.1, u.2.2.2.2.2.2.2.2.2.2.2.2.2.2.2.2.2.2.2.2.2.2.1, u.2.2.2.2.2.2.2.2.2.2.2.2.2.2.2.2.2.2.2.2.2.2.2.1, u.2.2.2.2.2.2.2.2.2.2.2.2.2.2.2.2.2.2.2.2.2.2.2.2.1, u.2.2.2.2.2.2.2.2.2.2.2.2.2.2.2.2.2.2.2.2.2.2.2.2.2.1, u.2.2.2.2.2.2.2.2.2.2.2.2.2.2.2.2.2.2.2.2.2.2.2.2.2.2.1, v, u.2.2.2.2.2.2.2.2.2.2.2.2.2.2.2.2.2.2.2.2.2.2.2.2.2.2.2.2.1, u.2.2.2.2.2.2.2.2.2.2.2.2.2.2.2.2.2.2.2.2.2.2.2.2.2.2.2.2.2)
def Ms_leaves (u : MS) (v : Nat → Int32) : MS := (u.1, u.2.1, u.2.2.1, u.2.2.2.1, u.2.2.2.2.1, u.2.2.2.2.2.1, u.2.2.2.2.2.2.1, u.2.2.2.2.2.2.2.1, u.2.2.2.2.2.2.2.2.1, u.2.2.2.2.2.2.2.2.2.1, u.2.2.2.2.2.2.2.2.2.2.1, u.2.2.2.2.2.2.2.2.2.2.2.1, u.2.2.2.2.2.2.2.2.2.2.2.2.1, u.2.2.2.2.2.2.2.2.2.2.2.2.2.1, u.2.2.2.2.2.2.2.2.2.2.2.2.2.2.1, u.2.2.2.2.2.2.2.2.2.2.2.2.2.2.2.1, u.2.2.2.2.2.2.2.2.2.2.2.2.2.2.2.2.1, u.2.2.2.2.2.2.2.2.2.2.2.2.2.2.2.2.2.1, u.2.2.2.2.2.2.2.2.2.2.2.2.2.2.2.2.2.2.1, u.2.2.2.2.2.2.2.2.2.2.2.2.2.2.2.2.2.2.2.1, u.2.2.2.2.2.2.2.2.2.2.2.2.2.2.2.2.2.2.2.2.1, u.2.2.2.2.2.2.2.2.2.2.2.2.2.2.2.2.2.2.2.2.2.1, u.2.2.2.2.2.2.2.2.2.2.2.2.2.2.2.2.2.2.2.2.2.2.1, u.2.2.2.2.2.2.2.2.2.2.2.2.2.2.2.2.2.2.2.2.2.2.2.1, u.2.2.2.2.2.2.2.2.2.2.2.2.2.2.2.2.2.2.2.2.2.2.2.2.1, u.2.2.2.2.2.2.2.2.2.2.2.2.2.2.2.2.2.2.2.2.2.2.2.2.2.1, u.2.2.2.2.2.2.2.2.2.2.2.2.2.2.2.2.2.2.2.2.2.2.2.2.2.2.1, u.2.2.2.2.2.2.2.2.2.2.2.2.2.2.2.2.2.2.2.2.2.2.2.2.2.2.2.1, v, u.2.2.2.2.2.2.2.2.2.2.2.2.2.2.2.2.2.2.2.2.2.2.2.2.2.2.2.2.2)
def Ms_digits (u : MS) (v : Nat → Int32) : MS := (u.1, u.2.1, u.2.2.1, u.2.2.2.1, u.2.2.2.2.1, u.2.2.2.2.2.1, u.2.2.2.2.2.2.1, u.2.2.2.2.2.2.2.1, u.2.2.2.2.2.2.2.2.1, u.2.2.2.2.2.2.2.2.2.1, u.2.2.2.2.2.2.2.2.2.2.1, u.2.2.2.2.2.2.2.2.2.2.2.1, u.2.2.2.2.2.2.2.2.2.2.2.2.1, u.2.2.2.2.2.2.2.2.2.2.2.2.2.1, u.2.2.2.2.2.2.2.2.2.2.2.2.2.2.1, u.2.2.2.2.2.2.2.2.2.2.2.2.2.2.2.1, u.2.2.2.2.2.2.2.2.2.2.2.2.2.2.2.2.1, u.2.2.2.2.2.2.2.2.2.2.2.2.2.2.2.2.2.1, u.2.2.2.2.2.2.2.2.2.2.2.2.2.2.2.2.2.2.1, u.2.2.2.2.2.2.2.2.2.2.2.2.2.2.2.2.2.2.2.1, u.2.2.2.2.2.2.2.2.2.2.2.2.2.2.2.2.2.2.2.2.1, u.2.2.2.2.2.2.2.2.2.2.2.2.2.2.2.2.2.2.2.2.2.1, u.2.2.2.2.2.2.2.2.2.2.2.2.2.2.2.2.2.2.2.2.2.2.1, u.2.2.2.2.2.2.2.2.2.2.2.2.2.2.2.2.2.2.2.2.2.2.2.1, u.2.2.2.2.2.2.2.2.2.2.2.2.2.2.2.2.2.2.2.2.2.2.2.2.1, u.2.2.2.2.2.2.2.2.2.2.2.2.2.2.2.2.2.2.2.2.2.2.2.2.2.1, u.2.2.2.2.2.2.2.2.2.2.2.2.2.2.2.2.2.2.2.2.2.2.2.2.2.2.1, u.2.2.2.2.2.2.2.2.2.2.2.2.2.2.2.2.2.2.2.2.2.2.2.2.2.2.2.1, u.2.2.2.2.2.2.2.2.2.2.2.2.2.2.2.2.2.2.2.2.2.2.2.2.2.2.2.2.1, v)
def wM (k : zK) (b : Nat → Nat) (u : MS) : va_W := [((b 0), .inr (7, [.int (Mg_whole u), .int (Mg_thrown u), .ref (b 1), .ref (b 2), .ref (b 3), .ref (b 4), .ref (b 5), .int (Mg_fields u), .ref (b 6), .ref (b 7), .ref (b 8), .int (Mg_nodes u), .ref (b 9), .ref (b 10), .ref (b 11), .ref (b 12), .int (Mg_names u), .ref (b 13), .ref (b 14), .ref (b 15), .ref (b 16), .ref (b 17), .int (Mg_row u), .int (Mg_subject u), .ref (b 18), .ref (b 19), .ref (b 20), .int (Mg_noted u), .int (Mg_fault u), .ref (b 21)])),
  ((b 1), .inl (k.2.1, 1280, .inl (Mg_bytes u))),
  ((b 2), .inl (k.2.1, 40, .inl (Mg_categories u))),
  ((b 3), .inl (k.2.1, 40, .inl (Mg_sizes u))),
  ((b 4), .inl (k.2.1, 40, .inl (Mg_scales u))),
  ((b 5), .inl (k.2.1, 256, .inl (Mg_weights u))),
  ((b 6), .inl (k.2.1, 201, .inl (Mg_ops u))),
  ((b 7), .inl (k.2.1, 201, .inl (Mg_as u))),
  ((b 8), .inl (k.2.1, 201, .inl (Mg_bs u))),
  ((b 9), .inl (k.2.1, 41, .inl (Mg_nameFields u))),
  ((b 10), .inl (k.2.1, 41, .inl (Mg_ranges u))),
  ((b 11), .inl (k.2.2.1, 328, .inr (.inl (Mg_lows u)))),
  ((b 12), .inl (k.2.2.1, 328, .inr (.inl (Mg_highs u)))),
  ((b 13), .inl (k.2.2.2, 16, .inl (Mg_switches u))),
  ((b 14), .inl (k.2.1, 20, .inl (Mg_ways u))),
  ((b 15), .inl (k.2.1, 20, .inl (Mg_rowOps u))),
  ((b 16), .inl (k.2.1, 20, .inl (Mg_objects u))),
  ((b 17), .inl (k.2.2.2, 20, .inl (Mg_turned u))),
  ((b 18), .inl (k.2.1, 201, .inl (Mg_known u))),
  ((b 19), .inl (k.2.1, 402, .inl (Mg_pile u))),
  ((b 20), .inl (k.2.1, 200, .inl (Mg_leaves u))),
  ((b 21), .inl (k.2.1, 40, .inl (Mg_digits u)))]
theorem MD {k : zK} {b : Nat → Nat} (hI : zI 22 b) (u : MS) : va_D (zA 22 b) (wM k b u) := zDg hI rfl
theorem Mq_whole_whole (u : MS) (v : Int32) : Mg_whole (Ms_whole u v) = v := rfl
theorem Mq_thrown_whole (u : MS) (v : Int32) : Mg_thrown (Ms_whole u v) = Mg_thrown u := rfl
theorem Mq_fields_whole (u : MS) (v : Int32) : Mg_fields (Ms_whole u v) = Mg_fields u := rfl
theorem Mq_nodes_whole (u : MS) (v : Int32) : Mg_nodes (Ms_whole u v) = Mg_nodes u := rfl
theorem Mq_names_whole (u : MS) (v : Int32) : Mg_names (Ms_whole u v) = Mg_names u := rfl
theorem Mq_row_whole (u : MS) (v : Int32) : Mg_row (Ms_whole u v) = Mg_row u := rfl
theorem Mq_subject_whole (u : MS) (v : Int32) : Mg_subject (Ms_whole u v) = Mg_subject u := rfl
theorem Mq_noted_whole (u : MS) (v : Int32) : Mg_noted (Ms_whole u v) = Mg_noted u := rfl
theorem Mq_fault_whole (u : MS) (v : Int32) : Mg_fault (Ms_whole u v) = Mg_fault u := rfl
theorem Mq_bytes_whole (u : MS) (v : Int32) : Mg_bytes (Ms_whole u v) = Mg_bytes u := rfl
theorem Mq_categories_whole (u : MS) (v : Int32) : Mg_categories (Ms_whole u v) = Mg_categories u := rfl
theorem Mq_sizes_whole (u : MS) (v : Int32) : Mg_sizes (Ms_whole u v) = Mg_sizes u := rfl
theorem Mq_scales_whole (u : MS) (v : Int32) : Mg_scales (Ms_whole u v) = Mg_scales u := rfl
theorem Mq_weights_whole (u : MS) (v : Int32) : Mg_weights (Ms_whole u v) = Mg_weights u := rfl
theorem Mq_ops_whole (u : MS) (v : Int32) : Mg_ops (Ms_whole u v) = Mg_ops u := rfl
theorem Mq_as_whole (u : MS) (v : Int32) : Mg_as (Ms_whole u v) = Mg_as u := rfl
theorem Mq_bs_whole (u : MS) (v : Int32) : Mg_bs (Ms_whole u v) = Mg_bs u := rfl
theorem Mq_nameFields_whole (u : MS) (v : Int32) : Mg_nameFields (Ms_whole u v) = Mg_nameFields u := rfl
theorem Mq_ranges_whole (u : MS) (v : Int32) : Mg_ranges (Ms_whole u v) = Mg_ranges u := rfl
theorem Mq_lows_whole (u : MS) (v : Int32) : Mg_lows (Ms_whole u v) = Mg_lows u := rfl
theorem Mq_highs_whole (u : MS) (v : Int32) : Mg_highs (Ms_whole u v) = Mg_highs u := rfl
theorem Mq_switches_whole (u : MS) (v : Int32) : Mg_switches (Ms_whole u v) = Mg_switches u := rfl
theorem Mq_ways_whole (u : MS) (v : Int32) : Mg_ways (Ms_whole u v) = Mg_ways u := rfl
theorem Mq_rowOps_whole (u : MS) (v : Int32) : Mg_rowOps (Ms_whole u v) = Mg_rowOps u := rfl
theorem Mq_objects_whole (u : MS) (v : Int32) : Mg_objects (Ms_whole u v) = Mg_objects u := rfl
theorem Mq_turned_whole (u : MS) (v : Int32) : Mg_turned (Ms_whole u v) = Mg_turned u := rfl
theorem Mq_known_whole (u : MS) (v : Int32) : Mg_known (Ms_whole u v) = Mg_known u := rfl
theorem Mq_pile_whole (u : MS) (v : Int32) : Mg_pile (Ms_whole u v) = Mg_pile u := rfl
theorem Mq_leaves_whole (u : MS) (v : Int32) : Mg_leaves (Ms_whole u v) = Mg_leaves u := rfl
theorem Mq_digits_whole (u : MS) (v : Int32) : Mg_digits (Ms_whole u v) = Mg_digits u := rfl
theorem Mq_whole_thrown (u : MS) (v : Int32) : Mg_whole (Ms_thrown u v) = Mg_whole u := rfl
theorem Mq_thrown_thrown (u : MS) (v : Int32) : Mg_thrown (Ms_thrown u v) = v := rfl
theorem Mq_fields_thrown (u : MS) (v : Int32) : Mg_fields (Ms_thrown u v) = Mg_fields u := rfl
theorem Mq_nodes_thrown (u : MS) (v : Int32) : Mg_nodes (Ms_thrown u v) = Mg_nodes u := rfl
theorem Mq_names_thrown (u : MS) (v : Int32) : Mg_names (Ms_thrown u v) = Mg_names u := rfl
theorem Mq_row_thrown (u : MS) (v : Int32) : Mg_row (Ms_thrown u v) = Mg_row u := rfl
theorem Mq_subject_thrown (u : MS) (v : Int32) : Mg_subject (Ms_thrown u v) = Mg_subject u := rfl
theorem Mq_noted_thrown (u : MS) (v : Int32) : Mg_noted (Ms_thrown u v) = Mg_noted u := rfl
theorem Mq_fault_thrown (u : MS) (v : Int32) : Mg_fault (Ms_thrown u v) = Mg_fault u := rfl
theorem Mq_bytes_thrown (u : MS) (v : Int32) : Mg_bytes (Ms_thrown u v) = Mg_bytes u := rfl
theorem Mq_categories_thrown (u : MS) (v : Int32) : Mg_categories (Ms_thrown u v) = Mg_categories u := rfl
theorem Mq_sizes_thrown (u : MS) (v : Int32) : Mg_sizes (Ms_thrown u v) = Mg_sizes u := rfl
theorem Mq_scales_thrown (u : MS) (v : Int32) : Mg_scales (Ms_thrown u v) = Mg_scales u := rfl
theorem Mq_weights_thrown (u : MS) (v : Int32) : Mg_weights (Ms_thrown u v) = Mg_weights u := rfl
theorem Mq_ops_thrown (u : MS) (v : Int32) : Mg_ops (Ms_thrown u v) = Mg_ops u := rfl
theorem Mq_as_thrown (u : MS) (v : Int32) : Mg_as (Ms_thrown u v) = Mg_as u := rfl
theorem Mq_bs_thrown (u : MS) (v : Int32) : Mg_bs (Ms_thrown u v) = Mg_bs u := rfl
theorem Mq_nameFields_thrown (u : MS) (v : Int32) : Mg_nameFields (Ms_thrown u v) = Mg_nameFields u := rfl
theorem Mq_ranges_thrown (u : MS) (v : Int32) : Mg_ranges (Ms_thrown u v) = Mg_ranges u := rfl
theorem Mq_lows_thrown (u : MS) (v : Int32) : Mg_lows (Ms_thrown u v) = Mg_lows u := rfl
theorem Mq_highs_thrown (u : MS) (v : Int32) : Mg_highs (Ms_thrown u v) = Mg_highs u := rfl
theorem Mq_switches_thrown (u : MS) (v : Int32) : Mg_switches (Ms_thrown u v) = Mg_switches u := rfl
theorem Mq_ways_thrown (u : MS) (v : Int32) : Mg_ways (Ms_thrown u v) = Mg_ways u := rfl
theorem Mq_rowOps_thrown (u : MS) (v : Int32) : Mg_rowOps (Ms_thrown u v) = Mg_rowOps u := rfl
theorem Mq_objects_thrown (u : MS) (v : Int32) : Mg_objects (Ms_thrown u v) = Mg_objects u := rfl
theorem Mq_turned_thrown (u : MS) (v : Int32) : Mg_turned (Ms_thrown u v) = Mg_turned u := rfl
theorem Mq_known_thrown (u : MS) (v : Int32) : Mg_known (Ms_thrown u v) = Mg_known u := rfl
theorem Mq_pile_thrown (u : MS) (v : Int32) : Mg_pile (Ms_thrown u v) = Mg_pile u := rfl
theorem Mq_leaves_thrown (u : MS) (v : Int32) : Mg_leaves (Ms_thrown u v) = Mg_leaves u := rfl
theorem Mq_digits_thrown (u : MS) (v : Int32) : Mg_digits (Ms_thrown u v) = Mg_digits u := rfl
theorem Mq_whole_fields (u : MS) (v : Int32) : Mg_whole (Ms_fields u v) = Mg_whole u := rfl
theorem Mq_thrown_fields (u : MS) (v : Int32) : Mg_thrown (Ms_fields u v) = Mg_thrown u := rfl
theorem Mq_fields_fields (u : MS) (v : Int32) : Mg_fields (Ms_fields u v) = v := rfl
theorem Mq_nodes_fields (u : MS) (v : Int32) : Mg_nodes (Ms_fields u v) = Mg_nodes u := rfl
theorem Mq_names_fields (u : MS) (v : Int32) : Mg_names (Ms_fields u v) = Mg_names u := rfl
theorem Mq_row_fields (u : MS) (v : Int32) : Mg_row (Ms_fields u v) = Mg_row u := rfl
theorem Mq_subject_fields (u : MS) (v : Int32) : Mg_subject (Ms_fields u v) = Mg_subject u := rfl
theorem Mq_noted_fields (u : MS) (v : Int32) : Mg_noted (Ms_fields u v) = Mg_noted u := rfl
theorem Mq_fault_fields (u : MS) (v : Int32) : Mg_fault (Ms_fields u v) = Mg_fault u := rfl
theorem Mq_bytes_fields (u : MS) (v : Int32) : Mg_bytes (Ms_fields u v) = Mg_bytes u := rfl
theorem Mq_categories_fields (u : MS) (v : Int32) : Mg_categories (Ms_fields u v) = Mg_categories u := rfl
theorem Mq_sizes_fields (u : MS) (v : Int32) : Mg_sizes (Ms_fields u v) = Mg_sizes u := rfl
theorem Mq_scales_fields (u : MS) (v : Int32) : Mg_scales (Ms_fields u v) = Mg_scales u := rfl
theorem Mq_weights_fields (u : MS) (v : Int32) : Mg_weights (Ms_fields u v) = Mg_weights u := rfl
theorem Mq_ops_fields (u : MS) (v : Int32) : Mg_ops (Ms_fields u v) = Mg_ops u := rfl
theorem Mq_as_fields (u : MS) (v : Int32) : Mg_as (Ms_fields u v) = Mg_as u := rfl
theorem Mq_bs_fields (u : MS) (v : Int32) : Mg_bs (Ms_fields u v) = Mg_bs u := rfl
theorem Mq_nameFields_fields (u : MS) (v : Int32) : Mg_nameFields (Ms_fields u v) = Mg_nameFields u := rfl
theorem Mq_ranges_fields (u : MS) (v : Int32) : Mg_ranges (Ms_fields u v) = Mg_ranges u := rfl
theorem Mq_lows_fields (u : MS) (v : Int32) : Mg_lows (Ms_fields u v) = Mg_lows u := rfl
theorem Mq_highs_fields (u : MS) (v : Int32) : Mg_highs (Ms_fields u v) = Mg_highs u := rfl
theorem Mq_switches_fields (u : MS) (v : Int32) : Mg_switches (Ms_fields u v) = Mg_switches u := rfl
theorem Mq_ways_fields (u : MS) (v : Int32) : Mg_ways (Ms_fields u v) = Mg_ways u := rfl
theorem Mq_rowOps_fields (u : MS) (v : Int32) : Mg_rowOps (Ms_fields u v) = Mg_rowOps u := rfl
theorem Mq_objects_fields (u : MS) (v : Int32) : Mg_objects (Ms_fields u v) = Mg_objects u := rfl
theorem Mq_turned_fields (u : MS) (v : Int32) : Mg_turned (Ms_fields u v) = Mg_turned u := rfl
theorem Mq_known_fields (u : MS) (v : Int32) : Mg_known (Ms_fields u v) = Mg_known u := rfl
theorem Mq_pile_fields (u : MS) (v : Int32) : Mg_pile (Ms_fields u v) = Mg_pile u := rfl
theorem Mq_leaves_fields (u : MS) (v : Int32) : Mg_leaves (Ms_fields u v) = Mg_leaves u := rfl
theorem Mq_digits_fields (u : MS) (v : Int32) : Mg_digits (Ms_fields u v) = Mg_digits u := rfl
theorem Mq_whole_nodes (u : MS) (v : Int32) : Mg_whole (Ms_nodes u v) = Mg_whole u := rfl
theorem Mq_thrown_nodes (u : MS) (v : Int32) : Mg_thrown (Ms_nodes u v) = Mg_thrown u := rfl
theorem Mq_fields_nodes (u : MS) (v : Int32) : Mg_fields (Ms_nodes u v) = Mg_fields u := rfl
theorem Mq_nodes_nodes (u : MS) (v : Int32) : Mg_nodes (Ms_nodes u v) = v := rfl
theorem Mq_names_nodes (u : MS) (v : Int32) : Mg_names (Ms_nodes u v) = Mg_names u := rfl
theorem Mq_row_nodes (u : MS) (v : Int32) : Mg_row (Ms_nodes u v) = Mg_row u := rfl
theorem Mq_subject_nodes (u : MS) (v : Int32) : Mg_subject (Ms_nodes u v) = Mg_subject u := rfl
theorem Mq_noted_nodes (u : MS) (v : Int32) : Mg_noted (Ms_nodes u v) = Mg_noted u := rfl
theorem Mq_fault_nodes (u : MS) (v : Int32) : Mg_fault (Ms_nodes u v) = Mg_fault u := rfl
theorem Mq_bytes_nodes (u : MS) (v : Int32) : Mg_bytes (Ms_nodes u v) = Mg_bytes u := rfl
theorem Mq_categories_nodes (u : MS) (v : Int32) : Mg_categories (Ms_nodes u v) = Mg_categories u := rfl
theorem Mq_sizes_nodes (u : MS) (v : Int32) : Mg_sizes (Ms_nodes u v) = Mg_sizes u := rfl
theorem Mq_scales_nodes (u : MS) (v : Int32) : Mg_scales (Ms_nodes u v) = Mg_scales u := rfl
theorem Mq_weights_nodes (u : MS) (v : Int32) : Mg_weights (Ms_nodes u v) = Mg_weights u := rfl
theorem Mq_ops_nodes (u : MS) (v : Int32) : Mg_ops (Ms_nodes u v) = Mg_ops u := rfl
theorem Mq_as_nodes (u : MS) (v : Int32) : Mg_as (Ms_nodes u v) = Mg_as u := rfl
theorem Mq_bs_nodes (u : MS) (v : Int32) : Mg_bs (Ms_nodes u v) = Mg_bs u := rfl
theorem Mq_nameFields_nodes (u : MS) (v : Int32) : Mg_nameFields (Ms_nodes u v) = Mg_nameFields u := rfl
theorem Mq_ranges_nodes (u : MS) (v : Int32) : Mg_ranges (Ms_nodes u v) = Mg_ranges u := rfl
theorem Mq_lows_nodes (u : MS) (v : Int32) : Mg_lows (Ms_nodes u v) = Mg_lows u := rfl
theorem Mq_highs_nodes (u : MS) (v : Int32) : Mg_highs (Ms_nodes u v) = Mg_highs u := rfl
theorem Mq_switches_nodes (u : MS) (v : Int32) : Mg_switches (Ms_nodes u v) = Mg_switches u := rfl
theorem Mq_ways_nodes (u : MS) (v : Int32) : Mg_ways (Ms_nodes u v) = Mg_ways u := rfl
theorem Mq_rowOps_nodes (u : MS) (v : Int32) : Mg_rowOps (Ms_nodes u v) = Mg_rowOps u := rfl
theorem Mq_objects_nodes (u : MS) (v : Int32) : Mg_objects (Ms_nodes u v) = Mg_objects u := rfl
theorem Mq_turned_nodes (u : MS) (v : Int32) : Mg_turned (Ms_nodes u v) = Mg_turned u := rfl
theorem Mq_known_nodes (u : MS) (v : Int32) : Mg_known (Ms_nodes u v) = Mg_known u := rfl
theorem Mq_pile_nodes (u : MS) (v : Int32) : Mg_pile (Ms_nodes u v) = Mg_pile u := rfl
theorem Mq_leaves_nodes (u : MS) (v : Int32) : Mg_leaves (Ms_nodes u v) = Mg_leaves u := rfl
theorem Mq_digits_nodes (u : MS) (v : Int32) : Mg_digits (Ms_nodes u v) = Mg_digits u := rfl
theorem Mq_whole_names (u : MS) (v : Int32) : Mg_whole (Ms_names u v) = Mg_whole u := rfl
theorem Mq_thrown_names (u : MS) (v : Int32) : Mg_thrown (Ms_names u v) = Mg_thrown u := rfl
theorem Mq_fields_names (u : MS) (v : Int32) : Mg_fields (Ms_names u v) = Mg_fields u := rfl
theorem Mq_nodes_names (u : MS) (v : Int32) : Mg_nodes (Ms_names u v) = Mg_nodes u := rfl
theorem Mq_names_names (u : MS) (v : Int32) : Mg_names (Ms_names u v) = v := rfl
theorem Mq_row_names (u : MS) (v : Int32) : Mg_row (Ms_names u v) = Mg_row u := rfl
theorem Mq_subject_names (u : MS) (v : Int32) : Mg_subject (Ms_names u v) = Mg_subject u := rfl
theorem Mq_noted_names (u : MS) (v : Int32) : Mg_noted (Ms_names u v) = Mg_noted u := rfl
theorem Mq_fault_names (u : MS) (v : Int32) : Mg_fault (Ms_names u v) = Mg_fault u := rfl
theorem Mq_bytes_names (u : MS) (v : Int32) : Mg_bytes (Ms_names u v) = Mg_bytes u := rfl
theorem Mq_categories_names (u : MS) (v : Int32) : Mg_categories (Ms_names u v) = Mg_categories u := rfl
theorem Mq_sizes_names (u : MS) (v : Int32) : Mg_sizes (Ms_names u v) = Mg_sizes u := rfl
theorem Mq_scales_names (u : MS) (v : Int32) : Mg_scales (Ms_names u v) = Mg_scales u := rfl
theorem Mq_weights_names (u : MS) (v : Int32) : Mg_weights (Ms_names u v) = Mg_weights u := rfl
theorem Mq_ops_names (u : MS) (v : Int32) : Mg_ops (Ms_names u v) = Mg_ops u := rfl
theorem Mq_as_names (u : MS) (v : Int32) : Mg_as (Ms_names u v) = Mg_as u := rfl
theorem Mq_bs_names (u : MS) (v : Int32) : Mg_bs (Ms_names u v) = Mg_bs u := rfl
theorem Mq_nameFields_names (u : MS) (v : Int32) : Mg_nameFields (Ms_names u v) = Mg_nameFields u := rfl
theorem Mq_ranges_names (u : MS) (v : Int32) : Mg_ranges (Ms_names u v) = Mg_ranges u := rfl
theorem Mq_lows_names (u : MS) (v : Int32) : Mg_lows (Ms_names u v) = Mg_lows u := rfl
theorem Mq_highs_names (u : MS) (v : Int32) : Mg_highs (Ms_names u v) = Mg_highs u := rfl
theorem Mq_switches_names (u : MS) (v : Int32) : Mg_switches (Ms_names u v) = Mg_switches u := rfl
theorem Mq_ways_names (u : MS) (v : Int32) : Mg_ways (Ms_names u v) = Mg_ways u := rfl
theorem Mq_rowOps_names (u : MS) (v : Int32) : Mg_rowOps (Ms_names u v) = Mg_rowOps u := rfl
theorem Mq_objects_names (u : MS) (v : Int32) : Mg_objects (Ms_names u v) = Mg_objects u := rfl
theorem Mq_turned_names (u : MS) (v : Int32) : Mg_turned (Ms_names u v) = Mg_turned u := rfl
theorem Mq_known_names (u : MS) (v : Int32) : Mg_known (Ms_names u v) = Mg_known u := rfl
theorem Mq_pile_names (u : MS) (v : Int32) : Mg_pile (Ms_names u v) = Mg_pile u := rfl
theorem Mq_leaves_names (u : MS) (v : Int32) : Mg_leaves (Ms_names u v) = Mg_leaves u := rfl
theorem Mq_digits_names (u : MS) (v : Int32) : Mg_digits (Ms_names u v) = Mg_digits u := rfl
theorem Mq_whole_row (u : MS) (v : Int32) : Mg_whole (Ms_row u v) = Mg_whole u := rfl
theorem Mq_thrown_row (u : MS) (v : Int32) : Mg_thrown (Ms_row u v) = Mg_thrown u := rfl
theorem Mq_fields_row (u : MS) (v : Int32) : Mg_fields (Ms_row u v) = Mg_fields u := rfl
theorem Mq_nodes_row (u : MS) (v : Int32) : Mg_nodes (Ms_row u v) = Mg_nodes u := rfl
theorem Mq_names_row (u : MS) (v : Int32) : Mg_names (Ms_row u v) = Mg_names u := rfl
theorem Mq_row_row (u : MS) (v : Int32) : Mg_row (Ms_row u v) = v := rfl
theorem Mq_subject_row (u : MS) (v : Int32) : Mg_subject (Ms_row u v) = Mg_subject u := rfl
theorem Mq_noted_row (u : MS) (v : Int32) : Mg_noted (Ms_row u v) = Mg_noted u := rfl
theorem Mq_fault_row (u : MS) (v : Int32) : Mg_fault (Ms_row u v) = Mg_fault u := rfl
theorem Mq_bytes_row (u : MS) (v : Int32) : Mg_bytes (Ms_row u v) = Mg_bytes u := rfl
theorem Mq_categories_row (u : MS) (v : Int32) : Mg_categories (Ms_row u v) = Mg_categories u := rfl
theorem Mq_sizes_row (u : MS) (v : Int32) : Mg_sizes (Ms_row u v) = Mg_sizes u := rfl
theorem Mq_scales_row (u : MS) (v : Int32) : Mg_scales (Ms_row u v) = Mg_scales u := rfl
theorem Mq_weights_row (u : MS) (v : Int32) : Mg_weights (Ms_row u v) = Mg_weights u := rfl
theorem Mq_ops_row (u : MS) (v : Int32) : Mg_ops (Ms_row u v) = Mg_ops u := rfl
theorem Mq_as_row (u : MS) (v : Int32) : Mg_as (Ms_row u v) = Mg_as u := rfl
theorem Mq_bs_row (u : MS) (v : Int32) : Mg_bs (Ms_row u v) = Mg_bs u := rfl
theorem Mq_nameFields_row (u : MS) (v : Int32) : Mg_nameFields (Ms_row u v) = Mg_nameFields u := rfl
theorem Mq_ranges_row (u : MS) (v : Int32) : Mg_ranges (Ms_row u v) = Mg_ranges u := rfl
theorem Mq_lows_row (u : MS) (v : Int32) : Mg_lows (Ms_row u v) = Mg_lows u := rfl
theorem Mq_highs_row (u : MS) (v : Int32) : Mg_highs (Ms_row u v) = Mg_highs u := rfl
theorem Mq_switches_row (u : MS) (v : Int32) : Mg_switches (Ms_row u v) = Mg_switches u := rfl
theorem Mq_ways_row (u : MS) (v : Int32) : Mg_ways (Ms_row u v) = Mg_ways u := rfl
theorem Mq_rowOps_row (u : MS) (v : Int32) : Mg_rowOps (Ms_row u v) = Mg_rowOps u := rfl
theorem Mq_objects_row (u : MS) (v : Int32) : Mg_objects (Ms_row u v) = Mg_objects u := rfl
theorem Mq_turned_row (u : MS) (v : Int32) : Mg_turned (Ms_row u v) = Mg_turned u := rfl
theorem Mq_known_row (u : MS) (v : Int32) : Mg_known (Ms_row u v) = Mg_known u := rfl
theorem Mq_pile_row (u : MS) (v : Int32) : Mg_pile (Ms_row u v) = Mg_pile u := rfl
theorem Mq_leaves_row (u : MS) (v : Int32) : Mg_leaves (Ms_row u v) = Mg_leaves u := rfl
theorem Mq_digits_row (u : MS) (v : Int32) : Mg_digits (Ms_row u v) = Mg_digits u := rfl
theorem Mq_whole_subject (u : MS) (v : Int32) : Mg_whole (Ms_subject u v) = Mg_whole u := rfl
theorem Mq_thrown_subject (u : MS) (v : Int32) : Mg_thrown (Ms_subject u v) = Mg_thrown u := rfl
theorem Mq_fields_subject (u : MS) (v : Int32) : Mg_fields (Ms_subject u v) = Mg_fields u := rfl
theorem Mq_nodes_subject (u : MS) (v : Int32) : Mg_nodes (Ms_subject u v) = Mg_nodes u := rfl
theorem Mq_names_subject (u : MS) (v : Int32) : Mg_names (Ms_subject u v) = Mg_names u := rfl
theorem Mq_row_subject (u : MS) (v : Int32) : Mg_row (Ms_subject u v) = Mg_row u := rfl
theorem Mq_subject_subject (u : MS) (v : Int32) : Mg_subject (Ms_subject u v) = v := rfl
theorem Mq_noted_subject (u : MS) (v : Int32) : Mg_noted (Ms_subject u v) = Mg_noted u := rfl
theorem Mq_fault_subject (u : MS) (v : Int32) : Mg_fault (Ms_subject u v) = Mg_fault u := rfl
theorem Mq_bytes_subject (u : MS) (v : Int32) : Mg_bytes (Ms_subject u v) = Mg_bytes u := rfl
theorem Mq_categories_subject (u : MS) (v : Int32) : Mg_categories (Ms_subject u v) = Mg_categories u := rfl
theorem Mq_sizes_subject (u : MS) (v : Int32) : Mg_sizes (Ms_subject u v) = Mg_sizes u := rfl
theorem Mq_scales_subject (u : MS) (v : Int32) : Mg_scales (Ms_subject u v) = Mg_scales u := rfl
theorem Mq_weights_subject (u : MS) (v : Int32) : Mg_weights (Ms_subject u v) = Mg_weights u := rfl
theorem Mq_ops_subject (u : MS) (v : Int32) : Mg_ops (Ms_subject u v) = Mg_ops u := rfl
theorem Mq_as_subject (u : MS) (v : Int32) : Mg_as (Ms_subject u v) = Mg_as u := rfl
theorem Mq_bs_subject (u : MS) (v : Int32) : Mg_bs (Ms_subject u v) = Mg_bs u := rfl
theorem Mq_nameFields_subject (u : MS) (v : Int32) : Mg_nameFields (Ms_subject u v) = Mg_nameFields u := rfl
theorem Mq_ranges_subject (u : MS) (v : Int32) : Mg_ranges (Ms_subject u v) = Mg_ranges u := rfl
theorem Mq_lows_subject (u : MS) (v : Int32) : Mg_lows (Ms_subject u v) = Mg_lows u := rfl
theorem Mq_highs_subject (u : MS) (v : Int32) : Mg_highs (Ms_subject u v) = Mg_highs u := rfl
theorem Mq_switches_subject (u : MS) (v : Int32) : Mg_switches (Ms_subject u v) = Mg_switches u := rfl
theorem Mq_ways_subject (u : MS) (v : Int32) : Mg_ways (Ms_subject u v) = Mg_ways u := rfl
theorem Mq_rowOps_subject (u : MS) (v : Int32) : Mg_rowOps (Ms_subject u v) = Mg_rowOps u := rfl
theorem Mq_objects_subject (u : MS) (v : Int32) : Mg_objects (Ms_subject u v) = Mg_objects u := rfl
theorem Mq_turned_subject (u : MS) (v : Int32) : Mg_turned (Ms_subject u v) = Mg_turned u := rfl
theorem Mq_known_subject (u : MS) (v : Int32) : Mg_known (Ms_subject u v) = Mg_known u := rfl
theorem Mq_pile_subject (u : MS) (v : Int32) : Mg_pile (Ms_subject u v) = Mg_pile u := rfl
theorem Mq_leaves_subject (u : MS) (v : Int32) : Mg_leaves (Ms_subject u v) = Mg_leaves u := rfl
theorem Mq_digits_subject (u : MS) (v : Int32) : Mg_digits (Ms_subject u v) = Mg_digits u := rfl
theorem Mq_whole_noted (u : MS) (v : Int32) : Mg_whole (Ms_noted u v) = Mg_whole u := rfl
theorem Mq_thrown_noted (u : MS) (v : Int32) : Mg_thrown (Ms_noted u v) = Mg_thrown u := rfl
theorem Mq_fields_noted (u : MS) (v : Int32) : Mg_fields (Ms_noted u v) = Mg_fields u := rfl
theorem Mq_nodes_noted (u : MS) (v : Int32) : Mg_nodes (Ms_noted u v) = Mg_nodes u := rfl
theorem Mq_names_noted (u : MS) (v : Int32) : Mg_names (Ms_noted u v) = Mg_names u := rfl
theorem Mq_row_noted (u : MS) (v : Int32) : Mg_row (Ms_noted u v) = Mg_row u := rfl
theorem Mq_subject_noted (u : MS) (v : Int32) : Mg_subject (Ms_noted u v) = Mg_subject u := rfl
theorem Mq_noted_noted (u : MS) (v : Int32) : Mg_noted (Ms_noted u v) = v := rfl
theorem Mq_fault_noted (u : MS) (v : Int32) : Mg_fault (Ms_noted u v) = Mg_fault u := rfl
theorem Mq_bytes_noted (u : MS) (v : Int32) : Mg_bytes (Ms_noted u v) = Mg_bytes u := rfl
theorem Mq_categories_noted (u : MS) (v : Int32) : Mg_categories (Ms_noted u v) = Mg_categories u := rfl
theorem Mq_sizes_noted (u : MS) (v : Int32) : Mg_sizes (Ms_noted u v) = Mg_sizes u := rfl
theorem Mq_scales_noted (u : MS) (v : Int32) : Mg_scales (Ms_noted u v) = Mg_scales u := rfl
theorem Mq_weights_noted (u : MS) (v : Int32) : Mg_weights (Ms_noted u v) = Mg_weights u := rfl
theorem Mq_ops_noted (u : MS) (v : Int32) : Mg_ops (Ms_noted u v) = Mg_ops u := rfl
theorem Mq_as_noted (u : MS) (v : Int32) : Mg_as (Ms_noted u v) = Mg_as u := rfl
theorem Mq_bs_noted (u : MS) (v : Int32) : Mg_bs (Ms_noted u v) = Mg_bs u := rfl
theorem Mq_nameFields_noted (u : MS) (v : Int32) : Mg_nameFields (Ms_noted u v) = Mg_nameFields u := rfl
theorem Mq_ranges_noted (u : MS) (v : Int32) : Mg_ranges (Ms_noted u v) = Mg_ranges u := rfl
theorem Mq_lows_noted (u : MS) (v : Int32) : Mg_lows (Ms_noted u v) = Mg_lows u := rfl
theorem Mq_highs_noted (u : MS) (v : Int32) : Mg_highs (Ms_noted u v) = Mg_highs u := rfl
theorem Mq_switches_noted (u : MS) (v : Int32) : Mg_switches (Ms_noted u v) = Mg_switches u := rfl
theorem Mq_ways_noted (u : MS) (v : Int32) : Mg_ways (Ms_noted u v) = Mg_ways u := rfl
theorem Mq_rowOps_noted (u : MS) (v : Int32) : Mg_rowOps (Ms_noted u v) = Mg_rowOps u := rfl
theorem Mq_objects_noted (u : MS) (v : Int32) : Mg_objects (Ms_noted u v) = Mg_objects u := rfl
theorem Mq_turned_noted (u : MS) (v : Int32) : Mg_turned (Ms_noted u v) = Mg_turned u := rfl
theorem Mq_known_noted (u : MS) (v : Int32) : Mg_known (Ms_noted u v) = Mg_known u := rfl
theorem Mq_pile_noted (u : MS) (v : Int32) : Mg_pile (Ms_noted u v) = Mg_pile u := rfl
theorem Mq_leaves_noted (u : MS) (v : Int32) : Mg_leaves (Ms_noted u v) = Mg_leaves u := rfl
theorem Mq_digits_noted (u : MS) (v : Int32) : Mg_digits (Ms_noted u v) = Mg_digits u := rfl
theorem Mq_whole_fault (u : MS) (v : Int32) : Mg_whole (Ms_fault u v) = Mg_whole u := rfl
theorem Mq_thrown_fault (u : MS) (v : Int32) : Mg_thrown (Ms_fault u v) = Mg_thrown u := rfl
theorem Mq_fields_fault (u : MS) (v : Int32) : Mg_fields (Ms_fault u v) = Mg_fields u := rfl
theorem Mq_nodes_fault (u : MS) (v : Int32) : Mg_nodes (Ms_fault u v) = Mg_nodes u := rfl
theorem Mq_names_fault (u : MS) (v : Int32) : Mg_names (Ms_fault u v) = Mg_names u := rfl
theorem Mq_row_fault (u : MS) (v : Int32) : Mg_row (Ms_fault u v) = Mg_row u := rfl
theorem Mq_subject_fault (u : MS) (v : Int32) : Mg_subject (Ms_fault u v) = Mg_subject u := rfl
theorem Mq_noted_fault (u : MS) (v : Int32) : Mg_noted (Ms_fault u v) = Mg_noted u := rfl
theorem Mq_fault_fault (u : MS) (v : Int32) : Mg_fault (Ms_fault u v) = v := rfl
theorem Mq_bytes_fault (u : MS) (v : Int32) : Mg_bytes (Ms_fault u v) = Mg_bytes u := rfl
theorem Mq_categories_fault (u : MS) (v : Int32) : Mg_categories (Ms_fault u v) = Mg_categories u := rfl
theorem Mq_sizes_fault (u : MS) (v : Int32) : Mg_sizes (Ms_fault u v) = Mg_sizes u := rfl
theorem Mq_scales_fault (u : MS) (v : Int32) : Mg_scales (Ms_fault u v) = Mg_scales u := rfl
theorem Mq_weights_fault (u : MS) (v : Int32) : Mg_weights (Ms_fault u v) = Mg_weights u := rfl
theorem Mq_ops_fault (u : MS) (v : Int32) : Mg_ops (Ms_fault u v) = Mg_ops u := rfl
theorem Mq_as_fault (u : MS) (v : Int32) : Mg_as (Ms_fault u v) = Mg_as u := rfl
theorem Mq_bs_fault (u : MS) (v : Int32) : Mg_bs (Ms_fault u v) = Mg_bs u := rfl
theorem Mq_nameFields_fault (u : MS) (v : Int32) : Mg_nameFields (Ms_fault u v) = Mg_nameFields u := rfl
theorem Mq_ranges_fault (u : MS) (v : Int32) : Mg_ranges (Ms_fault u v) = Mg_ranges u := rfl
theorem Mq_lows_fault (u : MS) (v : Int32) : Mg_lows (Ms_fault u v) = Mg_lows u := rfl
theorem Mq_highs_fault (u : MS) (v : Int32) : Mg_highs (Ms_fault u v) = Mg_highs u := rfl
theorem Mq_switches_fault (u : MS) (v : Int32) : Mg_switches (Ms_fault u v) = Mg_switches u := rfl
theorem Mq_ways_fault (u : MS) (v : Int32) : Mg_ways (Ms_fault u v) = Mg_ways u := rfl
theorem Mq_rowOps_fault (u : MS) (v : Int32) : Mg_rowOps (Ms_fault u v) = Mg_rowOps u := rfl
theorem Mq_objects_fault (u : MS) (v : Int32) : Mg_objects (Ms_fault u v) = Mg_objects u := rfl
theorem Mq_turned_fault (u : MS) (v : Int32) : Mg_turned (Ms_fault u v) = Mg_turned u := rfl
theorem Mq_known_fault (u : MS) (v : Int32) : Mg_known (Ms_fault u v) = Mg_known u := rfl
theorem Mq_pile_fault (u : MS) (v : Int32) : Mg_pile (Ms_fault u v) = Mg_pile u := rfl
theorem Mq_leaves_fault (u : MS) (v : Int32) : Mg_leaves (Ms_fault u v) = Mg_leaves u := rfl
theorem Mq_digits_fault (u : MS) (v : Int32) : Mg_digits (Ms_fault u v) = Mg_digits u := rfl
theorem Mq_whole_bytes (u : MS) (v : Nat → Int32) : Mg_whole (Ms_bytes u v) = Mg_whole u := rfl
theorem Mq_thrown_bytes (u : MS) (v : Nat → Int32) : Mg_thrown (Ms_bytes u v) = Mg_thrown u := rfl
theorem Mq_fields_bytes (u : MS) (v : Nat → Int32) : Mg_fields (Ms_bytes u v) = Mg_fields u := rfl
theorem Mq_nodes_bytes (u : MS) (v : Nat → Int32) : Mg_nodes (Ms_bytes u v) = Mg_nodes u := rfl
theorem Mq_names_bytes (u : MS) (v : Nat → Int32) : Mg_names (Ms_bytes u v) = Mg_names u := rfl
theorem Mq_row_bytes (u : MS) (v : Nat → Int32) : Mg_row (Ms_bytes u v) = Mg_row u := rfl
theorem Mq_subject_bytes (u : MS) (v : Nat → Int32) : Mg_subject (Ms_bytes u v) = Mg_subject u := rfl
theorem Mq_noted_bytes (u : MS) (v : Nat → Int32) : Mg_noted (Ms_bytes u v) = Mg_noted u := rfl
theorem Mq_fault_bytes (u : MS) (v : Nat → Int32) : Mg_fault (Ms_bytes u v) = Mg_fault u := rfl
theorem Mq_bytes_bytes (u : MS) (v : Nat → Int32) : Mg_bytes (Ms_bytes u v) = v := rfl
theorem Mq_categories_bytes (u : MS) (v : Nat → Int32) : Mg_categories (Ms_bytes u v) = Mg_categories u := rfl
theorem Mq_sizes_bytes (u : MS) (v : Nat → Int32) : Mg_sizes (Ms_bytes u v) = Mg_sizes u := rfl
theorem Mq_scales_bytes (u : MS) (v : Nat → Int32) : Mg_scales (Ms_bytes u v) = Mg_scales u := rfl
theorem Mq_weights_bytes (u : MS) (v : Nat → Int32) : Mg_weights (Ms_bytes u v) = Mg_weights u := rfl
theorem Mq_ops_bytes (u : MS) (v : Nat → Int32) : Mg_ops (Ms_bytes u v) = Mg_ops u := rfl
theorem Mq_as_bytes (u : MS) (v : Nat → Int32) : Mg_as (Ms_bytes u v) = Mg_as u := rfl
theorem Mq_bs_bytes (u : MS) (v : Nat → Int32) : Mg_bs (Ms_bytes u v) = Mg_bs u := rfl
theorem Mq_nameFields_bytes (u : MS) (v : Nat → Int32) : Mg_nameFields (Ms_bytes u v) = Mg_nameFields u := rfl
theorem Mq_ranges_bytes (u : MS) (v : Nat → Int32) : Mg_ranges (Ms_bytes u v) = Mg_ranges u := rfl
theorem Mq_lows_bytes (u : MS) (v : Nat → Int32) : Mg_lows (Ms_bytes u v) = Mg_lows u := rfl
theorem Mq_highs_bytes (u : MS) (v : Nat → Int32) : Mg_highs (Ms_bytes u v) = Mg_highs u := rfl
theorem Mq_switches_bytes (u : MS) (v : Nat → Int32) : Mg_switches (Ms_bytes u v) = Mg_switches u := rfl
theorem Mq_ways_bytes (u : MS) (v : Nat → Int32) : Mg_ways (Ms_bytes u v) = Mg_ways u := rfl
theorem Mq_rowOps_bytes (u : MS) (v : Nat → Int32) : Mg_rowOps (Ms_bytes u v) = Mg_rowOps u := rfl
theorem Mq_objects_bytes (u : MS) (v : Nat → Int32) : Mg_objects (Ms_bytes u v) = Mg_objects u := rfl
theorem Mq_turned_bytes (u : MS) (v : Nat → Int32) : Mg_turned (Ms_bytes u v) = Mg_turned u := rfl
theorem Mq_known_bytes (u : MS) (v : Nat → Int32) : Mg_known (Ms_bytes u v) = Mg_known u := rfl
theorem Mq_pile_bytes (u : MS) (v : Nat → Int32) : Mg_pile (Ms_bytes u v) = Mg_pile u := rfl
theorem Mq_leaves_bytes (u : MS) (v : Nat → Int32) : Mg_leaves (Ms_bytes u v) = Mg_leaves u := rfl
theorem Mq_digits_bytes (u : MS) (v : Nat → Int32) : Mg_digits (Ms_bytes u v) = Mg_digits u := rfl
theorem Mq_whole_categories (u : MS) (v : Nat → Int32) : Mg_whole (Ms_categories u v) = Mg_whole u := rfl
theorem Mq_thrown_categories (u : MS) (v : Nat → Int32) : Mg_thrown (Ms_categories u v) = Mg_thrown u := rfl
theorem Mq_fields_categories (u : MS) (v : Nat → Int32) : Mg_fields (Ms_categories u v) = Mg_fields u := rfl
theorem Mq_nodes_categories (u : MS) (v : Nat → Int32) : Mg_nodes (Ms_categories u v) = Mg_nodes u := rfl
theorem Mq_names_categories (u : MS) (v : Nat → Int32) : Mg_names (Ms_categories u v) = Mg_names u := rfl
theorem Mq_row_categories (u : MS) (v : Nat → Int32) : Mg_row (Ms_categories u v) = Mg_row u := rfl
theorem Mq_subject_categories (u : MS) (v : Nat → Int32) : Mg_subject (Ms_categories u v) = Mg_subject u := rfl
theorem Mq_noted_categories (u : MS) (v : Nat → Int32) : Mg_noted (Ms_categories u v) = Mg_noted u := rfl
theorem Mq_fault_categories (u : MS) (v : Nat → Int32) : Mg_fault (Ms_categories u v) = Mg_fault u := rfl
theorem Mq_bytes_categories (u : MS) (v : Nat → Int32) : Mg_bytes (Ms_categories u v) = Mg_bytes u := rfl
theorem Mq_categories_categories (u : MS) (v : Nat → Int32) : Mg_categories (Ms_categories u v) = v := rfl
theorem Mq_sizes_categories (u : MS) (v : Nat → Int32) : Mg_sizes (Ms_categories u v) = Mg_sizes u := rfl
theorem Mq_scales_categories (u : MS) (v : Nat → Int32) : Mg_scales (Ms_categories u v) = Mg_scales u := rfl
theorem Mq_weights_categories (u : MS) (v : Nat → Int32) : Mg_weights (Ms_categories u v) = Mg_weights u := rfl
theorem Mq_ops_categories (u : MS) (v : Nat → Int32) : Mg_ops (Ms_categories u v) = Mg_ops u := rfl
theorem Mq_as_categories (u : MS) (v : Nat → Int32) : Mg_as (Ms_categories u v) = Mg_as u := rfl
theorem Mq_bs_categories (u : MS) (v : Nat → Int32) : Mg_bs (Ms_categories u v) = Mg_bs u := rfl
theorem Mq_nameFields_categories (u : MS) (v : Nat → Int32) : Mg_nameFields (Ms_categories u v) = Mg_nameFields u := rfl
theorem Mq_ranges_categories (u : MS) (v : Nat → Int32) : Mg_ranges (Ms_categories u v) = Mg_ranges u := rfl
theorem Mq_lows_categories (u : MS) (v : Nat → Int32) : Mg_lows (Ms_categories u v) = Mg_lows u := rfl
theorem Mq_highs_categories (u : MS) (v : Nat → Int32) : Mg_highs (Ms_categories u v) = Mg_highs u := rfl
theorem Mq_switches_categories (u : MS) (v : Nat → Int32) : Mg_switches (Ms_categories u v) = Mg_switches u := rfl
theorem Mq_ways_categories (u : MS) (v : Nat → Int32) : Mg_ways (Ms_categories u v) = Mg_ways u := rfl
theorem Mq_rowOps_categories (u : MS) (v : Nat → Int32) : Mg_rowOps (Ms_categories u v) = Mg_rowOps u := rfl
theorem Mq_objects_categories (u : MS) (v : Nat → Int32) : Mg_objects (Ms_categories u v) = Mg_objects u := rfl
theorem Mq_turned_categories (u : MS) (v : Nat → Int32) : Mg_turned (Ms_categories u v) = Mg_turned u := rfl
theorem Mq_known_categories (u : MS) (v : Nat → Int32) : Mg_known (Ms_categories u v) = Mg_known u := rfl
theorem Mq_pile_categories (u : MS) (v : Nat → Int32) : Mg_pile (Ms_categories u v) = Mg_pile u := rfl
theorem Mq_leaves_categories (u : MS) (v : Nat → Int32) : Mg_leaves (Ms_categories u v) = Mg_leaves u := rfl
theorem Mq_digits_categories (u : MS) (v : Nat → Int32) : Mg_digits (Ms_categories u v) = Mg_digits u := rfl
theorem Mq_whole_sizes (u : MS) (v : Nat → Int32) : Mg_whole (Ms_sizes u v) = Mg_whole u := rfl
theorem Mq_thrown_sizes (u : MS) (v : Nat → Int32) : Mg_thrown (Ms_sizes u v) = Mg_thrown u := rfl
theorem Mq_fields_sizes (u : MS) (v : Nat → Int32) : Mg_fields (Ms_sizes u v) = Mg_fields u := rfl
theorem Mq_nodes_sizes (u : MS) (v : Nat → Int32) : Mg_nodes (Ms_sizes u v) = Mg_nodes u := rfl
theorem Mq_names_sizes (u : MS) (v : Nat → Int32) : Mg_names (Ms_sizes u v) = Mg_names u := rfl
theorem Mq_row_sizes (u : MS) (v : Nat → Int32) : Mg_row (Ms_sizes u v) = Mg_row u := rfl
theorem Mq_subject_sizes (u : MS) (v : Nat → Int32) : Mg_subject (Ms_sizes u v) = Mg_subject u := rfl
theorem Mq_noted_sizes (u : MS) (v : Nat → Int32) : Mg_noted (Ms_sizes u v) = Mg_noted u := rfl
theorem Mq_fault_sizes (u : MS) (v : Nat → Int32) : Mg_fault (Ms_sizes u v) = Mg_fault u := rfl
theorem Mq_bytes_sizes (u : MS) (v : Nat → Int32) : Mg_bytes (Ms_sizes u v) = Mg_bytes u := rfl
theorem Mq_categories_sizes (u : MS) (v : Nat → Int32) : Mg_categories (Ms_sizes u v) = Mg_categories u := rfl
theorem Mq_sizes_sizes (u : MS) (v : Nat → Int32) : Mg_sizes (Ms_sizes u v) = v := rfl
theorem Mq_scales_sizes (u : MS) (v : Nat → Int32) : Mg_scales (Ms_sizes u v) = Mg_scales u := rfl
theorem Mq_weights_sizes (u : MS) (v : Nat → Int32) : Mg_weights (Ms_sizes u v) = Mg_weights u := rfl
theorem Mq_ops_sizes (u : MS) (v : Nat → Int32) : Mg_ops (Ms_sizes u v) = Mg_ops u := rfl
theorem Mq_as_sizes (u : MS) (v : Nat → Int32) : Mg_as (Ms_sizes u v) = Mg_as u := rfl
theorem Mq_bs_sizes (u : MS) (v : Nat → Int32) : Mg_bs (Ms_sizes u v) = Mg_bs u := rfl
theorem Mq_nameFields_sizes (u : MS) (v : Nat → Int32) : Mg_nameFields (Ms_sizes u v) = Mg_nameFields u := rfl
theorem Mq_ranges_sizes (u : MS) (v : Nat → Int32) : Mg_ranges (Ms_sizes u v) = Mg_ranges u := rfl
theorem Mq_lows_sizes (u : MS) (v : Nat → Int32) : Mg_lows (Ms_sizes u v) = Mg_lows u := rfl
theorem Mq_highs_sizes (u : MS) (v : Nat → Int32) : Mg_highs (Ms_sizes u v) = Mg_highs u := rfl
theorem Mq_switches_sizes (u : MS) (v : Nat → Int32) : Mg_switches (Ms_sizes u v) = Mg_switches u := rfl
theorem Mq_ways_sizes (u : MS) (v : Nat → Int32) : Mg_ways (Ms_sizes u v) = Mg_ways u := rfl
theorem Mq_rowOps_sizes (u : MS) (v : Nat → Int32) : Mg_rowOps (Ms_sizes u v) = Mg_rowOps u := rfl
theorem Mq_objects_sizes (u : MS) (v : Nat → Int32) : Mg_objects (Ms_sizes u v) = Mg_objects u := rfl
theorem Mq_turned_sizes (u : MS) (v : Nat → Int32) : Mg_turned (Ms_sizes u v) = Mg_turned u := rfl
theorem Mq_known_sizes (u : MS) (v : Nat → Int32) : Mg_known (Ms_sizes u v) = Mg_known u := rfl
theorem Mq_pile_sizes (u : MS) (v : Nat → Int32) : Mg_pile (Ms_sizes u v) = Mg_pile u := rfl
theorem Mq_leaves_sizes (u : MS) (v : Nat → Int32) : Mg_leaves (Ms_sizes u v) = Mg_leaves u := rfl
theorem Mq_digits_sizes (u : MS) (v : Nat → Int32) : Mg_digits (Ms_sizes u v) = Mg_digits u := rfl
theorem Mq_whole_scales (u : MS) (v : Nat → Int32) : Mg_whole (Ms_scales u v) = Mg_whole u := rfl
theorem Mq_thrown_scales (u : MS) (v : Nat → Int32) : Mg_thrown (Ms_scales u v) = Mg_thrown u := rfl
theorem Mq_fields_scales (u : MS) (v : Nat → Int32) : Mg_fields (Ms_scales u v) = Mg_fields u := rfl
theorem Mq_nodes_scales (u : MS) (v : Nat → Int32) : Mg_nodes (Ms_scales u v) = Mg_nodes u := rfl
theorem Mq_names_scales (u : MS) (v : Nat → Int32) : Mg_names (Ms_scales u v) = Mg_names u := rfl
theorem Mq_row_scales (u : MS) (v : Nat → Int32) : Mg_row (Ms_scales u v) = Mg_row u := rfl
theorem Mq_subject_scales (u : MS) (v : Nat → Int32) : Mg_subject (Ms_scales u v) = Mg_subject u := rfl
theorem Mq_noted_scales (u : MS) (v : Nat → Int32) : Mg_noted (Ms_scales u v) = Mg_noted u := rfl
theorem Mq_fault_scales (u : MS) (v : Nat → Int32) : Mg_fault (Ms_scales u v) = Mg_fault u := rfl
theorem Mq_bytes_scales (u : MS) (v : Nat → Int32) : Mg_bytes (Ms_scales u v) = Mg_bytes u := rfl
theorem Mq_categories_scales (u : MS) (v : Nat → Int32) : Mg_categories (Ms_scales u v) = Mg_categories u := rfl
theorem Mq_sizes_scales (u : MS) (v : Nat → Int32) : Mg_sizes (Ms_scales u v) = Mg_sizes u := rfl
theorem Mq_scales_scales (u : MS) (v : Nat → Int32) : Mg_scales (Ms_scales u v) = v := rfl
theorem Mq_weights_scales (u : MS) (v : Nat → Int32) : Mg_weights (Ms_scales u v) = Mg_weights u := rfl
theorem Mq_ops_scales (u : MS) (v : Nat → Int32) : Mg_ops (Ms_scales u v) = Mg_ops u := rfl
theorem Mq_as_scales (u : MS) (v : Nat → Int32) : Mg_as (Ms_scales u v) = Mg_as u := rfl
theorem Mq_bs_scales (u : MS) (v : Nat → Int32) : Mg_bs (Ms_scales u v) = Mg_bs u := rfl
theorem Mq_nameFields_scales (u : MS) (v : Nat → Int32) : Mg_nameFields (Ms_scales u v) = Mg_nameFields u := rfl
theorem Mq_ranges_scales (u : MS) (v : Nat → Int32) : Mg_ranges (Ms_scales u v) = Mg_ranges u := rfl
theorem Mq_lows_scales (u : MS) (v : Nat → Int32) : Mg_lows (Ms_scales u v) = Mg_lows u := rfl
theorem Mq_highs_scales (u : MS) (v : Nat → Int32) : Mg_highs (Ms_scales u v) = Mg_highs u := rfl
theorem Mq_switches_scales (u : MS) (v : Nat → Int32) : Mg_switches (Ms_scales u v) = Mg_switches u := rfl
theorem Mq_ways_scales (u : MS) (v : Nat → Int32) : Mg_ways (Ms_scales u v) = Mg_ways u := rfl
theorem Mq_rowOps_scales (u : MS) (v : Nat → Int32) : Mg_rowOps (Ms_scales u v) = Mg_rowOps u := rfl
theorem Mq_objects_scales (u : MS) (v : Nat → Int32) : Mg_objects (Ms_scales u v) = Mg_objects u := rfl
theorem Mq_turned_scales (u : MS) (v : Nat → Int32) : Mg_turned (Ms_scales u v) = Mg_turned u := rfl
theorem Mq_known_scales (u : MS) (v : Nat → Int32) : Mg_known (Ms_scales u v) = Mg_known u := rfl
theorem Mq_pile_scales (u : MS) (v : Nat → Int32) : Mg_pile (Ms_scales u v) = Mg_pile u := rfl
theorem Mq_leaves_scales (u : MS) (v : Nat → Int32) : Mg_leaves (Ms_scales u v) = Mg_leaves u := rfl
theorem Mq_digits_scales (u : MS) (v : Nat → Int32) : Mg_digits (Ms_scales u v) = Mg_digits u := rfl
theorem Mq_whole_weights (u : MS) (v : Nat → Int32) : Mg_whole (Ms_weights u v) = Mg_whole u := rfl
theorem Mq_thrown_weights (u : MS) (v : Nat → Int32) : Mg_thrown (Ms_weights u v) = Mg_thrown u := rfl
theorem Mq_fields_weights (u : MS) (v : Nat → Int32) : Mg_fields (Ms_weights u v) = Mg_fields u := rfl
theorem Mq_nodes_weights (u : MS) (v : Nat → Int32) : Mg_nodes (Ms_weights u v) = Mg_nodes u := rfl
theorem Mq_names_weights (u : MS) (v : Nat → Int32) : Mg_names (Ms_weights u v) = Mg_names u := rfl
theorem Mq_row_weights (u : MS) (v : Nat → Int32) : Mg_row (Ms_weights u v) = Mg_row u := rfl
theorem Mq_subject_weights (u : MS) (v : Nat → Int32) : Mg_subject (Ms_weights u v) = Mg_subject u := rfl
theorem Mq_noted_weights (u : MS) (v : Nat → Int32) : Mg_noted (Ms_weights u v) = Mg_noted u := rfl
theorem Mq_fault_weights (u : MS) (v : Nat → Int32) : Mg_fault (Ms_weights u v) = Mg_fault u := rfl
theorem Mq_bytes_weights (u : MS) (v : Nat → Int32) : Mg_bytes (Ms_weights u v) = Mg_bytes u := rfl
theorem Mq_categories_weights (u : MS) (v : Nat → Int32) : Mg_categories (Ms_weights u v) = Mg_categories u := rfl
theorem Mq_sizes_weights (u : MS) (v : Nat → Int32) : Mg_sizes (Ms_weights u v) = Mg_sizes u := rfl
theorem Mq_scales_weights (u : MS) (v : Nat → Int32) : Mg_scales (Ms_weights u v) = Mg_scales u := rfl
theorem Mq_weights_weights (u : MS) (v : Nat → Int32) : Mg_weights (Ms_weights u v) = v := rfl
theorem Mq_ops_weights (u : MS) (v : Nat → Int32) : Mg_ops (Ms_weights u v) = Mg_ops u := rfl
theorem Mq_as_weights (u : MS) (v : Nat → Int32) : Mg_as (Ms_weights u v) = Mg_as u := rfl
theorem Mq_bs_weights (u : MS) (v : Nat → Int32) : Mg_bs (Ms_weights u v) = Mg_bs u := rfl
theorem Mq_nameFields_weights (u : MS) (v : Nat → Int32) : Mg_nameFields (Ms_weights u v) = Mg_nameFields u := rfl
theorem Mq_ranges_weights (u : MS) (v : Nat → Int32) : Mg_ranges (Ms_weights u v) = Mg_ranges u := rfl
theorem Mq_lows_weights (u : MS) (v : Nat → Int32) : Mg_lows (Ms_weights u v) = Mg_lows u := rfl
theorem Mq_highs_weights (u : MS) (v : Nat → Int32) : Mg_highs (Ms_weights u v) = Mg_highs u := rfl
theorem Mq_switches_weights (u : MS) (v : Nat → Int32) : Mg_switches (Ms_weights u v) = Mg_switches u := rfl
theorem Mq_ways_weights (u : MS) (v : Nat → Int32) : Mg_ways (Ms_weights u v) = Mg_ways u := rfl
theorem Mq_rowOps_weights (u : MS) (v : Nat → Int32) : Mg_rowOps (Ms_weights u v) = Mg_rowOps u := rfl
theorem Mq_objects_weights (u : MS) (v : Nat → Int32) : Mg_objects (Ms_weights u v) = Mg_objects u := rfl
theorem Mq_turned_weights (u : MS) (v : Nat → Int32) : Mg_turned (Ms_weights u v) = Mg_turned u := rfl
theorem Mq_known_weights (u : MS) (v : Nat → Int32) : Mg_known (Ms_weights u v) = Mg_known u := rfl
theorem Mq_pile_weights (u : MS) (v : Nat → Int32) : Mg_pile (Ms_weights u v) = Mg_pile u := rfl
theorem Mq_leaves_weights (u : MS) (v : Nat → Int32) : Mg_leaves (Ms_weights u v) = Mg_leaves u := rfl
theorem Mq_digits_weights (u : MS) (v : Nat → Int32) : Mg_digits (Ms_weights u v) = Mg_digits u := rfl
theorem Mq_whole_ops (u : MS) (v : Nat → Int32) : Mg_whole (Ms_ops u v) = Mg_whole u := rfl
theorem Mq_thrown_ops (u : MS) (v : Nat → Int32) : Mg_thrown (Ms_ops u v) = Mg_thrown u := rfl
theorem Mq_fields_ops (u : MS) (v : Nat → Int32) : Mg_fields (Ms_ops u v) = Mg_fields u := rfl
theorem Mq_nodes_ops (u : MS) (v : Nat → Int32) : Mg_nodes (Ms_ops u v) = Mg_nodes u := rfl
theorem Mq_names_ops (u : MS) (v : Nat → Int32) : Mg_names (Ms_ops u v) = Mg_names u := rfl
theorem Mq_row_ops (u : MS) (v : Nat → Int32) : Mg_row (Ms_ops u v) = Mg_row u := rfl
theorem Mq_subject_ops (u : MS) (v : Nat → Int32) : Mg_subject (Ms_ops u v) = Mg_subject u := rfl
theorem Mq_noted_ops (u : MS) (v : Nat → Int32) : Mg_noted (Ms_ops u v) = Mg_noted u := rfl
theorem Mq_fault_ops (u : MS) (v : Nat → Int32) : Mg_fault (Ms_ops u v) = Mg_fault u := rfl
theorem Mq_bytes_ops (u : MS) (v : Nat → Int32) : Mg_bytes (Ms_ops u v) = Mg_bytes u := rfl
theorem Mq_categories_ops (u : MS) (v : Nat → Int32) : Mg_categories (Ms_ops u v) = Mg_categories u := rfl
theorem Mq_sizes_ops (u : MS) (v : Nat → Int32) : Mg_sizes (Ms_ops u v) = Mg_sizes u := rfl
theorem Mq_scales_ops (u : MS) (v : Nat → Int32) : Mg_scales (Ms_ops u v) = Mg_scales u := rfl
theorem Mq_weights_ops (u : MS) (v : Nat → Int32) : Mg_weights (Ms_ops u v) = Mg_weights u := rfl
theorem Mq_ops_ops (u : MS) (v : Nat → Int32) : Mg_ops (Ms_ops u v) = v := rfl
theorem Mq_as_ops (u : MS) (v : Nat → Int32) : Mg_as (Ms_ops u v) = Mg_as u := rfl
theorem Mq_bs_ops (u : MS) (v : Nat → Int32) : Mg_bs (Ms_ops u v) = Mg_bs u := rfl
theorem Mq_nameFields_ops (u : MS) (v : Nat → Int32) : Mg_nameFields (Ms_ops u v) = Mg_nameFields u := rfl
theorem Mq_ranges_ops (u : MS) (v : Nat → Int32) : Mg_ranges (Ms_ops u v) = Mg_ranges u := rfl
theorem Mq_lows_ops (u : MS) (v : Nat → Int32) : Mg_lows (Ms_ops u v) = Mg_lows u := rfl
theorem Mq_highs_ops (u : MS) (v : Nat → Int32) : Mg_highs (Ms_ops u v) = Mg_highs u := rfl
theorem Mq_switches_ops (u : MS) (v : Nat → Int32) : Mg_switches (Ms_ops u v) = Mg_switches u := rfl
theorem Mq_ways_ops (u : MS) (v : Nat → Int32) : Mg_ways (Ms_ops u v) = Mg_ways u := rfl
theorem Mq_rowOps_ops (u : MS) (v : Nat → Int32) : Mg_rowOps (Ms_ops u v) = Mg_rowOps u := rfl
theorem Mq_objects_ops (u : MS) (v : Nat → Int32) : Mg_objects (Ms_ops u v) = Mg_objects u := rfl
theorem Mq_turned_ops (u : MS) (v : Nat → Int32) : Mg_turned (Ms_ops u v) = Mg_turned u := rfl
theorem Mq_known_ops (u : MS) (v : Nat → Int32) : Mg_known (Ms_ops u v) = Mg_known u := rfl
theorem Mq_pile_ops (u : MS) (v : Nat → Int32) : Mg_pile (Ms_ops u v) = Mg_pile u := rfl
theorem Mq_leaves_ops (u : MS) (v : Nat → Int32) : Mg_leaves (Ms_ops u v) = Mg_leaves u := rfl
theorem Mq_digits_ops (u : MS) (v : Nat → Int32) : Mg_digits (Ms_ops u v) = Mg_digits u := rfl
theorem Mq_whole_as (u : MS) (v : Nat → Int32) : Mg_whole (Ms_as u v) = Mg_whole u := rfl
theorem Mq_thrown_as (u : MS) (v : Nat → Int32) : Mg_thrown (Ms_as u v) = Mg_thrown u := rfl
theorem Mq_fields_as (u : MS) (v : Nat → Int32) : Mg_fields (Ms_as u v) = Mg_fields u := rfl
theorem Mq_nodes_as (u : MS) (v : Nat → Int32) : Mg_nodes (Ms_as u v) = Mg_nodes u := rfl
theorem Mq_names_as (u : MS) (v : Nat → Int32) : Mg_names (Ms_as u v) = Mg_names u := rfl
theorem Mq_row_as (u : MS) (v : Nat → Int32) : Mg_row (Ms_as u v) = Mg_row u := rfl
theorem Mq_subject_as (u : MS) (v : Nat → Int32) : Mg_subject (Ms_as u v) = Mg_subject u := rfl
theorem Mq_noted_as (u : MS) (v : Nat → Int32) : Mg_noted (Ms_as u v) = Mg_noted u := rfl
theorem Mq_fault_as (u : MS) (v : Nat → Int32) : Mg_fault (Ms_as u v) = Mg_fault u := rfl
theorem Mq_bytes_as (u : MS) (v : Nat → Int32) : Mg_bytes (Ms_as u v) = Mg_bytes u := rfl
theorem Mq_categories_as (u : MS) (v : Nat → Int32) : Mg_categories (Ms_as u v) = Mg_categories u := rfl
theorem Mq_sizes_as (u : MS) (v : Nat → Int32) : Mg_sizes (Ms_as u v) = Mg_sizes u := rfl
theorem Mq_scales_as (u : MS) (v : Nat → Int32) : Mg_scales (Ms_as u v) = Mg_scales u := rfl
theorem Mq_weights_as (u : MS) (v : Nat → Int32) : Mg_weights (Ms_as u v) = Mg_weights u := rfl
theorem Mq_ops_as (u : MS) (v : Nat → Int32) : Mg_ops (Ms_as u v) = Mg_ops u := rfl
theorem Mq_as_as (u : MS) (v : Nat → Int32) : Mg_as (Ms_as u v) = v := rfl
theorem Mq_bs_as (u : MS) (v : Nat → Int32) : Mg_bs (Ms_as u v) = Mg_bs u := rfl
theorem Mq_nameFields_as (u : MS) (v : Nat → Int32) : Mg_nameFields (Ms_as u v) = Mg_nameFields u := rfl
theorem Mq_ranges_as (u : MS) (v : Nat → Int32) : Mg_ranges (Ms_as u v) = Mg_ranges u := rfl
theorem Mq_lows_as (u : MS) (v : Nat → Int32) : Mg_lows (Ms_as u v) = Mg_lows u := rfl
theorem Mq_highs_as (u : MS) (v : Nat → Int32) : Mg_highs (Ms_as u v) = Mg_highs u := rfl
theorem Mq_switches_as (u : MS) (v : Nat → Int32) : Mg_switches (Ms_as u v) = Mg_switches u := rfl
theorem Mq_ways_as (u : MS) (v : Nat → Int32) : Mg_ways (Ms_as u v) = Mg_ways u := rfl
theorem Mq_rowOps_as (u : MS) (v : Nat → Int32) : Mg_rowOps (Ms_as u v) = Mg_rowOps u := rfl
theorem Mq_objects_as (u : MS) (v : Nat → Int32) : Mg_objects (Ms_as u v) = Mg_objects u := rfl
theorem Mq_turned_as (u : MS) (v : Nat → Int32) : Mg_turned (Ms_as u v) = Mg_turned u := rfl
theorem Mq_known_as (u : MS) (v : Nat → Int32) : Mg_known (Ms_as u v) = Mg_known u := rfl
theorem Mq_pile_as (u : MS) (v : Nat → Int32) : Mg_pile (Ms_as u v) = Mg_pile u := rfl
theorem Mq_leaves_as (u : MS) (v : Nat → Int32) : Mg_leaves (Ms_as u v) = Mg_leaves u := rfl
theorem Mq_digits_as (u : MS) (v : Nat → Int32) : Mg_digits (Ms_as u v) = Mg_digits u := rfl
theorem Mq_whole_bs (u : MS) (v : Nat → Int32) : Mg_whole (Ms_bs u v) = Mg_whole u := rfl
theorem Mq_thrown_bs (u : MS) (v : Nat → Int32) : Mg_thrown (Ms_bs u v) = Mg_thrown u := rfl
theorem Mq_fields_bs (u : MS) (v : Nat → Int32) : Mg_fields (Ms_bs u v) = Mg_fields u := rfl
theorem Mq_nodes_bs (u : MS) (v : Nat → Int32) : Mg_nodes (Ms_bs u v) = Mg_nodes u := rfl
theorem Mq_names_bs (u : MS) (v : Nat → Int32) : Mg_names (Ms_bs u v) = Mg_names u := rfl
theorem Mq_row_bs (u : MS) (v : Nat → Int32) : Mg_row (Ms_bs u v) = Mg_row u := rfl
theorem Mq_subject_bs (u : MS) (v : Nat → Int32) : Mg_subject (Ms_bs u v) = Mg_subject u := rfl
theorem Mq_noted_bs (u : MS) (v : Nat → Int32) : Mg_noted (Ms_bs u v) = Mg_noted u := rfl
theorem Mq_fault_bs (u : MS) (v : Nat → Int32) : Mg_fault (Ms_bs u v) = Mg_fault u := rfl
theorem Mq_bytes_bs (u : MS) (v : Nat → Int32) : Mg_bytes (Ms_bs u v) = Mg_bytes u := rfl
theorem Mq_categories_bs (u : MS) (v : Nat → Int32) : Mg_categories (Ms_bs u v) = Mg_categories u := rfl
theorem Mq_sizes_bs (u : MS) (v : Nat → Int32) : Mg_sizes (Ms_bs u v) = Mg_sizes u := rfl
theorem Mq_scales_bs (u : MS) (v : Nat → Int32) : Mg_scales (Ms_bs u v) = Mg_scales u := rfl
theorem Mq_weights_bs (u : MS) (v : Nat → Int32) : Mg_weights (Ms_bs u v) = Mg_weights u := rfl
theorem Mq_ops_bs (u : MS) (v : Nat → Int32) : Mg_ops (Ms_bs u v) = Mg_ops u := rfl
theorem Mq_as_bs (u : MS) (v : Nat → Int32) : Mg_as (Ms_bs u v) = Mg_as u := rfl
theorem Mq_bs_bs (u : MS) (v : Nat → Int32) : Mg_bs (Ms_bs u v) = v := rfl
theorem Mq_nameFields_bs (u : MS) (v : Nat → Int32) : Mg_nameFields (Ms_bs u v) = Mg_nameFields u := rfl
theorem Mq_ranges_bs (u : MS) (v : Nat → Int32) : Mg_ranges (Ms_bs u v) = Mg_ranges u := rfl
theorem Mq_lows_bs (u : MS) (v : Nat → Int32) : Mg_lows (Ms_bs u v) = Mg_lows u := rfl
theorem Mq_highs_bs (u : MS) (v : Nat → Int32) : Mg_highs (Ms_bs u v) = Mg_highs u := rfl
theorem Mq_switches_bs (u : MS) (v : Nat → Int32) : Mg_switches (Ms_bs u v) = Mg_switches u := rfl
theorem Mq_ways_bs (u : MS) (v : Nat → Int32) : Mg_ways (Ms_bs u v) = Mg_ways u := rfl
theorem Mq_rowOps_bs (u : MS) (v : Nat → Int32) : Mg_rowOps (Ms_bs u v) = Mg_rowOps u := rfl
theorem Mq_objects_bs (u : MS) (v : Nat → Int32) : Mg_objects (Ms_bs u v) = Mg_objects u := rfl
theorem Mq_turned_bs (u : MS) (v : Nat → Int32) : Mg_turned (Ms_bs u v) = Mg_turned u := rfl
theorem Mq_known_bs (u : MS) (v : Nat → Int32) : Mg_known (Ms_bs u v) = Mg_known u := rfl
theorem Mq_pile_bs (u : MS) (v : Nat → Int32) : Mg_pile (Ms_bs u v) = Mg_pile u := rfl
theorem Mq_leaves_bs (u : MS) (v : Nat → Int32) : Mg_leaves (Ms_bs u v) = Mg_leaves u := rfl
theorem Mq_digits_bs (u : MS) (v : Nat → Int32) : Mg_digits (Ms_bs u v) = Mg_digits u := rfl
theorem Mq_whole_nameFields (u : MS) (v : Nat → Int32) : Mg_whole (Ms_nameFields u v) = Mg_whole u := rfl
theorem Mq_thrown_nameFields (u : MS) (v : Nat → Int32) : Mg_thrown (Ms_nameFields u v) = Mg_thrown u := rfl
theorem Mq_fields_nameFields (u : MS) (v : Nat → Int32) : Mg_fields (Ms_nameFields u v) = Mg_fields u := rfl
theorem Mq_nodes_nameFields (u : MS) (v : Nat → Int32) : Mg_nodes (Ms_nameFields u v) = Mg_nodes u := rfl
theorem Mq_names_nameFields (u : MS) (v : Nat → Int32) : Mg_names (Ms_nameFields u v) = Mg_names u := rfl
theorem Mq_row_nameFields (u : MS) (v : Nat → Int32) : Mg_row (Ms_nameFields u v) = Mg_row u := rfl
theorem Mq_subject_nameFields (u : MS) (v : Nat → Int32) : Mg_subject (Ms_nameFields u v) = Mg_subject u := rfl
theorem Mq_noted_nameFields (u : MS) (v : Nat → Int32) : Mg_noted (Ms_nameFields u v) = Mg_noted u := rfl
theorem Mq_fault_nameFields (u : MS) (v : Nat → Int32) : Mg_fault (Ms_nameFields u v) = Mg_fault u := rfl
theorem Mq_bytes_nameFields (u : MS) (v : Nat → Int32) : Mg_bytes (Ms_nameFields u v) = Mg_bytes u := rfl
theorem Mq_categories_nameFields (u : MS) (v : Nat → Int32) : Mg_categories (Ms_nameFields u v) = Mg_categories u := rfl
theorem Mq_sizes_nameFields (u : MS) (v : Nat → Int32) : Mg_sizes (Ms_nameFields u v) = Mg_sizes u := rfl
theorem Mq_scales_nameFields (u : MS) (v : Nat → Int32) : Mg_scales (Ms_nameFields u v) = Mg_scales u := rfl
theorem Mq_weights_nameFields (u : MS) (v : Nat → Int32) : Mg_weights (Ms_nameFields u v) = Mg_weights u := rfl
theorem Mq_ops_nameFields (u : MS) (v : Nat → Int32) : Mg_ops (Ms_nameFields u v) = Mg_ops u := rfl
theorem Mq_as_nameFields (u : MS) (v : Nat → Int32) : Mg_as (Ms_nameFields u v) = Mg_as u := rfl
theorem Mq_bs_nameFields (u : MS) (v : Nat → Int32) : Mg_bs (Ms_nameFields u v) = Mg_bs u := rfl
theorem Mq_nameFields_nameFields (u : MS) (v : Nat → Int32) : Mg_nameFields (Ms_nameFields u v) = v := rfl
theorem Mq_ranges_nameFields (u : MS) (v : Nat → Int32) : Mg_ranges (Ms_nameFields u v) = Mg_ranges u := rfl
theorem Mq_lows_nameFields (u : MS) (v : Nat → Int32) : Mg_lows (Ms_nameFields u v) = Mg_lows u := rfl
theorem Mq_highs_nameFields (u : MS) (v : Nat → Int32) : Mg_highs (Ms_nameFields u v) = Mg_highs u := rfl
theorem Mq_switches_nameFields (u : MS) (v : Nat → Int32) : Mg_switches (Ms_nameFields u v) = Mg_switches u := rfl
theorem Mq_ways_nameFields (u : MS) (v : Nat → Int32) : Mg_ways (Ms_nameFields u v) = Mg_ways u := rfl
theorem Mq_rowOps_nameFields (u : MS) (v : Nat → Int32) : Mg_rowOps (Ms_nameFields u v) = Mg_rowOps u := rfl
theorem Mq_objects_nameFields (u : MS) (v : Nat → Int32) : Mg_objects (Ms_nameFields u v) = Mg_objects u := rfl
theorem Mq_turned_nameFields (u : MS) (v : Nat → Int32) : Mg_turned (Ms_nameFields u v) = Mg_turned u := rfl
theorem Mq_known_nameFields (u : MS) (v : Nat → Int32) : Mg_known (Ms_nameFields u v) = Mg_known u := rfl
theorem Mq_pile_nameFields (u : MS) (v : Nat → Int32) : Mg_pile (Ms_nameFields u v) = Mg_pile u := rfl
theorem Mq_leaves_nameFields (u : MS) (v : Nat → Int32) : Mg_leaves (Ms_nameFields u v) = Mg_leaves u := rfl
theorem Mq_digits_nameFields (u : MS) (v : Nat → Int32) : Mg_digits (Ms_nameFields u v) = Mg_digits u := rfl
theorem Mq_whole_ranges (u : MS) (v : Nat → Int32) : Mg_whole (Ms_ranges u v) = Mg_whole u := rfl
theorem Mq_thrown_ranges (u : MS) (v : Nat → Int32) : Mg_thrown (Ms_ranges u v) = Mg_thrown u := rfl
theorem Mq_fields_ranges (u : MS) (v : Nat → Int32) : Mg_fields (Ms_ranges u v) = Mg_fields u := rfl
theorem Mq_nodes_ranges (u : MS) (v : Nat → Int32) : Mg_nodes (Ms_ranges u v) = Mg_nodes u := rfl
theorem Mq_names_ranges (u : MS) (v : Nat → Int32) : Mg_names (Ms_ranges u v) = Mg_names u := rfl
theorem Mq_row_ranges (u : MS) (v : Nat → Int32) : Mg_row (Ms_ranges u v) = Mg_row u := rfl
theorem Mq_subject_ranges (u : MS) (v : Nat → Int32) : Mg_subject (Ms_ranges u v) = Mg_subject u := rfl
theorem Mq_noted_ranges (u : MS) (v : Nat → Int32) : Mg_noted (Ms_ranges u v) = Mg_noted u := rfl
theorem Mq_fault_ranges (u : MS) (v : Nat → Int32) : Mg_fault (Ms_ranges u v) = Mg_fault u := rfl
theorem Mq_bytes_ranges (u : MS) (v : Nat → Int32) : Mg_bytes (Ms_ranges u v) = Mg_bytes u := rfl
theorem Mq_categories_ranges (u : MS) (v : Nat → Int32) : Mg_categories (Ms_ranges u v) = Mg_categories u := rfl
theorem Mq_sizes_ranges (u : MS) (v : Nat → Int32) : Mg_sizes (Ms_ranges u v) = Mg_sizes u := rfl
theorem Mq_scales_ranges (u : MS) (v : Nat → Int32) : Mg_scales (Ms_ranges u v) = Mg_scales u := rfl
theorem Mq_weights_ranges (u : MS) (v : Nat → Int32) : Mg_weights (Ms_ranges u v) = Mg_weights u := rfl
theorem Mq_ops_ranges (u : MS) (v : Nat → Int32) : Mg_ops (Ms_ranges u v) = Mg_ops u := rfl
theorem Mq_as_ranges (u : MS) (v : Nat → Int32) : Mg_as (Ms_ranges u v) = Mg_as u := rfl
theorem Mq_bs_ranges (u : MS) (v : Nat → Int32) : Mg_bs (Ms_ranges u v) = Mg_bs u := rfl
theorem Mq_nameFields_ranges (u : MS) (v : Nat → Int32) : Mg_nameFields (Ms_ranges u v) = Mg_nameFields u := rfl
theorem Mq_ranges_ranges (u : MS) (v : Nat → Int32) : Mg_ranges (Ms_ranges u v) = v := rfl
theorem Mq_lows_ranges (u : MS) (v : Nat → Int32) : Mg_lows (Ms_ranges u v) = Mg_lows u := rfl
theorem Mq_highs_ranges (u : MS) (v : Nat → Int32) : Mg_highs (Ms_ranges u v) = Mg_highs u := rfl
theorem Mq_switches_ranges (u : MS) (v : Nat → Int32) : Mg_switches (Ms_ranges u v) = Mg_switches u := rfl
theorem Mq_ways_ranges (u : MS) (v : Nat → Int32) : Mg_ways (Ms_ranges u v) = Mg_ways u := rfl
theorem Mq_rowOps_ranges (u : MS) (v : Nat → Int32) : Mg_rowOps (Ms_ranges u v) = Mg_rowOps u := rfl
theorem Mq_objects_ranges (u : MS) (v : Nat → Int32) : Mg_objects (Ms_ranges u v) = Mg_objects u := rfl
theorem Mq_turned_ranges (u : MS) (v : Nat → Int32) : Mg_turned (Ms_ranges u v) = Mg_turned u := rfl
theorem Mq_known_ranges (u : MS) (v : Nat → Int32) : Mg_known (Ms_ranges u v) = Mg_known u := rfl
theorem Mq_pile_ranges (u : MS) (v : Nat → Int32) : Mg_pile (Ms_ranges u v) = Mg_pile u := rfl
theorem Mq_leaves_ranges (u : MS) (v : Nat → Int32) : Mg_leaves (Ms_ranges u v) = Mg_leaves u := rfl
theorem Mq_digits_ranges (u : MS) (v : Nat → Int32) : Mg_digits (Ms_ranges u v) = Mg_digits u := rfl
theorem Mq_whole_lows (u : MS) (v : Nat → Int64) : Mg_whole (Ms_lows u v) = Mg_whole u := rfl
theorem Mq_thrown_lows (u : MS) (v : Nat → Int64) : Mg_thrown (Ms_lows u v) = Mg_thrown u := rfl
theorem Mq_fields_lows (u : MS) (v : Nat → Int64) : Mg_fields (Ms_lows u v) = Mg_fields u := rfl
theorem Mq_nodes_lows (u : MS) (v : Nat → Int64) : Mg_nodes (Ms_lows u v) = Mg_nodes u := rfl
theorem Mq_names_lows (u : MS) (v : Nat → Int64) : Mg_names (Ms_lows u v) = Mg_names u := rfl
theorem Mq_row_lows (u : MS) (v : Nat → Int64) : Mg_row (Ms_lows u v) = Mg_row u := rfl
theorem Mq_subject_lows (u : MS) (v : Nat → Int64) : Mg_subject (Ms_lows u v) = Mg_subject u := rfl
theorem Mq_noted_lows (u : MS) (v : Nat → Int64) : Mg_noted (Ms_lows u v) = Mg_noted u := rfl
theorem Mq_fault_lows (u : MS) (v : Nat → Int64) : Mg_fault (Ms_lows u v) = Mg_fault u := rfl
theorem Mq_bytes_lows (u : MS) (v : Nat → Int64) : Mg_bytes (Ms_lows u v) = Mg_bytes u := rfl
theorem Mq_categories_lows (u : MS) (v : Nat → Int64) : Mg_categories (Ms_lows u v) = Mg_categories u := rfl
theorem Mq_sizes_lows (u : MS) (v : Nat → Int64) : Mg_sizes (Ms_lows u v) = Mg_sizes u := rfl
theorem Mq_scales_lows (u : MS) (v : Nat → Int64) : Mg_scales (Ms_lows u v) = Mg_scales u := rfl
theorem Mq_weights_lows (u : MS) (v : Nat → Int64) : Mg_weights (Ms_lows u v) = Mg_weights u := rfl
theorem Mq_ops_lows (u : MS) (v : Nat → Int64) : Mg_ops (Ms_lows u v) = Mg_ops u := rfl
theorem Mq_as_lows (u : MS) (v : Nat → Int64) : Mg_as (Ms_lows u v) = Mg_as u := rfl
theorem Mq_bs_lows (u : MS) (v : Nat → Int64) : Mg_bs (Ms_lows u v) = Mg_bs u := rfl
theorem Mq_nameFields_lows (u : MS) (v : Nat → Int64) : Mg_nameFields (Ms_lows u v) = Mg_nameFields u := rfl
theorem Mq_ranges_lows (u : MS) (v : Nat → Int64) : Mg_ranges (Ms_lows u v) = Mg_ranges u := rfl
theorem Mq_lows_lows (u : MS) (v : Nat → Int64) : Mg_lows (Ms_lows u v) = v := rfl
theorem Mq_highs_lows (u : MS) (v : Nat → Int64) : Mg_highs (Ms_lows u v) = Mg_highs u := rfl
theorem Mq_switches_lows (u : MS) (v : Nat → Int64) : Mg_switches (Ms_lows u v) = Mg_switches u := rfl
theorem Mq_ways_lows (u : MS) (v : Nat → Int64) : Mg_ways (Ms_lows u v) = Mg_ways u := rfl
theorem Mq_rowOps_lows (u : MS) (v : Nat → Int64) : Mg_rowOps (Ms_lows u v) = Mg_rowOps u := rfl
theorem Mq_objects_lows (u : MS) (v : Nat → Int64) : Mg_objects (Ms_lows u v) = Mg_objects u := rfl
theorem Mq_turned_lows (u : MS) (v : Nat → Int64) : Mg_turned (Ms_lows u v) = Mg_turned u := rfl
theorem Mq_known_lows (u : MS) (v : Nat → Int64) : Mg_known (Ms_lows u v) = Mg_known u := rfl
theorem Mq_pile_lows (u : MS) (v : Nat → Int64) : Mg_pile (Ms_lows u v) = Mg_pile u := rfl
theorem Mq_leaves_lows (u : MS) (v : Nat → Int64) : Mg_leaves (Ms_lows u v) = Mg_leaves u := rfl
theorem Mq_digits_lows (u : MS) (v : Nat → Int64) : Mg_digits (Ms_lows u v) = Mg_digits u := rfl
theorem Mq_whole_highs (u : MS) (v : Nat → Int64) : Mg_whole (Ms_highs u v) = Mg_whole u := rfl
theorem Mq_thrown_highs (u : MS) (v : Nat → Int64) : Mg_thrown (Ms_highs u v) = Mg_thrown u := rfl
theorem Mq_fields_highs (u : MS) (v : Nat → Int64) : Mg_fields (Ms_highs u v) = Mg_fields u := rfl
theorem Mq_nodes_highs (u : MS) (v : Nat → Int64) : Mg_nodes (Ms_highs u v) = Mg_nodes u := rfl
theorem Mq_names_highs (u : MS) (v : Nat → Int64) : Mg_names (Ms_highs u v) = Mg_names u := rfl
theorem Mq_row_highs (u : MS) (v : Nat → Int64) : Mg_row (Ms_highs u v) = Mg_row u := rfl
theorem Mq_subject_highs (u : MS) (v : Nat → Int64) : Mg_subject (Ms_highs u v) = Mg_subject u := rfl
theorem Mq_noted_highs (u : MS) (v : Nat → Int64) : Mg_noted (Ms_highs u v) = Mg_noted u := rfl
theorem Mq_fault_highs (u : MS) (v : Nat → Int64) : Mg_fault (Ms_highs u v) = Mg_fault u := rfl
theorem Mq_bytes_highs (u : MS) (v : Nat → Int64) : Mg_bytes (Ms_highs u v) = Mg_bytes u := rfl
theorem Mq_categories_highs (u : MS) (v : Nat → Int64) : Mg_categories (Ms_highs u v) = Mg_categories u := rfl
theorem Mq_sizes_highs (u : MS) (v : Nat → Int64) : Mg_sizes (Ms_highs u v) = Mg_sizes u := rfl
theorem Mq_scales_highs (u : MS) (v : Nat → Int64) : Mg_scales (Ms_highs u v) = Mg_scales u := rfl
theorem Mq_weights_highs (u : MS) (v : Nat → Int64) : Mg_weights (Ms_highs u v) = Mg_weights u := rfl
theorem Mq_ops_highs (u : MS) (v : Nat → Int64) : Mg_ops (Ms_highs u v) = Mg_ops u := rfl
theorem Mq_as_highs (u : MS) (v : Nat → Int64) : Mg_as (Ms_highs u v) = Mg_as u := rfl
theorem Mq_bs_highs (u : MS) (v : Nat → Int64) : Mg_bs (Ms_highs u v) = Mg_bs u := rfl
theorem Mq_nameFields_highs (u : MS) (v : Nat → Int64) : Mg_nameFields (Ms_highs u v) = Mg_nameFields u := rfl
theorem Mq_ranges_highs (u : MS) (v : Nat → Int64) : Mg_ranges (Ms_highs u v) = Mg_ranges u := rfl
theorem Mq_lows_highs (u : MS) (v : Nat → Int64) : Mg_lows (Ms_highs u v) = Mg_lows u := rfl
theorem Mq_highs_highs (u : MS) (v : Nat → Int64) : Mg_highs (Ms_highs u v) = v := rfl
theorem Mq_switches_highs (u : MS) (v : Nat → Int64) : Mg_switches (Ms_highs u v) = Mg_switches u := rfl
theorem Mq_ways_highs (u : MS) (v : Nat → Int64) : Mg_ways (Ms_highs u v) = Mg_ways u := rfl
theorem Mq_rowOps_highs (u : MS) (v : Nat → Int64) : Mg_rowOps (Ms_highs u v) = Mg_rowOps u := rfl
theorem Mq_objects_highs (u : MS) (v : Nat → Int64) : Mg_objects (Ms_highs u v) = Mg_objects u := rfl
theorem Mq_turned_highs (u : MS) (v : Nat → Int64) : Mg_turned (Ms_highs u v) = Mg_turned u := rfl
theorem Mq_known_highs (u : MS) (v : Nat → Int64) : Mg_known (Ms_highs u v) = Mg_known u := rfl
theorem Mq_pile_highs (u : MS) (v : Nat → Int64) : Mg_pile (Ms_highs u v) = Mg_pile u := rfl
theorem Mq_leaves_highs (u : MS) (v : Nat → Int64) : Mg_leaves (Ms_highs u v) = Mg_leaves u := rfl
theorem Mq_digits_highs (u : MS) (v : Nat → Int64) : Mg_digits (Ms_highs u v) = Mg_digits u := rfl
theorem Mq_whole_switches (u : MS) (v : Nat → Int32) : Mg_whole (Ms_switches u v) = Mg_whole u := rfl
theorem Mq_thrown_switches (u : MS) (v : Nat → Int32) : Mg_thrown (Ms_switches u v) = Mg_thrown u := rfl
theorem Mq_fields_switches (u : MS) (v : Nat → Int32) : Mg_fields (Ms_switches u v) = Mg_fields u := rfl
theorem Mq_nodes_switches (u : MS) (v : Nat → Int32) : Mg_nodes (Ms_switches u v) = Mg_nodes u := rfl
theorem Mq_names_switches (u : MS) (v : Nat → Int32) : Mg_names (Ms_switches u v) = Mg_names u := rfl
theorem Mq_row_switches (u : MS) (v : Nat → Int32) : Mg_row (Ms_switches u v) = Mg_row u := rfl
theorem Mq_subject_switches (u : MS) (v : Nat → Int32) : Mg_subject (Ms_switches u v) = Mg_subject u := rfl
theorem Mq_noted_switches (u : MS) (v : Nat → Int32) : Mg_noted (Ms_switches u v) = Mg_noted u := rfl
theorem Mq_fault_switches (u : MS) (v : Nat → Int32) : Mg_fault (Ms_switches u v) = Mg_fault u := rfl
theorem Mq_bytes_switches (u : MS) (v : Nat → Int32) : Mg_bytes (Ms_switches u v) = Mg_bytes u := rfl
theorem Mq_categories_switches (u : MS) (v : Nat → Int32) : Mg_categories (Ms_switches u v) = Mg_categories u := rfl
theorem Mq_sizes_switches (u : MS) (v : Nat → Int32) : Mg_sizes (Ms_switches u v) = Mg_sizes u := rfl
theorem Mq_scales_switches (u : MS) (v : Nat → Int32) : Mg_scales (Ms_switches u v) = Mg_scales u := rfl
theorem Mq_weights_switches (u : MS) (v : Nat → Int32) : Mg_weights (Ms_switches u v) = Mg_weights u := rfl
theorem Mq_ops_switches (u : MS) (v : Nat → Int32) : Mg_ops (Ms_switches u v) = Mg_ops u := rfl
theorem Mq_as_switches (u : MS) (v : Nat → Int32) : Mg_as (Ms_switches u v) = Mg_as u := rfl
theorem Mq_bs_switches (u : MS) (v : Nat → Int32) : Mg_bs (Ms_switches u v) = Mg_bs u := rfl
theorem Mq_nameFields_switches (u : MS) (v : Nat → Int32) : Mg_nameFields (Ms_switches u v) = Mg_nameFields u := rfl
theorem Mq_ranges_switches (u : MS) (v : Nat → Int32) : Mg_ranges (Ms_switches u v) = Mg_ranges u := rfl
theorem Mq_lows_switches (u : MS) (v : Nat → Int32) : Mg_lows (Ms_switches u v) = Mg_lows u := rfl
theorem Mq_highs_switches (u : MS) (v : Nat → Int32) : Mg_highs (Ms_switches u v) = Mg_highs u := rfl
theorem Mq_switches_switches (u : MS) (v : Nat → Int32) : Mg_switches (Ms_switches u v) = v := rfl
theorem Mq_ways_switches (u : MS) (v : Nat → Int32) : Mg_ways (Ms_switches u v) = Mg_ways u := rfl
theorem Mq_rowOps_switches (u : MS) (v : Nat → Int32) : Mg_rowOps (Ms_switches u v) = Mg_rowOps u := rfl
theorem Mq_objects_switches (u : MS) (v : Nat → Int32) : Mg_objects (Ms_switches u v) = Mg_objects u := rfl
theorem Mq_turned_switches (u : MS) (v : Nat → Int32) : Mg_turned (Ms_switches u v) = Mg_turned u := rfl
theorem Mq_known_switches (u : MS) (v : Nat → Int32) : Mg_known (Ms_switches u v) = Mg_known u := rfl
theorem Mq_pile_switches (u : MS) (v : Nat → Int32) : Mg_pile (Ms_switches u v) = Mg_pile u := rfl
theorem Mq_leaves_switches (u : MS) (v : Nat → Int32) : Mg_leaves (Ms_switches u v) = Mg_leaves u := rfl
theorem Mq_digits_switches (u : MS) (v : Nat → Int32) : Mg_digits (Ms_switches u v) = Mg_digits u := rfl
theorem Mq_whole_ways (u : MS) (v : Nat → Int32) : Mg_whole (Ms_ways u v) = Mg_whole u := rfl
theorem Mq_thrown_ways (u : MS) (v : Nat → Int32) : Mg_thrown (Ms_ways u v) = Mg_thrown u := rfl
theorem Mq_fields_ways (u : MS) (v : Nat → Int32) : Mg_fields (Ms_ways u v) = Mg_fields u := rfl
theorem Mq_nodes_ways (u : MS) (v : Nat → Int32) : Mg_nodes (Ms_ways u v) = Mg_nodes u := rfl
theorem Mq_names_ways (u : MS) (v : Nat → Int32) : Mg_names (Ms_ways u v) = Mg_names u := rfl
theorem Mq_row_ways (u : MS) (v : Nat → Int32) : Mg_row (Ms_ways u v) = Mg_row u := rfl
theorem Mq_subject_ways (u : MS) (v : Nat → Int32) : Mg_subject (Ms_ways u v) = Mg_subject u := rfl
theorem Mq_noted_ways (u : MS) (v : Nat → Int32) : Mg_noted (Ms_ways u v) = Mg_noted u := rfl
theorem Mq_fault_ways (u : MS) (v : Nat → Int32) : Mg_fault (Ms_ways u v) = Mg_fault u := rfl
theorem Mq_bytes_ways (u : MS) (v : Nat → Int32) : Mg_bytes (Ms_ways u v) = Mg_bytes u := rfl
theorem Mq_categories_ways (u : MS) (v : Nat → Int32) : Mg_categories (Ms_ways u v) = Mg_categories u := rfl
theorem Mq_sizes_ways (u : MS) (v : Nat → Int32) : Mg_sizes (Ms_ways u v) = Mg_sizes u := rfl
theorem Mq_scales_ways (u : MS) (v : Nat → Int32) : Mg_scales (Ms_ways u v) = Mg_scales u := rfl
theorem Mq_weights_ways (u : MS) (v : Nat → Int32) : Mg_weights (Ms_ways u v) = Mg_weights u := rfl
theorem Mq_ops_ways (u : MS) (v : Nat → Int32) : Mg_ops (Ms_ways u v) = Mg_ops u := rfl
theorem Mq_as_ways (u : MS) (v : Nat → Int32) : Mg_as (Ms_ways u v) = Mg_as u := rfl
theorem Mq_bs_ways (u : MS) (v : Nat → Int32) : Mg_bs (Ms_ways u v) = Mg_bs u := rfl
theorem Mq_nameFields_ways (u : MS) (v : Nat → Int32) : Mg_nameFields (Ms_ways u v) = Mg_nameFields u := rfl
theorem Mq_ranges_ways (u : MS) (v : Nat → Int32) : Mg_ranges (Ms_ways u v) = Mg_ranges u := rfl
theorem Mq_lows_ways (u : MS) (v : Nat → Int32) : Mg_lows (Ms_ways u v) = Mg_lows u := rfl
theorem Mq_highs_ways (u : MS) (v : Nat → Int32) : Mg_highs (Ms_ways u v) = Mg_highs u := rfl
theorem Mq_switches_ways (u : MS) (v : Nat → Int32) : Mg_switches (Ms_ways u v) = Mg_switches u := rfl
theorem Mq_ways_ways (u : MS) (v : Nat → Int32) : Mg_ways (Ms_ways u v) = v := rfl
theorem Mq_rowOps_ways (u : MS) (v : Nat → Int32) : Mg_rowOps (Ms_ways u v) = Mg_rowOps u := rfl
theorem Mq_objects_ways (u : MS) (v : Nat → Int32) : Mg_objects (Ms_ways u v) = Mg_objects u := rfl
theorem Mq_turned_ways (u : MS) (v : Nat → Int32) : Mg_turned (Ms_ways u v) = Mg_turned u := rfl
theorem Mq_known_ways (u : MS) (v : Nat → Int32) : Mg_known (Ms_ways u v) = Mg_known u := rfl
theorem Mq_pile_ways (u : MS) (v : Nat → Int32) : Mg_pile (Ms_ways u v) = Mg_pile u := rfl
theorem Mq_leaves_ways (u : MS) (v : Nat → Int32) : Mg_leaves (Ms_ways u v) = Mg_leaves u := rfl
theorem Mq_digits_ways (u : MS) (v : Nat → Int32) : Mg_digits (Ms_ways u v) = Mg_digits u := rfl
theorem Mq_whole_rowOps (u : MS) (v : Nat → Int32) : Mg_whole (Ms_rowOps u v) = Mg_whole u := rfl
theorem Mq_thrown_rowOps (u : MS) (v : Nat → Int32) : Mg_thrown (Ms_rowOps u v) = Mg_thrown u := rfl
theorem Mq_fields_rowOps (u : MS) (v : Nat → Int32) : Mg_fields (Ms_rowOps u v) = Mg_fields u := rfl
theorem Mq_nodes_rowOps (u : MS) (v : Nat → Int32) : Mg_nodes (Ms_rowOps u v) = Mg_nodes u := rfl
theorem Mq_names_rowOps (u : MS) (v : Nat → Int32) : Mg_names (Ms_rowOps u v) = Mg_names u := rfl
theorem Mq_row_rowOps (u : MS) (v : Nat → Int32) : Mg_row (Ms_rowOps u v) = Mg_row u := rfl
theorem Mq_subject_rowOps (u : MS) (v : Nat → Int32) : Mg_subject (Ms_rowOps u v) = Mg_subject u := rfl
theorem Mq_noted_rowOps (u : MS) (v : Nat → Int32) : Mg_noted (Ms_rowOps u v) = Mg_noted u := rfl
theorem Mq_fault_rowOps (u : MS) (v : Nat → Int32) : Mg_fault (Ms_rowOps u v) = Mg_fault u := rfl
theorem Mq_bytes_rowOps (u : MS) (v : Nat → Int32) : Mg_bytes (Ms_rowOps u v) = Mg_bytes u := rfl
theorem Mq_categories_rowOps (u : MS) (v : Nat → Int32) : Mg_categories (Ms_rowOps u v) = Mg_categories u := rfl
theorem Mq_sizes_rowOps (u : MS) (v : Nat → Int32) : Mg_sizes (Ms_rowOps u v) = Mg_sizes u := rfl
theorem Mq_scales_rowOps (u : MS) (v : Nat → Int32) : Mg_scales (Ms_rowOps u v) = Mg_scales u := rfl
theorem Mq_weights_rowOps (u : MS) (v : Nat → Int32) : Mg_weights (Ms_rowOps u v) = Mg_weights u := rfl
theorem Mq_ops_rowOps (u : MS) (v : Nat → Int32) : Mg_ops (Ms_rowOps u v) = Mg_ops u := rfl
theorem Mq_as_rowOps (u : MS) (v : Nat → Int32) : Mg_as (Ms_rowOps u v) = Mg_as u := rfl
theorem Mq_bs_rowOps (u : MS) (v : Nat → Int32) : Mg_bs (Ms_rowOps u v) = Mg_bs u := rfl
theorem Mq_nameFields_rowOps (u : MS) (v : Nat → Int32) : Mg_nameFields (Ms_rowOps u v) = Mg_nameFields u := rfl
theorem Mq_ranges_rowOps (u : MS) (v : Nat → Int32) : Mg_ranges (Ms_rowOps u v) = Mg_ranges u := rfl
theorem Mq_lows_rowOps (u : MS) (v : Nat → Int32) : Mg_lows (Ms_rowOps u v) = Mg_lows u := rfl
theorem Mq_highs_rowOps (u : MS) (v : Nat → Int32) : Mg_highs (Ms_rowOps u v) = Mg_highs u := rfl
theorem Mq_switches_rowOps (u : MS) (v : Nat → Int32) : Mg_switches (Ms_rowOps u v) = Mg_switches u := rfl
theorem Mq_ways_rowOps (u : MS) (v : Nat → Int32) : Mg_ways (Ms_rowOps u v) = Mg_ways u := rfl
theorem Mq_rowOps_rowOps (u : MS) (v : Nat → Int32) : Mg_rowOps (Ms_rowOps u v) = v := rfl
theorem Mq_objects_rowOps (u : MS) (v : Nat → Int32) : Mg_objects (Ms_rowOps u v) = Mg_objects u := rfl
theorem Mq_turned_rowOps (u : MS) (v : Nat → Int32) : Mg_turned (Ms_rowOps u v) = Mg_turned u := rfl
theorem Mq_known_rowOps (u : MS) (v : Nat → Int32) : Mg_known (Ms_rowOps u v) = Mg_known u := rfl
theorem Mq_pile_rowOps (u : MS) (v : Nat → Int32) : Mg_pile (Ms_rowOps u v) = Mg_pile u := rfl
theorem Mq_leaves_rowOps (u : MS) (v : Nat → Int32) : Mg_leaves (Ms_rowOps u v) = Mg_leaves u := rfl
theorem Mq_digits_rowOps (u : MS) (v : Nat → Int32) : Mg_digits (Ms_rowOps u v) = Mg_digits u := rfl
theorem Mq_whole_objects (u : MS) (v : Nat → Int32) : Mg_whole (Ms_objects u v) = Mg_whole u := rfl
theorem Mq_thrown_objects (u : MS) (v : Nat → Int32) : Mg_thrown (Ms_objects u v) = Mg_thrown u := rfl
theorem Mq_fields_objects (u : MS) (v : Nat → Int32) : Mg_fields (Ms_objects u v) = Mg_fields u := rfl
theorem Mq_nodes_objects (u : MS) (v : Nat → Int32) : Mg_nodes (Ms_objects u v) = Mg_nodes u := rfl
theorem Mq_names_objects (u : MS) (v : Nat → Int32) : Mg_names (Ms_objects u v) = Mg_names u := rfl
theorem Mq_row_objects (u : MS) (v : Nat → Int32) : Mg_row (Ms_objects u v) = Mg_row u := rfl
theorem Mq_subject_objects (u : MS) (v : Nat → Int32) : Mg_subject (Ms_objects u v) = Mg_subject u := rfl
theorem Mq_noted_objects (u : MS) (v : Nat → Int32) : Mg_noted (Ms_objects u v) = Mg_noted u := rfl
theorem Mq_fault_objects (u : MS) (v : Nat → Int32) : Mg_fault (Ms_objects u v) = Mg_fault u := rfl
theorem Mq_bytes_objects (u : MS) (v : Nat → Int32) : Mg_bytes (Ms_objects u v) = Mg_bytes u := rfl
theorem Mq_categories_objects (u : MS) (v : Nat → Int32) : Mg_categories (Ms_objects u v) = Mg_categories u := rfl
theorem Mq_sizes_objects (u : MS) (v : Nat → Int32) : Mg_sizes (Ms_objects u v) = Mg_sizes u := rfl
theorem Mq_scales_objects (u : MS) (v : Nat → Int32) : Mg_scales (Ms_objects u v) = Mg_scales u := rfl
theorem Mq_weights_objects (u : MS) (v : Nat → Int32) : Mg_weights (Ms_objects u v) = Mg_weights u := rfl
theorem Mq_ops_objects (u : MS) (v : Nat → Int32) : Mg_ops (Ms_objects u v) = Mg_ops u := rfl
theorem Mq_as_objects (u : MS) (v : Nat → Int32) : Mg_as (Ms_objects u v) = Mg_as u := rfl
theorem Mq_bs_objects (u : MS) (v : Nat → Int32) : Mg_bs (Ms_objects u v) = Mg_bs u := rfl
theorem Mq_nameFields_objects (u : MS) (v : Nat → Int32) : Mg_nameFields (Ms_objects u v) = Mg_nameFields u := rfl
theorem Mq_ranges_objects (u : MS) (v : Nat → Int32) : Mg_ranges (Ms_objects u v) = Mg_ranges u := rfl
theorem Mq_lows_objects (u : MS) (v : Nat → Int32) : Mg_lows (Ms_objects u v) = Mg_lows u := rfl
theorem Mq_highs_objects (u : MS) (v : Nat → Int32) : Mg_highs (Ms_objects u v) = Mg_highs u := rfl
theorem Mq_switches_objects (u : MS) (v : Nat → Int32) : Mg_switches (Ms_objects u v) = Mg_switches u := rfl
theorem Mq_ways_objects (u : MS) (v : Nat → Int32) : Mg_ways (Ms_objects u v) = Mg_ways u := rfl
theorem Mq_rowOps_objects (u : MS) (v : Nat → Int32) : Mg_rowOps (Ms_objects u v) = Mg_rowOps u := rfl
theorem Mq_objects_objects (u : MS) (v : Nat → Int32) : Mg_objects (Ms_objects u v) = v := rfl
theorem Mq_turned_objects (u : MS) (v : Nat → Int32) : Mg_turned (Ms_objects u v) = Mg_turned u := rfl
theorem Mq_known_objects (u : MS) (v : Nat → Int32) : Mg_known (Ms_objects u v) = Mg_known u := rfl
theorem Mq_pile_objects (u : MS) (v : Nat → Int32) : Mg_pile (Ms_objects u v) = Mg_pile u := rfl
theorem Mq_leaves_objects (u : MS) (v : Nat → Int32) : Mg_leaves (Ms_objects u v) = Mg_leaves u := rfl
theorem Mq_digits_objects (u : MS) (v : Nat → Int32) : Mg_digits (Ms_objects u v) = Mg_digits u := rfl
theorem Mq_whole_turned (u : MS) (v : Nat → Int32) : Mg_whole (Ms_turned u v) = Mg_whole u := rfl
theorem Mq_thrown_turned (u : MS) (v : Nat → Int32) : Mg_thrown (Ms_turned u v) = Mg_thrown u := rfl
theorem Mq_fields_turned (u : MS) (v : Nat → Int32) : Mg_fields (Ms_turned u v) = Mg_fields u := rfl
theorem Mq_nodes_turned (u : MS) (v : Nat → Int32) : Mg_nodes (Ms_turned u v) = Mg_nodes u := rfl
theorem Mq_names_turned (u : MS) (v : Nat → Int32) : Mg_names (Ms_turned u v) = Mg_names u := rfl
theorem Mq_row_turned (u : MS) (v : Nat → Int32) : Mg_row (Ms_turned u v) = Mg_row u := rfl
theorem Mq_subject_turned (u : MS) (v : Nat → Int32) : Mg_subject (Ms_turned u v) = Mg_subject u := rfl
theorem Mq_noted_turned (u : MS) (v : Nat → Int32) : Mg_noted (Ms_turned u v) = Mg_noted u := rfl
theorem Mq_fault_turned (u : MS) (v : Nat → Int32) : Mg_fault (Ms_turned u v) = Mg_fault u := rfl
theorem Mq_bytes_turned (u : MS) (v : Nat → Int32) : Mg_bytes (Ms_turned u v) = Mg_bytes u := rfl
theorem Mq_categories_turned (u : MS) (v : Nat → Int32) : Mg_categories (Ms_turned u v) = Mg_categories u := rfl
theorem Mq_sizes_turned (u : MS) (v : Nat → Int32) : Mg_sizes (Ms_turned u v) = Mg_sizes u := rfl
theorem Mq_scales_turned (u : MS) (v : Nat → Int32) : Mg_scales (Ms_turned u v) = Mg_scales u := rfl
theorem Mq_weights_turned (u : MS) (v : Nat → Int32) : Mg_weights (Ms_turned u v) = Mg_weights u := rfl
theorem Mq_ops_turned (u : MS) (v : Nat → Int32) : Mg_ops (Ms_turned u v) = Mg_ops u := rfl
theorem Mq_as_turned (u : MS) (v : Nat → Int32) : Mg_as (Ms_turned u v) = Mg_as u := rfl
theorem Mq_bs_turned (u : MS) (v : Nat → Int32) : Mg_bs (Ms_turned u v) = Mg_bs u := rfl
theorem Mq_nameFields_turned (u : MS) (v : Nat → Int32) : Mg_nameFields (Ms_turned u v) = Mg_nameFields u := rfl
theorem Mq_ranges_turned (u : MS) (v : Nat → Int32) : Mg_ranges (Ms_turned u v) = Mg_ranges u := rfl
theorem Mq_lows_turned (u : MS) (v : Nat → Int32) : Mg_lows (Ms_turned u v) = Mg_lows u := rfl
theorem Mq_highs_turned (u : MS) (v : Nat → Int32) : Mg_highs (Ms_turned u v) = Mg_highs u := rfl
theorem Mq_switches_turned (u : MS) (v : Nat → Int32) : Mg_switches (Ms_turned u v) = Mg_switches u := rfl
theorem Mq_ways_turned (u : MS) (v : Nat → Int32) : Mg_ways (Ms_turned u v) = Mg_ways u := rfl
theorem Mq_rowOps_turned (u : MS) (v : Nat → Int32) : Mg_rowOps (Ms_turned u v) = Mg_rowOps u := rfl
theorem Mq_objects_turned (u : MS) (v : Nat → Int32) : Mg_objects (Ms_turned u v) = Mg_objects u := rfl
theorem Mq_turned_turned (u : MS) (v : Nat → Int32) : Mg_turned (Ms_turned u v) = v := rfl
theorem Mq_known_turned (u : MS) (v : Nat → Int32) : Mg_known (Ms_turned u v) = Mg_known u := rfl
theorem Mq_pile_turned (u : MS) (v : Nat → Int32) : Mg_pile (Ms_turned u v) = Mg_pile u := rfl
theorem Mq_leaves_turned (u : MS) (v : Nat → Int32) : Mg_leaves (Ms_turned u v) = Mg_leaves u := rfl
theorem Mq_digits_turned (u : MS) (v : Nat → Int32) : Mg_digits (Ms_turned u v) = Mg_digits u := rfl
theorem Mq_whole_known (u : MS) (v : Nat → Int32) : Mg_whole (Ms_known u v) = Mg_whole u := rfl
theorem Mq_thrown_known (u : MS) (v : Nat → Int32) : Mg_thrown (Ms_known u v) = Mg_thrown u := rfl
theorem Mq_fields_known (u : MS) (v : Nat → Int32) : Mg_fields (Ms_known u v) = Mg_fields u := rfl
theorem Mq_nodes_known (u : MS) (v : Nat → Int32) : Mg_nodes (Ms_known u v) = Mg_nodes u := rfl
theorem Mq_names_known (u : MS) (v : Nat → Int32) : Mg_names (Ms_known u v) = Mg_names u := rfl
theorem Mq_row_known (u : MS) (v : Nat → Int32) : Mg_row (Ms_known u v) = Mg_row u := rfl
theorem Mq_subject_known (u : MS) (v : Nat → Int32) : Mg_subject (Ms_known u v) = Mg_subject u := rfl
theorem Mq_noted_known (u : MS) (v : Nat → Int32) : Mg_noted (Ms_known u v) = Mg_noted u := rfl
theorem Mq_fault_known (u : MS) (v : Nat → Int32) : Mg_fault (Ms_known u v) = Mg_fault u := rfl
theorem Mq_bytes_known (u : MS) (v : Nat → Int32) : Mg_bytes (Ms_known u v) = Mg_bytes u := rfl
theorem Mq_categories_known (u : MS) (v : Nat → Int32) : Mg_categories (Ms_known u v) = Mg_categories u := rfl
theorem Mq_sizes_known (u : MS) (v : Nat → Int32) : Mg_sizes (Ms_known u v) = Mg_sizes u := rfl
theorem Mq_scales_known (u : MS) (v : Nat → Int32) : Mg_scales (Ms_known u v) = Mg_scales u := rfl
theorem Mq_weights_known (u : MS) (v : Nat → Int32) : Mg_weights (Ms_known u v) = Mg_weights u := rfl
theorem Mq_ops_known (u : MS) (v : Nat → Int32) : Mg_ops (Ms_known u v) = Mg_ops u := rfl
theorem Mq_as_known (u : MS) (v : Nat → Int32) : Mg_as (Ms_known u v) = Mg_as u := rfl
theorem Mq_bs_known (u : MS) (v : Nat → Int32) : Mg_bs (Ms_known u v) = Mg_bs u := rfl
theorem Mq_nameFields_known (u : MS) (v : Nat → Int32) : Mg_nameFields (Ms_known u v) = Mg_nameFields u := rfl
theorem Mq_ranges_known (u : MS) (v : Nat → Int32) : Mg_ranges (Ms_known u v) = Mg_ranges u := rfl
theorem Mq_lows_known (u : MS) (v : Nat → Int32) : Mg_lows (Ms_known u v) = Mg_lows u := rfl
theorem Mq_highs_known (u : MS) (v : Nat → Int32) : Mg_highs (Ms_known u v) = Mg_highs u := rfl
theorem Mq_switches_known (u : MS) (v : Nat → Int32) : Mg_switches (Ms_known u v) = Mg_switches u := rfl
theorem Mq_ways_known (u : MS) (v : Nat → Int32) : Mg_ways (Ms_known u v) = Mg_ways u := rfl
theorem Mq_rowOps_known (u : MS) (v : Nat → Int32) : Mg_rowOps (Ms_known u v) = Mg_rowOps u := rfl
theorem Mq_objects_known (u : MS) (v : Nat → Int32) : Mg_objects (Ms_known u v) = Mg_objects u := rfl
theorem Mq_turned_known (u : MS) (v : Nat → Int32) : Mg_turned (Ms_known u v) = Mg_turned u := rfl
theorem Mq_known_known (u : MS) (v : Nat → Int32) : Mg_known (Ms_known u v) = v := rfl
theorem Mq_pile_known (u : MS) (v : Nat → Int32) : Mg_pile (Ms_known u v) = Mg_pile u := rfl
theorem Mq_leaves_known (u : MS) (v : Nat → Int32) : Mg_leaves (Ms_known u v) = Mg_leaves u := rfl
theorem Mq_digits_known (u : MS) (v : Nat → Int32) : Mg_digits (Ms_known u v) = Mg_digits u := rfl
theorem Mq_whole_pile (u : MS) (v : Nat → Int32) : Mg_whole (Ms_pile u v) = Mg_whole u := rfl
theorem Mq_thrown_pile (u : MS) (v : Nat → Int32) : Mg_thrown (Ms_pile u v) = Mg_thrown u := rfl
theorem Mq_fields_pile (u : MS) (v : Nat → Int32) : Mg_fields (Ms_pile u v) = Mg_fields u := rfl
theorem Mq_nodes_pile (u : MS) (v : Nat → Int32) : Mg_nodes (Ms_pile u v) = Mg_nodes u := rfl
theorem Mq_names_pile (u : MS) (v : Nat → Int32) : Mg_names (Ms_pile u v) = Mg_names u := rfl
theorem Mq_row_pile (u : MS) (v : Nat → Int32) : Mg_row (Ms_pile u v) = Mg_row u := rfl
theorem Mq_subject_pile (u : MS) (v : Nat → Int32) : Mg_subject (Ms_pile u v) = Mg_subject u := rfl
theorem Mq_noted_pile (u : MS) (v : Nat → Int32) : Mg_noted (Ms_pile u v) = Mg_noted u := rfl
theorem Mq_fault_pile (u : MS) (v : Nat → Int32) : Mg_fault (Ms_pile u v) = Mg_fault u := rfl
theorem Mq_bytes_pile (u : MS) (v : Nat → Int32) : Mg_bytes (Ms_pile u v) = Mg_bytes u := rfl
theorem Mq_categories_pile (u : MS) (v : Nat → Int32) : Mg_categories (Ms_pile u v) = Mg_categories u := rfl
theorem Mq_sizes_pile (u : MS) (v : Nat → Int32) : Mg_sizes (Ms_pile u v) = Mg_sizes u := rfl
theorem Mq_scales_pile (u : MS) (v : Nat → Int32) : Mg_scales (Ms_pile u v) = Mg_scales u := rfl
theorem Mq_weights_pile (u : MS) (v : Nat → Int32) : Mg_weights (Ms_pile u v) = Mg_weights u := rfl
theorem Mq_ops_pile (u : MS) (v : Nat → Int32) : Mg_ops (Ms_pile u v) = Mg_ops u := rfl
theorem Mq_as_pile (u : MS) (v : Nat → Int32) : Mg_as (Ms_pile u v) = Mg_as u := rfl
theorem Mq_bs_pile (u : MS) (v : Nat → Int32) : Mg_bs (Ms_pile u v) = Mg_bs u := rfl
theorem Mq_nameFields_pile (u : MS) (v : Nat → Int32) : Mg_nameFields (Ms_pile u v) = Mg_nameFields u := rfl
theorem Mq_ranges_pile (u : MS) (v : Nat → Int32) : Mg_ranges (Ms_pile u v) = Mg_ranges u := rfl
theorem Mq_lows_pile (u : MS) (v : Nat → Int32) : Mg_lows (Ms_pile u v) = Mg_lows u := rfl
theorem Mq_highs_pile (u : MS) (v : Nat → Int32) : Mg_highs (Ms_pile u v) = Mg_highs u := rfl
theorem Mq_switches_pile (u : MS) (v : Nat → Int32) : Mg_switches (Ms_pile u v) = Mg_switches u := rfl
theorem Mq_ways_pile (u : MS) (v : Nat → Int32) : Mg_ways (Ms_pile u v) = Mg_ways u := rfl
theorem Mq_rowOps_pile (u : MS) (v : Nat → Int32) : Mg_rowOps (Ms_pile u v) = Mg_rowOps u := rfl
theorem Mq_objects_pile (u : MS) (v : Nat → Int32) : Mg_objects (Ms_pile u v) = Mg_objects u := rfl
theorem Mq_turned_pile (u : MS) (v : Nat → Int32) : Mg_turned (Ms_pile u v) = Mg_turned u := rfl
theorem Mq_known_pile (u : MS) (v : Nat → Int32) : Mg_known (Ms_pile u v) = Mg_known u := rfl
theorem Mq_pile_pile (u : MS) (v : Nat → Int32) : Mg_pile (Ms_pile u v) = v := rfl
theorem Mq_leaves_pile (u : MS) (v : Nat → Int32) : Mg_leaves (Ms_pile u v) = Mg_leaves u := rfl
theorem Mq_digits_pile (u : MS) (v : Nat → Int32) : Mg_digits (Ms_pile u v) = Mg_digits u := rfl
theorem Mq_whole_leaves (u : MS) (v : Nat → Int32) : Mg_whole (Ms_leaves u v) = Mg_whole u := rfl
theorem Mq_thrown_leaves (u : MS) (v : Nat → Int32) : Mg_thrown (Ms_leaves u v) = Mg_thrown u := rfl
theorem Mq_fields_leaves (u : MS) (v : Nat → Int32) : Mg_fields (Ms_leaves u v) = Mg_fields u := rfl
theorem Mq_nodes_leaves (u : MS) (v : Nat → Int32) : Mg_nodes (Ms_leaves u v) = Mg_nodes u := rfl
theorem Mq_names_leaves (u : MS) (v : Nat → Int32) : Mg_names (Ms_leaves u v) = Mg_names u := rfl
theorem Mq_row_leaves (u : MS) (v : Nat → Int32) : Mg_row (Ms_leaves u v) = Mg_row u := rfl
theorem Mq_subject_leaves (u : MS) (v : Nat → Int32) : Mg_subject (Ms_leaves u v) = Mg_subject u := rfl
theorem Mq_noted_leaves (u : MS) (v : Nat → Int32) : Mg_noted (Ms_leaves u v) = Mg_noted u := rfl
theorem Mq_fault_leaves (u : MS) (v : Nat → Int32) : Mg_fault (Ms_leaves u v) = Mg_fault u := rfl
theorem Mq_bytes_leaves (u : MS) (v : Nat → Int32) : Mg_bytes (Ms_leaves u v) = Mg_bytes u := rfl
theorem Mq_categories_leaves (u : MS) (v : Nat → Int32) : Mg_categories (Ms_leaves u v) = Mg_categories u := rfl
theorem Mq_sizes_leaves (u : MS) (v : Nat → Int32) : Mg_sizes (Ms_leaves u v) = Mg_sizes u := rfl
theorem Mq_scales_leaves (u : MS) (v : Nat → Int32) : Mg_scales (Ms_leaves u v) = Mg_scales u := rfl
theorem Mq_weights_leaves (u : MS) (v : Nat → Int32) : Mg_weights (Ms_leaves u v) = Mg_weights u := rfl
theorem Mq_ops_leaves (u : MS) (v : Nat → Int32) : Mg_ops (Ms_leaves u v) = Mg_ops u := rfl
theorem Mq_as_leaves (u : MS) (v : Nat → Int32) : Mg_as (Ms_leaves u v) = Mg_as u := rfl
theorem Mq_bs_leaves (u : MS) (v : Nat → Int32) : Mg_bs (Ms_leaves u v) = Mg_bs u := rfl
theorem Mq_nameFields_leaves (u : MS) (v : Nat → Int32) : Mg_nameFields (Ms_leaves u v) = Mg_nameFields u := rfl
theorem Mq_ranges_leaves (u : MS) (v : Nat → Int32) : Mg_ranges (Ms_leaves u v) = Mg_ranges u := rfl
theorem Mq_lows_leaves (u : MS) (v : Nat → Int32) : Mg_lows (Ms_leaves u v) = Mg_lows u := rfl
theorem Mq_highs_leaves (u : MS) (v : Nat → Int32) : Mg_highs (Ms_leaves u v) = Mg_highs u := rfl
theorem Mq_switches_leaves (u : MS) (v : Nat → Int32) : Mg_switches (Ms_leaves u v) = Mg_switches u := rfl
theorem Mq_ways_leaves (u : MS) (v : Nat → Int32) : Mg_ways (Ms_leaves u v) = Mg_ways u := rfl
theorem Mq_rowOps_leaves (u : MS) (v : Nat → Int32) : Mg_rowOps (Ms_leaves u v) = Mg_rowOps u := rfl
theorem Mq_objects_leaves (u : MS) (v : Nat → Int32) : Mg_objects (Ms_leaves u v) = Mg_objects u := rfl
theorem Mq_turned_leaves (u : MS) (v : Nat → Int32) : Mg_turned (Ms_leaves u v) = Mg_turned u := rfl
theorem Mq_known_leaves (u : MS) (v : Nat → Int32) : Mg_known (Ms_leaves u v) = Mg_known u := rfl
theorem Mq_pile_leaves (u : MS) (v : Nat → Int32) : Mg_pile (Ms_leaves u v) = Mg_pile u := rfl
theorem Mq_leaves_leaves (u : MS) (v : Nat → Int32) : Mg_leaves (Ms_leaves u v) = v := rfl
theorem Mq_digits_leaves (u : MS) (v : Nat → Int32) : Mg_digits (Ms_leaves u v) = Mg_digits u := rfl
theorem Mq_whole_digits (u : MS) (v : Nat → Int32) : Mg_whole (Ms_digits u v) = Mg_whole u := rfl
theorem Mq_thrown_digits (u : MS) (v : Nat → Int32) : Mg_thrown (Ms_digits u v) = Mg_thrown u := rfl
theorem Mq_fields_digits (u : MS) (v : Nat → Int32) : Mg_fields (Ms_digits u v) = Mg_fields u := rfl
theorem Mq_nodes_digits (u : MS) (v : Nat → Int32) : Mg_nodes (Ms_digits u v) = Mg_nodes u := rfl
theorem Mq_names_digits (u : MS) (v : Nat → Int32) : Mg_names (Ms_digits u v) = Mg_names u := rfl
theorem Mq_row_digits (u : MS) (v : Nat → Int32) : Mg_row (Ms_digits u v) = Mg_row u := rfl
theorem Mq_subject_digits (u : MS) (v : Nat → Int32) : Mg_subject (Ms_digits u v) = Mg_subject u := rfl
theorem Mq_noted_digits (u : MS) (v : Nat → Int32) : Mg_noted (Ms_digits u v) = Mg_noted u := rfl
theorem Mq_fault_digits (u : MS) (v : Nat → Int32) : Mg_fault (Ms_digits u v) = Mg_fault u := rfl
theorem Mq_bytes_digits (u : MS) (v : Nat → Int32) : Mg_bytes (Ms_digits u v) = Mg_bytes u := rfl
theorem Mq_categories_digits (u : MS) (v : Nat → Int32) : Mg_categories (Ms_digits u v) = Mg_categories u := rfl
theorem Mq_sizes_digits (u : MS) (v : Nat → Int32) : Mg_sizes (Ms_digits u v) = Mg_sizes u := rfl
theorem Mq_scales_digits (u : MS) (v : Nat → Int32) : Mg_scales (Ms_digits u v) = Mg_scales u := rfl
theorem Mq_weights_digits (u : MS) (v : Nat → Int32) : Mg_weights (Ms_digits u v) = Mg_weights u := rfl
theorem Mq_ops_digits (u : MS) (v : Nat → Int32) : Mg_ops (Ms_digits u v) = Mg_ops u := rfl
theorem Mq_as_digits (u : MS) (v : Nat → Int32) : Mg_as (Ms_digits u v) = Mg_as u := rfl
theorem Mq_bs_digits (u : MS) (v : Nat → Int32) : Mg_bs (Ms_digits u v) = Mg_bs u := rfl
theorem Mq_nameFields_digits (u : MS) (v : Nat → Int32) : Mg_nameFields (Ms_digits u v) = Mg_nameFields u := rfl
theorem Mq_ranges_digits (u : MS) (v : Nat → Int32) : Mg_ranges (Ms_digits u v) = Mg_ranges u := rfl
theorem Mq_lows_digits (u : MS) (v : Nat → Int32) : Mg_lows (Ms_digits u v) = Mg_lows u := rfl
theorem Mq_highs_digits (u : MS) (v : Nat → Int32) : Mg_highs (Ms_digits u v) = Mg_highs u := rfl
theorem Mq_switches_digits (u : MS) (v : Nat → Int32) : Mg_switches (Ms_digits u v) = Mg_switches u := rfl
theorem Mq_ways_digits (u : MS) (v : Nat → Int32) : Mg_ways (Ms_digits u v) = Mg_ways u := rfl
theorem Mq_rowOps_digits (u : MS) (v : Nat → Int32) : Mg_rowOps (Ms_digits u v) = Mg_rowOps u := rfl
theorem Mq_objects_digits (u : MS) (v : Nat → Int32) : Mg_objects (Ms_digits u v) = Mg_objects u := rfl
theorem Mq_turned_digits (u : MS) (v : Nat → Int32) : Mg_turned (Ms_digits u v) = Mg_turned u := rfl
theorem Mq_known_digits (u : MS) (v : Nat → Int32) : Mg_known (Ms_digits u v) = Mg_known u := rfl
theorem Mq_pile_digits (u : MS) (v : Nat → Int32) : Mg_pile (Ms_digits u v) = Mg_pile u := rfl
theorem Mq_leaves_digits (u : MS) (v : Nat → Int32) : Mg_leaves (Ms_digits u v) = Mg_leaves u := rfl
theorem Mq_digits_digits (u : MS) (v : Nat → Int32) : Mg_digits (Ms_digits u v) = v := rfl
theorem Me_whole (k : zK) (b : Nat → Nat) (u : MS) (v : Int32) : wM k b (Ms_whole u v) = (wM k b u).set 0 ((b 0), .inr (7, ([.int (Mg_whole u), .int (Mg_thrown u), .ref (b 1), .ref (b 2), .ref (b 3), .ref (b 4), .ref (b 5), .int (Mg_fields u), .ref (b 6), .ref (b 7), .ref (b 8), .int (Mg_nodes u), .ref (b 9), .ref (b 10), .ref (b 11), .ref (b 12), .int (Mg_names u), .ref (b 13), .ref (b 14), .ref (b 15), .ref (b 16), .ref (b 17), .int (Mg_row u), .int (Mg_subject u), .ref (b 18), .ref (b 19), .ref (b 20), .int (Mg_noted u), .int (Mg_fault u), .ref (b 21)] : List Value).set 0 (.int v))) := by
  simp only [wM, Mq_whole_whole, Mq_thrown_whole, Mq_fields_whole, Mq_nodes_whole, Mq_names_whole, Mq_row_whole, Mq_subject_whole, Mq_noted_whole, Mq_fault_whole, Mq_bytes_whole, Mq_categories_whole, Mq_sizes_whole, Mq_scales_whole, Mq_weights_whole, Mq_ops_whole, Mq_as_whole, Mq_bs_whole, Mq_nameFields_whole, Mq_ranges_whole, Mq_lows_whole, Mq_highs_whole, Mq_switches_whole, Mq_ways_whole, Mq_rowOps_whole, Mq_objects_whole, Mq_turned_whole, Mq_known_whole, Mq_pile_whole, Mq_leaves_whole, Mq_digits_whole, List.set_cons_succ, List.set_cons_zero]
theorem Mp_whole {D : va_G} {k : zK} {b : Nat → Nat} {u : MS} {v : Int32} {H : Heap} (h : va_P D vwCl ((wM k b u).set 0 ((b 0), .inr (7, ([.int (Mg_whole u), .int (Mg_thrown u), .ref (b 1), .ref (b 2), .ref (b 3), .ref (b 4), .ref (b 5), .int (Mg_fields u), .ref (b 6), .ref (b 7), .ref (b 8), .int (Mg_nodes u), .ref (b 9), .ref (b 10), .ref (b 11), .ref (b 12), .int (Mg_names u), .ref (b 13), .ref (b 14), .ref (b 15), .ref (b 16), .ref (b 17), .int (Mg_row u), .int (Mg_subject u), .ref (b 18), .ref (b 19), .ref (b 20), .int (Mg_noted u), .int (Mg_fault u), .ref (b 21)] : List Value).set 0 (.int v)))) H) : va_P D vwCl (wM k b (Ms_whole u v)) H := by
  rw [Me_whole]; exact h
theorem Me_thrown (k : zK) (b : Nat → Nat) (u : MS) (v : Int32) : wM k b (Ms_thrown u v) = (wM k b u).set 0 ((b 0), .inr (7, ([.int (Mg_whole u), .int (Mg_thrown u), .ref (b 1), .ref (b 2), .ref (b 3), .ref (b 4), .ref (b 5), .int (Mg_fields u), .ref (b 6), .ref (b 7), .ref (b 8), .int (Mg_nodes u), .ref (b 9), .ref (b 10), .ref (b 11), .ref (b 12), .int (Mg_names u), .ref (b 13), .ref (b 14), .ref (b 15), .ref (b 16), .ref (b 17), .int (Mg_row u), .int (Mg_subject u), .ref (b 18), .ref (b 19), .ref (b 20), .int (Mg_noted u), .int (Mg_fault u), .ref (b 21)] : List Value).set 1 (.int v))) := by
  simp only [wM, Mq_whole_thrown, Mq_thrown_thrown, Mq_fields_thrown, Mq_nodes_thrown, Mq_names_thrown, Mq_row_thrown, Mq_subject_thrown, Mq_noted_thrown, Mq_fault_thrown, Mq_bytes_thrown, Mq_categories_thrown, Mq_sizes_thrown, Mq_scales_thrown, Mq_weights_thrown, Mq_ops_thrown, Mq_as_thrown, Mq_bs_thrown, Mq_nameFields_thrown, Mq_ranges_thrown, Mq_lows_thrown, Mq_highs_thrown, Mq_switches_thrown, Mq_ways_thrown, Mq_rowOps_thrown, Mq_objects_thrown, Mq_turned_thrown, Mq_known_thrown, Mq_pile_thrown, Mq_leaves_thrown, Mq_digits_thrown, List.set_cons_succ, List.set_cons_zero]
theorem Mp_thrown {D : va_G} {k : zK} {b : Nat → Nat} {u : MS} {v : Int32} {H : Heap} (h : va_P D vwCl ((wM k b u).set 0 ((b 0), .inr (7, ([.int (Mg_whole u), .int (Mg_thrown u), .ref (b 1), .ref (b 2), .ref (b 3), .ref (b 4), .ref (b 5), .int (Mg_fields u), .ref (b 6), .ref (b 7), .ref (b 8), .int (Mg_nodes u), .ref (b 9), .ref (b 10), .ref (b 11), .ref (b 12), .int (Mg_names u), .ref (b 13), .ref (b 14), .ref (b 15), .ref (b 16), .ref (b 17), .int (Mg_row u), .int (Mg_subject u), .ref (b 18), .ref (b 19), .ref (b 20), .int (Mg_noted u), .int (Mg_fault u), .ref (b 21)] : List Value).set 1 (.int v)))) H) : va_P D vwCl (wM k b (Ms_thrown u v)) H := by
  rw [Me_thrown]; exact h
theorem Me_fields (k : zK) (b : Nat → Nat) (u : MS) (v : Int32) : wM k b (Ms_fields u v) = (wM k b u).set 0 ((b 0), .inr (7, ([.int (Mg_whole u), .int (Mg_thrown u), .ref (b 1), .ref (b 2), .ref (b 3), .ref (b 4), .ref (b 5), .int (Mg_fields u), .ref (b 6), .ref (b 7), .ref (b 8), .int (Mg_nodes u), .ref (b 9), .ref (b 10), .ref (b 11), .ref (b 12), .int (Mg_names u), .ref (b 13), .ref (b 14), .ref (b 15), .ref (b 16), .ref (b 17), .int (Mg_row u), .int (Mg_subject u), .ref (b 18), .ref (b 19), .ref (b 20), .int (Mg_noted u), .int (Mg_fault u), .ref (b 21)] : List Value).set 7 (.int v))) := by
  simp only [wM, Mq_whole_fields, Mq_thrown_fields, Mq_fields_fields, Mq_nodes_fields, Mq_names_fields, Mq_row_fields, Mq_subject_fields, Mq_noted_fields, Mq_fault_fields, Mq_bytes_fields, Mq_categories_fields, Mq_sizes_fields, Mq_scales_fields, Mq_weights_fields, Mq_ops_fields, Mq_as_fields, Mq_bs_fields, Mq_nameFields_fields, Mq_ranges_fields, Mq_lows_fields, Mq_highs_fields, Mq_switches_fields, Mq_ways_fields, Mq_rowOps_fields, Mq_objects_fields, Mq_turned_fields, Mq_known_fields, Mq_pile_fields, Mq_leaves_fields, Mq_digits_fields, List.set_cons_succ, List.set_cons_zero]
theorem Mp_fields {D : va_G} {k : zK} {b : Nat → Nat} {u : MS} {v : Int32} {H : Heap} (h : va_P D vwCl ((wM k b u).set 0 ((b 0), .inr (7, ([.int (Mg_whole u), .int (Mg_thrown u), .ref (b 1), .ref (b 2), .ref (b 3), .ref (b 4), .ref (b 5), .int (Mg_fields u), .ref (b 6), .ref (b 7), .ref (b 8), .int (Mg_nodes u), .ref (b 9), .ref (b 10), .ref (b 11), .ref (b 12), .int (Mg_names u), .ref (b 13), .ref (b 14), .ref (b 15), .ref (b 16), .ref (b 17), .int (Mg_row u), .int (Mg_subject u), .ref (b 18), .ref (b 19), .ref (b 20), .int (Mg_noted u), .int (Mg_fault u), .ref (b 21)] : List Value).set 7 (.int v)))) H) : va_P D vwCl (wM k b (Ms_fields u v)) H := by
  rw [Me_fields]; exact h
theorem Me_nodes (k : zK) (b : Nat → Nat) (u : MS) (v : Int32) : wM k b (Ms_nodes u v) = (wM k b u).set 0 ((b 0), .inr (7, ([.int (Mg_whole u), .int (Mg_thrown u), .ref (b 1), .ref (b 2), .ref (b 3), .ref (b 4), .ref (b 5), .int (Mg_fields u), .ref (b 6), .ref (b 7), .ref (b 8), .int (Mg_nodes u), .ref (b 9), .ref (b 10), .ref (b 11), .ref (b 12), .int (Mg_names u), .ref (b 13), .ref (b 14), .ref (b 15), .ref (b 16), .ref (b 17), .int (Mg_row u), .int (Mg_subject u), .ref (b 18), .ref (b 19), .ref (b 20), .int (Mg_noted u), .int (Mg_fault u), .ref (b 21)] : List Value).set 11 (.int v))) := by
  simp only [wM, Mq_whole_nodes, Mq_thrown_nodes, Mq_fields_nodes, Mq_nodes_nodes, Mq_names_nodes, Mq_row_nodes, Mq_subject_nodes, Mq_noted_nodes, Mq_fault_nodes, Mq_bytes_nodes, Mq_categories_nodes, Mq_sizes_nodes, Mq_scales_nodes, Mq_weights_nodes, Mq_ops_nodes, Mq_as_nodes, Mq_bs_nodes, Mq_nameFields_nodes, Mq_ranges_nodes, Mq_lows_nodes, Mq_highs_nodes, Mq_switches_nodes, Mq_ways_nodes, Mq_rowOps_nodes, Mq_objects_nodes, Mq_turned_nodes, Mq_known_nodes, Mq_pile_nodes, Mq_leaves_nodes, Mq_digits_nodes, List.set_cons_succ, List.set_cons_zero]
theorem Mp_nodes {D : va_G} {k : zK} {b : Nat → Nat} {u : MS} {v : Int32} {H : Heap} (h : va_P D vwCl ((wM k b u).set 0 ((b 0), .inr (7, ([.int (Mg_whole u), .int (Mg_thrown u), .ref (b 1), .ref (b 2), .ref (b 3), .ref (b 4), .ref (b 5), .int (Mg_fields u), .ref (b 6), .ref (b 7), .ref (b 8), .int (Mg_nodes u), .ref (b 9), .ref (b 10), .ref (b 11), .ref (b 12), .int (Mg_names u), .ref (b 13), .ref (b 14), .ref (b 15), .ref (b 16), .ref (b 17), .int (Mg_row u), .int (Mg_subject u), .ref (b 18), .ref (b 19), .ref (b 20), .int (Mg_noted u), .int (Mg_fault u), .ref (b 21)] : List Value).set 11 (.int v)))) H) : va_P D vwCl (wM k b (Ms_nodes u v)) H := by
  rw [Me_nodes]; exact h
theorem Me_names (k : zK) (b : Nat → Nat) (u : MS) (v : Int32) : wM k b (Ms_names u v) = (wM k b u).set 0 ((b 0), .inr (7, ([.int (Mg_whole u), .int (Mg_thrown u), .ref (b 1), .ref (b 2), .ref (b 3), .ref (b 4), .ref (b 5), .int (Mg_fields u), .ref (b 6), .ref (b 7), .ref (b 8), .int (Mg_nodes u), .ref (b 9), .ref (b 10), .ref (b 11), .ref (b 12), .int (Mg_names u), .ref (b 13), .ref (b 14), .ref (b 15), .ref (b 16), .ref (b 17), .int (Mg_row u), .int (Mg_subject u), .ref (b 18), .ref (b 19), .ref (b 20), .int (Mg_noted u), .int (Mg_fault u), .ref (b 21)] : List Value).set 16 (.int v))) := by
  simp only [wM, Mq_whole_names, Mq_thrown_names, Mq_fields_names, Mq_nodes_names, Mq_names_names, Mq_row_names, Mq_subject_names, Mq_noted_names, Mq_fault_names, Mq_bytes_names, Mq_categories_names, Mq_sizes_names, Mq_scales_names, Mq_weights_names, Mq_ops_names, Mq_as_names, Mq_bs_names, Mq_nameFields_names, Mq_ranges_names, Mq_lows_names, Mq_highs_names, Mq_switches_names, Mq_ways_names, Mq_rowOps_names, Mq_objects_names, Mq_turned_names, Mq_known_names, Mq_pile_names, Mq_leaves_names, Mq_digits_names, List.set_cons_succ, List.set_cons_zero]
theorem Mp_names {D : va_G} {k : zK} {b : Nat → Nat} {u : MS} {v : Int32} {H : Heap} (h : va_P D vwCl ((wM k b u).set 0 ((b 0), .inr (7, ([.int (Mg_whole u), .int (Mg_thrown u), .ref (b 1), .ref (b 2), .ref (b 3), .ref (b 4), .ref (b 5), .int (Mg_fields u), .ref (b 6), .ref (b 7), .ref (b 8), .int (Mg_nodes u), .ref (b 9), .ref (b 10), .ref (b 11), .ref (b 12), .int (Mg_names u), .ref (b 13), .ref (b 14), .ref (b 15), .ref (b 16), .ref (b 17), .int (Mg_row u), .int (Mg_subject u), .ref (b 18), .ref (b 19), .ref (b 20), .int (Mg_noted u), .int (Mg_fault u), .ref (b 21)] : List Value).set 16 (.int v)))) H) : va_P D vwCl (wM k b (Ms_names u v)) H := by
  rw [Me_names]; exact h
theorem Me_row (k : zK) (b : Nat → Nat) (u : MS) (v : Int32) : wM k b (Ms_row u v) = (wM k b u).set 0 ((b 0), .inr (7, ([.int (Mg_whole u), .int (Mg_thrown u), .ref (b 1), .ref (b 2), .ref (b 3), .ref (b 4), .ref (b 5), .int (Mg_fields u), .ref (b 6), .ref (b 7), .ref (b 8), .int (Mg_nodes u), .ref (b 9), .ref (b 10), .ref (b 11), .ref (b 12), .int (Mg_names u), .ref (b 13), .ref (b 14), .ref (b 15), .ref (b 16), .ref (b 17), .int (Mg_row u), .int (Mg_subject u), .ref (b 18), .ref (b 19), .ref (b 20), .int (Mg_noted u), .int (Mg_fault u), .ref (b 21)] : List Value).set 22 (.int v))) := by
  simp only [wM, Mq_whole_row, Mq_thrown_row, Mq_fields_row, Mq_nodes_row, Mq_names_row, Mq_row_row, Mq_subject_row, Mq_noted_row, Mq_fault_row, Mq_bytes_row, Mq_categories_row, Mq_sizes_row, Mq_scales_row, Mq_weights_row, Mq_ops_row, Mq_as_row, Mq_bs_row, Mq_nameFields_row, Mq_ranges_row, Mq_lows_row, Mq_highs_row, Mq_switches_row, Mq_ways_row, Mq_rowOps_row, Mq_objects_row, Mq_turned_row, Mq_known_row, Mq_pile_row, Mq_leaves_row, Mq_digits_row, List.set_cons_succ, List.set_cons_zero]
theorem Mp_row {D : va_G} {k : zK} {b : Nat → Nat} {u : MS} {v : Int32} {H : Heap} (h : va_P D vwCl ((wM k b u).set 0 ((b 0), .inr (7, ([.int (Mg_whole u), .int (Mg_thrown u), .ref (b 1), .ref (b 2), .ref (b 3), .ref (b 4), .ref (b 5), .int (Mg_fields u), .ref (b 6), .ref (b 7), .ref (b 8), .int (Mg_nodes u), .ref (b 9), .ref (b 10), .ref (b 11), .ref (b 12), .int (Mg_names u), .ref (b 13), .ref (b 14), .ref (b 15), .ref (b 16), .ref (b 17), .int (Mg_row u), .int (Mg_subject u), .ref (b 18), .ref (b 19), .ref (b 20), .int (Mg_noted u), .int (Mg_fault u), .ref (b 21)] : List Value).set 22 (.int v)))) H) : va_P D vwCl (wM k b (Ms_row u v)) H := by
  rw [Me_row]; exact h
theorem Me_subject (k : zK) (b : Nat → Nat) (u : MS) (v : Int32) : wM k b (Ms_subject u v) = (wM k b u).set 0 ((b 0), .inr (7, ([.int (Mg_whole u), .int (Mg_thrown u), .ref (b 1), .ref (b 2), .ref (b 3), .ref (b 4), .ref (b 5), .int (Mg_fields u), .ref (b 6), .ref (b 7), .ref (b 8), .int (Mg_nodes u), .ref (b 9), .ref (b 10), .ref (b 11), .ref (b 12), .int (Mg_names u), .ref (b 13), .ref (b 14), .ref (b 15), .ref (b 16), .ref (b 17), .int (Mg_row u), .int (Mg_subject u), .ref (b 18), .ref (b 19), .ref (b 20), .int (Mg_noted u), .int (Mg_fault u), .ref (b 21)] : List Value).set 23 (.int v))) := by
  simp only [wM, Mq_whole_subject, Mq_thrown_subject, Mq_fields_subject, Mq_nodes_subject, Mq_names_subject, Mq_row_subject, Mq_subject_subject, Mq_noted_subject, Mq_fault_subject, Mq_bytes_subject, Mq_categories_subject, Mq_sizes_subject, Mq_scales_subject, Mq_weights_subject, Mq_ops_subject, Mq_as_subject, Mq_bs_subject, Mq_nameFields_subject, Mq_ranges_subject, Mq_lows_subject, Mq_highs_subject, Mq_switches_subject, Mq_ways_subject, Mq_rowOps_subject, Mq_objects_subject, Mq_turned_subject, Mq_known_subject, Mq_pile_subject, Mq_leaves_subject, Mq_digits_subject, List.set_cons_succ, List.set_cons_zero]
theorem Mp_subject {D : va_G} {k : zK} {b : Nat → Nat} {u : MS} {v : Int32} {H : Heap} (h : va_P D vwCl ((wM k b u).set 0 ((b 0), .inr (7, ([.int (Mg_whole u), .int (Mg_thrown u), .ref (b 1), .ref (b 2), .ref (b 3), .ref (b 4), .ref (b 5), .int (Mg_fields u), .ref (b 6), .ref (b 7), .ref (b 8), .int (Mg_nodes u), .ref (b 9), .ref (b 10), .ref (b 11), .ref (b 12), .int (Mg_names u), .ref (b 13), .ref (b 14), .ref (b 15), .ref (b 16), .ref (b 17), .int (Mg_row u), .int (Mg_subject u), .ref (b 18), .ref (b 19), .ref (b 20), .int (Mg_noted u), .int (Mg_fault u), .ref (b 21)] : List Value).set 23 (.int v)))) H) : va_P D vwCl (wM k b (Ms_subject u v)) H := by
  rw [Me_subject]; exact h
theorem Me_noted (k : zK) (b : Nat → Nat) (u : MS) (v : Int32) : wM k b (Ms_noted u v) = (wM k b u).set 0 ((b 0), .inr (7, ([.int (Mg_whole u), .int (Mg_thrown u), .ref (b 1), .ref (b 2), .ref (b 3), .ref (b 4), .ref (b 5), .int (Mg_fields u), .ref (b 6), .ref (b 7), .ref (b 8), .int (Mg_nodes u), .ref (b 9), .ref (b 10), .ref (b 11), .ref (b 12), .int (Mg_names u), .ref (b 13), .ref (b 14), .ref (b 15), .ref (b 16), .ref (b 17), .int (Mg_row u), .int (Mg_subject u), .ref (b 18), .ref (b 19), .ref (b 20), .int (Mg_noted u), .int (Mg_fault u), .ref (b 21)] : List Value).set 27 (.int v))) := by
  simp only [wM, Mq_whole_noted, Mq_thrown_noted, Mq_fields_noted, Mq_nodes_noted, Mq_names_noted, Mq_row_noted, Mq_subject_noted, Mq_noted_noted, Mq_fault_noted, Mq_bytes_noted, Mq_categories_noted, Mq_sizes_noted, Mq_scales_noted, Mq_weights_noted, Mq_ops_noted, Mq_as_noted, Mq_bs_noted, Mq_nameFields_noted, Mq_ranges_noted, Mq_lows_noted, Mq_highs_noted, Mq_switches_noted, Mq_ways_noted, Mq_rowOps_noted, Mq_objects_noted, Mq_turned_noted, Mq_known_noted, Mq_pile_noted, Mq_leaves_noted, Mq_digits_noted, List.set_cons_succ, List.set_cons_zero]
theorem Mp_noted {D : va_G} {k : zK} {b : Nat → Nat} {u : MS} {v : Int32} {H : Heap} (h : va_P D vwCl ((wM k b u).set 0 ((b 0), .inr (7, ([.int (Mg_whole u), .int (Mg_thrown u), .ref (b 1), .ref (b 2), .ref (b 3), .ref (b 4), .ref (b 5), .int (Mg_fields u), .ref (b 6), .ref (b 7), .ref (b 8), .int (Mg_nodes u), .ref (b 9), .ref (b 10), .ref (b 11), .ref (b 12), .int (Mg_names u), .ref (b 13), .ref (b 14), .ref (b 15), .ref (b 16), .ref (b 17), .int (Mg_row u), .int (Mg_subject u), .ref (b 18), .ref (b 19), .ref (b 20), .int (Mg_noted u), .int (Mg_fault u), .ref (b 21)] : List Value).set 27 (.int v)))) H) : va_P D vwCl (wM k b (Ms_noted u v)) H := by
  rw [Me_noted]; exact h
theorem Me_fault (k : zK) (b : Nat → Nat) (u : MS) (v : Int32) : wM k b (Ms_fault u v) = (wM k b u).set 0 ((b 0), .inr (7, ([.int (Mg_whole u), .int (Mg_thrown u), .ref (b 1), .ref (b 2), .ref (b 3), .ref (b 4), .ref (b 5), .int (Mg_fields u), .ref (b 6), .ref (b 7), .ref (b 8), .int (Mg_nodes u), .ref (b 9), .ref (b 10), .ref (b 11), .ref (b 12), .int (Mg_names u), .ref (b 13), .ref (b 14), .ref (b 15), .ref (b 16), .ref (b 17), .int (Mg_row u), .int (Mg_subject u), .ref (b 18), .ref (b 19), .ref (b 20), .int (Mg_noted u), .int (Mg_fault u), .ref (b 21)] : List Value).set 28 (.int v))) := by
  simp only [wM, Mq_whole_fault, Mq_thrown_fault, Mq_fields_fault, Mq_nodes_fault, Mq_names_fault, Mq_row_fault, Mq_subject_fault, Mq_noted_fault, Mq_fault_fault, Mq_bytes_fault, Mq_categories_fault, Mq_sizes_fault, Mq_scales_fault, Mq_weights_fault, Mq_ops_fault, Mq_as_fault, Mq_bs_fault, Mq_nameFields_fault, Mq_ranges_fault, Mq_lows_fault, Mq_highs_fault, Mq_switches_fault, Mq_ways_fault, Mq_rowOps_fault, Mq_objects_fault, Mq_turned_fault, Mq_known_fault, Mq_pile_fault, Mq_leaves_fault, Mq_digits_fault, List.set_cons_succ, List.set_cons_zero]
theorem Mp_fault {D : va_G} {k : zK} {b : Nat → Nat} {u : MS} {v : Int32} {H : Heap} (h : va_P D vwCl ((wM k b u).set 0 ((b 0), .inr (7, ([.int (Mg_whole u), .int (Mg_thrown u), .ref (b 1), .ref (b 2), .ref (b 3), .ref (b 4), .ref (b 5), .int (Mg_fields u), .ref (b 6), .ref (b 7), .ref (b 8), .int (Mg_nodes u), .ref (b 9), .ref (b 10), .ref (b 11), .ref (b 12), .int (Mg_names u), .ref (b 13), .ref (b 14), .ref (b 15), .ref (b 16), .ref (b 17), .int (Mg_row u), .int (Mg_subject u), .ref (b 18), .ref (b 19), .ref (b 20), .int (Mg_noted u), .int (Mg_fault u), .ref (b 21)] : List Value).set 28 (.int v)))) H) : va_P D vwCl (wM k b (Ms_fault u v)) H := by
  rw [Me_fault]; exact h
theorem Me_bytes (k : zK) (b : Nat → Nat) (u : MS) (v : Nat → Int32) : wM k b (Ms_bytes u v) = (wM k b u).set 1 ((b 1), .inl (k.2.1, 1280, .inl v)) := by
  simp only [wM, Mq_whole_bytes, Mq_thrown_bytes, Mq_fields_bytes, Mq_nodes_bytes, Mq_names_bytes, Mq_row_bytes, Mq_subject_bytes, Mq_noted_bytes, Mq_fault_bytes, Mq_bytes_bytes, Mq_categories_bytes, Mq_sizes_bytes, Mq_scales_bytes, Mq_weights_bytes, Mq_ops_bytes, Mq_as_bytes, Mq_bs_bytes, Mq_nameFields_bytes, Mq_ranges_bytes, Mq_lows_bytes, Mq_highs_bytes, Mq_switches_bytes, Mq_ways_bytes, Mq_rowOps_bytes, Mq_objects_bytes, Mq_turned_bytes, Mq_known_bytes, Mq_pile_bytes, Mq_leaves_bytes, Mq_digits_bytes, List.set_cons_succ, List.set_cons_zero]
theorem Mp_bytes {D : va_G} {k : zK} {b : Nat → Nat} {u : MS} {v : Nat → Int32} {H : Heap} (h : va_P D vwCl ((wM k b u).set 1 ((b 1), .inl (k.2.1, 1280, .inl v))) H) : va_P D vwCl (wM k b (Ms_bytes u v)) H := by
  rw [Me_bytes]; exact h
theorem Me_categories (k : zK) (b : Nat → Nat) (u : MS) (v : Nat → Int32) : wM k b (Ms_categories u v) = (wM k b u).set 2 ((b 2), .inl (k.2.1, 40, .inl v)) := by
  simp only [wM, Mq_whole_categories, Mq_thrown_categories, Mq_fields_categories, Mq_nodes_categories, Mq_names_categories, Mq_row_categories, Mq_subject_categories, Mq_noted_categories, Mq_fault_categories, Mq_bytes_categories, Mq_categories_categories, Mq_sizes_categories, Mq_scales_categories, Mq_weights_categories, Mq_ops_categories, Mq_as_categories, Mq_bs_categories, Mq_nameFields_categories, Mq_ranges_categories, Mq_lows_categories, Mq_highs_categories, Mq_switches_categories, Mq_ways_categories, Mq_rowOps_categories, Mq_objects_categories, Mq_turned_categories, Mq_known_categories, Mq_pile_categories, Mq_leaves_categories, Mq_digits_categories, List.set_cons_succ, List.set_cons_zero]
theorem Mp_categories {D : va_G} {k : zK} {b : Nat → Nat} {u : MS} {v : Nat → Int32} {H : Heap} (h : va_P D vwCl ((wM k b u).set 2 ((b 2), .inl (k.2.1, 40, .inl v))) H) : va_P D vwCl (wM k b (Ms_categories u v)) H := by
  rw [Me_categories]; exact h
theorem Me_sizes (k : zK) (b : Nat → Nat) (u : MS) (v : Nat → Int32) : wM k b (Ms_sizes u v) = (wM k b u).set 3 ((b 3), .inl (k.2.1, 40, .inl v)) := by
  simp only [wM, Mq_whole_sizes, Mq_thrown_sizes, Mq_fields_sizes, Mq_nodes_sizes, Mq_names_sizes, Mq_row_sizes, Mq_subject_sizes, Mq_noted_sizes, Mq_fault_sizes, Mq_bytes_sizes, Mq_categories_sizes, Mq_sizes_sizes, Mq_scales_sizes, Mq_weights_sizes, Mq_ops_sizes, Mq_as_sizes, Mq_bs_sizes, Mq_nameFields_sizes, Mq_ranges_sizes, Mq_lows_sizes, Mq_highs_sizes, Mq_switches_sizes, Mq_ways_sizes, Mq_rowOps_sizes, Mq_objects_sizes, Mq_turned_sizes, Mq_known_sizes, Mq_pile_sizes, Mq_leaves_sizes, Mq_digits_sizes, List.set_cons_succ, List.set_cons_zero]
theorem Mp_sizes {D : va_G} {k : zK} {b : Nat → Nat} {u : MS} {v : Nat → Int32} {H : Heap} (h : va_P D vwCl ((wM k b u).set 3 ((b 3), .inl (k.2.1, 40, .inl v))) H) : va_P D vwCl (wM k b (Ms_sizes u v)) H := by
  rw [Me_sizes]; exact h
theorem Me_scales (k : zK) (b : Nat → Nat) (u : MS) (v : Nat → Int32) : wM k b (Ms_scales u v) = (wM k b u).set 4 ((b 4), .inl (k.2.1, 40, .inl v)) := by
  simp only [wM, Mq_whole_scales, Mq_thrown_scales, Mq_fields_scales, Mq_nodes_scales, Mq_names_scales, Mq_row_scales, Mq_subject_scales, Mq_noted_scales, Mq_fault_scales, Mq_bytes_scales, Mq_categories_scales, Mq_sizes_scales, Mq_scales_scales, Mq_weights_scales, Mq_ops_scales, Mq_as_scales, Mq_bs_scales, Mq_nameFields_scales, Mq_ranges_scales, Mq_lows_scales, Mq_highs_scales, Mq_switches_scales, Mq_ways_scales, Mq_rowOps_scales, Mq_objects_scales, Mq_turned_scales, Mq_known_scales, Mq_pile_scales, Mq_leaves_scales, Mq_digits_scales, List.set_cons_succ, List.set_cons_zero]
theorem Mp_scales {D : va_G} {k : zK} {b : Nat → Nat} {u : MS} {v : Nat → Int32} {H : Heap} (h : va_P D vwCl ((wM k b u).set 4 ((b 4), .inl (k.2.1, 40, .inl v))) H) : va_P D vwCl (wM k b (Ms_scales u v)) H := by
  rw [Me_scales]; exact h
theorem Me_weights (k : zK) (b : Nat → Nat) (u : MS) (v : Nat → Int32) : wM k b (Ms_weights u v) = (wM k b u).set 5 ((b 5), .inl (k.2.1, 256, .inl v)) := by
  simp only [wM, Mq_whole_weights, Mq_thrown_weights, Mq_fields_weights, Mq_nodes_weights, Mq_names_weights, Mq_row_weights, Mq_subject_weights, Mq_noted_weights, Mq_fault_weights, Mq_bytes_weights, Mq_categories_weights, Mq_sizes_weights, Mq_scales_weights, Mq_weights_weights, Mq_ops_weights, Mq_as_weights, Mq_bs_weights, Mq_nameFields_weights, Mq_ranges_weights, Mq_lows_weights, Mq_highs_weights, Mq_switches_weights, Mq_ways_weights, Mq_rowOps_weights, Mq_objects_weights, Mq_turned_weights, Mq_known_weights, Mq_pile_weights, Mq_leaves_weights, Mq_digits_weights, List.set_cons_succ, List.set_cons_zero]
theorem Mp_weights {D : va_G} {k : zK} {b : Nat → Nat} {u : MS} {v : Nat → Int32} {H : Heap} (h : va_P D vwCl ((wM k b u).set 5 ((b 5), .inl (k.2.1, 256, .inl v))) H) : va_P D vwCl (wM k b (Ms_weights u v)) H := by
  rw [Me_weights]; exact h
theorem Me_ops (k : zK) (b : Nat → Nat) (u : MS) (v : Nat → Int32) : wM k b (Ms_ops u v) = (wM k b u).set 6 ((b 6), .inl (k.2.1, 201, .inl v)) := by
  simp only [wM, Mq_whole_ops, Mq_thrown_ops, Mq_fields_ops, Mq_nodes_ops, Mq_names_ops, Mq_row_ops, Mq_subject_ops, Mq_noted_ops, Mq_fault_ops, Mq_bytes_ops, Mq_categories_ops, Mq_sizes_ops, Mq_scales_ops, Mq_weights_ops, Mq_ops_ops, Mq_as_ops, Mq_bs_ops, Mq_nameFields_ops, Mq_ranges_ops, Mq_lows_ops, Mq_highs_ops, Mq_switches_ops, Mq_ways_ops, Mq_rowOps_ops, Mq_objects_ops, Mq_turned_ops, Mq_known_ops, Mq_pile_ops, Mq_leaves_ops, Mq_digits_ops, List.set_cons_succ, List.set_cons_zero]
theorem Mp_ops {D : va_G} {k : zK} {b : Nat → Nat} {u : MS} {v : Nat → Int32} {H : Heap} (h : va_P D vwCl ((wM k b u).set 6 ((b 6), .inl (k.2.1, 201, .inl v))) H) : va_P D vwCl (wM k b (Ms_ops u v)) H := by
  rw [Me_ops]; exact h
theorem Me_as (k : zK) (b : Nat → Nat) (u : MS) (v : Nat → Int32) : wM k b (Ms_as u v) = (wM k b u).set 7 ((b 7), .inl (k.2.1, 201, .inl v)) := by
  simp only [wM, Mq_whole_as, Mq_thrown_as, Mq_fields_as, Mq_nodes_as, Mq_names_as, Mq_row_as, Mq_subject_as, Mq_noted_as, Mq_fault_as, Mq_bytes_as, Mq_categories_as, Mq_sizes_as, Mq_scales_as, Mq_weights_as, Mq_ops_as, Mq_as_as, Mq_bs_as, Mq_nameFields_as, Mq_ranges_as, Mq_lows_as, Mq_highs_as, Mq_switches_as, Mq_ways_as, Mq_rowOps_as, Mq_objects_as, Mq_turned_as, Mq_known_as, Mq_pile_as, Mq_leaves_as, Mq_digits_as, List.set_cons_succ, List.set_cons_zero]
theorem Mp_as {D : va_G} {k : zK} {b : Nat → Nat} {u : MS} {v : Nat → Int32} {H : Heap} (h : va_P D vwCl ((wM k b u).set 7 ((b 7), .inl (k.2.1, 201, .inl v))) H) : va_P D vwCl (wM k b (Ms_as u v)) H := by
  rw [Me_as]; exact h
theorem Me_bs (k : zK) (b : Nat → Nat) (u : MS) (v : Nat → Int32) : wM k b (Ms_bs u v) = (wM k b u).set 8 ((b 8), .inl (k.2.1, 201, .inl v)) := by
  simp only [wM, Mq_whole_bs, Mq_thrown_bs, Mq_fields_bs, Mq_nodes_bs, Mq_names_bs, Mq_row_bs, Mq_subject_bs, Mq_noted_bs, Mq_fault_bs, Mq_bytes_bs, Mq_categories_bs, Mq_sizes_bs, Mq_scales_bs, Mq_weights_bs, Mq_ops_bs, Mq_as_bs, Mq_bs_bs, Mq_nameFields_bs, Mq_ranges_bs, Mq_lows_bs, Mq_highs_bs, Mq_switches_bs, Mq_ways_bs, Mq_rowOps_bs, Mq_objects_bs, Mq_turned_bs, Mq_known_bs, Mq_pile_bs, Mq_leaves_bs, Mq_digits_bs, List.set_cons_succ, List.set_cons_zero]
theorem Mp_bs {D : va_G} {k : zK} {b : Nat → Nat} {u : MS} {v : Nat → Int32} {H : Heap} (h : va_P D vwCl ((wM k b u).set 8 ((b 8), .inl (k.2.1, 201, .inl v))) H) : va_P D vwCl (wM k b (Ms_bs u v)) H := by
  rw [Me_bs]; exact h
theorem Me_nameFields (k : zK) (b : Nat → Nat) (u : MS) (v : Nat → Int32) : wM k b (Ms_nameFields u v) = (wM k b u).set 9 ((b 9), .inl (k.2.1, 41, .inl v)) := by
  simp only [wM, Mq_whole_nameFields, Mq_thrown_nameFields, Mq_fields_nameFields, Mq_nodes_nameFields, Mq_names_nameFields, Mq_row_nameFields, Mq_subject_nameFields, Mq_noted_nameFields, Mq_fault_nameFields, Mq_bytes_nameFields, Mq_categories_nameFields, Mq_sizes_nameFields, Mq_scales_nameFields, Mq_weights_nameFields, Mq_ops_nameFields, Mq_as_nameFields, Mq_bs_nameFields, Mq_nameFields_nameFields, Mq_ranges_nameFields, Mq_lows_nameFields, Mq_highs_nameFields, Mq_switches_nameFields, Mq_ways_nameFields, Mq_rowOps_nameFields, Mq_objects_nameFields, Mq_turned_nameFields, Mq_known_nameFields, Mq_pile_nameFields, Mq_leaves_nameFields, Mq_digits_nameFields, List.set_cons_succ, List.set_cons_zero]
theorem Mp_nameFields {D : va_G} {k : zK} {b : Nat → Nat} {u : MS} {v : Nat → Int32} {H : Heap} (h : va_P D vwCl ((wM k b u).set 9 ((b 9), .inl (k.2.1, 41, .inl v))) H) : va_P D vwCl (wM k b (Ms_nameFields u v)) H := by
  rw [Me_nameFields]; exact h
theorem Me_ranges (k : zK) (b : Nat → Nat) (u : MS) (v : Nat → Int32) : wM k b (Ms_ranges u v) = (wM k b u).set 10 ((b 10), .inl (k.2.1, 41, .inl v)) := by
  simp only [wM, Mq_whole_ranges, Mq_thrown_ranges, Mq_fields_ranges, Mq_nodes_ranges, Mq_names_ranges, Mq_row_ranges, Mq_subject_ranges, Mq_noted_ranges, Mq_fault_ranges, Mq_bytes_ranges, Mq_categories_ranges, Mq_sizes_ranges, Mq_scales_ranges, Mq_weights_ranges, Mq_ops_ranges, Mq_as_ranges, Mq_bs_ranges, Mq_nameFields_ranges, Mq_ranges_ranges, Mq_lows_ranges, Mq_highs_ranges, Mq_switches_ranges, Mq_ways_ranges, Mq_rowOps_ranges, Mq_objects_ranges, Mq_turned_ranges, Mq_known_ranges, Mq_pile_ranges, Mq_leaves_ranges, Mq_digits_ranges, List.set_cons_succ, List.set_cons_zero]
theorem Mp_ranges {D : va_G} {k : zK} {b : Nat → Nat} {u : MS} {v : Nat → Int32} {H : Heap} (h : va_P D vwCl ((wM k b u).set 10 ((b 10), .inl (k.2.1, 41, .inl v))) H) : va_P D vwCl (wM k b (Ms_ranges u v)) H := by
  rw [Me_ranges]; exact h
theorem Me_lows (k : zK) (b : Nat → Nat) (u : MS) (v : Nat → Int64) : wM k b (Ms_lows u v) = (wM k b u).set 11 ((b 11), .inl (k.2.2.1, 328, .inr (.inl v))) := by
  simp only [wM, Mq_whole_lows, Mq_thrown_lows, Mq_fields_lows, Mq_nodes_lows, Mq_names_lows, Mq_row_lows, Mq_subject_lows, Mq_noted_lows, Mq_fault_lows, Mq_bytes_lows, Mq_categories_lows, Mq_sizes_lows, Mq_scales_lows, Mq_weights_lows, Mq_ops_lows, Mq_as_lows, Mq_bs_lows, Mq_nameFields_lows, Mq_ranges_lows, Mq_lows_lows, Mq_highs_lows, Mq_switches_lows, Mq_ways_lows, Mq_rowOps_lows, Mq_objects_lows, Mq_turned_lows, Mq_known_lows, Mq_pile_lows, Mq_leaves_lows, Mq_digits_lows, List.set_cons_succ, List.set_cons_zero]
theorem Mp_lows {D : va_G} {k : zK} {b : Nat → Nat} {u : MS} {v : Nat → Int64} {H : Heap} (h : va_P D vwCl ((wM k b u).set 11 ((b 11), .inl (k.2.2.1, 328, .inr (.inl v)))) H) : va_P D vwCl (wM k b (Ms_lows u v)) H := by
  rw [Me_lows]; exact h
theorem Me_highs (k : zK) (b : Nat → Nat) (u : MS) (v : Nat → Int64) : wM k b (Ms_highs u v) = (wM k b u).set 12 ((b 12), .inl (k.2.2.1, 328, .inr (.inl v))) := by
  simp only [wM, Mq_whole_highs, Mq_thrown_highs, Mq_fields_highs, Mq_nodes_highs, Mq_names_highs, Mq_row_highs, Mq_subject_highs, Mq_noted_highs, Mq_fault_highs, Mq_bytes_highs, Mq_categories_highs, Mq_sizes_highs, Mq_scales_highs, Mq_weights_highs, Mq_ops_highs, Mq_as_highs, Mq_bs_highs, Mq_nameFields_highs, Mq_ranges_highs, Mq_lows_highs, Mq_highs_highs, Mq_switches_highs, Mq_ways_highs, Mq_rowOps_highs, Mq_objects_highs, Mq_turned_highs, Mq_known_highs, Mq_pile_highs, Mq_leaves_highs, Mq_digits_highs, List.set_cons_succ, List.set_cons_zero]
theorem Mp_highs {D : va_G} {k : zK} {b : Nat → Nat} {u : MS} {v : Nat → Int64} {H : Heap} (h : va_P D vwCl ((wM k b u).set 12 ((b 12), .inl (k.2.2.1, 328, .inr (.inl v)))) H) : va_P D vwCl (wM k b (Ms_highs u v)) H := by
  rw [Me_highs]; exact h
theorem Me_switches (k : zK) (b : Nat → Nat) (u : MS) (v : Nat → Int32) : wM k b (Ms_switches u v) = (wM k b u).set 13 ((b 13), .inl (k.2.2.2, 16, .inl v)) := by
  simp only [wM, Mq_whole_switches, Mq_thrown_switches, Mq_fields_switches, Mq_nodes_switches, Mq_names_switches, Mq_row_switches, Mq_subject_switches, Mq_noted_switches, Mq_fault_switches, Mq_bytes_switches, Mq_categories_switches, Mq_sizes_switches, Mq_scales_switches, Mq_weights_switches, Mq_ops_switches, Mq_as_switches, Mq_bs_switches, Mq_nameFields_switches, Mq_ranges_switches, Mq_lows_switches, Mq_highs_switches, Mq_switches_switches, Mq_ways_switches, Mq_rowOps_switches, Mq_objects_switches, Mq_turned_switches, Mq_known_switches, Mq_pile_switches, Mq_leaves_switches, Mq_digits_switches, List.set_cons_succ, List.set_cons_zero]
theorem Mp_switches {D : va_G} {k : zK} {b : Nat → Nat} {u : MS} {v : Nat → Int32} {H : Heap} (h : va_P D vwCl ((wM k b u).set 13 ((b 13), .inl (k.2.2.2, 16, .inl v))) H) : va_P D vwCl (wM k b (Ms_switches u v)) H := by
  rw [Me_switches]; exact h
theorem Me_ways (k : zK) (b : Nat → Nat) (u : MS) (v : Nat → Int32) : wM k b (Ms_ways u v) = (wM k b u).set 14 ((b 14), .inl (k.2.1, 20, .inl v)) := by
  simp only [wM, Mq_whole_ways, Mq_thrown_ways, Mq_fields_ways, Mq_nodes_ways, Mq_names_ways, Mq_row_ways, Mq_subject_ways, Mq_noted_ways, Mq_fault_ways, Mq_bytes_ways, Mq_categories_ways, Mq_sizes_ways, Mq_scales_ways, Mq_weights_ways, Mq_ops_ways, Mq_as_ways, Mq_bs_ways, Mq_nameFields_ways, Mq_ranges_ways, Mq_lows_ways, Mq_highs_ways, Mq_switches_ways, Mq_ways_ways, Mq_rowOps_ways, Mq_objects_ways, Mq_turned_ways, Mq_known_ways, Mq_pile_ways, Mq_leaves_ways, Mq_digits_ways, List.set_cons_succ, List.set_cons_zero]
theorem Mp_ways {D : va_G} {k : zK} {b : Nat → Nat} {u : MS} {v : Nat → Int32} {H : Heap} (h : va_P D vwCl ((wM k b u).set 14 ((b 14), .inl (k.2.1, 20, .inl v))) H) : va_P D vwCl (wM k b (Ms_ways u v)) H := by
  rw [Me_ways]; exact h
theorem Me_rowOps (k : zK) (b : Nat → Nat) (u : MS) (v : Nat → Int32) : wM k b (Ms_rowOps u v) = (wM k b u).set 15 ((b 15), .inl (k.2.1, 20, .inl v)) := by
  simp only [wM, Mq_whole_rowOps, Mq_thrown_rowOps, Mq_fields_rowOps, Mq_nodes_rowOps, Mq_names_rowOps, Mq_row_rowOps, Mq_subject_rowOps, Mq_noted_rowOps, Mq_fault_rowOps, Mq_bytes_rowOps, Mq_categories_rowOps, Mq_sizes_rowOps, Mq_scales_rowOps, Mq_weights_rowOps, Mq_ops_rowOps, Mq_as_rowOps, Mq_bs_rowOps, Mq_nameFields_rowOps, Mq_ranges_rowOps, Mq_lows_rowOps, Mq_highs_rowOps, Mq_switches_rowOps, Mq_ways_rowOps, Mq_rowOps_rowOps, Mq_objects_rowOps, Mq_turned_rowOps, Mq_known_rowOps, Mq_pile_rowOps, Mq_leaves_rowOps, Mq_digits_rowOps, List.set_cons_succ, List.set_cons_zero]
theorem Mp_rowOps {D : va_G} {k : zK} {b : Nat → Nat} {u : MS} {v : Nat → Int32} {H : Heap} (h : va_P D vwCl ((wM k b u).set 15 ((b 15), .inl (k.2.1, 20, .inl v))) H) : va_P D vwCl (wM k b (Ms_rowOps u v)) H := by
  rw [Me_rowOps]; exact h
theorem Me_objects (k : zK) (b : Nat → Nat) (u : MS) (v : Nat → Int32) : wM k b (Ms_objects u v) = (wM k b u).set 16 ((b 16), .inl (k.2.1, 20, .inl v)) := by
  simp only [wM, Mq_whole_objects, Mq_thrown_objects, Mq_fields_objects, Mq_nodes_objects, Mq_names_objects, Mq_row_objects, Mq_subject_objects, Mq_noted_objects, Mq_fault_objects, Mq_bytes_objects, Mq_categories_objects, Mq_sizes_objects, Mq_scales_objects, Mq_weights_objects, Mq_ops_objects, Mq_as_objects, Mq_bs_objects, Mq_nameFields_objects, Mq_ranges_objects, Mq_lows_objects, Mq_highs_objects, Mq_switches_objects, Mq_ways_objects, Mq_rowOps_objects, Mq_objects_objects, Mq_turned_objects, Mq_known_objects, Mq_pile_objects, Mq_leaves_objects, Mq_digits_objects, List.set_cons_succ, List.set_cons_zero]
theorem Mp_objects {D : va_G} {k : zK} {b : Nat → Nat} {u : MS} {v : Nat → Int32} {H : Heap} (h : va_P D vwCl ((wM k b u).set 16 ((b 16), .inl (k.2.1, 20, .inl v))) H) : va_P D vwCl (wM k b (Ms_objects u v)) H := by
  rw [Me_objects]; exact h
theorem Me_turned (k : zK) (b : Nat → Nat) (u : MS) (v : Nat → Int32) : wM k b (Ms_turned u v) = (wM k b u).set 17 ((b 17), .inl (k.2.2.2, 20, .inl v)) := by
  simp only [wM, Mq_whole_turned, Mq_thrown_turned, Mq_fields_turned, Mq_nodes_turned, Mq_names_turned, Mq_row_turned, Mq_subject_turned, Mq_noted_turned, Mq_fault_turned, Mq_bytes_turned, Mq_categories_turned, Mq_sizes_turned, Mq_scales_turned, Mq_weights_turned, Mq_ops_turned, Mq_as_turned, Mq_bs_turned, Mq_nameFields_turned, Mq_ranges_turned, Mq_lows_turned, Mq_highs_turned, Mq_switches_turned, Mq_ways_turned, Mq_rowOps_turned, Mq_objects_turned, Mq_turned_turned, Mq_known_turned, Mq_pile_turned, Mq_leaves_turned, Mq_digits_turned, List.set_cons_succ, List.set_cons_zero]
theorem Mp_turned {D : va_G} {k : zK} {b : Nat → Nat} {u : MS} {v : Nat → Int32} {H : Heap} (h : va_P D vwCl ((wM k b u).set 17 ((b 17), .inl (k.2.2.2, 20, .inl v))) H) : va_P D vwCl (wM k b (Ms_turned u v)) H := by
  rw [Me_turned]; exact h
theorem Me_known (k : zK) (b : Nat → Nat) (u : MS) (v : Nat → Int32) : wM k b (Ms_known u v) = (wM k b u).set 18 ((b 18), .inl (k.2.1, 201, .inl v)) := by
  simp only [wM, Mq_whole_known, Mq_thrown_known, Mq_fields_known, Mq_nodes_known, Mq_names_known, Mq_row_known, Mq_subject_known, Mq_noted_known, Mq_fault_known, Mq_bytes_known, Mq_categories_known, Mq_sizes_known, Mq_scales_known, Mq_weights_known, Mq_ops_known, Mq_as_known, Mq_bs_known, Mq_nameFields_known, Mq_ranges_known, Mq_lows_known, Mq_highs_known, Mq_switches_known, Mq_ways_known, Mq_rowOps_known, Mq_objects_known, Mq_turned_known, Mq_known_known, Mq_pile_known, Mq_leaves_known, Mq_digits_known, List.set_cons_succ, List.set_cons_zero]
theorem Mp_known {D : va_G} {k : zK} {b : Nat → Nat} {u : MS} {v : Nat → Int32} {H : Heap} (h : va_P D vwCl ((wM k b u).set 18 ((b 18), .inl (k.2.1, 201, .inl v))) H) : va_P D vwCl (wM k b (Ms_known u v)) H := by
  rw [Me_known]; exact h
theorem Me_pile (k : zK) (b : Nat → Nat) (u : MS) (v : Nat → Int32) : wM k b (Ms_pile u v) = (wM k b u).set 19 ((b 19), .inl (k.2.1, 402, .inl v)) := by
  simp only [wM, Mq_whole_pile, Mq_thrown_pile, Mq_fields_pile, Mq_nodes_pile, Mq_names_pile, Mq_row_pile, Mq_subject_pile, Mq_noted_pile, Mq_fault_pile, Mq_bytes_pile, Mq_categories_pile, Mq_sizes_pile, Mq_scales_pile, Mq_weights_pile, Mq_ops_pile, Mq_as_pile, Mq_bs_pile, Mq_nameFields_pile, Mq_ranges_pile, Mq_lows_pile, Mq_highs_pile, Mq_switches_pile, Mq_ways_pile, Mq_rowOps_pile, Mq_objects_pile, Mq_turned_pile, Mq_known_pile, Mq_pile_pile, Mq_leaves_pile, Mq_digits_pile, List.set_cons_succ, List.set_cons_zero]
theorem Mp_pile {D : va_G} {k : zK} {b : Nat → Nat} {u : MS} {v : Nat → Int32} {H : Heap} (h : va_P D vwCl ((wM k b u).set 19 ((b 19), .inl (k.2.1, 402, .inl v))) H) : va_P D vwCl (wM k b (Ms_pile u v)) H := by
  rw [Me_pile]; exact h
theorem Me_leaves (k : zK) (b : Nat → Nat) (u : MS) (v : Nat → Int32) : wM k b (Ms_leaves u v) = (wM k b u).set 20 ((b 20), .inl (k.2.1, 200, .inl v)) := by
  simp only [wM, Mq_whole_leaves, Mq_thrown_leaves, Mq_fields_leaves, Mq_nodes_leaves, Mq_names_leaves, Mq_row_leaves, Mq_subject_leaves, Mq_noted_leaves, Mq_fault_leaves, Mq_bytes_leaves, Mq_categories_leaves, Mq_sizes_leaves, Mq_scales_leaves, Mq_weights_leaves, Mq_ops_leaves, Mq_as_leaves, Mq_bs_leaves, Mq_nameFields_leaves, Mq_ranges_leaves, Mq_lows_leaves, Mq_highs_leaves, Mq_switches_leaves, Mq_ways_leaves, Mq_rowOps_leaves, Mq_objects_leaves, Mq_turned_leaves, Mq_known_leaves, Mq_pile_leaves, Mq_leaves_leaves, Mq_digits_leaves, List.set_cons_succ, List.set_cons_zero]
theorem Mp_leaves {D : va_G} {k : zK} {b : Nat → Nat} {u : MS} {v : Nat → Int32} {H : Heap} (h : va_P D vwCl ((wM k b u).set 20 ((b 20), .inl (k.2.1, 200, .inl v))) H) : va_P D vwCl (wM k b (Ms_leaves u v)) H := by
  rw [Me_leaves]; exact h
theorem Me_digits (k : zK) (b : Nat → Nat) (u : MS) (v : Nat → Int32) : wM k b (Ms_digits u v) = (wM k b u).set 21 ((b 21), .inl (k.2.1, 40, .inl v)) := by
  simp only [wM, Mq_whole_digits, Mq_thrown_digits, Mq_fields_digits, Mq_nodes_digits, Mq_names_digits, Mq_row_digits, Mq_subject_digits, Mq_noted_digits, Mq_fault_digits, Mq_bytes_digits, Mq_categories_digits, Mq_sizes_digits, Mq_scales_digits, Mq_weights_digits, Mq_ops_digits, Mq_as_digits, Mq_bs_digits, Mq_nameFields_digits, Mq_ranges_digits, Mq_lows_digits, Mq_highs_digits, Mq_switches_digits, Mq_ways_digits, Mq_rowOps_digits, Mq_objects_digits, Mq_turned_digits, Mq_known_digits, Mq_pile_digits, Mq_leaves_digits, Mq_digits_digits, List.set_cons_succ, List.set_cons_zero]
theorem Mp_digits {D : va_G} {k : zK} {b : Nat → Nat} {u : MS} {v : Nat → Int32} {H : Heap} (h : va_P D vwCl ((wM k b u).set 21 ((b 21), .inl (k.2.1, 40, .inl v))) H) : va_P D vwCl (wM k b (Ms_digits u v)) H := by
  rw [Me_digits]; exact h
end
section
/-! the ends of a method that writes: said once, of any answer, so that no answer is ever computed -/
theorem zri {S : Type} {D : va_G} {w : S → va_W} {A : Nat → Prop} {v : Int32} {u : S} {tgt : Int32 × S} {H : Heap} {args : Array Value} {s t : State} (hf : (v, u) = tgt) (hP : va_P D vwCl (w u) H) (ht : t.heap = H) (hF : va_F A s t) : zQi D w A tgt args s (.returned (some (.int v))) t := by
  subst hf; exact ⟨rfl, by rw [ht]; exact hP, hF⟩
theorem zrl {S : Type} {D : va_G} {w : S → va_W} {A : Nat → Prop} {v : Int64} {u : S} {tgt : Int64 × S} {H : Heap} {args : Array Value} {s t : State} (hf : (v, u) = tgt) (hP : va_P D vwCl (w u) H) (ht : t.heap = H) (hF : va_F A s t) : zQl D w A tgt args s (.returned (some (.long v))) t := by
  subst hf; exact ⟨rfl, by rw [ht]; exact hP, hF⟩
theorem zrv {S : Type} {D : va_G} {w : S → va_W} {A : Nat → Prop} {u tgt : S} {H : Heap} {args : Array Value} {s t : State} (hf : u = tgt) (hP : va_P D vwCl (w u) H) (ht : t.heap = H) (hF : va_F A s t) : zQv D w A tgt args s (.returned none) t := by
  subst hf; exact ⟨rfl, by rw [ht]; exact hP, hF⟩
end
section
theorem dM_isField_0 : decode cM_isField 0 = .ok (.iload_n 1, 1) := by decide +kernel
theorem dM_isField_1 : decode cM_isField 1 = .ok (.ifCond .lt 15, 3) := by decide +kernel
theorem dM_isField_4 : decode cM_isField 4 = .ok (.iload_n 1, 1) := by decide +kernel
theorem dM_isField_5 : decode cM_isField 5 = .ok (.aload_n 0, 1) := by decide +kernel
theorem dM_isField_6 : decode cM_isField 6 = .ok (.getfield 83, 3) := by decide +kernel
theorem dM_isField_9 : decode cM_isField 9 = .ok (.if_icmp .ge 7, 3) := by decide +kernel
theorem dM_isField_12 : decode cM_isField 12 = .ok (.iconst 1, 1) := by decide +kernel
theorem dM_isField_13 : decode cM_isField 13 = .ok (.goto 4, 3) := by decide +kernel
theorem dM_isField_16 : decode cM_isField 16 = .ok (.iconst 0, 1) := by decide +kernel
theorem dM_isField_17 : decode cM_isField 17 = .ok (.ireturn, 1) := by decide +kernel
abbrev wsM_isField : List Cond := Cond.code yM_isField cM_isField 2 (some .boolean) :: zWords
def FM_isField (u : MS) (p0 : Int32) : Int32 := (if p0 < 0 then 0 else (if (Mg_fields u) ≤ p0 then 0 else 1))
set_option maxHeartbeats 4000000 in
set_option maxRecDepth 100000 in
theorem tM_isField (l : Launch) {D : va_G} {k : zK} {b : Nat → Nat} (hI : zI 22 b) (u : MS) (p0 : Int32) : Met l yM_isField wsM_isField ({ frames := 0, cells := 0, slots := 0, locals := 0 }) (zPc D k (zA 22 b) (wM k b u) [.ref (b 0), .int p0]) (vp_Si (fun r9 => r9 = (FM_isField u p0))) 0 0 (fun _ => False) := by
  refine Met.ofW (cc := cM_isField) (maxL := 2) (ret := (some .boolean)) (by decide) rfl ?_
  intro p e s m args below meth c s₁ B hml hv
  obtain ⟨rfl, hP, hE⟩ := hv
  have hts := atoms_spec (ws := wsM_isField) B.pre
  have C0 : zC p s m _ meth c cM_isField (some .boolean) 2 RM wsM_isField D k (zA 22 b) := ⟨B.exec, B.bytes, B.returns, hml, findClass_of_methodNamed B.named, hts, B.notSynchronized, hE⟩
  obtain ⟨hx, hb, hr, hml, hown, _, hlocks, _⟩ := id C0
  have hK := hE.1
  have hS : va_S (zA 22 b) s.heap s.heap [] := va_S.rf
  generalize hf : FM_isField u p0 = tgt
  change ((if p0 < 0 then 0 else (if (Mg_fields u) ≤ p0 then 0 else 1)) : Int32) = tgt at hf
  have hl := lv_entry ([.ref (b 0), .int p0]) (n := 2) (Nat.le_of_ble_eq_true rfl)
  rw [lg_entry_eq]
  generalize (lg_sl ([.ref (b 0), .int p0]) ++ List.replicate (2 - (lg_sl ([.ref (b 0), .int p0])).length) Slot.unset).toArray = ls at hl ⊢
  have hl : lv_has ls 2 [(0, .ref (b 0)), (1, .int p0)] := hl
  refine lv_iload_n hx hb dM_isField_0 rfl (lv_at hl 1 rfl) ?_
  refine lv_if_lt (tgt := 16) hx hb dM_isField_1 (by decide) (fun c1 => ?_) (fun c1 => ?_)
  · have hf := zt hf c1
    refine lv_iconst (v := 0) hx hb dM_isField_16 (by decide) ?_
    exact W.zret (v := 0) (ty := .boolean) hx hb hr rfl (fun t ht hW => ⟨_, rfl, hf, ht⟩) (fun _ h9 => nomatch h9) dM_isField_17
  · have hf := zn hf c1
    refine lv_iload_n hx hb dM_isField_4 rfl (lv_at hl 1 rfl) ?_
    refine lv_aload_n hx hb dM_isField_5 rfl (lv_at hl 0 rfl) ?_
    refine va_get (D := D) (ci := 7) (v := .int (Mg_fields u)) (C := RM) (T := TM) (N := 30) hx hb hts (fun w h9 => zc (inM w h9)) hown hK hP 0 rfl rfl 7 (by decide) (hts _ (zc m_604)) (fun _ h9 => h9) rfl dM_isField_6 ?_
    refine lv_icmp_ge (tgt := 16) hx hb dM_isField_9 (by decide) (fun c2 => ?_) (fun c2 => ?_)
    · have hf := zt hf c2
      refine lv_iconst (v := 0) hx hb dM_isField_16 (by decide) ?_
      exact W.zret (v := 0) (ty := .boolean) hx hb hr rfl (fun t ht hW => ⟨_, rfl, hf, ht⟩) (fun _ h9 => nomatch h9) dM_isField_17
    · have hf := zn hf c2
      refine lv_iconst (v := 1) hx hb dM_isField_12 (by decide) ?_
      refine lv_goto (tgt := 17) hx hb dM_isField_13 (by decide) ?_
      exact W.zret (v := 1) (ty := .boolean) hx hb hr rfl (fun t ht hW => ⟨_, rfl, hf, ht⟩) (fun _ h9 => nomatch h9) dM_isField_17
theorem dM_isNode_0 : decode cM_isNode 0 = .ok (.iload_n 1, 1) := by decide +kernel
theorem dM_isNode_1 : decode cM_isNode 1 = .ok (.iconst 1, 1) := by decide +kernel
theorem dM_isNode_2 : decode cM_isNode 2 = .ok (.if_icmp .lt 15, 3) := by decide +kernel
theorem dM_isNode_5 : decode cM_isNode 5 = .ok (.iload_n 1, 1) := by decide +kernel
theorem dM_isNode_6 : decode cM_isNode 6 = .ok (.aload_n 0, 1) := by decide +kernel
theorem dM_isNode_7 : decode cM_isNode 7 = .ok (.getfield 86, 3) := by decide +kernel
theorem dM_isNode_10 : decode cM_isNode 10 = .ok (.if_icmp .gt 7, 3) := by decide +kernel
theorem dM_isNode_13 : decode cM_isNode 13 = .ok (.iconst 1, 1) := by decide +kernel
theorem dM_isNode_14 : decode cM_isNode 14 = .ok (.goto 4, 3) := by decide +kernel
theorem dM_isNode_17 : decode cM_isNode 17 = .ok (.iconst 0, 1) := by decide +kernel
theorem dM_isNode_18 : decode cM_isNode 18 = .ok (.ireturn, 1) := by decide +kernel
abbrev wsM_isNode : List Cond := Cond.code yM_isNode cM_isNode 2 (some .boolean) :: zWords
def FM_isNode (u : MS) (p0 : Int32) : Int32 := (if p0 < 1 then 0 else (if (Mg_nodes u) < p0 then 0 else 1))
set_option maxHeartbeats 4000000 in
set_option maxRecDepth 100000 in
theorem tM_isNode (l : Launch) {D : va_G} {k : zK} {b : Nat → Nat} (hI : zI 22 b) (u : MS) (p0 : Int32) : Met l yM_isNode wsM_isNode ({ frames := 0, cells := 0, slots := 0, locals := 0 }) (zPc D k (zA 22 b) (wM k b u) [.ref (b 0), .int p0]) (vp_Si (fun r9 => r9 = (FM_isNode u p0))) 0 0 (fun _ => False) := by
  refine Met.ofW (cc := cM_isNode) (maxL := 2) (ret := (some .boolean)) (by decide) rfl ?_
  intro p e s m args below meth c s₁ B hml hv
  obtain ⟨rfl, hP, hE⟩ := hv
  have hts := atoms_spec (ws := wsM_isNode) B.pre
  have C0 : zC p s m _ meth c cM_isNode (some .boolean) 2 RM wsM_isNode D k (zA 22 b) := ⟨B.exec, B.bytes, B.returns, hml, findClass_of_methodNamed B.named, hts, B.notSynchronized, hE⟩
  obtain ⟨hx, hb, hr, hml, hown, _, hlocks, _⟩ := id C0
  have hK := hE.1
  have hS : va_S (zA 22 b) s.heap s.heap [] := va_S.rf
  generalize hf : FM_isNode u p0 = tgt
  change ((if p0 < 1 then 0 else (if (Mg_nodes u) < p0 then 0 else 1)) : Int32) = tgt at hf
  have hl := lv_entry ([.ref (b 0), .int p0]) (n := 2) (Nat.le_of_ble_eq_true rfl)
  rw [lg_entry_eq]
  generalize (lg_sl ([.ref (b 0), .int p0]) ++ List.replicate (2 - (lg_sl ([.ref (b 0), .int p0])).length) Slot.unset).toArray = ls at hl ⊢
  have hl : lv_has ls 2 [(0, .ref (b 0)), (1, .int p0)] := hl
  refine lv_iload_n hx hb dM_isNode_0 rfl (lv_at hl 1 rfl) ?_
  refine lv_iconst (v := 1) hx hb dM_isNode_1 (by decide) ?_
  refine lv_icmp_lt (tgt := 17) hx hb dM_isNode_2 (by decide) (fun c1 => ?_) (fun c1 => ?_)
  · have hf := zt hf c1
    refine lv_iconst (v := 0) hx hb dM_isNode_17 (by decide) ?_
    exact W.zret (v := 0) (ty := .boolean) hx hb hr rfl (fun t ht hW => ⟨_, rfl, hf, ht⟩) (fun _ h9 => nomatch h9) dM_isNode_18
  · have hf := zn hf c1
    refine lv_iload_n hx hb dM_isNode_5 rfl (lv_at hl 1 rfl) ?_
    refine lv_aload_n hx hb dM_isNode_6 rfl (lv_at hl 0 rfl) ?_
    refine va_get (D := D) (ci := 7) (v := .int (Mg_nodes u)) (C := RM) (T := TM) (N := 30) hx hb hts (fun w h9 => zc (inM w h9)) hown hK hP 0 rfl rfl 11 (by decide) (hts _ (zc m_608)) (fun _ h9 => h9) rfl dM_isNode_7 ?_
    refine lv_icmp_gt (tgt := 17) hx hb dM_isNode_10 (by decide) (fun c2 => ?_) (fun c2 => ?_)
    · have hf := zt hf c2
      refine lv_iconst (v := 0) hx hb dM_isNode_17 (by decide) ?_
      exact W.zret (v := 0) (ty := .boolean) hx hb hr rfl (fun t ht hW => ⟨_, rfl, hf, ht⟩) (fun _ h9 => nomatch h9) dM_isNode_18
    · have hf := zn hf c2
      refine lv_iconst (v := 1) hx hb dM_isNode_13 (by decide) ?_
      refine lv_goto (tgt := 18) hx hb dM_isNode_14 (by decide) ?_
      exact W.zret (v := 1) (ty := .boolean) hx hb hr rfl (fun t ht hW => ⟨_, rfl, hf, ht⟩) (fun _ h9 => nomatch h9) dM_isNode_18
theorem dM_isName_0 : decode cM_isName 0 = .ok (.iload_n 1, 1) := by decide +kernel
theorem dM_isName_1 : decode cM_isName 1 = .ok (.iconst 1, 1) := by decide +kernel
theorem dM_isName_2 : decode cM_isName 2 = .ok (.if_icmp .lt 15, 3) := by decide +kernel
theorem dM_isName_5 : decode cM_isName 5 = .ok (.iload_n 1, 1) := by decide +kernel
theorem dM_isName_6 : decode cM_isName 6 = .ok (.aload_n 0, 1) := by decide +kernel
theorem dM_isName_7 : decode cM_isName 7 = .ok (.getfield 89, 3) := by decide +kernel
theorem dM_isName_10 : decode cM_isName 10 = .ok (.if_icmp .gt 7, 3) := by decide +kernel
theorem dM_isName_13 : decode cM_isName 13 = .ok (.iconst 1, 1) := by decide +kernel
theorem dM_isName_14 : decode cM_isName 14 = .ok (.goto 4, 3) := by decide +kernel
theorem dM_isName_17 : decode cM_isName 17 = .ok (.iconst 0, 1) := by decide +kernel
theorem dM_isName_18 : decode cM_isName 18 = .ok (.ireturn, 1) := by decide +kernel
abbrev wsM_isName : List Cond := Cond.code yM_isName cM_isName 2 (some .boolean) :: zWords
def FM_isName (u : MS) (p0 : Int32) : Int32 := (if p0 < 1 then 0 else (if (Mg_names u) < p0 then 0 else 1))
set_option maxHeartbeats 4000000 in
set_option maxRecDepth 100000 in
theorem tM_isName (l : Launch) {D : va_G} {k : zK} {b : Nat → Nat} (hI : zI 22 b) (u : MS) (p0 : Int32) : Met l yM_isName wsM_isName ({ frames := 0, cells := 0, slots := 0, locals := 0 }) (zPc D k (zA 22 b) (wM k b u) [.ref (b 0), .int p0]) (vp_Si (fun r9 => r9 = (FM_isName u p0))) 0 0 (fun _ => False) := by
  refine Met.ofW (cc := cM_isName) (maxL := 2) (ret := (some .boolean)) (by decide) rfl ?_
  intro p e s m args below meth c s₁ B hml hv
  obtain ⟨rfl, hP, hE⟩ := hv
  have hts := atoms_spec (ws := wsM_isName) B.pre
  have C0 : zC p s m _ meth c cM_isName (some .boolean) 2 RM wsM_isName D k (zA 22 b) := ⟨B.exec, B.bytes, B.returns, hml, findClass_of_methodNamed B.named, hts, B.notSynchronized, hE⟩
  obtain ⟨hx, hb, hr, hml, hown, _, hlocks, _⟩ := id C0
  have hK := hE.1
  have hS : va_S (zA 22 b) s.heap s.heap [] := va_S.rf
  generalize hf : FM_isName u p0 = tgt
  change ((if p0 < 1 then 0 else (if (Mg_names u) < p0 then 0 else 1)) : Int32) = tgt at hf
  have hl := lv_entry ([.ref (b 0), .int p0]) (n := 2) (Nat.le_of_ble_eq_true rfl)
  rw [lg_entry_eq]
  generalize (lg_sl ([.ref (b 0), .int p0]) ++ List.replicate (2 - (lg_sl ([.ref (b 0), .int p0])).length) Slot.unset).toArray = ls at hl ⊢
  have hl : lv_has ls 2 [(0, .ref (b 0)), (1, .int p0)] := hl
  refine lv_iload_n hx hb dM_isName_0 rfl (lv_at hl 1 rfl) ?_
  refine lv_iconst (v := 1) hx hb dM_isName_1 (by decide) ?_
  refine lv_icmp_lt (tgt := 17) hx hb dM_isName_2 (by decide) (fun c1 => ?_) (fun c1 => ?_)
  · have hf := zt hf c1
    refine lv_iconst (v := 0) hx hb dM_isName_17 (by decide) ?_
    exact W.zret (v := 0) (ty := .boolean) hx hb hr rfl (fun t ht hW => ⟨_, rfl, hf, ht⟩) (fun _ h9 => nomatch h9) dM_isName_18
  · have hf := zn hf c1
    refine lv_iload_n hx hb dM_isName_5 rfl (lv_at hl 1 rfl) ?_
    refine lv_aload_n hx hb dM_isName_6 rfl (lv_at hl 0 rfl) ?_
    refine va_get (D := D) (ci := 7) (v := .int (Mg_names u)) (C := RM) (T := TM) (N := 30) hx hb hts (fun w h9 => zc (inM w h9)) hown hK hP 0 rfl rfl 16 (by decide) (hts _ (zc m_613)) (fun _ h9 => h9) rfl dM_isName_7 ?_
    refine lv_icmp_gt (tgt := 17) hx hb dM_isName_10 (by decide) (fun c2 => ?_) (fun c2 => ?_)
    · have hf := zt hf c2
      refine lv_iconst (v := 0) hx hb dM_isName_17 (by decide) ?_
      exact W.zret (v := 0) (ty := .boolean) hx hb hr rfl (fun t ht hW => ⟨_, rfl, hf, ht⟩) (fun _ h9 => nomatch h9) dM_isName_18
    · have hf := zn hf c2
      refine lv_iconst (v := 1) hx hb dM_isName_13 (by decide) ?_
      refine lv_goto (tgt := 18) hx hb dM_isName_14 (by decide) ?_
      exact W.zret (v := 1) (ty := .boolean) hx hb hr rfl (fun t ht hW => ⟨_, rfl, hf, ht⟩) (fun _ h9 => nomatch h9) dM_isName_18
theorem dM_field_0 : decode cM_field 0 = .ok (.aload_n 0, 1) := by decide +kernel
theorem dM_field_1 : decode cM_field 1 = .ok (.iconst 0, 1) := by decide +kernel
theorem dM_field_2 : decode cM_field 2 = .ok (.putfield 79, 3) := by decide +kernel
theorem dM_field_5 : decode cM_field 5 = .ok (.iload_n 1, 1) := by decide +kernel
theorem dM_field_6 : decode cM_field 6 = .ok (.ifCond .ne 8, 3) := by decide +kernel
theorem dM_field_9 : decode cM_field 9 = .ok (.bipush 32, 2) := by decide +kernel
theorem dM_field_11 : decode cM_field 11 = .ok (.goto 15, 3) := by decide +kernel
theorem dM_field_14 : decode cM_field 14 = .ok (.iload_n 1, 1) := by decide +kernel
theorem dM_field_15 : decode cM_field 15 = .ok (.iconst 1, 1) := by decide +kernel
theorem dM_field_16 : decode cM_field 16 = .ok (.if_icmp .ne 8, 3) := by decide +kernel
theorem dM_field_19 : decode cM_field 19 = .ok (.bipush 18, 2) := by decide +kernel
theorem dM_field_21 : decode cM_field 21 = .ok (.goto 5, 3) := by decide +kernel
theorem dM_field_24 : decode cM_field 24 = .ok (.bipush 8, 2) := by decide +kernel
theorem dM_field_26 : decode cM_field 26 = .ok (.istore_n 3, 1) := by decide +kernel
theorem dM_field_27 : decode cM_field 27 = .ok (.iload_n 1, 1) := by decide +kernel
theorem dM_field_28 : decode cM_field 28 = .ok (.ifCond .lt 18, 3) := by decide +kernel
theorem dM_field_31 : decode cM_field 31 = .ok (.iload_n 1, 1) := by decide +kernel
theorem dM_field_32 : decode cM_field 32 = .ok (.iconst 2, 1) := by decide +kernel
theorem dM_field_33 : decode cM_field 33 = .ok (.if_icmp .gt 13, 3) := by decide +kernel
theorem dM_field_36 : decode cM_field 36 = .ok (.iload_n 2, 1) := by decide +kernel
theorem dM_field_37 : decode cM_field 37 = .ok (.iconst 1, 1) := by decide +kernel
theorem dM_field_38 : decode cM_field 38 = .ok (.if_icmp .lt 8, 3) := by decide +kernel
theorem dM_field_41 : decode cM_field 41 = .ok (.iload_n 2, 1) := by decide +kernel
theorem dM_field_42 : decode cM_field 42 = .ok (.iload_n 3, 1) := by decide +kernel
theorem dM_field_43 : decode cM_field 43 = .ok (.if_icmp .le 6, 3) := by decide +kernel
theorem dM_field_46 : decode cM_field 46 = .ok (.bipush (-4), 2) := by decide +kernel
theorem dM_field_48 : decode cM_field 48 = .ok (.ireturn, 1) := by decide +kernel
theorem dM_field_49 : decode cM_field 49 = .ok (.aload_n 0, 1) := by decide +kernel
theorem dM_field_50 : decode cM_field 50 = .ok (.getfield 83, 3) := by decide +kernel
theorem dM_field_53 : decode cM_field 53 = .ok (.bipush 40, 2) := by decide +kernel
theorem dM_field_55 : decode cM_field 55 = .ok (.if_icmp .ne 5, 3) := by decide +kernel
theorem dM_field_58 : decode cM_field 58 = .ok (.iconst (-1), 1) := by decide +kernel
theorem dM_field_59 : decode cM_field 59 = .ok (.ireturn, 1) := by decide +kernel
theorem dM_field_60 : decode cM_field 60 = .ok (.aload_n 0, 1) := by decide +kernel
theorem dM_field_61 : decode cM_field 61 = .ok (.getfield 13, 3) := by decide +kernel
theorem dM_field_64 : decode cM_field 64 = .ok (.aload_n 0, 1) := by decide +kernel
theorem dM_field_65 : decode cM_field 65 = .ok (.getfield 83, 3) := by decide +kernel
theorem dM_field_68 : decode cM_field 68 = .ok (.iload_n 1, 1) := by decide +kernel
theorem dM_field_69 : decode cM_field 69 = .ok (.iastore, 1) := by decide +kernel
theorem dM_field_70 : decode cM_field 70 = .ok (.aload_n 0, 1) := by decide +kernel
theorem dM_field_71 : decode cM_field 71 = .ok (.getfield 16, 3) := by decide +kernel
theorem dM_field_74 : decode cM_field 74 = .ok (.aload_n 0, 1) := by decide +kernel
theorem dM_field_75 : decode cM_field 75 = .ok (.getfield 83, 3) := by decide +kernel
theorem dM_field_78 : decode cM_field 78 = .ok (.iload_n 2, 1) := by decide +kernel
theorem dM_field_79 : decode cM_field 79 = .ok (.iastore, 1) := by decide +kernel
theorem dM_field_80 : decode cM_field 80 = .ok (.iconst 0, 1) := by decide +kernel
theorem dM_field_81 : decode cM_field 81 = .ok (.istore 4, 2) := by decide +kernel
theorem dM_field_83 : decode cM_field 83 = .ok (.iload 4, 2) := by decide +kernel
theorem dM_field_85 : decode cM_field 85 = .ok (.iload_n 2, 1) := by decide +kernel
theorem dM_field_86 : decode cM_field 86 = .ok (.if_icmp .ge 44, 3) := by decide +kernel
theorem dM_field_89 : decode cM_field 89 = .ok (.aload_n 0, 1) := by decide +kernel
theorem dM_field_90 : decode cM_field 90 = .ok (.getfield 7, 3) := by decide +kernel
theorem dM_field_93 : decode cM_field 93 = .ok (.bipush 32, 2) := by decide +kernel
theorem dM_field_95 : decode cM_field 95 = .ok (.aload_n 0, 1) := by decide +kernel
theorem dM_field_96 : decode cM_field 96 = .ok (.getfield 83, 3) := by decide +kernel
theorem dM_field_99 : decode cM_field 99 = .ok (.imul, 1) := by decide +kernel
theorem dM_field_100 : decode cM_field 100 = .ok (.iload 4, 2) := by decide +kernel
theorem dM_field_102 : decode cM_field 102 = .ok (.iadd, 1) := by decide +kernel
theorem dM_field_103 : decode cM_field 103 = .ok (.iload_n 1, 1) := by decide +kernel
theorem dM_field_104 : decode cM_field 104 = .ok (.ifCond .ne 8, 3) := by decide +kernel
theorem dM_field_107 : decode cM_field 107 = .ok (.bipush 32, 2) := by decide +kernel
theorem dM_field_109 : decode cM_field 109 = .ok (.goto 14, 3) := by decide +kernel
theorem dM_field_112 : decode cM_field 112 = .ok (.iload_n 1, 1) := by decide +kernel
theorem dM_field_113 : decode cM_field 113 = .ok (.iconst 1, 1) := by decide +kernel
theorem dM_field_114 : decode cM_field 114 = .ok (.if_icmp .ne 8, 3) := by decide +kernel
theorem dM_field_117 : decode cM_field 117 = .ok (.bipush 48, 2) := by decide +kernel
theorem dM_field_119 : decode cM_field 119 = .ok (.goto 4, 3) := by decide +kernel
theorem dM_field_122 : decode cM_field 122 = .ok (.iconst 0, 1) := by decide +kernel
theorem dM_field_123 : decode cM_field 123 = .ok (.iastore, 1) := by decide +kernel
theorem dM_field_124 : decode cM_field 124 = .ok (.iinc 4 1, 3) := by decide +kernel
theorem dM_field_127 : decode cM_field 127 = .ok (.goto (-44), 3) := by decide +kernel
theorem dM_field_130 : decode cM_field 130 = .ok (.aload_n 0, 1) := by decide +kernel
theorem dM_field_131 : decode cM_field 131 = .ok (.dup, 1) := by decide +kernel
theorem dM_field_132 : decode cM_field 132 = .ok (.getfield 83, 3) := by decide +kernel
theorem dM_field_135 : decode cM_field 135 = .ok (.iconst 1, 1) := by decide +kernel
theorem dM_field_136 : decode cM_field 136 = .ok (.iadd, 1) := by decide +kernel
theorem dM_field_137 : decode cM_field 137 = .ok (.putfield 83, 3) := by decide +kernel
theorem dM_field_140 : decode cM_field 140 = .ok (.aload_n 0, 1) := by decide +kernel
theorem dM_field_141 : decode cM_field 141 = .ok (.getfield 83, 3) := by decide +kernel
theorem dM_field_144 : decode cM_field 144 = .ok (.iconst 1, 1) := by decide +kernel
theorem dM_field_145 : decode cM_field 145 = .ok (.isub, 1) := by decide +kernel
theorem dM_field_146 : decode cM_field 146 = .ok (.ireturn, 1) := by decide +kernel
abbrev wsM_field : List Cond := Cond.code yM_field cM_field 5 (some .int) :: zWords
def LM_field_83 : Nat → MS → Int32 → Int32 → Int32 → Int32 → Int32 × MS
  | 0, u, _, _, _, _ => (0, u)
  | n + 1, u, x4, x3, x1, x2 => (if x2 ≤ x4 then (zlet (Ms_fields u ((Mg_fields u) + 1)) (fun u32 => (((Mg_fields u32) - 1), u32))) else (if x1 = 0 then (zlet (Ms_bytes u (upd (Mg_bytes u) (((32 * (Mg_fields u)) + x4).toNatClampNeg) 32)) (fun u40 => (LM_field_83 n u40 (x4 + 1) x3 x1 x2))) else (if x1 = 1 then (zlet (Ms_bytes u (upd (Mg_bytes u) (((32 * (Mg_fields u)) + x4).toNatClampNeg) 48)) (fun u38 => (LM_field_83 n u38 (x4 + 1) x3 x1 x2))) else (zlet (Ms_bytes u (upd (Mg_bytes u) (((32 * (Mg_fields u)) + x4).toNatClampNeg) 0)) (fun u36 => (LM_field_83 n u36 (x4 + 1) x3 x1 x2))))))
def MM_field_83 : Nat → MS → Int32 → Int32 → Int32 → Int32 → Prop
  | 0, _, _, _, _, _ => False
  | n + 1, u, x4, x3, x1, x2 => ((x2 ≤ x4 → (zlet (Ms_fields u ((Mg_fields u) + 1)) (fun u32 => True))) ∧ (¬ x2 ≤ x4 → ((x1 = 0 → (vp_in ((32 * (Mg_fields u)) + x4) 1280 ∧ (zlet (Ms_bytes u (upd (Mg_bytes u) (((32 * (Mg_fields u)) + x4).toNatClampNeg) 32)) (fun u40 => (MM_field_83 n u40 (x4 + 1) x3 x1 x2))))) ∧ (¬ x1 = 0 → ((x1 = 1 → (vp_in ((32 * (Mg_fields u)) + x4) 1280 ∧ (zlet (Ms_bytes u (upd (Mg_bytes u) (((32 * (Mg_fields u)) + x4).toNatClampNeg) 48)) (fun u38 => (MM_field_83 n u38 (x4 + 1) x3 x1 x2))))) ∧ (¬ x1 = 1 → (vp_in ((32 * (Mg_fields u)) + x4) 1280 ∧ (zlet (Ms_bytes u (upd (Mg_bytes u) (((32 * (Mg_fields u)) + x4).toNatClampNeg) 0)) (fun u36 => (MM_field_83 n u36 (x4 + 1) x3 x1 x2))))))))))
def FM_field (u : MS) (p0 : Int32) (p1 : Int32) : Int32 × MS := (zlet (Ms_thrown u 0) (fun u1 => (if p0 = 0 then (if p0 < 0 then ((-4), u1) else (if (2 : Int32) < p0 then ((-4), u1) else (if p1 < 1 then ((-4), u1) else (if p1 ≤ 32 then (if (Mg_fields u1) = 40 then ((-1), u1) else (zlet (Ms_categories u1 (upd (Mg_categories u1) ((Mg_fields u1).toNatClampNeg) p0)) (fun u28 => (zlet (Ms_sizes u28 (upd (Mg_sizes u28) ((Mg_fields u28).toNatClampNeg) p1)) (fun u30 => (LM_field_83 1000 u30 0 32 p0 p1)))))) else ((-4), u1))))) else (if p0 = 1 then (if p0 < 0 then ((-4), u1) else (if (2 : Int32) < p0 then ((-4), u1) else (if p1 < 1 then ((-4), u1) else (if p1 ≤ 18 then (if (Mg_fields u1) = 40 then ((-1), u1) else (zlet (Ms_categories u1 (upd (Mg_categories u1) ((Mg_fields u1).toNatClampNeg) p0)) (fun u19 => (zlet (Ms_sizes u19 (upd (Mg_sizes u19) ((Mg_fields u19).toNatClampNeg) p1)) (fun u21 => (LM_field_83 1000 u21 0 18 p0 p1)))))) else ((-4), u1))))) else (if p0 < 0 then ((-4), u1) else (if (2 : Int32) < p0 then ((-4), u1) else (if p1 < 1 then ((-4), u1) else (if p1 ≤ 8 then (if (Mg_fields u1) = 40 then ((-1), u1) else (zlet (Ms_categories u1 (upd (Mg_categories u1) ((Mg_fields u1).toNatClampNeg) p0)) (fun u10 => (zlet (Ms_sizes u10 (upd (Mg_sizes u10) ((Mg_fields u10).toNatClampNeg) p1)) (fun u12 => (LM_field_83 1000 u12 0 8 p0 p1)))))) else ((-4), u1)))))))))
def GM_field (u : MS) (p0 : Int32) (p1 : Int32) : Prop := (zlet (Ms_thrown u 0) (fun u1 => ((p0 = 0 → ((p0 < 0 → True) ∧ (¬ p0 < 0 → (((2 : Int32) < p0 → True) ∧ (¬ (2 : Int32) < p0 → ((p1 < 1 → True) ∧ (¬ p1 < 1 → ((p1 ≤ 32 → (((Mg_fields u1) = 40 → True) ∧ (¬ (Mg_fields u1) = 40 → (vp_in (Mg_fields u1) 40 ∧ (zlet (Ms_categories u1 (upd (Mg_categories u1) ((Mg_fields u1).toNatClampNeg) p0)) (fun u28 => (vp_in (Mg_fields u28) 40 ∧ (zlet (Ms_sizes u28 (upd (Mg_sizes u28) ((Mg_fields u28).toNatClampNeg) p1)) (fun u30 => (MM_field_83 1000 u30 0 32 p0 p1)))))))))) ∧ (¬ p1 ≤ 32 → True))))))))) ∧ (¬ p0 = 0 → ((p0 = 1 → ((p0 < 0 → True) ∧ (¬ p0 < 0 → (((2 : Int32) < p0 → True) ∧ (¬ (2 : Int32) < p0 → ((p1 < 1 → True) ∧ (¬ p1 < 1 → ((p1 ≤ 18 → (((Mg_fields u1) = 40 → True) ∧ (¬ (Mg_fields u1) = 40 → (vp_in (Mg_fields u1) 40 ∧ (zlet (Ms_categories u1 (upd (Mg_categories u1) ((Mg_fields u1).toNatClampNeg) p0)) (fun u19 => (vp_in (Mg_fields u19) 40 ∧ (zlet (Ms_sizes u19 (upd (Mg_sizes u19) ((Mg_fields u19).toNatClampNeg) p1)) (fun u21 => (MM_field_83 1000 u21 0 18 p0 p1)))))))))) ∧ (¬ p1 ≤ 18 → True))))))))) ∧ (¬ p0 = 1 → ((p0 < 0 → True) ∧ (¬ p0 < 0 → (((2 : Int32) < p0 → True) ∧ (¬ (2 : Int32) < p0 → ((p1 < 1 → True) ∧ (¬ p1 < 1 → ((p1 ≤ 8 → (((Mg_fields u1) = 40 → True) ∧ (¬ (Mg_fields u1) = 40 → (vp_in (Mg_fields u1) 40 ∧ (zlet (Ms_categories u1 (upd (Mg_categories u1) ((Mg_fields u1).toNatClampNeg) p0)) (fun u10 => (vp_in (Mg_fields u10) 40 ∧ (zlet (Ms_sizes u10 (upd (Mg_sizes u10) ((Mg_fields u10).toNatClampNeg) p1)) (fun u12 => (MM_field_83 1000 u12 0 8 p0 p1)))))))))) ∧ (¬ p1 ≤ 8 → True))))))))))))))
set_option maxHeartbeats 4000000 in
set_option maxRecDepth 100000 in
theorem kM_field_83 {p : Program} {l : Launch} {e : Env} {s : State} {m : MethodId} {args : Array Value} {below : List Frame} {meth : Method} {c : Code} {D : va_G} {k : zK} {b : Nat → Nat} (hI : zI 22 b) (C0 : zC p s m args meth c cM_field (some .int) 5 RM wsM_field D k (zA 22 b)) {tgt : Int32 × MS} : ∀ (n : Nat) (u : MS) (x4 : Int32) (x3 : Int32) (x1 : Int32) (x2 : Int32), LM_field_83 n u x4 x3 x1 x2 = tgt → MM_field_83 n u x4 x3 x1 x2 → ∀ (H : Heap) (locs : List Loc), va_P D vwCl (wM k b u) H → va_S (zA 22 b) s.heap H locs → ∀ (ls : Array Slot), lv_has ls 5 [(4, .int x4), (3, .int x3), (0, .ref (b 0)), (1, .int x1), (2, .int x2)] → W p l e (headSpec wsM_field ({ frames := 0, cells := 0, slots := 0, locals := 0 })).room s m args below meth c H locs 0 0 (MQ below (zQi D (wM k b) (zA 22 b) tgt) args s 0 0 (zA 22 b)) (F0 m 83 ls []) := by
  obtain ⟨hx, hb, hr, hml, hown, hts, hlocks, hE⟩ := id C0
  have hK := hE.1
  intro n
  induction n with
  | zero =>
    intro u x4 x3 x1 x2 _ hg
    exact False.elim hg
  | succ n ih =>
    intro u x4 x3 x1 x2 hf hg H locs hP hS ls hl
    change ((if x2 ≤ x4 then (zlet (Ms_fields u ((Mg_fields u) + 1)) (fun u32 => (((Mg_fields u32) - 1), u32))) else (if x1 = 0 then (zlet (Ms_bytes u (upd (Mg_bytes u) (((32 * (Mg_fields u)) + x4).toNatClampNeg) 32)) (fun u40 => (LM_field_83 n u40 (x4 + 1) x3 x1 x2))) else (if x1 = 1 then (zlet (Ms_bytes u (upd (Mg_bytes u) (((32 * (Mg_fields u)) + x4).toNatClampNeg) 48)) (fun u38 => (LM_field_83 n u38 (x4 + 1) x3 x1 x2))) else (zlet (Ms_bytes u (upd (Mg_bytes u) (((32 * (Mg_fields u)) + x4).toNatClampNeg) 0)) (fun u36 => (LM_field_83 n u36 (x4 + 1) x3 x1 x2)))))) : Int32 × MS) = tgt at hf
    change ((x2 ≤ x4 → (zlet (Ms_fields u ((Mg_fields u) + 1)) (fun u32 => True))) ∧ (¬ x2 ≤ x4 → ((x1 = 0 → (vp_in ((32 * (Mg_fields u)) + x4) 1280 ∧ (zlet (Ms_bytes u (upd (Mg_bytes u) (((32 * (Mg_fields u)) + x4).toNatClampNeg) 32)) (fun u40 => (MM_field_83 n u40 (x4 + 1) x3 x1 x2))))) ∧ (¬ x1 = 0 → ((x1 = 1 → (vp_in ((32 * (Mg_fields u)) + x4) 1280 ∧ (zlet (Ms_bytes u (upd (Mg_bytes u) (((32 * (Mg_fields u)) + x4).toNatClampNeg) 48)) (fun u38 => (MM_field_83 n u38 (x4 + 1) x3 x1 x2))))) ∧ (¬ x1 = 1 → (vp_in ((32 * (Mg_fields u)) + x4) 1280 ∧ (zlet (Ms_bytes u (upd (Mg_bytes u) (((32 * (Mg_fields u)) + x4).toNatClampNeg) 0)) (fun u36 => (MM_field_83 n u36 (x4 + 1) x3 x1 x2)))))))))) at hg
    refine lv_iload hx hb dM_field_83 (lv_at hl 0 rfl) ?_
    refine lv_iload_n hx hb dM_field_85 rfl (lv_at hl 4 rfl) ?_
    refine lv_icmp_ge (tgt := 130) hx hb dM_field_86 (by decide) (fun c31 => ?_) (fun c31 => ?_)
    · have hf := zt hf c31
      have hg := hg.1 c31
      refine lv_aload_n hx hb dM_field_130 rfl (lv_at hl 2 rfl) ?_
      refine lv_dup hx hb dM_field_131 rfl ?_
      refine va_get (D := D) (ci := 7) (v := .int (Mg_fields u)) (C := RM) (T := TM) (N := 30) hx hb hts (fun w h9 => zc (inM w h9)) hown hK hP 0 rfl rfl 7 (by decide) (hts _ (zc m_604)) (fun _ h9 => h9) rfl dM_field_132 ?_
      refine lv_iconst (v := 1) hx hb dM_field_135 (by decide) ?_
      refine lv_iadd hx hb dM_field_136 ?_
      refine va_put (D := D) (ci := 7) (v := .int ((Mg_fields u) + 1)) (ty := .int) (C := RM) (T := TM) (N := 30) hx hb hts (fun w h9 => zc (inM w h9)) tyM tyM_ok nmM hown hK hP (MD hI _) hS 0 rfl rfl 7 (by decide) (hts _ (zc m_604)) (fun _ h9 => h9) rfl (by decide +kernel) rfl rfl (Nat.le_of_ble_eq_true rfl) dM_field_137 (fun H locs hP _ hS => ?_)
      obtain ⟨u32, hP, hf, hg⟩ := zlets (E := (Ms_fields u ((Mg_fields u) + 1))) (w := wM k b) (Mp_fields hP) hf hg
      refine lv_aload_n hx hb dM_field_140 rfl (lv_at hl 2 rfl) ?_
      refine va_get (D := D) (ci := 7) (v := .int (Mg_fields u32)) (C := RM) (T := TM) (N := 30) hx hb hts (fun w h9 => zc (inM w h9)) hown hK hP 0 rfl rfl 7 (by decide) (hts _ (zc m_604)) (fun _ h9 => h9) rfl dM_field_141 ?_
      refine lv_iconst (v := 1) hx hb dM_field_144 (by decide) ?_
      refine lv_isub hx hb dM_field_145 ?_
      exact W.iret (v := ((Mg_fields u32) - 1)) hx hb hr (fun t ht hW => zri hf hP ht (hS.F ht)) hS.2.2 dM_field_146
    · have hf := zn hf c31
      have hg := hg.2 c31
      refine lv_aload_n hx hb dM_field_89 rfl (lv_at hl 2 rfl) ?_
      refine va_get (D := D) (ci := 7) (v := .ref (b 1)) (C := RM) (T := TM) (N := 30) hx hb hts (fun w h9 => zc (inM w h9)) hown hK hP 0 rfl rfl 2 (by decide) (hts _ (zc m_599)) (fun _ h9 => h9) rfl dM_field_90 ?_
      refine lv_bipush (v := 32) hx hb dM_field_93 (by decide) ?_
      refine lv_aload_n hx hb dM_field_95 rfl (lv_at hl 2 rfl) ?_
      refine va_get (D := D) (ci := 7) (v := .int (Mg_fields u)) (C := RM) (T := TM) (N := 30) hx hb hts (fun w h9 => zc (inM w h9)) hown hK hP 0 rfl rfl 7 (by decide) (hts _ (zc m_604)) (fun _ h9 => h9) rfl dM_field_96 ?_
      refine lv_imul hx hb dM_field_99 ?_
      refine lv_iload hx hb dM_field_100 (lv_at hl 0 rfl) ?_
      refine lv_iadd hx hb dM_field_102 ?_
      refine lv_iload_n hx hb dM_field_103 rfl (lv_at hl 3 rfl) ?_
      refine lv_if_ne (tgt := 112) hx hb dM_field_104 (by decide) (fun c33 => ?_) (fun c33 => ?_)
      · have hf := zn hf c33
        have hg := hg.2 c33
        refine lv_iload_n hx hb dM_field_112 rfl (lv_at hl 3 rfl) ?_
        refine lv_iconst (v := 1) hx hb dM_field_113 (by decide) ?_
        refine lv_icmp_ne (tgt := 122) hx hb dM_field_114 (by decide) (fun c34 => ?_) (fun c34 => ?_)
        · have hf := zn hf c34
          have hg := hg.2 c34
          refine lv_iconst (v := 0) hx hb dM_field_122 (by decide) ?_
          obtain ⟨h35, hg⟩ := hg
          refine va_iast hx hb hK hP (MD hI _) hS 1 0 rfl rfl h35 dM_field_123 (fun H locs hP _ hS => ?_)
          obtain ⟨u36, hP, hf, hg⟩ := zlets (E := (Ms_bytes u (upd (Mg_bytes u) (((32 * (Mg_fields u)) + x4).toNatClampNeg) 0))) (w := wM k b) (Mp_bytes hP) hf hg
          refine lv_iinc (v := (x4 + 1)) (lv' := [(4, .int (x4 + 1)), (3, .int x3), (0, .ref (b 0)), (1, .int x1), (2, .int x2)]) hx hb dM_field_124 hl (k := 0) rfl rfl (by decide) rfl (fun ls hl => ?_)
          refine lv_goto (tgt := 83) hx hb dM_field_127 (by decide) ?_
          exact ih u36 (x4 + 1) x3 x1 x2 hf hg _ _ hP hS _ (lv_sub hl [0, 1, 2, 3, 4] rfl)
        · have hf := zt hf c34
          have hg := hg.1 c34
          refine lv_bipush (v := 48) hx hb dM_field_117 (by decide) ?_
          refine lv_goto (tgt := 123) hx hb dM_field_119 (by decide) ?_
          obtain ⟨h37, hg⟩ := hg
          refine va_iast hx hb hK hP (MD hI _) hS 1 0 rfl rfl h37 dM_field_123 (fun H locs hP _ hS => ?_)
          obtain ⟨u38, hP, hf, hg⟩ := zlets (E := (Ms_bytes u (upd (Mg_bytes u) (((32 * (Mg_fields u)) + x4).toNatClampNeg) 48))) (w := wM k b) (Mp_bytes hP) hf hg
          refine lv_iinc (v := (x4 + 1)) (lv' := [(4, .int (x4 + 1)), (3, .int x3), (0, .ref (b 0)), (1, .int x1), (2, .int x2)]) hx hb dM_field_124 hl (k := 0) rfl rfl (by decide) rfl (fun ls hl => ?_)
          refine lv_goto (tgt := 83) hx hb dM_field_127 (by decide) ?_
          exact ih u38 (x4 + 1) x3 x1 x2 hf hg _ _ hP hS _ (lv_sub hl [0, 1, 2, 3, 4] rfl)
      · have hf := zt hf c33
        have hg := hg.1 c33
        refine lv_bipush (v := 32) hx hb dM_field_107 (by decide) ?_
        refine lv_goto (tgt := 123) hx hb dM_field_109 (by decide) ?_
        obtain ⟨h39, hg⟩ := hg
        refine va_iast hx hb hK hP (MD hI _) hS 1 0 rfl rfl h39 dM_field_123 (fun H locs hP _ hS => ?_)
        obtain ⟨u40, hP, hf, hg⟩ := zlets (E := (Ms_bytes u (upd (Mg_bytes u) (((32 * (Mg_fields u)) + x4).toNatClampNeg) 32))) (w := wM k b) (Mp_bytes hP) hf hg
        refine lv_iinc (v := (x4 + 1)) (lv' := [(4, .int (x4 + 1)), (3, .int x3), (0, .ref (b 0)), (1, .int x1), (2, .int x2)]) hx hb dM_field_124 hl (k := 0) rfl rfl (by decide) rfl (fun ls hl => ?_)
        refine lv_goto (tgt := 83) hx hb dM_field_127 (by decide) ?_
        exact ih u40 (x4 + 1) x3 x1 x2 hf hg _ _ hP hS _ (lv_sub hl [0, 1, 2, 3, 4] rfl)
set_option maxHeartbeats 4000000 in
set_option maxRecDepth 100000 in
theorem tM_field (l : Launch) {D : va_G} {k : zK} {b : Nat → Nat} (hI : zI 22 b) (u : MS) (p0 : Int32) (p1 : Int32) (hg : GM_field u p0 p1) : Met l yM_field wsM_field ({ frames := 0, cells := 0, slots := 0, locals := 0 }) (zPc D k (zA 22 b) (wM k b u) [.ref (b 0), .int p0, .int p1]) (zQi D (wM k b) (zA 22 b) (FM_field u p0 p1)) 0 0 (zA 22 b) := by
  refine Met.ofW (cc := cM_field) (maxL := 5) (ret := (some .int)) (by decide) rfl ?_
  intro p e s m args below meth c s₁ B hml hv
  obtain ⟨rfl, hP, hE⟩ := hv
  have hts := atoms_spec (ws := wsM_field) B.pre
  have C0 : zC p s m _ meth c cM_field (some .int) 5 RM wsM_field D k (zA 22 b) := ⟨B.exec, B.bytes, B.returns, hml, findClass_of_methodNamed B.named, hts, B.notSynchronized, hE⟩
  obtain ⟨hx, hb, hr, hml, hown, _, hlocks, _⟩ := id C0
  have hK := hE.1
  have hS : va_S (zA 22 b) s.heap s.heap [] := va_S.rf
  generalize hf : FM_field u p0 p1 = tgt
  change ((zlet (Ms_thrown u 0) (fun u1 => (if p0 = 0 then (if p0 < 0 then ((-4), u1) else (if (2 : Int32) < p0 then ((-4), u1) else (if p1 < 1 then ((-4), u1) else (if p1 ≤ 32 then (if (Mg_fields u1) = 40 then ((-1), u1) else (zlet (Ms_categories u1 (upd (Mg_categories u1) ((Mg_fields u1).toNatClampNeg) p0)) (fun u28 => (zlet (Ms_sizes u28 (upd (Mg_sizes u28) ((Mg_fields u28).toNatClampNeg) p1)) (fun u30 => (LM_field_83 1000 u30 0 32 p0 p1)))))) else ((-4), u1))))) else (if p0 = 1 then (if p0 < 0 then ((-4), u1) else (if (2 : Int32) < p0 then ((-4), u1) else (if p1 < 1 then ((-4), u1) else (if p1 ≤ 18 then (if (Mg_fields u1) = 40 then ((-1), u1) else (zlet (Ms_categories u1 (upd (Mg_categories u1) ((Mg_fields u1).toNatClampNeg) p0)) (fun u19 => (zlet (Ms_sizes u19 (upd (Mg_sizes u19) ((Mg_fields u19).toNatClampNeg) p1)) (fun u21 => (LM_field_83 1000 u21 0 18 p0 p1)))))) else ((-4), u1))))) else (if p0 < 0 then ((-4), u1) else (if (2 : Int32) < p0 then ((-4), u1) else (if p1 < 1 then ((-4), u1) else (if p1 ≤ 8 then (if (Mg_fields u1) = 40 then ((-1), u1) else (zlet (Ms_categories u1 (upd (Mg_categories u1) ((Mg_fields u1).toNatClampNeg) p0)) (fun u10 => (zlet (Ms_sizes u10 (upd (Mg_sizes u10) ((Mg_fields u10).toNatClampNeg) p1)) (fun u12 => (LM_field_83 1000 u12 0 8 p0 p1)))))) else ((-4), u1))))))))) : Int32 × MS) = tgt at hf
  change (zlet (Ms_thrown u 0) (fun u1 => ((p0 = 0 → ((p0 < 0 → True) ∧ (¬ p0 < 0 → (((2 : Int32) < p0 → True) ∧ (¬ (2 : Int32) < p0 → ((p1 < 1 → True) ∧ (¬ p1 < 1 → ((p1 ≤ 32 → (((Mg_fields u1) = 40 → True) ∧ (¬ (Mg_fields u1) = 40 → (vp_in (Mg_fields u1) 40 ∧ (zlet (Ms_categories u1 (upd (Mg_categories u1) ((Mg_fields u1).toNatClampNeg) p0)) (fun u28 => (vp_in (Mg_fields u28) 40 ∧ (zlet (Ms_sizes u28 (upd (Mg_sizes u28) ((Mg_fields u28).toNatClampNeg) p1)) (fun u30 => (MM_field_83 1000 u30 0 32 p0 p1)))))))))) ∧ (¬ p1 ≤ 32 → True))))))))) ∧ (¬ p0 = 0 → ((p0 = 1 → ((p0 < 0 → True) ∧ (¬ p0 < 0 → (((2 : Int32) < p0 → True) ∧ (¬ (2 : Int32) < p0 → ((p1 < 1 → True) ∧ (¬ p1 < 1 → ((p1 ≤ 18 → (((Mg_fields u1) = 40 → True) ∧ (¬ (Mg_fields u1) = 40 → (vp_in (Mg_fields u1) 40 ∧ (zlet (Ms_categories u1 (upd (Mg_categories u1) ((Mg_fields u1).toNatClampNeg) p0)) (fun u19 => (vp_in (Mg_fields u19) 40 ∧ (zlet (Ms_sizes u19 (upd (Mg_sizes u19) ((Mg_fields u19).toNatClampNeg) p1)) (fun u21 => (MM_field_83 1000 u21 0 18 p0 p1)))))))))) ∧ (¬ p1 ≤ 18 → True))))))))) ∧ (¬ p0 = 1 → ((p0 < 0 → True) ∧ (¬ p0 < 0 → (((2 : Int32) < p0 → True) ∧ (¬ (2 : Int32) < p0 → ((p1 < 1 → True) ∧ (¬ p1 < 1 → ((p1 ≤ 8 → (((Mg_fields u1) = 40 → True) ∧ (¬ (Mg_fields u1) = 40 → (vp_in (Mg_fields u1) 40 ∧ (zlet (Ms_categories u1 (upd (Mg_categories u1) ((Mg_fields u1).toNatClampNeg) p0)) (fun u10 => (vp_in (Mg_fields u10) 40 ∧ (zlet (Ms_sizes u10 (upd (Mg_sizes u10) ((Mg_fields u10).toNatClampNeg) p1)) (fun u12 => (MM_field_83 1000 u12 0 8 p0 p1)))))))))) ∧ (¬ p1 ≤ 8 → True)))))))))))))) at hg
  have hl := lv_entry ([.ref (b 0), .int p0, .int p1]) (n := 5) (Nat.le_of_ble_eq_true rfl)
  rw [lg_entry_eq]
  generalize (lg_sl ([.ref (b 0), .int p0, .int p1]) ++ List.replicate (5 - (lg_sl ([.ref (b 0), .int p0, .int p1])).length) Slot.unset).toArray = ls at hl ⊢
  have hl : lv_has ls 5 [(0, .ref (b 0)), (1, .int p0), (2, .int p1)] := hl
  refine lv_aload_n hx hb dM_field_0 rfl (lv_at hl 0 rfl) ?_
  refine lv_iconst (v := 0) hx hb dM_field_1 (by decide) ?_
  refine va_put (D := D) (ci := 7) (v := .int 0) (ty := .int) (C := RM) (T := TM) (N := 30) hx hb hts (fun w h9 => zc (inM w h9)) tyM tyM_ok nmM hown hK hP (MD hI _) hS 0 rfl rfl 1 (by decide) (hts _ (zc m_598)) (fun _ h9 => h9) rfl (by decide +kernel) rfl rfl (Nat.le_of_ble_eq_true rfl) dM_field_2 (fun H locs hP _ hS => ?_)
  obtain ⟨u1, hP, hf, hg⟩ := zlets (E := (Ms_thrown u 0)) (w := wM k b) (Mp_thrown hP) hf hg
  refine lv_iload_n hx hb dM_field_5 rfl (lv_at hl 1 rfl) ?_
  refine lv_if_ne (tgt := 14) hx hb dM_field_6 (by decide) (fun c2 => ?_) (fun c2 => ?_)
  · have hf := zn hf c2
    have hg := hg.2 c2
    refine lv_iload_n hx hb dM_field_14 rfl (lv_at hl 1 rfl) ?_
    refine lv_iconst (v := 1) hx hb dM_field_15 (by decide) ?_
    refine lv_icmp_ne (tgt := 24) hx hb dM_field_16 (by decide) (fun c3 => ?_) (fun c3 => ?_)
    · have hf := zn hf c3
      have hg := hg.2 c3
      refine lv_bipush (v := 8) hx hb dM_field_24 (by decide) ?_
      refine lv_istore_n (lv' := [(3, .int 8), (0, .ref (b 0)), (1, .int p0), (2, .int p1)]) hx hb dM_field_26 rfl hl (by decide) rfl (fun ls hl => ?_)
      refine lv_iload_n hx hb dM_field_27 rfl (lv_at hl 2 rfl) ?_
      refine lv_if_lt (tgt := 46) hx hb dM_field_28 (by decide) (fun c4 => ?_) (fun c4 => ?_)
      · have hf := zt hf c4
        have hg := hg.1 c4
        refine lv_bipush (v := (-4)) hx hb dM_field_46 (by decide) ?_
        exact W.iret (v := (-4)) hx hb hr (fun t ht hW => zri hf hP ht (hS.F ht)) hS.2.2 dM_field_48
      · have hf := zn hf c4
        have hg := hg.2 c4
        refine lv_iload_n hx hb dM_field_31 rfl (lv_at hl 2 rfl) ?_
        refine lv_iconst (v := 2) hx hb dM_field_32 (by decide) ?_
        refine lv_icmp_gt (tgt := 46) hx hb dM_field_33 (by decide) (fun c5 => ?_) (fun c5 => ?_)
        · have hf := zt hf c5
          have hg := hg.1 c5
          refine lv_bipush (v := (-4)) hx hb dM_field_46 (by decide) ?_
          exact W.iret (v := (-4)) hx hb hr (fun t ht hW => zri hf hP ht (hS.F ht)) hS.2.2 dM_field_48
        · have hf := zn hf c5
          have hg := hg.2 c5
          refine lv_iload_n hx hb dM_field_36 rfl (lv_at hl 3 rfl) ?_
          refine lv_iconst (v := 1) hx hb dM_field_37 (by decide) ?_
          refine lv_icmp_lt (tgt := 46) hx hb dM_field_38 (by decide) (fun c6 => ?_) (fun c6 => ?_)
          · have hf := zt hf c6
            have hg := hg.1 c6
            refine lv_bipush (v := (-4)) hx hb dM_field_46 (by decide) ?_
            exact W.iret (v := (-4)) hx hb hr (fun t ht hW => zri hf hP ht (hS.F ht)) hS.2.2 dM_field_48
          · have hf := zn hf c6
            have hg := hg.2 c6
            refine lv_iload_n hx hb dM_field_41 rfl (lv_at hl 3 rfl) ?_
            refine lv_iload_n hx hb dM_field_42 rfl (lv_at hl 0 rfl) ?_
            refine lv_icmp_le (tgt := 49) hx hb dM_field_43 (by decide) (fun c7 => ?_) (fun c7 => ?_)
            · have hf := zt hf c7
              have hg := hg.1 c7
              refine lv_aload_n hx hb dM_field_49 rfl (lv_at hl 1 rfl) ?_
              refine va_get (D := D) (ci := 7) (v := .int (Mg_fields u1)) (C := RM) (T := TM) (N := 30) hx hb hts (fun w h9 => zc (inM w h9)) hown hK hP 0 rfl rfl 7 (by decide) (hts _ (zc m_604)) (fun _ h9 => h9) rfl dM_field_50 ?_
              refine lv_bipush (v := 40) hx hb dM_field_53 (by decide) ?_
              refine lv_icmp_ne (tgt := 60) hx hb dM_field_55 (by decide) (fun c8 => ?_) (fun c8 => ?_)
              · have hf := zn hf c8
                have hg := hg.2 c8
                refine lv_aload_n hx hb dM_field_60 rfl (lv_at hl 1 rfl) ?_
                refine va_get (D := D) (ci := 7) (v := .ref (b 2)) (C := RM) (T := TM) (N := 30) hx hb hts (fun w h9 => zc (inM w h9)) hown hK hP 0 rfl rfl 3 (by decide) (hts _ (zc m_600)) (fun _ h9 => h9) rfl dM_field_61 ?_
                refine lv_aload_n hx hb dM_field_64 rfl (lv_at hl 1 rfl) ?_
                refine va_get (D := D) (ci := 7) (v := .int (Mg_fields u1)) (C := RM) (T := TM) (N := 30) hx hb hts (fun w h9 => zc (inM w h9)) hown hK hP 0 rfl rfl 7 (by decide) (hts _ (zc m_604)) (fun _ h9 => h9) rfl dM_field_65 ?_
                refine lv_iload_n hx hb dM_field_68 rfl (lv_at hl 2 rfl) ?_
                obtain ⟨h9, hg⟩ := hg
                refine va_iast hx hb hK hP (MD hI _) hS 2 0 rfl rfl h9 dM_field_69 (fun H locs hP _ hS => ?_)
                obtain ⟨u10, hP, hf, hg⟩ := zlets (E := (Ms_categories u1 (upd (Mg_categories u1) ((Mg_fields u1).toNatClampNeg) p0))) (w := wM k b) (Mp_categories hP) hf hg
                refine lv_aload_n hx hb dM_field_70 rfl (lv_at hl 1 rfl) ?_
                refine va_get (D := D) (ci := 7) (v := .ref (b 3)) (C := RM) (T := TM) (N := 30) hx hb hts (fun w h9 => zc (inM w h9)) hown hK hP 0 rfl rfl 4 (by decide) (hts _ (zc m_601)) (fun _ h9 => h9) rfl dM_field_71 ?_
                refine lv_aload_n hx hb dM_field_74 rfl (lv_at hl 1 rfl) ?_
                refine va_get (D := D) (ci := 7) (v := .int (Mg_fields u10)) (C := RM) (T := TM) (N := 30) hx hb hts (fun w h9 => zc (inM w h9)) hown hK hP 0 rfl rfl 7 (by decide) (hts _ (zc m_604)) (fun _ h9 => h9) rfl dM_field_75 ?_
                refine lv_iload_n hx hb dM_field_78 rfl (lv_at hl 3 rfl) ?_
                obtain ⟨h11, hg⟩ := hg
                refine va_iast hx hb hK hP (MD hI _) hS 3 0 rfl rfl h11 dM_field_79 (fun H locs hP _ hS => ?_)
                obtain ⟨u12, hP, hf, hg⟩ := zlets (E := (Ms_sizes u10 (upd (Mg_sizes u10) ((Mg_fields u10).toNatClampNeg) p1))) (w := wM k b) (Mp_sizes hP) hf hg
                refine lv_iconst (v := 0) hx hb dM_field_80 (by decide) ?_
                refine lv_istore (lv' := [(4, .int 0), (3, .int 8), (0, .ref (b 0)), (1, .int p0), (2, .int p1)]) hx hb dM_field_81 hl (by decide) rfl (fun ls hl => ?_)
                exact kM_field_83 hI C0 (tgt := tgt) 1000 u12 0 8 p0 p1 hf hg _ _ hP hS _ (lv_sub hl [0, 1, 2, 3, 4] rfl)
              · have hf := zt hf c8
                have hg := hg.1 c8
                refine lv_iconst (v := (-1)) hx hb dM_field_58 (by decide) ?_
                exact W.iret (v := (-1)) hx hb hr (fun t ht hW => zri hf hP ht (hS.F ht)) hS.2.2 dM_field_59
            · have hf := zn hf c7
              have hg := hg.2 c7
              refine lv_bipush (v := (-4)) hx hb dM_field_46 (by decide) ?_
              exact W.iret (v := (-4)) hx hb hr (fun t ht hW => zri hf hP ht (hS.F ht)) hS.2.2 dM_field_48
    · have hf := zt hf c3
      have hg := hg.1 c3
      refine lv_bipush (v := 18) hx hb dM_field_19 (by decide) ?_
      refine lv_goto (tgt := 26) hx hb dM_field_21 (by decide) ?_
      refine lv_istore_n (lv' := [(3, .int 18), (0, .ref (b 0)), (1, .int p0), (2, .int p1)]) hx hb dM_field_26 rfl hl (by decide) rfl (fun ls hl => ?_)
      refine lv_iload_n hx hb dM_field_27 rfl (lv_at hl 2 rfl) ?_
      refine lv_if_lt (tgt := 46) hx hb dM_field_28 (by decide) (fun c13 => ?_) (fun c13 => ?_)
      · have hf := zt hf c13
        have hg := hg.1 c13
        refine lv_bipush (v := (-4)) hx hb dM_field_46 (by decide) ?_
        exact W.iret (v := (-4)) hx hb hr (fun t ht hW => zri hf hP ht (hS.F ht)) hS.2.2 dM_field_48
      · have hf := zn hf c13
        have hg := hg.2 c13
        refine lv_iload_n hx hb dM_field_31 rfl (lv_at hl 2 rfl) ?_
        refine lv_iconst (v := 2) hx hb dM_field_32 (by decide) ?_
        refine lv_icmp_gt (tgt := 46) hx hb dM_field_33 (by decide) (fun c14 => ?_) (fun c14 => ?_)
        · have hf := zt hf c14
          have hg := hg.1 c14
          refine lv_bipush (v := (-4)) hx hb dM_field_46 (by decide) ?_
          exact W.iret (v := (-4)) hx hb hr (fun t ht hW => zri hf hP ht (hS.F ht)) hS.2.2 dM_field_48
        · have hf := zn hf c14
          have hg := hg.2 c14
          refine lv_iload_n hx hb dM_field_36 rfl (lv_at hl 3 rfl) ?_
          refine lv_iconst (v := 1) hx hb dM_field_37 (by decide) ?_
          refine lv_icmp_lt (tgt := 46) hx hb dM_field_38 (by decide) (fun c15 => ?_) (fun c15 => ?_)
          · have hf := zt hf c15
            have hg := hg.1 c15
            refine lv_bipush (v := (-4)) hx hb dM_field_46 (by decide) ?_
            exact W.iret (v := (-4)) hx hb hr (fun t ht hW => zri hf hP ht (hS.F ht)) hS.2.2 dM_field_48
          · have hf := zn hf c15
            have hg := hg.2 c15
            refine lv_iload_n hx hb dM_field_41 rfl (lv_at hl 3 rfl) ?_
            refine lv_iload_n hx hb dM_field_42 rfl (lv_at hl 0 rfl) ?_
            refine lv_icmp_le (tgt := 49) hx hb dM_field_43 (by decide) (fun c16 => ?_) (fun c16 => ?_)
            · have hf := zt hf c16
              have hg := hg.1 c16
              refine lv_aload_n hx hb dM_field_49 rfl (lv_at hl 1 rfl) ?_
              refine va_get (D := D) (ci := 7) (v := .int (Mg_fields u1)) (C := RM) (T := TM) (N := 30) hx hb hts (fun w h9 => zc (inM w h9)) hown hK hP 0 rfl rfl 7 (by decide) (hts _ (zc m_604)) (fun _ h9 => h9) rfl dM_field_50 ?_
              refine lv_bipush (v := 40) hx hb dM_field_53 (by decide) ?_
              refine lv_icmp_ne (tgt := 60) hx hb dM_field_55 (by decide) (fun c17 => ?_) (fun c17 => ?_)
              · have hf := zn hf c17
                have hg := hg.2 c17
                refine lv_aload_n hx hb dM_field_60 rfl (lv_at hl 1 rfl) ?_
                refine va_get (D := D) (ci := 7) (v := .ref (b 2)) (C := RM) (T := TM) (N := 30) hx hb hts (fun w h9 => zc (inM w h9)) hown hK hP 0 rfl rfl 3 (by decide) (hts _ (zc m_600)) (fun _ h9 => h9) rfl dM_field_61 ?_
                refine lv_aload_n hx hb dM_field_64 rfl (lv_at hl 1 rfl) ?_
                refine va_get (D := D) (ci := 7) (v := .int (Mg_fields u1)) (C := RM) (T := TM) (N := 30) hx hb hts (fun w h9 => zc (inM w h9)) hown hK hP 0 rfl rfl 7 (by decide) (hts _ (zc m_604)) (fun _ h9 => h9) rfl dM_field_65 ?_
                refine lv_iload_n hx hb dM_field_68 rfl (lv_at hl 2 rfl) ?_
                obtain ⟨h18, hg⟩ := hg
                refine va_iast hx hb hK hP (MD hI _) hS 2 0 rfl rfl h18 dM_field_69 (fun H locs hP _ hS => ?_)
                obtain ⟨u19, hP, hf, hg⟩ := zlets (E := (Ms_categories u1 (upd (Mg_categories u1) ((Mg_fields u1).toNatClampNeg) p0))) (w := wM k b) (Mp_categories hP) hf hg
                refine lv_aload_n hx hb dM_field_70 rfl (lv_at hl 1 rfl) ?_
                refine va_get (D := D) (ci := 7) (v := .ref (b 3)) (C := RM) (T := TM) (N := 30) hx hb hts (fun w h9 => zc (inM w h9)) hown hK hP 0 rfl rfl 4 (by decide) (hts _ (zc m_601)) (fun _ h9 => h9) rfl dM_field_71 ?_
                refine lv_aload_n hx hb dM_field_74 rfl (lv_at hl 1 rfl) ?_
                refine va_get (D := D) (ci := 7) (v := .int (Mg_fields u19)) (C := RM) (T := TM) (N := 30) hx hb hts (fun w h9 => zc (inM w h9)) hown hK hP 0 rfl rfl 7 (by decide) (hts _ (zc m_604)) (fun _ h9 => h9) rfl dM_field_75 ?_
                refine lv_iload_n hx hb dM_field_78 rfl (lv_at hl 3 rfl) ?_
                obtain ⟨h20, hg⟩ := hg
                refine va_iast hx hb hK hP (MD hI _) hS 3 0 rfl rfl h20 dM_field_79 (fun H locs hP _ hS => ?_)
                obtain ⟨u21, hP, hf, hg⟩ := zlets (E := (Ms_sizes u19 (upd (Mg_sizes u19) ((Mg_fields u19).toNatClampNeg) p1))) (w := wM k b) (Mp_sizes hP) hf hg
                refine lv_iconst (v := 0) hx hb dM_field_80 (by decide) ?_
                refine lv_istore (lv' := [(4, .int 0), (3, .int 18), (0, .ref (b 0)), (1, .int p0), (2, .int p1)]) hx hb dM_field_81 hl (by decide) rfl (fun ls hl => ?_)
                exact kM_field_83 hI C0 (tgt := tgt) 1000 u21 0 18 p0 p1 hf hg _ _ hP hS _ (lv_sub hl [0, 1, 2, 3, 4] rfl)
              · have hf := zt hf c17
                have hg := hg.1 c17
                refine lv_iconst (v := (-1)) hx hb dM_field_58 (by decide) ?_
                exact W.iret (v := (-1)) hx hb hr (fun t ht hW => zri hf hP ht (hS.F ht)) hS.2.2 dM_field_59
            · have hf := zn hf c16
              have hg := hg.2 c16
              refine lv_bipush (v := (-4)) hx hb dM_field_46 (by decide) ?_
              exact W.iret (v := (-4)) hx hb hr (fun t ht hW => zri hf hP ht (hS.F ht)) hS.2.2 dM_field_48
  · have hf := zt hf c2
    have hg := hg.1 c2
    refine lv_bipush (v := 32) hx hb dM_field_9 (by decide) ?_
    refine lv_goto (tgt := 26) hx hb dM_field_11 (by decide) ?_
    refine lv_istore_n (lv' := [(3, .int 32), (0, .ref (b 0)), (1, .int p0), (2, .int p1)]) hx hb dM_field_26 rfl hl (by decide) rfl (fun ls hl => ?_)
    refine lv_iload_n hx hb dM_field_27 rfl (lv_at hl 2 rfl) ?_
    refine lv_if_lt (tgt := 46) hx hb dM_field_28 (by decide) (fun c22 => ?_) (fun c22 => ?_)
    · have hf := zt hf c22
      have hg := hg.1 c22
      refine lv_bipush (v := (-4)) hx hb dM_field_46 (by decide) ?_
      exact W.iret (v := (-4)) hx hb hr (fun t ht hW => zri hf hP ht (hS.F ht)) hS.2.2 dM_field_48
    · have hf := zn hf c22
      have hg := hg.2 c22
      refine lv_iload_n hx hb dM_field_31 rfl (lv_at hl 2 rfl) ?_
      refine lv_iconst (v := 2) hx hb dM_field_32 (by decide) ?_
      refine lv_icmp_gt (tgt := 46) hx hb dM_field_33 (by decide) (fun c23 => ?_) (fun c23 => ?_)
      · have hf := zt hf c23
        have hg := hg.1 c23
        refine lv_bipush (v := (-4)) hx hb dM_field_46 (by decide) ?_
        exact W.iret (v := (-4)) hx hb hr (fun t ht hW => zri hf hP ht (hS.F ht)) hS.2.2 dM_field_48
      · have hf := zn hf c23
        have hg := hg.2 c23
        refine lv_iload_n hx hb dM_field_36 rfl (lv_at hl 3 rfl) ?_
        refine lv_iconst (v := 1) hx hb dM_field_37 (by decide) ?_
        refine lv_icmp_lt (tgt := 46) hx hb dM_field_38 (by decide) (fun c24 => ?_) (fun c24 => ?_)
        · have hf := zt hf c24
          have hg := hg.1 c24
          refine lv_bipush (v := (-4)) hx hb dM_field_46 (by decide) ?_
          exact W.iret (v := (-4)) hx hb hr (fun t ht hW => zri hf hP ht (hS.F ht)) hS.2.2 dM_field_48
        · have hf := zn hf c24
          have hg := hg.2 c24
          refine lv_iload_n hx hb dM_field_41 rfl (lv_at hl 3 rfl) ?_
          refine lv_iload_n hx hb dM_field_42 rfl (lv_at hl 0 rfl) ?_
          refine lv_icmp_le (tgt := 49) hx hb dM_field_43 (by decide) (fun c25 => ?_) (fun c25 => ?_)
          · have hf := zt hf c25
            have hg := hg.1 c25
            refine lv_aload_n hx hb dM_field_49 rfl (lv_at hl 1 rfl) ?_
            refine va_get (D := D) (ci := 7) (v := .int (Mg_fields u1)) (C := RM) (T := TM) (N := 30) hx hb hts (fun w h9 => zc (inM w h9)) hown hK hP 0 rfl rfl 7 (by decide) (hts _ (zc m_604)) (fun _ h9 => h9) rfl dM_field_50 ?_
            refine lv_bipush (v := 40) hx hb dM_field_53 (by decide) ?_
            refine lv_icmp_ne (tgt := 60) hx hb dM_field_55 (by decide) (fun c26 => ?_) (fun c26 => ?_)
            · have hf := zn hf c26
              have hg := hg.2 c26
              refine lv_aload_n hx hb dM_field_60 rfl (lv_at hl 1 rfl) ?_
              refine va_get (D := D) (ci := 7) (v := .ref (b 2)) (C := RM) (T := TM) (N := 30) hx hb hts (fun w h9 => zc (inM w h9)) hown hK hP 0 rfl rfl 3 (by decide) (hts _ (zc m_600)) (fun _ h9 => h9) rfl dM_field_61 ?_
              refine lv_aload_n hx hb dM_field_64 rfl (lv_at hl 1 rfl) ?_
              refine va_get (D := D) (ci := 7) (v := .int (Mg_fields u1)) (C := RM) (T := TM) (N := 30) hx hb hts (fun w h9 => zc (inM w h9)) hown hK hP 0 rfl rfl 7 (by decide) (hts _ (zc m_604)) (fun _ h9 => h9) rfl dM_field_65 ?_
              refine lv_iload_n hx hb dM_field_68 rfl (lv_at hl 2 rfl) ?_
              obtain ⟨h27, hg⟩ := hg
              refine va_iast hx hb hK hP (MD hI _) hS 2 0 rfl rfl h27 dM_field_69 (fun H locs hP _ hS => ?_)
              obtain ⟨u28, hP, hf, hg⟩ := zlets (E := (Ms_categories u1 (upd (Mg_categories u1) ((Mg_fields u1).toNatClampNeg) p0))) (w := wM k b) (Mp_categories hP) hf hg
              refine lv_aload_n hx hb dM_field_70 rfl (lv_at hl 1 rfl) ?_
              refine va_get (D := D) (ci := 7) (v := .ref (b 3)) (C := RM) (T := TM) (N := 30) hx hb hts (fun w h9 => zc (inM w h9)) hown hK hP 0 rfl rfl 4 (by decide) (hts _ (zc m_601)) (fun _ h9 => h9) rfl dM_field_71 ?_
              refine lv_aload_n hx hb dM_field_74 rfl (lv_at hl 1 rfl) ?_
              refine va_get (D := D) (ci := 7) (v := .int (Mg_fields u28)) (C := RM) (T := TM) (N := 30) hx hb hts (fun w h9 => zc (inM w h9)) hown hK hP 0 rfl rfl 7 (by decide) (hts _ (zc m_604)) (fun _ h9 => h9) rfl dM_field_75 ?_
              refine lv_iload_n hx hb dM_field_78 rfl (lv_at hl 3 rfl) ?_
              obtain ⟨h29, hg⟩ := hg
              refine va_iast hx hb hK hP (MD hI _) hS 3 0 rfl rfl h29 dM_field_79 (fun H locs hP _ hS => ?_)
              obtain ⟨u30, hP, hf, hg⟩ := zlets (E := (Ms_sizes u28 (upd (Mg_sizes u28) ((Mg_fields u28).toNatClampNeg) p1))) (w := wM k b) (Mp_sizes hP) hf hg
              refine lv_iconst (v := 0) hx hb dM_field_80 (by decide) ?_
              refine lv_istore (lv' := [(4, .int 0), (3, .int 32), (0, .ref (b 0)), (1, .int p0), (2, .int p1)]) hx hb dM_field_81 hl (by decide) rfl (fun ls hl => ?_)
              exact kM_field_83 hI C0 (tgt := tgt) 1000 u30 0 32 p0 p1 hf hg _ _ hP hS _ (lv_sub hl [0, 1, 2, 3, 4] rfl)
            · have hf := zt hf c26
              have hg := hg.1 c26
              refine lv_iconst (v := (-1)) hx hb dM_field_58 (by decide) ?_
              exact W.iret (v := (-1)) hx hb hr (fun t ht hW => zri hf hP ht (hS.F ht)) hS.2.2 dM_field_59
          · have hf := zn hf c25
            have hg := hg.2 c25
            refine lv_bipush (v := (-4)) hx hb dM_field_46 (by decide) ?_
            exact W.iret (v := (-4)) hx hb hr (fun t ht hW => zri hf hP ht (hS.F ht)) hS.2.2 dM_field_48
theorem dM_octet_0 : decode cM_octet 0 = .ok (.aload_n 0, 1) := by decide +kernel
theorem dM_octet_1 : decode cM_octet 1 = .ok (.iconst 0, 1) := by decide +kernel
theorem dM_octet_2 : decode cM_octet 2 = .ok (.putfield 79, 3) := by decide +kernel
theorem dM_octet_5 : decode cM_octet 5 = .ok (.aload_n 0, 1) := by decide +kernel
theorem dM_octet_6 : decode cM_octet 6 = .ok (.iload_n 1, 1) := by decide +kernel
theorem dM_octet_7 : decode cM_octet 7 = .ok (.invokevirtual 92, 3) := by decide +kernel
theorem dM_octet_10 : decode cM_octet 10 = .ok (.ifCond .ne 6, 3) := by decide +kernel
theorem dM_octet_13 : decode cM_octet 13 = .ok (.bipush (-2), 2) := by decide +kernel
theorem dM_octet_15 : decode cM_octet 15 = .ok (.ireturn, 1) := by decide +kernel
theorem dM_octet_16 : decode cM_octet 16 = .ok (.iload_n 2, 1) := by decide +kernel
theorem dM_octet_17 : decode cM_octet 17 = .ok (.ifCond .lt 13, 3) := by decide +kernel
theorem dM_octet_20 : decode cM_octet 20 = .ok (.iload_n 2, 1) := by decide +kernel
theorem dM_octet_21 : decode cM_octet 21 = .ok (.aload_n 0, 1) := by decide +kernel
theorem dM_octet_22 : decode cM_octet 22 = .ok (.getfield 16, 3) := by decide +kernel
theorem dM_octet_25 : decode cM_octet 25 = .ok (.iload_n 1, 1) := by decide +kernel
theorem dM_octet_26 : decode cM_octet 26 = .ok (.iaload, 1) := by decide +kernel
theorem dM_octet_27 : decode cM_octet 27 = .ok (.if_icmp .lt 6, 3) := by decide +kernel
theorem dM_octet_30 : decode cM_octet 30 = .ok (.bipush (-4), 2) := by decide +kernel
theorem dM_octet_32 : decode cM_octet 32 = .ok (.ireturn, 1) := by decide +kernel
theorem dM_octet_33 : decode cM_octet 33 = .ok (.aload_n 0, 1) := by decide +kernel
theorem dM_octet_34 : decode cM_octet 34 = .ok (.getfield 7, 3) := by decide +kernel
theorem dM_octet_37 : decode cM_octet 37 = .ok (.bipush 32, 2) := by decide +kernel
theorem dM_octet_39 : decode cM_octet 39 = .ok (.iload_n 1, 1) := by decide +kernel
theorem dM_octet_40 : decode cM_octet 40 = .ok (.imul, 1) := by decide +kernel
theorem dM_octet_41 : decode cM_octet 41 = .ok (.iload_n 2, 1) := by decide +kernel
theorem dM_octet_42 : decode cM_octet 42 = .ok (.iadd, 1) := by decide +kernel
theorem dM_octet_43 : decode cM_octet 43 = .ok (.iload_n 3, 1) := by decide +kernel
theorem dM_octet_44 : decode cM_octet 44 = .ok (.sipush 255, 3) := by decide +kernel
theorem dM_octet_47 : decode cM_octet 47 = .ok (.iand, 1) := by decide +kernel
theorem dM_octet_48 : decode cM_octet 48 = .ok (.iastore, 1) := by decide +kernel
theorem dM_octet_49 : decode cM_octet 49 = .ok (.iconst 1, 1) := by decide +kernel
theorem dM_octet_50 : decode cM_octet 50 = .ok (.ireturn, 1) := by decide +kernel
abbrev wsM_octet : List Cond := Cond.code yM_octet cM_octet 4 (some .int) :: zWords
def FM_octet (u : MS) (p0 : Int32) (p1 : Int32) (p2 : Int32) : Int32 × MS := (zlet (Ms_thrown u 0) (fun u1 => (if (FM_isField u1 p0) = 0 then ((-2), u1) else (if p1 < 0 then ((-4), u1) else (if p1 < ((Mg_sizes u1) p0.toNatClampNeg) then (zlet (Ms_bytes u1 (upd (Mg_bytes u1) (((32 * p0) + p1).toNatClampNeg) (p2 &&& 255))) (fun u7 => (1, u7))) else ((-4), u1))))))
def GM_octet (u : MS) (p0 : Int32) (p1 : Int32) (p2 : Int32) : Prop := (zlet (Ms_thrown u 0) (fun u1 => (((FM_isField u1 p0) = 0 → True) ∧ (¬ (FM_isField u1 p0) = 0 → ((p1 < 0 → True) ∧ (¬ p1 < 0 → (vp_in p0 40 ∧ ((p1 < ((Mg_sizes u1) p0.toNatClampNeg) → (vp_in ((32 * p0) + p1) 1280 ∧ (zlet (Ms_bytes u1 (upd (Mg_bytes u1) (((32 * p0) + p1).toNatClampNeg) (p2 &&& 255))) (fun u7 => True)))) ∧ (¬ p1 < ((Mg_sizes u1) p0.toNatClampNeg) → True)))))))))
set_option maxHeartbeats 4000000 in
set_option maxRecDepth 100000 in
theorem tM_octet (l : Launch) {D : va_G} {k : zK} {b : Nat → Nat} (hI : zI 22 b) (u : MS) (p0 : Int32) (p1 : Int32) (p2 : Int32) (hg : GM_octet u p0 p1 p2) : Met l yM_octet wsM_octet ({ frames := 1, cells := 0, slots := 0, locals := 21 }) (zPc D k (zA 22 b) (wM k b u) [.ref (b 0), .int p0, .int p1, .int p2]) (zQi D (wM k b) (zA 22 b) (FM_octet u p0 p1 p2)) 0 0 (zA 22 b) := by
  refine Met.ofW (cc := cM_octet) (maxL := 4) (ret := (some .int)) (by decide) rfl ?_
  intro p e s m args below meth c s₁ B hml hv
  obtain ⟨rfl, hP, hE⟩ := hv
  have hts := atoms_spec (ws := wsM_octet) B.pre
  have C0 : zC p s m _ meth c cM_octet (some .int) 4 RM wsM_octet D k (zA 22 b) := ⟨B.exec, B.bytes, B.returns, hml, findClass_of_methodNamed B.named, hts, B.notSynchronized, hE⟩
  obtain ⟨hx, hb, hr, hml, hown, _, hlocks, _⟩ := id C0
  have hK := hE.1
  have hS : va_S (zA 22 b) s.heap s.heap [] := va_S.rf
  generalize hf : FM_octet u p0 p1 p2 = tgt
  change ((zlet (Ms_thrown u 0) (fun u1 => (if (FM_isField u1 p0) = 0 then ((-2), u1) else (if p1 < 0 then ((-4), u1) else (if p1 < ((Mg_sizes u1) p0.toNatClampNeg) then (zlet (Ms_bytes u1 (upd (Mg_bytes u1) (((32 * p0) + p1).toNatClampNeg) (p2 &&& 255))) (fun u7 => (1, u7))) else ((-4), u1)))))) : Int32 × MS) = tgt at hf
  change (zlet (Ms_thrown u 0) (fun u1 => (((FM_isField u1 p0) = 0 → True) ∧ (¬ (FM_isField u1 p0) = 0 → ((p1 < 0 → True) ∧ (¬ p1 < 0 → (vp_in p0 40 ∧ ((p1 < ((Mg_sizes u1) p0.toNatClampNeg) → (vp_in ((32 * p0) + p1) 1280 ∧ (zlet (Ms_bytes u1 (upd (Mg_bytes u1) (((32 * p0) + p1).toNatClampNeg) (p2 &&& 255))) (fun u7 => True)))) ∧ (¬ p1 < ((Mg_sizes u1) p0.toNatClampNeg) → True))))))))) at hg
  have hl := lv_entry ([.ref (b 0), .int p0, .int p1, .int p2]) (n := 4) (Nat.le_of_ble_eq_true rfl)
  rw [lg_entry_eq]
  generalize (lg_sl ([.ref (b 0), .int p0, .int p1, .int p2]) ++ List.replicate (4 - (lg_sl ([.ref (b 0), .int p0, .int p1, .int p2])).length) Slot.unset).toArray = ls at hl ⊢
  have hl : lv_has ls 4 [(0, .ref (b 0)), (1, .int p0), (2, .int p1), (3, .int p2)] := hl
  refine lv_aload_n hx hb dM_octet_0 rfl (lv_at hl 0 rfl) ?_
  refine lv_iconst (v := 0) hx hb dM_octet_1 (by decide) ?_
  refine va_put (D := D) (ci := 7) (v := .int 0) (ty := .int) (C := RM) (T := TM) (N := 30) hx hb hts (fun w h9 => zc (inM w h9)) tyM tyM_ok nmM hown hK hP (MD hI _) hS 0 rfl rfl 1 (by decide) (hts _ (zc m_598)) (fun _ h9 => h9) rfl (by decide +kernel) rfl rfl (Nat.le_of_ble_eq_true rfl) dM_octet_2 (fun H locs hP _ hS => ?_)
  obtain ⟨u1, hP, hf, hg⟩ := zlets (E := (Ms_thrown u 0)) (w := wM k b) (Mp_thrown hP) hf hg
  refine lv_aload_n hx hb dM_octet_5 rfl (lv_at hl 0 rfl) ?_
  refine lv_iload_n hx hb dM_octet_6 rfl (lv_at hl 1 rfl) ?_
  refine vp_callSi (W.runV (As := [.int p0]) (rest := []) ⟨hx, hb, hml, hown, hts⟩ (tM_isField l hI u1 p0) (cwV 1 hts (zgV m_696 m_698 mp_17 m_8 m_699) rfl rfl rfl (by decide +kernel) ⟨Nat.le_of_ble_eq_true rfl, Nat.le_of_ble_eq_true rfl⟩) (zpre hP hE hS.2.1 (va_recv hK hP (ci := 7) (q0 := 0) rfl rfl)) rfl rfl hl.1 rfl (lv_room (Nat.le_of_ble_eq_true rfl)) dM_octet_7 ⟨Nat.zero_le _, Nat.zero_le _⟩) (fun r9 hr9 => ?_)
  subst hr9
  refine lv_if_ne (tgt := 16) hx hb dM_octet_10 (by decide) (fun c2 => ?_) (fun c2 => ?_)
  · have hf := zn hf c2
    have hg := hg.2 c2
    refine lv_iload_n hx hb dM_octet_16 rfl (lv_at hl 2 rfl) ?_
    refine lv_if_lt (tgt := 30) hx hb dM_octet_17 (by decide) (fun c3 => ?_) (fun c3 => ?_)
    · have hf := zt hf c3
      have hg := hg.1 c3
      refine lv_bipush (v := (-4)) hx hb dM_octet_30 (by decide) ?_
      exact W.iret (v := (-4)) hx hb hr (fun t ht hW => zri hf hP ht (hS.F ht)) hS.2.2 dM_octet_32
    · have hf := zn hf c3
      have hg := hg.2 c3
      refine lv_iload_n hx hb dM_octet_20 rfl (lv_at hl 2 rfl) ?_
      refine lv_aload_n hx hb dM_octet_21 rfl (lv_at hl 0 rfl) ?_
      refine va_get (D := D) (ci := 7) (v := .ref (b 3)) (C := RM) (T := TM) (N := 30) hx hb hts (fun w h9 => zc (inM w h9)) hown hK hP 0 rfl rfl 4 (by decide) (hts _ (zc m_601)) (fun _ h9 => h9) rfl dM_octet_22 ?_
      refine lv_iload_n hx hb dM_octet_25 rfl (lv_at hl 1 rfl) ?_
      obtain ⟨h4, hg⟩ := hg
      refine va_iald hx hb hK hP 3 0 rfl rfl h4 dM_octet_26 ?_
      refine lv_icmp_lt (tgt := 33) hx hb dM_octet_27 (by decide) (fun c5 => ?_) (fun c5 => ?_)
      · have hf := zt hf c5
        have hg := hg.1 c5
        refine lv_aload_n hx hb dM_octet_33 rfl (lv_at hl 0 rfl) ?_
        refine va_get (D := D) (ci := 7) (v := .ref (b 1)) (C := RM) (T := TM) (N := 30) hx hb hts (fun w h9 => zc (inM w h9)) hown hK hP 0 rfl rfl 2 (by decide) (hts _ (zc m_599)) (fun _ h9 => h9) rfl dM_octet_34 ?_
        refine lv_bipush (v := 32) hx hb dM_octet_37 (by decide) ?_
        refine lv_iload_n hx hb dM_octet_39 rfl (lv_at hl 1 rfl) ?_
        refine lv_imul hx hb dM_octet_40 ?_
        refine lv_iload_n hx hb dM_octet_41 rfl (lv_at hl 2 rfl) ?_
        refine lv_iadd hx hb dM_octet_42 ?_
        refine lv_iload_n hx hb dM_octet_43 rfl (lv_at hl 3 rfl) ?_
        refine lv_sipush (v := 255) hx hb dM_octet_44 (by decide) ?_
        refine lv_iand hx hb dM_octet_47 ?_
        obtain ⟨h6, hg⟩ := hg
        refine va_iast hx hb hK hP (MD hI _) hS 1 0 rfl rfl h6 dM_octet_48 (fun H locs hP _ hS => ?_)
        obtain ⟨u7, hP, hf, hg⟩ := zlets (E := (Ms_bytes u1 (upd (Mg_bytes u1) (((32 * p0) + p1).toNatClampNeg) (p2 &&& 255)))) (w := wM k b) (Mp_bytes hP) hf hg
        refine lv_iconst (v := 1) hx hb dM_octet_49 (by decide) ?_
        exact W.iret (v := 1) hx hb hr (fun t ht hW => zri hf hP ht (hS.F ht)) hS.2.2 dM_octet_50
      · have hf := zn hf c5
        have hg := hg.2 c5
        refine lv_bipush (v := (-4)) hx hb dM_octet_30 (by decide) ?_
        exact W.iret (v := (-4)) hx hb hr (fun t ht hW => zri hf hP ht (hS.F ht)) hS.2.2 dM_octet_32
  · have hf := zt hf c2
    have hg := hg.1 c2
    refine lv_bipush (v := (-2)) hx hb dM_octet_13 (by decide) ?_
    exact W.iret (v := (-2)) hx hb hr (fun t ht hW => zri hf hP ht (hS.F ht)) hS.2.2 dM_octet_15
theorem dM_scale_0 : decode cM_scale 0 = .ok (.aload_n 0, 1) := by decide +kernel
theorem dM_scale_1 : decode cM_scale 1 = .ok (.iconst 0, 1) := by decide +kernel
theorem dM_scale_2 : decode cM_scale 2 = .ok (.putfield 79, 3) := by decide +kernel
theorem dM_scale_5 : decode cM_scale 5 = .ok (.aload_n 0, 1) := by decide +kernel
theorem dM_scale_6 : decode cM_scale 6 = .ok (.iload_n 1, 1) := by decide +kernel
theorem dM_scale_7 : decode cM_scale 7 = .ok (.invokevirtual 92, 3) := by decide +kernel
theorem dM_scale_10 : decode cM_scale 10 = .ok (.ifCond .eq 12, 3) := by decide +kernel
theorem dM_scale_13 : decode cM_scale 13 = .ok (.aload_n 0, 1) := by decide +kernel
theorem dM_scale_14 : decode cM_scale 14 = .ok (.getfield 13, 3) := by decide +kernel
theorem dM_scale_17 : decode cM_scale 17 = .ok (.iload_n 1, 1) := by decide +kernel
theorem dM_scale_18 : decode cM_scale 18 = .ok (.iaload, 1) := by decide +kernel
theorem dM_scale_19 : decode cM_scale 19 = .ok (.ifCond .ne 6, 3) := by decide +kernel
theorem dM_scale_22 : decode cM_scale 22 = .ok (.bipush (-2), 2) := by decide +kernel
theorem dM_scale_24 : decode cM_scale 24 = .ok (.ireturn, 1) := by decide +kernel
theorem dM_scale_25 : decode cM_scale 25 = .ok (.iload_n 2, 1) := by decide +kernel
theorem dM_scale_26 : decode cM_scale 26 = .ok (.ifCond .lt 9, 3) := by decide +kernel
theorem dM_scale_29 : decode cM_scale 29 = .ok (.iload_n 2, 1) := by decide +kernel
theorem dM_scale_30 : decode cM_scale 30 = .ok (.bipush 9, 2) := by decide +kernel
theorem dM_scale_32 : decode cM_scale 32 = .ok (.if_icmp .le 6, 3) := by decide +kernel
theorem dM_scale_35 : decode cM_scale 35 = .ok (.bipush (-4), 2) := by decide +kernel
theorem dM_scale_37 : decode cM_scale 37 = .ok (.ireturn, 1) := by decide +kernel
theorem dM_scale_38 : decode cM_scale 38 = .ok (.aload_n 0, 1) := by decide +kernel
theorem dM_scale_39 : decode cM_scale 39 = .ok (.getfield 19, 3) := by decide +kernel
theorem dM_scale_42 : decode cM_scale 42 = .ok (.iload_n 1, 1) := by decide +kernel
theorem dM_scale_43 : decode cM_scale 43 = .ok (.iaload, 1) := by decide +kernel
theorem dM_scale_44 : decode cM_scale 44 = .ok (.istore_n 3, 1) := by decide +kernel
theorem dM_scale_45 : decode cM_scale 45 = .ok (.aload_n 0, 1) := by decide +kernel
theorem dM_scale_46 : decode cM_scale 46 = .ok (.getfield 19, 3) := by decide +kernel
theorem dM_scale_49 : decode cM_scale 49 = .ok (.iload_n 1, 1) := by decide +kernel
theorem dM_scale_50 : decode cM_scale 50 = .ok (.iload_n 2, 1) := by decide +kernel
theorem dM_scale_51 : decode cM_scale 51 = .ok (.iastore, 1) := by decide +kernel
theorem dM_scale_52 : decode cM_scale 52 = .ok (.iload_n 3, 1) := by decide +kernel
theorem dM_scale_53 : decode cM_scale 53 = .ok (.ireturn, 1) := by decide +kernel
abbrev wsM_scale : List Cond := Cond.code yM_scale cM_scale 4 (some .int) :: zWords
def FM_scale (u : MS) (p0 : Int32) (p1 : Int32) : Int32 × MS := (zlet (Ms_thrown u 0) (fun u1 => (if (FM_isField u1 p0) = 0 then ((-2), u1) else (if ((Mg_categories u1) p0.toNatClampNeg) = 0 then ((-2), u1) else (if p1 < 0 then ((-4), u1) else (if p1 ≤ 9 then (zlet (Ms_scales u1 (upd (Mg_scales u1) (p0.toNatClampNeg) p1)) (fun u9 => (((Mg_scales u1) p0.toNatClampNeg), u9))) else ((-4), u1)))))))
def GM_scale (u : MS) (p0 : Int32) (p1 : Int32) : Prop := (zlet (Ms_thrown u 0) (fun u1 => (((FM_isField u1 p0) = 0 → True) ∧ (¬ (FM_isField u1 p0) = 0 → (vp_in p0 40 ∧ ((((Mg_categories u1) p0.toNatClampNeg) = 0 → True) ∧ (¬ ((Mg_categories u1) p0.toNatClampNeg) = 0 → ((p1 < 0 → True) ∧ (¬ p1 < 0 → ((p1 ≤ 9 → (vp_in p0 40 ∧ (vp_in p0 40 ∧ (zlet (Ms_scales u1 (upd (Mg_scales u1) (p0.toNatClampNeg) p1)) (fun u9 => True))))) ∧ (¬ p1 ≤ 9 → True)))))))))))
set_option maxHeartbeats 4000000 in
set_option maxRecDepth 100000 in
theorem tM_scale (l : Launch) {D : va_G} {k : zK} {b : Nat → Nat} (hI : zI 22 b) (u : MS) (p0 : Int32) (p1 : Int32) (hg : GM_scale u p0 p1) : Met l yM_scale wsM_scale ({ frames := 1, cells := 0, slots := 0, locals := 21 }) (zPc D k (zA 22 b) (wM k b u) [.ref (b 0), .int p0, .int p1]) (zQi D (wM k b) (zA 22 b) (FM_scale u p0 p1)) 0 0 (zA 22 b) := by
  refine Met.ofW (cc := cM_scale) (maxL := 4) (ret := (some .int)) (by decide) rfl ?_
  intro p e s m args below meth c s₁ B hml hv
  obtain ⟨rfl, hP, hE⟩ := hv
  have hts := atoms_spec (ws := wsM_scale) B.pre
  have C0 : zC p s m _ meth c cM_scale (some .int) 4 RM wsM_scale D k (zA 22 b) := ⟨B.exec, B.bytes, B.returns, hml, findClass_of_methodNamed B.named, hts, B.notSynchronized, hE⟩
  obtain ⟨hx, hb, hr, hml, hown, _, hlocks, _⟩ := id C0
  have hK := hE.1
  have hS : va_S (zA 22 b) s.heap s.heap [] := va_S.rf
  generalize hf : FM_scale u p0 p1 = tgt
  change ((zlet (Ms_thrown u 0) (fun u1 => (if (FM_isField u1 p0) = 0 then ((-2), u1) else (if ((Mg_categories u1) p0.toNatClampNeg) = 0 then ((-2), u1) else (if p1 < 0 then ((-4), u1) else (if p1 ≤ 9 then (zlet (Ms_scales u1 (upd (Mg_scales u1) (p0.toNatClampNeg) p1)) (fun u9 => (((Mg_scales u1) p0.toNatClampNeg), u9))) else ((-4), u1))))))) : Int32 × MS) = tgt at hf
  change (zlet (Ms_thrown u 0) (fun u1 => (((FM_isField u1 p0) = 0 → True) ∧ (¬ (FM_isField u1 p0) = 0 → (vp_in p0 40 ∧ ((((Mg_categories u1) p0.toNatClampNeg) = 0 → True) ∧ (¬ ((Mg_categories u1) p0.toNatClampNeg) = 0 → ((p1 < 0 → True) ∧ (¬ p1 < 0 → ((p1 ≤ 9 → (vp_in p0 40 ∧ (vp_in p0 40 ∧ (zlet (Ms_scales u1 (upd (Mg_scales u1) (p0.toNatClampNeg) p1)) (fun u9 => True))))) ∧ (¬ p1 ≤ 9 → True))))))))))) at hg
  have hl := lv_entry ([.ref (b 0), .int p0, .int p1]) (n := 4) (Nat.le_of_ble_eq_true rfl)
  rw [lg_entry_eq]
  generalize (lg_sl ([.ref (b 0), .int p0, .int p1]) ++ List.replicate (4 - (lg_sl ([.ref (b 0), .int p0, .int p1])).length) Slot.unset).toArray = ls at hl ⊢
  have hl : lv_has ls 4 [(0, .ref (b 0)), (1, .int p0), (2, .int p1)] := hl
  refine lv_aload_n hx hb dM_scale_0 rfl (lv_at hl 0 rfl) ?_
  refine lv_iconst (v := 0) hx hb dM_scale_1 (by decide) ?_
  refine va_put (D := D) (ci := 7) (v := .int 0) (ty := .int) (C := RM) (T := TM) (N := 30) hx hb hts (fun w h9 => zc (inM w h9)) tyM tyM_ok nmM hown hK hP (MD hI _) hS 0 rfl rfl 1 (by decide) (hts _ (zc m_598)) (fun _ h9 => h9) rfl (by decide +kernel) rfl rfl (Nat.le_of_ble_eq_true rfl) dM_scale_2 (fun H locs hP _ hS => ?_)
  obtain ⟨u1, hP, hf, hg⟩ := zlets (E := (Ms_thrown u 0)) (w := wM k b) (Mp_thrown hP) hf hg
  refine lv_aload_n hx hb dM_scale_5 rfl (lv_at hl 0 rfl) ?_
  refine lv_iload_n hx hb dM_scale_6 rfl (lv_at hl 1 rfl) ?_
  refine vp_callSi (W.runV (As := [.int p0]) (rest := []) ⟨hx, hb, hml, hown, hts⟩ (tM_isField l hI u1 p0) (cwV 1 hts (zgV m_696 m_698 mp_17 m_8 m_699) rfl rfl rfl (by decide +kernel) ⟨Nat.le_of_ble_eq_true rfl, Nat.le_of_ble_eq_true rfl⟩) (zpre hP hE hS.2.1 (va_recv hK hP (ci := 7) (q0 := 0) rfl rfl)) rfl rfl hl.1 rfl (lv_room (Nat.le_of_ble_eq_true rfl)) dM_scale_7 ⟨Nat.zero_le _, Nat.zero_le _⟩) (fun r9 hr9 => ?_)
  subst hr9
  refine lv_if_eq (tgt := 22) hx hb dM_scale_10 (by decide) (fun c2 => ?_) (fun c2 => ?_)
  · have hf := zt hf c2
    have hg := hg.1 c2
    refine lv_bipush (v := (-2)) hx hb dM_scale_22 (by decide) ?_
    exact W.iret (v := (-2)) hx hb hr (fun t ht hW => zri hf hP ht (hS.F ht)) hS.2.2 dM_scale_24
  · have hf := zn hf c2
    have hg := hg.2 c2
    refine lv_aload_n hx hb dM_scale_13 rfl (lv_at hl 0 rfl) ?_
    refine va_get (D := D) (ci := 7) (v := .ref (b 2)) (C := RM) (T := TM) (N := 30) hx hb hts (fun w h9 => zc (inM w h9)) hown hK hP 0 rfl rfl 3 (by decide) (hts _ (zc m_600)) (fun _ h9 => h9) rfl dM_scale_14 ?_
    refine lv_iload_n hx hb dM_scale_17 rfl (lv_at hl 1 rfl) ?_
    obtain ⟨h3, hg⟩ := hg
    refine va_iald hx hb hK hP 2 0 rfl rfl h3 dM_scale_18 ?_
    refine lv_if_ne (tgt := 25) hx hb dM_scale_19 (by decide) (fun c4 => ?_) (fun c4 => ?_)
    · have hf := zn hf c4
      have hg := hg.2 c4
      refine lv_iload_n hx hb dM_scale_25 rfl (lv_at hl 2 rfl) ?_
      refine lv_if_lt (tgt := 35) hx hb dM_scale_26 (by decide) (fun c5 => ?_) (fun c5 => ?_)
      · have hf := zt hf c5
        have hg := hg.1 c5
        refine lv_bipush (v := (-4)) hx hb dM_scale_35 (by decide) ?_
        exact W.iret (v := (-4)) hx hb hr (fun t ht hW => zri hf hP ht (hS.F ht)) hS.2.2 dM_scale_37
      · have hf := zn hf c5
        have hg := hg.2 c5
        refine lv_iload_n hx hb dM_scale_29 rfl (lv_at hl 2 rfl) ?_
        refine lv_bipush (v := 9) hx hb dM_scale_30 (by decide) ?_
        refine lv_icmp_le (tgt := 38) hx hb dM_scale_32 (by decide) (fun c6 => ?_) (fun c6 => ?_)
        · have hf := zt hf c6
          have hg := hg.1 c6
          refine lv_aload_n hx hb dM_scale_38 rfl (lv_at hl 0 rfl) ?_
          refine va_get (D := D) (ci := 7) (v := .ref (b 4)) (C := RM) (T := TM) (N := 30) hx hb hts (fun w h9 => zc (inM w h9)) hown hK hP 0 rfl rfl 5 (by decide) (hts _ (zc m_602)) (fun _ h9 => h9) rfl dM_scale_39 ?_
          refine lv_iload_n hx hb dM_scale_42 rfl (lv_at hl 1 rfl) ?_
          obtain ⟨h7, hg⟩ := hg
          refine va_iald hx hb hK hP 4 0 rfl rfl h7 dM_scale_43 ?_
          refine lv_istore_n (lv' := [(3, .int ((Mg_scales u1) p0.toNatClampNeg)), (0, .ref (b 0)), (1, .int p0), (2, .int p1)]) hx hb dM_scale_44 rfl hl (by decide) rfl (fun ls hl => ?_)
          refine lv_aload_n hx hb dM_scale_45 rfl (lv_at hl 1 rfl) ?_
          refine va_get (D := D) (ci := 7) (v := .ref (b 4)) (C := RM) (T := TM) (N := 30) hx hb hts (fun w h9 => zc (inM w h9)) hown hK hP 0 rfl rfl 5 (by decide) (hts _ (zc m_602)) (fun _ h9 => h9) rfl dM_scale_46 ?_
          refine lv_iload_n hx hb dM_scale_49 rfl (lv_at hl 2 rfl) ?_
          refine lv_iload_n hx hb dM_scale_50 rfl (lv_at hl 3 rfl) ?_
          obtain ⟨h8, hg⟩ := hg
          refine va_iast hx hb hK hP (MD hI _) hS 4 0 rfl rfl h8 dM_scale_51 (fun H locs hP _ hS => ?_)
          obtain ⟨u9, hP, hf, hg⟩ := zlets (E := (Ms_scales u1 (upd (Mg_scales u1) (p0.toNatClampNeg) p1))) (w := wM k b) (Mp_scales hP) hf hg
          refine lv_iload_n hx hb dM_scale_52 rfl (lv_at hl 0 rfl) ?_
          exact W.iret (v := ((Mg_scales u1) p0.toNatClampNeg)) hx hb hr (fun t ht hW => zri hf hP ht (hS.F ht)) hS.2.2 dM_scale_53
        · have hf := zn hf c6
          have hg := hg.2 c6
          refine lv_bipush (v := (-4)) hx hb dM_scale_35 (by decide) ?_
          exact W.iret (v := (-4)) hx hb hr (fun t ht hW => zri hf hP ht (hS.F ht)) hS.2.2 dM_scale_37
    · have hf := zt hf c4
      have hg := hg.1 c4
      refine lv_bipush (v := (-2)) hx hb dM_scale_22 (by decide) ?_
      exact W.iret (v := (-2)) hx hb hr (fun t ht hW => zri hf hP ht (hS.F ht)) hS.2.2 dM_scale_24
theorem dM_isByte_0 : decode cM_isByte 0 = .ok (.iload_n 0, 1) := by decide +kernel
theorem dM_isByte_1 : decode cM_isByte 1 = .ok (.ifCond .lt 14, 3) := by decide +kernel
theorem dM_isByte_4 : decode cM_isByte 4 = .ok (.iload_n 0, 1) := by decide +kernel
theorem dM_isByte_5 : decode cM_isByte 5 = .ok (.sipush 256, 3) := by decide +kernel
theorem dM_isByte_8 : decode cM_isByte 8 = .ok (.if_icmp .ge 7, 3) := by decide +kernel
theorem dM_isByte_11 : decode cM_isByte 11 = .ok (.iconst 1, 1) := by decide +kernel
theorem dM_isByte_12 : decode cM_isByte 12 = .ok (.goto 4, 3) := by decide +kernel
theorem dM_isByte_15 : decode cM_isByte 15 = .ok (.iconst 0, 1) := by decide +kernel
theorem dM_isByte_16 : decode cM_isByte 16 = .ok (.ireturn, 1) := by decide +kernel
abbrev wsM_isByte : List Cond := Cond.code yM_isByte cM_isByte 1 (some .boolean) :: zWords
def FM_isByte (u : MS) (p0 : Int32) : Int32 := (if p0 < 0 then 0 else (if (256 : Int32) ≤ p0 then 0 else 1))
set_option maxHeartbeats 4000000 in
set_option maxRecDepth 100000 in
theorem tM_isByte (l : Launch) {D : va_G} {k : zK} {b : Nat → Nat} (hI : zI 22 b) (u : MS) (p0 : Int32) : Met l yM_isByte wsM_isByte ({ frames := 0, cells := 0, slots := 0, locals := 0 }) (zPc D k (zA 22 b) (wM k b u) [.int p0]) (vp_Si (fun r9 => r9 = (FM_isByte u p0))) 0 0 (fun _ => False) := by
  refine Met.ofW (cc := cM_isByte) (maxL := 1) (ret := (some .boolean)) (by decide) rfl ?_
  intro p e s m args below meth c s₁ B hml hv
  obtain ⟨rfl, hP, hE⟩ := hv
  have hts := atoms_spec (ws := wsM_isByte) B.pre
  have C0 : zC p s m _ meth c cM_isByte (some .boolean) 1 RM wsM_isByte D k (zA 22 b) := ⟨B.exec, B.bytes, B.returns, hml, findClass_of_methodNamed B.named, hts, B.notSynchronized, hE⟩
  obtain ⟨hx, hb, hr, hml, hown, _, hlocks, _⟩ := id C0
  have hK := hE.1
  have hS : va_S (zA 22 b) s.heap s.heap [] := va_S.rf
  generalize hf : FM_isByte u p0 = tgt
  change ((if p0 < 0 then 0 else (if (256 : Int32) ≤ p0 then 0 else 1)) : Int32) = tgt at hf
  have hl := lv_entry ([.int p0]) (n := 1) (Nat.le_of_ble_eq_true rfl)
  rw [lg_entry_eq]
  generalize (lg_sl ([.int p0]) ++ List.replicate (1 - (lg_sl ([.int p0])).length) Slot.unset).toArray = ls at hl ⊢
  have hl : lv_has ls 1 [(0, .int p0)] := hl
  refine lv_iload_n hx hb dM_isByte_0 rfl (lv_at hl 0 rfl) ?_
  refine lv_if_lt (tgt := 15) hx hb dM_isByte_1 (by decide) (fun c1 => ?_) (fun c1 => ?_)
  · have hf := zt hf c1
    refine lv_iconst (v := 0) hx hb dM_isByte_15 (by decide) ?_
    exact W.zret (v := 0) (ty := .boolean) hx hb hr rfl (fun t ht hW => ⟨_, rfl, hf, ht⟩) (fun _ h9 => nomatch h9) dM_isByte_16
  · have hf := zn hf c1
    refine lv_iload_n hx hb dM_isByte_4 rfl (lv_at hl 0 rfl) ?_
    refine lv_sipush (v := 256) hx hb dM_isByte_5 (by decide) ?_
    refine lv_icmp_ge (tgt := 15) hx hb dM_isByte_8 (by decide) (fun c2 => ?_) (fun c2 => ?_)
    · have hf := zt hf c2
      refine lv_iconst (v := 0) hx hb dM_isByte_15 (by decide) ?_
      exact W.zret (v := 0) (ty := .boolean) hx hb hr rfl (fun t ht hW => ⟨_, rfl, hf, ht⟩) (fun _ h9 => nomatch h9) dM_isByte_16
    · have hf := zn hf c2
      refine lv_iconst (v := 1) hx hb dM_isByte_11 (by decide) ?_
      refine lv_goto (tgt := 16) hx hb dM_isByte_12 (by decide) ?_
      exact W.zret (v := 1) (ty := .boolean) hx hb hr rfl (fun t ht hW => ⟨_, rfl, hf, ht⟩) (fun _ h9 => nomatch h9) dM_isByte_16
theorem dM_weight_0 : decode cM_weight 0 = .ok (.aload_n 0, 1) := by decide +kernel
theorem dM_weight_1 : decode cM_weight 1 = .ok (.iconst 0, 1) := by decide +kernel
theorem dM_weight_2 : decode cM_weight 2 = .ok (.putfield 79, 3) := by decide +kernel
theorem dM_weight_5 : decode cM_weight 5 = .ok (.iload_n 1, 1) := by decide +kernel
theorem dM_weight_6 : decode cM_weight 6 = .ok (.invokestatic 96, 3) := by decide +kernel
theorem dM_weight_9 : decode cM_weight 9 = .ok (.ifCond .eq 10, 3) := by decide +kernel
theorem dM_weight_12 : decode cM_weight 12 = .ok (.iload_n 2, 1) := by decide +kernel
theorem dM_weight_13 : decode cM_weight 13 = .ok (.invokestatic 96, 3) := by decide +kernel
theorem dM_weight_16 : decode cM_weight 16 = .ok (.ifCond .ne 6, 3) := by decide +kernel
theorem dM_weight_19 : decode cM_weight 19 = .ok (.bipush (-4), 2) := by decide +kernel
theorem dM_weight_21 : decode cM_weight 21 = .ok (.ireturn, 1) := by decide +kernel
theorem dM_weight_22 : decode cM_weight 22 = .ok (.aload_n 0, 1) := by decide +kernel
theorem dM_weight_23 : decode cM_weight 23 = .ok (.getfield 22, 3) := by decide +kernel
theorem dM_weight_26 : decode cM_weight 26 = .ok (.iload_n 1, 1) := by decide +kernel
theorem dM_weight_27 : decode cM_weight 27 = .ok (.iaload, 1) := by decide +kernel
theorem dM_weight_28 : decode cM_weight 28 = .ok (.istore_n 3, 1) := by decide +kernel
theorem dM_weight_29 : decode cM_weight 29 = .ok (.aload_n 0, 1) := by decide +kernel
theorem dM_weight_30 : decode cM_weight 30 = .ok (.getfield 22, 3) := by decide +kernel
theorem dM_weight_33 : decode cM_weight 33 = .ok (.iload_n 1, 1) := by decide +kernel
theorem dM_weight_34 : decode cM_weight 34 = .ok (.iload_n 2, 1) := by decide +kernel
theorem dM_weight_35 : decode cM_weight 35 = .ok (.iastore, 1) := by decide +kernel
theorem dM_weight_36 : decode cM_weight 36 = .ok (.iload_n 3, 1) := by decide +kernel
theorem dM_weight_37 : decode cM_weight 37 = .ok (.ireturn, 1) := by decide +kernel
abbrev wsM_weight : List Cond := Cond.code yM_weight cM_weight 4 (some .int) :: zWords
def FM_weight (u : MS) (p0 : Int32) (p1 : Int32) : Int32 × MS := (zlet (Ms_thrown u 0) (fun u1 => (if (FM_isByte u1 p0) = 0 then ((-4), u1) else (if (FM_isByte u1 p1) = 0 then ((-4), u1) else (zlet (Ms_weights u1 (upd (Mg_weights u1) (p0.toNatClampNeg) p1)) (fun u6 => (((Mg_weights u1) p0.toNatClampNeg), u6)))))))
def GM_weight (u : MS) (p0 : Int32) (p1 : Int32) : Prop := (zlet (Ms_thrown u 0) (fun u1 => (((FM_isByte u1 p0) = 0 → True) ∧ (¬ (FM_isByte u1 p0) = 0 → (((FM_isByte u1 p1) = 0 → True) ∧ (¬ (FM_isByte u1 p1) = 0 → (vp_in p0 256 ∧ (vp_in p0 256 ∧ (zlet (Ms_weights u1 (upd (Mg_weights u1) (p0.toNatClampNeg) p1)) (fun u6 => True))))))))))
set_option maxHeartbeats 4000000 in
set_option maxRecDepth 100000 in
theorem tM_weight (l : Launch) {D : va_G} {k : zK} {b : Nat → Nat} (hI : zI 22 b) (u : MS) (p0 : Int32) (p1 : Int32) (hg : GM_weight u p0 p1) : Met l yM_weight wsM_weight ({ frames := 1, cells := 0, slots := 0, locals := 20 }) (zPc D k (zA 22 b) (wM k b u) [.ref (b 0), .int p0, .int p1]) (zQi D (wM k b) (zA 22 b) (FM_weight u p0 p1)) 0 0 (zA 22 b) := by
  refine Met.ofW (cc := cM_weight) (maxL := 4) (ret := (some .int)) (by decide) rfl ?_
  intro p e s m args below meth c s₁ B hml hv
  obtain ⟨rfl, hP, hE⟩ := hv
  have hts := atoms_spec (ws := wsM_weight) B.pre
  have C0 : zC p s m _ meth c cM_weight (some .int) 4 RM wsM_weight D k (zA 22 b) := ⟨B.exec, B.bytes, B.returns, hml, findClass_of_methodNamed B.named, hts, B.notSynchronized, hE⟩
  obtain ⟨hx, hb, hr, hml, hown, _, hlocks, _⟩ := id C0
  have hK := hE.1
  have hS : va_S (zA 22 b) s.heap s.heap [] := va_S.rf
  generalize hf : FM_weight u p0 p1 = tgt
  change ((zlet (Ms_thrown u 0) (fun u1 => (if (FM_isByte u1 p0) = 0 then ((-4), u1) else (if (FM_isByte u1 p1) = 0 then ((-4), u1) else (zlet (Ms_weights u1 (upd (Mg_weights u1) (p0.toNatClampNeg) p1)) (fun u6 => (((Mg_weights u1) p0.toNatClampNeg), u6))))))) : Int32 × MS) = tgt at hf
  change (zlet (Ms_thrown u 0) (fun u1 => (((FM_isByte u1 p0) = 0 → True) ∧ (¬ (FM_isByte u1 p0) = 0 → (((FM_isByte u1 p1) = 0 → True) ∧ (¬ (FM_isByte u1 p1) = 0 → (vp_in p0 256 ∧ (vp_in p0 256 ∧ (zlet (Ms_weights u1 (upd (Mg_weights u1) (p0.toNatClampNeg) p1)) (fun u6 => True)))))))))) at hg
  have hl := lv_entry ([.ref (b 0), .int p0, .int p1]) (n := 4) (Nat.le_of_ble_eq_true rfl)
  rw [lg_entry_eq]
  generalize (lg_sl ([.ref (b 0), .int p0, .int p1]) ++ List.replicate (4 - (lg_sl ([.ref (b 0), .int p0, .int p1])).length) Slot.unset).toArray = ls at hl ⊢
  have hl : lv_has ls 4 [(0, .ref (b 0)), (1, .int p0), (2, .int p1)] := hl
  refine lv_aload_n hx hb dM_weight_0 rfl (lv_at hl 0 rfl) ?_
  refine lv_iconst (v := 0) hx hb dM_weight_1 (by decide) ?_
  refine va_put (D := D) (ci := 7) (v := .int 0) (ty := .int) (C := RM) (T := TM) (N := 30) hx hb hts (fun w h9 => zc (inM w h9)) tyM tyM_ok nmM hown hK hP (MD hI _) hS 0 rfl rfl 1 (by decide) (hts _ (zc m_598)) (fun _ h9 => h9) rfl (by decide +kernel) rfl rfl (Nat.le_of_ble_eq_true rfl) dM_weight_2 (fun H locs hP _ hS => ?_)
  obtain ⟨u1, hP, hf, hg⟩ := zlets (E := (Ms_thrown u 0)) (w := wM k b) (Mp_thrown hP) hf hg
  refine lv_iload_n hx hb dM_weight_5 rfl (lv_at hl 1 rfl) ?_
  refine vp_callSi (W.runS (As := [.int p0]) (rest := []) ⟨hx, hb, hml, hown, hts⟩ (tM_isByte l hI u1 p0) (va_cwS 1 hts (zgS m_708 m_709 m_8 m_710) rfl rfl rfl (by decide +kernel) ⟨Nat.le_of_ble_eq_true rfl, Nat.le_of_ble_eq_true rfl⟩) (zpreS hP hE hS.2.1) rfl rfl hl.1 rfl (lv_room (Nat.le_of_ble_eq_true rfl)) dM_weight_6 ⟨Nat.zero_le _, Nat.zero_le _⟩) (fun r9 hr9 => ?_)
  subst hr9
  refine lv_if_eq (tgt := 19) hx hb dM_weight_9 (by decide) (fun c2 => ?_) (fun c2 => ?_)
  · have hf := zt hf c2
    have hg := hg.1 c2
    refine lv_bipush (v := (-4)) hx hb dM_weight_19 (by decide) ?_
    exact W.iret (v := (-4)) hx hb hr (fun t ht hW => zri hf hP ht (hS.F ht)) hS.2.2 dM_weight_21
  · have hf := zn hf c2
    have hg := hg.2 c2
    refine lv_iload_n hx hb dM_weight_12 rfl (lv_at hl 2 rfl) ?_
    refine vp_callSi (W.runS (As := [.int p1]) (rest := []) ⟨hx, hb, hml, hown, hts⟩ (tM_isByte l hI u1 p1) (va_cwS 1 hts (zgS m_708 m_709 m_8 m_710) rfl rfl rfl (by decide +kernel) ⟨Nat.le_of_ble_eq_true rfl, Nat.le_of_ble_eq_true rfl⟩) (zpreS hP hE hS.2.1) rfl rfl hl.1 rfl (lv_room (Nat.le_of_ble_eq_true rfl)) dM_weight_13 ⟨Nat.zero_le _, Nat.zero_le _⟩) (fun r9 hr9 => ?_)
    subst hr9
    refine lv_if_ne (tgt := 22) hx hb dM_weight_16 (by decide) (fun c3 => ?_) (fun c3 => ?_)
    · have hf := zn hf c3
      have hg := hg.2 c3
      refine lv_aload_n hx hb dM_weight_22 rfl (lv_at hl 0 rfl) ?_
      refine va_get (D := D) (ci := 7) (v := .ref (b 5)) (C := RM) (T := TM) (N := 30) hx hb hts (fun w h9 => zc (inM w h9)) hown hK hP 0 rfl rfl 6 (by decide) (hts _ (zc m_603)) (fun _ h9 => h9) rfl dM_weight_23 ?_
      refine lv_iload_n hx hb dM_weight_26 rfl (lv_at hl 1 rfl) ?_
      obtain ⟨h4, hg⟩ := hg
      refine va_iald hx hb hK hP 5 0 rfl rfl h4 dM_weight_27 ?_
      refine lv_istore_n (lv' := [(3, .int ((Mg_weights u1) p0.toNatClampNeg)), (0, .ref (b 0)), (1, .int p0), (2, .int p1)]) hx hb dM_weight_28 rfl hl (by decide) rfl (fun ls hl => ?_)
      refine lv_aload_n hx hb dM_weight_29 rfl (lv_at hl 1 rfl) ?_
      refine va_get (D := D) (ci := 7) (v := .ref (b 5)) (C := RM) (T := TM) (N := 30) hx hb hts (fun w h9 => zc (inM w h9)) hown hK hP 0 rfl rfl 6 (by decide) (hts _ (zc m_603)) (fun _ h9 => h9) rfl dM_weight_30 ?_
      refine lv_iload_n hx hb dM_weight_33 rfl (lv_at hl 2 rfl) ?_
      refine lv_iload_n hx hb dM_weight_34 rfl (lv_at hl 3 rfl) ?_
      obtain ⟨h5, hg⟩ := hg
      refine va_iast hx hb hK hP (MD hI _) hS 5 0 rfl rfl h5 dM_weight_35 (fun H locs hP _ hS => ?_)
      obtain ⟨u6, hP, hf, hg⟩ := zlets (E := (Ms_weights u1 (upd (Mg_weights u1) (p0.toNatClampNeg) p1))) (w := wM k b) (Mp_weights hP) hf hg
      refine lv_iload_n hx hb dM_weight_36 rfl (lv_at hl 0 rfl) ?_
      exact W.iret (v := ((Mg_weights u1) p0.toNatClampNeg)) hx hb hr (fun t ht hW => zri hf hP ht (hS.F ht)) hS.2.2 dM_weight_37
    · have hf := zt hf c3
      have hg := hg.1 c3
      refine lv_bipush (v := (-4)) hx hb dM_weight_19 (by decide) ?_
      exact W.iret (v := (-4)) hx hb hr (fun t ht hW => zri hf hP ht (hS.F ht)) hS.2.2 dM_weight_21
theorem dM_read_0 : decode cM_read 0 = .ok (.iload_n 2, 1) := by decide +kernel
theorem dM_read_1 : decode cM_read 1 = .ok (.aload_n 0, 1) := by decide +kernel
theorem dM_read_2 : decode cM_read 2 = .ok (.getfield 16, 3) := by decide +kernel
theorem dM_read_5 : decode cM_read 5 = .ok (.iload_n 1, 1) := by decide +kernel
theorem dM_read_6 : decode cM_read 6 = .ok (.iaload, 1) := by decide +kernel
theorem dM_read_7 : decode cM_read 7 = .ok (.if_icmp .ge 17, 3) := by decide +kernel
theorem dM_read_10 : decode cM_read 10 = .ok (.aload_n 0, 1) := by decide +kernel
theorem dM_read_11 : decode cM_read 11 = .ok (.getfield 7, 3) := by decide +kernel
theorem dM_read_14 : decode cM_read 14 = .ok (.bipush 32, 2) := by decide +kernel
theorem dM_read_16 : decode cM_read 16 = .ok (.iload_n 1, 1) := by decide +kernel
theorem dM_read_17 : decode cM_read 17 = .ok (.imul, 1) := by decide +kernel
theorem dM_read_18 : decode cM_read 18 = .ok (.iload_n 2, 1) := by decide +kernel
theorem dM_read_19 : decode cM_read 19 = .ok (.iadd, 1) := by decide +kernel
theorem dM_read_20 : decode cM_read 20 = .ok (.iaload, 1) := by decide +kernel
theorem dM_read_21 : decode cM_read 21 = .ok (.goto 5, 3) := by decide +kernel
theorem dM_read_24 : decode cM_read 24 = .ok (.bipush 32, 2) := by decide +kernel
theorem dM_read_26 : decode cM_read 26 = .ok (.ireturn, 1) := by decide +kernel
abbrev wsM_read : List Cond := Cond.code yM_read cM_read 3 (some .int) :: zWords
def FM_read (u : MS) (p0 : Int32) (p1 : Int32) : Int32 := (if ((Mg_sizes u) p0.toNatClampNeg) ≤ p1 then 32 else ((Mg_bytes u) ((32 * p0) + p1).toNatClampNeg))
def GM_read (u : MS) (p0 : Int32) (p1 : Int32) : Prop := (vp_in p0 40 ∧ ((((Mg_sizes u) p0.toNatClampNeg) ≤ p1 → True) ∧ (¬ ((Mg_sizes u) p0.toNatClampNeg) ≤ p1 → (vp_in ((32 * p0) + p1) 1280 ∧ True))))
set_option maxHeartbeats 4000000 in
set_option maxRecDepth 100000 in
theorem tM_read (l : Launch) {D : va_G} {k : zK} {b : Nat → Nat} (hI : zI 22 b) (u : MS) (p0 : Int32) (p1 : Int32) (hg : GM_read u p0 p1) : Met l yM_read wsM_read ({ frames := 0, cells := 0, slots := 0, locals := 0 }) (zPc D k (zA 22 b) (wM k b u) [.ref (b 0), .int p0, .int p1]) (vp_Si (fun r9 => r9 = (FM_read u p0 p1))) 0 0 (fun _ => False) := by
  refine Met.ofW (cc := cM_read) (maxL := 3) (ret := (some .int)) (by decide) rfl ?_
  intro p e s m args below meth c s₁ B hml hv
  obtain ⟨rfl, hP, hE⟩ := hv
  have hts := atoms_spec (ws := wsM_read) B.pre
  have C0 : zC p s m _ meth c cM_read (some .int) 3 RM wsM_read D k (zA 22 b) := ⟨B.exec, B.bytes, B.returns, hml, findClass_of_methodNamed B.named, hts, B.notSynchronized, hE⟩
  obtain ⟨hx, hb, hr, hml, hown, _, hlocks, _⟩ := id C0
  have hK := hE.1
  have hS : va_S (zA 22 b) s.heap s.heap [] := va_S.rf
  generalize hf : FM_read u p0 p1 = tgt
  change ((if ((Mg_sizes u) p0.toNatClampNeg) ≤ p1 then 32 else ((Mg_bytes u) ((32 * p0) + p1).toNatClampNeg)) : Int32) = tgt at hf
  change (vp_in p0 40 ∧ ((((Mg_sizes u) p0.toNatClampNeg) ≤ p1 → True) ∧ (¬ ((Mg_sizes u) p0.toNatClampNeg) ≤ p1 → (vp_in ((32 * p0) + p1) 1280 ∧ True)))) at hg
  have hl := lv_entry ([.ref (b 0), .int p0, .int p1]) (n := 3) (Nat.le_of_ble_eq_true rfl)
  rw [lg_entry_eq]
  generalize (lg_sl ([.ref (b 0), .int p0, .int p1]) ++ List.replicate (3 - (lg_sl ([.ref (b 0), .int p0, .int p1])).length) Slot.unset).toArray = ls at hl ⊢
  have hl : lv_has ls 3 [(0, .ref (b 0)), (1, .int p0), (2, .int p1)] := hl
  refine lv_iload_n hx hb dM_read_0 rfl (lv_at hl 2 rfl) ?_
  refine lv_aload_n hx hb dM_read_1 rfl (lv_at hl 0 rfl) ?_
  refine va_get (D := D) (ci := 7) (v := .ref (b 3)) (C := RM) (T := TM) (N := 30) hx hb hts (fun w h9 => zc (inM w h9)) hown hK hP 0 rfl rfl 4 (by decide) (hts _ (zc m_601)) (fun _ h9 => h9) rfl dM_read_2 ?_
  refine lv_iload_n hx hb dM_read_5 rfl (lv_at hl 1 rfl) ?_
  obtain ⟨h1, hg⟩ := hg
  refine va_iald hx hb hK hP 3 0 rfl rfl h1 dM_read_6 ?_
  refine lv_icmp_ge (tgt := 24) hx hb dM_read_7 (by decide) (fun c2 => ?_) (fun c2 => ?_)
  · have hf := zt hf c2
    have hg := hg.1 c2
    refine lv_bipush (v := 32) hx hb dM_read_24 (by decide) ?_
    exact W.iret (v := 32) hx hb hr (fun t ht hW => ⟨_, rfl, hf, ht⟩) (fun _ h9 => nomatch h9) dM_read_26
  · have hf := zn hf c2
    have hg := hg.2 c2
    refine lv_aload_n hx hb dM_read_10 rfl (lv_at hl 0 rfl) ?_
    refine va_get (D := D) (ci := 7) (v := .ref (b 1)) (C := RM) (T := TM) (N := 30) hx hb hts (fun w h9 => zc (inM w h9)) hown hK hP 0 rfl rfl 2 (by decide) (hts _ (zc m_599)) (fun _ h9 => h9) rfl dM_read_11 ?_
    refine lv_bipush (v := 32) hx hb dM_read_14 (by decide) ?_
    refine lv_iload_n hx hb dM_read_16 rfl (lv_at hl 1 rfl) ?_
    refine lv_imul hx hb dM_read_17 ?_
    refine lv_iload_n hx hb dM_read_18 rfl (lv_at hl 2 rfl) ?_
    refine lv_iadd hx hb dM_read_19 ?_
    obtain ⟨h3, hg⟩ := hg
    refine va_iald hx hb hK hP 1 0 rfl rfl h3 dM_read_20 ?_
    refine lv_goto (tgt := 26) hx hb dM_read_21 (by decide) ?_
    exact W.iret (v := ((Mg_bytes u) ((32 * p0) + p1).toNatClampNeg)) hx hb hr (fun t ht hW => ⟨_, rfl, hf, ht⟩) (fun _ h9 => nomatch h9) dM_read_26
end
section
theorem dM_isBad_0 : decode cM_isBad 0 = .ok (.iconst 0, 1) := by decide +kernel
theorem dM_isBad_1 : decode cM_isBad 1 = .ok (.istore_n 2, 1) := by decide +kernel
theorem dM_isBad_2 : decode cM_isBad 2 = .ok (.iconst 0, 1) := by decide +kernel
theorem dM_isBad_3 : decode cM_isBad 3 = .ok (.istore_n 3, 1) := by decide +kernel
theorem dM_isBad_4 : decode cM_isBad 4 = .ok (.iload_n 3, 1) := by decide +kernel
theorem dM_isBad_5 : decode cM_isBad 5 = .ok (.aload_n 0, 1) := by decide +kernel
theorem dM_isBad_6 : decode cM_isBad 6 = .ok (.getfield 16, 3) := by decide +kernel
theorem dM_isBad_9 : decode cM_isBad 9 = .ok (.iload_n 1, 1) := by decide +kernel
theorem dM_isBad_10 : decode cM_isBad 10 = .ok (.iaload, 1) := by decide +kernel
theorem dM_isBad_11 : decode cM_isBad 11 = .ok (.if_icmp .ge 77, 3) := by decide +kernel
theorem dM_isBad_14 : decode cM_isBad 14 = .ok (.aload_n 0, 1) := by decide +kernel
theorem dM_isBad_15 : decode cM_isBad 15 = .ok (.getfield 13, 3) := by decide +kernel
theorem dM_isBad_18 : decode cM_isBad 18 = .ok (.iload_n 1, 1) := by decide +kernel
theorem dM_isBad_19 : decode cM_isBad 19 = .ok (.iaload, 1) := by decide +kernel
theorem dM_isBad_20 : decode cM_isBad 20 = .ok (.iconst 1, 1) := by decide +kernel
theorem dM_isBad_21 : decode cM_isBad 21 = .ok (.if_icmp .ne 67, 3) := by decide +kernel
theorem dM_isBad_24 : decode cM_isBad 24 = .ok (.aload_n 0, 1) := by decide +kernel
theorem dM_isBad_25 : decode cM_isBad 25 = .ok (.iload_n 1, 1) := by decide +kernel
theorem dM_isBad_26 : decode cM_isBad 26 = .ok (.iload_n 3, 1) := by decide +kernel
theorem dM_isBad_27 : decode cM_isBad 27 = .ok (.invokevirtual 99, 3) := by decide +kernel
theorem dM_isBad_30 : decode cM_isBad 30 = .ok (.istore 4, 2) := by decide +kernel
theorem dM_isBad_32 : decode cM_isBad 32 = .ok (.iload_n 2, 1) := by decide +kernel
theorem dM_isBad_33 : decode cM_isBad 33 = .ok (.ifCond .ne 43, 3) := by decide +kernel
theorem dM_isBad_36 : decode cM_isBad 36 = .ok (.iload 4, 2) := by decide +kernel
theorem dM_isBad_38 : decode cM_isBad 38 = .ok (.bipush 48, 2) := by decide +kernel
theorem dM_isBad_40 : decode cM_isBad 40 = .ok (.if_icmp .lt 10, 3) := by decide +kernel
theorem dM_isBad_43 : decode cM_isBad 43 = .ok (.iload 4, 2) := by decide +kernel
theorem dM_isBad_45 : decode cM_isBad 45 = .ok (.bipush 57, 2) := by decide +kernel
theorem dM_isBad_47 : decode cM_isBad 47 = .ok (.if_icmp .le 33, 3) := by decide +kernel
theorem dM_isBad_50 : decode cM_isBad 50 = .ok (.iload_n 3, 1) := by decide +kernel
theorem dM_isBad_51 : decode cM_isBad 51 = .ok (.aload_n 0, 1) := by decide +kernel
theorem dM_isBad_52 : decode cM_isBad 52 = .ok (.getfield 16, 3) := by decide +kernel
theorem dM_isBad_55 : decode cM_isBad 55 = .ok (.iload_n 1, 1) := by decide +kernel
theorem dM_isBad_56 : decode cM_isBad 56 = .ok (.iaload, 1) := by decide +kernel
theorem dM_isBad_57 : decode cM_isBad 57 = .ok (.iconst 1, 1) := by decide +kernel
theorem dM_isBad_58 : decode cM_isBad 58 = .ok (.isub, 1) := by decide +kernel
theorem dM_isBad_59 : decode cM_isBad 59 = .ok (.if_icmp .ne 17, 3) := by decide +kernel
theorem dM_isBad_62 : decode cM_isBad 62 = .ok (.iload 4, 2) := by decide +kernel
theorem dM_isBad_64 : decode cM_isBad 64 = .ok (.bipush 112, 2) := by decide +kernel
theorem dM_isBad_66 : decode cM_isBad 66 = .ok (.if_icmp .lt 10, 3) := by decide +kernel
theorem dM_isBad_69 : decode cM_isBad 69 = .ok (.iload 4, 2) := by decide +kernel
theorem dM_isBad_71 : decode cM_isBad 71 = .ok (.bipush 121, 2) := by decide +kernel
theorem dM_isBad_73 : decode cM_isBad 73 = .ok (.if_icmp .le 7, 3) := by decide +kernel
theorem dM_isBad_76 : decode cM_isBad 76 = .ok (.iconst 1, 1) := by decide +kernel
theorem dM_isBad_77 : decode cM_isBad 77 = .ok (.goto 4, 3) := by decide +kernel
theorem dM_isBad_80 : decode cM_isBad 80 = .ok (.iconst 0, 1) := by decide +kernel
theorem dM_isBad_81 : decode cM_isBad 81 = .ok (.istore_n 2, 1) := by decide +kernel
theorem dM_isBad_82 : decode cM_isBad 82 = .ok (.iinc 3 1, 3) := by decide +kernel
theorem dM_isBad_85 : decode cM_isBad 85 = .ok (.goto (-81), 3) := by decide +kernel
theorem dM_isBad_88 : decode cM_isBad 88 = .ok (.iload_n 2, 1) := by decide +kernel
theorem dM_isBad_89 : decode cM_isBad 89 = .ok (.ireturn, 1) := by decide +kernel
abbrev wsM_isBad : List Cond := Cond.code yM_isBad cM_isBad 5 (some .boolean) :: zWords
def LM_isBad_4 : Nat → MS → Int32 → Int32 → Int32 → Int32
  | 0, _, _, _, _ => 0
  | n + 1, u, x3, x2, x1 => (if ((Mg_sizes u) x1.toNatClampNeg) ≤ x3 then x2 else (if ((Mg_categories u) x1.toNatClampNeg) = 1 then (if x2 = 0 then (if (FM_read u x1 x3) < 48 then (if x3 = (((Mg_sizes u) x1.toNatClampNeg) - 1) then (if (FM_read u x1 x3) < 112 then (LM_isBad_4 n u (x3 + 1) 1 x1) else (if (FM_read u x1 x3) ≤ 121 then (LM_isBad_4 n u (x3 + 1) 0 x1) else (LM_isBad_4 n u (x3 + 1) 1 x1))) else (LM_isBad_4 n u (x3 + 1) 1 x1)) else (if (FM_read u x1 x3) ≤ 57 then (LM_isBad_4 n u (x3 + 1) 0 x1) else (if x3 = (((Mg_sizes u) x1.toNatClampNeg) - 1) then (if (FM_read u x1 x3) < 112 then (LM_isBad_4 n u (x3 + 1) 1 x1) else (if (FM_read u x1 x3) ≤ 121 then (LM_isBad_4 n u (x3 + 1) 0 x1) else (LM_isBad_4 n u (x3 + 1) 1 x1))) else (LM_isBad_4 n u (x3 + 1) 1 x1)))) else (LM_isBad_4 n u (x3 + 1) 1 x1)) else x2))
def MM_isBad_4 : Nat → MS → Int32 → Int32 → Int32 → Prop
  | 0, _, _, _, _ => False
  | n + 1, u, x3, x2, x1 => (vp_in x1 40 ∧ ((((Mg_sizes u) x1.toNatClampNeg) ≤ x3 → ((x2 = 0 ∨ x2 = 1) ∧ True)) ∧ (¬ ((Mg_sizes u) x1.toNatClampNeg) ≤ x3 → (vp_in x1 40 ∧ ((((Mg_categories u) x1.toNatClampNeg) = 1 → (GM_read u x1 x3 ∧ ((x2 = 0 → (((FM_read u x1 x3) < 48 → (vp_in x1 40 ∧ ((x3 = (((Mg_sizes u) x1.toNatClampNeg) - 1) → (((FM_read u x1 x3) < 112 → (MM_isBad_4 n u (x3 + 1) 1 x1)) ∧ (¬ (FM_read u x1 x3) < 112 → (((FM_read u x1 x3) ≤ 121 → (MM_isBad_4 n u (x3 + 1) 0 x1)) ∧ (¬ (FM_read u x1 x3) ≤ 121 → (MM_isBad_4 n u (x3 + 1) 1 x1)))))) ∧ (¬ x3 = (((Mg_sizes u) x1.toNatClampNeg) - 1) → (MM_isBad_4 n u (x3 + 1) 1 x1))))) ∧ (¬ (FM_read u x1 x3) < 48 → (((FM_read u x1 x3) ≤ 57 → (MM_isBad_4 n u (x3 + 1) 0 x1)) ∧ (¬ (FM_read u x1 x3) ≤ 57 → (vp_in x1 40 ∧ ((x3 = (((Mg_sizes u) x1.toNatClampNeg) - 1) → (((FM_read u x1 x3) < 112 → (MM_isBad_4 n u (x3 + 1) 1 x1)) ∧ (¬ (FM_read u x1 x3) < 112 → (((FM_read u x1 x3) ≤ 121 → (MM_isBad_4 n u (x3 + 1) 0 x1)) ∧ (¬ (FM_read u x1 x3) ≤ 121 → (MM_isBad_4 n u (x3 + 1) 1 x1)))))) ∧ (¬ x3 = (((Mg_sizes u) x1.toNatClampNeg) - 1) → (MM_isBad_4 n u (x3 + 1) 1 x1))))))))) ∧ (¬ x2 = 0 → (MM_isBad_4 n u (x3 + 1) 1 x1))))) ∧ (¬ ((Mg_categories u) x1.toNatClampNeg) = 1 → ((x2 = 0 ∨ x2 = 1) ∧ True)))))))
def FM_isBad (u : MS) (p0 : Int32) : Int32 := (LM_isBad_4 1000 u 0 0 p0)
def GM_isBad (u : MS) (p0 : Int32) : Prop := (MM_isBad_4 1000 u 0 0 p0)
set_option maxHeartbeats 4000000 in
set_option maxRecDepth 100000 in
theorem kM_isBad_4 {p : Program} {l : Launch} {e : Env} {s : State} {m : MethodId} {args : Array Value} {below : List Frame} {meth : Method} {c : Code} {D : va_G} {k : zK} {b : Nat → Nat} (hI : zI 22 b) (C0 : zC p s m args meth c cM_isBad (some .boolean) 5 RM wsM_isBad D k (zA 22 b)) {tgt : Int32} : ∀ (n : Nat) (u : MS) (x3 : Int32) (x2 : Int32) (x1 : Int32), LM_isBad_4 n u x3 x2 x1 = tgt → MM_isBad_4 n u x3 x2 x1 → ∀ (H : Heap) (locs : List Loc), va_P D vwCl (wM k b u) H → va_S (zA 22 b) s.heap H locs → H = s.heap ∧ locs = [] → ∀ (ls : Array Slot), lv_has ls 5 [(3, .int x3), (2, .int x2), (0, .ref (b 0)), (1, .int x1)] → W p l e (headSpec wsM_isBad ({ frames := 1, cells := 0, slots := 0, locals := 22 })).room s m args below meth c H locs 0 0 (MQ below (vp_Si (fun r9 => r9 = tgt)) args s 0 0 (fun _ => False)) (F0 m 4 ls []) := by
  obtain ⟨hx, hb, hr, hml, hown, hts, hlocks, hE⟩ := id C0
  have hK := hE.1
  intro n
  induction n with
  | zero =>
    intro u x3 x2 x1 _ hg
    exact False.elim hg
  | succ n ih =>
    intro u x3 x2 x1 hf hg H locs hP hS hq ls hl
    obtain ⟨rfl, rfl⟩ := hq
    change ((if ((Mg_sizes u) x1.toNatClampNeg) ≤ x3 then x2 else (if ((Mg_categories u) x1.toNatClampNeg) = 1 then (if x2 = 0 then (if (FM_read u x1 x3) < 48 then (if x3 = (((Mg_sizes u) x1.toNatClampNeg) - 1) then (if (FM_read u x1 x3) < 112 then (LM_isBad_4 n u (x3 + 1) 1 x1) else (if (FM_read u x1 x3) ≤ 121 then (LM_isBad_4 n u (x3 + 1) 0 x1) else (LM_isBad_4 n u (x3 + 1) 1 x1))) else (LM_isBad_4 n u (x3 + 1) 1 x1)) else (if (FM_read u x1 x3) ≤ 57 then (LM_isBad_4 n u (x3 + 1) 0 x1) else (if x3 = (((Mg_sizes u) x1.toNatClampNeg) - 1) then (if (FM_read u x1 x3) < 112 then (LM_isBad_4 n u (x3 + 1) 1 x1) else (if (FM_read u x1 x3) ≤ 121 then (LM_isBad_4 n u (x3 + 1) 0 x1) else (LM_isBad_4 n u (x3 + 1) 1 x1))) else (LM_isBad_4 n u (x3 + 1) 1 x1)))) else (LM_isBad_4 n u (x3 + 1) 1 x1)) else x2)) : Int32) = tgt at hf
    change (vp_in x1 40 ∧ ((((Mg_sizes u) x1.toNatClampNeg) ≤ x3 → ((x2 = 0 ∨ x2 = 1) ∧ True)) ∧ (¬ ((Mg_sizes u) x1.toNatClampNeg) ≤ x3 → (vp_in x1 40 ∧ ((((Mg_categories u) x1.toNatClampNeg) = 1 → (GM_read u x1 x3 ∧ ((x2 = 0 → (((FM_read u x1 x3) < 48 → (vp_in x1 40 ∧ ((x3 = (((Mg_sizes u) x1.toNatClampNeg) - 1) → (((FM_read u x1 x3) < 112 → (MM_isBad_4 n u (x3 + 1) 1 x1)) ∧ (¬ (FM_read u x1 x3) < 112 → (((FM_read u x1 x3) ≤ 121 → (MM_isBad_4 n u (x3 + 1) 0 x1)) ∧ (¬ (FM_read u x1 x3) ≤ 121 → (MM_isBad_4 n u (x3 + 1) 1 x1)))))) ∧ (¬ x3 = (((Mg_sizes u) x1.toNatClampNeg) - 1) → (MM_isBad_4 n u (x3 + 1) 1 x1))))) ∧ (¬ (FM_read u x1 x3) < 48 → (((FM_read u x1 x3) ≤ 57 → (MM_isBad_4 n u (x3 + 1) 0 x1)) ∧ (¬ (FM_read u x1 x3) ≤ 57 → (vp_in x1 40 ∧ ((x3 = (((Mg_sizes u) x1.toNatClampNeg) - 1) → (((FM_read u x1 x3) < 112 → (MM_isBad_4 n u (x3 + 1) 1 x1)) ∧ (¬ (FM_read u x1 x3) < 112 → (((FM_read u x1 x3) ≤ 121 → (MM_isBad_4 n u (x3 + 1) 0 x1)) ∧ (¬ (FM_read u x1 x3) ≤ 121 → (MM_isBad_4 n u (x3 + 1) 1 x1)))))) ∧ (¬ x3 = (((Mg_sizes u) x1.toNatClampNeg) - 1) → (MM_isBad_4 n u (x3 + 1) 1 x1))))))))) ∧ (¬ x2 = 0 → (MM_isBad_4 n u (x3 + 1) 1 x1))))) ∧ (¬ ((Mg_categories u) x1.toNatClampNeg) = 1 → ((x2 = 0 ∨ x2 = 1) ∧ True))))))) at hg
    refine lv_iload_n hx hb dM_isBad_4 rfl (lv_at hl 0 rfl) ?_
    refine lv_aload_n hx hb dM_isBad_5 rfl (lv_at hl 2 rfl) ?_
    refine va_get (D := D) (ci := 7) (v := .ref (b 3)) (C := RM) (T := TM) (N := 30) hx hb hts (fun w h9 => zc (inM w h9)) hown hK hP 0 rfl rfl 4 (by decide) (hts _ (zc m_601)) (fun _ h9 => h9) rfl dM_isBad_6 ?_
    refine lv_iload_n hx hb dM_isBad_9 rfl (lv_at hl 3 rfl) ?_
    obtain ⟨h1, hg⟩ := hg
    refine va_iald hx hb hK hP 3 0 rfl rfl h1 dM_isBad_10 ?_
    refine lv_icmp_ge (tgt := 88) hx hb dM_isBad_11 (by decide) (fun c2 => ?_) (fun c2 => ?_)
    · have hf := zt hf c2
      have hg := hg.1 c2
      refine lv_iload_n hx hb dM_isBad_88 rfl (lv_at hl 1 rfl) ?_
      obtain ⟨h3, hg⟩ := hg
      exact W.zret (v := x2) (ty := .boolean) hx hb hr (zb h3) (fun t ht hW => ⟨_, rfl, hf, ht⟩) (fun _ h9 => nomatch h9) dM_isBad_89
    · have hf := zn hf c2
      have hg := hg.2 c2
      refine lv_aload_n hx hb dM_isBad_14 rfl (lv_at hl 2 rfl) ?_
      refine va_get (D := D) (ci := 7) (v := .ref (b 2)) (C := RM) (T := TM) (N := 30) hx hb hts (fun w h9 => zc (inM w h9)) hown hK hP 0 rfl rfl 3 (by decide) (hts _ (zc m_600)) (fun _ h9 => h9) rfl dM_isBad_15 ?_
      refine lv_iload_n hx hb dM_isBad_18 rfl (lv_at hl 3 rfl) ?_
      obtain ⟨h4, hg⟩ := hg
      refine va_iald hx hb hK hP 2 0 rfl rfl h4 dM_isBad_19 ?_
      refine lv_iconst (v := 1) hx hb dM_isBad_20 (by decide) ?_
      refine lv_icmp_ne (tgt := 88) hx hb dM_isBad_21 (by decide) (fun c5 => ?_) (fun c5 => ?_)
      · have hf := zn hf c5
        have hg := hg.2 c5
        refine lv_iload_n hx hb dM_isBad_88 rfl (lv_at hl 1 rfl) ?_
        obtain ⟨h6, hg⟩ := hg
        exact W.zret (v := x2) (ty := .boolean) hx hb hr (zb h6) (fun t ht hW => ⟨_, rfl, hf, ht⟩) (fun _ h9 => nomatch h9) dM_isBad_89
      · have hf := zt hf c5
        have hg := hg.1 c5
        refine lv_aload_n hx hb dM_isBad_24 rfl (lv_at hl 2 rfl) ?_
        refine lv_iload_n hx hb dM_isBad_25 rfl (lv_at hl 3 rfl) ?_
        refine lv_iload_n hx hb dM_isBad_26 rfl (lv_at hl 0 rfl) ?_
        obtain ⟨h7, hg⟩ := hg
        refine vp_callSi (W.runV (As := [.int x1, .int x3]) (rest := []) ⟨hx, hb, hml, hown, hts⟩ (tM_read l hI u x1 x3 h7) (cwV 2 hts (zgV m_778 m_780 mp_26 m_8 m_781) rfl rfl rfl (by decide +kernel) ⟨Nat.le_of_ble_eq_true rfl, Nat.le_of_ble_eq_true rfl⟩) (zpre hP hE hS.2.1 (va_recv hK hP (ci := 7) (q0 := 0) rfl rfl)) rfl rfl hl.1 rfl (lv_room (Nat.le_of_ble_eq_true rfl)) dM_isBad_27 ⟨Nat.zero_le _, Nat.zero_le _⟩) (fun r9 hr9 => ?_)
        subst hr9
        refine lv_istore (lv' := [(4, .int (FM_read u x1 x3)), (3, .int x3), (2, .int x2), (0, .ref (b 0)), (1, .int x1)]) hx hb dM_isBad_30 hl (by decide) rfl (fun ls hl => ?_)
        refine lv_iload_n hx hb dM_isBad_32 rfl (lv_at hl 2 rfl) ?_
        refine lv_if_ne (tgt := 76) hx hb dM_isBad_33 (by decide) (fun c8 => ?_) (fun c8 => ?_)
        · have hf := zn hf c8
          have hg := hg.2 c8
          refine lv_iconst (v := 1) hx hb dM_isBad_76 (by decide) ?_
          refine lv_goto (tgt := 81) hx hb dM_isBad_77 (by decide) ?_
          refine lv_istore_n (lv' := [(2, .int 1), (4, .int (FM_read u x1 x3)), (3, .int x3), (0, .ref (b 0)), (1, .int x1)]) hx hb dM_isBad_81 rfl hl (by decide) rfl (fun ls hl => ?_)
          refine lv_iinc (v := (x3 + 1)) (lv' := [(3, .int (x3 + 1)), (2, .int 1), (4, .int (FM_read u x1 x3)), (0, .ref (b 0)), (1, .int x1)]) hx hb dM_isBad_82 hl (k := 2) rfl rfl (by decide) rfl (fun ls hl => ?_)
          refine lv_goto (tgt := 4) hx hb dM_isBad_85 (by decide) ?_
          exact ih u (x3 + 1) 1 x1 hf hg _ _ hP hS ⟨rfl, rfl⟩ _ (lv_sub hl [0, 1, 3, 4] rfl)
        · have hf := zt hf c8
          have hg := hg.1 c8
          refine lv_iload hx hb dM_isBad_36 (lv_at hl 0 rfl) ?_
          refine lv_bipush (v := 48) hx hb dM_isBad_38 (by decide) ?_
          refine lv_icmp_lt (tgt := 50) hx hb dM_isBad_40 (by decide) (fun c9 => ?_) (fun c9 => ?_)
          · have hf := zt hf c9
            have hg := hg.1 c9
            refine lv_iload_n hx hb dM_isBad_50 rfl (lv_at hl 1 rfl) ?_
            refine lv_aload_n hx hb dM_isBad_51 rfl (lv_at hl 3 rfl) ?_
            refine va_get (D := D) (ci := 7) (v := .ref (b 3)) (C := RM) (T := TM) (N := 30) hx hb hts (fun w h9 => zc (inM w h9)) hown hK hP 0 rfl rfl 4 (by decide) (hts _ (zc m_601)) (fun _ h9 => h9) rfl dM_isBad_52 ?_
            refine lv_iload_n hx hb dM_isBad_55 rfl (lv_at hl 4 rfl) ?_
            obtain ⟨h10, hg⟩ := hg
            refine va_iald hx hb hK hP 3 0 rfl rfl h10 dM_isBad_56 ?_
            refine lv_iconst (v := 1) hx hb dM_isBad_57 (by decide) ?_
            refine lv_isub hx hb dM_isBad_58 ?_
            refine lv_icmp_ne (tgt := 76) hx hb dM_isBad_59 (by decide) (fun c11 => ?_) (fun c11 => ?_)
            · have hf := zn hf c11
              have hg := hg.2 c11
              refine lv_iconst (v := 1) hx hb dM_isBad_76 (by decide) ?_
              refine lv_goto (tgt := 81) hx hb dM_isBad_77 (by decide) ?_
              refine lv_istore_n (lv' := [(2, .int 1), (4, .int (FM_read u x1 x3)), (3, .int x3), (0, .ref (b 0)), (1, .int x1)]) hx hb dM_isBad_81 rfl hl (by decide) rfl (fun ls hl => ?_)
              refine lv_iinc (v := (x3 + 1)) (lv' := [(3, .int (x3 + 1)), (2, .int 1), (4, .int (FM_read u x1 x3)), (0, .ref (b 0)), (1, .int x1)]) hx hb dM_isBad_82 hl (k := 2) rfl rfl (by decide) rfl (fun ls hl => ?_)
              refine lv_goto (tgt := 4) hx hb dM_isBad_85 (by decide) ?_
              exact ih u (x3 + 1) 1 x1 hf hg _ _ hP hS ⟨rfl, rfl⟩ _ (lv_sub hl [0, 1, 3, 4] rfl)
            · have hf := zt hf c11
              have hg := hg.1 c11
              refine lv_iload hx hb dM_isBad_62 (lv_at hl 0 rfl) ?_
              refine lv_bipush (v := 112) hx hb dM_isBad_64 (by decide) ?_
              refine lv_icmp_lt (tgt := 76) hx hb dM_isBad_66 (by decide) (fun c12 => ?_) (fun c12 => ?_)
              · have hf := zt hf c12
                have hg := hg.1 c12
                refine lv_iconst (v := 1) hx hb dM_isBad_76 (by decide) ?_
                refine lv_goto (tgt := 81) hx hb dM_isBad_77 (by decide) ?_
                refine lv_istore_n (lv' := [(2, .int 1), (4, .int (FM_read u x1 x3)), (3, .int x3), (0, .ref (b 0)), (1, .int x1)]) hx hb dM_isBad_81 rfl hl (by decide) rfl (fun ls hl => ?_)
                refine lv_iinc (v := (x3 + 1)) (lv' := [(3, .int (x3 + 1)), (2, .int 1), (4, .int (FM_read u x1 x3)), (0, .ref (b 0)), (1, .int x1)]) hx hb dM_isBad_82 hl (k := 2) rfl rfl (by decide) rfl (fun ls hl => ?_)
                refine lv_goto (tgt := 4) hx hb dM_isBad_85 (by decide) ?_
                exact ih u (x3 + 1) 1 x1 hf hg _ _ hP hS ⟨rfl, rfl⟩ _ (lv_sub hl [0, 1, 3, 4] rfl)
              · have hf := zn hf c12
                have hg := hg.2 c12
                refine lv_iload hx hb dM_isBad_69 (lv_at hl 0 rfl) ?_
                refine lv_bipush (v := 121) hx hb dM_isBad_71 (by decide) ?_
                refine lv_icmp_le (tgt := 80) hx hb dM_isBad_73 (by decide) (fun c13 => ?_) (fun c13 => ?_)
                · have hf := zt hf c13
                  have hg := hg.1 c13
                  refine lv_iconst (v := 0) hx hb dM_isBad_80 (by decide) ?_
                  refine lv_istore_n (lv' := [(2, .int 0), (4, .int (FM_read u x1 x3)), (3, .int x3), (0, .ref (b 0)), (1, .int x1)]) hx hb dM_isBad_81 rfl hl (by decide) rfl (fun ls hl => ?_)
                  refine lv_iinc (v := (x3 + 1)) (lv' := [(3, .int (x3 + 1)), (2, .int 0), (4, .int (FM_read u x1 x3)), (0, .ref (b 0)), (1, .int x1)]) hx hb dM_isBad_82 hl (k := 2) rfl rfl (by decide) rfl (fun ls hl => ?_)
                  refine lv_goto (tgt := 4) hx hb dM_isBad_85 (by decide) ?_
                  exact ih u (x3 + 1) 0 x1 hf hg _ _ hP hS ⟨rfl, rfl⟩ _ (lv_sub hl [0, 1, 3, 4] rfl)
                · have hf := zn hf c13
                  have hg := hg.2 c13
                  refine lv_iconst (v := 1) hx hb dM_isBad_76 (by decide) ?_
                  refine lv_goto (tgt := 81) hx hb dM_isBad_77 (by decide) ?_
                  refine lv_istore_n (lv' := [(2, .int 1), (4, .int (FM_read u x1 x3)), (3, .int x3), (0, .ref (b 0)), (1, .int x1)]) hx hb dM_isBad_81 rfl hl (by decide) rfl (fun ls hl => ?_)
                  refine lv_iinc (v := (x3 + 1)) (lv' := [(3, .int (x3 + 1)), (2, .int 1), (4, .int (FM_read u x1 x3)), (0, .ref (b 0)), (1, .int x1)]) hx hb dM_isBad_82 hl (k := 2) rfl rfl (by decide) rfl (fun ls hl => ?_)
                  refine lv_goto (tgt := 4) hx hb dM_isBad_85 (by decide) ?_
                  exact ih u (x3 + 1) 1 x1 hf hg _ _ hP hS ⟨rfl, rfl⟩ _ (lv_sub hl [0, 1, 3, 4] rfl)
          · have hf := zn hf c9
            have hg := hg.2 c9
            refine lv_iload hx hb dM_isBad_43 (lv_at hl 0 rfl) ?_
            refine lv_bipush (v := 57) hx hb dM_isBad_45 (by decide) ?_
            refine lv_icmp_le (tgt := 80) hx hb dM_isBad_47 (by decide) (fun c14 => ?_) (fun c14 => ?_)
            · have hf := zt hf c14
              have hg := hg.1 c14
              refine lv_iconst (v := 0) hx hb dM_isBad_80 (by decide) ?_
              refine lv_istore_n (lv' := [(2, .int 0), (4, .int (FM_read u x1 x3)), (3, .int x3), (0, .ref (b 0)), (1, .int x1)]) hx hb dM_isBad_81 rfl hl (by decide) rfl (fun ls hl => ?_)
              refine lv_iinc (v := (x3 + 1)) (lv' := [(3, .int (x3 + 1)), (2, .int 0), (4, .int (FM_read u x1 x3)), (0, .ref (b 0)), (1, .int x1)]) hx hb dM_isBad_82 hl (k := 2) rfl rfl (by decide) rfl (fun ls hl => ?_)
              refine lv_goto (tgt := 4) hx hb dM_isBad_85 (by decide) ?_
              exact ih u (x3 + 1) 0 x1 hf hg _ _ hP hS ⟨rfl, rfl⟩ _ (lv_sub hl [0, 1, 3, 4] rfl)
            · have hf := zn hf c14
              have hg := hg.2 c14
              refine lv_iload_n hx hb dM_isBad_50 rfl (lv_at hl 1 rfl) ?_
              refine lv_aload_n hx hb dM_isBad_51 rfl (lv_at hl 3 rfl) ?_
              refine va_get (D := D) (ci := 7) (v := .ref (b 3)) (C := RM) (T := TM) (N := 30) hx hb hts (fun w h9 => zc (inM w h9)) hown hK hP 0 rfl rfl 4 (by decide) (hts _ (zc m_601)) (fun _ h9 => h9) rfl dM_isBad_52 ?_
              refine lv_iload_n hx hb dM_isBad_55 rfl (lv_at hl 4 rfl) ?_
              obtain ⟨h15, hg⟩ := hg
              refine va_iald hx hb hK hP 3 0 rfl rfl h15 dM_isBad_56 ?_
              refine lv_iconst (v := 1) hx hb dM_isBad_57 (by decide) ?_
              refine lv_isub hx hb dM_isBad_58 ?_
              refine lv_icmp_ne (tgt := 76) hx hb dM_isBad_59 (by decide) (fun c16 => ?_) (fun c16 => ?_)
              · have hf := zn hf c16
                have hg := hg.2 c16
                refine lv_iconst (v := 1) hx hb dM_isBad_76 (by decide) ?_
                refine lv_goto (tgt := 81) hx hb dM_isBad_77 (by decide) ?_
                refine lv_istore_n (lv' := [(2, .int 1), (4, .int (FM_read u x1 x3)), (3, .int x3), (0, .ref (b 0)), (1, .int x1)]) hx hb dM_isBad_81 rfl hl (by decide) rfl (fun ls hl => ?_)
                refine lv_iinc (v := (x3 + 1)) (lv' := [(3, .int (x3 + 1)), (2, .int 1), (4, .int (FM_read u x1 x3)), (0, .ref (b 0)), (1, .int x1)]) hx hb dM_isBad_82 hl (k := 2) rfl rfl (by decide) rfl (fun ls hl => ?_)
                refine lv_goto (tgt := 4) hx hb dM_isBad_85 (by decide) ?_
                exact ih u (x3 + 1) 1 x1 hf hg _ _ hP hS ⟨rfl, rfl⟩ _ (lv_sub hl [0, 1, 3, 4] rfl)
              · have hf := zt hf c16
                have hg := hg.1 c16
                refine lv_iload hx hb dM_isBad_62 (lv_at hl 0 rfl) ?_
                refine lv_bipush (v := 112) hx hb dM_isBad_64 (by decide) ?_
                refine lv_icmp_lt (tgt := 76) hx hb dM_isBad_66 (by decide) (fun c17 => ?_) (fun c17 => ?_)
                · have hf := zt hf c17
                  have hg := hg.1 c17
                  refine lv_iconst (v := 1) hx hb dM_isBad_76 (by decide) ?_
                  refine lv_goto (tgt := 81) hx hb dM_isBad_77 (by decide) ?_
                  refine lv_istore_n (lv' := [(2, .int 1), (4, .int (FM_read u x1 x3)), (3, .int x3), (0, .ref (b 0)), (1, .int x1)]) hx hb dM_isBad_81 rfl hl (by decide) rfl (fun ls hl => ?_)
                  refine lv_iinc (v := (x3 + 1)) (lv' := [(3, .int (x3 + 1)), (2, .int 1), (4, .int (FM_read u x1 x3)), (0, .ref (b 0)), (1, .int x1)]) hx hb dM_isBad_82 hl (k := 2) rfl rfl (by decide) rfl (fun ls hl => ?_)
                  refine lv_goto (tgt := 4) hx hb dM_isBad_85 (by decide) ?_
                  exact ih u (x3 + 1) 1 x1 hf hg _ _ hP hS ⟨rfl, rfl⟩ _ (lv_sub hl [0, 1, 3, 4] rfl)
                · have hf := zn hf c17
                  have hg := hg.2 c17
                  refine lv_iload hx hb dM_isBad_69 (lv_at hl 0 rfl) ?_
                  refine lv_bipush (v := 121) hx hb dM_isBad_71 (by decide) ?_
                  refine lv_icmp_le (tgt := 80) hx hb dM_isBad_73 (by decide) (fun c18 => ?_) (fun c18 => ?_)
                  · have hf := zt hf c18
                    have hg := hg.1 c18
                    refine lv_iconst (v := 0) hx hb dM_isBad_80 (by decide) ?_
                    refine lv_istore_n (lv' := [(2, .int 0), (4, .int (FM_read u x1 x3)), (3, .int x3), (0, .ref (b 0)), (1, .int x1)]) hx hb dM_isBad_81 rfl hl (by decide) rfl (fun ls hl => ?_)
                    refine lv_iinc (v := (x3 + 1)) (lv' := [(3, .int (x3 + 1)), (2, .int 0), (4, .int (FM_read u x1 x3)), (0, .ref (b 0)), (1, .int x1)]) hx hb dM_isBad_82 hl (k := 2) rfl rfl (by decide) rfl (fun ls hl => ?_)
                    refine lv_goto (tgt := 4) hx hb dM_isBad_85 (by decide) ?_
                    exact ih u (x3 + 1) 0 x1 hf hg _ _ hP hS ⟨rfl, rfl⟩ _ (lv_sub hl [0, 1, 3, 4] rfl)
                  · have hf := zn hf c18
                    have hg := hg.2 c18
                    refine lv_iconst (v := 1) hx hb dM_isBad_76 (by decide) ?_
                    refine lv_goto (tgt := 81) hx hb dM_isBad_77 (by decide) ?_
                    refine lv_istore_n (lv' := [(2, .int 1), (4, .int (FM_read u x1 x3)), (3, .int x3), (0, .ref (b 0)), (1, .int x1)]) hx hb dM_isBad_81 rfl hl (by decide) rfl (fun ls hl => ?_)
                    refine lv_iinc (v := (x3 + 1)) (lv' := [(3, .int (x3 + 1)), (2, .int 1), (4, .int (FM_read u x1 x3)), (0, .ref (b 0)), (1, .int x1)]) hx hb dM_isBad_82 hl (k := 2) rfl rfl (by decide) rfl (fun ls hl => ?_)
                    refine lv_goto (tgt := 4) hx hb dM_isBad_85 (by decide) ?_
                    exact ih u (x3 + 1) 1 x1 hf hg _ _ hP hS ⟨rfl, rfl⟩ _ (lv_sub hl [0, 1, 3, 4] rfl)
set_option maxHeartbeats 4000000 in
set_option maxRecDepth 100000 in
theorem tM_isBad (l : Launch) {D : va_G} {k : zK} {b : Nat → Nat} (hI : zI 22 b) (u : MS) (p0 : Int32) (hg : GM_isBad u p0) : Met l yM_isBad wsM_isBad ({ frames := 1, cells := 0, slots := 0, locals := 22 }) (zPc D k (zA 22 b) (wM k b u) [.ref (b 0), .int p0]) (vp_Si (fun r9 => r9 = (FM_isBad u p0))) 0 0 (fun _ => False) := by
  refine Met.ofW (cc := cM_isBad) (maxL := 5) (ret := (some .boolean)) (by decide) rfl ?_
  intro p e s m args below meth c s₁ B hml hv
  obtain ⟨rfl, hP, hE⟩ := hv
  have hts := atoms_spec (ws := wsM_isBad) B.pre
  have C0 : zC p s m _ meth c cM_isBad (some .boolean) 5 RM wsM_isBad D k (zA 22 b) := ⟨B.exec, B.bytes, B.returns, hml, findClass_of_methodNamed B.named, hts, B.notSynchronized, hE⟩
  obtain ⟨hx, hb, hr, hml, hown, _, hlocks, _⟩ := id C0
  have hK := hE.1
  have hS : va_S (zA 22 b) s.heap s.heap [] := va_S.rf
  generalize hf : FM_isBad u p0 = tgt
  change ((LM_isBad_4 1000 u 0 0 p0) : Int32) = tgt at hf
  change (MM_isBad_4 1000 u 0 0 p0) at hg
  have hl := lv_entry ([.ref (b 0), .int p0]) (n := 5) (Nat.le_of_ble_eq_true rfl)
  rw [lg_entry_eq]
  generalize (lg_sl ([.ref (b 0), .int p0]) ++ List.replicate (5 - (lg_sl ([.ref (b 0), .int p0])).length) Slot.unset).toArray = ls at hl ⊢
  have hl : lv_has ls 5 [(0, .ref (b 0)), (1, .int p0)] := hl
  refine lv_iconst (v := 0) hx hb dM_isBad_0 (by decide) ?_
  refine lv_istore_n (lv' := [(2, .int 0), (0, .ref (b 0)), (1, .int p0)]) hx hb dM_isBad_1 rfl hl (by decide) rfl (fun ls hl => ?_)
  refine lv_iconst (v := 0) hx hb dM_isBad_2 (by decide) ?_
  refine lv_istore_n (lv' := [(3, .int 0), (2, .int 0), (0, .ref (b 0)), (1, .int p0)]) hx hb dM_isBad_3 rfl hl (by decide) rfl (fun ls hl => ?_)
  exact kM_isBad_4 hI C0 (tgt := tgt) 1000 u 0 0 p0 hf hg _ _ hP hS ⟨rfl, rfl⟩ _ (lv_sub hl [0, 1, 2, 3] rfl)
theorem dM_whole_0 : decode cM_whole 0 = .ok (.lconst 0, 1) := by decide +kernel
theorem dM_whole_1 : decode cM_whole 1 = .ok (.lstore_n 2, 1) := by decide +kernel
theorem dM_whole_2 : decode cM_whole 2 = .ok (.aload_n 0, 1) := by decide +kernel
theorem dM_whole_3 : decode cM_whole 3 = .ok (.getfield 13, 3) := by decide +kernel
theorem dM_whole_6 : decode cM_whole 6 = .ok (.iload_n 1, 1) := by decide +kernel
theorem dM_whole_7 : decode cM_whole 7 = .ok (.iaload, 1) := by decide +kernel
theorem dM_whole_8 : decode cM_whole 8 = .ok (.iconst 2, 1) := by decide +kernel
theorem dM_whole_9 : decode cM_whole 9 = .ok (.if_icmp .ne 58, 3) := by decide +kernel
theorem dM_whole_12 : decode cM_whole 12 = .ok (.aload_n 0, 1) := by decide +kernel
theorem dM_whole_13 : decode cM_whole 13 = .ok (.iload_n 1, 1) := by decide +kernel
theorem dM_whole_14 : decode cM_whole 14 = .ok (.iconst 0, 1) := by decide +kernel
theorem dM_whole_15 : decode cM_whole 15 = .ok (.invokevirtual 99, 3) := by decide +kernel
theorem dM_whole_18 : decode cM_whole 18 = .ok (.bipush 127, 2) := by decide +kernel
theorem dM_whole_20 : decode cM_whole 20 = .ok (.if_icmp .le 9, 3) := by decide +kernel
theorem dM_whole_23 : decode cM_whole 23 = .ok (.ldc2_w 103, 3) := by decide +kernel
theorem dM_whole_26 : decode cM_whole 26 = .ok (.goto 4, 3) := by decide +kernel
theorem dM_whole_29 : decode cM_whole 29 = .ok (.lconst 0, 1) := by decide +kernel
theorem dM_whole_30 : decode cM_whole 30 = .ok (.lstore_n 2, 1) := by decide +kernel
theorem dM_whole_31 : decode cM_whole 31 = .ok (.iconst 0, 1) := by decide +kernel
theorem dM_whole_32 : decode cM_whole 32 = .ok (.istore 4, 2) := by decide +kernel
theorem dM_whole_34 : decode cM_whole 34 = .ok (.iload 4, 2) := by decide +kernel
theorem dM_whole_36 : decode cM_whole 36 = .ok (.aload_n 0, 1) := by decide +kernel
theorem dM_whole_37 : decode cM_whole 37 = .ok (.getfield 16, 3) := by decide +kernel
theorem dM_whole_40 : decode cM_whole 40 = .ok (.iload_n 1, 1) := by decide +kernel
theorem dM_whole_41 : decode cM_whole 41 = .ok (.iaload, 1) := by decide +kernel
theorem dM_whole_42 : decode cM_whole 42 = .ok (.if_icmp .ge 23, 3) := by decide +kernel
theorem dM_whole_45 : decode cM_whole 45 = .ok (.lload_n 2, 1) := by decide +kernel
theorem dM_whole_46 : decode cM_whole 46 = .ok (.bipush 8, 2) := by decide +kernel
theorem dM_whole_48 : decode cM_whole 48 = .ok (.lshl, 1) := by decide +kernel
theorem dM_whole_49 : decode cM_whole 49 = .ok (.aload_n 0, 1) := by decide +kernel
theorem dM_whole_50 : decode cM_whole 50 = .ok (.iload_n 1, 1) := by decide +kernel
theorem dM_whole_51 : decode cM_whole 51 = .ok (.iload 4, 2) := by decide +kernel
theorem dM_whole_53 : decode cM_whole 53 = .ok (.invokevirtual 99, 3) := by decide +kernel
theorem dM_whole_56 : decode cM_whole 56 = .ok (.i2l, 1) := by decide +kernel
theorem dM_whole_57 : decode cM_whole 57 = .ok (.lor, 1) := by decide +kernel
theorem dM_whole_58 : decode cM_whole 58 = .ok (.lstore_n 2, 1) := by decide +kernel
theorem dM_whole_59 : decode cM_whole 59 = .ok (.iinc 4 1, 3) := by decide +kernel
theorem dM_whole_62 : decode cM_whole 62 = .ok (.goto (-28), 3) := by decide +kernel
theorem dM_whole_65 : decode cM_whole 65 = .ok (.lload_n 2, 1) := by decide +kernel
theorem dM_whole_66 : decode cM_whole 66 = .ok (.lreturn, 1) := by decide +kernel
theorem dM_whole_67 : decode cM_whole 67 = .ok (.iconst 0, 1) := by decide +kernel
theorem dM_whole_68 : decode cM_whole 68 = .ok (.istore 4, 2) := by decide +kernel
theorem dM_whole_70 : decode cM_whole 70 = .ok (.iload 4, 2) := by decide +kernel
theorem dM_whole_72 : decode cM_whole 72 = .ok (.aload_n 0, 1) := by decide +kernel
theorem dM_whole_73 : decode cM_whole 73 = .ok (.getfield 16, 3) := by decide +kernel
theorem dM_whole_76 : decode cM_whole 76 = .ok (.iload_n 1, 1) := by decide +kernel
theorem dM_whole_77 : decode cM_whole 77 = .ok (.iaload, 1) := by decide +kernel
theorem dM_whole_78 : decode cM_whole 78 = .ok (.if_icmp .ge 27, 3) := by decide +kernel
theorem dM_whole_81 : decode cM_whole 81 = .ok (.ldc2_w 105, 3) := by decide +kernel
theorem dM_whole_84 : decode cM_whole 84 = .ok (.lload_n 2, 1) := by decide +kernel
theorem dM_whole_85 : decode cM_whole 85 = .ok (.lmul, 1) := by decide +kernel
theorem dM_whole_86 : decode cM_whole 86 = .ok (.aload_n 0, 1) := by decide +kernel
theorem dM_whole_87 : decode cM_whole 87 = .ok (.iload_n 1, 1) := by decide +kernel
theorem dM_whole_88 : decode cM_whole 88 = .ok (.iload 4, 2) := by decide +kernel
theorem dM_whole_90 : decode cM_whole 90 = .ok (.invokevirtual 99, 3) := by decide +kernel
theorem dM_whole_93 : decode cM_whole 93 = .ok (.bipush 15, 2) := by decide +kernel
theorem dM_whole_95 : decode cM_whole 95 = .ok (.iand, 1) := by decide +kernel
theorem dM_whole_96 : decode cM_whole 96 = .ok (.i2l, 1) := by decide +kernel
theorem dM_whole_97 : decode cM_whole 97 = .ok (.ladd, 1) := by decide +kernel
theorem dM_whole_98 : decode cM_whole 98 = .ok (.lstore_n 2, 1) := by decide +kernel
theorem dM_whole_99 : decode cM_whole 99 = .ok (.iinc 4 1, 3) := by decide +kernel
theorem dM_whole_102 : decode cM_whole 102 = .ok (.goto (-32), 3) := by decide +kernel
theorem dM_whole_105 : decode cM_whole 105 = .ok (.aload_n 0, 1) := by decide +kernel
theorem dM_whole_106 : decode cM_whole 106 = .ok (.iload_n 1, 1) := by decide +kernel
theorem dM_whole_107 : decode cM_whole 107 = .ok (.aload_n 0, 1) := by decide +kernel
theorem dM_whole_108 : decode cM_whole 108 = .ok (.getfield 16, 3) := by decide +kernel
theorem dM_whole_111 : decode cM_whole 111 = .ok (.iload_n 1, 1) := by decide +kernel
theorem dM_whole_112 : decode cM_whole 112 = .ok (.iaload, 1) := by decide +kernel
theorem dM_whole_113 : decode cM_whole 113 = .ok (.iconst 1, 1) := by decide +kernel
theorem dM_whole_114 : decode cM_whole 114 = .ok (.isub, 1) := by decide +kernel
theorem dM_whole_115 : decode cM_whole 115 = .ok (.invokevirtual 99, 3) := by decide +kernel
theorem dM_whole_118 : decode cM_whole 118 = .ok (.bipush 112, 2) := by decide +kernel
theorem dM_whole_120 : decode cM_whole 120 = .ok (.if_icmp .lt 9, 3) := by decide +kernel
theorem dM_whole_123 : decode cM_whole 123 = .ok (.lconst 0, 1) := by decide +kernel
theorem dM_whole_124 : decode cM_whole 124 = .ok (.lload_n 2, 1) := by decide +kernel
theorem dM_whole_125 : decode cM_whole 125 = .ok (.lsub, 1) := by decide +kernel
theorem dM_whole_126 : decode cM_whole 126 = .ok (.goto 4, 3) := by decide +kernel
theorem dM_whole_129 : decode cM_whole 129 = .ok (.lload_n 2, 1) := by decide +kernel
theorem dM_whole_130 : decode cM_whole 130 = .ok (.lreturn, 1) := by decide +kernel
abbrev wsM_whole : List Cond := Cond.code yM_whole cM_whole 5 (some .long) :: zWords
def LM_whole_34 : Nat → MS → Int32 → Int64 → Int32 → Int64
  | 0, _, _, _, _ => 0
  | n + 1, u, x4, x2, x1 => (if ((Mg_sizes u) x1.toNatClampNeg) ≤ x4 then x2 else (LM_whole_34 n u (x4 + 1) ((x2 <<< ((8 : Int32).toInt64 &&& 63)) ||| (((FM_read u x1 x4) : Int32).toInt64)) x1))
def MM_whole_34 : Nat → MS → Int32 → Int64 → Int32 → Prop
  | 0, _, _, _, _ => False
  | n + 1, u, x4, x2, x1 => (vp_in x1 40 ∧ ((((Mg_sizes u) x1.toNatClampNeg) ≤ x4 → True) ∧ (¬ ((Mg_sizes u) x1.toNatClampNeg) ≤ x4 → (GM_read u x1 x4 ∧ (MM_whole_34 n u (x4 + 1) ((x2 <<< ((8 : Int32).toInt64 &&& 63)) ||| (((FM_read u x1 x4) : Int32).toInt64)) x1)))))
def LM_whole_70 : Nat → MS → Int32 → Int64 → Int32 → Int64
  | 0, _, _, _, _ => 0
  | n + 1, u, x4, x2, x1 => (if ((Mg_sizes u) x1.toNatClampNeg) ≤ x4 then (if (FM_read u x1 (((Mg_sizes u) x1.toNatClampNeg) - 1)) < 112 then x2 else (0 - x2)) else (LM_whole_70 n u (x4 + 1) ((10 * x2) + ((((FM_read u x1 x4) &&& 15) : Int32).toInt64)) x1))
def MM_whole_70 : Nat → MS → Int32 → Int64 → Int32 → Prop
  | 0, _, _, _, _ => False
  | n + 1, u, x4, x2, x1 => (vp_in x1 40 ∧ ((((Mg_sizes u) x1.toNatClampNeg) ≤ x4 → (vp_in x1 40 ∧ (GM_read u x1 (((Mg_sizes u) x1.toNatClampNeg) - 1) ∧ True))) ∧ (¬ ((Mg_sizes u) x1.toNatClampNeg) ≤ x4 → (GM_read u x1 x4 ∧ (MM_whole_70 n u (x4 + 1) ((10 * x2) + ((((FM_read u x1 x4) &&& 15) : Int32).toInt64)) x1)))))
def FM_whole (u : MS) (p0 : Int32) : Int64 := (if ((Mg_categories u) p0.toNatClampNeg) = 2 then (if (FM_read u p0 0) ≤ 127 then (LM_whole_34 1000 u 0 0 p0) else (LM_whole_34 1000 u 0 (-1) p0)) else (LM_whole_70 1000 u 0 0 p0))
def GM_whole (u : MS) (p0 : Int32) : Prop := (vp_in p0 40 ∧ ((((Mg_categories u) p0.toNatClampNeg) = 2 → (GM_read u p0 0 ∧ (((FM_read u p0 0) ≤ 127 → (MM_whole_34 1000 u 0 0 p0)) ∧ (¬ (FM_read u p0 0) ≤ 127 → (MM_whole_34 1000 u 0 (-1) p0))))) ∧ (¬ ((Mg_categories u) p0.toNatClampNeg) = 2 → (MM_whole_70 1000 u 0 0 p0))))
set_option maxHeartbeats 4000000 in
set_option maxRecDepth 100000 in
theorem kM_whole_34 {p : Program} {l : Launch} {e : Env} {s : State} {m : MethodId} {args : Array Value} {below : List Frame} {meth : Method} {c : Code} {D : va_G} {k : zK} {b : Nat → Nat} (hI : zI 22 b) (C0 : zC p s m args meth c cM_whole (some .long) 5 RM wsM_whole D k (zA 22 b)) {tgt : Int64} : ∀ (n : Nat) (u : MS) (x4 : Int32) (x2 : Int64) (x1 : Int32), LM_whole_34 n u x4 x2 x1 = tgt → MM_whole_34 n u x4 x2 x1 → ∀ (H : Heap) (locs : List Loc), va_P D vwCl (wM k b u) H → va_S (zA 22 b) s.heap H locs → H = s.heap ∧ locs = [] → ∀ (ls : Array Slot), lv_has ls 5 [(4, .int x4), (2, .long x2), (0, .ref (b 0)), (1, .int x1)] → W p l e (headSpec wsM_whole ({ frames := 1, cells := 0, slots := 0, locals := 22 })).room s m args below meth c H locs 0 0 (MQ below (vp_Sl (fun r9 => r9 = tgt)) args s 0 0 (fun _ => False)) (F0 m 34 ls []) := by
  obtain ⟨hx, hb, hr, hml, hown, hts, hlocks, hE⟩ := id C0
  have hK := hE.1
  intro n
  induction n with
  | zero =>
    intro u x4 x2 x1 _ hg
    exact False.elim hg
  | succ n ih =>
    intro u x4 x2 x1 hf hg H locs hP hS hq ls hl
    obtain ⟨rfl, rfl⟩ := hq
    change ((if ((Mg_sizes u) x1.toNatClampNeg) ≤ x4 then x2 else (LM_whole_34 n u (x4 + 1) ((x2 <<< ((8 : Int32).toInt64 &&& 63)) ||| (((FM_read u x1 x4) : Int32).toInt64)) x1)) : Int64) = tgt at hf
    change (vp_in x1 40 ∧ ((((Mg_sizes u) x1.toNatClampNeg) ≤ x4 → True) ∧ (¬ ((Mg_sizes u) x1.toNatClampNeg) ≤ x4 → (GM_read u x1 x4 ∧ (MM_whole_34 n u (x4 + 1) ((x2 <<< ((8 : Int32).toInt64 &&& 63)) ||| (((FM_read u x1 x4) : Int32).toInt64)) x1))))) at hg
    refine lv_iload hx hb dM_whole_34 (lv_at hl 0 rfl) ?_
    refine lv_aload_n hx hb dM_whole_36 rfl (lv_at hl 2 rfl) ?_
    refine va_get (D := D) (ci := 7) (v := .ref (b 3)) (C := RM) (T := TM) (N := 30) hx hb hts (fun w h9 => zc (inM w h9)) hown hK hP 0 rfl rfl 4 (by decide) (hts _ (zc m_601)) (fun _ h9 => h9) rfl dM_whole_37 ?_
    refine lv_iload_n hx hb dM_whole_40 rfl (lv_at hl 3 rfl) ?_
    obtain ⟨h11, hg⟩ := hg
    refine va_iald hx hb hK hP 3 0 rfl rfl h11 dM_whole_41 ?_
    refine lv_icmp_ge (tgt := 65) hx hb dM_whole_42 (by decide) (fun c12 => ?_) (fun c12 => ?_)
    · have hf := zt hf c12
      have hg := hg.1 c12
      refine lv_lload_n hx hb dM_whole_65 rfl (lv_at hl 1 rfl) ?_
      exact W.lret (v := x2) hx hb hr (fun t ht hW => ⟨_, rfl, hf, ht⟩) (fun _ h9 => nomatch h9) dM_whole_66
    · have hf := zn hf c12
      have hg := hg.2 c12
      refine lv_lload_n hx hb dM_whole_45 rfl (lv_at hl 1 rfl) ?_
      refine lv_bipush (v := 8) hx hb dM_whole_46 (by decide) ?_
      refine lv_lshl (v := (x2 <<< ((8 : Int32).toInt64 &&& 63))) hx hb dM_whole_48 rfl ?_
      refine lv_aload_n hx hb dM_whole_49 rfl (lv_at hl 2 rfl) ?_
      refine lv_iload_n hx hb dM_whole_50 rfl (lv_at hl 3 rfl) ?_
      refine lv_iload hx hb dM_whole_51 (lv_at hl 0 rfl) ?_
      obtain ⟨h13, hg⟩ := hg
      refine vp_callSi (W.runV (As := [.int x1, .int x4]) (rest := [.long (x2 <<< ((8 : Int32).toInt64 &&& 63))]) ⟨hx, hb, hml, hown, hts⟩ (tM_read l hI u x1 x4 h13) (cwV 2 hts (zgV m_778 m_780 mp_26 m_8 m_781) rfl rfl rfl (by decide +kernel) ⟨Nat.le_of_ble_eq_true rfl, Nat.le_of_ble_eq_true rfl⟩) (zpre hP hE hS.2.1 (va_recv hK hP (ci := 7) (q0 := 0) rfl rfl)) rfl rfl hl.1 rfl (lv_room (Nat.le_of_ble_eq_true rfl)) dM_whole_53 ⟨Nat.zero_le _, Nat.zero_le _⟩) (fun r9 hr9 => ?_)
      subst hr9
      refine lv_i2l (v := ((FM_read u x1 x4) : Int32).toInt64) hx hb dM_whole_56 rfl ?_
      refine lv_lor hx hb dM_whole_57 ?_
      refine lv_lstore_n (lv' := [(2, .long ((x2 <<< ((8 : Int32).toInt64 &&& 63)) ||| (((FM_read u x1 x4) : Int32).toInt64))), (4, .int x4), (0, .ref (b 0)), (1, .int x1)]) hx hb dM_whole_58 rfl hl (by decide) rfl (fun ls hl => ?_)
      refine lv_iinc (v := (x4 + 1)) (lv' := [(4, .int (x4 + 1)), (2, .long ((x2 <<< ((8 : Int32).toInt64 &&& 63)) ||| (((FM_read u x1 x4) : Int32).toInt64))), (0, .ref (b 0)), (1, .int x1)]) hx hb dM_whole_59 hl (k := 1) rfl rfl (by decide) rfl (fun ls hl => ?_)
      refine lv_goto (tgt := 34) hx hb dM_whole_62 (by decide) ?_
      exact ih u (x4 + 1) ((x2 <<< ((8 : Int32).toInt64 &&& 63)) ||| (((FM_read u x1 x4) : Int32).toInt64)) x1 hf hg _ _ hP hS ⟨rfl, rfl⟩ _ (lv_sub hl [0, 1, 2, 3] rfl)
set_option maxHeartbeats 4000000 in
set_option maxRecDepth 100000 in
theorem kM_whole_70 {p : Program} {l : Launch} {e : Env} {s : State} {m : MethodId} {args : Array Value} {below : List Frame} {meth : Method} {c : Code} {D : va_G} {k : zK} {b : Nat → Nat} (hI : zI 22 b) (C0 : zC p s m args meth c cM_whole (some .long) 5 RM wsM_whole D k (zA 22 b)) {tgt : Int64} : ∀ (n : Nat) (u : MS) (x4 : Int32) (x2 : Int64) (x1 : Int32), LM_whole_70 n u x4 x2 x1 = tgt → MM_whole_70 n u x4 x2 x1 → ∀ (H : Heap) (locs : List Loc), va_P D vwCl (wM k b u) H → va_S (zA 22 b) s.heap H locs → H = s.heap ∧ locs = [] → ∀ (ls : Array Slot), lv_has ls 5 [(4, .int x4), (2, .long x2), (0, .ref (b 0)), (1, .int x1)] → W p l e (headSpec wsM_whole ({ frames := 1, cells := 0, slots := 0, locals := 22 })).room s m args below meth c H locs 0 0 (MQ below (vp_Sl (fun r9 => r9 = tgt)) args s 0 0 (fun _ => False)) (F0 m 70 ls []) := by
  obtain ⟨hx, hb, hr, hml, hown, hts, hlocks, hE⟩ := id C0
  have hK := hE.1
  intro n
  induction n with
  | zero =>
    intro u x4 x2 x1 _ hg
    exact False.elim hg
  | succ n ih =>
    intro u x4 x2 x1 hf hg H locs hP hS hq ls hl
    obtain ⟨rfl, rfl⟩ := hq
    change ((if ((Mg_sizes u) x1.toNatClampNeg) ≤ x4 then (if (FM_read u x1 (((Mg_sizes u) x1.toNatClampNeg) - 1)) < 112 then x2 else (0 - x2)) else (LM_whole_70 n u (x4 + 1) ((10 * x2) + ((((FM_read u x1 x4) &&& 15) : Int32).toInt64)) x1)) : Int64) = tgt at hf
    change (vp_in x1 40 ∧ ((((Mg_sizes u) x1.toNatClampNeg) ≤ x4 → (vp_in x1 40 ∧ (GM_read u x1 (((Mg_sizes u) x1.toNatClampNeg) - 1) ∧ True))) ∧ (¬ ((Mg_sizes u) x1.toNatClampNeg) ≤ x4 → (GM_read u x1 x4 ∧ (MM_whole_70 n u (x4 + 1) ((10 * x2) + ((((FM_read u x1 x4) &&& 15) : Int32).toInt64)) x1))))) at hg
    refine lv_iload hx hb dM_whole_70 (lv_at hl 0 rfl) ?_
    refine lv_aload_n hx hb dM_whole_72 rfl (lv_at hl 2 rfl) ?_
    refine va_get (D := D) (ci := 7) (v := .ref (b 3)) (C := RM) (T := TM) (N := 30) hx hb hts (fun w h9 => zc (inM w h9)) hown hK hP 0 rfl rfl 4 (by decide) (hts _ (zc m_601)) (fun _ h9 => h9) rfl dM_whole_73 ?_
    refine lv_iload_n hx hb dM_whole_76 rfl (lv_at hl 3 rfl) ?_
    obtain ⟨h5, hg⟩ := hg
    refine va_iald hx hb hK hP 3 0 rfl rfl h5 dM_whole_77 ?_
    refine lv_icmp_ge (tgt := 105) hx hb dM_whole_78 (by decide) (fun c6 => ?_) (fun c6 => ?_)
    · have hf := zt hf c6
      have hg := hg.1 c6
      refine lv_aload_n hx hb dM_whole_105 rfl (lv_at hl 2 rfl) ?_
      refine lv_iload_n hx hb dM_whole_106 rfl (lv_at hl 3 rfl) ?_
      refine lv_aload_n hx hb dM_whole_107 rfl (lv_at hl 2 rfl) ?_
      refine va_get (D := D) (ci := 7) (v := .ref (b 3)) (C := RM) (T := TM) (N := 30) hx hb hts (fun w h9 => zc (inM w h9)) hown hK hP 0 rfl rfl 4 (by decide) (hts _ (zc m_601)) (fun _ h9 => h9) rfl dM_whole_108 ?_
      refine lv_iload_n hx hb dM_whole_111 rfl (lv_at hl 3 rfl) ?_
      obtain ⟨h7, hg⟩ := hg
      refine va_iald hx hb hK hP 3 0 rfl rfl h7 dM_whole_112 ?_
      refine lv_iconst (v := 1) hx hb dM_whole_113 (by decide) ?_
      refine lv_isub hx hb dM_whole_114 ?_
      obtain ⟨h8, hg⟩ := hg
      refine vp_callSi (W.runV (As := [.int x1, .int (((Mg_sizes u) x1.toNatClampNeg) - 1)]) (rest := []) ⟨hx, hb, hml, hown, hts⟩ (tM_read l hI u x1 (((Mg_sizes u) x1.toNatClampNeg) - 1) h8) (cwV 2 hts (zgV m_778 m_780 mp_26 m_8 m_781) rfl rfl rfl (by decide +kernel) ⟨Nat.le_of_ble_eq_true rfl, Nat.le_of_ble_eq_true rfl⟩) (zpre hP hE hS.2.1 (va_recv hK hP (ci := 7) (q0 := 0) rfl rfl)) rfl rfl hl.1 rfl (lv_room (Nat.le_of_ble_eq_true rfl)) dM_whole_115 ⟨Nat.zero_le _, Nat.zero_le _⟩) (fun r9 hr9 => ?_)
      subst hr9
      refine lv_bipush (v := 112) hx hb dM_whole_118 (by decide) ?_
      refine lv_icmp_lt (tgt := 129) hx hb dM_whole_120 (by decide) (fun c9 => ?_) (fun c9 => ?_)
      · have hf := zt hf c9
        refine lv_lload_n hx hb dM_whole_129 rfl (lv_at hl 1 rfl) ?_
        exact W.lret (v := x2) hx hb hr (fun t ht hW => ⟨_, rfl, hf, ht⟩) (fun _ h9 => nomatch h9) dM_whole_130
      · have hf := zn hf c9
        refine lv_lconst (v := 0) hx hb dM_whole_123 (by decide) ?_
        refine lv_lload_n hx hb dM_whole_124 rfl (lv_at hl 1 rfl) ?_
        refine lv_lsub hx hb dM_whole_125 ?_
        refine lv_goto (tgt := 130) hx hb dM_whole_126 (by decide) ?_
        exact W.lret (v := (0 - x2)) hx hb hr (fun t ht hW => ⟨_, rfl, hf, ht⟩) (fun _ h9 => nomatch h9) dM_whole_130
    · have hf := zn hf c6
      have hg := hg.2 c6
      refine lv_ldc2 (v := 10) hx hb hown (hts _ (zc m_799)) dM_whole_81 ?_
      refine lv_lload_n hx hb dM_whole_84 rfl (lv_at hl 1 rfl) ?_
      refine lv_lmul hx hb dM_whole_85 ?_
      refine lv_aload_n hx hb dM_whole_86 rfl (lv_at hl 2 rfl) ?_
      refine lv_iload_n hx hb dM_whole_87 rfl (lv_at hl 3 rfl) ?_
      refine lv_iload hx hb dM_whole_88 (lv_at hl 0 rfl) ?_
      obtain ⟨h10, hg⟩ := hg
      refine vp_callSi (W.runV (As := [.int x1, .int x4]) (rest := [.long (10 * x2)]) ⟨hx, hb, hml, hown, hts⟩ (tM_read l hI u x1 x4 h10) (cwV 2 hts (zgV m_778 m_780 mp_26 m_8 m_781) rfl rfl rfl (by decide +kernel) ⟨Nat.le_of_ble_eq_true rfl, Nat.le_of_ble_eq_true rfl⟩) (zpre hP hE hS.2.1 (va_recv hK hP (ci := 7) (q0 := 0) rfl rfl)) rfl rfl hl.1 rfl (lv_room (Nat.le_of_ble_eq_true rfl)) dM_whole_90 ⟨Nat.zero_le _, Nat.zero_le _⟩) (fun r9 hr9 => ?_)
      subst hr9
      refine lv_bipush (v := 15) hx hb dM_whole_93 (by decide) ?_
      refine lv_iand hx hb dM_whole_95 ?_
      refine lv_i2l (v := (((FM_read u x1 x4) &&& 15) : Int32).toInt64) hx hb dM_whole_96 rfl ?_
      refine lv_ladd hx hb dM_whole_97 ?_
      refine lv_lstore_n (lv' := [(2, .long ((10 * x2) + ((((FM_read u x1 x4) &&& 15) : Int32).toInt64))), (4, .int x4), (0, .ref (b 0)), (1, .int x1)]) hx hb dM_whole_98 rfl hl (by decide) rfl (fun ls hl => ?_)
      refine lv_iinc (v := (x4 + 1)) (lv' := [(4, .int (x4 + 1)), (2, .long ((10 * x2) + ((((FM_read u x1 x4) &&& 15) : Int32).toInt64))), (0, .ref (b 0)), (1, .int x1)]) hx hb dM_whole_99 hl (k := 1) rfl rfl (by decide) rfl (fun ls hl => ?_)
      refine lv_goto (tgt := 70) hx hb dM_whole_102 (by decide) ?_
      exact ih u (x4 + 1) ((10 * x2) + ((((FM_read u x1 x4) &&& 15) : Int32).toInt64)) x1 hf hg _ _ hP hS ⟨rfl, rfl⟩ _ (lv_sub hl [0, 1, 2, 3] rfl)
set_option maxHeartbeats 4000000 in
set_option maxRecDepth 100000 in
theorem tM_whole (l : Launch) {D : va_G} {k : zK} {b : Nat → Nat} (hI : zI 22 b) (u : MS) (p0 : Int32) (hg : GM_whole u p0) : Met l yM_whole wsM_whole ({ frames := 1, cells := 0, slots := 0, locals := 22 }) (zPc D k (zA 22 b) (wM k b u) [.ref (b 0), .int p0]) (vp_Sl (fun r9 => r9 = (FM_whole u p0))) 0 0 (fun _ => False) := by
  refine Met.ofW (cc := cM_whole) (maxL := 5) (ret := (some .long)) (by decide) rfl ?_
  intro p e s m args below meth c s₁ B hml hv
  obtain ⟨rfl, hP, hE⟩ := hv
  have hts := atoms_spec (ws := wsM_whole) B.pre
  have C0 : zC p s m _ meth c cM_whole (some .long) 5 RM wsM_whole D k (zA 22 b) := ⟨B.exec, B.bytes, B.returns, hml, findClass_of_methodNamed B.named, hts, B.notSynchronized, hE⟩
  obtain ⟨hx, hb, hr, hml, hown, _, hlocks, _⟩ := id C0
  have hK := hE.1
  have hS : va_S (zA 22 b) s.heap s.heap [] := va_S.rf
  generalize hf : FM_whole u p0 = tgt
  change ((if ((Mg_categories u) p0.toNatClampNeg) = 2 then (if (FM_read u p0 0) ≤ 127 then (LM_whole_34 1000 u 0 0 p0) else (LM_whole_34 1000 u 0 (-1) p0)) else (LM_whole_70 1000 u 0 0 p0)) : Int64) = tgt at hf
  change (vp_in p0 40 ∧ ((((Mg_categories u) p0.toNatClampNeg) = 2 → (GM_read u p0 0 ∧ (((FM_read u p0 0) ≤ 127 → (MM_whole_34 1000 u 0 0 p0)) ∧ (¬ (FM_read u p0 0) ≤ 127 → (MM_whole_34 1000 u 0 (-1) p0))))) ∧ (¬ ((Mg_categories u) p0.toNatClampNeg) = 2 → (MM_whole_70 1000 u 0 0 p0)))) at hg
  have hl := lv_entry ([.ref (b 0), .int p0]) (n := 5) (Nat.le_of_ble_eq_true rfl)
  rw [lg_entry_eq]
  generalize (lg_sl ([.ref (b 0), .int p0]) ++ List.replicate (5 - (lg_sl ([.ref (b 0), .int p0])).length) Slot.unset).toArray = ls at hl ⊢
  have hl : lv_has ls 5 [(0, .ref (b 0)), (1, .int p0)] := hl
  refine lv_lconst (v := 0) hx hb dM_whole_0 (by decide) ?_
  refine lv_lstore_n (lv' := [(2, .long 0), (0, .ref (b 0)), (1, .int p0)]) hx hb dM_whole_1 rfl hl (by decide) rfl (fun ls hl => ?_)
  refine lv_aload_n hx hb dM_whole_2 rfl (lv_at hl 1 rfl) ?_
  refine va_get (D := D) (ci := 7) (v := .ref (b 2)) (C := RM) (T := TM) (N := 30) hx hb hts (fun w h9 => zc (inM w h9)) hown hK hP 0 rfl rfl 3 (by decide) (hts _ (zc m_600)) (fun _ h9 => h9) rfl dM_whole_3 ?_
  refine lv_iload_n hx hb dM_whole_6 rfl (lv_at hl 2 rfl) ?_
  obtain ⟨h1, hg⟩ := hg
  refine va_iald hx hb hK hP 2 0 rfl rfl h1 dM_whole_7 ?_
  refine lv_iconst (v := 2) hx hb dM_whole_8 (by decide) ?_
  refine lv_icmp_ne (tgt := 67) hx hb dM_whole_9 (by decide) (fun c2 => ?_) (fun c2 => ?_)
  · have hf := zn hf c2
    have hg := hg.2 c2
    refine lv_iconst (v := 0) hx hb dM_whole_67 (by decide) ?_
    refine lv_istore (lv' := [(4, .int 0), (2, .long 0), (0, .ref (b 0)), (1, .int p0)]) hx hb dM_whole_68 hl (by decide) rfl (fun ls hl => ?_)
    exact kM_whole_70 hI C0 (tgt := tgt) 1000 u 0 0 p0 hf hg _ _ hP hS ⟨rfl, rfl⟩ _ (lv_sub hl [0, 1, 2, 3] rfl)
  · have hf := zt hf c2
    have hg := hg.1 c2
    refine lv_aload_n hx hb dM_whole_12 rfl (lv_at hl 1 rfl) ?_
    refine lv_iload_n hx hb dM_whole_13 rfl (lv_at hl 2 rfl) ?_
    refine lv_iconst (v := 0) hx hb dM_whole_14 (by decide) ?_
    obtain ⟨h3, hg⟩ := hg
    refine vp_callSi (W.runV (As := [.int p0, .int 0]) (rest := []) ⟨hx, hb, hml, hown, hts⟩ (tM_read l hI u p0 0 h3) (cwV 2 hts (zgV m_778 m_780 mp_26 m_8 m_781) rfl rfl rfl (by decide +kernel) ⟨Nat.le_of_ble_eq_true rfl, Nat.le_of_ble_eq_true rfl⟩) (zpre hP hE hS.2.1 (va_recv hK hP (ci := 7) (q0 := 0) rfl rfl)) rfl rfl hl.1 rfl (lv_room (Nat.le_of_ble_eq_true rfl)) dM_whole_15 ⟨Nat.zero_le _, Nat.zero_le _⟩) (fun r9 hr9 => ?_)
    subst hr9
    refine lv_bipush (v := 127) hx hb dM_whole_18 (by decide) ?_
    refine lv_icmp_le (tgt := 29) hx hb dM_whole_20 (by decide) (fun c4 => ?_) (fun c4 => ?_)
    · have hf := zt hf c4
      have hg := hg.1 c4
      refine lv_lconst (v := 0) hx hb dM_whole_29 (by decide) ?_
      refine lv_lstore_n (lv' := [(2, .long 0), (0, .ref (b 0)), (1, .int p0)]) hx hb dM_whole_30 rfl hl (by decide) rfl (fun ls hl => ?_)
      refine lv_iconst (v := 0) hx hb dM_whole_31 (by decide) ?_
      refine lv_istore (lv' := [(4, .int 0), (2, .long 0), (0, .ref (b 0)), (1, .int p0)]) hx hb dM_whole_32 hl (by decide) rfl (fun ls hl => ?_)
      exact kM_whole_34 hI C0 (tgt := tgt) 1000 u 0 0 p0 hf hg _ _ hP hS ⟨rfl, rfl⟩ _ (lv_sub hl [0, 1, 2, 3] rfl)
    · have hf := zn hf c4
      have hg := hg.2 c4
      refine lv_ldc2 (v := (-1)) hx hb hown (hts _ (zc m_798)) dM_whole_23 ?_
      refine lv_goto (tgt := 30) hx hb dM_whole_26 (by decide) ?_
      refine lv_lstore_n (lv' := [(2, .long (-1)), (0, .ref (b 0)), (1, .int p0)]) hx hb dM_whole_30 rfl hl (by decide) rfl (fun ls hl => ?_)
      refine lv_iconst (v := 0) hx hb dM_whole_31 (by decide) ?_
      refine lv_istore (lv' := [(4, .int 0), (2, .long (-1)), (0, .ref (b 0)), (1, .int p0)]) hx hb dM_whole_32 hl (by decide) rfl (fun ls hl => ?_)
      exact kM_whole_34 hI C0 (tgt := tgt) 1000 u 0 (-1) p0 hf hg _ _ hP hS ⟨rfl, rfl⟩ _ (lv_sub hl [0, 1, 2, 3] rfl)
theorem dM_ten_0 : decode cM_ten 0 = .ok (.lconst 1, 1) := by decide +kernel
theorem dM_ten_1 : decode cM_ten 1 = .ok (.lstore_n 1, 1) := by decide +kernel
theorem dM_ten_2 : decode cM_ten 2 = .ok (.iconst 0, 1) := by decide +kernel
theorem dM_ten_3 : decode cM_ten 3 = .ok (.istore_n 3, 1) := by decide +kernel
theorem dM_ten_4 : decode cM_ten 4 = .ok (.iload_n 3, 1) := by decide +kernel
theorem dM_ten_5 : decode cM_ten 5 = .ok (.iload_n 0, 1) := by decide +kernel
theorem dM_ten_6 : decode cM_ten 6 = .ok (.if_icmp .ge 15, 3) := by decide +kernel
theorem dM_ten_9 : decode cM_ten 9 = .ok (.lload_n 1, 1) := by decide +kernel
theorem dM_ten_10 : decode cM_ten 10 = .ok (.ldc2_w 105, 3) := by decide +kernel
theorem dM_ten_13 : decode cM_ten 13 = .ok (.lmul, 1) := by decide +kernel
theorem dM_ten_14 : decode cM_ten 14 = .ok (.lstore_n 1, 1) := by decide +kernel
theorem dM_ten_15 : decode cM_ten 15 = .ok (.iinc 3 1, 3) := by decide +kernel
theorem dM_ten_18 : decode cM_ten 18 = .ok (.goto (-14), 3) := by decide +kernel
theorem dM_ten_21 : decode cM_ten 21 = .ok (.lload_n 1, 1) := by decide +kernel
theorem dM_ten_22 : decode cM_ten 22 = .ok (.lreturn, 1) := by decide +kernel
abbrev wsM_ten : List Cond := Cond.code yM_ten cM_ten 4 (some .long) :: zWords
def LM_ten_4 : Nat → MS → Int32 → Int64 → Int32 → Int64
  | 0, _, _, _, _ => 0
  | n + 1, u, x3, x1, x0 => (if x0 ≤ x3 then x1 else (LM_ten_4 n u (x3 + 1) (x1 * 10) x0))
def MM_ten_4 : Nat → MS → Int32 → Int64 → Int32 → Prop
  | 0, _, _, _, _ => False
  | n + 1, u, x3, x1, x0 => ((x0 ≤ x3 → True) ∧ (¬ x0 ≤ x3 → (MM_ten_4 n u (x3 + 1) (x1 * 10) x0)))
def FM_ten (u : MS) (p0 : Int32) : Int64 := (LM_ten_4 1000 u 0 1 p0)
def GM_ten (u : MS) (p0 : Int32) : Prop := (MM_ten_4 1000 u 0 1 p0)
set_option maxHeartbeats 4000000 in
set_option maxRecDepth 100000 in
theorem kM_ten_4 {p : Program} {l : Launch} {e : Env} {s : State} {m : MethodId} {args : Array Value} {below : List Frame} {meth : Method} {c : Code} {D : va_G} {k : zK} {b : Nat → Nat} (hI : zI 22 b) (C0 : zC p s m args meth c cM_ten (some .long) 4 RM wsM_ten D k (zA 22 b)) {tgt : Int64} : ∀ (n : Nat) (u : MS) (x3 : Int32) (x1 : Int64) (x0 : Int32), LM_ten_4 n u x3 x1 x0 = tgt → MM_ten_4 n u x3 x1 x0 → ∀ (H : Heap) (locs : List Loc), va_P D vwCl (wM k b u) H → va_S (zA 22 b) s.heap H locs → H = s.heap ∧ locs = [] → ∀ (ls : Array Slot), lv_has ls 4 [(3, .int x3), (1, .long x1), (0, .int x0)] → W p l e (headSpec wsM_ten ({ frames := 0, cells := 0, slots := 0, locals := 0 })).room s m args below meth c H locs 0 0 (MQ below (vp_Sl (fun r9 => r9 = tgt)) args s 0 0 (fun _ => False)) (F0 m 4 ls []) := by
  obtain ⟨hx, hb, hr, hml, hown, hts, hlocks, hE⟩ := id C0
  have hK := hE.1
  intro n
  induction n with
  | zero =>
    intro u x3 x1 x0 _ hg
    exact False.elim hg
  | succ n ih =>
    intro u x3 x1 x0 hf hg H locs hP hS hq ls hl
    obtain ⟨rfl, rfl⟩ := hq
    change ((if x0 ≤ x3 then x1 else (LM_ten_4 n u (x3 + 1) (x1 * 10) x0)) : Int64) = tgt at hf
    change ((x0 ≤ x3 → True) ∧ (¬ x0 ≤ x3 → (MM_ten_4 n u (x3 + 1) (x1 * 10) x0))) at hg
    refine lv_iload_n hx hb dM_ten_4 rfl (lv_at hl 0 rfl) ?_
    refine lv_iload_n hx hb dM_ten_5 rfl (lv_at hl 2 rfl) ?_
    refine lv_icmp_ge (tgt := 21) hx hb dM_ten_6 (by decide) (fun c1 => ?_) (fun c1 => ?_)
    · have hf := zt hf c1
      have hg := hg.1 c1
      refine lv_lload_n hx hb dM_ten_21 rfl (lv_at hl 1 rfl) ?_
      exact W.lret (v := x1) hx hb hr (fun t ht hW => ⟨_, rfl, hf, ht⟩) (fun _ h9 => nomatch h9) dM_ten_22
    · have hf := zn hf c1
      have hg := hg.2 c1
      refine lv_lload_n hx hb dM_ten_9 rfl (lv_at hl 1 rfl) ?_
      refine lv_ldc2 (v := 10) hx hb hown (hts _ (zc m_799)) dM_ten_10 ?_
      refine lv_lmul hx hb dM_ten_13 ?_
      refine lv_lstore_n (lv' := [(1, .long (x1 * 10)), (3, .int x3), (0, .int x0)]) hx hb dM_ten_14 rfl hl (by decide) rfl (fun ls hl => ?_)
      refine lv_iinc (v := (x3 + 1)) (lv' := [(3, .int (x3 + 1)), (1, .long (x1 * 10)), (0, .int x0)]) hx hb dM_ten_15 hl (k := 1) rfl rfl (by decide) rfl (fun ls hl => ?_)
      refine lv_goto (tgt := 4) hx hb dM_ten_18 (by decide) ?_
      exact ih u (x3 + 1) (x1 * 10) x0 hf hg _ _ hP hS ⟨rfl, rfl⟩ _ (lv_sub hl [0, 1, 2] rfl)
set_option maxHeartbeats 4000000 in
set_option maxRecDepth 100000 in
theorem tM_ten (l : Launch) {D : va_G} {k : zK} {b : Nat → Nat} (hI : zI 22 b) (u : MS) (p0 : Int32) (hg : GM_ten u p0) : Met l yM_ten wsM_ten ({ frames := 0, cells := 0, slots := 0, locals := 0 }) (zPc D k (zA 22 b) (wM k b u) [.int p0]) (vp_Sl (fun r9 => r9 = (FM_ten u p0))) 0 0 (fun _ => False) := by
  refine Met.ofW (cc := cM_ten) (maxL := 4) (ret := (some .long)) (by decide) rfl ?_
  intro p e s m args below meth c s₁ B hml hv
  obtain ⟨rfl, hP, hE⟩ := hv
  have hts := atoms_spec (ws := wsM_ten) B.pre
  have C0 : zC p s m _ meth c cM_ten (some .long) 4 RM wsM_ten D k (zA 22 b) := ⟨B.exec, B.bytes, B.returns, hml, findClass_of_methodNamed B.named, hts, B.notSynchronized, hE⟩
  obtain ⟨hx, hb, hr, hml, hown, _, hlocks, _⟩ := id C0
  have hK := hE.1
  have hS : va_S (zA 22 b) s.heap s.heap [] := va_S.rf
  generalize hf : FM_ten u p0 = tgt
  change ((LM_ten_4 1000 u 0 1 p0) : Int64) = tgt at hf
  change (MM_ten_4 1000 u 0 1 p0) at hg
  have hl := lv_entry ([.int p0]) (n := 4) (Nat.le_of_ble_eq_true rfl)
  rw [lg_entry_eq]
  generalize (lg_sl ([.int p0]) ++ List.replicate (4 - (lg_sl ([.int p0])).length) Slot.unset).toArray = ls at hl ⊢
  have hl : lv_has ls 4 [(0, .int p0)] := hl
  refine lv_lconst (v := 1) hx hb dM_ten_0 (by decide) ?_
  refine lv_lstore_n (lv' := [(1, .long 1), (0, .int p0)]) hx hb dM_ten_1 rfl hl (by decide) rfl (fun ls hl => ?_)
  refine lv_iconst (v := 0) hx hb dM_ten_2 (by decide) ?_
  refine lv_istore_n (lv' := [(3, .int 0), (1, .long 1), (0, .int p0)]) hx hb dM_ten_3 rfl hl (by decide) rfl (fun ls hl => ?_)
  exact kM_ten_4 hI C0 (tgt := tgt) 1000 u 0 1 p0 hf hg _ _ hP hS ⟨rfl, rfl⟩ _ (lv_sub hl [0, 1, 2] rfl)
theorem dM_part_0 : decode cM_part 0 = .ok (.aload_n 0, 1) := by decide +kernel
theorem dM_part_1 : decode cM_part 1 = .ok (.iload_n 1, 1) := by decide +kernel
theorem dM_part_2 : decode cM_part 2 = .ok (.invokevirtual 107, 3) := by decide +kernel
theorem dM_part_5 : decode cM_part 5 = .ok (.lstore_n 2, 1) := by decide +kernel
theorem dM_part_6 : decode cM_part 6 = .ok (.aload_n 0, 1) := by decide +kernel
theorem dM_part_7 : decode cM_part 7 = .ok (.getfield 19, 3) := by decide +kernel
theorem dM_part_10 : decode cM_part 10 = .ok (.iload_n 1, 1) := by decide +kernel
theorem dM_part_11 : decode cM_part 11 = .ok (.iaload, 1) := by decide +kernel
theorem dM_part_12 : decode cM_part 12 = .ok (.invokestatic 110, 3) := by decide +kernel
theorem dM_part_15 : decode cM_part 15 = .ok (.lstore 4, 2) := by decide +kernel
theorem dM_part_17 : decode cM_part 17 = .ok (.lload_n 2, 1) := by decide +kernel
theorem dM_part_18 : decode cM_part 18 = .ok (.lload 4, 2) := by decide +kernel
theorem dM_part_20 : decode cM_part 20 = .ok (.ldiv, 1) := by decide +kernel
theorem dM_part_21 : decode cM_part 21 = .ok (.lstore 6, 2) := by decide +kernel
theorem dM_part_23 : decode cM_part 23 = .ok (.lload_n 2, 1) := by decide +kernel
theorem dM_part_24 : decode cM_part 24 = .ok (.lload 4, 2) := by decide +kernel
theorem dM_part_26 : decode cM_part 26 = .ok (.lrem, 1) := by decide +kernel
theorem dM_part_27 : decode cM_part 27 = .ok (.lconst 0, 1) := by decide +kernel
theorem dM_part_28 : decode cM_part 28 = .ok (.lcmp, 1) := by decide +kernel
theorem dM_part_29 : decode cM_part 29 = .ok (.ifCond .ge 10, 3) := by decide +kernel
theorem dM_part_32 : decode cM_part 32 = .ok (.lload 6, 2) := by decide +kernel
theorem dM_part_34 : decode cM_part 34 = .ok (.lconst 1, 1) := by decide +kernel
theorem dM_part_35 : decode cM_part 35 = .ok (.lsub, 1) := by decide +kernel
theorem dM_part_36 : decode cM_part 36 = .ok (.goto 5, 3) := by decide +kernel
theorem dM_part_39 : decode cM_part 39 = .ok (.lload 6, 2) := by decide +kernel
theorem dM_part_41 : decode cM_part 41 = .ok (.lreturn, 1) := by decide +kernel
abbrev wsM_part : List Cond := Cond.code yM_part cM_part 8 (some .long) :: zWords
def FM_part (u : MS) (p0 : Int32) : Int64 := (if (0 : Int32) ≤ (lg_cmp ((FM_whole u p0) - (FM_whole u p0) / (FM_ten u ((Mg_scales u) p0.toNatClampNeg)) * (FM_ten u ((Mg_scales u) p0.toNatClampNeg))) 0) then ((FM_whole u p0) / (FM_ten u ((Mg_scales u) p0.toNatClampNeg))) else (((FM_whole u p0) / (FM_ten u ((Mg_scales u) p0.toNatClampNeg))) - 1))
def GM_part (u : MS) (p0 : Int32) : Prop := (GM_whole u p0 ∧ (vp_in p0 40 ∧ (GM_ten u ((Mg_scales u) p0.toNatClampNeg) ∧ (¬ (FM_ten u ((Mg_scales u) p0.toNatClampNeg)) = 0 ∧ (¬ (FM_ten u ((Mg_scales u) p0.toNatClampNeg)) = 0 ∧ True)))))
set_option maxHeartbeats 4000000 in
set_option maxRecDepth 100000 in
theorem tM_part (l : Launch) {D : va_G} {k : zK} {b : Nat → Nat} (hI : zI 22 b) (u : MS) (p0 : Int32) (hg : GM_part u p0) : Met l yM_part wsM_part ({ frames := 2, cells := 0, slots := 0, locals := 46 }) (zPc D k (zA 22 b) (wM k b u) [.ref (b 0), .int p0]) (vp_Sl (fun r9 => r9 = (FM_part u p0))) 0 0 (fun _ => False) := by
  refine Met.ofW (cc := cM_part) (maxL := 8) (ret := (some .long)) (by decide) rfl ?_
  intro p e s m args below meth c s₁ B hml hv
  obtain ⟨rfl, hP, hE⟩ := hv
  have hts := atoms_spec (ws := wsM_part) B.pre
  have C0 : zC p s m _ meth c cM_part (some .long) 8 RM wsM_part D k (zA 22 b) := ⟨B.exec, B.bytes, B.returns, hml, findClass_of_methodNamed B.named, hts, B.notSynchronized, hE⟩
  obtain ⟨hx, hb, hr, hml, hown, _, hlocks, _⟩ := id C0
  have hK := hE.1
  have hS : va_S (zA 22 b) s.heap s.heap [] := va_S.rf
  generalize hf : FM_part u p0 = tgt
  change ((if (0 : Int32) ≤ (lg_cmp ((FM_whole u p0) - (FM_whole u p0) / (FM_ten u ((Mg_scales u) p0.toNatClampNeg)) * (FM_ten u ((Mg_scales u) p0.toNatClampNeg))) 0) then ((FM_whole u p0) / (FM_ten u ((Mg_scales u) p0.toNatClampNeg))) else (((FM_whole u p0) / (FM_ten u ((Mg_scales u) p0.toNatClampNeg))) - 1)) : Int64) = tgt at hf
  change (GM_whole u p0 ∧ (vp_in p0 40 ∧ (GM_ten u ((Mg_scales u) p0.toNatClampNeg) ∧ (¬ (FM_ten u ((Mg_scales u) p0.toNatClampNeg)) = 0 ∧ (¬ (FM_ten u ((Mg_scales u) p0.toNatClampNeg)) = 0 ∧ True))))) at hg
  have hl := lv_entry ([.ref (b 0), .int p0]) (n := 8) (Nat.le_of_ble_eq_true rfl)
  rw [lg_entry_eq]
  generalize (lg_sl ([.ref (b 0), .int p0]) ++ List.replicate (8 - (lg_sl ([.ref (b 0), .int p0])).length) Slot.unset).toArray = ls at hl ⊢
  have hl : lv_has ls 8 [(0, .ref (b 0)), (1, .int p0)] := hl
  refine lv_aload_n hx hb dM_part_0 rfl (lv_at hl 0 rfl) ?_
  refine lv_iload_n hx hb dM_part_1 rfl (lv_at hl 1 rfl) ?_
  obtain ⟨h1, hg⟩ := hg
  refine vp_callSl (W.runV (As := [.int p0]) (rest := []) ⟨hx, hb, hml, hown, hts⟩ (tM_whole l hI u p0 h1) (cwV 1 hts (zgV m_794 m_796 mp_30 m_8 m_797) rfl rfl rfl (by decide +kernel) ⟨Nat.le_of_ble_eq_true rfl, Nat.le_of_ble_eq_true rfl⟩) (zpre hP hE hS.2.1 (va_recv hK hP (ci := 7) (q0 := 0) rfl rfl)) rfl rfl hl.1 rfl (lv_room (Nat.le_of_ble_eq_true rfl)) dM_part_2 ⟨Nat.zero_le _, Nat.zero_le _⟩) (fun r9 hr9 => ?_)
  subst hr9
  refine lv_lstore_n (lv' := [(2, .long (FM_whole u p0)), (0, .ref (b 0)), (1, .int p0)]) hx hb dM_part_5 rfl hl (by decide) rfl (fun ls hl => ?_)
  refine lv_aload_n hx hb dM_part_6 rfl (lv_at hl 1 rfl) ?_
  refine va_get (D := D) (ci := 7) (v := .ref (b 4)) (C := RM) (T := TM) (N := 30) hx hb hts (fun w h9 => zc (inM w h9)) hown hK hP 0 rfl rfl 5 (by decide) (hts _ (zc m_602)) (fun _ h9 => h9) rfl dM_part_7 ?_
  refine lv_iload_n hx hb dM_part_10 rfl (lv_at hl 2 rfl) ?_
  obtain ⟨h2, hg⟩ := hg
  refine va_iald hx hb hK hP 4 0 rfl rfl h2 dM_part_11 ?_
  obtain ⟨h3, hg⟩ := hg
  refine vp_callSl (W.runS (As := [.int ((Mg_scales u) p0.toNatClampNeg)]) (rest := []) ⟨hx, hb, hml, hown, hts⟩ (tM_ten l hI u ((Mg_scales u) p0.toNatClampNeg) h3) (va_cwS 1 hts (zgS m_800 m_801 m_8 m_802) rfl rfl rfl (by decide +kernel) ⟨Nat.le_of_ble_eq_true rfl, Nat.le_of_ble_eq_true rfl⟩) (zpreS hP hE hS.2.1) rfl rfl hl.1 rfl (lv_room (Nat.le_of_ble_eq_true rfl)) dM_part_12 ⟨Nat.zero_le _, Nat.zero_le _⟩) (fun r9 hr9 => ?_)
  subst hr9
  refine lv_lstore (lv' := [(4, .long (FM_ten u ((Mg_scales u) p0.toNatClampNeg))), (2, .long (FM_whole u p0)), (0, .ref (b 0)), (1, .int p0)]) hx hb dM_part_15 hl (by decide) rfl (fun ls hl => ?_)
  refine lv_lload_n hx hb dM_part_17 rfl (lv_at hl 1 rfl) ?_
  refine lv_lload hx hb dM_part_18 (lv_at hl 0 rfl) ?_
  obtain ⟨h4, hg⟩ := hg
  refine lv_ldiv hx hb dM_part_20 h4 ?_
  refine lv_lstore (lv' := [(6, .long ((FM_whole u p0) / (FM_ten u ((Mg_scales u) p0.toNatClampNeg)))), (4, .long (FM_ten u ((Mg_scales u) p0.toNatClampNeg))), (2, .long (FM_whole u p0)), (0, .ref (b 0)), (1, .int p0)]) hx hb dM_part_21 hl (by decide) rfl (fun ls hl => ?_)
  refine lv_lload_n hx hb dM_part_23 rfl (lv_at hl 2 rfl) ?_
  refine lv_lload hx hb dM_part_24 (lv_at hl 1 rfl) ?_
  obtain ⟨h5, hg⟩ := hg
  refine lv_lrem hx hb dM_part_26 h5 ?_
  refine lv_lconst (v := 0) hx hb dM_part_27 (by decide) ?_
  refine W.lcmp hx hb dM_part_28 ?_
  refine lv_if_ge (tgt := 39) hx hb dM_part_29 (by decide) (fun c6 => ?_) (fun c6 => ?_)
  · have hf := zt hf c6
    refine lv_lload hx hb dM_part_39 (lv_at hl 0 rfl) ?_
    exact W.lret (v := ((FM_whole u p0) / (FM_ten u ((Mg_scales u) p0.toNatClampNeg)))) hx hb hr (fun t ht hW => ⟨_, rfl, hf, ht⟩) (fun _ h9 => nomatch h9) dM_part_41
  · have hf := zn hf c6
    refine lv_lload hx hb dM_part_32 (lv_at hl 0 rfl) ?_
    refine lv_lconst (v := 1) hx hb dM_part_34 (by decide) ?_
    refine lv_lsub hx hb dM_part_35 ?_
    refine lv_goto (tgt := 41) hx hb dM_part_36 (by decide) ?_
    exact W.lret (v := (((FM_whole u p0) / (FM_ten u ((Mg_scales u) p0.toNatClampNeg))) - 1)) hx hb hr (fun t ht hW => ⟨_, rfl, hf, ht⟩) (fun _ h9 => nomatch h9) dM_part_41
theorem dM_rest_0 : decode cM_rest 0 = .ok (.aload_n 0, 1) := by decide +kernel
theorem dM_rest_1 : decode cM_rest 1 = .ok (.getfield 19, 3) := by decide +kernel
theorem dM_rest_4 : decode cM_rest 4 = .ok (.iload_n 1, 1) := by decide +kernel
theorem dM_rest_5 : decode cM_rest 5 = .ok (.iaload, 1) := by decide +kernel
theorem dM_rest_6 : decode cM_rest 6 = .ok (.invokestatic 110, 3) := by decide +kernel
theorem dM_rest_9 : decode cM_rest 9 = .ok (.lstore_n 2, 1) := by decide +kernel
theorem dM_rest_10 : decode cM_rest 10 = .ok (.aload_n 0, 1) := by decide +kernel
theorem dM_rest_11 : decode cM_rest 11 = .ok (.iload_n 1, 1) := by decide +kernel
theorem dM_rest_12 : decode cM_rest 12 = .ok (.invokevirtual 107, 3) := by decide +kernel
theorem dM_rest_15 : decode cM_rest 15 = .ok (.lload_n 2, 1) := by decide +kernel
theorem dM_rest_16 : decode cM_rest 16 = .ok (.lrem, 1) := by decide +kernel
theorem dM_rest_17 : decode cM_rest 17 = .ok (.lstore 4, 2) := by decide +kernel
theorem dM_rest_19 : decode cM_rest 19 = .ok (.lload 4, 2) := by decide +kernel
theorem dM_rest_21 : decode cM_rest 21 = .ok (.lconst 0, 1) := by decide +kernel
theorem dM_rest_22 : decode cM_rest 22 = .ok (.lcmp, 1) := by decide +kernel
theorem dM_rest_23 : decode cM_rest 23 = .ok (.ifCond .ge 10, 3) := by decide +kernel
theorem dM_rest_26 : decode cM_rest 26 = .ok (.lload 4, 2) := by decide +kernel
theorem dM_rest_28 : decode cM_rest 28 = .ok (.lload_n 2, 1) := by decide +kernel
theorem dM_rest_29 : decode cM_rest 29 = .ok (.ladd, 1) := by decide +kernel
theorem dM_rest_30 : decode cM_rest 30 = .ok (.goto 5, 3) := by decide +kernel
theorem dM_rest_33 : decode cM_rest 33 = .ok (.lload 4, 2) := by decide +kernel
theorem dM_rest_35 : decode cM_rest 35 = .ok (.bipush 9, 2) := by decide +kernel
theorem dM_rest_37 : decode cM_rest 37 = .ok (.aload_n 0, 1) := by decide +kernel
theorem dM_rest_38 : decode cM_rest 38 = .ok (.getfield 19, 3) := by decide +kernel
theorem dM_rest_41 : decode cM_rest 41 = .ok (.iload_n 1, 1) := by decide +kernel
theorem dM_rest_42 : decode cM_rest 42 = .ok (.iaload, 1) := by decide +kernel
theorem dM_rest_43 : decode cM_rest 43 = .ok (.isub, 1) := by decide +kernel
theorem dM_rest_44 : decode cM_rest 44 = .ok (.invokestatic 110, 3) := by decide +kernel
theorem dM_rest_47 : decode cM_rest 47 = .ok (.lmul, 1) := by decide +kernel
theorem dM_rest_48 : decode cM_rest 48 = .ok (.lreturn, 1) := by decide +kernel
abbrev wsM_rest : List Cond := Cond.code yM_rest cM_rest 6 (some .long) :: zWords
def LM_rest_35 (n : Nat) (u : MS) (x4 : Int64) (x2 : Int64) (x1 : Int32) (y0 : Int64) : Int64 := (y0 * (FM_ten u (9 - ((Mg_scales u) x1.toNatClampNeg))))
def MM_rest_35 (n : Nat) (u : MS) (x4 : Int64) (x2 : Int64) (x1 : Int32) (y0 : Int64) : Prop := (vp_in x1 40 ∧ (GM_ten u (9 - ((Mg_scales u) x1.toNatClampNeg)) ∧ True))
def FM_rest (u : MS) (p0 : Int32) : Int64 := (if (0 : Int32) ≤ (lg_cmp ((FM_whole u p0) - (FM_whole u p0) / (FM_ten u ((Mg_scales u) p0.toNatClampNeg)) * (FM_ten u ((Mg_scales u) p0.toNatClampNeg))) 0) then (LM_rest_35 1000 u ((FM_whole u p0) - (FM_whole u p0) / (FM_ten u ((Mg_scales u) p0.toNatClampNeg)) * (FM_ten u ((Mg_scales u) p0.toNatClampNeg))) (FM_ten u ((Mg_scales u) p0.toNatClampNeg)) p0 ((FM_whole u p0) - (FM_whole u p0) / (FM_ten u ((Mg_scales u) p0.toNatClampNeg)) * (FM_ten u ((Mg_scales u) p0.toNatClampNeg)))) else (LM_rest_35 1000 u ((FM_whole u p0) - (FM_whole u p0) / (FM_ten u ((Mg_scales u) p0.toNatClampNeg)) * (FM_ten u ((Mg_scales u) p0.toNatClampNeg))) (FM_ten u ((Mg_scales u) p0.toNatClampNeg)) p0 (((FM_whole u p0) - (FM_whole u p0) / (FM_ten u ((Mg_scales u) p0.toNatClampNeg)) * (FM_ten u ((Mg_scales u) p0.toNatClampNeg))) + (FM_ten u ((Mg_scales u) p0.toNatClampNeg)))))
def GM_rest (u : MS) (p0 : Int32) : Prop := (vp_in p0 40 ∧ (GM_ten u ((Mg_scales u) p0.toNatClampNeg) ∧ (GM_whole u p0 ∧ (¬ (FM_ten u ((Mg_scales u) p0.toNatClampNeg)) = 0 ∧ (((0 : Int32) ≤ (lg_cmp ((FM_whole u p0) - (FM_whole u p0) / (FM_ten u ((Mg_scales u) p0.toNatClampNeg)) * (FM_ten u ((Mg_scales u) p0.toNatClampNeg))) 0) → (MM_rest_35 1000 u ((FM_whole u p0) - (FM_whole u p0) / (FM_ten u ((Mg_scales u) p0.toNatClampNeg)) * (FM_ten u ((Mg_scales u) p0.toNatClampNeg))) (FM_ten u ((Mg_scales u) p0.toNatClampNeg)) p0 ((FM_whole u p0) - (FM_whole u p0) / (FM_ten u ((Mg_scales u) p0.toNatClampNeg)) * (FM_ten u ((Mg_scales u) p0.toNatClampNeg))))) ∧ (¬ (0 : Int32) ≤ (lg_cmp ((FM_whole u p0) - (FM_whole u p0) / (FM_ten u ((Mg_scales u) p0.toNatClampNeg)) * (FM_ten u ((Mg_scales u) p0.toNatClampNeg))) 0) → (MM_rest_35 1000 u ((FM_whole u p0) - (FM_whole u p0) / (FM_ten u ((Mg_scales u) p0.toNatClampNeg)) * (FM_ten u ((Mg_scales u) p0.toNatClampNeg))) (FM_ten u ((Mg_scales u) p0.toNatClampNeg)) p0 (((FM_whole u p0) - (FM_whole u p0) / (FM_ten u ((Mg_scales u) p0.toNatClampNeg)) * (FM_ten u ((Mg_scales u) p0.toNatClampNeg))) + (FM_ten u ((Mg_scales u) p0.toNatClampNeg))))))))))
set_option maxHeartbeats 4000000 in
set_option maxRecDepth 100000 in
theorem kM_rest_35 {p : Program} {l : Launch} {e : Env} {s : State} {m : MethodId} {args : Array Value} {below : List Frame} {meth : Method} {c : Code} {D : va_G} {k : zK} {b : Nat → Nat} (hI : zI 22 b) (C0 : zC p s m args meth c cM_rest (some .long) 6 RM wsM_rest D k (zA 22 b)) {tgt : Int64} : ∀ (n : Nat) (u : MS) (x4 : Int64) (x2 : Int64) (x1 : Int32) (y0 : Int64), LM_rest_35 n u x4 x2 x1 y0 = tgt → MM_rest_35 n u x4 x2 x1 y0 → ∀ (H : Heap) (locs : List Loc), va_P D vwCl (wM k b u) H → va_S (zA 22 b) s.heap H locs → H = s.heap ∧ locs = [] → ∀ (ls : Array Slot), lv_has ls 6 [(4, .long x4), (2, .long x2), (0, .ref (b 0)), (1, .int x1)] → W p l e (headSpec wsM_rest ({ frames := 2, cells := 0, slots := 0, locals := 46 })).room s m args below meth c H locs 0 0 (MQ below (vp_Sl (fun r9 => r9 = tgt)) args s 0 0 (fun _ => False)) (F0 m 35 ls [.long y0]) := by
  obtain ⟨hx, hb, hr, hml, hown, hts, hlocks, hE⟩ := id C0
  have hK := hE.1
  intro n
  intro u x4 x2 x1 y0 hf hg H locs hP hS hq ls hl
  obtain ⟨rfl, rfl⟩ := hq
  change ((y0 * (FM_ten u (9 - ((Mg_scales u) x1.toNatClampNeg)))) : Int64) = tgt at hf
  change (vp_in x1 40 ∧ (GM_ten u (9 - ((Mg_scales u) x1.toNatClampNeg)) ∧ True)) at hg
  refine lv_bipush (v := 9) hx hb dM_rest_35 (by decide) ?_
  refine lv_aload_n hx hb dM_rest_37 rfl (lv_at hl 2 rfl) ?_
  refine va_get (D := D) (ci := 7) (v := .ref (b 4)) (C := RM) (T := TM) (N := 30) hx hb hts (fun w h9 => zc (inM w h9)) hown hK hP 0 rfl rfl 5 (by decide) (hts _ (zc m_602)) (fun _ h9 => h9) rfl dM_rest_38 ?_
  refine lv_iload_n hx hb dM_rest_41 rfl (lv_at hl 3 rfl) ?_
  obtain ⟨h6, hg⟩ := hg
  refine va_iald hx hb hK hP 4 0 rfl rfl h6 dM_rest_42 ?_
  refine lv_isub hx hb dM_rest_43 ?_
  obtain ⟨h7, hg⟩ := hg
  refine vp_callSl (W.runS (As := [.int (9 - ((Mg_scales u) x1.toNatClampNeg))]) (rest := [.long y0]) ⟨hx, hb, hml, hown, hts⟩ (tM_ten l hI u (9 - ((Mg_scales u) x1.toNatClampNeg)) h7) (va_cwS 1 hts (zgS m_800 m_801 m_8 m_802) rfl rfl rfl (by decide +kernel) ⟨Nat.le_of_ble_eq_true rfl, Nat.le_of_ble_eq_true rfl⟩) (zpreS hP hE hS.2.1) rfl rfl hl.1 rfl (lv_room (Nat.le_of_ble_eq_true rfl)) dM_rest_44 ⟨Nat.zero_le _, Nat.zero_le _⟩) (fun r9 hr9 => ?_)
  subst hr9
  refine lv_lmul hx hb dM_rest_47 ?_
  exact W.lret (v := (y0 * (FM_ten u (9 - ((Mg_scales u) x1.toNatClampNeg))))) hx hb hr (fun t ht hW => ⟨_, rfl, hf, ht⟩) (fun _ h9 => nomatch h9) dM_rest_48
set_option maxHeartbeats 4000000 in
set_option maxRecDepth 100000 in
theorem tM_rest (l : Launch) {D : va_G} {k : zK} {b : Nat → Nat} (hI : zI 22 b) (u : MS) (p0 : Int32) (hg : GM_rest u p0) : Met l yM_rest wsM_rest ({ frames := 2, cells := 0, slots := 0, locals := 46 }) (zPc D k (zA 22 b) (wM k b u) [.ref (b 0), .int p0]) (vp_Sl (fun r9 => r9 = (FM_rest u p0))) 0 0 (fun _ => False) := by
  refine Met.ofW (cc := cM_rest) (maxL := 6) (ret := (some .long)) (by decide) rfl ?_
  intro p e s m args below meth c s₁ B hml hv
  obtain ⟨rfl, hP, hE⟩ := hv
  have hts := atoms_spec (ws := wsM_rest) B.pre
  have C0 : zC p s m _ meth c cM_rest (some .long) 6 RM wsM_rest D k (zA 22 b) := ⟨B.exec, B.bytes, B.returns, hml, findClass_of_methodNamed B.named, hts, B.notSynchronized, hE⟩
  obtain ⟨hx, hb, hr, hml, hown, _, hlocks, _⟩ := id C0
  have hK := hE.1
  have hS : va_S (zA 22 b) s.heap s.heap [] := va_S.rf
  generalize hf : FM_rest u p0 = tgt
  change ((if (0 : Int32) ≤ (lg_cmp ((FM_whole u p0) - (FM_whole u p0) / (FM_ten u ((Mg_scales u) p0.toNatClampNeg)) * (FM_ten u ((Mg_scales u) p0.toNatClampNeg))) 0) then (LM_rest_35 1000 u ((FM_whole u p0) - (FM_whole u p0) / (FM_ten u ((Mg_scales u) p0.toNatClampNeg)) * (FM_ten u ((Mg_scales u) p0.toNatClampNeg))) (FM_ten u ((Mg_scales u) p0.toNatClampNeg)) p0 ((FM_whole u p0) - (FM_whole u p0) / (FM_ten u ((Mg_scales u) p0.toNatClampNeg)) * (FM_ten u ((Mg_scales u) p0.toNatClampNeg)))) else (LM_rest_35 1000 u ((FM_whole u p0) - (FM_whole u p0) / (FM_ten u ((Mg_scales u) p0.toNatClampNeg)) * (FM_ten u ((Mg_scales u) p0.toNatClampNeg))) (FM_ten u ((Mg_scales u) p0.toNatClampNeg)) p0 (((FM_whole u p0) - (FM_whole u p0) / (FM_ten u ((Mg_scales u) p0.toNatClampNeg)) * (FM_ten u ((Mg_scales u) p0.toNatClampNeg))) + (FM_ten u ((Mg_scales u) p0.toNatClampNeg))))) : Int64) = tgt at hf
  change (vp_in p0 40 ∧ (GM_ten u ((Mg_scales u) p0.toNatClampNeg) ∧ (GM_whole u p0 ∧ (¬ (FM_ten u ((Mg_scales u) p0.toNatClampNeg)) = 0 ∧ (((0 : Int32) ≤ (lg_cmp ((FM_whole u p0) - (FM_whole u p0) / (FM_ten u ((Mg_scales u) p0.toNatClampNeg)) * (FM_ten u ((Mg_scales u) p0.toNatClampNeg))) 0) → (MM_rest_35 1000 u ((FM_whole u p0) - (FM_whole u p0) / (FM_ten u ((Mg_scales u) p0.toNatClampNeg)) * (FM_ten u ((Mg_scales u) p0.toNatClampNeg))) (FM_ten u ((Mg_scales u) p0.toNatClampNeg)) p0 ((FM_whole u p0) - (FM_whole u p0) / (FM_ten u ((Mg_scales u) p0.toNatClampNeg)) * (FM_ten u ((Mg_scales u) p0.toNatClampNeg))))) ∧ (¬ (0 : Int32) ≤ (lg_cmp ((FM_whole u p0) - (FM_whole u p0) / (FM_ten u ((Mg_scales u) p0.toNatClampNeg)) * (FM_ten u ((Mg_scales u) p0.toNatClampNeg))) 0) → (MM_rest_35 1000 u ((FM_whole u p0) - (FM_whole u p0) / (FM_ten u ((Mg_scales u) p0.toNatClampNeg)) * (FM_ten u ((Mg_scales u) p0.toNatClampNeg))) (FM_ten u ((Mg_scales u) p0.toNatClampNeg)) p0 (((FM_whole u p0) - (FM_whole u p0) / (FM_ten u ((Mg_scales u) p0.toNatClampNeg)) * (FM_ten u ((Mg_scales u) p0.toNatClampNeg))) + (FM_ten u ((Mg_scales u) p0.toNatClampNeg)))))))))) at hg
  have hl := lv_entry ([.ref (b 0), .int p0]) (n := 6) (Nat.le_of_ble_eq_true rfl)
  rw [lg_entry_eq]
  generalize (lg_sl ([.ref (b 0), .int p0]) ++ List.replicate (6 - (lg_sl ([.ref (b 0), .int p0])).length) Slot.unset).toArray = ls at hl ⊢
  have hl : lv_has ls 6 [(0, .ref (b 0)), (1, .int p0)] := hl
  refine lv_aload_n hx hb dM_rest_0 rfl (lv_at hl 0 rfl) ?_
  refine va_get (D := D) (ci := 7) (v := .ref (b 4)) (C := RM) (T := TM) (N := 30) hx hb hts (fun w h9 => zc (inM w h9)) hown hK hP 0 rfl rfl 5 (by decide) (hts _ (zc m_602)) (fun _ h9 => h9) rfl dM_rest_1 ?_
  refine lv_iload_n hx hb dM_rest_4 rfl (lv_at hl 1 rfl) ?_
  obtain ⟨h1, hg⟩ := hg
  refine va_iald hx hb hK hP 4 0 rfl rfl h1 dM_rest_5 ?_
  obtain ⟨h2, hg⟩ := hg
  refine vp_callSl (W.runS (As := [.int ((Mg_scales u) p0.toNatClampNeg)]) (rest := []) ⟨hx, hb, hml, hown, hts⟩ (tM_ten l hI u ((Mg_scales u) p0.toNatClampNeg) h2) (va_cwS 1 hts (zgS m_800 m_801 m_8 m_802) rfl rfl rfl (by decide +kernel) ⟨Nat.le_of_ble_eq_true rfl, Nat.le_of_ble_eq_true rfl⟩) (zpreS hP hE hS.2.1) rfl rfl hl.1 rfl (lv_room (Nat.le_of_ble_eq_true rfl)) dM_rest_6 ⟨Nat.zero_le _, Nat.zero_le _⟩) (fun r9 hr9 => ?_)
  subst hr9
  refine lv_lstore_n (lv' := [(2, .long (FM_ten u ((Mg_scales u) p0.toNatClampNeg))), (0, .ref (b 0)), (1, .int p0)]) hx hb dM_rest_9 rfl hl (by decide) rfl (fun ls hl => ?_)
  refine lv_aload_n hx hb dM_rest_10 rfl (lv_at hl 1 rfl) ?_
  refine lv_iload_n hx hb dM_rest_11 rfl (lv_at hl 2 rfl) ?_
  obtain ⟨h3, hg⟩ := hg
  refine vp_callSl (W.runV (As := [.int p0]) (rest := []) ⟨hx, hb, hml, hown, hts⟩ (tM_whole l hI u p0 h3) (cwV 1 hts (zgV m_794 m_796 mp_30 m_8 m_797) rfl rfl rfl (by decide +kernel) ⟨Nat.le_of_ble_eq_true rfl, Nat.le_of_ble_eq_true rfl⟩) (zpre hP hE hS.2.1 (va_recv hK hP (ci := 7) (q0 := 0) rfl rfl)) rfl rfl hl.1 rfl (lv_room (Nat.le_of_ble_eq_true rfl)) dM_rest_12 ⟨Nat.zero_le _, Nat.zero_le _⟩) (fun r9 hr9 => ?_)
  subst hr9
  refine lv_lload_n hx hb dM_rest_15 rfl (lv_at hl 0 rfl) ?_
  obtain ⟨h4, hg⟩ := hg
  refine lv_lrem hx hb dM_rest_16 h4 ?_
  refine lv_lstore (lv' := [(4, .long ((FM_whole u p0) - (FM_whole u p0) / (FM_ten u ((Mg_scales u) p0.toNatClampNeg)) * (FM_ten u ((Mg_scales u) p0.toNatClampNeg)))), (2, .long (FM_ten u ((Mg_scales u) p0.toNatClampNeg))), (0, .ref (b 0)), (1, .int p0)]) hx hb dM_rest_17 hl (by decide) rfl (fun ls hl => ?_)
  refine lv_lload hx hb dM_rest_19 (lv_at hl 0 rfl) ?_
  refine lv_lconst (v := 0) hx hb dM_rest_21 (by decide) ?_
  refine W.lcmp hx hb dM_rest_22 ?_
  refine lv_if_ge (tgt := 33) hx hb dM_rest_23 (by decide) (fun c5 => ?_) (fun c5 => ?_)
  · have hf := zt hf c5
    have hg := hg.1 c5
    refine lv_lload hx hb dM_rest_33 (lv_at hl 0 rfl) ?_
    exact kM_rest_35 hI C0 (tgt := tgt) 1000 u ((FM_whole u p0) - (FM_whole u p0) / (FM_ten u ((Mg_scales u) p0.toNatClampNeg)) * (FM_ten u ((Mg_scales u) p0.toNatClampNeg))) (FM_ten u ((Mg_scales u) p0.toNatClampNeg)) p0 ((FM_whole u p0) - (FM_whole u p0) / (FM_ten u ((Mg_scales u) p0.toNatClampNeg)) * (FM_ten u ((Mg_scales u) p0.toNatClampNeg))) hf hg _ _ hP hS ⟨rfl, rfl⟩ _ (lv_sub hl [0, 1, 2, 3] rfl)
  · have hf := zn hf c5
    have hg := hg.2 c5
    refine lv_lload hx hb dM_rest_26 (lv_at hl 0 rfl) ?_
    refine lv_lload_n hx hb dM_rest_28 rfl (lv_at hl 1 rfl) ?_
    refine lv_ladd hx hb dM_rest_29 ?_
    refine lv_goto (tgt := 35) hx hb dM_rest_30 (by decide) ?_
    exact kM_rest_35 hI C0 (tgt := tgt) 1000 u ((FM_whole u p0) - (FM_whole u p0) / (FM_ten u ((Mg_scales u) p0.toNatClampNeg)) * (FM_ten u ((Mg_scales u) p0.toNatClampNeg))) (FM_ten u ((Mg_scales u) p0.toNatClampNeg)) p0 (((FM_whole u p0) - (FM_whole u p0) / (FM_ten u ((Mg_scales u) p0.toNatClampNeg)) * (FM_ten u ((Mg_scales u) p0.toNatClampNeg))) + (FM_ten u ((Mg_scales u) p0.toNatClampNeg))) hf hg _ _ hP hS ⟨rfl, rfl⟩ _ (lv_sub hl [0, 1, 2, 3] rfl)
theorem dM_spell_0 : decode cM_spell 0 = .ok (.iconst 0, 1) := by decide +kernel
theorem dM_spell_1 : decode cM_spell 1 = .ok (.istore_n 2, 1) := by decide +kernel
theorem dM_spell_2 : decode cM_spell 2 = .ok (.iload_n 2, 1) := by decide +kernel
theorem dM_spell_3 : decode cM_spell 3 = .ok (.bipush 40, 2) := by decide +kernel
theorem dM_spell_5 : decode cM_spell 5 = .ok (.if_icmp .ge 17, 3) := by decide +kernel
theorem dM_spell_8 : decode cM_spell 8 = .ok (.aload_n 0, 1) := by decide +kernel
theorem dM_spell_9 : decode cM_spell 9 = .ok (.getfield 72, 3) := by decide +kernel
theorem dM_spell_12 : decode cM_spell 12 = .ok (.iload_n 2, 1) := by decide +kernel
theorem dM_spell_13 : decode cM_spell 13 = .ok (.bipush 32, 2) := by decide +kernel
theorem dM_spell_15 : decode cM_spell 15 = .ok (.iastore, 1) := by decide +kernel
theorem dM_spell_16 : decode cM_spell 16 = .ok (.iinc 2 1, 3) := by decide +kernel
theorem dM_spell_19 : decode cM_spell 19 = .ok (.goto (-17), 3) := by decide +kernel
theorem dM_spell_22 : decode cM_spell 22 = .ok (.iconst 0, 1) := by decide +kernel
theorem dM_spell_23 : decode cM_spell 23 = .ok (.istore_n 2, 1) := by decide +kernel
theorem dM_spell_24 : decode cM_spell 24 = .ok (.iload_n 2, 1) := by decide +kernel
theorem dM_spell_25 : decode cM_spell 25 = .ok (.aload_n 0, 1) := by decide +kernel
theorem dM_spell_26 : decode cM_spell 26 = .ok (.getfield 16, 3) := by decide +kernel
theorem dM_spell_29 : decode cM_spell 29 = .ok (.iload_n 1, 1) := by decide +kernel
theorem dM_spell_30 : decode cM_spell 30 = .ok (.iaload, 1) := by decide +kernel
theorem dM_spell_31 : decode cM_spell 31 = .ok (.if_icmp .ge 54, 3) := by decide +kernel
theorem dM_spell_34 : decode cM_spell 34 = .ok (.aload_n 0, 1) := by decide +kernel
theorem dM_spell_35 : decode cM_spell 35 = .ok (.getfield 72, 3) := by decide +kernel
theorem dM_spell_38 : decode cM_spell 38 = .ok (.iload_n 2, 1) := by decide +kernel
theorem dM_spell_39 : decode cM_spell 39 = .ok (.aload_n 0, 1) := by decide +kernel
theorem dM_spell_40 : decode cM_spell 40 = .ok (.getfield 13, 3) := by decide +kernel
theorem dM_spell_43 : decode cM_spell 43 = .ok (.iload_n 1, 1) := by decide +kernel
theorem dM_spell_44 : decode cM_spell 44 = .ok (.iaload, 1) := by decide +kernel
theorem dM_spell_45 : decode cM_spell 45 = .ok (.iconst 1, 1) := by decide +kernel
theorem dM_spell_46 : decode cM_spell 46 = .ok (.if_icmp .ne 26, 3) := by decide +kernel
theorem dM_spell_49 : decode cM_spell 49 = .ok (.aload_n 0, 1) := by decide +kernel
theorem dM_spell_50 : decode cM_spell 50 = .ok (.iload_n 1, 1) := by decide +kernel
theorem dM_spell_51 : decode cM_spell 51 = .ok (.iload_n 2, 1) := by decide +kernel
theorem dM_spell_52 : decode cM_spell 52 = .ok (.invokevirtual 99, 3) := by decide +kernel
theorem dM_spell_55 : decode cM_spell 55 = .ok (.bipush 112, 2) := by decide +kernel
theorem dM_spell_57 : decode cM_spell 57 = .ok (.if_icmp .lt 15, 3) := by decide +kernel
theorem dM_spell_60 : decode cM_spell 60 = .ok (.aload_n 0, 1) := by decide +kernel
theorem dM_spell_61 : decode cM_spell 61 = .ok (.iload_n 1, 1) := by decide +kernel
theorem dM_spell_62 : decode cM_spell 62 = .ok (.iload_n 2, 1) := by decide +kernel
theorem dM_spell_63 : decode cM_spell 63 = .ok (.invokevirtual 99, 3) := by decide +kernel
theorem dM_spell_66 : decode cM_spell 66 = .ok (.bipush 64, 2) := by decide +kernel
theorem dM_spell_68 : decode cM_spell 68 = .ok (.isub, 1) := by decide +kernel
theorem dM_spell_69 : decode cM_spell 69 = .ok (.goto 9, 3) := by decide +kernel
theorem dM_spell_72 : decode cM_spell 72 = .ok (.aload_n 0, 1) := by decide +kernel
theorem dM_spell_73 : decode cM_spell 73 = .ok (.iload_n 1, 1) := by decide +kernel
theorem dM_spell_74 : decode cM_spell 74 = .ok (.iload_n 2, 1) := by decide +kernel
theorem dM_spell_75 : decode cM_spell 75 = .ok (.invokevirtual 99, 3) := by decide +kernel
theorem dM_spell_78 : decode cM_spell 78 = .ok (.iastore, 1) := by decide +kernel
theorem dM_spell_79 : decode cM_spell 79 = .ok (.iinc 2 1, 3) := by decide +kernel
theorem dM_spell_82 : decode cM_spell 82 = .ok (.goto (-58), 3) := by decide +kernel
theorem dM_spell_85 : decode cM_spell 85 = .ok (.aload_n 0, 1) := by decide +kernel
theorem dM_spell_86 : decode cM_spell 86 = .ok (.getfield 13, 3) := by decide +kernel
theorem dM_spell_89 : decode cM_spell 89 = .ok (.iload_n 1, 1) := by decide +kernel
theorem dM_spell_90 : decode cM_spell 90 = .ok (.iaload, 1) := by decide +kernel
theorem dM_spell_91 : decode cM_spell 91 = .ok (.iconst 2, 1) := by decide +kernel
theorem dM_spell_92 : decode cM_spell 92 = .ok (.if_icmp .eq 4, 3) := by decide +kernel
theorem dM_spell_95 : decode cM_spell 95 = .ok (.return_, 1) := by decide +kernel
theorem dM_spell_96 : decode cM_spell 96 = .ok (.aload_n 0, 1) := by decide +kernel
theorem dM_spell_97 : decode cM_spell 97 = .ok (.iload_n 1, 1) := by decide +kernel
theorem dM_spell_98 : decode cM_spell 98 = .ok (.invokevirtual 107, 3) := by decide +kernel
theorem dM_spell_101 : decode cM_spell 101 = .ok (.lstore_n 2, 1) := by decide +kernel
theorem dM_spell_102 : decode cM_spell 102 = .ok (.lload_n 2, 1) := by decide +kernel
theorem dM_spell_103 : decode cM_spell 103 = .ok (.lconst 0, 1) := by decide +kernel
theorem dM_spell_104 : decode cM_spell 104 = .ok (.lcmp, 1) := by decide +kernel
theorem dM_spell_105 : decode cM_spell 105 = .ok (.ifCond .ge 9, 3) := by decide +kernel
theorem dM_spell_108 : decode cM_spell 108 = .ok (.lconst 0, 1) := by decide +kernel
theorem dM_spell_109 : decode cM_spell 109 = .ok (.lload_n 2, 1) := by decide +kernel
theorem dM_spell_110 : decode cM_spell 110 = .ok (.lsub, 1) := by decide +kernel
theorem dM_spell_111 : decode cM_spell 111 = .ok (.goto 4, 3) := by decide +kernel
theorem dM_spell_114 : decode cM_spell 114 = .ok (.lload_n 2, 1) := by decide +kernel
theorem dM_spell_115 : decode cM_spell 115 = .ok (.lstore 4, 2) := by decide +kernel
theorem dM_spell_117 : decode cM_spell 117 = .ok (.iconst 1, 1) := by decide +kernel
theorem dM_spell_118 : decode cM_spell 118 = .ok (.istore 6, 2) := by decide +kernel
theorem dM_spell_120 : decode cM_spell 120 = .ok (.lload 4, 2) := by decide +kernel
theorem dM_spell_122 : decode cM_spell 122 = .ok (.iconst 1, 1) := by decide +kernel
theorem dM_spell_123 : decode cM_spell 123 = .ok (.lushr, 1) := by decide +kernel
theorem dM_spell_124 : decode cM_spell 124 = .ok (.ldc2_w 113, 3) := by decide +kernel
theorem dM_spell_127 : decode cM_spell 127 = .ok (.ldiv, 1) := by decide +kernel
theorem dM_spell_128 : decode cM_spell 128 = .ok (.lstore 7, 2) := by decide +kernel
theorem dM_spell_130 : decode cM_spell 130 = .ok (.lload 7, 2) := by decide +kernel
theorem dM_spell_132 : decode cM_spell 132 = .ok (.lconst 0, 1) := by decide +kernel
theorem dM_spell_133 : decode cM_spell 133 = .ok (.lcmp, 1) := by decide +kernel
theorem dM_spell_134 : decode cM_spell 134 = .ok (.ifCond .le 17, 3) := by decide +kernel
theorem dM_spell_137 : decode cM_spell 137 = .ok (.lload 7, 2) := by decide +kernel
theorem dM_spell_139 : decode cM_spell 139 = .ok (.ldc2_w 105, 3) := by decide +kernel
theorem dM_spell_142 : decode cM_spell 142 = .ok (.ldiv, 1) := by decide +kernel
theorem dM_spell_143 : decode cM_spell 143 = .ok (.lstore 7, 2) := by decide +kernel
theorem dM_spell_145 : decode cM_spell 145 = .ok (.iinc 6 1, 3) := by decide +kernel
theorem dM_spell_148 : decode cM_spell 148 = .ok (.goto (-18), 3) := by decide +kernel
theorem dM_spell_151 : decode cM_spell 151 = .ok (.iconst 0, 1) := by decide +kernel
theorem dM_spell_152 : decode cM_spell 152 = .ok (.istore 9, 2) := by decide +kernel
theorem dM_spell_154 : decode cM_spell 154 = .ok (.iload 9, 2) := by decide +kernel
theorem dM_spell_156 : decode cM_spell 156 = .ok (.bipush 40, 2) := by decide +kernel
theorem dM_spell_158 : decode cM_spell 158 = .ok (.if_icmp .ge 18, 3) := by decide +kernel
theorem dM_spell_161 : decode cM_spell 161 = .ok (.aload_n 0, 1) := by decide +kernel
theorem dM_spell_162 : decode cM_spell 162 = .ok (.getfield 72, 3) := by decide +kernel
theorem dM_spell_165 : decode cM_spell 165 = .ok (.iload 9, 2) := by decide +kernel
theorem dM_spell_167 : decode cM_spell 167 = .ok (.bipush 32, 2) := by decide +kernel
theorem dM_spell_169 : decode cM_spell 169 = .ok (.iastore, 1) := by decide +kernel
theorem dM_spell_170 : decode cM_spell 170 = .ok (.iinc 9 1, 3) := by decide +kernel
theorem dM_spell_173 : decode cM_spell 173 = .ok (.goto (-19), 3) := by decide +kernel
theorem dM_spell_176 : decode cM_spell 176 = .ok (.iload 6, 2) := by decide +kernel
theorem dM_spell_178 : decode cM_spell 178 = .ok (.iconst 1, 1) := by decide +kernel
theorem dM_spell_179 : decode cM_spell 179 = .ok (.isub, 1) := by decide +kernel
theorem dM_spell_180 : decode cM_spell 180 = .ok (.istore 9, 2) := by decide +kernel
theorem dM_spell_182 : decode cM_spell 182 = .ok (.iload 9, 2) := by decide +kernel
theorem dM_spell_184 : decode cM_spell 184 = .ok (.ifCond .lt 43, 3) := by decide +kernel
theorem dM_spell_187 : decode cM_spell 187 = .ok (.lload 4, 2) := by decide +kernel
theorem dM_spell_189 : decode cM_spell 189 = .ok (.iconst 1, 1) := by decide +kernel
theorem dM_spell_190 : decode cM_spell 190 = .ok (.lushr, 1) := by decide +kernel
theorem dM_spell_191 : decode cM_spell 191 = .ok (.ldc2_w 113, 3) := by decide +kernel
theorem dM_spell_194 : decode cM_spell 194 = .ok (.ldiv, 1) := by decide +kernel
theorem dM_spell_195 : decode cM_spell 195 = .ok (.lstore 10, 2) := by decide +kernel
theorem dM_spell_197 : decode cM_spell 197 = .ok (.aload_n 0, 1) := by decide +kernel
theorem dM_spell_198 : decode cM_spell 198 = .ok (.getfield 72, 3) := by decide +kernel
theorem dM_spell_201 : decode cM_spell 201 = .ok (.iload 9, 2) := by decide +kernel
theorem dM_spell_203 : decode cM_spell 203 = .ok (.bipush 48, 2) := by decide +kernel
theorem dM_spell_205 : decode cM_spell 205 = .ok (.lload 4, 2) := by decide +kernel
theorem dM_spell_207 : decode cM_spell 207 = .ok (.lload 10, 2) := by decide +kernel
theorem dM_spell_209 : decode cM_spell 209 = .ok (.ldc2_w 105, 3) := by decide +kernel
theorem dM_spell_212 : decode cM_spell 212 = .ok (.lmul, 1) := by decide +kernel
theorem dM_spell_213 : decode cM_spell 213 = .ok (.lsub, 1) := by decide +kernel
theorem dM_spell_214 : decode cM_spell 214 = .ok (.l2i, 1) := by decide +kernel
theorem dM_spell_215 : decode cM_spell 215 = .ok (.iadd, 1) := by decide +kernel
theorem dM_spell_216 : decode cM_spell 216 = .ok (.iastore, 1) := by decide +kernel
theorem dM_spell_217 : decode cM_spell 217 = .ok (.lload 10, 2) := by decide +kernel
theorem dM_spell_219 : decode cM_spell 219 = .ok (.lstore 4, 2) := by decide +kernel
theorem dM_spell_221 : decode cM_spell 221 = .ok (.iinc 9 (-1), 3) := by decide +kernel
theorem dM_spell_224 : decode cM_spell 224 = .ok (.goto (-42), 3) := by decide +kernel
theorem dM_spell_227 : decode cM_spell 227 = .ok (.return_, 1) := by decide +kernel
abbrev wsM_spell : List Cond := Cond.code yM_spell cM_spell 12 none :: zWords
def LM_spell_182 : Nat → MS → Int32 → Int64 → Int32 → Int64 → Int64 → Int32 → MS
  | 0, u, _, _, _, _, _, _ => u
  | n + 1, u, x9, x7, x6, x4, x2, x1 => (if x9 < 0 then u else (zlet (Ms_digits u (upd (Mg_digits u) (x9.toNatClampNeg) (48 + (((x4 - ((((x4 : Int64).toUInt64 >>> ((1 : Int32).toInt64.toUInt64 &&& Int64.toUInt64 63)).toInt64 / 5) * 10)) : Int64).toInt32)))) (fun u29 => (LM_spell_182 n u29 (x9 + (-1)) x7 x6 (((x4 : Int64).toUInt64 >>> ((1 : Int32).toInt64.toUInt64 &&& Int64.toUInt64 63)).toInt64 / 5) x2 x1))))
def MM_spell_182 : Nat → MS → Int32 → Int64 → Int32 → Int64 → Int64 → Int32 → Prop
  | 0, _, _, _, _, _, _, _ => False
  | n + 1, u, x9, x7, x6, x4, x2, x1 => ((x9 < 0 → True) ∧ (¬ x9 < 0 → (vp_in x9 40 ∧ (zlet (Ms_digits u (upd (Mg_digits u) (x9.toNatClampNeg) (48 + (((x4 - ((((x4 : Int64).toUInt64 >>> ((1 : Int32).toInt64.toUInt64 &&& Int64.toUInt64 63)).toInt64 / 5) * 10)) : Int64).toInt32)))) (fun u29 => (MM_spell_182 n u29 (x9 + (-1)) x7 x6 (((x4 : Int64).toUInt64 >>> ((1 : Int32).toInt64.toUInt64 &&& Int64.toUInt64 63)).toInt64 / 5) x2 x1))))))
def LM_spell_154 : Nat → MS → Int32 → Int64 → Int32 → Int64 → Int64 → Int32 → MS
  | 0, u, _, _, _, _, _, _ => u
  | n + 1, u, x9, x7, x6, x4, x2, x1 => (if (40 : Int32) ≤ x9 then (LM_spell_182 n u (x6 - 1) x7 x6 x4 x2 x1) else (zlet (Ms_digits u (upd (Mg_digits u) (x9.toNatClampNeg) 32)) (fun u26 => (LM_spell_154 n u26 (x9 + 1) x7 x6 x4 x2 x1))))
def MM_spell_154 : Nat → MS → Int32 → Int64 → Int32 → Int64 → Int64 → Int32 → Prop
  | 0, _, _, _, _, _, _, _ => False
  | n + 1, u, x9, x7, x6, x4, x2, x1 => (((40 : Int32) ≤ x9 → (MM_spell_182 n u (x6 - 1) x7 x6 x4 x2 x1)) ∧ (¬ (40 : Int32) ≤ x9 → (vp_in x9 40 ∧ (zlet (Ms_digits u (upd (Mg_digits u) (x9.toNatClampNeg) 32)) (fun u26 => (MM_spell_154 n u26 (x9 + 1) x7 x6 x4 x2 x1))))))
def LM_spell_130 : Nat → MS → Int64 → Int32 → Int64 → Int64 → Int32 → MS
  | 0, u, _, _, _, _, _ => u
  | n + 1, u, x7, x6, x4, x2, x1 => (if (lg_cmp x7 0) ≤ 0 then (LM_spell_154 n u 0 x7 x6 x4 x2 x1) else (LM_spell_130 n u (x7 / 10) (x6 + 1) x4 x2 x1))
def MM_spell_130 : Nat → MS → Int64 → Int32 → Int64 → Int64 → Int32 → Prop
  | 0, _, _, _, _, _, _ => False
  | n + 1, u, x7, x6, x4, x2, x1 => (((lg_cmp x7 0) ≤ 0 → (MM_spell_154 n u 0 x7 x6 x4 x2 x1)) ∧ (¬ (lg_cmp x7 0) ≤ 0 → (MM_spell_130 n u (x7 / 10) (x6 + 1) x4 x2 x1)))
def LM_spell_24 : Nat → MS → Int32 → Int32 → MS
  | 0, u, _, _ => u
  | n + 1, u, x2, x1 => (if ((Mg_sizes u) x1.toNatClampNeg) ≤ x2 then (if ((Mg_categories u) x1.toNatClampNeg) = 2 then (if (0 : Int32) ≤ (lg_cmp (FM_whole u x1) 0) then (LM_spell_130 n u ((((FM_whole u x1) : Int64).toUInt64 >>> ((1 : Int32).toInt64.toUInt64 &&& Int64.toUInt64 63)).toInt64 / 5) 1 (FM_whole u x1) (FM_whole u x1) x1) else (LM_spell_130 n u ((((0 - (FM_whole u x1)) : Int64).toUInt64 >>> ((1 : Int32).toInt64.toUInt64 &&& Int64.toUInt64 63)).toInt64 / 5) 1 (0 - (FM_whole u x1)) (FM_whole u x1) x1)) else u) else (if ((Mg_categories u) x1.toNatClampNeg) = 1 then (if (FM_read u x1 x2) < 112 then (zlet (Ms_digits u (upd (Mg_digits u) (x2.toNatClampNeg) (FM_read u x1 x2))) (fun u19 => (LM_spell_24 n u19 (x2 + 1) x1))) else (zlet (Ms_digits u (upd (Mg_digits u) (x2.toNatClampNeg) ((FM_read u x1 x2) - 64))) (fun u22 => (LM_spell_24 n u22 (x2 + 1) x1)))) else (zlet (Ms_digits u (upd (Mg_digits u) (x2.toNatClampNeg) (FM_read u x1 x2))) (fun u14 => (LM_spell_24 n u14 (x2 + 1) x1)))))
def MM_spell_24 : Nat → MS → Int32 → Int32 → Prop
  | 0, _, _, _ => False
  | n + 1, u, x2, x1 => (vp_in x1 40 ∧ ((((Mg_sizes u) x1.toNatClampNeg) ≤ x2 → (vp_in x1 40 ∧ ((((Mg_categories u) x1.toNatClampNeg) = 2 → (GM_whole u x1 ∧ (((0 : Int32) ≤ (lg_cmp (FM_whole u x1) 0) → (MM_spell_130 n u ((((FM_whole u x1) : Int64).toUInt64 >>> ((1 : Int32).toInt64.toUInt64 &&& Int64.toUInt64 63)).toInt64 / 5) 1 (FM_whole u x1) (FM_whole u x1) x1)) ∧ (¬ (0 : Int32) ≤ (lg_cmp (FM_whole u x1) 0) → (MM_spell_130 n u ((((0 - (FM_whole u x1)) : Int64).toUInt64 >>> ((1 : Int32).toInt64.toUInt64 &&& Int64.toUInt64 63)).toInt64 / 5) 1 (0 - (FM_whole u x1)) (FM_whole u x1) x1))))) ∧ (¬ ((Mg_categories u) x1.toNatClampNeg) = 2 → True)))) ∧ (¬ ((Mg_sizes u) x1.toNatClampNeg) ≤ x2 → (vp_in x1 40 ∧ ((((Mg_categories u) x1.toNatClampNeg) = 1 → (GM_read u x1 x2 ∧ (((FM_read u x1 x2) < 112 → (GM_read u x1 x2 ∧ (vp_in x2 40 ∧ (zlet (Ms_digits u (upd (Mg_digits u) (x2.toNatClampNeg) (FM_read u x1 x2))) (fun u19 => (MM_spell_24 n u19 (x2 + 1) x1)))))) ∧ (¬ (FM_read u x1 x2) < 112 → (GM_read u x1 x2 ∧ (vp_in x2 40 ∧ (zlet (Ms_digits u (upd (Mg_digits u) (x2.toNatClampNeg) ((FM_read u x1 x2) - 64))) (fun u22 => (MM_spell_24 n u22 (x2 + 1) x1))))))))) ∧ (¬ ((Mg_categories u) x1.toNatClampNeg) = 1 → (GM_read u x1 x2 ∧ (vp_in x2 40 ∧ (zlet (Ms_digits u (upd (Mg_digits u) (x2.toNatClampNeg) (FM_read u x1 x2))) (fun u14 => (MM_spell_24 n u14 (x2 + 1) x1)))))))))))
def LM_spell_2 : Nat → MS → Int32 → Int32 → MS
  | 0, u, _, _ => u
  | n + 1, u, x2, x1 => (if (40 : Int32) ≤ x2 then (LM_spell_24 n u 0 x1) else (zlet (Ms_digits u (upd (Mg_digits u) (x2.toNatClampNeg) 32)) (fun u3 => (LM_spell_2 n u3 (x2 + 1) x1))))
def MM_spell_2 : Nat → MS → Int32 → Int32 → Prop
  | 0, _, _, _ => False
  | n + 1, u, x2, x1 => (((40 : Int32) ≤ x2 → (MM_spell_24 n u 0 x1)) ∧ (¬ (40 : Int32) ≤ x2 → (vp_in x2 40 ∧ (zlet (Ms_digits u (upd (Mg_digits u) (x2.toNatClampNeg) 32)) (fun u3 => (MM_spell_2 n u3 (x2 + 1) x1))))))
def FM_spell (u : MS) (p0 : Int32) : MS := (LM_spell_2 1000 u 0 p0)
def GM_spell (u : MS) (p0 : Int32) : Prop := (MM_spell_2 1000 u 0 p0)
set_option maxHeartbeats 4000000 in
set_option maxRecDepth 100000 in
theorem kM_spell_182 {p : Program} {l : Launch} {e : Env} {s : State} {m : MethodId} {args : Array Value} {below : List Frame} {meth : Method} {c : Code} {D : va_G} {k : zK} {b : Nat → Nat} (hI : zI 22 b) (C0 : zC p s m args meth c cM_spell none 12 RM wsM_spell D k (zA 22 b)) {tgt : MS} : ∀ (n : Nat) (u : MS) (x9 : Int32) (x7 : Int64) (x6 : Int32) (x4 : Int64) (x2 : Int64) (x1 : Int32), LM_spell_182 n u x9 x7 x6 x4 x2 x1 = tgt → MM_spell_182 n u x9 x7 x6 x4 x2 x1 → ∀ (H : Heap) (locs : List Loc), va_P D vwCl (wM k b u) H → va_S (zA 22 b) s.heap H locs → ∀ (ls : Array Slot), lv_has ls 12 [(9, .int x9), (7, .long x7), (6, .int x6), (4, .long x4), (2, .long x2), (0, .ref (b 0)), (1, .int x1)] → W p l e (headSpec wsM_spell ({ frames := 2, cells := 0, slots := 0, locals := 46 })).room s m args below meth c H locs 0 0 (MQ below (zQv D (wM k b) (zA 22 b) tgt) args s 0 0 (zA 22 b)) (F0 m 182 ls []) := by
  obtain ⟨hx, hb, hr, hml, hown, hts, hlocks, hE⟩ := id C0
  have hK := hE.1
  intro n
  induction n with
  | zero =>
    intro u x9 x7 x6 x4 x2 x1 _ hg
    exact False.elim hg
  | succ n ih =>
    intro u x9 x7 x6 x4 x2 x1 hf hg H locs hP hS ls hl
    change ((if x9 < 0 then u else (zlet (Ms_digits u (upd (Mg_digits u) (x9.toNatClampNeg) (48 + (((x4 - ((((x4 : Int64).toUInt64 >>> ((1 : Int32).toInt64.toUInt64 &&& Int64.toUInt64 63)).toInt64 / 5) * 10)) : Int64).toInt32)))) (fun u29 => (LM_spell_182 n u29 (x9 + (-1)) x7 x6 (((x4 : Int64).toUInt64 >>> ((1 : Int32).toInt64.toUInt64 &&& Int64.toUInt64 63)).toInt64 / 5) x2 x1)))) : MS) = tgt at hf
    change ((x9 < 0 → True) ∧ (¬ x9 < 0 → (vp_in x9 40 ∧ (zlet (Ms_digits u (upd (Mg_digits u) (x9.toNatClampNeg) (48 + (((x4 - ((((x4 : Int64).toUInt64 >>> ((1 : Int32).toInt64.toUInt64 &&& Int64.toUInt64 63)).toInt64 / 5) * 10)) : Int64).toInt32)))) (fun u29 => (MM_spell_182 n u29 (x9 + (-1)) x7 x6 (((x4 : Int64).toUInt64 >>> ((1 : Int32).toInt64.toUInt64 &&& Int64.toUInt64 63)).toInt64 / 5) x2 x1)))))) at hg
    refine lv_iload hx hb dM_spell_182 (lv_at hl 0 rfl) ?_
    refine lv_if_lt (tgt := 227) hx hb dM_spell_184 (by decide) (fun c27 => ?_) (fun c27 => ?_)
    · have hf := zt hf c27
      have hg := hg.1 c27
      exact W.vret hx hb hr (fun t ht hW => zrv hf hP ht (hS.F ht)) hS.2.2 dM_spell_227
    · have hf := zn hf c27
      have hg := hg.2 c27
      refine lv_lload hx hb dM_spell_187 (lv_at hl 3 rfl) ?_
      refine lv_iconst (v := 1) hx hb dM_spell_189 (by decide) ?_
      refine lv_lushr (v := ((x4 : Int64).toUInt64 >>> ((1 : Int32).toInt64.toUInt64 &&& Int64.toUInt64 63)).toInt64) hx hb dM_spell_190 rfl ?_
      refine lv_ldc2 (v := 5) hx hb hown (hts _ (zc m_814)) dM_spell_191 ?_
      refine lv_ldiv hx hb dM_spell_194 (by decide) ?_
      refine lv_lstore (lv' := [(10, .long (((x4 : Int64).toUInt64 >>> ((1 : Int32).toInt64.toUInt64 &&& Int64.toUInt64 63)).toInt64 / 5)), (9, .int x9), (7, .long x7), (6, .int x6), (4, .long x4), (2, .long x2), (0, .ref (b 0)), (1, .int x1)]) hx hb dM_spell_195 hl (by decide) rfl (fun ls hl => ?_)
      refine lv_aload_n hx hb dM_spell_197 rfl (lv_at hl 6 rfl) ?_
      refine va_get (D := D) (ci := 7) (v := .ref (b 21)) (C := RM) (T := TM) (N := 30) hx hb hts (fun w h9 => zc (inM w h9)) hown hK hP 0 rfl rfl 29 (by decide) (hts _ (zc m_626)) (fun _ h9 => h9) rfl dM_spell_198 ?_
      refine lv_iload hx hb dM_spell_201 (lv_at hl 1 rfl) ?_
      refine lv_bipush (v := 48) hx hb dM_spell_203 (by decide) ?_
      refine lv_lload hx hb dM_spell_205 (lv_at hl 4 rfl) ?_
      refine lv_lload hx hb dM_spell_207 (lv_at hl 0 rfl) ?_
      refine lv_ldc2 (v := 10) hx hb hown (hts _ (zc m_799)) dM_spell_209 ?_
      refine lv_lmul hx hb dM_spell_212 ?_
      refine lv_lsub hx hb dM_spell_213 ?_
      refine lv_l2i (v := ((x4 - ((((x4 : Int64).toUInt64 >>> ((1 : Int32).toInt64.toUInt64 &&& Int64.toUInt64 63)).toInt64 / 5) * 10)) : Int64).toInt32) hx hb dM_spell_214 rfl ?_
      refine lv_iadd hx hb dM_spell_215 ?_
      obtain ⟨h28, hg⟩ := hg
      refine va_iast hx hb hK hP (MD hI _) hS 21 0 rfl rfl h28 dM_spell_216 (fun H locs hP _ hS => ?_)
      obtain ⟨u29, hP, hf, hg⟩ := zlets (E := (Ms_digits u (upd (Mg_digits u) (x9.toNatClampNeg) (48 + (((x4 - ((((x4 : Int64).toUInt64 >>> ((1 : Int32).toInt64.toUInt64 &&& Int64.toUInt64 63)).toInt64 / 5) * 10)) : Int64).toInt32))))) (w := wM k b) (Mp_digits hP) hf hg
      refine lv_lload hx hb dM_spell_217 (lv_at hl 0 rfl) ?_
      refine lv_lstore (lv' := [(4, .long (((x4 : Int64).toUInt64 >>> ((1 : Int32).toInt64.toUInt64 &&& Int64.toUInt64 63)).toInt64 / 5)), (10, .long (((x4 : Int64).toUInt64 >>> ((1 : Int32).toInt64.toUInt64 &&& Int64.toUInt64 63)).toInt64 / 5)), (9, .int x9), (7, .long x7), (6, .int x6), (2, .long x2), (0, .ref (b 0)), (1, .int x1)]) hx hb dM_spell_219 hl (by decide) rfl (fun ls hl => ?_)
      refine lv_iinc (v := (x9 + (-1))) (lv' := [(9, .int (x9 + (-1))), (4, .long (((x4 : Int64).toUInt64 >>> ((1 : Int32).toInt64.toUInt64 &&& Int64.toUInt64 63)).toInt64 / 5)), (10, .long (((x4 : Int64).toUInt64 >>> ((1 : Int32).toInt64.toUInt64 &&& Int64.toUInt64 63)).toInt64 / 5)), (7, .long x7), (6, .int x6), (2, .long x2), (0, .ref (b 0)), (1, .int x1)]) hx hb dM_spell_221 hl (k := 2) rfl rfl (by decide) rfl (fun ls hl => ?_)
      refine lv_goto (tgt := 182) hx hb dM_spell_224 (by decide) ?_
      exact ih u29 (x9 + (-1)) x7 x6 (((x4 : Int64).toUInt64 >>> ((1 : Int32).toInt64.toUInt64 &&& Int64.toUInt64 63)).toInt64 / 5) x2 x1 hf hg _ _ hP hS _ (lv_sub hl [0, 3, 4, 1, 5, 6, 7] rfl)
set_option maxHeartbeats 4000000 in
set_option maxRecDepth 100000 in
theorem kM_spell_154 {p : Program} {l : Launch} {e : Env} {s : State} {m : MethodId} {args : Array Value} {below : List Frame} {meth : Method} {c : Code} {D : va_G} {k : zK} {b : Nat → Nat} (hI : zI 22 b) (C0 : zC p s m args meth c cM_spell none 12 RM wsM_spell D k (zA 22 b)) {tgt : MS} : ∀ (n : Nat) (u : MS) (x9 : Int32) (x7 : Int64) (x6 : Int32) (x4 : Int64) (x2 : Int64) (x1 : Int32), LM_spell_154 n u x9 x7 x6 x4 x2 x1 = tgt → MM_spell_154 n u x9 x7 x6 x4 x2 x1 → ∀ (H : Heap) (locs : List Loc), va_P D vwCl (wM k b u) H → va_S (zA 22 b) s.heap H locs → ∀ (ls : Array Slot), lv_has ls 12 [(9, .int x9), (7, .long x7), (6, .int x6), (4, .long x4), (2, .long x2), (0, .ref (b 0)), (1, .int x1)] → W p l e (headSpec wsM_spell ({ frames := 2, cells := 0, slots := 0, locals := 46 })).room s m args below meth c H locs 0 0 (MQ below (zQv D (wM k b) (zA 22 b) tgt) args s 0 0 (zA 22 b)) (F0 m 154 ls []) := by
  obtain ⟨hx, hb, hr, hml, hown, hts, hlocks, hE⟩ := id C0
  have hK := hE.1
  intro n
  induction n with
  | zero =>
    intro u x9 x7 x6 x4 x2 x1 _ hg
    exact False.elim hg
  | succ n ih =>
    intro u x9 x7 x6 x4 x2 x1 hf hg H locs hP hS ls hl
    change ((if (40 : Int32) ≤ x9 then (LM_spell_182 n u (x6 - 1) x7 x6 x4 x2 x1) else (zlet (Ms_digits u (upd (Mg_digits u) (x9.toNatClampNeg) 32)) (fun u26 => (LM_spell_154 n u26 (x9 + 1) x7 x6 x4 x2 x1)))) : MS) = tgt at hf
    change (((40 : Int32) ≤ x9 → (MM_spell_182 n u (x6 - 1) x7 x6 x4 x2 x1)) ∧ (¬ (40 : Int32) ≤ x9 → (vp_in x9 40 ∧ (zlet (Ms_digits u (upd (Mg_digits u) (x9.toNatClampNeg) 32)) (fun u26 => (MM_spell_154 n u26 (x9 + 1) x7 x6 x4 x2 x1)))))) at hg
    refine lv_iload hx hb dM_spell_154 (lv_at hl 0 rfl) ?_
    refine lv_bipush (v := 40) hx hb dM_spell_156 (by decide) ?_
    refine lv_icmp_ge (tgt := 176) hx hb dM_spell_158 (by decide) (fun c24 => ?_) (fun c24 => ?_)
    · have hf := zt hf c24
      have hg := hg.1 c24
      refine lv_iload hx hb dM_spell_176 (lv_at hl 2 rfl) ?_
      refine lv_iconst (v := 1) hx hb dM_spell_178 (by decide) ?_
      refine lv_isub hx hb dM_spell_179 ?_
      refine lv_istore (lv' := [(9, .int (x6 - 1)), (7, .long x7), (6, .int x6), (4, .long x4), (2, .long x2), (0, .ref (b 0)), (1, .int x1)]) hx hb dM_spell_180 hl (by decide) rfl (fun ls hl => ?_)
      exact kM_spell_182 hI C0 (tgt := tgt) n u (x6 - 1) x7 x6 x4 x2 x1 hf hg _ _ hP hS _ (lv_sub hl [0, 1, 2, 3, 4, 5, 6] rfl)
    · have hf := zn hf c24
      have hg := hg.2 c24
      refine lv_aload_n hx hb dM_spell_161 rfl (lv_at hl 5 rfl) ?_
      refine va_get (D := D) (ci := 7) (v := .ref (b 21)) (C := RM) (T := TM) (N := 30) hx hb hts (fun w h9 => zc (inM w h9)) hown hK hP 0 rfl rfl 29 (by decide) (hts _ (zc m_626)) (fun _ h9 => h9) rfl dM_spell_162 ?_
      refine lv_iload hx hb dM_spell_165 (lv_at hl 0 rfl) ?_
      refine lv_bipush (v := 32) hx hb dM_spell_167 (by decide) ?_
      obtain ⟨h25, hg⟩ := hg
      refine va_iast hx hb hK hP (MD hI _) hS 21 0 rfl rfl h25 dM_spell_169 (fun H locs hP _ hS => ?_)
      obtain ⟨u26, hP, hf, hg⟩ := zlets (E := (Ms_digits u (upd (Mg_digits u) (x9.toNatClampNeg) 32))) (w := wM k b) (Mp_digits hP) hf hg
      refine lv_iinc (v := (x9 + 1)) (lv' := [(9, .int (x9 + 1)), (7, .long x7), (6, .int x6), (4, .long x4), (2, .long x2), (0, .ref (b 0)), (1, .int x1)]) hx hb dM_spell_170 hl (k := 0) rfl rfl (by decide) rfl (fun ls hl => ?_)
      refine lv_goto (tgt := 154) hx hb dM_spell_173 (by decide) ?_
      exact ih u26 (x9 + 1) x7 x6 x4 x2 x1 hf hg _ _ hP hS _ (lv_sub hl [0, 1, 2, 3, 4, 5, 6] rfl)
set_option maxHeartbeats 4000000 in
set_option maxRecDepth 100000 in
theorem kM_spell_130 {p : Program} {l : Launch} {e : Env} {s : State} {m : MethodId} {args : Array Value} {below : List Frame} {meth : Method} {c : Code} {D : va_G} {k : zK} {b : Nat → Nat} (hI : zI 22 b) (C0 : zC p s m args meth c cM_spell none 12 RM wsM_spell D k (zA 22 b)) {tgt : MS} : ∀ (n : Nat) (u : MS) (x7 : Int64) (x6 : Int32) (x4 : Int64) (x2 : Int64) (x1 : Int32), LM_spell_130 n u x7 x6 x4 x2 x1 = tgt → MM_spell_130 n u x7 x6 x4 x2 x1 → ∀ (H : Heap) (locs : List Loc), va_P D vwCl (wM k b u) H → va_S (zA 22 b) s.heap H locs → ∀ (ls : Array Slot), lv_has ls 12 [(7, .long x7), (6, .int x6), (4, .long x4), (2, .long x2), (0, .ref (b 0)), (1, .int x1)] → W p l e (headSpec wsM_spell ({ frames := 2, cells := 0, slots := 0, locals := 46 })).room s m args below meth c H locs 0 0 (MQ below (zQv D (wM k b) (zA 22 b) tgt) args s 0 0 (zA 22 b)) (F0 m 130 ls []) := by
  obtain ⟨hx, hb, hr, hml, hown, hts, hlocks, hE⟩ := id C0
  have hK := hE.1
  intro n
  induction n with
  | zero =>
    intro u x7 x6 x4 x2 x1 _ hg
    exact False.elim hg
  | succ n ih =>
    intro u x7 x6 x4 x2 x1 hf hg H locs hP hS ls hl
    change ((if (lg_cmp x7 0) ≤ 0 then (LM_spell_154 n u 0 x7 x6 x4 x2 x1) else (LM_spell_130 n u (x7 / 10) (x6 + 1) x4 x2 x1)) : MS) = tgt at hf
    change (((lg_cmp x7 0) ≤ 0 → (MM_spell_154 n u 0 x7 x6 x4 x2 x1)) ∧ (¬ (lg_cmp x7 0) ≤ 0 → (MM_spell_130 n u (x7 / 10) (x6 + 1) x4 x2 x1))) at hg
    refine lv_lload hx hb dM_spell_130 (lv_at hl 0 rfl) ?_
    refine lv_lconst (v := 0) hx hb dM_spell_132 (by decide) ?_
    refine W.lcmp hx hb dM_spell_133 ?_
    refine lv_if_le (tgt := 151) hx hb dM_spell_134 (by decide) (fun c23 => ?_) (fun c23 => ?_)
    · have hf := zt hf c23
      have hg := hg.1 c23
      refine lv_iconst (v := 0) hx hb dM_spell_151 (by decide) ?_
      refine lv_istore (lv' := [(9, .int 0), (7, .long x7), (6, .int x6), (4, .long x4), (2, .long x2), (0, .ref (b 0)), (1, .int x1)]) hx hb dM_spell_152 hl (by decide) rfl (fun ls hl => ?_)
      exact kM_spell_154 hI C0 (tgt := tgt) n u 0 x7 x6 x4 x2 x1 hf hg _ _ hP hS _ (lv_sub hl [0, 1, 2, 3, 4, 5, 6] rfl)
    · have hf := zn hf c23
      have hg := hg.2 c23
      refine lv_lload hx hb dM_spell_137 (lv_at hl 0 rfl) ?_
      refine lv_ldc2 (v := 10) hx hb hown (hts _ (zc m_799)) dM_spell_139 ?_
      refine lv_ldiv hx hb dM_spell_142 (by decide) ?_
      refine lv_lstore (lv' := [(7, .long (x7 / 10)), (6, .int x6), (4, .long x4), (2, .long x2), (0, .ref (b 0)), (1, .int x1)]) hx hb dM_spell_143 hl (by decide) rfl (fun ls hl => ?_)
      refine lv_iinc (v := (x6 + 1)) (lv' := [(6, .int (x6 + 1)), (7, .long (x7 / 10)), (4, .long x4), (2, .long x2), (0, .ref (b 0)), (1, .int x1)]) hx hb dM_spell_145 hl (k := 1) rfl rfl (by decide) rfl (fun ls hl => ?_)
      refine lv_goto (tgt := 130) hx hb dM_spell_148 (by decide) ?_
      exact ih u (x7 / 10) (x6 + 1) x4 x2 x1 hf hg _ _ hP hS _ (lv_sub hl [1, 0, 2, 3, 4, 5] rfl)
set_option maxHeartbeats 4000000 in
set_option maxRecDepth 100000 in
theorem kM_spell_24 {p : Program} {l : Launch} {e : Env} {s : State} {m : MethodId} {args : Array Value} {below : List Frame} {meth : Method} {c : Code} {D : va_G} {k : zK} {b : Nat → Nat} (hI : zI 22 b) (C0 : zC p s m args meth c cM_spell none 12 RM wsM_spell D k (zA 22 b)) {tgt : MS} : ∀ (n : Nat) (u : MS) (x2 : Int32) (x1 : Int32), LM_spell_24 n u x2 x1 = tgt → MM_spell_24 n u x2 x1 → ∀ (H : Heap) (locs : List Loc), va_P D vwCl (wM k b u) H → va_S (zA 22 b) s.heap H locs → ∀ (ls : Array Slot), lv_has ls 12 [(2, .int x2), (0, .ref (b 0)), (1, .int x1)] → W p l e (headSpec wsM_spell ({ frames := 2, cells := 0, slots := 0, locals := 46 })).room s m args below meth c H locs 0 0 (MQ below (zQv D (wM k b) (zA 22 b) tgt) args s 0 0 (zA 22 b)) (F0 m 24 ls []) := by
  obtain ⟨hx, hb, hr, hml, hown, hts, hlocks, hE⟩ := id C0
  have hK := hE.1
  intro n
  induction n with
  | zero =>
    intro u x2 x1 _ hg
    exact False.elim hg
  | succ n ih =>
    intro u x2 x1 hf hg H locs hP hS ls hl
    change ((if ((Mg_sizes u) x1.toNatClampNeg) ≤ x2 then (if ((Mg_categories u) x1.toNatClampNeg) = 2 then (if (0 : Int32) ≤ (lg_cmp (FM_whole u x1) 0) then (LM_spell_130 n u ((((FM_whole u x1) : Int64).toUInt64 >>> ((1 : Int32).toInt64.toUInt64 &&& Int64.toUInt64 63)).toInt64 / 5) 1 (FM_whole u x1) (FM_whole u x1) x1) else (LM_spell_130 n u ((((0 - (FM_whole u x1)) : Int64).toUInt64 >>> ((1 : Int32).toInt64.toUInt64 &&& Int64.toUInt64 63)).toInt64 / 5) 1 (0 - (FM_whole u x1)) (FM_whole u x1) x1)) else u) else (if ((Mg_categories u) x1.toNatClampNeg) = 1 then (if (FM_read u x1 x2) < 112 then (zlet (Ms_digits u (upd (Mg_digits u) (x2.toNatClampNeg) (FM_read u x1 x2))) (fun u19 => (LM_spell_24 n u19 (x2 + 1) x1))) else (zlet (Ms_digits u (upd (Mg_digits u) (x2.toNatClampNeg) ((FM_read u x1 x2) - 64))) (fun u22 => (LM_spell_24 n u22 (x2 + 1) x1)))) else (zlet (Ms_digits u (upd (Mg_digits u) (x2.toNatClampNeg) (FM_read u x1 x2))) (fun u14 => (LM_spell_24 n u14 (x2 + 1) x1))))) : MS) = tgt at hf
    change (vp_in x1 40 ∧ ((((Mg_sizes u) x1.toNatClampNeg) ≤ x2 → (vp_in x1 40 ∧ ((((Mg_categories u) x1.toNatClampNeg) = 2 → (GM_whole u x1 ∧ (((0 : Int32) ≤ (lg_cmp (FM_whole u x1) 0) → (MM_spell_130 n u ((((FM_whole u x1) : Int64).toUInt64 >>> ((1 : Int32).toInt64.toUInt64 &&& Int64.toUInt64 63)).toInt64 / 5) 1 (FM_whole u x1) (FM_whole u x1) x1)) ∧ (¬ (0 : Int32) ≤ (lg_cmp (FM_whole u x1) 0) → (MM_spell_130 n u ((((0 - (FM_whole u x1)) : Int64).toUInt64 >>> ((1 : Int32).toInt64.toUInt64 &&& Int64.toUInt64 63)).toInt64 / 5) 1 (0 - (FM_whole u x1)) (FM_whole u x1) x1))))) ∧ (¬ ((Mg_categories u) x1.toNatClampNeg) = 2 → True)))) ∧ (¬ ((Mg_sizes u) x1.toNatClampNeg) ≤ x2 → (vp_in x1 40 ∧ ((((Mg_categories u) x1.toNatClampNeg) = 1 → (GM_read u x1 x2 ∧ (((FM_read u x1 x2) < 112 → (GM_read u x1 x2 ∧ (vp_in x2 40 ∧ (zlet (Ms_digits u (upd (Mg_digits u) (x2.toNatClampNeg) (FM_read u x1 x2))) (fun u19 => (MM_spell_24 n u19 (x2 + 1) x1)))))) ∧ (¬ (FM_read u x1 x2) < 112 → (GM_read u x1 x2 ∧ (vp_in x2 40 ∧ (zlet (Ms_digits u (upd (Mg_digits u) (x2.toNatClampNeg) ((FM_read u x1 x2) - 64))) (fun u22 => (MM_spell_24 n u22 (x2 + 1) x1))))))))) ∧ (¬ ((Mg_categories u) x1.toNatClampNeg) = 1 → (GM_read u x1 x2 ∧ (vp_in x2 40 ∧ (zlet (Ms_digits u (upd (Mg_digits u) (x2.toNatClampNeg) (FM_read u x1 x2))) (fun u14 => (MM_spell_24 n u14 (x2 + 1) x1))))))))))) at hg
    refine lv_iload_n hx hb dM_spell_24 rfl (lv_at hl 0 rfl) ?_
    refine lv_aload_n hx hb dM_spell_25 rfl (lv_at hl 1 rfl) ?_
    refine va_get (D := D) (ci := 7) (v := .ref (b 3)) (C := RM) (T := TM) (N := 30) hx hb hts (fun w h9 => zc (inM w h9)) hown hK hP 0 rfl rfl 4 (by decide) (hts _ (zc m_601)) (fun _ h9 => h9) rfl dM_spell_26 ?_
    refine lv_iload_n hx hb dM_spell_29 rfl (lv_at hl 2 rfl) ?_
    obtain ⟨h4, hg⟩ := hg
    refine va_iald hx hb hK hP 3 0 rfl rfl h4 dM_spell_30 ?_
    refine lv_icmp_ge (tgt := 85) hx hb dM_spell_31 (by decide) (fun c5 => ?_) (fun c5 => ?_)
    · have hf := zt hf c5
      have hg := hg.1 c5
      refine lv_aload_n hx hb dM_spell_85 rfl (lv_at hl 1 rfl) ?_
      refine va_get (D := D) (ci := 7) (v := .ref (b 2)) (C := RM) (T := TM) (N := 30) hx hb hts (fun w h9 => zc (inM w h9)) hown hK hP 0 rfl rfl 3 (by decide) (hts _ (zc m_600)) (fun _ h9 => h9) rfl dM_spell_86 ?_
      refine lv_iload_n hx hb dM_spell_89 rfl (lv_at hl 2 rfl) ?_
      obtain ⟨h6, hg⟩ := hg
      refine va_iald hx hb hK hP 2 0 rfl rfl h6 dM_spell_90 ?_
      refine lv_iconst (v := 2) hx hb dM_spell_91 (by decide) ?_
      refine lv_icmp_eq (tgt := 96) hx hb dM_spell_92 (by decide) (fun c7 => ?_) (fun c7 => ?_)
      · have hf := zt hf c7
        have hg := hg.1 c7
        refine lv_aload_n hx hb dM_spell_96 rfl (lv_at hl 1 rfl) ?_
        refine lv_iload_n hx hb dM_spell_97 rfl (lv_at hl 2 rfl) ?_
        obtain ⟨h8, hg⟩ := hg
        refine vp_callSl (W.runV (As := [.int x1]) (rest := []) ⟨hx, hb, hml, hown, hts⟩ (tM_whole l hI u x1 h8) (cwV 1 hts (zgV m_794 m_796 mp_30 m_8 m_797) rfl rfl rfl (by decide +kernel) ⟨Nat.le_of_ble_eq_true rfl, Nat.le_of_ble_eq_true rfl⟩) (zpre hP hE hS.2.1 (va_recv hK hP (ci := 7) (q0 := 0) rfl rfl)) rfl rfl hl.1 rfl (lv_room (Nat.le_of_ble_eq_true rfl)) dM_spell_98 ⟨Nat.zero_le _, Nat.zero_le _⟩) (fun r9 hr9 => ?_)
        subst hr9
        refine lv_lstore_n (lv' := [(2, .long (FM_whole u x1)), (0, .ref (b 0)), (1, .int x1)]) hx hb dM_spell_101 rfl hl (by decide) rfl (fun ls hl => ?_)
        refine lv_lload_n hx hb dM_spell_102 rfl (lv_at hl 0 rfl) ?_
        refine lv_lconst (v := 0) hx hb dM_spell_103 (by decide) ?_
        refine W.lcmp hx hb dM_spell_104 ?_
        refine lv_if_ge (tgt := 114) hx hb dM_spell_105 (by decide) (fun c9 => ?_) (fun c9 => ?_)
        · have hf := zt hf c9
          have hg := hg.1 c9
          refine lv_lload_n hx hb dM_spell_114 rfl (lv_at hl 0 rfl) ?_
          refine lv_lstore (lv' := [(4, .long (FM_whole u x1)), (2, .long (FM_whole u x1)), (0, .ref (b 0)), (1, .int x1)]) hx hb dM_spell_115 hl (by decide) rfl (fun ls hl => ?_)
          refine lv_iconst (v := 1) hx hb dM_spell_117 (by decide) ?_
          refine lv_istore (lv' := [(6, .int 1), (4, .long (FM_whole u x1)), (2, .long (FM_whole u x1)), (0, .ref (b 0)), (1, .int x1)]) hx hb dM_spell_118 hl (by decide) rfl (fun ls hl => ?_)
          refine lv_lload hx hb dM_spell_120 (lv_at hl 1 rfl) ?_
          refine lv_iconst (v := 1) hx hb dM_spell_122 (by decide) ?_
          refine lv_lushr (v := (((FM_whole u x1) : Int64).toUInt64 >>> ((1 : Int32).toInt64.toUInt64 &&& Int64.toUInt64 63)).toInt64) hx hb dM_spell_123 rfl ?_
          refine lv_ldc2 (v := 5) hx hb hown (hts _ (zc m_814)) dM_spell_124 ?_
          refine lv_ldiv hx hb dM_spell_127 (by decide) ?_
          refine lv_lstore (lv' := [(7, .long ((((FM_whole u x1) : Int64).toUInt64 >>> ((1 : Int32).toInt64.toUInt64 &&& Int64.toUInt64 63)).toInt64 / 5)), (6, .int 1), (4, .long (FM_whole u x1)), (2, .long (FM_whole u x1)), (0, .ref (b 0)), (1, .int x1)]) hx hb dM_spell_128 hl (by decide) rfl (fun ls hl => ?_)
          exact kM_spell_130 hI C0 (tgt := tgt) n u ((((FM_whole u x1) : Int64).toUInt64 >>> ((1 : Int32).toInt64.toUInt64 &&& Int64.toUInt64 63)).toInt64 / 5) 1 (FM_whole u x1) (FM_whole u x1) x1 hf hg _ _ hP hS _ (lv_sub hl [0, 1, 2, 3, 4, 5] rfl)
        · have hf := zn hf c9
          have hg := hg.2 c9
          refine lv_lconst (v := 0) hx hb dM_spell_108 (by decide) ?_
          refine lv_lload_n hx hb dM_spell_109 rfl (lv_at hl 0 rfl) ?_
          refine lv_lsub hx hb dM_spell_110 ?_
          refine lv_goto (tgt := 115) hx hb dM_spell_111 (by decide) ?_
          refine lv_lstore (lv' := [(4, .long (0 - (FM_whole u x1))), (2, .long (FM_whole u x1)), (0, .ref (b 0)), (1, .int x1)]) hx hb dM_spell_115 hl (by decide) rfl (fun ls hl => ?_)
          refine lv_iconst (v := 1) hx hb dM_spell_117 (by decide) ?_
          refine lv_istore (lv' := [(6, .int 1), (4, .long (0 - (FM_whole u x1))), (2, .long (FM_whole u x1)), (0, .ref (b 0)), (1, .int x1)]) hx hb dM_spell_118 hl (by decide) rfl (fun ls hl => ?_)
          refine lv_lload hx hb dM_spell_120 (lv_at hl 1 rfl) ?_
          refine lv_iconst (v := 1) hx hb dM_spell_122 (by decide) ?_
          refine lv_lushr (v := (((0 - (FM_whole u x1)) : Int64).toUInt64 >>> ((1 : Int32).toInt64.toUInt64 &&& Int64.toUInt64 63)).toInt64) hx hb dM_spell_123 rfl ?_
          refine lv_ldc2 (v := 5) hx hb hown (hts _ (zc m_814)) dM_spell_124 ?_
          refine lv_ldiv hx hb dM_spell_127 (by decide) ?_
          refine lv_lstore (lv' := [(7, .long ((((0 - (FM_whole u x1)) : Int64).toUInt64 >>> ((1 : Int32).toInt64.toUInt64 &&& Int64.toUInt64 63)).toInt64 / 5)), (6, .int 1), (4, .long (0 - (FM_whole u x1))), (2, .long (FM_whole u x1)), (0, .ref (b 0)), (1, .int x1)]) hx hb dM_spell_128 hl (by decide) rfl (fun ls hl => ?_)
          exact kM_spell_130 hI C0 (tgt := tgt) n u ((((0 - (FM_whole u x1)) : Int64).toUInt64 >>> ((1 : Int32).toInt64.toUInt64 &&& Int64.toUInt64 63)).toInt64 / 5) 1 (0 - (FM_whole u x1)) (FM_whole u x1) x1 hf hg _ _ hP hS _ (lv_sub hl [0, 1, 2, 3, 4, 5] rfl)
      · have hf := zn hf c7
        have hg := hg.2 c7
        exact W.vret hx hb hr (fun t ht hW => zrv hf hP ht (hS.F ht)) hS.2.2 dM_spell_95
    · have hf := zn hf c5
      have hg := hg.2 c5
      refine lv_aload_n hx hb dM_spell_34 rfl (lv_at hl 1 rfl) ?_
      refine va_get (D := D) (ci := 7) (v := .ref (b 21)) (C := RM) (T := TM) (N := 30) hx hb hts (fun w h9 => zc (inM w h9)) hown hK hP 0 rfl rfl 29 (by decide) (hts _ (zc m_626)) (fun _ h9 => h9) rfl dM_spell_35 ?_
      refine lv_iload_n hx hb dM_spell_38 rfl (lv_at hl 0 rfl) ?_
      refine lv_aload_n hx hb dM_spell_39 rfl (lv_at hl 1 rfl) ?_
      refine va_get (D := D) (ci := 7) (v := .ref (b 2)) (C := RM) (T := TM) (N := 30) hx hb hts (fun w h9 => zc (inM w h9)) hown hK hP 0 rfl rfl 3 (by decide) (hts _ (zc m_600)) (fun _ h9 => h9) rfl dM_spell_40 ?_
      refine lv_iload_n hx hb dM_spell_43 rfl (lv_at hl 2 rfl) ?_
      obtain ⟨h10, hg⟩ := hg
      refine va_iald hx hb hK hP 2 0 rfl rfl h10 dM_spell_44 ?_
      refine lv_iconst (v := 1) hx hb dM_spell_45 (by decide) ?_
      refine lv_icmp_ne (tgt := 72) hx hb dM_spell_46 (by decide) (fun c11 => ?_) (fun c11 => ?_)
      · have hf := zn hf c11
        have hg := hg.2 c11
        refine lv_aload_n hx hb dM_spell_72 rfl (lv_at hl 1 rfl) ?_
        refine lv_iload_n hx hb dM_spell_73 rfl (lv_at hl 2 rfl) ?_
        refine lv_iload_n hx hb dM_spell_74 rfl (lv_at hl 0 rfl) ?_
        obtain ⟨h12, hg⟩ := hg
        refine vp_callSi (W.runV (As := [.int x1, .int x2]) (rest := [.int x2, .ref (b 21)]) ⟨hx, hb, hml, hown, hts⟩ (tM_read l hI u x1 x2 h12) (cwV 2 hts (zgV m_778 m_780 mp_26 m_8 m_781) rfl rfl rfl (by decide +kernel) ⟨Nat.le_of_ble_eq_true rfl, Nat.le_of_ble_eq_true rfl⟩) (zpre hP hE hS.2.1 (va_recv hK hP (ci := 7) (q0 := 0) rfl rfl)) rfl rfl hl.1 rfl (lv_room (Nat.le_of_ble_eq_true rfl)) dM_spell_75 ⟨Nat.zero_le _, Nat.zero_le _⟩) (fun r9 hr9 => ?_)
        subst hr9
        obtain ⟨h13, hg⟩ := hg
        refine va_iast hx hb hK hP (MD hI _) hS 21 0 rfl rfl h13 dM_spell_78 (fun H locs hP _ hS => ?_)
        obtain ⟨u14, hP, hf, hg⟩ := zlets (E := (Ms_digits u (upd (Mg_digits u) (x2.toNatClampNeg) (FM_read u x1 x2)))) (w := wM k b) (Mp_digits hP) hf hg
        refine lv_iinc (v := (x2 + 1)) (lv' := [(2, .int (x2 + 1)), (0, .ref (b 0)), (1, .int x1)]) hx hb dM_spell_79 hl (k := 0) rfl rfl (by decide) rfl (fun ls hl => ?_)
        refine lv_goto (tgt := 24) hx hb dM_spell_82 (by decide) ?_
        exact ih u14 (x2 + 1) x1 hf hg _ _ hP hS _ (lv_sub hl [0, 1, 2] rfl)
      · have hf := zt hf c11
        have hg := hg.1 c11
        refine lv_aload_n hx hb dM_spell_49 rfl (lv_at hl 1 rfl) ?_
        refine lv_iload_n hx hb dM_spell_50 rfl (lv_at hl 2 rfl) ?_
        refine lv_iload_n hx hb dM_spell_51 rfl (lv_at hl 0 rfl) ?_
        obtain ⟨h15, hg⟩ := hg
        refine vp_callSi (W.runV (As := [.int x1, .int x2]) (rest := [.int x2, .ref (b 21)]) ⟨hx, hb, hml, hown, hts⟩ (tM_read l hI u x1 x2 h15) (cwV 2 hts (zgV m_778 m_780 mp_26 m_8 m_781) rfl rfl rfl (by decide +kernel) ⟨Nat.le_of_ble_eq_true rfl, Nat.le_of_ble_eq_true rfl⟩) (zpre hP hE hS.2.1 (va_recv hK hP (ci := 7) (q0 := 0) rfl rfl)) rfl rfl hl.1 rfl (lv_room (Nat.le_of_ble_eq_true rfl)) dM_spell_52 ⟨Nat.zero_le _, Nat.zero_le _⟩) (fun r9 hr9 => ?_)
        subst hr9
        refine lv_bipush (v := 112) hx hb dM_spell_55 (by decide) ?_
        refine lv_icmp_lt (tgt := 72) hx hb dM_spell_57 (by decide) (fun c16 => ?_) (fun c16 => ?_)
        · have hf := zt hf c16
          have hg := hg.1 c16
          refine lv_aload_n hx hb dM_spell_72 rfl (lv_at hl 1 rfl) ?_
          refine lv_iload_n hx hb dM_spell_73 rfl (lv_at hl 2 rfl) ?_
          refine lv_iload_n hx hb dM_spell_74 rfl (lv_at hl 0 rfl) ?_
          obtain ⟨h17, hg⟩ := hg
          refine vp_callSi (W.runV (As := [.int x1, .int x2]) (rest := [.int x2, .ref (b 21)]) ⟨hx, hb, hml, hown, hts⟩ (tM_read l hI u x1 x2 h17) (cwV 2 hts (zgV m_778 m_780 mp_26 m_8 m_781) rfl rfl rfl (by decide +kernel) ⟨Nat.le_of_ble_eq_true rfl, Nat.le_of_ble_eq_true rfl⟩) (zpre hP hE hS.2.1 (va_recv hK hP (ci := 7) (q0 := 0) rfl rfl)) rfl rfl hl.1 rfl (lv_room (Nat.le_of_ble_eq_true rfl)) dM_spell_75 ⟨Nat.zero_le _, Nat.zero_le _⟩) (fun r9 hr9 => ?_)
          subst hr9
          obtain ⟨h18, hg⟩ := hg
          refine va_iast hx hb hK hP (MD hI _) hS 21 0 rfl rfl h18 dM_spell_78 (fun H locs hP _ hS => ?_)
          obtain ⟨u19, hP, hf, hg⟩ := zlets (E := (Ms_digits u (upd (Mg_digits u) (x2.toNatClampNeg) (FM_read u x1 x2)))) (w := wM k b) (Mp_digits hP) hf hg
          refine lv_iinc (v := (x2 + 1)) (lv' := [(2, .int (x2 + 1)), (0, .ref (b 0)), (1, .int x1)]) hx hb dM_spell_79 hl (k := 0) rfl rfl (by decide) rfl (fun ls hl => ?_)
          refine lv_goto (tgt := 24) hx hb dM_spell_82 (by decide) ?_
          exact ih u19 (x2 + 1) x1 hf hg _ _ hP hS _ (lv_sub hl [0, 1, 2] rfl)
        · have hf := zn hf c16
          have hg := hg.2 c16
          refine lv_aload_n hx hb dM_spell_60 rfl (lv_at hl 1 rfl) ?_
          refine lv_iload_n hx hb dM_spell_61 rfl (lv_at hl 2 rfl) ?_
          refine lv_iload_n hx hb dM_spell_62 rfl (lv_at hl 0 rfl) ?_
          obtain ⟨h20, hg⟩ := hg
          refine vp_callSi (W.runV (As := [.int x1, .int x2]) (rest := [.int x2, .ref (b 21)]) ⟨hx, hb, hml, hown, hts⟩ (tM_read l hI u x1 x2 h20) (cwV 2 hts (zgV m_778 m_780 mp_26 m_8 m_781) rfl rfl rfl (by decide +kernel) ⟨Nat.le_of_ble_eq_true rfl, Nat.le_of_ble_eq_true rfl⟩) (zpre hP hE hS.2.1 (va_recv hK hP (ci := 7) (q0 := 0) rfl rfl)) rfl rfl hl.1 rfl (lv_room (Nat.le_of_ble_eq_true rfl)) dM_spell_63 ⟨Nat.zero_le _, Nat.zero_le _⟩) (fun r9 hr9 => ?_)
          subst hr9
          refine lv_bipush (v := 64) hx hb dM_spell_66 (by decide) ?_
          refine lv_isub hx hb dM_spell_68 ?_
          refine lv_goto (tgt := 78) hx hb dM_spell_69 (by decide) ?_
          obtain ⟨h21, hg⟩ := hg
          refine va_iast hx hb hK hP (MD hI _) hS 21 0 rfl rfl h21 dM_spell_78 (fun H locs hP _ hS => ?_)
          obtain ⟨u22, hP, hf, hg⟩ := zlets (E := (Ms_digits u (upd (Mg_digits u) (x2.toNatClampNeg) ((FM_read u x1 x2) - 64)))) (w := wM k b) (Mp_digits hP) hf hg
          refine lv_iinc (v := (x2 + 1)) (lv' := [(2, .int (x2 + 1)), (0, .ref (b 0)), (1, .int x1)]) hx hb dM_spell_79 hl (k := 0) rfl rfl (by decide) rfl (fun ls hl => ?_)
          refine lv_goto (tgt := 24) hx hb dM_spell_82 (by decide) ?_
          exact ih u22 (x2 + 1) x1 hf hg _ _ hP hS _ (lv_sub hl [0, 1, 2] rfl)
set_option maxHeartbeats 4000000 in
set_option maxRecDepth 100000 in
theorem kM_spell_2 {p : Program} {l : Launch} {e : Env} {s : State} {m : MethodId} {args : Array Value} {below : List Frame} {meth : Method} {c : Code} {D : va_G} {k : zK} {b : Nat → Nat} (hI : zI 22 b) (C0 : zC p s m args meth c cM_spell none 12 RM wsM_spell D k (zA 22 b)) {tgt : MS} : ∀ (n : Nat) (u : MS) (x2 : Int32) (x1 : Int32), LM_spell_2 n u x2 x1 = tgt → MM_spell_2 n u x2 x1 → ∀ (H : Heap) (locs : List Loc), va_P D vwCl (wM k b u) H → va_S (zA 22 b) s.heap H locs → ∀ (ls : Array Slot), lv_has ls 12 [(2, .int x2), (0, .ref (b 0)), (1, .int x1)] → W p l e (headSpec wsM_spell ({ frames := 2, cells := 0, slots := 0, locals := 46 })).room s m args below meth c H locs 0 0 (MQ below (zQv D (wM k b) (zA 22 b) tgt) args s 0 0 (zA 22 b)) (F0 m 2 ls []) := by
  obtain ⟨hx, hb, hr, hml, hown, hts, hlocks, hE⟩ := id C0
  have hK := hE.1
  intro n
  induction n with
  | zero =>
    intro u x2 x1 _ hg
    exact False.elim hg
  | succ n ih =>
    intro u x2 x1 hf hg H locs hP hS ls hl
    change ((if (40 : Int32) ≤ x2 then (LM_spell_24 n u 0 x1) else (zlet (Ms_digits u (upd (Mg_digits u) (x2.toNatClampNeg) 32)) (fun u3 => (LM_spell_2 n u3 (x2 + 1) x1)))) : MS) = tgt at hf
    change (((40 : Int32) ≤ x2 → (MM_spell_24 n u 0 x1)) ∧ (¬ (40 : Int32) ≤ x2 → (vp_in x2 40 ∧ (zlet (Ms_digits u (upd (Mg_digits u) (x2.toNatClampNeg) 32)) (fun u3 => (MM_spell_2 n u3 (x2 + 1) x1)))))) at hg
    refine lv_iload_n hx hb dM_spell_2 rfl (lv_at hl 0 rfl) ?_
    refine lv_bipush (v := 40) hx hb dM_spell_3 (by decide) ?_
    refine lv_icmp_ge (tgt := 22) hx hb dM_spell_5 (by decide) (fun c1 => ?_) (fun c1 => ?_)
    · have hf := zt hf c1
      have hg := hg.1 c1
      refine lv_iconst (v := 0) hx hb dM_spell_22 (by decide) ?_
      refine lv_istore_n (lv' := [(2, .int 0), (0, .ref (b 0)), (1, .int x1)]) hx hb dM_spell_23 rfl hl (by decide) rfl (fun ls hl => ?_)
      exact kM_spell_24 hI C0 (tgt := tgt) n u 0 x1 hf hg _ _ hP hS _ (lv_sub hl [0, 1, 2] rfl)
    · have hf := zn hf c1
      have hg := hg.2 c1
      refine lv_aload_n hx hb dM_spell_8 rfl (lv_at hl 1 rfl) ?_
      refine va_get (D := D) (ci := 7) (v := .ref (b 21)) (C := RM) (T := TM) (N := 30) hx hb hts (fun w h9 => zc (inM w h9)) hown hK hP 0 rfl rfl 29 (by decide) (hts _ (zc m_626)) (fun _ h9 => h9) rfl dM_spell_9 ?_
      refine lv_iload_n hx hb dM_spell_12 rfl (lv_at hl 0 rfl) ?_
      refine lv_bipush (v := 32) hx hb dM_spell_13 (by decide) ?_
      obtain ⟨h2, hg⟩ := hg
      refine va_iast hx hb hK hP (MD hI _) hS 21 0 rfl rfl h2 dM_spell_15 (fun H locs hP _ hS => ?_)
      obtain ⟨u3, hP, hf, hg⟩ := zlets (E := (Ms_digits u (upd (Mg_digits u) (x2.toNatClampNeg) 32))) (w := wM k b) (Mp_digits hP) hf hg
      refine lv_iinc (v := (x2 + 1)) (lv' := [(2, .int (x2 + 1)), (0, .ref (b 0)), (1, .int x1)]) hx hb dM_spell_16 hl (k := 0) rfl rfl (by decide) rfl (fun ls hl => ?_)
      refine lv_goto (tgt := 2) hx hb dM_spell_19 (by decide) ?_
      exact ih u3 (x2 + 1) x1 hf hg _ _ hP hS _ (lv_sub hl [0, 1, 2] rfl)
set_option maxHeartbeats 4000000 in
set_option maxRecDepth 100000 in
theorem tM_spell (l : Launch) {D : va_G} {k : zK} {b : Nat → Nat} (hI : zI 22 b) (u : MS) (p0 : Int32) (hg : GM_spell u p0) : Met l yM_spell wsM_spell ({ frames := 2, cells := 0, slots := 0, locals := 46 }) (zPc D k (zA 22 b) (wM k b u) [.ref (b 0), .int p0]) (zQv D (wM k b) (zA 22 b) (FM_spell u p0)) 0 0 (zA 22 b) := by
  refine Met.ofW (cc := cM_spell) (maxL := 12) (ret := none) (by decide) rfl ?_
  intro p e s m args below meth c s₁ B hml hv
  obtain ⟨rfl, hP, hE⟩ := hv
  have hts := atoms_spec (ws := wsM_spell) B.pre
  have C0 : zC p s m _ meth c cM_spell none 12 RM wsM_spell D k (zA 22 b) := ⟨B.exec, B.bytes, B.returns, hml, findClass_of_methodNamed B.named, hts, B.notSynchronized, hE⟩
  obtain ⟨hx, hb, hr, hml, hown, _, hlocks, _⟩ := id C0
  have hK := hE.1
  have hS : va_S (zA 22 b) s.heap s.heap [] := va_S.rf
  generalize hf : FM_spell u p0 = tgt
  change ((LM_spell_2 1000 u 0 p0) : MS) = tgt at hf
  change (MM_spell_2 1000 u 0 p0) at hg
  have hl := lv_entry ([.ref (b 0), .int p0]) (n := 12) (Nat.le_of_ble_eq_true rfl)
  rw [lg_entry_eq]
  generalize (lg_sl ([.ref (b 0), .int p0]) ++ List.replicate (12 - (lg_sl ([.ref (b 0), .int p0])).length) Slot.unset).toArray = ls at hl ⊢
  have hl : lv_has ls 12 [(0, .ref (b 0)), (1, .int p0)] := hl
  refine lv_iconst (v := 0) hx hb dM_spell_0 (by decide) ?_
  refine lv_istore_n (lv' := [(2, .int 0), (0, .ref (b 0)), (1, .int p0)]) hx hb dM_spell_1 rfl hl (by decide) rfl (fun ls hl => ?_)
  exact kM_spell_2 hI C0 (tgt := tgt) 1000 u 0 p0 hf hg _ _ hP hS _ (lv_sub hl [0, 1, 2] rfl)
end
section
theorem dM_sign_0 : decode cM_sign 0 = .ok (.lload_n 0, 1) := by decide +kernel
theorem dM_sign_1 : decode cM_sign 1 = .ok (.lload_n 2, 1) := by decide +kernel
theorem dM_sign_2 : decode cM_sign 2 = .ok (.lcmp, 1) := by decide +kernel
theorem dM_sign_3 : decode cM_sign 3 = .ok (.ifCond .ge 7, 3) := by decide +kernel
theorem dM_sign_6 : decode cM_sign 6 = .ok (.iconst (-1), 1) := by decide +kernel
theorem dM_sign_7 : decode cM_sign 7 = .ok (.goto 14, 3) := by decide +kernel
theorem dM_sign_10 : decode cM_sign 10 = .ok (.lload_n 0, 1) := by decide +kernel
theorem dM_sign_11 : decode cM_sign 11 = .ok (.lload_n 2, 1) := by decide +kernel
theorem dM_sign_12 : decode cM_sign 12 = .ok (.lcmp, 1) := by decide +kernel
theorem dM_sign_13 : decode cM_sign 13 = .ok (.ifCond .le 7, 3) := by decide +kernel
theorem dM_sign_16 : decode cM_sign 16 = .ok (.iconst 1, 1) := by decide +kernel
theorem dM_sign_17 : decode cM_sign 17 = .ok (.goto 4, 3) := by decide +kernel
theorem dM_sign_20 : decode cM_sign 20 = .ok (.iconst 0, 1) := by decide +kernel
theorem dM_sign_21 : decode cM_sign 21 = .ok (.ireturn, 1) := by decide +kernel
abbrev wsM_sign : List Cond := Cond.code yM_sign cM_sign 4 (some .int) :: zWords
def FM_sign (u : MS) (p0 : Int64) (p1 : Int64) : Int32 := (if (0 : Int32) ≤ (lg_cmp p0 p1) then (if (lg_cmp p0 p1) ≤ 0 then 0 else 1) else (-1))
set_option maxHeartbeats 4000000 in
set_option maxRecDepth 100000 in
theorem tM_sign (l : Launch) {D : va_G} {k : zK} {b : Nat → Nat} (hI : zI 22 b) (u : MS) (p0 : Int64) (p1 : Int64) : Met l yM_sign wsM_sign ({ frames := 0, cells := 0, slots := 0, locals := 0 }) (zPc D k (zA 22 b) (wM k b u) [.long p0, .long p1]) (vp_Si (fun r9 => r9 = (FM_sign u p0 p1))) 0 0 (fun _ => False) := by
  refine Met.ofW (cc := cM_sign) (maxL := 4) (ret := (some .int)) (by decide) rfl ?_
  intro p e s m args below meth c s₁ B hml hv
  obtain ⟨rfl, hP, hE⟩ := hv
  have hts := atoms_spec (ws := wsM_sign) B.pre
  have C0 : zC p s m _ meth c cM_sign (some .int) 4 RM wsM_sign D k (zA 22 b) := ⟨B.exec, B.bytes, B.returns, hml, findClass_of_methodNamed B.named, hts, B.notSynchronized, hE⟩
  obtain ⟨hx, hb, hr, hml, hown, _, hlocks, _⟩ := id C0
  have hK := hE.1
  have hS : va_S (zA 22 b) s.heap s.heap [] := va_S.rf
  generalize hf : FM_sign u p0 p1 = tgt
  change ((if (0 : Int32) ≤ (lg_cmp p0 p1) then (if (lg_cmp p0 p1) ≤ 0 then 0 else 1) else (-1)) : Int32) = tgt at hf
  have hl := lv_entry ([.long p0, .long p1]) (n := 4) (Nat.le_of_ble_eq_true rfl)
  rw [lg_entry_eq]
  generalize (lg_sl ([.long p0, .long p1]) ++ List.replicate (4 - (lg_sl ([.long p0, .long p1])).length) Slot.unset).toArray = ls at hl ⊢
  have hl : lv_has ls 4 [(0, .long p0), (2, .long p1)] := hl
  refine lv_lload_n hx hb dM_sign_0 rfl (lv_at hl 0 rfl) ?_
  refine lv_lload_n hx hb dM_sign_1 rfl (lv_at hl 1 rfl) ?_
  refine W.lcmp hx hb dM_sign_2 ?_
  refine lv_if_ge (tgt := 10) hx hb dM_sign_3 (by decide) (fun c1 => ?_) (fun c1 => ?_)
  · have hf := zt hf c1
    refine lv_lload_n hx hb dM_sign_10 rfl (lv_at hl 0 rfl) ?_
    refine lv_lload_n hx hb dM_sign_11 rfl (lv_at hl 1 rfl) ?_
    refine W.lcmp hx hb dM_sign_12 ?_
    refine lv_if_le (tgt := 20) hx hb dM_sign_13 (by decide) (fun c2 => ?_) (fun c2 => ?_)
    · have hf := zt hf c2
      refine lv_iconst (v := 0) hx hb dM_sign_20 (by decide) ?_
      exact W.iret (v := 0) hx hb hr (fun t ht hW => ⟨_, rfl, hf, ht⟩) (fun _ h9 => nomatch h9) dM_sign_21
    · have hf := zn hf c2
      refine lv_iconst (v := 1) hx hb dM_sign_16 (by decide) ?_
      refine lv_goto (tgt := 21) hx hb dM_sign_17 (by decide) ?_
      exact W.iret (v := 1) hx hb hr (fun t ht hW => ⟨_, rfl, hf, ht⟩) (fun _ h9 => nomatch h9) dM_sign_21
  · have hf := zn hf c1
    refine lv_iconst (v := (-1)) hx hb dM_sign_6 (by decide) ?_
    refine lv_goto (tgt := 21) hx hb dM_sign_7 (by decide) ?_
    exact W.iret (v := (-1)) hx hb hr (fun t ht hW => ⟨_, rfl, hf, ht⟩) (fun _ h9 => nomatch h9) dM_sign_21
theorem dM_order_0 : decode cM_order 0 = .ok (.aload_n 0, 1) := by decide +kernel
theorem dM_order_1 : decode cM_order 1 = .ok (.getfield 13, 3) := by decide +kernel
theorem dM_order_4 : decode cM_order 4 = .ok (.iload_n 1, 1) := by decide +kernel
theorem dM_order_5 : decode cM_order 5 = .ok (.iaload, 1) := by decide +kernel
theorem dM_order_6 : decode cM_order 6 = .ok (.ifCond .eq 48, 3) := by decide +kernel
theorem dM_order_9 : decode cM_order 9 = .ok (.aload_n 0, 1) := by decide +kernel
theorem dM_order_10 : decode cM_order 10 = .ok (.getfield 13, 3) := by decide +kernel
theorem dM_order_13 : decode cM_order 13 = .ok (.iload_n 2, 1) := by decide +kernel
theorem dM_order_14 : decode cM_order 14 = .ok (.iaload, 1) := by decide +kernel
theorem dM_order_15 : decode cM_order 15 = .ok (.ifCond .eq 39, 3) := by decide +kernel
theorem dM_order_18 : decode cM_order 18 = .ok (.aload_n 0, 1) := by decide +kernel
theorem dM_order_19 : decode cM_order 19 = .ok (.iload_n 1, 1) := by decide +kernel
theorem dM_order_20 : decode cM_order 20 = .ok (.invokevirtual 115, 3) := by decide +kernel
theorem dM_order_23 : decode cM_order 23 = .ok (.aload_n 0, 1) := by decide +kernel
theorem dM_order_24 : decode cM_order 24 = .ok (.iload_n 2, 1) := by decide +kernel
theorem dM_order_25 : decode cM_order 25 = .ok (.invokevirtual 115, 3) := by decide +kernel
theorem dM_order_28 : decode cM_order 28 = .ok (.invokestatic 118, 3) := by decide +kernel
theorem dM_order_31 : decode cM_order 31 = .ok (.istore_n 3, 1) := by decide +kernel
theorem dM_order_32 : decode cM_order 32 = .ok (.iload_n 3, 1) := by decide +kernel
theorem dM_order_33 : decode cM_order 33 = .ok (.ifCond .eq 7, 3) := by decide +kernel
theorem dM_order_36 : decode cM_order 36 = .ok (.iload_n 3, 1) := by decide +kernel
theorem dM_order_37 : decode cM_order 37 = .ok (.goto 16, 3) := by decide +kernel
theorem dM_order_40 : decode cM_order 40 = .ok (.aload_n 0, 1) := by decide +kernel
theorem dM_order_41 : decode cM_order 41 = .ok (.iload_n 1, 1) := by decide +kernel
theorem dM_order_42 : decode cM_order 42 = .ok (.invokevirtual 122, 3) := by decide +kernel
theorem dM_order_45 : decode cM_order 45 = .ok (.aload_n 0, 1) := by decide +kernel
theorem dM_order_46 : decode cM_order 46 = .ok (.iload_n 2, 1) := by decide +kernel
theorem dM_order_47 : decode cM_order 47 = .ok (.invokevirtual 122, 3) := by decide +kernel
theorem dM_order_50 : decode cM_order 50 = .ok (.invokestatic 118, 3) := by decide +kernel
theorem dM_order_53 : decode cM_order 53 = .ok (.ireturn, 1) := by decide +kernel
theorem dM_order_54 : decode cM_order 54 = .ok (.iconst 0, 1) := by decide +kernel
theorem dM_order_55 : decode cM_order 55 = .ok (.istore_n 3, 1) := by decide +kernel
theorem dM_order_56 : decode cM_order 56 = .ok (.iconst 0, 1) := by decide +kernel
theorem dM_order_57 : decode cM_order 57 = .ok (.istore 4, 2) := by decide +kernel
theorem dM_order_59 : decode cM_order 59 = .ok (.iload 4, 2) := by decide +kernel
theorem dM_order_61 : decode cM_order 61 = .ok (.bipush 40, 2) := by decide +kernel
theorem dM_order_63 : decode cM_order 63 = .ok (.if_icmp .ge 57, 3) := by decide +kernel
theorem dM_order_66 : decode cM_order 66 = .ok (.iload_n 3, 1) := by decide +kernel
theorem dM_order_67 : decode cM_order 67 = .ok (.ifCond .ne 53, 3) := by decide +kernel
theorem dM_order_70 : decode cM_order 70 = .ok (.aload_n 0, 1) := by decide +kernel
theorem dM_order_71 : decode cM_order 71 = .ok (.iload_n 1, 1) := by decide +kernel
theorem dM_order_72 : decode cM_order 72 = .ok (.invokevirtual 125, 3) := by decide +kernel
theorem dM_order_75 : decode cM_order 75 = .ok (.aload_n 0, 1) := by decide +kernel
theorem dM_order_76 : decode cM_order 76 = .ok (.getfield 22, 3) := by decide +kernel
theorem dM_order_79 : decode cM_order 79 = .ok (.aload_n 0, 1) := by decide +kernel
theorem dM_order_80 : decode cM_order 80 = .ok (.getfield 72, 3) := by decide +kernel
theorem dM_order_83 : decode cM_order 83 = .ok (.iload 4, 2) := by decide +kernel
theorem dM_order_85 : decode cM_order 85 = .ok (.iaload, 1) := by decide +kernel
theorem dM_order_86 : decode cM_order 86 = .ok (.iaload, 1) := by decide +kernel
theorem dM_order_87 : decode cM_order 87 = .ok (.istore 5, 2) := by decide +kernel
theorem dM_order_89 : decode cM_order 89 = .ok (.aload_n 0, 1) := by decide +kernel
theorem dM_order_90 : decode cM_order 90 = .ok (.iload_n 2, 1) := by decide +kernel
theorem dM_order_91 : decode cM_order 91 = .ok (.invokevirtual 125, 3) := by decide +kernel
theorem dM_order_94 : decode cM_order 94 = .ok (.iload 5, 2) := by decide +kernel
theorem dM_order_96 : decode cM_order 96 = .ok (.i2l, 1) := by decide +kernel
theorem dM_order_97 : decode cM_order 97 = .ok (.aload_n 0, 1) := by decide +kernel
theorem dM_order_98 : decode cM_order 98 = .ok (.getfield 22, 3) := by decide +kernel
theorem dM_order_101 : decode cM_order 101 = .ok (.aload_n 0, 1) := by decide +kernel
theorem dM_order_102 : decode cM_order 102 = .ok (.getfield 72, 3) := by decide +kernel
theorem dM_order_105 : decode cM_order 105 = .ok (.iload 4, 2) := by decide +kernel
theorem dM_order_107 : decode cM_order 107 = .ok (.iaload, 1) := by decide +kernel
theorem dM_order_108 : decode cM_order 108 = .ok (.iaload, 1) := by decide +kernel
theorem dM_order_109 : decode cM_order 109 = .ok (.i2l, 1) := by decide +kernel
theorem dM_order_110 : decode cM_order 110 = .ok (.invokestatic 118, 3) := by decide +kernel
theorem dM_order_113 : decode cM_order 113 = .ok (.istore_n 3, 1) := by decide +kernel
theorem dM_order_114 : decode cM_order 114 = .ok (.iinc 4 1, 3) := by decide +kernel
theorem dM_order_117 : decode cM_order 117 = .ok (.goto (-58), 3) := by decide +kernel
theorem dM_order_120 : decode cM_order 120 = .ok (.iload_n 3, 1) := by decide +kernel
theorem dM_order_121 : decode cM_order 121 = .ok (.ireturn, 1) := by decide +kernel
abbrev wsM_order : List Cond := Cond.code yM_order cM_order 6 (some .int) :: zWords
def LM_order_59 : Nat → MS → Int32 → Int32 → Int32 → Int32 → Int32 × MS
  | 0, u, _, _, _, _ => (0, u)
  | n + 1, u, x4, x3, x1, x2 => (if (40 : Int32) ≤ x4 then (x3, u) else (if x3 = 0 then (zlet (FM_spell u x1) (fun u13 => (zlet (FM_spell u13 x2) (fun u17 => (LM_order_59 n u17 (x4 + 1) (FM_sign u17 ((((Mg_weights u13) ((Mg_digits u13) x4.toNatClampNeg).toNatClampNeg) : Int32).toInt64) ((((Mg_weights u17) ((Mg_digits u17) x4.toNatClampNeg).toNatClampNeg) : Int32).toInt64)) x1 x2))))) else (x3, u)))
def MM_order_59 : Nat → MS → Int32 → Int32 → Int32 → Int32 → Prop
  | 0, _, _, _, _, _ => False
  | n + 1, u, x4, x3, x1, x2 => (((40 : Int32) ≤ x4 → True) ∧ (¬ (40 : Int32) ≤ x4 → ((x3 = 0 → (GM_spell u x1 ∧ (zlet (FM_spell u x1) (fun u13 => (vp_in x4 40 ∧ (vp_in ((Mg_digits u13) x4.toNatClampNeg) 256 ∧ (GM_spell u13 x2 ∧ (zlet (FM_spell u13 x2) (fun u17 => (vp_in x4 40 ∧ (vp_in ((Mg_digits u17) x4.toNatClampNeg) 256 ∧ (MM_order_59 n u17 (x4 + 1) (FM_sign u17 ((((Mg_weights u13) ((Mg_digits u13) x4.toNatClampNeg).toNatClampNeg) : Int32).toInt64) ((((Mg_weights u17) ((Mg_digits u17) x4.toNatClampNeg).toNatClampNeg) : Int32).toInt64)) x1 x2)))))))))))) ∧ (¬ x3 = 0 → True))))
def FM_order (u : MS) (p0 : Int32) (p1 : Int32) : Int32 × MS := (if ((Mg_categories u) p0.toNatClampNeg) = 0 then (LM_order_59 1000 u 0 0 p0 p1) else (if ((Mg_categories u) p1.toNatClampNeg) = 0 then (LM_order_59 1000 u 0 0 p0 p1) else (if (FM_sign u (FM_part u p0) (FM_part u p1)) = 0 then ((FM_sign u (FM_rest u p0) (FM_rest u p1)), u) else ((FM_sign u (FM_part u p0) (FM_part u p1)), u))))
def GM_order (u : MS) (p0 : Int32) (p1 : Int32) : Prop := (vp_in p0 40 ∧ ((((Mg_categories u) p0.toNatClampNeg) = 0 → (MM_order_59 1000 u 0 0 p0 p1)) ∧ (¬ ((Mg_categories u) p0.toNatClampNeg) = 0 → (vp_in p1 40 ∧ ((((Mg_categories u) p1.toNatClampNeg) = 0 → (MM_order_59 1000 u 0 0 p0 p1)) ∧ (¬ ((Mg_categories u) p1.toNatClampNeg) = 0 → (GM_part u p0 ∧ (GM_part u p1 ∧ (((FM_sign u (FM_part u p0) (FM_part u p1)) = 0 → (GM_rest u p0 ∧ (GM_rest u p1 ∧ True))) ∧ (¬ (FM_sign u (FM_part u p0) (FM_part u p1)) = 0 → True))))))))))
set_option maxHeartbeats 4000000 in
set_option maxRecDepth 100000 in
theorem kM_order_59 {p : Program} {l : Launch} {e : Env} {s : State} {m : MethodId} {args : Array Value} {below : List Frame} {meth : Method} {c : Code} {D : va_G} {k : zK} {b : Nat → Nat} (hI : zI 22 b) (C0 : zC p s m args meth c cM_order (some .int) 6 RM wsM_order D k (zA 22 b)) {tgt : Int32 × MS} : ∀ (n : Nat) (u : MS) (x4 : Int32) (x3 : Int32) (x1 : Int32) (x2 : Int32), LM_order_59 n u x4 x3 x1 x2 = tgt → MM_order_59 n u x4 x3 x1 x2 → ∀ (H : Heap) (locs : List Loc), va_P D vwCl (wM k b u) H → va_S (zA 22 b) s.heap H locs → ∀ (ls : Array Slot), lv_has ls 6 [(4, .int x4), (3, .int x3), (0, .ref (b 0)), (1, .int x1), (2, .int x2)] → W p l e (headSpec wsM_order ({ frames := 3, cells := 0, slots := 0, locals := 77 })).room s m args below meth c H locs 0 0 (MQ below (zQi D (wM k b) (zA 22 b) tgt) args s 0 0 (zA 22 b)) (F0 m 59 ls []) := by
  obtain ⟨hx, hb, hr, hml, hown, hts, hlocks, hE⟩ := id C0
  have hK := hE.1
  intro n
  induction n with
  | zero =>
    intro u x4 x3 x1 x2 _ hg
    exact False.elim hg
  | succ n ih =>
    intro u x4 x3 x1 x2 hf hg H locs hP hS ls hl
    change ((if (40 : Int32) ≤ x4 then (x3, u) else (if x3 = 0 then (zlet (FM_spell u x1) (fun u13 => (zlet (FM_spell u13 x2) (fun u17 => (LM_order_59 n u17 (x4 + 1) (FM_sign u17 ((((Mg_weights u13) ((Mg_digits u13) x4.toNatClampNeg).toNatClampNeg) : Int32).toInt64) ((((Mg_weights u17) ((Mg_digits u17) x4.toNatClampNeg).toNatClampNeg) : Int32).toInt64)) x1 x2))))) else (x3, u))) : Int32 × MS) = tgt at hf
    change (((40 : Int32) ≤ x4 → True) ∧ (¬ (40 : Int32) ≤ x4 → ((x3 = 0 → (GM_spell u x1 ∧ (zlet (FM_spell u x1) (fun u13 => (vp_in x4 40 ∧ (vp_in ((Mg_digits u13) x4.toNatClampNeg) 256 ∧ (GM_spell u13 x2 ∧ (zlet (FM_spell u13 x2) (fun u17 => (vp_in x4 40 ∧ (vp_in ((Mg_digits u17) x4.toNatClampNeg) 256 ∧ (MM_order_59 n u17 (x4 + 1) (FM_sign u17 ((((Mg_weights u13) ((Mg_digits u13) x4.toNatClampNeg).toNatClampNeg) : Int32).toInt64) ((((Mg_weights u17) ((Mg_digits u17) x4.toNatClampNeg).toNatClampNeg) : Int32).toInt64)) x1 x2)))))))))))) ∧ (¬ x3 = 0 → True)))) at hg
    refine lv_iload hx hb dM_order_59 (lv_at hl 0 rfl) ?_
    refine lv_bipush (v := 40) hx hb dM_order_61 (by decide) ?_
    refine lv_icmp_ge (tgt := 120) hx hb dM_order_63 (by decide) (fun c10 => ?_) (fun c10 => ?_)
    · have hf := zt hf c10
      have hg := hg.1 c10
      refine lv_iload_n hx hb dM_order_120 rfl (lv_at hl 1 rfl) ?_
      exact W.iret (v := x3) hx hb hr (fun t ht hW => zri hf hP ht (hS.F ht)) hS.2.2 dM_order_121
    · have hf := zn hf c10
      have hg := hg.2 c10
      refine lv_iload_n hx hb dM_order_66 rfl (lv_at hl 1 rfl) ?_
      refine lv_if_ne (tgt := 120) hx hb dM_order_67 (by decide) (fun c11 => ?_) (fun c11 => ?_)
      · have hf := zn hf c11
        have hg := hg.2 c11
        refine lv_iload_n hx hb dM_order_120 rfl (lv_at hl 1 rfl) ?_
        exact W.iret (v := x3) hx hb hr (fun t ht hW => zri hf hP ht (hS.F ht)) hS.2.2 dM_order_121
      · have hf := zt hf c11
        have hg := hg.1 c11
        refine lv_aload_n hx hb dM_order_70 rfl (lv_at hl 2 rfl) ?_
        refine lv_iload_n hx hb dM_order_71 rfl (lv_at hl 3 rfl) ?_
        obtain ⟨h12, hg⟩ := hg
        refine zmuv (W.runV (As := [.int x1]) (rest := []) ⟨hx, hb, hml, hown, hts⟩ (tM_spell l hI u x1 h12) (cwV 1 hts (zgV m_810 m_812 mp_32 m_8 m_813) rfl rfl rfl (by decide +kernel) ⟨Nat.le_of_ble_eq_true rfl, Nat.le_of_ble_eq_true rfl⟩) (zpre hP hE hS.2.1 (va_recv hK hP (ci := 7) (q0 := 0) rfl rfl)) rfl rfl hl.1 rfl (lv_room (Nat.le_of_ble_eq_true rfl)) dM_order_72 ⟨Nat.zero_le _, Nat.zero_le _⟩) hS hf hg (fun u13 H locs hf hg hP hS => ?_)
        refine lv_aload_n hx hb dM_order_75 rfl (lv_at hl 2 rfl) ?_
        refine va_get (D := D) (ci := 7) (v := .ref (b 5)) (C := RM) (T := TM) (N := 30) hx hb hts (fun w h9 => zc (inM w h9)) hown hK hP 0 rfl rfl 6 (by decide) (hts _ (zc m_603)) (fun _ h9 => h9) rfl dM_order_76 ?_
        refine lv_aload_n hx hb dM_order_79 rfl (lv_at hl 2 rfl) ?_
        refine va_get (D := D) (ci := 7) (v := .ref (b 21)) (C := RM) (T := TM) (N := 30) hx hb hts (fun w h9 => zc (inM w h9)) hown hK hP 0 rfl rfl 29 (by decide) (hts _ (zc m_626)) (fun _ h9 => h9) rfl dM_order_80 ?_
        refine lv_iload hx hb dM_order_83 (lv_at hl 0 rfl) ?_
        obtain ⟨h14, hg⟩ := hg
        refine va_iald hx hb hK hP 21 0 rfl rfl h14 dM_order_85 ?_
        obtain ⟨h15, hg⟩ := hg
        refine va_iald hx hb hK hP 5 0 rfl rfl h15 dM_order_86 ?_
        refine lv_istore (lv' := [(5, .int ((Mg_weights u13) ((Mg_digits u13) x4.toNatClampNeg).toNatClampNeg)), (4, .int x4), (3, .int x3), (0, .ref (b 0)), (1, .int x1), (2, .int x2)]) hx hb dM_order_87 hl (by decide) rfl (fun ls hl => ?_)
        refine lv_aload_n hx hb dM_order_89 rfl (lv_at hl 3 rfl) ?_
        refine lv_iload_n hx hb dM_order_90 rfl (lv_at hl 5 rfl) ?_
        obtain ⟨h16, hg⟩ := hg
        refine zmuv (W.runV (As := [.int x2]) (rest := []) ⟨hx, hb, hml, hown, hts⟩ (tM_spell l hI u13 x2 h16) (cwV 1 hts (zgV m_810 m_812 mp_32 m_8 m_813) rfl rfl rfl (by decide +kernel) ⟨Nat.le_of_ble_eq_true rfl, Nat.le_of_ble_eq_true rfl⟩) (zpre hP hE hS.2.1 (va_recv hK hP (ci := 7) (q0 := 0) rfl rfl)) rfl rfl hl.1 rfl (lv_room (Nat.le_of_ble_eq_true rfl)) dM_order_91 ⟨Nat.zero_le _, Nat.zero_le _⟩) hS hf hg (fun u17 H locs hf hg hP hS => ?_)
        refine lv_iload hx hb dM_order_94 (lv_at hl 0 rfl) ?_
        refine lv_i2l (v := (((Mg_weights u13) ((Mg_digits u13) x4.toNatClampNeg).toNatClampNeg) : Int32).toInt64) hx hb dM_order_96 rfl ?_
        refine lv_aload_n hx hb dM_order_97 rfl (lv_at hl 3 rfl) ?_
        refine va_get (D := D) (ci := 7) (v := .ref (b 5)) (C := RM) (T := TM) (N := 30) hx hb hts (fun w h9 => zc (inM w h9)) hown hK hP 0 rfl rfl 6 (by decide) (hts _ (zc m_603)) (fun _ h9 => h9) rfl dM_order_98 ?_
        refine lv_aload_n hx hb dM_order_101 rfl (lv_at hl 3 rfl) ?_
        refine va_get (D := D) (ci := 7) (v := .ref (b 21)) (C := RM) (T := TM) (N := 30) hx hb hts (fun w h9 => zc (inM w h9)) hown hK hP 0 rfl rfl 29 (by decide) (hts _ (zc m_626)) (fun _ h9 => h9) rfl dM_order_102 ?_
        refine lv_iload hx hb dM_order_105 (lv_at hl 1 rfl) ?_
        obtain ⟨h18, hg⟩ := hg
        refine va_iald hx hb hK hP 21 0 rfl rfl h18 dM_order_107 ?_
        obtain ⟨h19, hg⟩ := hg
        refine va_iald hx hb hK hP 5 0 rfl rfl h19 dM_order_108 ?_
        refine lv_i2l (v := (((Mg_weights u17) ((Mg_digits u17) x4.toNatClampNeg).toNatClampNeg) : Int32).toInt64) hx hb dM_order_109 rfl ?_
        refine vp_callSi (W.runS (As := [.long ((((Mg_weights u13) ((Mg_digits u13) x4.toNatClampNeg).toNatClampNeg) : Int32).toInt64), .long ((((Mg_weights u17) ((Mg_digits u17) x4.toNatClampNeg).toNatClampNeg) : Int32).toInt64)]) (rest := []) ⟨hx, hb, hml, hown, hts⟩ (tM_sign l hI u17 ((((Mg_weights u13) ((Mg_digits u13) x4.toNatClampNeg).toNatClampNeg) : Int32).toInt64) ((((Mg_weights u17) ((Mg_digits u17) x4.toNatClampNeg).toNatClampNeg) : Int32).toInt64)) (va_cwS 2 hts (zgS m_803 m_804 m_8 m_805) rfl rfl rfl (by decide +kernel) ⟨Nat.le_of_ble_eq_true rfl, Nat.le_of_ble_eq_true rfl⟩) (zpreS hP hE hS.2.1) rfl rfl hl.1 rfl (lv_room (Nat.le_of_ble_eq_true rfl)) dM_order_110 ⟨Nat.zero_le _, Nat.zero_le _⟩) (fun r9 hr9 => ?_)
        subst hr9
        refine lv_istore_n (lv' := [(3, .int (FM_sign u17 ((((Mg_weights u13) ((Mg_digits u13) x4.toNatClampNeg).toNatClampNeg) : Int32).toInt64) ((((Mg_weights u17) ((Mg_digits u17) x4.toNatClampNeg).toNatClampNeg) : Int32).toInt64))), (5, .int ((Mg_weights u13) ((Mg_digits u13) x4.toNatClampNeg).toNatClampNeg)), (4, .int x4), (0, .ref (b 0)), (1, .int x1), (2, .int x2)]) hx hb dM_order_113 rfl hl (by decide) rfl (fun ls hl => ?_)
        refine lv_iinc (v := (x4 + 1)) (lv' := [(4, .int (x4 + 1)), (3, .int (FM_sign u17 ((((Mg_weights u13) ((Mg_digits u13) x4.toNatClampNeg).toNatClampNeg) : Int32).toInt64) ((((Mg_weights u17) ((Mg_digits u17) x4.toNatClampNeg).toNatClampNeg) : Int32).toInt64))), (5, .int ((Mg_weights u13) ((Mg_digits u13) x4.toNatClampNeg).toNatClampNeg)), (0, .ref (b 0)), (1, .int x1), (2, .int x2)]) hx hb dM_order_114 hl (k := 2) rfl rfl (by decide) rfl (fun ls hl => ?_)
        refine lv_goto (tgt := 59) hx hb dM_order_117 (by decide) ?_
        exact ih u17 (x4 + 1) (FM_sign u17 ((((Mg_weights u13) ((Mg_digits u13) x4.toNatClampNeg).toNatClampNeg) : Int32).toInt64) ((((Mg_weights u17) ((Mg_digits u17) x4.toNatClampNeg).toNatClampNeg) : Int32).toInt64)) x1 x2 hf hg _ _ hP hS _ (lv_sub hl [0, 1, 3, 4, 5] rfl)
set_option maxHeartbeats 4000000 in
set_option maxRecDepth 100000 in
theorem tM_order (l : Launch) {D : va_G} {k : zK} {b : Nat → Nat} (hI : zI 22 b) (u : MS) (p0 : Int32) (p1 : Int32) (hg : GM_order u p0 p1) : Met l yM_order wsM_order ({ frames := 3, cells := 0, slots := 0, locals := 77 }) (zPc D k (zA 22 b) (wM k b u) [.ref (b 0), .int p0, .int p1]) (zQi D (wM k b) (zA 22 b) (FM_order u p0 p1)) 0 0 (zA 22 b) := by
  refine Met.ofW (cc := cM_order) (maxL := 6) (ret := (some .int)) (by decide) rfl ?_
  intro p e s m args below meth c s₁ B hml hv
  obtain ⟨rfl, hP, hE⟩ := hv
  have hts := atoms_spec (ws := wsM_order) B.pre
  have C0 : zC p s m _ meth c cM_order (some .int) 6 RM wsM_order D k (zA 22 b) := ⟨B.exec, B.bytes, B.returns, hml, findClass_of_methodNamed B.named, hts, B.notSynchronized, hE⟩
  obtain ⟨hx, hb, hr, hml, hown, _, hlocks, _⟩ := id C0
  have hK := hE.1
  have hS : va_S (zA 22 b) s.heap s.heap [] := va_S.rf
  generalize hf : FM_order u p0 p1 = tgt
  change ((if ((Mg_categories u) p0.toNatClampNeg) = 0 then (LM_order_59 1000 u 0 0 p0 p1) else (if ((Mg_categories u) p1.toNatClampNeg) = 0 then (LM_order_59 1000 u 0 0 p0 p1) else (if (FM_sign u (FM_part u p0) (FM_part u p1)) = 0 then ((FM_sign u (FM_rest u p0) (FM_rest u p1)), u) else ((FM_sign u (FM_part u p0) (FM_part u p1)), u)))) : Int32 × MS) = tgt at hf
  change (vp_in p0 40 ∧ ((((Mg_categories u) p0.toNatClampNeg) = 0 → (MM_order_59 1000 u 0 0 p0 p1)) ∧ (¬ ((Mg_categories u) p0.toNatClampNeg) = 0 → (vp_in p1 40 ∧ ((((Mg_categories u) p1.toNatClampNeg) = 0 → (MM_order_59 1000 u 0 0 p0 p1)) ∧ (¬ ((Mg_categories u) p1.toNatClampNeg) = 0 → (GM_part u p0 ∧ (GM_part u p1 ∧ (((FM_sign u (FM_part u p0) (FM_part u p1)) = 0 → (GM_rest u p0 ∧ (GM_rest u p1 ∧ True))) ∧ (¬ (FM_sign u (FM_part u p0) (FM_part u p1)) = 0 → True)))))))))) at hg
  have hl := lv_entry ([.ref (b 0), .int p0, .int p1]) (n := 6) (Nat.le_of_ble_eq_true rfl)
  rw [lg_entry_eq]
  generalize (lg_sl ([.ref (b 0), .int p0, .int p1]) ++ List.replicate (6 - (lg_sl ([.ref (b 0), .int p0, .int p1])).length) Slot.unset).toArray = ls at hl ⊢
  have hl : lv_has ls 6 [(0, .ref (b 0)), (1, .int p0), (2, .int p1)] := hl
  refine lv_aload_n hx hb dM_order_0 rfl (lv_at hl 0 rfl) ?_
  refine va_get (D := D) (ci := 7) (v := .ref (b 2)) (C := RM) (T := TM) (N := 30) hx hb hts (fun w h9 => zc (inM w h9)) hown hK hP 0 rfl rfl 3 (by decide) (hts _ (zc m_600)) (fun _ h9 => h9) rfl dM_order_1 ?_
  refine lv_iload_n hx hb dM_order_4 rfl (lv_at hl 1 rfl) ?_
  obtain ⟨h1, hg⟩ := hg
  refine va_iald hx hb hK hP 2 0 rfl rfl h1 dM_order_5 ?_
  refine lv_if_eq (tgt := 54) hx hb dM_order_6 (by decide) (fun c2 => ?_) (fun c2 => ?_)
  · have hf := zt hf c2
    have hg := hg.1 c2
    refine lv_iconst (v := 0) hx hb dM_order_54 (by decide) ?_
    refine lv_istore_n (lv' := [(3, .int 0), (0, .ref (b 0)), (1, .int p0), (2, .int p1)]) hx hb dM_order_55 rfl hl (by decide) rfl (fun ls hl => ?_)
    refine lv_iconst (v := 0) hx hb dM_order_56 (by decide) ?_
    refine lv_istore (lv' := [(4, .int 0), (3, .int 0), (0, .ref (b 0)), (1, .int p0), (2, .int p1)]) hx hb dM_order_57 hl (by decide) rfl (fun ls hl => ?_)
    exact kM_order_59 hI C0 (tgt := tgt) 1000 u 0 0 p0 p1 hf hg _ _ hP hS _ (lv_sub hl [0, 1, 2, 3, 4] rfl)
  · have hf := zn hf c2
    have hg := hg.2 c2
    refine lv_aload_n hx hb dM_order_9 rfl (lv_at hl 0 rfl) ?_
    refine va_get (D := D) (ci := 7) (v := .ref (b 2)) (C := RM) (T := TM) (N := 30) hx hb hts (fun w h9 => zc (inM w h9)) hown hK hP 0 rfl rfl 3 (by decide) (hts _ (zc m_600)) (fun _ h9 => h9) rfl dM_order_10 ?_
    refine lv_iload_n hx hb dM_order_13 rfl (lv_at hl 2 rfl) ?_
    obtain ⟨h3, hg⟩ := hg
    refine va_iald hx hb hK hP 2 0 rfl rfl h3 dM_order_14 ?_
    refine lv_if_eq (tgt := 54) hx hb dM_order_15 (by decide) (fun c4 => ?_) (fun c4 => ?_)
    · have hf := zt hf c4
      have hg := hg.1 c4
      refine lv_iconst (v := 0) hx hb dM_order_54 (by decide) ?_
      refine lv_istore_n (lv' := [(3, .int 0), (0, .ref (b 0)), (1, .int p0), (2, .int p1)]) hx hb dM_order_55 rfl hl (by decide) rfl (fun ls hl => ?_)
      refine lv_iconst (v := 0) hx hb dM_order_56 (by decide) ?_
      refine lv_istore (lv' := [(4, .int 0), (3, .int 0), (0, .ref (b 0)), (1, .int p0), (2, .int p1)]) hx hb dM_order_57 hl (by decide) rfl (fun ls hl => ?_)
      exact kM_order_59 hI C0 (tgt := tgt) 1000 u 0 0 p0 p1 hf hg _ _ hP hS _ (lv_sub hl [0, 1, 2, 3, 4] rfl)
    · have hf := zn hf c4
      have hg := hg.2 c4
      refine lv_aload_n hx hb dM_order_18 rfl (lv_at hl 0 rfl) ?_
      refine lv_iload_n hx hb dM_order_19 rfl (lv_at hl 1 rfl) ?_
      obtain ⟨h5, hg⟩ := hg
      refine vp_callSl (W.runV (As := [.int p0]) (rest := []) ⟨hx, hb, hml, hown, hts⟩ (tM_part l hI u p0 h5) (cwV 1 hts (zgV m_790 m_792 mp_29 m_8 m_793) rfl rfl rfl (by decide +kernel) ⟨Nat.le_of_ble_eq_true rfl, Nat.le_of_ble_eq_true rfl⟩) (zpre hP hE hS.2.1 (va_recv hK hP (ci := 7) (q0 := 0) rfl rfl)) rfl rfl hl.1 rfl (lv_room (Nat.le_of_ble_eq_true rfl)) dM_order_20 ⟨Nat.zero_le _, Nat.zero_le _⟩) (fun r9 hr9 => ?_)
      subst hr9
      refine lv_aload_n hx hb dM_order_23 rfl (lv_at hl 0 rfl) ?_
      refine lv_iload_n hx hb dM_order_24 rfl (lv_at hl 2 rfl) ?_
      obtain ⟨h6, hg⟩ := hg
      refine vp_callSl (W.runV (As := [.int p1]) (rest := [.long (FM_part u p0)]) ⟨hx, hb, hml, hown, hts⟩ (tM_part l hI u p1 h6) (cwV 1 hts (zgV m_790 m_792 mp_29 m_8 m_793) rfl rfl rfl (by decide +kernel) ⟨Nat.le_of_ble_eq_true rfl, Nat.le_of_ble_eq_true rfl⟩) (zpre hP hE hS.2.1 (va_recv hK hP (ci := 7) (q0 := 0) rfl rfl)) rfl rfl hl.1 rfl (lv_room (Nat.le_of_ble_eq_true rfl)) dM_order_25 ⟨Nat.zero_le _, Nat.zero_le _⟩) (fun r9 hr9 => ?_)
      subst hr9
      refine vp_callSi (W.runS (As := [.long (FM_part u p0), .long (FM_part u p1)]) (rest := []) ⟨hx, hb, hml, hown, hts⟩ (tM_sign l hI u (FM_part u p0) (FM_part u p1)) (va_cwS 2 hts (zgS m_803 m_804 m_8 m_805) rfl rfl rfl (by decide +kernel) ⟨Nat.le_of_ble_eq_true rfl, Nat.le_of_ble_eq_true rfl⟩) (zpreS hP hE hS.2.1) rfl rfl hl.1 rfl (lv_room (Nat.le_of_ble_eq_true rfl)) dM_order_28 ⟨Nat.zero_le _, Nat.zero_le _⟩) (fun r9 hr9 => ?_)
      subst hr9
      refine lv_istore_n (lv' := [(3, .int (FM_sign u (FM_part u p0) (FM_part u p1))), (0, .ref (b 0)), (1, .int p0), (2, .int p1)]) hx hb dM_order_31 rfl hl (by decide) rfl (fun ls hl => ?_)
      refine lv_iload_n hx hb dM_order_32 rfl (lv_at hl 0 rfl) ?_
      refine lv_if_eq (tgt := 40) hx hb dM_order_33 (by decide) (fun c7 => ?_) (fun c7 => ?_)
      · have hf := zt hf c7
        have hg := hg.1 c7
        refine lv_aload_n hx hb dM_order_40 rfl (lv_at hl 1 rfl) ?_
        refine lv_iload_n hx hb dM_order_41 rfl (lv_at hl 2 rfl) ?_
        obtain ⟨h8, hg⟩ := hg
        refine vp_callSl (W.runV (As := [.int p0]) (rest := []) ⟨hx, hb, hml, hown, hts⟩ (tM_rest l hI u p0 h8) (cwV 1 hts (zgV m_806 m_808 mp_31 m_8 m_809) rfl rfl rfl (by decide +kernel) ⟨Nat.le_of_ble_eq_true rfl, Nat.le_of_ble_eq_true rfl⟩) (zpre hP hE hS.2.1 (va_recv hK hP (ci := 7) (q0 := 0) rfl rfl)) rfl rfl hl.1 rfl (lv_room (Nat.le_of_ble_eq_true rfl)) dM_order_42 ⟨Nat.zero_le _, Nat.zero_le _⟩) (fun r9 hr9 => ?_)
        subst hr9
        refine lv_aload_n hx hb dM_order_45 rfl (lv_at hl 1 rfl) ?_
        refine lv_iload_n hx hb dM_order_46 rfl (lv_at hl 3 rfl) ?_
        obtain ⟨h9, hg⟩ := hg
        refine vp_callSl (W.runV (As := [.int p1]) (rest := [.long (FM_rest u p0)]) ⟨hx, hb, hml, hown, hts⟩ (tM_rest l hI u p1 h9) (cwV 1 hts (zgV m_806 m_808 mp_31 m_8 m_809) rfl rfl rfl (by decide +kernel) ⟨Nat.le_of_ble_eq_true rfl, Nat.le_of_ble_eq_true rfl⟩) (zpre hP hE hS.2.1 (va_recv hK hP (ci := 7) (q0 := 0) rfl rfl)) rfl rfl hl.1 rfl (lv_room (Nat.le_of_ble_eq_true rfl)) dM_order_47 ⟨Nat.zero_le _, Nat.zero_le _⟩) (fun r9 hr9 => ?_)
        subst hr9
        refine vp_callSi (W.runS (As := [.long (FM_rest u p0), .long (FM_rest u p1)]) (rest := []) ⟨hx, hb, hml, hown, hts⟩ (tM_sign l hI u (FM_rest u p0) (FM_rest u p1)) (va_cwS 2 hts (zgS m_803 m_804 m_8 m_805) rfl rfl rfl (by decide +kernel) ⟨Nat.le_of_ble_eq_true rfl, Nat.le_of_ble_eq_true rfl⟩) (zpreS hP hE hS.2.1) rfl rfl hl.1 rfl (lv_room (Nat.le_of_ble_eq_true rfl)) dM_order_50 ⟨Nat.zero_le _, Nat.zero_le _⟩) (fun r9 hr9 => ?_)
        subst hr9
        exact W.iret (v := (FM_sign u (FM_rest u p0) (FM_rest u p1))) hx hb hr (fun t ht hW => zri hf hP ht (hS.F ht)) hS.2.2 dM_order_53
      · have hf := zn hf c7
        have hg := hg.2 c7
        refine lv_iload_n hx hb dM_order_36 rfl (lv_at hl 0 rfl) ?_
        refine lv_goto (tgt := 53) hx hb dM_order_37 (by decide) ?_
        exact W.iret (v := (FM_sign u (FM_part u p0) (FM_part u p1))) hx hb hr (fun t ht hW => zri hf hP ht (hS.F ht)) hS.2.2 dM_order_53
theorem dM_refusal_0 : decode cM_refusal 0 = .ok (.iload_n 1, 1) := by decide +kernel
theorem dM_refusal_1 : decode cM_refusal 1 = .ok (.ifCond .lt 56, 3) := by decide +kernel
theorem dM_refusal_4 : decode cM_refusal 4 = .ok (.iload_n 1, 1) := by decide +kernel
theorem dM_refusal_5 : decode cM_refusal 5 = .ok (.bipush 12, 2) := by decide +kernel
theorem dM_refusal_7 : decode cM_refusal 7 = .ok (.if_icmp .gt 50, 3) := by decide +kernel
theorem dM_refusal_10 : decode cM_refusal 10 = .ok (.iload_n 1, 1) := by decide +kernel
theorem dM_refusal_11 : decode cM_refusal 11 = .ok (.bipush 6, 2) := by decide +kernel
theorem dM_refusal_13 : decode cM_refusal 13 = .ok (.if_icmp .ne 12, 3) := by decide +kernel
theorem dM_refusal_16 : decode cM_refusal 16 = .ok (.iload_n 3, 1) := by decide +kernel
theorem dM_refusal_17 : decode cM_refusal 17 = .ok (.ifCond .lt 40, 3) := by decide +kernel
theorem dM_refusal_20 : decode cM_refusal 20 = .ok (.iload_n 3, 1) := by decide +kernel
theorem dM_refusal_21 : decode cM_refusal 21 = .ok (.iconst 3, 1) := by decide +kernel
theorem dM_refusal_22 : decode cM_refusal 22 = .ok (.if_icmp .gt 35, 3) := by decide +kernel
theorem dM_refusal_25 : decode cM_refusal 25 = .ok (.iload_n 1, 1) := by decide +kernel
theorem dM_refusal_26 : decode cM_refusal 26 = .ok (.bipush 7, 2) := by decide +kernel
theorem dM_refusal_28 : decode cM_refusal 28 = .ok (.if_icmp .ne 13, 3) := by decide +kernel
theorem dM_refusal_31 : decode cM_refusal 31 = .ok (.iload_n 3, 1) := by decide +kernel
theorem dM_refusal_32 : decode cM_refusal 32 = .ok (.iconst (-1), 1) := by decide +kernel
theorem dM_refusal_33 : decode cM_refusal 33 = .ok (.if_icmp .lt 24, 3) := by decide +kernel
theorem dM_refusal_36 : decode cM_refusal 36 = .ok (.iload_n 3, 1) := by decide +kernel
theorem dM_refusal_37 : decode cM_refusal 37 = .ok (.iconst 1, 1) := by decide +kernel
theorem dM_refusal_38 : decode cM_refusal 38 = .ok (.if_icmp .gt 19, 3) := by decide +kernel
theorem dM_refusal_41 : decode cM_refusal 41 = .ok (.iload_n 1, 1) := by decide +kernel
theorem dM_refusal_42 : decode cM_refusal 42 = .ok (.bipush 9, 2) := by decide +kernel
theorem dM_refusal_44 : decode cM_refusal 44 = .ok (.if_icmp .ne 16, 3) := by decide +kernel
theorem dM_refusal_47 : decode cM_refusal 47 = .ok (.iload_n 2, 1) := by decide +kernel
theorem dM_refusal_48 : decode cM_refusal 48 = .ok (.ifCond .lt 9, 3) := by decide +kernel
theorem dM_refusal_51 : decode cM_refusal 51 = .ok (.iload_n 2, 1) := by decide +kernel
theorem dM_refusal_52 : decode cM_refusal 52 = .ok (.bipush 15, 2) := by decide +kernel
theorem dM_refusal_54 : decode cM_refusal 54 = .ok (.if_icmp .le 6, 3) := by decide +kernel
theorem dM_refusal_57 : decode cM_refusal 57 = .ok (.bipush (-4), 2) := by decide +kernel
theorem dM_refusal_59 : decode cM_refusal 59 = .ok (.ireturn, 1) := by decide +kernel
theorem dM_refusal_60 : decode cM_refusal 60 = .ok (.iload_n 1, 1) := by decide +kernel
theorem dM_refusal_61 : decode cM_refusal 61 = .ok (.bipush 6, 2) := by decide +kernel
theorem dM_refusal_63 : decode cM_refusal 63 = .ok (.if_icmp .ge 26, 3) := by decide +kernel
theorem dM_refusal_66 : decode cM_refusal 66 = .ok (.aload_n 0, 1) := by decide +kernel
theorem dM_refusal_67 : decode cM_refusal 67 = .ok (.iload_n 2, 1) := by decide +kernel
theorem dM_refusal_68 : decode cM_refusal 68 = .ok (.invokevirtual 92, 3) := by decide +kernel
theorem dM_refusal_71 : decode cM_refusal 71 = .ok (.ifCond .eq 15, 3) := by decide +kernel
theorem dM_refusal_74 : decode cM_refusal 74 = .ok (.aload_n 0, 1) := by decide +kernel
theorem dM_refusal_75 : decode cM_refusal 75 = .ok (.iload_n 3, 1) := by decide +kernel
theorem dM_refusal_76 : decode cM_refusal 76 = .ok (.invokevirtual 92, 3) := by decide +kernel
theorem dM_refusal_79 : decode cM_refusal 79 = .ok (.ifCond .eq 7, 3) := by decide +kernel
theorem dM_refusal_82 : decode cM_refusal 82 = .ok (.iconst 0, 1) := by decide +kernel
theorem dM_refusal_83 : decode cM_refusal 83 = .ok (.goto 5, 3) := by decide +kernel
theorem dM_refusal_86 : decode cM_refusal 86 = .ok (.bipush (-2), 2) := by decide +kernel
theorem dM_refusal_88 : decode cM_refusal 88 = .ok (.ireturn, 1) := by decide +kernel
theorem dM_refusal_89 : decode cM_refusal 89 = .ok (.iload_n 1, 1) := by decide +kernel
theorem dM_refusal_90 : decode cM_refusal 90 = .ok (.bipush 8, 2) := by decide +kernel
theorem dM_refusal_92 : decode cM_refusal 92 = .ok (.if_icmp .ge 33, 3) := by decide +kernel
theorem dM_refusal_95 : decode cM_refusal 95 = .ok (.aload_n 0, 1) := by decide +kernel
theorem dM_refusal_96 : decode cM_refusal 96 = .ok (.iload_n 2, 1) := by decide +kernel
theorem dM_refusal_97 : decode cM_refusal 97 = .ok (.invokevirtual 92, 3) := by decide +kernel
theorem dM_refusal_100 : decode cM_refusal 100 = .ok (.ifCond .eq 22, 3) := by decide +kernel
theorem dM_refusal_103 : decode cM_refusal 103 = .ok (.iload_n 1, 1) := by decide +kernel
theorem dM_refusal_104 : decode cM_refusal 104 = .ok (.bipush 6, 2) := by decide +kernel
theorem dM_refusal_106 : decode cM_refusal 106 = .ok (.if_icmp .eq 12, 3) := by decide +kernel
theorem dM_refusal_109 : decode cM_refusal 109 = .ok (.aload_n 0, 1) := by decide +kernel
theorem dM_refusal_110 : decode cM_refusal 110 = .ok (.getfield 13, 3) := by decide +kernel
theorem dM_refusal_113 : decode cM_refusal 113 = .ok (.iload_n 2, 1) := by decide +kernel
theorem dM_refusal_114 : decode cM_refusal 114 = .ok (.iaload, 1) := by decide +kernel
theorem dM_refusal_115 : decode cM_refusal 115 = .ok (.ifCond .eq 7, 3) := by decide +kernel
theorem dM_refusal_118 : decode cM_refusal 118 = .ok (.iconst 0, 1) := by decide +kernel
theorem dM_refusal_119 : decode cM_refusal 119 = .ok (.goto 5, 3) := by decide +kernel
theorem dM_refusal_122 : decode cM_refusal 122 = .ok (.bipush (-2), 2) := by decide +kernel
theorem dM_refusal_124 : decode cM_refusal 124 = .ok (.ireturn, 1) := by decide +kernel
theorem dM_refusal_125 : decode cM_refusal 125 = .ok (.iload_n 1, 1) := by decide +kernel
theorem dM_refusal_126 : decode cM_refusal 126 = .ok (.bipush 8, 2) := by decide +kernel
theorem dM_refusal_128 : decode cM_refusal 128 = .ok (.if_icmp .ne 18, 3) := by decide +kernel
theorem dM_refusal_131 : decode cM_refusal 131 = .ok (.aload_n 0, 1) := by decide +kernel
theorem dM_refusal_132 : decode cM_refusal 132 = .ok (.iload_n 2, 1) := by decide +kernel
theorem dM_refusal_133 : decode cM_refusal 133 = .ok (.invokevirtual 129, 3) := by decide +kernel
theorem dM_refusal_136 : decode cM_refusal 136 = .ok (.ifCond .eq 7, 3) := by decide +kernel
theorem dM_refusal_139 : decode cM_refusal 139 = .ok (.iconst 0, 1) := by decide +kernel
theorem dM_refusal_140 : decode cM_refusal 140 = .ok (.goto 5, 3) := by decide +kernel
theorem dM_refusal_143 : decode cM_refusal 143 = .ok (.bipush (-2), 2) := by decide +kernel
theorem dM_refusal_145 : decode cM_refusal 145 = .ok (.ireturn, 1) := by decide +kernel
theorem dM_refusal_146 : decode cM_refusal 146 = .ok (.iload_n 1, 1) := by decide +kernel
theorem dM_refusal_147 : decode cM_refusal 147 = .ok (.bipush 9, 2) := by decide +kernel
theorem dM_refusal_149 : decode cM_refusal 149 = .ok (.if_icmp .ne 5, 3) := by decide +kernel
theorem dM_refusal_152 : decode cM_refusal 152 = .ok (.iconst 0, 1) := by decide +kernel
theorem dM_refusal_153 : decode cM_refusal 153 = .ok (.ireturn, 1) := by decide +kernel
theorem dM_refusal_154 : decode cM_refusal 154 = .ok (.aload_n 0, 1) := by decide +kernel
theorem dM_refusal_155 : decode cM_refusal 155 = .ok (.iload_n 2, 1) := by decide +kernel
theorem dM_refusal_156 : decode cM_refusal 156 = .ok (.invokevirtual 132, 3) := by decide +kernel
theorem dM_refusal_159 : decode cM_refusal 159 = .ok (.ifCond .eq 21, 3) := by decide +kernel
theorem dM_refusal_162 : decode cM_refusal 162 = .ok (.iload_n 1, 1) := by decide +kernel
theorem dM_refusal_163 : decode cM_refusal 163 = .ok (.bipush 10, 2) := by decide +kernel
theorem dM_refusal_165 : decode cM_refusal 165 = .ok (.if_icmp .eq 11, 3) := by decide +kernel
theorem dM_refusal_168 : decode cM_refusal 168 = .ok (.aload_n 0, 1) := by decide +kernel
theorem dM_refusal_169 : decode cM_refusal 169 = .ok (.iload_n 3, 1) := by decide +kernel
theorem dM_refusal_170 : decode cM_refusal 170 = .ok (.invokevirtual 132, 3) := by decide +kernel
theorem dM_refusal_173 : decode cM_refusal 173 = .ok (.ifCond .eq 7, 3) := by decide +kernel
theorem dM_refusal_176 : decode cM_refusal 176 = .ok (.iconst 0, 1) := by decide +kernel
theorem dM_refusal_177 : decode cM_refusal 177 = .ok (.goto 5, 3) := by decide +kernel
theorem dM_refusal_180 : decode cM_refusal 180 = .ok (.bipush (-2), 2) := by decide +kernel
theorem dM_refusal_182 : decode cM_refusal 182 = .ok (.ireturn, 1) := by decide +kernel
abbrev wsM_refusal : List Cond := Cond.code yM_refusal cM_refusal 4 (some .int) :: zWords
def LM_refusal_60 (n : Nat) (u : MS) (x1 : Int32) (x2 : Int32) (x3 : Int32) : Int32 := (if (6 : Int32) ≤ x1 then (if (8 : Int32) ≤ x1 then (if x1 = 8 then (if (FM_isName u x2) = 0 then (-2) else 0) else (if x1 = 9 then 0 else (if (FM_isNode u x2) = 0 then (-2) else (if x1 = 10 then 0 else (if (FM_isNode u x3) = 0 then (-2) else 0))))) else (if (FM_isField u x2) = 0 then (-2) else (if x1 = 6 then 0 else (if ((Mg_categories u) x2.toNatClampNeg) = 0 then (-2) else 0)))) else (if (FM_isField u x2) = 0 then (-2) else (if (FM_isField u x3) = 0 then (-2) else 0)))
def MM_refusal_60 (n : Nat) (u : MS) (x1 : Int32) (x2 : Int32) (x3 : Int32) : Prop := (((6 : Int32) ≤ x1 → (((8 : Int32) ≤ x1 → True) ∧ (¬ (8 : Int32) ≤ x1 → (((FM_isField u x2) = 0 → True) ∧ (¬ (FM_isField u x2) = 0 → ((x1 = 6 → True) ∧ (¬ x1 = 6 → (vp_in x2 40 ∧ True)))))))) ∧ (¬ (6 : Int32) ≤ x1 → True))
def LM_refusal_41 (n : Nat) (u : MS) (x1 : Int32) (x2 : Int32) (x3 : Int32) : Int32 := (if x1 = 9 then (if x2 < 0 then (-4) else (if x2 ≤ 15 then (LM_refusal_60 n u x1 x2 x3) else (-4))) else (LM_refusal_60 n u x1 x2 x3))
def MM_refusal_41 (n : Nat) (u : MS) (x1 : Int32) (x2 : Int32) (x3 : Int32) : Prop := ((x1 = 9 → ((x2 < 0 → True) ∧ (¬ x2 < 0 → ((x2 ≤ 15 → (MM_refusal_60 n u x1 x2 x3)) ∧ (¬ x2 ≤ 15 → True))))) ∧ (¬ x1 = 9 → (MM_refusal_60 n u x1 x2 x3)))
def LM_refusal_25 (n : Nat) (u : MS) (x1 : Int32) (x2 : Int32) (x3 : Int32) : Int32 := (if x1 = 7 then (if x3 < (-1) then (-4) else (if (1 : Int32) < x3 then (-4) else (LM_refusal_41 n u x1 x2 x3))) else (LM_refusal_41 n u x1 x2 x3))
def MM_refusal_25 (n : Nat) (u : MS) (x1 : Int32) (x2 : Int32) (x3 : Int32) : Prop := ((x1 = 7 → ((x3 < (-1) → True) ∧ (¬ x3 < (-1) → (((1 : Int32) < x3 → True) ∧ (¬ (1 : Int32) < x3 → (MM_refusal_41 n u x1 x2 x3)))))) ∧ (¬ x1 = 7 → (MM_refusal_41 n u x1 x2 x3)))
def FM_refusal (u : MS) (p0 : Int32) (p1 : Int32) (p2 : Int32) : Int32 := (if p0 < 0 then (-4) else (if (12 : Int32) < p0 then (-4) else (if p0 = 6 then (if p2 < 0 then (-4) else (if (3 : Int32) < p2 then (-4) else (LM_refusal_25 1000 u p0 p1 p2))) else (LM_refusal_25 1000 u p0 p1 p2))))
def GM_refusal (u : MS) (p0 : Int32) (p1 : Int32) (p2 : Int32) : Prop := ((p0 < 0 → True) ∧ (¬ p0 < 0 → (((12 : Int32) < p0 → True) ∧ (¬ (12 : Int32) < p0 → ((p0 = 6 → ((p2 < 0 → True) ∧ (¬ p2 < 0 → (((3 : Int32) < p2 → True) ∧ (¬ (3 : Int32) < p2 → (MM_refusal_25 1000 u p0 p1 p2)))))) ∧ (¬ p0 = 6 → (MM_refusal_25 1000 u p0 p1 p2)))))))
set_option maxHeartbeats 4000000 in
set_option maxRecDepth 100000 in
theorem kM_refusal_60 {p : Program} {l : Launch} {e : Env} {s : State} {m : MethodId} {args : Array Value} {below : List Frame} {meth : Method} {c : Code} {D : va_G} {k : zK} {b : Nat → Nat} (hI : zI 22 b) (C0 : zC p s m args meth c cM_refusal (some .int) 4 RM wsM_refusal D k (zA 22 b)) {tgt : Int32} : ∀ (n : Nat) (u : MS) (x1 : Int32) (x2 : Int32) (x3 : Int32), LM_refusal_60 n u x1 x2 x3 = tgt → MM_refusal_60 n u x1 x2 x3 → ∀ (H : Heap) (locs : List Loc), va_P D vwCl (wM k b u) H → va_S (zA 22 b) s.heap H locs → H = s.heap ∧ locs = [] → ∀ (ls : Array Slot), lv_has ls 4 [(0, .ref (b 0)), (1, .int x1), (2, .int x2), (3, .int x3)] → W p l e (headSpec wsM_refusal ({ frames := 1, cells := 0, slots := 0, locals := 21 })).room s m args below meth c H locs 0 0 (MQ below (vp_Si (fun r9 => r9 = tgt)) args s 0 0 (fun _ => False)) (F0 m 60 ls []) := by
  obtain ⟨hx, hb, hr, hml, hown, hts, hlocks, hE⟩ := id C0
  have hK := hE.1
  intro n
  intro u x1 x2 x3 hf hg H locs hP hS hq ls hl
  obtain ⟨rfl, rfl⟩ := hq
  change ((if (6 : Int32) ≤ x1 then (if (8 : Int32) ≤ x1 then (if x1 = 8 then (if (FM_isName u x2) = 0 then (-2) else 0) else (if x1 = 9 then 0 else (if (FM_isNode u x2) = 0 then (-2) else (if x1 = 10 then 0 else (if (FM_isNode u x3) = 0 then (-2) else 0))))) else (if (FM_isField u x2) = 0 then (-2) else (if x1 = 6 then 0 else (if ((Mg_categories u) x2.toNatClampNeg) = 0 then (-2) else 0)))) else (if (FM_isField u x2) = 0 then (-2) else (if (FM_isField u x3) = 0 then (-2) else 0))) : Int32) = tgt at hf
  change (((6 : Int32) ≤ x1 → (((8 : Int32) ≤ x1 → True) ∧ (¬ (8 : Int32) ≤ x1 → (((FM_isField u x2) = 0 → True) ∧ (¬ (FM_isField u x2) = 0 → ((x1 = 6 → True) ∧ (¬ x1 = 6 → (vp_in x2 40 ∧ True)))))))) ∧ (¬ (6 : Int32) ≤ x1 → True)) at hg
  refine lv_iload_n hx hb dM_refusal_60 rfl (lv_at hl 1 rfl) ?_
  refine lv_bipush (v := 6) hx hb dM_refusal_61 (by decide) ?_
  refine lv_icmp_ge (tgt := 89) hx hb dM_refusal_63 (by decide) (fun c12 => ?_) (fun c12 => ?_)
  · have hf := zt hf c12
    have hg := hg.1 c12
    refine lv_iload_n hx hb dM_refusal_89 rfl (lv_at hl 1 rfl) ?_
    refine lv_bipush (v := 8) hx hb dM_refusal_90 (by decide) ?_
    refine lv_icmp_ge (tgt := 125) hx hb dM_refusal_92 (by decide) (fun c13 => ?_) (fun c13 => ?_)
    · have hf := zt hf c13
      have hg := hg.1 c13
      refine lv_iload_n hx hb dM_refusal_125 rfl (lv_at hl 1 rfl) ?_
      refine lv_bipush (v := 8) hx hb dM_refusal_126 (by decide) ?_
      refine lv_icmp_ne (tgt := 146) hx hb dM_refusal_128 (by decide) (fun c14 => ?_) (fun c14 => ?_)
      · have hf := zn hf c14
        refine lv_iload_n hx hb dM_refusal_146 rfl (lv_at hl 1 rfl) ?_
        refine lv_bipush (v := 9) hx hb dM_refusal_147 (by decide) ?_
        refine lv_icmp_ne (tgt := 154) hx hb dM_refusal_149 (by decide) (fun c15 => ?_) (fun c15 => ?_)
        · have hf := zn hf c15
          refine lv_aload_n hx hb dM_refusal_154 rfl (lv_at hl 0 rfl) ?_
          refine lv_iload_n hx hb dM_refusal_155 rfl (lv_at hl 2 rfl) ?_
          refine vp_callSi (W.runV (As := [.int x2]) (rest := []) ⟨hx, hb, hml, hown, hts⟩ (tM_isNode l hI u x2) (cwV 1 hts (zgV m_723 m_725 mp_20 m_8 m_726) rfl rfl rfl (by decide +kernel) ⟨Nat.le_of_ble_eq_true rfl, Nat.le_of_ble_eq_true rfl⟩) (zpre hP hE hS.2.1 (va_recv hK hP (ci := 7) (q0 := 0) rfl rfl)) rfl rfl hl.1 rfl (lv_room (Nat.le_of_ble_eq_true rfl)) dM_refusal_156 ⟨Nat.zero_le _, Nat.zero_le _⟩) (fun r9 hr9 => ?_)
          subst hr9
          refine lv_if_eq (tgt := 180) hx hb dM_refusal_159 (by decide) (fun c16 => ?_) (fun c16 => ?_)
          · have hf := zt hf c16
            refine lv_bipush (v := (-2)) hx hb dM_refusal_180 (by decide) ?_
            exact W.iret (v := (-2)) hx hb hr (fun t ht hW => ⟨_, rfl, hf, ht⟩) (fun _ h9 => nomatch h9) dM_refusal_182
          · have hf := zn hf c16
            refine lv_iload_n hx hb dM_refusal_162 rfl (lv_at hl 1 rfl) ?_
            refine lv_bipush (v := 10) hx hb dM_refusal_163 (by decide) ?_
            refine lv_icmp_eq (tgt := 176) hx hb dM_refusal_165 (by decide) (fun c17 => ?_) (fun c17 => ?_)
            · have hf := zt hf c17
              refine lv_iconst (v := 0) hx hb dM_refusal_176 (by decide) ?_
              refine lv_goto (tgt := 182) hx hb dM_refusal_177 (by decide) ?_
              exact W.iret (v := 0) hx hb hr (fun t ht hW => ⟨_, rfl, hf, ht⟩) (fun _ h9 => nomatch h9) dM_refusal_182
            · have hf := zn hf c17
              refine lv_aload_n hx hb dM_refusal_168 rfl (lv_at hl 0 rfl) ?_
              refine lv_iload_n hx hb dM_refusal_169 rfl (lv_at hl 3 rfl) ?_
              refine vp_callSi (W.runV (As := [.int x3]) (rest := []) ⟨hx, hb, hml, hown, hts⟩ (tM_isNode l hI u x3) (cwV 1 hts (zgV m_723 m_725 mp_20 m_8 m_726) rfl rfl rfl (by decide +kernel) ⟨Nat.le_of_ble_eq_true rfl, Nat.le_of_ble_eq_true rfl⟩) (zpre hP hE hS.2.1 (va_recv hK hP (ci := 7) (q0 := 0) rfl rfl)) rfl rfl hl.1 rfl (lv_room (Nat.le_of_ble_eq_true rfl)) dM_refusal_170 ⟨Nat.zero_le _, Nat.zero_le _⟩) (fun r9 hr9 => ?_)
              subst hr9
              refine lv_if_eq (tgt := 180) hx hb dM_refusal_173 (by decide) (fun c18 => ?_) (fun c18 => ?_)
              · have hf := zt hf c18
                refine lv_bipush (v := (-2)) hx hb dM_refusal_180 (by decide) ?_
                exact W.iret (v := (-2)) hx hb hr (fun t ht hW => ⟨_, rfl, hf, ht⟩) (fun _ h9 => nomatch h9) dM_refusal_182
              · have hf := zn hf c18
                refine lv_iconst (v := 0) hx hb dM_refusal_176 (by decide) ?_
                refine lv_goto (tgt := 182) hx hb dM_refusal_177 (by decide) ?_
                exact W.iret (v := 0) hx hb hr (fun t ht hW => ⟨_, rfl, hf, ht⟩) (fun _ h9 => nomatch h9) dM_refusal_182
        · have hf := zt hf c15
          refine lv_iconst (v := 0) hx hb dM_refusal_152 (by decide) ?_
          exact W.iret (v := 0) hx hb hr (fun t ht hW => ⟨_, rfl, hf, ht⟩) (fun _ h9 => nomatch h9) dM_refusal_153
      · have hf := zt hf c14
        refine lv_aload_n hx hb dM_refusal_131 rfl (lv_at hl 0 rfl) ?_
        refine lv_iload_n hx hb dM_refusal_132 rfl (lv_at hl 2 rfl) ?_
        refine vp_callSi (W.runV (As := [.int x2]) (rest := []) ⟨hx, hb, hml, hown, hts⟩ (tM_isName l hI u x2) (cwV 1 hts (zgV m_719 m_721 mp_19 m_8 m_722) rfl rfl rfl (by decide +kernel) ⟨Nat.le_of_ble_eq_true rfl, Nat.le_of_ble_eq_true rfl⟩) (zpre hP hE hS.2.1 (va_recv hK hP (ci := 7) (q0 := 0) rfl rfl)) rfl rfl hl.1 rfl (lv_room (Nat.le_of_ble_eq_true rfl)) dM_refusal_133 ⟨Nat.zero_le _, Nat.zero_le _⟩) (fun r9 hr9 => ?_)
        subst hr9
        refine lv_if_eq (tgt := 143) hx hb dM_refusal_136 (by decide) (fun c19 => ?_) (fun c19 => ?_)
        · have hf := zt hf c19
          refine lv_bipush (v := (-2)) hx hb dM_refusal_143 (by decide) ?_
          exact W.iret (v := (-2)) hx hb hr (fun t ht hW => ⟨_, rfl, hf, ht⟩) (fun _ h9 => nomatch h9) dM_refusal_145
        · have hf := zn hf c19
          refine lv_iconst (v := 0) hx hb dM_refusal_139 (by decide) ?_
          refine lv_goto (tgt := 145) hx hb dM_refusal_140 (by decide) ?_
          exact W.iret (v := 0) hx hb hr (fun t ht hW => ⟨_, rfl, hf, ht⟩) (fun _ h9 => nomatch h9) dM_refusal_145
    · have hf := zn hf c13
      have hg := hg.2 c13
      refine lv_aload_n hx hb dM_refusal_95 rfl (lv_at hl 0 rfl) ?_
      refine lv_iload_n hx hb dM_refusal_96 rfl (lv_at hl 2 rfl) ?_
      refine vp_callSi (W.runV (As := [.int x2]) (rest := []) ⟨hx, hb, hml, hown, hts⟩ (tM_isField l hI u x2) (cwV 1 hts (zgV m_696 m_698 mp_17 m_8 m_699) rfl rfl rfl (by decide +kernel) ⟨Nat.le_of_ble_eq_true rfl, Nat.le_of_ble_eq_true rfl⟩) (zpre hP hE hS.2.1 (va_recv hK hP (ci := 7) (q0 := 0) rfl rfl)) rfl rfl hl.1 rfl (lv_room (Nat.le_of_ble_eq_true rfl)) dM_refusal_97 ⟨Nat.zero_le _, Nat.zero_le _⟩) (fun r9 hr9 => ?_)
      subst hr9
      refine lv_if_eq (tgt := 122) hx hb dM_refusal_100 (by decide) (fun c20 => ?_) (fun c20 => ?_)
      · have hf := zt hf c20
        have hg := hg.1 c20
        refine lv_bipush (v := (-2)) hx hb dM_refusal_122 (by decide) ?_
        exact W.iret (v := (-2)) hx hb hr (fun t ht hW => ⟨_, rfl, hf, ht⟩) (fun _ h9 => nomatch h9) dM_refusal_124
      · have hf := zn hf c20
        have hg := hg.2 c20
        refine lv_iload_n hx hb dM_refusal_103 rfl (lv_at hl 1 rfl) ?_
        refine lv_bipush (v := 6) hx hb dM_refusal_104 (by decide) ?_
        refine lv_icmp_eq (tgt := 118) hx hb dM_refusal_106 (by decide) (fun c21 => ?_) (fun c21 => ?_)
        · have hf := zt hf c21
          have hg := hg.1 c21
          refine lv_iconst (v := 0) hx hb dM_refusal_118 (by decide) ?_
          refine lv_goto (tgt := 124) hx hb dM_refusal_119 (by decide) ?_
          exact W.iret (v := 0) hx hb hr (fun t ht hW => ⟨_, rfl, hf, ht⟩) (fun _ h9 => nomatch h9) dM_refusal_124
        · have hf := zn hf c21
          have hg := hg.2 c21
          refine lv_aload_n hx hb dM_refusal_109 rfl (lv_at hl 0 rfl) ?_
          refine va_get (D := D) (ci := 7) (v := .ref (b 2)) (C := RM) (T := TM) (N := 30) hx hb hts (fun w h9 => zc (inM w h9)) hown hK hP 0 rfl rfl 3 (by decide) (hts _ (zc m_600)) (fun _ h9 => h9) rfl dM_refusal_110 ?_
          refine lv_iload_n hx hb dM_refusal_113 rfl (lv_at hl 2 rfl) ?_
          obtain ⟨h22, hg⟩ := hg
          refine va_iald hx hb hK hP 2 0 rfl rfl h22 dM_refusal_114 ?_
          refine lv_if_eq (tgt := 122) hx hb dM_refusal_115 (by decide) (fun c23 => ?_) (fun c23 => ?_)
          · have hf := zt hf c23
            refine lv_bipush (v := (-2)) hx hb dM_refusal_122 (by decide) ?_
            exact W.iret (v := (-2)) hx hb hr (fun t ht hW => ⟨_, rfl, hf, ht⟩) (fun _ h9 => nomatch h9) dM_refusal_124
          · have hf := zn hf c23
            refine lv_iconst (v := 0) hx hb dM_refusal_118 (by decide) ?_
            refine lv_goto (tgt := 124) hx hb dM_refusal_119 (by decide) ?_
            exact W.iret (v := 0) hx hb hr (fun t ht hW => ⟨_, rfl, hf, ht⟩) (fun _ h9 => nomatch h9) dM_refusal_124
  · have hf := zn hf c12
    have hg := hg.2 c12
    refine lv_aload_n hx hb dM_refusal_66 rfl (lv_at hl 0 rfl) ?_
    refine lv_iload_n hx hb dM_refusal_67 rfl (lv_at hl 2 rfl) ?_
    refine vp_callSi (W.runV (As := [.int x2]) (rest := []) ⟨hx, hb, hml, hown, hts⟩ (tM_isField l hI u x2) (cwV 1 hts (zgV m_696 m_698 mp_17 m_8 m_699) rfl rfl rfl (by decide +kernel) ⟨Nat.le_of_ble_eq_true rfl, Nat.le_of_ble_eq_true rfl⟩) (zpre hP hE hS.2.1 (va_recv hK hP (ci := 7) (q0 := 0) rfl rfl)) rfl rfl hl.1 rfl (lv_room (Nat.le_of_ble_eq_true rfl)) dM_refusal_68 ⟨Nat.zero_le _, Nat.zero_le _⟩) (fun r9 hr9 => ?_)
    subst hr9
    refine lv_if_eq (tgt := 86) hx hb dM_refusal_71 (by decide) (fun c24 => ?_) (fun c24 => ?_)
    · have hf := zt hf c24
      refine lv_bipush (v := (-2)) hx hb dM_refusal_86 (by decide) ?_
      exact W.iret (v := (-2)) hx hb hr (fun t ht hW => ⟨_, rfl, hf, ht⟩) (fun _ h9 => nomatch h9) dM_refusal_88
    · have hf := zn hf c24
      refine lv_aload_n hx hb dM_refusal_74 rfl (lv_at hl 0 rfl) ?_
      refine lv_iload_n hx hb dM_refusal_75 rfl (lv_at hl 3 rfl) ?_
      refine vp_callSi (W.runV (As := [.int x3]) (rest := []) ⟨hx, hb, hml, hown, hts⟩ (tM_isField l hI u x3) (cwV 1 hts (zgV m_696 m_698 mp_17 m_8 m_699) rfl rfl rfl (by decide +kernel) ⟨Nat.le_of_ble_eq_true rfl, Nat.le_of_ble_eq_true rfl⟩) (zpre hP hE hS.2.1 (va_recv hK hP (ci := 7) (q0 := 0) rfl rfl)) rfl rfl hl.1 rfl (lv_room (Nat.le_of_ble_eq_true rfl)) dM_refusal_76 ⟨Nat.zero_le _, Nat.zero_le _⟩) (fun r9 hr9 => ?_)
      subst hr9
      refine lv_if_eq (tgt := 86) hx hb dM_refusal_79 (by decide) (fun c25 => ?_) (fun c25 => ?_)
      · have hf := zt hf c25
        refine lv_bipush (v := (-2)) hx hb dM_refusal_86 (by decide) ?_
        exact W.iret (v := (-2)) hx hb hr (fun t ht hW => ⟨_, rfl, hf, ht⟩) (fun _ h9 => nomatch h9) dM_refusal_88
      · have hf := zn hf c25
        refine lv_iconst (v := 0) hx hb dM_refusal_82 (by decide) ?_
        refine lv_goto (tgt := 88) hx hb dM_refusal_83 (by decide) ?_
        exact W.iret (v := 0) hx hb hr (fun t ht hW => ⟨_, rfl, hf, ht⟩) (fun _ h9 => nomatch h9) dM_refusal_88
set_option maxHeartbeats 4000000 in
set_option maxRecDepth 100000 in
theorem kM_refusal_41 {p : Program} {l : Launch} {e : Env} {s : State} {m : MethodId} {args : Array Value} {below : List Frame} {meth : Method} {c : Code} {D : va_G} {k : zK} {b : Nat → Nat} (hI : zI 22 b) (C0 : zC p s m args meth c cM_refusal (some .int) 4 RM wsM_refusal D k (zA 22 b)) {tgt : Int32} : ∀ (n : Nat) (u : MS) (x1 : Int32) (x2 : Int32) (x3 : Int32), LM_refusal_41 n u x1 x2 x3 = tgt → MM_refusal_41 n u x1 x2 x3 → ∀ (H : Heap) (locs : List Loc), va_P D vwCl (wM k b u) H → va_S (zA 22 b) s.heap H locs → H = s.heap ∧ locs = [] → ∀ (ls : Array Slot), lv_has ls 4 [(0, .ref (b 0)), (1, .int x1), (2, .int x2), (3, .int x3)] → W p l e (headSpec wsM_refusal ({ frames := 1, cells := 0, slots := 0, locals := 21 })).room s m args below meth c H locs 0 0 (MQ below (vp_Si (fun r9 => r9 = tgt)) args s 0 0 (fun _ => False)) (F0 m 41 ls []) := by
  obtain ⟨hx, hb, hr, hml, hown, hts, hlocks, hE⟩ := id C0
  have hK := hE.1
  intro n
  intro u x1 x2 x3 hf hg H locs hP hS hq ls hl
  obtain ⟨rfl, rfl⟩ := hq
  change ((if x1 = 9 then (if x2 < 0 then (-4) else (if x2 ≤ 15 then (LM_refusal_60 n u x1 x2 x3) else (-4))) else (LM_refusal_60 n u x1 x2 x3)) : Int32) = tgt at hf
  change ((x1 = 9 → ((x2 < 0 → True) ∧ (¬ x2 < 0 → ((x2 ≤ 15 → (MM_refusal_60 n u x1 x2 x3)) ∧ (¬ x2 ≤ 15 → True))))) ∧ (¬ x1 = 9 → (MM_refusal_60 n u x1 x2 x3))) at hg
  refine lv_iload_n hx hb dM_refusal_41 rfl (lv_at hl 1 rfl) ?_
  refine lv_bipush (v := 9) hx hb dM_refusal_42 (by decide) ?_
  refine lv_icmp_ne (tgt := 60) hx hb dM_refusal_44 (by decide) (fun c9 => ?_) (fun c9 => ?_)
  · have hf := zn hf c9
    have hg := hg.2 c9
    exact kM_refusal_60 hI C0 (tgt := tgt) n u x1 x2 x3 hf hg _ _ hP hS ⟨rfl, rfl⟩ _ (lv_sub hl [0, 1, 2, 3] rfl)
  · have hf := zt hf c9
    have hg := hg.1 c9
    refine lv_iload_n hx hb dM_refusal_47 rfl (lv_at hl 2 rfl) ?_
    refine lv_if_lt (tgt := 57) hx hb dM_refusal_48 (by decide) (fun c10 => ?_) (fun c10 => ?_)
    · have hf := zt hf c10
      have hg := hg.1 c10
      refine lv_bipush (v := (-4)) hx hb dM_refusal_57 (by decide) ?_
      exact W.iret (v := (-4)) hx hb hr (fun t ht hW => ⟨_, rfl, hf, ht⟩) (fun _ h9 => nomatch h9) dM_refusal_59
    · have hf := zn hf c10
      have hg := hg.2 c10
      refine lv_iload_n hx hb dM_refusal_51 rfl (lv_at hl 2 rfl) ?_
      refine lv_bipush (v := 15) hx hb dM_refusal_52 (by decide) ?_
      refine lv_icmp_le (tgt := 60) hx hb dM_refusal_54 (by decide) (fun c11 => ?_) (fun c11 => ?_)
      · have hf := zt hf c11
        have hg := hg.1 c11
        exact kM_refusal_60 hI C0 (tgt := tgt) n u x1 x2 x3 hf hg _ _ hP hS ⟨rfl, rfl⟩ _ (lv_sub hl [0, 1, 2, 3] rfl)
      · have hf := zn hf c11
        have hg := hg.2 c11
        refine lv_bipush (v := (-4)) hx hb dM_refusal_57 (by decide) ?_
        exact W.iret (v := (-4)) hx hb hr (fun t ht hW => ⟨_, rfl, hf, ht⟩) (fun _ h9 => nomatch h9) dM_refusal_59
set_option maxHeartbeats 4000000 in
set_option maxRecDepth 100000 in
theorem kM_refusal_25 {p : Program} {l : Launch} {e : Env} {s : State} {m : MethodId} {args : Array Value} {below : List Frame} {meth : Method} {c : Code} {D : va_G} {k : zK} {b : Nat → Nat} (hI : zI 22 b) (C0 : zC p s m args meth c cM_refusal (some .int) 4 RM wsM_refusal D k (zA 22 b)) {tgt : Int32} : ∀ (n : Nat) (u : MS) (x1 : Int32) (x2 : Int32) (x3 : Int32), LM_refusal_25 n u x1 x2 x3 = tgt → MM_refusal_25 n u x1 x2 x3 → ∀ (H : Heap) (locs : List Loc), va_P D vwCl (wM k b u) H → va_S (zA 22 b) s.heap H locs → H = s.heap ∧ locs = [] → ∀ (ls : Array Slot), lv_has ls 4 [(0, .ref (b 0)), (1, .int x1), (2, .int x2), (3, .int x3)] → W p l e (headSpec wsM_refusal ({ frames := 1, cells := 0, slots := 0, locals := 21 })).room s m args below meth c H locs 0 0 (MQ below (vp_Si (fun r9 => r9 = tgt)) args s 0 0 (fun _ => False)) (F0 m 25 ls []) := by
  obtain ⟨hx, hb, hr, hml, hown, hts, hlocks, hE⟩ := id C0
  have hK := hE.1
  intro n
  intro u x1 x2 x3 hf hg H locs hP hS hq ls hl
  obtain ⟨rfl, rfl⟩ := hq
  change ((if x1 = 7 then (if x3 < (-1) then (-4) else (if (1 : Int32) < x3 then (-4) else (LM_refusal_41 n u x1 x2 x3))) else (LM_refusal_41 n u x1 x2 x3)) : Int32) = tgt at hf
  change ((x1 = 7 → ((x3 < (-1) → True) ∧ (¬ x3 < (-1) → (((1 : Int32) < x3 → True) ∧ (¬ (1 : Int32) < x3 → (MM_refusal_41 n u x1 x2 x3)))))) ∧ (¬ x1 = 7 → (MM_refusal_41 n u x1 x2 x3))) at hg
  refine lv_iload_n hx hb dM_refusal_25 rfl (lv_at hl 1 rfl) ?_
  refine lv_bipush (v := 7) hx hb dM_refusal_26 (by decide) ?_
  refine lv_icmp_ne (tgt := 41) hx hb dM_refusal_28 (by decide) (fun c6 => ?_) (fun c6 => ?_)
  · have hf := zn hf c6
    have hg := hg.2 c6
    exact kM_refusal_41 hI C0 (tgt := tgt) n u x1 x2 x3 hf hg _ _ hP hS ⟨rfl, rfl⟩ _ (lv_sub hl [0, 1, 2, 3] rfl)
  · have hf := zt hf c6
    have hg := hg.1 c6
    refine lv_iload_n hx hb dM_refusal_31 rfl (lv_at hl 3 rfl) ?_
    refine lv_iconst (v := (-1)) hx hb dM_refusal_32 (by decide) ?_
    refine lv_icmp_lt (tgt := 57) hx hb dM_refusal_33 (by decide) (fun c7 => ?_) (fun c7 => ?_)
    · have hf := zt hf c7
      have hg := hg.1 c7
      refine lv_bipush (v := (-4)) hx hb dM_refusal_57 (by decide) ?_
      exact W.iret (v := (-4)) hx hb hr (fun t ht hW => ⟨_, rfl, hf, ht⟩) (fun _ h9 => nomatch h9) dM_refusal_59
    · have hf := zn hf c7
      have hg := hg.2 c7
      refine lv_iload_n hx hb dM_refusal_36 rfl (lv_at hl 3 rfl) ?_
      refine lv_iconst (v := 1) hx hb dM_refusal_37 (by decide) ?_
      refine lv_icmp_gt (tgt := 57) hx hb dM_refusal_38 (by decide) (fun c8 => ?_) (fun c8 => ?_)
      · have hf := zt hf c8
        have hg := hg.1 c8
        refine lv_bipush (v := (-4)) hx hb dM_refusal_57 (by decide) ?_
        exact W.iret (v := (-4)) hx hb hr (fun t ht hW => ⟨_, rfl, hf, ht⟩) (fun _ h9 => nomatch h9) dM_refusal_59
      · have hf := zn hf c8
        have hg := hg.2 c8
        exact kM_refusal_41 hI C0 (tgt := tgt) n u x1 x2 x3 hf hg _ _ hP hS ⟨rfl, rfl⟩ _ (lv_sub hl [0, 1, 2, 3] rfl)
set_option maxHeartbeats 4000000 in
set_option maxRecDepth 100000 in
theorem tM_refusal (l : Launch) {D : va_G} {k : zK} {b : Nat → Nat} (hI : zI 22 b) (u : MS) (p0 : Int32) (p1 : Int32) (p2 : Int32) (hg : GM_refusal u p0 p1 p2) : Met l yM_refusal wsM_refusal ({ frames := 1, cells := 0, slots := 0, locals := 21 }) (zPc D k (zA 22 b) (wM k b u) [.ref (b 0), .int p0, .int p1, .int p2]) (vp_Si (fun r9 => r9 = (FM_refusal u p0 p1 p2))) 0 0 (fun _ => False) := by
  refine Met.ofW (cc := cM_refusal) (maxL := 4) (ret := (some .int)) (by decide) rfl ?_
  intro p e s m args below meth c s₁ B hml hv
  obtain ⟨rfl, hP, hE⟩ := hv
  have hts := atoms_spec (ws := wsM_refusal) B.pre
  have C0 : zC p s m _ meth c cM_refusal (some .int) 4 RM wsM_refusal D k (zA 22 b) := ⟨B.exec, B.bytes, B.returns, hml, findClass_of_methodNamed B.named, hts, B.notSynchronized, hE⟩
  obtain ⟨hx, hb, hr, hml, hown, _, hlocks, _⟩ := id C0
  have hK := hE.1
  have hS : va_S (zA 22 b) s.heap s.heap [] := va_S.rf
  generalize hf : FM_refusal u p0 p1 p2 = tgt
  change ((if p0 < 0 then (-4) else (if (12 : Int32) < p0 then (-4) else (if p0 = 6 then (if p2 < 0 then (-4) else (if (3 : Int32) < p2 then (-4) else (LM_refusal_25 1000 u p0 p1 p2))) else (LM_refusal_25 1000 u p0 p1 p2)))) : Int32) = tgt at hf
  change ((p0 < 0 → True) ∧ (¬ p0 < 0 → (((12 : Int32) < p0 → True) ∧ (¬ (12 : Int32) < p0 → ((p0 = 6 → ((p2 < 0 → True) ∧ (¬ p2 < 0 → (((3 : Int32) < p2 → True) ∧ (¬ (3 : Int32) < p2 → (MM_refusal_25 1000 u p0 p1 p2)))))) ∧ (¬ p0 = 6 → (MM_refusal_25 1000 u p0 p1 p2))))))) at hg
  have hl := lv_entry ([.ref (b 0), .int p0, .int p1, .int p2]) (n := 4) (Nat.le_of_ble_eq_true rfl)
  rw [lg_entry_eq]
  generalize (lg_sl ([.ref (b 0), .int p0, .int p1, .int p2]) ++ List.replicate (4 - (lg_sl ([.ref (b 0), .int p0, .int p1, .int p2])).length) Slot.unset).toArray = ls at hl ⊢
  have hl : lv_has ls 4 [(0, .ref (b 0)), (1, .int p0), (2, .int p1), (3, .int p2)] := hl
  refine lv_iload_n hx hb dM_refusal_0 rfl (lv_at hl 1 rfl) ?_
  refine lv_if_lt (tgt := 57) hx hb dM_refusal_1 (by decide) (fun c1 => ?_) (fun c1 => ?_)
  · have hf := zt hf c1
    have hg := hg.1 c1
    refine lv_bipush (v := (-4)) hx hb dM_refusal_57 (by decide) ?_
    exact W.iret (v := (-4)) hx hb hr (fun t ht hW => ⟨_, rfl, hf, ht⟩) (fun _ h9 => nomatch h9) dM_refusal_59
  · have hf := zn hf c1
    have hg := hg.2 c1
    refine lv_iload_n hx hb dM_refusal_4 rfl (lv_at hl 1 rfl) ?_
    refine lv_bipush (v := 12) hx hb dM_refusal_5 (by decide) ?_
    refine lv_icmp_gt (tgt := 57) hx hb dM_refusal_7 (by decide) (fun c2 => ?_) (fun c2 => ?_)
    · have hf := zt hf c2
      have hg := hg.1 c2
      refine lv_bipush (v := (-4)) hx hb dM_refusal_57 (by decide) ?_
      exact W.iret (v := (-4)) hx hb hr (fun t ht hW => ⟨_, rfl, hf, ht⟩) (fun _ h9 => nomatch h9) dM_refusal_59
    · have hf := zn hf c2
      have hg := hg.2 c2
      refine lv_iload_n hx hb dM_refusal_10 rfl (lv_at hl 1 rfl) ?_
      refine lv_bipush (v := 6) hx hb dM_refusal_11 (by decide) ?_
      refine lv_icmp_ne (tgt := 25) hx hb dM_refusal_13 (by decide) (fun c3 => ?_) (fun c3 => ?_)
      · have hf := zn hf c3
        have hg := hg.2 c3
        exact kM_refusal_25 hI C0 (tgt := tgt) 1000 u p0 p1 p2 hf hg _ _ hP hS ⟨rfl, rfl⟩ _ (lv_sub hl [0, 1, 2, 3] rfl)
      · have hf := zt hf c3
        have hg := hg.1 c3
        refine lv_iload_n hx hb dM_refusal_16 rfl (lv_at hl 3 rfl) ?_
        refine lv_if_lt (tgt := 57) hx hb dM_refusal_17 (by decide) (fun c4 => ?_) (fun c4 => ?_)
        · have hf := zt hf c4
          have hg := hg.1 c4
          refine lv_bipush (v := (-4)) hx hb dM_refusal_57 (by decide) ?_
          exact W.iret (v := (-4)) hx hb hr (fun t ht hW => ⟨_, rfl, hf, ht⟩) (fun _ h9 => nomatch h9) dM_refusal_59
        · have hf := zn hf c4
          have hg := hg.2 c4
          refine lv_iload_n hx hb dM_refusal_20 rfl (lv_at hl 3 rfl) ?_
          refine lv_iconst (v := 3) hx hb dM_refusal_21 (by decide) ?_
          refine lv_icmp_gt (tgt := 57) hx hb dM_refusal_22 (by decide) (fun c5 => ?_) (fun c5 => ?_)
          · have hf := zt hf c5
            have hg := hg.1 c5
            refine lv_bipush (v := (-4)) hx hb dM_refusal_57 (by decide) ?_
            exact W.iret (v := (-4)) hx hb hr (fun t ht hW => ⟨_, rfl, hf, ht⟩) (fun _ h9 => nomatch h9) dM_refusal_59
          · have hf := zn hf c5
            have hg := hg.2 c5
            exact kM_refusal_25 hI C0 (tgt := tgt) 1000 u p0 p1 p2 hf hg _ _ hP hS ⟨rfl, rfl⟩ _ (lv_sub hl [0, 1, 2, 3] rfl)
theorem dM_made_0 : decode cM_made 0 = .ok (.aload_n 0, 1) := by decide +kernel
theorem dM_made_1 : decode cM_made 1 = .ok (.dup, 1) := by decide +kernel
theorem dM_made_2 : decode cM_made 2 = .ok (.getfield 86, 3) := by decide +kernel
theorem dM_made_5 : decode cM_made 5 = .ok (.iconst 1, 1) := by decide +kernel
theorem dM_made_6 : decode cM_made 6 = .ok (.iadd, 1) := by decide +kernel
theorem dM_made_7 : decode cM_made 7 = .ok (.putfield 86, 3) := by decide +kernel
theorem dM_made_10 : decode cM_made 10 = .ok (.aload_n 0, 1) := by decide +kernel
theorem dM_made_11 : decode cM_made 11 = .ok (.getfield 25, 3) := by decide +kernel
theorem dM_made_14 : decode cM_made 14 = .ok (.aload_n 0, 1) := by decide +kernel
theorem dM_made_15 : decode cM_made 15 = .ok (.getfield 86, 3) := by decide +kernel
theorem dM_made_18 : decode cM_made 18 = .ok (.iload_n 1, 1) := by decide +kernel
theorem dM_made_19 : decode cM_made 19 = .ok (.iastore, 1) := by decide +kernel
theorem dM_made_20 : decode cM_made 20 = .ok (.aload_n 0, 1) := by decide +kernel
theorem dM_made_21 : decode cM_made 21 = .ok (.getfield 28, 3) := by decide +kernel
theorem dM_made_24 : decode cM_made 24 = .ok (.aload_n 0, 1) := by decide +kernel
theorem dM_made_25 : decode cM_made 25 = .ok (.getfield 86, 3) := by decide +kernel
theorem dM_made_28 : decode cM_made 28 = .ok (.iload_n 2, 1) := by decide +kernel
theorem dM_made_29 : decode cM_made 29 = .ok (.iastore, 1) := by decide +kernel
theorem dM_made_30 : decode cM_made 30 = .ok (.aload_n 0, 1) := by decide +kernel
theorem dM_made_31 : decode cM_made 31 = .ok (.getfield 31, 3) := by decide +kernel
theorem dM_made_34 : decode cM_made 34 = .ok (.aload_n 0, 1) := by decide +kernel
theorem dM_made_35 : decode cM_made 35 = .ok (.getfield 86, 3) := by decide +kernel
theorem dM_made_38 : decode cM_made 38 = .ok (.iload_n 3, 1) := by decide +kernel
theorem dM_made_39 : decode cM_made 39 = .ok (.iastore, 1) := by decide +kernel
theorem dM_made_40 : decode cM_made 40 = .ok (.aload_n 0, 1) := by decide +kernel
theorem dM_made_41 : decode cM_made 41 = .ok (.getfield 86, 3) := by decide +kernel
theorem dM_made_44 : decode cM_made 44 = .ok (.ireturn, 1) := by decide +kernel
abbrev wsM_made : List Cond := Cond.code yM_made cM_made 4 (some .int) :: zWords
def FM_made (u : MS) (p0 : Int32) (p1 : Int32) (p2 : Int32) : Int32 × MS := (zlet (Ms_nodes u ((Mg_nodes u) + 1)) (fun u1 => (zlet (Ms_ops u1 (upd (Mg_ops u1) ((Mg_nodes u1).toNatClampNeg) p0)) (fun u3 => (zlet (Ms_as u3 (upd (Mg_as u3) ((Mg_nodes u3).toNatClampNeg) p1)) (fun u5 => (zlet (Ms_bs u5 (upd (Mg_bs u5) ((Mg_nodes u5).toNatClampNeg) p2)) (fun u7 => ((Mg_nodes u7), u7)))))))))
def GM_made (u : MS) (p0 : Int32) (p1 : Int32) (p2 : Int32) : Prop := (zlet (Ms_nodes u ((Mg_nodes u) + 1)) (fun u1 => (vp_in (Mg_nodes u1) 201 ∧ (zlet (Ms_ops u1 (upd (Mg_ops u1) ((Mg_nodes u1).toNatClampNeg) p0)) (fun u3 => (vp_in (Mg_nodes u3) 201 ∧ (zlet (Ms_as u3 (upd (Mg_as u3) ((Mg_nodes u3).toNatClampNeg) p1)) (fun u5 => (vp_in (Mg_nodes u5) 201 ∧ (zlet (Ms_bs u5 (upd (Mg_bs u5) ((Mg_nodes u5).toNatClampNeg) p2)) (fun u7 => True)))))))))))
set_option maxHeartbeats 4000000 in
set_option maxRecDepth 100000 in
theorem tM_made (l : Launch) {D : va_G} {k : zK} {b : Nat → Nat} (hI : zI 22 b) (u : MS) (p0 : Int32) (p1 : Int32) (p2 : Int32) (hg : GM_made u p0 p1 p2) : Met l yM_made wsM_made ({ frames := 0, cells := 0, slots := 0, locals := 0 }) (zPc D k (zA 22 b) (wM k b u) [.ref (b 0), .int p0, .int p1, .int p2]) (zQi D (wM k b) (zA 22 b) (FM_made u p0 p1 p2)) 0 0 (zA 22 b) := by
  refine Met.ofW (cc := cM_made) (maxL := 4) (ret := (some .int)) (by decide) rfl ?_
  intro p e s m args below meth c s₁ B hml hv
  obtain ⟨rfl, hP, hE⟩ := hv
  have hts := atoms_spec (ws := wsM_made) B.pre
  have C0 : zC p s m _ meth c cM_made (some .int) 4 RM wsM_made D k (zA 22 b) := ⟨B.exec, B.bytes, B.returns, hml, findClass_of_methodNamed B.named, hts, B.notSynchronized, hE⟩
  obtain ⟨hx, hb, hr, hml, hown, _, hlocks, _⟩ := id C0
  have hK := hE.1
  have hS : va_S (zA 22 b) s.heap s.heap [] := va_S.rf
  generalize hf : FM_made u p0 p1 p2 = tgt
  change ((zlet (Ms_nodes u ((Mg_nodes u) + 1)) (fun u1 => (zlet (Ms_ops u1 (upd (Mg_ops u1) ((Mg_nodes u1).toNatClampNeg) p0)) (fun u3 => (zlet (Ms_as u3 (upd (Mg_as u3) ((Mg_nodes u3).toNatClampNeg) p1)) (fun u5 => (zlet (Ms_bs u5 (upd (Mg_bs u5) ((Mg_nodes u5).toNatClampNeg) p2)) (fun u7 => ((Mg_nodes u7), u7))))))))) : Int32 × MS) = tgt at hf
  change (zlet (Ms_nodes u ((Mg_nodes u) + 1)) (fun u1 => (vp_in (Mg_nodes u1) 201 ∧ (zlet (Ms_ops u1 (upd (Mg_ops u1) ((Mg_nodes u1).toNatClampNeg) p0)) (fun u3 => (vp_in (Mg_nodes u3) 201 ∧ (zlet (Ms_as u3 (upd (Mg_as u3) ((Mg_nodes u3).toNatClampNeg) p1)) (fun u5 => (vp_in (Mg_nodes u5) 201 ∧ (zlet (Ms_bs u5 (upd (Mg_bs u5) ((Mg_nodes u5).toNatClampNeg) p2)) (fun u7 => True))))))))))) at hg
  have hl := lv_entry ([.ref (b 0), .int p0, .int p1, .int p2]) (n := 4) (Nat.le_of_ble_eq_true rfl)
  rw [lg_entry_eq]
  generalize (lg_sl ([.ref (b 0), .int p0, .int p1, .int p2]) ++ List.replicate (4 - (lg_sl ([.ref (b 0), .int p0, .int p1, .int p2])).length) Slot.unset).toArray = ls at hl ⊢
  have hl : lv_has ls 4 [(0, .ref (b 0)), (1, .int p0), (2, .int p1), (3, .int p2)] := hl
  refine lv_aload_n hx hb dM_made_0 rfl (lv_at hl 0 rfl) ?_
  refine lv_dup hx hb dM_made_1 rfl ?_
  refine va_get (D := D) (ci := 7) (v := .int (Mg_nodes u)) (C := RM) (T := TM) (N := 30) hx hb hts (fun w h9 => zc (inM w h9)) hown hK hP 0 rfl rfl 11 (by decide) (hts _ (zc m_608)) (fun _ h9 => h9) rfl dM_made_2 ?_
  refine lv_iconst (v := 1) hx hb dM_made_5 (by decide) ?_
  refine lv_iadd hx hb dM_made_6 ?_
  refine va_put (D := D) (ci := 7) (v := .int ((Mg_nodes u) + 1)) (ty := .int) (C := RM) (T := TM) (N := 30) hx hb hts (fun w h9 => zc (inM w h9)) tyM tyM_ok nmM hown hK hP (MD hI _) hS 0 rfl rfl 11 (by decide) (hts _ (zc m_608)) (fun _ h9 => h9) rfl (by decide +kernel) rfl rfl (Nat.le_of_ble_eq_true rfl) dM_made_7 (fun H locs hP _ hS => ?_)
  obtain ⟨u1, hP, hf, hg⟩ := zlets (E := (Ms_nodes u ((Mg_nodes u) + 1))) (w := wM k b) (Mp_nodes hP) hf hg
  refine lv_aload_n hx hb dM_made_10 rfl (lv_at hl 0 rfl) ?_
  refine va_get (D := D) (ci := 7) (v := .ref (b 6)) (C := RM) (T := TM) (N := 30) hx hb hts (fun w h9 => zc (inM w h9)) hown hK hP 0 rfl rfl 8 (by decide) (hts _ (zc m_605)) (fun _ h9 => h9) rfl dM_made_11 ?_
  refine lv_aload_n hx hb dM_made_14 rfl (lv_at hl 0 rfl) ?_
  refine va_get (D := D) (ci := 7) (v := .int (Mg_nodes u1)) (C := RM) (T := TM) (N := 30) hx hb hts (fun w h9 => zc (inM w h9)) hown hK hP 0 rfl rfl 11 (by decide) (hts _ (zc m_608)) (fun _ h9 => h9) rfl dM_made_15 ?_
  refine lv_iload_n hx hb dM_made_18 rfl (lv_at hl 1 rfl) ?_
  obtain ⟨h2, hg⟩ := hg
  refine va_iast hx hb hK hP (MD hI _) hS 6 0 rfl rfl h2 dM_made_19 (fun H locs hP _ hS => ?_)
  obtain ⟨u3, hP, hf, hg⟩ := zlets (E := (Ms_ops u1 (upd (Mg_ops u1) ((Mg_nodes u1).toNatClampNeg) p0))) (w := wM k b) (Mp_ops hP) hf hg
  refine lv_aload_n hx hb dM_made_20 rfl (lv_at hl 0 rfl) ?_
  refine va_get (D := D) (ci := 7) (v := .ref (b 7)) (C := RM) (T := TM) (N := 30) hx hb hts (fun w h9 => zc (inM w h9)) hown hK hP 0 rfl rfl 9 (by decide) (hts _ (zc m_606)) (fun _ h9 => h9) rfl dM_made_21 ?_
  refine lv_aload_n hx hb dM_made_24 rfl (lv_at hl 0 rfl) ?_
  refine va_get (D := D) (ci := 7) (v := .int (Mg_nodes u3)) (C := RM) (T := TM) (N := 30) hx hb hts (fun w h9 => zc (inM w h9)) hown hK hP 0 rfl rfl 11 (by decide) (hts _ (zc m_608)) (fun _ h9 => h9) rfl dM_made_25 ?_
  refine lv_iload_n hx hb dM_made_28 rfl (lv_at hl 2 rfl) ?_
  obtain ⟨h4, hg⟩ := hg
  refine va_iast hx hb hK hP (MD hI _) hS 7 0 rfl rfl h4 dM_made_29 (fun H locs hP _ hS => ?_)
  obtain ⟨u5, hP, hf, hg⟩ := zlets (E := (Ms_as u3 (upd (Mg_as u3) ((Mg_nodes u3).toNatClampNeg) p1))) (w := wM k b) (Mp_as hP) hf hg
  refine lv_aload_n hx hb dM_made_30 rfl (lv_at hl 0 rfl) ?_
  refine va_get (D := D) (ci := 7) (v := .ref (b 8)) (C := RM) (T := TM) (N := 30) hx hb hts (fun w h9 => zc (inM w h9)) hown hK hP 0 rfl rfl 10 (by decide) (hts _ (zc m_607)) (fun _ h9 => h9) rfl dM_made_31 ?_
  refine lv_aload_n hx hb dM_made_34 rfl (lv_at hl 0 rfl) ?_
  refine va_get (D := D) (ci := 7) (v := .int (Mg_nodes u5)) (C := RM) (T := TM) (N := 30) hx hb hts (fun w h9 => zc (inM w h9)) hown hK hP 0 rfl rfl 11 (by decide) (hts _ (zc m_608)) (fun _ h9 => h9) rfl dM_made_35 ?_
  refine lv_iload_n hx hb dM_made_38 rfl (lv_at hl 3 rfl) ?_
  obtain ⟨h6, hg⟩ := hg
  refine va_iast hx hb hK hP (MD hI _) hS 8 0 rfl rfl h6 dM_made_39 (fun H locs hP _ hS => ?_)
  obtain ⟨u7, hP, hf, hg⟩ := zlets (E := (Ms_bs u5 (upd (Mg_bs u5) ((Mg_nodes u5).toNatClampNeg) p2))) (w := wM k b) (Mp_bs hP) hf hg
  refine lv_aload_n hx hb dM_made_40 rfl (lv_at hl 0 rfl) ?_
  refine va_get (D := D) (ci := 7) (v := .int (Mg_nodes u7)) (C := RM) (T := TM) (N := 30) hx hb hts (fun w h9 => zc (inM w h9)) hown hK hP 0 rfl rfl 11 (by decide) (hts _ (zc m_608)) (fun _ h9 => h9) rfl dM_made_41 ?_
  exact W.iret (v := (Mg_nodes u7)) hx hb hr (fun t ht hW => zri hf hP ht (hS.F ht)) hS.2.2 dM_made_44
theorem dM_node_0 : decode cM_node 0 = .ok (.aload_n 0, 1) := by decide +kernel
theorem dM_node_1 : decode cM_node 1 = .ok (.iconst 0, 1) := by decide +kernel
theorem dM_node_2 : decode cM_node 2 = .ok (.putfield 79, 3) := by decide +kernel
theorem dM_node_5 : decode cM_node 5 = .ok (.aload_n 0, 1) := by decide +kernel
theorem dM_node_6 : decode cM_node 6 = .ok (.iload_n 1, 1) := by decide +kernel
theorem dM_node_7 : decode cM_node 7 = .ok (.iload_n 2, 1) := by decide +kernel
theorem dM_node_8 : decode cM_node 8 = .ok (.iload_n 3, 1) := by decide +kernel
theorem dM_node_9 : decode cM_node 9 = .ok (.invokevirtual 135, 3) := by decide +kernel
theorem dM_node_12 : decode cM_node 12 = .ok (.istore 4, 2) := by decide +kernel
theorem dM_node_14 : decode cM_node 14 = .ok (.iload 4, 2) := by decide +kernel
theorem dM_node_16 : decode cM_node 16 = .ok (.ifCond .eq 6, 3) := by decide +kernel
theorem dM_node_19 : decode cM_node 19 = .ok (.iload 4, 2) := by decide +kernel
theorem dM_node_21 : decode cM_node 21 = .ok (.ireturn, 1) := by decide +kernel
theorem dM_node_22 : decode cM_node 22 = .ok (.aload_n 0, 1) := by decide +kernel
theorem dM_node_23 : decode cM_node 23 = .ok (.getfield 86, 3) := by decide +kernel
theorem dM_node_26 : decode cM_node 26 = .ok (.sipush 200, 3) := by decide +kernel
theorem dM_node_29 : decode cM_node 29 = .ok (.if_icmp .ne 7, 3) := by decide +kernel
theorem dM_node_32 : decode cM_node 32 = .ok (.iconst (-1), 1) := by decide +kernel
theorem dM_node_33 : decode cM_node 33 = .ok (.goto 10, 3) := by decide +kernel
theorem dM_node_36 : decode cM_node 36 = .ok (.aload_n 0, 1) := by decide +kernel
theorem dM_node_37 : decode cM_node 37 = .ok (.iload_n 1, 1) := by decide +kernel
theorem dM_node_38 : decode cM_node 38 = .ok (.iload_n 2, 1) := by decide +kernel
theorem dM_node_39 : decode cM_node 39 = .ok (.iload_n 3, 1) := by decide +kernel
theorem dM_node_40 : decode cM_node 40 = .ok (.invokevirtual 139, 3) := by decide +kernel
theorem dM_node_43 : decode cM_node 43 = .ok (.ireturn, 1) := by decide +kernel
abbrev wsM_node : List Cond := Cond.code yM_node cM_node 5 (some .int) :: zWords
def FM_node (u : MS) (p0 : Int32) (p1 : Int32) (p2 : Int32) : Int32 × MS := (zlet (Ms_thrown u 0) (fun u1 => (if (FM_refusal u1 p0 p1 p2) = 0 then (if (Mg_nodes u1) = 200 then ((-1), u1) else (zlet (FM_made u1 p0 p1 p2) (fun u6 => (u6.1, u6.2)))) else ((FM_refusal u1 p0 p1 p2), u1))))
def GM_node (u : MS) (p0 : Int32) (p1 : Int32) (p2 : Int32) : Prop := (zlet (Ms_thrown u 0) (fun u1 => (GM_refusal u1 p0 p1 p2 ∧ (((FM_refusal u1 p0 p1 p2) = 0 → (((Mg_nodes u1) = 200 → True) ∧ (¬ (Mg_nodes u1) = 200 → (GM_made u1 p0 p1 p2 ∧ (zlet (FM_made u1 p0 p1 p2) (fun u6 => True)))))) ∧ (¬ (FM_refusal u1 p0 p1 p2) = 0 → True)))))
set_option maxHeartbeats 4000000 in
set_option maxRecDepth 100000 in
theorem tM_node (l : Launch) {D : va_G} {k : zK} {b : Nat → Nat} (hI : zI 22 b) (u : MS) (p0 : Int32) (p1 : Int32) (p2 : Int32) (hg : GM_node u p0 p1 p2) : Met l yM_node wsM_node ({ frames := 2, cells := 0, slots := 0, locals := 44 }) (zPc D k (zA 22 b) (wM k b u) [.ref (b 0), .int p0, .int p1, .int p2]) (zQi D (wM k b) (zA 22 b) (FM_node u p0 p1 p2)) 0 0 (zA 22 b) := by
  refine Met.ofW (cc := cM_node) (maxL := 5) (ret := (some .int)) (by decide) rfl ?_
  intro p e s m args below meth c s₁ B hml hv
  obtain ⟨rfl, hP, hE⟩ := hv
  have hts := atoms_spec (ws := wsM_node) B.pre
  have C0 : zC p s m _ meth c cM_node (some .int) 5 RM wsM_node D k (zA 22 b) := ⟨B.exec, B.bytes, B.returns, hml, findClass_of_methodNamed B.named, hts, B.notSynchronized, hE⟩
  obtain ⟨hx, hb, hr, hml, hown, _, hlocks, _⟩ := id C0
  have hK := hE.1
  have hS : va_S (zA 22 b) s.heap s.heap [] := va_S.rf
  generalize hf : FM_node u p0 p1 p2 = tgt
  change ((zlet (Ms_thrown u 0) (fun u1 => (if (FM_refusal u1 p0 p1 p2) = 0 then (if (Mg_nodes u1) = 200 then ((-1), u1) else (zlet (FM_made u1 p0 p1 p2) (fun u6 => (u6.1, u6.2)))) else ((FM_refusal u1 p0 p1 p2), u1)))) : Int32 × MS) = tgt at hf
  change (zlet (Ms_thrown u 0) (fun u1 => (GM_refusal u1 p0 p1 p2 ∧ (((FM_refusal u1 p0 p1 p2) = 0 → (((Mg_nodes u1) = 200 → True) ∧ (¬ (Mg_nodes u1) = 200 → (GM_made u1 p0 p1 p2 ∧ (zlet (FM_made u1 p0 p1 p2) (fun u6 => True)))))) ∧ (¬ (FM_refusal u1 p0 p1 p2) = 0 → True))))) at hg
  have hl := lv_entry ([.ref (b 0), .int p0, .int p1, .int p2]) (n := 5) (Nat.le_of_ble_eq_true rfl)
  rw [lg_entry_eq]
  generalize (lg_sl ([.ref (b 0), .int p0, .int p1, .int p2]) ++ List.replicate (5 - (lg_sl ([.ref (b 0), .int p0, .int p1, .int p2])).length) Slot.unset).toArray = ls at hl ⊢
  have hl : lv_has ls 5 [(0, .ref (b 0)), (1, .int p0), (2, .int p1), (3, .int p2)] := hl
  refine lv_aload_n hx hb dM_node_0 rfl (lv_at hl 0 rfl) ?_
  refine lv_iconst (v := 0) hx hb dM_node_1 (by decide) ?_
  refine va_put (D := D) (ci := 7) (v := .int 0) (ty := .int) (C := RM) (T := TM) (N := 30) hx hb hts (fun w h9 => zc (inM w h9)) tyM tyM_ok nmM hown hK hP (MD hI _) hS 0 rfl rfl 1 (by decide) (hts _ (zc m_598)) (fun _ h9 => h9) rfl (by decide +kernel) rfl rfl (Nat.le_of_ble_eq_true rfl) dM_node_2 (fun H locs hP _ hS => ?_)
  obtain ⟨u1, hP, hf, hg⟩ := zlets (E := (Ms_thrown u 0)) (w := wM k b) (Mp_thrown hP) hf hg
  refine lv_aload_n hx hb dM_node_5 rfl (lv_at hl 0 rfl) ?_
  refine lv_iload_n hx hb dM_node_6 rfl (lv_at hl 1 rfl) ?_
  refine lv_iload_n hx hb dM_node_7 rfl (lv_at hl 2 rfl) ?_
  refine lv_iload_n hx hb dM_node_8 rfl (lv_at hl 3 rfl) ?_
  obtain ⟨h2, hg⟩ := hg
  refine vp_callSi (W.runV (As := [.int p0, .int p1, .int p2]) (rest := []) ⟨hx, hb, hml, hown, hts⟩ (tM_refusal l hI u1 p0 p1 p2 h2) (cwV 3 hts (zgV m_715 m_717 mp_18 m_8 m_718) rfl rfl rfl (by decide +kernel) ⟨Nat.le_of_ble_eq_true rfl, Nat.le_of_ble_eq_true rfl⟩) (zpre hP hE hS.2.1 (va_recv hK hP (ci := 7) (q0 := 0) rfl rfl)) rfl rfl hl.1 rfl (lv_room (Nat.le_of_ble_eq_true rfl)) dM_node_9 ⟨Nat.zero_le _, Nat.zero_le _⟩) (fun r9 hr9 => ?_)
  subst hr9
  refine lv_istore (lv' := [(4, .int (FM_refusal u1 p0 p1 p2)), (0, .ref (b 0)), (1, .int p0), (2, .int p1), (3, .int p2)]) hx hb dM_node_12 hl (by decide) rfl (fun ls hl => ?_)
  refine lv_iload hx hb dM_node_14 (lv_at hl 0 rfl) ?_
  refine lv_if_eq (tgt := 22) hx hb dM_node_16 (by decide) (fun c3 => ?_) (fun c3 => ?_)
  · have hf := zt hf c3
    have hg := hg.1 c3
    refine lv_aload_n hx hb dM_node_22 rfl (lv_at hl 1 rfl) ?_
    refine va_get (D := D) (ci := 7) (v := .int (Mg_nodes u1)) (C := RM) (T := TM) (N := 30) hx hb hts (fun w h9 => zc (inM w h9)) hown hK hP 0 rfl rfl 11 (by decide) (hts _ (zc m_608)) (fun _ h9 => h9) rfl dM_node_23 ?_
    refine lv_sipush (v := 200) hx hb dM_node_26 (by decide) ?_
    refine lv_icmp_ne (tgt := 36) hx hb dM_node_29 (by decide) (fun c4 => ?_) (fun c4 => ?_)
    · have hf := zn hf c4
      have hg := hg.2 c4
      refine lv_aload_n hx hb dM_node_36 rfl (lv_at hl 1 rfl) ?_
      refine lv_iload_n hx hb dM_node_37 rfl (lv_at hl 2 rfl) ?_
      refine lv_iload_n hx hb dM_node_38 rfl (lv_at hl 3 rfl) ?_
      refine lv_iload_n hx hb dM_node_39 rfl (lv_at hl 4 rfl) ?_
      obtain ⟨h5, hg⟩ := hg
      refine zmui (W.runV (As := [.int p0, .int p1, .int p2]) (rest := []) ⟨hx, hb, hml, hown, hts⟩ (tM_made l hI u1 p0 p1 p2 h5) (cwV 3 hts (zgV m_727 m_729 mp_21 m_8 m_730) rfl rfl rfl (by decide +kernel) ⟨Nat.le_of_ble_eq_true rfl, Nat.le_of_ble_eq_true rfl⟩) (zpre hP hE hS.2.1 (va_recv hK hP (ci := 7) (q0 := 0) rfl rfl)) rfl rfl hl.1 rfl (lv_room (Nat.le_of_ble_eq_true rfl)) dM_node_40 ⟨Nat.zero_le _, Nat.zero_le _⟩) hS hf hg (fun u6 H locs hf hg hP hS => ?_)
      exact W.iret (v := u6.1) hx hb hr (fun t ht hW => zri hf hP ht (hS.F ht)) hS.2.2 dM_node_43
    · have hf := zt hf c4
      have hg := hg.1 c4
      refine lv_iconst (v := (-1)) hx hb dM_node_32 (by decide) ?_
      refine lv_goto (tgt := 43) hx hb dM_node_33 (by decide) ?_
      exact W.iret (v := (-1)) hx hb hr (fun t ht hW => zri hf hP ht (hS.F ht)) hS.2.2 dM_node_43
  · have hf := zn hf c3
    have hg := hg.2 c3
    refine lv_iload hx hb dM_node_19 (lv_at hl 0 rfl) ?_
    exact W.iret (v := (FM_refusal u1 p0 p1 p2)) hx hb hr (fun t ht hW => zri hf hP ht (hS.F ht)) hS.2.2 dM_node_21
theorem dM_isLess_0 : decode cM_isLess 0 = .ok (.lload_n 0, 1) := by decide +kernel
theorem dM_isLess_1 : decode cM_isLess 1 = .ok (.ldc2_w 142, 3) := by decide +kernel
theorem dM_isLess_4 : decode cM_isLess 4 = .ok (.lxor, 1) := by decide +kernel
theorem dM_isLess_5 : decode cM_isLess 5 = .ok (.lload_n 2, 1) := by decide +kernel
theorem dM_isLess_6 : decode cM_isLess 6 = .ok (.ldc2_w 142, 3) := by decide +kernel
theorem dM_isLess_9 : decode cM_isLess 9 = .ok (.lxor, 1) := by decide +kernel
theorem dM_isLess_10 : decode cM_isLess 10 = .ok (.lcmp, 1) := by decide +kernel
theorem dM_isLess_11 : decode cM_isLess 11 = .ok (.ifCond .ge 7, 3) := by decide +kernel
theorem dM_isLess_14 : decode cM_isLess 14 = .ok (.iconst 1, 1) := by decide +kernel
theorem dM_isLess_15 : decode cM_isLess 15 = .ok (.goto 4, 3) := by decide +kernel
theorem dM_isLess_18 : decode cM_isLess 18 = .ok (.iconst 0, 1) := by decide +kernel
theorem dM_isLess_19 : decode cM_isLess 19 = .ok (.ireturn, 1) := by decide +kernel
abbrev wsM_isLess : List Cond := Cond.code yM_isLess cM_isLess 4 (some .boolean) :: zWords
def FM_isLess (u : MS) (p0 : Int64) (p1 : Int64) : Int32 := (if (0 : Int32) ≤ (lg_cmp (p0 ^^^ (-9223372036854775808)) (p1 ^^^ (-9223372036854775808))) then 0 else 1)
theorem bFM_isLess (u : MS) (p0 : Int64) (p1 : Int64) : FM_isLess u p0 p1 = 0 ∨ FM_isLess u p0 p1 = 1 := by
  unfold FM_isLess
  repeat' split
  all_goals first | exact Or.inl rfl | exact Or.inr rfl
set_option maxHeartbeats 4000000 in
set_option maxRecDepth 100000 in
theorem tM_isLess (l : Launch) {D : va_G} {k : zK} {b : Nat → Nat} (hI : zI 22 b) (u : MS) (p0 : Int64) (p1 : Int64) : Met l yM_isLess wsM_isLess ({ frames := 0, cells := 0, slots := 0, locals := 0 }) (zPc D k (zA 22 b) (wM k b u) [.long p0, .long p1]) (vp_Si (fun r9 => r9 = (FM_isLess u p0 p1))) 0 0 (fun _ => False) := by
  refine Met.ofW (cc := cM_isLess) (maxL := 4) (ret := (some .boolean)) (by decide) rfl ?_
  intro p e s m args below meth c s₁ B hml hv
  obtain ⟨rfl, hP, hE⟩ := hv
  have hts := atoms_spec (ws := wsM_isLess) B.pre
  have C0 : zC p s m _ meth c cM_isLess (some .boolean) 4 RM wsM_isLess D k (zA 22 b) := ⟨B.exec, B.bytes, B.returns, hml, findClass_of_methodNamed B.named, hts, B.notSynchronized, hE⟩
  obtain ⟨hx, hb, hr, hml, hown, _, hlocks, _⟩ := id C0
  have hK := hE.1
  have hS : va_S (zA 22 b) s.heap s.heap [] := va_S.rf
  generalize hf : FM_isLess u p0 p1 = tgt
  change ((if (0 : Int32) ≤ (lg_cmp (p0 ^^^ (-9223372036854775808)) (p1 ^^^ (-9223372036854775808))) then 0 else 1) : Int32) = tgt at hf
  have hl := lv_entry ([.long p0, .long p1]) (n := 4) (Nat.le_of_ble_eq_true rfl)
  rw [lg_entry_eq]
  generalize (lg_sl ([.long p0, .long p1]) ++ List.replicate (4 - (lg_sl ([.long p0, .long p1])).length) Slot.unset).toArray = ls at hl ⊢
  have hl : lv_has ls 4 [(0, .long p0), (2, .long p1)] := hl
  refine lv_lload_n hx hb dM_isLess_0 rfl (lv_at hl 0 rfl) ?_
  refine lv_ldc2 (v := (-9223372036854775808)) hx hb hown (hts _ (zc m_742)) dM_isLess_1 ?_
  refine lv_lxor hx hb dM_isLess_4 ?_
  refine lv_lload_n hx hb dM_isLess_5 rfl (lv_at hl 1 rfl) ?_
  refine lv_ldc2 (v := (-9223372036854775808)) hx hb hown (hts _ (zc m_742)) dM_isLess_6 ?_
  refine lv_lxor hx hb dM_isLess_9 ?_
  refine W.lcmp hx hb dM_isLess_10 ?_
  refine lv_if_ge (tgt := 18) hx hb dM_isLess_11 (by decide) (fun c1 => ?_) (fun c1 => ?_)
  · have hf := zt hf c1
    refine lv_iconst (v := 0) hx hb dM_isLess_18 (by decide) ?_
    exact W.zret (v := 0) (ty := .boolean) hx hb hr rfl (fun t ht hW => ⟨_, rfl, hf, ht⟩) (fun _ h9 => nomatch h9) dM_isLess_19
  · have hf := zn hf c1
    refine lv_iconst (v := 1) hx hb dM_isLess_14 (by decide) ?_
    refine lv_goto (tgt := 19) hx hb dM_isLess_15 (by decide) ?_
    exact W.zret (v := 1) (ty := .boolean) hx hb hr rfl (fun t ht hW => ⟨_, rfl, hf, ht⟩) (fun _ h9 => nomatch h9) dM_isLess_19
theorem dM_isTurned_0 : decode cM_isTurned 0 = .ok (.aload_n 0, 1) := by decide +kernel
theorem dM_isTurned_1 : decode cM_isTurned 1 = .ok (.getfield 13, 3) := by decide +kernel
theorem dM_isTurned_4 : decode cM_isTurned 4 = .ok (.iload_n 1, 1) := by decide +kernel
theorem dM_isTurned_5 : decode cM_isTurned 5 = .ok (.iaload, 1) := by decide +kernel
theorem dM_isTurned_6 : decode cM_isTurned 6 = .ok (.ifCond .ne 12, 3) := by decide +kernel
theorem dM_isTurned_9 : decode cM_isTurned 9 = .ok (.lload 4, 2) := by decide +kernel
theorem dM_isTurned_11 : decode cM_isTurned 11 = .ok (.lload_n 2, 1) := by decide +kernel
theorem dM_isTurned_12 : decode cM_isTurned 12 = .ok (.invokestatic 144, 3) := by decide +kernel
theorem dM_isTurned_15 : decode cM_isTurned 15 = .ok (.goto 15, 3) := by decide +kernel
theorem dM_isTurned_18 : decode cM_isTurned 18 = .ok (.lload 4, 2) := by decide +kernel
theorem dM_isTurned_20 : decode cM_isTurned 20 = .ok (.lload_n 2, 1) := by decide +kernel
theorem dM_isTurned_21 : decode cM_isTurned 21 = .ok (.lcmp, 1) := by decide +kernel
theorem dM_isTurned_22 : decode cM_isTurned 22 = .ok (.ifCond .ge 7, 3) := by decide +kernel
theorem dM_isTurned_25 : decode cM_isTurned 25 = .ok (.iconst 1, 1) := by decide +kernel
theorem dM_isTurned_26 : decode cM_isTurned 26 = .ok (.goto 4, 3) := by decide +kernel
theorem dM_isTurned_29 : decode cM_isTurned 29 = .ok (.iconst 0, 1) := by decide +kernel
theorem dM_isTurned_30 : decode cM_isTurned 30 = .ok (.ireturn, 1) := by decide +kernel
abbrev wsM_isTurned : List Cond := Cond.code yM_isTurned cM_isTurned 6 (some .boolean) :: zWords
def FM_isTurned (u : MS) (p0 : Int32) (p1 : Int64) (p2 : Int64) : Int32 := (if ((Mg_categories u) p0.toNatClampNeg) = 0 then (FM_isLess u p2 p1) else (if (0 : Int32) ≤ (lg_cmp p2 p1) then 0 else 1))
def GM_isTurned (u : MS) (p0 : Int32) (p1 : Int64) (p2 : Int64) : Prop := (vp_in p0 40 ∧ True)
set_option maxHeartbeats 4000000 in
set_option maxRecDepth 100000 in
theorem tM_isTurned (l : Launch) {D : va_G} {k : zK} {b : Nat → Nat} (hI : zI 22 b) (u : MS) (p0 : Int32) (p1 : Int64) (p2 : Int64) (hg : GM_isTurned u p0 p1 p2) : Met l yM_isTurned wsM_isTurned ({ frames := 1, cells := 0, slots := 0, locals := 23 }) (zPc D k (zA 22 b) (wM k b u) [.ref (b 0), .int p0, .long p1, .long p2]) (vp_Si (fun r9 => r9 = (FM_isTurned u p0 p1 p2))) 0 0 (fun _ => False) := by
  refine Met.ofW (cc := cM_isTurned) (maxL := 6) (ret := (some .boolean)) (by decide) rfl ?_
  intro p e s m args below meth c s₁ B hml hv
  obtain ⟨rfl, hP, hE⟩ := hv
  have hts := atoms_spec (ws := wsM_isTurned) B.pre
  have C0 : zC p s m _ meth c cM_isTurned (some .boolean) 6 RM wsM_isTurned D k (zA 22 b) := ⟨B.exec, B.bytes, B.returns, hml, findClass_of_methodNamed B.named, hts, B.notSynchronized, hE⟩
  obtain ⟨hx, hb, hr, hml, hown, _, hlocks, _⟩ := id C0
  have hK := hE.1
  have hS : va_S (zA 22 b) s.heap s.heap [] := va_S.rf
  generalize hf : FM_isTurned u p0 p1 p2 = tgt
  change ((if ((Mg_categories u) p0.toNatClampNeg) = 0 then (FM_isLess u p2 p1) else (if (0 : Int32) ≤ (lg_cmp p2 p1) then 0 else 1)) : Int32) = tgt at hf
  change (vp_in p0 40 ∧ True) at hg
  have hl := lv_entry ([.ref (b 0), .int p0, .long p1, .long p2]) (n := 6) (Nat.le_of_ble_eq_true rfl)
  rw [lg_entry_eq]
  generalize (lg_sl ([.ref (b 0), .int p0, .long p1, .long p2]) ++ List.replicate (6 - (lg_sl ([.ref (b 0), .int p0, .long p1, .long p2])).length) Slot.unset).toArray = ls at hl ⊢
  have hl : lv_has ls 6 [(0, .ref (b 0)), (1, .int p0), (2, .long p1), (4, .long p2)] := hl
  refine lv_aload_n hx hb dM_isTurned_0 rfl (lv_at hl 0 rfl) ?_
  refine va_get (D := D) (ci := 7) (v := .ref (b 2)) (C := RM) (T := TM) (N := 30) hx hb hts (fun w h9 => zc (inM w h9)) hown hK hP 0 rfl rfl 3 (by decide) (hts _ (zc m_600)) (fun _ h9 => h9) rfl dM_isTurned_1 ?_
  refine lv_iload_n hx hb dM_isTurned_4 rfl (lv_at hl 1 rfl) ?_
  obtain ⟨h1, hg⟩ := hg
  refine va_iald hx hb hK hP 2 0 rfl rfl h1 dM_isTurned_5 ?_
  refine lv_if_ne (tgt := 18) hx hb dM_isTurned_6 (by decide) (fun c2 => ?_) (fun c2 => ?_)
  · have hf := zn hf c2
    refine lv_lload hx hb dM_isTurned_18 (lv_at hl 3 rfl) ?_
    refine lv_lload_n hx hb dM_isTurned_20 rfl (lv_at hl 2 rfl) ?_
    refine W.lcmp hx hb dM_isTurned_21 ?_
    refine lv_if_ge (tgt := 29) hx hb dM_isTurned_22 (by decide) (fun c3 => ?_) (fun c3 => ?_)
    · have hf := zt hf c3
      refine lv_iconst (v := 0) hx hb dM_isTurned_29 (by decide) ?_
      exact W.zret (v := 0) (ty := .boolean) hx hb hr rfl (fun t ht hW => ⟨_, rfl, hf, ht⟩) (fun _ h9 => nomatch h9) dM_isTurned_30
    · have hf := zn hf c3
      refine lv_iconst (v := 1) hx hb dM_isTurned_25 (by decide) ?_
      refine lv_goto (tgt := 30) hx hb dM_isTurned_26 (by decide) ?_
      exact W.zret (v := 1) (ty := .boolean) hx hb hr rfl (fun t ht hW => ⟨_, rfl, hf, ht⟩) (fun _ h9 => nomatch h9) dM_isTurned_30
  · have hf := zt hf c2
    refine lv_lload hx hb dM_isTurned_9 (lv_at hl 3 rfl) ?_
    refine lv_lload_n hx hb dM_isTurned_11 rfl (lv_at hl 2 rfl) ?_
    refine vp_callSi (W.runS (As := [.long p2, .long p1]) (rest := []) ⟨hx, hb, hml, hown, hts⟩ (tM_isLess l hI u p2 p1) (va_cwS 2 hts (zgS m_739 m_740 m_8 m_741) rfl rfl rfl (by decide +kernel) ⟨Nat.le_of_ble_eq_true rfl, Nat.le_of_ble_eq_true rfl⟩) (zpreS hP hE hS.2.1) rfl rfl hl.1 rfl (lv_room (Nat.le_of_ble_eq_true rfl)) dM_isTurned_12 ⟨Nat.zero_le _, Nat.zero_le _⟩) (fun r9 hr9 => ?_)
    subst hr9
    refine lv_goto (tgt := 30) hx hb dM_isTurned_15 (by decide) ?_
    exact W.zret (v := (FM_isLess u p2 p1)) (ty := .boolean) hx hb hr (zb (bFM_isLess _ _ _)) (fun t ht hW => ⟨_, rfl, hf, ht⟩) (fun _ h9 => nomatch h9) dM_isTurned_30
end
