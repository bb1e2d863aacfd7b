section
-- ===== PART A: goes FIRST, ahead of the names: the tables' words, and 'selects' of the private methods out of them =====
/-- a private method of a class that the tables say can be made, by its rows of tables_1 -/
def lw_okq (q : MethodName × Nat) : Prop := (q.1.cls ≠ "java/lang/invoke/MethodHandle" ∧ q.1.cls ≠ "java/lang/invoke/VarHandle") ∧ Cond.instantiable q.1.cls q.2 ∈ tables_1 ∧ Cond.privateMethod q.1 ∈ tables_1 ∧ Cond.instanceMethod q.1 ∈ tables_1
theorem lw_p0 : lw_okq (⟨"ConditionRows", "hasParts", "(III)Z"⟩, 10) := ⟨⟨by decide +kernel, by decide +kernel⟩, List.mem_of_getElem? (i := 18) (by decide +kernel), List.mem_of_getElem? (i := 258) (by decide +kernel), List.mem_of_getElem? (i := 259) (by decide +kernel)⟩
theorem lw_p1 : lw_okq (⟨"ConditionRows", "isAbove", "(IJJ)Z"⟩, 10) := ⟨⟨by decide +kernel, by decide +kernel⟩, List.mem_of_getElem? (i := 18) (by decide +kernel), List.mem_of_getElem? (i := 278) (by decide +kernel), List.mem_of_getElem? (i := 279) (by decide +kernel)⟩
theorem lw_p2 : lw_okq (⟨"ConditionRows", "unfoldRow", "()I"⟩, 10) := ⟨⟨by decide +kernel, by decide +kernel⟩, List.mem_of_getElem? (i := 18) (by decide +kernel), List.mem_of_getElem? (i := 331) (by decide +kernel), List.mem_of_getElem? (i := 332) (by decide +kernel)⟩
theorem lw_p3 : lw_okq (⟨"ConditionRows", "joined", "(III)I"⟩, 10) := ⟨⟨by decide +kernel, by decide +kernel⟩, List.mem_of_getElem? (i := 18) (by decide +kernel), List.mem_of_getElem? (i := 335) (by decide +kernel), List.mem_of_getElem? (i := 336) (by decide +kernel)⟩
theorem lw_p4 : lw_okq (⟨"ConditionRows", "relationNode", "(I)I"⟩, 10) := ⟨⟨by decide +kernel, by decide +kernel⟩, List.mem_of_getElem? (i := 18) (by decide +kernel), List.mem_of_getElem? (i := 339) (by decide +kernel), List.mem_of_getElem? (i := 340) (by decide +kernel)⟩
theorem lw_p5 : lw_okq (⟨"ConditionRows", "switchesOn", "()I"⟩, 10) := ⟨⟨by decide +kernel, by decide +kernel⟩, List.mem_of_getElem? (i := 18) (by decide +kernel), List.mem_of_getElem? (i := 355) (by decide +kernel), List.mem_of_getElem? (i := 356) (by decide +kernel)⟩
theorem lw_p6 : lw_okq (⟨"java/lang/Throwable", "fillInStackTrace", "(I)Ljava/lang/Throwable;"⟩, 6) := ⟨⟨by decide +kernel, by decide +kernel⟩, List.mem_of_getElem? (i := 408) (by decide +kernel), List.mem_of_getElem? (i := 406) (by decide +kernel), List.mem_of_getElem? (i := 407) (by decide +kernel)⟩
theorem lw_p7 : lw_okq (⟨"ConditionRows", "outcomeOf", "(I)I"⟩, 10) := ⟨⟨by decide +kernel, by decide +kernel⟩, List.mem_of_getElem? (i := 18) (by decide +kernel), List.mem_of_getElem? (i := 438) (by decide +kernel), List.mem_of_getElem? (i := 439) (by decide +kernel)⟩
theorem lw_p8 : lw_okq (⟨"ConditionRows", "partToTest", "(I)I"⟩, 10) := ⟨⟨by decide +kernel, by decide +kernel⟩, List.mem_of_getElem? (i := 18) (by decide +kernel), List.mem_of_getElem? (i := 450) (by decide +kernel), List.mem_of_getElem? (i := 451) (by decide +kernel)⟩
theorem lw_p9 : lw_okq (⟨"ConditionRows", "leafOutcome", "(I)I"⟩, 10) := ⟨⟨by decide +kernel, by decide +kernel⟩, List.mem_of_getElem? (i := 18) (by decide +kernel), List.mem_of_getElem? (i := 457) (by decide +kernel), List.mem_of_getElem? (i := 458) (by decide +kernel)⟩
theorem lw_p10 : lw_okq (⟨"ConditionRows$Fields", "digitsValue", "(I)J"⟩, 5) := ⟨⟨by decide +kernel, by decide +kernel⟩, List.mem_of_getElem? (i := 26) (by decide +kernel), List.mem_of_getElem? (i := 487) (by decide +kernel), List.mem_of_getElem? (i := 488) (by decide +kernel)⟩
theorem lw_p11 : lw_okq (⟨"ConditionRows$Fields", "binaryValue", "(I)J"⟩, 5) := ⟨⟨by decide +kernel, by decide +kernel⟩, List.mem_of_getElem? (i := 26) (by decide +kernel), List.mem_of_getElem? (i := 492) (by decide +kernel), List.mem_of_getElem? (i := 493) (by decide +kernel)⟩
theorem lw_p12 : lw_okq (⟨"ConditionRows", "holds", "(I)Z"⟩, 10) := ⟨⟨by decide +kernel, by decide +kernel⟩, List.mem_of_getElem? (i := 18) (by decide +kernel), List.mem_of_getElem? (i := 500) (by decide +kernel), List.mem_of_getElem? (i := 501) (by decide +kernel)⟩
theorem lw_p13 : lw_okq (⟨"ConditionRows", "relationOutcome", "(III)I"⟩, 10) := ⟨⟨by decide +kernel, by decide +kernel⟩, List.mem_of_getElem? (i := 18) (by decide +kernel), List.mem_of_getElem? (i := 517) (by decide +kernel), List.mem_of_getElem? (i := 518) (by decide +kernel)⟩
theorem lw_p14 : lw_okq (⟨"ConditionRows", "compareFields", "(II)I"⟩, 10) := ⟨⟨by decide +kernel, by decide +kernel⟩, List.mem_of_getElem? (i := 18) (by decide +kernel), List.mem_of_getElem? (i := 521) (by decide +kernel), List.mem_of_getElem? (i := 522) (by decide +kernel)⟩
theorem lw_p15 : lw_okq (⟨"ConditionRows$Fields", "spellBytes", "(I[I)I"⟩, 5) := ⟨⟨by decide +kernel, by decide +kernel⟩, List.mem_of_getElem? (i := 26) (by decide +kernel), List.mem_of_getElem? (i := 548) (by decide +kernel), List.mem_of_getElem? (i := 549) (by decide +kernel)⟩
def lw_privs_1 : List (MethodName × Nat) := [(⟨"ConditionRows", "hasParts", "(III)Z"⟩, 10), (⟨"ConditionRows", "isAbove", "(IJJ)Z"⟩, 10), (⟨"ConditionRows", "unfoldRow", "()I"⟩, 10), (⟨"ConditionRows", "joined", "(III)I"⟩, 10), (⟨"ConditionRows", "relationNode", "(I)I"⟩, 10), (⟨"ConditionRows", "switchesOn", "()I"⟩, 10), (⟨"java/lang/Throwable", "fillInStackTrace", "(I)Ljava/lang/Throwable;"⟩, 6), (⟨"ConditionRows", "outcomeOf", "(I)I"⟩, 10), (⟨"ConditionRows", "partToTest", "(I)I"⟩, 10), (⟨"ConditionRows", "leafOutcome", "(I)I"⟩, 10), (⟨"ConditionRows$Fields", "digitsValue", "(I)J"⟩, 5), (⟨"ConditionRows$Fields", "binaryValue", "(I)J"⟩, 5), (⟨"ConditionRows", "holds", "(I)Z"⟩, 10), (⟨"ConditionRows", "relationOutcome", "(III)I"⟩, 10), (⟨"ConditionRows", "compareFields", "(II)I"⟩, 10), (⟨"ConditionRows$Fields", "spellBytes", "(I[I)I"⟩, 5)]
theorem lw_r1 : ∀ q ∈ lw_privs_1, lw_okq q := List.forall_mem_cons.mpr ⟨lw_p0, List.forall_mem_cons.mpr ⟨lw_p1, List.forall_mem_cons.mpr ⟨lw_p2, List.forall_mem_cons.mpr ⟨lw_p3, List.forall_mem_cons.mpr ⟨lw_p4, List.forall_mem_cons.mpr ⟨lw_p5, List.forall_mem_cons.mpr ⟨lw_p6, List.forall_mem_cons.mpr ⟨lw_p7, List.forall_mem_cons.mpr ⟨lw_p8, List.forall_mem_cons.mpr ⟨lw_p9, List.forall_mem_cons.mpr ⟨lw_p10, List.forall_mem_cons.mpr ⟨lw_p11, List.forall_mem_cons.mpr ⟨lw_p12, List.forall_mem_cons.mpr ⟨lw_p13, List.forall_mem_cons.mpr ⟨lw_p14, List.forall_mem_cons.mpr ⟨lw_p15, fun _ h => absurd h List.not_mem_nil⟩⟩⟩⟩⟩⟩⟩⟩⟩⟩⟩⟩⟩⟩⟩⟩
theorem lw_p16 : lw_okq (⟨"ConditionRows", "joinedOutcome", "(I)I"⟩, 10) := ⟨⟨by decide +kernel, by decide +kernel⟩, List.mem_of_getElem? (i := 18) (by decide +kernel), List.mem_of_getElem? (i := 559) (by decide +kernel), List.mem_of_getElem? (i := 560) (by decide +kernel)⟩
theorem lw_p17 : lw_okq (⟨"ConditionRowsModel", "isField", "(I)Z"⟩, 30) := ⟨⟨by decide +kernel, by decide +kernel⟩, List.mem_of_getElem? (i := 592) (by decide +kernel), List.mem_of_getElem? (i := 697) (by decide +kernel), List.mem_of_getElem? (i := 698) (by decide +kernel)⟩
theorem lw_p18 : lw_okq (⟨"ConditionRowsModel", "refusal", "(III)I"⟩, 30) := ⟨⟨by decide +kernel, by decide +kernel⟩, List.mem_of_getElem? (i := 592) (by decide +kernel), List.mem_of_getElem? (i := 716) (by decide +kernel), List.mem_of_getElem? (i := 717) (by decide +kernel)⟩
theorem lw_p19 : lw_okq (⟨"ConditionRowsModel", "isName", "(I)Z"⟩, 30) := ⟨⟨by decide +kernel, by decide +kernel⟩, List.mem_of_getElem? (i := 592) (by decide +kernel), List.mem_of_getElem? (i := 720) (by decide +kernel), List.mem_of_getElem? (i := 721) (by decide +kernel)⟩
theorem lw_p20 : lw_okq (⟨"ConditionRowsModel", "isNode", "(I)Z"⟩, 30) := ⟨⟨by decide +kernel, by decide +kernel⟩, List.mem_of_getElem? (i := 592) (by decide +kernel), List.mem_of_getElem? (i := 724) (by decide +kernel), List.mem_of_getElem? (i := 725) (by decide +kernel)⟩
theorem lw_p21 : lw_okq (⟨"ConditionRowsModel", "made", "(III)I"⟩, 30) := ⟨⟨by decide +kernel, by decide +kernel⟩, List.mem_of_getElem? (i := 592) (by decide +kernel), List.mem_of_getElem? (i := 728) (by decide +kernel), List.mem_of_getElem? (i := 729) (by decide +kernel)⟩
theorem lw_p22 : lw_okq (⟨"ConditionRowsModel", "isTurned", "(IJJ)Z"⟩, 30) := ⟨⟨by decide +kernel, by decide +kernel⟩, List.mem_of_getElem? (i := 592) (by decide +kernel), List.mem_of_getElem? (i := 736) (by decide +kernel), List.mem_of_getElem? (i := 737) (by decide +kernel)⟩
theorem lw_p23 : lw_okq (⟨"ConditionRowsModel", "relation", "(I)I"⟩, 30) := ⟨⟨by decide +kernel, by decide +kernel⟩, List.mem_of_getElem? (i := 592) (by decide +kernel), List.mem_of_getElem? (i := 763) (by decide +kernel), List.mem_of_getElem? (i := 764) (by decide +kernel)⟩
theorem lw_p24 : lw_okq (⟨"ConditionRowsModel", "leaf", "(I)Z"⟩, 30) := ⟨⟨by decide +kernel, by decide +kernel⟩, List.mem_of_getElem? (i := 592) (by decide +kernel), List.mem_of_getElem? (i := 771) (by decide +kernel), List.mem_of_getElem? (i := 772) (by decide +kernel)⟩
theorem lw_p25 : lw_okq (⟨"ConditionRowsModel", "isBad", "(I)Z"⟩, 30) := ⟨⟨by decide +kernel, by decide +kernel⟩, List.mem_of_getElem? (i := 592) (by decide +kernel), List.mem_of_getElem? (i := 775) (by decide +kernel), List.mem_of_getElem? (i := 776) (by decide +kernel)⟩
theorem lw_p26 : lw_okq (⟨"ConditionRowsModel", "read", "(II)I"⟩, 30) := ⟨⟨by decide +kernel, by decide +kernel⟩, List.mem_of_getElem? (i := 592) (by decide +kernel), List.mem_of_getElem? (i := 779) (by decide +kernel), List.mem_of_getElem? (i := 780) (by decide +kernel)⟩
theorem lw_p27 : lw_okq (⟨"ConditionRowsModel", "related", "(III)Z"⟩, 30) := ⟨⟨by decide +kernel, by decide +kernel⟩, List.mem_of_getElem? (i := 592) (by decide +kernel), List.mem_of_getElem? (i := 783) (by decide +kernel), List.mem_of_getElem? (i := 784) (by decide +kernel)⟩
theorem lw_p28 : lw_okq (⟨"ConditionRowsModel", "order", "(II)I"⟩, 30) := ⟨⟨by decide +kernel, by decide +kernel⟩, List.mem_of_getElem? (i := 592) (by decide +kernel), List.mem_of_getElem? (i := 787) (by decide +kernel), List.mem_of_getElem? (i := 788) (by decide +kernel)⟩
theorem lw_p29 : lw_okq (⟨"ConditionRowsModel", "part", "(I)J"⟩, 30) := ⟨⟨by decide +kernel, by decide +kernel⟩, List.mem_of_getElem? (i := 592) (by decide +kernel), List.mem_of_getElem? (i := 791) (by decide +kernel), List.mem_of_getElem? (i := 792) (by decide +kernel)⟩
theorem lw_p30 : lw_okq (⟨"ConditionRowsModel", "whole", "(I)J"⟩, 30) := ⟨⟨by decide +kernel, by decide +kernel⟩, List.mem_of_getElem? (i := 592) (by decide +kernel), List.mem_of_getElem? (i := 795) (by decide +kernel), List.mem_of_getElem? (i := 796) (by decide +kernel)⟩
theorem lw_p31 : lw_okq (⟨"ConditionRowsModel", "rest", "(I)J"⟩, 30) := ⟨⟨by decide +kernel, by decide +kernel⟩, List.mem_of_getElem? (i := 592) (by decide +kernel), List.mem_of_getElem? (i := 807) (by decide +kernel), List.mem_of_getElem? (i := 808) (by decide +kernel)⟩
def lw_privs_2 : List (MethodName × Nat) := [(⟨"ConditionRows", "joinedOutcome", "(I)I"⟩, 10), (⟨"ConditionRowsModel", "isField", "(I)Z"⟩, 30), (⟨"ConditionRowsModel", "refusal", "(III)I"⟩, 30), (⟨"ConditionRowsModel", "isName", "(I)Z"⟩, 30), (⟨"ConditionRowsModel", "isNode", "(I)Z"⟩, 30), (⟨"ConditionRowsModel", "made", "(III)I"⟩, 30), (⟨"ConditionRowsModel", "isTurned", "(IJJ)Z"⟩, 30), (⟨"ConditionRowsModel", "relation", "(I)I"⟩, 30), (⟨"ConditionRowsModel", "leaf", "(I)Z"⟩, 30), (⟨"ConditionRowsModel", "isBad", "(I)Z"⟩, 30), (⟨"ConditionRowsModel", "read", "(II)I"⟩, 30), (⟨"ConditionRowsModel", "related", "(III)Z"⟩, 30), (⟨"ConditionRowsModel", "order", "(II)I"⟩, 30), (⟨"ConditionRowsModel", "part", "(I)J"⟩, 30), (⟨"ConditionRowsModel", "whole", "(I)J"⟩, 30), (⟨"ConditionRowsModel", "rest", "(I)J"⟩, 30)]
theorem lw_r2 : ∀ q ∈ lw_privs_2, lw_okq q := List.forall_mem_cons.mpr ⟨lw_p16, List.forall_mem_cons.mpr ⟨lw_p17, List.forall_mem_cons.mpr ⟨lw_p18, List.forall_mem_cons.mpr ⟨lw_p19, List.forall_mem_cons.mpr ⟨lw_p20, List.forall_mem_cons.mpr ⟨lw_p21, List.forall_mem_cons.mpr ⟨lw_p22, List.forall_mem_cons.mpr ⟨lw_p23, List.forall_mem_cons.mpr ⟨lw_p24, List.forall_mem_cons.mpr ⟨lw_p25, List.forall_mem_cons.mpr ⟨lw_p26, List.forall_mem_cons.mpr ⟨lw_p27, List.forall_mem_cons.mpr ⟨lw_p28, List.forall_mem_cons.mpr ⟨lw_p29, List.forall_mem_cons.mpr ⟨lw_p30, List.forall_mem_cons.mpr ⟨lw_p31, fun _ h => absurd h List.not_mem_nil⟩⟩⟩⟩⟩⟩⟩⟩⟩⟩⟩⟩⟩⟩⟩⟩
theorem lw_p32 : lw_okq (⟨"ConditionRowsModel", "spell", "(I)V"⟩, 30) := ⟨⟨by decide +kernel, by decide +kernel⟩, List.mem_of_getElem? (i := 592) (by decide +kernel), List.mem_of_getElem? (i := 811) (by decide +kernel), List.mem_of_getElem? (i := 812) (by decide +kernel)⟩
theorem lw_p33 : lw_okq (⟨"ConditionRowsModel", "isOf", "(II)Z"⟩, 30) := ⟨⟨by decide +kernel, by decide +kernel⟩, List.mem_of_getElem? (i := 592) (by decide +kernel), List.mem_of_getElem? (i := 816) (by decide +kernel), List.mem_of_getElem? (i := 817) (by decide +kernel)⟩
theorem lw_p34 : lw_okq (⟨"ConditionRowsModel", "isIn", "(I)Z"⟩, 30) := ⟨⟨by decide +kernel, by decide +kernel⟩, List.mem_of_getElem? (i := 592) (by decide +kernel), List.mem_of_getElem? (i := 820) (by decide +kernel), List.mem_of_getElem? (i := 821) (by decide +kernel)⟩
theorem lw_p35 : lw_okq (⟨"ConditionRowsModel", "settled", "(I)I"⟩, 30) := ⟨⟨by decide +kernel, by decide +kernel⟩, List.mem_of_getElem? (i := 592) (by decide +kernel), List.mem_of_getElem? (i := 824) (by decide +kernel), List.mem_of_getElem? (i := 825) (by decide +kernel)⟩
def lw_privs_3 : List (MethodName × Nat) := [(⟨"ConditionRowsModel", "spell", "(I)V"⟩, 30), (⟨"ConditionRowsModel", "isOf", "(II)Z"⟩, 30), (⟨"ConditionRowsModel", "isIn", "(I)Z"⟩, 30), (⟨"ConditionRowsModel", "settled", "(I)I"⟩, 30)]
theorem lw_r3 : ∀ q ∈ lw_privs_3, lw_okq q := List.forall_mem_cons.mpr ⟨lw_p32, List.forall_mem_cons.mpr ⟨lw_p33, List.forall_mem_cons.mpr ⟨lw_p34, List.forall_mem_cons.mpr ⟨lw_p35, fun _ h => absurd h List.not_mem_nil⟩⟩⟩⟩
def lw_privs : List (MethodName × Nat) := lw_privs_1 ++ (lw_privs_2 ++ (lw_privs_3))
def lw_tbl : List Cond := k2_sels lw_privs ++ tables_1
theorem lw_privs_ok : ∀ q ∈ lw_privs, lw_okq q := by
  show ∀ q ∈ lw_privs_1 ++ (lw_privs_2 ++ (lw_privs_3)), lw_okq q
  exact List.forall_mem_append.mpr ⟨lw_r1, List.forall_mem_append.mpr ⟨lw_r2, lw_r3⟩⟩
end
section
def RX : String := "ConditionRows"
def TX : u_T := fun k => match k with
  | 0 => ("ConditionRows", "whole", "Z", true)
  | 1 => ("ConditionRows", "fields", "LConditionRows$Fields;", true)
  | 2 => ("ConditionRows", "weights", "LConditionRows$Weights;", true)
  | 3 => ("ConditionRows", "names", "LConditionRows$Names;", true)
  | 4 => ("ConditionRows", "nodes", "LConditionRows$Nodes;", true)
  | 5 => ("ConditionRows", "row", "LConditionRows$Row;", true)
  | 6 => ("ConditionRows", "testing", "LConditionRows$Testing;", true)
  | 7 => ("ConditionRows", "switches", "[Z", true)
  | 8 => ("ConditionRows", "leftText", "[I", true)
  | _ => ("ConditionRows", "rightText", "[I", true)
def tyX : Nat → FieldType := fun k => match k with
  | 0 => .boolean
  | 1 => .object "ConditionRows$Fields"
  | 2 => .object "ConditionRows$Weights"
  | 3 => .object "ConditionRows$Names"
  | 4 => .object "ConditionRows$Nodes"
  | 5 => .object "ConditionRows$Row"
  | 6 => .object "ConditionRows$Testing"
  | 7 => .array .boolean
  | 8 => .array .int
  | _ => .array .int
theorem nmX : ∀ a, a < 10 → ∀ b, b < 10 → a ≠ b → (TX a).2.1 ≠ (TX b).2.1 := by decide +kernel
theorem tyX_ok : ∀ k, k < 10 → parseFieldDescriptor (TX k).2.2.1 = some (tyX k) := by decide +kernel
def RXF : String := "ConditionRows$Fields"
def TXF : u_T := fun k => match k with
  | 0 => ("ConditionRows$Fields", "category", "[I", true)
  | 1 => ("ConditionRows$Fields", "size", "[I", true)
  | 2 => ("ConditionRows$Fields", "scale", "[I", true)
  | 3 => ("ConditionRows$Fields", "bytes", "[I", true)
  | _ => ("ConditionRows$Fields", "made", "I", false)
def tyXF : Nat → FieldType := fun k => match k with
  | 0 => .array .int
  | 1 => .array .int
  | 2 => .array .int
  | 3 => .array .int
  | _ => .int
theorem nmXF : ∀ a, a < 5 → ∀ b, b < 5 → a ≠ b → (TXF a).2.1 ≠ (TXF b).2.1 := by decide +kernel
theorem tyXF_ok : ∀ k, k < 5 → parseFieldDescriptor (TXF k).2.2.1 = some (tyXF k) := by decide +kernel
def RXW : String := "ConditionRows$Weights"
def TXW : u_T := fun k => match k with
  | _ => ("ConditionRows$Weights", "of", "[I", true)
def tyXW : Nat → FieldType := fun k => match k with
  | _ => .array .int
theorem nmXW : ∀ a, a < 1 → ∀ b, b < 1 → a ≠ b → (TXW a).2.1 ≠ (TXW b).2.1 := by decide +kernel
theorem tyXW_ok : ∀ k, k < 1 → parseFieldDescriptor (TXW k).2.2.1 = some (tyXW k) := by decide +kernel
def RXN : String := "ConditionRows$Names"
def TXN : u_T := fun k => match k with
  | 0 => ("ConditionRows$Names", "field", "[I", true)
  | 1 => ("ConditionRows$Names", "ranges", "[I", true)
  | 2 => ("ConditionRows$Names", "low", "[J", true)
  | 3 => ("ConditionRows$Names", "high", "[J", true)
  | _ => ("ConditionRows$Names", "made", "I", false)
def tyXN : Nat → FieldType := fun k => match k with
  | 0 => .array .int
  | 1 => .array .int
  | 2 => .array .long
  | 3 => .array .long
  | _ => .int
theorem nmXN : ∀ a, a < 5 → ∀ b, b < 5 → a ≠ b → (TXN a).2.1 ≠ (TXN b).2.1 := by decide +kernel
theorem tyXN_ok : ∀ k, k < 5 → parseFieldDescriptor (TXN k).2.2.1 = some (tyXN k) := by decide +kernel
def RXO : String := "ConditionRows$Nodes"
def TXO : u_T := fun k => match k with
  | 0 => ("ConditionRows$Nodes", "op", "[I", true)
  | 1 => ("ConditionRows$Nodes", "a", "[I", true)
  | 2 => ("ConditionRows$Nodes", "b", "[I", true)
  | _ => ("ConditionRows$Nodes", "made", "I", false)
def tyXO : Nat → FieldType := fun k => match k with
  | 0 => .array .int
  | 1 => .array .int
  | 2 => .array .int
  | _ => .int
theorem nmXO : ∀ a, a < 4 → ∀ b, b < 4 → a ≠ b → (TXO a).2.1 ≠ (TXO b).2.1 := by decide +kernel
theorem tyXO_ok : ∀ k, k < 4 → parseFieldDescriptor (TXO k).2.2.1 = some (tyXO k) := by decide +kernel
def RXR : String := "ConditionRows$Row"
def TXR : u_T := fun k => match k with
  | 0 => ("ConditionRows$Row", "with", "[I", true)
  | 1 => ("ConditionRows$Row", "op", "[I", true)
  | 2 => ("ConditionRows$Row", "negated", "[Z", true)
  | 3 => ("ConditionRows$Row", "object", "[I", true)
  | 4 => ("ConditionRows$Row", "subject", "I", false)
  | 5 => ("ConditionRows$Row", "carried", "I", false)
  | _ => ("ConditionRows$Row", "length", "I", false)
def tyXR : Nat → FieldType := fun k => match k with
  | 0 => .array .int
  | 1 => .array .int
  | 2 => .array .boolean
  | 3 => .array .int
  | 4 => .int
  | 5 => .int
  | _ => .int
theorem nmXR : ∀ a, a < 7 → ∀ b, b < 7 → a ≠ b → (TXR a).2.1 ≠ (TXR b).2.1 := by decide +kernel
theorem tyXR_ok : ∀ k, k < 7 → parseFieldDescriptor (TXR k).2.2.1 = some (tyXR k) := by decide +kernel
def RXT : String := "ConditionRows$Testing"
def TXT : u_T := fun k => match k with
  | 0 => ("ConditionRows$Testing", "outcome", "[I", true)
  | 1 => ("ConditionRows$Testing", "leaves", "[I", true)
  | 2 => ("ConditionRows$Testing", "waiting", "[I", true)
  | 3 => ("ConditionRows$Testing", "noted", "I", false)
  | _ => ("ConditionRows$Testing", "depth", "I", false)
def tyXT : Nat → FieldType := fun k => match k with
  | 0 => .array .int
  | 1 => .array .int
  | 2 => .array .int
  | 3 => .int
  | _ => .int
theorem nmXT : ∀ a, a < 5 → ∀ b, b < 5 → a ≠ b → (TXT a).2.1 ≠ (TXT b).2.1 := by decide +kernel
theorem tyXT_ok : ∀ k, k < 5 → parseFieldDescriptor (TXT k).2.2.1 = some (tyXT k) := by decide +kernel
def RM : String := "ConditionRowsModel"
def TM : u_T := fun k => match k with
  | 0 => ("ConditionRowsModel", "whole", "Z", true)
  | 1 => ("ConditionRowsModel", "thrown", "I", false)
  | 2 => ("ConditionRowsModel", "bytes", "[I", true)
  | 3 => ("ConditionRowsModel", "categories", "[I", true)
  | 4 => ("ConditionRowsModel", "sizes", "[I", true)
  | 5 => ("ConditionRowsModel", "scales", "[I", true)
  | 6 => ("ConditionRowsModel", "weights", "[I", true)
  | 7 => ("ConditionRowsModel", "fields", "I", false)
  | 8 => ("ConditionRowsModel", "ops", "[I", true)
  | 9 => ("ConditionRowsModel", "as", "[I", true)
  | 10 => ("ConditionRowsModel", "bs", "[I", true)
  | 11 => ("ConditionRowsModel", "nodes", "I", false)
  | 12 => ("ConditionRowsModel", "nameFields", "[I", true)
  | 13 => ("ConditionRowsModel", "ranges", "[I", true)
  | 14 => ("ConditionRowsModel", "lows", "[J", true)
  | 15 => ("ConditionRowsModel", "highs", "[J", true)
  | 16 => ("ConditionRowsModel", "names", "I", false)
  | 17 => ("ConditionRowsModel", "switches", "[Z", true)
  | 18 => ("ConditionRowsModel", "ways", "[I", true)
  | 19 => ("ConditionRowsModel", "rowOps", "[I", true)
  | 20 => ("ConditionRowsModel", "objects", "[I", true)
  | 21 => ("ConditionRowsModel", "turned", "[Z", true)
  | 22 => ("ConditionRowsModel", "row", "I", false)
  | 23 => ("ConditionRowsModel", "subject", "I", false)
  | 24 => ("ConditionRowsModel", "known", "[I", true)
  | 25 => ("ConditionRowsModel", "pile", "[I", true)
  | 26 => ("ConditionRowsModel", "leaves", "[I", true)
  | 27 => ("ConditionRowsModel", "noted", "I", false)
  | 28 => ("ConditionRowsModel", "fault", "Z", false)
  | _ => ("ConditionRowsModel", "digits", "[I", true)
def tyM : Nat → FieldType := fun k => match k with
  | 0 => .boolean
  | 1 => .int
  | 2 => .array .int
  | 3 => .array .int
  | 4 => .array .int
  | 5 => .array .int
  | 6 => .array .int
  | 7 => .int
  | 8 => .array .int
  | 9 => .array .int
  | 10 => .array .int
  | 11 => .int
  | 12 => .array .int
  | 13 => .array .int
  | 14 => .array .long
  | 15 => .array .long
  | 16 => .int
  | 17 => .array .boolean
  | 18 => .array .int
  | 19 => .array .int
  | 20 => .array .int
  | 21 => .array .boolean
  | 22 => .int
  | 23 => .int
  | 24 => .array .int
  | 25 => .array .int
  | 26 => .array .int
  | 27 => .int
  | 28 => .boolean
  | _ => .array .int
theorem nmM : ∀ a, a < 30 → ∀ b, b < 30 → a ≠ b → (TM a).2.1 ≠ (TM b).2.1 := by decide +kernel
theorem tyM_ok : ∀ k, k < 30 → parseFieldDescriptor (TM k).2.2.1 = some (tyM k) := by decide +kernel
def RJM : String := "java/lang/Math"
def RJL : String := "java/lang/Long"
def RJI : String := "java/lang/Integer"
def RL : String := "ConditionRowsLaw"
abbrev vwCl : List vw_C := [(RX, TX, 10), (RXF, TXF, 5), (RXW, TXW, 1), (RXN, TXN, 5), (RXO, TXO, 4), (RXR, TXR, 7), (RXT, TXT, 5), (RM, TM, 30)]
abbrev cX_init : ByteArray := prog_1_method_1_code
def yX_init : MethodName := ⟨RX, "<init>", "(I)V"⟩
abbrev cXF_init : ByteArray := prog_2_method_1_code
def yXF_init : MethodName := ⟨RXF, "<init>", "()V"⟩
abbrev cXW_init : ByteArray := prog_7_method_1_code
def yXW_init : MethodName := ⟨RXW, "<init>", "()V"⟩
abbrev cXN_init : ByteArray := prog_3_method_1_code
def yXN_init : MethodName := ⟨RXN, "<init>", "()V"⟩
abbrev cXO_init : ByteArray := prog_4_method_1_code
def yXO_init : MethodName := ⟨RXO, "<init>", "()V"⟩
abbrev cXR_init : ByteArray := prog_5_method_1_code
def yXR_init : MethodName := ⟨RXR, "<init>", "()V"⟩
abbrev cXT_init : ByteArray := prog_6_method_1_code
def yXT_init : MethodName := ⟨RXT, "<init>", "()V"⟩
abbrev cX_field : ByteArray := prog_1_method_2_code
def yX_field : MethodName := ⟨RX, "field", "(II)I"⟩
abbrev cX_mostBytes : ByteArray := prog_1_method_17_code
def yX_mostBytes : MethodName := ⟨RX, "mostBytes", "(I)I"⟩
abbrev cXF_add : ByteArray := prog_2_method_5_code
def yXF_add : MethodName := ⟨RXF, "add", "(II)I"⟩
abbrev cXF_firstByte : ByteArray := prog_2_method_6_code
def yXF_firstByte : MethodName := ⟨RXF, "firstByte", "(I)I"⟩
abbrev cX_octet : ByteArray := prog_1_method_3_code
def yX_octet : MethodName := ⟨RX, "octet", "(III)I"⟩
abbrev cXF_has : ByteArray := prog_2_method_2_code
def yXF_has : MethodName := ⟨RXF, "has", "(I)Z"⟩
abbrev cX_scale : ByteArray := prog_1_method_4_code
def yX_scale : MethodName := ⟨RX, "scale", "(II)I"⟩
abbrev cXF_hasNumber : ByteArray := prog_2_method_4_code
def yXF_hasNumber : MethodName := ⟨RXF, "hasNumber", "(I)Z"⟩
abbrev cXF_isText : ByteArray := prog_2_method_3_code
def yXF_isText : MethodName := ⟨RXF, "isText", "(I)Z"⟩
abbrev cX_weight : ByteArray := prog_1_method_5_code
def yX_weight : MethodName := ⟨RX, "weight", "(II)I"⟩
abbrev cX_isByte : ByteArray := prog_1_method_18_code
def yX_isByte : MethodName := ⟨RX, "isByte", "(I)Z"⟩
abbrev cX_node : ByteArray := prog_1_method_6_code
def yX_node : MethodName := ⟨RX, "node", "(III)I"⟩
abbrev cX_isInside : ByteArray := prog_1_method_22_code
def yX_isInside : MethodName := ⟨RX, "isInside", "(III)Z"⟩
abbrev cX_isSwitch : ByteArray := prog_1_method_19_code
def yX_isSwitch : MethodName := ⟨RX, "isSwitch", "(I)Z"⟩
abbrev cX_hasParts : ByteArray := prog_1_method_23_code
def yX_hasParts : MethodName := ⟨RX, "hasParts", "(III)Z"⟩
abbrev cXN_has : ByteArray := prog_3_method_2_code
def yXN_has : MethodName := ⟨RXN, "has", "(I)Z"⟩
abbrev cXO_has : ByteArray := prog_4_method_2_code
def yXO_has : MethodName := ⟨RXO, "has", "(I)Z"⟩
abbrev cXO_add : ByteArray := prog_4_method_3_code
def yXO_add : MethodName := ⟨RXO, "add", "(III)I"⟩
abbrev cX_name88 : ByteArray := prog_1_method_7_code
def yX_name88 : MethodName := ⟨RX, "name88", "(IJJ)I"⟩
abbrev cX_isAbove : ByteArray := prog_1_method_24_code
def yX_isAbove : MethodName := ⟨RX, "isAbove", "(IJJ)Z"⟩
abbrev cX_isBelowUnsigned : ByteArray := prog_1_method_25_code
def yX_isBelowUnsigned : MethodName := ⟨RX, "isBelowUnsigned", "(JJ)Z"⟩
abbrev cXN_add : ByteArray := prog_3_method_3_code
def yXN_add : MethodName := ⟨RXN, "add", "(IJJ)I"⟩
abbrev cXN_widen : ByteArray := prog_3_method_4_code
def yXN_widen : MethodName := ⟨RXN, "widen", "(IJJ)I"⟩
abbrev cX_range : ByteArray := prog_1_method_8_code
def yX_range : MethodName := ⟨RX, "range", "(IJJ)I"⟩
abbrev cX_short0 : ByteArray := prog_1_method_9_code
def yX_short0 : MethodName := ⟨RX, "short0", "(III)I"⟩
abbrev cX_isRelation : ByteArray := prog_1_method_20_code
def yX_isRelation : MethodName := ⟨RX, "isRelation", "(I)Z"⟩
abbrev cXR_begin : ByteArray := prog_5_method_2_code
def yXR_begin : MethodName := ⟨RXR, "begin", "(III)V"⟩
abbrev cXR_append : ByteArray := prog_5_method_3_code
def yXR_append : MethodName := ⟨RXR, "append", "(IIZI)V"⟩
abbrev cX_more : ByteArray := prog_1_method_10_code
def yX_more : MethodName := ⟨RX, "more", "(IZII)I"⟩
abbrev cX_turned : ByteArray := prog_1_method_21_code
def yX_turned : MethodName := ⟨RX, "turned", "(I)I"⟩
abbrev cX_unfold : ByteArray := prog_1_method_11_code
def yX_unfold : MethodName := ⟨RX, "unfold", "()I"⟩
abbrev cXR_nodesNeeded : ByteArray := prog_5_method_4_code
def yXR_nodesNeeded : MethodName := ⟨RXR, "nodesNeeded", "()I"⟩
abbrev cX_unfoldRow : ByteArray := prog_1_method_27_code
def yX_unfoldRow : MethodName := ⟨RX, "unfoldRow", "()I"⟩
abbrev cX_joined : ByteArray := prog_1_method_29_code
def yX_joined : MethodName := ⟨RX, "joined", "(III)I"⟩
abbrev cX_relationNode : ByteArray := prog_1_method_28_code
def yX_relationNode : MethodName := ⟨RX, "relationNode", "(I)I"⟩
abbrev cX_asked : ByteArray := prog_1_method_13_code
def yX_asked : MethodName := ⟨RX, "asked", "(I)I"⟩
abbrev cX_switchOn : ByteArray := prog_1_method_14_code
def yX_switchOn : MethodName := ⟨RX, "switchOn", "(IZ)I"⟩
abbrev cX_count : ByteArray := prog_1_method_16_code
def yX_count : MethodName := ⟨RX, "count", "(I)I"⟩
abbrev cX_switchesOn : ByteArray := prog_1_method_26_code
def yX_switchesOn : MethodName := ⟨RX, "switchesOn", "()I"⟩
abbrev cL_cell : ByteArray := method_2_code
def yL_cell : MethodName := ⟨RL, "cell", "([II)I"⟩
abbrev cL_truth : ByteArray := method_3_code
def yL_truth : MethodName := ⟨RL, "truth", "(LConditionRows;I[J)I"⟩
abbrev cX_truth : ByteArray := prog_1_method_12_code
def yX_truth : MethodName := ⟨RX, "truth", "(I)Z"⟩
abbrev cX_outcomeOf : ByteArray := prog_1_method_30_code
def yX_outcomeOf : MethodName := ⟨RX, "outcomeOf", "(I)I"⟩
abbrev cXT_begin : ByteArray := prog_6_method_2_code
def yXT_begin : MethodName := ⟨RXT, "begin", "()V"⟩
abbrev cXT_open : ByteArray := prog_6_method_3_code
def yXT_open : MethodName := ⟨RXT, "open", "(I)V"⟩
abbrev cX_partToTest : ByteArray := prog_1_method_31_code
def yX_partToTest : MethodName := ⟨RX, "partToTest", "(I)I"⟩
abbrev cX_settledBy : ByteArray := prog_1_method_32_code
def yX_settledBy : MethodName := ⟨RX, "settledBy", "(I)I"⟩
abbrev cX_leafOutcome : ByteArray := prog_1_method_34_code
def yX_leafOutcome : MethodName := ⟨RX, "leafOutcome", "(I)I"⟩
abbrev cXT_note : ByteArray := prog_6_method_5_code
def yXT_note : MethodName := ⟨RXT, "note", "(I)V"⟩
abbrev cXF_isOfClass : ByteArray := prog_2_method_9_code
def yXF_isOfClass : MethodName := ⟨RXF, "isOfClass", "(II)Z"⟩
abbrev cXF_isBad : ByteArray := prog_2_method_8_code
def yXF_isBad : MethodName := ⟨RXF, "isBad", "(I)Z"⟩
abbrev cXF_isDigit : ByteArray := prog_2_method_7_code
def yXF_isDigit : MethodName := ⟨RXF, "isDigit", "(I)Z"⟩
abbrev cXF_fits : ByteArray := prog_2_method_10_code
def yXF_fits : MethodName := ⟨RXF, "fits", "(II)Z"⟩
abbrev cX_asOutcome : ByteArray := prog_1_method_35_code
def yX_asOutcome : MethodName := ⟨RX, "asOutcome", "(Z)I"⟩
abbrev cXF_value : ByteArray := prog_2_method_11_code
def yXF_value : MethodName := ⟨RXF, "value", "(I)J"⟩
abbrev cXF_digitsValue : ByteArray := prog_2_method_12_code
def yXF_digitsValue : MethodName := ⟨RXF, "digitsValue", "(I)J"⟩
abbrev cXF_binaryValue : ByteArray := prog_2_method_13_code
def yXF_binaryValue : MethodName := ⟨RXF, "binaryValue", "(I)J"⟩
abbrev cJL_compare : ByteArray := prog_14_method_42_code
def yJL_compare : MethodName := ⟨RJL, "compare", "(JJ)I"⟩
abbrev cX_holds : ByteArray := prog_1_method_37_code
def yX_holds : MethodName := ⟨RX, "holds", "(I)Z"⟩
abbrev cXF_firstBytes : ByteArray := prog_2_method_14_code
def yXF_firstBytes : MethodName := ⟨RXF, "firstBytes", "(I)J"⟩
abbrev cXN_hasUnsigned : ByteArray := prog_3_method_6_code
def yXN_hasUnsigned : MethodName := ⟨RXN, "hasUnsigned", "(IJ)Z"⟩
abbrev cXN_hasSigned : ByteArray := prog_3_method_5_code
def yXN_hasSigned : MethodName := ⟨RXN, "hasSigned", "(IJ)Z"⟩
abbrev cX_relationOutcome : ByteArray := prog_1_method_36_code
def yX_relationOutcome : MethodName := ⟨RX, "relationOutcome", "(III)I"⟩
abbrev cX_compareFields : ByteArray := prog_1_method_38_code
def yX_compareFields : MethodName := ⟨RX, "compareFields", "(II)I"⟩
abbrev cXF_compareNumbers : ByteArray := prog_2_method_15_code
def yXF_compareNumbers : MethodName := ⟨RXF, "compareNumbers", "(II)I"⟩
abbrev cXF_compareScaled : ByteArray := prog_2_method_16_code
def yXF_compareScaled : MethodName := ⟨RXF, "compareScaled", "(JJI)I"⟩
abbrev cJM_floorDiv : ByteArray := prog_15_method_49_code
def yJM_floorDiv : MethodName := ⟨RJM, "floorDiv", "(JJ)J"⟩
abbrev cJM_floorMod : ByteArray := prog_15_method_52_code
def yJM_floorMod : MethodName := ⟨RJM, "floorMod", "(JJ)J"⟩
abbrev cXF_spell : ByteArray := prog_2_method_17_code
def yXF_spell : MethodName := ⟨RXF, "spell", "(I[I)V"⟩
abbrev cXF_spellDecimals : ByteArray := prog_2_method_19_code
def yXF_spellDecimals : MethodName := ⟨RXF, "spellDecimals", "(J[I)I"⟩
abbrev cXF_spellBytes : ByteArray := prog_2_method_18_code
def yXF_spellBytes : MethodName := ⟨RXF, "spellBytes", "(I[I)I"⟩
abbrev cXW_compareTexts : ByteArray := prog_7_method_2_code
def yXW_compareTexts : MethodName := ⟨RXW, "compareTexts", "([I[I)I"⟩
abbrev cJI_compare : ByteArray := prog_13_method_40_code
def yJI_compare : MethodName := ⟨RJI, "compare", "(II)I"⟩
abbrev cX_joinedOutcome : ByteArray := prog_1_method_33_code
def yX_joinedOutcome : MethodName := ⟨RX, "joinedOutcome", "(I)I"⟩
abbrev cXT_close : ByteArray := prog_6_method_4_code
def yXT_close : MethodName := ⟨RXT, "close", "(I)V"⟩
abbrev cL_compare : ByteArray := method_4_code
def yL_compare : MethodName := ⟨RL, "compare", "(LConditionRows;II[J)I"⟩
abbrev cX_compare : ByteArray := prog_1_method_15_code
def yX_compare : MethodName := ⟨RX, "compare", "(II)I"⟩
abbrev cM_init : ByteArray := prog_9_method_1_code
def yM_init : MethodName := ⟨RM, "<init>", "(I)V"⟩
abbrev cM_field : ByteArray := prog_9_method_6_code
def yM_field : MethodName := ⟨RM, "field", "(II)I"⟩
abbrev cM_octet : ByteArray := prog_9_method_7_code
def yM_octet : MethodName := ⟨RM, "octet", "(III)I"⟩
abbrev cM_isField : ByteArray := prog_9_method_3_code
def yM_isField : MethodName := ⟨RM, "isField", "(I)Z"⟩
abbrev cM_scale : ByteArray := prog_9_method_8_code
def yM_scale : MethodName := ⟨RM, "scale", "(II)I"⟩
abbrev cM_weight : ByteArray := prog_9_method_10_code
def yM_weight : MethodName := ⟨RM, "weight", "(II)I"⟩
abbrev cM_isByte : ByteArray := prog_9_method_9_code
def yM_isByte : MethodName := ⟨RM, "isByte", "(I)Z"⟩
abbrev cM_node : ByteArray := prog_9_method_22_code
def yM_node : MethodName := ⟨RM, "node", "(III)I"⟩
abbrev cM_refusal : ByteArray := prog_9_method_20_code
def yM_refusal : MethodName := ⟨RM, "refusal", "(III)I"⟩
abbrev cM_isName : ByteArray := prog_9_method_5_code
def yM_isName : MethodName := ⟨RM, "isName", "(I)Z"⟩
abbrev cM_isNode : ByteArray := prog_9_method_4_code
def yM_isNode : MethodName := ⟨RM, "isNode", "(I)Z"⟩
abbrev cM_made : ByteArray := prog_9_method_21_code
def yM_made : MethodName := ⟨RM, "made", "(III)I"⟩
abbrev cM_name88 : ByteArray := prog_9_method_25_code
def yM_name88 : MethodName := ⟨RM, "name88", "(IJJ)I"⟩
abbrev cM_isTurned : ByteArray := prog_9_method_24_code
def yM_isTurned : MethodName := ⟨RM, "isTurned", "(IJJ)Z"⟩
abbrev cM_isLess : ByteArray := prog_9_method_23_code
def yM_isLess : MethodName := ⟨RM, "isLess", "(JJ)Z"⟩
abbrev cM_range : ByteArray := prog_9_method_26_code
def yM_range : MethodName := ⟨RM, "range", "(IJJ)I"⟩
abbrev cM_short0 : ByteArray := prog_9_method_28_code
def yM_short0 : MethodName := ⟨RM, "short0", "(III)I"⟩
abbrev cM_isRelation : ByteArray := prog_9_method_27_code
def yM_isRelation : MethodName := ⟨RM, "isRelation", "(I)Z"⟩
abbrev cM_more : ByteArray := prog_9_method_29_code
def yM_more : MethodName := ⟨RM, "more", "(IZII)I"⟩
abbrev cM_unfold : ByteArray := prog_9_method_31_code
def yM_unfold : MethodName := ⟨RM, "unfold", "()I"⟩
abbrev cM_relation : ByteArray := prog_9_method_30_code
def yM_relation : MethodName := ⟨RM, "relation", "(I)I"⟩
abbrev cM_truth : ByteArray := prog_9_method_37_code
def yM_truth : MethodName := ⟨RM, "truth", "(I)Z"⟩
abbrev cM_leaf : ByteArray := prog_9_method_35_code
def yM_leaf : MethodName := ⟨RM, "leaf", "(I)Z"⟩
abbrev cM_isBad : ByteArray := prog_9_method_12_code
def yM_isBad : MethodName := ⟨RM, "isBad", "(I)Z"⟩
abbrev cM_read : ByteArray := prog_9_method_11_code
def yM_read : MethodName := ⟨RM, "read", "(II)I"⟩
abbrev cM_related : ByteArray := prog_9_method_34_code
def yM_related : MethodName := ⟨RM, "related", "(III)Z"⟩
abbrev cM_order : ByteArray := prog_9_method_19_code
def yM_order : MethodName := ⟨RM, "order", "(II)I"⟩
abbrev cM_part : ByteArray := prog_9_method_15_code
def yM_part : MethodName := ⟨RM, "part", "(I)J"⟩
abbrev cM_whole : ByteArray := prog_9_method_13_code
def yM_whole : MethodName := ⟨RM, "whole", "(I)J"⟩
abbrev cM_ten : ByteArray := prog_9_method_14_code
def yM_ten : MethodName := ⟨RM, "ten", "(I)J"⟩
abbrev cM_sign : ByteArray := prog_9_method_18_code
def yM_sign : MethodName := ⟨RM, "sign", "(JJ)I"⟩
abbrev cM_rest : ByteArray := prog_9_method_16_code
def yM_rest : MethodName := ⟨RM, "rest", "(I)J"⟩
abbrev cM_spell : ByteArray := prog_9_method_17_code
def yM_spell : MethodName := ⟨RM, "spell", "(I)V"⟩
abbrev cM_isOf : ByteArray := prog_9_method_32_code
def yM_isOf : MethodName := ⟨RM, "isOf", "(II)Z"⟩
abbrev cM_isIn : ByteArray := prog_9_method_33_code
def yM_isIn : MethodName := ⟨RM, "isIn", "(I)Z"⟩
abbrev cM_settled : ByteArray := prog_9_method_36_code
def yM_settled : MethodName := ⟨RM, "settled", "(I)I"⟩
abbrev cM_asked : ByteArray := prog_9_method_38_code
def yM_asked : MethodName := ⟨RM, "asked", "(I)I"⟩
abbrev cM_switchOn : ByteArray := prog_9_method_39_code
def yM_switchOn : MethodName := ⟨RM, "switchOn", "(IZ)I"⟩
abbrev cM_compare : ByteArray := prog_9_method_40_code
def yM_compare : MethodName := ⟨RM, "compare", "(II)I"⟩
abbrev cM_count : ByteArray := prog_9_method_41_code
def yM_count : MethodName := ⟨RM, "count", "(I)I"⟩
end
section
def zWords : List Cond := lw_tbl.filter goodWord
theorem zmem {w : Cond} (i : Nat) (h : tables_1[i]? = some w) (g : goodWord w = true) : w ∈ zWords := List.mem_filter.mpr ⟨List.mem_append_right _ (List.mem_of_getElem? h), g⟩
theorem zmemP {w : Cond} (i : Nat) (h : (k2_sels lw_privs)[i]? = some w) (g : goodWord w = true) : w ∈ zWords := List.mem_filter.mpr ⟨List.mem_append_left _ (List.mem_of_getElem? h), g⟩
theorem zc {w c : Cond} (h : w ∈ zWords) : w ∈ c :: zWords := List.mem_cons_of_mem _ h
theorem zgood {w c0 : Cond} (h : w ∈ zWords) : w ∈ c0 :: zWords ∧ ((w.onTables && w.keeps) = true ∨ ∃ ty, w = .arrayClass ty) := ⟨zc h, good_of_word (List.mem_filter.mp h).2⟩
theorem zgC {w c0 : Cond} (h : w ∈ zWords) : GoodIn (c0 :: zWords) (w :: zWords) := by
  intro v hv
  rcases List.mem_cons.mp hv with e | e
  · rw [e]; exact zgood h
  · exact zgood e
theorem zgV {c0 w : Cond} {own C : String} {idx : Nat} {y : MethodName} (h1 : Cond.methodLink own idx y ∈ zWords) (h2 : Cond.instanceMethod y ∈ zWords) (h3 : Cond.selects C y y ∈ zWords) (h4 : Cond.initialized C ∈ zWords) (h : w ∈ zWords) : GoodIn (c0 :: zWords) (wsV own idx C y (w :: zWords)) := by
  intro v hv
  rcases List.mem_append.mp hv with e | e
  · simp only [List.mem_cons, List.not_mem_nil, or_false] at e
    rcases e with e | e | e | e <;> (rw [e]; apply zgood; assumption)
  · exact zgC h v e
theorem zgS {c0 w : Cond} {own : String} {idx : Nat} {y : MethodName} (h1 : Cond.methodLink own idx y ∈ zWords) (h2 : Cond.static y ∈ zWords) (h4 : Cond.initialized y.cls ∈ zWords) (h : w ∈ zWords) : GoodIn (c0 :: zWords) (va_wsS own idx y (w :: zWords)) := by
  intro v hv
  rcases List.mem_append.mp hv with e | e
  · simp only [List.mem_cons, List.not_mem_nil, or_false] at e
    rcases e with e | e | e <;> (rw [e]; apply zgood; assumption)
  · exact zgC h v e
theorem m_211 : (Jvm.Cond.code ({ cls := "ConditionRows", name := "mostBytes", desc := "(I)I" } : Jvm.MethodName) prog_1_method_17_code (1 : Nat) (Option.some Jvm.ClassFile.FieldType.int)) ∈ zWords := zmem 211 (by decide +kernel) (by decide +kernel)
theorem m_209 : (Jvm.Cond.methodLink "ConditionRows" (66 : Nat) ({ cls := "ConditionRows", name := "mostBytes", desc := "(I)I" } : Jvm.MethodName)) ∈ zWords := zmem 209 (by decide +kernel) (by decide +kernel)
theorem m_210 : (Jvm.Cond.static ({ cls := "ConditionRows", name := "mostBytes", desc := "(I)I" } : Jvm.MethodName)) ∈ zWords := zmem 210 (by decide +kernel) (by decide +kernel)
theorem m_1 : (Jvm.Cond.initialized "ConditionRows") ∈ zWords := zmem 1 (by decide +kernel) (by decide +kernel)
theorem m_175 : (Jvm.Cond.fieldLink "ConditionRows" (10 : Nat) "ConditionRows" "fields" "LConditionRows$Fields;") ∈ zWords := zmem 175 (by decide +kernel) (by decide +kernel)
theorem m_38 : (Jvm.Cond.fieldLink "ConditionRows$Fields" (24 : Nat) "ConditionRows$Fields" "made" "I") ∈ zWords := zmem 38 (by decide +kernel) (by decide +kernel)
theorem m_31 : (Jvm.Cond.fieldLink "ConditionRows$Fields" (9 : Nat) "ConditionRows$Fields" "category" "[I") ∈ zWords := zmem 31 (by decide +kernel) (by decide +kernel)
theorem m_32 : (Jvm.Cond.fieldLink "ConditionRows$Fields" (15 : Nat) "ConditionRows$Fields" "size" "[I") ∈ zWords := zmem 32 (by decide +kernel) (by decide +kernel)
theorem m_36 : (Jvm.Cond.fieldLink "ConditionRows$Fields" (21 : Nat) "ConditionRows$Fields" "bytes" "[I") ∈ zWords := zmem 36 (by decide +kernel) (by decide +kernel)
theorem m_218 : (Jvm.Cond.code ({ cls := "ConditionRows$Fields", name := "firstByte", desc := "(I)I" } : Jvm.MethodName) prog_2_method_6_code (1 : Nat) (Option.some Jvm.ClassFile.FieldType.int)) ∈ zWords := zmem 218 (by decide +kernel) (by decide +kernel)
theorem m_216 : (Jvm.Cond.methodLink "ConditionRows$Fields" (35 : Nat) ({ cls := "ConditionRows$Fields", name := "firstByte", desc := "(I)I" } : Jvm.MethodName)) ∈ zWords := zmem 216 (by decide +kernel) (by decide +kernel)
theorem m_217 : (Jvm.Cond.static ({ cls := "ConditionRows$Fields", name := "firstByte", desc := "(I)I" } : Jvm.MethodName)) ∈ zWords := zmem 217 (by decide +kernel) (by decide +kernel)
theorem m_2 : (Jvm.Cond.initialized "ConditionRows$Fields") ∈ zWords := zmem 2 (by decide +kernel) (by decide +kernel)
theorem m_215 : (Jvm.Cond.code ({ cls := "ConditionRows$Fields", name := "add", desc := "(II)I" } : Jvm.MethodName) prog_2_method_5_code (5 : Nat) (Option.some Jvm.ClassFile.FieldType.int)) ∈ zWords := zmem 215 (by decide +kernel) (by decide +kernel)
theorem m_212 : (Jvm.Cond.methodLink "ConditionRows" (70 : Nat) ({ cls := "ConditionRows$Fields", name := "add", desc := "(II)I" } : Jvm.MethodName)) ∈ zWords := zmem 212 (by decide +kernel) (by decide +kernel)
theorem m_213 : (Jvm.Cond.instanceMethod ({ cls := "ConditionRows$Fields", name := "add", desc := "(II)I" } : Jvm.MethodName)) ∈ zWords := zmem 213 (by decide +kernel) (by decide +kernel)
theorem m_214 : (Jvm.Cond.selects "ConditionRows$Fields" ({ cls := "ConditionRows$Fields", name := "add", desc := "(II)I" } : Jvm.MethodName) ({ cls := "ConditionRows$Fields", name := "add", desc := "(II)I" } : Jvm.MethodName)) ∈ zWords := zmem 214 (by decide +kernel) (by decide +kernel)
theorem m_226 : (Jvm.Cond.code ({ cls := "ConditionRows$Fields", name := "has", desc := "(I)Z" } : Jvm.MethodName) prog_2_method_2_code (2 : Nat) (Option.some Jvm.ClassFile.FieldType.boolean)) ∈ zWords := zmem 226 (by decide +kernel) (by decide +kernel)
theorem m_223 : (Jvm.Cond.methodLink "ConditionRows" (74 : Nat) ({ cls := "ConditionRows$Fields", name := "has", desc := "(I)Z" } : Jvm.MethodName)) ∈ zWords := zmem 223 (by decide +kernel) (by decide +kernel)
theorem m_224 : (Jvm.Cond.instanceMethod ({ cls := "ConditionRows$Fields", name := "has", desc := "(I)Z" } : Jvm.MethodName)) ∈ zWords := zmem 224 (by decide +kernel) (by decide +kernel)
theorem m_225 : (Jvm.Cond.selects "ConditionRows$Fields" ({ cls := "ConditionRows$Fields", name := "has", desc := "(I)Z" } : Jvm.MethodName) ({ cls := "ConditionRows$Fields", name := "has", desc := "(I)Z" } : Jvm.MethodName)) ∈ zWords := zmem 225 (by decide +kernel) (by decide +kernel)
theorem m_235 : (Jvm.Cond.methodLink "ConditionRows$Fields" (28 : Nat) ({ cls := "ConditionRows$Fields", name := "has", desc := "(I)Z" } : Jvm.MethodName)) ∈ zWords := zmem 235 (by decide +kernel) (by decide +kernel)
theorem m_239 : (Jvm.Cond.code ({ cls := "ConditionRows$Fields", name := "isText", desc := "(I)Z" } : Jvm.MethodName) prog_2_method_3_code (2 : Nat) (Option.some Jvm.ClassFile.FieldType.boolean)) ∈ zWords := zmem 239 (by decide +kernel) (by decide +kernel)
theorem m_236 : (Jvm.Cond.methodLink "ConditionRows$Fields" (32 : Nat) ({ cls := "ConditionRows$Fields", name := "isText", desc := "(I)Z" } : Jvm.MethodName)) ∈ zWords := zmem 236 (by decide +kernel) (by decide +kernel)
theorem m_237 : (Jvm.Cond.instanceMethod ({ cls := "ConditionRows$Fields", name := "isText", desc := "(I)Z" } : Jvm.MethodName)) ∈ zWords := zmem 237 (by decide +kernel) (by decide +kernel)
theorem m_238 : (Jvm.Cond.selects "ConditionRows$Fields" ({ cls := "ConditionRows$Fields", name := "isText", desc := "(I)Z" } : Jvm.MethodName) ({ cls := "ConditionRows$Fields", name := "isText", desc := "(I)Z" } : Jvm.MethodName)) ∈ zWords := zmem 238 (by decide +kernel) (by decide +kernel)
theorem m_234 : (Jvm.Cond.code ({ cls := "ConditionRows$Fields", name := "hasNumber", desc := "(I)Z" } : Jvm.MethodName) prog_2_method_4_code (2 : Nat) (Option.some Jvm.ClassFile.FieldType.boolean)) ∈ zWords := zmem 234 (by decide +kernel) (by decide +kernel)
theorem m_231 : (Jvm.Cond.methodLink "ConditionRows" (84 : Nat) ({ cls := "ConditionRows$Fields", name := "hasNumber", desc := "(I)Z" } : Jvm.MethodName)) ∈ zWords := zmem 231 (by decide +kernel) (by decide +kernel)
theorem m_232 : (Jvm.Cond.instanceMethod ({ cls := "ConditionRows$Fields", name := "hasNumber", desc := "(I)Z" } : Jvm.MethodName)) ∈ zWords := zmem 232 (by decide +kernel) (by decide +kernel)
theorem m_233 : (Jvm.Cond.selects "ConditionRows$Fields" ({ cls := "ConditionRows$Fields", name := "hasNumber", desc := "(I)Z" } : Jvm.MethodName) ({ cls := "ConditionRows$Fields", name := "hasNumber", desc := "(I)Z" } : Jvm.MethodName)) ∈ zWords := zmem 233 (by decide +kernel) (by decide +kernel)
theorem m_246 : (Jvm.Cond.code ({ cls := "ConditionRows", name := "isByte", desc := "(I)Z" } : Jvm.MethodName) prog_1_method_18_code (1 : Nat) (Option.some Jvm.ClassFile.FieldType.boolean)) ∈ zWords := zmem 246 (by decide +kernel) (by decide +kernel)
theorem m_244 : (Jvm.Cond.methodLink "ConditionRows" (90 : Nat) ({ cls := "ConditionRows", name := "isByte", desc := "(I)Z" } : Jvm.MethodName)) ∈ zWords := zmem 244 (by decide +kernel) (by decide +kernel)
theorem m_245 : (Jvm.Cond.static ({ cls := "ConditionRows", name := "isByte", desc := "(I)Z" } : Jvm.MethodName)) ∈ zWords := zmem 245 (by decide +kernel) (by decide +kernel)
theorem m_176 : (Jvm.Cond.fieldLink "ConditionRows" (19 : Nat) "ConditionRows" "weights" "LConditionRows$Weights;") ∈ zWords := zmem 176 (by decide +kernel) (by decide +kernel)
theorem m_256 : (Jvm.Cond.code ({ cls := "ConditionRows", name := "isSwitch", desc := "(I)Z" } : Jvm.MethodName) prog_1_method_19_code (1 : Nat) (Option.some Jvm.ClassFile.FieldType.boolean)) ∈ zWords := zmem 256 (by decide +kernel) (by decide +kernel)
theorem m_254 : (Jvm.Cond.methodLink "ConditionRows" (173 : Nat) ({ cls := "ConditionRows", name := "isSwitch", desc := "(I)Z" } : Jvm.MethodName)) ∈ zWords := zmem 254 (by decide +kernel) (by decide +kernel)
theorem m_255 : (Jvm.Cond.static ({ cls := "ConditionRows", name := "isSwitch", desc := "(I)Z" } : Jvm.MethodName)) ∈ zWords := zmem 255 (by decide +kernel) (by decide +kernel)
theorem m_253 : (Jvm.Cond.code ({ cls := "ConditionRows", name := "isInside", desc := "(III)Z" } : Jvm.MethodName) prog_1_method_22_code (3 : Nat) (Option.some Jvm.ClassFile.FieldType.boolean)) ∈ zWords := zmem 253 (by decide +kernel) (by decide +kernel)
theorem m_251 : (Jvm.Cond.methodLink "ConditionRows" (96 : Nat) ({ cls := "ConditionRows", name := "isInside", desc := "(III)Z" } : Jvm.MethodName)) ∈ zWords := zmem 251 (by decide +kernel) (by decide +kernel)
theorem m_252 : (Jvm.Cond.static ({ cls := "ConditionRows", name := "isInside", desc := "(III)Z" } : Jvm.MethodName)) ∈ zWords := zmem 252 (by decide +kernel) (by decide +kernel)
theorem m_177 : (Jvm.Cond.fieldLink "ConditionRows" (26 : Nat) "ConditionRows" "names" "LConditionRows$Names;") ∈ zWords := zmem 177 (by decide +kernel) (by decide +kernel)
theorem m_74 : (Jvm.Cond.fieldLink "ConditionRows$Names" (25 : Nat) "ConditionRows$Names" "made" "I") ∈ zWords := zmem 74 (by decide +kernel) (by decide +kernel)
theorem m_264 : (Jvm.Cond.code ({ cls := "ConditionRows$Names", name := "has", desc := "(I)Z" } : Jvm.MethodName) prog_3_method_2_code (2 : Nat) (Option.some Jvm.ClassFile.FieldType.boolean)) ∈ zWords := zmem 264 (by decide +kernel) (by decide +kernel)
theorem m_261 : (Jvm.Cond.methodLink "ConditionRows" (113 : Nat) ({ cls := "ConditionRows$Names", name := "has", desc := "(I)Z" } : Jvm.MethodName)) ∈ zWords := zmem 261 (by decide +kernel) (by decide +kernel)
theorem m_262 : (Jvm.Cond.instanceMethod ({ cls := "ConditionRows$Names", name := "has", desc := "(I)Z" } : Jvm.MethodName)) ∈ zWords := zmem 262 (by decide +kernel) (by decide +kernel)
theorem m_263 : (Jvm.Cond.selects "ConditionRows$Names" ({ cls := "ConditionRows$Names", name := "has", desc := "(I)Z" } : Jvm.MethodName) ({ cls := "ConditionRows$Names", name := "has", desc := "(I)Z" } : Jvm.MethodName)) ∈ zWords := zmem 263 (by decide +kernel) (by decide +kernel)
theorem m_4 : (Jvm.Cond.initialized "ConditionRows$Names") ∈ zWords := zmem 4 (by decide +kernel) (by decide +kernel)
theorem m_178 : (Jvm.Cond.fieldLink "ConditionRows" (33 : Nat) "ConditionRows" "nodes" "LConditionRows$Nodes;") ∈ zWords := zmem 178 (by decide +kernel) (by decide +kernel)
theorem m_100 : (Jvm.Cond.fieldLink "ConditionRows$Nodes" (21 : Nat) "ConditionRows$Nodes" "made" "I") ∈ zWords := zmem 100 (by decide +kernel) (by decide +kernel)
theorem m_268 : (Jvm.Cond.code ({ cls := "ConditionRows$Nodes", name := "has", desc := "(I)Z" } : Jvm.MethodName) prog_4_method_2_code (2 : Nat) (Option.some Jvm.ClassFile.FieldType.boolean)) ∈ zWords := zmem 268 (by decide +kernel) (by decide +kernel)
theorem m_265 : (Jvm.Cond.methodLink "ConditionRows" (151 : Nat) ({ cls := "ConditionRows$Nodes", name := "has", desc := "(I)Z" } : Jvm.MethodName)) ∈ zWords := zmem 265 (by decide +kernel) (by decide +kernel)
theorem m_266 : (Jvm.Cond.instanceMethod ({ cls := "ConditionRows$Nodes", name := "has", desc := "(I)Z" } : Jvm.MethodName)) ∈ zWords := zmem 266 (by decide +kernel) (by decide +kernel)
theorem m_267 : (Jvm.Cond.selects "ConditionRows$Nodes" ({ cls := "ConditionRows$Nodes", name := "has", desc := "(I)Z" } : Jvm.MethodName) ({ cls := "ConditionRows$Nodes", name := "has", desc := "(I)Z" } : Jvm.MethodName)) ∈ zWords := zmem 267 (by decide +kernel) (by decide +kernel)
theorem m_5 : (Jvm.Cond.initialized "ConditionRows$Nodes") ∈ zWords := zmem 5 (by decide +kernel) (by decide +kernel)
theorem m_260 : (Jvm.Cond.code ({ cls := "ConditionRows", name := "hasParts", desc := "(III)Z" } : Jvm.MethodName) prog_1_method_23_code (4 : Nat) (Option.some Jvm.ClassFile.FieldType.boolean)) ∈ zWords := zmem 260 (by decide +kernel) (by decide +kernel)
theorem m_257 : (Jvm.Cond.methodLink "ConditionRows" (100 : Nat) ({ cls := "ConditionRows", name := "hasParts", desc := "(III)Z" } : Jvm.MethodName)) ∈ zWords := zmem 257 (by decide +kernel) (by decide +kernel)
theorem m_259 : (Jvm.Cond.instanceMethod ({ cls := "ConditionRows", name := "hasParts", desc := "(III)Z" } : Jvm.MethodName)) ∈ zWords := zmem 259 (by decide +kernel) (by decide +kernel)
theorem mp_0 : (Jvm.Cond.selects "ConditionRows" ({ cls := "ConditionRows", name := "hasParts", desc := "(III)Z" } : Jvm.MethodName) ({ cls := "ConditionRows", name := "hasParts", desc := "(III)Z" } : Jvm.MethodName)) ∈ zWords := zmemP 0 (by decide +kernel) (by decide +kernel)
theorem m_94 : (Jvm.Cond.fieldLink "ConditionRows$Nodes" (9 : Nat) "ConditionRows$Nodes" "op" "[I") ∈ zWords := zmem 94 (by decide +kernel) (by decide +kernel)
theorem m_96 : (Jvm.Cond.fieldLink "ConditionRows$Nodes" (15 : Nat) "ConditionRows$Nodes" "a" "[I") ∈ zWords := zmem 96 (by decide +kernel) (by decide +kernel)
theorem m_98 : (Jvm.Cond.fieldLink "ConditionRows$Nodes" (18 : Nat) "ConditionRows$Nodes" "b" "[I") ∈ zWords := zmem 98 (by decide +kernel) (by decide +kernel)
theorem m_272 : (Jvm.Cond.code ({ cls := "ConditionRows$Nodes", name := "add", desc := "(III)I" } : Jvm.MethodName) prog_4_method_3_code (4 : Nat) (Option.some Jvm.ClassFile.FieldType.int)) ∈ zWords := zmem 272 (by decide +kernel) (by decide +kernel)
theorem m_269 : (Jvm.Cond.methodLink "ConditionRows" (103 : Nat) ({ cls := "ConditionRows$Nodes", name := "add", desc := "(III)I" } : Jvm.MethodName)) ∈ zWords := zmem 269 (by decide +kernel) (by decide +kernel)
theorem m_270 : (Jvm.Cond.instanceMethod ({ cls := "ConditionRows$Nodes", name := "add", desc := "(III)I" } : Jvm.MethodName)) ∈ zWords := zmem 270 (by decide +kernel) (by decide +kernel)
theorem m_271 : (Jvm.Cond.selects "ConditionRows$Nodes" ({ cls := "ConditionRows$Nodes", name := "add", desc := "(III)I" } : Jvm.MethodName) ({ cls := "ConditionRows$Nodes", name := "add", desc := "(III)I" } : Jvm.MethodName)) ∈ zWords := zmem 271 (by decide +kernel) (by decide +kernel)
theorem m_281 : (Jvm.Cond.methodLink "ConditionRows" (191 : Nat) ({ cls := "ConditionRows$Fields", name := "isText", desc := "(I)Z" } : Jvm.MethodName)) ∈ zWords := zmem 281 (by decide +kernel) (by decide +kernel)
theorem m_285 : (Jvm.Cond.constantLong "ConditionRows" (200 : Nat) (-9223372036854775808 : Int64)) ∈ zWords := zmem 285 (by decide +kernel) (by decide +kernel)
theorem m_284 : (Jvm.Cond.code ({ cls := "ConditionRows", name := "isBelowUnsigned", desc := "(JJ)Z" } : Jvm.MethodName) prog_1_method_25_code (4 : Nat) (Option.some Jvm.ClassFile.FieldType.boolean)) ∈ zWords := zmem 284 (by decide +kernel) (by decide +kernel)
theorem m_282 : (Jvm.Cond.methodLink "ConditionRows" (194 : Nat) ({ cls := "ConditionRows", name := "isBelowUnsigned", desc := "(JJ)Z" } : Jvm.MethodName)) ∈ zWords := zmem 282 (by decide +kernel) (by decide +kernel)
theorem m_283 : (Jvm.Cond.static ({ cls := "ConditionRows", name := "isBelowUnsigned", desc := "(JJ)Z" } : Jvm.MethodName)) ∈ zWords := zmem 283 (by decide +kernel) (by decide +kernel)
theorem m_280 : (Jvm.Cond.code ({ cls := "ConditionRows", name := "isAbove", desc := "(IJJ)Z" } : Jvm.MethodName) prog_1_method_24_code (6 : Nat) (Option.some Jvm.ClassFile.FieldType.boolean)) ∈ zWords := zmem 280 (by decide +kernel) (by decide +kernel)
theorem m_277 : (Jvm.Cond.methodLink "ConditionRows" (106 : Nat) ({ cls := "ConditionRows", name := "isAbove", desc := "(IJJ)Z" } : Jvm.MethodName)) ∈ zWords := zmem 277 (by decide +kernel) (by decide +kernel)
theorem m_279 : (Jvm.Cond.instanceMethod ({ cls := "ConditionRows", name := "isAbove", desc := "(IJJ)Z" } : Jvm.MethodName)) ∈ zWords := zmem 279 (by decide +kernel) (by decide +kernel)
theorem mp_1 : (Jvm.Cond.selects "ConditionRows" ({ cls := "ConditionRows", name := "isAbove", desc := "(IJJ)Z" } : Jvm.MethodName) ({ cls := "ConditionRows", name := "isAbove", desc := "(IJJ)Z" } : Jvm.MethodName)) ∈ zWords := zmemP 1 (by decide +kernel) (by decide +kernel)
theorem m_69 : (Jvm.Cond.fieldLink "ConditionRows$Names" (9 : Nat) "ConditionRows$Names" "field" "[I") ∈ zWords := zmem 69 (by decide +kernel) (by decide +kernel)
theorem m_71 : (Jvm.Cond.fieldLink "ConditionRows$Names" (15 : Nat) "ConditionRows$Names" "ranges" "[I") ∈ zWords := zmem 71 (by decide +kernel) (by decide +kernel)
theorem m_72 : (Jvm.Cond.fieldLink "ConditionRows$Names" (18 : Nat) "ConditionRows$Names" "low" "[J") ∈ zWords := zmem 72 (by decide +kernel) (by decide +kernel)
theorem m_73 : (Jvm.Cond.fieldLink "ConditionRows$Names" (22 : Nat) "ConditionRows$Names" "high" "[J") ∈ zWords := zmem 73 (by decide +kernel) (by decide +kernel)
theorem m_293 : (Jvm.Cond.code ({ cls := "ConditionRows$Names", name := "widen", desc := "(IJJ)I" } : Jvm.MethodName) prog_3_method_4_code (7 : Nat) (Option.some Jvm.ClassFile.FieldType.int)) ∈ zWords := zmem 293 (by decide +kernel) (by decide +kernel)
theorem m_290 : (Jvm.Cond.methodLink "ConditionRows$Names" (29 : Nat) ({ cls := "ConditionRows$Names", name := "widen", desc := "(IJJ)I" } : Jvm.MethodName)) ∈ zWords := zmem 290 (by decide +kernel) (by decide +kernel)
theorem m_291 : (Jvm.Cond.instanceMethod ({ cls := "ConditionRows$Names", name := "widen", desc := "(IJJ)I" } : Jvm.MethodName)) ∈ zWords := zmem 291 (by decide +kernel) (by decide +kernel)
theorem m_292 : (Jvm.Cond.selects "ConditionRows$Names" ({ cls := "ConditionRows$Names", name := "widen", desc := "(IJJ)I" } : Jvm.MethodName) ({ cls := "ConditionRows$Names", name := "widen", desc := "(IJJ)I" } : Jvm.MethodName)) ∈ zWords := zmem 292 (by decide +kernel) (by decide +kernel)
theorem m_289 : (Jvm.Cond.code ({ cls := "ConditionRows$Names", name := "add", desc := "(IJJ)I" } : Jvm.MethodName) prog_3_method_3_code (6 : Nat) (Option.some Jvm.ClassFile.FieldType.int)) ∈ zWords := zmem 289 (by decide +kernel) (by decide +kernel)
theorem m_286 : (Jvm.Cond.methodLink "ConditionRows" (110 : Nat) ({ cls := "ConditionRows$Names", name := "add", desc := "(IJJ)I" } : Jvm.MethodName)) ∈ zWords := zmem 286 (by decide +kernel) (by decide +kernel)
theorem m_287 : (Jvm.Cond.instanceMethod ({ cls := "ConditionRows$Names", name := "add", desc := "(IJJ)I" } : Jvm.MethodName)) ∈ zWords := zmem 287 (by decide +kernel) (by decide +kernel)
theorem m_288 : (Jvm.Cond.selects "ConditionRows$Names" ({ cls := "ConditionRows$Names", name := "add", desc := "(IJJ)I" } : Jvm.MethodName) ({ cls := "ConditionRows$Names", name := "add", desc := "(IJJ)I" } : Jvm.MethodName)) ∈ zWords := zmem 288 (by decide +kernel) (by decide +kernel)
theorem m_298 : (Jvm.Cond.methodLink "ConditionRows" (117 : Nat) ({ cls := "ConditionRows$Names", name := "widen", desc := "(IJJ)I" } : Jvm.MethodName)) ∈ zWords := zmem 298 (by decide +kernel) (by decide +kernel)
theorem m_305 : (Jvm.Cond.code ({ cls := "ConditionRows", name := "isRelation", desc := "(I)Z" } : Jvm.MethodName) prog_1_method_20_code (1 : Nat) (Option.some Jvm.ClassFile.FieldType.boolean)) ∈ zWords := zmem 305 (by decide +kernel) (by decide +kernel)
theorem m_303 : (Jvm.Cond.methodLink "ConditionRows" (120 : Nat) ({ cls := "ConditionRows", name := "isRelation", desc := "(I)Z" } : Jvm.MethodName)) ∈ zWords := zmem 303 (by decide +kernel) (by decide +kernel)
theorem m_304 : (Jvm.Cond.static ({ cls := "ConditionRows", name := "isRelation", desc := "(I)Z" } : Jvm.MethodName)) ∈ zWords := zmem 304 (by decide +kernel) (by decide +kernel)
theorem m_179 : (Jvm.Cond.fieldLink "ConditionRows" (40 : Nat) "ConditionRows" "row" "LConditionRows$Row;") ∈ zWords := zmem 179 (by decide +kernel) (by decide +kernel)
theorem m_129 : (Jvm.Cond.fieldLink "ConditionRows$Row" (25 : Nat) "ConditionRows$Row" "length" "I") ∈ zWords := zmem 129 (by decide +kernel) (by decide +kernel)
theorem m_125 : (Jvm.Cond.fieldLink "ConditionRows$Row" (29 : Nat) "ConditionRows$Row" "subject" "I") ∈ zWords := zmem 125 (by decide +kernel) (by decide +kernel)
theorem m_117 : (Jvm.Cond.fieldLink "ConditionRows$Row" (9 : Nat) "ConditionRows$Row" "with" "[I") ∈ zWords := zmem 117 (by decide +kernel) (by decide +kernel)
theorem m_119 : (Jvm.Cond.fieldLink "ConditionRows$Row" (15 : Nat) "ConditionRows$Row" "op" "[I") ∈ zWords := zmem 119 (by decide +kernel) (by decide +kernel)
theorem m_121 : (Jvm.Cond.fieldLink "ConditionRows$Row" (18 : Nat) "ConditionRows$Row" "negated" "[Z") ∈ zWords := zmem 121 (by decide +kernel) (by decide +kernel)
theorem m_123 : (Jvm.Cond.fieldLink "ConditionRows$Row" (22 : Nat) "ConditionRows$Row" "object" "[I") ∈ zWords := zmem 123 (by decide +kernel) (by decide +kernel)
theorem m_127 : (Jvm.Cond.fieldLink "ConditionRows$Row" (36 : Nat) "ConditionRows$Row" "carried" "I") ∈ zWords := zmem 127 (by decide +kernel) (by decide +kernel)
theorem m_313 : (Jvm.Cond.code ({ cls := "ConditionRows$Row", name := "append", desc := "(IIZI)V" } : Jvm.MethodName) prog_5_method_3_code (5 : Nat) (Option.none : Option Jvm.ClassFile.FieldType)) ∈ zWords := zmem 313 (by decide +kernel) (by decide +kernel)
theorem m_310 : (Jvm.Cond.methodLink "ConditionRows$Row" (32 : Nat) ({ cls := "ConditionRows$Row", name := "append", desc := "(IIZI)V" } : Jvm.MethodName)) ∈ zWords := zmem 310 (by decide +kernel) (by decide +kernel)
theorem m_311 : (Jvm.Cond.instanceMethod ({ cls := "ConditionRows$Row", name := "append", desc := "(IIZI)V" } : Jvm.MethodName)) ∈ zWords := zmem 311 (by decide +kernel) (by decide +kernel)
theorem m_312 : (Jvm.Cond.selects "ConditionRows$Row" ({ cls := "ConditionRows$Row", name := "append", desc := "(IIZI)V" } : Jvm.MethodName) ({ cls := "ConditionRows$Row", name := "append", desc := "(IIZI)V" } : Jvm.MethodName)) ∈ zWords := zmem 312 (by decide +kernel) (by decide +kernel)
theorem m_6 : (Jvm.Cond.initialized "ConditionRows$Row") ∈ zWords := zmem 6 (by decide +kernel) (by decide +kernel)
theorem m_309 : (Jvm.Cond.code ({ cls := "ConditionRows$Row", name := "begin", desc := "(III)V" } : Jvm.MethodName) prog_5_method_2_code (4 : Nat) (Option.none : Option Jvm.ClassFile.FieldType)) ∈ zWords := zmem 309 (by decide +kernel) (by decide +kernel)
theorem m_306 : (Jvm.Cond.methodLink "ConditionRows" (123 : Nat) ({ cls := "ConditionRows$Row", name := "begin", desc := "(III)V" } : Jvm.MethodName)) ∈ zWords := zmem 306 (by decide +kernel) (by decide +kernel)
theorem m_307 : (Jvm.Cond.instanceMethod ({ cls := "ConditionRows$Row", name := "begin", desc := "(III)V" } : Jvm.MethodName)) ∈ zWords := zmem 307 (by decide +kernel) (by decide +kernel)
theorem m_308 : (Jvm.Cond.selects "ConditionRows$Row" ({ cls := "ConditionRows$Row", name := "begin", desc := "(III)V" } : Jvm.MethodName) ({ cls := "ConditionRows$Row", name := "begin", desc := "(III)V" } : Jvm.MethodName)) ∈ zWords := zmem 308 (by decide +kernel) (by decide +kernel)
theorem m_318 : (Jvm.Cond.methodLink "ConditionRows" (134 : Nat) ({ cls := "ConditionRows$Row", name := "append", desc := "(IIZI)V" } : Jvm.MethodName)) ∈ zWords := zmem 318 (by decide +kernel) (by decide +kernel)
theorem m_321 : (Jvm.Cond.code ({ cls := "ConditionRows", name := "turned", desc := "(I)I" } : Jvm.MethodName) prog_1_method_21_code (1 : Nat) (Option.some Jvm.ClassFile.FieldType.int)) ∈ zWords := zmem 321 (by decide +kernel) (by decide +kernel)
theorem m_319 : (Jvm.Cond.methodLink "ConditionRows" (138 : Nat) ({ cls := "ConditionRows", name := "turned", desc := "(I)I" } : Jvm.MethodName)) ∈ zWords := zmem 319 (by decide +kernel) (by decide +kernel)
theorem m_320 : (Jvm.Cond.static ({ cls := "ConditionRows", name := "turned", desc := "(I)I" } : Jvm.MethodName)) ∈ zWords := zmem 320 (by decide +kernel) (by decide +kernel)
theorem m_329 : (Jvm.Cond.code ({ cls := "ConditionRows$Row", name := "nodesNeeded", desc := "()I" } : Jvm.MethodName) prog_5_method_4_code (3 : Nat) (Option.some Jvm.ClassFile.FieldType.int)) ∈ zWords := zmem 329 (by decide +kernel) (by decide +kernel)
theorem m_326 : (Jvm.Cond.methodLink "ConditionRows" (141 : Nat) ({ cls := "ConditionRows$Row", name := "nodesNeeded", desc := "()I" } : Jvm.MethodName)) ∈ zWords := zmem 326 (by decide +kernel) (by decide +kernel)
theorem m_327 : (Jvm.Cond.instanceMethod ({ cls := "ConditionRows$Row", name := "nodesNeeded", desc := "()I" } : Jvm.MethodName)) ∈ zWords := zmem 327 (by decide +kernel) (by decide +kernel)
theorem m_328 : (Jvm.Cond.selects "ConditionRows$Row" ({ cls := "ConditionRows$Row", name := "nodesNeeded", desc := "()I" } : Jvm.MethodName) ({ cls := "ConditionRows$Row", name := "nodesNeeded", desc := "()I" } : Jvm.MethodName)) ∈ zWords := zmem 328 (by decide +kernel) (by decide +kernel)
theorem m_337 : (Jvm.Cond.code ({ cls := "ConditionRows", name := "joined", desc := "(III)I" } : Jvm.MethodName) prog_1_method_29_code (4 : Nat) (Option.some Jvm.ClassFile.FieldType.int)) ∈ zWords := zmem 337 (by decide +kernel) (by decide +kernel)
theorem m_334 : (Jvm.Cond.methodLink "ConditionRows" (205 : Nat) ({ cls := "ConditionRows", name := "joined", desc := "(III)I" } : Jvm.MethodName)) ∈ zWords := zmem 334 (by decide +kernel) (by decide +kernel)
theorem m_336 : (Jvm.Cond.instanceMethod ({ cls := "ConditionRows", name := "joined", desc := "(III)I" } : Jvm.MethodName)) ∈ zWords := zmem 336 (by decide +kernel) (by decide +kernel)
theorem mp_3 : (Jvm.Cond.selects "ConditionRows" ({ cls := "ConditionRows", name := "joined", desc := "(III)I" } : Jvm.MethodName) ({ cls := "ConditionRows", name := "joined", desc := "(III)I" } : Jvm.MethodName)) ∈ zWords := zmemP 3 (by decide +kernel) (by decide +kernel)
theorem m_341 : (Jvm.Cond.code ({ cls := "ConditionRows", name := "relationNode", desc := "(I)I" } : Jvm.MethodName) prog_1_method_28_code (3 : Nat) (Option.some Jvm.ClassFile.FieldType.int)) ∈ zWords := zmem 341 (by decide +kernel) (by decide +kernel)
theorem m_338 : (Jvm.Cond.methodLink "ConditionRows" (208 : Nat) ({ cls := "ConditionRows", name := "relationNode", desc := "(I)I" } : Jvm.MethodName)) ∈ zWords := zmem 338 (by decide +kernel) (by decide +kernel)
theorem m_340 : (Jvm.Cond.instanceMethod ({ cls := "ConditionRows", name := "relationNode", desc := "(I)I" } : Jvm.MethodName)) ∈ zWords := zmem 340 (by decide +kernel) (by decide +kernel)
theorem mp_4 : (Jvm.Cond.selects "ConditionRows" ({ cls := "ConditionRows", name := "relationNode", desc := "(I)I" } : Jvm.MethodName) ({ cls := "ConditionRows", name := "relationNode", desc := "(I)I" } : Jvm.MethodName)) ∈ zWords := zmemP 4 (by decide +kernel) (by decide +kernel)
theorem m_333 : (Jvm.Cond.code ({ cls := "ConditionRows", name := "unfoldRow", desc := "()I" } : Jvm.MethodName) prog_1_method_27_code (4 : Nat) (Option.some Jvm.ClassFile.FieldType.int)) ∈ zWords := zmem 333 (by decide +kernel) (by decide +kernel)
theorem m_330 : (Jvm.Cond.methodLink "ConditionRows" (148 : Nat) ({ cls := "ConditionRows", name := "unfoldRow", desc := "()I" } : Jvm.MethodName)) ∈ zWords := zmem 330 (by decide +kernel) (by decide +kernel)
theorem m_332 : (Jvm.Cond.instanceMethod ({ cls := "ConditionRows", name := "unfoldRow", desc := "()I" } : Jvm.MethodName)) ∈ zWords := zmem 332 (by decide +kernel) (by decide +kernel)
theorem mp_2 : (Jvm.Cond.selects "ConditionRows" ({ cls := "ConditionRows", name := "unfoldRow", desc := "()I" } : Jvm.MethodName) ({ cls := "ConditionRows", name := "unfoldRow", desc := "()I" } : Jvm.MethodName)) ∈ zWords := zmemP 2 (by decide +kernel) (by decide +kernel)
theorem m_180 : (Jvm.Cond.fieldLink "ConditionRows" (47 : Nat) "ConditionRows" "testing" "LConditionRows$Testing;") ∈ zWords := zmem 180 (by decide +kernel) (by decide +kernel)
theorem m_159 : (Jvm.Cond.fieldLink "ConditionRows$Testing" (21 : Nat) "ConditionRows$Testing" "noted" "I") ∈ zWords := zmem 159 (by decide +kernel) (by decide +kernel)
theorem m_161 : (Jvm.Cond.fieldLink "ConditionRows$Testing" (25 : Nat) "ConditionRows$Testing" "depth" "I") ∈ zWords := zmem 161 (by decide +kernel) (by decide +kernel)
theorem m_153 : (Jvm.Cond.fieldLink "ConditionRows$Testing" (9 : Nat) "ConditionRows$Testing" "outcome" "[I") ∈ zWords := zmem 153 (by decide +kernel) (by decide +kernel)
theorem m_444 : (Jvm.Cond.code ({ cls := "ConditionRows$Testing", name := "begin", desc := "()V" } : Jvm.MethodName) prog_6_method_2_code (2 : Nat) (Option.none : Option Jvm.ClassFile.FieldType)) ∈ zWords := zmem 444 (by decide +kernel) (by decide +kernel)
theorem m_441 : (Jvm.Cond.methodLink "ConditionRows" (223 : Nat) ({ cls := "ConditionRows$Testing", name := "begin", desc := "()V" } : Jvm.MethodName)) ∈ zWords := zmem 441 (by decide +kernel) (by decide +kernel)
theorem m_442 : (Jvm.Cond.instanceMethod ({ cls := "ConditionRows$Testing", name := "begin", desc := "()V" } : Jvm.MethodName)) ∈ zWords := zmem 442 (by decide +kernel) (by decide +kernel)
theorem m_443 : (Jvm.Cond.selects "ConditionRows$Testing" ({ cls := "ConditionRows$Testing", name := "begin", desc := "()V" } : Jvm.MethodName) ({ cls := "ConditionRows$Testing", name := "begin", desc := "()V" } : Jvm.MethodName)) ∈ zWords := zmem 443 (by decide +kernel) (by decide +kernel)
theorem m_7 : (Jvm.Cond.initialized "ConditionRows$Testing") ∈ zWords := zmem 7 (by decide +kernel) (by decide +kernel)
theorem m_157 : (Jvm.Cond.fieldLink "ConditionRows$Testing" (18 : Nat) "ConditionRows$Testing" "waiting" "[I") ∈ zWords := zmem 157 (by decide +kernel) (by decide +kernel)
theorem m_448 : (Jvm.Cond.code ({ cls := "ConditionRows$Testing", name := "open", desc := "(I)V" } : Jvm.MethodName) prog_6_method_3_code (2 : Nat) (Option.none : Option Jvm.ClassFile.FieldType)) ∈ zWords := zmem 448 (by decide +kernel) (by decide +kernel)
theorem m_445 : (Jvm.Cond.methodLink "ConditionRows" (225 : Nat) ({ cls := "ConditionRows$Testing", name := "open", desc := "(I)V" } : Jvm.MethodName)) ∈ zWords := zmem 445 (by decide +kernel) (by decide +kernel)
theorem m_446 : (Jvm.Cond.instanceMethod ({ cls := "ConditionRows$Testing", name := "open", desc := "(I)V" } : Jvm.MethodName)) ∈ zWords := zmem 446 (by decide +kernel) (by decide +kernel)
theorem m_447 : (Jvm.Cond.selects "ConditionRows$Testing" ({ cls := "ConditionRows$Testing", name := "open", desc := "(I)V" } : Jvm.MethodName) ({ cls := "ConditionRows$Testing", name := "open", desc := "(I)V" } : Jvm.MethodName)) ∈ zWords := zmem 447 (by decide +kernel) (by decide +kernel)
theorem m_174 : (Jvm.Cond.fieldLink "ConditionRows" (62 : Nat) "ConditionRows" "whole" "Z") ∈ zWords := zmem 174 (by decide +kernel) (by decide +kernel)
theorem m_455 : (Jvm.Cond.code ({ cls := "ConditionRows", name := "settledBy", desc := "(I)I" } : Jvm.MethodName) prog_1_method_32_code (1 : Nat) (Option.some Jvm.ClassFile.FieldType.int)) ∈ zWords := zmem 455 (by decide +kernel) (by decide +kernel)
theorem m_453 : (Jvm.Cond.methodLink "ConditionRows" (257 : Nat) ({ cls := "ConditionRows", name := "settledBy", desc := "(I)I" } : Jvm.MethodName)) ∈ zWords := zmem 453 (by decide +kernel) (by decide +kernel)
theorem m_454 : (Jvm.Cond.static ({ cls := "ConditionRows", name := "settledBy", desc := "(I)I" } : Jvm.MethodName)) ∈ zWords := zmem 454 (by decide +kernel) (by decide +kernel)
theorem m_452 : (Jvm.Cond.code ({ cls := "ConditionRows", name := "partToTest", desc := "(I)I" } : Jvm.MethodName) prog_1_method_31_code (4 : Nat) (Option.some Jvm.ClassFile.FieldType.int)) ∈ zWords := zmem 452 (by decide +kernel) (by decide +kernel)
theorem m_449 : (Jvm.Cond.methodLink "ConditionRows" (235 : Nat) ({ cls := "ConditionRows", name := "partToTest", desc := "(I)I" } : Jvm.MethodName)) ∈ zWords := zmem 449 (by decide +kernel) (by decide +kernel)
theorem m_451 : (Jvm.Cond.instanceMethod ({ cls := "ConditionRows", name := "partToTest", desc := "(I)I" } : Jvm.MethodName)) ∈ zWords := zmem 451 (by decide +kernel) (by decide +kernel)
theorem mp_8 : (Jvm.Cond.selects "ConditionRows" ({ cls := "ConditionRows", name := "partToTest", desc := "(I)I" } : Jvm.MethodName) ({ cls := "ConditionRows", name := "partToTest", desc := "(I)I" } : Jvm.MethodName)) ∈ zWords := zmemP 8 (by decide +kernel) (by decide +kernel)
theorem m_480 : (Jvm.Cond.code ({ cls := "ConditionRows", name := "asOutcome", desc := "(Z)I" } : Jvm.MethodName) prog_1_method_35_code (1 : Nat) (Option.some Jvm.ClassFile.FieldType.int)) ∈ zWords := zmem 480 (by decide +kernel) (by decide +kernel)
theorem m_478 : (Jvm.Cond.methodLink "ConditionRows" (260 : Nat) ({ cls := "ConditionRows", name := "asOutcome", desc := "(Z)I" } : Jvm.MethodName)) ∈ zWords := zmem 478 (by decide +kernel) (by decide +kernel)
theorem m_479 : (Jvm.Cond.static ({ cls := "ConditionRows", name := "asOutcome", desc := "(Z)I" } : Jvm.MethodName)) ∈ zWords := zmem 479 (by decide +kernel) (by decide +kernel)
theorem m_561 : (Jvm.Cond.code ({ cls := "ConditionRows", name := "joinedOutcome", desc := "(I)I" } : Jvm.MethodName) prog_1_method_33_code (4 : Nat) (Option.some Jvm.ClassFile.FieldType.int)) ∈ zWords := zmem 561 (by decide +kernel) (by decide +kernel)
theorem m_558 : (Jvm.Cond.methodLink "ConditionRows" (242 : Nat) ({ cls := "ConditionRows", name := "joinedOutcome", desc := "(I)I" } : Jvm.MethodName)) ∈ zWords := zmem 558 (by decide +kernel) (by decide +kernel)
theorem m_560 : (Jvm.Cond.instanceMethod ({ cls := "ConditionRows", name := "joinedOutcome", desc := "(I)I" } : Jvm.MethodName)) ∈ zWords := zmem 560 (by decide +kernel) (by decide +kernel)
theorem mp_16 : (Jvm.Cond.selects "ConditionRows" ({ cls := "ConditionRows", name := "joinedOutcome", desc := "(I)I" } : Jvm.MethodName) ({ cls := "ConditionRows", name := "joinedOutcome", desc := "(I)I" } : Jvm.MethodName)) ∈ zWords := zmemP 16 (by decide +kernel) (by decide +kernel)
theorem m_565 : (Jvm.Cond.code ({ cls := "ConditionRows$Testing", name := "close", desc := "(I)V" } : Jvm.MethodName) prog_6_method_4_code (2 : Nat) (Option.none : Option Jvm.ClassFile.FieldType)) ∈ zWords := zmem 565 (by decide +kernel) (by decide +kernel)
theorem m_562 : (Jvm.Cond.methodLink "ConditionRows" (245 : Nat) ({ cls := "ConditionRows$Testing", name := "close", desc := "(I)V" } : Jvm.MethodName)) ∈ zWords := zmem 562 (by decide +kernel) (by decide +kernel)
theorem m_563 : (Jvm.Cond.instanceMethod ({ cls := "ConditionRows$Testing", name := "close", desc := "(I)V" } : Jvm.MethodName)) ∈ zWords := zmem 563 (by decide +kernel) (by decide +kernel)
theorem m_564 : (Jvm.Cond.selects "ConditionRows$Testing" ({ cls := "ConditionRows$Testing", name := "close", desc := "(I)V" } : Jvm.MethodName) ({ cls := "ConditionRows$Testing", name := "close", desc := "(I)V" } : Jvm.MethodName)) ∈ zWords := zmem 564 (by decide +kernel) (by decide +kernel)
theorem m_155 : (Jvm.Cond.fieldLink "ConditionRows$Testing" (15 : Nat) "ConditionRows$Testing" "leaves" "[I") ∈ zWords := zmem 155 (by decide +kernel) (by decide +kernel)
theorem m_463 : (Jvm.Cond.code ({ cls := "ConditionRows$Testing", name := "note", desc := "(I)V" } : Jvm.MethodName) prog_6_method_5_code (2 : Nat) (Option.none : Option Jvm.ClassFile.FieldType)) ∈ zWords := zmem 463 (by decide +kernel) (by decide +kernel)
theorem m_460 : (Jvm.Cond.methodLink "ConditionRows" (264 : Nat) ({ cls := "ConditionRows$Testing", name := "note", desc := "(I)V" } : Jvm.MethodName)) ∈ zWords := zmem 460 (by decide +kernel) (by decide +kernel)
theorem m_461 : (Jvm.Cond.instanceMethod ({ cls := "ConditionRows$Testing", name := "note", desc := "(I)V" } : Jvm.MethodName)) ∈ zWords := zmem 461 (by decide +kernel) (by decide +kernel)
theorem m_462 : (Jvm.Cond.selects "ConditionRows$Testing" ({ cls := "ConditionRows$Testing", name := "note", desc := "(I)V" } : Jvm.MethodName) ({ cls := "ConditionRows$Testing", name := "note", desc := "(I)V" } : Jvm.MethodName)) ∈ zWords := zmem 462 (by decide +kernel) (by decide +kernel)
theorem m_474 : (Jvm.Cond.code ({ cls := "ConditionRows$Fields", name := "isDigit", desc := "(I)Z" } : Jvm.MethodName) prog_2_method_7_code (1 : Nat) (Option.some Jvm.ClassFile.FieldType.boolean)) ∈ zWords := zmem 474 (by decide +kernel) (by decide +kernel)
theorem m_472 : (Jvm.Cond.methodLink "ConditionRows$Fields" (39 : Nat) ({ cls := "ConditionRows$Fields", name := "isDigit", desc := "(I)Z" } : Jvm.MethodName)) ∈ zWords := zmem 472 (by decide +kernel) (by decide +kernel)
theorem m_473 : (Jvm.Cond.static ({ cls := "ConditionRows$Fields", name := "isDigit", desc := "(I)Z" } : Jvm.MethodName)) ∈ zWords := zmem 473 (by decide +kernel) (by decide +kernel)
theorem m_471 : (Jvm.Cond.code ({ cls := "ConditionRows$Fields", name := "isBad", desc := "(I)Z" } : Jvm.MethodName) prog_2_method_8_code (4 : Nat) (Option.some Jvm.ClassFile.FieldType.boolean)) ∈ zWords := zmem 471 (by decide +kernel) (by decide +kernel)
theorem m_468 : (Jvm.Cond.methodLink "ConditionRows$Fields" (42 : Nat) ({ cls := "ConditionRows$Fields", name := "isBad", desc := "(I)Z" } : Jvm.MethodName)) ∈ zWords := zmem 468 (by decide +kernel) (by decide +kernel)
theorem m_469 : (Jvm.Cond.instanceMethod ({ cls := "ConditionRows$Fields", name := "isBad", desc := "(I)Z" } : Jvm.MethodName)) ∈ zWords := zmem 469 (by decide +kernel) (by decide +kernel)
theorem m_470 : (Jvm.Cond.selects "ConditionRows$Fields" ({ cls := "ConditionRows$Fields", name := "isBad", desc := "(I)Z" } : Jvm.MethodName) ({ cls := "ConditionRows$Fields", name := "isBad", desc := "(I)Z" } : Jvm.MethodName)) ∈ zWords := zmem 470 (by decide +kernel) (by decide +kernel)
theorem m_477 : (Jvm.Cond.code ({ cls := "ConditionRows$Fields", name := "fits", desc := "(II)Z" } : Jvm.MethodName) prog_2_method_10_code (4 : Nat) (Option.some Jvm.ClassFile.FieldType.boolean)) ∈ zWords := zmem 477 (by decide +kernel) (by decide +kernel)
theorem m_475 : (Jvm.Cond.methodLink "ConditionRows$Fields" (45 : Nat) ({ cls := "ConditionRows$Fields", name := "fits", desc := "(II)Z" } : Jvm.MethodName)) ∈ zWords := zmem 475 (by decide +kernel) (by decide +kernel)
theorem m_476 : (Jvm.Cond.static ({ cls := "ConditionRows$Fields", name := "fits", desc := "(II)Z" } : Jvm.MethodName)) ∈ zWords := zmem 476 (by decide +kernel) (by decide +kernel)
theorem m_467 : (Jvm.Cond.code ({ cls := "ConditionRows$Fields", name := "isOfClass", desc := "(II)Z" } : Jvm.MethodName) prog_2_method_9_code (5 : Nat) (Option.some Jvm.ClassFile.FieldType.boolean)) ∈ zWords := zmem 467 (by decide +kernel) (by decide +kernel)
theorem m_464 : (Jvm.Cond.methodLink "ConditionRows" (267 : Nat) ({ cls := "ConditionRows$Fields", name := "isOfClass", desc := "(II)Z" } : Jvm.MethodName)) ∈ zWords := zmem 464 (by decide +kernel) (by decide +kernel)
theorem m_465 : (Jvm.Cond.instanceMethod ({ cls := "ConditionRows$Fields", name := "isOfClass", desc := "(II)Z" } : Jvm.MethodName)) ∈ zWords := zmem 465 (by decide +kernel) (by decide +kernel)
theorem m_466 : (Jvm.Cond.selects "ConditionRows$Fields" ({ cls := "ConditionRows$Fields", name := "isOfClass", desc := "(II)Z" } : Jvm.MethodName) ({ cls := "ConditionRows$Fields", name := "isOfClass", desc := "(II)Z" } : Jvm.MethodName)) ∈ zWords := zmem 466 (by decide +kernel) (by decide +kernel)
theorem m_481 : (Jvm.Cond.methodLink "ConditionRows" (178 : Nat) ({ cls := "ConditionRows$Fields", name := "isBad", desc := "(I)Z" } : Jvm.MethodName)) ∈ zWords := zmem 481 (by decide +kernel) (by decide +kernel)
theorem m_495 : (Jvm.Cond.constantLong "ConditionRows$Fields" (58 : Nat) (-1 : Int64)) ∈ zWords := zmem 495 (by decide +kernel) (by decide +kernel)
theorem m_494 : (Jvm.Cond.code ({ cls := "ConditionRows$Fields", name := "binaryValue", desc := "(I)J" } : Jvm.MethodName) prog_2_method_13_code (6 : Nat) (Option.some Jvm.ClassFile.FieldType.long)) ∈ zWords := zmem 494 (by decide +kernel) (by decide +kernel)
theorem m_491 : (Jvm.Cond.methodLink "ConditionRows$Fields" (53 : Nat) ({ cls := "ConditionRows$Fields", name := "binaryValue", desc := "(I)J" } : Jvm.MethodName)) ∈ zWords := zmem 491 (by decide +kernel) (by decide +kernel)
theorem m_493 : (Jvm.Cond.instanceMethod ({ cls := "ConditionRows$Fields", name := "binaryValue", desc := "(I)J" } : Jvm.MethodName)) ∈ zWords := zmem 493 (by decide +kernel) (by decide +kernel)
theorem mp_11 : (Jvm.Cond.selects "ConditionRows$Fields" ({ cls := "ConditionRows$Fields", name := "binaryValue", desc := "(I)J" } : Jvm.MethodName) ({ cls := "ConditionRows$Fields", name := "binaryValue", desc := "(I)J" } : Jvm.MethodName)) ∈ zWords := zmemP 11 (by decide +kernel) (by decide +kernel)
theorem m_490 : (Jvm.Cond.constantLong "ConditionRows$Fields" (56 : Nat) (10 : Int64)) ∈ zWords := zmem 490 (by decide +kernel) (by decide +kernel)
theorem m_489 : (Jvm.Cond.code ({ cls := "ConditionRows$Fields", name := "digitsValue", desc := "(I)J" } : Jvm.MethodName) prog_2_method_12_code (6 : Nat) (Option.some Jvm.ClassFile.FieldType.long)) ∈ zWords := zmem 489 (by decide +kernel) (by decide +kernel)
theorem m_486 : (Jvm.Cond.methodLink "ConditionRows$Fields" (49 : Nat) ({ cls := "ConditionRows$Fields", name := "digitsValue", desc := "(I)J" } : Jvm.MethodName)) ∈ zWords := zmem 486 (by decide +kernel) (by decide +kernel)
theorem m_488 : (Jvm.Cond.instanceMethod ({ cls := "ConditionRows$Fields", name := "digitsValue", desc := "(I)J" } : Jvm.MethodName)) ∈ zWords := zmem 488 (by decide +kernel) (by decide +kernel)
theorem mp_10 : (Jvm.Cond.selects "ConditionRows$Fields" ({ cls := "ConditionRows$Fields", name := "digitsValue", desc := "(I)J" } : Jvm.MethodName) ({ cls := "ConditionRows$Fields", name := "digitsValue", desc := "(I)J" } : Jvm.MethodName)) ∈ zWords := zmemP 10 (by decide +kernel) (by decide +kernel)
theorem m_485 : (Jvm.Cond.code ({ cls := "ConditionRows$Fields", name := "value", desc := "(I)J" } : Jvm.MethodName) prog_2_method_11_code (2 : Nat) (Option.some Jvm.ClassFile.FieldType.long)) ∈ zWords := zmem 485 (by decide +kernel) (by decide +kernel)
theorem m_482 : (Jvm.Cond.methodLink "ConditionRows" (271 : Nat) ({ cls := "ConditionRows$Fields", name := "value", desc := "(I)J" } : Jvm.MethodName)) ∈ zWords := zmem 482 (by decide +kernel) (by decide +kernel)
theorem m_483 : (Jvm.Cond.instanceMethod ({ cls := "ConditionRows$Fields", name := "value", desc := "(I)J" } : Jvm.MethodName)) ∈ zWords := zmem 483 (by decide +kernel) (by decide +kernel)
theorem m_484 : (Jvm.Cond.selects "ConditionRows$Fields" ({ cls := "ConditionRows$Fields", name := "value", desc := "(I)J" } : Jvm.MethodName) ({ cls := "ConditionRows$Fields", name := "value", desc := "(I)J" } : Jvm.MethodName)) ∈ zWords := zmem 484 (by decide +kernel) (by decide +kernel)
theorem m_498 : (Jvm.Cond.code ({ cls := "java/lang/Long", name := "compare", desc := "(JJ)I" } : Jvm.MethodName) prog_14_method_42_code (4 : Nat) (Option.some Jvm.ClassFile.FieldType.int)) ∈ zWords := zmem 498 (by decide +kernel) (by decide +kernel)
theorem m_496 : (Jvm.Cond.methodLink "ConditionRows" (275 : Nat) ({ cls := "java/lang/Long", name := "compare", desc := "(JJ)I" } : Jvm.MethodName)) ∈ zWords := zmem 496 (by decide +kernel) (by decide +kernel)
theorem m_497 : (Jvm.Cond.static ({ cls := "java/lang/Long", name := "compare", desc := "(JJ)I" } : Jvm.MethodName)) ∈ zWords := zmem 497 (by decide +kernel) (by decide +kernel)
theorem m_13 : (Jvm.Cond.initialized "java/lang/Long") ∈ zWords := zmem 13 (by decide +kernel) (by decide +kernel)
theorem m_515 : (Jvm.Cond.code ({ cls := "ConditionRows$Names", name := "hasSigned", desc := "(IJ)Z" } : Jvm.MethodName) prog_3_method_5_code (6 : Nat) (Option.some Jvm.ClassFile.FieldType.boolean)) ∈ zWords := zmem 515 (by decide +kernel) (by decide +kernel)
theorem m_512 : (Jvm.Cond.methodLink "ConditionRows" (292 : Nat) ({ cls := "ConditionRows$Names", name := "hasSigned", desc := "(IJ)Z" } : Jvm.MethodName)) ∈ zWords := zmem 512 (by decide +kernel) (by decide +kernel)
theorem m_513 : (Jvm.Cond.instanceMethod ({ cls := "ConditionRows$Names", name := "hasSigned", desc := "(IJ)Z" } : Jvm.MethodName)) ∈ zWords := zmem 513 (by decide +kernel) (by decide +kernel)
theorem m_514 : (Jvm.Cond.selects "ConditionRows$Names" ({ cls := "ConditionRows$Names", name := "hasSigned", desc := "(IJ)Z" } : Jvm.MethodName) ({ cls := "ConditionRows$Names", name := "hasSigned", desc := "(IJ)Z" } : Jvm.MethodName)) ∈ zWords := zmem 514 (by decide +kernel) (by decide +kernel)
theorem m_506 : (Jvm.Cond.code ({ cls := "ConditionRows$Fields", name := "firstBytes", desc := "(I)J" } : Jvm.MethodName) prog_2_method_14_code (6 : Nat) (Option.some Jvm.ClassFile.FieldType.long)) ∈ zWords := zmem 506 (by decide +kernel) (by decide +kernel)
theorem m_503 : (Jvm.Cond.methodLink "ConditionRows" (285 : Nat) ({ cls := "ConditionRows$Fields", name := "firstBytes", desc := "(I)J" } : Jvm.MethodName)) ∈ zWords := zmem 503 (by decide +kernel) (by decide +kernel)
theorem m_504 : (Jvm.Cond.instanceMethod ({ cls := "ConditionRows$Fields", name := "firstBytes", desc := "(I)J" } : Jvm.MethodName)) ∈ zWords := zmem 504 (by decide +kernel) (by decide +kernel)
theorem m_505 : (Jvm.Cond.selects "ConditionRows$Fields" ({ cls := "ConditionRows$Fields", name := "firstBytes", desc := "(I)J" } : Jvm.MethodName) ({ cls := "ConditionRows$Fields", name := "firstBytes", desc := "(I)J" } : Jvm.MethodName)) ∈ zWords := zmem 505 (by decide +kernel) (by decide +kernel)
theorem m_510 : (Jvm.Cond.code ({ cls := "ConditionRows$Names", name := "hasUnsigned", desc := "(IJ)Z" } : Jvm.MethodName) prog_3_method_6_code (6 : Nat) (Option.some Jvm.ClassFile.FieldType.boolean)) ∈ zWords := zmem 510 (by decide +kernel) (by decide +kernel)
theorem m_507 : (Jvm.Cond.methodLink "ConditionRows" (288 : Nat) ({ cls := "ConditionRows$Names", name := "hasUnsigned", desc := "(IJ)Z" } : Jvm.MethodName)) ∈ zWords := zmem 507 (by decide +kernel) (by decide +kernel)
theorem m_508 : (Jvm.Cond.instanceMethod ({ cls := "ConditionRows$Names", name := "hasUnsigned", desc := "(IJ)Z" } : Jvm.MethodName)) ∈ zWords := zmem 508 (by decide +kernel) (by decide +kernel)
theorem m_509 : (Jvm.Cond.selects "ConditionRows$Names" ({ cls := "ConditionRows$Names", name := "hasUnsigned", desc := "(IJ)Z" } : Jvm.MethodName) ({ cls := "ConditionRows$Names", name := "hasUnsigned", desc := "(IJ)Z" } : Jvm.MethodName)) ∈ zWords := zmem 509 (by decide +kernel) (by decide +kernel)
theorem m_502 : (Jvm.Cond.code ({ cls := "ConditionRows", name := "holds", desc := "(I)Z" } : Jvm.MethodName) prog_1_method_37_code (3 : Nat) (Option.some Jvm.ClassFile.FieldType.boolean)) ∈ zWords := zmem 502 (by decide +kernel) (by decide +kernel)
theorem m_499 : (Jvm.Cond.methodLink "ConditionRows" (279 : Nat) ({ cls := "ConditionRows", name := "holds", desc := "(I)Z" } : Jvm.MethodName)) ∈ zWords := zmem 499 (by decide +kernel) (by decide +kernel)
theorem m_501 : (Jvm.Cond.instanceMethod ({ cls := "ConditionRows", name := "holds", desc := "(I)Z" } : Jvm.MethodName)) ∈ zWords := zmem 501 (by decide +kernel) (by decide +kernel)
theorem mp_12 : (Jvm.Cond.selects "ConditionRows" ({ cls := "ConditionRows", name := "holds", desc := "(I)Z" } : Jvm.MethodName) ({ cls := "ConditionRows", name := "holds", desc := "(I)Z" } : Jvm.MethodName)) ∈ zWords := zmemP 12 (by decide +kernel) (by decide +kernel)
theorem m_181 : (Jvm.Cond.fieldLink "ConditionRows" (51 : Nat) "ConditionRows" "switches" "[Z") ∈ zWords := zmem 181 (by decide +kernel) (by decide +kernel)
theorem m_34 : (Jvm.Cond.fieldLink "ConditionRows$Fields" (18 : Nat) "ConditionRows$Fields" "scale" "[I") ∈ zWords := zmem 34 (by decide +kernel) (by decide +kernel)
theorem m_528 : (Jvm.Cond.methodLink "ConditionRows$Fields" (60 : Nat) ({ cls := "ConditionRows$Fields", name := "value", desc := "(I)J" } : Jvm.MethodName)) ∈ zWords := zmem 528 (by decide +kernel) (by decide +kernel)
theorem m_536 : (Jvm.Cond.code ({ cls := "java/lang/Math", name := "floorDiv", desc := "(JJ)J" } : Jvm.MethodName) prog_15_method_49_code (6 : Nat) (Option.some Jvm.ClassFile.FieldType.long)) ∈ zWords := zmem 536 (by decide +kernel) (by decide +kernel)
theorem m_534 : (Jvm.Cond.methodLink "ConditionRows$Fields" (71 : Nat) ({ cls := "java/lang/Math", name := "floorDiv", desc := "(JJ)J" } : Jvm.MethodName)) ∈ zWords := zmem 534 (by decide +kernel) (by decide +kernel)
theorem m_535 : (Jvm.Cond.static ({ cls := "java/lang/Math", name := "floorDiv", desc := "(JJ)J" } : Jvm.MethodName)) ∈ zWords := zmem 535 (by decide +kernel) (by decide +kernel)
theorem m_14 : (Jvm.Cond.initialized "java/lang/Math") ∈ zWords := zmem 14 (by decide +kernel) (by decide +kernel)
theorem m_539 : (Jvm.Cond.code ({ cls := "java/lang/Math", name := "floorMod", desc := "(JJ)J" } : Jvm.MethodName) prog_15_method_52_code (6 : Nat) (Option.some Jvm.ClassFile.FieldType.long)) ∈ zWords := zmem 539 (by decide +kernel) (by decide +kernel)
theorem m_537 : (Jvm.Cond.methodLink "ConditionRows$Fields" (77 : Nat) ({ cls := "java/lang/Math", name := "floorMod", desc := "(JJ)J" } : Jvm.MethodName)) ∈ zWords := zmem 537 (by decide +kernel) (by decide +kernel)
theorem m_538 : (Jvm.Cond.static ({ cls := "java/lang/Math", name := "floorMod", desc := "(JJ)J" } : Jvm.MethodName)) ∈ zWords := zmem 538 (by decide +kernel) (by decide +kernel)
theorem m_531 : (Jvm.Cond.code ({ cls := "ConditionRows$Fields", name := "compareScaled", desc := "(JJI)I" } : Jvm.MethodName) prog_2_method_16_code (9 : Nat) (Option.some Jvm.ClassFile.FieldType.int)) ∈ zWords := zmem 531 (by decide +kernel) (by decide +kernel)
theorem m_529 : (Jvm.Cond.methodLink "ConditionRows$Fields" (63 : Nat) ({ cls := "ConditionRows$Fields", name := "compareScaled", desc := "(JJI)I" } : Jvm.MethodName)) ∈ zWords := zmem 529 (by decide +kernel) (by decide +kernel)
theorem m_530 : (Jvm.Cond.static ({ cls := "ConditionRows$Fields", name := "compareScaled", desc := "(JJI)I" } : Jvm.MethodName)) ∈ zWords := zmem 530 (by decide +kernel) (by decide +kernel)
theorem m_527 : (Jvm.Cond.code ({ cls := "ConditionRows$Fields", name := "compareNumbers", desc := "(II)I" } : Jvm.MethodName) prog_2_method_15_code (4 : Nat) (Option.some Jvm.ClassFile.FieldType.int)) ∈ zWords := zmem 527 (by decide +kernel) (by decide +kernel)
theorem m_524 : (Jvm.Cond.methodLink "ConditionRows" (295 : Nat) ({ cls := "ConditionRows$Fields", name := "compareNumbers", desc := "(II)I" } : Jvm.MethodName)) ∈ zWords := zmem 524 (by decide +kernel) (by decide +kernel)
theorem m_525 : (Jvm.Cond.instanceMethod ({ cls := "ConditionRows$Fields", name := "compareNumbers", desc := "(II)I" } : Jvm.MethodName)) ∈ zWords := zmem 525 (by decide +kernel) (by decide +kernel)
theorem m_526 : (Jvm.Cond.selects "ConditionRows$Fields" ({ cls := "ConditionRows$Fields", name := "compareNumbers", desc := "(II)I" } : Jvm.MethodName) ({ cls := "ConditionRows$Fields", name := "compareNumbers", desc := "(II)I" } : Jvm.MethodName)) ∈ zWords := zmem 526 (by decide +kernel) (by decide +kernel)
theorem m_182 : (Jvm.Cond.fieldLink "ConditionRows" (55 : Nat) "ConditionRows" "leftText" "[I") ∈ zWords := zmem 182 (by decide +kernel) (by decide +kernel)
theorem m_550 : (Jvm.Cond.code ({ cls := "ConditionRows$Fields", name := "spellBytes", desc := "(I[I)I" } : Jvm.MethodName) prog_2_method_18_code (5 : Nat) (Option.some Jvm.ClassFile.FieldType.int)) ∈ zWords := zmem 550 (by decide +kernel) (by decide +kernel)
theorem m_547 : (Jvm.Cond.methodLink "ConditionRows$Fields" (84 : Nat) ({ cls := "ConditionRows$Fields", name := "spellBytes", desc := "(I[I)I" } : Jvm.MethodName)) ∈ zWords := zmem 547 (by decide +kernel) (by decide +kernel)
theorem m_549 : (Jvm.Cond.instanceMethod ({ cls := "ConditionRows$Fields", name := "spellBytes", desc := "(I[I)I" } : Jvm.MethodName)) ∈ zWords := zmem 549 (by decide +kernel) (by decide +kernel)
theorem mp_15 : (Jvm.Cond.selects "ConditionRows$Fields" ({ cls := "ConditionRows$Fields", name := "spellBytes", desc := "(I[I)I" } : Jvm.MethodName) ({ cls := "ConditionRows$Fields", name := "spellBytes", desc := "(I[I)I" } : Jvm.MethodName)) ∈ zWords := zmemP 15 (by decide +kernel) (by decide +kernel)
theorem m_546 : (Jvm.Cond.code ({ cls := "ConditionRows$Fields", name := "spellDecimals", desc := "(J[I)I" } : Jvm.MethodName) prog_2_method_19_code (8 : Nat) (Option.some Jvm.ClassFile.FieldType.int)) ∈ zWords := zmem 546 (by decide +kernel) (by decide +kernel)
theorem m_544 : (Jvm.Cond.methodLink "ConditionRows$Fields" (80 : Nat) ({ cls := "ConditionRows$Fields", name := "spellDecimals", desc := "(J[I)I" } : Jvm.MethodName)) ∈ zWords := zmem 544 (by decide +kernel) (by decide +kernel)
theorem m_545 : (Jvm.Cond.static ({ cls := "ConditionRows$Fields", name := "spellDecimals", desc := "(J[I)I" } : Jvm.MethodName)) ∈ zWords := zmem 545 (by decide +kernel) (by decide +kernel)
theorem m_543 : (Jvm.Cond.code ({ cls := "ConditionRows$Fields", name := "spell", desc := "(I[I)V" } : Jvm.MethodName) prog_2_method_17_code (5 : Nat) (Option.none : Option Jvm.ClassFile.FieldType)) ∈ zWords := zmem 543 (by decide +kernel) (by decide +kernel)
theorem m_540 : (Jvm.Cond.methodLink "ConditionRows" (298 : Nat) ({ cls := "ConditionRows$Fields", name := "spell", desc := "(I[I)V" } : Jvm.MethodName)) ∈ zWords := zmem 540 (by decide +kernel) (by decide +kernel)
theorem m_541 : (Jvm.Cond.instanceMethod ({ cls := "ConditionRows$Fields", name := "spell", desc := "(I[I)V" } : Jvm.MethodName)) ∈ zWords := zmem 541 (by decide +kernel) (by decide +kernel)
theorem m_542 : (Jvm.Cond.selects "ConditionRows$Fields" ({ cls := "ConditionRows$Fields", name := "spell", desc := "(I[I)V" } : Jvm.MethodName) ({ cls := "ConditionRows$Fields", name := "spell", desc := "(I[I)V" } : Jvm.MethodName)) ∈ zWords := zmem 542 (by decide +kernel) (by decide +kernel)
theorem m_183 : (Jvm.Cond.fieldLink "ConditionRows" (59 : Nat) "ConditionRows" "rightText" "[I") ∈ zWords := zmem 183 (by decide +kernel) (by decide +kernel)
theorem m_58 : (Jvm.Cond.fieldLink "ConditionRows$Weights" (9 : Nat) "ConditionRows$Weights" "of" "[I") ∈ zWords := zmem 58 (by decide +kernel) (by decide +kernel)
theorem m_557 : (Jvm.Cond.code ({ cls := "java/lang/Integer", name := "compare", desc := "(II)I" } : Jvm.MethodName) prog_13_method_40_code (2 : Nat) (Option.some Jvm.ClassFile.FieldType.int)) ∈ zWords := zmem 557 (by decide +kernel) (by decide +kernel)
theorem m_555 : (Jvm.Cond.methodLink "ConditionRows$Weights" (15 : Nat) ({ cls := "java/lang/Integer", name := "compare", desc := "(II)I" } : Jvm.MethodName)) ∈ zWords := zmem 555 (by decide +kernel) (by decide +kernel)
theorem m_556 : (Jvm.Cond.static ({ cls := "java/lang/Integer", name := "compare", desc := "(II)I" } : Jvm.MethodName)) ∈ zWords := zmem 556 (by decide +kernel) (by decide +kernel)
theorem m_15 : (Jvm.Cond.initialized "java/lang/Integer") ∈ zWords := zmem 15 (by decide +kernel) (by decide +kernel)
theorem m_554 : (Jvm.Cond.code ({ cls := "ConditionRows$Weights", name := "compareTexts", desc := "([I[I)I" } : Jvm.MethodName) prog_7_method_2_code (5 : Nat) (Option.some Jvm.ClassFile.FieldType.int)) ∈ zWords := zmem 554 (by decide +kernel) (by decide +kernel)
theorem m_551 : (Jvm.Cond.methodLink "ConditionRows" (302 : Nat) ({ cls := "ConditionRows$Weights", name := "compareTexts", desc := "([I[I)I" } : Jvm.MethodName)) ∈ zWords := zmem 551 (by decide +kernel) (by decide +kernel)
theorem m_552 : (Jvm.Cond.instanceMethod ({ cls := "ConditionRows$Weights", name := "compareTexts", desc := "([I[I)I" } : Jvm.MethodName)) ∈ zWords := zmem 552 (by decide +kernel) (by decide +kernel)
theorem m_553 : (Jvm.Cond.selects "ConditionRows$Weights" ({ cls := "ConditionRows$Weights", name := "compareTexts", desc := "([I[I)I" } : Jvm.MethodName) ({ cls := "ConditionRows$Weights", name := "compareTexts", desc := "([I[I)I" } : Jvm.MethodName)) ∈ zWords := zmem 553 (by decide +kernel) (by decide +kernel)
theorem m_3 : (Jvm.Cond.initialized "ConditionRows$Weights") ∈ zWords := zmem 3 (by decide +kernel) (by decide +kernel)
theorem m_523 : (Jvm.Cond.code ({ cls := "ConditionRows", name := "compareFields", desc := "(II)I" } : Jvm.MethodName) prog_1_method_38_code (3 : Nat) (Option.some Jvm.ClassFile.FieldType.int)) ∈ zWords := zmem 523 (by decide +kernel) (by decide +kernel)
theorem m_520 : (Jvm.Cond.methodLink "ConditionRows" (183 : Nat) ({ cls := "ConditionRows", name := "compareFields", desc := "(II)I" } : Jvm.MethodName)) ∈ zWords := zmem 520 (by decide +kernel) (by decide +kernel)
theorem m_522 : (Jvm.Cond.instanceMethod ({ cls := "ConditionRows", name := "compareFields", desc := "(II)I" } : Jvm.MethodName)) ∈ zWords := zmem 522 (by decide +kernel) (by decide +kernel)
theorem mp_14 : (Jvm.Cond.selects "ConditionRows" ({ cls := "ConditionRows", name := "compareFields", desc := "(II)I" } : Jvm.MethodName) ({ cls := "ConditionRows", name := "compareFields", desc := "(II)I" } : Jvm.MethodName)) ∈ zWords := zmemP 14 (by decide +kernel) (by decide +kernel)
theorem m_519 : (Jvm.Cond.code ({ cls := "ConditionRows", name := "relationOutcome", desc := "(III)I" } : Jvm.MethodName) prog_1_method_36_code (5 : Nat) (Option.some Jvm.ClassFile.FieldType.int)) ∈ zWords := zmem 519 (by decide +kernel) (by decide +kernel)
theorem m_516 : (Jvm.Cond.methodLink "ConditionRows" (282 : Nat) ({ cls := "ConditionRows", name := "relationOutcome", desc := "(III)I" } : Jvm.MethodName)) ∈ zWords := zmem 516 (by decide +kernel) (by decide +kernel)
theorem m_518 : (Jvm.Cond.instanceMethod ({ cls := "ConditionRows", name := "relationOutcome", desc := "(III)I" } : Jvm.MethodName)) ∈ zWords := zmem 518 (by decide +kernel) (by decide +kernel)
theorem mp_13 : (Jvm.Cond.selects "ConditionRows" ({ cls := "ConditionRows", name := "relationOutcome", desc := "(III)I" } : Jvm.MethodName) ({ cls := "ConditionRows", name := "relationOutcome", desc := "(III)I" } : Jvm.MethodName)) ∈ zWords := zmemP 13 (by decide +kernel) (by decide +kernel)
theorem m_459 : (Jvm.Cond.code ({ cls := "ConditionRows", name := "leafOutcome", desc := "(I)I" } : Jvm.MethodName) prog_1_method_34_code (4 : Nat) (Option.some Jvm.ClassFile.FieldType.int)) ∈ zWords := zmem 459 (by decide +kernel) (by decide +kernel)
theorem m_456 : (Jvm.Cond.methodLink "ConditionRows" (239 : Nat) ({ cls := "ConditionRows", name := "leafOutcome", desc := "(I)I" } : Jvm.MethodName)) ∈ zWords := zmem 456 (by decide +kernel) (by decide +kernel)
theorem m_458 : (Jvm.Cond.instanceMethod ({ cls := "ConditionRows", name := "leafOutcome", desc := "(I)I" } : Jvm.MethodName)) ∈ zWords := zmem 458 (by decide +kernel) (by decide +kernel)
theorem mp_9 : (Jvm.Cond.selects "ConditionRows" ({ cls := "ConditionRows", name := "leafOutcome", desc := "(I)I" } : Jvm.MethodName) ({ cls := "ConditionRows", name := "leafOutcome", desc := "(I)I" } : Jvm.MethodName)) ∈ zWords := zmemP 9 (by decide +kernel) (by decide +kernel)
theorem m_440 : (Jvm.Cond.code ({ cls := "ConditionRows", name := "outcomeOf", desc := "(I)I" } : Jvm.MethodName) prog_1_method_30_code (6 : Nat) (Option.some Jvm.ClassFile.FieldType.int)) ∈ zWords := zmem 440 (by decide +kernel) (by decide +kernel)
theorem m_437 : (Jvm.Cond.methodLink "ConditionRows" (159 : Nat) ({ cls := "ConditionRows", name := "outcomeOf", desc := "(I)I" } : Jvm.MethodName)) ∈ zWords := zmem 437 (by decide +kernel) (by decide +kernel)
theorem m_439 : (Jvm.Cond.instanceMethod ({ cls := "ConditionRows", name := "outcomeOf", desc := "(I)I" } : Jvm.MethodName)) ∈ zWords := zmem 439 (by decide +kernel) (by decide +kernel)
theorem mp_7 : (Jvm.Cond.selects "ConditionRows" ({ cls := "ConditionRows", name := "outcomeOf", desc := "(I)I" } : Jvm.MethodName) ({ cls := "ConditionRows", name := "outcomeOf", desc := "(I)I" } : Jvm.MethodName)) ∈ zWords := zmemP 7 (by decide +kernel) (by decide +kernel)
theorem m_357 : (Jvm.Cond.code ({ cls := "ConditionRows", name := "switchesOn", desc := "()I" } : Jvm.MethodName) prog_1_method_26_code (3 : Nat) (Option.some Jvm.ClassFile.FieldType.int)) ∈ zWords := zmem 357 (by decide +kernel) (by decide +kernel)
theorem m_354 : (Jvm.Cond.methodLink "ConditionRows" (188 : Nat) ({ cls := "ConditionRows", name := "switchesOn", desc := "()I" } : Jvm.MethodName)) ∈ zWords := zmem 354 (by decide +kernel) (by decide +kernel)
theorem m_356 : (Jvm.Cond.instanceMethod ({ cls := "ConditionRows", name := "switchesOn", desc := "()I" } : Jvm.MethodName)) ∈ zWords := zmem 356 (by decide +kernel) (by decide +kernel)
theorem mp_5 : (Jvm.Cond.selects "ConditionRows" ({ cls := "ConditionRows", name := "switchesOn", desc := "()I" } : Jvm.MethodName) ({ cls := "ConditionRows", name := "switchesOn", desc := "()I" } : Jvm.MethodName)) ∈ zWords := zmemP 5 (by decide +kernel) (by decide +kernel)
theorem m_604 : (Jvm.Cond.fieldLink "ConditionRowsModel" (83 : Nat) "ConditionRowsModel" "fields" "I") ∈ zWords := zmem 604 (by decide +kernel) (by decide +kernel)
theorem m_608 : (Jvm.Cond.fieldLink "ConditionRowsModel" (86 : Nat) "ConditionRowsModel" "nodes" "I") ∈ zWords := zmem 608 (by decide +kernel) (by decide +kernel)
theorem m_613 : (Jvm.Cond.fieldLink "ConditionRowsModel" (89 : Nat) "ConditionRowsModel" "names" "I") ∈ zWords := zmem 613 (by decide +kernel) (by decide +kernel)
theorem m_598 : (Jvm.Cond.fieldLink "ConditionRowsModel" (79 : Nat) "ConditionRowsModel" "thrown" "I") ∈ zWords := zmem 598 (by decide +kernel) (by decide +kernel)
theorem m_600 : (Jvm.Cond.fieldLink "ConditionRowsModel" (13 : Nat) "ConditionRowsModel" "categories" "[I") ∈ zWords := zmem 600 (by decide +kernel) (by decide +kernel)
theorem m_601 : (Jvm.Cond.fieldLink "ConditionRowsModel" (16 : Nat) "ConditionRowsModel" "sizes" "[I") ∈ zWords := zmem 601 (by decide +kernel) (by decide +kernel)
theorem m_599 : (Jvm.Cond.fieldLink "ConditionRowsModel" (7 : Nat) "ConditionRowsModel" "bytes" "[I") ∈ zWords := zmem 599 (by decide +kernel) (by decide +kernel)
theorem m_699 : (Jvm.Cond.code ({ cls := "ConditionRowsModel", name := "isField", desc := "(I)Z" } : Jvm.MethodName) prog_9_method_3_code (2 : Nat) (Option.some Jvm.ClassFile.FieldType.boolean)) ∈ zWords := zmem 699 (by decide +kernel) (by decide +kernel)
theorem m_696 : (Jvm.Cond.methodLink "ConditionRowsModel" (92 : Nat) ({ cls := "ConditionRowsModel", name := "isField", desc := "(I)Z" } : Jvm.MethodName)) ∈ zWords := zmem 696 (by decide +kernel) (by decide +kernel)
theorem m_698 : (Jvm.Cond.instanceMethod ({ cls := "ConditionRowsModel", name := "isField", desc := "(I)Z" } : Jvm.MethodName)) ∈ zWords := zmem 698 (by decide +kernel) (by decide +kernel)
theorem mp_17 : (Jvm.Cond.selects "ConditionRowsModel" ({ cls := "ConditionRowsModel", name := "isField", desc := "(I)Z" } : Jvm.MethodName) ({ cls := "ConditionRowsModel", name := "isField", desc := "(I)Z" } : Jvm.MethodName)) ∈ zWords := zmemP 17 (by decide +kernel) (by decide +kernel)
theorem m_8 : (Jvm.Cond.initialized "ConditionRowsModel") ∈ zWords := zmem 8 (by decide +kernel) (by decide +kernel)
theorem m_602 : (Jvm.Cond.fieldLink "ConditionRowsModel" (19 : Nat) "ConditionRowsModel" "scales" "[I") ∈ zWords := zmem 602 (by decide +kernel) (by decide +kernel)
theorem m_710 : (Jvm.Cond.code ({ cls := "ConditionRowsModel", name := "isByte", desc := "(I)Z" } : Jvm.MethodName) prog_9_method_9_code (1 : Nat) (Option.some Jvm.ClassFile.FieldType.boolean)) ∈ zWords := zmem 710 (by decide +kernel) (by decide +kernel)
theorem m_708 : (Jvm.Cond.methodLink "ConditionRowsModel" (96 : Nat) ({ cls := "ConditionRowsModel", name := "isByte", desc := "(I)Z" } : Jvm.MethodName)) ∈ zWords := zmem 708 (by decide +kernel) (by decide +kernel)
theorem m_709 : (Jvm.Cond.static ({ cls := "ConditionRowsModel", name := "isByte", desc := "(I)Z" } : Jvm.MethodName)) ∈ zWords := zmem 709 (by decide +kernel) (by decide +kernel)
theorem m_603 : (Jvm.Cond.fieldLink "ConditionRowsModel" (22 : Nat) "ConditionRowsModel" "weights" "[I") ∈ zWords := zmem 603 (by decide +kernel) (by decide +kernel)
theorem m_781 : (Jvm.Cond.code ({ cls := "ConditionRowsModel", name := "read", desc := "(II)I" } : Jvm.MethodName) prog_9_method_11_code (3 : Nat) (Option.some Jvm.ClassFile.FieldType.int)) ∈ zWords := zmem 781 (by decide +kernel) (by decide +kernel)
theorem m_778 : (Jvm.Cond.methodLink "ConditionRowsModel" (99 : Nat) ({ cls := "ConditionRowsModel", name := "read", desc := "(II)I" } : Jvm.MethodName)) ∈ zWords := zmem 778 (by decide +kernel) (by decide +kernel)
theorem m_780 : (Jvm.Cond.instanceMethod ({ cls := "ConditionRowsModel", name := "read", desc := "(II)I" } : Jvm.MethodName)) ∈ zWords := zmem 780 (by decide +kernel) (by decide +kernel)
theorem mp_26 : (Jvm.Cond.selects "ConditionRowsModel" ({ cls := "ConditionRowsModel", name := "read", desc := "(II)I" } : Jvm.MethodName) ({ cls := "ConditionRowsModel", name := "read", desc := "(II)I" } : Jvm.MethodName)) ∈ zWords := zmemP 26 (by decide +kernel) (by decide +kernel)
theorem m_798 : (Jvm.Cond.constantLong "ConditionRowsModel" (103 : Nat) (-1 : Int64)) ∈ zWords := zmem 798 (by decide +kernel) (by decide +kernel)
theorem m_799 : (Jvm.Cond.constantLong "ConditionRowsModel" (105 : Nat) (10 : Int64)) ∈ zWords := zmem 799 (by decide +kernel) (by decide +kernel)
theorem m_797 : (Jvm.Cond.code ({ cls := "ConditionRowsModel", name := "whole", desc := "(I)J" } : Jvm.MethodName) prog_9_method_13_code (5 : Nat) (Option.some Jvm.ClassFile.FieldType.long)) ∈ zWords := zmem 797 (by decide +kernel) (by decide +kernel)
theorem m_794 : (Jvm.Cond.methodLink "ConditionRowsModel" (107 : Nat) ({ cls := "ConditionRowsModel", name := "whole", desc := "(I)J" } : Jvm.MethodName)) ∈ zWords := zmem 794 (by decide +kernel) (by decide +kernel)
theorem m_796 : (Jvm.Cond.instanceMethod ({ cls := "ConditionRowsModel", name := "whole", desc := "(I)J" } : Jvm.MethodName)) ∈ zWords := zmem 796 (by decide +kernel) (by decide +kernel)
theorem mp_30 : (Jvm.Cond.selects "ConditionRowsModel" ({ cls := "ConditionRowsModel", name := "whole", desc := "(I)J" } : Jvm.MethodName) ({ cls := "ConditionRowsModel", name := "whole", desc := "(I)J" } : Jvm.MethodName)) ∈ zWords := zmemP 30 (by decide +kernel) (by decide +kernel)
theorem m_802 : (Jvm.Cond.code ({ cls := "ConditionRowsModel", name := "ten", desc := "(I)J" } : Jvm.MethodName) prog_9_method_14_code (4 : Nat) (Option.some Jvm.ClassFile.FieldType.long)) ∈ zWords := zmem 802 (by decide +kernel) (by decide +kernel)
theorem m_800 : (Jvm.Cond.methodLink "ConditionRowsModel" (110 : Nat) ({ cls := "ConditionRowsModel", name := "ten", desc := "(I)J" } : Jvm.MethodName)) ∈ zWords := zmem 800 (by decide +kernel) (by decide +kernel)
theorem m_801 : (Jvm.Cond.static ({ cls := "ConditionRowsModel", name := "ten", desc := "(I)J" } : Jvm.MethodName)) ∈ zWords := zmem 801 (by decide +kernel) (by decide +kernel)
theorem m_626 : (Jvm.Cond.fieldLink "ConditionRowsModel" (72 : Nat) "ConditionRowsModel" "digits" "[I") ∈ zWords := zmem 626 (by decide +kernel) (by decide +kernel)
theorem m_814 : (Jvm.Cond.constantLong "ConditionRowsModel" (113 : Nat) (5 : Int64)) ∈ zWords := zmem 814 (by decide +kernel) (by decide +kernel)
theorem m_793 : (Jvm.Cond.code ({ cls := "ConditionRowsModel", name := "part", desc := "(I)J" } : Jvm.MethodName) prog_9_method_15_code (8 : Nat) (Option.some Jvm.ClassFile.FieldType.long)) ∈ zWords := zmem 793 (by decide +kernel) (by decide +kernel)
theorem m_790 : (Jvm.Cond.methodLink "ConditionRowsModel" (115 : Nat) ({ cls := "ConditionRowsModel", name := "part", desc := "(I)J" } : Jvm.MethodName)) ∈ zWords := zmem 790 (by decide +kernel) (by decide +kernel)
theorem m_792 : (Jvm.Cond.instanceMethod ({ cls := "ConditionRowsModel", name := "part", desc := "(I)J" } : Jvm.MethodName)) ∈ zWords := zmem 792 (by decide +kernel) (by decide +kernel)
theorem mp_29 : (Jvm.Cond.selects "ConditionRowsModel" ({ cls := "ConditionRowsModel", name := "part", desc := "(I)J" } : Jvm.MethodName) ({ cls := "ConditionRowsModel", name := "part", desc := "(I)J" } : Jvm.MethodName)) ∈ zWords := zmemP 29 (by decide +kernel) (by decide +kernel)
theorem m_805 : (Jvm.Cond.code ({ cls := "ConditionRowsModel", name := "sign", desc := "(JJ)I" } : Jvm.MethodName) prog_9_method_18_code (4 : Nat) (Option.some Jvm.ClassFile.FieldType.int)) ∈ zWords := zmem 805 (by decide +kernel) (by decide +kernel)
theorem m_803 : (Jvm.Cond.methodLink "ConditionRowsModel" (118 : Nat) ({ cls := "ConditionRowsModel", name := "sign", desc := "(JJ)I" } : Jvm.MethodName)) ∈ zWords := zmem 803 (by decide +kernel) (by decide +kernel)
theorem m_804 : (Jvm.Cond.static ({ cls := "ConditionRowsModel", name := "sign", desc := "(JJ)I" } : Jvm.MethodName)) ∈ zWords := zmem 804 (by decide +kernel) (by decide +kernel)
theorem m_809 : (Jvm.Cond.code ({ cls := "ConditionRowsModel", name := "rest", desc := "(I)J" } : Jvm.MethodName) prog_9_method_16_code (6 : Nat) (Option.some Jvm.ClassFile.FieldType.long)) ∈ zWords := zmem 809 (by decide +kernel) (by decide +kernel)
theorem m_806 : (Jvm.Cond.methodLink "ConditionRowsModel" (122 : Nat) ({ cls := "ConditionRowsModel", name := "rest", desc := "(I)J" } : Jvm.MethodName)) ∈ zWords := zmem 806 (by decide +kernel) (by decide +kernel)
theorem m_808 : (Jvm.Cond.instanceMethod ({ cls := "ConditionRowsModel", name := "rest", desc := "(I)J" } : Jvm.MethodName)) ∈ zWords := zmem 808 (by decide +kernel) (by decide +kernel)
theorem mp_31 : (Jvm.Cond.selects "ConditionRowsModel" ({ cls := "ConditionRowsModel", name := "rest", desc := "(I)J" } : Jvm.MethodName) ({ cls := "ConditionRowsModel", name := "rest", desc := "(I)J" } : Jvm.MethodName)) ∈ zWords := zmemP 31 (by decide +kernel) (by decide +kernel)
theorem m_813 : (Jvm.Cond.code ({ cls := "ConditionRowsModel", name := "spell", desc := "(I)V" } : Jvm.MethodName) prog_9_method_17_code (12 : Nat) (Option.none : Option Jvm.ClassFile.FieldType)) ∈ zWords := zmem 813 (by decide +kernel) (by decide +kernel)
theorem m_810 : (Jvm.Cond.methodLink "ConditionRowsModel" (125 : Nat) ({ cls := "ConditionRowsModel", name := "spell", desc := "(I)V" } : Jvm.MethodName)) ∈ zWords := zmem 810 (by decide +kernel) (by decide +kernel)
theorem m_812 : (Jvm.Cond.instanceMethod ({ cls := "ConditionRowsModel", name := "spell", desc := "(I)V" } : Jvm.MethodName)) ∈ zWords := zmem 812 (by decide +kernel) (by decide +kernel)
theorem mp_32 : (Jvm.Cond.selects "ConditionRowsModel" ({ cls := "ConditionRowsModel", name := "spell", desc := "(I)V" } : Jvm.MethodName) ({ cls := "ConditionRowsModel", name := "spell", desc := "(I)V" } : Jvm.MethodName)) ∈ zWords := zmemP 32 (by decide +kernel) (by decide +kernel)
theorem m_726 : (Jvm.Cond.code ({ cls := "ConditionRowsModel", name := "isNode", desc := "(I)Z" } : Jvm.MethodName) prog_9_method_4_code (2 : Nat) (Option.some Jvm.ClassFile.FieldType.boolean)) ∈ zWords := zmem 726 (by decide +kernel) (by decide +kernel)
theorem m_723 : (Jvm.Cond.methodLink "ConditionRowsModel" (132 : Nat) ({ cls := "ConditionRowsModel", name := "isNode", desc := "(I)Z" } : Jvm.MethodName)) ∈ zWords := zmem 723 (by decide +kernel) (by decide +kernel)
theorem m_725 : (Jvm.Cond.instanceMethod ({ cls := "ConditionRowsModel", name := "isNode", desc := "(I)Z" } : Jvm.MethodName)) ∈ zWords := zmem 725 (by decide +kernel) (by decide +kernel)
theorem mp_20 : (Jvm.Cond.selects "ConditionRowsModel" ({ cls := "ConditionRowsModel", name := "isNode", desc := "(I)Z" } : Jvm.MethodName) ({ cls := "ConditionRowsModel", name := "isNode", desc := "(I)Z" } : Jvm.MethodName)) ∈ zWords := zmemP 20 (by decide +kernel) (by decide +kernel)
theorem m_722 : (Jvm.Cond.code ({ cls := "ConditionRowsModel", name := "isName", desc := "(I)Z" } : Jvm.MethodName) prog_9_method_5_code (2 : Nat) (Option.some Jvm.ClassFile.FieldType.boolean)) ∈ zWords := zmem 722 (by decide +kernel) (by decide +kernel)
theorem m_719 : (Jvm.Cond.methodLink "ConditionRowsModel" (129 : Nat) ({ cls := "ConditionRowsModel", name := "isName", desc := "(I)Z" } : Jvm.MethodName)) ∈ zWords := zmem 719 (by decide +kernel) (by decide +kernel)
theorem m_721 : (Jvm.Cond.instanceMethod ({ cls := "ConditionRowsModel", name := "isName", desc := "(I)Z" } : Jvm.MethodName)) ∈ zWords := zmem 721 (by decide +kernel) (by decide +kernel)
theorem mp_19 : (Jvm.Cond.selects "ConditionRowsModel" ({ cls := "ConditionRowsModel", name := "isName", desc := "(I)Z" } : Jvm.MethodName) ({ cls := "ConditionRowsModel", name := "isName", desc := "(I)Z" } : Jvm.MethodName)) ∈ zWords := zmemP 19 (by decide +kernel) (by decide +kernel)
theorem m_605 : (Jvm.Cond.fieldLink "ConditionRowsModel" (25 : Nat) "ConditionRowsModel" "ops" "[I") ∈ zWords := zmem 605 (by decide +kernel) (by decide +kernel)
theorem m_606 : (Jvm.Cond.fieldLink "ConditionRowsModel" (28 : Nat) "ConditionRowsModel" "as" "[I") ∈ zWords := zmem 606 (by decide +kernel) (by decide +kernel)
theorem m_607 : (Jvm.Cond.fieldLink "ConditionRowsModel" (31 : Nat) "ConditionRowsModel" "bs" "[I") ∈ zWords := zmem 607 (by decide +kernel) (by decide +kernel)
theorem m_718 : (Jvm.Cond.code ({ cls := "ConditionRowsModel", name := "refusal", desc := "(III)I" } : Jvm.MethodName) prog_9_method_20_code (4 : Nat) (Option.some Jvm.ClassFile.FieldType.int)) ∈ zWords := zmem 718 (by decide +kernel) (by decide +kernel)
theorem m_715 : (Jvm.Cond.methodLink "ConditionRowsModel" (135 : Nat) ({ cls := "ConditionRowsModel", name := "refusal", desc := "(III)I" } : Jvm.MethodName)) ∈ zWords := zmem 715 (by decide +kernel) (by decide +kernel)
theorem m_717 : (Jvm.Cond.instanceMethod ({ cls := "ConditionRowsModel", name := "refusal", desc := "(III)I" } : Jvm.MethodName)) ∈ zWords := zmem 717 (by decide +kernel) (by decide +kernel)
theorem mp_18 : (Jvm.Cond.selects "ConditionRowsModel" ({ cls := "ConditionRowsModel", name := "refusal", desc := "(III)I" } : Jvm.MethodName) ({ cls := "ConditionRowsModel", name := "refusal", desc := "(III)I" } : Jvm.MethodName)) ∈ zWords := zmemP 18 (by decide +kernel) (by decide +kernel)
theorem m_730 : (Jvm.Cond.code ({ cls := "ConditionRowsModel", name := "made", desc := "(III)I" } : Jvm.MethodName) prog_9_method_21_code (4 : Nat) (Option.some Jvm.ClassFile.FieldType.int)) ∈ zWords := zmem 730 (by decide +kernel) (by decide +kernel)
theorem m_727 : (Jvm.Cond.methodLink "ConditionRowsModel" (139 : Nat) ({ cls := "ConditionRowsModel", name := "made", desc := "(III)I" } : Jvm.MethodName)) ∈ zWords := zmem 727 (by decide +kernel) (by decide +kernel)
theorem m_729 : (Jvm.Cond.instanceMethod ({ cls := "ConditionRowsModel", name := "made", desc := "(III)I" } : Jvm.MethodName)) ∈ zWords := zmem 729 (by decide +kernel) (by decide +kernel)
theorem mp_21 : (Jvm.Cond.selects "ConditionRowsModel" ({ cls := "ConditionRowsModel", name := "made", desc := "(III)I" } : Jvm.MethodName) ({ cls := "ConditionRowsModel", name := "made", desc := "(III)I" } : Jvm.MethodName)) ∈ zWords := zmemP 21 (by decide +kernel) (by decide +kernel)
theorem m_742 : (Jvm.Cond.constantLong "ConditionRowsModel" (142 : Nat) (-9223372036854775808 : Int64)) ∈ zWords := zmem 742 (by decide +kernel) (by decide +kernel)
theorem m_741 : (Jvm.Cond.code ({ cls := "ConditionRowsModel", name := "isLess", desc := "(JJ)Z" } : Jvm.MethodName) prog_9_method_23_code (4 : Nat) (Option.some Jvm.ClassFile.FieldType.boolean)) ∈ zWords := zmem 741 (by decide +kernel) (by decide +kernel)
theorem m_739 : (Jvm.Cond.methodLink "ConditionRowsModel" (144 : Nat) ({ cls := "ConditionRowsModel", name := "isLess", desc := "(JJ)Z" } : Jvm.MethodName)) ∈ zWords := zmem 739 (by decide +kernel) (by decide +kernel)
theorem m_740 : (Jvm.Cond.static ({ cls := "ConditionRowsModel", name := "isLess", desc := "(JJ)Z" } : Jvm.MethodName)) ∈ zWords := zmem 740 (by decide +kernel) (by decide +kernel)
theorem m_738 : (Jvm.Cond.code ({ cls := "ConditionRowsModel", name := "isTurned", desc := "(IJJ)Z" } : Jvm.MethodName) prog_9_method_24_code (6 : Nat) (Option.some Jvm.ClassFile.FieldType.boolean)) ∈ zWords := zmem 738 (by decide +kernel) (by decide +kernel)
theorem m_735 : (Jvm.Cond.methodLink "ConditionRowsModel" (148 : Nat) ({ cls := "ConditionRowsModel", name := "isTurned", desc := "(IJJ)Z" } : Jvm.MethodName)) ∈ zWords := zmem 735 (by decide +kernel) (by decide +kernel)
theorem m_737 : (Jvm.Cond.instanceMethod ({ cls := "ConditionRowsModel", name := "isTurned", desc := "(IJJ)Z" } : Jvm.MethodName)) ∈ zWords := zmem 737 (by decide +kernel) (by decide +kernel)
theorem mp_22 : (Jvm.Cond.selects "ConditionRowsModel" ({ cls := "ConditionRowsModel", name := "isTurned", desc := "(IJJ)Z" } : Jvm.MethodName) ({ cls := "ConditionRowsModel", name := "isTurned", desc := "(IJJ)Z" } : Jvm.MethodName)) ∈ zWords := zmemP 22 (by decide +kernel) (by decide +kernel)
theorem m_609 : (Jvm.Cond.fieldLink "ConditionRowsModel" (34 : Nat) "ConditionRowsModel" "nameFields" "[I") ∈ zWords := zmem 609 (by decide +kernel) (by decide +kernel)
theorem m_610 : (Jvm.Cond.fieldLink "ConditionRowsModel" (37 : Nat) "ConditionRowsModel" "ranges" "[I") ∈ zWords := zmem 610 (by decide +kernel) (by decide +kernel)
theorem m_611 : (Jvm.Cond.fieldLink "ConditionRowsModel" (40 : Nat) "ConditionRowsModel" "lows" "[J") ∈ zWords := zmem 611 (by decide +kernel) (by decide +kernel)
theorem m_612 : (Jvm.Cond.fieldLink "ConditionRowsModel" (44 : Nat) "ConditionRowsModel" "highs" "[J") ∈ zWords := zmem 612 (by decide +kernel) (by decide +kernel)
theorem m_753 : (Jvm.Cond.code ({ cls := "ConditionRowsModel", name := "isRelation", desc := "(I)Z" } : Jvm.MethodName) prog_9_method_27_code (1 : Nat) (Option.some Jvm.ClassFile.FieldType.boolean)) ∈ zWords := zmem 753 (by decide +kernel) (by decide +kernel)
theorem m_751 : (Jvm.Cond.methodLink "ConditionRowsModel" (152 : Nat) ({ cls := "ConditionRowsModel", name := "isRelation", desc := "(I)Z" } : Jvm.MethodName)) ∈ zWords := zmem 751 (by decide +kernel) (by decide +kernel)
theorem m_752 : (Jvm.Cond.static ({ cls := "ConditionRowsModel", name := "isRelation", desc := "(I)Z" } : Jvm.MethodName)) ∈ zWords := zmem 752 (by decide +kernel) (by decide +kernel)
theorem m_620 : (Jvm.Cond.fieldLink "ConditionRowsModel" (155 : Nat) "ConditionRowsModel" "subject" "I") ∈ zWords := zmem 620 (by decide +kernel) (by decide +kernel)
theorem m_619 : (Jvm.Cond.fieldLink "ConditionRowsModel" (158 : Nat) "ConditionRowsModel" "row" "I") ∈ zWords := zmem 619 (by decide +kernel) (by decide +kernel)
theorem m_615 : (Jvm.Cond.fieldLink "ConditionRowsModel" (51 : Nat) "ConditionRowsModel" "ways" "[I") ∈ zWords := zmem 615 (by decide +kernel) (by decide +kernel)
theorem m_616 : (Jvm.Cond.fieldLink "ConditionRowsModel" (54 : Nat) "ConditionRowsModel" "rowOps" "[I") ∈ zWords := zmem 616 (by decide +kernel) (by decide +kernel)
theorem m_618 : (Jvm.Cond.fieldLink "ConditionRowsModel" (60 : Nat) "ConditionRowsModel" "turned" "[Z") ∈ zWords := zmem 618 (by decide +kernel) (by decide +kernel)
theorem m_617 : (Jvm.Cond.fieldLink "ConditionRowsModel" (57 : Nat) "ConditionRowsModel" "objects" "[I") ∈ zWords := zmem 617 (by decide +kernel) (by decide +kernel)
theorem m_765 : (Jvm.Cond.code ({ cls := "ConditionRowsModel", name := "relation", desc := "(I)I" } : Jvm.MethodName) prog_9_method_30_code (3 : Nat) (Option.some Jvm.ClassFile.FieldType.int)) ∈ zWords := zmem 765 (by decide +kernel) (by decide +kernel)
theorem m_762 : (Jvm.Cond.methodLink "ConditionRowsModel" (161 : Nat) ({ cls := "ConditionRowsModel", name := "relation", desc := "(I)I" } : Jvm.MethodName)) ∈ zWords := zmem 762 (by decide +kernel) (by decide +kernel)
theorem m_764 : (Jvm.Cond.instanceMethod ({ cls := "ConditionRowsModel", name := "relation", desc := "(I)I" } : Jvm.MethodName)) ∈ zWords := zmem 764 (by decide +kernel) (by decide +kernel)
theorem mp_23 : (Jvm.Cond.selects "ConditionRowsModel" ({ cls := "ConditionRowsModel", name := "relation", desc := "(I)I" } : Jvm.MethodName) ({ cls := "ConditionRowsModel", name := "relation", desc := "(I)I" } : Jvm.MethodName)) ∈ zWords := zmemP 23 (by decide +kernel) (by decide +kernel)
theorem m_777 : (Jvm.Cond.code ({ cls := "ConditionRowsModel", name := "isBad", desc := "(I)Z" } : Jvm.MethodName) prog_9_method_12_code (5 : Nat) (Option.some Jvm.ClassFile.FieldType.boolean)) ∈ zWords := zmem 777 (by decide +kernel) (by decide +kernel)
theorem m_774 : (Jvm.Cond.methodLink "ConditionRowsModel" (165 : Nat) ({ cls := "ConditionRowsModel", name := "isBad", desc := "(I)Z" } : Jvm.MethodName)) ∈ zWords := zmem 774 (by decide +kernel) (by decide +kernel)
theorem m_776 : (Jvm.Cond.instanceMethod ({ cls := "ConditionRowsModel", name := "isBad", desc := "(I)Z" } : Jvm.MethodName)) ∈ zWords := zmem 776 (by decide +kernel) (by decide +kernel)
theorem mp_25 : (Jvm.Cond.selects "ConditionRowsModel" ({ cls := "ConditionRowsModel", name := "isBad", desc := "(I)Z" } : Jvm.MethodName) ({ cls := "ConditionRowsModel", name := "isBad", desc := "(I)Z" } : Jvm.MethodName)) ∈ zWords := zmemP 25 (by decide +kernel) (by decide +kernel)
theorem m_789 : (Jvm.Cond.code ({ cls := "ConditionRowsModel", name := "order", desc := "(II)I" } : Jvm.MethodName) prog_9_method_19_code (6 : Nat) (Option.some Jvm.ClassFile.FieldType.int)) ∈ zWords := zmem 789 (by decide +kernel) (by decide +kernel)
theorem m_786 : (Jvm.Cond.methodLink "ConditionRowsModel" (168 : Nat) ({ cls := "ConditionRowsModel", name := "order", desc := "(II)I" } : Jvm.MethodName)) ∈ zWords := zmem 786 (by decide +kernel) (by decide +kernel)
theorem m_788 : (Jvm.Cond.instanceMethod ({ cls := "ConditionRowsModel", name := "order", desc := "(II)I" } : Jvm.MethodName)) ∈ zWords := zmem 788 (by decide +kernel) (by decide +kernel)
theorem mp_28 : (Jvm.Cond.selects "ConditionRowsModel" ({ cls := "ConditionRowsModel", name := "order", desc := "(II)I" } : Jvm.MethodName) ({ cls := "ConditionRowsModel", name := "order", desc := "(II)I" } : Jvm.MethodName)) ∈ zWords := zmemP 28 (by decide +kernel) (by decide +kernel)
theorem m_623 : (Jvm.Cond.fieldLink "ConditionRowsModel" (69 : Nat) "ConditionRowsModel" "leaves" "[I") ∈ zWords := zmem 623 (by decide +kernel) (by decide +kernel)
theorem m_624 : (Jvm.Cond.fieldLink "ConditionRowsModel" (171 : Nat) "ConditionRowsModel" "noted" "I") ∈ zWords := zmem 624 (by decide +kernel) (by decide +kernel)
theorem m_625 : (Jvm.Cond.fieldLink "ConditionRowsModel" (174 : Nat) "ConditionRowsModel" "fault" "Z") ∈ zWords := zmem 625 (by decide +kernel) (by decide +kernel)
theorem m_614 : (Jvm.Cond.fieldLink "ConditionRowsModel" (47 : Nat) "ConditionRowsModel" "switches" "[Z") ∈ zWords := zmem 614 (by decide +kernel) (by decide +kernel)
theorem m_822 : (Jvm.Cond.code ({ cls := "ConditionRowsModel", name := "isIn", desc := "(I)Z" } : Jvm.MethodName) prog_9_method_33_code (11 : Nat) (Option.some Jvm.ClassFile.FieldType.boolean)) ∈ zWords := zmem 822 (by decide +kernel) (by decide +kernel)
theorem m_819 : (Jvm.Cond.methodLink "ConditionRowsModel" (185 : Nat) ({ cls := "ConditionRowsModel", name := "isIn", desc := "(I)Z" } : Jvm.MethodName)) ∈ zWords := zmem 819 (by decide +kernel) (by decide +kernel)
theorem m_821 : (Jvm.Cond.instanceMethod ({ cls := "ConditionRowsModel", name := "isIn", desc := "(I)Z" } : Jvm.MethodName)) ∈ zWords := zmem 821 (by decide +kernel) (by decide +kernel)
theorem mp_34 : (Jvm.Cond.selects "ConditionRowsModel" ({ cls := "ConditionRowsModel", name := "isIn", desc := "(I)Z" } : Jvm.MethodName) ({ cls := "ConditionRowsModel", name := "isIn", desc := "(I)Z" } : Jvm.MethodName)) ∈ zWords := zmemP 34 (by decide +kernel) (by decide +kernel)
theorem m_818 : (Jvm.Cond.code ({ cls := "ConditionRowsModel", name := "isOf", desc := "(II)Z" } : Jvm.MethodName) prog_9_method_32_code (8 : Nat) (Option.some Jvm.ClassFile.FieldType.boolean)) ∈ zWords := zmem 818 (by decide +kernel) (by decide +kernel)
theorem m_815 : (Jvm.Cond.methodLink "ConditionRowsModel" (181 : Nat) ({ cls := "ConditionRowsModel", name := "isOf", desc := "(II)Z" } : Jvm.MethodName)) ∈ zWords := zmem 815 (by decide +kernel) (by decide +kernel)
theorem m_817 : (Jvm.Cond.instanceMethod ({ cls := "ConditionRowsModel", name := "isOf", desc := "(II)Z" } : Jvm.MethodName)) ∈ zWords := zmem 817 (by decide +kernel) (by decide +kernel)
theorem mp_33 : (Jvm.Cond.selects "ConditionRowsModel" ({ cls := "ConditionRowsModel", name := "isOf", desc := "(II)Z" } : Jvm.MethodName) ({ cls := "ConditionRowsModel", name := "isOf", desc := "(II)Z" } : Jvm.MethodName)) ∈ zWords := zmemP 33 (by decide +kernel) (by decide +kernel)
theorem m_785 : (Jvm.Cond.code ({ cls := "ConditionRowsModel", name := "related", desc := "(III)Z" } : Jvm.MethodName) prog_9_method_34_code (5 : Nat) (Option.some Jvm.ClassFile.FieldType.boolean)) ∈ zWords := zmem 785 (by decide +kernel) (by decide +kernel)
theorem m_782 : (Jvm.Cond.methodLink "ConditionRowsModel" (177 : Nat) ({ cls := "ConditionRowsModel", name := "related", desc := "(III)Z" } : Jvm.MethodName)) ∈ zWords := zmem 782 (by decide +kernel) (by decide +kernel)
theorem m_784 : (Jvm.Cond.instanceMethod ({ cls := "ConditionRowsModel", name := "related", desc := "(III)Z" } : Jvm.MethodName)) ∈ zWords := zmem 784 (by decide +kernel) (by decide +kernel)
theorem mp_27 : (Jvm.Cond.selects "ConditionRowsModel" ({ cls := "ConditionRowsModel", name := "related", desc := "(III)Z" } : Jvm.MethodName) ({ cls := "ConditionRowsModel", name := "related", desc := "(III)Z" } : Jvm.MethodName)) ∈ zWords := zmemP 27 (by decide +kernel) (by decide +kernel)
theorem m_621 : (Jvm.Cond.fieldLink "ConditionRowsModel" (63 : Nat) "ConditionRowsModel" "known" "[I") ∈ zWords := zmem 621 (by decide +kernel) (by decide +kernel)
theorem m_597 : (Jvm.Cond.fieldLink "ConditionRowsModel" (75 : Nat) "ConditionRowsModel" "whole" "Z") ∈ zWords := zmem 597 (by decide +kernel) (by decide +kernel)
theorem m_622 : (Jvm.Cond.fieldLink "ConditionRowsModel" (66 : Nat) "ConditionRowsModel" "pile" "[I") ∈ zWords := zmem 622 (by decide +kernel) (by decide +kernel)
theorem m_826 : (Jvm.Cond.code ({ cls := "ConditionRowsModel", name := "settled", desc := "(I)I" } : Jvm.MethodName) prog_9_method_36_code (5 : Nat) (Option.some Jvm.ClassFile.FieldType.int)) ∈ zWords := zmem 826 (by decide +kernel) (by decide +kernel)
theorem m_823 : (Jvm.Cond.methodLink "ConditionRowsModel" (191 : Nat) ({ cls := "ConditionRowsModel", name := "settled", desc := "(I)I" } : Jvm.MethodName)) ∈ zWords := zmem 823 (by decide +kernel) (by decide +kernel)
theorem m_825 : (Jvm.Cond.instanceMethod ({ cls := "ConditionRowsModel", name := "settled", desc := "(I)I" } : Jvm.MethodName)) ∈ zWords := zmem 825 (by decide +kernel) (by decide +kernel)
theorem mp_35 : (Jvm.Cond.selects "ConditionRowsModel" ({ cls := "ConditionRowsModel", name := "settled", desc := "(I)I" } : Jvm.MethodName) ({ cls := "ConditionRowsModel", name := "settled", desc := "(I)I" } : Jvm.MethodName)) ∈ zWords := zmemP 35 (by decide +kernel) (by decide +kernel)
theorem m_773 : (Jvm.Cond.code ({ cls := "ConditionRowsModel", name := "leaf", desc := "(I)Z" } : Jvm.MethodName) prog_9_method_35_code (4 : Nat) (Option.some Jvm.ClassFile.FieldType.boolean)) ∈ zWords := zmem 773 (by decide +kernel) (by decide +kernel)
theorem m_770 : (Jvm.Cond.methodLink "ConditionRowsModel" (188 : Nat) ({ cls := "ConditionRowsModel", name := "leaf", desc := "(I)Z" } : Jvm.MethodName)) ∈ zWords := zmem 770 (by decide +kernel) (by decide +kernel)
theorem m_772 : (Jvm.Cond.instanceMethod ({ cls := "ConditionRowsModel", name := "leaf", desc := "(I)Z" } : Jvm.MethodName)) ∈ zWords := zmem 772 (by decide +kernel) (by decide +kernel)
theorem mp_24 : (Jvm.Cond.selects "ConditionRowsModel" ({ cls := "ConditionRowsModel", name := "leaf", desc := "(I)Z" } : Jvm.MethodName) ({ cls := "ConditionRowsModel", name := "leaf", desc := "(I)Z" } : Jvm.MethodName)) ∈ zWords := zmemP 24 (by decide +kernel) (by decide +kernel)
theorem m_184 : (Jvm.Cond.laysFinal "ConditionRows" "ConditionRows" "whole" "Z") ∈ zWords := zmem 184 (by decide +kernel) (by decide +kernel)
theorem m_186 : (Jvm.Cond.laysFinal "ConditionRows" "ConditionRows" "fields" "LConditionRows$Fields;") ∈ zWords := zmem 186 (by decide +kernel) (by decide +kernel)
theorem m_188 : (Jvm.Cond.laysFinal "ConditionRows" "ConditionRows" "weights" "LConditionRows$Weights;") ∈ zWords := zmem 188 (by decide +kernel) (by decide +kernel)
theorem m_190 : (Jvm.Cond.laysFinal "ConditionRows" "ConditionRows" "names" "LConditionRows$Names;") ∈ zWords := zmem 190 (by decide +kernel) (by decide +kernel)
theorem m_192 : (Jvm.Cond.laysFinal "ConditionRows" "ConditionRows" "nodes" "LConditionRows$Nodes;") ∈ zWords := zmem 192 (by decide +kernel) (by decide +kernel)
theorem m_194 : (Jvm.Cond.laysFinal "ConditionRows" "ConditionRows" "row" "LConditionRows$Row;") ∈ zWords := zmem 194 (by decide +kernel) (by decide +kernel)
theorem m_196 : (Jvm.Cond.laysFinal "ConditionRows" "ConditionRows" "testing" "LConditionRows$Testing;") ∈ zWords := zmem 196 (by decide +kernel) (by decide +kernel)
theorem m_198 : (Jvm.Cond.laysFinal "ConditionRows" "ConditionRows" "switches" "[Z") ∈ zWords := zmem 198 (by decide +kernel) (by decide +kernel)
theorem m_200 : (Jvm.Cond.laysFinal "ConditionRows" "ConditionRows" "leftText" "[I") ∈ zWords := zmem 200 (by decide +kernel) (by decide +kernel)
theorem m_202 : (Jvm.Cond.laysFinal "ConditionRows" "ConditionRows" "rightText" "[I") ∈ zWords := zmem 202 (by decide +kernel) (by decide +kernel)
theorem m_40 : (Jvm.Cond.laysFinal "ConditionRows$Fields" "ConditionRows$Fields" "category" "[I") ∈ zWords := zmem 40 (by decide +kernel) (by decide +kernel)
theorem m_42 : (Jvm.Cond.laysFinal "ConditionRows$Fields" "ConditionRows$Fields" "size" "[I") ∈ zWords := zmem 42 (by decide +kernel) (by decide +kernel)
theorem m_44 : (Jvm.Cond.laysFinal "ConditionRows$Fields" "ConditionRows$Fields" "scale" "[I") ∈ zWords := zmem 44 (by decide +kernel) (by decide +kernel)
theorem m_46 : (Jvm.Cond.laysFinal "ConditionRows$Fields" "ConditionRows$Fields" "bytes" "[I") ∈ zWords := zmem 46 (by decide +kernel) (by decide +kernel)
theorem m_48 : (Jvm.Cond.lays "ConditionRows$Fields" "ConditionRows$Fields" "made" "I") ∈ zWords := zmem 48 (by decide +kernel) (by decide +kernel)
theorem m_60 : (Jvm.Cond.laysFinal "ConditionRows$Weights" "ConditionRows$Weights" "of" "[I") ∈ zWords := zmem 60 (by decide +kernel) (by decide +kernel)
theorem m_76 : (Jvm.Cond.laysFinal "ConditionRows$Names" "ConditionRows$Names" "field" "[I") ∈ zWords := zmem 76 (by decide +kernel) (by decide +kernel)
theorem m_78 : (Jvm.Cond.laysFinal "ConditionRows$Names" "ConditionRows$Names" "ranges" "[I") ∈ zWords := zmem 78 (by decide +kernel) (by decide +kernel)
theorem m_80 : (Jvm.Cond.laysFinal "ConditionRows$Names" "ConditionRows$Names" "low" "[J") ∈ zWords := zmem 80 (by decide +kernel) (by decide +kernel)
theorem m_82 : (Jvm.Cond.laysFinal "ConditionRows$Names" "ConditionRows$Names" "high" "[J") ∈ zWords := zmem 82 (by decide +kernel) (by decide +kernel)
theorem m_84 : (Jvm.Cond.lays "ConditionRows$Names" "ConditionRows$Names" "made" "I") ∈ zWords := zmem 84 (by decide +kernel) (by decide +kernel)
theorem m_102 : (Jvm.Cond.laysFinal "ConditionRows$Nodes" "ConditionRows$Nodes" "op" "[I") ∈ zWords := zmem 102 (by decide +kernel) (by decide +kernel)
theorem m_104 : (Jvm.Cond.laysFinal "ConditionRows$Nodes" "ConditionRows$Nodes" "a" "[I") ∈ zWords := zmem 104 (by decide +kernel) (by decide +kernel)
theorem m_106 : (Jvm.Cond.laysFinal "ConditionRows$Nodes" "ConditionRows$Nodes" "b" "[I") ∈ zWords := zmem 106 (by decide +kernel) (by decide +kernel)
theorem m_108 : (Jvm.Cond.lays "ConditionRows$Nodes" "ConditionRows$Nodes" "made" "I") ∈ zWords := zmem 108 (by decide +kernel) (by decide +kernel)
theorem m_131 : (Jvm.Cond.laysFinal "ConditionRows$Row" "ConditionRows$Row" "with" "[I") ∈ zWords := zmem 131 (by decide +kernel) (by decide +kernel)
theorem m_133 : (Jvm.Cond.laysFinal "ConditionRows$Row" "ConditionRows$Row" "op" "[I") ∈ zWords := zmem 133 (by decide +kernel) (by decide +kernel)
theorem m_135 : (Jvm.Cond.laysFinal "ConditionRows$Row" "ConditionRows$Row" "negated" "[Z") ∈ zWords := zmem 135 (by decide +kernel) (by decide +kernel)
theorem m_137 : (Jvm.Cond.laysFinal "ConditionRows$Row" "ConditionRows$Row" "object" "[I") ∈ zWords := zmem 137 (by decide +kernel) (by decide +kernel)
theorem m_139 : (Jvm.Cond.lays "ConditionRows$Row" "ConditionRows$Row" "subject" "I") ∈ zWords := zmem 139 (by decide +kernel) (by decide +kernel)
theorem m_141 : (Jvm.Cond.lays "ConditionRows$Row" "ConditionRows$Row" "carried" "I") ∈ zWords := zmem 141 (by decide +kernel) (by decide +kernel)
theorem m_143 : (Jvm.Cond.lays "ConditionRows$Row" "ConditionRows$Row" "length" "I") ∈ zWords := zmem 143 (by decide +kernel) (by decide +kernel)
theorem m_163 : (Jvm.Cond.laysFinal "ConditionRows$Testing" "ConditionRows$Testing" "outcome" "[I") ∈ zWords := zmem 163 (by decide +kernel) (by decide +kernel)
theorem m_165 : (Jvm.Cond.laysFinal "ConditionRows$Testing" "ConditionRows$Testing" "leaves" "[I") ∈ zWords := zmem 165 (by decide +kernel) (by decide +kernel)
theorem m_167 : (Jvm.Cond.laysFinal "ConditionRows$Testing" "ConditionRows$Testing" "waiting" "[I") ∈ zWords := zmem 167 (by decide +kernel) (by decide +kernel)
theorem m_169 : (Jvm.Cond.lays "ConditionRows$Testing" "ConditionRows$Testing" "noted" "I") ∈ zWords := zmem 169 (by decide +kernel) (by decide +kernel)
theorem m_171 : (Jvm.Cond.lays "ConditionRows$Testing" "ConditionRows$Testing" "depth" "I") ∈ zWords := zmem 171 (by decide +kernel) (by decide +kernel)
theorem m_627 : (Jvm.Cond.laysFinal "ConditionRowsModel" "ConditionRowsModel" "whole" "Z") ∈ zWords := zmem 627 (by decide +kernel) (by decide +kernel)
theorem m_629 : (Jvm.Cond.lays "ConditionRowsModel" "ConditionRowsModel" "thrown" "I") ∈ zWords := zmem 629 (by decide +kernel) (by decide +kernel)
theorem m_631 : (Jvm.Cond.laysFinal "ConditionRowsModel" "ConditionRowsModel" "bytes" "[I") ∈ zWords := zmem 631 (by decide +kernel) (by decide +kernel)
theorem m_633 : (Jvm.Cond.laysFinal "ConditionRowsModel" "ConditionRowsModel" "categories" "[I") ∈ zWords := zmem 633 (by decide +kernel) (by decide +kernel)
theorem m_635 : (Jvm.Cond.laysFinal "ConditionRowsModel" "ConditionRowsModel" "sizes" "[I") ∈ zWords := zmem 635 (by decide +kernel) (by decide +kernel)
theorem m_637 : (Jvm.Cond.laysFinal "ConditionRowsModel" "ConditionRowsModel" "scales" "[I") ∈ zWords := zmem 637 (by decide +kernel) (by decide +kernel)
theorem m_639 : (Jvm.Cond.laysFinal "ConditionRowsModel" "ConditionRowsModel" "weights" "[I") ∈ zWords := zmem 639 (by decide +kernel) (by decide +kernel)
theorem m_641 : (Jvm.Cond.lays "ConditionRowsModel" "ConditionRowsModel" "fields" "I") ∈ zWords := zmem 641 (by decide +kernel) (by decide +kernel)
theorem m_643 : (Jvm.Cond.laysFinal "ConditionRowsModel" "ConditionRowsModel" "ops" "[I") ∈ zWords := zmem 643 (by decide +kernel) (by decide +kernel)
theorem m_645 : (Jvm.Cond.laysFinal "ConditionRowsModel" "ConditionRowsModel" "as" "[I") ∈ zWords := zmem 645 (by decide +kernel) (by decide +kernel)
theorem m_647 : (Jvm.Cond.laysFinal "ConditionRowsModel" "ConditionRowsModel" "bs" "[I") ∈ zWords := zmem 647 (by decide +kernel) (by decide +kernel)
theorem m_649 : (Jvm.Cond.lays "ConditionRowsModel" "ConditionRowsModel" "nodes" "I") ∈ zWords := zmem 649 (by decide +kernel) (by decide +kernel)
theorem m_651 : (Jvm.Cond.laysFinal "ConditionRowsModel" "ConditionRowsModel" "nameFields" "[I") ∈ zWords := zmem 651 (by decide +kernel) (by decide +kernel)
theorem m_653 : (Jvm.Cond.laysFinal "ConditionRowsModel" "ConditionRowsModel" "ranges" "[I") ∈ zWords := zmem 653 (by decide +kernel) (by decide +kernel)
theorem m_655 : (Jvm.Cond.laysFinal "ConditionRowsModel" "ConditionRowsModel" "lows" "[J") ∈ zWords := zmem 655 (by decide +kernel) (by decide +kernel)
theorem m_657 : (Jvm.Cond.laysFinal "ConditionRowsModel" "ConditionRowsModel" "highs" "[J") ∈ zWords := zmem 657 (by decide +kernel) (by decide +kernel)
theorem m_659 : (Jvm.Cond.lays "ConditionRowsModel" "ConditionRowsModel" "names" "I") ∈ zWords := zmem 659 (by decide +kernel) (by decide +kernel)
theorem m_661 : (Jvm.Cond.laysFinal "ConditionRowsModel" "ConditionRowsModel" "switches" "[Z") ∈ zWords := zmem 661 (by decide +kernel) (by decide +kernel)
theorem m_663 : (Jvm.Cond.laysFinal "ConditionRowsModel" "ConditionRowsModel" "ways" "[I") ∈ zWords := zmem 663 (by decide +kernel) (by decide +kernel)
theorem m_665 : (Jvm.Cond.laysFinal "ConditionRowsModel" "ConditionRowsModel" "rowOps" "[I") ∈ zWords := zmem 665 (by decide +kernel) (by decide +kernel)
theorem m_667 : (Jvm.Cond.laysFinal "ConditionRowsModel" "ConditionRowsModel" "objects" "[I") ∈ zWords := zmem 667 (by decide +kernel) (by decide +kernel)
theorem m_669 : (Jvm.Cond.laysFinal "ConditionRowsModel" "ConditionRowsModel" "turned" "[Z") ∈ zWords := zmem 669 (by decide +kernel) (by decide +kernel)
theorem m_671 : (Jvm.Cond.lays "ConditionRowsModel" "ConditionRowsModel" "row" "I") ∈ zWords := zmem 671 (by decide +kernel) (by decide +kernel)
theorem m_673 : (Jvm.Cond.lays "ConditionRowsModel" "ConditionRowsModel" "subject" "I") ∈ zWords := zmem 673 (by decide +kernel) (by decide +kernel)
theorem m_675 : (Jvm.Cond.laysFinal "ConditionRowsModel" "ConditionRowsModel" "known" "[I") ∈ zWords := zmem 675 (by decide +kernel) (by decide +kernel)
theorem m_677 : (Jvm.Cond.laysFinal "ConditionRowsModel" "ConditionRowsModel" "pile" "[I") ∈ zWords := zmem 677 (by decide +kernel) (by decide +kernel)
theorem m_679 : (Jvm.Cond.laysFinal "ConditionRowsModel" "ConditionRowsModel" "leaves" "[I") ∈ zWords := zmem 679 (by decide +kernel) (by decide +kernel)
theorem m_681 : (Jvm.Cond.lays "ConditionRowsModel" "ConditionRowsModel" "noted" "I") ∈ zWords := zmem 681 (by decide +kernel) (by decide +kernel)
theorem m_683 : (Jvm.Cond.lays "ConditionRowsModel" "ConditionRowsModel" "fault" "Z") ∈ zWords := zmem 683 (by decide +kernel) (by decide +kernel)
theorem m_685 : (Jvm.Cond.laysFinal "ConditionRowsModel" "ConditionRowsModel" "digits" "[I") ∈ zWords := zmem 685 (by decide +kernel) (by decide +kernel)
theorem inX : ∀ w ∈ u_ws RX TX 10, w ∈ zWords := by
  intro w hw
  obtain ⟨k, hk, rfl⟩ := List.mem_map.mp hw
  have hk := List.mem_range.mp hk
  rcases (show k = 0 ∨ k = 1 ∨ k = 2 ∨ k = 3 ∨ k = 4 ∨ k = 5 ∨ k = 6 ∨ k = 7 ∨ k = 8 ∨ k = 9 by omega) with rfl | rfl | rfl | rfl | rfl | rfl | rfl | rfl | rfl | rfl
  · exact m_184
  · exact m_186
  · exact m_188
  · exact m_190
  · exact m_192
  · exact m_194
  · exact m_196
  · exact m_198
  · exact m_200
  · exact m_202
theorem inXF : ∀ w ∈ u_ws RXF TXF 5, w ∈ zWords := by
  intro w hw
  obtain ⟨k, hk, rfl⟩ := List.mem_map.mp hw
  have hk := List.mem_range.mp hk
  rcases (show k = 0 ∨ k = 1 ∨ k = 2 ∨ k = 3 ∨ k = 4 by omega) with rfl | rfl | rfl | rfl | rfl
  · exact m_40
  · exact m_42
  · exact m_44
  · exact m_46
  · exact m_48
theorem inXW : ∀ w ∈ u_ws RXW TXW 1, w ∈ zWords := by
  intro w hw
  obtain ⟨k, hk, rfl⟩ := List.mem_map.mp hw
  have hk := List.mem_range.mp hk
  rcases (show k = 0 by omega) with rfl
  · exact m_60
theorem inXN : ∀ w ∈ u_ws RXN TXN 5, w ∈ zWords := by
  intro w hw
  obtain ⟨k, hk, rfl⟩ := List.mem_map.mp hw
  have hk := List.mem_range.mp hk
  rcases (show k = 0 ∨ k = 1 ∨ k = 2 ∨ k = 3 ∨ k = 4 by omega) with rfl | rfl | rfl | rfl | rfl
  · exact m_76
  · exact m_78
  · exact m_80
  · exact m_82
  · exact m_84
theorem inXO : ∀ w ∈ u_ws RXO TXO 4, w ∈ zWords := by
  intro w hw
  obtain ⟨k, hk, rfl⟩ := List.mem_map.mp hw
  have hk := List.mem_range.mp hk
  rcases (show k = 0 ∨ k = 1 ∨ k = 2 ∨ k = 3 by omega) with rfl | rfl | rfl | rfl
  · exact m_102
  · exact m_104
  · exact m_106
  · exact m_108
theorem inXR : ∀ w ∈ u_ws RXR TXR 7, w ∈ zWords := by
  intro w hw
  obtain ⟨k, hk, rfl⟩ := List.mem_map.mp hw
  have hk := List.mem_range.mp hk
  rcases (show k = 0 ∨ k = 1 ∨ k = 2 ∨ k = 3 ∨ k = 4 ∨ k = 5 ∨ k = 6 by omega) with rfl | rfl | rfl | rfl | rfl | rfl | rfl
  · exact m_131
  · exact m_133
  · exact m_135
  · exact m_137
  · exact m_139
  · exact m_141
  · exact m_143
theorem inXT : ∀ w ∈ u_ws RXT TXT 5, w ∈ zWords := by
  intro w hw
  obtain ⟨k, hk, rfl⟩ := List.mem_map.mp hw
  have hk := List.mem_range.mp hk
  rcases (show k = 0 ∨ k = 1 ∨ k = 2 ∨ k = 3 ∨ k = 4 by omega) with rfl | rfl | rfl | rfl | rfl
  · exact m_163
  · exact m_165
  · exact m_167
  · exact m_169
  · exact m_171
theorem inM : ∀ w ∈ u_ws RM TM 30, w ∈ zWords := by
  intro w hw
  obtain ⟨k, hk, rfl⟩ := List.mem_map.mp hw
  have hk := List.mem_range.mp hk
  rcases (show k = 0 ∨ k = 1 ∨ k = 2 ∨ k = 3 ∨ k = 4 ∨ k = 5 ∨ k = 6 ∨ k = 7 ∨ k = 8 ∨ k = 9 ∨ k = 10 ∨ k = 11 ∨ k = 12 ∨ k = 13 ∨ k = 14 ∨ k = 15 ∨ k = 16 ∨ k = 17 ∨ k = 18 ∨ k = 19 ∨ k = 20 ∨ k = 21 ∨ k = 22 ∨ k = 23 ∨ k = 24 ∨ k = 25 ∨ k = 26 ∨ k = 27 ∨ k = 28 ∨ k = 29 by omega) with rfl | rfl | rfl | rfl | rfl | rfl | rfl | rfl | rfl | rfl | rfl | rfl | rfl | rfl | rfl | rfl | rfl | rfl | rfl | rfl | rfl | rfl | rfl | rfl | rfl | rfl | rfl | rfl | rfl | rfl
  · exact m_627
  · exact m_629
  · exact m_631
  · exact m_633
  · exact m_635
  · exact m_637
  · exact m_639
  · exact m_641
  · exact m_643
  · exact m_645
  · exact m_647
  · exact m_649
  · exact m_651
  · exact m_653
  · exact m_655
  · exact m_657
  · exact m_659
  · exact m_661
  · exact m_663
  · exact m_665
  · exact m_667
  · exact m_669
  · exact m_671
  · exact m_673
  · exact m_675
  · exact m_677
  · exact m_679
  · exact m_681
  · exact m_683
  · exact m_685
def zN : List Cond := [(Jvm.Cond.methodLinkNest "ConditionRows" (9 : Nat) ({ cls := "ConditionRows$Fields", name := "<init>", desc := "()V" } : Jvm.MethodName) "ConditionRows"),
  (Jvm.Cond.fieldLinkNest "ConditionRows" (78 : Nat) "ConditionRows$Fields" "size" "[I" "ConditionRows"),
  (Jvm.Cond.fieldLinkNest "ConditionRows" (87 : Nat) "ConditionRows$Fields" "scale" "[I" "ConditionRows"),
  (Jvm.Cond.fieldLinkNest "ConditionRows" (81 : Nat) "ConditionRows$Fields" "bytes" "[I" "ConditionRows"),
  (Jvm.Cond.fieldLinkNest "ConditionRows" (186 : Nat) "ConditionRows$Fields" "made" "I" "ConditionRows"),
  (Jvm.Cond.fieldLinkNest "ConditionRows" (93 : Nat) "ConditionRows$Weights" "of" "[I" "ConditionRows"),
  (Jvm.Cond.methodLinkNest "ConditionRows" (25 : Nat) ({ cls := "ConditionRows$Names", name := "<init>", desc := "()V" } : Jvm.MethodName) "ConditionRows"),
  (Jvm.Cond.fieldLinkNest "ConditionRows" (114 : Nat) "ConditionRows$Names" "field" "[I" "ConditionRows"),
  (Jvm.Cond.fieldLinkNest "ConditionRows" (187 : Nat) "ConditionRows$Names" "made" "I" "ConditionRows"),
  (Jvm.Cond.methodLinkNest "ConditionRows" (32 : Nat) ({ cls := "ConditionRows$Nodes", name := "<init>", desc := "()V" } : Jvm.MethodName) "ConditionRows"),
  (Jvm.Cond.fieldLinkNest "ConditionRows" (238 : Nat) "ConditionRows$Nodes" "op" "[I" "ConditionRows"),
  (Jvm.Cond.fieldLinkNest "ConditionRows" (251 : Nat) "ConditionRows$Nodes" "a" "[I" "ConditionRows"),
  (Jvm.Cond.fieldLinkNest "ConditionRows" (254 : Nat) "ConditionRows$Nodes" "b" "[I" "ConditionRows"),
  (Jvm.Cond.fieldLinkNest "ConditionRows" (145 : Nat) "ConditionRows$Nodes" "made" "I" "ConditionRows"),
  (Jvm.Cond.methodLinkNest "ConditionRows" (39 : Nat) ({ cls := "ConditionRows$Row", name := "<init>", desc := "()V" } : Jvm.MethodName) "ConditionRows"),
  (Jvm.Cond.fieldLinkNest "ConditionRows" (202 : Nat) "ConditionRows$Row" "with" "[I" "ConditionRows"),
  (Jvm.Cond.fieldLinkNest "ConditionRows" (211 : Nat) "ConditionRows$Row" "op" "[I" "ConditionRows"),
  (Jvm.Cond.fieldLinkNest "ConditionRows" (220 : Nat) "ConditionRows$Row" "negated" "[Z" "ConditionRows"),
  (Jvm.Cond.fieldLinkNest "ConditionRows" (217 : Nat) "ConditionRows$Row" "object" "[I" "ConditionRows"),
  (Jvm.Cond.fieldLinkNest "ConditionRows" (214 : Nat) "ConditionRows$Row" "subject" "I" "ConditionRows"),
  (Jvm.Cond.fieldLinkNest "ConditionRows" (131 : Nat) "ConditionRows$Row" "carried" "I" "ConditionRows"),
  (Jvm.Cond.fieldLinkNest "ConditionRows" (127 : Nat) "ConditionRows$Row" "length" "I" "ConditionRows"),
  (Jvm.Cond.methodLinkNest "ConditionRows" (46 : Nat) ({ cls := "ConditionRows$Testing", name := "<init>", desc := "()V" } : Jvm.MethodName) "ConditionRows"),
  (Jvm.Cond.fieldLinkNest "ConditionRows" (248 : Nat) "ConditionRows$Testing" "outcome" "[I" "ConditionRows"),
  (Jvm.Cond.fieldLinkNest "ConditionRows" (170 : Nat) "ConditionRows$Testing" "leaves" "[I" "ConditionRows"),
  (Jvm.Cond.fieldLinkNest "ConditionRows" (232 : Nat) "ConditionRows$Testing" "waiting" "[I" "ConditionRows"),
  (Jvm.Cond.fieldLinkNest "ConditionRows" (167 : Nat) "ConditionRows$Testing" "noted" "I" "ConditionRows"),
  (Jvm.Cond.fieldLinkNest "ConditionRows" (229 : Nat) "ConditionRows$Testing" "depth" "I" "ConditionRows"),
  (Jvm.Cond.methodLinkNest "ConditionRows$Names" (33 : Nat) ({ cls := "ConditionRows", name := "isBelowUnsigned", desc := "(JJ)Z" } : Jvm.MethodName) "ConditionRows"),
  (Jvm.Cond.fieldLinkNest "ConditionRows$Fields" (67 : Nat) "ConditionRows" "TENS" "[J" "ConditionRows")]
theorem zn_0 : (Jvm.Cond.methodLinkNest "ConditionRows" (9 : Nat) ({ cls := "ConditionRows$Fields", name := "<init>", desc := "()V" } : Jvm.MethodName) "ConditionRows") ∈ zN := List.mem_of_getElem? (i := 0) rfl
theorem zn_1 : (Jvm.Cond.fieldLinkNest "ConditionRows" (78 : Nat) "ConditionRows$Fields" "size" "[I" "ConditionRows") ∈ zN := List.mem_of_getElem? (i := 1) rfl
theorem zn_2 : (Jvm.Cond.fieldLinkNest "ConditionRows" (87 : Nat) "ConditionRows$Fields" "scale" "[I" "ConditionRows") ∈ zN := List.mem_of_getElem? (i := 2) rfl
theorem zn_3 : (Jvm.Cond.fieldLinkNest "ConditionRows" (81 : Nat) "ConditionRows$Fields" "bytes" "[I" "ConditionRows") ∈ zN := List.mem_of_getElem? (i := 3) rfl
theorem zn_4 : (Jvm.Cond.fieldLinkNest "ConditionRows" (186 : Nat) "ConditionRows$Fields" "made" "I" "ConditionRows") ∈ zN := List.mem_of_getElem? (i := 4) rfl
theorem zn_5 : (Jvm.Cond.fieldLinkNest "ConditionRows" (93 : Nat) "ConditionRows$Weights" "of" "[I" "ConditionRows") ∈ zN := List.mem_of_getElem? (i := 5) rfl
theorem zn_6 : (Jvm.Cond.methodLinkNest "ConditionRows" (25 : Nat) ({ cls := "ConditionRows$Names", name := "<init>", desc := "()V" } : Jvm.MethodName) "ConditionRows") ∈ zN := List.mem_of_getElem? (i := 6) rfl
theorem zn_7 : (Jvm.Cond.fieldLinkNest "ConditionRows" (114 : Nat) "ConditionRows$Names" "field" "[I" "ConditionRows") ∈ zN := List.mem_of_getElem? (i := 7) rfl
theorem zn_8 : (Jvm.Cond.fieldLinkNest "ConditionRows" (187 : Nat) "ConditionRows$Names" "made" "I" "ConditionRows") ∈ zN := List.mem_of_getElem? (i := 8) rfl
theorem zn_9 : (Jvm.Cond.methodLinkNest "ConditionRows" (32 : Nat) ({ cls := "ConditionRows$Nodes", name := "<init>", desc := "()V" } : Jvm.MethodName) "ConditionRows") ∈ zN := List.mem_of_getElem? (i := 9) rfl
theorem zn_10 : (Jvm.Cond.fieldLinkNest "ConditionRows" (238 : Nat) "ConditionRows$Nodes" "op" "[I" "ConditionRows") ∈ zN := List.mem_of_getElem? (i := 10) rfl
theorem zn_11 : (Jvm.Cond.fieldLinkNest "ConditionRows" (251 : Nat) "ConditionRows$Nodes" "a" "[I" "ConditionRows") ∈ zN := List.mem_of_getElem? (i := 11) rfl
theorem zn_12 : (Jvm.Cond.fieldLinkNest "ConditionRows" (254 : Nat) "ConditionRows$Nodes" "b" "[I" "ConditionRows") ∈ zN := List.mem_of_getElem? (i := 12) rfl
theorem zn_13 : (Jvm.Cond.fieldLinkNest "ConditionRows" (145 : Nat) "ConditionRows$Nodes" "made" "I" "ConditionRows") ∈ zN := List.mem_of_getElem? (i := 13) rfl
theorem zn_14 : (Jvm.Cond.methodLinkNest "ConditionRows" (39 : Nat) ({ cls := "ConditionRows$Row", name := "<init>", desc := "()V" } : Jvm.MethodName) "ConditionRows") ∈ zN := List.mem_of_getElem? (i := 14) rfl
theorem zn_15 : (Jvm.Cond.fieldLinkNest "ConditionRows" (202 : Nat) "ConditionRows$Row" "with" "[I" "ConditionRows") ∈ zN := List.mem_of_getElem? (i := 15) rfl
theorem zn_16 : (Jvm.Cond.fieldLinkNest "ConditionRows" (211 : Nat) "ConditionRows$Row" "op" "[I" "ConditionRows") ∈ zN := List.mem_of_getElem? (i := 16) rfl
theorem zn_17 : (Jvm.Cond.fieldLinkNest "ConditionRows" (220 : Nat) "ConditionRows$Row" "negated" "[Z" "ConditionRows") ∈ zN := List.mem_of_getElem? (i := 17) rfl
theorem zn_18 : (Jvm.Cond.fieldLinkNest "ConditionRows" (217 : Nat) "ConditionRows$Row" "object" "[I" "ConditionRows") ∈ zN := List.mem_of_getElem? (i := 18) rfl
theorem zn_19 : (Jvm.Cond.fieldLinkNest "ConditionRows" (214 : Nat) "ConditionRows$Row" "subject" "I" "ConditionRows") ∈ zN := List.mem_of_getElem? (i := 19) rfl
theorem zn_20 : (Jvm.Cond.fieldLinkNest "ConditionRows" (131 : Nat) "ConditionRows$Row" "carried" "I" "ConditionRows") ∈ zN := List.mem_of_getElem? (i := 20) rfl
theorem zn_21 : (Jvm.Cond.fieldLinkNest "ConditionRows" (127 : Nat) "ConditionRows$Row" "length" "I" "ConditionRows") ∈ zN := List.mem_of_getElem? (i := 21) rfl
theorem zn_22 : (Jvm.Cond.methodLinkNest "ConditionRows" (46 : Nat) ({ cls := "ConditionRows$Testing", name := "<init>", desc := "()V" } : Jvm.MethodName) "ConditionRows") ∈ zN := List.mem_of_getElem? (i := 22) rfl
theorem zn_23 : (Jvm.Cond.fieldLinkNest "ConditionRows" (248 : Nat) "ConditionRows$Testing" "outcome" "[I" "ConditionRows") ∈ zN := List.mem_of_getElem? (i := 23) rfl
theorem zn_24 : (Jvm.Cond.fieldLinkNest "ConditionRows" (170 : Nat) "ConditionRows$Testing" "leaves" "[I" "ConditionRows") ∈ zN := List.mem_of_getElem? (i := 24) rfl
theorem zn_25 : (Jvm.Cond.fieldLinkNest "ConditionRows" (232 : Nat) "ConditionRows$Testing" "waiting" "[I" "ConditionRows") ∈ zN := List.mem_of_getElem? (i := 25) rfl
theorem zn_26 : (Jvm.Cond.fieldLinkNest "ConditionRows" (167 : Nat) "ConditionRows$Testing" "noted" "I" "ConditionRows") ∈ zN := List.mem_of_getElem? (i := 26) rfl
theorem zn_27 : (Jvm.Cond.fieldLinkNest "ConditionRows" (229 : Nat) "ConditionRows$Testing" "depth" "I" "ConditionRows") ∈ zN := List.mem_of_getElem? (i := 27) rfl
theorem zn_28 : (Jvm.Cond.methodLinkNest "ConditionRows$Names" (33 : Nat) ({ cls := "ConditionRows", name := "isBelowUnsigned", desc := "(JJ)Z" } : Jvm.MethodName) "ConditionRows") ∈ zN := List.mem_of_getElem? (i := 28) rfl
theorem zn_29 : (Jvm.Cond.fieldLinkNest "ConditionRows$Fields" (67 : Nat) "ConditionRows" "TENS" "[J" "ConditionRows") ∈ zN := List.mem_of_getElem? (i := 29) rfl
end
section
/-! our frame: a world of fixed cells, what a method is given (zPc), what it hands back (zQi ..), its calls -/
abbrev zK : Type := Nat × ClassId × ClassId × ClassId
def zty (k : zK) : List (ClassId × FieldType) := [(k.2.1, .int), (k.2.2.1, .long), (k.2.2.2, .boolean)]
def zA (n : Nat) (a : Nat → Nat) : Nat → Prop := fun q => ∃ j, j < n ∧ q = a j
def zI (n : Nat) (a : Nat → Nat) : Prop := ∀ i j, i < n → j < n → a i = a j → i = j
theorem zDg {n : Nat} {a : Nat → Nat} {ws : va_W} (hI : zI n a) (h : ws.map (fun q => q.1) = (List.range n).map a) : va_D (zA n a) ws := by
  have key : ∀ (i : Nat) (p : Nat × va_E), ws[i]? = some p → i < n ∧ p.1 = a i := by
    intro i p hp
    have h1 : (ws.map (fun q => q.1))[i]? = some p.1 := by rw [List.getElem?_map, hp]; rfl
    rw [h, List.getElem?_map] at h1
    by_cases hi : i < n
    · rw [List.getElem?_range hi] at h1
      exact ⟨hi, (Option.some.inj h1).symm⟩
    · rw [List.getElem?_eq_none (by simp; omega)] at h1
      cases h1
  refine ⟨fun i j p q hp hq e => ?_, fun i p hp => ?_⟩
  · obtain ⟨h1, h2⟩ := key i p hp
    obtain ⟨h3, h4⟩ := key j q hq
    exact hI i j h1 h3 (by rw [← h2, ← h4]; exact e)
  · obtain ⟨h1, h2⟩ := key i p hp
    exact ⟨i, h1, h2⟩
def zNk : Cond → Bool
  | .fieldLinkNest .. => true
  | .methodLinkNest .. => true
  | _ => false
theorem zNk_at {w : Cond} (h : zNk w = true) {s U : State} (hW : s.WarmedH U.vm) (hz : va_Nw w s) : va_Nw w U := by
  cases w <;> first | exact va_Nw.warmF hW hz | exact va_Nw.warmM hW hz | (exact absurd h (by simp [zNk]))
theorem zN_k : ∀ w ∈ zN, zNk w = true := by decide +kernel
def tensL : List Int64 := [1, 10, 100, 1000, 10000, 100000, 1000000, 10000000, 100000000, 1000000000]
def tens (j : Nat) : Int64 := tensL.getD j 0
/-- the surroundings: the tables, the nest's links, the class's one static table -/
def zE (D : va_G) (k : zK) (A : Nat → Prop) (U : State) : Prop := va_K D vwCl (zty k) U ∧ (∀ w ∈ zN, va_Nw w U) ∧ va_Z "ConditionRows" "TENS" "[J" (.ref k.1) A U U.heap ∧ va_T .long k.1 10 (fun j => .long (tens j)) A U U.heap
theorem zE.to {D : va_G} {k : zK} {A : Nat → Prop} {s U : State} {H : Heap} (h : zE D k A s) (hq : ∀ q : Nat, q < s.heap.size → ¬ A q → H[q]? = s.heap[q]?) (hW : s.WarmedH U.vm) (hU : U.heap = H) : zE D k A U := by
  obtain ⟨h1, h2, h3, h4⟩ := h
  refine ⟨va_K.moved hW.alike h1, fun w hw => zNk_at (zN_k w hw) hW (h2 w hw), ?_, ?_⟩
  · rw [hU]; exact va_Z.moved hW.alike (h3.kept hq)
  · rw [hU]; exact va_T.moved hW.alike (h4.kept hq)
theorem zE.blind {D : va_G} {k : zK} {A : Nat → Prop} {U : State} (h : zE D k A U) (g : JFrame) (mk : MethodId) (a : Array Value) : zE D k A (U.calling g mk a) :=
  h.to (fun _ _ _ => rfl) (State.WarmedH.refl U) rfl
def zPc (D : va_G) (k : zK) (A : Nat → Prop) (w : va_W) (av : List Value) : Array Value → State → Prop := va_Pc av (fun U => va_P D vwCl w U.heap ∧ zE D k A U)
theorem zpreS {D : va_G} {k : zK} {A : Nat → Prop} {w : va_W} {s : State} {H : Heap} {As : List Value} (hP : va_P D vwCl w H) (hE : zE D k A s) (hq : ∀ q : Nat, q < s.heap.size → ¬ A q → H[q]? = s.heap[q]?) : PreS s H (zPc D k A w As) As :=
  ⟨fun a U g mk q => ⟨q.1, q.2.1, q.2.2.blind g mk a⟩, fun U hU hW => ⟨rfl, by rw [hU]; exact hP, hE.to hq hW hU⟩⟩
theorem zpre {D : va_G} {k : zK} {A : Nat → Prop} {w : va_W} {s : State} {H : Heap} {As : List Value} {C : String} {b : Addr} (hP : va_P D vwCl w H) (hE : zE D k A s) (hq : ∀ q : Nat, q < s.heap.size → ¬ A q → H[q]? = s.heap[q]?) (hr : ∃ cellB : Cell, H[b]? = some cellB ∧ cellB.vm.isStatics = false ∧ s.vm.findClass C = some cellB.cls) : PreV s H C b (zPc D k A w (.ref b :: As)) As :=
  ⟨fun a U g mk q => ⟨q.1, q.2.1, q.2.2.blind g mk a⟩, hr, fun U hU hW => ⟨rfl, by rw [hU]; exact hP, hE.to hq hW hU⟩⟩
def zQi {S : Type} (D : va_G) (w : S → va_W) (A : Nat → Prop) (rs : Int32 × S) : Array Value → State → Outcome → State → Prop := fun _ st oc t => oc = .returned (some (.int rs.1)) ∧ va_P D vwCl (w rs.2) t.heap ∧ va_F A st t
def zQl {S : Type} (D : va_G) (w : S → va_W) (A : Nat → Prop) (rs : Int64 × S) : Array Value → State → Outcome → State → Prop := fun _ st oc t => oc = .returned (some (.long rs.1)) ∧ va_P D vwCl (w rs.2) t.heap ∧ va_F A st t
def zQv {S : Type} (D : va_G) (w : S → va_W) (A : Nat → Prop) (u : S) : Array Value → State → Outcome → State → Prop := fun _ st oc t => oc = .returned none ∧ va_P D vwCl (w u) t.heap ∧ va_F A st t
def zC (p : Program) (s : State) (m : MethodId) (args : Array Value) (meth : Method) (c : Code) (cc : ByteArray) (ret : Option FieldType) (nL : Nat) (own : String) (ws : List Cond) (D : va_G) (k : zK) (A : Nat → Prop) : Prop :=
  p.tables.exec = Jvm.exec ∧ c.code = cc ∧ meth.sig.returnType = ret ∧ c.maxLocals = nL ∧ s.vm.findClass own = some m.cls ∧ (∀ w ∈ ws, w.before args s = true) ∧ meth.locks = false ∧ zE D k A s
theorem zt {α : Sort _} {c : Prop} [Decidable c] {a b t : α} (h : c) (e : (if c then a else b) = t) : a = t := (if_pos h).symm.trans e
theorem zn {α : Sort _} {c : Prop} [Decidable c] {a b t : α} (h : ¬ c) (e : (if c then a else b) = t) : b = t := (if_neg h).symm.trans e
theorem zgt {c : Prop} [Decidable c] {A B : Prop} (h : c) (e : if c then A else B) : A := by rw [if_pos h] at e; exact e
theorem zgn {c : Prop} [Decidable c] {A B : Prop} (h : ¬ c) (e : if c then A else B) : B := by rw [if_neg h] at e; exact e
theorem zb {x : Int32} (h : x = 0 ∨ x = 1) : narrow .boolean (.int x) = .int x := by rcases h with h | h <;> (subst h; rfl)
def zlet {α : Type} {β : Sort _} (x : α) (f : α → β) : β := f x
theorem zlets {S β : Type} {E : S} {w : S → va_W} {D : va_G} {H : Heap} {f : S → β} {t : β} {g : S → Prop} (hP : va_P D vwCl (w E) H) (hf : zlet E f = t) (hg : zlet E g) : ∃ z, va_P D vwCl (w z) H ∧ f z = t ∧ g z := ⟨E, hP, hf, hg⟩
section ZM
variable {p : Program} {l : Launch} {e : Env} {R : Room} {s : State} {m : MethodId} {args : Array Value} {below : List Frame} {meth : Method} {c : Code} {H : Heap} {locs : List Loc} {cells slots : Nat} {Q : State → Prop}
variable {pc : Nat} {ls : Array Slot} {rest st0 : List Value} {a : Array Value} {A A0 : Nat → Prop} {H0 : Heap} {D : va_G} {S : Type} {w : S → va_W}
theorem zS_call {L : List Loc} {st₀ t T' : State} (hS : va_S A0 H0 H locs) (hA : ∀ q, A q → A0 q) (h0 : st₀.heap = H) (e1 : T'.heap = t.heap) (hL : ∀ q ∈ L, A q.base) (hF : va_F A st₀ t) : va_S A0 H0 T'.heap (locs ++ L) ∧ H.size ≤ T'.heap.size ∧ ∀ q : Nat, q < H.size → ¬ A q → T'.heap[q]? = H[q]? := by
  obtain ⟨f1, f2⟩ := hF
  rw [h0] at f1 f2
  rw [e1]
  refine ⟨⟨Nat.le_trans hS.1 f1, fun q h1 h2 => ?_, fun q hq => ?_⟩, f1, f2⟩
  · rw [f2 q (Nat.lt_of_lt_of_le h1 hS.1) (fun z => h2 (hA q z))]
    exact hS.2.1 q h1 h2
  · rcases List.mem_append.mp hq with h | h
    · exact hS.2.2 q h
    · exact hA _ (hL q h)
theorem zmuI {rs : Int32 × S} (hr : CallRun p l e R s m args below meth c H locs cells slots 0 0 (F0 m pc ls st0) rest (zQi D w A rs a) A) (hS : va_S A0 H0 H locs) (hA : ∀ q, A q → A0 q)
    (kk : ∀ (H1 : Heap) (locs1 : List Loc), va_P D vwCl (w rs.2) H1 → va_S A0 H0 H1 locs1 → H.size ≤ H1.size → (∀ q : Nat, q < H.size → ¬ A q → H1[q]? = H[q]?) → W p l e R s m args below meth c H1 locs1 cells slots Q (F0 m (pc + 3) ls (.int rs.1 :: rest))) : W p l e R s m args below meth c H locs cells slots Q (F0 m pc ls st0) := by
  intro T hT X
  obtain ⟨v, st₀, t, T', L, h0, X', hL, e1, ⟨hv, hp, hF⟩, st⟩ := hr T hT X
  cases hv
  obtain ⟨g1, g2, g3⟩ := zS_call (T' := T') hS hA h0 e1 hL hF
  obtain ⟨t2, a1, b1⟩ := kk T'.heap (locs ++ L) (by rw [e1]; exact hp) g1 g2 g3 T' rfl X'
  exact ⟨t2, st t2 a1, b1⟩
theorem zmuL {rs : Int64 × S} (hr : CallRun p l e R s m args below meth c H locs cells slots 0 0 (F0 m pc ls st0) rest (zQl D w A rs a) A) (hS : va_S A0 H0 H locs) (hA : ∀ q, A q → A0 q)
    (kk : ∀ (H1 : Heap) (locs1 : List Loc), va_P D vwCl (w rs.2) H1 → va_S A0 H0 H1 locs1 → H.size ≤ H1.size → (∀ q : Nat, q < H.size → ¬ A q → H1[q]? = H[q]?) → W p l e R s m args below meth c H1 locs1 cells slots Q (F0 m (pc + 3) ls (.long rs.1 :: rest))) : W p l e R s m args below meth c H locs cells slots Q (F0 m pc ls st0) := by
  intro T hT X
  obtain ⟨v, st₀, t, T', L, h0, X', hL, e1, ⟨hv, hp, hF⟩, st⟩ := hr T hT X
  cases hv
  obtain ⟨g1, g2, g3⟩ := zS_call (T' := T') hS hA h0 e1 hL hF
  obtain ⟨t2, a1, b1⟩ := kk T'.heap (locs ++ L) (by rw [e1]; exact hp) g1 g2 g3 T' rfl X'
  exact ⟨t2, st t2 a1, b1⟩
theorem zmuV {u : S} (hr : CallRun p l e R s m args below meth c H locs cells slots 0 0 (F0 m pc ls st0) rest (zQv D w A u a) A) (hS : va_S A0 H0 H locs) (hA : ∀ q, A q → A0 q)
    (kk : ∀ (H1 : Heap) (locs1 : List Loc), va_P D vwCl (w u) H1 → va_S A0 H0 H1 locs1 → H.size ≤ H1.size → (∀ q : Nat, q < H.size → ¬ A q → H1[q]? = H[q]?) → W p l e R s m args below meth c H1 locs1 cells slots Q (F0 m (pc + 3) ls rest)) : W p l e R s m args below meth c H locs cells slots Q (F0 m pc ls st0) := by
  intro T hT X
  obtain ⟨v, st₀, t, T', L, h0, X', hL, e1, ⟨hv, hp, hF⟩, st⟩ := hr T hT X
  cases hv
  obtain ⟨g1, g2, g3⟩ := zS_call (T' := T') hS hA h0 e1 hL hF
  obtain ⟨t2, a1, b1⟩ := kk T'.heap (locs ++ L) (by rw [e1]; exact hp) g1 g2 g3 T' rfl X'
  exact ⟨t2, st t2 a1, b1⟩
theorem zmui {rs : Int32 × S} {β : Type} {ff : Int32 × S → β} {tt : β} {gg : Int32 × S → Prop} (hr : CallRun p l e R s m args below meth c H locs cells slots 0 0 (F0 m pc ls st0) rest (zQi D w A rs a) A) (hS : va_S A H0 H locs) (hf : zlet rs ff = tt) (hg : zlet rs gg)
    (kk : ∀ (r : Int32 × S) (H1 : Heap) (locs1 : List Loc), ff r = tt → gg r → va_P D vwCl (w r.2) H1 → va_S A H0 H1 locs1 → W p l e R s m args below meth c H1 locs1 cells slots Q (F0 m (pc + 3) ls (.int r.1 :: rest))) : W p l e R s m args below meth c H locs cells slots Q (F0 m pc ls st0) :=
  zmuI hr hS (fun _ h => h) (fun H1 locs1 h1 h2 _ _ => kk rs H1 locs1 hf hg h1 h2)
theorem zmul {rs : Int64 × S} {β : Type} {ff : Int64 × S → β} {tt : β} {gg : Int64 × S → Prop} (hr : CallRun p l e R s m args below meth c H locs cells slots 0 0 (F0 m pc ls st0) rest (zQl D w A rs a) A) (hS : va_S A H0 H locs) (hf : zlet rs ff = tt) (hg : zlet rs gg)
    (kk : ∀ (r : Int64 × S) (H1 : Heap) (locs1 : List Loc), ff r = tt → gg r → va_P D vwCl (w r.2) H1 → va_S A H0 H1 locs1 → W p l e R s m args below meth c H1 locs1 cells slots Q (F0 m (pc + 3) ls (.long r.1 :: rest))) : W p l e R s m args below meth c H locs cells slots Q (F0 m pc ls st0) :=
  zmuL hr hS (fun _ h => h) (fun H1 locs1 h1 h2 _ _ => kk rs H1 locs1 hf hg h1 h2)
theorem zmuv {u : S} {β : Type} {ff : S → β} {tt : β} {gg : S → Prop} (hr : CallRun p l e R s m args below meth c H locs cells slots 0 0 (F0 m pc ls st0) rest (zQv D w A u a) A) (hS : va_S A H0 H locs) (hf : zlet u ff = tt) (hg : zlet u gg)
    (kk : ∀ (r : S) (H1 : Heap) (locs1 : List Loc), ff r = tt → gg r → va_P D vwCl (w r) H1 → va_S A H0 H1 locs1 → W p l e R s m args below meth c H1 locs1 cells slots Q (F0 m (pc + 3) ls rest)) : W p l e R s m args below meth c H locs cells slots Q (F0 m pc ls st0) :=
  zmuV hr hS (fun _ h => h) (fun H1 locs1 h1 h2 _ _ => kk u H1 locs1 hf hg h1 h2)
theorem zRun {mc ms : Nat} {g : JFrame} {Qa : State → Outcome → State → Prop} {free : Addr → Prop} (h : va_Run p l e R s m args below meth c H locs cells slots mc ms g rest Qa free) : CallRun p l e R s m args below meth c H locs cells slots mc ms g rest Qa free := by
  intro T hT X
  obtain ⟨v, st₀, t, T', L, h0, X', hL, e1, -, hq, st⟩ := h T hT X
  exact ⟨v, st₀, t, T', L, h0, X', hL, e1, hq, st⟩
end ZM
end
section
abbrev XS : Type := Int32 × Int32 × (Nat → Int32) × (Nat → Int32) × (Nat → Int32) × (Nat → Int32) × (Nat → Int32) × Int32 × (Nat → Int32) × (Nat → Int32) × (Nat → Int64) × (Nat → Int64) × Int32 × (Nat → Int32) × (Nat → Int32) × (Nat → Int32) × Int32 × Int32 × Int32 × (Nat → Int32) × (Nat → Int32) × (Nat → Int32) × (Nat → Int32) × Int32 × Int32 × (Nat → Int32) × (Nat → Int32) × (Nat → Int32) × (Nat → Int32) × (Nat → Int32) × (Nat → Int32)
def Xg_whole (u : XS) : Int32 := u.1
def Xg_fields_made (u : XS) : Int32 := u.2.1
def Xg_fields_category (u : XS) : Nat → Int32 := u.2.2.1
def Xg_fields_size (u : XS) : Nat → Int32 := u.2.2.2.1
def Xg_fields_scale (u : XS) : Nat → Int32 := u.2.2.2.2.1
def Xg_fields_bytes (u : XS) : Nat → Int32 := u.2.2.2.2.2.1
def Xg_weights_of (u : XS) : Nat → Int32 := u.2.2.2.2.2.2.1
def Xg_names_made (u : XS) : Int32 := u.2.2.2.2.2.2.2.1
def Xg_names_field (u : XS) : Nat → Int32 := u.2.2.2.2.2.2.2.2.1
def Xg_names_ranges (u : XS) : Nat → Int32 := u.2.2.2.2.2.2.2.2.2.1
def Xg_names_low (u : XS) : Nat → Int64 := u.2.2.2.2.2.2.2.2.2.2.1
def Xg_names_high (u : XS) : Nat → Int64 := u.2.2.2.2.2.2.2.2.2.2.2.1
def Xg_nodes_made (u : XS) : Int32 := u.2.2.2.2.2.2.2.2.2.2.2.2.1
def Xg_nodes_op (u : XS) : Nat → Int32 := u.2.2.2.2.2.2.2.2.2.2.2.2.2.1
def Xg_nodes_a (u : XS) : Nat → Int32 := u.2.2.2.2.2.2.2.2.2.2.2.2.2.2.1
def Xg_nodes_b (u : XS) : Nat → Int32 := u.2.2.2.2.2.2.2.2.2.2.2.2.2.2.2.1
def Xg_row_subject (u : XS) : Int32 := u.2.2.2.2.2.2.2.2.2.2.2.2.2.2.2.2.1
def Xg_row_carried (u : XS) : Int32 := u.2.2.2.2.2.2.2.2.2.2.2.2.2.2.2.2.2.1
def Xg_row_length (u : XS) : Int32 := u.2.2.2.2.2.2.2.2.2.2.2.2.2.2.2.2.2.2.1
def Xg_row_with (u : XS) : Nat → Int32 := u.2.2.2.2.2.2.2.2.2.2.2.2.2.2.2.2.2.2.2.1
def Xg_row_op (u : XS) : Nat → Int32 := u.2.2.2.2.2.2.2.2.2.2.2.2.2.2.2.2.2.2.2.2.1
def Xg_row_negated (u : XS) : Nat → Int32 := u.2.2.2.2.2.2.2.2.2.2.2.2.2.2.2.2.2.2.2.2.2.1
def Xg_row_object (u : XS) : Nat → Int32 := u.2.2.2.2.2.2.2.2.2.2.2.2.2.2.2.2.2.2.2.2.2.2.1
def Xg_testing_noted (u : XS) : Int32 := u.2.2.2.2.2.2.2.2.2.2.2.2.2.2.2.2.2.2.2.2.2.2.2.1
def Xg_testing_depth (u : XS) : Int32 := u.2.2.2.2.2.2.2.2.2.2.2.2.2.2.2.2.2.2.2.2.2.2.2.2.1
def Xg_testing_outcome (u : XS) : Nat → Int32 := u.2.2.2.2.2.2.2.2.2.2.2.2.2.2.2.2.2.2.2.2.2.2.2.2.2.1
def Xg_testing_leaves (u : XS) : Nat → Int32 := u.2.2.2.2.2.2.2.2.2.2.2.2.2.2.2.2.2.2.2.2.2.2.2.2.2.2.1
def Xg_testing_waiting (u : XS) : Nat → Int32 := u.2.2.2.2.2.2.2.2.2.2.2.2.2.2.2.2.2.2.2.2.2.2.2.2.2.2.2.1
def Xg_switches (u : XS) : Nat → Int32 := u.2.2.2.2.2.2.2.2.2.2.2.2.2.2.2.2.2.2.2.2.2.2.2.2.2.2.2.2.1
def Xg_leftText (u : XS) : Nat → Int32 := u.2.2.2.2.2.2.2.2.2.2.2.2.2.2.2.2.2.2.2.2.2.2.2.2.2.2.2.2.2.1
def Xg_rightText (u : XS) : Nat → Int32 := u.2.2.2.2.2.2.2.2.2.2.2.2.2.2.2.2.2.2.2.2.2.2.2.2.2.2.2.2.2.2
def Xs_whole (u : XS) (v : Int32) : XS := (v, u.2.1, u.2.2.1, u.2.2.2.1, u.2.2.2.2.1, u.2.2.2.2.2.1, u.2.2.2.2.2.2.1, u.2.2.2.2.2.2.2.1, u.2.2.2.2.2.2.2.2.1, u.2.2.2.2.2.2.2.2.2.1, u.2.2.2.2.2.2.2.2.2.2.1, u.2.2.2.2.2.2.2.2.2.2.2.1, u.2.2.2.2.2.2.2.2.2.2.2.2.1, u.2.2.2.2.2.2.2.2.2.2.2.2.2.1, u.2.2.2.2.2.2.2.2.2.2.2.2.2.2.1, u.2.2.2.2.2.2.2.2.2.2.2.2.2.2.2.1, u.2.2.2.2.2.2.2.2.2.2.2.2.2.2.2.2.1, u.2.2.2.2.2.2.2.2.2.2.2.2.2.2.2.2.2.1, u.2.2.2.2.2.2.2.2.2.2.2.2.2.2.2.2.2.2.1, u.2.2.2.2.2.2.2.2.2.2.2.2.2.2.2.2.2.2.2.1, u.2.2.2.2.2.2.2.2.2.2.2.2.2.2.2.2.2.2.2.2.1, u.2.2.2.2.2.2.2.2.2.2.2.2.2.2.2.2.2.2.2.2.2.1, u.2.2.2.2.2.2.2.2.2.2.2.2.2.2.2.2.2.2.2.2.2.2.1, u.2.2.2.2.2.2.2.2.2.2.2.2.2.2.2.2.2.2.2.2.2.2.2.1, u.2.2.2.2.2.2.2.2.2.2.2.2.2.2.2.2.2.2.2.2.2.2.2.2.1, u.2.2.2.2.2.2.2.2.2.2.2.2.2.2.2.2.2.2.2.2.2.2.2.2.2.1, u.2.2.2.2.2.2.2.2.2.2.2.2.2.2.2.2.2.2.2.2.2.2.2.2.2.2.1, u.2.2.2.2.2.2.2.2.2.2.2.2.2.2.2.2.2.2.2.2.2.2.2.2.2.2.2.1, u.2.2.2.2.2.2.2.2.2.2.2.2.2.2.2.2.2.2.2.2.2.2.2.2.2.2.2.2.1, u.2.2.2.2.2.2.2.2.2.2.2.2.2.2.2.2.2.2.2.2.2.2.2.2.2.2.2.2.2.1, u.2.2.2.2.2.2.2.2.2.2.2.2.2.2.2.2.2.2.2.2.2.2.2.2.2.2.2.2.2.2)
def Xs_fields_made (u : XS) (v : Int32) : XS := (u.1, v, u.2.2.1, u.2.2.2.1, u.2.2.2.2.1, u.2.2.2.2.2.1, u.2.2.2.2.2.2.1, u.2.2.2.2.2.2.2.1, u.2.2.2.2.2.2.2.2.1, u.2.2.2.2.2.2.2.2.2.1, u.2.2.2.2.2.2.2.2.2.2.1, u.2.2.2.2.2.2.2.2.2.2.2.1, u.2.2.2.2.2.2.2.2.2.2.2.2.1, u.2.2.2.2.2.2.2.2.2.2.2.2.2.1, u.2.2.2.2.2.2.2.2.2.2.2.2.2.2.1, u.2.2.2.2.2.2.2.2.2.2.2.2.2.2.2.1, u.2.2.2.2.2.2.2.2.2.2.2.2.2.2.2.2.1, u.2.2.2.2.2.2.2.2.2.2.2.2.2.2.2.2.2.1, u.2.2.2.2.2.2.2.2.2.2.2.2.2.2.2.2.2.2.1, u.2.2.2.2.2.2.2.2.2.2.2.2.2.2.2.2.2.2.2.1, u.2.2.2.2.2.2.2.2.2.2.2.2.2.2.2.2.2.2.2.2.1, u.2.2.2.2.2.2.2.2.2.2.2.2.2.2.2.2.2.2.2.2.2.1, u.2.2.2.2.2.2.2.2.2.2.2.2.2.2.2.2.2.2.2.2.2.2.1, u.2.2.2.2.2.2.2.2.2.2.2.2.2.2.2.2.2.2.2.2.2.2.2.1, u.2.2.2.2.2.2.2.2.2.2.2.2.2.2.2.2.2.2.2.2.2.2.2.2.1, u.2.2.2.2.2.2.2.2.2.2.2.2.2.2.2.2.2.2.2.2.2.2.2.2.2.1, u.2.2.2.2.2.2.2.2.2.2.2.2.2.2.2.2.2.2.2.2.2.2.2.2.2.2.1, u.2.2.2.2.2.2.2.2.2.2.2.2.2.2.2.2.2.2.2.2.2.2.2.2.2.2.2.1, u.2.2.2.2.2.2.2.2.2.2.2.2.2.2.2.2.2.2.2.2.2.2.2.2.2.2.2.2.1, u.2.2.2.2.2.2.2.2.2.2.2.2.2.2.2.2.2.2.2.2.2.2.2.2.2.2.2.2.2.1, u.2.2.2.2.2.2.2.2.2.2.2.2.2.2.2.2.2.2.2.2.2.2.2.2.2.2.2.2.2.2)
def Xs_fields_category (u : XS) (v : Nat → Int32) : XS := (u.1, u.2.1, v, u.2.2.2.1, u.2.2.2.2.1, u.2.2.2.2.2.1, u.2.2.2.2.2.2.1, u.2.2.2.2.2.2.2.1, u.2.2.2.2.2.2.2.2.1, u.2.2.2.2.2.2.2.2.2.1, u.2.2.2.2.2.2.2.2.2.2.1, u.2.2.2.2.2.2.2.2.2.2.2.1, u.2.2.2.2.2.2.2.2.2.2.2.2.1, u.2.2.2.2.2.2.2.2.2.2.2.2.2.1, u.2.2.2.2.2.2.2.2.2.2.2.2.2.2.1, u.2.2.2.2.2.2.2.2.2.2.2.2.2.2.2.1, u.2.2.2.2.2.2.2.2.2.2.2.2.2.2.2.2.1, u.2.2.2.2.2.2.2.2.2.2.2.2.2.2.2.2.2.1, u.2.2.2.2.2.2.2.2.2.2.2.2.2.2.2.2.2.2.1, u.2.2.2.2.2.2.2.2.2.2.2.2.2.2.2.2.2.2.2.1, u.2.2.2.2.2.2.2.2.2.2.2.2.2.2.2.2.2.2.2.2.1, u.2.2.2.2.2.2.2.2.2.2.2.2.2.2.2.2.2.2.2.2.2.1, u.2.2.2.2.2.2.2.2.2.2.2.2.2.2.2.2.2.2.2.2.2.2.1, u.2.2.2.2.2.2.2.2.2.2.2.2.2.2.2.2.2.2.2.2.2.2.2.1, u.2.2.2.2.2.2.2.2.2.2.2.2.2.2.2.2.2.2.2.2.2.2.2.2.1, u.2.2.2.2.2.2.2.2.2.2.2.2.2.2.2.2.2.2.2.2.2.2.2.2.2.1, u.2.2.2.2.2.2.2.2.2.2.2.2.2.2.2.2.2.2.2.2.2.2.2.2.2.2.1, u.2.2.2.2.2.2.2.2.2.2.2.2.2.2.2.2.2.2.2.2.2.2.2.2.2.2.2.1, u.2.2.2.2.2.2.2.2.2.2.2.2.2.2.2.2.2.2.2.2.2.2.2.2.2.2.2.2.1, u.2.2.2.2.2.2.2.2.2.2.2.2.2.2.2.2.2.2.2.2.2.2.2.2.2.2.2.2.2.1, u.2.2.2.2.2.2.2.2.2.2.2.2.2.2.2.2.2.2.2.2.2.2.2.2.2.2.2.2.2.2)
def Xs_fields_size (u : XS) (v : Nat → Int32) : XS := (u.1, u.2.1, u.2.2.1, v, u.2.2.2.2.1, u.2.2.2.2.2.1, u.2.2.2.2.2.2.1, u.2.2.2.2.2.2.2.1, u.2.2.2.2.2.2.2.2.1, u.2.2.2.2.2.2.2.2.2.1, u.2.2.2.2.2.2.2.2.2.2.1, u.2.2.2.2.2.2.2.2.2.2.2.1, u.2.2.2.2.2.2.2.2.2.2.2.2.1, u.2.2.2.2.2.2.2.2.2.2.2.2.2.1, u.2.2.2.2.2.2.2.2.2.2.2.2.2.2.1, u.2.2.2.2.2.2.2.2.2.2.2.2.2.2.2.1, u.2.2.2.2.2.2.2.2.2.2.2.2.2.2.2.2.1, u.2.2.2.2.2.2.2.2.2.2.2.2.2.2.2.2.2.1, u.2.2.2.2.2.2.2.2.2.2.2.2.2.2.2.2.2.2.1, u.2.2.2.2.2.2.2.2.2.2.2.2.2.2.2.2.2.2.2.1, u.2.2.2.2.2.2.2.2.2.2.2.2.2.2.2.2.2.2.2.2.1, u.2.2.2.2.2.2.2.2.2.2.2.2.2.2.2.2.2.2.2.2.2.1, u.2.2.2.2.2.2.2.2.2.2.2.2.2.2.2.2.2.2.2.2.2.2.1, u.2.2.2.2.2.2.2.2.2.2.2.2.2.2.2.2.2.2.2.2.2.2.2.1, u.2.2.2.2.2.2.2.2.2.2.2.2.2.2.2.2.2.2.2.2.2.2.2.2.1, u.2.2.2.2.2.2.2.2.2.2.2.2.2.2.2.2.2.2.2.2.2.2.2.2.2.1, u.2.2.2.2.2.2.2.2.2.2.2.2.2.2.2.2.2.2.2.2.2.2.2.2.2.2.1, u.2.2.2.2.2.2.2.2.2.2.2.2.2.2.2.2.2.2.2.2.2.2.2.2.2.2.2.1, u.2.2.2.2.2.2.2.2.2.2.2.2.2.2.2.2.2.2.2.2.2.2.2.2.2.2.2.2.1, u.2.2.2.2.2.2.2.2.2.2.2.2.2.2.2.2.2.2.2.2.2.2.2.2.2.2.2.2.2.1, u.2.2.2.2.2.2.2.2.2.2.2.2.2.2.2.2.2.2.2.2.2.2.2.2.2.2.2.2.2.2)
def Xs_fields_scale (u : XS) (v : Nat → Int32) : XS := (u.1, u.2.1, u.2.2.1, u.2.2.2.1, v, u.2.2.2.2.2.1, u.2.2.2.2.2.2.1, u.2.2.2.2.2.2.2.1, u.2.2.2.2.2.2.2.2.1, u.2.2.2.2.2.2.2.2.2.1, u.2.2.2.2.2.2.2.2.2.2.1, u.2.2.2.2.2.2.2.2.2.2.2.1, u.2.2.2.2.2.2.2.2.2.2.2.2.1, u.2.2.2.2.2.2.2.2.2.2.2.2.2.1, u.2.2.2.2.2.2.2.2.2.2.2.2.2.2.1, u.2.2.2.2.2.2.2.2.2.2.2.2.2.2.2.1, u.2.2.2.2.2.2.2.2.2.2.2.2.2.2.2.2.1, u.2.2.2.2.2.2.2.2.2.2.2.2.2.2.2.2.2.1, u.2.2.2.2.2.2.2.2.2.2.2.2.2.2.2.2.2.2.1, u.2.2.2.2.2.2.2.2.2.2.2.2.2.2.2.2.2.2.2.1, u.2.2.2.2.2.2.2.2.2.2.2.2.2.2.2.2.2.2.2.2.1, u.2.2.2.2.2.2.2.2.2.2.2.2.2.2.2.2.2.2.2.2.2.1, u.2.2.2.2.2.2.2.2.2.2.2.2.2.2.2.2.2.2.2.2.2.2.1, u.2.2.2.2.2.2.2.2.2.2.2.2.2.2.2.2.2.2.2.2.2.2.2.1, u.2.2.2.2.2.2.2.2.2.2.2.2.2.2.2.2.2.2.2.2.2.2.2.2.1, u.2.2.2.2.2.2.2.2.2.2.2.2.2.2.2.2.2.2.2.2.2.2.2.2.2.1, u.2.2.2.2.2.2.2.2.2.2.2.2.2.2.2.2.2.2.2.2.2.2.2.2.2.2.1, u.2.2.2.2.2.2.2.2.2.2.2.2.2.2.2.2.2.2.2.2.2.2.2.2.2.2.2.1, u.2.2.2.2.2.2.2.2.2.2.2.2.2.2.2.2.2.2.2.2.2.2.2.2.2.2.2.2.1, u.2.2.2.2.2.2.2.2.2.2.2.2.2.2.2.2.2.2.2.2.2.2.2.2.2.2.2.2.2.1, u.2.2.2.2.2.2.2.2.2.2.2.2.2.2.2.2.2.2.2.2.2.2.2.2.2.2.2.2.2.2)
def Xs_fields_bytes (u : XS) (v : Nat → Int32) : XS := (u.1, u.2.1, u.2.2.1, u.2.2.2.1, u.2.2.2.2.1, v, u.2.2.2.2.2.2.1, u.2.2.2.2.2.2.2.1, u.2.2.2.2.2.2.2.2.1, u.2.2.2.2.2.2.2.2.2.1, u.2.2.2.2.2.2.2.2.2.2.1, u.2.2.2.2.2.2.2.2.2.2.2.1, u.2.2.2.2.2.2.2.2.2.2.2.2.1, u.2.2.2.2.2.2.2.2.2.2.2.2.2.1, u.2.2.2.2.2.2.2.2.2.2.2.2.2.2.1, u.2.2.2.2.2.2.2.2.2.2.2.2.2.2.2.1, u.2.2.2.2.2.2.2.2.2.2.2.2.2.2.2.2.1, u.2.2.2.2.2.2.2.2.2.2.2.2.2.2.2.2.2.1, u.2.2.2.2.2.2.2.2.2.2.2.2.2.2.2.2.2.2.1, u.2.2.2.2.2.2.2.2.2.2.2.2.2.2.2.2.2.2.2.1, u.2.2.2.2.2.2.2.2.2.2.2.2.2.2.2.2.2.2.2.2.1, u.2.2.2.2.2.2.2.2.2.2.2.2.2.2.2.2.2.2.2.2.2.1, u.2.2.2.2.2.2.2.2.2.2.2.2.2.2.2.2.2.2.2.2.2.2.1, u.2.2.2.2.2.2.2.2.2.2.2.2.2.2.2.2.2.2.2.2.2.2.2.1, u.2.2.2.2.2.2.2.2.2.2.2.2.2.2.2.2.2.2.2.2.2.2.2.2.1, u.2.2.2.2.2.2.2.2.2.2.2.2.2.2.2.2.2.2.2.2.2.2.2.2.2.1, u.2.2.2.2.2.2.2.2.2.2.2.2.2.2.2.2.2.2.2.2.2.2.2.2.2.2.1, u.2.2.2.2.2.2.2.2.2.2.2.2.2.2.2.2.2.2.2.2.2.2.2.2.2.2.2.1, u.2.2.2.2.2.2.2.2.2.2.2.2.2.2.2.2.2.2.2.2.2.2.2.2.2.2.2.2.1, u.2.2.2.2.2.2.2.2.2.2.2.2.2.2.2.2.2.2.2.2.2.2.2.2.2.2.2.2.2.1, u.2.2.2.2.2.2.2.2.2.2.2.2.2.2.2.2.2.2.2.2.2.2.2.2.2.2.2.2.2.2)
def Xs_weights_of (u : XS) (v : Nat → Int32) : XS := (u.1, u.2.1, u.2.2.1, u.2.2.2.1, u.2.2.2.2.1, u.2.2.2.2.2.1, v, u.2.2.2.2.2.2.2.1, u.2.2.2.2.2.2.2.2.1, u.2.2.2.2.2.2.2.2.2.1, u.2.2.2.2.2.2.2.2.2.2.1, u.2.2.2.2.2.2.2.2.2.2.2.1, u.2.2.2.2.2.2.2.2.2.2.2.2.1, u.2.2.2.2.2.2.2.2.2.2.2.2.2.1, u.2.2.2.2.2.2.2.2.2.2.2.2.2.2.1, u.2.2.2.2.2.2.2.2.2.2.2.2.2.2.2.1, u.2.2.2.2.2.2.2.2.2.2.2.2.2.2.2.2.1, u.2.2.2.2.2.2.2.2.2.2.2.2.2.2.2.2.2.1, u.2.2.2.2.2.2.2.2.2.2.2.2.2.2.2.2.2.2.1, u.2.2.2.2.2.2.2.2.2.2.2.2.2.2.2.2.2.2.2.1, u.2.2.2.2.2.2.2.2.2.2.2.2.2.2.2.2.2.2.2.2.1, u.2.2.2.2.2.2.2.2.2.2.2.2.2.2.2.2.2.2.2.2.2.1, u.2.2.2.2.2.2.2.2.2.2.2.2.2.2.2.2.2.2.2.2.2.2.1, u.2.2.2.2.2.2.2.2.2.2.2.2.2.2.2.2.2.2.2.2.2.2.2.1, u.2.2.2.2.2.2.2.2.2.2.2.2.2.2.2.2.2.2.2.2.2.2.2.2.1, u.2.2.2.2.2.2.2.2.2.2.2.2.2.2.2.2.2.2.2.2.2.2.2.2.2.1, u.2.2.2.2.2.2.2.2.2.2.2.2.2.2.2.2.2.2.2.2.2.2.2.2.2.2.1, u.2.2.2.2.2.2.2.2.2.2.2.2.2.2.2.2.2.2.2.2.2.2.2.2.2.2.2.1, u.2.2.2.2.2.2.2.2.2.2.2.2.2.2.2.2.2.2.2.2.2.2.2.2.2.2.2.2.1, u.2.2.2.2.2.2.2.2.2.2.2.2.2.2.2.2.2.2.2.2.2.2.2.2.2.2.2.2.2.1, u.2.2.2.2.2.2.2.2.2.2.2.2.2.2.2.2.2.2.2.2.2.2.2.2.2.2.2.2.2.2)
def Xs_names_made (u : XS) (v : Int32) : XS := (u.1, u.2.1, u.2.2.1, u.2.2.2.1, u.2.2.2.2.1, u.2.2.2.2.2.1, u.2.2.2.2.2.2.1, v, u.2.2.2.2.2.2.2.2.1, u.2.2.2.2.2.2.2.2.2.1, u.2.2.2.2.2.2.2.2.2.2.1, u.2.2.2.2.2.2.2.2.2.2.2.1, u.2.2.2.2.2.2.2.2.2.2.2.2.1, u.2.2.2.2.2.2.2.2.2.2.2.2.2.1, u.2.2.2.2.2.2.2.2.2.2.2.2.2.2.1, u.2.2.2.2.2.2.2.2.2.2.2.2.2.2.2.1, u.2.2.2.2.2.2.2.2.2.2.2.2.2.2.2.2.1, u.2.2.2.2.2.2.2.2.2.2.2.2.2.2.2.2.2.1, u.2.2.2.2.2.2.2.2.2.2.2.2.2.2.2.2.2.2.1, u.2.2.2.2.2.2.2.2.2.2.2.2.2.2.2.2.2.2.2.1, u.2.2.2.2.2.2.2.2.2.2.2.2.2.2.2.2.2.2.2.2.1, u.2.2.2.2.2.2.2.2.2.2.2.2.2.2.2.2.2.2.2.2.2.1, u.2.2.2.2.2.2.2.2.2.2.2.2.2.2.2.2.2.2.2.2.2.2.1, u.2.2.2.2.2.2.2.2.2.2.2.2.2.2.2.2.2.2.2.2.2.2.2.1, u.2.2.2.2.2.2.2.2.2.2.2.2.2.2.2.2.2.2.2.2.2.2.2.2.1, u.2.2.2.2.2.2.2.2.2.2.2.2.2.2.2.2.2.2.2.2.2.2.2.2.2.1, u.2.2.2.2.2.2.2.2.2.2.2.2.2.2.2.2.2.2.2.2.2.2.2.2.2.2.1, u.2.2.2.2.2.2.2.2.2.2.2.2.2.2.2.2.2.2.2.2.2.2.2.2.2.2.2.1, u.2.2.2.2.2.2.2.2.2.2.2.2.2.2.2.2.2.2.2.2.2.2.2.2.2.2.2.2.1, u.2.2.2.2.2.2.2.2.2.2.2.2.2.2.2.2.2.2.2.2.2.2.2.2.2.2.2.2.2.1, u.2.2.2.2.2.2.2.2.2.2.2.2.2.2.2.2.2.2.2.2.2.2.2.2.2.2.2.2.2.2)
def Xs_names_field (u : XS) (v : Nat → Int32) : XS := (u.1, u.2.1, u.2.2.1, u.2.2.2.1, u.2.2.2.2.1, u.2.2.2.2.2.1, u.2.2.2.2.2.2.1, u.2.2.2.2.2.2.2.1, v, u.2.2.2.2.2.2.2.2.2.1, u.2.2.2.2.2.2.2.2.2.2.1, u.2.2.2.2.2.2.2.2.2.2.2.1, u.2.2.2.2.2.2.2.2.2.2.2.2.1, u.2.2.2.2.2.2.2.2.2.2.2.2.2.1, u.2.2.2.2.2.2.2.2.2.2.2.2.2.2.1, u.2.2.2.2.2.2.2.2.2.2.2.2.2.2.2.1, u.2.2.2.2.2.2.2.2.2.2.2.2.2.2.2.2.1, u.2.2.2.2.2.2.2.2.2.2.2.2.2.2.2.2.2.1, u.2.2.2.2.2.2.2.2.2.2.2.2.2.2.2.2.2.2.1, u.2.2.2.2.2.2.2.2.2.2.2.2.2.2.2.2.2.2.2.1, u.2.2.2.2.2.2.2.2.2.2.2.2.2.2.2.2.2.2.2.2.1, u.2.2.2.2.2.2.2.2.2.2.2.2.2.2.2.2.2.2.2.2.2.1, u.2.2.2.2.2.2.2.2.2.2.2.2.2.2.2.2.2.2.2.2.2.2.1, u.2.2.2.2.2.2.2.2.2.2.2.2.2.2.2.2.2.2.2.2.2.2.2.1, u.2.2.2.2.2.2.2.2.2.2.2.2.2.2.2.2.2.2.2.2.2.2.2.2.1, u.2.2.2.2.2.2.2.2.2.2.2.2.2.2.2.2.2.2.2.2.2.2.2.2.2.1, u.2.2.2.2.2.2.2.2.2.2.2.2.2.2.2.2.2.2.2.2.2.2.2.2.2.2.1, u.2.2.2.2.2.2.2.2.2.2.2.2.2.2.2.2.2.2.2.2.2.2.2.2.2.2.2.1, u.2.2.2.2.2.2.2.2.2.2.2.2.2.2.2.2.2.2.2.2.2.2.2.2.2.2.2.2.1, u.2.2.2.2.2.2.2.2.2.2.2.2.2.2.2.2.2.2.2.2.2.2.2.2.2.2.2.2.2.1, u.2.2.2.2.2.2.2.2.2.2.2.2.2.2.2.2.2.2.2.2.2.2.2.2.2.2.2.2.2.2)
def Xs_names_ranges (u : XS) (v : Nat → Int32) : XS := (u.1, u.2.1, u.2.2.1, u.2.2.2.1, u.2.2.2.2.1, u.2.2.2.2.2.1, u.2.2.2.2.2.2.1, u.2.2.2.2.2.2.2.1, u.2.2.2.2.2.2.2.2.1, v, u.2.2.2.2.2.2.2.2.2.2.1, u.2.2.2.2.2.2.2.2.2.2.2.1, u.2.2.2.2.2.2.2.2.2.2.2.2.1, u.2.2.2.2.2.2.2.2.2.2.2.2.2.1, u.2.2.2.2.2.2.2.2.2.2.2.2.2.2.1, u.2.2.2.2.2.2.2.2.2.2.2.2.2.2.2.1, u.2.2.2.2.2.2.2.2.2.2.2.2.2.2.2.2.1, u.2.2.2.2.2.2.2.2.2.2.2.2.2.2.2.2.2.1, u.2.2.2.2.2.2.2.2.2.2.2.2.2.2.2.2.2.2.1, u.2.2.2.2.2.2.2.2.2.2.2.2.2.2.2.2.2.2.2.1, u.2.2.2.2.2.2.2.2.2.2.2.2.2.2.2.2.2.2.2.2.1, u.2.2.2.2.2.2.2.2.2.2.2.2.2.2.2.2.2.2.2.2.2.1, u.2.2.2.2.2.2.2.2.2.2.2.2.2.2.2.2.2.2.2.2.2.2.1, u.2.2.2.2.2.2.2.2.2.2.2.2.2.2.2.2.2.2.2.2.2.2.2.1, u.2.2.2.2.2.2.2.2.2.2.2.2.2.2.2.2.2.2.2.2.2.2.2.2.1, u.2.2.2.2.2.2.2.2.2.2.2.2.2.2.2.2.2.2.2.2.2.2.2.2.2.1, u.2.2.2.2.2.2.2.2.2.2.2.2.2.2.2.2.2.2.2.2.2.2.2.2.2.2.1, u.2.2.2.2.2.2.2.2.2.2.2.2.2.2.2.2.2.2.2.2.2.2.2.2.2.2.2.1, u.2.2.2.2.2.2.2.2.2.2.2.2.2.2.2.2.2.2.2.2.2.2.2.2.2.2.2.2.1, u.2.2.2.2.2.2.2.2.2.2.2.2.2.2.2.2.2.2.2.2.2.2.2.2.2.2.2.2.2.1, u.2.2.2.2.2.2.2.2.2.2.2.2.2.2.2.2.2.2.2.2.2.2.2.2.2.2.2.2.2.2)
def Xs_names_low (u : XS) (v : Nat → Int64) : XS := (u.1, u.2.1, u.2.2.1, u.2.2.2.1, u.2.2.2.2.1, u.2.2.2.2.2.1, u.2.2.2.2.2.2.1, u.2.2.2.2.2.2.2.1, u.2.2.2.2.2.2.2.2.1, u.2.2.2.2.2.2.2.2.2.1, v, u.2.2.2.2.2.2.2.2.2.2.2.1, u.2.2.2.2.2.2.2.2.2.2.2.2.1, u.2.2.2.2.2.2.2.2.2.2.2.2.2.1, u.2.2.2.2.2.2.2.2.2.2.2.2.2.2.1, u.2.2.2.2.2.2.2.2.2.2.2.2.2.2.2.1, u.2.2.2.2.2.2.2.2.2.2.2.2.2.2.2.2.1, u.2.2.2.2.2.2.2.2.2.2.2.2.2.2.2.2.2.1, u.2.2.2.2.2.2.2.2.2.2.2.2.2.2.2.2.2.2.1, u.2.2.2.2.2.2.2.2.2.2.2.2.2.2.2.2.2.2.2.1, u.2.2.2.2.2.2.2.2.2.2.2.2.2.2.2.2.2.2.2.2.1, u.2.2.2.2.2.2.2.2.2.2.2.2.2.2.2.2.2.2.2.2.2.1, u.2.2.2.2.2.2.2.2.2.2.2.2.2.2.2.2.2.2.2.2.2.2.1, u.2.2.2.2.2.2.2.2.2.2.2.2.2.2.2.2.2.2.2.2.2.2.2.1, u.2.2.2.2.2.2.2.2.2.2.2.2.2.2.2.2.2.2.2.2.2.2.2.2.1, u.2.2.2.2.2.2.2.2.2.2.2.2.2.2.2.2.2.2.2.2.2.2.2.2.2.1, u.2.2.2.2.2.2.2.2.2.2.2.2.2.2.2.2.2.2.2.2.2.2.2.2.2.2.1, u.2.2.2.2.2.2.2.2.2.2.2.2.2.2.2.2.2.2.2.2.2.2.2.2.2.2.2.1, u.2.2.2.2.2.2.2.2.2.2.2.2.2.2.2.2.2.2.2.2.2.2.2.2.2.2.2.2.1, u.2.2.2.2.2.2.2.2.2.2.2.2.2.2.2.2.2.2.2.2.2.2.2.2.2.2.2.2.2.1, u.2.2.2.2.2.2.2.2.2.2.2.2.2.2.2.2.2.2.2.2.2.2.2.2.2.2.2.2.2.2)
def Xs_names_high (u : XS) (v : Nat → Int64) : XS := (u.1, u.2.1, u.2.2.1, u.2.2.2.1, u.2.2.2.2.1, u.2.2.2.2.2.1, u.2.2.2.2.2.2.1, u.2.2.2.2.2.2.2.1, u.2.2.2.2.2.2.2.2.1, u.2.2.2.2.2.2.2.2.2.1, u.2.2.2.2.2.2.2.2.2.2.1, v, u.2.2.2.2.2.2.2.2.2.2.2.2.1, u.2.2.2.2.2.2.2.2.2.2.2.2.2.1, u.2.2.2.2.2.2.2.2.2.2.2.2.2.2.1, u.2.2.2.2.2.2.2.2.2.2.2.2.2.2.2.1, u.2.2.2.2.2.2.2.2.2.2.2.2.2.2.2.2.1, u.2.2.2.2.2.2.2.2.2.2.2.2.2.2.2.2.2.1, u.2.2.2.2.2.2.2.2.2.2.2.2.2.2.2.2.2.2.1, u.2.2.2.2.2.2.2.2.2.2.2.2.2.2.2.2.2.2.2.1, u.2.2.2.2.2.2.2.2.2.2.2.2.2.2.2.2.2.2.2.2.1, u.2.2.2.2.2.2.2.2.2.2.2.2.2.2.2.2.2.2.2.2.2.1, u.2.2.2.2.2.2.2.2.2.2.2.2.2.2.2.2.2.2.2.2.2.2.1, u.2.2.2.2.2.2.2.2.2.2.2.2.2.2.2.2.2.2.2.2.2.2.2.1, u.2.2.2.2.2.2.2.2.2.2.2.2.2.2.2.2.2.2.2.2.2.2.2.2.1, u.2.2.2.2.2.2.2.2.2.2.2.2.2.2.2.2.2.2.2.2.2.2.2.2.2.1, u.2.2.2.2.2.2.2.2.2.2.2.2.2.2.2.2.2.2.2.2.2.2.2.2.2.2.1, u.2.2.2.2.2.2.2.2.2.2.2.2.2.2.2.2.2.2.2.2.2.2.2.2.2.2.2.1, u.2.2.2.2.2.2.2.2.2.2.2.2.2.2.2.2.2.2.2.2.2.2.2.2.2.2.2.2.1, u.2.2.2.2.2.2.2.2.2.2.2.2.2.2.2.2.2.2.2.2.2.2.2.2.2.2.2.2.2.1, u.2.2.2.2.2.2.2.2.2.2.2.2.2.2.2.2.2.2.2.2.2.2.2.2.2.2.2.2.2.2)
def Xs_nodes_made (u : XS) (v : Int32) : XS := (u.1, u.2.1, u.2.2.1, u.2.2.2.1, u.2.2.2.2.1, u.2.2.2.2.2.1, u.2.2.2.2.2.2.1, u.2.2.2.2.2.2.2.1, u.2.2.2.2.2.2.2.2.1, u.2.2.2.2.2.2.2.2.2.1, u.2.2.2.2.2.2.2.2.2.2.1, u.2.2.2.2.2.2.2.2.2.2.2.1, v, u.2.2.2.2.2.2.2.2.2.2.2.2.2.1, u.2.2.2.2.2.2.2.2.2.2.2.2.2.2.1, u.2.2.2.2.2.2.2.2.2.2.2.2.2.2.2.1, u.2.2.2.2.2.2.2.2.2.2.2.2.2.2.2.2.1, u.2.2.2.2.2.2.2.2.2.2.2.2.2.2.2.2.2.1, u.2.2.2.2.2.2.2.2.2.2.2.2.2.2.2.2.2.2.1, u.2.2.2.2.2.2.2.2.2.2.2.2.2.2.2.2.2.2.2.1, u.2.2.2.2.2.2.2.2.2.2.2.2.2.2.2.2.2.2.2.2.1, u.2.2.2.2.2.2.2.2.2.2.2.2.2.2.2.2.2.2.2.2.2.1, u.2.2.2.2.2.2.2.2.2.2.2.2.2.2.2.2.2.2.2.2.2.2.1, u.2.2.2.2.2.2.2.2.2.2.2.2.2.2.2.2.2.2.2.2.2.2.2.1, u.2.2.2.2.2.2.2.2.2.2.2.2.2.2.2.2.2.2.2.2.2.2.2.2.1, u.2.2.2.2.2.2.2.2.2.2.2.2.2.2.2.2.2.2.2.2.2.2.2.2.2.1, u.2.2.2.2.2.2.2.2.2.2.2.2.2.2.2.2.2.2.2.2.2.2.2.2.2.2.1, u.2.2.2.2.2.2.2.2.2.2.2.2.2.2.2.2.2.2.2.2.2.2.2.2.2.2.2.1, u.2.2.2.2.2.2.2.2.2.2.2.2.2.2.2.2.2.2.2.2.2.2.2.2.2.2.2.2.1, u.2.2.2.2.2.2.2.2.2.2.2.2.2.2.2.2.2.2.2.2.2.2.2.2.2.2.2.2.2.1, u.2.2.2.2.2.2.2.2.2.2.2.2.2.2.2.2.2.2.2.2.2.2.2.2.2.2.2.2.2.2)
def Xs_nodes_op (u : XS) (v : Nat → Int32) : XS := (u.1, u.2.1, u.2.2.1, u.2.2.2.1, u.2.2.2.2.1, u.2.2.2.2.2.1, u.2.2.2.2.2.2.1, u.2.2.2.2.2.2.2.1, u.2.2.2.2.2.2.2.2.1, u.2.2.2.2.2.2.2.2.2.1, u.2.2.2.2.2.2.2.2.2.2.1, u.2.2.2.2.2.2.2.2.2.2.2.1, u.2.2.2.2.2.2.2.2.2.2.2.2.1, v, u.2.2.2.2.2.2.2.2.2.2.2.2.2.2.1, u.2.2.2.2.2.2.2.2.2.2.2.2.2.2.2.1, u.2.2.2.2.2.2.2.2.2.2.2.2.2.2.2.2.1, u.2.2.2.2.2.2.2.2.2.2.2.2.2.2.2.2.2.1, u.2.2.2.2.2.2.2.2.2.2.2.2.2.2.2.2.2.2.1, u.2.2.2.2.2.2.2.2.2.2.2.2.2.2.2.2.2.2.2.1, u.2.2.2.2.2.2.2.2.2.2.2.2.2.2.2.2.2.2.2.2.1, u.2.2.2.2.2.2.2.2.2.2.2.2.2.2.2.2.2.2.2.2.2.1, u.2.2.2.2.2.2.2.2.2.2.2.2.2.2.2.2.2.2.2.2.2.2.1, u.2.2.2.2.2.2.2.2.2.2.2.2.2.2.2.2.2.2.2.2.2.2.2.1, u.2.2.2.2.2.2.2.2.2.2.2.2.2.2.2.2.2.2.2.2.2.2.2.2.1, u.2.2.2.2.2.2.2.2.2.2.2.2.2.2.2.2.2.2.2.2.2.2.2.2.2.1, u.2.2.2.2.2.2.2.2.2.2.2.2.2.2.2.2.2.2.2.2.2.2.2.2.2.2.1, u.2.2.2.2.2.2.2.2.2.2.2.2.2.2.2.2.2.2.2.2.2.2.2.2.2.2.2.1, u.2.2.2.2.2.2.2.2.2.2.2.2.2.2.2.2.2.2.2.2.2.2.2.2.2.2.2.2.1, u.2.2.2.2.2.2.2.2.2.2.2.2.2.2.2.2.2.2.2.2.2.2.2.2.2.2.2.2.2.1, u.2.2.2.2.2.2.2.2.2.2.2.2.2.2.2.2.2.2.2.2.2.2.2.2.2.2.2.2.2.2)
def Xs_nodes_a (u : XS) (v : Nat → Int32) : XS := (u.1, u.2.1, u.2.2.1, u.2.2.2.1, u.2.2.2.2.1, u.2.2.2.2.2.1, u.2.2.2.2.2.2.1, u.2.2.2.2.2.2.2.1, u.2.2.2.2.2.2.2.2.1, u.2.2.2.2.2.2.2.2.2.1, u.2.2.2.2.2.2.2.2.2.2.1, u.2.2.2.2.2.2.2.2.2.2.2.1, u.2.2.2.2.2.2.2.2.2.2.2.2.1, u.2.2.2.2.2.2.2.2.2.2.2.2.2.1, v, u.2.2.2.2.2.2.2.2.2.2.2.2.2.2.2.1, u.2.2.2.2.2.2.2.2.2.2.2.2.2.2.2.2.1, u.2.2.2.2.2.2.2.2.2.2.2.2.2.2.2.2.2.1, u.2.2.2.2.2.2.2.2.2.2.2.2.2.2.2.2.2.2.1, u.2.2.2.2.2.2.2.2.2.2.2.2.2.2.2.2.2.2.2.1, u.2.2.2.2.2.2.2.2.2.2.2.2.2.2.2.2.2.2.2.2.1, u.2.2.2.2.2.2.2.2.2.2.2.2.2.2.2.2.2.2.2.2.2.1, u.2.2.2.2.2.2.2.2.2.2.2.2.2.2.2.2.2.2.2.2.2.2.1, u.2.2.2.2.2.2.2.2.2.2.2.2.2.2.2.2.2.2.2.2.2.2.2.1, u.2.2.2.2.2.2.2.2.2.2.2.2.2.2.2.2.2.2.2.2.2.2.2.2.1, u.2.2.2.2.2.2.2.2.2.2.2.2.2.2.2.2.2.2.2.2.2.2.2.2.2.1, u.2.2.2.2.2.2.2.2.2.2.2.2.2.2.2.2.2.2.2.2.2.2.2.2.2.2.1, u.2.2.2.2.2.2.2.2.2.2.2.2.2.2.2.2.2.2.2.2.2.2.2.2.2.2.2.1, u.2.2.2.2.2.2.2.2.2.2.2.2.2.2.2.2.2.2.2.2.2.2.2.2.2.2.2.2.1, u.2.2.2.2.2.2.2.2.2.2.2.2.2.2.2.2.2.2.2.2.2.2.2.2.2.2.2.2.2.1, u.2.2.2.2.2.2.2.2.2.2.2.2.2.2.2.2.2.2.2.2.2.2.2.2.2.2.2.2.2.2)
def Xs_nodes_b (u : XS) (v : Nat → Int32) : XS := (u.1, u.2.1, u.2.2.1, u.2.2.2.1, u.2.2.2.2.1, u.2.2.2.2.2.1, u.2.2.2.2.2.2.1, u.2.2.2.2.2.2.2.1, u.2.2.2.2.2.2.2.2.1, u.2.2.2.2.2.2.2.2.2.1, u.2.2.2.2.2.2.2.2.2.2.1, u.2.2.2.2.2.2.2.2.2.2.2.1, u.2.2.2.2.2.2.2.2.2.2.2.2.1, u.2.2.2.2.2.2.2.2.2.2.2.2.2.1, u.2.2.2.2.2.2.2.2.2.2.2.2.2.2.1, v, u.2.2.2.2.2.2.2.2.2.2.2.2.2.2.2.2.1, u.2.2.2.2.2.2.2.2.2.2.2.2.2.2.2.2.2.1, u.2.2.2.2.2.2.2.2.2.2.2.2.2.2.2.2.2.2.1, u.2.2.2.2.2.2.2.2.2.2.2.2.2.2.2.2.2.2.2.1, u.2.2.2.2.2.2.2.2.2.2.2.2.2.2.2.2.2.2.2.2.1, u.2.2.2.2.2.2.2.2.2.2.2.2.2.2.2.2.2.2.2.2.2.1, u.2.2.2.2.2.2.2.2.2.2.2.2.2.2.2.2.2.2.2.2.2.2.1, u.2.2.2.2.2.2.2.2.2.2.2.2.2.2.2.2.2.2.2.2.2.2.2.1, u.2.2.2.2.2.2.2.2.2.2.2.2.2.2.2.2.2.2.2.2.2.2.2.2.1, u.2.2.2.2.2.2.2.2.2.2.2.2.2.2.2.2.2.2.2.2.2.2.2.2.2.1, u.2.2.2.2.2.2.2.2.2.2.2.2.2.2.2.2.2.2.2.2.2.2.2.2.2.2.1, u.2.2.2.2.2.2.2.2.2.2.2.2.2.2.2.2.2.2.2.2.2.2.2.2.2.2.2.1, u.2.2.2.2.2.2.2.2.2.2.2.2.2.2.2.2.2.2.2.2.2.2.2.2.2.2.2.2.1, u.2.2.2.2.2.2.2.2.2.2.2.2.2.2.2.2.2.2.2.2.2.2.2.2.2.2.2.2.2.1, u.2.2.2.2.2.2.2.2.2.2.2.2.2.2.2.2.2.2.2.2.2.2.2.2.2.2.2.2.2.2)
def Xs_row_subject (u : XS) (v : Int32) : XS := (u.1, u.2.1, u.2.2.1, u.2.2.2.1, u.2.2.2.2.1, u.2.2.2.2.2.1, u.2.2.2.2.2.2.1, u.2.2.2.2.2.2.2.1, u.2.2.2.2.2.2.2.2.1, u.2.2.2.2.2.2.2.2.2.1, u.2.2.2.2.2.2.2.2.2.2.1, u.2.2.2.2.2.2.2.2.2.2.2.1, u.2.2.2.2.2.2.2.2.2.2.2.2.1, u.2.2.2.2.2.2.2.2.2.2.2.2.2.1, u.2.2.2.2.2.2.2.2.2.2.2.2.2.2.1, u.2.2.2.2.2.2.2.2.2.2.2.2.2.2.2.1, v, u.2.2.2.2.2.2.2.2.2.2.2.2.2.2.2.2.2.1, u.2.2.2.2.2.2.2.2.2.2.2.2.2.2.2.2.2.2.1, u.2.2.2.2.2.2.2.2.2.2.2.2.2.2.2.2.2.2.2.1, u.2.2.2.2.2.2.2.2.2.2.2.2.2.2.2.2.2.2.2.2.1, u.2.2.2.2.2.2.2.2.2.2.2.2.2.2.2.2.2.2.2.2.2.1, u.2.2.2.2.2.2.2.2.2.2.2.2.2.2.2.2.2.2.2.2.2.2.1, u.2.2.2.2.2.2.2.2.2.2.2.2.2.2.2.2.2.2.2.2.2.2.2.1, u.2.2.2.2.2.2.2.2.2.2.2.2.2.2.2.2.2.2.2.2.2.2.2.2.1, u.2.2.2.2.2.2.2.2.2.2.2.2.2.2.2.2.2.2.2.2.2.2.2.2.2.1, u.2.2.2.2.2.2.2.2.2.2.2.2.2.2.2.2.2.2.2.2.2.2.2.2.2.2.1, u.2.2.2.2.2.2.2.2.2.2.2.2.2.2.2.2.2.2.2.2.2.2.2.2.2.2.2.1, u.2.2.2.2.2.2.2.2.2.2.2.2.2.2.2.2.2.2.2.2.2.2.2.2.2.2.2.2.1, u.2.2.2.2.2.2.2.2.2.2.2.2.2.2.2.2.2.2.2.2.2.2.2.2.2.2.2.2.2.1, u.2.2.2.2.2.2.2.2.2.2.2.2.2.2.2.2.2.2.2.2.2.2.2.2.2.2.2.2.2.2)
def Xs_row_carried (u : XS) (v : Int32) : XS := (u.1, u.2.1, u.2.2.1, u.2.2.2.1, u.2.2.2.2.1, u.2.2.2.2.2.1, u.2.2.2.2.2.2.1, u.2.2.2.2.2.2.2.1, u.2.2.2.2.2.2.2.2.1, u.2.2.2.2.2.2.2.2.2.1, u.2.2.2.2.2.2.2.2.2.2.1, u.2.2.2.2.2.2.2.2.2.2.2.1, u.2.2.2.2.2.2.2.2.2.2.2.2.1, u.2.2.2.2.2.2.2.2.2.2.2.2.2.1, u.2.2.2.2.2.2.2.2.2.2.2.2.2.2.1, u.2.2.2.2.2.2.2.2.2.2.2.2.2.2.2.1, u.2.2.2.2.2.2.2.2.2.2.2.2.2.2.2.2.1, v, u.2.2.2.2.2.2.2.2.2.2.2.2.2.2.2.2.2.2.1, u.2.2.2.2.2.2.2.2.2.2.2.2.2.2.2.2.2.2.2.1, u.2.2.2.2.2.2.2.2.2.2.2.2.2.2.2.2.2.2.2.2.1, u.2.2.2.2.2.2.2.2.2.2.2.2.2.2.2.2.2.2.2.2.2.1, u.2.2.2.2.2.2.2.2.2.2.2.2.2.2.2.2.2.2.2.2.2.2.1, u.2.2.2.2.2.2.2.2.2.2.2.2.2.2.2.2.2.2.2.2.2.2.2.1, u.2.2.2.2.2.2.2.2.2.2.2.2.2.2.2.2.2.2.2.2.2.2.2.2.1, u.2.2.2.2.2.2.2.2.2.2.2.2.2.2.2.2.2.2.2.2.2.2.2.2.2.1, u.2.2.2.2.2.2.2.2.2.2.2.2.2.2.2.2.2.2.2.2.2.2.2.2.2.2.1, u.2.2.2.2.2.2.2.2.2.2.2.2.2.2.2.2.2.2.2.2.2.2.2.2.2.2.2.1, u.2.2.2.2.2.2.2.2.2.2.2.2.2.2.2.2.2.2.2.2.2.2.2.2.2.2.2.2.1, u.2.2.2.2.2.2.2.2.2.2.2.2.2.2.2.2.2.2.2.2.2.2.2.2.2.2.2.2.2.1, u.2.2.2.2.2.2.2.2.2.2.2.2.2.2.2.2.2.2.2.2.2.2.2.2.2.2.2.2.2.2)
def Xs_row_length (u : XS) (v : Int32) : XS := (u.1, u.2.1, u.2.2.1, u.2.2.2.1, u.2.2.2.2.1, u.2.2.2.2.2.1, u.2.2.2.2.2.2.1, u.2.2.2.2.2.2.2.1, u.2.2.2.2.2.2.2.2.1, u.2.2.2.2.2.2.2.2.2.1, u.2.2.2.2.2.2.2.2.2.2.1, u.2.2.2.2.2.2.2.2.2.2.2.1, u.2.2.2.2.2.2.2.2.2.2.2.2.1, u.2.2.2.2.2.2.2.2.2.2.2.2.2.1, u.2.2.2.2.2.2.2.2.2.2.2.2.2.2.1, u.2.2.2.2.2.2.2.2.2.2.2.2.2.2.2.1, u.2.2.2.2.2.2.2.2.2.2.2.2.2.2.2.2.1, u.2.2.2.2.2.2.2.2.2.2.2.2.2.2.2.2.2.1, v, u.2.2.2.2.2.2.2.2.2.2.2.2.2.2.2.2.2.2.2.1, u.2.2.2.2.2.2.2.2.2.2.2.2.2.2.2.2.2.2.2.2.1, u.2.2.2.2.2.2.2.2.2.2.2.2.2.2.2.2.2.2.2.2.2.1, u.2.2.2.2.2.2.2.2.2.2.2.2.2.2.2.2.2.2.2.2.2.2.1, u.2.2.2.2.2.2.2.2.2.2.2.2.2.2.2.2.2.2.2.2.2.2.2.1, u.2.2.2.2.2.2.2.2.2.2.2.2.2.2.2.2.2.2.2.2.2.2.2.2.1, u.2.2.2.2.2.2.2.2.2.2.2.2.2.2.2.2.2.2.2.2.2.2.2.2.2.1, u.2.2.2.2.2.2.2.2.2.2.2.2.2.2.2.2.2.2.2.2.2.2.2.2.2.2.1, u.2.2.2.2.2.2.2.2.2.2.2.2.2.2.2.2.2.2.2.2.2.2.2.2.2.2.2.1, u.2.2.2.2.2.2.2.2.2.2.2.2.2.2.2.2.2.2.2.2.2.2.2.2.2.2.2.2.1, u.2.2.2.2.2.2.2.2.2.2.2.2.2.2.2.2.2.2.2.2.2.2.2.2.2.2.2.2.2.1, u.2.2.2.2.2.2.2.2.2.2.2.2.2.2.2.2.2.2.2.2.2.2.2.2.2.2.2.2.2.2)
def Xs_row_with (u : XS) (v : Nat → Int32) : XS := (u.1, u.2.1, u.2.2.1, u.2.2.2.1, u.2.2.2.2.1, u.2.2.2.2.2.1, u.2.2.2.2.2.2.1, u.2.2.2.2.2.2.2.1, u.2.2.2.2.2.2.2.2.1, u.2.2.2.2.2.2.2.2.2.1, u.2.2.2.2.2.2.2.2.2.2.1, u.2.2.2.2.2.2.2.2.2.2.2.1, u.2.2.2.2.2.2.2.2.2.2.2.2.1, u.2.2.2.2.2.2.2.2.2.2.2.2.2.1, u.2.2.2.2.2.2.2.2.2.2.2.2.2.2.1, u.2.2.2.2.2.2.2.2.2.2.2.2.2.2.2.1, u.2.2.2.2.2.2.2.2.2.2.2.2.2.2.2.2.1, u.2.2.2.2.2.2.2.2.2.2.2.2.2.2.2.2.2.1, u.2.2.2.2.2.2.2.2.2.2.2.2.2.2.2.2.2.2.1, v, u.2.2.2.2.2.2.2.2.2.2.2.2.2.2.2.2.2.2.2.2.1, u.2.2.2.2.2.2.2.2.2.2.2.2.2.2.2.2.2.2.2.2.2.1, u.2.2.2.2.2.2.2.2.2.2.2.2.2.2.2.2.2.2.2.2.2.2.1, u.2.2.2.2.2.2.2.2.2.2.2.2.2.2.2.2.2.2.2.2.2.2.2.1, u.2.2.2.2.2.2.2.2.2.2.2.2.2.2.2.2.2.2.2.2.2.2.2.2.1, u.2.2.2.2.2.2.2.2.2.2.2.2.2.2.2.2.2.2.2.2.2.2.2.2.2.1, u.2.2.2.2.2.2.2.2.2.2.2.2.2.2.2.2.2.2.2.2.2.2.2.2.2.2.1, u.2.2.2.2.2.2.2.2.2.2.2.2.2.2.2.2.2.2.2.2.2.2.2.2.2.2.2.1, u.2.2.2.2.2.2.2.2.2.2.2.2.2.2.2.2.2.2.2.2.2.2.2.2.2.2.2.2.1, u.2.2.2.2.2.2.2.2.2.2.2.2.2.2.2.2.2.2.2.2.2.2.2.2.2.2.2.2.2.1, u.2.2.2.2.2.2.2.2.2.2.2.2.2.2.2.2.2.2.2.2.2.2.2.2.2.2.2.2.2.2)
def Xs_row_op (u : XS) (v : Nat → Int32) : XS := (u.1, u.2.1, u.2.2.1, u.2.2.2.1, u.2.2.2.2.1, u.2.2.2.2.2.1, u.2.2.2.2.2.2.1, u.2.2.2.2.2.2.2.1, u.2.2.2.2.2.2.2.2.1, u.2.2.2.2.2.2.2.2.2.1, u.2.2.2.2.2.2.2.2.2.2.1, u.2.2.2.2.2.2.2.2.2.2.2.1, u.2.2.2.2.2.2.2.2.2.2.2.2.1, u.2.2.2.2.2.2.2.2.2.2.2.2.2.1, u.2.2.2.2.2.2.2.2.2.2.2.2.2.2.1, u.2.2.2.2.2.2.2.2.2.2.2.2.2.2.2.1, u.2.2.2.2.2.2.2.2.2.2.2.2.2.2.2.2.1, u.2.2.2.2.2.2.2.2.2.2.2.2.2.2.2.2.2.1, u.2.2.2.2.2.2.2.2.2.2.2.2.2.2.2.2.2.2.1, u.2.2.2.2.2.2.2.2.2.2.2.2.2.2.2.2.2.2.2.1, v, u.2.2.2.2.2.2.2.2.2.2.2.2.2.2.2.2.2.2.2.2.2.1, u.2.2.2.2.2.2.2.2.2.2.2.2.2.2.2.2.2.2.2.2.2.2.1, u.2.2.2.2.2.2.2.2.2.2.2.2.2.2.2.2.2.2.2.2.2.2.2.1, u.2.2.2.2.2.2.2.2.2.2.2.2.2.2.2.2.2.2.2.2.2.2.2.2.1, u.2.2.2.2.2.2.2.2.2.2.2.2.2.2.2.2.2.2.2.2.2.2.2.2.2.1, u.2.2.2.2.2.2.2.2.2.2.2.2.2.2.2.2.2.2.2.2.2.2.2.2.2.2.1, u.2.2.2.2.2.2.2.2.2.2.2.2.2.2.2.2.2.2.2.2.2.2.2.2.2.2.2.1, u.2.2.2.2.2.2.2.2.2.2.2.2.2.2.2.2.2.2.2.2.2.2.2.2.2.2.2.2.1, u.2.2.2.2.2.2.2.2.2.2.2.2.2.2.2.2.2.2.2.2.2.2.2.2.2.2.2.2.2.1, u.2.2.2.2.2.2.2.2.2.2.2.2.2.2.2.2.2.2.2.2.2.2.2.2.2.2.2.2.2.2)
def Xs_row_negated (u : XS) (v : Nat → Int32) : XS := (u.1, u.2.1, u.2.2.1, u.2.2.2.1, u.2.2.2.2.1, u.2.2.2.2.2.1, u.2.2.2.2.2.2.1, u.2.2.2.2.2.2.2.1, u.2.2.2.2.2.2.2.2.1, u.2.2.2.2.2.2.2.2.2.1, u.2.2.2.2.2.2.2.2.2.2.1, u.2.2.2.2.2.2.2.2.2.2.2.1, u.2.2.2.2.2.2.2.2.2.2.2.2.1, u.2.2.2.2.2.2.2.2.2.2.2.2.2.1, u.2.2.2.2.2.2.2.2.2.2.2.2.2.2.1, u.2.2.2.2.2.2.2.2.2.2.2.2.2.2.2.1, u.2.2.2.2.2.2.2.2.2.2.2.2.2.2.2.2.1, u.2.2.2.2.2.2.2.2.2.2.2.2.2.2.2.2.2.1, u.2.2.2.2.2.2.2.2.2.2.2.2.2.2.2.2.2.2.1, u.2.2.2.2.2.2.2.2.2.2.2.2.2.2.2.2.2.2.2.1, u.2.2.2.2.2.2.2.2.2.2.2.2.2.2.2.2.2.2.2.2.1, v, u.2.2.2.2.2.2.2.2.2.2.2.2.2.2.2.2.2.2.2.2.2.2.1, u.2.2.2.2.2.2.2.2.2.2.2.2.2.2.2.2.2.2.2.2.2.2.2.1, u.2.2.2.2.2.2.2.2.2.2.2.2.2.2.2.2.2.2.2.2.2.2.2.2.1, u.2.2.2.2.2.2.2.2.2.2.2.2.2.2.2.2.2.2.2.2.2.2.2.2.2.1, u.2.2.2.2.2.2.2.2.2.2.2.2.2.2.2.2.2.2.2.2.2.2.2.2.2.2.1, u.2.2.2.2.2.2.2.2.2.2.2.2.2.2.2.2.2.2.2.2.2.2.2.2.2.2.2.1, u.2.2.2.2.2.2.2.2.2.2.2.2.2.2.2.2.2.2.2.2.2.2.2.2.2.2.2.2.1, u.2.2.2.2.2.2.2.2.2.2.2.2.2.2.2.2.2.2.2.2.2.2.2.2.2.2.2.2.2.1, u.2.2.2.2.2.2.2.2.2.2.2.2.2.2.2.2.2.2.2.2.2.2.2.2.2.2.2.2.2.2)
def Xs_row_object (u : XS) (v : Nat → Int32) : XS := (u.1, u.2.1, u.2.2.1, u.2.2.2.1, u.2.2.2.2.1, u.2.2.2.2.2.1, u.2.2.2.2.2.2.1, u.2.2.2.2.2.2.2.1, u.2.2.2.2.2.2.2.2.1, u.2.2.2.2.2.2.2.2.2.1, u.2.2.2.2.2.2.2.2.2.2.1, u.2.2.2.2.2.2.2.2.2.2.2.1, u.2.2.2.2.2.2.2.2.2.2.2.2.1, u.2.2.2.2.2.2.2.2.2.2.2.2.2.1, u.2.2.2.2.2.2.2.2.2.2.2.2.2.2.1, u.2.2.2.2.2.2.2.2.2.2.2.2.2.2.2.1, u.2.2.2.2.2.2.2.2.2.2.2.2.2.2.2.2.1, u.2.2.2.2.2.2.2.2.2.2.2.2.2.2.2.2.2.1, u.2.2.2.2.2.2.2.2.2.2.2.2.2.2.2.2.2.2.1, u.2.2.2.2.2.2.2.2.2.2.2.2.2.2.2.2.2.2.2.1, u.2.2.2.2.2.2.2.2.2.2.2.2.2.2.2.2.2.2.2.2.1, u.2.2.2.2.2.2.2.2.2.2.2.2.2.2.2.2.2.2.2.2.2.1, v, u.2.2.2.2.2.2.2.2.2.2.2.2.2.2.2.2.2.2.2.2.2.2.2.1, u.2.2.2.2.2.2.2.2.2.2.2.2.2.2.2.2.2.2.2.2.2.2.2.2.1, u.2.2.2.2.2.2.2.2.2.2.2.2.2.2.2.2.2.2.2.2.2.2.2.2.2.1, u.2.2.2.2.2.2.2.2.2.2.2.2.2.2.2.2.2.2.2.2.2.2.2.2.2.2.1, u.2.2.2.2.2.2.2.2.2.2.2.2.2.2.2.2.2.2.2.2.2.2.2.2.2.2.2.1, u.2.2.2.2.2.2.2.2.2.2.2.2.2.2.2.2.2.2.2.2.2.2.2.2.2.2.2.2.1, u.2.2.2.2.2.2.2.2.2.2.2.2.2.2.2.2.2.2.2.2.2.2.2.2.2.2.2.2.2.1, u.2.2.2.2.2.2.2.2.2.2.2.2.2.2.2.2.2.2.2.2.2.2.2.2.2.2.2.2.2.2)
def Xs_testing_noted (u : XS) (v : Int32) : XS := (u.1, u.2.1, u.2.2.1, u.2.2.2.1, u.2.2.2.2.1, u.2.2.2.2.2.1, u.2.2.2.2.2.2.1, u.2.2.2.2.2.2.2.1, u.2.2.2.2.2.2.2.2.1, u.2.2.2.2.2.2.2.2.2.1, u.2.2.2.2.2.2.2.2.2.2.1, u.2.2.2.2.2.2.2.2.2.2.2.1, u.2.2.2.2.2.2.2.2.2.2.2.2.1, u.2.2.2.2.2.2.2.2.2.2.2.2.2.1, u.2.2.2.2.2.2.2.2.2.2.2.2.2.2.1, u.2.2.2.2.2.2.2.2.2.2.2.2.2.2.2.1, u.2.2.2.2.2.2.2.2.2.2.2.2.2.2.2.2.1, u.2.2.2.2.2.2.2.2.2.2.2.2.2.2.2.2.2.1, u.2.2.2.2.2.2.2.2.2.2.2.2.2.2.2.2.2.2.1, u.2.2.2.2.2.2.2.2.2.2.2.2.2.2.2.2.2.2.2.1, u.2.2.2.2.2.2.2.2.2.2.2.2.2.2.2.2.2.2.2.2.1, u.2.2.2.2.2.2.2.2.2.2.2.2.2.2.2.2.2.2.2.2.2.1, u.2.2.2.2.2.2.2.2.2.2.2.2.2.2.2.2.2.2.2.2.2.2.1, v, u.2.2.2.2.2.2.2.2.2.2.2.2.2.2.2.2.2.2.2.2.2.2.2.2.1, u.2.2.2.2.2.2.2.2.2.2.2.2.2.2.2.2.2.2.2.2.2.2.2.2.2.1, u.2.2.2.2.2.2.2.2.2.2.2.2.2.2.2.2.2.2.2.2.2.2.2.2.2.2.1, u.2.2.2.2.2.2.2.2.2.2.2.2.2.2.2.2.2.2.2.2.2.2.2.2.2.2.2.1, u.2.2.2.2.2.2.2.2.2.2.2.2.2.2.2.2.2.2.2.2.2.2.2.2.2.2.2.2.1, u.2.2.2.2.2.2.2.2.2.2.2.2.2.2.2.2.2.2.2.2.2.2.2.2.2.2.2.2.2.1, u.2.2.2.2.2.2.2.2.2.2.2.2.2.2.2.2.2.2.2.2.2.2.2.2.2.2.2.2.2.2)
def Xs_testing_depth (u : XS) (v : Int32) : XS := (u.1, u.2.1, u.2.2.1, u.2.2.2.1, u.2.2.2.2.1, u.2.2.2.2.2.1, u.2.2.2.2.2.2.1, u.2.2.2.2.2.2.2.1, u.2.2.2.2.2.2.2.2.1, u.2.2.2.2.2.2.2.2.2.1, u.2.2.2.2.2.2.2.2.2.2.1, u.2.2.2.2.2.2.2.2.2.2.2.1, u.2.2.2.2.2.2.2.2.2.2.2.2.1, u.2.2.2.2.2.2.2.2.2.2.2.2.2.1, u.2.2.2.2.2.2.2.2.2.2.2.2.2.2.1, u.2.2.2.2.2.2.2.2.2.2.2.2.2.2.2.1, u.2.2.2.2.2.2.2.2.2.2.2.2.2.2.2.2.1, u.2.2.2.2.2.2.2.2.2.2.2.2.2.2.2.2.2.1, u.2.2.2.2.2.2.2.2.2.2.2.2.2.2.2.2.2.2.1, u.2.2.2.2.2.2.2.2.2.2.2.2.2.2.2.2.2.2.2.1, u.2.2.2.2.2.2.2.2.2.2.2.2.2.2.2.2.2.2.2.2.1, u.2.2.2.2.2.2.2.2.2.2.2.2.2.2.2.2.2.2.2.2.2.1, u.2.2.2.2.2.2.2.2.2.2.2.2.2.2.2.2.2.2.2.2.2.2.1, u.2.2.2.2.2.2.2.2.2.2.2.2.2.2.2.2.2.2.2.2.2.2.2.1, v, u.2.2.2.2.2.2.2.2.2.2.2.2.2.2.2.2.2.2.2.2.2.2.2.2.2.1, u.2.2.2.2.2.2.2.2.2.2.2.2.2.2.2.2.2.2.2.2.2.2.2.2.2.2.1, u.2.2.2.2.2.2.2.2.2.2.2.2.2.2.2.2.2.2.2.2.2.2.2.2.2.2.2.1, u.2.2.2.2.2.2.2.2.2.2.2.2.2.2.2.2.2.2.2.2.2.2.2.2.2.2.2.2.1, u.2.2.2.2.2.2.2.2.2.2.2.2.2.2.2.2.2.2.2.2.2.2.2.2.2.2.2.2.2.1, u.2.2.2.2.2.2.2.2.2.2.2.2.2.2.2.2.2.2.2.2.2.2.2.2.2.2.2.2.2.2)
def Xs_testing_outcome (u : XS) (v : Nat → Int32) : XS := (u.1, u.2.1, u.2.2.1, u.2.2.2.1, u.2.2.2.2.1, u.2.2.2.2.2.1, u.2.2.2.2.2.2.1, u.2.2.2.2.2.2.2.1, u.2.2.2.2.2.2.2.2.1, u.2.2.2.2.2.2.2.2.2.1, u.2.2.2.2.2.2.2.2.2.2.1, u.2.2.2.2.2.2.2.2.2.2.2.1, u.2.2.2.2.2.2.2.2.2.2.2.2.1, u.2.2.2.2.2.2.2.2.2.2.2.2.2.1, u.2.2.2.2.2.2.2.2.2.2.2.2.2.2.1, u.2.2.2.2.2.2.2.2.2.2.2.2.2.2.2.1, u.2.2.2.2.2.2.2.2.2.2.2.2.2.2.2.2.1, u.2.2.2.2.2.2.2.2.2.2.2.2.2.2.2.2.2.1, u.2.2.2.2.2.2.2.2.2.2.2.2.2.2.2.2.2.2.1, u.2.2.2.2.2.2.2.2.2.2.2.2.2.2.2.2.2.2.2.1, u.2.2.2.2.2.2.2.2.2.2.2.2.2.2.2.2.2.2.2.2.1, u.2.2.2.2.2.2.2.2.2.2.2.2.2.2.2.2.2.2.2.2.2.1, u.2.2.2.2.2.2.2.2.2.2.2.2.2.2.2.2.2.2.2.2.2.2.1, u.2.2.2.2.2.2.2.2.2.2.2.2.2.2.2.2.2.2.2.2.2.2.2.1, u.2.2.2.2.2.2.2.2.2.2.2.2.2.2.2.2.2.2.2.2.2.2.2.2.1, v, u.2.2.2.2.2.2.2.2.2.2.2.2.2.2.2.2.2.2.2.2.2.2.2.2.2.2.1, u.2.2.2.2.2.2.2.2.2.2.2.2.2.2.2.2.2.2.2.2.2.2.2.2.2.2.2.1, u.2.2.2.2.2.2.2.2.2.2.2.2.2.2.2.2.2.2.2.2.2.2.2.2.2.2.2.2.1, u.2.2.2.2.2.2.2.2.2.2.2.2.2.2.2.2.2.2.2.2.2.2.2.2.2.2.2.2.2.1, u.2.2.2.2.2.2.2.2.2.2.2.2.2.2.2.2.2.2.2.2.2.2.2.2.2.2.2.2.2.2)
def Xs_testing_leaves (u : XS) (v : Nat → Int32) : XS := (u.1, u.2.1, u.2.2.1, u.2.2.2.1, u.2.2.2.2.1, u.2.2.2.2.2.1, u.2.2.2.2.2.2.1, u.2.2.2.2.2.2.2.1, u.2.2.2.2.2.2.2.2.1, u.2.2.2.2.2.2.2.2.2.1, u.2.2.2.2.2.2.2.2.2.2.1, u.2.2.2.2.2.2.2.2.2.2.2.1, u.2.2.2.2.2.2.2.2.2.2.2.2.1, u.2.2.2.2.2.2.2.2.2.2.2.2.2.1, u.2.2.2.2.2.2.2.2.2.2.2.2.2.2.1, u.2.2.2.2.2.2.2.2.2.2.2.2.2.2.2.1, u.2.2.2.2.2.2.2.2.2.2.2.2.2.2.2.2.1, u.2.2.2.2.2.2.2.2.2.2.2.2.2.2.2.2.2.1, u.2.2.2.2.2.2.2.2.2.2.2.2.2.2.2.2.2.2.1, u.2.2.2.2.2.2.2.2.2.2.2.2.2.2.2.2.2.2.2.1, u.2.2.2.2.2.2.2.2.2.2.2.2.2.2.2.2.2.2.2.2.1, u.2.2.2.2.2.2.2.2.2.2.2.2.2.2.2.2.2.2.2.2.2.1, u.2.2.2.2.2.2.2.2.2.2.2.2.2.2.2.2.2.2.2.2.2.2.1, u.2.2.2.2.2.2.2.2.2.2.2.2.2.2.2.2.2.2.2.2.2.2.2.1, u.2.2.2.2.2.2.2.2.2.2.2.2.2.2.2.2.2.2.2.2.2.2.2.2.1, u.2.2.2.2.2.2.2.2.2.2.2.2.2.2.2.2.2.2.2.2.2.2.2.2.2.1, v, u.2.2.2.2.2.2.2.2.2.2.2.2.2.2.2.2.2.2.2.2.2.2.2.2.2.2.2.1, u.2.2.2.2.2.2.2.2.2.2.2.2.2.2.2.2.2.2.2.2.2.2.2.2.2.2.2.2.1, u.2.2.2.2.2.2.2.2.2.2.2.2.2.2.2.2.2.2.2.2.2.2.2.2.2.2.2.2.2.1, u.2.2.2.2.2.2.2.2.2.2.2.2.2.2.2.2.2.2.2.2.2.2.2.2.2.2.2.2.2.2)
def Xs_testing_waiting (u : XS) (v : Nat → Int32) : XS := (u.1, u.2.1, u.2.2.1, u.2.2.2.1, u.2.2.2.2.1, u.2.2.2.2.2.1, u.2.2.2.2.2.2.1, u.2.2.2.2.2.2.2.1, u.2.2.2.2.2.2.2.2.1, u.2.2.2.2.2.2.2.2.2.1, u.2.2.2.2.2.2.2.2.2.2.1, u.2.2.2.2.2.2.2.2.2.2.2.1, u.2.2.2.2.2.2.2.2.2.2.2.2.1, u.2.2.2.2.2.2.2.2.2.2.2.2.2.1, u.2.2.2.2.2.2.2.2.2.2.2.2.2.2.1, u.2.2.2.2.2.2.2.2.2.2.2.2.2.2.2.1, u.2.2.2.2.2.2.2.2.2.2.2.2.2.2.2.2.1, u.2.2.2.2.2.2.2.2.2.2.2.2.2.2.2.2.2.1, u.2.2.2.2.2.2.2.2.2.2.2.2.2.2.2.2.2.2.1, u.2.2.2.2.2.2.2.2.2.2.2.2.2.2.2.2.2.2.2.1, u.2.2.2.2.2.2.2.2.2.2.2.2.2.2.2.2.2.2.2.2.1, u.2.2.2.2.2.2.2.2.2.2.2.2.2.2.2.2.2.2.2.2.2.1, u.2.2.2.2.2.2.2.2.2.2.2.2.2.2.2.2.2.2.2.2.2.2.1, u.2.2.2.2.2.2.2.2.2.2.2.2.2.2.2.2.2.2.2.2.2.2.2.1, u.2.2.2.2.2.2.2.2.2.2.2.2.2.2.2.2.2.2.2.2.2.2.2.2.1, u.2.2.2.2.2.2.2.2.2.2.2.2.2.2.2.2.2.2.2.2.2.2.2.2.2.1, u.2.2.2.2.2.2.2.2.2.2.2.2.2.2.2.2.2.2.2.2.2.2.2.2.2.2.1, v, u.2.2.2.2.2.2.2.2.2.2.2.2.2.2.2.2.2.2.2.2.2.2.2.2.2.2.2.2.1, u.2.2.2.2.2.2.2.2.2.2.2.2.2.2.2.2.2.2.2.2.2.2.2.2.2.2.2.2.2.1, u.2.2.2.2.2.2.2.2.2.2.2.2.2.2.2.2.2.2.2.2.2.2.2.2.2.2.2.2.2.2)
def Xs_switches (u : XS) (v : Nat → Int32) : XS := (u.1, u.2.1, u.2.2.1, u.2.2.2.1, u.2.2.2.2.1, u.2.2.2.2.2.1, u.2.2.2.2.2.2.1, u.2.2.2.2.2.2.2.1, u.2.2.2.2.2.2.2.2.1, u.2.2.2.2.2.2.2.2.2.1, u.2.2.2.2.2.2.2.2.2.2.1, u.2.2.2.2.2.2.2.2.2.2.2.1, u.2.2.2.2.2.2.2.2.2.2.2.2.1, u.2.2.2.2.2.2.2.2.2.2.2.2.2.1, u.2.2.2.2.2.2.2.2.2.2.2.2.2.2.1, u.2.2.2.2.2.2.2.2.2.2.2.2.2.2.2.1, u.2.2.2.2.2.2.2.2.2.2.2.2.2.2.2.2.1, u.2.2.2.2.2.2.2.2.2.2.2.2.2.2.2.2.2.1, u.2.2.2.2.2.2.2.2.2.2.2.2.2.2.2.2.2.2.1, u.2.2.2.2.2.2.2.2.2.2.2.2.2.2.2.2.2.2.2.1, u.2.2.2.2.2.2.2.2.2.2.2.2.2.2.2.2.2.2.2.2.1, u.2.2.2.2.2.2.2.2.2.2.2.2.2.2.2.2.2.2.2.2.2.1, u.2.2.2.2.2.2.2.2.2.2.2.2.2.2.2.2.2.2.2.2.2.2.1, u.2.2.2.2.2.2.2.2.2.2.2.2.2.2.2.2.2.2.2.2.2.2.2.1, u.2.2.2.2.2.2.2.2.2.2.2.2.2.2.2.2.2.2.2.2.2.2.2.2.1, u.2.2.2.2.2.2.2.2.2.2.2.2.2.2.2.2.2.2.2.2.2.2.2.2.2.1, u.2.2.2.2.2.2.2.2.2.2.2.2.2.2.2.2.2.2.2.2.2.2.2.2.2.2.1, u.2.2.2.2.2.2.2.2.2.2.2.2.2.2.2.2.2.2.2.2.2.2.2.2.2.2.2.1, v, u.2.2.2.2.2.2.2.2.2.2.2.2.2.2.2.2.2.2.2.2.2.2.2.2.2.2.2.2.2.1, u.2.2.2.2.2.2.2.2.2.2.2.2.2.2.2.2.2.2.2.2.2.2.2.2.2.2.2.2.2.2)
def Xs_leftText (u : XS) (v : Nat → Int32) : XS := (u.1, u.2.1, u.2.2.1, u.2.2.2.1, u.2.2.2.2.1, u.2.2.2.2.2.1, u.2.2.2.2.2.2.1, u.2.2.2.2.2.2.2.1, u.2.2.2.2.2.2.2.2.1, u.2.2.2.2.2.2.2.2.2.1, u.2.2.2.2.2.2.2.2.2.2.1, u.2.2.2.2.2.2.2.2.2.2.2.1, u.2.2.2.2.2.2.2.2.2.2.2.2.1, u.2.2.2.2.2.2.2.2.2.2.2.2.2.1, u.2.2.2.2.2.2.2.2.2.2.2.2.2.2.1, u.2.2.2.2.2.2.2.2.2.2.2.2.2.2.2.1, u.2.2.2.2.2.2.2.2.2.2.2.2.2.2.2.2.1, u.2.2.2.2.2.2.2.2.2.2.2.2.2.2.2.2.2.1, u.2.2.2.2.2.2.2.2.2.2.2.2.2.2.2.2.2.2.1, u.2.2.2.2.2.2.2.2.2.2.2.2.2.2.2.2.2.2.2.1, u.2.2.2.2.2.2.2.2.2.2.2.2.2.2.2.2.2.2.2.2.1, u.2.2.2.2.2.2.2.2.2.2.2.2.2.2.2.2.2.2.2.2.2.1, u.2.2.2.2.2.2.2.2.2.2.2.2.2.2.2.2.2.2.2.2.2.2.1, u.2.2.2.2.2.2.2.2.2.2.2.2.2.2.2.2.2.2.2.2.2.2.2.1, u.2.2.2.2.2.2.2.2.2.2.2.2.2.2.2.2.2.2.2.2.2.2.2.2.1, u.2.2.2.2.2.2.2.2.2.2.2.2.2.2.2.2.2.2.2.2.2.2.2.2.2.1, u.2.2.2.2.2.2.2.2.2.2.2.2.2.2.2.2.2.2.2.2.2.2.2.2.2.2.1, u.2.2.2.2.2.2.2.2.2.2.2.2.2.2.2.2.2.2.2.2.2.2.2.2.2.2.2.1, u.2.2.2.2.2.2.2.2.2.2.2.2.2.2.2.2.2.2.2.2.2.2.2.2.2.2.2.2.1, v, u.2.2.2.2.2.2.2.2.2.2.2.2.2.2.2.2.2.2.2.2.2.2.2.2.2.2.2.2.2.2)
def Xs_rightText (u : XS) (v : Nat → Int32) : XS := (u.1, u.2.1, u.2.2.1, u.2.2.2.1, u.2.2.2.2.1, u.2.2.2.2.2.1, u.2.2.2.2.2.2.1, u.2.2.2.2.2.2.2.1, u.2.2.2.2.2.2.2.2.1, u.2.2.2.2.2.2.2.2.2.1, u.2.2.2.2.2.2.2.2.2.2.1, u.2.2.2.2.2.2.2.2.2.2.2.1, u.2.2.2.2.2.2.2.2.2.2.2.2.1, u.2.2.2.2.2.2.2.2.2.2.2.2.2.1, u.2.2.2.2.2.2.2.2.2.2.2.2.2.2.1, u.2.2.2.2.2.2.2.2.2.2.2.2.2.2.2.1, u.2.2.2.2.2.2.2.2.2.2.2.2.2.2.2.2.1, u.2.2.2.2.2.2.2.2.2.2.2.2.2.2.2.2.2.1, u.2.2.2.2.2.2.2.2.2.2.2.2.2.2.2.2.2.2.1, u.2.2.2.2.2.2.2.2.2.2.2.2.2.2.2.2.2.2.2.1, u.2.2.2.2.2.2.2.2.2.2.2.2.2.2.2.2.2.2.2.2.1, u.2.2.2.2.2.2.2.2.2.2.2.2.2.2.2.2.2.2.2.2.2.1, u.2.2.2.2.2.2.2.2.2.2.2.2.2.2.2.2.2.2.2.2.2.2.1, u.2.2.2.2.2.2.2.2.2.2.2.2.2.2.2.2.2.2.2.2.2.2.2.1, u.2.2.2.2.2.2.2.2.2.2.2.2.2.2.2.2.2.2.2.2.2.2.2.2.1, u.2.2.2.2.2.2.2.2.2.2.2.2.2.2.2.2.2.2.2.2.2.2.2.2.2.1, u.2.2.2.2.2.2.2.2.2.2.2.2.2.2.2.2.2.2.2.2.2.2.2.2.2.2.1, u.2.2.2.2.2.2.2.2.2.2.2.2.2.2.2.2.2.2.2.2.2.2.2.2.2.2.2.1, u.2.2.2.2.2.2.2.2.2.2.2.2.2.2.2.2.2.2.2.2.2.2.2.2.2.2.2.2.1, u.2.2.2.2.2.2.2.2.2.2.2.2.2.2.2.2.2.2.2.2.2.2.2.2.2.2.2.2.2.1, v)
def wX (k : zK) (a : Nat → Nat) (u : XS) : va_W := [((a 0), .inr (0, [.int (Xg_whole u), .ref (a 1), .ref (a 6), .ref (a 8), .ref (a 13), .ref (a 17), .ref (a 22), .ref (a 26), .ref (a 27), .ref (a 28)])),
  ((a 1), .inr (1, [.ref (a 2), .ref (a 3), .ref (a 4), .ref (a 5), .int (Xg_fields_made u)])),
  ((a 2), .inl (k.2.1, 40, .inl (Xg_fields_category u))),
  ((a 3), .inl (k.2.1, 40, .inl (Xg_fields_size u))),
  ((a 4), .inl (k.2.1, 40, .inl (Xg_fields_scale u))),
  ((a 5), .inl (k.2.1, 1280, .inl (Xg_fields_bytes u))),
  ((a 6), .inr (2, [.ref (a 7)])),
  ((a 7), .inl (k.2.1, 256, .inl (Xg_weights_of u))),
  ((a 8), .inr (3, [.ref (a 9), .ref (a 10), .ref (a 11), .ref (a 12), .int (Xg_names_made u)])),
  ((a 9), .inl (k.2.1, 41, .inl (Xg_names_field u))),
  ((a 10), .inl (k.2.1, 41, .inl (Xg_names_ranges u))),
  ((a 11), .inl (k.2.2.1, 328, .inr (.inl (Xg_names_low u)))),
  ((a 12), .inl (k.2.2.1, 328, .inr (.inl (Xg_names_high u)))),
  ((a 13), .inr (4, [.ref (a 14), .ref (a 15), .ref (a 16), .int (Xg_nodes_made u)])),
  ((a 14), .inl (k.2.1, 201, .inl (Xg_nodes_op u))),
  ((a 15), .inl (k.2.1, 201, .inl (Xg_nodes_a u))),
  ((a 16), .inl (k.2.1, 201, .inl (Xg_nodes_b u))),
  ((a 17), .inr (5, [.ref (a 18), .ref (a 19), .ref (a 20), .ref (a 21), .int (Xg_row_subject u), .int (Xg_row_carried u), .int (Xg_row_length u)])),
  ((a 18), .inl (k.2.1, 20, .inl (Xg_row_with u))),
  ((a 19), .inl (k.2.1, 20, .inl (Xg_row_op u))),
  ((a 20), .inl (k.2.2.2, 20, .inl (Xg_row_negated u))),
  ((a 21), .inl (k.2.1, 20, .inl (Xg_row_object u))),
  ((a 22), .inr (6, [.ref (a 23), .ref (a 24), .ref (a 25), .int (Xg_testing_noted u), .int (Xg_testing_depth u)])),
  ((a 23), .inl (k.2.1, 201, .inl (Xg_testing_outcome u))),
  ((a 24), .inl (k.2.1, 200, .inl (Xg_testing_leaves u))),
  ((a 25), .inl (k.2.1, 200, .inl (Xg_testing_waiting u))),
  ((a 26), .inl (k.2.2.2, 16, .inl (Xg_switches u))),
  ((a 27), .inl (k.2.1, 32, .inl (Xg_leftText u))),
  ((a 28), .inl (k.2.1, 32, .inl (Xg_rightText u)))]
theorem XD {k : zK} {a : Nat → Nat} (hI : zI 29 a) (u : XS) : va_D (zA 29 a) (wX k a u) := zDg hI rfl
end
section
theorem dX_mostBytes_0 : decode cX_mostBytes 0 = .ok (.iload_n 0, 1) := by decide +kernel
theorem dX_mostBytes_1 : decode cX_mostBytes 1 = .ok (.tableswitch 36 0 2 #[27, 30, 33], 27) := by decide +kernel
theorem dX_mostBytes_28 : decode cX_mostBytes 28 = .ok (.bipush 32, 2) := by decide +kernel
theorem dX_mostBytes_30 : decode cX_mostBytes 30 = .ok (.ireturn, 1) := by decide +kernel
theorem dX_mostBytes_31 : decode cX_mostBytes 31 = .ok (.bipush 18, 2) := by decide +kernel
theorem dX_mostBytes_33 : decode cX_mostBytes 33 = .ok (.ireturn, 1) := by decide +kernel
theorem dX_mostBytes_34 : decode cX_mostBytes 34 = .ok (.bipush 8, 2) := by decide +kernel
theorem dX_mostBytes_36 : decode cX_mostBytes 36 = .ok (.ireturn, 1) := by decide +kernel
theorem dX_mostBytes_37 : decode cX_mostBytes 37 = .ok (.iconst 0, 1) := by decide +kernel
theorem dX_mostBytes_38 : decode cX_mostBytes 38 = .ok (.ireturn, 1) := by decide +kernel
abbrev wsX_mostBytes : List Cond := Cond.code yX_mostBytes cX_mostBytes 1 (some .int) :: zWords
def FX_mostBytes (u : XS) (p0 : Int32) : Int32 := (if p0 = 0 then 32 else (if p0 = 1 then 18 else (if p0 = 2 then 8 else 0)))
set_option maxHeartbeats 4000000 in
set_option maxRecDepth 100000 in
theorem tX_mostBytes (l : Launch) {D : va_G} {k : zK} {a : Nat → Nat} (hI : zI 29 a) (u : XS) (p0 : Int32) : Met l yX_mostBytes wsX_mostBytes ({ frames := 0, cells := 0, slots := 0, locals := 0 }) (zPc D k (zA 29 a) (wX k a u) [.int p0]) (vp_Si (fun r9 => r9 = (FX_mostBytes u p0))) 0 0 (fun _ => False) := by
  refine Met.ofW (cc := cX_mostBytes) (maxL := 1) (ret := (some .int)) (by decide) rfl ?_
  intro p e s m args below meth c s₁ B hml hv
  obtain ⟨rfl, hP, hE⟩ := hv
  have hts := atoms_spec (ws := wsX_mostBytes) B.pre
  have C0 : zC p s m _ meth c cX_mostBytes (some .int) 1 RX wsX_mostBytes D k (zA 29 a) := ⟨B.exec, B.bytes, B.returns, hml, findClass_of_methodNamed B.named, hts, B.notSynchronized, hE⟩
  obtain ⟨hx, hb, hr, hml, hown, _, hlocks, _⟩ := id C0
  have hK := hE.1
  have hS : va_S (zA 29 a) s.heap s.heap [] := va_S.rf
  generalize hf : FX_mostBytes u p0 = tgt
  change ((if p0 = 0 then 32 else (if p0 = 1 then 18 else (if p0 = 2 then 8 else 0))) : Int32) = tgt at hf
  have hl := lv_entry ([.int p0]) (n := 1) (Nat.le_of_ble_eq_true rfl)
  rw [lg_entry_eq]
  generalize (lg_sl ([.int p0]) ++ List.replicate (1 - (lg_sl ([.int p0])).length) Slot.unset).toArray = ls at hl ⊢
  have hl : lv_has ls 1 [(0, .int p0)] := hl
  refine lv_iload_n hx hb dX_mostBytes_0 rfl (lv_at hl 0 rfl) ?_
  by_cases c1 : p0 = 0
  · have hf := zt c1 hf
    refine lv_tableIn (off := 27) (tgt := 28) hx hb dX_mostBytes_1 (by rw [c1]; decide) (by rw [c1]; decide) (by rw [c1]; decide) (by decide) ?_
    refine lv_bipush (v := 32) hx hb dX_mostBytes_28 (by decide) ?_
    exact W.iret (v := 32) hx hb hr (fun t ht hW => ⟨_, rfl, hf, ht⟩) (fun _ h9 => nomatch h9) dX_mostBytes_30
  · have hf := zn c1 hf
    by_cases c2 : p0 = 1
    · have hf := zt c2 hf
      refine lv_tableIn (off := 30) (tgt := 31) hx hb dX_mostBytes_1 (by rw [c2]; decide) (by rw [c2]; decide) (by rw [c2]; decide) (by decide) ?_
      refine lv_bipush (v := 18) hx hb dX_mostBytes_31 (by decide) ?_
      exact W.iret (v := 18) hx hb hr (fun t ht hW => ⟨_, rfl, hf, ht⟩) (fun _ h9 => nomatch h9) dX_mostBytes_33
    · have hf := zn c2 hf
      by_cases c3 : p0 = 2
      · have hf := zt c3 hf
        refine lv_tableIn (off := 33) (tgt := 34) hx hb dX_mostBytes_1 (by rw [c3]; decide) (by rw [c3]; decide) (by rw [c3]; decide) (by decide) ?_
        refine lv_bipush (v := 8) hx hb dX_mostBytes_34 (by decide) ?_
        exact W.iret (v := 8) hx hb hr (fun t ht hW => ⟨_, rfl, hf, ht⟩) (fun _ h9 => nomatch h9) dX_mostBytes_36
      · have hf := zn c3 hf
        refine lv_tableOut (tgt := 37) hx hb dX_mostBytes_1 (by have e0 := lv_neT (a := 0) c1 (by decide); have e1 := lv_neT (a := 1) c2 (by decide); have e2 := lv_neT (a := 2) c3 (by decide); omega) (by decide) ?_
        refine lv_iconst (v := 0) hx hb dX_mostBytes_37 (by decide) ?_
        exact W.iret (v := 0) hx hb hr (fun t ht hW => ⟨_, rfl, hf, ht⟩) (fun _ h9 => nomatch h9) dX_mostBytes_38
theorem dXF_firstByte_0 : decode cXF_firstByte 0 = .ok (.iload_n 0, 1) := by decide +kernel
theorem dXF_firstByte_1 : decode cXF_firstByte 1 = .ok (.lookupswitch 33 #[(0, 27), (1, 30)], 27) := by decide +kernel
theorem dXF_firstByte_28 : decode cXF_firstByte 28 = .ok (.bipush 32, 2) := by decide +kernel
theorem dXF_firstByte_30 : decode cXF_firstByte 30 = .ok (.ireturn, 1) := by decide +kernel
theorem dXF_firstByte_31 : decode cXF_firstByte 31 = .ok (.bipush 48, 2) := by decide +kernel
theorem dXF_firstByte_33 : decode cXF_firstByte 33 = .ok (.ireturn, 1) := by decide +kernel
theorem dXF_firstByte_34 : decode cXF_firstByte 34 = .ok (.iconst 0, 1) := by decide +kernel
theorem dXF_firstByte_35 : decode cXF_firstByte 35 = .ok (.ireturn, 1) := by decide +kernel
abbrev wsXF_firstByte : List Cond := Cond.code yXF_firstByte cXF_firstByte 1 (some .int) :: zWords
def FXF_firstByte (u : XS) (p0 : Int32) : Int32 := (if p0 = 0 then 32 else (if p0 = 1 then 48 else 0))
set_option maxHeartbeats 4000000 in
set_option maxRecDepth 100000 in
theorem tXF_firstByte (l : Launch) {D : va_G} {k : zK} {a : Nat → Nat} (hI : zI 29 a) (u : XS) (p0 : Int32) : Met l yXF_firstByte wsXF_firstByte ({ frames := 0, cells := 0, slots := 0, locals := 0 }) (zPc D k (zA 29 a) (wX k a u) [.int p0]) (vp_Si (fun r9 => r9 = (FXF_firstByte u p0))) 0 0 (fun _ => False) := by
  refine Met.ofW (cc := cXF_firstByte) (maxL := 1) (ret := (some .int)) (by decide) rfl ?_
  intro p e s m args below meth c s₁ B hml hv
  obtain ⟨rfl, hP, hE⟩ := hv
  have hts := atoms_spec (ws := wsXF_firstByte) B.pre
  have C0 : zC p s m _ meth c cXF_firstByte (some .int) 1 RXF wsXF_firstByte D k (zA 29 a) := ⟨B.exec, B.bytes, B.returns, hml, findClass_of_methodNamed B.named, hts, B.notSynchronized, hE⟩
  obtain ⟨hx, hb, hr, hml, hown, _, hlocks, _⟩ := id C0
  have hK := hE.1
  have hS : va_S (zA 29 a) s.heap s.heap [] := va_S.rf
  generalize hf : FXF_firstByte u p0 = tgt
  change ((if p0 = 0 then 32 else (if p0 = 1 then 48 else 0)) : Int32) = tgt at hf
  have hl := lv_entry ([.int p0]) (n := 1) (Nat.le_of_ble_eq_true rfl)
  rw [lg_entry_eq]
  generalize (lg_sl ([.int p0]) ++ List.replicate (1 - (lg_sl ([.int p0])).length) Slot.unset).toArray = ls at hl ⊢
  have hl : lv_has ls 1 [(0, .int p0)] := hl
  refine lv_iload_n hx hb dXF_firstByte_0 rfl (lv_at hl 0 rfl) ?_
  by_cases c1 : p0 = 0
  · have hf := zt c1 hf
    refine lv_lookup (off := 27) (tgt := 28) hx hb dXF_firstByte_1 (by decide) (by rw [c1]; decide) (by decide) ?_
    refine lv_bipush (v := 32) hx hb dXF_firstByte_28 (by decide) ?_
    exact W.iret (v := 32) hx hb hr (fun t ht hW => ⟨_, rfl, hf, ht⟩) (fun _ h9 => nomatch h9) dXF_firstByte_30
  · have hf := zn c1 hf
    by_cases c2 : p0 = 1
    · have hf := zt c2 hf
      refine lv_lookup (off := 30) (tgt := 31) hx hb dXF_firstByte_1 (by decide) (by rw [c2]; decide) (by decide) ?_
      refine lv_bipush (v := 48) hx hb dXF_firstByte_31 (by decide) ?_
      exact W.iret (v := 48) hx hb hr (fun t ht hW => ⟨_, rfl, hf, ht⟩) (fun _ h9 => nomatch h9) dXF_firstByte_33
    · have hf := zn c2 hf
      refine lv_lookup (off := 33) (tgt := 34) hx hb dXF_firstByte_1 (by decide) (show Op.lookupswitch.offset [(0, 27), (1, 30)] 33 (p0 : Int32).toInt = 33 by rw [lv_osw c1 (by decide), lv_osw c2 (by decide)]; rfl) (by decide) ?_
      refine lv_iconst (v := 0) hx hb dXF_firstByte_34 (by decide) ?_
      exact W.iret (v := 0) hx hb hr (fun t ht hW => ⟨_, rfl, hf, ht⟩) (fun _ h9 => nomatch h9) dXF_firstByte_35
theorem dXF_add_0 : decode cXF_add 0 = .ok (.aload_n 0, 1) := by decide +kernel
theorem dXF_add_1 : decode cXF_add 1 = .ok (.getfield 24, 3) := by decide +kernel
theorem dXF_add_4 : decode cXF_add 4 = .ok (.bipush 40, 2) := by decide +kernel
theorem dXF_add_6 : decode cXF_add 6 = .ok (.if_icmp .lt 5, 3) := by decide +kernel
theorem dXF_add_9 : decode cXF_add 9 = .ok (.iconst (-1), 1) := by decide +kernel
theorem dXF_add_10 : decode cXF_add 10 = .ok (.ireturn, 1) := by decide +kernel
theorem dXF_add_11 : decode cXF_add 11 = .ok (.aload_n 0, 1) := by decide +kernel
theorem dXF_add_12 : decode cXF_add 12 = .ok (.dup, 1) := by decide +kernel
theorem dXF_add_13 : decode cXF_add 13 = .ok (.getfield 24, 3) := by decide +kernel
theorem dXF_add_16 : decode cXF_add 16 = .ok (.dup_x1, 1) := by decide +kernel
theorem dXF_add_17 : decode cXF_add 17 = .ok (.iconst 1, 1) := by decide +kernel
theorem dXF_add_18 : decode cXF_add 18 = .ok (.iadd, 1) := by decide +kernel
theorem dXF_add_19 : decode cXF_add 19 = .ok (.putfield 24, 3) := by decide +kernel
theorem dXF_add_22 : decode cXF_add 22 = .ok (.istore_n 3, 1) := by decide +kernel
theorem dXF_add_23 : decode cXF_add 23 = .ok (.aload_n 0, 1) := by decide +kernel
theorem dXF_add_24 : decode cXF_add 24 = .ok (.getfield 9, 3) := by decide +kernel
theorem dXF_add_27 : decode cXF_add 27 = .ok (.iload_n 3, 1) := by decide +kernel
theorem dXF_add_28 : decode cXF_add 28 = .ok (.iload_n 1, 1) := by decide +kernel
theorem dXF_add_29 : decode cXF_add 29 = .ok (.iastore, 1) := by decide +kernel
theorem dXF_add_30 : decode cXF_add 30 = .ok (.aload_n 0, 1) := by decide +kernel
theorem dXF_add_31 : decode cXF_add 31 = .ok (.getfield 15, 3) := by decide +kernel
theorem dXF_add_34 : decode cXF_add 34 = .ok (.iload_n 3, 1) := by decide +kernel
theorem dXF_add_35 : decode cXF_add 35 = .ok (.iload_n 2, 1) := by decide +kernel
theorem dXF_add_36 : decode cXF_add 36 = .ok (.iastore, 1) := by decide +kernel
theorem dXF_add_37 : decode cXF_add 37 = .ok (.iconst 0, 1) := by decide +kernel
theorem dXF_add_38 : decode cXF_add 38 = .ok (.istore 4, 2) := by decide +kernel
theorem dXF_add_40 : decode cXF_add 40 = .ok (.iload 4, 2) := by decide +kernel
theorem dXF_add_42 : decode cXF_add 42 = .ok (.iload_n 2, 1) := by decide +kernel
theorem dXF_add_43 : decode cXF_add 43 = .ok (.if_icmp .ge 25, 3) := by decide +kernel
theorem dXF_add_46 : decode cXF_add 46 = .ok (.aload_n 0, 1) := by decide +kernel
theorem dXF_add_47 : decode cXF_add 47 = .ok (.getfield 21, 3) := by decide +kernel
theorem dXF_add_50 : decode cXF_add 50 = .ok (.iload_n 3, 1) := by decide +kernel
theorem dXF_add_51 : decode cXF_add 51 = .ok (.bipush 32, 2) := by decide +kernel
theorem dXF_add_53 : decode cXF_add 53 = .ok (.imul, 1) := by decide +kernel
theorem dXF_add_54 : decode cXF_add 54 = .ok (.iload 4, 2) := by decide +kernel
theorem dXF_add_56 : decode cXF_add 56 = .ok (.iadd, 1) := by decide +kernel
theorem dXF_add_57 : decode cXF_add 57 = .ok (.iload_n 1, 1) := by decide +kernel
theorem dXF_add_58 : decode cXF_add 58 = .ok (.invokestatic 35, 3) := by decide +kernel
theorem dXF_add_61 : decode cXF_add 61 = .ok (.iastore, 1) := by decide +kernel
theorem dXF_add_62 : decode cXF_add 62 = .ok (.iinc 4 1, 3) := by decide +kernel
theorem dXF_add_65 : decode cXF_add 65 = .ok (.goto (-25), 3) := by decide +kernel
theorem dXF_add_68 : decode cXF_add 68 = .ok (.iload_n 3, 1) := by decide +kernel
theorem dXF_add_69 : decode cXF_add 69 = .ok (.ireturn, 1) := by decide +kernel
abbrev wsXF_add : List Cond := Cond.code yXF_add cXF_add 5 (some .int) :: zWords
def LXF_add_40 : Nat → XS → Int32 → Int32 → Int32 → Int32 → Int32 × XS
  | 0, u, _, _, _, _ => (0, u)
  | n + 1, u, x4, x3, x1, x2 => (if x2 ≤ x4 then (x3, u) else (zlet (Xs_fields_bytes u (upd (Xg_fields_bytes u) (((x3 * 32) + x4).toNatClampNeg) (FXF_firstByte u x1))) (fun u9 => (LXF_add_40 n u9 (x4 + 1) x3 x1 x2))))
def MXF_add_40 : Nat → XS → Int32 → Int32 → Int32 → Int32 → Prop
  | 0, _, _, _, _, _ => False
  | n + 1, u, x4, x3, x1, x2 => (if x2 ≤ x4 then True else (vp_in ((x3 * 32) + x4) 1280 ∧ (zlet (Xs_fields_bytes u (upd (Xg_fields_bytes u) (((x3 * 32) + x4).toNatClampNeg) (FXF_firstByte u x1))) (fun u9 => (MXF_add_40 n u9 (x4 + 1) x3 x1 x2)))))
def FXF_add (u : XS) (p0 : Int32) (p1 : Int32) : Int32 × XS := (if (Xg_fields_made u) < 40 then (zlet (Xs_fields_made u ((Xg_fields_made u) + 1)) (fun u2 => (zlet (Xs_fields_category u2 (upd (Xg_fields_category u2) ((Xg_fields_made u).toNatClampNeg) p0)) (fun u4 => (zlet (Xs_fields_size u4 (upd (Xg_fields_size u4) ((Xg_fields_made u).toNatClampNeg) p1)) (fun u6 => (LXF_add_40 1000 u6 0 (Xg_fields_made u) p0 p1))))))) else ((-1), u))
def GXF_add (u : XS) (p0 : Int32) (p1 : Int32) : Prop := (if (Xg_fields_made u) < 40 then (zlet (Xs_fields_made u ((Xg_fields_made u) + 1)) (fun u2 => (vp_in (Xg_fields_made u) 40 ∧ (zlet (Xs_fields_category u2 (upd (Xg_fields_category u2) ((Xg_fields_made u).toNatClampNeg) p0)) (fun u4 => (vp_in (Xg_fields_made u) 40 ∧ (zlet (Xs_fields_size u4 (upd (Xg_fields_size u4) ((Xg_fields_made u).toNatClampNeg) p1)) (fun u6 => (MXF_add_40 1000 u6 0 (Xg_fields_made u) p0 p1))))))))) else True)
set_option maxHeartbeats 4000000 in
set_option maxRecDepth 100000 in
theorem kXF_add_40 {p : Program} {l : Launch} {e : Env} {s : State} {m : MethodId} {args : Array Value} {below : List Frame} {meth : Method} {c : Code} {D : va_G} {k : zK} {a : Nat → Nat} (hI : zI 29 a) (C0 : zC p s m args meth c cXF_add (some .int) 5 RXF wsXF_add D k (zA 29 a)) {tgt : Int32 × XS} : ∀ (n : Nat) (u : XS) (x4 : Int32) (x3 : Int32) (x1 : Int32) (x2 : Int32), LXF_add_40 n u x4 x3 x1 x2 = tgt → MXF_add_40 n u x4 x3 x1 x2 → ∀ (H : Heap) (locs : List Loc), va_P D vwCl (wX k a u) H → va_S (zA 29 a) s.heap H locs → ∀ (ls : Array Slot), lv_has ls 5 [(4, .int x4), (3, .int x3), (0, .ref (a 1)), (1, .int x1), (2, .int x2)] → W p l e (headSpec wsXF_add ({ frames := 1, cells := 0, slots := 0, locals := 20 })).room s m args below meth c H locs 0 0 (MQ below (zQi D (wX k a) (zA 29 a) tgt) args s 0 0 (zA 29 a)) (F0 m 40 ls []) := by
  obtain ⟨hx, hb, hr, hml, hown, hts, hlocks, hE⟩ := id C0
  have hK := hE.1
  intro n
  induction n with
  | zero =>
    intro u x4 x3 x1 x2 _ hg
    exact False.elim hg
  | succ n ih =>
    intro u x4 x3 x1 x2 hf hg H locs hP hS ls hl
    change ((if x2 ≤ x4 then (x3, u) else (zlet (Xs_fields_bytes u (upd (Xg_fields_bytes u) (((x3 * 32) + x4).toNatClampNeg) (FXF_firstByte u x1))) (fun u9 => (LXF_add_40 n u9 (x4 + 1) x3 x1 x2)))) : Int32 × XS) = tgt at hf
    change (if x2 ≤ x4 then True else (vp_in ((x3 * 32) + x4) 1280 ∧ (zlet (Xs_fields_bytes u (upd (Xg_fields_bytes u) (((x3 * 32) + x4).toNatClampNeg) (FXF_firstByte u x1))) (fun u9 => (MXF_add_40 n u9 (x4 + 1) x3 x1 x2))))) at hg
    refine lv_iload hx hb dXF_add_40 (lv_at hl 0 rfl) ?_
    refine lv_iload_n hx hb dXF_add_42 rfl (lv_at hl 4 rfl) ?_
    refine lv_icmp_ge (tgt := 68) hx hb dXF_add_43 (by decide) (fun c7 => ?_) (fun c7 => ?_)
    · have hf := zt c7 hf
      have hg := zgt c7 hg
      refine lv_iload_n hx hb dXF_add_68 rfl (lv_at hl 1 rfl) ?_
      exact W.iret (v := x3) hx hb hr (fun t ht hW => by subst hf; exact ⟨rfl, by rw [ht]; exact hP, hS.F ht⟩) hS.2.2 dXF_add_69
    · have hf := zn c7 hf
      have hg := zgn c7 hg
      refine lv_aload_n hx hb dXF_add_46 rfl (lv_at hl 2 rfl) ?_
      refine va_get (D := D) (ci := 1) (v := .ref (a 5)) (C := RXF) (T := TXF) (N := 5) hx hb hts (fun w h9 => zc (inXF w h9)) hown hK hP 1 rfl rfl 3 (by decide) (hts _ (zc m_36)) (fun _ h9 => h9) rfl dXF_add_47 ?_
      refine lv_iload_n hx hb dXF_add_50 rfl (lv_at hl 1 rfl) ?_
      refine lv_bipush (v := 32) hx hb dXF_add_51 (by decide) ?_
      refine lv_imul hx hb dXF_add_53 ?_
      refine lv_iload hx hb dXF_add_54 (lv_at hl 0 rfl) ?_
      refine lv_iadd hx hb dXF_add_56 ?_
      refine lv_iload_n hx hb dXF_add_57 rfl (lv_at hl 3 rfl) ?_
      refine vp_callSi (W.runS (As := [.int x1]) (rest := [.int ((x3 * 32) + x4), .ref (a 5)]) ⟨hx, hb, hml, hown, hts⟩ (tXF_firstByte l hI u x1) (va_cwS 1 hts (zgS m_216 m_217 m_2 m_218) rfl rfl rfl (by decide +kernel) ⟨Nat.le_of_ble_eq_true rfl, Nat.le_of_ble_eq_true rfl⟩) (zpreS hP hE hS.2.1) rfl rfl hl.1 rfl (lv_room (Nat.le_of_ble_eq_true rfl)) dXF_add_58 ⟨Nat.zero_le _, Nat.zero_le _⟩) (fun r9 hr9 => ?_)
      subst hr9
      obtain ⟨h8, hg⟩ := hg
      refine va_iast hx hb hK hP (XD hI _) hS 5 0 rfl rfl h8 dXF_add_61 (fun H locs hP _ hS => ?_)
      obtain ⟨u9, hP, hf, hg⟩ := zlets (E := (Xs_fields_bytes u (upd (Xg_fields_bytes u) (((x3 * 32) + x4).toNatClampNeg) (FXF_firstByte u x1)))) (w := wX k a) hP hf hg
      refine lv_iinc (v := (x4 + 1)) (lv' := [(4, .int (x4 + 1)), (3, .int x3), (0, .ref (a 1)), (1, .int x1), (2, .int x2)]) hx hb dXF_add_62 hl (k := 0) rfl rfl (by decide) rfl (fun ls hl => ?_)
      refine lv_goto (tgt := 40) hx hb dXF_add_65 (by decide) ?_
      exact ih u9 (x4 + 1) x3 x1 x2 hf hg _ _ hP hS _ (lv_sub hl [0, 1, 2, 3, 4] rfl)
set_option maxHeartbeats 4000000 in
set_option maxRecDepth 100000 in
theorem tXF_add (l : Launch) {D : va_G} {k : zK} {a : Nat → Nat} (hI : zI 29 a) (u : XS) (p0 : Int32) (p1 : Int32) (hg : GXF_add u p0 p1) : Met l yXF_add wsXF_add ({ frames := 1, cells := 0, slots := 0, locals := 20 }) (zPc D k (zA 29 a) (wX k a u) [.ref (a 1), .int p0, .int p1]) (zQi D (wX k a) (zA 29 a) (FXF_add u p0 p1)) 0 0 (zA 29 a) := by
  refine Met.ofW (cc := cXF_add) (maxL := 5) (ret := (some .int)) (by decide) rfl ?_
  intro p e s m args below meth c s₁ B hml hv
  obtain ⟨rfl, hP, hE⟩ := hv
  have hts := atoms_spec (ws := wsXF_add) B.pre
  have C0 : zC p s m _ meth c cXF_add (some .int) 5 RXF wsXF_add D k (zA 29 a) := ⟨B.exec, B.bytes, B.returns, hml, findClass_of_methodNamed B.named, hts, B.notSynchronized, hE⟩
  obtain ⟨hx, hb, hr, hml, hown, _, hlocks, _⟩ := id C0
  have hK := hE.1
  have hS : va_S (zA 29 a) s.heap s.heap [] := va_S.rf
  generalize hf : FXF_add u p0 p1 = tgt
  change ((if (Xg_fields_made u) < 40 then (zlet (Xs_fields_made u ((Xg_fields_made u) + 1)) (fun u2 => (zlet (Xs_fields_category u2 (upd (Xg_fields_category u2) ((Xg_fields_made u).toNatClampNeg) p0)) (fun u4 => (zlet (Xs_fields_size u4 (upd (Xg_fields_size u4) ((Xg_fields_made u).toNatClampNeg) p1)) (fun u6 => (LXF_add_40 1000 u6 0 (Xg_fields_made u) p0 p1))))))) else ((-1), u)) : Int32 × XS) = tgt at hf
  change (if (Xg_fields_made u) < 40 then (zlet (Xs_fields_made u ((Xg_fields_made u) + 1)) (fun u2 => (vp_in (Xg_fields_made u) 40 ∧ (zlet (Xs_fields_category u2 (upd (Xg_fields_category u2) ((Xg_fields_made u).toNatClampNeg) p0)) (fun u4 => (vp_in (Xg_fields_made u) 40 ∧ (zlet (Xs_fields_size u4 (upd (Xg_fields_size u4) ((Xg_fields_made u).toNatClampNeg) p1)) (fun u6 => (MXF_add_40 1000 u6 0 (Xg_fields_made u) p0 p1))))))))) else True) at hg
  have hl := lv_entry ([.ref (a 1), .int p0, .int p1]) (n := 5) (Nat.le_of_ble_eq_true rfl)
  rw [lg_entry_eq]
  generalize (lg_sl ([.ref (a 1), .int p0, .int p1]) ++ List.replicate (5 - (lg_sl ([.ref (a 1), .int p0, .int p1])).length) Slot.unset).toArray = ls at hl ⊢
  have hl : lv_has ls 5 [(0, .ref (a 1)), (1, .int p0), (2, .int p1)] := hl
  refine lv_aload_n hx hb dXF_add_0 rfl (lv_at hl 0 rfl) ?_
  refine va_get (D := D) (ci := 1) (v := .int (Xg_fields_made u)) (C := RXF) (T := TXF) (N := 5) hx hb hts (fun w h9 => zc (inXF w h9)) hown hK hP 1 rfl rfl 4 (by decide) (hts _ (zc m_38)) (fun _ h9 => h9) rfl dXF_add_1 ?_
  refine lv_bipush (v := 40) hx hb dXF_add_4 (by decide) ?_
  refine lv_icmp_lt (tgt := 11) hx hb dXF_add_6 (by decide) (fun c1 => ?_) (fun c1 => ?_)
  · have hf := zt c1 hf
    have hg := zgt c1 hg
    refine lv_aload_n hx hb dXF_add_11 rfl (lv_at hl 0 rfl) ?_
    refine lv_dup hx hb dXF_add_12 rfl ?_
    refine va_get (D := D) (ci := 1) (v := .int (Xg_fields_made u)) (C := RXF) (T := TXF) (N := 5) hx hb hts (fun w h9 => zc (inXF w h9)) hown hK hP 1 rfl rfl 4 (by decide) (hts _ (zc m_38)) (fun _ h9 => h9) rfl dXF_add_13 ?_
    refine lv_dup_x1 hx hb dXF_add_16 rfl rfl ?_
    refine lv_iconst (v := 1) hx hb dXF_add_17 (by decide) ?_
    refine lv_iadd hx hb dXF_add_18 ?_
    refine va_put (D := D) (ci := 1) (v := .int ((Xg_fields_made u) + 1)) (ty := .int) (C := RXF) (T := TXF) (N := 5) hx hb hts (fun w h9 => zc (inXF w h9)) tyXF tyXF_ok nmXF hown hK hP (XD hI _) hS 1 rfl rfl 4 (by decide) (hts _ (zc m_38)) (fun _ h9 => h9) rfl (by decide +kernel) rfl rfl (Nat.le_of_ble_eq_true rfl) dXF_add_19 (fun H locs hP _ hS => ?_)
    obtain ⟨u2, hP, hf, hg⟩ := zlets (E := (Xs_fields_made u ((Xg_fields_made u) + 1))) (w := wX k a) hP hf hg
    refine lv_istore_n (lv' := [(3, .int (Xg_fields_made u)), (0, .ref (a 1)), (1, .int p0), (2, .int p1)]) hx hb dXF_add_22 rfl hl (by decide) rfl (fun ls hl => ?_)
    refine lv_aload_n hx hb dXF_add_23 rfl (lv_at hl 1 rfl) ?_
    refine va_get (D := D) (ci := 1) (v := .ref (a 2)) (C := RXF) (T := TXF) (N := 5) hx hb hts (fun w h9 => zc (inXF w h9)) hown hK hP 1 rfl rfl 0 (by decide) (hts _ (zc m_31)) (fun _ h9 => h9) rfl dXF_add_24 ?_
    refine lv_iload_n hx hb dXF_add_27 rfl (lv_at hl 0 rfl) ?_
    refine lv_iload_n hx hb dXF_add_28 rfl (lv_at hl 2 rfl) ?_
    obtain ⟨h3, hg⟩ := hg
    refine va_iast hx hb hK hP (XD hI _) hS 2 0 rfl rfl h3 dXF_add_29 (fun H locs hP _ hS => ?_)
    obtain ⟨u4, hP, hf, hg⟩ := zlets (E := (Xs_fields_category u2 (upd (Xg_fields_category u2) ((Xg_fields_made u).toNatClampNeg) p0))) (w := wX k a) hP hf hg
    refine lv_aload_n hx hb dXF_add_30 rfl (lv_at hl 1 rfl) ?_
    refine va_get (D := D) (ci := 1) (v := .ref (a 3)) (C := RXF) (T := TXF) (N := 5) hx hb hts (fun w h9 => zc (inXF w h9)) hown hK hP 1 rfl rfl 1 (by decide) (hts _ (zc m_32)) (fun _ h9 => h9) rfl dXF_add_31 ?_
    refine lv_iload_n hx hb dXF_add_34 rfl (lv_at hl 0 rfl) ?_
    refine lv_iload_n hx hb dXF_add_35 rfl (lv_at hl 3 rfl) ?_
    obtain ⟨h5, hg⟩ := hg
    refine va_iast hx hb hK hP (XD hI _) hS 3 0 rfl rfl h5 dXF_add_36 (fun H locs hP _ hS => ?_)
    obtain ⟨u6, hP, hf, hg⟩ := zlets (E := (Xs_fields_size u4 (upd (Xg_fields_size u4) ((Xg_fields_made u).toNatClampNeg) p1))) (w := wX k a) hP hf hg
    refine lv_iconst (v := 0) hx hb dXF_add_37 (by decide) ?_
    refine lv_istore (lv' := [(4, .int 0), (3, .int (Xg_fields_made u)), (0, .ref (a 1)), (1, .int p0), (2, .int p1)]) hx hb dXF_add_38 hl (by decide) rfl (fun ls hl => ?_)
    exact kXF_add_40 hI C0 (tgt := tgt) 1000 u6 0 (Xg_fields_made u) p0 p1 hf hg _ _ hP hS _ (lv_sub hl [0, 1, 2, 3, 4] rfl)
  · have hf := zn c1 hf
    have hg := zgn c1 hg
    refine lv_iconst (v := (-1)) hx hb dXF_add_9 (by decide) ?_
    exact W.iret (v := (-1)) hx hb hr (fun t ht hW => by subst hf; exact ⟨rfl, by rw [ht]; exact hP, hS.F ht⟩) hS.2.2 dXF_add_10
theorem dX_field_0 : decode cX_field 0 = .ok (.iload_n 2, 1) := by decide +kernel
theorem dX_field_1 : decode cX_field 1 = .ok (.iconst 1, 1) := by decide +kernel
theorem dX_field_2 : decode cX_field 2 = .ok (.if_icmp .lt 11, 3) := by decide +kernel
theorem dX_field_5 : decode cX_field 5 = .ok (.iload_n 2, 1) := by decide +kernel
theorem dX_field_6 : decode cX_field 6 = .ok (.iload_n 1, 1) := by decide +kernel
theorem dX_field_7 : decode cX_field 7 = .ok (.invokestatic 66, 3) := by decide +kernel
theorem dX_field_10 : decode cX_field 10 = .ok (.if_icmp .le 6, 3) := by decide +kernel
theorem dX_field_13 : decode cX_field 13 = .ok (.bipush (-4), 2) := by decide +kernel
theorem dX_field_15 : decode cX_field 15 = .ok (.ireturn, 1) := by decide +kernel
theorem dX_field_16 : decode cX_field 16 = .ok (.aload_n 0, 1) := by decide +kernel
theorem dX_field_17 : decode cX_field 17 = .ok (.getfield 10, 3) := by decide +kernel
theorem dX_field_20 : decode cX_field 20 = .ok (.iload_n 1, 1) := by decide +kernel
theorem dX_field_21 : decode cX_field 21 = .ok (.iload_n 2, 1) := by decide +kernel
theorem dX_field_22 : decode cX_field 22 = .ok (.invokevirtual 70, 3) := by decide +kernel
theorem dX_field_25 : decode cX_field 25 = .ok (.ireturn, 1) := by decide +kernel
abbrev wsX_field : List Cond := Cond.code yX_field cX_field 3 (some .int) :: zWords
def FX_field (u : XS) (p0 : Int32) (p1 : Int32) : Int32 × XS := (if p1 < 1 then ((-4), u) else (if p1 ≤ (FX_mostBytes u p0) then (zlet (FXF_add u p0 p1) (fun u4 => (u4.1, u4.2))) else ((-4), u)))
def GX_field (u : XS) (p0 : Int32) (p1 : Int32) : Prop := (if p1 < 1 then True else (if p1 ≤ (FX_mostBytes u p0) then (GXF_add u p0 p1 ∧ (zlet (FXF_add u p0 p1) (fun u4 => True))) else True))
set_option maxHeartbeats 4000000 in
set_option maxRecDepth 100000 in
theorem tX_field (l : Launch) {D : va_G} {k : zK} {a : Nat → Nat} (hI : zI 29 a) (u : XS) (p0 : Int32) (p1 : Int32) (hg : GX_field u p0 p1) : Met l yX_field wsX_field ({ frames := 2, cells := 0, slots := 0, locals := 44 }) (zPc D k (zA 29 a) (wX k a u) [.ref (a 0), .int p0, .int p1]) (zQi D (wX k a) (zA 29 a) (FX_field u p0 p1)) 0 0 (zA 29 a) := by
  refine Met.ofW (cc := cX_field) (maxL := 3) (ret := (some .int)) (by decide) rfl ?_
  intro p e s m args below meth c s₁ B hml hv
  obtain ⟨rfl, hP, hE⟩ := hv
  have hts := atoms_spec (ws := wsX_field) B.pre
  have C0 : zC p s m _ meth c cX_field (some .int) 3 RX wsX_field D k (zA 29 a) := ⟨B.exec, B.bytes, B.returns, hml, findClass_of_methodNamed B.named, hts, B.notSynchronized, hE⟩
  obtain ⟨hx, hb, hr, hml, hown, _, hlocks, _⟩ := id C0
  have hK := hE.1
  have hS : va_S (zA 29 a) s.heap s.heap [] := va_S.rf
  generalize hf : FX_field u p0 p1 = tgt
  change ((if p1 < 1 then ((-4), u) else (if p1 ≤ (FX_mostBytes u p0) then (zlet (FXF_add u p0 p1) (fun u4 => (u4.1, u4.2))) else ((-4), u))) : Int32 × XS) = tgt at hf
  change (if p1 < 1 then True else (if p1 ≤ (FX_mostBytes u p0) then (GXF_add u p0 p1 ∧ (zlet (FXF_add u p0 p1) (fun u4 => True))) else True)) at hg
  have hl := lv_entry ([.ref (a 0), .int p0, .int p1]) (n := 3) (Nat.le_of_ble_eq_true rfl)
  rw [lg_entry_eq]
  generalize (lg_sl ([.ref (a 0), .int p0, .int p1]) ++ List.replicate (3 - (lg_sl ([.ref (a 0), .int p0, .int p1])).length) Slot.unset).toArray = ls at hl ⊢
  have hl : lv_has ls 3 [(0, .ref (a 0)), (1, .int p0), (2, .int p1)] := hl
  refine lv_iload_n hx hb dX_field_0 rfl (lv_at hl 2 rfl) ?_
  refine lv_iconst (v := 1) hx hb dX_field_1 (by decide) ?_
  refine lv_icmp_lt (tgt := 13) hx hb dX_field_2 (by decide) (fun c1 => ?_) (fun c1 => ?_)
  · have hf := zt c1 hf
    have hg := zgt c1 hg
    refine lv_bipush (v := (-4)) hx hb dX_field_13 (by decide) ?_
    exact W.iret (v := (-4)) hx hb hr (fun t ht hW => by subst hf; exact ⟨rfl, by rw [ht]; exact hP, hS.F ht⟩) hS.2.2 dX_field_15
  · have hf := zn c1 hf
    have hg := zgn c1 hg
    refine lv_iload_n hx hb dX_field_5 rfl (lv_at hl 2 rfl) ?_
    refine lv_iload_n hx hb dX_field_6 rfl (lv_at hl 1 rfl) ?_
    refine vp_callSi (W.runS (As := [.int p0]) (rest := [.int p1]) ⟨hx, hb, hml, hown, hts⟩ (tX_mostBytes l hI u p0) (va_cwS 1 hts (zgS m_209 m_210 m_1 m_211) rfl rfl rfl (by decide +kernel) ⟨Nat.le_of_ble_eq_true rfl, Nat.le_of_ble_eq_true rfl⟩) (zpreS hP hE hS.2.1) rfl rfl hl.1 rfl (lv_room (Nat.le_of_ble_eq_true rfl)) dX_field_7 ⟨Nat.zero_le _, Nat.zero_le _⟩) (fun r9 hr9 => ?_)
    subst hr9
    refine lv_icmp_le (tgt := 16) hx hb dX_field_10 (by decide) (fun c2 => ?_) (fun c2 => ?_)
    · have hf := zt c2 hf
      have hg := zgt c2 hg
      refine lv_aload_n hx hb dX_field_16 rfl (lv_at hl 0 rfl) ?_
      refine va_get (D := D) (ci := 0) (v := .ref (a 1)) (C := RX) (T := TX) (N := 10) hx hb hts (fun w h9 => zc (inX w h9)) hown hK hP 0 rfl rfl 1 (by decide) (hts _ (zc m_175)) (fun _ h9 => h9) rfl dX_field_17 ?_
      refine lv_iload_n hx hb dX_field_20 rfl (lv_at hl 1 rfl) ?_
      refine lv_iload_n hx hb dX_field_21 rfl (lv_at hl 2 rfl) ?_
      obtain ⟨h3, hg⟩ := hg
      refine zmui (W.runV (As := [.int p0, .int p1]) (rest := []) ⟨hx, hb, hml, hown, hts⟩ (tXF_add l hI u p0 p1 h3) (cwV 2 hts (zgV m_212 m_213 m_214 m_2 m_215) rfl rfl rfl (by decide +kernel) ⟨Nat.le_of_ble_eq_true rfl, Nat.le_of_ble_eq_true rfl⟩) (zpre hP hE hS.2.1 (va_recv hK hP (ci := 1) (q0 := 1) rfl rfl)) rfl rfl hl.1 rfl (lv_room (Nat.le_of_ble_eq_true rfl)) dX_field_22 ⟨Nat.zero_le _, Nat.zero_le _⟩) hS hf hg (fun u4 H locs hf hg hP hS => ?_)
      exact W.iret (v := u4.1) hx hb hr (fun t ht hW => by subst hf; exact ⟨rfl, by rw [ht]; exact hP, hS.F ht⟩) hS.2.2 dX_field_25
    · have hf := zn c2 hf
      have hg := zgn c2 hg
      refine lv_bipush (v := (-4)) hx hb dX_field_13 (by decide) ?_
      exact W.iret (v := (-4)) hx hb hr (fun t ht hW => by subst hf; exact ⟨rfl, by rw [ht]; exact hP, hS.F ht⟩) hS.2.2 dX_field_15
theorem dXF_has_0 : decode cXF_has 0 = .ok (.iload_n 1, 1) := by decide +kernel
theorem dXF_has_1 : decode cXF_has 1 = .ok (.ifCond .lt 15, 3) := by decide +kernel
theorem dXF_has_4 : decode cXF_has 4 = .ok (.iload_n 1, 1) := by decide +kernel
theorem dXF_has_5 : decode cXF_has 5 = .ok (.aload_n 0, 1) := by decide +kernel
theorem dXF_has_6 : decode cXF_has 6 = .ok (.getfield 24, 3) := by decide +kernel
theorem dXF_has_9 : decode cXF_has 9 = .ok (.if_icmp .ge 7, 3) := by decide +kernel
theorem dXF_has_12 : decode cXF_has 12 = .ok (.iconst 1, 1) := by decide +kernel
theorem dXF_has_13 : decode cXF_has 13 = .ok (.goto 4, 3) := by decide +kernel
theorem dXF_has_16 : decode cXF_has 16 = .ok (.iconst 0, 1) := by decide +kernel
theorem dXF_has_17 : decode cXF_has 17 = .ok (.ireturn, 1) := by decide +kernel
abbrev wsXF_has : List Cond := Cond.code yXF_has cXF_has 2 (some .boolean) :: zWords
def FXF_has (u : XS) (p0 : Int32) : Int32 := (if p0 < 0 then 0 else (if (Xg_fields_made u) ≤ p0 then 0 else 1))
theorem bFXF_has (u : XS) (p0 : Int32) : FXF_has u p0 = 0 ∨ FXF_has u p0 = 1 := by
  unfold FXF_has
  repeat' split
  all_goals first | exact Or.inl rfl | exact Or.inr rfl
set_option maxHeartbeats 4000000 in
set_option maxRecDepth 100000 in
theorem tXF_has (l : Launch) {D : va_G} {k : zK} {a : Nat → Nat} (hI : zI 29 a) (u : XS) (p0 : Int32) : Met l yXF_has wsXF_has ({ frames := 0, cells := 0, slots := 0, locals := 0 }) (zPc D k (zA 29 a) (wX k a u) [.ref (a 1), .int p0]) (vp_Si (fun r9 => r9 = (FXF_has u p0))) 0 0 (fun _ => False) := by
  refine Met.ofW (cc := cXF_has) (maxL := 2) (ret := (some .boolean)) (by decide) rfl ?_
  intro p e s m args below meth c s₁ B hml hv
  obtain ⟨rfl, hP, hE⟩ := hv
  have hts := atoms_spec (ws := wsXF_has) B.pre
  have C0 : zC p s m _ meth c cXF_has (some .boolean) 2 RXF wsXF_has D k (zA 29 a) := ⟨B.exec, B.bytes, B.returns, hml, findClass_of_methodNamed B.named, hts, B.notSynchronized, hE⟩
  obtain ⟨hx, hb, hr, hml, hown, _, hlocks, _⟩ := id C0
  have hK := hE.1
  have hS : va_S (zA 29 a) s.heap s.heap [] := va_S.rf
  generalize hf : FXF_has u p0 = tgt
  change ((if p0 < 0 then 0 else (if (Xg_fields_made u) ≤ p0 then 0 else 1)) : Int32) = tgt at hf
  have hl := lv_entry ([.ref (a 1), .int p0]) (n := 2) (Nat.le_of_ble_eq_true rfl)
  rw [lg_entry_eq]
  generalize (lg_sl ([.ref (a 1), .int p0]) ++ List.replicate (2 - (lg_sl ([.ref (a 1), .int p0])).length) Slot.unset).toArray = ls at hl ⊢
  have hl : lv_has ls 2 [(0, .ref (a 1)), (1, .int p0)] := hl
  refine lv_iload_n hx hb dXF_has_0 rfl (lv_at hl 1 rfl) ?_
  refine lv_if_lt (tgt := 16) hx hb dXF_has_1 (by decide) (fun c1 => ?_) (fun c1 => ?_)
  · have hf := zt c1 hf
    refine lv_iconst (v := 0) hx hb dXF_has_16 (by decide) ?_
    exact W.zret (v := 0) (ty := .boolean) hx hb hr rfl (fun t ht hW => ⟨_, rfl, hf, ht⟩) (fun _ h9 => nomatch h9) dXF_has_17
  · have hf := zn c1 hf
    refine lv_iload_n hx hb dXF_has_4 rfl (lv_at hl 1 rfl) ?_
    refine lv_aload_n hx hb dXF_has_5 rfl (lv_at hl 0 rfl) ?_
    refine va_get (D := D) (ci := 1) (v := .int (Xg_fields_made u)) (C := RXF) (T := TXF) (N := 5) hx hb hts (fun w h9 => zc (inXF w h9)) hown hK hP 1 rfl rfl 4 (by decide) (hts _ (zc m_38)) (fun _ h9 => h9) rfl dXF_has_6 ?_
    refine lv_icmp_ge (tgt := 16) hx hb dXF_has_9 (by decide) (fun c2 => ?_) (fun c2 => ?_)
    · have hf := zt c2 hf
      refine lv_iconst (v := 0) hx hb dXF_has_16 (by decide) ?_
      exact W.zret (v := 0) (ty := .boolean) hx hb hr rfl (fun t ht hW => ⟨_, rfl, hf, ht⟩) (fun _ h9 => nomatch h9) dXF_has_17
    · have hf := zn c2 hf
      refine lv_iconst (v := 1) hx hb dXF_has_12 (by decide) ?_
      refine lv_goto (tgt := 17) hx hb dXF_has_13 (by decide) ?_
      exact W.zret (v := 1) (ty := .boolean) hx hb hr rfl (fun t ht hW => ⟨_, rfl, hf, ht⟩) (fun _ h9 => nomatch h9) dXF_has_17
theorem dX_octet_0 : decode cX_octet 0 = .ok (.aload_n 0, 1) := by decide +kernel
theorem dX_octet_1 : decode cX_octet 1 = .ok (.getfield 10, 3) := by decide +kernel
theorem dX_octet_4 : decode cX_octet 4 = .ok (.iload_n 1, 1) := by decide +kernel
theorem dX_octet_5 : decode cX_octet 5 = .ok (.invokevirtual 74, 3) := by decide +kernel
theorem dX_octet_8 : decode cX_octet 8 = .ok (.ifCond .ne 6, 3) := by decide +kernel
theorem dX_octet_11 : decode cX_octet 11 = .ok (.bipush (-2), 2) := by decide +kernel
theorem dX_octet_13 : decode cX_octet 13 = .ok (.ireturn, 1) := by decide +kernel
theorem dX_octet_14 : decode cX_octet 14 = .ok (.iload_n 2, 1) := by decide +kernel
theorem dX_octet_15 : decode cX_octet 15 = .ok (.ifCond .lt 16, 3) := by decide +kernel
theorem dX_octet_18 : decode cX_octet 18 = .ok (.iload_n 2, 1) := by decide +kernel
theorem dX_octet_19 : decode cX_octet 19 = .ok (.aload_n 0, 1) := by decide +kernel
theorem dX_octet_20 : decode cX_octet 20 = .ok (.getfield 10, 3) := by decide +kernel
theorem dX_octet_23 : decode cX_octet 23 = .ok (.getfield 78, 3) := by decide +kernel
theorem dX_octet_26 : decode cX_octet 26 = .ok (.iload_n 1, 1) := by decide +kernel
theorem dX_octet_27 : decode cX_octet 27 = .ok (.iaload, 1) := by decide +kernel
theorem dX_octet_28 : decode cX_octet 28 = .ok (.if_icmp .lt 6, 3) := by decide +kernel
theorem dX_octet_31 : decode cX_octet 31 = .ok (.bipush (-4), 2) := by decide +kernel
theorem dX_octet_33 : decode cX_octet 33 = .ok (.ireturn, 1) := by decide +kernel
theorem dX_octet_34 : decode cX_octet 34 = .ok (.aload_n 0, 1) := by decide +kernel
theorem dX_octet_35 : decode cX_octet 35 = .ok (.getfield 10, 3) := by decide +kernel
theorem dX_octet_38 : decode cX_octet 38 = .ok (.getfield 81, 3) := by decide +kernel
theorem dX_octet_41 : decode cX_octet 41 = .ok (.iload_n 1, 1) := by decide +kernel
theorem dX_octet_42 : decode cX_octet 42 = .ok (.bipush 32, 2) := by decide +kernel
theorem dX_octet_44 : decode cX_octet 44 = .ok (.imul, 1) := by decide +kernel
theorem dX_octet_45 : decode cX_octet 45 = .ok (.iload_n 2, 1) := by decide +kernel
theorem dX_octet_46 : decode cX_octet 46 = .ok (.iadd, 1) := by decide +kernel
theorem dX_octet_47 : decode cX_octet 47 = .ok (.iload_n 3, 1) := by decide +kernel
theorem dX_octet_48 : decode cX_octet 48 = .ok (.sipush 255, 3) := by decide +kernel
theorem dX_octet_51 : decode cX_octet 51 = .ok (.iand, 1) := by decide +kernel
theorem dX_octet_52 : decode cX_octet 52 = .ok (.iastore, 1) := by decide +kernel
theorem dX_octet_53 : decode cX_octet 53 = .ok (.iconst 1, 1) := by decide +kernel
theorem dX_octet_54 : decode cX_octet 54 = .ok (.ireturn, 1) := by decide +kernel
abbrev wsX_octet : List Cond := Cond.code yX_octet cX_octet 4 (some .int) :: zWords
def FX_octet (u : XS) (p0 : Int32) (p1 : Int32) (p2 : Int32) : Int32 × XS := (if (FXF_has u p0) = 0 then ((-2), u) else (if p1 < 0 then ((-4), u) else (if p1 < ((Xg_fields_size u) p0.toNatClampNeg) then (zlet (Xs_fields_bytes u (upd (Xg_fields_bytes u) (((p0 * 32) + p1).toNatClampNeg) (p2 &&& 255))) (fun u6 => (1, u6))) else ((-4), u))))
def GX_octet (u : XS) (p0 : Int32) (p1 : Int32) (p2 : Int32) : Prop := (if (FXF_has u p0) = 0 then True else (if p1 < 0 then True else (vp_in p0 40 ∧ (if p1 < ((Xg_fields_size u) p0.toNatClampNeg) then (vp_in ((p0 * 32) + p1) 1280 ∧ (zlet (Xs_fields_bytes u (upd (Xg_fields_bytes u) (((p0 * 32) + p1).toNatClampNeg) (p2 &&& 255))) (fun u6 => True))) else True))))
set_option maxHeartbeats 4000000 in
set_option maxRecDepth 100000 in
theorem tX_octet (l : Launch) {D : va_G} {k : zK} {a : Nat → Nat} (hI : zI 29 a) (u : XS) (p0 : Int32) (p1 : Int32) (p2 : Int32) (hg : GX_octet u p0 p1 p2) : Met l yX_octet wsX_octet ({ frames := 1, cells := 0, slots := 0, locals := 21 }) (zPc D k (zA 29 a) (wX k a u) [.ref (a 0), .int p0, .int p1, .int p2]) (zQi D (wX k a) (zA 29 a) (FX_octet u p0 p1 p2)) 0 0 (zA 29 a) := by
  refine Met.ofW (cc := cX_octet) (maxL := 4) (ret := (some .int)) (by decide) rfl ?_
  intro p e s m args below meth c s₁ B hml hv
  obtain ⟨rfl, hP, hE⟩ := hv
  have hts := atoms_spec (ws := wsX_octet) B.pre
  have C0 : zC p s m _ meth c cX_octet (some .int) 4 RX wsX_octet D k (zA 29 a) := ⟨B.exec, B.bytes, B.returns, hml, findClass_of_methodNamed B.named, hts, B.notSynchronized, hE⟩
  obtain ⟨hx, hb, hr, hml, hown, _, hlocks, _⟩ := id C0
  have hK := hE.1
  have hS : va_S (zA 29 a) s.heap s.heap [] := va_S.rf
  generalize hf : FX_octet u p0 p1 p2 = tgt
  change ((if (FXF_has u p0) = 0 then ((-2), u) else (if p1 < 0 then ((-4), u) else (if p1 < ((Xg_fields_size u) p0.toNatClampNeg) then (zlet (Xs_fields_bytes u (upd (Xg_fields_bytes u) (((p0 * 32) + p1).toNatClampNeg) (p2 &&& 255))) (fun u6 => (1, u6))) else ((-4), u)))) : Int32 × XS) = tgt at hf
  change (if (FXF_has u p0) = 0 then True else (if p1 < 0 then True else (vp_in p0 40 ∧ (if p1 < ((Xg_fields_size u) p0.toNatClampNeg) then (vp_in ((p0 * 32) + p1) 1280 ∧ (zlet (Xs_fields_bytes u (upd (Xg_fields_bytes u) (((p0 * 32) + p1).toNatClampNeg) (p2 &&& 255))) (fun u6 => True))) else True)))) at hg
  have hl := lv_entry ([.ref (a 0), .int p0, .int p1, .int p2]) (n := 4) (Nat.le_of_ble_eq_true rfl)
  rw [lg_entry_eq]
  generalize (lg_sl ([.ref (a 0), .int p0, .int p1, .int p2]) ++ List.replicate (4 - (lg_sl ([.ref (a 0), .int p0, .int p1, .int p2])).length) Slot.unset).toArray = ls at hl ⊢
  have hl : lv_has ls 4 [(0, .ref (a 0)), (1, .int p0), (2, .int p1), (3, .int p2)] := hl
  refine lv_aload_n hx hb dX_octet_0 rfl (lv_at hl 0 rfl) ?_
  refine va_get (D := D) (ci := 0) (v := .ref (a 1)) (C := RX) (T := TX) (N := 10) hx hb hts (fun w h9 => zc (inX w h9)) hown hK hP 0 rfl rfl 1 (by decide) (hts _ (zc m_175)) (fun _ h9 => h9) rfl dX_octet_1 ?_
  refine lv_iload_n hx hb dX_octet_4 rfl (lv_at hl 1 rfl) ?_
  refine vp_callSi (W.runV (As := [.int p0]) (rest := []) ⟨hx, hb, hml, hown, hts⟩ (tXF_has l hI u p0) (cwV 1 hts (zgV m_223 m_224 m_225 m_2 m_226) rfl rfl rfl (by decide +kernel) ⟨Nat.le_of_ble_eq_true rfl, Nat.le_of_ble_eq_true rfl⟩) (zpre hP hE hS.2.1 (va_recv hK hP (ci := 1) (q0 := 1) rfl rfl)) rfl rfl hl.1 rfl (lv_room (Nat.le_of_ble_eq_true rfl)) dX_octet_5 ⟨Nat.zero_le _, Nat.zero_le _⟩) (fun r9 hr9 => ?_)
  subst hr9
  refine lv_if_ne (tgt := 14) hx hb dX_octet_8 (by decide) (fun c1 => ?_) (fun c1 => ?_)
  · have hf := zn c1 hf
    have hg := zgn c1 hg
    refine lv_iload_n hx hb dX_octet_14 rfl (lv_at hl 2 rfl) ?_
    refine lv_if_lt (tgt := 31) hx hb dX_octet_15 (by decide) (fun c2 => ?_) (fun c2 => ?_)
    · have hf := zt c2 hf
      have hg := zgt c2 hg
      refine lv_bipush (v := (-4)) hx hb dX_octet_31 (by decide) ?_
      exact W.iret (v := (-4)) hx hb hr (fun t ht hW => by subst hf; exact ⟨rfl, by rw [ht]; exact hP, hS.F ht⟩) hS.2.2 dX_octet_33
    · have hf := zn c2 hf
      have hg := zgn c2 hg
      refine lv_iload_n hx hb dX_octet_18 rfl (lv_at hl 2 rfl) ?_
      refine lv_aload_n hx hb dX_octet_19 rfl (lv_at hl 0 rfl) ?_
      refine va_get (D := D) (ci := 0) (v := .ref (a 1)) (C := RX) (T := TX) (N := 10) hx hb hts (fun w h9 => zc (inX w h9)) hown hK hP 0 rfl rfl 1 (by decide) (hts _ (zc m_175)) (fun _ h9 => h9) rfl dX_octet_20 ?_
      refine va_getN (D := D) (ci := 1) (v := .ref (a 3)) (C := RXF) (T := TXF) (N := 5) hx hb hts (fun w h9 => zc (inXF w h9)) hown hK hP 1 rfl rfl 1 (by decide) (va_Nw.use rfl (hE.2.1 _ zn_1)) (fun _ h9 => h9) rfl dX_octet_23 ?_
      refine lv_iload_n hx hb dX_octet_26 rfl (lv_at hl 1 rfl) ?_
      obtain ⟨h3, hg⟩ := hg
      refine va_iald hx hb hK hP 3 0 rfl rfl h3 dX_octet_27 ?_
      refine lv_icmp_lt (tgt := 34) hx hb dX_octet_28 (by decide) (fun c4 => ?_) (fun c4 => ?_)
      · have hf := zt c4 hf
        have hg := zgt c4 hg
        refine lv_aload_n hx hb dX_octet_34 rfl (lv_at hl 0 rfl) ?_
        refine va_get (D := D) (ci := 0) (v := .ref (a 1)) (C := RX) (T := TX) (N := 10) hx hb hts (fun w h9 => zc (inX w h9)) hown hK hP 0 rfl rfl 1 (by decide) (hts _ (zc m_175)) (fun _ h9 => h9) rfl dX_octet_35 ?_
        refine va_getN (D := D) (ci := 1) (v := .ref (a 5)) (C := RXF) (T := TXF) (N := 5) hx hb hts (fun w h9 => zc (inXF w h9)) hown hK hP 1 rfl rfl 3 (by decide) (va_Nw.use rfl (hE.2.1 _ zn_3)) (fun _ h9 => h9) rfl dX_octet_38 ?_
        refine lv_iload_n hx hb dX_octet_41 rfl (lv_at hl 1 rfl) ?_
        refine lv_bipush (v := 32) hx hb dX_octet_42 (by decide) ?_
        refine lv_imul hx hb dX_octet_44 ?_
        refine lv_iload_n hx hb dX_octet_45 rfl (lv_at hl 2 rfl) ?_
        refine lv_iadd hx hb dX_octet_46 ?_
        refine lv_iload_n hx hb dX_octet_47 rfl (lv_at hl 3 rfl) ?_
        refine lv_sipush (v := 255) hx hb dX_octet_48 (by decide) ?_
        refine lv_iand hx hb dX_octet_51 ?_
        obtain ⟨h5, hg⟩ := hg
        refine va_iast hx hb hK hP (XD hI _) hS 5 0 rfl rfl h5 dX_octet_52 (fun H locs hP _ hS => ?_)
        obtain ⟨u6, hP, hf, hg⟩ := zlets (E := (Xs_fields_bytes u (upd (Xg_fields_bytes u) (((p0 * 32) + p1).toNatClampNeg) (p2 &&& 255)))) (w := wX k a) hP hf hg
        refine lv_iconst (v := 1) hx hb dX_octet_53 (by decide) ?_
        exact W.iret (v := 1) hx hb hr (fun t ht hW => by subst hf; exact ⟨rfl, by rw [ht]; exact hP, hS.F ht⟩) hS.2.2 dX_octet_54
      · have hf := zn c4 hf
        have hg := zgn c4 hg
        refine lv_bipush (v := (-4)) hx hb dX_octet_31 (by decide) ?_
        exact W.iret (v := (-4)) hx hb hr (fun t ht hW => by subst hf; exact ⟨rfl, by rw [ht]; exact hP, hS.F ht⟩) hS.2.2 dX_octet_33
  · have hf := zt c1 hf
    have hg := zgt c1 hg
    refine lv_bipush (v := (-2)) hx hb dX_octet_11 (by decide) ?_
    exact W.iret (v := (-2)) hx hb hr (fun t ht hW => by subst hf; exact ⟨rfl, by rw [ht]; exact hP, hS.F ht⟩) hS.2.2 dX_octet_13
theorem dXF_isText_0 : decode cXF_isText 0 = .ok (.aload_n 0, 1) := by decide +kernel
theorem dXF_isText_1 : decode cXF_isText 1 = .ok (.getfield 9, 3) := by decide +kernel
theorem dXF_isText_4 : decode cXF_isText 4 = .ok (.iload_n 1, 1) := by decide +kernel
theorem dXF_isText_5 : decode cXF_isText 5 = .ok (.iaload, 1) := by decide +kernel
theorem dXF_isText_6 : decode cXF_isText 6 = .ok (.ifCond .ne 7, 3) := by decide +kernel
theorem dXF_isText_9 : decode cXF_isText 9 = .ok (.iconst 1, 1) := by decide +kernel
theorem dXF_isText_10 : decode cXF_isText 10 = .ok (.goto 4, 3) := by decide +kernel
theorem dXF_isText_13 : decode cXF_isText 13 = .ok (.iconst 0, 1) := by decide +kernel
theorem dXF_isText_14 : decode cXF_isText 14 = .ok (.ireturn, 1) := by decide +kernel
abbrev wsXF_isText : List Cond := Cond.code yXF_isText cXF_isText 2 (some .boolean) :: zWords
def FXF_isText (u : XS) (p0 : Int32) : Int32 := (if ((Xg_fields_category u) p0.toNatClampNeg) = 0 then 1 else 0)
def GXF_isText (u : XS) (p0 : Int32) : Prop := (vp_in p0 40 ∧ True)
theorem bFXF_isText (u : XS) (p0 : Int32) : FXF_isText u p0 = 0 ∨ FXF_isText u p0 = 1 := by
  unfold FXF_isText
  repeat' split
  all_goals first | exact Or.inl rfl | exact Or.inr rfl
set_option maxHeartbeats 4000000 in
set_option maxRecDepth 100000 in
theorem tXF_isText (l : Launch) {D : va_G} {k : zK} {a : Nat → Nat} (hI : zI 29 a) (u : XS) (p0 : Int32) (hg : GXF_isText u p0) : Met l yXF_isText wsXF_isText ({ frames := 0, cells := 0, slots := 0, locals := 0 }) (zPc D k (zA 29 a) (wX k a u) [.ref (a 1), .int p0]) (vp_Si (fun r9 => r9 = (FXF_isText u p0))) 0 0 (fun _ => False) := by
  refine Met.ofW (cc := cXF_isText) (maxL := 2) (ret := (some .boolean)) (by decide) rfl ?_
  intro p e s m args below meth c s₁ B hml hv
  obtain ⟨rfl, hP, hE⟩ := hv
  have hts := atoms_spec (ws := wsXF_isText) B.pre
  have C0 : zC p s m _ meth c cXF_isText (some .boolean) 2 RXF wsXF_isText D k (zA 29 a) := ⟨B.exec, B.bytes, B.returns, hml, findClass_of_methodNamed B.named, hts, B.notSynchronized, hE⟩
  obtain ⟨hx, hb, hr, hml, hown, _, hlocks, _⟩ := id C0
  have hK := hE.1
  have hS : va_S (zA 29 a) s.heap s.heap [] := va_S.rf
  generalize hf : FXF_isText u p0 = tgt
  change ((if ((Xg_fields_category u) p0.toNatClampNeg) = 0 then 1 else 0) : Int32) = tgt at hf
  change (vp_in p0 40 ∧ True) at hg
  have hl := lv_entry ([.ref (a 1), .int p0]) (n := 2) (Nat.le_of_ble_eq_true rfl)
  rw [lg_entry_eq]
  generalize (lg_sl ([.ref (a 1), .int p0]) ++ List.replicate (2 - (lg_sl ([.ref (a 1), .int p0])).length) Slot.unset).toArray = ls at hl ⊢
  have hl : lv_has ls 2 [(0, .ref (a 1)), (1, .int p0)] := hl
  refine lv_aload_n hx hb dXF_isText_0 rfl (lv_at hl 0 rfl) ?_
  refine va_get (D := D) (ci := 1) (v := .ref (a 2)) (C := RXF) (T := TXF) (N := 5) hx hb hts (fun w h9 => zc (inXF w h9)) hown hK hP 1 rfl rfl 0 (by decide) (hts _ (zc m_31)) (fun _ h9 => h9) rfl dXF_isText_1 ?_
  refine lv_iload_n hx hb dXF_isText_4 rfl (lv_at hl 1 rfl) ?_
  obtain ⟨h1, hg⟩ := hg
  refine va_iald hx hb hK hP 2 0 rfl rfl h1 dXF_isText_5 ?_
  refine lv_if_ne (tgt := 13) hx hb dXF_isText_6 (by decide) (fun c2 => ?_) (fun c2 => ?_)
  · have hf := zn c2 hf
    refine lv_iconst (v := 0) hx hb dXF_isText_13 (by decide) ?_
    exact W.zret (v := 0) (ty := .boolean) hx hb hr rfl (fun t ht hW => ⟨_, rfl, hf, ht⟩) (fun _ h9 => nomatch h9) dXF_isText_14
  · have hf := zt c2 hf
    refine lv_iconst (v := 1) hx hb dXF_isText_9 (by decide) ?_
    refine lv_goto (tgt := 14) hx hb dXF_isText_10 (by decide) ?_
    exact W.zret (v := 1) (ty := .boolean) hx hb hr rfl (fun t ht hW => ⟨_, rfl, hf, ht⟩) (fun _ h9 => nomatch h9) dXF_isText_14
theorem dXF_hasNumber_0 : decode cXF_hasNumber 0 = .ok (.aload_n 0, 1) := by decide +kernel
theorem dXF_hasNumber_1 : decode cXF_hasNumber 1 = .ok (.iload_n 1, 1) := by decide +kernel
theorem dXF_hasNumber_2 : decode cXF_hasNumber 2 = .ok (.invokevirtual 28, 3) := by decide +kernel
theorem dXF_hasNumber_5 : decode cXF_hasNumber 5 = .ok (.ifCond .eq 15, 3) := by decide +kernel
theorem dXF_hasNumber_8 : decode cXF_hasNumber 8 = .ok (.aload_n 0, 1) := by decide +kernel
theorem dXF_hasNumber_9 : decode cXF_hasNumber 9 = .ok (.iload_n 1, 1) := by decide +kernel
theorem dXF_hasNumber_10 : decode cXF_hasNumber 10 = .ok (.invokevirtual 32, 3) := by decide +kernel
theorem dXF_hasNumber_13 : decode cXF_hasNumber 13 = .ok (.ifCond .ne 7, 3) := by decide +kernel
theorem dXF_hasNumber_16 : decode cXF_hasNumber 16 = .ok (.iconst 1, 1) := by decide +kernel
theorem dXF_hasNumber_17 : decode cXF_hasNumber 17 = .ok (.goto 4, 3) := by decide +kernel
theorem dXF_hasNumber_20 : decode cXF_hasNumber 20 = .ok (.iconst 0, 1) := by decide +kernel
theorem dXF_hasNumber_21 : decode cXF_hasNumber 21 = .ok (.ireturn, 1) := by decide +kernel
abbrev wsXF_hasNumber : List Cond := Cond.code yXF_hasNumber cXF_hasNumber 2 (some .boolean) :: zWords
def FXF_hasNumber (u : XS) (p0 : Int32) : Int32 := (if (FXF_has u p0) = 0 then 0 else (if (FXF_isText u p0) = 0 then 1 else 0))
def GXF_hasNumber (u : XS) (p0 : Int32) : Prop := (if (FXF_has u p0) = 0 then True else (GXF_isText u p0 ∧ True))
theorem bFXF_hasNumber (u : XS) (p0 : Int32) : FXF_hasNumber u p0 = 0 ∨ FXF_hasNumber u p0 = 1 := by
  unfold FXF_hasNumber
  repeat' split
  all_goals first | exact Or.inl rfl | exact Or.inr rfl | exact bFXF_has _ _ | exact bFXF_isText _ _
set_option maxHeartbeats 4000000 in
set_option maxRecDepth 100000 in
theorem tXF_hasNumber (l : Launch) {D : va_G} {k : zK} {a : Nat → Nat} (hI : zI 29 a) (u : XS) (p0 : Int32) (hg : GXF_hasNumber u p0) : Met l yXF_hasNumber wsXF_hasNumber ({ frames := 1, cells := 0, slots := 0, locals := 21 }) (zPc D k (zA 29 a) (wX k a u) [.ref (a 1), .int p0]) (vp_Si (fun r9 => r9 = (FXF_hasNumber u p0))) 0 0 (fun _ => False) := by
  refine Met.ofW (cc := cXF_hasNumber) (maxL := 2) (ret := (some .boolean)) (by decide) rfl ?_
  intro p e s m args below meth c s₁ B hml hv
  obtain ⟨rfl, hP, hE⟩ := hv
  have hts := atoms_spec (ws := wsXF_hasNumber) B.pre
  have C0 : zC p s m _ meth c cXF_hasNumber (some .boolean) 2 RXF wsXF_hasNumber D k (zA 29 a) := ⟨B.exec, B.bytes, B.returns, hml, findClass_of_methodNamed B.named, hts, B.notSynchronized, hE⟩
  obtain ⟨hx, hb, hr, hml, hown, _, hlocks, _⟩ := id C0
  have hK := hE.1
  have hS : va_S (zA 29 a) s.heap s.heap [] := va_S.rf
  generalize hf : FXF_hasNumber u p0 = tgt
  change ((if (FXF_has u p0) = 0 then 0 else (if (FXF_isText u p0) = 0 then 1 else 0)) : Int32) = tgt at hf
  change (if (FXF_has u p0) = 0 then True else (GXF_isText u p0 ∧ True)) at hg
  have hl := lv_entry ([.ref (a 1), .int p0]) (n := 2) (Nat.le_of_ble_eq_true rfl)
  rw [lg_entry_eq]
  generalize (lg_sl ([.ref (a 1), .int p0]) ++ List.replicate (2 - (lg_sl ([.ref (a 1), .int p0])).length) Slot.unset).toArray = ls at hl ⊢
  have hl : lv_has ls 2 [(0, .ref (a 1)), (1, .int p0)] := hl
  refine lv_aload_n hx hb dXF_hasNumber_0 rfl (lv_at hl 0 rfl) ?_
  refine lv_iload_n hx hb dXF_hasNumber_1 rfl (lv_at hl 1 rfl) ?_
  refine vp_callSi (W.runV (As := [.int p0]) (rest := []) ⟨hx, hb, hml, hown, hts⟩ (tXF_has l hI u p0) (cwV 1 hts (zgV m_235 m_224 m_225 m_2 m_226) rfl rfl rfl (by decide +kernel) ⟨Nat.le_of_ble_eq_true rfl, Nat.le_of_ble_eq_true rfl⟩) (zpre hP hE hS.2.1 (va_recv hK hP (ci := 1) (q0 := 1) rfl rfl)) rfl rfl hl.1 rfl (lv_room (Nat.le_of_ble_eq_true rfl)) dXF_hasNumber_2 ⟨Nat.zero_le _, Nat.zero_le _⟩) (fun r9 hr9 => ?_)
  subst hr9
  refine lv_if_eq (tgt := 20) hx hb dXF_hasNumber_5 (by decide) (fun c1 => ?_) (fun c1 => ?_)
  · have hf := zt c1 hf
    have hg := zgt c1 hg
    refine lv_iconst (v := 0) hx hb dXF_hasNumber_20 (by decide) ?_
    exact W.zret (v := 0) (ty := .boolean) hx hb hr rfl (fun t ht hW => ⟨_, rfl, hf, ht⟩) (fun _ h9 => nomatch h9) dXF_hasNumber_21
  · have hf := zn c1 hf
    have hg := zgn c1 hg
    refine lv_aload_n hx hb dXF_hasNumber_8 rfl (lv_at hl 0 rfl) ?_
    refine lv_iload_n hx hb dXF_hasNumber_9 rfl (lv_at hl 1 rfl) ?_
    obtain ⟨h2, hg⟩ := hg
    refine vp_callSi (W.runV (As := [.int p0]) (rest := []) ⟨hx, hb, hml, hown, hts⟩ (tXF_isText l hI u p0 h2) (cwV 1 hts (zgV m_236 m_237 m_238 m_2 m_239) rfl rfl rfl (by decide +kernel) ⟨Nat.le_of_ble_eq_true rfl, Nat.le_of_ble_eq_true rfl⟩) (zpre hP hE hS.2.1 (va_recv hK hP (ci := 1) (q0 := 1) rfl rfl)) rfl rfl hl.1 rfl (lv_room (Nat.le_of_ble_eq_true rfl)) dXF_hasNumber_10 ⟨Nat.zero_le _, Nat.zero_le _⟩) (fun r9 hr9 => ?_)
    subst hr9
    refine lv_if_ne (tgt := 20) hx hb dXF_hasNumber_13 (by decide) (fun c3 => ?_) (fun c3 => ?_)
    · have hf := zn c3 hf
      refine lv_iconst (v := 0) hx hb dXF_hasNumber_20 (by decide) ?_
      exact W.zret (v := 0) (ty := .boolean) hx hb hr rfl (fun t ht hW => ⟨_, rfl, hf, ht⟩) (fun _ h9 => nomatch h9) dXF_hasNumber_21
    · have hf := zt c3 hf
      refine lv_iconst (v := 1) hx hb dXF_hasNumber_16 (by decide) ?_
      refine lv_goto (tgt := 21) hx hb dXF_hasNumber_17 (by decide) ?_
      exact W.zret (v := 1) (ty := .boolean) hx hb hr rfl (fun t ht hW => ⟨_, rfl, hf, ht⟩) (fun _ h9 => nomatch h9) dXF_hasNumber_21
theorem dX_scale_0 : decode cX_scale 0 = .ok (.aload_n 0, 1) := by decide +kernel
theorem dX_scale_1 : decode cX_scale 1 = .ok (.getfield 10, 3) := by decide +kernel
theorem dX_scale_4 : decode cX_scale 4 = .ok (.iload_n 1, 1) := by decide +kernel
theorem dX_scale_5 : decode cX_scale 5 = .ok (.invokevirtual 84, 3) := by decide +kernel
theorem dX_scale_8 : decode cX_scale 8 = .ok (.ifCond .ne 6, 3) := by decide +kernel
theorem dX_scale_11 : decode cX_scale 11 = .ok (.bipush (-2), 2) := by decide +kernel
theorem dX_scale_13 : decode cX_scale 13 = .ok (.ireturn, 1) := by decide +kernel
theorem dX_scale_14 : decode cX_scale 14 = .ok (.iload_n 2, 1) := by decide +kernel
theorem dX_scale_15 : decode cX_scale 15 = .ok (.ifCond .lt 9, 3) := by decide +kernel
theorem dX_scale_18 : decode cX_scale 18 = .ok (.iload_n 2, 1) := by decide +kernel
theorem dX_scale_19 : decode cX_scale 19 = .ok (.bipush 9, 2) := by decide +kernel
theorem dX_scale_21 : decode cX_scale 21 = .ok (.if_icmp .le 6, 3) := by decide +kernel
theorem dX_scale_24 : decode cX_scale 24 = .ok (.bipush (-4), 2) := by decide +kernel
theorem dX_scale_26 : decode cX_scale 26 = .ok (.ireturn, 1) := by decide +kernel
theorem dX_scale_27 : decode cX_scale 27 = .ok (.aload_n 0, 1) := by decide +kernel
theorem dX_scale_28 : decode cX_scale 28 = .ok (.getfield 10, 3) := by decide +kernel
theorem dX_scale_31 : decode cX_scale 31 = .ok (.getfield 87, 3) := by decide +kernel
theorem dX_scale_34 : decode cX_scale 34 = .ok (.iload_n 1, 1) := by decide +kernel
theorem dX_scale_35 : decode cX_scale 35 = .ok (.iaload, 1) := by decide +kernel
theorem dX_scale_36 : decode cX_scale 36 = .ok (.istore_n 3, 1) := by decide +kernel
theorem dX_scale_37 : decode cX_scale 37 = .ok (.aload_n 0, 1) := by decide +kernel
theorem dX_scale_38 : decode cX_scale 38 = .ok (.getfield 10, 3) := by decide +kernel
theorem dX_scale_41 : decode cX_scale 41 = .ok (.getfield 87, 3) := by decide +kernel
theorem dX_scale_44 : decode cX_scale 44 = .ok (.iload_n 1, 1) := by decide +kernel
theorem dX_scale_45 : decode cX_scale 45 = .ok (.iload_n 2, 1) := by decide +kernel
theorem dX_scale_46 : decode cX_scale 46 = .ok (.iastore, 1) := by decide +kernel
theorem dX_scale_47 : decode cX_scale 47 = .ok (.iload_n 3, 1) := by decide +kernel
theorem dX_scale_48 : decode cX_scale 48 = .ok (.ireturn, 1) := by decide +kernel
abbrev wsX_scale : List Cond := Cond.code yX_scale cX_scale 4 (some .int) :: zWords
def FX_scale (u : XS) (p0 : Int32) (p1 : Int32) : Int32 × XS := (if (FXF_hasNumber u p0) = 0 then ((-2), u) else (if p1 < 0 then ((-4), u) else (if p1 ≤ 9 then (zlet (Xs_fields_scale u (upd (Xg_fields_scale u) (p0.toNatClampNeg) p1)) (fun u7 => (((Xg_fields_scale u) p0.toNatClampNeg), u7))) else ((-4), u))))
def GX_scale (u : XS) (p0 : Int32) (p1 : Int32) : Prop := (GXF_hasNumber u p0 ∧ (if (FXF_hasNumber u p0) = 0 then True else (if p1 < 0 then True else (if p1 ≤ 9 then (vp_in p0 40 ∧ (vp_in p0 40 ∧ (zlet (Xs_fields_scale u (upd (Xg_fields_scale u) (p0.toNatClampNeg) p1)) (fun u7 => True)))) else True))))
set_option maxHeartbeats 4000000 in
set_option maxRecDepth 100000 in
theorem tX_scale (l : Launch) {D : va_G} {k : zK} {a : Nat → Nat} (hI : zI 29 a) (u : XS) (p0 : Int32) (p1 : Int32) (hg : GX_scale u p0 p1) : Met l yX_scale wsX_scale ({ frames := 2, cells := 0, slots := 0, locals := 42 }) (zPc D k (zA 29 a) (wX k a u) [.ref (a 0), .int p0, .int p1]) (zQi D (wX k a) (zA 29 a) (FX_scale u p0 p1)) 0 0 (zA 29 a) := by
  refine Met.ofW (cc := cX_scale) (maxL := 4) (ret := (some .int)) (by decide) rfl ?_
  intro p e s m args below meth c s₁ B hml hv
  obtain ⟨rfl, hP, hE⟩ := hv
  have hts := atoms_spec (ws := wsX_scale) B.pre
  have C0 : zC p s m _ meth c cX_scale (some .int) 4 RX wsX_scale D k (zA 29 a) := ⟨B.exec, B.bytes, B.returns, hml, findClass_of_methodNamed B.named, hts, B.notSynchronized, hE⟩
  obtain ⟨hx, hb, hr, hml, hown, _, hlocks, _⟩ := id C0
  have hK := hE.1
  have hS : va_S (zA 29 a) s.heap s.heap [] := va_S.rf
  generalize hf : FX_scale u p0 p1 = tgt
  change ((if (FXF_hasNumber u p0) = 0 then ((-2), u) else (if p1 < 0 then ((-4), u) else (if p1 ≤ 9 then (zlet (Xs_fields_scale u (upd (Xg_fields_scale u) (p0.toNatClampNeg) p1)) (fun u7 => (((Xg_fields_scale u) p0.toNatClampNeg), u7))) else ((-4), u)))) : Int32 × XS) = tgt at hf
  change (GXF_hasNumber u p0 ∧ (if (FXF_hasNumber u p0) = 0 then True else (if p1 < 0 then True else (if p1 ≤ 9 then (vp_in p0 40 ∧ (vp_in p0 40 ∧ (zlet (Xs_fields_scale u (upd (Xg_fields_scale u) (p0.toNatClampNeg) p1)) (fun u7 => True)))) else True)))) at hg
  have hl := lv_entry ([.ref (a 0), .int p0, .int p1]) (n := 4) (Nat.le_of_ble_eq_true rfl)
  rw [lg_entry_eq]
  generalize (lg_sl ([.ref (a 0), .int p0, .int p1]) ++ List.replicate (4 - (lg_sl ([.ref (a 0), .int p0, .int p1])).length) Slot.unset).toArray = ls at hl ⊢
  have hl : lv_has ls 4 [(0, .ref (a 0)), (1, .int p0), (2, .int p1)] := hl
  refine lv_aload_n hx hb dX_scale_0 rfl (lv_at hl 0 rfl) ?_
  refine va_get (D := D) (ci := 0) (v := .ref (a 1)) (C := RX) (T := TX) (N := 10) hx hb hts (fun w h9 => zc (inX w h9)) hown hK hP 0 rfl rfl 1 (by decide) (hts _ (zc m_175)) (fun _ h9 => h9) rfl dX_scale_1 ?_
  refine lv_iload_n hx hb dX_scale_4 rfl (lv_at hl 1 rfl) ?_
  obtain ⟨h1, hg⟩ := hg
  refine vp_callSi (W.runV (As := [.int p0]) (rest := []) ⟨hx, hb, hml, hown, hts⟩ (tXF_hasNumber l hI u p0 h1) (cwV 1 hts (zgV m_231 m_232 m_233 m_2 m_234) rfl rfl rfl (by decide +kernel) ⟨Nat.le_of_ble_eq_true rfl, Nat.le_of_ble_eq_true rfl⟩) (zpre hP hE hS.2.1 (va_recv hK hP (ci := 1) (q0 := 1) rfl rfl)) rfl rfl hl.1 rfl (lv_room (Nat.le_of_ble_eq_true rfl)) dX_scale_5 ⟨Nat.zero_le _, Nat.zero_le _⟩) (fun r9 hr9 => ?_)
  subst hr9
  refine lv_if_ne (tgt := 14) hx hb dX_scale_8 (by decide) (fun c2 => ?_) (fun c2 => ?_)
  · have hf := zn c2 hf
    have hg := zgn c2 hg
    refine lv_iload_n hx hb dX_scale_14 rfl (lv_at hl 2 rfl) ?_
    refine lv_if_lt (tgt := 24) hx hb dX_scale_15 (by decide) (fun c3 => ?_) (fun c3 => ?_)
    · have hf := zt c3 hf
      have hg := zgt c3 hg
      refine lv_bipush (v := (-4)) hx hb dX_scale_24 (by decide) ?_
      exact W.iret (v := (-4)) hx hb hr (fun t ht hW => by subst hf; exact ⟨rfl, by rw [ht]; exact hP, hS.F ht⟩) hS.2.2 dX_scale_26
    · have hf := zn c3 hf
      have hg := zgn c3 hg
      refine lv_iload_n hx hb dX_scale_18 rfl (lv_at hl 2 rfl) ?_
      refine lv_bipush (v := 9) hx hb dX_scale_19 (by decide) ?_
      refine lv_icmp_le (tgt := 27) hx hb dX_scale_21 (by decide) (fun c4 => ?_) (fun c4 => ?_)
      · have hf := zt c4 hf
        have hg := zgt c4 hg
        refine lv_aload_n hx hb dX_scale_27 rfl (lv_at hl 0 rfl) ?_
        refine va_get (D := D) (ci := 0) (v := .ref (a 1)) (C := RX) (T := TX) (N := 10) hx hb hts (fun w h9 => zc (inX w h9)) hown hK hP 0 rfl rfl 1 (by decide) (hts _ (zc m_175)) (fun _ h9 => h9) rfl dX_scale_28 ?_
        refine va_getN (D := D) (ci := 1) (v := .ref (a 4)) (C := RXF) (T := TXF) (N := 5) hx hb hts (fun w h9 => zc (inXF w h9)) hown hK hP 1 rfl rfl 2 (by decide) (va_Nw.use rfl (hE.2.1 _ zn_2)) (fun _ h9 => h9) rfl dX_scale_31 ?_
        refine lv_iload_n hx hb dX_scale_34 rfl (lv_at hl 1 rfl) ?_
        obtain ⟨h5, hg⟩ := hg
        refine va_iald hx hb hK hP 4 0 rfl rfl h5 dX_scale_35 ?_
        refine lv_istore_n (lv' := [(3, .int ((Xg_fields_scale u) p0.toNatClampNeg)), (0, .ref (a 0)), (1, .int p0), (2, .int p1)]) hx hb dX_scale_36 rfl hl (by decide) rfl (fun ls hl => ?_)
        refine lv_aload_n hx hb dX_scale_37 rfl (lv_at hl 1 rfl) ?_
        refine va_get (D := D) (ci := 0) (v := .ref (a 1)) (C := RX) (T := TX) (N := 10) hx hb hts (fun w h9 => zc (inX w h9)) hown hK hP 0 rfl rfl 1 (by decide) (hts _ (zc m_175)) (fun _ h9 => h9) rfl dX_scale_38 ?_
        refine va_getN (D := D) (ci := 1) (v := .ref (a 4)) (C := RXF) (T := TXF) (N := 5) hx hb hts (fun w h9 => zc (inXF w h9)) hown hK hP 1 rfl rfl 2 (by decide) (va_Nw.use rfl (hE.2.1 _ zn_2)) (fun _ h9 => h9) rfl dX_scale_41 ?_
        refine lv_iload_n hx hb dX_scale_44 rfl (lv_at hl 2 rfl) ?_
        refine lv_iload_n hx hb dX_scale_45 rfl (lv_at hl 3 rfl) ?_
        obtain ⟨h6, hg⟩ := hg
        refine va_iast hx hb hK hP (XD hI _) hS 4 0 rfl rfl h6 dX_scale_46 (fun H locs hP _ hS => ?_)
        obtain ⟨u7, hP, hf, hg⟩ := zlets (E := (Xs_fields_scale u (upd (Xg_fields_scale u) (p0.toNatClampNeg) p1))) (w := wX k a) hP hf hg
        refine lv_iload_n hx hb dX_scale_47 rfl (lv_at hl 0 rfl) ?_
        exact W.iret (v := ((Xg_fields_scale u) p0.toNatClampNeg)) hx hb hr (fun t ht hW => by subst hf; exact ⟨rfl, by rw [ht]; exact hP, hS.F ht⟩) hS.2.2 dX_scale_48
      · have hf := zn c4 hf
        have hg := zgn c4 hg
        refine lv_bipush (v := (-4)) hx hb dX_scale_24 (by decide) ?_
        exact W.iret (v := (-4)) hx hb hr (fun t ht hW => by subst hf; exact ⟨rfl, by rw [ht]; exact hP, hS.F ht⟩) hS.2.2 dX_scale_26
  · have hf := zt c2 hf
    have hg := zgt c2 hg
    refine lv_bipush (v := (-2)) hx hb dX_scale_11 (by decide) ?_
    exact W.iret (v := (-2)) hx hb hr (fun t ht hW => by subst hf; exact ⟨rfl, by rw [ht]; exact hP, hS.F ht⟩) hS.2.2 dX_scale_13
theorem dX_isByte_0 : decode cX_isByte 0 = .ok (.iload_n 0, 1) := by decide +kernel
theorem dX_isByte_1 : decode cX_isByte 1 = .ok (.ifCond .lt 14, 3) := by decide +kernel
theorem dX_isByte_4 : decode cX_isByte 4 = .ok (.iload_n 0, 1) := by decide +kernel
theorem dX_isByte_5 : decode cX_isByte 5 = .ok (.sipush 256, 3) := by decide +kernel
theorem dX_isByte_8 : decode cX_isByte 8 = .ok (.if_icmp .ge 7, 3) := by decide +kernel
theorem dX_isByte_11 : decode cX_isByte 11 = .ok (.iconst 1, 1) := by decide +kernel
theorem dX_isByte_12 : decode cX_isByte 12 = .ok (.goto 4, 3) := by decide +kernel
theorem dX_isByte_15 : decode cX_isByte 15 = .ok (.iconst 0, 1) := by decide +kernel
theorem dX_isByte_16 : decode cX_isByte 16 = .ok (.ireturn, 1) := by decide +kernel
abbrev wsX_isByte : List Cond := Cond.code yX_isByte cX_isByte 1 (some .boolean) :: zWords
def FX_isByte (u : XS) (p0 : Int32) : Int32 := (if p0 < 0 then 0 else (if (256 : Int32) ≤ p0 then 0 else 1))
set_option maxHeartbeats 4000000 in
set_option maxRecDepth 100000 in
theorem tX_isByte (l : Launch) {D : va_G} {k : zK} {a : Nat → Nat} (hI : zI 29 a) (u : XS) (p0 : Int32) : Met l yX_isByte wsX_isByte ({ frames := 0, cells := 0, slots := 0, locals := 0 }) (zPc D k (zA 29 a) (wX k a u) [.int p0]) (vp_Si (fun r9 => r9 = (FX_isByte u p0))) 0 0 (fun _ => False) := by
  refine Met.ofW (cc := cX_isByte) (maxL := 1) (ret := (some .boolean)) (by decide) rfl ?_
  intro p e s m args below meth c s₁ B hml hv
  obtain ⟨rfl, hP, hE⟩ := hv
  have hts := atoms_spec (ws := wsX_isByte) B.pre
  have C0 : zC p s m _ meth c cX_isByte (some .boolean) 1 RX wsX_isByte D k (zA 29 a) := ⟨B.exec, B.bytes, B.returns, hml, findClass_of_methodNamed B.named, hts, B.notSynchronized, hE⟩
  obtain ⟨hx, hb, hr, hml, hown, _, hlocks, _⟩ := id C0
  have hK := hE.1
  have hS : va_S (zA 29 a) s.heap s.heap [] := va_S.rf
  generalize hf : FX_isByte u p0 = tgt
  change ((if p0 < 0 then 0 else (if (256 : Int32) ≤ p0 then 0 else 1)) : Int32) = tgt at hf
  have hl := lv_entry ([.int p0]) (n := 1) (Nat.le_of_ble_eq_true rfl)
  rw [lg_entry_eq]
  generalize (lg_sl ([.int p0]) ++ List.replicate (1 - (lg_sl ([.int p0])).length) Slot.unset).toArray = ls at hl ⊢
  have hl : lv_has ls 1 [(0, .int p0)] := hl
  refine lv_iload_n hx hb dX_isByte_0 rfl (lv_at hl 0 rfl) ?_
  refine lv_if_lt (tgt := 15) hx hb dX_isByte_1 (by decide) (fun c1 => ?_) (fun c1 => ?_)
  · have hf := zt c1 hf
    refine lv_iconst (v := 0) hx hb dX_isByte_15 (by decide) ?_
    exact W.zret (v := 0) (ty := .boolean) hx hb hr rfl (fun t ht hW => ⟨_, rfl, hf, ht⟩) (fun _ h9 => nomatch h9) dX_isByte_16
  · have hf := zn c1 hf
    refine lv_iload_n hx hb dX_isByte_4 rfl (lv_at hl 0 rfl) ?_
    refine lv_sipush (v := 256) hx hb dX_isByte_5 (by decide) ?_
    refine lv_icmp_ge (tgt := 15) hx hb dX_isByte_8 (by decide) (fun c2 => ?_) (fun c2 => ?_)
    · have hf := zt c2 hf
      refine lv_iconst (v := 0) hx hb dX_isByte_15 (by decide) ?_
      exact W.zret (v := 0) (ty := .boolean) hx hb hr rfl (fun t ht hW => ⟨_, rfl, hf, ht⟩) (fun _ h9 => nomatch h9) dX_isByte_16
    · have hf := zn c2 hf
      refine lv_iconst (v := 1) hx hb dX_isByte_11 (by decide) ?_
      refine lv_goto (tgt := 16) hx hb dX_isByte_12 (by decide) ?_
      exact W.zret (v := 1) (ty := .boolean) hx hb hr rfl (fun t ht hW => ⟨_, rfl, hf, ht⟩) (fun _ h9 => nomatch h9) dX_isByte_16
theorem dX_weight_0 : decode cX_weight 0 = .ok (.iload_n 1, 1) := by decide +kernel
theorem dX_weight_1 : decode cX_weight 1 = .ok (.invokestatic 90, 3) := by decide +kernel
theorem dX_weight_4 : decode cX_weight 4 = .ok (.ifCond .eq 10, 3) := by decide +kernel
theorem dX_weight_7 : decode cX_weight 7 = .ok (.iload_n 2, 1) := by decide +kernel
theorem dX_weight_8 : decode cX_weight 8 = .ok (.invokestatic 90, 3) := by decide +kernel
theorem dX_weight_11 : decode cX_weight 11 = .ok (.ifCond .ne 6, 3) := by decide +kernel
theorem dX_weight_14 : decode cX_weight 14 = .ok (.bipush (-4), 2) := by decide +kernel
theorem dX_weight_16 : decode cX_weight 16 = .ok (.ireturn, 1) := by decide +kernel
theorem dX_weight_17 : decode cX_weight 17 = .ok (.aload_n 0, 1) := by decide +kernel
theorem dX_weight_18 : decode cX_weight 18 = .ok (.getfield 19, 3) := by decide +kernel
theorem dX_weight_21 : decode cX_weight 21 = .ok (.getfield 93, 3) := by decide +kernel
theorem dX_weight_24 : decode cX_weight 24 = .ok (.iload_n 1, 1) := by decide +kernel
theorem dX_weight_25 : decode cX_weight 25 = .ok (.iaload, 1) := by decide +kernel
theorem dX_weight_26 : decode cX_weight 26 = .ok (.istore_n 3, 1) := by decide +kernel
theorem dX_weight_27 : decode cX_weight 27 = .ok (.aload_n 0, 1) := by decide +kernel
theorem dX_weight_28 : decode cX_weight 28 = .ok (.getfield 19, 3) := by decide +kernel
theorem dX_weight_31 : decode cX_weight 31 = .ok (.getfield 93, 3) := by decide +kernel
theorem dX_weight_34 : decode cX_weight 34 = .ok (.iload_n 1, 1) := by decide +kernel
theorem dX_weight_35 : decode cX_weight 35 = .ok (.iload_n 2, 1) := by decide +kernel
theorem dX_weight_36 : decode cX_weight 36 = .ok (.iastore, 1) := by decide +kernel
theorem dX_weight_37 : decode cX_weight 37 = .ok (.iload_n 3, 1) := by decide +kernel
theorem dX_weight_38 : decode cX_weight 38 = .ok (.ireturn, 1) := by decide +kernel
abbrev wsX_weight : List Cond := Cond.code yX_weight cX_weight 4 (some .int) :: zWords
def FX_weight (u : XS) (p0 : Int32) (p1 : Int32) : Int32 × XS := (if (FX_isByte u p0) = 0 then ((-4), u) else (if (FX_isByte u p1) = 0 then ((-4), u) else (zlet (Xs_weights_of u (upd (Xg_weights_of u) (p0.toNatClampNeg) p1)) (fun u5 => (((Xg_weights_of u) p0.toNatClampNeg), u5)))))
def GX_weight (u : XS) (p0 : Int32) (p1 : Int32) : Prop := (if (FX_isByte u p0) = 0 then True else (if (FX_isByte u p1) = 0 then True else (vp_in p0 256 ∧ (vp_in p0 256 ∧ (zlet (Xs_weights_of u (upd (Xg_weights_of u) (p0.toNatClampNeg) p1)) (fun u5 => True))))))
set_option maxHeartbeats 4000000 in
set_option maxRecDepth 100000 in
theorem tX_weight (l : Launch) {D : va_G} {k : zK} {a : Nat → Nat} (hI : zI 29 a) (u : XS) (p0 : Int32) (p1 : Int32) (hg : GX_weight u p0 p1) : Met l yX_weight wsX_weight ({ frames := 1, cells := 0, slots := 0, locals := 20 }) (zPc D k (zA 29 a) (wX k a u) [.ref (a 0), .int p0, .int p1]) (zQi D (wX k a) (zA 29 a) (FX_weight u p0 p1)) 0 0 (zA 29 a) := by
  refine Met.ofW (cc := cX_weight) (maxL := 4) (ret := (some .int)) (by decide) rfl ?_
  intro p e s m args below meth c s₁ B hml hv
  obtain ⟨rfl, hP, hE⟩ := hv
  have hts := atoms_spec (ws := wsX_weight) B.pre
  have C0 : zC p s m _ meth c cX_weight (some .int) 4 RX wsX_weight D k (zA 29 a) := ⟨B.exec, B.bytes, B.returns, hml, findClass_of_methodNamed B.named, hts, B.notSynchronized, hE⟩
  obtain ⟨hx, hb, hr, hml, hown, _, hlocks, _⟩ := id C0
  have hK := hE.1
  have hS : va_S (zA 29 a) s.heap s.heap [] := va_S.rf
  generalize hf : FX_weight u p0 p1 = tgt
  change ((if (FX_isByte u p0) = 0 then ((-4), u) else (if (FX_isByte u p1) = 0 then ((-4), u) else (zlet (Xs_weights_of u (upd (Xg_weights_of u) (p0.toNatClampNeg) p1)) (fun u5 => (((Xg_weights_of u) p0.toNatClampNeg), u5))))) : Int32 × XS) = tgt at hf
  change (if (FX_isByte u p0) = 0 then True else (if (FX_isByte u p1) = 0 then True else (vp_in p0 256 ∧ (vp_in p0 256 ∧ (zlet (Xs_weights_of u (upd (Xg_weights_of u) (p0.toNatClampNeg) p1)) (fun u5 => True)))))) at hg
  have hl := lv_entry ([.ref (a 0), .int p0, .int p1]) (n := 4) (Nat.le_of_ble_eq_true rfl)
  rw [lg_entry_eq]
  generalize (lg_sl ([.ref (a 0), .int p0, .int p1]) ++ List.replicate (4 - (lg_sl ([.ref (a 0), .int p0, .int p1])).length) Slot.unset).toArray = ls at hl ⊢
  have hl : lv_has ls 4 [(0, .ref (a 0)), (1, .int p0), (2, .int p1)] := hl
  refine lv_iload_n hx hb dX_weight_0 rfl (lv_at hl 1 rfl) ?_
  refine vp_callSi (W.runS (As := [.int p0]) (rest := []) ⟨hx, hb, hml, hown, hts⟩ (tX_isByte l hI u p0) (va_cwS 1 hts (zgS m_244 m_245 m_1 m_246) rfl rfl rfl (by decide +kernel) ⟨Nat.le_of_ble_eq_true rfl, Nat.le_of_ble_eq_true rfl⟩) (zpreS hP hE hS.2.1) rfl rfl hl.1 rfl (lv_room (Nat.le_of_ble_eq_true rfl)) dX_weight_1 ⟨Nat.zero_le _, Nat.zero_le _⟩) (fun r9 hr9 => ?_)
  subst hr9
  refine lv_if_eq (tgt := 14) hx hb dX_weight_4 (by decide) (fun c1 => ?_) (fun c1 => ?_)
  · have hf := zt c1 hf
    have hg := zgt c1 hg
    refine lv_bipush (v := (-4)) hx hb dX_weight_14 (by decide) ?_
    exact W.iret (v := (-4)) hx hb hr (fun t ht hW => by subst hf; exact ⟨rfl, by rw [ht]; exact hP, hS.F ht⟩) hS.2.2 dX_weight_16
  · have hf := zn c1 hf
    have hg := zgn c1 hg
    refine lv_iload_n hx hb dX_weight_7 rfl (lv_at hl 2 rfl) ?_
    refine vp_callSi (W.runS (As := [.int p1]) (rest := []) ⟨hx, hb, hml, hown, hts⟩ (tX_isByte l hI u p1) (va_cwS 1 hts (zgS m_244 m_245 m_1 m_246) rfl rfl rfl (by decide +kernel) ⟨Nat.le_of_ble_eq_true rfl, Nat.le_of_ble_eq_true rfl⟩) (zpreS hP hE hS.2.1) rfl rfl hl.1 rfl (lv_room (Nat.le_of_ble_eq_true rfl)) dX_weight_8 ⟨Nat.zero_le _, Nat.zero_le _⟩) (fun r9 hr9 => ?_)
    subst hr9
    refine lv_if_ne (tgt := 17) hx hb dX_weight_11 (by decide) (fun c2 => ?_) (fun c2 => ?_)
    · have hf := zn c2 hf
      have hg := zgn c2 hg
      refine lv_aload_n hx hb dX_weight_17 rfl (lv_at hl 0 rfl) ?_
      refine va_get (D := D) (ci := 0) (v := .ref (a 6)) (C := RX) (T := TX) (N := 10) hx hb hts (fun w h9 => zc (inX w h9)) hown hK hP 0 rfl rfl 2 (by decide) (hts _ (zc m_176)) (fun _ h9 => h9) rfl dX_weight_18 ?_
      refine va_getN (D := D) (ci := 2) (v := .ref (a 7)) (C := RXW) (T := TXW) (N := 1) hx hb hts (fun w h9 => zc (inXW w h9)) hown hK hP 6 rfl rfl 0 (by decide) (va_Nw.use rfl (hE.2.1 _ zn_5)) (fun _ h9 => h9) rfl dX_weight_21 ?_
      refine lv_iload_n hx hb dX_weight_24 rfl (lv_at hl 1 rfl) ?_
      obtain ⟨h3, hg⟩ := hg
      refine va_iald hx hb hK hP 7 0 rfl rfl h3 dX_weight_25 ?_
      refine lv_istore_n (lv' := [(3, .int ((Xg_weights_of u) p0.toNatClampNeg)), (0, .ref (a 0)), (1, .int p0), (2, .int p1)]) hx hb dX_weight_26 rfl hl (by decide) rfl (fun ls hl => ?_)
      refine lv_aload_n hx hb dX_weight_27 rfl (lv_at hl 1 rfl) ?_
      refine va_get (D := D) (ci := 0) (v := .ref (a 6)) (C := RX) (T := TX) (N := 10) hx hb hts (fun w h9 => zc (inX w h9)) hown hK hP 0 rfl rfl 2 (by decide) (hts _ (zc m_176)) (fun _ h9 => h9) rfl dX_weight_28 ?_
      refine va_getN (D := D) (ci := 2) (v := .ref (a 7)) (C := RXW) (T := TXW) (N := 1) hx hb hts (fun w h9 => zc (inXW w h9)) hown hK hP 6 rfl rfl 0 (by decide) (va_Nw.use rfl (hE.2.1 _ zn_5)) (fun _ h9 => h9) rfl dX_weight_31 ?_
      refine lv_iload_n hx hb dX_weight_34 rfl (lv_at hl 2 rfl) ?_
      refine lv_iload_n hx hb dX_weight_35 rfl (lv_at hl 3 rfl) ?_
      obtain ⟨h4, hg⟩ := hg
      refine va_iast hx hb hK hP (XD hI _) hS 7 0 rfl rfl h4 dX_weight_36 (fun H locs hP _ hS => ?_)
      obtain ⟨u5, hP, hf, hg⟩ := zlets (E := (Xs_weights_of u (upd (Xg_weights_of u) (p0.toNatClampNeg) p1))) (w := wX k a) hP hf hg
      refine lv_iload_n hx hb dX_weight_37 rfl (lv_at hl 0 rfl) ?_
      exact W.iret (v := ((Xg_weights_of u) p0.toNatClampNeg)) hx hb hr (fun t ht hW => by subst hf; exact ⟨rfl, by rw [ht]; exact hP, hS.F ht⟩) hS.2.2 dX_weight_38
    · have hf := zt c2 hf
      have hg := zgt c2 hg
      refine lv_bipush (v := (-4)) hx hb dX_weight_14 (by decide) ?_
      exact W.iret (v := (-4)) hx hb hr (fun t ht hW => by subst hf; exact ⟨rfl, by rw [ht]; exact hP, hS.F ht⟩) hS.2.2 dX_weight_16
theorem dX_isSwitch_0 : decode cX_isSwitch 0 = .ok (.iload_n 0, 1) := by decide +kernel
theorem dX_isSwitch_1 : decode cX_isSwitch 1 = .ok (.ifCond .lt 13, 3) := by decide +kernel
theorem dX_isSwitch_4 : decode cX_isSwitch 4 = .ok (.iload_n 0, 1) := by decide +kernel
theorem dX_isSwitch_5 : decode cX_isSwitch 5 = .ok (.bipush 16, 2) := by decide +kernel
theorem dX_isSwitch_7 : decode cX_isSwitch 7 = .ok (.if_icmp .ge 7, 3) := by decide +kernel
theorem dX_isSwitch_10 : decode cX_isSwitch 10 = .ok (.iconst 1, 1) := by decide +kernel
theorem dX_isSwitch_11 : decode cX_isSwitch 11 = .ok (.goto 4, 3) := by decide +kernel
theorem dX_isSwitch_14 : decode cX_isSwitch 14 = .ok (.iconst 0, 1) := by decide +kernel
theorem dX_isSwitch_15 : decode cX_isSwitch 15 = .ok (.ireturn, 1) := by decide +kernel
abbrev wsX_isSwitch : List Cond := Cond.code yX_isSwitch cX_isSwitch 1 (some .boolean) :: zWords
def FX_isSwitch (u : XS) (p0 : Int32) : Int32 := (if p0 < 0 then 0 else (if (16 : Int32) ≤ p0 then 0 else 1))
theorem bFX_isSwitch (u : XS) (p0 : Int32) : FX_isSwitch u p0 = 0 ∨ FX_isSwitch u p0 = 1 := by
  unfold FX_isSwitch
  repeat' split
  all_goals first | exact Or.inl rfl | exact Or.inr rfl
set_option maxHeartbeats 4000000 in
set_option maxRecDepth 100000 in
theorem tX_isSwitch (l : Launch) {D : va_G} {k : zK} {a : Nat → Nat} (hI : zI 29 a) (u : XS) (p0 : Int32) : Met l yX_isSwitch wsX_isSwitch ({ frames := 0, cells := 0, slots := 0, locals := 0 }) (zPc D k (zA 29 a) (wX k a u) [.int p0]) (vp_Si (fun r9 => r9 = (FX_isSwitch u p0))) 0 0 (fun _ => False) := by
  refine Met.ofW (cc := cX_isSwitch) (maxL := 1) (ret := (some .boolean)) (by decide) rfl ?_
  intro p e s m args below meth c s₁ B hml hv
  obtain ⟨rfl, hP, hE⟩ := hv
  have hts := atoms_spec (ws := wsX_isSwitch) B.pre
  have C0 : zC p s m _ meth c cX_isSwitch (some .boolean) 1 RX wsX_isSwitch D k (zA 29 a) := ⟨B.exec, B.bytes, B.returns, hml, findClass_of_methodNamed B.named, hts, B.notSynchronized, hE⟩
  obtain ⟨hx, hb, hr, hml, hown, _, hlocks, _⟩ := id C0
  have hK := hE.1
  have hS : va_S (zA 29 a) s.heap s.heap [] := va_S.rf
  generalize hf : FX_isSwitch u p0 = tgt
  change ((if p0 < 0 then 0 else (if (16 : Int32) ≤ p0 then 0 else 1)) : Int32) = tgt at hf
  have hl := lv_entry ([.int p0]) (n := 1) (Nat.le_of_ble_eq_true rfl)
  rw [lg_entry_eq]
  generalize (lg_sl ([.int p0]) ++ List.replicate (1 - (lg_sl ([.int p0])).length) Slot.unset).toArray = ls at hl ⊢
  have hl : lv_has ls 1 [(0, .int p0)] := hl
  refine lv_iload_n hx hb dX_isSwitch_0 rfl (lv_at hl 0 rfl) ?_
  refine lv_if_lt (tgt := 14) hx hb dX_isSwitch_1 (by decide) (fun c1 => ?_) (fun c1 => ?_)
  · have hf := zt c1 hf
    refine lv_iconst (v := 0) hx hb dX_isSwitch_14 (by decide) ?_
    exact W.zret (v := 0) (ty := .boolean) hx hb hr rfl (fun t ht hW => ⟨_, rfl, hf, ht⟩) (fun _ h9 => nomatch h9) dX_isSwitch_15
  · have hf := zn c1 hf
    refine lv_iload_n hx hb dX_isSwitch_4 rfl (lv_at hl 0 rfl) ?_
    refine lv_bipush (v := 16) hx hb dX_isSwitch_5 (by decide) ?_
    refine lv_icmp_ge (tgt := 14) hx hb dX_isSwitch_7 (by decide) (fun c2 => ?_) (fun c2 => ?_)
    · have hf := zt c2 hf
      refine lv_iconst (v := 0) hx hb dX_isSwitch_14 (by decide) ?_
      exact W.zret (v := 0) (ty := .boolean) hx hb hr rfl (fun t ht hW => ⟨_, rfl, hf, ht⟩) (fun _ h9 => nomatch h9) dX_isSwitch_15
    · have hf := zn c2 hf
      refine lv_iconst (v := 1) hx hb dX_isSwitch_10 (by decide) ?_
      refine lv_goto (tgt := 15) hx hb dX_isSwitch_11 (by decide) ?_
      exact W.zret (v := 1) (ty := .boolean) hx hb hr rfl (fun t ht hW => ⟨_, rfl, hf, ht⟩) (fun _ h9 => nomatch h9) dX_isSwitch_15
theorem dX_isInside_0 : decode cX_isInside 0 = .ok (.iload_n 0, 1) := by decide +kernel
theorem dX_isInside_1 : decode cX_isInside 1 = .ok (.tableswitch 67 6 9 #[31, 46, 67, 62], 31) := by decide +kernel
theorem dX_isInside_32 : decode cX_isInside 32 = .ok (.iload_n 2, 1) := by decide +kernel
theorem dX_isInside_33 : decode cX_isInside 33 = .ok (.ifCond .lt 12, 3) := by decide +kernel
theorem dX_isInside_36 : decode cX_isInside 36 = .ok (.iload_n 2, 1) := by decide +kernel
theorem dX_isInside_37 : decode cX_isInside 37 = .ok (.iconst 3, 1) := by decide +kernel
theorem dX_isInside_38 : decode cX_isInside 38 = .ok (.if_icmp .gt 7, 3) := by decide +kernel
theorem dX_isInside_41 : decode cX_isInside 41 = .ok (.iconst 1, 1) := by decide +kernel
theorem dX_isInside_42 : decode cX_isInside 42 = .ok (.goto 4, 3) := by decide +kernel
theorem dX_isInside_45 : decode cX_isInside 45 = .ok (.iconst 0, 1) := by decide +kernel
theorem dX_isInside_46 : decode cX_isInside 46 = .ok (.ireturn, 1) := by decide +kernel
theorem dX_isInside_47 : decode cX_isInside 47 = .ok (.iload_n 2, 1) := by decide +kernel
theorem dX_isInside_48 : decode cX_isInside 48 = .ok (.iconst (-1), 1) := by decide +kernel
theorem dX_isInside_49 : decode cX_isInside 49 = .ok (.if_icmp .lt 12, 3) := by decide +kernel
theorem dX_isInside_52 : decode cX_isInside 52 = .ok (.iload_n 2, 1) := by decide +kernel
theorem dX_isInside_53 : decode cX_isInside 53 = .ok (.iconst 1, 1) := by decide +kernel
theorem dX_isInside_54 : decode cX_isInside 54 = .ok (.if_icmp .gt 7, 3) := by decide +kernel
theorem dX_isInside_57 : decode cX_isInside 57 = .ok (.iconst 1, 1) := by decide +kernel
theorem dX_isInside_58 : decode cX_isInside 58 = .ok (.goto 4, 3) := by decide +kernel
theorem dX_isInside_61 : decode cX_isInside 61 = .ok (.iconst 0, 1) := by decide +kernel
theorem dX_isInside_62 : decode cX_isInside 62 = .ok (.ireturn, 1) := by decide +kernel
theorem dX_isInside_63 : decode cX_isInside 63 = .ok (.iload_n 1, 1) := by decide +kernel
theorem dX_isInside_64 : decode cX_isInside 64 = .ok (.invokestatic 173, 3) := by decide +kernel
theorem dX_isInside_67 : decode cX_isInside 67 = .ok (.ireturn, 1) := by decide +kernel
theorem dX_isInside_68 : decode cX_isInside 68 = .ok (.iload_n 0, 1) := by decide +kernel
theorem dX_isInside_69 : decode cX_isInside 69 = .ok (.ifCond .lt 13, 3) := by decide +kernel
theorem dX_isInside_72 : decode cX_isInside 72 = .ok (.iload_n 0, 1) := by decide +kernel
theorem dX_isInside_73 : decode cX_isInside 73 = .ok (.bipush 12, 2) := by decide +kernel
theorem dX_isInside_75 : decode cX_isInside 75 = .ok (.if_icmp .gt 7, 3) := by decide +kernel
theorem dX_isInside_78 : decode cX_isInside 78 = .ok (.iconst 1, 1) := by decide +kernel
theorem dX_isInside_79 : decode cX_isInside 79 = .ok (.goto 4, 3) := by decide +kernel
theorem dX_isInside_82 : decode cX_isInside 82 = .ok (.iconst 0, 1) := by decide +kernel
theorem dX_isInside_83 : decode cX_isInside 83 = .ok (.ireturn, 1) := by decide +kernel
abbrev wsX_isInside : List Cond := Cond.code yX_isInside cX_isInside 3 (some .boolean) :: zWords
def LX_isInside_68 (n : Nat) (u : XS) (x0 : Int32) (x1 : Int32) (x2 : Int32) : Int32 := (if x0 < 0 then 0 else (if (12 : Int32) < x0 then 0 else 1))
def MX_isInside_68 (n : Nat) (u : XS) (x0 : Int32) (x1 : Int32) (x2 : Int32) : Prop := True
def FX_isInside (u : XS) (p0 : Int32) (p1 : Int32) (p2 : Int32) : Int32 := (if p0 = 6 then (if p2 < 0 then 0 else (if (3 : Int32) < p2 then 0 else 1)) else (if p0 = 7 then (if p2 < (-1) then 0 else (if (1 : Int32) < p2 then 0 else 1)) else (if p0 = 8 then (LX_isInside_68 1000 u p0 p1 p2) else (if p0 = 9 then (FX_isSwitch u p1) else (LX_isInside_68 1000 u p0 p1 p2)))))
def GX_isInside (u : XS) (p0 : Int32) (p1 : Int32) (p2 : Int32) : Prop := (if p0 = 6 then True else (if p0 = 7 then True else (if p0 = 8 then (MX_isInside_68 1000 u p0 p1 p2) else (if p0 = 9 then True else (MX_isInside_68 1000 u p0 p1 p2)))))
set_option maxHeartbeats 4000000 in
set_option maxRecDepth 100000 in
theorem kX_isInside_68 {p : Program} {l : Launch} {e : Env} {s : State} {m : MethodId} {args : Array Value} {below : List Frame} {meth : Method} {c : Code} {D : va_G} {k : zK} {a : Nat → Nat} (hI : zI 29 a) (C0 : zC p s m args meth c cX_isInside (some .boolean) 3 RX wsX_isInside D k (zA 29 a)) {tgt : Int32} : ∀ (n : Nat) (u : XS) (x0 : Int32) (x1 : Int32) (x2 : Int32), LX_isInside_68 n u x0 x1 x2 = tgt → MX_isInside_68 n u x0 x1 x2 → ∀ (H : Heap) (locs : List Loc), va_P D vwCl (wX k a u) H → va_S (zA 29 a) s.heap H locs → H = s.heap ∧ locs = [] → ∀ (ls : Array Slot), lv_has ls 3 [(0, .int x0), (1, .int x1), (2, .int x2)] → W p l e (headSpec wsX_isInside ({ frames := 1, cells := 0, slots := 0, locals := 20 })).room s m args below meth c H locs 0 0 (MQ below (vp_Si (fun r9 => r9 = tgt)) args s 0 0 (fun _ => False)) (F0 m 68 ls []) := by
  obtain ⟨hx, hb, hr, hml, hown, hts, hlocks, hE⟩ := id C0
  have hK := hE.1
  intro n
  intro u x0 x1 x2 hf hg H locs hP hS hq ls hl
  obtain ⟨rfl, rfl⟩ := hq
  change ((if x0 < 0 then 0 else (if (12 : Int32) < x0 then 0 else 1)) : Int32) = tgt at hf
  change True at hg
  refine lv_iload_n hx hb dX_isInside_68 rfl (lv_at hl 0 rfl) ?_
  refine lv_if_lt (tgt := 82) hx hb dX_isInside_69 (by decide) (fun c10 => ?_) (fun c10 => ?_)
  · have hf := zt c10 hf
    refine lv_iconst (v := 0) hx hb dX_isInside_82 (by decide) ?_
    exact W.zret (v := 0) (ty := .boolean) hx hb hr rfl (fun t ht hW => ⟨_, rfl, hf, ht⟩) (fun _ h9 => nomatch h9) dX_isInside_83
  · have hf := zn c10 hf
    refine lv_iload_n hx hb dX_isInside_72 rfl (lv_at hl 0 rfl) ?_
    refine lv_bipush (v := 12) hx hb dX_isInside_73 (by decide) ?_
    refine lv_icmp_gt (tgt := 82) hx hb dX_isInside_75 (by decide) (fun c11 => ?_) (fun c11 => ?_)
    · have hf := zt c11 hf
      refine lv_iconst (v := 0) hx hb dX_isInside_82 (by decide) ?_
      exact W.zret (v := 0) (ty := .boolean) hx hb hr rfl (fun t ht hW => ⟨_, rfl, hf, ht⟩) (fun _ h9 => nomatch h9) dX_isInside_83
    · have hf := zn c11 hf
      refine lv_iconst (v := 1) hx hb dX_isInside_78 (by decide) ?_
      refine lv_goto (tgt := 83) hx hb dX_isInside_79 (by decide) ?_
      exact W.zret (v := 1) (ty := .boolean) hx hb hr rfl (fun t ht hW => ⟨_, rfl, hf, ht⟩) (fun _ h9 => nomatch h9) dX_isInside_83
set_option maxHeartbeats 4000000 in
set_option maxRecDepth 100000 in
theorem tX_isInside (l : Launch) {D : va_G} {k : zK} {a : Nat → Nat} (hI : zI 29 a) (u : XS) (p0 : Int32) (p1 : Int32) (p2 : Int32) (hg : GX_isInside u p0 p1 p2) : Met l yX_isInside wsX_isInside ({ frames := 1, cells := 0, slots := 0, locals := 20 }) (zPc D k (zA 29 a) (wX k a u) [.int p0, .int p1, .int p2]) (vp_Si (fun r9 => r9 = (FX_isInside u p0 p1 p2))) 0 0 (fun _ => False) := by
  refine Met.ofW (cc := cX_isInside) (maxL := 3) (ret := (some .boolean)) (by decide) rfl ?_
  intro p e s m args below meth c s₁ B hml hv
  obtain ⟨rfl, hP, hE⟩ := hv
  have hts := atoms_spec (ws := wsX_isInside) B.pre
  have C0 : zC p s m _ meth c cX_isInside (some .boolean) 3 RX wsX_isInside D k (zA 29 a) := ⟨B.exec, B.bytes, B.returns, hml, findClass_of_methodNamed B.named, hts, B.notSynchronized, hE⟩
  obtain ⟨hx, hb, hr, hml, hown, _, hlocks, _⟩ := id C0
  have hK := hE.1
  have hS : va_S (zA 29 a) s.heap s.heap [] := va_S.rf
  generalize hf : FX_isInside u p0 p1 p2 = tgt
  change ((if p0 = 6 then (if p2 < 0 then 0 else (if (3 : Int32) < p2 then 0 else 1)) else (if p0 = 7 then (if p2 < (-1) then 0 else (if (1 : Int32) < p2 then 0 else 1)) else (if p0 = 8 then (LX_isInside_68 1000 u p0 p1 p2) else (if p0 = 9 then (FX_isSwitch u p1) else (LX_isInside_68 1000 u p0 p1 p2))))) : Int32) = tgt at hf
  change (if p0 = 6 then True else (if p0 = 7 then True else (if p0 = 8 then (MX_isInside_68 1000 u p0 p1 p2) else (if p0 = 9 then True else (MX_isInside_68 1000 u p0 p1 p2))))) at hg
  have hl := lv_entry ([.int p0, .int p1, .int p2]) (n := 3) (Nat.le_of_ble_eq_true rfl)
  rw [lg_entry_eq]
  generalize (lg_sl ([.int p0, .int p1, .int p2]) ++ List.replicate (3 - (lg_sl ([.int p0, .int p1, .int p2])).length) Slot.unset).toArray = ls at hl ⊢
  have hl : lv_has ls 3 [(0, .int p0), (1, .int p1), (2, .int p2)] := hl
  refine lv_iload_n hx hb dX_isInside_0 rfl (lv_at hl 0 rfl) ?_
  by_cases c1 : p0 = 6
  · have hf := zt c1 hf
    have hg := zgt c1 hg
    refine lv_tableIn (off := 31) (tgt := 32) hx hb dX_isInside_1 (by rw [c1]; decide) (by rw [c1]; decide) (by rw [c1]; decide) (by decide) ?_
    refine lv_iload_n hx hb dX_isInside_32 rfl (lv_at hl 2 rfl) ?_
    refine lv_if_lt (tgt := 45) hx hb dX_isInside_33 (by decide) (fun c2 => ?_) (fun c2 => ?_)
    · have hf := zt c2 hf
      refine lv_iconst (v := 0) hx hb dX_isInside_45 (by decide) ?_
      exact W.zret (v := 0) (ty := .boolean) hx hb hr rfl (fun t ht hW => ⟨_, rfl, hf, ht⟩) (fun _ h9 => nomatch h9) dX_isInside_46
    · have hf := zn c2 hf
      refine lv_iload_n hx hb dX_isInside_36 rfl (lv_at hl 2 rfl) ?_
      refine lv_iconst (v := 3) hx hb dX_isInside_37 (by decide) ?_
      refine lv_icmp_gt (tgt := 45) hx hb dX_isInside_38 (by decide) (fun c3 => ?_) (fun c3 => ?_)
      · have hf := zt c3 hf
        refine lv_iconst (v := 0) hx hb dX_isInside_45 (by decide) ?_
        exact W.zret (v := 0) (ty := .boolean) hx hb hr rfl (fun t ht hW => ⟨_, rfl, hf, ht⟩) (fun _ h9 => nomatch h9) dX_isInside_46
      · have hf := zn c3 hf
        refine lv_iconst (v := 1) hx hb dX_isInside_41 (by decide) ?_
        refine lv_goto (tgt := 46) hx hb dX_isInside_42 (by decide) ?_
        exact W.zret (v := 1) (ty := .boolean) hx hb hr rfl (fun t ht hW => ⟨_, rfl, hf, ht⟩) (fun _ h9 => nomatch h9) dX_isInside_46
  · have hf := zn c1 hf
    have hg := zgn c1 hg
    by_cases c4 : p0 = 7
    · have hf := zt c4 hf
      have hg := zgt c4 hg
      refine lv_tableIn (off := 46) (tgt := 47) hx hb dX_isInside_1 (by rw [c4]; decide) (by rw [c4]; decide) (by rw [c4]; decide) (by decide) ?_
      refine lv_iload_n hx hb dX_isInside_47 rfl (lv_at hl 2 rfl) ?_
      refine lv_iconst (v := (-1)) hx hb dX_isInside_48 (by decide) ?_
      refine lv_icmp_lt (tgt := 61) hx hb dX_isInside_49 (by decide) (fun c5 => ?_) (fun c5 => ?_)
      · have hf := zt c5 hf
        refine lv_iconst (v := 0) hx hb dX_isInside_61 (by decide) ?_
        exact W.zret (v := 0) (ty := .boolean) hx hb hr rfl (fun t ht hW => ⟨_, rfl, hf, ht⟩) (fun _ h9 => nomatch h9) dX_isInside_62
      · have hf := zn c5 hf
        refine lv_iload_n hx hb dX_isInside_52 rfl (lv_at hl 2 rfl) ?_
        refine lv_iconst (v := 1) hx hb dX_isInside_53 (by decide) ?_
        refine lv_icmp_gt (tgt := 61) hx hb dX_isInside_54 (by decide) (fun c6 => ?_) (fun c6 => ?_)
        · have hf := zt c6 hf
          refine lv_iconst (v := 0) hx hb dX_isInside_61 (by decide) ?_
          exact W.zret (v := 0) (ty := .boolean) hx hb hr rfl (fun t ht hW => ⟨_, rfl, hf, ht⟩) (fun _ h9 => nomatch h9) dX_isInside_62
        · have hf := zn c6 hf
          refine lv_iconst (v := 1) hx hb dX_isInside_57 (by decide) ?_
          refine lv_goto (tgt := 62) hx hb dX_isInside_58 (by decide) ?_
          exact W.zret (v := 1) (ty := .boolean) hx hb hr rfl (fun t ht hW => ⟨_, rfl, hf, ht⟩) (fun _ h9 => nomatch h9) dX_isInside_62
    · have hf := zn c4 hf
      have hg := zgn c4 hg
      by_cases c7 : p0 = 8
      · have hf := zt c7 hf
        have hg := zgt c7 hg
        refine lv_tableIn (off := 67) (tgt := 68) hx hb dX_isInside_1 (by rw [c7]; decide) (by rw [c7]; decide) (by rw [c7]; decide) (by decide) ?_
        exact kX_isInside_68 hI C0 (tgt := tgt) 1000 u p0 p1 p2 hf hg _ _ hP hS ⟨rfl, rfl⟩ _ (lv_sub hl [0, 1, 2] rfl)
      · have hf := zn c7 hf
        have hg := zgn c7 hg
        by_cases c8 : p0 = 9
        · have hf := zt c8 hf
          have hg := zgt c8 hg
          refine lv_tableIn (off := 62) (tgt := 63) hx hb dX_isInside_1 (by rw [c8]; decide) (by rw [c8]; decide) (by rw [c8]; decide) (by decide) ?_
          refine lv_iload_n hx hb dX_isInside_63 rfl (lv_at hl 1 rfl) ?_
          refine vp_callSi (W.runS (As := [.int p1]) (rest := []) ⟨hx, hb, hml, hown, hts⟩ (tX_isSwitch l hI u p1) (va_cwS 1 hts (zgS m_254 m_255 m_1 m_256) rfl rfl rfl (by decide +kernel) ⟨Nat.le_of_ble_eq_true rfl, Nat.le_of_ble_eq_true rfl⟩) (zpreS hP hE hS.2.1) rfl rfl hl.1 rfl (lv_room (Nat.le_of_ble_eq_true rfl)) dX_isInside_64 ⟨Nat.zero_le _, Nat.zero_le _⟩) (fun r9 hr9 => ?_)
          subst hr9
          exact W.zret (v := (FX_isSwitch u p1)) (ty := .boolean) hx hb hr (zb (bFX_isSwitch _ _)) (fun t ht hW => ⟨_, rfl, hf, ht⟩) (fun _ h9 => nomatch h9) dX_isInside_67
        · have hf := zn c8 hf
          have hg := zgn c8 hg
          refine lv_tableOut (tgt := 68) hx hb dX_isInside_1 (by have e0 := lv_neT (a := 6) c1 (by decide); have e1 := lv_neT (a := 7) c4 (by decide); have e2 := lv_neT (a := 8) c7 (by decide); have e3 := lv_neT (a := 9) c8 (by decide); omega) (by decide) ?_
          exact kX_isInside_68 hI C0 (tgt := tgt) 1000 u p0 p1 p2 hf hg _ _ hP hS ⟨rfl, rfl⟩ _ (lv_sub hl [0, 1, 2] rfl)
theorem dXN_has_0 : decode cXN_has 0 = .ok (.iload_n 1, 1) := by decide +kernel
theorem dXN_has_1 : decode cXN_has 1 = .ok (.iconst 1, 1) := by decide +kernel
theorem dXN_has_2 : decode cXN_has 2 = .ok (.if_icmp .lt 15, 3) := by decide +kernel
theorem dXN_has_5 : decode cXN_has 5 = .ok (.iload_n 1, 1) := by decide +kernel
theorem dXN_has_6 : decode cXN_has 6 = .ok (.aload_n 0, 1) := by decide +kernel
theorem dXN_has_7 : decode cXN_has 7 = .ok (.getfield 25, 3) := by decide +kernel
theorem dXN_has_10 : decode cXN_has 10 = .ok (.if_icmp .gt 7, 3) := by decide +kernel
theorem dXN_has_13 : decode cXN_has 13 = .ok (.iconst 1, 1) := by decide +kernel
theorem dXN_has_14 : decode cXN_has 14 = .ok (.goto 4, 3) := by decide +kernel
theorem dXN_has_17 : decode cXN_has 17 = .ok (.iconst 0, 1) := by decide +kernel
theorem dXN_has_18 : decode cXN_has 18 = .ok (.ireturn, 1) := by decide +kernel
abbrev wsXN_has : List Cond := Cond.code yXN_has cXN_has 2 (some .boolean) :: zWords
def FXN_has (u : XS) (p0 : Int32) : Int32 := (if p0 < 1 then 0 else (if (Xg_names_made u) < p0 then 0 else 1))
theorem bFXN_has (u : XS) (p0 : Int32) : FXN_has u p0 = 0 ∨ FXN_has u p0 = 1 := by
  unfold FXN_has
  repeat' split
  all_goals first | exact Or.inl rfl | exact Or.inr rfl
set_option maxHeartbeats 4000000 in
set_option maxRecDepth 100000 in
theorem tXN_has (l : Launch) {D : va_G} {k : zK} {a : Nat → Nat} (hI : zI 29 a) (u : XS) (p0 : Int32) : Met l yXN_has wsXN_has ({ frames := 0, cells := 0, slots := 0, locals := 0 }) (zPc D k (zA 29 a) (wX k a u) [.ref (a 8), .int p0]) (vp_Si (fun r9 => r9 = (FXN_has u p0))) 0 0 (fun _ => False) := by
  refine Met.ofW (cc := cXN_has) (maxL := 2) (ret := (some .boolean)) (by decide) rfl ?_
  intro p e s m args below meth c s₁ B hml hv
  obtain ⟨rfl, hP, hE⟩ := hv
  have hts := atoms_spec (ws := wsXN_has) B.pre
  have C0 : zC p s m _ meth c cXN_has (some .boolean) 2 RXN wsXN_has D k (zA 29 a) := ⟨B.exec, B.bytes, B.returns, hml, findClass_of_methodNamed B.named, hts, B.notSynchronized, hE⟩
  obtain ⟨hx, hb, hr, hml, hown, _, hlocks, _⟩ := id C0
  have hK := hE.1
  have hS : va_S (zA 29 a) s.heap s.heap [] := va_S.rf
  generalize hf : FXN_has u p0 = tgt
  change ((if p0 < 1 then 0 else (if (Xg_names_made u) < p0 then 0 else 1)) : Int32) = tgt at hf
  have hl := lv_entry ([.ref (a 8), .int p0]) (n := 2) (Nat.le_of_ble_eq_true rfl)
  rw [lg_entry_eq]
  generalize (lg_sl ([.ref (a 8), .int p0]) ++ List.replicate (2 - (lg_sl ([.ref (a 8), .int p0])).length) Slot.unset).toArray = ls at hl ⊢
  have hl : lv_has ls 2 [(0, .ref (a 8)), (1, .int p0)] := hl
  refine lv_iload_n hx hb dXN_has_0 rfl (lv_at hl 1 rfl) ?_
  refine lv_iconst (v := 1) hx hb dXN_has_1 (by decide) ?_
  refine lv_icmp_lt (tgt := 17) hx hb dXN_has_2 (by decide) (fun c1 => ?_) (fun c1 => ?_)
  · have hf := zt c1 hf
    refine lv_iconst (v := 0) hx hb dXN_has_17 (by decide) ?_
    exact W.zret (v := 0) (ty := .boolean) hx hb hr rfl (fun t ht hW => ⟨_, rfl, hf, ht⟩) (fun _ h9 => nomatch h9) dXN_has_18
  · have hf := zn c1 hf
    refine lv_iload_n hx hb dXN_has_5 rfl (lv_at hl 1 rfl) ?_
    refine lv_aload_n hx hb dXN_has_6 rfl (lv_at hl 0 rfl) ?_
    refine va_get (D := D) (ci := 3) (v := .int (Xg_names_made u)) (C := RXN) (T := TXN) (N := 5) hx hb hts (fun w h9 => zc (inXN w h9)) hown hK hP 8 rfl rfl 4 (by decide) (hts _ (zc m_74)) (fun _ h9 => h9) rfl dXN_has_7 ?_
    refine lv_icmp_gt (tgt := 17) hx hb dXN_has_10 (by decide) (fun c2 => ?_) (fun c2 => ?_)
    · have hf := zt c2 hf
      refine lv_iconst (v := 0) hx hb dXN_has_17 (by decide) ?_
      exact W.zret (v := 0) (ty := .boolean) hx hb hr rfl (fun t ht hW => ⟨_, rfl, hf, ht⟩) (fun _ h9 => nomatch h9) dXN_has_18
    · have hf := zn c2 hf
      refine lv_iconst (v := 1) hx hb dXN_has_13 (by decide) ?_
      refine lv_goto (tgt := 18) hx hb dXN_has_14 (by decide) ?_
      exact W.zret (v := 1) (ty := .boolean) hx hb hr rfl (fun t ht hW => ⟨_, rfl, hf, ht⟩) (fun _ h9 => nomatch h9) dXN_has_18
end
section
theorem dXO_has_0 : decode cXO_has 0 = .ok (.iload_n 1, 1) := by decide +kernel
theorem dXO_has_1 : decode cXO_has 1 = .ok (.iconst 1, 1) := by decide +kernel
theorem dXO_has_2 : decode cXO_has 2 = .ok (.if_icmp .lt 15, 3) := by decide +kernel
theorem dXO_has_5 : decode cXO_has 5 = .ok (.iload_n 1, 1) := by decide +kernel
theorem dXO_has_6 : decode cXO_has 6 = .ok (.aload_n 0, 1) := by decide +kernel
theorem dXO_has_7 : decode cXO_has 7 = .ok (.getfield 21, 3) := by decide +kernel
theorem dXO_has_10 : decode cXO_has 10 = .ok (.if_icmp .gt 7, 3) := by decide +kernel
theorem dXO_has_13 : decode cXO_has 13 = .ok (.iconst 1, 1) := by decide +kernel
theorem dXO_has_14 : decode cXO_has 14 = .ok (.goto 4, 3) := by decide +kernel
theorem dXO_has_17 : decode cXO_has 17 = .ok (.iconst 0, 1) := by decide +kernel
theorem dXO_has_18 : decode cXO_has 18 = .ok (.ireturn, 1) := by decide +kernel
abbrev wsXO_has : List Cond := Cond.code yXO_has cXO_has 2 (some .boolean) :: zWords
def FXO_has (u : XS) (p0 : Int32) : Int32 := (if p0 < 1 then 0 else (if (Xg_nodes_made u) < p0 then 0 else 1))
theorem bFXO_has (u : XS) (p0 : Int32) : FXO_has u p0 = 0 ∨ FXO_has u p0 = 1 := by
  unfold FXO_has
  repeat' split
  all_goals first | exact Or.inl rfl | exact Or.inr rfl
set_option maxHeartbeats 4000000 in
set_option maxRecDepth 100000 in
theorem tXO_has (l : Launch) {D : va_G} {k : zK} {a : Nat → Nat} (hI : zI 29 a) (u : XS) (p0 : Int32) : Met l yXO_has wsXO_has ({ frames := 0, cells := 0, slots := 0, locals := 0 }) (zPc D k (zA 29 a) (wX k a u) [.ref (a 13), .int p0]) (vp_Si (fun r9 => r9 = (FXO_has u p0))) 0 0 (fun _ => False) := by
  refine Met.ofW (cc := cXO_has) (maxL := 2) (ret := (some .boolean)) (by decide) rfl ?_
  intro p e s m args below meth c s₁ B hml hv
  obtain ⟨rfl, hP, hE⟩ := hv
  have hts := atoms_spec (ws := wsXO_has) B.pre
  have C0 : zC p s m _ meth c cXO_has (some .boolean) 2 RXO wsXO_has D k (zA 29 a) := ⟨B.exec, B.bytes, B.returns, hml, findClass_of_methodNamed B.named, hts, B.notSynchronized, hE⟩
  obtain ⟨hx, hb, hr, hml, hown, _, hlocks, _⟩ := id C0
  have hK := hE.1
  have hS : va_S (zA 29 a) s.heap s.heap [] := va_S.rf
  generalize hf : FXO_has u p0 = tgt
  change ((if p0 < 1 then 0 else (if (Xg_nodes_made u) < p0 then 0 else 1)) : Int32) = tgt at hf
  have hl := lv_entry ([.ref (a 13), .int p0]) (n := 2) (Nat.le_of_ble_eq_true rfl)
  rw [lg_entry_eq]
  generalize (lg_sl ([.ref (a 13), .int p0]) ++ List.replicate (2 - (lg_sl ([.ref (a 13), .int p0])).length) Slot.unset).toArray = ls at hl ⊢
  have hl : lv_has ls 2 [(0, .ref (a 13)), (1, .int p0)] := hl
  refine lv_iload_n hx hb dXO_has_0 rfl (lv_at hl 1 rfl) ?_
  refine lv_iconst (v := 1) hx hb dXO_has_1 (by decide) ?_
  refine lv_icmp_lt (tgt := 17) hx hb dXO_has_2 (by decide) (fun c1 => ?_) (fun c1 => ?_)
  · have hf := zt c1 hf
    refine lv_iconst (v := 0) hx hb dXO_has_17 (by decide) ?_
    exact W.zret (v := 0) (ty := .boolean) hx hb hr rfl (fun t ht hW => ⟨_, rfl, hf, ht⟩) (fun _ h9 => nomatch h9) dXO_has_18
  · have hf := zn c1 hf
    refine lv_iload_n hx hb dXO_has_5 rfl (lv_at hl 1 rfl) ?_
    refine lv_aload_n hx hb dXO_has_6 rfl (lv_at hl 0 rfl) ?_
    refine va_get (D := D) (ci := 4) (v := .int (Xg_nodes_made u)) (C := RXO) (T := TXO) (N := 4) hx hb hts (fun w h9 => zc (inXO w h9)) hown hK hP 13 rfl rfl 3 (by decide) (hts _ (zc m_100)) (fun _ h9 => h9) rfl dXO_has_7 ?_
    refine lv_icmp_gt (tgt := 17) hx hb dXO_has_10 (by decide) (fun c2 => ?_) (fun c2 => ?_)
    · have hf := zt c2 hf
      refine lv_iconst (v := 0) hx hb dXO_has_17 (by decide) ?_
      exact W.zret (v := 0) (ty := .boolean) hx hb hr rfl (fun t ht hW => ⟨_, rfl, hf, ht⟩) (fun _ h9 => nomatch h9) dXO_has_18
    · have hf := zn c2 hf
      refine lv_iconst (v := 1) hx hb dXO_has_13 (by decide) ?_
      refine lv_goto (tgt := 18) hx hb dXO_has_14 (by decide) ?_
      exact W.zret (v := 1) (ty := .boolean) hx hb hr rfl (fun t ht hW => ⟨_, rfl, hf, ht⟩) (fun _ h9 => nomatch h9) dXO_has_18
theorem dX_hasParts_0 : decode cX_hasParts 0 = .ok (.iload_n 1, 1) := by decide +kernel
theorem dX_hasParts_1 : decode cX_hasParts 1 = .ok (.tableswitch 109 6 12 #[43, 52, 61, 70, 72, 81, 81], 43) := by decide +kernel
theorem dX_hasParts_44 : decode cX_hasParts 44 = .ok (.aload_n 0, 1) := by decide +kernel
theorem dX_hasParts_45 : decode cX_hasParts 45 = .ok (.getfield 10, 3) := by decide +kernel
theorem dX_hasParts_48 : decode cX_hasParts 48 = .ok (.iload_n 2, 1) := by decide +kernel
theorem dX_hasParts_49 : decode cX_hasParts 49 = .ok (.invokevirtual 74, 3) := by decide +kernel
theorem dX_hasParts_52 : decode cX_hasParts 52 = .ok (.ireturn, 1) := by decide +kernel
theorem dX_hasParts_53 : decode cX_hasParts 53 = .ok (.aload_n 0, 1) := by decide +kernel
theorem dX_hasParts_54 : decode cX_hasParts 54 = .ok (.getfield 10, 3) := by decide +kernel
theorem dX_hasParts_57 : decode cX_hasParts 57 = .ok (.iload_n 2, 1) := by decide +kernel
theorem dX_hasParts_58 : decode cX_hasParts 58 = .ok (.invokevirtual 84, 3) := by decide +kernel
theorem dX_hasParts_61 : decode cX_hasParts 61 = .ok (.ireturn, 1) := by decide +kernel
theorem dX_hasParts_62 : decode cX_hasParts 62 = .ok (.aload_n 0, 1) := by decide +kernel
theorem dX_hasParts_63 : decode cX_hasParts 63 = .ok (.getfield 26, 3) := by decide +kernel
theorem dX_hasParts_66 : decode cX_hasParts 66 = .ok (.iload_n 2, 1) := by decide +kernel
theorem dX_hasParts_67 : decode cX_hasParts 67 = .ok (.invokevirtual 113, 3) := by decide +kernel
theorem dX_hasParts_70 : decode cX_hasParts 70 = .ok (.ireturn, 1) := by decide +kernel
theorem dX_hasParts_71 : decode cX_hasParts 71 = .ok (.iconst 1, 1) := by decide +kernel
theorem dX_hasParts_72 : decode cX_hasParts 72 = .ok (.ireturn, 1) := by decide +kernel
theorem dX_hasParts_73 : decode cX_hasParts 73 = .ok (.aload_n 0, 1) := by decide +kernel
theorem dX_hasParts_74 : decode cX_hasParts 74 = .ok (.getfield 33, 3) := by decide +kernel
theorem dX_hasParts_77 : decode cX_hasParts 77 = .ok (.iload_n 2, 1) := by decide +kernel
theorem dX_hasParts_78 : decode cX_hasParts 78 = .ok (.invokevirtual 151, 3) := by decide +kernel
theorem dX_hasParts_81 : decode cX_hasParts 81 = .ok (.ireturn, 1) := by decide +kernel
theorem dX_hasParts_82 : decode cX_hasParts 82 = .ok (.aload_n 0, 1) := by decide +kernel
theorem dX_hasParts_83 : decode cX_hasParts 83 = .ok (.getfield 33, 3) := by decide +kernel
theorem dX_hasParts_86 : decode cX_hasParts 86 = .ok (.iload_n 2, 1) := by decide +kernel
theorem dX_hasParts_87 : decode cX_hasParts 87 = .ok (.invokevirtual 151, 3) := by decide +kernel
theorem dX_hasParts_90 : decode cX_hasParts 90 = .ok (.ifCond .eq 18, 3) := by decide +kernel
theorem dX_hasParts_93 : decode cX_hasParts 93 = .ok (.aload_n 0, 1) := by decide +kernel
theorem dX_hasParts_94 : decode cX_hasParts 94 = .ok (.getfield 33, 3) := by decide +kernel
theorem dX_hasParts_97 : decode cX_hasParts 97 = .ok (.iload_n 3, 1) := by decide +kernel
theorem dX_hasParts_98 : decode cX_hasParts 98 = .ok (.invokevirtual 151, 3) := by decide +kernel
theorem dX_hasParts_101 : decode cX_hasParts 101 = .ok (.ifCond .eq 7, 3) := by decide +kernel
theorem dX_hasParts_104 : decode cX_hasParts 104 = .ok (.iconst 1, 1) := by decide +kernel
theorem dX_hasParts_105 : decode cX_hasParts 105 = .ok (.goto 4, 3) := by decide +kernel
theorem dX_hasParts_108 : decode cX_hasParts 108 = .ok (.iconst 0, 1) := by decide +kernel
theorem dX_hasParts_109 : decode cX_hasParts 109 = .ok (.ireturn, 1) := by decide +kernel
theorem dX_hasParts_110 : decode cX_hasParts 110 = .ok (.aload_n 0, 1) := by decide +kernel
theorem dX_hasParts_111 : decode cX_hasParts 111 = .ok (.getfield 10, 3) := by decide +kernel
theorem dX_hasParts_114 : decode cX_hasParts 114 = .ok (.iload_n 2, 1) := by decide +kernel
theorem dX_hasParts_115 : decode cX_hasParts 115 = .ok (.invokevirtual 74, 3) := by decide +kernel
theorem dX_hasParts_118 : decode cX_hasParts 118 = .ok (.ifCond .eq 18, 3) := by decide +kernel
theorem dX_hasParts_121 : decode cX_hasParts 121 = .ok (.aload_n 0, 1) := by decide +kernel
theorem dX_hasParts_122 : decode cX_hasParts 122 = .ok (.getfield 10, 3) := by decide +kernel
theorem dX_hasParts_125 : decode cX_hasParts 125 = .ok (.iload_n 3, 1) := by decide +kernel
theorem dX_hasParts_126 : decode cX_hasParts 126 = .ok (.invokevirtual 74, 3) := by decide +kernel
theorem dX_hasParts_129 : decode cX_hasParts 129 = .ok (.ifCond .eq 7, 3) := by decide +kernel
theorem dX_hasParts_132 : decode cX_hasParts 132 = .ok (.iconst 1, 1) := by decide +kernel
theorem dX_hasParts_133 : decode cX_hasParts 133 = .ok (.goto 4, 3) := by decide +kernel
theorem dX_hasParts_136 : decode cX_hasParts 136 = .ok (.iconst 0, 1) := by decide +kernel
theorem dX_hasParts_137 : decode cX_hasParts 137 = .ok (.ireturn, 1) := by decide +kernel
abbrev wsX_hasParts : List Cond := Cond.code yX_hasParts cX_hasParts 4 (some .boolean) :: zWords
def LX_hasParts_82 (n : Nat) (u : XS) (x1 : Int32) (x2 : Int32) (x3 : Int32) : Int32 := (if (FXO_has u x2) = 0 then 0 else (if (FXO_has u x3) = 0 then 0 else 1))
def MX_hasParts_82 (n : Nat) (u : XS) (x1 : Int32) (x2 : Int32) (x3 : Int32) : Prop := True
def FX_hasParts (u : XS) (p0 : Int32) (p1 : Int32) (p2 : Int32) : Int32 := (if p0 = 6 then (FXF_has u p1) else (if p0 = 7 then (FXF_hasNumber u p1) else (if p0 = 8 then (FXN_has u p1) else (if p0 = 9 then 1 else (if p0 = 10 then (FXO_has u p1) else (if p0 = 11 then (LX_hasParts_82 1000 u p0 p1 p2) else (if p0 = 12 then (LX_hasParts_82 1000 u p0 p1 p2) else (if (FXF_has u p1) = 0 then 0 else (if (FXF_has u p2) = 0 then 0 else 1)))))))))
def GX_hasParts (u : XS) (p0 : Int32) (p1 : Int32) (p2 : Int32) : Prop := (if p0 = 6 then True else (if p0 = 7 then (GXF_hasNumber u p1 ∧ True) else (if p0 = 8 then True else (if p0 = 9 then True else (if p0 = 10 then True else (if p0 = 11 then (MX_hasParts_82 1000 u p0 p1 p2) else (if p0 = 12 then (MX_hasParts_82 1000 u p0 p1 p2) else True)))))))
set_option maxHeartbeats 4000000 in
set_option maxRecDepth 100000 in
theorem kX_hasParts_82 {p : Program} {l : Launch} {e : Env} {s : State} {m : MethodId} {args : Array Value} {below : List Frame} {meth : Method} {c : Code} {D : va_G} {k : zK} {a : Nat → Nat} (hI : zI 29 a) (C0 : zC p s m args meth c cX_hasParts (some .boolean) 4 RX wsX_hasParts D k (zA 29 a)) {tgt : Int32} : ∀ (n : Nat) (u : XS) (x1 : Int32) (x2 : Int32) (x3 : Int32), LX_hasParts_82 n u x1 x2 x3 = tgt → MX_hasParts_82 n u x1 x2 x3 → ∀ (H : Heap) (locs : List Loc), va_P D vwCl (wX k a u) H → va_S (zA 29 a) s.heap H locs → H = s.heap ∧ locs = [] → ∀ (ls : Array Slot), lv_has ls 4 [(0, .ref (a 0)), (1, .int x1), (2, .int x2), (3, .int x3)] → W p l e (headSpec wsX_hasParts ({ frames := 2, cells := 0, slots := 0, locals := 42 })).room s m args below meth c H locs 0 0 (MQ below (vp_Si (fun r9 => r9 = tgt)) args s 0 0 (fun _ => False)) (F0 m 82 ls []) := by
  obtain ⟨hx, hb, hr, hml, hown, hts, hlocks, hE⟩ := id C0
  have hK := hE.1
  intro n
  intro u x1 x2 x3 hf hg H locs hP hS hq ls hl
  obtain ⟨rfl, rfl⟩ := hq
  change ((if (FXO_has u x2) = 0 then 0 else (if (FXO_has u x3) = 0 then 0 else 1)) : Int32) = tgt at hf
  change True at hg
  refine lv_aload_n hx hb dX_hasParts_82 rfl (lv_at hl 0 rfl) ?_
  refine va_get (D := D) (ci := 0) (v := .ref (a 13)) (C := RX) (T := TX) (N := 10) hx hb hts (fun w h9 => zc (inX w h9)) hown hK hP 0 rfl rfl 4 (by decide) (hts _ (zc m_178)) (fun _ h9 => h9) rfl dX_hasParts_83 ?_
  refine lv_iload_n hx hb dX_hasParts_86 rfl (lv_at hl 2 rfl) ?_
  refine vp_callSi (W.runV (As := [.int x2]) (rest := []) ⟨hx, hb, hml, hown, hts⟩ (tXO_has l hI u x2) (cwV 1 hts (zgV m_265 m_266 m_267 m_5 m_268) rfl rfl rfl (by decide +kernel) ⟨Nat.le_of_ble_eq_true rfl, Nat.le_of_ble_eq_true rfl⟩) (zpre hP hE hS.2.1 (va_recv hK hP (ci := 4) (q0 := 13) rfl rfl)) rfl rfl hl.1 rfl (lv_room (Nat.le_of_ble_eq_true rfl)) dX_hasParts_87 ⟨Nat.zero_le _, Nat.zero_le _⟩) (fun r9 hr9 => ?_)
  subst hr9
  refine lv_if_eq (tgt := 108) hx hb dX_hasParts_90 (by decide) (fun c12 => ?_) (fun c12 => ?_)
  · have hf := zt c12 hf
    refine lv_iconst (v := 0) hx hb dX_hasParts_108 (by decide) ?_
    exact W.zret (v := 0) (ty := .boolean) hx hb hr rfl (fun t ht hW => ⟨_, rfl, hf, ht⟩) (fun _ h9 => nomatch h9) dX_hasParts_109
  · have hf := zn c12 hf
    refine lv_aload_n hx hb dX_hasParts_93 rfl (lv_at hl 0 rfl) ?_
    refine va_get (D := D) (ci := 0) (v := .ref (a 13)) (C := RX) (T := TX) (N := 10) hx hb hts (fun w h9 => zc (inX w h9)) hown hK hP 0 rfl rfl 4 (by decide) (hts _ (zc m_178)) (fun _ h9 => h9) rfl dX_hasParts_94 ?_
    refine lv_iload_n hx hb dX_hasParts_97 rfl (lv_at hl 3 rfl) ?_
    refine vp_callSi (W.runV (As := [.int x3]) (rest := []) ⟨hx, hb, hml, hown, hts⟩ (tXO_has l hI u x3) (cwV 1 hts (zgV m_265 m_266 m_267 m_5 m_268) rfl rfl rfl (by decide +kernel) ⟨Nat.le_of_ble_eq_true rfl, Nat.le_of_ble_eq_true rfl⟩) (zpre hP hE hS.2.1 (va_recv hK hP (ci := 4) (q0 := 13) rfl rfl)) rfl rfl hl.1 rfl (lv_room (Nat.le_of_ble_eq_true rfl)) dX_hasParts_98 ⟨Nat.zero_le _, Nat.zero_le _⟩) (fun r9 hr9 => ?_)
    subst hr9
    refine lv_if_eq (tgt := 108) hx hb dX_hasParts_101 (by decide) (fun c13 => ?_) (fun c13 => ?_)
    · have hf := zt c13 hf
      refine lv_iconst (v := 0) hx hb dX_hasParts_108 (by decide) ?_
      exact W.zret (v := 0) (ty := .boolean) hx hb hr rfl (fun t ht hW => ⟨_, rfl, hf, ht⟩) (fun _ h9 => nomatch h9) dX_hasParts_109
    · have hf := zn c13 hf
      refine lv_iconst (v := 1) hx hb dX_hasParts_104 (by decide) ?_
      refine lv_goto (tgt := 109) hx hb dX_hasParts_105 (by decide) ?_
      exact W.zret (v := 1) (ty := .boolean) hx hb hr rfl (fun t ht hW => ⟨_, rfl, hf, ht⟩) (fun _ h9 => nomatch h9) dX_hasParts_109
set_option maxHeartbeats 4000000 in
set_option maxRecDepth 100000 in
theorem tX_hasParts (l : Launch) {D : va_G} {k : zK} {a : Nat → Nat} (hI : zI 29 a) (u : XS) (p0 : Int32) (p1 : Int32) (p2 : Int32) (hg : GX_hasParts u p0 p1 p2) : Met l yX_hasParts wsX_hasParts ({ frames := 2, cells := 0, slots := 0, locals := 42 }) (zPc D k (zA 29 a) (wX k a u) [.ref (a 0), .int p0, .int p1, .int p2]) (vp_Si (fun r9 => r9 = (FX_hasParts u p0 p1 p2))) 0 0 (fun _ => False) := by
  refine Met.ofW (cc := cX_hasParts) (maxL := 4) (ret := (some .boolean)) (by decide) rfl ?_
  intro p e s m args below meth c s₁ B hml hv
  obtain ⟨rfl, hP, hE⟩ := hv
  have hts := atoms_spec (ws := wsX_hasParts) B.pre
  have C0 : zC p s m _ meth c cX_hasParts (some .boolean) 4 RX wsX_hasParts D k (zA 29 a) := ⟨B.exec, B.bytes, B.returns, hml, findClass_of_methodNamed B.named, hts, B.notSynchronized, hE⟩
  obtain ⟨hx, hb, hr, hml, hown, _, hlocks, _⟩ := id C0
  have hK := hE.1
  have hS : va_S (zA 29 a) s.heap s.heap [] := va_S.rf
  generalize hf : FX_hasParts u p0 p1 p2 = tgt
  change ((if p0 = 6 then (FXF_has u p1) else (if p0 = 7 then (FXF_hasNumber u p1) else (if p0 = 8 then (FXN_has u p1) else (if p0 = 9 then 1 else (if p0 = 10 then (FXO_has u p1) else (if p0 = 11 then (LX_hasParts_82 1000 u p0 p1 p2) else (if p0 = 12 then (LX_hasParts_82 1000 u p0 p1 p2) else (if (FXF_has u p1) = 0 then 0 else (if (FXF_has u p2) = 0 then 0 else 1))))))))) : Int32) = tgt at hf
  change (if p0 = 6 then True else (if p0 = 7 then (GXF_hasNumber u p1 ∧ True) else (if p0 = 8 then True else (if p0 = 9 then True else (if p0 = 10 then True else (if p0 = 11 then (MX_hasParts_82 1000 u p0 p1 p2) else (if p0 = 12 then (MX_hasParts_82 1000 u p0 p1 p2) else True))))))) at hg
  have hl := lv_entry ([.ref (a 0), .int p0, .int p1, .int p2]) (n := 4) (Nat.le_of_ble_eq_true rfl)
  rw [lg_entry_eq]
  generalize (lg_sl ([.ref (a 0), .int p0, .int p1, .int p2]) ++ List.replicate (4 - (lg_sl ([.ref (a 0), .int p0, .int p1, .int p2])).length) Slot.unset).toArray = ls at hl ⊢
  have hl : lv_has ls 4 [(0, .ref (a 0)), (1, .int p0), (2, .int p1), (3, .int p2)] := hl
  refine lv_iload_n hx hb dX_hasParts_0 rfl (lv_at hl 1 rfl) ?_
  by_cases c1 : p0 = 6
  · have hf := zt c1 hf
    have hg := zgt c1 hg
    refine lv_tableIn (off := 43) (tgt := 44) hx hb dX_hasParts_1 (by rw [c1]; decide) (by rw [c1]; decide) (by rw [c1]; decide) (by decide) ?_
    refine lv_aload_n hx hb dX_hasParts_44 rfl (lv_at hl 0 rfl) ?_
    refine va_get (D := D) (ci := 0) (v := .ref (a 1)) (C := RX) (T := TX) (N := 10) hx hb hts (fun w h9 => zc (inX w h9)) hown hK hP 0 rfl rfl 1 (by decide) (hts _ (zc m_175)) (fun _ h9 => h9) rfl dX_hasParts_45 ?_
    refine lv_iload_n hx hb dX_hasParts_48 rfl (lv_at hl 2 rfl) ?_
    refine vp_callSi (W.runV (As := [.int p1]) (rest := []) ⟨hx, hb, hml, hown, hts⟩ (tXF_has l hI u p1) (cwV 1 hts (zgV m_223 m_224 m_225 m_2 m_226) rfl rfl rfl (by decide +kernel) ⟨Nat.le_of_ble_eq_true rfl, Nat.le_of_ble_eq_true rfl⟩) (zpre hP hE hS.2.1 (va_recv hK hP (ci := 1) (q0 := 1) rfl rfl)) rfl rfl hl.1 rfl (lv_room (Nat.le_of_ble_eq_true rfl)) dX_hasParts_49 ⟨Nat.zero_le _, Nat.zero_le _⟩) (fun r9 hr9 => ?_)
    subst hr9
    exact W.zret (v := (FXF_has u p1)) (ty := .boolean) hx hb hr (zb (bFXF_has _ _)) (fun t ht hW => ⟨_, rfl, hf, ht⟩) (fun _ h9 => nomatch h9) dX_hasParts_52
  · have hf := zn c1 hf
    have hg := zgn c1 hg
    by_cases c2 : p0 = 7
    · have hf := zt c2 hf
      have hg := zgt c2 hg
      refine lv_tableIn (off := 52) (tgt := 53) hx hb dX_hasParts_1 (by rw [c2]; decide) (by rw [c2]; decide) (by rw [c2]; decide) (by decide) ?_
      refine lv_aload_n hx hb dX_hasParts_53 rfl (lv_at hl 0 rfl) ?_
      refine va_get (D := D) (ci := 0) (v := .ref (a 1)) (C := RX) (T := TX) (N := 10) hx hb hts (fun w h9 => zc (inX w h9)) hown hK hP 0 rfl rfl 1 (by decide) (hts _ (zc m_175)) (fun _ h9 => h9) rfl dX_hasParts_54 ?_
      refine lv_iload_n hx hb dX_hasParts_57 rfl (lv_at hl 2 rfl) ?_
      obtain ⟨h3, hg⟩ := hg
      refine vp_callSi (W.runV (As := [.int p1]) (rest := []) ⟨hx, hb, hml, hown, hts⟩ (tXF_hasNumber l hI u p1 h3) (cwV 1 hts (zgV m_231 m_232 m_233 m_2 m_234) rfl rfl rfl (by decide +kernel) ⟨Nat.le_of_ble_eq_true rfl, Nat.le_of_ble_eq_true rfl⟩) (zpre hP hE hS.2.1 (va_recv hK hP (ci := 1) (q0 := 1) rfl rfl)) rfl rfl hl.1 rfl (lv_room (Nat.le_of_ble_eq_true rfl)) dX_hasParts_58 ⟨Nat.zero_le _, Nat.zero_le _⟩) (fun r9 hr9 => ?_)
      subst hr9
      exact W.zret (v := (FXF_hasNumber u p1)) (ty := .boolean) hx hb hr (zb (bFXF_hasNumber _ _)) (fun t ht hW => ⟨_, rfl, hf, ht⟩) (fun _ h9 => nomatch h9) dX_hasParts_61
    · have hf := zn c2 hf
      have hg := zgn c2 hg
      by_cases c4 : p0 = 8
      · have hf := zt c4 hf
        have hg := zgt c4 hg
        refine lv_tableIn (off := 61) (tgt := 62) hx hb dX_hasParts_1 (by rw [c4]; decide) (by rw [c4]; decide) (by rw [c4]; decide) (by decide) ?_
        refine lv_aload_n hx hb dX_hasParts_62 rfl (lv_at hl 0 rfl) ?_
        refine va_get (D := D) (ci := 0) (v := .ref (a 8)) (C := RX) (T := TX) (N := 10) hx hb hts (fun w h9 => zc (inX w h9)) hown hK hP 0 rfl rfl 3 (by decide) (hts _ (zc m_177)) (fun _ h9 => h9) rfl dX_hasParts_63 ?_
        refine lv_iload_n hx hb dX_hasParts_66 rfl (lv_at hl 2 rfl) ?_
        refine vp_callSi (W.runV (As := [.int p1]) (rest := []) ⟨hx, hb, hml, hown, hts⟩ (tXN_has l hI u p1) (cwV 1 hts (zgV m_261 m_262 m_263 m_4 m_264) rfl rfl rfl (by decide +kernel) ⟨Nat.le_of_ble_eq_true rfl, Nat.le_of_ble_eq_true rfl⟩) (zpre hP hE hS.2.1 (va_recv hK hP (ci := 3) (q0 := 8) rfl rfl)) rfl rfl hl.1 rfl (lv_room (Nat.le_of_ble_eq_true rfl)) dX_hasParts_67 ⟨Nat.zero_le _, Nat.zero_le _⟩) (fun r9 hr9 => ?_)
        subst hr9
        exact W.zret (v := (FXN_has u p1)) (ty := .boolean) hx hb hr (zb (bFXN_has _ _)) (fun t ht hW => ⟨_, rfl, hf, ht⟩) (fun _ h9 => nomatch h9) dX_hasParts_70
      · have hf := zn c4 hf
        have hg := zgn c4 hg
        by_cases c5 : p0 = 9
        · have hf := zt c5 hf
          have hg := zgt c5 hg
          refine lv_tableIn (off := 70) (tgt := 71) hx hb dX_hasParts_1 (by rw [c5]; decide) (by rw [c5]; decide) (by rw [c5]; decide) (by decide) ?_
          refine lv_iconst (v := 1) hx hb dX_hasParts_71 (by decide) ?_
          exact W.zret (v := 1) (ty := .boolean) hx hb hr rfl (fun t ht hW => ⟨_, rfl, hf, ht⟩) (fun _ h9 => nomatch h9) dX_hasParts_72
        · have hf := zn c5 hf
          have hg := zgn c5 hg
          by_cases c6 : p0 = 10
          · have hf := zt c6 hf
            have hg := zgt c6 hg
            refine lv_tableIn (off := 72) (tgt := 73) hx hb dX_hasParts_1 (by rw [c6]; decide) (by rw [c6]; decide) (by rw [c6]; decide) (by decide) ?_
            refine lv_aload_n hx hb dX_hasParts_73 rfl (lv_at hl 0 rfl) ?_
            refine va_get (D := D) (ci := 0) (v := .ref (a 13)) (C := RX) (T := TX) (N := 10) hx hb hts (fun w h9 => zc (inX w h9)) hown hK hP 0 rfl rfl 4 (by decide) (hts _ (zc m_178)) (fun _ h9 => h9) rfl dX_hasParts_74 ?_
            refine lv_iload_n hx hb dX_hasParts_77 rfl (lv_at hl 2 rfl) ?_
            refine vp_callSi (W.runV (As := [.int p1]) (rest := []) ⟨hx, hb, hml, hown, hts⟩ (tXO_has l hI u p1) (cwV 1 hts (zgV m_265 m_266 m_267 m_5 m_268) rfl rfl rfl (by decide +kernel) ⟨Nat.le_of_ble_eq_true rfl, Nat.le_of_ble_eq_true rfl⟩) (zpre hP hE hS.2.1 (va_recv hK hP (ci := 4) (q0 := 13) rfl rfl)) rfl rfl hl.1 rfl (lv_room (Nat.le_of_ble_eq_true rfl)) dX_hasParts_78 ⟨Nat.zero_le _, Nat.zero_le _⟩) (fun r9 hr9 => ?_)
            subst hr9
            exact W.zret (v := (FXO_has u p1)) (ty := .boolean) hx hb hr (zb (bFXO_has _ _)) (fun t ht hW => ⟨_, rfl, hf, ht⟩) (fun _ h9 => nomatch h9) dX_hasParts_81
          · have hf := zn c6 hf
            have hg := zgn c6 hg
            by_cases c7 : p0 = 11
            · have hf := zt c7 hf
              have hg := zgt c7 hg
              refine lv_tableIn (off := 81) (tgt := 82) hx hb dX_hasParts_1 (by rw [c7]; decide) (by rw [c7]; decide) (by rw [c7]; decide) (by decide) ?_
              exact kX_hasParts_82 hI C0 (tgt := tgt) 1000 u p0 p1 p2 hf hg _ _ hP hS ⟨rfl, rfl⟩ _ (lv_sub hl [0, 1, 2, 3] rfl)
            · have hf := zn c7 hf
              have hg := zgn c7 hg
              by_cases c8 : p0 = 12
              · have hf := zt c8 hf
                have hg := zgt c8 hg
                refine lv_tableIn (off := 81) (tgt := 82) hx hb dX_hasParts_1 (by rw [c8]; decide) (by rw [c8]; decide) (by rw [c8]; decide) (by decide) ?_
                exact kX_hasParts_82 hI C0 (tgt := tgt) 1000 u p0 p1 p2 hf hg _ _ hP hS ⟨rfl, rfl⟩ _ (lv_sub hl [0, 1, 2, 3] rfl)
              · have hf := zn c8 hf
                have hg := zgn c8 hg
                refine lv_tableOut (tgt := 110) hx hb dX_hasParts_1 (by have e0 := lv_neT (a := 6) c1 (by decide); have e1 := lv_neT (a := 7) c2 (by decide); have e2 := lv_neT (a := 8) c4 (by decide); have e3 := lv_neT (a := 9) c5 (by decide); have e4 := lv_neT (a := 10) c6 (by decide); have e5 := lv_neT (a := 11) c7 (by decide); have e6 := lv_neT (a := 12) c8 (by decide); omega) (by decide) ?_
                refine lv_aload_n hx hb dX_hasParts_110 rfl (lv_at hl 0 rfl) ?_
                refine va_get (D := D) (ci := 0) (v := .ref (a 1)) (C := RX) (T := TX) (N := 10) hx hb hts (fun w h9 => zc (inX w h9)) hown hK hP 0 rfl rfl 1 (by decide) (hts _ (zc m_175)) (fun _ h9 => h9) rfl dX_hasParts_111 ?_
                refine lv_iload_n hx hb dX_hasParts_114 rfl (lv_at hl 2 rfl) ?_
                refine vp_callSi (W.runV (As := [.int p1]) (rest := []) ⟨hx, hb, hml, hown, hts⟩ (tXF_has l hI u p1) (cwV 1 hts (zgV m_223 m_224 m_225 m_2 m_226) rfl rfl rfl (by decide +kernel) ⟨Nat.le_of_ble_eq_true rfl, Nat.le_of_ble_eq_true rfl⟩) (zpre hP hE hS.2.1 (va_recv hK hP (ci := 1) (q0 := 1) rfl rfl)) rfl rfl hl.1 rfl (lv_room (Nat.le_of_ble_eq_true rfl)) dX_hasParts_115 ⟨Nat.zero_le _, Nat.zero_le _⟩) (fun r9 hr9 => ?_)
                subst hr9
                refine lv_if_eq (tgt := 136) hx hb dX_hasParts_118 (by decide) (fun c10 => ?_) (fun c10 => ?_)
                · have hf := zt c10 hf
                  refine lv_iconst (v := 0) hx hb dX_hasParts_136 (by decide) ?_
                  exact W.zret (v := 0) (ty := .boolean) hx hb hr rfl (fun t ht hW => ⟨_, rfl, hf, ht⟩) (fun _ h9 => nomatch h9) dX_hasParts_137
                · have hf := zn c10 hf
                  refine lv_aload_n hx hb dX_hasParts_121 rfl (lv_at hl 0 rfl) ?_
                  refine va_get (D := D) (ci := 0) (v := .ref (a 1)) (C := RX) (T := TX) (N := 10) hx hb hts (fun w h9 => zc (inX w h9)) hown hK hP 0 rfl rfl 1 (by decide) (hts _ (zc m_175)) (fun _ h9 => h9) rfl dX_hasParts_122 ?_
                  refine lv_iload_n hx hb dX_hasParts_125 rfl (lv_at hl 3 rfl) ?_
                  refine vp_callSi (W.runV (As := [.int p2]) (rest := []) ⟨hx, hb, hml, hown, hts⟩ (tXF_has l hI u p2) (cwV 1 hts (zgV m_223 m_224 m_225 m_2 m_226) rfl rfl rfl (by decide +kernel) ⟨Nat.le_of_ble_eq_true rfl, Nat.le_of_ble_eq_true rfl⟩) (zpre hP hE hS.2.1 (va_recv hK hP (ci := 1) (q0 := 1) rfl rfl)) rfl rfl hl.1 rfl (lv_room (Nat.le_of_ble_eq_true rfl)) dX_hasParts_126 ⟨Nat.zero_le _, Nat.zero_le _⟩) (fun r9 hr9 => ?_)
                  subst hr9
                  refine lv_if_eq (tgt := 136) hx hb dX_hasParts_129 (by decide) (fun c11 => ?_) (fun c11 => ?_)
                  · have hf := zt c11 hf
                    refine lv_iconst (v := 0) hx hb dX_hasParts_136 (by decide) ?_
                    exact W.zret (v := 0) (ty := .boolean) hx hb hr rfl (fun t ht hW => ⟨_, rfl, hf, ht⟩) (fun _ h9 => nomatch h9) dX_hasParts_137
                  · have hf := zn c11 hf
                    refine lv_iconst (v := 1) hx hb dX_hasParts_132 (by decide) ?_
                    refine lv_goto (tgt := 137) hx hb dX_hasParts_133 (by decide) ?_
                    exact W.zret (v := 1) (ty := .boolean) hx hb hr rfl (fun t ht hW => ⟨_, rfl, hf, ht⟩) (fun _ h9 => nomatch h9) dX_hasParts_137
theorem dXO_add_0 : decode cXO_add 0 = .ok (.aload_n 0, 1) := by decide +kernel
theorem dXO_add_1 : decode cXO_add 1 = .ok (.getfield 21, 3) := by decide +kernel
theorem dXO_add_4 : decode cXO_add 4 = .ok (.sipush 200, 3) := by decide +kernel
theorem dXO_add_7 : decode cXO_add 7 = .ok (.if_icmp .lt 5, 3) := by decide +kernel
theorem dXO_add_10 : decode cXO_add 10 = .ok (.iconst (-1), 1) := by decide +kernel
theorem dXO_add_11 : decode cXO_add 11 = .ok (.ireturn, 1) := by decide +kernel
theorem dXO_add_12 : decode cXO_add 12 = .ok (.aload_n 0, 1) := by decide +kernel
theorem dXO_add_13 : decode cXO_add 13 = .ok (.dup, 1) := by decide +kernel
theorem dXO_add_14 : decode cXO_add 14 = .ok (.getfield 21, 3) := by decide +kernel
theorem dXO_add_17 : decode cXO_add 17 = .ok (.iconst 1, 1) := by decide +kernel
theorem dXO_add_18 : decode cXO_add 18 = .ok (.iadd, 1) := by decide +kernel
theorem dXO_add_19 : decode cXO_add 19 = .ok (.putfield 21, 3) := by decide +kernel
theorem dXO_add_22 : decode cXO_add 22 = .ok (.aload_n 0, 1) := by decide +kernel
theorem dXO_add_23 : decode cXO_add 23 = .ok (.getfield 9, 3) := by decide +kernel
theorem dXO_add_26 : decode cXO_add 26 = .ok (.aload_n 0, 1) := by decide +kernel
theorem dXO_add_27 : decode cXO_add 27 = .ok (.getfield 21, 3) := by decide +kernel
theorem dXO_add_30 : decode cXO_add 30 = .ok (.iload_n 1, 1) := by decide +kernel
theorem dXO_add_31 : decode cXO_add 31 = .ok (.iastore, 1) := by decide +kernel
theorem dXO_add_32 : decode cXO_add 32 = .ok (.aload_n 0, 1) := by decide +kernel
theorem dXO_add_33 : decode cXO_add 33 = .ok (.getfield 15, 3) := by decide +kernel
theorem dXO_add_36 : decode cXO_add 36 = .ok (.aload_n 0, 1) := by decide +kernel
theorem dXO_add_37 : decode cXO_add 37 = .ok (.getfield 21, 3) := by decide +kernel
theorem dXO_add_40 : decode cXO_add 40 = .ok (.iload_n 2, 1) := by decide +kernel
theorem dXO_add_41 : decode cXO_add 41 = .ok (.iastore, 1) := by decide +kernel
theorem dXO_add_42 : decode cXO_add 42 = .ok (.aload_n 0, 1) := by decide +kernel
theorem dXO_add_43 : decode cXO_add 43 = .ok (.getfield 18, 3) := by decide +kernel
theorem dXO_add_46 : decode cXO_add 46 = .ok (.aload_n 0, 1) := by decide +kernel
theorem dXO_add_47 : decode cXO_add 47 = .ok (.getfield 21, 3) := by decide +kernel
theorem dXO_add_50 : decode cXO_add 50 = .ok (.iload_n 3, 1) := by decide +kernel
theorem dXO_add_51 : decode cXO_add 51 = .ok (.iastore, 1) := by decide +kernel
theorem dXO_add_52 : decode cXO_add 52 = .ok (.aload_n 0, 1) := by decide +kernel
theorem dXO_add_53 : decode cXO_add 53 = .ok (.getfield 21, 3) := by decide +kernel
theorem dXO_add_56 : decode cXO_add 56 = .ok (.ireturn, 1) := by decide +kernel
abbrev wsXO_add : List Cond := Cond.code yXO_add cXO_add 4 (some .int) :: zWords
def FXO_add (u : XS) (p0 : Int32) (p1 : Int32) (p2 : Int32) : Int32 × XS := (if (Xg_nodes_made u) < 200 then (zlet (Xs_nodes_made u ((Xg_nodes_made u) + 1)) (fun u2 => (zlet (Xs_nodes_op u2 (upd (Xg_nodes_op u2) ((Xg_nodes_made u2).toNatClampNeg) p0)) (fun u4 => (zlet (Xs_nodes_a u4 (upd (Xg_nodes_a u4) ((Xg_nodes_made u4).toNatClampNeg) p1)) (fun u6 => (zlet (Xs_nodes_b u6 (upd (Xg_nodes_b u6) ((Xg_nodes_made u6).toNatClampNeg) p2)) (fun u8 => ((Xg_nodes_made u8), u8))))))))) else ((-1), u))
def GXO_add (u : XS) (p0 : Int32) (p1 : Int32) (p2 : Int32) : Prop := (if (Xg_nodes_made u) < 200 then (zlet (Xs_nodes_made u ((Xg_nodes_made u) + 1)) (fun u2 => (vp_in (Xg_nodes_made u2) 201 ∧ (zlet (Xs_nodes_op u2 (upd (Xg_nodes_op u2) ((Xg_nodes_made u2).toNatClampNeg) p0)) (fun u4 => (vp_in (Xg_nodes_made u4) 201 ∧ (zlet (Xs_nodes_a u4 (upd (Xg_nodes_a u4) ((Xg_nodes_made u4).toNatClampNeg) p1)) (fun u6 => (vp_in (Xg_nodes_made u6) 201 ∧ (zlet (Xs_nodes_b u6 (upd (Xg_nodes_b u6) ((Xg_nodes_made u6).toNatClampNeg) p2)) (fun u8 => True))))))))))) else True)
set_option maxHeartbeats 4000000 in
set_option maxRecDepth 100000 in
theorem tXO_add (l : Launch) {D : va_G} {k : zK} {a : Nat → Nat} (hI : zI 29 a) (u : XS) (p0 : Int32) (p1 : Int32) (p2 : Int32) (hg : GXO_add u p0 p1 p2) : Met l yXO_add wsXO_add ({ frames := 0, cells := 0, slots := 0, locals := 0 }) (zPc D k (zA 29 a) (wX k a u) [.ref (a 13), .int p0, .int p1, .int p2]) (zQi D (wX k a) (zA 29 a) (FXO_add u p0 p1 p2)) 0 0 (zA 29 a) := by
  refine Met.ofW (cc := cXO_add) (maxL := 4) (ret := (some .int)) (by decide) rfl ?_
  intro p e s m args below meth c s₁ B hml hv
  obtain ⟨rfl, hP, hE⟩ := hv
  have hts := atoms_spec (ws := wsXO_add) B.pre
  have C0 : zC p s m _ meth c cXO_add (some .int) 4 RXO wsXO_add D k (zA 29 a) := ⟨B.exec, B.bytes, B.returns, hml, findClass_of_methodNamed B.named, hts, B.notSynchronized, hE⟩
  obtain ⟨hx, hb, hr, hml, hown, _, hlocks, _⟩ := id C0
  have hK := hE.1
  have hS : va_S (zA 29 a) s.heap s.heap [] := va_S.rf
  generalize hf : FXO_add u p0 p1 p2 = tgt
  change ((if (Xg_nodes_made u) < 200 then (zlet (Xs_nodes_made u ((Xg_nodes_made u) + 1)) (fun u2 => (zlet (Xs_nodes_op u2 (upd (Xg_nodes_op u2) ((Xg_nodes_made u2).toNatClampNeg) p0)) (fun u4 => (zlet (Xs_nodes_a u4 (upd (Xg_nodes_a u4) ((Xg_nodes_made u4).toNatClampNeg) p1)) (fun u6 => (zlet (Xs_nodes_b u6 (upd (Xg_nodes_b u6) ((Xg_nodes_made u6).toNatClampNeg) p2)) (fun u8 => ((Xg_nodes_made u8), u8))))))))) else ((-1), u)) : Int32 × XS) = tgt at hf
  change (if (Xg_nodes_made u) < 200 then (zlet (Xs_nodes_made u ((Xg_nodes_made u) + 1)) (fun u2 => (vp_in (Xg_nodes_made u2) 201 ∧ (zlet (Xs_nodes_op u2 (upd (Xg_nodes_op u2) ((Xg_nodes_made u2).toNatClampNeg) p0)) (fun u4 => (vp_in (Xg_nodes_made u4) 201 ∧ (zlet (Xs_nodes_a u4 (upd (Xg_nodes_a u4) ((Xg_nodes_made u4).toNatClampNeg) p1)) (fun u6 => (vp_in (Xg_nodes_made u6) 201 ∧ (zlet (Xs_nodes_b u6 (upd (Xg_nodes_b u6) ((Xg_nodes_made u6).toNatClampNeg) p2)) (fun u8 => True))))))))))) else True) at hg
  have hl := lv_entry ([.ref (a 13), .int p0, .int p1, .int p2]) (n := 4) (Nat.le_of_ble_eq_true rfl)
  rw [lg_entry_eq]
  generalize (lg_sl ([.ref (a 13), .int p0, .int p1, .int p2]) ++ List.replicate (4 - (lg_sl ([.ref (a 13), .int p0, .int p1, .int p2])).length) Slot.unset).toArray = ls at hl ⊢
  have hl : lv_has ls 4 [(0, .ref (a 13)), (1, .int p0), (2, .int p1), (3, .int p2)] := hl
  refine lv_aload_n hx hb dXO_add_0 rfl (lv_at hl 0 rfl) ?_
  refine va_get (D := D) (ci := 4) (v := .int (Xg_nodes_made u)) (C := RXO) (T := TXO) (N := 4) hx hb hts (fun w h9 => zc (inXO w h9)) hown hK hP 13 rfl rfl 3 (by decide) (hts _ (zc m_100)) (fun _ h9 => h9) rfl dXO_add_1 ?_
  refine lv_sipush (v := 200) hx hb dXO_add_4 (by decide) ?_
  refine lv_icmp_lt (tgt := 12) hx hb dXO_add_7 (by decide) (fun c1 => ?_) (fun c1 => ?_)
  · have hf := zt c1 hf
    have hg := zgt c1 hg
    refine lv_aload_n hx hb dXO_add_12 rfl (lv_at hl 0 rfl) ?_
    refine lv_dup hx hb dXO_add_13 rfl ?_
    refine va_get (D := D) (ci := 4) (v := .int (Xg_nodes_made u)) (C := RXO) (T := TXO) (N := 4) hx hb hts (fun w h9 => zc (inXO w h9)) hown hK hP 13 rfl rfl 3 (by decide) (hts _ (zc m_100)) (fun _ h9 => h9) rfl dXO_add_14 ?_
    refine lv_iconst (v := 1) hx hb dXO_add_17 (by decide) ?_
    refine lv_iadd hx hb dXO_add_18 ?_
    refine va_put (D := D) (ci := 4) (v := .int ((Xg_nodes_made u) + 1)) (ty := .int) (C := RXO) (T := TXO) (N := 4) hx hb hts (fun w h9 => zc (inXO w h9)) tyXO tyXO_ok nmXO hown hK hP (XD hI _) hS 13 rfl rfl 3 (by decide) (hts _ (zc m_100)) (fun _ h9 => h9) rfl (by decide +kernel) rfl rfl (Nat.le_of_ble_eq_true rfl) dXO_add_19 (fun H locs hP _ hS => ?_)
    obtain ⟨u2, hP, hf, hg⟩ := zlets (E := (Xs_nodes_made u ((Xg_nodes_made u) + 1))) (w := wX k a) hP hf hg
    refine lv_aload_n hx hb dXO_add_22 rfl (lv_at hl 0 rfl) ?_
    refine va_get (D := D) (ci := 4) (v := .ref (a 14)) (C := RXO) (T := TXO) (N := 4) hx hb hts (fun w h9 => zc (inXO w h9)) hown hK hP 13 rfl rfl 0 (by decide) (hts _ (zc m_94)) (fun _ h9 => h9) rfl dXO_add_23 ?_
    refine lv_aload_n hx hb dXO_add_26 rfl (lv_at hl 0 rfl) ?_
    refine va_get (D := D) (ci := 4) (v := .int (Xg_nodes_made u2)) (C := RXO) (T := TXO) (N := 4) hx hb hts (fun w h9 => zc (inXO w h9)) hown hK hP 13 rfl rfl 3 (by decide) (hts _ (zc m_100)) (fun _ h9 => h9) rfl dXO_add_27 ?_
    refine lv_iload_n hx hb dXO_add_30 rfl (lv_at hl 1 rfl) ?_
    obtain ⟨h3, hg⟩ := hg
    refine va_iast hx hb hK hP (XD hI _) hS 14 0 rfl rfl h3 dXO_add_31 (fun H locs hP _ hS => ?_)
    obtain ⟨u4, hP, hf, hg⟩ := zlets (E := (Xs_nodes_op u2 (upd (Xg_nodes_op u2) ((Xg_nodes_made u2).toNatClampNeg) p0))) (w := wX k a) hP hf hg
    refine lv_aload_n hx hb dXO_add_32 rfl (lv_at hl 0 rfl) ?_
    refine va_get (D := D) (ci := 4) (v := .ref (a 15)) (C := RXO) (T := TXO) (N := 4) hx hb hts (fun w h9 => zc (inXO w h9)) hown hK hP 13 rfl rfl 1 (by decide) (hts _ (zc m_96)) (fun _ h9 => h9) rfl dXO_add_33 ?_
    refine lv_aload_n hx hb dXO_add_36 rfl (lv_at hl 0 rfl) ?_
    refine va_get (D := D) (ci := 4) (v := .int (Xg_nodes_made u4)) (C := RXO) (T := TXO) (N := 4) hx hb hts (fun w h9 => zc (inXO w h9)) hown hK hP 13 rfl rfl 3 (by decide) (hts _ (zc m_100)) (fun _ h9 => h9) rfl dXO_add_37 ?_
    refine lv_iload_n hx hb dXO_add_40 rfl (lv_at hl 2 rfl) ?_
    obtain ⟨h5, hg⟩ := hg
    refine va_iast hx hb hK hP (XD hI _) hS 15 0 rfl rfl h5 dXO_add_41 (fun H locs hP _ hS => ?_)
    obtain ⟨u6, hP, hf, hg⟩ := zlets (E := (Xs_nodes_a u4 (upd (Xg_nodes_a u4) ((Xg_nodes_made u4).toNatClampNeg) p1))) (w := wX k a) hP hf hg
    refine lv_aload_n hx hb dXO_add_42 rfl (lv_at hl 0 rfl) ?_
    refine va_get (D := D) (ci := 4) (v := .ref (a 16)) (C := RXO) (T := TXO) (N := 4) hx hb hts (fun w h9 => zc (inXO w h9)) hown hK hP 13 rfl rfl 2 (by decide) (hts _ (zc m_98)) (fun _ h9 => h9) rfl dXO_add_43 ?_
    refine lv_aload_n hx hb dXO_add_46 rfl (lv_at hl 0 rfl) ?_
    refine va_get (D := D) (ci := 4) (v := .int (Xg_nodes_made u6)) (C := RXO) (T := TXO) (N := 4) hx hb hts (fun w h9 => zc (inXO w h9)) hown hK hP 13 rfl rfl 3 (by decide) (hts _ (zc m_100)) (fun _ h9 => h9) rfl dXO_add_47 ?_
    refine lv_iload_n hx hb dXO_add_50 rfl (lv_at hl 3 rfl) ?_
    obtain ⟨h7, hg⟩ := hg
    refine va_iast hx hb hK hP (XD hI _) hS 16 0 rfl rfl h7 dXO_add_51 (fun H locs hP _ hS => ?_)
    obtain ⟨u8, hP, hf, hg⟩ := zlets (E := (Xs_nodes_b u6 (upd (Xg_nodes_b u6) ((Xg_nodes_made u6).toNatClampNeg) p2))) (w := wX k a) hP hf hg
    refine lv_aload_n hx hb dXO_add_52 rfl (lv_at hl 0 rfl) ?_
    refine va_get (D := D) (ci := 4) (v := .int (Xg_nodes_made u8)) (C := RXO) (T := TXO) (N := 4) hx hb hts (fun w h9 => zc (inXO w h9)) hown hK hP 13 rfl rfl 3 (by decide) (hts _ (zc m_100)) (fun _ h9 => h9) rfl dXO_add_53 ?_
    exact W.iret (v := (Xg_nodes_made u8)) hx hb hr (fun t ht hW => by subst hf; exact ⟨rfl, by rw [ht]; exact hP, hS.F ht⟩) hS.2.2 dXO_add_56
  · have hf := zn c1 hf
    have hg := zgn c1 hg
    refine lv_iconst (v := (-1)) hx hb dXO_add_10 (by decide) ?_
    exact W.iret (v := (-1)) hx hb hr (fun t ht hW => by subst hf; exact ⟨rfl, by rw [ht]; exact hP, hS.F ht⟩) hS.2.2 dXO_add_11
theorem dX_node_0 : decode cX_node 0 = .ok (.iload_n 1, 1) := by decide +kernel
theorem dX_node_1 : decode cX_node 1 = .ok (.iload_n 2, 1) := by decide +kernel
theorem dX_node_2 : decode cX_node 2 = .ok (.iload_n 3, 1) := by decide +kernel
theorem dX_node_3 : decode cX_node 3 = .ok (.invokestatic 96, 3) := by decide +kernel
theorem dX_node_6 : decode cX_node 6 = .ok (.ifCond .ne 6, 3) := by decide +kernel
theorem dX_node_9 : decode cX_node 9 = .ok (.bipush (-4), 2) := by decide +kernel
theorem dX_node_11 : decode cX_node 11 = .ok (.ireturn, 1) := by decide +kernel
theorem dX_node_12 : decode cX_node 12 = .ok (.aload_n 0, 1) := by decide +kernel
theorem dX_node_13 : decode cX_node 13 = .ok (.iload_n 1, 1) := by decide +kernel
theorem dX_node_14 : decode cX_node 14 = .ok (.iload_n 2, 1) := by decide +kernel
theorem dX_node_15 : decode cX_node 15 = .ok (.iload_n 3, 1) := by decide +kernel
theorem dX_node_16 : decode cX_node 16 = .ok (.invokevirtual 100, 3) := by decide +kernel
theorem dX_node_19 : decode cX_node 19 = .ok (.ifCond .ne 6, 3) := by decide +kernel
theorem dX_node_22 : decode cX_node 22 = .ok (.bipush (-2), 2) := by decide +kernel
theorem dX_node_24 : decode cX_node 24 = .ok (.ireturn, 1) := by decide +kernel
theorem dX_node_25 : decode cX_node 25 = .ok (.aload_n 0, 1) := by decide +kernel
theorem dX_node_26 : decode cX_node 26 = .ok (.getfield 33, 3) := by decide +kernel
theorem dX_node_29 : decode cX_node 29 = .ok (.iload_n 1, 1) := by decide +kernel
theorem dX_node_30 : decode cX_node 30 = .ok (.iload_n 2, 1) := by decide +kernel
theorem dX_node_31 : decode cX_node 31 = .ok (.iload_n 3, 1) := by decide +kernel
theorem dX_node_32 : decode cX_node 32 = .ok (.invokevirtual 103, 3) := by decide +kernel
theorem dX_node_35 : decode cX_node 35 = .ok (.ireturn, 1) := by decide +kernel
abbrev wsX_node : List Cond := Cond.code yX_node cX_node 4 (some .int) :: zWords
def FX_node (u : XS) (p0 : Int32) (p1 : Int32) (p2 : Int32) : Int32 × XS := (if (FX_isInside u p0 p1 p2) = 0 then ((-4), u) else (if (FX_hasParts u p0 p1 p2) = 0 then ((-2), u) else (zlet (FXO_add u p0 p1 p2) (fun u6 => (u6.1, u6.2)))))
def GX_node (u : XS) (p0 : Int32) (p1 : Int32) (p2 : Int32) : Prop := (GX_isInside u p0 p1 p2 ∧ (if (FX_isInside u p0 p1 p2) = 0 then True else (GX_hasParts u p0 p1 p2 ∧ (if (FX_hasParts u p0 p1 p2) = 0 then True else (GXO_add u p0 p1 p2 ∧ (zlet (FXO_add u p0 p1 p2) (fun u6 => True)))))))
set_option maxHeartbeats 4000000 in
set_option maxRecDepth 100000 in
theorem tX_node (l : Launch) {D : va_G} {k : zK} {a : Nat → Nat} (hI : zI 29 a) (u : XS) (p0 : Int32) (p1 : Int32) (p2 : Int32) (hg : GX_node u p0 p1 p2) : Met l yX_node wsX_node ({ frames := 3, cells := 0, slots := 0, locals := 65 }) (zPc D k (zA 29 a) (wX k a u) [.ref (a 0), .int p0, .int p1, .int p2]) (zQi D (wX k a) (zA 29 a) (FX_node u p0 p1 p2)) 0 0 (zA 29 a) := by
  refine Met.ofW (cc := cX_node) (maxL := 4) (ret := (some .int)) (by decide) rfl ?_
  intro p e s m args below meth c s₁ B hml hv
  obtain ⟨rfl, hP, hE⟩ := hv
  have hts := atoms_spec (ws := wsX_node) B.pre
  have C0 : zC p s m _ meth c cX_node (some .int) 4 RX wsX_node D k (zA 29 a) := ⟨B.exec, B.bytes, B.returns, hml, findClass_of_methodNamed B.named, hts, B.notSynchronized, hE⟩
  obtain ⟨hx, hb, hr, hml, hown, _, hlocks, _⟩ := id C0
  have hK := hE.1
  have hS : va_S (zA 29 a) s.heap s.heap [] := va_S.rf
  generalize hf : FX_node u p0 p1 p2 = tgt
  change ((if (FX_isInside u p0 p1 p2) = 0 then ((-4), u) else (if (FX_hasParts u p0 p1 p2) = 0 then ((-2), u) else (zlet (FXO_add u p0 p1 p2) (fun u6 => (u6.1, u6.2))))) : Int32 × XS) = tgt at hf
  change (GX_isInside u p0 p1 p2 ∧ (if (FX_isInside u p0 p1 p2) = 0 then True else (GX_hasParts u p0 p1 p2 ∧ (if (FX_hasParts u p0 p1 p2) = 0 then True else (GXO_add u p0 p1 p2 ∧ (zlet (FXO_add u p0 p1 p2) (fun u6 => True))))))) at hg
  have hl := lv_entry ([.ref (a 0), .int p0, .int p1, .int p2]) (n := 4) (Nat.le_of_ble_eq_true rfl)
  rw [lg_entry_eq]
  generalize (lg_sl ([.ref (a 0), .int p0, .int p1, .int p2]) ++ List.replicate (4 - (lg_sl ([.ref (a 0), .int p0, .int p1, .int p2])).length) Slot.unset).toArray = ls at hl ⊢
  have hl : lv_has ls 4 [(0, .ref (a 0)), (1, .int p0), (2, .int p1), (3, .int p2)] := hl
  refine lv_iload_n hx hb dX_node_0 rfl (lv_at hl 1 rfl) ?_
  refine lv_iload_n hx hb dX_node_1 rfl (lv_at hl 2 rfl) ?_
  refine lv_iload_n hx hb dX_node_2 rfl (lv_at hl 3 rfl) ?_
  obtain ⟨h1, hg⟩ := hg
  refine vp_callSi (W.runS (As := [.int p0, .int p1, .int p2]) (rest := []) ⟨hx, hb, hml, hown, hts⟩ (tX_isInside l hI u p0 p1 p2 h1) (va_cwS 3 hts (zgS m_251 m_252 m_1 m_253) rfl rfl rfl (by decide +kernel) ⟨Nat.le_of_ble_eq_true rfl, Nat.le_of_ble_eq_true rfl⟩) (zpreS hP hE hS.2.1) rfl rfl hl.1 rfl (lv_room (Nat.le_of_ble_eq_true rfl)) dX_node_3 ⟨Nat.zero_le _, Nat.zero_le _⟩) (fun r9 hr9 => ?_)
  subst hr9
  refine lv_if_ne (tgt := 12) hx hb dX_node_6 (by decide) (fun c2 => ?_) (fun c2 => ?_)
  · have hf := zn c2 hf
    have hg := zgn c2 hg
    refine lv_aload_n hx hb dX_node_12 rfl (lv_at hl 0 rfl) ?_
    refine lv_iload_n hx hb dX_node_13 rfl (lv_at hl 1 rfl) ?_
    refine lv_iload_n hx hb dX_node_14 rfl (lv_at hl 2 rfl) ?_
    refine lv_iload_n hx hb dX_node_15 rfl (lv_at hl 3 rfl) ?_
    obtain ⟨h3, hg⟩ := hg
    refine vp_callSi (W.runV (As := [.int p0, .int p1, .int p2]) (rest := []) ⟨hx, hb, hml, hown, hts⟩ (tX_hasParts l hI u p0 p1 p2 h3) (cwV 3 hts (zgV m_257 m_259 mp_0 m_1 m_260) rfl rfl rfl (by decide +kernel) ⟨Nat.le_of_ble_eq_true rfl, Nat.le_of_ble_eq_true rfl⟩) (zpre hP hE hS.2.1 (va_recv hK hP (ci := 0) (q0 := 0) rfl rfl)) rfl rfl hl.1 rfl (lv_room (Nat.le_of_ble_eq_true rfl)) dX_node_16 ⟨Nat.zero_le _, Nat.zero_le _⟩) (fun r9 hr9 => ?_)
    subst hr9
    refine lv_if_ne (tgt := 25) hx hb dX_node_19 (by decide) (fun c4 => ?_) (fun c4 => ?_)
    · have hf := zn c4 hf
      have hg := zgn c4 hg
      refine lv_aload_n hx hb dX_node_25 rfl (lv_at hl 0 rfl) ?_
      refine va_get (D := D) (ci := 0) (v := .ref (a 13)) (C := RX) (T := TX) (N := 10) hx hb hts (fun w h9 => zc (inX w h9)) hown hK hP 0 rfl rfl 4 (by decide) (hts _ (zc m_178)) (fun _ h9 => h9) rfl dX_node_26 ?_
      refine lv_iload_n hx hb dX_node_29 rfl (lv_at hl 1 rfl) ?_
      refine lv_iload_n hx hb dX_node_30 rfl (lv_at hl 2 rfl) ?_
      refine lv_iload_n hx hb dX_node_31 rfl (lv_at hl 3 rfl) ?_
      obtain ⟨h5, hg⟩ := hg
      refine zmui (W.runV (As := [.int p0, .int p1, .int p2]) (rest := []) ⟨hx, hb, hml, hown, hts⟩ (tXO_add l hI u p0 p1 p2 h5) (cwV 3 hts (zgV m_269 m_270 m_271 m_5 m_272) rfl rfl rfl (by decide +kernel) ⟨Nat.le_of_ble_eq_true rfl, Nat.le_of_ble_eq_true rfl⟩) (zpre hP hE hS.2.1 (va_recv hK hP (ci := 4) (q0 := 13) rfl rfl)) rfl rfl hl.1 rfl (lv_room (Nat.le_of_ble_eq_true rfl)) dX_node_32 ⟨Nat.zero_le _, Nat.zero_le _⟩) hS hf hg (fun u6 H locs hf hg hP hS => ?_)
      exact W.iret (v := u6.1) hx hb hr (fun t ht hW => by subst hf; exact ⟨rfl, by rw [ht]; exact hP, hS.F ht⟩) hS.2.2 dX_node_35
    · have hf := zt c4 hf
      have hg := zgt c4 hg
      refine lv_bipush (v := (-2)) hx hb dX_node_22 (by decide) ?_
      exact W.iret (v := (-2)) hx hb hr (fun t ht hW => by subst hf; exact ⟨rfl, by rw [ht]; exact hP, hS.F ht⟩) hS.2.2 dX_node_24
  · have hf := zt c2 hf
    have hg := zgt c2 hg
    refine lv_bipush (v := (-4)) hx hb dX_node_9 (by decide) ?_
    exact W.iret (v := (-4)) hx hb hr (fun t ht hW => by subst hf; exact ⟨rfl, by rw [ht]; exact hP, hS.F ht⟩) hS.2.2 dX_node_11
theorem dX_isBelowUnsigned_0 : decode cX_isBelowUnsigned 0 = .ok (.lload_n 0, 1) := by decide +kernel
theorem dX_isBelowUnsigned_1 : decode cX_isBelowUnsigned 1 = .ok (.ldc2_w 200, 3) := by decide +kernel
theorem dX_isBelowUnsigned_4 : decode cX_isBelowUnsigned 4 = .ok (.lxor, 1) := by decide +kernel
theorem dX_isBelowUnsigned_5 : decode cX_isBelowUnsigned 5 = .ok (.lload_n 2, 1) := by decide +kernel
theorem dX_isBelowUnsigned_6 : decode cX_isBelowUnsigned 6 = .ok (.ldc2_w 200, 3) := by decide +kernel
theorem dX_isBelowUnsigned_9 : decode cX_isBelowUnsigned 9 = .ok (.lxor, 1) := by decide +kernel
theorem dX_isBelowUnsigned_10 : decode cX_isBelowUnsigned 10 = .ok (.lcmp, 1) := by decide +kernel
theorem dX_isBelowUnsigned_11 : decode cX_isBelowUnsigned 11 = .ok (.ifCond .ge 7, 3) := by decide +kernel
theorem dX_isBelowUnsigned_14 : decode cX_isBelowUnsigned 14 = .ok (.iconst 1, 1) := by decide +kernel
theorem dX_isBelowUnsigned_15 : decode cX_isBelowUnsigned 15 = .ok (.goto 4, 3) := by decide +kernel
theorem dX_isBelowUnsigned_18 : decode cX_isBelowUnsigned 18 = .ok (.iconst 0, 1) := by decide +kernel
theorem dX_isBelowUnsigned_19 : decode cX_isBelowUnsigned 19 = .ok (.ireturn, 1) := by decide +kernel
abbrev wsX_isBelowUnsigned : List Cond := Cond.code yX_isBelowUnsigned cX_isBelowUnsigned 4 (some .boolean) :: zWords
def FX_isBelowUnsigned (u : XS) (p0 : Int64) (p1 : Int64) : Int32 := (if (0 : Int32) ≤ (lg_cmp (p0 ^^^ (-9223372036854775808)) (p1 ^^^ (-9223372036854775808))) then 0 else 1)
theorem bFX_isBelowUnsigned (u : XS) (p0 : Int64) (p1 : Int64) : FX_isBelowUnsigned u p0 p1 = 0 ∨ FX_isBelowUnsigned u p0 p1 = 1 := by
  unfold FX_isBelowUnsigned
  repeat' split
  all_goals first | exact Or.inl rfl | exact Or.inr rfl
set_option maxHeartbeats 4000000 in
set_option maxRecDepth 100000 in
theorem tX_isBelowUnsigned (l : Launch) {D : va_G} {k : zK} {a : Nat → Nat} (hI : zI 29 a) (u : XS) (p0 : Int64) (p1 : Int64) : Met l yX_isBelowUnsigned wsX_isBelowUnsigned ({ frames := 0, cells := 0, slots := 0, locals := 0 }) (zPc D k (zA 29 a) (wX k a u) [.long p0, .long p1]) (vp_Si (fun r9 => r9 = (FX_isBelowUnsigned u p0 p1))) 0 0 (fun _ => False) := by
  refine Met.ofW (cc := cX_isBelowUnsigned) (maxL := 4) (ret := (some .boolean)) (by decide) rfl ?_
  intro p e s m args below meth c s₁ B hml hv
  obtain ⟨rfl, hP, hE⟩ := hv
  have hts := atoms_spec (ws := wsX_isBelowUnsigned) B.pre
  have C0 : zC p s m _ meth c cX_isBelowUnsigned (some .boolean) 4 RX wsX_isBelowUnsigned D k (zA 29 a) := ⟨B.exec, B.bytes, B.returns, hml, findClass_of_methodNamed B.named, hts, B.notSynchronized, hE⟩
  obtain ⟨hx, hb, hr, hml, hown, _, hlocks, _⟩ := id C0
  have hK := hE.1
  have hS : va_S (zA 29 a) s.heap s.heap [] := va_S.rf
  generalize hf : FX_isBelowUnsigned u p0 p1 = tgt
  change ((if (0 : Int32) ≤ (lg_cmp (p0 ^^^ (-9223372036854775808)) (p1 ^^^ (-9223372036854775808))) then 0 else 1) : Int32) = tgt at hf
  have hl := lv_entry ([.long p0, .long p1]) (n := 4) (Nat.le_of_ble_eq_true rfl)
  rw [lg_entry_eq]
  generalize (lg_sl ([.long p0, .long p1]) ++ List.replicate (4 - (lg_sl ([.long p0, .long p1])).length) Slot.unset).toArray = ls at hl ⊢
  have hl : lv_has ls 4 [(0, .long p0), (2, .long p1)] := hl
  refine lv_lload_n hx hb dX_isBelowUnsigned_0 rfl (lv_at hl 0 rfl) ?_
  refine lv_ldc2 (v := (-9223372036854775808)) hx hb hown (hts _ (zc m_285)) dX_isBelowUnsigned_1 ?_
  refine lv_lxor hx hb dX_isBelowUnsigned_4 ?_
  refine lv_lload_n hx hb dX_isBelowUnsigned_5 rfl (lv_at hl 1 rfl) ?_
  refine lv_ldc2 (v := (-9223372036854775808)) hx hb hown (hts _ (zc m_285)) dX_isBelowUnsigned_6 ?_
  refine lv_lxor hx hb dX_isBelowUnsigned_9 ?_
  refine W.lcmp hx hb dX_isBelowUnsigned_10 ?_
  refine lv_if_ge (tgt := 18) hx hb dX_isBelowUnsigned_11 (by decide) (fun c1 => ?_) (fun c1 => ?_)
  · have hf := zt c1 hf
    refine lv_iconst (v := 0) hx hb dX_isBelowUnsigned_18 (by decide) ?_
    exact W.zret (v := 0) (ty := .boolean) hx hb hr rfl (fun t ht hW => ⟨_, rfl, hf, ht⟩) (fun _ h9 => nomatch h9) dX_isBelowUnsigned_19
  · have hf := zn c1 hf
    refine lv_iconst (v := 1) hx hb dX_isBelowUnsigned_14 (by decide) ?_
    refine lv_goto (tgt := 19) hx hb dX_isBelowUnsigned_15 (by decide) ?_
    exact W.zret (v := 1) (ty := .boolean) hx hb hr rfl (fun t ht hW => ⟨_, rfl, hf, ht⟩) (fun _ h9 => nomatch h9) dX_isBelowUnsigned_19
theorem dX_isAbove_0 : decode cX_isAbove 0 = .ok (.aload_n 0, 1) := by decide +kernel
theorem dX_isAbove_1 : decode cX_isAbove 1 = .ok (.getfield 10, 3) := by decide +kernel
theorem dX_isAbove_4 : decode cX_isAbove 4 = .ok (.iload_n 1, 1) := by decide +kernel
theorem dX_isAbove_5 : decode cX_isAbove 5 = .ok (.invokevirtual 191, 3) := by decide +kernel
theorem dX_isAbove_8 : decode cX_isAbove 8 = .ok (.ifCond .eq 12, 3) := by decide +kernel
theorem dX_isAbove_11 : decode cX_isAbove 11 = .ok (.lload 4, 2) := by decide +kernel
theorem dX_isAbove_13 : decode cX_isAbove 13 = .ok (.lload_n 2, 1) := by decide +kernel
theorem dX_isAbove_14 : decode cX_isAbove 14 = .ok (.invokestatic 194, 3) := by decide +kernel
theorem dX_isAbove_17 : decode cX_isAbove 17 = .ok (.goto 15, 3) := by decide +kernel
theorem dX_isAbove_20 : decode cX_isAbove 20 = .ok (.lload_n 2, 1) := by decide +kernel
theorem dX_isAbove_21 : decode cX_isAbove 21 = .ok (.lload 4, 2) := by decide +kernel
theorem dX_isAbove_23 : decode cX_isAbove 23 = .ok (.lcmp, 1) := by decide +kernel
theorem dX_isAbove_24 : decode cX_isAbove 24 = .ok (.ifCond .le 7, 3) := by decide +kernel
theorem dX_isAbove_27 : decode cX_isAbove 27 = .ok (.iconst 1, 1) := by decide +kernel
theorem dX_isAbove_28 : decode cX_isAbove 28 = .ok (.goto 4, 3) := by decide +kernel
theorem dX_isAbove_31 : decode cX_isAbove 31 = .ok (.iconst 0, 1) := by decide +kernel
theorem dX_isAbove_32 : decode cX_isAbove 32 = .ok (.ireturn, 1) := by decide +kernel
abbrev wsX_isAbove : List Cond := Cond.code yX_isAbove cX_isAbove 6 (some .boolean) :: zWords
def FX_isAbove (u : XS) (p0 : Int32) (p1 : Int64) (p2 : Int64) : Int32 := (if (FXF_isText u p0) = 0 then (if (lg_cmp p1 p2) ≤ 0 then 0 else 1) else (FX_isBelowUnsigned u p2 p1))
def GX_isAbove (u : XS) (p0 : Int32) (p1 : Int64) (p2 : Int64) : Prop := (GXF_isText u p0 ∧ True)
set_option maxHeartbeats 4000000 in
set_option maxRecDepth 100000 in
theorem tX_isAbove (l : Launch) {D : va_G} {k : zK} {a : Nat → Nat} (hI : zI 29 a) (u : XS) (p0 : Int32) (p1 : Int64) (p2 : Int64) (hg : GX_isAbove u p0 p1 p2) : Met l yX_isAbove wsX_isAbove ({ frames := 1, cells := 0, slots := 0, locals := 23 }) (zPc D k (zA 29 a) (wX k a u) [.ref (a 0), .int p0, .long p1, .long p2]) (vp_Si (fun r9 => r9 = (FX_isAbove u p0 p1 p2))) 0 0 (fun _ => False) := by
  refine Met.ofW (cc := cX_isAbove) (maxL := 6) (ret := (some .boolean)) (by decide) rfl ?_
  intro p e s m args below meth c s₁ B hml hv
  obtain ⟨rfl, hP, hE⟩ := hv
  have hts := atoms_spec (ws := wsX_isAbove) B.pre
  have C0 : zC p s m _ meth c cX_isAbove (some .boolean) 6 RX wsX_isAbove D k (zA 29 a) := ⟨B.exec, B.bytes, B.returns, hml, findClass_of_methodNamed B.named, hts, B.notSynchronized, hE⟩
  obtain ⟨hx, hb, hr, hml, hown, _, hlocks, _⟩ := id C0
  have hK := hE.1
  have hS : va_S (zA 29 a) s.heap s.heap [] := va_S.rf
  generalize hf : FX_isAbove u p0 p1 p2 = tgt
  change ((if (FXF_isText u p0) = 0 then (if (lg_cmp p1 p2) ≤ 0 then 0 else 1) else (FX_isBelowUnsigned u p2 p1)) : Int32) = tgt at hf
  change (GXF_isText u p0 ∧ True) at hg
  have hl := lv_entry ([.ref (a 0), .int p0, .long p1, .long p2]) (n := 6) (Nat.le_of_ble_eq_true rfl)
  rw [lg_entry_eq]
  generalize (lg_sl ([.ref (a 0), .int p0, .long p1, .long p2]) ++ List.replicate (6 - (lg_sl ([.ref (a 0), .int p0, .long p1, .long p2])).length) Slot.unset).toArray = ls at hl ⊢
  have hl : lv_has ls 6 [(0, .ref (a 0)), (1, .int p0), (2, .long p1), (4, .long p2)] := hl
  refine lv_aload_n hx hb dX_isAbove_0 rfl (lv_at hl 0 rfl) ?_
  refine va_get (D := D) (ci := 0) (v := .ref (a 1)) (C := RX) (T := TX) (N := 10) hx hb hts (fun w h9 => zc (inX w h9)) hown hK hP 0 rfl rfl 1 (by decide) (hts _ (zc m_175)) (fun _ h9 => h9) rfl dX_isAbove_1 ?_
  refine lv_iload_n hx hb dX_isAbove_4 rfl (lv_at hl 1 rfl) ?_
  obtain ⟨h1, hg⟩ := hg
  refine vp_callSi (W.runV (As := [.int p0]) (rest := []) ⟨hx, hb, hml, hown, hts⟩ (tXF_isText l hI u p0 h1) (cwV 1 hts (zgV m_281 m_237 m_238 m_2 m_239) rfl rfl rfl (by decide +kernel) ⟨Nat.le_of_ble_eq_true rfl, Nat.le_of_ble_eq_true rfl⟩) (zpre hP hE hS.2.1 (va_recv hK hP (ci := 1) (q0 := 1) rfl rfl)) rfl rfl hl.1 rfl (lv_room (Nat.le_of_ble_eq_true rfl)) dX_isAbove_5 ⟨Nat.zero_le _, Nat.zero_le _⟩) (fun r9 hr9 => ?_)
  subst hr9
  refine lv_if_eq (tgt := 20) hx hb dX_isAbove_8 (by decide) (fun c2 => ?_) (fun c2 => ?_)
  · have hf := zt c2 hf
    refine lv_lload_n hx hb dX_isAbove_20 rfl (lv_at hl 2 rfl) ?_
    refine lv_lload hx hb dX_isAbove_21 (lv_at hl 3 rfl) ?_
    refine W.lcmp hx hb dX_isAbove_23 ?_
    refine lv_if_le (tgt := 31) hx hb dX_isAbove_24 (by decide) (fun c3 => ?_) (fun c3 => ?_)
    · have hf := zt c3 hf
      refine lv_iconst (v := 0) hx hb dX_isAbove_31 (by decide) ?_
      exact W.zret (v := 0) (ty := .boolean) hx hb hr rfl (fun t ht hW => ⟨_, rfl, hf, ht⟩) (fun _ h9 => nomatch h9) dX_isAbove_32
    · have hf := zn c3 hf
      refine lv_iconst (v := 1) hx hb dX_isAbove_27 (by decide) ?_
      refine lv_goto (tgt := 32) hx hb dX_isAbove_28 (by decide) ?_
      exact W.zret (v := 1) (ty := .boolean) hx hb hr rfl (fun t ht hW => ⟨_, rfl, hf, ht⟩) (fun _ h9 => nomatch h9) dX_isAbove_32
  · have hf := zn c2 hf
    refine lv_lload hx hb dX_isAbove_11 (lv_at hl 3 rfl) ?_
    refine lv_lload_n hx hb dX_isAbove_13 rfl (lv_at hl 2 rfl) ?_
    refine vp_callSi (W.runS (As := [.long p2, .long p1]) (rest := []) ⟨hx, hb, hml, hown, hts⟩ (tX_isBelowUnsigned l hI u p2 p1) (va_cwS 2 hts (zgS m_282 m_283 m_1 m_284) rfl rfl rfl (by decide +kernel) ⟨Nat.le_of_ble_eq_true rfl, Nat.le_of_ble_eq_true rfl⟩) (zpreS hP hE hS.2.1) rfl rfl hl.1 rfl (lv_room (Nat.le_of_ble_eq_true rfl)) dX_isAbove_14 ⟨Nat.zero_le _, Nat.zero_le _⟩) (fun r9 hr9 => ?_)
    subst hr9
    refine lv_goto (tgt := 32) hx hb dX_isAbove_17 (by decide) ?_
    exact W.zret (v := (FX_isBelowUnsigned u p2 p1)) (ty := .boolean) hx hb hr (zb (bFX_isBelowUnsigned _ _ _)) (fun t ht hW => ⟨_, rfl, hf, ht⟩) (fun _ h9 => nomatch h9) dX_isAbove_32
theorem dXN_widen_0 : decode cXN_widen 0 = .ok (.aload_n 0, 1) := by decide +kernel
theorem dXN_widen_1 : decode cXN_widen 1 = .ok (.getfield 15, 3) := by decide +kernel
theorem dXN_widen_4 : decode cXN_widen 4 = .ok (.iload_n 1, 1) := by decide +kernel
theorem dXN_widen_5 : decode cXN_widen 5 = .ok (.iaload, 1) := by decide +kernel
theorem dXN_widen_6 : decode cXN_widen 6 = .ok (.bipush 8, 2) := by decide +kernel
theorem dXN_widen_8 : decode cXN_widen 8 = .ok (.if_icmp .lt 5, 3) := by decide +kernel
theorem dXN_widen_11 : decode cXN_widen 11 = .ok (.iconst (-1), 1) := by decide +kernel
theorem dXN_widen_12 : decode cXN_widen 12 = .ok (.ireturn, 1) := by decide +kernel
theorem dXN_widen_13 : decode cXN_widen 13 = .ok (.iload_n 1, 1) := by decide +kernel
theorem dXN_widen_14 : decode cXN_widen 14 = .ok (.bipush 8, 2) := by decide +kernel
theorem dXN_widen_16 : decode cXN_widen 16 = .ok (.imul, 1) := by decide +kernel
theorem dXN_widen_17 : decode cXN_widen 17 = .ok (.aload_n 0, 1) := by decide +kernel
theorem dXN_widen_18 : decode cXN_widen 18 = .ok (.getfield 15, 3) := by decide +kernel
theorem dXN_widen_21 : decode cXN_widen 21 = .ok (.iload_n 1, 1) := by decide +kernel
theorem dXN_widen_22 : decode cXN_widen 22 = .ok (.iaload, 1) := by decide +kernel
theorem dXN_widen_23 : decode cXN_widen 23 = .ok (.iadd, 1) := by decide +kernel
theorem dXN_widen_24 : decode cXN_widen 24 = .ok (.istore 6, 2) := by decide +kernel
theorem dXN_widen_26 : decode cXN_widen 26 = .ok (.aload_n 0, 1) := by decide +kernel
theorem dXN_widen_27 : decode cXN_widen 27 = .ok (.getfield 18, 3) := by decide +kernel
theorem dXN_widen_30 : decode cXN_widen 30 = .ok (.iload 6, 2) := by decide +kernel
theorem dXN_widen_32 : decode cXN_widen 32 = .ok (.lload_n 2, 1) := by decide +kernel
theorem dXN_widen_33 : decode cXN_widen 33 = .ok (.lastore, 1) := by decide +kernel
theorem dXN_widen_34 : decode cXN_widen 34 = .ok (.aload_n 0, 1) := by decide +kernel
theorem dXN_widen_35 : decode cXN_widen 35 = .ok (.getfield 22, 3) := by decide +kernel
theorem dXN_widen_38 : decode cXN_widen 38 = .ok (.iload 6, 2) := by decide +kernel
theorem dXN_widen_40 : decode cXN_widen 40 = .ok (.lload 4, 2) := by decide +kernel
theorem dXN_widen_42 : decode cXN_widen 42 = .ok (.lastore, 1) := by decide +kernel
theorem dXN_widen_43 : decode cXN_widen 43 = .ok (.aload_n 0, 1) := by decide +kernel
theorem dXN_widen_44 : decode cXN_widen 44 = .ok (.getfield 15, 3) := by decide +kernel
theorem dXN_widen_47 : decode cXN_widen 47 = .ok (.iload_n 1, 1) := by decide +kernel
theorem dXN_widen_48 : decode cXN_widen 48 = .ok (.dup2, 1) := by decide +kernel
theorem dXN_widen_49 : decode cXN_widen 49 = .ok (.iaload, 1) := by decide +kernel
theorem dXN_widen_50 : decode cXN_widen 50 = .ok (.iconst 1, 1) := by decide +kernel
theorem dXN_widen_51 : decode cXN_widen 51 = .ok (.iadd, 1) := by decide +kernel
theorem dXN_widen_52 : decode cXN_widen 52 = .ok (.iastore, 1) := by decide +kernel
theorem dXN_widen_53 : decode cXN_widen 53 = .ok (.aload_n 0, 1) := by decide +kernel
theorem dXN_widen_54 : decode cXN_widen 54 = .ok (.getfield 15, 3) := by decide +kernel
theorem dXN_widen_57 : decode cXN_widen 57 = .ok (.iload_n 1, 1) := by decide +kernel
theorem dXN_widen_58 : decode cXN_widen 58 = .ok (.iaload, 1) := by decide +kernel
theorem dXN_widen_59 : decode cXN_widen 59 = .ok (.ireturn, 1) := by decide +kernel
abbrev wsXN_widen : List Cond := Cond.code yXN_widen cXN_widen 7 (some .int) :: zWords
def FXN_widen (u : XS) (p0 : Int32) (p1 : Int64) (p2 : Int64) : Int32 × XS := (if ((Xg_names_ranges u) p0.toNatClampNeg) < 8 then (zlet (Xs_names_low u (vp_updL (Xg_names_low u) (((p0 * 8) + ((Xg_names_ranges u) p0.toNatClampNeg)).toNatClampNeg) p1)) (fun u5 => (zlet (Xs_names_high u5 (vp_updL (Xg_names_high u5) (((p0 * 8) + ((Xg_names_ranges u) p0.toNatClampNeg)).toNatClampNeg) p2)) (fun u7 => (zlet (Xs_names_ranges u7 (upd (Xg_names_ranges u7) (p0.toNatClampNeg) (((Xg_names_ranges u7) p0.toNatClampNeg) + 1))) (fun u10 => (((Xg_names_ranges u10) p0.toNatClampNeg), u10))))))) else ((-1), u))
def GXN_widen (u : XS) (p0 : Int32) (p1 : Int64) (p2 : Int64) : Prop := (vp_in p0 41 ∧ (if ((Xg_names_ranges u) p0.toNatClampNeg) < 8 then (vp_in p0 41 ∧ (vp_in ((p0 * 8) + ((Xg_names_ranges u) p0.toNatClampNeg)) 328 ∧ (zlet (Xs_names_low u (vp_updL (Xg_names_low u) (((p0 * 8) + ((Xg_names_ranges u) p0.toNatClampNeg)).toNatClampNeg) p1)) (fun u5 => (vp_in ((p0 * 8) + ((Xg_names_ranges u) p0.toNatClampNeg)) 328 ∧ (zlet (Xs_names_high u5 (vp_updL (Xg_names_high u5) (((p0 * 8) + ((Xg_names_ranges u) p0.toNatClampNeg)).toNatClampNeg) p2)) (fun u7 => (vp_in p0 41 ∧ (vp_in p0 41 ∧ (zlet (Xs_names_ranges u7 (upd (Xg_names_ranges u7) (p0.toNatClampNeg) (((Xg_names_ranges u7) p0.toNatClampNeg) + 1))) (fun u10 => (vp_in p0 41 ∧ True)))))))))))) else True))
set_option maxHeartbeats 4000000 in
set_option maxRecDepth 100000 in
theorem tXN_widen (l : Launch) {D : va_G} {k : zK} {a : Nat → Nat} (hI : zI 29 a) (u : XS) (p0 : Int32) (p1 : Int64) (p2 : Int64) (hg : GXN_widen u p0 p1 p2) : Met l yXN_widen wsXN_widen ({ frames := 0, cells := 0, slots := 0, locals := 0 }) (zPc D k (zA 29 a) (wX k a u) [.ref (a 8), .int p0, .long p1, .long p2]) (zQi D (wX k a) (zA 29 a) (FXN_widen u p0 p1 p2)) 0 0 (zA 29 a) := by
  refine Met.ofW (cc := cXN_widen) (maxL := 7) (ret := (some .int)) (by decide) rfl ?_
  intro p e s m args below meth c s₁ B hml hv
  obtain ⟨rfl, hP, hE⟩ := hv
  have hts := atoms_spec (ws := wsXN_widen) B.pre
  have C0 : zC p s m _ meth c cXN_widen (some .int) 7 RXN wsXN_widen D k (zA 29 a) := ⟨B.exec, B.bytes, B.returns, hml, findClass_of_methodNamed B.named, hts, B.notSynchronized, hE⟩
  obtain ⟨hx, hb, hr, hml, hown, _, hlocks, _⟩ := id C0
  have hK := hE.1
  have hS : va_S (zA 29 a) s.heap s.heap [] := va_S.rf
  generalize hf : FXN_widen u p0 p1 p2 = tgt
  change ((if ((Xg_names_ranges u) p0.toNatClampNeg) < 8 then (zlet (Xs_names_low u (vp_updL (Xg_names_low u) (((p0 * 8) + ((Xg_names_ranges u) p0.toNatClampNeg)).toNatClampNeg) p1)) (fun u5 => (zlet (Xs_names_high u5 (vp_updL (Xg_names_high u5) (((p0 * 8) + ((Xg_names_ranges u) p0.toNatClampNeg)).toNatClampNeg) p2)) (fun u7 => (zlet (Xs_names_ranges u7 (upd (Xg_names_ranges u7) (p0.toNatClampNeg) (((Xg_names_ranges u7) p0.toNatClampNeg) + 1))) (fun u10 => (((Xg_names_ranges u10) p0.toNatClampNeg), u10))))))) else ((-1), u)) : Int32 × XS) = tgt at hf
  change (vp_in p0 41 ∧ (if ((Xg_names_ranges u) p0.toNatClampNeg) < 8 then (vp_in p0 41 ∧ (vp_in ((p0 * 8) + ((Xg_names_ranges u) p0.toNatClampNeg)) 328 ∧ (zlet (Xs_names_low u (vp_updL (Xg_names_low u) (((p0 * 8) + ((Xg_names_ranges u) p0.toNatClampNeg)).toNatClampNeg) p1)) (fun u5 => (vp_in ((p0 * 8) + ((Xg_names_ranges u) p0.toNatClampNeg)) 328 ∧ (zlet (Xs_names_high u5 (vp_updL (Xg_names_high u5) (((p0 * 8) + ((Xg_names_ranges u) p0.toNatClampNeg)).toNatClampNeg) p2)) (fun u7 => (vp_in p0 41 ∧ (vp_in p0 41 ∧ (zlet (Xs_names_ranges u7 (upd (Xg_names_ranges u7) (p0.toNatClampNeg) (((Xg_names_ranges u7) p0.toNatClampNeg) + 1))) (fun u10 => (vp_in p0 41 ∧ True)))))))))))) else True)) at hg
  have hl := lv_entry ([.ref (a 8), .int p0, .long p1, .long p2]) (n := 7) (Nat.le_of_ble_eq_true rfl)
  rw [lg_entry_eq]
  generalize (lg_sl ([.ref (a 8), .int p0, .long p1, .long p2]) ++ List.replicate (7 - (lg_sl ([.ref (a 8), .int p0, .long p1, .long p2])).length) Slot.unset).toArray = ls at hl ⊢
  have hl : lv_has ls 7 [(0, .ref (a 8)), (1, .int p0), (2, .long p1), (4, .long p2)] := hl
  refine lv_aload_n hx hb dXN_widen_0 rfl (lv_at hl 0 rfl) ?_
  refine va_get (D := D) (ci := 3) (v := .ref (a 10)) (C := RXN) (T := TXN) (N := 5) hx hb hts (fun w h9 => zc (inXN w h9)) hown hK hP 8 rfl rfl 1 (by decide) (hts _ (zc m_71)) (fun _ h9 => h9) rfl dXN_widen_1 ?_
  refine lv_iload_n hx hb dXN_widen_4 rfl (lv_at hl 1 rfl) ?_
  obtain ⟨h1, hg⟩ := hg
  refine va_iald hx hb hK hP 10 0 rfl rfl h1 dXN_widen_5 ?_
  refine lv_bipush (v := 8) hx hb dXN_widen_6 (by decide) ?_
  refine lv_icmp_lt (tgt := 13) hx hb dXN_widen_8 (by decide) (fun c2 => ?_) (fun c2 => ?_)
  · have hf := zt c2 hf
    have hg := zgt c2 hg
    refine lv_iload_n hx hb dXN_widen_13 rfl (lv_at hl 1 rfl) ?_
    refine lv_bipush (v := 8) hx hb dXN_widen_14 (by decide) ?_
    refine lv_imul hx hb dXN_widen_16 ?_
    refine lv_aload_n hx hb dXN_widen_17 rfl (lv_at hl 0 rfl) ?_
    refine va_get (D := D) (ci := 3) (v := .ref (a 10)) (C := RXN) (T := TXN) (N := 5) hx hb hts (fun w h9 => zc (inXN w h9)) hown hK hP 8 rfl rfl 1 (by decide) (hts _ (zc m_71)) (fun _ h9 => h9) rfl dXN_widen_18 ?_
    refine lv_iload_n hx hb dXN_widen_21 rfl (lv_at hl 1 rfl) ?_
    obtain ⟨h3, hg⟩ := hg
    refine va_iald hx hb hK hP 10 0 rfl rfl h3 dXN_widen_22 ?_
    refine lv_iadd hx hb dXN_widen_23 ?_
    refine lv_istore (lv' := [(6, .int ((p0 * 8) + ((Xg_names_ranges u) p0.toNatClampNeg))), (0, .ref (a 8)), (1, .int p0), (2, .long p1), (4, .long p2)]) hx hb dXN_widen_24 hl (by decide) rfl (fun ls hl => ?_)
    refine lv_aload_n hx hb dXN_widen_26 rfl (lv_at hl 1 rfl) ?_
    refine va_get (D := D) (ci := 3) (v := .ref (a 11)) (C := RXN) (T := TXN) (N := 5) hx hb hts (fun w h9 => zc (inXN w h9)) hown hK hP 8 rfl rfl 2 (by decide) (hts _ (zc m_72)) (fun _ h9 => h9) rfl dXN_widen_27 ?_
    refine lv_iload hx hb dXN_widen_30 (lv_at hl 0 rfl) ?_
    refine lv_lload_n hx hb dXN_widen_32 rfl (lv_at hl 3 rfl) ?_
    obtain ⟨h4, hg⟩ := hg
    refine va_last hx hb hK hP (XD hI _) hS 11 1 rfl rfl h4 dXN_widen_33 (fun H locs hP _ hS => ?_)
    obtain ⟨u5, hP, hf, hg⟩ := zlets (E := (Xs_names_low u (vp_updL (Xg_names_low u) (((p0 * 8) + ((Xg_names_ranges u) p0.toNatClampNeg)).toNatClampNeg) p1))) (w := wX k a) hP hf hg
    refine lv_aload_n hx hb dXN_widen_34 rfl (lv_at hl 1 rfl) ?_
    refine va_get (D := D) (ci := 3) (v := .ref (a 12)) (C := RXN) (T := TXN) (N := 5) hx hb hts (fun w h9 => zc (inXN w h9)) hown hK hP 8 rfl rfl 3 (by decide) (hts _ (zc m_73)) (fun _ h9 => h9) rfl dXN_widen_35 ?_
    refine lv_iload hx hb dXN_widen_38 (lv_at hl 0 rfl) ?_
    refine lv_lload hx hb dXN_widen_40 (lv_at hl 4 rfl) ?_
    obtain ⟨h6, hg⟩ := hg
    refine va_last hx hb hK hP (XD hI _) hS 12 1 rfl rfl h6 dXN_widen_42 (fun H locs hP _ hS => ?_)
    obtain ⟨u7, hP, hf, hg⟩ := zlets (E := (Xs_names_high u5 (vp_updL (Xg_names_high u5) (((p0 * 8) + ((Xg_names_ranges u) p0.toNatClampNeg)).toNatClampNeg) p2))) (w := wX k a) hP hf hg
    refine lv_aload_n hx hb dXN_widen_43 rfl (lv_at hl 1 rfl) ?_
    refine va_get (D := D) (ci := 3) (v := .ref (a 10)) (C := RXN) (T := TXN) (N := 5) hx hb hts (fun w h9 => zc (inXN w h9)) hown hK hP 8 rfl rfl 1 (by decide) (hts _ (zc m_71)) (fun _ h9 => h9) rfl dXN_widen_44 ?_
    refine lv_iload_n hx hb dXN_widen_47 rfl (lv_at hl 2 rfl) ?_
    refine lv_dup2_11 hx hb dXN_widen_48 rfl rfl ?_
    obtain ⟨h8, hg⟩ := hg
    refine va_iald hx hb hK hP 10 0 rfl rfl h8 dXN_widen_49 ?_
    refine lv_iconst (v := 1) hx hb dXN_widen_50 (by decide) ?_
    refine lv_iadd hx hb dXN_widen_51 ?_
    obtain ⟨h9, hg⟩ := hg
    refine va_iast hx hb hK hP (XD hI _) hS 10 0 rfl rfl h9 dXN_widen_52 (fun H locs hP _ hS => ?_)
    obtain ⟨u10, hP, hf, hg⟩ := zlets (E := (Xs_names_ranges u7 (upd (Xg_names_ranges u7) (p0.toNatClampNeg) (((Xg_names_ranges u7) p0.toNatClampNeg) + 1)))) (w := wX k a) hP hf hg
    refine lv_aload_n hx hb dXN_widen_53 rfl (lv_at hl 1 rfl) ?_
    refine va_get (D := D) (ci := 3) (v := .ref (a 10)) (C := RXN) (T := TXN) (N := 5) hx hb hts (fun w h9 => zc (inXN w h9)) hown hK hP 8 rfl rfl 1 (by decide) (hts _ (zc m_71)) (fun _ h9 => h9) rfl dXN_widen_54 ?_
    refine lv_iload_n hx hb dXN_widen_57 rfl (lv_at hl 2 rfl) ?_
    obtain ⟨h11, hg⟩ := hg
    refine va_iald hx hb hK hP 10 0 rfl rfl h11 dXN_widen_58 ?_
    exact W.iret (v := ((Xg_names_ranges u10) p0.toNatClampNeg)) hx hb hr (fun t ht hW => by subst hf; exact ⟨rfl, by rw [ht]; exact hP, hS.F ht⟩) hS.2.2 dXN_widen_59
  · have hf := zn c2 hf
    have hg := zgn c2 hg
    refine lv_iconst (v := (-1)) hx hb dXN_widen_11 (by decide) ?_
    exact W.iret (v := (-1)) hx hb hr (fun t ht hW => by subst hf; exact ⟨rfl, by rw [ht]; exact hP, hS.F ht⟩) hS.2.2 dXN_widen_12
theorem dXN_add_0 : decode cXN_add 0 = .ok (.aload_n 0, 1) := by decide +kernel
theorem dXN_add_1 : decode cXN_add 1 = .ok (.getfield 25, 3) := by decide +kernel
theorem dXN_add_4 : decode cXN_add 4 = .ok (.bipush 40, 2) := by decide +kernel
theorem dXN_add_6 : decode cXN_add 6 = .ok (.if_icmp .lt 5, 3) := by decide +kernel
theorem dXN_add_9 : decode cXN_add 9 = .ok (.iconst (-1), 1) := by decide +kernel
theorem dXN_add_10 : decode cXN_add 10 = .ok (.ireturn, 1) := by decide +kernel
theorem dXN_add_11 : decode cXN_add 11 = .ok (.aload_n 0, 1) := by decide +kernel
theorem dXN_add_12 : decode cXN_add 12 = .ok (.dup, 1) := by decide +kernel
theorem dXN_add_13 : decode cXN_add 13 = .ok (.getfield 25, 3) := by decide +kernel
theorem dXN_add_16 : decode cXN_add 16 = .ok (.iconst 1, 1) := by decide +kernel
theorem dXN_add_17 : decode cXN_add 17 = .ok (.iadd, 1) := by decide +kernel
theorem dXN_add_18 : decode cXN_add 18 = .ok (.putfield 25, 3) := by decide +kernel
theorem dXN_add_21 : decode cXN_add 21 = .ok (.aload_n 0, 1) := by decide +kernel
theorem dXN_add_22 : decode cXN_add 22 = .ok (.getfield 9, 3) := by decide +kernel
theorem dXN_add_25 : decode cXN_add 25 = .ok (.aload_n 0, 1) := by decide +kernel
theorem dXN_add_26 : decode cXN_add 26 = .ok (.getfield 25, 3) := by decide +kernel
theorem dXN_add_29 : decode cXN_add 29 = .ok (.iload_n 1, 1) := by decide +kernel
theorem dXN_add_30 : decode cXN_add 30 = .ok (.iastore, 1) := by decide +kernel
theorem dXN_add_31 : decode cXN_add 31 = .ok (.aload_n 0, 1) := by decide +kernel
theorem dXN_add_32 : decode cXN_add 32 = .ok (.aload_n 0, 1) := by decide +kernel
theorem dXN_add_33 : decode cXN_add 33 = .ok (.getfield 25, 3) := by decide +kernel
theorem dXN_add_36 : decode cXN_add 36 = .ok (.lload_n 2, 1) := by decide +kernel
theorem dXN_add_37 : decode cXN_add 37 = .ok (.lload 4, 2) := by decide +kernel
theorem dXN_add_39 : decode cXN_add 39 = .ok (.invokevirtual 29, 3) := by decide +kernel
theorem dXN_add_42 : decode cXN_add 42 = .ok (.pop, 1) := by decide +kernel
theorem dXN_add_43 : decode cXN_add 43 = .ok (.aload_n 0, 1) := by decide +kernel
theorem dXN_add_44 : decode cXN_add 44 = .ok (.getfield 25, 3) := by decide +kernel
theorem dXN_add_47 : decode cXN_add 47 = .ok (.ireturn, 1) := by decide +kernel
abbrev wsXN_add : List Cond := Cond.code yXN_add cXN_add 6 (some .int) :: zWords
def FXN_add (u : XS) (p0 : Int32) (p1 : Int64) (p2 : Int64) : Int32 × XS := (if (Xg_names_made u) < 40 then (zlet (Xs_names_made u ((Xg_names_made u) + 1)) (fun u2 => (zlet (Xs_names_field u2 (upd (Xg_names_field u2) ((Xg_names_made u2).toNatClampNeg) p0)) (fun u4 => (zlet (FXN_widen u4 (Xg_names_made u4) p1 p2) (fun u6 => ((Xg_names_made (u6.2)), u6.2))))))) else ((-1), u))
def GXN_add (u : XS) (p0 : Int32) (p1 : Int64) (p2 : Int64) : Prop := (if (Xg_names_made u) < 40 then (zlet (Xs_names_made u ((Xg_names_made u) + 1)) (fun u2 => (vp_in (Xg_names_made u2) 41 ∧ (zlet (Xs_names_field u2 (upd (Xg_names_field u2) ((Xg_names_made u2).toNatClampNeg) p0)) (fun u4 => (GXN_widen u4 (Xg_names_made u4) p1 p2 ∧ (zlet (FXN_widen u4 (Xg_names_made u4) p1 p2) (fun u6 => True)))))))) else True)
set_option maxHeartbeats 4000000 in
set_option maxRecDepth 100000 in
theorem tXN_add (l : Launch) {D : va_G} {k : zK} {a : Nat → Nat} (hI : zI 29 a) (u : XS) (p0 : Int32) (p1 : Int64) (p2 : Int64) (hg : GXN_add u p0 p1 p2) : Met l yXN_add wsXN_add ({ frames := 1, cells := 0, slots := 0, locals := 26 }) (zPc D k (zA 29 a) (wX k a u) [.ref (a 8), .int p0, .long p1, .long p2]) (zQi D (wX k a) (zA 29 a) (FXN_add u p0 p1 p2)) 0 0 (zA 29 a) := by
  refine Met.ofW (cc := cXN_add) (maxL := 6) (ret := (some .int)) (by decide) rfl ?_
  intro p e s m args below meth c s₁ B hml hv
  obtain ⟨rfl, hP, hE⟩ := hv
  have hts := atoms_spec (ws := wsXN_add) B.pre
  have C0 : zC p s m _ meth c cXN_add (some .int) 6 RXN wsXN_add D k (zA 29 a) := ⟨B.exec, B.bytes, B.returns, hml, findClass_of_methodNamed B.named, hts, B.notSynchronized, hE⟩
  obtain ⟨hx, hb, hr, hml, hown, _, hlocks, _⟩ := id C0
  have hK := hE.1
  have hS : va_S (zA 29 a) s.heap s.heap [] := va_S.rf
  generalize hf : FXN_add u p0 p1 p2 = tgt
  change ((if (Xg_names_made u) < 40 then (zlet (Xs_names_made u ((Xg_names_made u) + 1)) (fun u2 => (zlet (Xs_names_field u2 (upd (Xg_names_field u2) ((Xg_names_made u2).toNatClampNeg) p0)) (fun u4 => (zlet (FXN_widen u4 (Xg_names_made u4) p1 p2) (fun u6 => ((Xg_names_made (u6.2)), u6.2))))))) else ((-1), u)) : Int32 × XS) = tgt at hf
  change (if (Xg_names_made u) < 40 then (zlet (Xs_names_made u ((Xg_names_made u) + 1)) (fun u2 => (vp_in (Xg_names_made u2) 41 ∧ (zlet (Xs_names_field u2 (upd (Xg_names_field u2) ((Xg_names_made u2).toNatClampNeg) p0)) (fun u4 => (GXN_widen u4 (Xg_names_made u4) p1 p2 ∧ (zlet (FXN_widen u4 (Xg_names_made u4) p1 p2) (fun u6 => True)))))))) else True) at hg
  have hl := lv_entry ([.ref (a 8), .int p0, .long p1, .long p2]) (n := 6) (Nat.le_of_ble_eq_true rfl)
  rw [lg_entry_eq]
  generalize (lg_sl ([.ref (a 8), .int p0, .long p1, .long p2]) ++ List.replicate (6 - (lg_sl ([.ref (a 8), .int p0, .long p1, .long p2])).length) Slot.unset).toArray = ls at hl ⊢
  have hl : lv_has ls 6 [(0, .ref (a 8)), (1, .int p0), (2, .long p1), (4, .long p2)] := hl
  refine lv_aload_n hx hb dXN_add_0 rfl (lv_at hl 0 rfl) ?_
  refine va_get (D := D) (ci := 3) (v := .int (Xg_names_made u)) (C := RXN) (T := TXN) (N := 5) hx hb hts (fun w h9 => zc (inXN w h9)) hown hK hP 8 rfl rfl 4 (by decide) (hts _ (zc m_74)) (fun _ h9 => h9) rfl dXN_add_1 ?_
  refine lv_bipush (v := 40) hx hb dXN_add_4 (by decide) ?_
  refine lv_icmp_lt (tgt := 11) hx hb dXN_add_6 (by decide) (fun c1 => ?_) (fun c1 => ?_)
  · have hf := zt c1 hf
    have hg := zgt c1 hg
    refine lv_aload_n hx hb dXN_add_11 rfl (lv_at hl 0 rfl) ?_
    refine lv_dup hx hb dXN_add_12 rfl ?_
    refine va_get (D := D) (ci := 3) (v := .int (Xg_names_made u)) (C := RXN) (T := TXN) (N := 5) hx hb hts (fun w h9 => zc (inXN w h9)) hown hK hP 8 rfl rfl 4 (by decide) (hts _ (zc m_74)) (fun _ h9 => h9) rfl dXN_add_13 ?_
    refine lv_iconst (v := 1) hx hb dXN_add_16 (by decide) ?_
    refine lv_iadd hx hb dXN_add_17 ?_
    refine va_put (D := D) (ci := 3) (v := .int ((Xg_names_made u) + 1)) (ty := .int) (C := RXN) (T := TXN) (N := 5) hx hb hts (fun w h9 => zc (inXN w h9)) tyXN tyXN_ok nmXN hown hK hP (XD hI _) hS 8 rfl rfl 4 (by decide) (hts _ (zc m_74)) (fun _ h9 => h9) rfl (by decide +kernel) rfl rfl (Nat.le_of_ble_eq_true rfl) dXN_add_18 (fun H locs hP _ hS => ?_)
    obtain ⟨u2, hP, hf, hg⟩ := zlets (E := (Xs_names_made u ((Xg_names_made u) + 1))) (w := wX k a) hP hf hg
    refine lv_aload_n hx hb dXN_add_21 rfl (lv_at hl 0 rfl) ?_
    refine va_get (D := D) (ci := 3) (v := .ref (a 9)) (C := RXN) (T := TXN) (N := 5) hx hb hts (fun w h9 => zc (inXN w h9)) hown hK hP 8 rfl rfl 0 (by decide) (hts _ (zc m_69)) (fun _ h9 => h9) rfl dXN_add_22 ?_
    refine lv_aload_n hx hb dXN_add_25 rfl (lv_at hl 0 rfl) ?_
    refine va_get (D := D) (ci := 3) (v := .int (Xg_names_made u2)) (C := RXN) (T := TXN) (N := 5) hx hb hts (fun w h9 => zc (inXN w h9)) hown hK hP 8 rfl rfl 4 (by decide) (hts _ (zc m_74)) (fun _ h9 => h9) rfl dXN_add_26 ?_
    refine lv_iload_n hx hb dXN_add_29 rfl (lv_at hl 1 rfl) ?_
    obtain ⟨h3, hg⟩ := hg
    refine va_iast hx hb hK hP (XD hI _) hS 9 0 rfl rfl h3 dXN_add_30 (fun H locs hP _ hS => ?_)
    obtain ⟨u4, hP, hf, hg⟩ := zlets (E := (Xs_names_field u2 (upd (Xg_names_field u2) ((Xg_names_made u2).toNatClampNeg) p0))) (w := wX k a) hP hf hg
    refine lv_aload_n hx hb dXN_add_31 rfl (lv_at hl 0 rfl) ?_
    refine lv_aload_n hx hb dXN_add_32 rfl (lv_at hl 0 rfl) ?_
    refine va_get (D := D) (ci := 3) (v := .int (Xg_names_made u4)) (C := RXN) (T := TXN) (N := 5) hx hb hts (fun w h9 => zc (inXN w h9)) hown hK hP 8 rfl rfl 4 (by decide) (hts _ (zc m_74)) (fun _ h9 => h9) rfl dXN_add_33 ?_
    refine lv_lload_n hx hb dXN_add_36 rfl (lv_at hl 2 rfl) ?_
    refine lv_lload hx hb dXN_add_37 (lv_at hl 3 rfl) ?_
    obtain ⟨h5, hg⟩ := hg
    refine zmui (W.runV (As := [.int (Xg_names_made u4), .long p1, .long p2]) (rest := []) ⟨hx, hb, hml, hown, hts⟩ (tXN_widen l hI u4 (Xg_names_made u4) p1 p2 h5) (cwV 3 hts (zgV m_290 m_291 m_292 m_4 m_293) rfl rfl rfl (by decide +kernel) ⟨Nat.le_of_ble_eq_true rfl, Nat.le_of_ble_eq_true rfl⟩) (zpre hP hE hS.2.1 (va_recv hK hP (ci := 3) (q0 := 8) rfl rfl)) rfl rfl hl.1 rfl (lv_room (Nat.le_of_ble_eq_true rfl)) dXN_add_39 ⟨Nat.zero_le _, Nat.zero_le _⟩) hS hf hg (fun u6 H locs hf hg hP hS => ?_)
    refine lv_pop hx hb dXN_add_42 rfl ?_
    refine lv_aload_n hx hb dXN_add_43 rfl (lv_at hl 0 rfl) ?_
    refine va_get (D := D) (ci := 3) (v := .int (Xg_names_made (u6.2))) (C := RXN) (T := TXN) (N := 5) hx hb hts (fun w h9 => zc (inXN w h9)) hown hK hP 8 rfl rfl 4 (by decide) (hts _ (zc m_74)) (fun _ h9 => h9) rfl dXN_add_44 ?_
    exact W.iret (v := (Xg_names_made (u6.2))) hx hb hr (fun t ht hW => by subst hf; exact ⟨rfl, by rw [ht]; exact hP, hS.F ht⟩) hS.2.2 dXN_add_47
  · have hf := zn c1 hf
    have hg := zgn c1 hg
    refine lv_iconst (v := (-1)) hx hb dXN_add_9 (by decide) ?_
    exact W.iret (v := (-1)) hx hb hr (fun t ht hW => by subst hf; exact ⟨rfl, by rw [ht]; exact hP, hS.F ht⟩) hS.2.2 dXN_add_10
theorem dX_name88_0 : decode cX_name88 0 = .ok (.aload_n 0, 1) := by decide +kernel
theorem dX_name88_1 : decode cX_name88 1 = .ok (.getfield 10, 3) := by decide +kernel
theorem dX_name88_4 : decode cX_name88 4 = .ok (.iload_n 1, 1) := by decide +kernel
theorem dX_name88_5 : decode cX_name88 5 = .ok (.invokevirtual 74, 3) := by decide +kernel
theorem dX_name88_8 : decode cX_name88 8 = .ok (.ifCond .ne 6, 3) := by decide +kernel
theorem dX_name88_11 : decode cX_name88 11 = .ok (.bipush (-2), 2) := by decide +kernel
theorem dX_name88_13 : decode cX_name88 13 = .ok (.ireturn, 1) := by decide +kernel
theorem dX_name88_14 : decode cX_name88 14 = .ok (.aload_n 0, 1) := by decide +kernel
theorem dX_name88_15 : decode cX_name88 15 = .ok (.iload_n 1, 1) := by decide +kernel
theorem dX_name88_16 : decode cX_name88 16 = .ok (.lload_n 2, 1) := by decide +kernel
theorem dX_name88_17 : decode cX_name88 17 = .ok (.lload 4, 2) := by decide +kernel
theorem dX_name88_19 : decode cX_name88 19 = .ok (.invokevirtual 106, 3) := by decide +kernel
theorem dX_name88_22 : decode cX_name88 22 = .ok (.ifCond .eq 5, 3) := by decide +kernel
theorem dX_name88_25 : decode cX_name88 25 = .ok (.iconst 0, 1) := by decide +kernel
theorem dX_name88_26 : decode cX_name88 26 = .ok (.ireturn, 1) := by decide +kernel
theorem dX_name88_27 : decode cX_name88 27 = .ok (.aload_n 0, 1) := by decide +kernel
theorem dX_name88_28 : decode cX_name88 28 = .ok (.getfield 26, 3) := by decide +kernel
theorem dX_name88_31 : decode cX_name88 31 = .ok (.iload_n 1, 1) := by decide +kernel
theorem dX_name88_32 : decode cX_name88 32 = .ok (.lload_n 2, 1) := by decide +kernel
theorem dX_name88_33 : decode cX_name88 33 = .ok (.lload 4, 2) := by decide +kernel
theorem dX_name88_35 : decode cX_name88 35 = .ok (.invokevirtual 110, 3) := by decide +kernel
theorem dX_name88_38 : decode cX_name88 38 = .ok (.ireturn, 1) := by decide +kernel
abbrev wsX_name88 : List Cond := Cond.code yX_name88 cX_name88 6 (some .int) :: zWords
def FX_name88 (u : XS) (p0 : Int32) (p1 : Int64) (p2 : Int64) : Int32 × XS := (if (FXF_has u p0) = 0 then ((-2), u) else (if (FX_isAbove u p0 p1 p2) = 0 then (zlet (FXN_add u p0 p1 p2) (fun u5 => (u5.1, u5.2))) else (0, u)))
def GX_name88 (u : XS) (p0 : Int32) (p1 : Int64) (p2 : Int64) : Prop := (if (FXF_has u p0) = 0 then True else (GX_isAbove u p0 p1 p2 ∧ (if (FX_isAbove u p0 p1 p2) = 0 then (GXN_add u p0 p1 p2 ∧ (zlet (FXN_add u p0 p1 p2) (fun u5 => True))) else True)))
set_option maxHeartbeats 4000000 in
set_option maxRecDepth 100000 in
theorem tX_name88 (l : Launch) {D : va_G} {k : zK} {a : Nat → Nat} (hI : zI 29 a) (u : XS) (p0 : Int32) (p1 : Int64) (p2 : Int64) (hg : GX_name88 u p0 p1 p2) : Met l yX_name88 wsX_name88 ({ frames := 2, cells := 0, slots := 0, locals := 51 }) (zPc D k (zA 29 a) (wX k a u) [.ref (a 0), .int p0, .long p1, .long p2]) (zQi D (wX k a) (zA 29 a) (FX_name88 u p0 p1 p2)) 0 0 (zA 29 a) := by
  refine Met.ofW (cc := cX_name88) (maxL := 6) (ret := (some .int)) (by decide) rfl ?_
  intro p e s m args below meth c s₁ B hml hv
  obtain ⟨rfl, hP, hE⟩ := hv
  have hts := atoms_spec (ws := wsX_name88) B.pre
  have C0 : zC p s m _ meth c cX_name88 (some .int) 6 RX wsX_name88 D k (zA 29 a) := ⟨B.exec, B.bytes, B.returns, hml, findClass_of_methodNamed B.named, hts, B.notSynchronized, hE⟩
  obtain ⟨hx, hb, hr, hml, hown, _, hlocks, _⟩ := id C0
  have hK := hE.1
  have hS : va_S (zA 29 a) s.heap s.heap [] := va_S.rf
  generalize hf : FX_name88 u p0 p1 p2 = tgt
  change ((if (FXF_has u p0) = 0 then ((-2), u) else (if (FX_isAbove u p0 p1 p2) = 0 then (zlet (FXN_add u p0 p1 p2) (fun u5 => (u5.1, u5.2))) else (0, u))) : Int32 × XS) = tgt at hf
  change (if (FXF_has u p0) = 0 then True else (GX_isAbove u p0 p1 p2 ∧ (if (FX_isAbove u p0 p1 p2) = 0 then (GXN_add u p0 p1 p2 ∧ (zlet (FXN_add u p0 p1 p2) (fun u5 => True))) else True))) at hg
  have hl := lv_entry ([.ref (a 0), .int p0, .long p1, .long p2]) (n := 6) (Nat.le_of_ble_eq_true rfl)
  rw [lg_entry_eq]
  generalize (lg_sl ([.ref (a 0), .int p0, .long p1, .long p2]) ++ List.replicate (6 - (lg_sl ([.ref (a 0), .int p0, .long p1, .long p2])).length) Slot.unset).toArray = ls at hl ⊢
  have hl : lv_has ls 6 [(0, .ref (a 0)), (1, .int p0), (2, .long p1), (4, .long p2)] := hl
  refine lv_aload_n hx hb dX_name88_0 rfl (lv_at hl 0 rfl) ?_
  refine va_get (D := D) (ci := 0) (v := .ref (a 1)) (C := RX) (T := TX) (N := 10) hx hb hts (fun w h9 => zc (inX w h9)) hown hK hP 0 rfl rfl 1 (by decide) (hts _ (zc m_175)) (fun _ h9 => h9) rfl dX_name88_1 ?_
  refine lv_iload_n hx hb dX_name88_4 rfl (lv_at hl 1 rfl) ?_
  refine vp_callSi (W.runV (As := [.int p0]) (rest := []) ⟨hx, hb, hml, hown, hts⟩ (tXF_has l hI u p0) (cwV 1 hts (zgV m_223 m_224 m_225 m_2 m_226) rfl rfl rfl (by decide +kernel) ⟨Nat.le_of_ble_eq_true rfl, Nat.le_of_ble_eq_true rfl⟩) (zpre hP hE hS.2.1 (va_recv hK hP (ci := 1) (q0 := 1) rfl rfl)) rfl rfl hl.1 rfl (lv_room (Nat.le_of_ble_eq_true rfl)) dX_name88_5 ⟨Nat.zero_le _, Nat.zero_le _⟩) (fun r9 hr9 => ?_)
  subst hr9
  refine lv_if_ne (tgt := 14) hx hb dX_name88_8 (by decide) (fun c1 => ?_) (fun c1 => ?_)
  · have hf := zn c1 hf
    have hg := zgn c1 hg
    refine lv_aload_n hx hb dX_name88_14 rfl (lv_at hl 0 rfl) ?_
    refine lv_iload_n hx hb dX_name88_15 rfl (lv_at hl 1 rfl) ?_
    refine lv_lload_n hx hb dX_name88_16 rfl (lv_at hl 2 rfl) ?_
    refine lv_lload hx hb dX_name88_17 (lv_at hl 3 rfl) ?_
    obtain ⟨h2, hg⟩ := hg
    refine vp_callSi (W.runV (As := [.int p0, .long p1, .long p2]) (rest := []) ⟨hx, hb, hml, hown, hts⟩ (tX_isAbove l hI u p0 p1 p2 h2) (cwV 3 hts (zgV m_277 m_279 mp_1 m_1 m_280) rfl rfl rfl (by decide +kernel) ⟨Nat.le_of_ble_eq_true rfl, Nat.le_of_ble_eq_true rfl⟩) (zpre hP hE hS.2.1 (va_recv hK hP (ci := 0) (q0 := 0) rfl rfl)) rfl rfl hl.1 rfl (lv_room (Nat.le_of_ble_eq_true rfl)) dX_name88_19 ⟨Nat.zero_le _, Nat.zero_le _⟩) (fun r9 hr9 => ?_)
    subst hr9
    refine lv_if_eq (tgt := 27) hx hb dX_name88_22 (by decide) (fun c3 => ?_) (fun c3 => ?_)
    · have hf := zt c3 hf
      have hg := zgt c3 hg
      refine lv_aload_n hx hb dX_name88_27 rfl (lv_at hl 0 rfl) ?_
      refine va_get (D := D) (ci := 0) (v := .ref (a 8)) (C := RX) (T := TX) (N := 10) hx hb hts (fun w h9 => zc (inX w h9)) hown hK hP 0 rfl rfl 3 (by decide) (hts _ (zc m_177)) (fun _ h9 => h9) rfl dX_name88_28 ?_
      refine lv_iload_n hx hb dX_name88_31 rfl (lv_at hl 1 rfl) ?_
      refine lv_lload_n hx hb dX_name88_32 rfl (lv_at hl 2 rfl) ?_
      refine lv_lload hx hb dX_name88_33 (lv_at hl 3 rfl) ?_
      obtain ⟨h4, hg⟩ := hg
      refine zmui (W.runV (As := [.int p0, .long p1, .long p2]) (rest := []) ⟨hx, hb, hml, hown, hts⟩ (tXN_add l hI u p0 p1 p2 h4) (cwV 3 hts (zgV m_286 m_287 m_288 m_4 m_289) rfl rfl rfl (by decide +kernel) ⟨Nat.le_of_ble_eq_true rfl, Nat.le_of_ble_eq_true rfl⟩) (zpre hP hE hS.2.1 (va_recv hK hP (ci := 3) (q0 := 8) rfl rfl)) rfl rfl hl.1 rfl (lv_room (Nat.le_of_ble_eq_true rfl)) dX_name88_35 ⟨Nat.zero_le _, Nat.zero_le _⟩) hS hf hg (fun u5 H locs hf hg hP hS => ?_)
      exact W.iret (v := u5.1) hx hb hr (fun t ht hW => by subst hf; exact ⟨rfl, by rw [ht]; exact hP, hS.F ht⟩) hS.2.2 dX_name88_38
    · have hf := zn c3 hf
      have hg := zgn c3 hg
      refine lv_iconst (v := 0) hx hb dX_name88_25 (by decide) ?_
      exact W.iret (v := 0) hx hb hr (fun t ht hW => by subst hf; exact ⟨rfl, by rw [ht]; exact hP, hS.F ht⟩) hS.2.2 dX_name88_26
  · have hf := zt c1 hf
    have hg := zgt c1 hg
    refine lv_bipush (v := (-2)) hx hb dX_name88_11 (by decide) ?_
    exact W.iret (v := (-2)) hx hb hr (fun t ht hW => by subst hf; exact ⟨rfl, by rw [ht]; exact hP, hS.F ht⟩) hS.2.2 dX_name88_13
theorem dX_range_0 : decode cX_range 0 = .ok (.aload_n 0, 1) := by decide +kernel
theorem dX_range_1 : decode cX_range 1 = .ok (.getfield 26, 3) := by decide +kernel
theorem dX_range_4 : decode cX_range 4 = .ok (.iload_n 1, 1) := by decide +kernel
theorem dX_range_5 : decode cX_range 5 = .ok (.invokevirtual 113, 3) := by decide +kernel
theorem dX_range_8 : decode cX_range 8 = .ok (.ifCond .ne 6, 3) := by decide +kernel
theorem dX_range_11 : decode cX_range 11 = .ok (.bipush (-2), 2) := by decide +kernel
theorem dX_range_13 : decode cX_range 13 = .ok (.ireturn, 1) := by decide +kernel
theorem dX_range_14 : decode cX_range 14 = .ok (.aload_n 0, 1) := by decide +kernel
theorem dX_range_15 : decode cX_range 15 = .ok (.aload_n 0, 1) := by decide +kernel
theorem dX_range_16 : decode cX_range 16 = .ok (.getfield 26, 3) := by decide +kernel
theorem dX_range_19 : decode cX_range 19 = .ok (.getfield 114, 3) := by decide +kernel
theorem dX_range_22 : decode cX_range 22 = .ok (.iload_n 1, 1) := by decide +kernel
theorem dX_range_23 : decode cX_range 23 = .ok (.iaload, 1) := by decide +kernel
theorem dX_range_24 : decode cX_range 24 = .ok (.lload_n 2, 1) := by decide +kernel
theorem dX_range_25 : decode cX_range 25 = .ok (.lload 4, 2) := by decide +kernel
theorem dX_range_27 : decode cX_range 27 = .ok (.invokevirtual 106, 3) := by decide +kernel
theorem dX_range_30 : decode cX_range 30 = .ok (.ifCond .eq 5, 3) := by decide +kernel
theorem dX_range_33 : decode cX_range 33 = .ok (.iconst 0, 1) := by decide +kernel
theorem dX_range_34 : decode cX_range 34 = .ok (.ireturn, 1) := by decide +kernel
theorem dX_range_35 : decode cX_range 35 = .ok (.aload_n 0, 1) := by decide +kernel
theorem dX_range_36 : decode cX_range 36 = .ok (.getfield 26, 3) := by decide +kernel
theorem dX_range_39 : decode cX_range 39 = .ok (.iload_n 1, 1) := by decide +kernel
theorem dX_range_40 : decode cX_range 40 = .ok (.lload_n 2, 1) := by decide +kernel
theorem dX_range_41 : decode cX_range 41 = .ok (.lload 4, 2) := by decide +kernel
theorem dX_range_43 : decode cX_range 43 = .ok (.invokevirtual 117, 3) := by decide +kernel
theorem dX_range_46 : decode cX_range 46 = .ok (.ireturn, 1) := by decide +kernel
abbrev wsX_range : List Cond := Cond.code yX_range cX_range 6 (some .int) :: zWords
def FX_range (u : XS) (p0 : Int32) (p1 : Int64) (p2 : Int64) : Int32 × XS := (if (FXN_has u p0) = 0 then ((-2), u) else (if (FX_isAbove u ((Xg_names_field u) p0.toNatClampNeg) p1 p2) = 0 then (zlet (FXN_widen u p0 p1 p2) (fun u6 => (u6.1, u6.2))) else (0, u)))
def GX_range (u : XS) (p0 : Int32) (p1 : Int64) (p2 : Int64) : Prop := (if (FXN_has u p0) = 0 then True else (vp_in p0 41 ∧ (GX_isAbove u ((Xg_names_field u) p0.toNatClampNeg) p1 p2 ∧ (if (FX_isAbove u ((Xg_names_field u) p0.toNatClampNeg) p1 p2) = 0 then (GXN_widen u p0 p1 p2 ∧ (zlet (FXN_widen u p0 p1 p2) (fun u6 => True))) else True))))
set_option maxHeartbeats 4000000 in
set_option maxRecDepth 100000 in
theorem tX_range (l : Launch) {D : va_G} {k : zK} {a : Nat → Nat} (hI : zI 29 a) (u : XS) (p0 : Int32) (p1 : Int64) (p2 : Int64) (hg : GX_range u p0 p1 p2) : Met l yX_range wsX_range ({ frames := 2, cells := 0, slots := 0, locals := 48 }) (zPc D k (zA 29 a) (wX k a u) [.ref (a 0), .int p0, .long p1, .long p2]) (zQi D (wX k a) (zA 29 a) (FX_range u p0 p1 p2)) 0 0 (zA 29 a) := by
  refine Met.ofW (cc := cX_range) (maxL := 6) (ret := (some .int)) (by decide) rfl ?_
  intro p e s m args below meth c s₁ B hml hv
  obtain ⟨rfl, hP, hE⟩ := hv
  have hts := atoms_spec (ws := wsX_range) B.pre
  have C0 : zC p s m _ meth c cX_range (some .int) 6 RX wsX_range D k (zA 29 a) := ⟨B.exec, B.bytes, B.returns, hml, findClass_of_methodNamed B.named, hts, B.notSynchronized, hE⟩
  obtain ⟨hx, hb, hr, hml, hown, _, hlocks, _⟩ := id C0
  have hK := hE.1
  have hS : va_S (zA 29 a) s.heap s.heap [] := va_S.rf
  generalize hf : FX_range u p0 p1 p2 = tgt
  change ((if (FXN_has u p0) = 0 then ((-2), u) else (if (FX_isAbove u ((Xg_names_field u) p0.toNatClampNeg) p1 p2) = 0 then (zlet (FXN_widen u p0 p1 p2) (fun u6 => (u6.1, u6.2))) else (0, u))) : Int32 × XS) = tgt at hf
  change (if (FXN_has u p0) = 0 then True else (vp_in p0 41 ∧ (GX_isAbove u ((Xg_names_field u) p0.toNatClampNeg) p1 p2 ∧ (if (FX_isAbove u ((Xg_names_field u) p0.toNatClampNeg) p1 p2) = 0 then (GXN_widen u p0 p1 p2 ∧ (zlet (FXN_widen u p0 p1 p2) (fun u6 => True))) else True)))) at hg
  have hl := lv_entry ([.ref (a 0), .int p0, .long p1, .long p2]) (n := 6) (Nat.le_of_ble_eq_true rfl)
  rw [lg_entry_eq]
  generalize (lg_sl ([.ref (a 0), .int p0, .long p1, .long p2]) ++ List.replicate (6 - (lg_sl ([.ref (a 0), .int p0, .long p1, .long p2])).length) Slot.unset).toArray = ls at hl ⊢
  have hl : lv_has ls 6 [(0, .ref (a 0)), (1, .int p0), (2, .long p1), (4, .long p2)] := hl
  refine lv_aload_n hx hb dX_range_0 rfl (lv_at hl 0 rfl) ?_
  refine va_get (D := D) (ci := 0) (v := .ref (a 8)) (C := RX) (T := TX) (N := 10) hx hb hts (fun w h9 => zc (inX w h9)) hown hK hP 0 rfl rfl 3 (by decide) (hts _ (zc m_177)) (fun _ h9 => h9) rfl dX_range_1 ?_
  refine lv_iload_n hx hb dX_range_4 rfl (lv_at hl 1 rfl) ?_
  refine vp_callSi (W.runV (As := [.int p0]) (rest := []) ⟨hx, hb, hml, hown, hts⟩ (tXN_has l hI u p0) (cwV 1 hts (zgV m_261 m_262 m_263 m_4 m_264) rfl rfl rfl (by decide +kernel) ⟨Nat.le_of_ble_eq_true rfl, Nat.le_of_ble_eq_true rfl⟩) (zpre hP hE hS.2.1 (va_recv hK hP (ci := 3) (q0 := 8) rfl rfl)) rfl rfl hl.1 rfl (lv_room (Nat.le_of_ble_eq_true rfl)) dX_range_5 ⟨Nat.zero_le _, Nat.zero_le _⟩) (fun r9 hr9 => ?_)
  subst hr9
  refine lv_if_ne (tgt := 14) hx hb dX_range_8 (by decide) (fun c1 => ?_) (fun c1 => ?_)
  · have hf := zn c1 hf
    have hg := zgn c1 hg
    refine lv_aload_n hx hb dX_range_14 rfl (lv_at hl 0 rfl) ?_
    refine lv_aload_n hx hb dX_range_15 rfl (lv_at hl 0 rfl) ?_
    refine va_get (D := D) (ci := 0) (v := .ref (a 8)) (C := RX) (T := TX) (N := 10) hx hb hts (fun w h9 => zc (inX w h9)) hown hK hP 0 rfl rfl 3 (by decide) (hts _ (zc m_177)) (fun _ h9 => h9) rfl dX_range_16 ?_
    refine va_getN (D := D) (ci := 3) (v := .ref (a 9)) (C := RXN) (T := TXN) (N := 5) hx hb hts (fun w h9 => zc (inXN w h9)) hown hK hP 8 rfl rfl 0 (by decide) (va_Nw.use rfl (hE.2.1 _ zn_7)) (fun _ h9 => h9) rfl dX_range_19 ?_
    refine lv_iload_n hx hb dX_range_22 rfl (lv_at hl 1 rfl) ?_
    obtain ⟨h2, hg⟩ := hg
    refine va_iald hx hb hK hP 9 0 rfl rfl h2 dX_range_23 ?_
    refine lv_lload_n hx hb dX_range_24 rfl (lv_at hl 2 rfl) ?_
    refine lv_lload hx hb dX_range_25 (lv_at hl 3 rfl) ?_
    obtain ⟨h3, hg⟩ := hg
    refine vp_callSi (W.runV (As := [.int ((Xg_names_field u) p0.toNatClampNeg), .long p1, .long p2]) (rest := []) ⟨hx, hb, hml, hown, hts⟩ (tX_isAbove l hI u ((Xg_names_field u) p0.toNatClampNeg) p1 p2 h3) (cwV 3 hts (zgV m_277 m_279 mp_1 m_1 m_280) rfl rfl rfl (by decide +kernel) ⟨Nat.le_of_ble_eq_true rfl, Nat.le_of_ble_eq_true rfl⟩) (zpre hP hE hS.2.1 (va_recv hK hP (ci := 0) (q0 := 0) rfl rfl)) rfl rfl hl.1 rfl (lv_room (Nat.le_of_ble_eq_true rfl)) dX_range_27 ⟨Nat.zero_le _, Nat.zero_le _⟩) (fun r9 hr9 => ?_)
    subst hr9
    refine lv_if_eq (tgt := 35) hx hb dX_range_30 (by decide) (fun c4 => ?_) (fun c4 => ?_)
    · have hf := zt c4 hf
      have hg := zgt c4 hg
      refine lv_aload_n hx hb dX_range_35 rfl (lv_at hl 0 rfl) ?_
      refine va_get (D := D) (ci := 0) (v := .ref (a 8)) (C := RX) (T := TX) (N := 10) hx hb hts (fun w h9 => zc (inX w h9)) hown hK hP 0 rfl rfl 3 (by decide) (hts _ (zc m_177)) (fun _ h9 => h9) rfl dX_range_36 ?_
      refine lv_iload_n hx hb dX_range_39 rfl (lv_at hl 1 rfl) ?_
      refine lv_lload_n hx hb dX_range_40 rfl (lv_at hl 2 rfl) ?_
      refine lv_lload hx hb dX_range_41 (lv_at hl 3 rfl) ?_
      obtain ⟨h5, hg⟩ := hg
      refine zmui (W.runV (As := [.int p0, .long p1, .long p2]) (rest := []) ⟨hx, hb, hml, hown, hts⟩ (tXN_widen l hI u p0 p1 p2 h5) (cwV 3 hts (zgV m_298 m_291 m_292 m_4 m_293) rfl rfl rfl (by decide +kernel) ⟨Nat.le_of_ble_eq_true rfl, Nat.le_of_ble_eq_true rfl⟩) (zpre hP hE hS.2.1 (va_recv hK hP (ci := 3) (q0 := 8) rfl rfl)) rfl rfl hl.1 rfl (lv_room (Nat.le_of_ble_eq_true rfl)) dX_range_43 ⟨Nat.zero_le _, Nat.zero_le _⟩) hS hf hg (fun u6 H locs hf hg hP hS => ?_)
      exact W.iret (v := u6.1) hx hb hr (fun t ht hW => by subst hf; exact ⟨rfl, by rw [ht]; exact hP, hS.F ht⟩) hS.2.2 dX_range_46
    · have hf := zn c4 hf
      have hg := zgn c4 hg
      refine lv_iconst (v := 0) hx hb dX_range_33 (by decide) ?_
      exact W.iret (v := 0) hx hb hr (fun t ht hW => by subst hf; exact ⟨rfl, by rw [ht]; exact hP, hS.F ht⟩) hS.2.2 dX_range_34
  · have hf := zt c1 hf
    have hg := zgt c1 hg
    refine lv_bipush (v := (-2)) hx hb dX_range_11 (by decide) ?_
    exact W.iret (v := (-2)) hx hb hr (fun t ht hW => by subst hf; exact ⟨rfl, by rw [ht]; exact hP, hS.F ht⟩) hS.2.2 dX_range_13
end
