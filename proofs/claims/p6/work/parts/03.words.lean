def zWords : List Cond := lw_tbl.filter goodWord
theorem zmem {w : Cond} (i : Nat) (h : tables_1[i]? = some w) (g : goodWord w = true) : w ∈ zWords := List.mem_filter.mpr ⟨List.mem_append_right _ (List.mem_of_getElem? h), g⟩
theorem zmemP {w : Cond} (i : Nat) (h : (k2_sels lw_privs)[i]? = some w) (g : goodWord w = true) : w ∈ zWords := List.mem_filter.mpr ⟨List.mem_append_left _ (List.mem_of_getElem? h), g⟩
theorem zc {w c : Cond} (h : w ∈ zWords) : w ∈ c :: zWords := List.mem_cons_of_mem _ h
theorem zgood {w c0 : Cond} (h : w ∈ zWords) : w ∈ c0 :: zWords ∧ ((w.onTables && w.keeps) = true ∨ ∃ ty, w = .arrayClass ty) := ⟨zc h, good_of_word (List.mem_filter.mp h).2⟩
theorem zgC {w c0 : Cond} (h : w ∈ zWords) : GoodIn (c0 :: zWords) (w :: zWords) := by
  intro v hv
  rcases List.mem_cons.mp hv with e | e
  · rw [e]; exact zgood h
  · exact zgood e
theorem zgV {c0 w : Cond} {own C : String} {idx : Nat} {y : MethodName} (h1 : Cond.methodLink own idx y ∈ zWords) (h2 : Cond.instanceMethod y ∈ zWords) (h3 : Cond.selects C y y ∈ zWords) (h4 : Cond.initialized C ∈ zWords) (h : w ∈ zWords) : GoodIn (c0 :: zWords) (wsV own idx C y (w :: zWords)) := by
  intro v hv
  rcases List.mem_append.mp hv with e | e
  · simp only [List.mem_cons, List.not_mem_nil, or_false] at e
    rcases e with e | e | e | e <;> (rw [e]; apply zgood; assumption)
  · exact zgC h v e
theorem zgS {c0 w : Cond} {own : String} {idx : Nat} {y : MethodName} (h1 : Cond.methodLink own idx y ∈ zWords) (h2 : Cond.static y ∈ zWords) (h4 : Cond.initialized y.cls ∈ zWords) (h : w ∈ zWords) : GoodIn (c0 :: zWords) (va_wsS own idx y (w :: zWords)) := by
  intro v hv
  rcases List.mem_append.mp hv with e | e
  · simp only [List.mem_cons, List.not_mem_nil, or_false] at e
    rcases e with e | e | e <;> (rw [e]; apply zgood; assumption)
  · exact zgC h v e
theorem m_211 : (Jvm.Cond.code ({ cls := "ConditionRows", name := "mostBytes", desc := "(I)I" } : Jvm.MethodName) prog_1_method_17_code (1 : Nat) (Option.some Jvm.ClassFile.FieldType.int)) ∈ zWords := zmem 211 (by decide +kernel) (by decide +kernel)
theorem m_209 : (Jvm.Cond.methodLink "ConditionRows" (66 : Nat) ({ cls := "ConditionRows", name := "mostBytes", desc := "(I)I" } : Jvm.MethodName)) ∈ zWords := zmem 209 (by decide +kernel) (by decide +kernel)
theorem m_210 : (Jvm.Cond.static ({ cls := "ConditionRows", name := "mostBytes", desc := "(I)I" } : Jvm.MethodName)) ∈ zWords := zmem 210 (by decide +kernel) (by decide +kernel)
theorem m_1 : (Jvm.Cond.initialized "ConditionRows") ∈ zWords := zmem 1 (by decide +kernel) (by decide +kernel)
theorem m_175 : (Jvm.Cond.fieldLink "ConditionRows" (10 : Nat) "ConditionRows" "fields" "LConditionRows$Fields;") ∈ zWords := zmem 175 (by decide +kernel) (by decide +kernel)
theorem m_38 : (Jvm.Cond.fieldLink "ConditionRows$Fields" (24 : Nat) "ConditionRows$Fields" "made" "I") ∈ zWords := zmem 38 (by decide +kernel) (by decide +kernel)
theorem m_31 : (Jvm.Cond.fieldLink "ConditionRows$Fields" (9 : Nat) "ConditionRows$Fields" "category" "[I") ∈ zWords := zmem 31 (by decide +kernel) (by decide +kernel)
theorem m_32 : (Jvm.Cond.fieldLink "ConditionRows$Fields" (15 : Nat) "ConditionRows$Fields" "size" "[I") ∈ zWords := zmem 32 (by decide +kernel) (by decide +kernel)
theorem m_36 : (Jvm.Cond.fieldLink "ConditionRows$Fields" (21 : Nat) "ConditionRows$Fields" "bytes" "[I") ∈ zWords := zmem 36 (by decide +kernel) (by decide +kernel)
theorem m_218 : (Jvm.Cond.code ({ cls := "ConditionRows$Fields", name := "firstByte", desc := "(I)I" } : Jvm.MethodName) prog_2_method_6_code (1 : Nat) (Option.some Jvm.ClassFile.FieldType.int)) ∈ zWords := zmem 218 (by decide +kernel) (by decide +kernel)
theorem m_216 : (Jvm.Cond.methodLink "ConditionRows$Fields" (35 : Nat) ({ cls := "ConditionRows$Fields", name := "firstByte", desc := "(I)I" } : Jvm.MethodName)) ∈ zWords := zmem 216 (by decide +kernel) (by decide +kernel)
theorem m_217 : (Jvm.Cond.static ({ cls := "ConditionRows$Fields", name := "firstByte", desc := "(I)I" } : Jvm.MethodName)) ∈ zWords := zmem 217 (by decide +kernel) (by decide +kernel)
theorem m_2 : (Jvm.Cond.initialized "ConditionRows$Fields") ∈ zWords := zmem 2 (by decide +kernel) (by decide +kernel)
theorem m_215 : (Jvm.Cond.code ({ cls := "ConditionRows$Fields", name := "add", desc := "(II)I" } : Jvm.MethodName) prog_2_method_5_code (5 : Nat) (Option.some Jvm.ClassFile.FieldType.int)) ∈ zWords := zmem 215 (by decide +kernel) (by decide +kernel)
theorem m_212 : (Jvm.Cond.methodLink "ConditionRows" (70 : Nat) ({ cls := "ConditionRows$Fields", name := "add", desc := "(II)I" } : Jvm.MethodName)) ∈ zWords := zmem 212 (by decide +kernel) (by decide +kernel)
theorem m_213 : (Jvm.Cond.instanceMethod ({ cls := "ConditionRows$Fields", name := "add", desc := "(II)I" } : Jvm.MethodName)) ∈ zWords := zmem 213 (by decide +kernel) (by decide +kernel)
theorem m_214 : (Jvm.Cond.selects "ConditionRows$Fields" ({ cls := "ConditionRows$Fields", name := "add", desc := "(II)I" } : Jvm.MethodName) ({ cls := "ConditionRows$Fields", name := "add", desc := "(II)I" } : Jvm.MethodName)) ∈ zWords := zmem 214 (by decide +kernel) (by decide +kernel)
theorem m_226 : (Jvm.Cond.code ({ cls := "ConditionRows$Fields", name := "has", desc := "(I)Z" } : Jvm.MethodName) prog_2_method_2_code (2 : Nat) (Option.some Jvm.ClassFile.FieldType.boolean)) ∈ zWords := zmem 226 (by decide +kernel) (by decide +kernel)
theorem m_223 : (Jvm.Cond.methodLink "ConditionRows" (74 : Nat) ({ cls := "ConditionRows$Fields", name := "has", desc := "(I)Z" } : Jvm.MethodName)) ∈ zWords := zmem 223 (by decide +kernel) (by decide +kernel)
theorem m_224 : (Jvm.Cond.instanceMethod ({ cls := "ConditionRows$Fields", name := "has", desc := "(I)Z" } : Jvm.MethodName)) ∈ zWords := zmem 224 (by decide +kernel) (by decide +kernel)
theorem m_225 : (Jvm.Cond.selects "ConditionRows$Fields" ({ cls := "ConditionRows$Fields", name := "has", desc := "(I)Z" } : Jvm.MethodName) ({ cls := "ConditionRows$Fields", name := "has", desc := "(I)Z" } : Jvm.MethodName)) ∈ zWords := zmem 225 (by decide +kernel) (by decide +kernel)
theorem m_235 : (Jvm.Cond.methodLink "ConditionRows$Fields" (28 : Nat) ({ cls := "ConditionRows$Fields", name := "has", desc := "(I)Z" } : Jvm.MethodName)) ∈ zWords := zmem 235 (by decide +kernel) (by decide +kernel)
theorem m_239 : (Jvm.Cond.code ({ cls := "ConditionRows$Fields", name := "isText", desc := "(I)Z" } : Jvm.MethodName) prog_2_method_3_code (2 : Nat) (Option.some Jvm.ClassFile.FieldType.boolean)) ∈ zWords := zmem 239 (by decide +kernel) (by decide +kernel)
theorem m_236 : (Jvm.Cond.methodLink "ConditionRows$Fields" (32 : Nat) ({ cls := "ConditionRows$Fields", name := "isText", desc := "(I)Z" } : Jvm.MethodName)) ∈ zWords := zmem 236 (by decide +kernel) (by decide +kernel)
theorem m_237 : (Jvm.Cond.instanceMethod ({ cls := "ConditionRows$Fields", name := "isText", desc := "(I)Z" } : Jvm.MethodName)) ∈ zWords := zmem 237 (by decide +kernel) (by decide +kernel)
theorem m_238 : (Jvm.Cond.selects "ConditionRows$Fields" ({ cls := "ConditionRows$Fields", name := "isText", desc := "(I)Z" } : Jvm.MethodName) ({ cls := "ConditionRows$Fields", name := "isText", desc := "(I)Z" } : Jvm.MethodName)) ∈ zWords := zmem 238 (by decide +kernel) (by decide +kernel)
theorem m_234 : (Jvm.Cond.code ({ cls := "ConditionRows$Fields", name := "hasNumber", desc := "(I)Z" } : Jvm.MethodName) prog_2_method_4_code (2 : Nat) (Option.some Jvm.ClassFile.FieldType.boolean)) ∈ zWords := zmem 234 (by decide +kernel) (by decide +kernel)
theorem m_231 : (Jvm.Cond.methodLink "ConditionRows" (84 : Nat) ({ cls := "ConditionRows$Fields", name := "hasNumber", desc := "(I)Z" } : Jvm.MethodName)) ∈ zWords := zmem 231 (by decide +kernel) (by decide +kernel)
theorem m_232 : (Jvm.Cond.instanceMethod ({ cls := "ConditionRows$Fields", name := "hasNumber", desc := "(I)Z" } : Jvm.MethodName)) ∈ zWords := zmem 232 (by decide +kernel) (by decide +kernel)
theorem m_233 : (Jvm.Cond.selects "ConditionRows$Fields" ({ cls := "ConditionRows$Fields", name := "hasNumber", desc := "(I)Z" } : Jvm.MethodName) ({ cls := "ConditionRows$Fields", name := "hasNumber", desc := "(I)Z" } : Jvm.MethodName)) ∈ zWords := zmem 233 (by decide +kernel) (by decide +kernel)
theorem m_246 : (Jvm.Cond.code ({ cls := "ConditionRows", name := "isByte", desc := "(I)Z" } : Jvm.MethodName) prog_1_method_18_code (1 : Nat) (Option.some Jvm.ClassFile.FieldType.boolean)) ∈ zWords := zmem 246 (by decide +kernel) (by decide +kernel)
theorem m_244 : (Jvm.Cond.methodLink "ConditionRows" (90 : Nat) ({ cls := "ConditionRows", name := "isByte", desc := "(I)Z" } : Jvm.MethodName)) ∈ zWords := zmem 244 (by decide +kernel) (by decide +kernel)
theorem m_245 : (Jvm.Cond.static ({ cls := "ConditionRows", name := "isByte", desc := "(I)Z" } : Jvm.MethodName)) ∈ zWords := zmem 245 (by decide +kernel) (by decide +kernel)
theorem m_176 : (Jvm.Cond.fieldLink "ConditionRows" (19 : Nat) "ConditionRows" "weights" "LConditionRows$Weights;") ∈ zWords := zmem 176 (by decide +kernel) (by decide +kernel)
theorem m_256 : (Jvm.Cond.code ({ cls := "ConditionRows", name := "isSwitch", desc := "(I)Z" } : Jvm.MethodName) prog_1_method_19_code (1 : Nat) (Option.some Jvm.ClassFile.FieldType.boolean)) ∈ zWords := zmem 256 (by decide +kernel) (by decide +kernel)
theorem m_254 : (Jvm.Cond.methodLink "ConditionRows" (173 : Nat) ({ cls := "ConditionRows", name := "isSwitch", desc := "(I)Z" } : Jvm.MethodName)) ∈ zWords := zmem 254 (by decide +kernel) (by decide +kernel)
theorem m_255 : (Jvm.Cond.static ({ cls := "ConditionRows", name := "isSwitch", desc := "(I)Z" } : Jvm.MethodName)) ∈ zWords := zmem 255 (by decide +kernel) (by decide +kernel)
theorem m_253 : (Jvm.Cond.code ({ cls := "ConditionRows", name := "isInside", desc := "(III)Z" } : Jvm.MethodName) prog_1_method_22_code (3 : Nat) (Option.some Jvm.ClassFile.FieldType.boolean)) ∈ zWords := zmem 253 (by decide +kernel) (by decide +kernel)
theorem m_251 : (Jvm.Cond.methodLink "ConditionRows" (96 : Nat) ({ cls := "ConditionRows", name := "isInside", desc := "(III)Z" } : Jvm.MethodName)) ∈ zWords := zmem 251 (by decide +kernel) (by decide +kernel)
theorem m_252 : (Jvm.Cond.static ({ cls := "ConditionRows", name := "isInside", desc := "(III)Z" } : Jvm.MethodName)) ∈ zWords := zmem 252 (by decide +kernel) (by decide +kernel)
theorem m_177 : (Jvm.Cond.fieldLink "ConditionRows" (26 : Nat) "ConditionRows" "names" "LConditionRows$Names;") ∈ zWords := zmem 177 (by decide +kernel) (by decide +kernel)
theorem m_74 : (Jvm.Cond.fieldLink "ConditionRows$Names" (25 : Nat) "ConditionRows$Names" "made" "I") ∈ zWords := zmem 74 (by decide +kernel) (by decide +kernel)
theorem m_264 : (Jvm.Cond.code ({ cls := "ConditionRows$Names", name := "has", desc := "(I)Z" } : Jvm.MethodName) prog_3_method_2_code (2 : Nat) (Option.some Jvm.ClassFile.FieldType.boolean)) ∈ zWords := zmem 264 (by decide +kernel) (by decide +kernel)
theorem m_261 : (Jvm.Cond.methodLink "ConditionRows" (113 : Nat) ({ cls := "ConditionRows$Names", name := "has", desc := "(I)Z" } : Jvm.MethodName)) ∈ zWords := zmem 261 (by decide +kernel) (by decide +kernel)
theorem m_262 : (Jvm.Cond.instanceMethod ({ cls := "ConditionRows$Names", name := "has", desc := "(I)Z" } : Jvm.MethodName)) ∈ zWords := zmem 262 (by decide +kernel) (by decide +kernel)
theorem m_263 : (Jvm.Cond.selects "ConditionRows$Names" ({ cls := "ConditionRows$Names", name := "has", desc := "(I)Z" } : Jvm.MethodName) ({ cls := "ConditionRows$Names", name := "has", desc := "(I)Z" } : Jvm.MethodName)) ∈ zWords := zmem 263 (by decide +kernel) (by decide +kernel)
theorem m_4 : (Jvm.Cond.initialized "ConditionRows$Names") ∈ zWords := zmem 4 (by decide +kernel) (by decide +kernel)
theorem m_178 : (Jvm.Cond.fieldLink "ConditionRows" (33 : Nat) "ConditionRows" "nodes" "LConditionRows$Nodes;") ∈ zWords := zmem 178 (by decide +kernel) (by decide +kernel)
theorem m_100 : (Jvm.Cond.fieldLink "ConditionRows$Nodes" (21 : Nat) "ConditionRows$Nodes" "made" "I") ∈ zWords := zmem 100 (by decide +kernel) (by decide +kernel)
theorem m_268 : (Jvm.Cond.code ({ cls := "ConditionRows$Nodes", name := "has", desc := "(I)Z" } : Jvm.MethodName) prog_4_method_2_code (2 : Nat) (Option.some Jvm.ClassFile.FieldType.boolean)) ∈ zWords := zmem 268 (by decide +kernel) (by decide +kernel)
theorem m_265 : (Jvm.Cond.methodLink "ConditionRows" (151 : Nat) ({ cls := "ConditionRows$Nodes", name := "has", desc := "(I)Z" } : Jvm.MethodName)) ∈ zWords := zmem 265 (by decide +kernel) (by decide +kernel)
theorem m_266 : (Jvm.Cond.instanceMethod ({ cls := "ConditionRows$Nodes", name := "has", desc := "(I)Z" } : Jvm.MethodName)) ∈ zWords := zmem 266 (by decide +kernel) (by decide +kernel)
theorem m_267 : (Jvm.Cond.selects "ConditionRows$Nodes" ({ cls := "ConditionRows$Nodes", name := "has", desc := "(I)Z" } : Jvm.MethodName) ({ cls := "ConditionRows$Nodes", name := "has", desc := "(I)Z" } : Jvm.MethodName)) ∈ zWords := zmem 267 (by decide +kernel) (by decide +kernel)
theorem m_5 : (Jvm.Cond.initialized "ConditionRows$Nodes") ∈ zWords := zmem 5 (by decide +kernel) (by decide +kernel)
theorem m_260 : (Jvm.Cond.code ({ cls := "ConditionRows", name := "hasParts", desc := "(III)Z" } : Jvm.MethodName) prog_1_method_23_code (4 : Nat) (Option.some Jvm.ClassFile.FieldType.boolean)) ∈ zWords := zmem 260 (by decide +kernel) (by decide +kernel)
theorem m_257 : (Jvm.Cond.methodLink "ConditionRows" (100 : Nat) ({ cls := "ConditionRows", name := "hasParts", desc := "(III)Z" } : Jvm.MethodName)) ∈ zWords := zmem 257 (by decide +kernel) (by decide +kernel)
theorem m_259 : (Jvm.Cond.instanceMethod ({ cls := "ConditionRows", name := "hasParts", desc := "(III)Z" } : Jvm.MethodName)) ∈ zWords := zmem 259 (by decide +kernel) (by decide +kernel)
theorem mp_0 : (Jvm.Cond.selects "ConditionRows" ({ cls := "ConditionRows", name := "hasParts", desc := "(III)Z" } : Jvm.MethodName) ({ cls := "ConditionRows", name := "hasParts", desc := "(III)Z" } : Jvm.MethodName)) ∈ zWords := zmemP 0 (by decide +kernel) (by decide +kernel)
theorem m_94 : (Jvm.Cond.fieldLink "ConditionRows$Nodes" (9 : Nat) "ConditionRows$Nodes" "op" "[I") ∈ zWords := zmem 94 (by decide +kernel) (by decide +kernel)
theorem m_96 : (Jvm.Cond.fieldLink "ConditionRows$Nodes" (15 : Nat) "ConditionRows$Nodes" "a" "[I") ∈ zWords := zmem 96 (by decide +kernel) (by decide +kernel)
theorem m_98 : (Jvm.Cond.fieldLink "ConditionRows$Nodes" (18 : Nat) "ConditionRows$Nodes" "b" "[I") ∈ zWords := zmem 98 (by decide +kernel) (by decide +kernel)
theorem m_272 : (Jvm.Cond.code ({ cls := "ConditionRows$Nodes", name := "add", desc := "(III)I" } : Jvm.MethodName) prog_4_method_3_code (4 : Nat) (Option.some Jvm.ClassFile.FieldType.int)) ∈ zWords := zmem 272 (by decide +kernel) (by decide +kernel)
theorem m_269 : (Jvm.Cond.methodLink "ConditionRows" (103 : Nat) ({ cls := "ConditionRows$Nodes", name := "add", desc := "(III)I" } : Jvm.MethodName)) ∈ zWords := zmem 269 (by decide +kernel) (by decide +kernel)
theorem m_270 : (Jvm.Cond.instanceMethod ({ cls := "ConditionRows$Nodes", name := "add", desc := "(III)I" } : Jvm.MethodName)) ∈ zWords := zmem 270 (by decide +kernel) (by decide +kernel)
theorem m_271 : (Jvm.Cond.selects "ConditionRows$Nodes" ({ cls := "ConditionRows$Nodes", name := "add", desc := "(III)I" } : Jvm.MethodName) ({ cls := "ConditionRows$Nodes", name := "add", desc := "(III)I" } : Jvm.MethodName)) ∈ zWords := zmem 271 (by decide +kernel) (by decide +kernel)
theorem m_281 : (Jvm.Cond.methodLink "ConditionRows" (191 : Nat) ({ cls := "ConditionRows$Fields", name := "isText", desc := "(I)Z" } : Jvm.MethodName)) ∈ zWords := zmem 281 (by decide +kernel) (by decide +kernel)
theorem m_285 : (Jvm.Cond.constantLong "ConditionRows" (200 : Nat) (-9223372036854775808 : Int64)) ∈ zWords := zmem 285 (by decide +kernel) (by decide +kernel)
theorem m_284 : (Jvm.Cond.code ({ cls := "ConditionRows", name := "isBelowUnsigned", desc := "(JJ)Z" } : Jvm.MethodName) prog_1_method_25_code (4 : Nat) (Option.some Jvm.ClassFile.FieldType.boolean)) ∈ zWords := zmem 284 (by decide +kernel) (by decide +kernel)
theorem m_282 : (Jvm.Cond.methodLink "ConditionRows" (194 : Nat) ({ cls := "ConditionRows", name := "isBelowUnsigned", desc := "(JJ)Z" } : Jvm.MethodName)) ∈ zWords := zmem 282 (by decide +kernel) (by decide +kernel)
theorem m_283 : (Jvm.Cond.static ({ cls := "ConditionRows", name := "isBelowUnsigned", desc := "(JJ)Z" } : Jvm.MethodName)) ∈ zWords := zmem 283 (by decide +kernel) (by decide +kernel)
theorem m_280 : (Jvm.Cond.code ({ cls := "ConditionRows", name := "isAbove", desc := "(IJJ)Z" } : Jvm.MethodName) prog_1_method_24_code (6 : Nat) (Option.some Jvm.ClassFile.FieldType.boolean)) ∈ zWords := zmem 280 (by decide +kernel) (by decide +kernel)
theorem m_277 : (Jvm.Cond.methodLink "ConditionRows" (106 : Nat) ({ cls := "ConditionRows", name := "isAbove", desc := "(IJJ)Z" } : Jvm.MethodName)) ∈ zWords := zmem 277 (by decide +kernel) (by decide +kernel)
theorem m_279 : (Jvm.Cond.instanceMethod ({ cls := "ConditionRows", name := "isAbove", desc := "(IJJ)Z" } : Jvm.MethodName)) ∈ zWords := zmem 279 (by decide +kernel) (by decide +kernel)
theorem mp_1 : (Jvm.Cond.selects "ConditionRows" ({ cls := "ConditionRows", name := "isAbove", desc := "(IJJ)Z" } : Jvm.MethodName) ({ cls := "ConditionRows", name := "isAbove", desc := "(IJJ)Z" } : Jvm.MethodName)) ∈ zWords := zmemP 1 (by decide +kernel) (by decide +kernel)
theorem m_69 : (Jvm.Cond.fieldLink "ConditionRows$Names" (9 : Nat) "ConditionRows$Names" "field" "[I") ∈ zWords := zmem 69 (by decide +kernel) (by decide +kernel)
theorem m_71 : (Jvm.Cond.fieldLink "ConditionRows$Names" (15 : Nat) "ConditionRows$Names" "ranges" "[I") ∈ zWords := zmem 71 (by decide +kernel) (by decide +kernel)
theorem m_72 : (Jvm.Cond.fieldLink "ConditionRows$Names" (18 : Nat) "ConditionRows$Names" "low" "[J") ∈ zWords := zmem 72 (by decide +kernel) (by decide +kernel)
theorem m_73 : (Jvm.Cond.fieldLink "ConditionRows$Names" (22 : Nat) "ConditionRows$Names" "high" "[J") ∈ zWords := zmem 73 (by decide +kernel) (by decide +kernel)
theorem m_293 : (Jvm.Cond.code ({ cls := "ConditionRows$Names", name := "widen", desc := "(IJJ)I" } : Jvm.MethodName) prog_3_method_4_code (7 : Nat) (Option.some Jvm.ClassFile.FieldType.int)) ∈ zWords := zmem 293 (by decide +kernel) (by decide +kernel)
theorem m_290 : (Jvm.Cond.methodLink "ConditionRows$Names" (29 : Nat) ({ cls := "ConditionRows$Names", name := "widen", desc := "(IJJ)I" } : Jvm.MethodName)) ∈ zWords := zmem 290 (by decide +kernel) (by decide +kernel)
theorem m_291 : (Jvm.Cond.instanceMethod ({ cls := "ConditionRows$Names", name := "widen", desc := "(IJJ)I" } : Jvm.MethodName)) ∈ zWords := zmem 291 (by decide +kernel) (by decide +kernel)
theorem m_292 : (Jvm.Cond.selects "ConditionRows$Names" ({ cls := "ConditionRows$Names", name := "widen", desc := "(IJJ)I" } : Jvm.MethodName) ({ cls := "ConditionRows$Names", name := "widen", desc := "(IJJ)I" } : Jvm.MethodName)) ∈ zWords := zmem 292 (by decide +kernel) (by decide +kernel)
theorem m_289 : (Jvm.Cond.code ({ cls := "ConditionRows$Names", name := "add", desc := "(IJJ)I" } : Jvm.MethodName) prog_3_method_3_code (6 : Nat) (Option.some Jvm.ClassFile.FieldType.int)) ∈ zWords := zmem 289 (by decide +kernel) (by decide +kernel)
theorem m_286 : (Jvm.Cond.methodLink "ConditionRows" (110 : Nat) ({ cls := "ConditionRows$Names", name := "add", desc := "(IJJ)I" } : Jvm.MethodName)) ∈ zWords := zmem 286 (by decide +kernel) (by decide +kernel)
theorem m_287 : (Jvm.Cond.instanceMethod ({ cls := "ConditionRows$Names", name := "add", desc := "(IJJ)I" } : Jvm.MethodName)) ∈ zWords := zmem 287 (by decide +kernel) (by decide +kernel)
theorem m_288 : (Jvm.Cond.selects "ConditionRows$Names" ({ cls := "ConditionRows$Names", name := "add", desc := "(IJJ)I" } : Jvm.MethodName) ({ cls := "ConditionRows$Names", name := "add", desc := "(IJJ)I" } : Jvm.MethodName)) ∈ zWords := zmem 288 (by decide +kernel) (by decide +kernel)
theorem m_298 : (Jvm.Cond.methodLink "ConditionRows" (117 : Nat) ({ cls := "ConditionRows$Names", name := "widen", desc := "(IJJ)I" } : Jvm.MethodName)) ∈ zWords := zmem 298 (by decide +kernel) (by decide +kernel)
theorem m_305 : (Jvm.Cond.code ({ cls := "ConditionRows", name := "isRelation", desc := "(I)Z" } : Jvm.MethodName) prog_1_method_20_code (1 : Nat) (Option.some Jvm.ClassFile.FieldType.boolean)) ∈ zWords := zmem 305 (by decide +kernel) (by decide +kernel)
theorem m_303 : (Jvm.Cond.methodLink "ConditionRows" (120 : Nat) ({ cls := "ConditionRows", name := "isRelation", desc := "(I)Z" } : Jvm.MethodName)) ∈ zWords := zmem 303 (by decide +kernel) (by decide +kernel)
theorem m_304 : (Jvm.Cond.static ({ cls := "ConditionRows", name := "isRelation", desc := "(I)Z" } : Jvm.MethodName)) ∈ zWords := zmem 304 (by decide +kernel) (by decide +kernel)
theorem m_179 : (Jvm.Cond.fieldLink "ConditionRows" (40 : Nat) "ConditionRows" "row" "LConditionRows$Row;") ∈ zWords := zmem 179 (by decide +kernel) (by decide +kernel)
theorem m_129 : (Jvm.Cond.fieldLink "ConditionRows$Row" (25 : Nat) "ConditionRows$Row" "length" "I") ∈ zWords := zmem 129 (by decide +kernel) (by decide +kernel)
theorem m_125 : (Jvm.Cond.fieldLink "ConditionRows$Row" (29 : Nat) "ConditionRows$Row" "subject" "I") ∈ zWords := zmem 125 (by decide +kernel) (by decide +kernel)
theorem m_117 : (Jvm.Cond.fieldLink "ConditionRows$Row" (9 : Nat) "ConditionRows$Row" "with" "[I") ∈ zWords := zmem 117 (by decide +kernel) (by decide +kernel)
theorem m_119 : (Jvm.Cond.fieldLink "ConditionRows$Row" (15 : Nat) "ConditionRows$Row" "op" "[I") ∈ zWords := zmem 119 (by decide +kernel) (by decide +kernel)
theorem m_121 : (Jvm.Cond.fieldLink "ConditionRows$Row" (18 : Nat) "ConditionRows$Row" "negated" "[Z") ∈ zWords := zmem 121 (by decide +kernel) (by decide +kernel)
theorem m_123 : (Jvm.Cond.fieldLink "ConditionRows$Row" (22 : Nat) "ConditionRows$Row" "object" "[I") ∈ zWords := zmem 123 (by decide +kernel) (by decide +kernel)
theorem m_127 : (Jvm.Cond.fieldLink "ConditionRows$Row" (36 : Nat) "ConditionRows$Row" "carried" "I") ∈ zWords := zmem 127 (by decide +kernel) (by decide +kernel)
theorem m_313 : (Jvm.Cond.code ({ cls := "ConditionRows$Row", name := "append", desc := "(IIZI)V" } : Jvm.MethodName) prog_5_method_3_code (5 : Nat) (Option.none : Option Jvm.ClassFile.FieldType)) ∈ zWords := zmem 313 (by decide +kernel) (by decide +kernel)
theorem m_310 : (Jvm.Cond.methodLink "ConditionRows$Row" (32 : Nat) ({ cls := "ConditionRows$Row", name := "append", desc := "(IIZI)V" } : Jvm.MethodName)) ∈ zWords := zmem 310 (by decide +kernel) (by decide +kernel)
theorem m_311 : (Jvm.Cond.instanceMethod ({ cls := "ConditionRows$Row", name := "append", desc := "(IIZI)V" } : Jvm.MethodName)) ∈ zWords := zmem 311 (by decide +kernel) (by decide +kernel)
theorem m_312 : (Jvm.Cond.selects "ConditionRows$Row" ({ cls := "ConditionRows$Row", name := "append", desc := "(IIZI)V" } : Jvm.MethodName) ({ cls := "ConditionRows$Row", name := "append", desc := "(IIZI)V" } : Jvm.MethodName)) ∈ zWords := zmem 312 (by decide +kernel) (by decide +kernel)
theorem m_6 : (Jvm.Cond.initialized "ConditionRows$Row") ∈ zWords := zmem 6 (by decide +kernel) (by decide +kernel)
theorem m_309 : (Jvm.Cond.code ({ cls := "ConditionRows$Row", name := "begin", desc := "(III)V" } : Jvm.MethodName) prog_5_method_2_code (4 : Nat) (Option.none : Option Jvm.ClassFile.FieldType)) ∈ zWords := zmem 309 (by decide +kernel) (by decide +kernel)
theorem m_306 : (Jvm.Cond.methodLink "ConditionRows" (123 : Nat) ({ cls := "ConditionRows$Row", name := "begin", desc := "(III)V" } : Jvm.MethodName)) ∈ zWords := zmem 306 (by decide +kernel) (by decide +kernel)
theorem m_307 : (Jvm.Cond.instanceMethod ({ cls := "ConditionRows$Row", name := "begin", desc := "(III)V" } : Jvm.MethodName)) ∈ zWords := zmem 307 (by decide +kernel) (by decide +kernel)
theorem m_308 : (Jvm.Cond.selects "ConditionRows$Row" ({ cls := "ConditionRows$Row", name := "begin", desc := "(III)V" } : Jvm.MethodName) ({ cls := "ConditionRows$Row", name := "begin", desc := "(III)V" } : Jvm.MethodName)) ∈ zWords := zmem 308 (by decide +kernel) (by decide +kernel)
theorem m_318 : (Jvm.Cond.methodLink "ConditionRows" (134 : Nat) ({ cls := "ConditionRows$Row", name := "append", desc := "(IIZI)V" } : Jvm.MethodName)) ∈ zWords := zmem 318 (by decide +kernel) (by decide +kernel)
theorem m_321 : (Jvm.Cond.code ({ cls := "ConditionRows", name := "turned", desc := "(I)I" } : Jvm.MethodName) prog_1_method_21_code (1 : Nat) (Option.some Jvm.ClassFile.FieldType.int)) ∈ zWords := zmem 321 (by decide +kernel) (by decide +kernel)
theorem m_319 : (Jvm.Cond.methodLink "ConditionRows" (138 : Nat) ({ cls := "ConditionRows", name := "turned", desc := "(I)I" } : Jvm.MethodName)) ∈ zWords := zmem 319 (by decide +kernel) (by decide +kernel)
theorem m_320 : (Jvm.Cond.static ({ cls := "ConditionRows", name := "turned", desc := "(I)I" } : Jvm.MethodName)) ∈ zWords := zmem 320 (by decide +kernel) (by decide +kernel)
theorem m_329 : (Jvm.Cond.code ({ cls := "ConditionRows$Row", name := "nodesNeeded", desc := "()I" } : Jvm.MethodName) prog_5_method_4_code (3 : Nat) (Option.some Jvm.ClassFile.FieldType.int)) ∈ zWords := zmem 329 (by decide +kernel) (by decide +kernel)
theorem m_326 : (Jvm.Cond.methodLink "ConditionRows" (141 : Nat) ({ cls := "ConditionRows$Row", name := "nodesNeeded", desc := "()I" } : Jvm.MethodName)) ∈ zWords := zmem 326 (by decide +kernel) (by decide +kernel)
theorem m_327 : (Jvm.Cond.instanceMethod ({ cls := "ConditionRows$Row", name := "nodesNeeded", desc := "()I" } : Jvm.MethodName)) ∈ zWords := zmem 327 (by decide +kernel) (by decide +kernel)
theorem m_328 : (Jvm.Cond.selects "ConditionRows$Row" ({ cls := "ConditionRows$Row", name := "nodesNeeded", desc := "()I" } : Jvm.MethodName) ({ cls := "ConditionRows$Row", name := "nodesNeeded", desc := "()I" } : Jvm.MethodName)) ∈ zWords := zmem 328 (by decide +kernel) (by decide +kernel)
theorem m_337 : (Jvm.Cond.code ({ cls := "ConditionRows", name := "joined", desc := "(III)I" } : Jvm.MethodName) prog_1_method_29_code (4 : Nat) (Option.some Jvm.ClassFile.FieldType.int)) ∈ zWords := zmem 337 (by decide +kernel) (by decide +kernel)
theorem m_334 : (Jvm.Cond.methodLink "ConditionRows" (205 : Nat) ({ cls := "ConditionRows", name := "joined", desc := "(III)I" } : Jvm.MethodName)) ∈ zWords := zmem 334 (by decide +kernel) (by decide +kernel)
theorem m_336 : (Jvm.Cond.instanceMethod ({ cls := "ConditionRows", name := "joined", desc := "(III)I" } : Jvm.MethodName)) ∈ zWords := zmem 336 (by decide +kernel) (by decide +kernel)
theorem mp_3 : (Jvm.Cond.selects "ConditionRows" ({ cls := "ConditionRows", name := "joined", desc := "(III)I" } : Jvm.MethodName) ({ cls := "ConditionRows", name := "joined", desc := "(III)I" } : Jvm.MethodName)) ∈ zWords := zmemP 3 (by decide +kernel) (by decide +kernel)
theorem m_341 : (Jvm.Cond.code ({ cls := "ConditionRows", name := "relationNode", desc := "(I)I" } : Jvm.MethodName) prog_1_method_28_code (3 : Nat) (Option.some Jvm.ClassFile.FieldType.int)) ∈ zWords := zmem 341 (by decide +kernel) (by decide +kernel)
theorem m_338 : (Jvm.Cond.methodLink "ConditionRows" (208 : Nat) ({ cls := "ConditionRows", name := "relationNode", desc := "(I)I" } : Jvm.MethodName)) ∈ zWords := zmem 338 (by decide +kernel) (by decide +kernel)
theorem m_340 : (Jvm.Cond.instanceMethod ({ cls := "ConditionRows", name := "relationNode", desc := "(I)I" } : Jvm.MethodName)) ∈ zWords := zmem 340 (by decide +kernel) (by decide +kernel)
theorem mp_4 : (Jvm.Cond.selects "ConditionRows" ({ cls := "ConditionRows", name := "relationNode", desc := "(I)I" } : Jvm.MethodName) ({ cls := "ConditionRows", name := "relationNode", desc := "(I)I" } : Jvm.MethodName)) ∈ zWords := zmemP 4 (by decide +kernel) (by decide +kernel)
theorem m_333 : (Jvm.Cond.code ({ cls := "ConditionRows", name := "unfoldRow", desc := "()I" } : Jvm.MethodName) prog_1_method_27_code (4 : Nat) (Option.some Jvm.ClassFile.FieldType.int)) ∈ zWords := zmem 333 (by decide +kernel) (by decide +kernel)
theorem m_330 : (Jvm.Cond.methodLink "ConditionRows" (148 : Nat) ({ cls := "ConditionRows", name := "unfoldRow", desc := "()I" } : Jvm.MethodName)) ∈ zWords := zmem 330 (by decide +kernel) (by decide +kernel)
theorem m_332 : (Jvm.Cond.instanceMethod ({ cls := "ConditionRows", name := "unfoldRow", desc := "()I" } : Jvm.MethodName)) ∈ zWords := zmem 332 (by decide +kernel) (by decide +kernel)
theorem mp_2 : (Jvm.Cond.selects "ConditionRows" ({ cls := "ConditionRows", name := "unfoldRow", desc := "()I" } : Jvm.MethodName) ({ cls := "ConditionRows", name := "unfoldRow", desc := "()I" } : Jvm.MethodName)) ∈ zWords := zmemP 2 (by decide +kernel) (by decide +kernel)
theorem m_180 : (Jvm.Cond.fieldLink "ConditionRows" (47 : Nat) "ConditionRows" "testing" "LConditionRows$Testing;") ∈ zWords := zmem 180 (by decide +kernel) (by decide +kernel)
theorem m_159 : (Jvm.Cond.fieldLink "ConditionRows$Testing" (21 : Nat) "ConditionRows$Testing" "noted" "I") ∈ zWords := zmem 159 (by decide +kernel) (by decide +kernel)
theorem m_161 : (Jvm.Cond.fieldLink "ConditionRows$Testing" (25 : Nat) "ConditionRows$Testing" "depth" "I") ∈ zWords := zmem 161 (by decide +kernel) (by decide +kernel)
theorem m_153 : (Jvm.Cond.fieldLink "ConditionRows$Testing" (9 : Nat) "ConditionRows$Testing" "outcome" "[I") ∈ zWords := zmem 153 (by decide +kernel) (by decide +kernel)
theorem m_444 : (Jvm.Cond.code ({ cls := "ConditionRows$Testing", name := "begin", desc := "()V" } : Jvm.MethodName) prog_6_method_2_code (2 : Nat) (Option.none : Option Jvm.ClassFile.FieldType)) ∈ zWords := zmem 444 (by decide +kernel) (by decide +kernel)
theorem m_441 : (Jvm.Cond.methodLink "ConditionRows" (223 : Nat) ({ cls := "ConditionRows$Testing", name := "begin", desc := "()V" } : Jvm.MethodName)) ∈ zWords := zmem 441 (by decide +kernel) (by decide +kernel)
theorem m_442 : (Jvm.Cond.instanceMethod ({ cls := "ConditionRows$Testing", name := "begin", desc := "()V" } : Jvm.MethodName)) ∈ zWords := zmem 442 (by decide +kernel) (by decide +kernel)
theorem m_443 : (Jvm.Cond.selects "ConditionRows$Testing" ({ cls := "ConditionRows$Testing", name := "begin", desc := "()V" } : Jvm.MethodName) ({ cls := "ConditionRows$Testing", name := "begin", desc := "()V" } : Jvm.MethodName)) ∈ zWords := zmem 443 (by decide +kernel) (by decide +kernel)
theorem m_7 : (Jvm.Cond.initialized "ConditionRows$Testing") ∈ zWords := zmem 7 (by decide +kernel) (by decide +kernel)
theorem m_157 : (Jvm.Cond.fieldLink "ConditionRows$Testing" (18 : Nat) "ConditionRows$Testing" "waiting" "[I") ∈ zWords := zmem 157 (by decide +kernel) (by decide +kernel)
theorem m_448 : (Jvm.Cond.code ({ cls := "ConditionRows$Testing", name := "open", desc := "(I)V" } : Jvm.MethodName) prog_6_method_3_code (2 : Nat) (Option.none : Option Jvm.ClassFile.FieldType)) ∈ zWords := zmem 448 (by decide +kernel) (by decide +kernel)
theorem m_445 : (Jvm.Cond.methodLink "ConditionRows" (225 : Nat) ({ cls := "ConditionRows$Testing", name := "open", desc := "(I)V" } : Jvm.MethodName)) ∈ zWords := zmem 445 (by decide +kernel) (by decide +kernel)
theorem m_446 : (Jvm.Cond.instanceMethod ({ cls := "ConditionRows$Testing", name := "open", desc := "(I)V" } : Jvm.MethodName)) ∈ zWords := zmem 446 (by decide +kernel) (by decide +kernel)
theorem m_447 : (Jvm.Cond.selects "ConditionRows$Testing" ({ cls := "ConditionRows$Testing", name := "open", desc := "(I)V" } : Jvm.MethodName) ({ cls := "ConditionRows$Testing", name := "open", desc := "(I)V" } : Jvm.MethodName)) ∈ zWords := zmem 447 (by decide +kernel) (by decide +kernel)
theorem m_174 : (Jvm.Cond.fieldLink "ConditionRows" (62 : Nat) "ConditionRows" "whole" "Z") ∈ zWords := zmem 174 (by decide +kernel) (by decide +kernel)
theorem m_455 : (Jvm.Cond.code ({ cls := "ConditionRows", name := "settledBy", desc := "(I)I" } : Jvm.MethodName) prog_1_method_32_code (1 : Nat) (Option.some Jvm.ClassFile.FieldType.int)) ∈ zWords := zmem 455 (by decide +kernel) (by decide +kernel)
theorem m_453 : (Jvm.Cond.methodLink "ConditionRows" (257 : Nat) ({ cls := "ConditionRows", name := "settledBy", desc := "(I)I" } : Jvm.MethodName)) ∈ zWords := zmem 453 (by decide +kernel) (by decide +kernel)
theorem m_454 : (Jvm.Cond.static ({ cls := "ConditionRows", name := "settledBy", desc := "(I)I" } : Jvm.MethodName)) ∈ zWords := zmem 454 (by decide +kernel) (by decide +kernel)
theorem m_452 : (Jvm.Cond.code ({ cls := "ConditionRows", name := "partToTest", desc := "(I)I" } : Jvm.MethodName) prog_1_method_31_code (4 : Nat) (Option.some Jvm.ClassFile.FieldType.int)) ∈ zWords := zmem 452 (by decide +kernel) (by decide +kernel)
theorem m_449 : (Jvm.Cond.methodLink "ConditionRows" (235 : Nat) ({ cls := "ConditionRows", name := "partToTest", desc := "(I)I" } : Jvm.MethodName)) ∈ zWords := zmem 449 (by decide +kernel) (by decide +kernel)
theorem m_451 : (Jvm.Cond.instanceMethod ({ cls := "ConditionRows", name := "partToTest", desc := "(I)I" } : Jvm.MethodName)) ∈ zWords := zmem 451 (by decide +kernel) (by decide +kernel)
theorem mp_8 : (Jvm.Cond.selects "ConditionRows" ({ cls := "ConditionRows", name := "partToTest", desc := "(I)I" } : Jvm.MethodName) ({ cls := "ConditionRows", name := "partToTest", desc := "(I)I" } : Jvm.MethodName)) ∈ zWords := zmemP 8 (by decide +kernel) (by decide +kernel)
theorem m_480 : (Jvm.Cond.code ({ cls := "ConditionRows", name := "asOutcome", desc := "(Z)I" } : Jvm.MethodName) prog_1_method_35_code (1 : Nat) (Option.some Jvm.ClassFile.FieldType.int)) ∈ zWords := zmem 480 (by decide +kernel) (by decide +kernel)
theorem m_478 : (Jvm.Cond.methodLink "ConditionRows" (260 : Nat) ({ cls := "ConditionRows", name := "asOutcome", desc := "(Z)I" } : Jvm.MethodName)) ∈ zWords := zmem 478 (by decide +kernel) (by decide +kernel)
theorem m_479 : (Jvm.Cond.static ({ cls := "ConditionRows", name := "asOutcome", desc := "(Z)I" } : Jvm.MethodName)) ∈ zWords := zmem 479 (by decide +kernel) (by decide +kernel)
theorem m_561 : (Jvm.Cond.code ({ cls := "ConditionRows", name := "joinedOutcome", desc := "(I)I" } : Jvm.MethodName) prog_1_method_33_code (4 : Nat) (Option.some Jvm.ClassFile.FieldType.int)) ∈ zWords := zmem 561 (by decide +kernel) (by decide +kernel)
theorem m_558 : (Jvm.Cond.methodLink "ConditionRows" (242 : Nat) ({ cls := "ConditionRows", name := "joinedOutcome", desc := "(I)I" } : Jvm.MethodName)) ∈ zWords := zmem 558 (by decide +kernel) (by decide +kernel)
theorem m_560 : (Jvm.Cond.instanceMethod ({ cls := "ConditionRows", name := "joinedOutcome", desc := "(I)I" } : Jvm.MethodName)) ∈ zWords := zmem 560 (by decide +kernel) (by decide +kernel)
theorem mp_16 : (Jvm.Cond.selects "ConditionRows" ({ cls := "ConditionRows", name := "joinedOutcome", desc := "(I)I" } : Jvm.MethodName) ({ cls := "ConditionRows", name := "joinedOutcome", desc := "(I)I" } : Jvm.MethodName)) ∈ zWords := zmemP 16 (by decide +kernel) (by decide +kernel)
theorem m_565 : (Jvm.Cond.code ({ cls := "ConditionRows$Testing", name := "close", desc := "(I)V" } : Jvm.MethodName) prog_6_method_4_code (2 : Nat) (Option.none : Option Jvm.ClassFile.FieldType)) ∈ zWords := zmem 565 (by decide +kernel) (by decide +kernel)
theorem m_562 : (Jvm.Cond.methodLink "ConditionRows" (245 : Nat) ({ cls := "ConditionRows$Testing", name := "close", desc := "(I)V" } : Jvm.MethodName)) ∈ zWords := zmem 562 (by decide +kernel) (by decide +kernel)
theorem m_563 : (Jvm.Cond.instanceMethod ({ cls := "ConditionRows$Testing", name := "close", desc := "(I)V" } : Jvm.MethodName)) ∈ zWords := zmem 563 (by decide +kernel) (by decide +kernel)
theorem m_564 : (Jvm.Cond.selects "ConditionRows$Testing" ({ cls := "ConditionRows$Testing", name := "close", desc := "(I)V" } : Jvm.MethodName) ({ cls := "ConditionRows$Testing", name := "close", desc := "(I)V" } : Jvm.MethodName)) ∈ zWords := zmem 564 (by decide +kernel) (by decide +kernel)
theorem m_155 : (Jvm.Cond.fieldLink "ConditionRows$Testing" (15 : Nat) "ConditionRows$Testing" "leaves" "[I") ∈ zWords := zmem 155 (by decide +kernel) (by decide +kernel)
theorem m_463 : (Jvm.Cond.code ({ cls := "ConditionRows$Testing", name := "note", desc := "(I)V" } : Jvm.MethodName) prog_6_method_5_code (2 : Nat) (Option.none : Option Jvm.ClassFile.FieldType)) ∈ zWords := zmem 463 (by decide +kernel) (by decide +kernel)
theorem m_460 : (Jvm.Cond.methodLink "ConditionRows" (264 : Nat) ({ cls := "ConditionRows$Testing", name := "note", desc := "(I)V" } : Jvm.MethodName)) ∈ zWords := zmem 460 (by decide +kernel) (by decide +kernel)
theorem m_461 : (Jvm.Cond.instanceMethod ({ cls := "ConditionRows$Testing", name := "note", desc := "(I)V" } : Jvm.MethodName)) ∈ zWords := zmem 461 (by decide +kernel) (by decide +kernel)
theorem m_462 : (Jvm.Cond.selects "ConditionRows$Testing" ({ cls := "ConditionRows$Testing", name := "note", desc := "(I)V" } : Jvm.MethodName) ({ cls := "ConditionRows$Testing", name := "note", desc := "(I)V" } : Jvm.MethodName)) ∈ zWords := zmem 462 (by decide +kernel) (by decide +kernel)
theorem m_474 : (Jvm.Cond.code ({ cls := "ConditionRows$Fields", name := "isDigit", desc := "(I)Z" } : Jvm.MethodName) prog_2_method_7_code (1 : Nat) (Option.some Jvm.ClassFile.FieldType.boolean)) ∈ zWords := zmem 474 (by decide +kernel) (by decide +kernel)
theorem m_472 : (Jvm.Cond.methodLink "ConditionRows$Fields" (39 : Nat) ({ cls := "ConditionRows$Fields", name := "isDigit", desc := "(I)Z" } : Jvm.MethodName)) ∈ zWords := zmem 472 (by decide +kernel) (by decide +kernel)
theorem m_473 : (Jvm.Cond.static ({ cls := "ConditionRows$Fields", name := "isDigit", desc := "(I)Z" } : Jvm.MethodName)) ∈ zWords := zmem 473 (by decide +kernel) (by decide +kernel)
theorem m_471 : (Jvm.Cond.code ({ cls := "ConditionRows$Fields", name := "isBad", desc := "(I)Z" } : Jvm.MethodName) prog_2_method_8_code (4 : Nat) (Option.some Jvm.ClassFile.FieldType.boolean)) ∈ zWords := zmem 471 (by decide +kernel) (by decide +kernel)
theorem m_468 : (Jvm.Cond.methodLink "ConditionRows$Fields" (42 : Nat) ({ cls := "ConditionRows$Fields", name := "isBad", desc := "(I)Z" } : Jvm.MethodName)) ∈ zWords := zmem 468 (by decide +kernel) (by decide +kernel)
theorem m_469 : (Jvm.Cond.instanceMethod ({ cls := "ConditionRows$Fields", name := "isBad", desc := "(I)Z" } : Jvm.MethodName)) ∈ zWords := zmem 469 (by decide +kernel) (by decide +kernel)
theorem m_470 : (Jvm.Cond.selects "ConditionRows$Fields" ({ cls := "ConditionRows$Fields", name := "isBad", desc := "(I)Z" } : Jvm.MethodName) ({ cls := "ConditionRows$Fields", name := "isBad", desc := "(I)Z" } : Jvm.MethodName)) ∈ zWords := zmem 470 (by decide +kernel) (by decide +kernel)
theorem m_477 : (Jvm.Cond.code ({ cls := "ConditionRows$Fields", name := "fits", desc := "(II)Z" } : Jvm.MethodName) prog_2_method_10_code (4 : Nat) (Option.some Jvm.ClassFile.FieldType.boolean)) ∈ zWords := zmem 477 (by decide +kernel) (by decide +kernel)
theorem m_475 : (Jvm.Cond.methodLink "ConditionRows$Fields" (45 : Nat) ({ cls := "ConditionRows$Fields", name := "fits", desc := "(II)Z" } : Jvm.MethodName)) ∈ zWords := zmem 475 (by decide +kernel) (by decide +kernel)
theorem m_476 : (Jvm.Cond.static ({ cls := "ConditionRows$Fields", name := "fits", desc := "(II)Z" } : Jvm.MethodName)) ∈ zWords := zmem 476 (by decide +kernel) (by decide +kernel)
theorem m_467 : (Jvm.Cond.code ({ cls := "ConditionRows$Fields", name := "isOfClass", desc := "(II)Z" } : Jvm.MethodName) prog_2_method_9_code (5 : Nat) (Option.some Jvm.ClassFile.FieldType.boolean)) ∈ zWords := zmem 467 (by decide +kernel) (by decide +kernel)
theorem m_464 : (Jvm.Cond.methodLink "ConditionRows" (267 : Nat) ({ cls := "ConditionRows$Fields", name := "isOfClass", desc := "(II)Z" } : Jvm.MethodName)) ∈ zWords := zmem 464 (by decide +kernel) (by decide +kernel)
theorem m_465 : (Jvm.Cond.instanceMethod ({ cls := "ConditionRows$Fields", name := "isOfClass", desc := "(II)Z" } : Jvm.MethodName)) ∈ zWords := zmem 465 (by decide +kernel) (by decide +kernel)
theorem m_466 : (Jvm.Cond.selects "ConditionRows$Fields" ({ cls := "ConditionRows$Fields", name := "isOfClass", desc := "(II)Z" } : Jvm.MethodName) ({ cls := "ConditionRows$Fields", name := "isOfClass", desc := "(II)Z" } : Jvm.MethodName)) ∈ zWords := zmem 466 (by decide +kernel) (by decide +kernel)
theorem m_481 : (Jvm.Cond.methodLink "ConditionRows" (178 : Nat) ({ cls := "ConditionRows$Fields", name := "isBad", desc := "(I)Z" } : Jvm.MethodName)) ∈ zWords := zmem 481 (by decide +kernel) (by decide +kernel)
theorem m_495 : (Jvm.Cond.constantLong "ConditionRows$Fields" (58 : Nat) (-1 : Int64)) ∈ zWords := zmem 495 (by decide +kernel) (by decide +kernel)
theorem m_494 : (Jvm.Cond.code ({ cls := "ConditionRows$Fields", name := "binaryValue", desc := "(I)J" } : Jvm.MethodName) prog_2_method_13_code (6 : Nat) (Option.some Jvm.ClassFile.FieldType.long)) ∈ zWords := zmem 494 (by decide +kernel) (by decide +kernel)
theorem m_491 : (Jvm.Cond.methodLink "ConditionRows$Fields" (53 : Nat) ({ cls := "ConditionRows$Fields", name := "binaryValue", desc := "(I)J" } : Jvm.MethodName)) ∈ zWords := zmem 491 (by decide +kernel) (by decide +kernel)
theorem m_493 : (Jvm.Cond.instanceMethod ({ cls := "ConditionRows$Fields", name := "binaryValue", desc := "(I)J" } : Jvm.MethodName)) ∈ zWords := zmem 493 (by decide +kernel) (by decide +kernel)
theorem mp_11 : (Jvm.Cond.selects "ConditionRows$Fields" ({ cls := "ConditionRows$Fields", name := "binaryValue", desc := "(I)J" } : Jvm.MethodName) ({ cls := "ConditionRows$Fields", name := "binaryValue", desc := "(I)J" } : Jvm.MethodName)) ∈ zWords := zmemP 11 (by decide +kernel) (by decide +kernel)
theorem m_490 : (Jvm.Cond.constantLong "ConditionRows$Fields" (56 : Nat) (10 : Int64)) ∈ zWords := zmem 490 (by decide +kernel) (by decide +kernel)
theorem m_489 : (Jvm.Cond.code ({ cls := "ConditionRows$Fields", name := "digitsValue", desc := "(I)J" } : Jvm.MethodName) prog_2_method_12_code (6 : Nat) (Option.some Jvm.ClassFile.FieldType.long)) ∈ zWords := zmem 489 (by decide +kernel) (by decide +kernel)
theorem m_486 : (Jvm.Cond.methodLink "ConditionRows$Fields" (49 : Nat) ({ cls := "ConditionRows$Fields", name := "digitsValue", desc := "(I)J" } : Jvm.MethodName)) ∈ zWords := zmem 486 (by decide +kernel) (by decide +kernel)
theorem m_488 : (Jvm.Cond.instanceMethod ({ cls := "ConditionRows$Fields", name := "digitsValue", desc := "(I)J" } : Jvm.MethodName)) ∈ zWords := zmem 488 (by decide +kernel) (by decide +kernel)
theorem mp_10 : (Jvm.Cond.selects "ConditionRows$Fields" ({ cls := "ConditionRows$Fields", name := "digitsValue", desc := "(I)J" } : Jvm.MethodName) ({ cls := "ConditionRows$Fields", name := "digitsValue", desc := "(I)J" } : Jvm.MethodName)) ∈ zWords := zmemP 10 (by decide +kernel) (by decide +kernel)
theorem m_485 : (Jvm.Cond.code ({ cls := "ConditionRows$Fields", name := "value", desc := "(I)J" } : Jvm.MethodName) prog_2_method_11_code (2 : Nat) (Option.some Jvm.ClassFile.FieldType.long)) ∈ zWords := zmem 485 (by decide +kernel) (by decide +kernel)
theorem m_482 : (Jvm.Cond.methodLink "ConditionRows" (271 : Nat) ({ cls := "ConditionRows$Fields", name := "value", desc := "(I)J" } : Jvm.MethodName)) ∈ zWords := zmem 482 (by decide +kernel) (by decide +kernel)
theorem m_483 : (Jvm.Cond.instanceMethod ({ cls := "ConditionRows$Fields", name := "value", desc := "(I)J" } : Jvm.MethodName)) ∈ zWords := zmem 483 (by decide +kernel) (by decide +kernel)
theorem m_484 : (Jvm.Cond.selects "ConditionRows$Fields" ({ cls := "ConditionRows$Fields", name := "value", desc := "(I)J" } : Jvm.MethodName) ({ cls := "ConditionRows$Fields", name := "value", desc := "(I)J" } : Jvm.MethodName)) ∈ zWords := zmem 484 (by decide +kernel) (by decide +kernel)
theorem m_498 : (Jvm.Cond.code ({ cls := "java/lang/Long", name := "compare", desc := "(JJ)I" } : Jvm.MethodName) prog_14_method_42_code (4 : Nat) (Option.some Jvm.ClassFile.FieldType.int)) ∈ zWords := zmem 498 (by decide +kernel) (by decide +kernel)
theorem m_496 : (Jvm.Cond.methodLink "ConditionRows" (275 : Nat) ({ cls := "java/lang/Long", name := "compare", desc := "(JJ)I" } : Jvm.MethodName)) ∈ zWords := zmem 496 (by decide +kernel) (by decide +kernel)
theorem m_497 : (Jvm.Cond.static ({ cls := "java/lang/Long", name := "compare", desc := "(JJ)I" } : Jvm.MethodName)) ∈ zWords := zmem 497 (by decide +kernel) (by decide +kernel)
theorem m_13 : (Jvm.Cond.initialized "java/lang/Long") ∈ zWords := zmem 13 (by decide +kernel) (by decide +kernel)
theorem m_515 : (Jvm.Cond.code ({ cls := "ConditionRows$Names", name := "hasSigned", desc := "(IJ)Z" } : Jvm.MethodName) prog_3_method_5_code (6 : Nat) (Option.some Jvm.ClassFile.FieldType.boolean)) ∈ zWords := zmem 515 (by decide +kernel) (by decide +kernel)
theorem m_512 : (Jvm.Cond.methodLink "ConditionRows" (292 : Nat) ({ cls := "ConditionRows$Names", name := "hasSigned", desc := "(IJ)Z" } : Jvm.MethodName)) ∈ zWords := zmem 512 (by decide +kernel) (by decide +kernel)
theorem m_513 : (Jvm.Cond.instanceMethod ({ cls := "ConditionRows$Names", name := "hasSigned", desc := "(IJ)Z" } : Jvm.MethodName)) ∈ zWords := zmem 513 (by decide +kernel) (by decide +kernel)
theorem m_514 : (Jvm.Cond.selects "ConditionRows$Names" ({ cls := "ConditionRows$Names", name := "hasSigned", desc := "(IJ)Z" } : Jvm.MethodName) ({ cls := "ConditionRows$Names", name := "hasSigned", desc := "(IJ)Z" } : Jvm.MethodName)) ∈ zWords := zmem 514 (by decide +kernel) (by decide +kernel)
theorem m_506 : (Jvm.Cond.code ({ cls := "ConditionRows$Fields", name := "firstBytes", desc := "(I)J" } : Jvm.MethodName) prog_2_method_14_code (6 : Nat) (Option.some Jvm.ClassFile.FieldType.long)) ∈ zWords := zmem 506 (by decide +kernel) (by decide +kernel)
theorem m_503 : (Jvm.Cond.methodLink "ConditionRows" (285 : Nat) ({ cls := "ConditionRows$Fields", name := "firstBytes", desc := "(I)J" } : Jvm.MethodName)) ∈ zWords := zmem 503 (by decide +kernel) (by decide +kernel)
theorem m_504 : (Jvm.Cond.instanceMethod ({ cls := "ConditionRows$Fields", name := "firstBytes", desc := "(I)J" } : Jvm.MethodName)) ∈ zWords := zmem 504 (by decide +kernel) (by decide +kernel)
theorem m_505 : (Jvm.Cond.selects "ConditionRows$Fields" ({ cls := "ConditionRows$Fields", name := "firstBytes", desc := "(I)J" } : Jvm.MethodName) ({ cls := "ConditionRows$Fields", name := "firstBytes", desc := "(I)J" } : Jvm.MethodName)) ∈ zWords := zmem 505 (by decide +kernel) (by decide +kernel)
theorem m_510 : (Jvm.Cond.code ({ cls := "ConditionRows$Names", name := "hasUnsigned", desc := "(IJ)Z" } : Jvm.MethodName) prog_3_method_6_code (6 : Nat) (Option.some Jvm.ClassFile.FieldType.boolean)) ∈ zWords := zmem 510 (by decide +kernel) (by decide +kernel)
theorem m_507 : (Jvm.Cond.methodLink "ConditionRows" (288 : Nat) ({ cls := "ConditionRows$Names", name := "hasUnsigned", desc := "(IJ)Z" } : Jvm.MethodName)) ∈ zWords := zmem 507 (by decide +kernel) (by decide +kernel)
theorem m_508 : (Jvm.Cond.instanceMethod ({ cls := "ConditionRows$Names", name := "hasUnsigned", desc := "(IJ)Z" } : Jvm.MethodName)) ∈ zWords := zmem 508 (by decide +kernel) (by decide +kernel)
theorem m_509 : (Jvm.Cond.selects "ConditionRows$Names" ({ cls := "ConditionRows$Names", name := "hasUnsigned", desc := "(IJ)Z" } : Jvm.MethodName) ({ cls := "ConditionRows$Names", name := "hasUnsigned", desc := "(IJ)Z" } : Jvm.MethodName)) ∈ zWords := zmem 509 (by decide +kernel) (by decide +kernel)
theorem m_502 : (Jvm.Cond.code ({ cls := "ConditionRows", name := "holds", desc := "(I)Z" } : Jvm.MethodName) prog_1_method_37_code (3 : Nat) (Option.some Jvm.ClassFile.FieldType.boolean)) ∈ zWords := zmem 502 (by decide +kernel) (by decide +kernel)
theorem m_499 : (Jvm.Cond.methodLink "ConditionRows" (279 : Nat) ({ cls := "ConditionRows", name := "holds", desc := "(I)Z" } : Jvm.MethodName)) ∈ zWords := zmem 499 (by decide +kernel) (by decide +kernel)
theorem m_501 : (Jvm.Cond.instanceMethod ({ cls := "ConditionRows", name := "holds", desc := "(I)Z" } : Jvm.MethodName)) ∈ zWords := zmem 501 (by decide +kernel) (by decide +kernel)
theorem mp_12 : (Jvm.Cond.selects "ConditionRows" ({ cls := "ConditionRows", name := "holds", desc := "(I)Z" } : Jvm.MethodName) ({ cls := "ConditionRows", name := "holds", desc := "(I)Z" } : Jvm.MethodName)) ∈ zWords := zmemP 12 (by decide +kernel) (by decide +kernel)
theorem m_181 : (Jvm.Cond.fieldLink "ConditionRows" (51 : Nat) "ConditionRows" "switches" "[Z") ∈ zWords := zmem 181 (by decide +kernel) (by decide +kernel)
theorem m_34 : (Jvm.Cond.fieldLink "ConditionRows$Fields" (18 : Nat) "ConditionRows$Fields" "scale" "[I") ∈ zWords := zmem 34 (by decide +kernel) (by decide +kernel)
theorem m_528 : (Jvm.Cond.methodLink "ConditionRows$Fields" (60 : Nat) ({ cls := "ConditionRows$Fields", name := "value", desc := "(I)J" } : Jvm.MethodName)) ∈ zWords := zmem 528 (by decide +kernel) (by decide +kernel)
theorem m_536 : (Jvm.Cond.code ({ cls := "java/lang/Math", name := "floorDiv", desc := "(JJ)J" } : Jvm.MethodName) prog_15_method_49_code (6 : Nat) (Option.some Jvm.ClassFile.FieldType.long)) ∈ zWords := zmem 536 (by decide +kernel) (by decide +kernel)
theorem m_534 : (Jvm.Cond.methodLink "ConditionRows$Fields" (71 : Nat) ({ cls := "java/lang/Math", name := "floorDiv", desc := "(JJ)J" } : Jvm.MethodName)) ∈ zWords := zmem 534 (by decide +kernel) (by decide +kernel)
theorem m_535 : (Jvm.Cond.static ({ cls := "java/lang/Math", name := "floorDiv", desc := "(JJ)J" } : Jvm.MethodName)) ∈ zWords := zmem 535 (by decide +kernel) (by decide +kernel)
theorem m_14 : (Jvm.Cond.initialized "java/lang/Math") ∈ zWords := zmem 14 (by decide +kernel) (by decide +kernel)
theorem m_539 : (Jvm.Cond.code ({ cls := "java/lang/Math", name := "floorMod", desc := "(JJ)J" } : Jvm.MethodName) prog_15_method_52_code (6 : Nat) (Option.some Jvm.ClassFile.FieldType.long)) ∈ zWords := zmem 539 (by decide +kernel) (by decide +kernel)
theorem m_537 : (Jvm.Cond.methodLink "ConditionRows$Fields" (77 : Nat) ({ cls := "java/lang/Math", name := "floorMod", desc := "(JJ)J" } : Jvm.MethodName)) ∈ zWords := zmem 537 (by decide +kernel) (by decide +kernel)
theorem m_538 : (Jvm.Cond.static ({ cls := "java/lang/Math", name := "floorMod", desc := "(JJ)J" } : Jvm.MethodName)) ∈ zWords := zmem 538 (by decide +kernel) (by decide +kernel)
theorem m_531 : (Jvm.Cond.code ({ cls := "ConditionRows$Fields", name := "compareScaled", desc := "(JJI)I" } : Jvm.MethodName) prog_2_method_16_code (9 : Nat) (Option.some Jvm.ClassFile.FieldType.int)) ∈ zWords := zmem 531 (by decide +kernel) (by decide +kernel)
theorem m_529 : (Jvm.Cond.methodLink "ConditionRows$Fields" (63 : Nat) ({ cls := "ConditionRows$Fields", name := "compareScaled", desc := "(JJI)I" } : Jvm.MethodName)) ∈ zWords := zmem 529 (by decide +kernel) (by decide +kernel)
theorem m_530 : (Jvm.Cond.static ({ cls := "ConditionRows$Fields", name := "compareScaled", desc := "(JJI)I" } : Jvm.MethodName)) ∈ zWords := zmem 530 (by decide +kernel) (by decide +kernel)
theorem m_527 : (Jvm.Cond.code ({ cls := "ConditionRows$Fields", name := "compareNumbers", desc := "(II)I" } : Jvm.MethodName) prog_2_method_15_code (4 : Nat) (Option.some Jvm.ClassFile.FieldType.int)) ∈ zWords := zmem 527 (by decide +kernel) (by decide +kernel)
theorem m_524 : (Jvm.Cond.methodLink "ConditionRows" (295 : Nat) ({ cls := "ConditionRows$Fields", name := "compareNumbers", desc := "(II)I" } : Jvm.MethodName)) ∈ zWords := zmem 524 (by decide +kernel) (by decide +kernel)
theorem m_525 : (Jvm.Cond.instanceMethod ({ cls := "ConditionRows$Fields", name := "compareNumbers", desc := "(II)I" } : Jvm.MethodName)) ∈ zWords := zmem 525 (by decide +kernel) (by decide +kernel)
theorem m_526 : (Jvm.Cond.selects "ConditionRows$Fields" ({ cls := "ConditionRows$Fields", name := "compareNumbers", desc := "(II)I" } : Jvm.MethodName) ({ cls := "ConditionRows$Fields", name := "compareNumbers", desc := "(II)I" } : Jvm.MethodName)) ∈ zWords := zmem 526 (by decide +kernel) (by decide +kernel)
theorem m_182 : (Jvm.Cond.fieldLink "ConditionRows" (55 : Nat) "ConditionRows" "leftText" "[I") ∈ zWords := zmem 182 (by decide +kernel) (by decide +kernel)
theorem m_550 : (Jvm.Cond.code ({ cls := "ConditionRows$Fields", name := "spellBytes", desc := "(I[I)I" } : Jvm.MethodName) prog_2_method_18_code (5 : Nat) (Option.some Jvm.ClassFile.FieldType.int)) ∈ zWords := zmem 550 (by decide +kernel) (by decide +kernel)
theorem m_547 : (Jvm.Cond.methodLink "ConditionRows$Fields" (84 : Nat) ({ cls := "ConditionRows$Fields", name := "spellBytes", desc := "(I[I)I" } : Jvm.MethodName)) ∈ zWords := zmem 547 (by decide +kernel) (by decide +kernel)
theorem m_549 : (Jvm.Cond.instanceMethod ({ cls := "ConditionRows$Fields", name := "spellBytes", desc := "(I[I)I" } : Jvm.MethodName)) ∈ zWords := zmem 549 (by decide +kernel) (by decide +kernel)
theorem mp_15 : (Jvm.Cond.selects "ConditionRows$Fields" ({ cls := "ConditionRows$Fields", name := "spellBytes", desc := "(I[I)I" } : Jvm.MethodName) ({ cls := "ConditionRows$Fields", name := "spellBytes", desc := "(I[I)I" } : Jvm.MethodName)) ∈ zWords := zmemP 15 (by decide +kernel) (by decide +kernel)
theorem m_546 : (Jvm.Cond.code ({ cls := "ConditionRows$Fields", name := "spellDecimals", desc := "(J[I)I" } : Jvm.MethodName) prog_2_method_19_code (8 : Nat) (Option.some Jvm.ClassFile.FieldType.int)) ∈ zWords := zmem 546 (by decide +kernel) (by decide +kernel)
theorem m_544 : (Jvm.Cond.methodLink "ConditionRows$Fields" (80 : Nat) ({ cls := "ConditionRows$Fields", name := "spellDecimals", desc := "(J[I)I" } : Jvm.MethodName)) ∈ zWords := zmem 544 (by decide +kernel) (by decide +kernel)
theorem m_545 : (Jvm.Cond.static ({ cls := "ConditionRows$Fields", name := "spellDecimals", desc := "(J[I)I" } : Jvm.MethodName)) ∈ zWords := zmem 545 (by decide +kernel) (by decide +kernel)
theorem m_543 : (Jvm.Cond.code ({ cls := "ConditionRows$Fields", name := "spell", desc := "(I[I)V" } : Jvm.MethodName) prog_2_method_17_code (5 : Nat) (Option.none : Option Jvm.ClassFile.FieldType)) ∈ zWords := zmem 543 (by decide +kernel) (by decide +kernel)
theorem m_540 : (Jvm.Cond.methodLink "ConditionRows" (298 : Nat) ({ cls := "ConditionRows$Fields", name := "spell", desc := "(I[I)V" } : Jvm.MethodName)) ∈ zWords := zmem 540 (by decide +kernel) (by decide +kernel)
theorem m_541 : (Jvm.Cond.instanceMethod ({ cls := "ConditionRows$Fields", name := "spell", desc := "(I[I)V" } : Jvm.MethodName)) ∈ zWords := zmem 541 (by decide +kernel) (by decide +kernel)
theorem m_542 : (Jvm.Cond.selects "ConditionRows$Fields" ({ cls := "ConditionRows$Fields", name := "spell", desc := "(I[I)V" } : Jvm.MethodName) ({ cls := "ConditionRows$Fields", name := "spell", desc := "(I[I)V" } : Jvm.MethodName)) ∈ zWords := zmem 542 (by decide +kernel) (by decide +kernel)
theorem m_183 : (Jvm.Cond.fieldLink "ConditionRows" (59 : Nat) "ConditionRows" "rightText" "[I") ∈ zWords := zmem 183 (by decide +kernel) (by decide +kernel)
theorem m_58 : (Jvm.Cond.fieldLink "ConditionRows$Weights" (9 : Nat) "ConditionRows$Weights" "of" "[I") ∈ zWords := zmem 58 (by decide +kernel) (by decide +kernel)
theorem m_557 : (Jvm.Cond.code ({ cls := "java/lang/Integer", name := "compare", desc := "(II)I" } : Jvm.MethodName) prog_13_method_40_code (2 : Nat) (Option.some Jvm.ClassFile.FieldType.int)) ∈ zWords := zmem 557 (by decide +kernel) (by decide +kernel)
theorem m_555 : (Jvm.Cond.methodLink "ConditionRows$Weights" (15 : Nat) ({ cls := "java/lang/Integer", name := "compare", desc := "(II)I" } : Jvm.MethodName)) ∈ zWords := zmem 555 (by decide +kernel) (by decide +kernel)
theorem m_556 : (Jvm.Cond.static ({ cls := "java/lang/Integer", name := "compare", desc := "(II)I" } : Jvm.MethodName)) ∈ zWords := zmem 556 (by decide +kernel) (by decide +kernel)
theorem m_15 : (Jvm.Cond.initialized "java/lang/Integer") ∈ zWords := zmem 15 (by decide +kernel) (by decide +kernel)
theorem m_554 : (Jvm.Cond.code ({ cls := "ConditionRows$Weights", name := "compareTexts", desc := "([I[I)I" } : Jvm.MethodName) prog_7_method_2_code (5 : Nat) (Option.some Jvm.ClassFile.FieldType.int)) ∈ zWords := zmem 554 (by decide +kernel) (by decide +kernel)
theorem m_551 : (Jvm.Cond.methodLink "ConditionRows" (302 : Nat) ({ cls := "ConditionRows$Weights", name := "compareTexts", desc := "([I[I)I" } : Jvm.MethodName)) ∈ zWords := zmem 551 (by decide +kernel) (by decide +kernel)
theorem m_552 : (Jvm.Cond.instanceMethod ({ cls := "ConditionRows$Weights", name := "compareTexts", desc := "([I[I)I" } : Jvm.MethodName)) ∈ zWords := zmem 552 (by decide +kernel) (by decide +kernel)
theorem m_553 : (Jvm.Cond.selects "ConditionRows$Weights" ({ cls := "ConditionRows$Weights", name := "compareTexts", desc := "([I[I)I" } : Jvm.MethodName) ({ cls := "ConditionRows$Weights", name := "compareTexts", desc := "([I[I)I" } : Jvm.MethodName)) ∈ zWords := zmem 553 (by decide +kernel) (by decide +kernel)
theorem m_3 : (Jvm.Cond.initialized "ConditionRows$Weights") ∈ zWords := zmem 3 (by decide +kernel) (by decide +kernel)
theorem m_523 : (Jvm.Cond.code ({ cls := "ConditionRows", name := "compareFields", desc := "(II)I" } : Jvm.MethodName) prog_1_method_38_code (3 : Nat) (Option.some Jvm.ClassFile.FieldType.int)) ∈ zWords := zmem 523 (by decide +kernel) (by decide +kernel)
theorem m_520 : (Jvm.Cond.methodLink "ConditionRows" (183 : Nat) ({ cls := "ConditionRows", name := "compareFields", desc := "(II)I" } : Jvm.MethodName)) ∈ zWords := zmem 520 (by decide +kernel) (by decide +kernel)
theorem m_522 : (Jvm.Cond.instanceMethod ({ cls := "ConditionRows", name := "compareFields", desc := "(II)I" } : Jvm.MethodName)) ∈ zWords := zmem 522 (by decide +kernel) (by decide +kernel)
theorem mp_14 : (Jvm.Cond.selects "ConditionRows" ({ cls := "ConditionRows", name := "compareFields", desc := "(II)I" } : Jvm.MethodName) ({ cls := "ConditionRows", name := "compareFields", desc := "(II)I" } : Jvm.MethodName)) ∈ zWords := zmemP 14 (by decide +kernel) (by decide +kernel)
theorem m_519 : (Jvm.Cond.code ({ cls := "ConditionRows", name := "relationOutcome", desc := "(III)I" } : Jvm.MethodName) prog_1_method_36_code (5 : Nat) (Option.some Jvm.ClassFile.FieldType.int)) ∈ zWords := zmem 519 (by decide +kernel) (by decide +kernel)
theorem m_516 : (Jvm.Cond.methodLink "ConditionRows" (282 : Nat) ({ cls := "ConditionRows", name := "relationOutcome", desc := "(III)I" } : Jvm.MethodName)) ∈ zWords := zmem 516 (by decide +kernel) (by decide +kernel)
theorem m_518 : (Jvm.Cond.instanceMethod ({ cls := "ConditionRows", name := "relationOutcome", desc := "(III)I" } : Jvm.MethodName)) ∈ zWords := zmem 518 (by decide +kernel) (by decide +kernel)
theorem mp_13 : (Jvm.Cond.selects "ConditionRows" ({ cls := "ConditionRows", name := "relationOutcome", desc := "(III)I" } : Jvm.MethodName) ({ cls := "ConditionRows", name := "relationOutcome", desc := "(III)I" } : Jvm.MethodName)) ∈ zWords := zmemP 13 (by decide +kernel) (by decide +kernel)
theorem m_459 : (Jvm.Cond.code ({ cls := "ConditionRows", name := "leafOutcome", desc := "(I)I" } : Jvm.MethodName) prog_1_method_34_code (4 : Nat) (Option.some Jvm.ClassFile.FieldType.int)) ∈ zWords := zmem 459 (by decide +kernel) (by decide +kernel)
theorem m_456 : (Jvm.Cond.methodLink "ConditionRows" (239 : Nat) ({ cls := "ConditionRows", name := "leafOutcome", desc := "(I)I" } : Jvm.MethodName)) ∈ zWords := zmem 456 (by decide +kernel) (by decide +kernel)
theorem m_458 : (Jvm.Cond.instanceMethod ({ cls := "ConditionRows", name := "leafOutcome", desc := "(I)I" } : Jvm.MethodName)) ∈ zWords := zmem 458 (by decide +kernel) (by decide +kernel)
theorem mp_9 : (Jvm.Cond.selects "ConditionRows" ({ cls := "ConditionRows", name := "leafOutcome", desc := "(I)I" } : Jvm.MethodName) ({ cls := "ConditionRows", name := "leafOutcome", desc := "(I)I" } : Jvm.MethodName)) ∈ zWords := zmemP 9 (by decide +kernel) (by decide +kernel)
theorem m_440 : (Jvm.Cond.code ({ cls := "ConditionRows", name := "outcomeOf", desc := "(I)I" } : Jvm.MethodName) prog_1_method_30_code (6 : Nat) (Option.some Jvm.ClassFile.FieldType.int)) ∈ zWords := zmem 440 (by decide +kernel) (by decide +kernel)
theorem m_437 : (Jvm.Cond.methodLink "ConditionRows" (159 : Nat) ({ cls := "ConditionRows", name := "outcomeOf", desc := "(I)I" } : Jvm.MethodName)) ∈ zWords := zmem 437 (by decide +kernel) (by decide +kernel)
theorem m_439 : (Jvm.Cond.instanceMethod ({ cls := "ConditionRows", name := "outcomeOf", desc := "(I)I" } : Jvm.MethodName)) ∈ zWords := zmem 439 (by decide +kernel) (by decide +kernel)
theorem mp_7 : (Jvm.Cond.selects "ConditionRows" ({ cls := "ConditionRows", name := "outcomeOf", desc := "(I)I" } : Jvm.MethodName) ({ cls := "ConditionRows", name := "outcomeOf", desc := "(I)I" } : Jvm.MethodName)) ∈ zWords := zmemP 7 (by decide +kernel) (by decide +kernel)
theorem m_357 : (Jvm.Cond.code ({ cls := "ConditionRows", name := "switchesOn", desc := "()I" } : Jvm.MethodName) prog_1_method_26_code (3 : Nat) (Option.some Jvm.ClassFile.FieldType.int)) ∈ zWords := zmem 357 (by decide +kernel) (by decide +kernel)
theorem m_354 : (Jvm.Cond.methodLink "ConditionRows" (188 : Nat) ({ cls := "ConditionRows", name := "switchesOn", desc := "()I" } : Jvm.MethodName)) ∈ zWords := zmem 354 (by decide +kernel) (by decide +kernel)
theorem m_356 : (Jvm.Cond.instanceMethod ({ cls := "ConditionRows", name := "switchesOn", desc := "()I" } : Jvm.MethodName)) ∈ zWords := zmem 356 (by decide +kernel) (by decide +kernel)
theorem mp_5 : (Jvm.Cond.selects "ConditionRows" ({ cls := "ConditionRows", name := "switchesOn", desc := "()I" } : Jvm.MethodName) ({ cls := "ConditionRows", name := "switchesOn", desc := "()I" } : Jvm.MethodName)) ∈ zWords := zmemP 5 (by decide +kernel) (by decide +kernel)
theorem m_604 : (Jvm.Cond.fieldLink "ConditionRowsModel" (83 : Nat) "ConditionRowsModel" "fields" "I") ∈ zWords := zmem 604 (by decide +kernel) (by decide +kernel)
theorem m_608 : (Jvm.Cond.fieldLink "ConditionRowsModel" (86 : Nat) "ConditionRowsModel" "nodes" "I") ∈ zWords := zmem 608 (by decide +kernel) (by decide +kernel)
theorem m_613 : (Jvm.Cond.fieldLink "ConditionRowsModel" (89 : Nat) "ConditionRowsModel" "names" "I") ∈ zWords := zmem 613 (by decide +kernel) (by decide +kernel)
theorem m_598 : (Jvm.Cond.fieldLink "ConditionRowsModel" (79 : Nat) "ConditionRowsModel" "thrown" "I") ∈ zWords := zmem 598 (by decide +kernel) (by decide +kernel)
theorem m_600 : (Jvm.Cond.fieldLink "ConditionRowsModel" (13 : Nat) "ConditionRowsModel" "categories" "[I") ∈ zWords := zmem 600 (by decide +kernel) (by decide +kernel)
theorem m_601 : (Jvm.Cond.fieldLink "ConditionRowsModel" (16 : Nat) "ConditionRowsModel" "sizes" "[I") ∈ zWords := zmem 601 (by decide +kernel) (by decide +kernel)
theorem m_599 : (Jvm.Cond.fieldLink "ConditionRowsModel" (7 : Nat) "ConditionRowsModel" "bytes" "[I") ∈ zWords := zmem 599 (by decide +kernel) (by decide +kernel)
theorem m_699 : (Jvm.Cond.code ({ cls := "ConditionRowsModel", name := "isField", desc := "(I)Z" } : Jvm.MethodName) prog_9_method_3_code (2 : Nat) (Option.some Jvm.ClassFile.FieldType.boolean)) ∈ zWords := zmem 699 (by decide +kernel) (by decide +kernel)
theorem m_696 : (Jvm.Cond.methodLink "ConditionRowsModel" (92 : Nat) ({ cls := "ConditionRowsModel", name := "isField", desc := "(I)Z" } : Jvm.MethodName)) ∈ zWords := zmem 696 (by decide +kernel) (by decide +kernel)
theorem m_698 : (Jvm.Cond.instanceMethod ({ cls := "ConditionRowsModel", name := "isField", desc := "(I)Z" } : Jvm.MethodName)) ∈ zWords := zmem 698 (by decide +kernel) (by decide +kernel)
theorem mp_17 : (Jvm.Cond.selects "ConditionRowsModel" ({ cls := "ConditionRowsModel", name := "isField", desc := "(I)Z" } : Jvm.MethodName) ({ cls := "ConditionRowsModel", name := "isField", desc := "(I)Z" } : Jvm.MethodName)) ∈ zWords := zmemP 17 (by decide +kernel) (by decide +kernel)
theorem m_8 : (Jvm.Cond.initialized "ConditionRowsModel") ∈ zWords := zmem 8 (by decide +kernel) (by decide +kernel)
theorem m_602 : (Jvm.Cond.fieldLink "ConditionRowsModel" (19 : Nat) "ConditionRowsModel" "scales" "[I") ∈ zWords := zmem 602 (by decide +kernel) (by decide +kernel)
theorem m_710 : (Jvm.Cond.code ({ cls := "ConditionRowsModel", name := "isByte", desc := "(I)Z" } : Jvm.MethodName) prog_9_method_9_code (1 : Nat) (Option.some Jvm.ClassFile.FieldType.boolean)) ∈ zWords := zmem 710 (by decide +kernel) (by decide +kernel)
theorem m_708 : (Jvm.Cond.methodLink "ConditionRowsModel" (96 : Nat) ({ cls := "ConditionRowsModel", name := "isByte", desc := "(I)Z" } : Jvm.MethodName)) ∈ zWords := zmem 708 (by decide +kernel) (by decide +kernel)
theorem m_709 : (Jvm.Cond.static ({ cls := "ConditionRowsModel", name := "isByte", desc := "(I)Z" } : Jvm.MethodName)) ∈ zWords := zmem 709 (by decide +kernel) (by decide +kernel)
theorem m_603 : (Jvm.Cond.fieldLink "ConditionRowsModel" (22 : Nat) "ConditionRowsModel" "weights" "[I") ∈ zWords := zmem 603 (by decide +kernel) (by decide +kernel)
theorem m_781 : (Jvm.Cond.code ({ cls := "ConditionRowsModel", name := "read", desc := "(II)I" } : Jvm.MethodName) prog_9_method_11_code (3 : Nat) (Option.some Jvm.ClassFile.FieldType.int)) ∈ zWords := zmem 781 (by decide +kernel) (by decide +kernel)
theorem m_778 : (Jvm.Cond.methodLink "ConditionRowsModel" (99 : Nat) ({ cls := "ConditionRowsModel", name := "read", desc := "(II)I" } : Jvm.MethodName)) ∈ zWords := zmem 778 (by decide +kernel) (by decide +kernel)
theorem m_780 : (Jvm.Cond.instanceMethod ({ cls := "ConditionRowsModel", name := "read", desc := "(II)I" } : Jvm.MethodName)) ∈ zWords := zmem 780 (by decide +kernel) (by decide +kernel)
theorem mp_26 : (Jvm.Cond.selects "ConditionRowsModel" ({ cls := "ConditionRowsModel", name := "read", desc := "(II)I" } : Jvm.MethodName) ({ cls := "ConditionRowsModel", name := "read", desc := "(II)I" } : Jvm.MethodName)) ∈ zWords := zmemP 26 (by decide +kernel) (by decide +kernel)
theorem m_798 : (Jvm.Cond.constantLong "ConditionRowsModel" (103 : Nat) (-1 : Int64)) ∈ zWords := zmem 798 (by decide +kernel) (by decide +kernel)
theorem m_799 : (Jvm.Cond.constantLong "ConditionRowsModel" (105 : Nat) (10 : Int64)) ∈ zWords := zmem 799 (by decide +kernel) (by decide +kernel)
theorem m_797 : (Jvm.Cond.code ({ cls := "ConditionRowsModel", name := "whole", desc := "(I)J" } : Jvm.MethodName) prog_9_method_13_code (5 : Nat) (Option.some Jvm.ClassFile.FieldType.long)) ∈ zWords := zmem 797 (by decide +kernel) (by decide +kernel)
theorem m_794 : (Jvm.Cond.methodLink "ConditionRowsModel" (107 : Nat) ({ cls := "ConditionRowsModel", name := "whole", desc := "(I)J" } : Jvm.MethodName)) ∈ zWords := zmem 794 (by decide +kernel) (by decide +kernel)
theorem m_796 : (Jvm.Cond.instanceMethod ({ cls := "ConditionRowsModel", name := "whole", desc := "(I)J" } : Jvm.MethodName)) ∈ zWords := zmem 796 (by decide +kernel) (by decide +kernel)
theorem mp_30 : (Jvm.Cond.selects "ConditionRowsModel" ({ cls := "ConditionRowsModel", name := "whole", desc := "(I)J" } : Jvm.MethodName) ({ cls := "ConditionRowsModel", name := "whole", desc := "(I)J" } : Jvm.MethodName)) ∈ zWords := zmemP 30 (by decide +kernel) (by decide +kernel)
theorem m_802 : (Jvm.Cond.code ({ cls := "ConditionRowsModel", name := "ten", desc := "(I)J" } : Jvm.MethodName) prog_9_method_14_code (4 : Nat) (Option.some Jvm.ClassFile.FieldType.long)) ∈ zWords := zmem 802 (by decide +kernel) (by decide +kernel)
theorem m_800 : (Jvm.Cond.methodLink "ConditionRowsModel" (110 : Nat) ({ cls := "ConditionRowsModel", name := "ten", desc := "(I)J" } : Jvm.MethodName)) ∈ zWords := zmem 800 (by decide +kernel) (by decide +kernel)
theorem m_801 : (Jvm.Cond.static ({ cls := "ConditionRowsModel", name := "ten", desc := "(I)J" } : Jvm.MethodName)) ∈ zWords := zmem 801 (by decide +kernel) (by decide +kernel)
theorem m_626 : (Jvm.Cond.fieldLink "ConditionRowsModel" (72 : Nat) "ConditionRowsModel" "digits" "[I") ∈ zWords := zmem 626 (by decide +kernel) (by decide +kernel)
theorem m_814 : (Jvm.Cond.constantLong "ConditionRowsModel" (113 : Nat) (5 : Int64)) ∈ zWords := zmem 814 (by decide +kernel) (by decide +kernel)
theorem m_793 : (Jvm.Cond.code ({ cls := "ConditionRowsModel", name := "part", desc := "(I)J" } : Jvm.MethodName) prog_9_method_15_code (8 : Nat) (Option.some Jvm.ClassFile.FieldType.long)) ∈ zWords := zmem 793 (by decide +kernel) (by decide +kernel)
theorem m_790 : (Jvm.Cond.methodLink "ConditionRowsModel" (115 : Nat) ({ cls := "ConditionRowsModel", name := "part", desc := "(I)J" } : Jvm.MethodName)) ∈ zWords := zmem 790 (by decide +kernel) (by decide +kernel)
theorem m_792 : (Jvm.Cond.instanceMethod ({ cls := "ConditionRowsModel", name := "part", desc := "(I)J" } : Jvm.MethodName)) ∈ zWords := zmem 792 (by decide +kernel) (by decide +kernel)
theorem mp_29 : (Jvm.Cond.selects "ConditionRowsModel" ({ cls := "ConditionRowsModel", name := "part", desc := "(I)J" } : Jvm.MethodName) ({ cls := "ConditionRowsModel", name := "part", desc := "(I)J" } : Jvm.MethodName)) ∈ zWords := zmemP 29 (by decide +kernel) (by decide +kernel)
theorem m_805 : (Jvm.Cond.code ({ cls := "ConditionRowsModel", name := "sign", desc := "(JJ)I" } : Jvm.MethodName) prog_9_method_18_code (4 : Nat) (Option.some Jvm.ClassFile.FieldType.int)) ∈ zWords := zmem 805 (by decide +kernel) (by decide +kernel)
theorem m_803 : (Jvm.Cond.methodLink "ConditionRowsModel" (118 : Nat) ({ cls := "ConditionRowsModel", name := "sign", desc := "(JJ)I" } : Jvm.MethodName)) ∈ zWords := zmem 803 (by decide +kernel) (by decide +kernel)
theorem m_804 : (Jvm.Cond.static ({ cls := "ConditionRowsModel", name := "sign", desc := "(JJ)I" } : Jvm.MethodName)) ∈ zWords := zmem 804 (by decide +kernel) (by decide +kernel)
theorem m_809 : (Jvm.Cond.code ({ cls := "ConditionRowsModel", name := "rest", desc := "(I)J" } : Jvm.MethodName) prog_9_method_16_code (6 : Nat) (Option.some Jvm.ClassFile.FieldType.long)) ∈ zWords := zmem 809 (by decide +kernel) (by decide +kernel)
theorem m_806 : (Jvm.Cond.methodLink "ConditionRowsModel" (122 : Nat) ({ cls := "ConditionRowsModel", name := "rest", desc := "(I)J" } : Jvm.MethodName)) ∈ zWords := zmem 806 (by decide +kernel) (by decide +kernel)
theorem m_808 : (Jvm.Cond.instanceMethod ({ cls := "ConditionRowsModel", name := "rest", desc := "(I)J" } : Jvm.MethodName)) ∈ zWords := zmem 808 (by decide +kernel) (by decide +kernel)
theorem mp_31 : (Jvm.Cond.selects "ConditionRowsModel" ({ cls := "ConditionRowsModel", name := "rest", desc := "(I)J" } : Jvm.MethodName) ({ cls := "ConditionRowsModel", name := "rest", desc := "(I)J" } : Jvm.MethodName)) ∈ zWords := zmemP 31 (by decide +kernel) (by decide +kernel)
theorem m_813 : (Jvm.Cond.code ({ cls := "ConditionRowsModel", name := "spell", desc := "(I)V" } : Jvm.MethodName) prog_9_method_17_code (12 : Nat) (Option.none : Option Jvm.ClassFile.FieldType)) ∈ zWords := zmem 813 (by decide +kernel) (by decide +kernel)
theorem m_810 : (Jvm.Cond.methodLink "ConditionRowsModel" (125 : Nat) ({ cls := "ConditionRowsModel", name := "spell", desc := "(I)V" } : Jvm.MethodName)) ∈ zWords := zmem 810 (by decide +kernel) (by decide +kernel)
theorem m_812 : (Jvm.Cond.instanceMethod ({ cls := "ConditionRowsModel", name := "spell", desc := "(I)V" } : Jvm.MethodName)) ∈ zWords := zmem 812 (by decide +kernel) (by decide +kernel)
theorem mp_32 : (Jvm.Cond.selects "ConditionRowsModel" ({ cls := "ConditionRowsModel", name := "spell", desc := "(I)V" } : Jvm.MethodName) ({ cls := "ConditionRowsModel", name := "spell", desc := "(I)V" } : Jvm.MethodName)) ∈ zWords := zmemP 32 (by decide +kernel) (by decide +kernel)
theorem m_726 : (Jvm.Cond.code ({ cls := "ConditionRowsModel", name := "isNode", desc := "(I)Z" } : Jvm.MethodName) prog_9_method_4_code (2 : Nat) (Option.some Jvm.ClassFile.FieldType.boolean)) ∈ zWords := zmem 726 (by decide +kernel) (by decide +kernel)
theorem m_723 : (Jvm.Cond.methodLink "ConditionRowsModel" (132 : Nat) ({ cls := "ConditionRowsModel", name := "isNode", desc := "(I)Z" } : Jvm.MethodName)) ∈ zWords := zmem 723 (by decide +kernel) (by decide +kernel)
theorem m_725 : (Jvm.Cond.instanceMethod ({ cls := "ConditionRowsModel", name := "isNode", desc := "(I)Z" } : Jvm.MethodName)) ∈ zWords := zmem 725 (by decide +kernel) (by decide +kernel)
theorem mp_20 : (Jvm.Cond.selects "ConditionRowsModel" ({ cls := "ConditionRowsModel", name := "isNode", desc := "(I)Z" } : Jvm.MethodName) ({ cls := "ConditionRowsModel", name := "isNode", desc := "(I)Z" } : Jvm.MethodName)) ∈ zWords := zmemP 20 (by decide +kernel) (by decide +kernel)
theorem m_722 : (Jvm.Cond.code ({ cls := "ConditionRowsModel", name := "isName", desc := "(I)Z" } : Jvm.MethodName) prog_9_method_5_code (2 : Nat) (Option.some Jvm.ClassFile.FieldType.boolean)) ∈ zWords := zmem 722 (by decide +kernel) (by decide +kernel)
theorem m_719 : (Jvm.Cond.methodLink "ConditionRowsModel" (129 : Nat) ({ cls := "ConditionRowsModel", name := "isName", desc := "(I)Z" } : Jvm.MethodName)) ∈ zWords := zmem 719 (by decide +kernel) (by decide +kernel)
theorem m_721 : (Jvm.Cond.instanceMethod ({ cls := "ConditionRowsModel", name := "isName", desc := "(I)Z" } : Jvm.MethodName)) ∈ zWords := zmem 721 (by decide +kernel) (by decide +kernel)
theorem mp_19 : (Jvm.Cond.selects "ConditionRowsModel" ({ cls := "ConditionRowsModel", name := "isName", desc := "(I)Z" } : Jvm.MethodName) ({ cls := "ConditionRowsModel", name := "isName", desc := "(I)Z" } : Jvm.MethodName)) ∈ zWords := zmemP 19 (by decide +kernel) (by decide +kernel)
theorem m_605 : (Jvm.Cond.fieldLink "ConditionRowsModel" (25 : Nat) "ConditionRowsModel" "ops" "[I") ∈ zWords := zmem 605 (by decide +kernel) (by decide +kernel)
theorem m_606 : (Jvm.Cond.fieldLink "ConditionRowsModel" (28 : Nat) "ConditionRowsModel" "as" "[I") ∈ zWords := zmem 606 (by decide +kernel) (by decide +kernel)
theorem m_607 : (Jvm.Cond.fieldLink "ConditionRowsModel" (31 : Nat) "ConditionRowsModel" "bs" "[I") ∈ zWords := zmem 607 (by decide +kernel) (by decide +kernel)
theorem m_718 : (Jvm.Cond.code ({ cls := "ConditionRowsModel", name := "refusal", desc := "(III)I" } : Jvm.MethodName) prog_9_method_20_code (4 : Nat) (Option.some Jvm.ClassFile.FieldType.int)) ∈ zWords := zmem 718 (by decide +kernel) (by decide +kernel)
theorem m_715 : (Jvm.Cond.methodLink "ConditionRowsModel" (135 : Nat) ({ cls := "ConditionRowsModel", name := "refusal", desc := "(III)I" } : Jvm.MethodName)) ∈ zWords := zmem 715 (by decide +kernel) (by decide +kernel)
theorem m_717 : (Jvm.Cond.instanceMethod ({ cls := "ConditionRowsModel", name := "refusal", desc := "(III)I" } : Jvm.MethodName)) ∈ zWords := zmem 717 (by decide +kernel) (by decide +kernel)
theorem mp_18 : (Jvm.Cond.selects "ConditionRowsModel" ({ cls := "ConditionRowsModel", name := "refusal", desc := "(III)I" } : Jvm.MethodName) ({ cls := "ConditionRowsModel", name := "refusal", desc := "(III)I" } : Jvm.MethodName)) ∈ zWords := zmemP 18 (by decide +kernel) (by decide +kernel)
theorem m_730 : (Jvm.Cond.code ({ cls := "ConditionRowsModel", name := "made", desc := "(III)I" } : Jvm.MethodName) prog_9_method_21_code (4 : Nat) (Option.some Jvm.ClassFile.FieldType.int)) ∈ zWords := zmem 730 (by decide +kernel) (by decide +kernel)
theorem m_727 : (Jvm.Cond.methodLink "ConditionRowsModel" (139 : Nat) ({ cls := "ConditionRowsModel", name := "made", desc := "(III)I" } : Jvm.MethodName)) ∈ zWords := zmem 727 (by decide +kernel) (by decide +kernel)
theorem m_729 : (Jvm.Cond.instanceMethod ({ cls := "ConditionRowsModel", name := "made", desc := "(III)I" } : Jvm.MethodName)) ∈ zWords := zmem 729 (by decide +kernel) (by decide +kernel)
theorem mp_21 : (Jvm.Cond.selects "ConditionRowsModel" ({ cls := "ConditionRowsModel", name := "made", desc := "(III)I" } : Jvm.MethodName) ({ cls := "ConditionRowsModel", name := "made", desc := "(III)I" } : Jvm.MethodName)) ∈ zWords := zmemP 21 (by decide +kernel) (by decide +kernel)
theorem m_742 : (Jvm.Cond.constantLong "ConditionRowsModel" (142 : Nat) (-9223372036854775808 : Int64)) ∈ zWords := zmem 742 (by decide +kernel) (by decide +kernel)
theorem m_741 : (Jvm.Cond.code ({ cls := "ConditionRowsModel", name := "isLess", desc := "(JJ)Z" } : Jvm.MethodName) prog_9_method_23_code (4 : Nat) (Option.some Jvm.ClassFile.FieldType.boolean)) ∈ zWords := zmem 741 (by decide +kernel) (by decide +kernel)
theorem m_739 : (Jvm.Cond.methodLink "ConditionRowsModel" (144 : Nat) ({ cls := "ConditionRowsModel", name := "isLess", desc := "(JJ)Z" } : Jvm.MethodName)) ∈ zWords := zmem 739 (by decide +kernel) (by decide +kernel)
theorem m_740 : (Jvm.Cond.static ({ cls := "ConditionRowsModel", name := "isLess", desc := "(JJ)Z" } : Jvm.MethodName)) ∈ zWords := zmem 740 (by decide +kernel) (by decide +kernel)
theorem m_738 : (Jvm.Cond.code ({ cls := "ConditionRowsModel", name := "isTurned", desc := "(IJJ)Z" } : Jvm.MethodName) prog_9_method_24_code (6 : Nat) (Option.some Jvm.ClassFile.FieldType.boolean)) ∈ zWords := zmem 738 (by decide +kernel) (by decide +kernel)
theorem m_735 : (Jvm.Cond.methodLink "ConditionRowsModel" (148 : Nat) ({ cls := "ConditionRowsModel", name := "isTurned", desc := "(IJJ)Z" } : Jvm.MethodName)) ∈ zWords := zmem 735 (by decide +kernel) (by decide +kernel)
theorem m_737 : (Jvm.Cond.instanceMethod ({ cls := "ConditionRowsModel", name := "isTurned", desc := "(IJJ)Z" } : Jvm.MethodName)) ∈ zWords := zmem 737 (by decide +kernel) (by decide +kernel)
theorem mp_22 : (Jvm.Cond.selects "ConditionRowsModel" ({ cls := "ConditionRowsModel", name := "isTurned", desc := "(IJJ)Z" } : Jvm.MethodName) ({ cls := "ConditionRowsModel", name := "isTurned", desc := "(IJJ)Z" } : Jvm.MethodName)) ∈ zWords := zmemP 22 (by decide +kernel) (by decide +kernel)
theorem m_609 : (Jvm.Cond.fieldLink "ConditionRowsModel" (34 : Nat) "ConditionRowsModel" "nameFields" "[I") ∈ zWords := zmem 609 (by decide +kernel) (by decide +kernel)
theorem m_610 : (Jvm.Cond.fieldLink "ConditionRowsModel" (37 : Nat) "ConditionRowsModel" "ranges" "[I") ∈ zWords := zmem 610 (by decide +kernel) (by decide +kernel)
theorem m_611 : (Jvm.Cond.fieldLink "ConditionRowsModel" (40 : Nat) "ConditionRowsModel" "lows" "[J") ∈ zWords := zmem 611 (by decide +kernel) (by decide +kernel)
theorem m_612 : (Jvm.Cond.fieldLink "ConditionRowsModel" (44 : Nat) "ConditionRowsModel" "highs" "[J") ∈ zWords := zmem 612 (by decide +kernel) (by decide +kernel)
theorem m_753 : (Jvm.Cond.code ({ cls := "ConditionRowsModel", name := "isRelation", desc := "(I)Z" } : Jvm.MethodName) prog_9_method_27_code (1 : Nat) (Option.some Jvm.ClassFile.FieldType.boolean)) ∈ zWords := zmem 753 (by decide +kernel) (by decide +kernel)
theorem m_751 : (Jvm.Cond.methodLink "ConditionRowsModel" (152 : Nat) ({ cls := "ConditionRowsModel", name := "isRelation", desc := "(I)Z" } : Jvm.MethodName)) ∈ zWords := zmem 751 (by decide +kernel) (by decide +kernel)
theorem m_752 : (Jvm.Cond.static ({ cls := "ConditionRowsModel", name := "isRelation", desc := "(I)Z" } : Jvm.MethodName)) ∈ zWords := zmem 752 (by decide +kernel) (by decide +kernel)
theorem m_620 : (Jvm.Cond.fieldLink "ConditionRowsModel" (155 : Nat) "ConditionRowsModel" "subject" "I") ∈ zWords := zmem 620 (by decide +kernel) (by decide +kernel)
theorem m_619 : (Jvm.Cond.fieldLink "ConditionRowsModel" (158 : Nat) "ConditionRowsModel" "row" "I") ∈ zWords := zmem 619 (by decide +kernel) (by decide +kernel)
theorem m_615 : (Jvm.Cond.fieldLink "ConditionRowsModel" (51 : Nat) "ConditionRowsModel" "ways" "[I") ∈ zWords := zmem 615 (by decide +kernel) (by decide +kernel)
theorem m_616 : (Jvm.Cond.fieldLink "ConditionRowsModel" (54 : Nat) "ConditionRowsModel" "rowOps" "[I") ∈ zWords := zmem 616 (by decide +kernel) (by decide +kernel)
theorem m_618 : (Jvm.Cond.fieldLink "ConditionRowsModel" (60 : Nat) "ConditionRowsModel" "turned" "[Z") ∈ zWords := zmem 618 (by decide +kernel) (by decide +kernel)
theorem m_617 : (Jvm.Cond.fieldLink "ConditionRowsModel" (57 : Nat) "ConditionRowsModel" "objects" "[I") ∈ zWords := zmem 617 (by decide +kernel) (by decide +kernel)
theorem m_765 : (Jvm.Cond.code ({ cls := "ConditionRowsModel", name := "relation", desc := "(I)I" } : Jvm.MethodName) prog_9_method_30_code (3 : Nat) (Option.some Jvm.ClassFile.FieldType.int)) ∈ zWords := zmem 765 (by decide +kernel) (by decide +kernel)
theorem m_762 : (Jvm.Cond.methodLink "ConditionRowsModel" (161 : Nat) ({ cls := "ConditionRowsModel", name := "relation", desc := "(I)I" } : Jvm.MethodName)) ∈ zWords := zmem 762 (by decide +kernel) (by decide +kernel)
theorem m_764 : (Jvm.Cond.instanceMethod ({ cls := "ConditionRowsModel", name := "relation", desc := "(I)I" } : Jvm.MethodName)) ∈ zWords := zmem 764 (by decide +kernel) (by decide +kernel)
theorem mp_23 : (Jvm.Cond.selects "ConditionRowsModel" ({ cls := "ConditionRowsModel", name := "relation", desc := "(I)I" } : Jvm.MethodName) ({ cls := "ConditionRowsModel", name := "relation", desc := "(I)I" } : Jvm.MethodName)) ∈ zWords := zmemP 23 (by decide +kernel) (by decide +kernel)
theorem m_777 : (Jvm.Cond.code ({ cls := "ConditionRowsModel", name := "isBad", desc := "(I)Z" } : Jvm.MethodName) prog_9_method_12_code (5 : Nat) (Option.some Jvm.ClassFile.FieldType.boolean)) ∈ zWords := zmem 777 (by decide +kernel) (by decide +kernel)
theorem m_774 : (Jvm.Cond.methodLink "ConditionRowsModel" (165 : Nat) ({ cls := "ConditionRowsModel", name := "isBad", desc := "(I)Z" } : Jvm.MethodName)) ∈ zWords := zmem 774 (by decide +kernel) (by decide +kernel)
theorem m_776 : (Jvm.Cond.instanceMethod ({ cls := "ConditionRowsModel", name := "isBad", desc := "(I)Z" } : Jvm.MethodName)) ∈ zWords := zmem 776 (by decide +kernel) (by decide +kernel)
theorem mp_25 : (Jvm.Cond.selects "ConditionRowsModel" ({ cls := "ConditionRowsModel", name := "isBad", desc := "(I)Z" } : Jvm.MethodName) ({ cls := "ConditionRowsModel", name := "isBad", desc := "(I)Z" } : Jvm.MethodName)) ∈ zWords := zmemP 25 (by decide +kernel) (by decide +kernel)
theorem m_789 : (Jvm.Cond.code ({ cls := "ConditionRowsModel", name := "order", desc := "(II)I" } : Jvm.MethodName) prog_9_method_19_code (6 : Nat) (Option.some Jvm.ClassFile.FieldType.int)) ∈ zWords := zmem 789 (by decide +kernel) (by decide +kernel)
theorem m_786 : (Jvm.Cond.methodLink "ConditionRowsModel" (168 : Nat) ({ cls := "ConditionRowsModel", name := "order", desc := "(II)I" } : Jvm.MethodName)) ∈ zWords := zmem 786 (by decide +kernel) (by decide +kernel)
theorem m_788 : (Jvm.Cond.instanceMethod ({ cls := "ConditionRowsModel", name := "order", desc := "(II)I" } : Jvm.MethodName)) ∈ zWords := zmem 788 (by decide +kernel) (by decide +kernel)
theorem mp_28 : (Jvm.Cond.selects "ConditionRowsModel" ({ cls := "ConditionRowsModel", name := "order", desc := "(II)I" } : Jvm.MethodName) ({ cls := "ConditionRowsModel", name := "order", desc := "(II)I" } : Jvm.MethodName)) ∈ zWords := zmemP 28 (by decide +kernel) (by decide +kernel)
theorem m_623 : (Jvm.Cond.fieldLink "ConditionRowsModel" (69 : Nat) "ConditionRowsModel" "leaves" "[I") ∈ zWords := zmem 623 (by decide +kernel) (by decide +kernel)
theorem m_624 : (Jvm.Cond.fieldLink "ConditionRowsModel" (171 : Nat) "ConditionRowsModel" "noted" "I") ∈ zWords := zmem 624 (by decide +kernel) (by decide +kernel)
theorem m_625 : (Jvm.Cond.fieldLink "ConditionRowsModel" (174 : Nat) "ConditionRowsModel" "fault" "Z") ∈ zWords := zmem 625 (by decide +kernel) (by decide +kernel)
theorem m_614 : (Jvm.Cond.fieldLink "ConditionRowsModel" (47 : Nat) "ConditionRowsModel" "switches" "[Z") ∈ zWords := zmem 614 (by decide +kernel) (by decide +kernel)
theorem m_822 : (Jvm.Cond.code ({ cls := "ConditionRowsModel", name := "isIn", desc := "(I)Z" } : Jvm.MethodName) prog_9_method_33_code (11 : Nat) (Option.some Jvm.ClassFile.FieldType.boolean)) ∈ zWords := zmem 822 (by decide +kernel) (by decide +kernel)
theorem m_819 : (Jvm.Cond.methodLink "ConditionRowsModel" (185 : Nat) ({ cls := "ConditionRowsModel", name := "isIn", desc := "(I)Z" } : Jvm.MethodName)) ∈ zWords := zmem 819 (by decide +kernel) (by decide +kernel)
theorem m_821 : (Jvm.Cond.instanceMethod ({ cls := "ConditionRowsModel", name := "isIn", desc := "(I)Z" } : Jvm.MethodName)) ∈ zWords := zmem 821 (by decide +kernel) (by decide +kernel)
theorem mp_34 : (Jvm.Cond.selects "ConditionRowsModel" ({ cls := "ConditionRowsModel", name := "isIn", desc := "(I)Z" } : Jvm.MethodName) ({ cls := "ConditionRowsModel", name := "isIn", desc := "(I)Z" } : Jvm.MethodName)) ∈ zWords := zmemP 34 (by decide +kernel) (by decide +kernel)
theorem m_818 : (Jvm.Cond.code ({ cls := "ConditionRowsModel", name := "isOf", desc := "(II)Z" } : Jvm.MethodName) prog_9_method_32_code (8 : Nat) (Option.some Jvm.ClassFile.FieldType.boolean)) ∈ zWords := zmem 818 (by decide +kernel) (by decide +kernel)
theorem m_815 : (Jvm.Cond.methodLink "ConditionRowsModel" (181 : Nat) ({ cls := "ConditionRowsModel", name := "isOf", desc := "(II)Z" } : Jvm.MethodName)) ∈ zWords := zmem 815 (by decide +kernel) (by decide +kernel)
theorem m_817 : (Jvm.Cond.instanceMethod ({ cls := "ConditionRowsModel", name := "isOf", desc := "(II)Z" } : Jvm.MethodName)) ∈ zWords := zmem 817 (by decide +kernel) (by decide +kernel)
theorem mp_33 : (Jvm.Cond.selects "ConditionRowsModel" ({ cls := "ConditionRowsModel", name := "isOf", desc := "(II)Z" } : Jvm.MethodName) ({ cls := "ConditionRowsModel", name := "isOf", desc := "(II)Z" } : Jvm.MethodName)) ∈ zWords := zmemP 33 (by decide +kernel) (by decide +kernel)
theorem m_785 : (Jvm.Cond.code ({ cls := "ConditionRowsModel", name := "related", desc := "(III)Z" } : Jvm.MethodName) prog_9_method_34_code (5 : Nat) (Option.some Jvm.ClassFile.FieldType.boolean)) ∈ zWords := zmem 785 (by decide +kernel) (by decide +kernel)
theorem m_782 : (Jvm.Cond.methodLink "ConditionRowsModel" (177 : Nat) ({ cls := "ConditionRowsModel", name := "related", desc := "(III)Z" } : Jvm.MethodName)) ∈ zWords := zmem 782 (by decide +kernel) (by decide +kernel)
theorem m_784 : (Jvm.Cond.instanceMethod ({ cls := "ConditionRowsModel", name := "related", desc := "(III)Z" } : Jvm.MethodName)) ∈ zWords := zmem 784 (by decide +kernel) (by decide +kernel)
theorem mp_27 : (Jvm.Cond.selects "ConditionRowsModel" ({ cls := "ConditionRowsModel", name := "related", desc := "(III)Z" } : Jvm.MethodName) ({ cls := "ConditionRowsModel", name := "related", desc := "(III)Z" } : Jvm.MethodName)) ∈ zWords := zmemP 27 (by decide +kernel) (by decide +kernel)
theorem m_621 : (Jvm.Cond.fieldLink "ConditionRowsModel" (63 : Nat) "ConditionRowsModel" "known" "[I") ∈ zWords := zmem 621 (by decide +kernel) (by decide +kernel)
theorem m_597 : (Jvm.Cond.fieldLink "ConditionRowsModel" (75 : Nat) "ConditionRowsModel" "whole" "Z") ∈ zWords := zmem 597 (by decide +kernel) (by decide +kernel)
theorem m_622 : (Jvm.Cond.fieldLink "ConditionRowsModel" (66 : Nat) "ConditionRowsModel" "pile" "[I") ∈ zWords := zmem 622 (by decide +kernel) (by decide +kernel)
theorem m_826 : (Jvm.Cond.code ({ cls := "ConditionRowsModel", name := "settled", desc := "(I)I" } : Jvm.MethodName) prog_9_method_36_code (5 : Nat) (Option.some Jvm.ClassFile.FieldType.int)) ∈ zWords := zmem 826 (by decide +kernel) (by decide +kernel)
theorem m_823 : (Jvm.Cond.methodLink "ConditionRowsModel" (191 : Nat) ({ cls := "ConditionRowsModel", name := "settled", desc := "(I)I" } : Jvm.MethodName)) ∈ zWords := zmem 823 (by decide +kernel) (by decide +kernel)
theorem m_825 : (Jvm.Cond.instanceMethod ({ cls := "ConditionRowsModel", name := "settled", desc := "(I)I" } : Jvm.MethodName)) ∈ zWords := zmem 825 (by decide +kernel) (by decide +kernel)
theorem mp_35 : (Jvm.Cond.selects "ConditionRowsModel" ({ cls := "ConditionRowsModel", name := "settled", desc := "(I)I" } : Jvm.MethodName) ({ cls := "ConditionRowsModel", name := "settled", desc := "(I)I" } : Jvm.MethodName)) ∈ zWords := zmemP 35 (by decide +kernel) (by decide +kernel)
theorem m_773 : (Jvm.Cond.code ({ cls := "ConditionRowsModel", name := "leaf", desc := "(I)Z" } : Jvm.MethodName) prog_9_method_35_code (4 : Nat) (Option.some Jvm.ClassFile.FieldType.boolean)) ∈ zWords := zmem 773 (by decide +kernel) (by decide +kernel)
theorem m_770 : (Jvm.Cond.methodLink "ConditionRowsModel" (188 : Nat) ({ cls := "ConditionRowsModel", name := "leaf", desc := "(I)Z" } : Jvm.MethodName)) ∈ zWords := zmem 770 (by decide +kernel) (by decide +kernel)
theorem m_772 : (Jvm.Cond.instanceMethod ({ cls := "ConditionRowsModel", name := "leaf", desc := "(I)Z" } : Jvm.MethodName)) ∈ zWords := zmem 772 (by decide +kernel) (by decide +kernel)
theorem mp_24 : (Jvm.Cond.selects "ConditionRowsModel" ({ cls := "ConditionRowsModel", name := "leaf", desc := "(I)Z" } : Jvm.MethodName) ({ cls := "ConditionRowsModel", name := "leaf", desc := "(I)Z" } : Jvm.MethodName)) ∈ zWords := zmemP 24 (by decide +kernel) (by decide +kernel)
theorem m_184 : (Jvm.Cond.laysFinal "ConditionRows" "ConditionRows" "whole" "Z") ∈ zWords := zmem 184 (by decide +kernel) (by decide +kernel)
theorem m_186 : (Jvm.Cond.laysFinal "ConditionRows" "ConditionRows" "fields" "LConditionRows$Fields;") ∈ zWords := zmem 186 (by decide +kernel) (by decide +kernel)
theorem m_188 : (Jvm.Cond.laysFinal "ConditionRows" "ConditionRows" "weights" "LConditionRows$Weights;") ∈ zWords := zmem 188 (by decide +kernel) (by decide +kernel)
theorem m_190 : (Jvm.Cond.laysFinal "ConditionRows" "ConditionRows" "names" "LConditionRows$Names;") ∈ zWords := zmem 190 (by decide +kernel) (by decide +kernel)
theorem m_192 : (Jvm.Cond.laysFinal "ConditionRows" "ConditionRows" "nodes" "LConditionRows$Nodes;") ∈ zWords := zmem 192 (by decide +kernel) (by decide +kernel)
theorem m_194 : (Jvm.Cond.laysFinal "ConditionRows" "ConditionRows" "row" "LConditionRows$Row;") ∈ zWords := zmem 194 (by decide +kernel) (by decide +kernel)
theorem m_196 : (Jvm.Cond.laysFinal "ConditionRows" "ConditionRows" "testing" "LConditionRows$Testing;") ∈ zWords := zmem 196 (by decide +kernel) (by decide +kernel)
theorem m_198 : (Jvm.Cond.laysFinal "ConditionRows" "ConditionRows" "switches" "[Z") ∈ zWords := zmem 198 (by decide +kernel) (by decide +kernel)
theorem m_200 : (Jvm.Cond.laysFinal "ConditionRows" "ConditionRows" "leftText" "[I") ∈ zWords := zmem 200 (by decide +kernel) (by decide +kernel)
theorem m_202 : (Jvm.Cond.laysFinal "ConditionRows" "ConditionRows" "rightText" "[I") ∈ zWords := zmem 202 (by decide +kernel) (by decide +kernel)
theorem m_40 : (Jvm.Cond.laysFinal "ConditionRows$Fields" "ConditionRows$Fields" "category" "[I") ∈ zWords := zmem 40 (by decide +kernel) (by decide +kernel)
theorem m_42 : (Jvm.Cond.laysFinal "ConditionRows$Fields" "ConditionRows$Fields" "size" "[I") ∈ zWords := zmem 42 (by decide +kernel) (by decide +kernel)
theorem m_44 : (Jvm.Cond.laysFinal "ConditionRows$Fields" "ConditionRows$Fields" "scale" "[I") ∈ zWords := zmem 44 (by decide +kernel) (by decide +kernel)
theorem m_46 : (Jvm.Cond.laysFinal "ConditionRows$Fields" "ConditionRows$Fields" "bytes" "[I") ∈ zWords := zmem 46 (by decide +kernel) (by decide +kernel)
theorem m_48 : (Jvm.Cond.lays "ConditionRows$Fields" "ConditionRows$Fields" "made" "I") ∈ zWords := zmem 48 (by decide +kernel) (by decide +kernel)
theorem m_60 : (Jvm.Cond.laysFinal "ConditionRows$Weights" "ConditionRows$Weights" "of" "[I") ∈ zWords := zmem 60 (by decide +kernel) (by decide +kernel)
theorem m_76 : (Jvm.Cond.laysFinal "ConditionRows$Names" "ConditionRows$Names" "field" "[I") ∈ zWords := zmem 76 (by decide +kernel) (by decide +kernel)
theorem m_78 : (Jvm.Cond.laysFinal "ConditionRows$Names" "ConditionRows$Names" "ranges" "[I") ∈ zWords := zmem 78 (by decide +kernel) (by decide +kernel)
theorem m_80 : (Jvm.Cond.laysFinal "ConditionRows$Names" "ConditionRows$Names" "low" "[J") ∈ zWords := zmem 80 (by decide +kernel) (by decide +kernel)
theorem m_82 : (Jvm.Cond.laysFinal "ConditionRows$Names" "ConditionRows$Names" "high" "[J") ∈ zWords := zmem 82 (by decide +kernel) (by decide +kernel)
theorem m_84 : (Jvm.Cond.lays "ConditionRows$Names" "ConditionRows$Names" "made" "I") ∈ zWords := zmem 84 (by decide +kernel) (by decide +kernel)
theorem m_102 : (Jvm.Cond.laysFinal "ConditionRows$Nodes" "ConditionRows$Nodes" "op" "[I") ∈ zWords := zmem 102 (by decide +kernel) (by decide +kernel)
theorem m_104 : (Jvm.Cond.laysFinal "ConditionRows$Nodes" "ConditionRows$Nodes" "a" "[I") ∈ zWords := zmem 104 (by decide +kernel) (by decide +kernel)
theorem m_106 : (Jvm.Cond.laysFinal "ConditionRows$Nodes" "ConditionRows$Nodes" "b" "[I") ∈ zWords := zmem 106 (by decide +kernel) (by decide +kernel)
theorem m_108 : (Jvm.Cond.lays "ConditionRows$Nodes" "ConditionRows$Nodes" "made" "I") ∈ zWords := zmem 108 (by decide +kernel) (by decide +kernel)
theorem m_131 : (Jvm.Cond.laysFinal "ConditionRows$Row" "ConditionRows$Row" "with" "[I") ∈ zWords := zmem 131 (by decide +kernel) (by decide +kernel)
theorem m_133 : (Jvm.Cond.laysFinal "ConditionRows$Row" "ConditionRows$Row" "op" "[I") ∈ zWords := zmem 133 (by decide +kernel) (by decide +kernel)
theorem m_135 : (Jvm.Cond.laysFinal "ConditionRows$Row" "ConditionRows$Row" "negated" "[Z") ∈ zWords := zmem 135 (by decide +kernel) (by decide +kernel)
theorem m_137 : (Jvm.Cond.laysFinal "ConditionRows$Row" "ConditionRows$Row" "object" "[I") ∈ zWords := zmem 137 (by decide +kernel) (by decide +kernel)
theorem m_139 : (Jvm.Cond.lays "ConditionRows$Row" "ConditionRows$Row" "subject" "I") ∈ zWords := zmem 139 (by decide +kernel) (by decide +kernel)
theorem m_141 : (Jvm.Cond.lays "ConditionRows$Row" "ConditionRows$Row" "carried" "I") ∈ zWords := zmem 141 (by decide +kernel) (by decide +kernel)
theorem m_143 : (Jvm.Cond.lays "ConditionRows$Row" "ConditionRows$Row" "length" "I") ∈ zWords := zmem 143 (by decide +kernel) (by decide +kernel)
theorem m_163 : (Jvm.Cond.laysFinal "ConditionRows$Testing" "ConditionRows$Testing" "outcome" "[I") ∈ zWords := zmem 163 (by decide +kernel) (by decide +kernel)
theorem m_165 : (Jvm.Cond.laysFinal "ConditionRows$Testing" "ConditionRows$Testing" "leaves" "[I") ∈ zWords := zmem 165 (by decide +kernel) (by decide +kernel)
theorem m_167 : (Jvm.Cond.laysFinal "ConditionRows$Testing" "ConditionRows$Testing" "waiting" "[I") ∈ zWords := zmem 167 (by decide +kernel) (by decide +kernel)
theorem m_169 : (Jvm.Cond.lays "ConditionRows$Testing" "ConditionRows$Testing" "noted" "I") ∈ zWords := zmem 169 (by decide +kernel) (by decide +kernel)
theorem m_171 : (Jvm.Cond.lays "ConditionRows$Testing" "ConditionRows$Testing" "depth" "I") ∈ zWords := zmem 171 (by decide +kernel) (by decide +kernel)
theorem m_627 : (Jvm.Cond.laysFinal "ConditionRowsModel" "ConditionRowsModel" "whole" "Z") ∈ zWords := zmem 627 (by decide +kernel) (by decide +kernel)
theorem m_629 : (Jvm.Cond.lays "ConditionRowsModel" "ConditionRowsModel" "thrown" "I") ∈ zWords := zmem 629 (by decide +kernel) (by decide +kernel)
theorem m_631 : (Jvm.Cond.laysFinal "ConditionRowsModel" "ConditionRowsModel" "bytes" "[I") ∈ zWords := zmem 631 (by decide +kernel) (by decide +kernel)
theorem m_633 : (Jvm.Cond.laysFinal "ConditionRowsModel" "ConditionRowsModel" "categories" "[I") ∈ zWords := zmem 633 (by decide +kernel) (by decide +kernel)
theorem m_635 : (Jvm.Cond.laysFinal "ConditionRowsModel" "ConditionRowsModel" "sizes" "[I") ∈ zWords := zmem 635 (by decide +kernel) (by decide +kernel)
theorem m_637 : (Jvm.Cond.laysFinal "ConditionRowsModel" "ConditionRowsModel" "scales" "[I") ∈ zWords := zmem 637 (by decide +kernel) (by decide +kernel)
theorem m_639 : (Jvm.Cond.laysFinal "ConditionRowsModel" "ConditionRowsModel" "weights" "[I") ∈ zWords := zmem 639 (by decide +kernel) (by decide +kernel)
theorem m_641 : (Jvm.Cond.lays "ConditionRowsModel" "ConditionRowsModel" "fields" "I") ∈ zWords := zmem 641 (by decide +kernel) (by decide +kernel)
theorem m_643 : (Jvm.Cond.laysFinal "ConditionRowsModel" "ConditionRowsModel" "ops" "[I") ∈ zWords := zmem 643 (by decide +kernel) (by decide +kernel)
theorem m_645 : (Jvm.Cond.laysFinal "ConditionRowsModel" "ConditionRowsModel" "as" "[I") ∈ zWords := zmem 645 (by decide +kernel) (by decide +kernel)
theorem m_647 : (Jvm.Cond.laysFinal "ConditionRowsModel" "ConditionRowsModel" "bs" "[I") ∈ zWords := zmem 647 (by decide +kernel) (by decide +kernel)
theorem m_649 : (Jvm.Cond.lays "ConditionRowsModel" "ConditionRowsModel" "nodes" "I") ∈ zWords := zmem 649 (by decide +kernel) (by decide +kernel)
theorem m_651 : (Jvm.Cond.laysFinal "ConditionRowsModel" "ConditionRowsModel" "nameFields" "[I") ∈ zWords := zmem 651 (by decide +kernel) (by decide +kernel)
theorem m_653 : (Jvm.Cond.laysFinal "ConditionRowsModel" "ConditionRowsModel" "ranges" "[I") ∈ zWords := zmem 653 (by decide +kernel) (by decide +kernel)
theorem m_655 : (Jvm.Cond.laysFinal "ConditionRowsModel" "ConditionRowsModel" "lows" "[J") ∈ zWords := zmem 655 (by decide +kernel) (by decide +kernel)
theorem m_657 : (Jvm.Cond.laysFinal "ConditionRowsModel" "ConditionRowsModel" "highs" "[J") ∈ zWords := zmem 657 (by decide +kernel) (by decide +kernel)
theorem m_659 : (Jvm.Cond.lays "ConditionRowsModel" "ConditionRowsModel" "names" "I") ∈ zWords := zmem 659 (by decide +kernel) (by decide +kernel)
theorem m_661 : (Jvm.Cond.laysFinal "ConditionRowsModel" "ConditionRowsModel" "switches" "[Z") ∈ zWords := zmem 661 (by decide +kernel) (by decide +kernel)
theorem m_663 : (Jvm.Cond.laysFinal "ConditionRowsModel" "ConditionRowsModel" "ways" "[I") ∈ zWords := zmem 663 (by decide +kernel) (by decide +kernel)
theorem m_665 : (Jvm.Cond.laysFinal "ConditionRowsModel" "ConditionRowsModel" "rowOps" "[I") ∈ zWords := zmem 665 (by decide +kernel) (by decide +kernel)
theorem m_667 : (Jvm.Cond.laysFinal "ConditionRowsModel" "ConditionRowsModel" "objects" "[I") ∈ zWords := zmem 667 (by decide +kernel) (by decide +kernel)
theorem m_669 : (Jvm.Cond.laysFinal "ConditionRowsModel" "ConditionRowsModel" "turned" "[Z") ∈ zWords := zmem 669 (by decide +kernel) (by decide +kernel)
theorem m_671 : (Jvm.Cond.lays "ConditionRowsModel" "ConditionRowsModel" "row" "I") ∈ zWords := zmem 671 (by decide +kernel) (by decide +kernel)
theorem m_673 : (Jvm.Cond.lays "ConditionRowsModel" "ConditionRowsModel" "subject" "I") ∈ zWords := zmem 673 (by decide +kernel) (by decide +kernel)
theorem m_675 : (Jvm.Cond.laysFinal "ConditionRowsModel" "ConditionRowsModel" "known" "[I") ∈ zWords := zmem 675 (by decide +kernel) (by decide +kernel)
theorem m_677 : (Jvm.Cond.laysFinal "ConditionRowsModel" "ConditionRowsModel" "pile" "[I") ∈ zWords := zmem 677 (by decide +kernel) (by decide +kernel)
theorem m_679 : (Jvm.Cond.laysFinal "ConditionRowsModel" "ConditionRowsModel" "leaves" "[I") ∈ zWords := zmem 679 (by decide +kernel) (by decide +kernel)
theorem m_681 : (Jvm.Cond.lays "ConditionRowsModel" "ConditionRowsModel" "noted" "I") ∈ zWords := zmem 681 (by decide +kernel) (by decide +kernel)
theorem m_683 : (Jvm.Cond.lays "ConditionRowsModel" "ConditionRowsModel" "fault" "Z") ∈ zWords := zmem 683 (by decide +kernel) (by decide +kernel)
theorem m_685 : (Jvm.Cond.laysFinal "ConditionRowsModel" "ConditionRowsModel" "digits" "[I") ∈ zWords := zmem 685 (by decide +kernel) (by decide +kernel)
theorem inX : ∀ w ∈ u_ws RX TX 10, w ∈ zWords := by
  intro w hw
  obtain ⟨k, hk, rfl⟩ := List.mem_map.mp hw
  have hk := List.mem_range.mp hk
  rcases (show k = 0 ∨ k = 1 ∨ k = 2 ∨ k = 3 ∨ k = 4 ∨ k = 5 ∨ k = 6 ∨ k = 7 ∨ k = 8 ∨ k = 9 by omega) with rfl | rfl | rfl | rfl | rfl | rfl | rfl | rfl | rfl | rfl
  · exact m_184
  · exact m_186
  · exact m_188
  · exact m_190
  · exact m_192
  · exact m_194
  · exact m_196
  · exact m_198
  · exact m_200
  · exact m_202
theorem inXF : ∀ w ∈ u_ws RXF TXF 5, w ∈ zWords := by
  intro w hw
  obtain ⟨k, hk, rfl⟩ := List.mem_map.mp hw
  have hk := List.mem_range.mp hk
  rcases (show k = 0 ∨ k = 1 ∨ k = 2 ∨ k = 3 ∨ k = 4 by omega) with rfl | rfl | rfl | rfl | rfl
  · exact m_40
  · exact m_42
  · exact m_44
  · exact m_46
  · exact m_48
theorem inXW : ∀ w ∈ u_ws RXW TXW 1, w ∈ zWords := by
  intro w hw
  obtain ⟨k, hk, rfl⟩ := List.mem_map.mp hw
  have hk := List.mem_range.mp hk
  rcases (show k = 0 by omega) with rfl
  · exact m_60
theorem inXN : ∀ w ∈ u_ws RXN TXN 5, w ∈ zWords := by
  intro w hw
  obtain ⟨k, hk, rfl⟩ := List.mem_map.mp hw
  have hk := List.mem_range.mp hk
  rcases (show k = 0 ∨ k = 1 ∨ k = 2 ∨ k = 3 ∨ k = 4 by omega) with rfl | rfl | rfl | rfl | rfl
  · exact m_76
  · exact m_78
  · exact m_80
  · exact m_82
  · exact m_84
theorem inXO : ∀ w ∈ u_ws RXO TXO 4, w ∈ zWords := by
  intro w hw
  obtain ⟨k, hk, rfl⟩ := List.mem_map.mp hw
  have hk := List.mem_range.mp hk
  rcases (show k = 0 ∨ k = 1 ∨ k = 2 ∨ k = 3 by omega) with rfl | rfl | rfl | rfl
  · exact m_102
  · exact m_104
  · exact m_106
  · exact m_108
theorem inXR : ∀ w ∈ u_ws RXR TXR 7, w ∈ zWords := by
  intro w hw
  obtain ⟨k, hk, rfl⟩ := List.mem_map.mp hw
  have hk := List.mem_range.mp hk
  rcases (show k = 0 ∨ k = 1 ∨ k = 2 ∨ k = 3 ∨ k = 4 ∨ k = 5 ∨ k = 6 by omega) with rfl | rfl | rfl | rfl | rfl | rfl | rfl
  · exact m_131
  · exact m_133
  · exact m_135
  · exact m_137
  · exact m_139
  · exact m_141
  · exact m_143
theorem inXT : ∀ w ∈ u_ws RXT TXT 5, w ∈ zWords := by
  intro w hw
  obtain ⟨k, hk, rfl⟩ := List.mem_map.mp hw
  have hk := List.mem_range.mp hk
  rcases (show k = 0 ∨ k = 1 ∨ k = 2 ∨ k = 3 ∨ k = 4 by omega) with rfl | rfl | rfl | rfl | rfl
  · exact m_163
  · exact m_165
  · exact m_167
  · exact m_169
  · exact m_171
theorem inM : ∀ w ∈ u_ws RM TM 30, w ∈ zWords := by
  intro w hw
  obtain ⟨k, hk, rfl⟩ := List.mem_map.mp hw
  have hk := List.mem_range.mp hk
  rcases (show k = 0 ∨ k = 1 ∨ k = 2 ∨ k = 3 ∨ k = 4 ∨ k = 5 ∨ k = 6 ∨ k = 7 ∨ k = 8 ∨ k = 9 ∨ k = 10 ∨ k = 11 ∨ k = 12 ∨ k = 13 ∨ k = 14 ∨ k = 15 ∨ k = 16 ∨ k = 17 ∨ k = 18 ∨ k = 19 ∨ k = 20 ∨ k = 21 ∨ k = 22 ∨ k = 23 ∨ k = 24 ∨ k = 25 ∨ k = 26 ∨ k = 27 ∨ k = 28 ∨ k = 29 by omega) with rfl | rfl | rfl | rfl | rfl | rfl | rfl | rfl | rfl | rfl | rfl | rfl | rfl | rfl | rfl | rfl | rfl | rfl | rfl | rfl | rfl | rfl | rfl | rfl | rfl | rfl | rfl | rfl | rfl | rfl
  · exact m_627
  · exact m_629
  · exact m_631
  · exact m_633
  · exact m_635
  · exact m_637
  · exact m_639
  · exact m_641
  · exact m_643
  · exact m_645
  · exact m_647
  · exact m_649
  · exact m_651
  · exact m_653
  · exact m_655
  · exact m_657
  · exact m_659
  · exact m_661
  · exact m_663
  · exact m_665
  · exact m_667
  · exact m_669
  · exact m_671
  · exact m_673
  · exact m_675
  · exact m_677
  · exact m_679
  · exact m_681
  · exact m_683
  · exact m_685
def zN : List Cond := [(Jvm.Cond.methodLinkNest "ConditionRows" (9 : Nat) ({ cls := "ConditionRows$Fields", name := "<init>", desc := "()V" } : Jvm.MethodName) "ConditionRows"),
  (Jvm.Cond.fieldLinkNest "ConditionRows" (78 : Nat) "ConditionRows$Fields" "size" "[I" "ConditionRows"),
  (Jvm.Cond.fieldLinkNest "ConditionRows" (87 : Nat) "ConditionRows$Fields" "scale" "[I" "ConditionRows"),
  (Jvm.Cond.fieldLinkNest "ConditionRows" (81 : Nat) "ConditionRows$Fields" "bytes" "[I" "ConditionRows"),
  (Jvm.Cond.fieldLinkNest "ConditionRows" (186 : Nat) "ConditionRows$Fields" "made" "I" "ConditionRows"),
  (Jvm.Cond.fieldLinkNest "ConditionRows" (93 : Nat) "ConditionRows$Weights" "of" "[I" "ConditionRows"),
  (Jvm.Cond.methodLinkNest "ConditionRows" (25 : Nat) ({ cls := "ConditionRows$Names", name := "<init>", desc := "()V" } : Jvm.MethodName) "ConditionRows"),
  (Jvm.Cond.fieldLinkNest "ConditionRows" (114 : Nat) "ConditionRows$Names" "field" "[I" "ConditionRows"),
  (Jvm.Cond.fieldLinkNest "ConditionRows" (187 : Nat) "ConditionRows$Names" "made" "I" "ConditionRows"),
  (Jvm.Cond.methodLinkNest "ConditionRows" (32 : Nat) ({ cls := "ConditionRows$Nodes", name := "<init>", desc := "()V" } : Jvm.MethodName) "ConditionRows"),
  (Jvm.Cond.fieldLinkNest "ConditionRows" (238 : Nat) "ConditionRows$Nodes" "op" "[I" "ConditionRows"),
  (Jvm.Cond.fieldLinkNest "ConditionRows" (251 : Nat) "ConditionRows$Nodes" "a" "[I" "ConditionRows"),
  (Jvm.Cond.fieldLinkNest "ConditionRows" (254 : Nat) "ConditionRows$Nodes" "b" "[I" "ConditionRows"),
  (Jvm.Cond.fieldLinkNest "ConditionRows" (145 : Nat) "ConditionRows$Nodes" "made" "I" "ConditionRows"),
  (Jvm.Cond.methodLinkNest "ConditionRows" (39 : Nat) ({ cls := "ConditionRows$Row", name := "<init>", desc := "()V" } : Jvm.MethodName) "ConditionRows"),
  (Jvm.Cond.fieldLinkNest "ConditionRows" (202 : Nat) "ConditionRows$Row" "with" "[I" "ConditionRows"),
  (Jvm.Cond.fieldLinkNest "ConditionRows" (211 : Nat) "ConditionRows$Row" "op" "[I" "ConditionRows"),
  (Jvm.Cond.fieldLinkNest "ConditionRows" (220 : Nat) "ConditionRows$Row" "negated" "[Z" "ConditionRows"),
  (Jvm.Cond.fieldLinkNest "ConditionRows" (217 : Nat) "ConditionRows$Row" "object" "[I" "ConditionRows"),
  (Jvm.Cond.fieldLinkNest "ConditionRows" (214 : Nat) "ConditionRows$Row" "subject" "I" "ConditionRows"),
  (Jvm.Cond.fieldLinkNest "ConditionRows" (131 : Nat) "ConditionRows$Row" "carried" "I" "ConditionRows"),
  (Jvm.Cond.fieldLinkNest "ConditionRows" (127 : Nat) "ConditionRows$Row" "length" "I" "ConditionRows"),
  (Jvm.Cond.methodLinkNest "ConditionRows" (46 : Nat) ({ cls := "ConditionRows$Testing", name := "<init>", desc := "()V" } : Jvm.MethodName) "ConditionRows"),
  (Jvm.Cond.fieldLinkNest "ConditionRows" (248 : Nat) "ConditionRows$Testing" "outcome" "[I" "ConditionRows"),
  (Jvm.Cond.fieldLinkNest "ConditionRows" (170 : Nat) "ConditionRows$Testing" "leaves" "[I" "ConditionRows"),
  (Jvm.Cond.fieldLinkNest "ConditionRows" (232 : Nat) "ConditionRows$Testing" "waiting" "[I" "ConditionRows"),
  (Jvm.Cond.fieldLinkNest "ConditionRows" (167 : Nat) "ConditionRows$Testing" "noted" "I" "ConditionRows"),
  (Jvm.Cond.fieldLinkNest "ConditionRows" (229 : Nat) "ConditionRows$Testing" "depth" "I" "ConditionRows"),
  (Jvm.Cond.methodLinkNest "ConditionRows$Names" (33 : Nat) ({ cls := "ConditionRows", name := "isBelowUnsigned", desc := "(JJ)Z" } : Jvm.MethodName) "ConditionRows"),
  (Jvm.Cond.fieldLinkNest "ConditionRows$Fields" (67 : Nat) "ConditionRows" "TENS" "[J" "ConditionRows")]
theorem zn_0 : (Jvm.Cond.methodLinkNest "ConditionRows" (9 : Nat) ({ cls := "ConditionRows$Fields", name := "<init>", desc := "()V" } : Jvm.MethodName) "ConditionRows") ∈ zN := List.mem_of_getElem? (i := 0) rfl
theorem zn_1 : (Jvm.Cond.fieldLinkNest "ConditionRows" (78 : Nat) "ConditionRows$Fields" "size" "[I" "ConditionRows") ∈ zN := List.mem_of_getElem? (i := 1) rfl
theorem zn_2 : (Jvm.Cond.fieldLinkNest "ConditionRows" (87 : Nat) "ConditionRows$Fields" "scale" "[I" "ConditionRows") ∈ zN := List.mem_of_getElem? (i := 2) rfl
theorem zn_3 : (Jvm.Cond.fieldLinkNest "ConditionRows" (81 : Nat) "ConditionRows$Fields" "bytes" "[I" "ConditionRows") ∈ zN := List.mem_of_getElem? (i := 3) rfl
theorem zn_4 : (Jvm.Cond.fieldLinkNest "ConditionRows" (186 : Nat) "ConditionRows$Fields" "made" "I" "ConditionRows") ∈ zN := List.mem_of_getElem? (i := 4) rfl
theorem zn_5 : (Jvm.Cond.fieldLinkNest "ConditionRows" (93 : Nat) "ConditionRows$Weights" "of" "[I" "ConditionRows") ∈ zN := List.mem_of_getElem? (i := 5) rfl
theorem zn_6 : (Jvm.Cond.methodLinkNest "ConditionRows" (25 : Nat) ({ cls := "ConditionRows$Names", name := "<init>", desc := "()V" } : Jvm.MethodName) "ConditionRows") ∈ zN := List.mem_of_getElem? (i := 6) rfl
theorem zn_7 : (Jvm.Cond.fieldLinkNest "ConditionRows" (114 : Nat) "ConditionRows$Names" "field" "[I" "ConditionRows") ∈ zN := List.mem_of_getElem? (i := 7) rfl
theorem zn_8 : (Jvm.Cond.fieldLinkNest "ConditionRows" (187 : Nat) "ConditionRows$Names" "made" "I" "ConditionRows") ∈ zN := List.mem_of_getElem? (i := 8) rfl
theorem zn_9 : (Jvm.Cond.methodLinkNest "ConditionRows" (32 : Nat) ({ cls := "ConditionRows$Nodes", name := "<init>", desc := "()V" } : Jvm.MethodName) "ConditionRows") ∈ zN := List.mem_of_getElem? (i := 9) rfl
theorem zn_10 : (Jvm.Cond.fieldLinkNest "ConditionRows" (238 : Nat) "ConditionRows$Nodes" "op" "[I" "ConditionRows") ∈ zN := List.mem_of_getElem? (i := 10) rfl
theorem zn_11 : (Jvm.Cond.fieldLinkNest "ConditionRows" (251 : Nat) "ConditionRows$Nodes" "a" "[I" "ConditionRows") ∈ zN := List.mem_of_getElem? (i := 11) rfl
theorem zn_12 : (Jvm.Cond.fieldLinkNest "ConditionRows" (254 : Nat) "ConditionRows$Nodes" "b" "[I" "ConditionRows") ∈ zN := List.mem_of_getElem? (i := 12) rfl
theorem zn_13 : (Jvm.Cond.fieldLinkNest "ConditionRows" (145 : Nat) "ConditionRows$Nodes" "made" "I" "ConditionRows") ∈ zN := List.mem_of_getElem? (i := 13) rfl
theorem zn_14 : (Jvm.Cond.methodLinkNest "ConditionRows" (39 : Nat) ({ cls := "ConditionRows$Row", name := "<init>", desc := "()V" } : Jvm.MethodName) "ConditionRows") ∈ zN := List.mem_of_getElem? (i := 14) rfl
theorem zn_15 : (Jvm.Cond.fieldLinkNest "ConditionRows" (202 : Nat) "ConditionRows$Row" "with" "[I" "ConditionRows") ∈ zN := List.mem_of_getElem? (i := 15) rfl
theorem zn_16 : (Jvm.Cond.fieldLinkNest "ConditionRows" (211 : Nat) "ConditionRows$Row" "op" "[I" "ConditionRows") ∈ zN := List.mem_of_getElem? (i := 16) rfl
theorem zn_17 : (Jvm.Cond.fieldLinkNest "ConditionRows" (220 : Nat) "ConditionRows$Row" "negated" "[Z" "ConditionRows") ∈ zN := List.mem_of_getElem? (i := 17) rfl
theorem zn_18 : (Jvm.Cond.fieldLinkNest "ConditionRows" (217 : Nat) "ConditionRows$Row" "object" "[I" "ConditionRows") ∈ zN := List.mem_of_getElem? (i := 18) rfl
theorem zn_19 : (Jvm.Cond.fieldLinkNest "ConditionRows" (214 : Nat) "ConditionRows$Row" "subject" "I" "ConditionRows") ∈ zN := List.mem_of_getElem? (i := 19) rfl
theorem zn_20 : (Jvm.Cond.fieldLinkNest "ConditionRows" (131 : Nat) "ConditionRows$Row" "carried" "I" "ConditionRows") ∈ zN := List.mem_of_getElem? (i := 20) rfl
theorem zn_21 : (Jvm.Cond.fieldLinkNest "ConditionRows" (127 : Nat) "ConditionRows$Row" "length" "I" "ConditionRows") ∈ zN := List.mem_of_getElem? (i := 21) rfl
theorem zn_22 : (Jvm.Cond.methodLinkNest "ConditionRows" (46 : Nat) ({ cls := "ConditionRows$Testing", name := "<init>", desc := "()V" } : Jvm.MethodName) "ConditionRows") ∈ zN := List.mem_of_getElem? (i := 22) rfl
theorem zn_23 : (Jvm.Cond.fieldLinkNest "ConditionRows" (248 : Nat) "ConditionRows$Testing" "outcome" "[I" "ConditionRows") ∈ zN := List.mem_of_getElem? (i := 23) rfl
theorem zn_24 : (Jvm.Cond.fieldLinkNest "ConditionRows" (170 : Nat) "ConditionRows$Testing" "leaves" "[I" "ConditionRows") ∈ zN := List.mem_of_getElem? (i := 24) rfl
theorem zn_25 : (Jvm.Cond.fieldLinkNest "ConditionRows" (232 : Nat) "ConditionRows$Testing" "waiting" "[I" "ConditionRows") ∈ zN := List.mem_of_getElem? (i := 25) rfl
theorem zn_26 : (Jvm.Cond.fieldLinkNest "ConditionRows" (167 : Nat) "ConditionRows$Testing" "noted" "I" "ConditionRows") ∈ zN := List.mem_of_getElem? (i := 26) rfl
theorem zn_27 : (Jvm.Cond.fieldLinkNest "ConditionRows" (229 : Nat) "ConditionRows$Testing" "depth" "I" "ConditionRows") ∈ zN := List.mem_of_getElem? (i := 27) rfl
theorem zn_28 : (Jvm.Cond.methodLinkNest "ConditionRows$Names" (33 : Nat) ({ cls := "ConditionRows", name := "isBelowUnsigned", desc := "(JJ)Z" } : Jvm.MethodName) "ConditionRows") ∈ zN := List.mem_of_getElem? (i := 28) rfl
theorem zn_29 : (Jvm.Cond.fieldLinkNest "ConditionRows$Fields" (67 : Nat) "ConditionRows" "TENS" "[J" "ConditionRows") ∈ zN := List.mem_of_getElem? (i := 29) rfl
