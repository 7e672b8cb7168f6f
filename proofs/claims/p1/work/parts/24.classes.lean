/-! ### The classes of this run, and their fields -/
def tC_GC : u_T := fun k => match k with
  | 0 => ("GrantChain", "line", "LGrantChain$Line;", true)
  | 1 => ("GrantChain", "reader", "LGrantChain$Reader;", true)
  | 2 => ("GrantChain", "judge", "LGrantChain$Judge;", true)
  | 3 => ("GrantChain", "deskClauses", "LGrantChain$Block;", true)
  | 4 => ("GrantChain", "blocks", "Ljava/util/List;", true)
  | 5 => ("GrantChain", "tokens", "Ljava/util/List;", true)
  | 6 => ("GrantChain", "making", "LGrantChain$Block;", false)
  | 7 => ("GrantChain", "keys", "I", false)
  | 8 => ("GrantChain", "most", "I", false)
  | _ => ("GrantChain", "more", "I", false)
def tC_Ln : u_T := fun k => match k with
  | 0 => ("GrantChain$Line", "text", "[C", true)
  | 1 => ("GrantChain$Line", "length", "I", false)
  | _ => ("GrantChain$Line", "at", "I", false)
def tC_Rd : u_T := fun k => match k with
  | 0 => ("GrantChain$Reader", "steps", "[I", true)
  | 1 => ("GrantChain$Reader", "stepCount", "I", false)
  | 2 => ("GrantChain$Reader", "neededVariables", "I", false)
  | _ => ("GrantChain$Reader", "bodyVariables", "I", false)
def tC_Jg : u_T := fun k => match k with
  | 0 => ("GrantChain$Judge", "facts", "LGrantChain$Facts;", true)
  | 1 => ("GrantChain$Judge", "nothing", "LGrantChain$Block;", true)
  | 2 => ("GrantChain$Judge", "places", "[LGrantChain$Block;", true)
  | 3 => ("GrantChain$Judge", "result", "I", false)
  | 4 => ("GrantChain$Judge", "rounds", "I", false)
  | 5 => ("GrantChain$Judge", "unfulfilled", "I", false)
  | 6 => ("GrantChain$Judge", "values", "[I", true)
  | 7 => ("GrantChain$Judge", "stack", "[I", true)
  | 8 => ("GrantChain$Judge", "known", "I", false)
  | 9 => ("GrantChain$Judge", "ruleFailed", "Z", false)
  | 10 => ("GrantChain$Judge", "trusted", "I", false)
  | 11 => ("GrantChain$Judge", "held", "Z", false)
  | 12 => ("GrantChain$Judge", "missed", "Z", false)
  | _ => ("GrantChain$Judge", "failed", "Z", false)
def tC_Fa : u_T := fun k => match k with
  | 0 => ("GrantChain$Facts", "rows", "[[I", true)
  | 1 => ("GrantChain$Facts", "size", "I", false)
  | 2 => ("GrantChain$Facts", "overfull", "Z", false)
  | _ => ("GrantChain$Facts", "room", "I", false)
def tC_Bk : u_T := fun k => match k with
  | _ => ("GrantChain$Block", "clauses", "Ljava/util/List;", true)
def tC_At : u_T := fun k => match k with
  | 0 => ("GrantChain$Atom", "letter", "I", true)
  | 1 => ("GrantChain$Atom", "size", "I", true)
  | 2 => ("GrantChain$Atom", "first", "I", true)
  | _ => ("GrantChain$Atom", "second", "I", true)
def tC_Cl : u_T := fun k => match k with
  | 0 => ("GrantChain$Clause", "kind", "I", true)
  | 1 => ("GrantChain$Clause", "trustsBefore", "Z", true)
  | 2 => ("GrantChain$Clause", "head", "LGrantChain$Atom;", true)
  | 3 => ("GrantChain$Clause", "body", "Ljava/util/List;", true)
  | _ => ("GrantChain$Clause", "steps", "[I", true)
def tC_Tk : u_T := fun k => match k with
  | 0 => ("GrantChain$Token", "links", "Ljava/util/List;", true)
  | 1 => ("GrantChain$Token", "sealed", "Z", false)
  | 2 => ("GrantChain$Token", "proofKey", "I", false)
  | _ => ("GrantChain$Token", "sealedLinks", "I", false)
def tC_Lk : u_T := fun k => match k with
  | 0 => ("GrantChain$Link", "block", "I", true)
  | 1 => ("GrantChain$Link", "next", "I", true)
  | 2 => ("GrantChain$Link", "signer", "I", true)
  | 3 => ("GrantChain$Link", "signedBlock", "I", true)
  | _ => ("GrantChain$Link", "signedNext", "I", true)
def tC_Md : u_T := fun k => match k with
  | 0 => ("GrantChainModel", "thrown", "I", false)
  | 1 => ("GrantChainModel", "text", "[I", true)
  | 2 => ("GrantChainModel", "length", "[I", true)
  | 3 => ("GrantChainModel", "clauses", "[I", true)
  | 4 => ("GrantChainModel", "atDesk", "I", false)
  | 5 => ("GrantChainModel", "blocks", "I", false)
  | 6 => ("GrantChainModel", "keys", "I", false)
  | 7 => ("GrantChainModel", "most", "I", false)
  | 8 => ("GrantChainModel", "more", "I", false)
  | 9 => ("GrantChainModel", "tokens", "I", false)
  | 10 => ("GrantChainModel", "links", "[I", true)
  | 11 => ("GrantChainModel", "cells", "[I", true)
  | 12 => ("GrantChainModel", "sealed", "[Z", true)
  | 13 => ("GrantChainModel", "proof", "[I", true)
  | 14 => ("GrantChainModel", "sealedLinks", "[I", true)
  | 15 => ("GrantChainModel", "reading", "I", false)
  | 16 => ("GrantChainModel", "at", "I", false)
  | 17 => ("GrantChainModel", "base", "I", false)
  | 18 => ("GrantChainModel", "size", "I", false)
  | 19 => ("GrantChainModel", "slot", "I", false)
  | 20 => ("GrantChainModel", "wrong", "Z", false)
  | 21 => ("GrantChainModel", "kind", "[I", true)
  | 22 => ("GrantChainModel", "place", "[I", true)
  | 23 => ("GrantChainModel", "star", "[Z", true)
  | 24 => ("GrantChainModel", "atoms", "[I", true)
  | 25 => ("GrantChainModel", "atom", "[I", true)
  | 26 => ("GrantChainModel", "bodySet", "I", false)
  | 27 => ("GrantChainModel", "otherSet", "I", false)
  | 28 => ("GrantChainModel", "codes", "[I", true)
  | 29 => ("GrantChainModel", "code", "[I", true)
  | 30 => ("GrantChainModel", "sign", "[I", true)
  | 31 => ("GrantChainModel", "signs", "I", false)
  | 32 => ("GrantChainModel", "facts", "I", false)
  | 33 => ("GrantChainModel", "old", "I", false)
  | 34 => ("GrantChainModel", "fact", "[I", true)
  | 35 => ("GrantChainModel", "result", "I", false)
  | 36 => ("GrantChainModel", "rounds", "I", false)
  | 37 => ("GrantChainModel", "unfulfilled", "I", false)
  | 38 => ("GrantChainModel", "chosen", "[I", true)
  | 39 => ("GrantChainModel", "bound", "[I", true)
  | 40 => ("GrantChainModel", "value", "[I", true)
  | 41 => ("GrantChainModel", "stack", "[I", true)
  | 42 => ("GrantChainModel", "any", "Z", false)
  | 43 => ("GrantChainModel", "holds", "Z", false)
  | 44 => ("GrantChainModel", "fails", "Z", false)
  | _ => ("GrantChainModel", "all", "Z", false)
def tC_AL : u_T := fun k => match k with
  | 0 => ("java/util/ArrayList", "elementData", "[Ljava/lang/Object;", false)
  | 1 => ("java/util/ArrayList", "size", "I", false)
  | _ => ("java/util/AbstractList", "modCount", "I", false)
def tC_IA : u_T := fun k => match k with
  | _ => ("", "", "", false)
def tC_IS : u_T := fun k => match k with
  | _ => ("", "", "", false)
def tC_IO : u_T := fun k => match k with
  | _ => ("", "", "", false)
def tC_UO : u_T := fun k => match k with
  | _ => ("", "", "", false)
def gc_cl : List vw_C := [("GrantChain", tC_GC, 10), ("GrantChain$Line", tC_Ln, 3), ("GrantChain$Reader", tC_Rd, 4), ("GrantChain$Judge", tC_Jg, 14), ("GrantChain$Facts", tC_Fa, 4), ("GrantChain$Block", tC_Bk, 1), ("GrantChain$Atom", tC_At, 4), ("GrantChain$Clause", tC_Cl, 5), ("GrantChain$Token", tC_Tk, 4), ("GrantChain$Link", tC_Lk, 5), ("GrantChainModel", tC_Md, 46), ("java/util/ArrayList", tC_AL, 3), ("java/lang/IllegalArgumentException", tC_IA, 0), ("java/lang/IllegalStateException", tC_IS, 0), ("java/lang/IndexOutOfBoundsException", tC_IO, 0), ("java/lang/UnsupportedOperationException", tC_UO, 0)]
def gc_TY : List FieldType := [.int, .char, .boolean, .long, .object "java/lang/Object", .object "GrantChain$Block", .array .int]
def gc_P : ag_P := (gc_W, gc_cl, gc_TY)
def gc_cl1 (q : vw_C) : Prop := (∀ w ∈ u_ws q.1 q.2.1 q.2.2, w ∈ gc_W) ∧ (∃ ty : Nat → FieldType, ∀ k, k < q.2.2 → parseFieldDescriptor (q.2.1 k).2.2.1 = some (ty k)) ∧ (∀ a, a < q.2.2 → ∀ b, b < q.2.2 → a ≠ b → (q.2.1 a).2.1 ≠ (q.2.1 b).2.1)
theorem gc_ws {C : String} {T : u_T} {N : Nat} (h : ∀ k, k < N → u_lay C T k ∈ gc_W) : ∀ w ∈ u_ws C T N, w ∈ gc_W := by
  intro w hw
  obtain ⟨k, hk, rfl⟩ := List.mem_map.mp hw
  exact h k (List.mem_range.mp hk)
def tY_GC : Nat → FieldType := fun k => match k with
  | 0 => (.object "GrantChain$Line")
  | 1 => (.object "GrantChain$Reader")
  | 2 => (.object "GrantChain$Judge")
  | 3 => (.object "GrantChain$Block")
  | 4 => (.object "java/util/List")
  | 5 => (.object "java/util/List")
  | 6 => (.object "GrantChain$Block")
  | 7 => .int
  | 8 => .int
  | _ => .int
theorem gcl_GC : gc_cl1 ("GrantChain", tC_GC, 10) := ⟨gc_ws (lt_s (lt_s (lt_s (lt_s (lt_s (lt_s (lt_s (lt_s (lt_s (lt_s lt_0 gw_209) gw_211) gw_213) gw_215) gw_217) gw_219) gw_221) gw_223) gw_225) gw_227), ⟨tY_GC, by decide +kernel⟩, by decide +kernel⟩
def tY_Ln : Nat → FieldType := fun k => match k with
  | 0 => (.array .char)
  | 1 => .int
  | _ => .int
theorem gcl_Ln : gc_cl1 ("GrantChain$Line", tC_Ln, 3) := ⟨gc_ws (lt_s (lt_s (lt_s lt_0 gw_47) gw_49) gw_51), ⟨tY_Ln, by decide +kernel⟩, by decide +kernel⟩
def tY_Rd : Nat → FieldType := fun k => match k with
  | 0 => (.array .int)
  | 1 => .int
  | 2 => .int
  | _ => .int
theorem gcl_Rd : gc_cl1 ("GrantChain$Reader", tC_Rd, 4) := ⟨gc_ws (lt_s (lt_s (lt_s (lt_s lt_0 gw_65) gw_67) gw_69) gw_71), ⟨tY_Rd, by decide +kernel⟩, by decide +kernel⟩
def tY_Jg : Nat → FieldType := fun k => match k with
  | 0 => (.object "GrantChain$Facts")
  | 1 => (.object "GrantChain$Block")
  | 2 => (.array (.object "GrantChain$Block"))
  | 3 => .int
  | 4 => .int
  | 5 => .int
  | 6 => (.array .int)
  | 7 => (.array .int)
  | 8 => .int
  | 9 => .boolean
  | 10 => .int
  | 11 => .boolean
  | 12 => .boolean
  | _ => .boolean
theorem gcl_Jg : gc_cl1 ("GrantChain$Judge", tC_Jg, 14) := ⟨gc_ws (lt_s (lt_s (lt_s (lt_s (lt_s (lt_s (lt_s (lt_s (lt_s (lt_s (lt_s (lt_s (lt_s (lt_s lt_0 gw_166) gw_168) gw_170) gw_172) gw_174) gw_176) gw_178) gw_180) gw_182) gw_184) gw_186) gw_188) gw_190) gw_192), ⟨tY_Jg, by decide +kernel⟩, by decide +kernel⟩
def tY_Fa : Nat → FieldType := fun k => match k with
  | 0 => (.array (.array .int))
  | 1 => .int
  | 2 => .boolean
  | _ => .int
theorem gcl_Fa : gc_cl1 ("GrantChain$Facts", tC_Fa, 4) := ⟨gc_ws (lt_s (lt_s (lt_s (lt_s lt_0 gw_98) gw_100) gw_102) gw_104), ⟨tY_Fa, by decide +kernel⟩, by decide +kernel⟩
def tY_Bk : Nat → FieldType := fun k => match k with
  | _ => (.object "java/util/List")
theorem gcl_Bk : gc_cl1 ("GrantChain$Block", tC_Bk, 1) := ⟨gc_ws (lt_s lt_0 gw_142), ⟨tY_Bk, by decide +kernel⟩, by decide +kernel⟩
def tY_At : Nat → FieldType := fun k => match k with
  | 0 => .int
  | 1 => .int
  | 2 => .int
  | _ => .int
theorem gcl_At : gc_cl1 ("GrantChain$Atom", tC_At, 4) := ⟨gc_ws (lt_s (lt_s (lt_s (lt_s lt_0 gw_325) gw_327) gw_329) gw_331), ⟨tY_At, by decide +kernel⟩, by decide +kernel⟩
def tY_Cl : Nat → FieldType := fun k => match k with
  | 0 => .int
  | 1 => .boolean
  | 2 => (.object "GrantChain$Atom")
  | 3 => (.object "java/util/List")
  | _ => (.array .int)
theorem gcl_Cl : gc_cl1 ("GrantChain$Clause", tC_Cl, 5) := ⟨gc_ws (lt_s (lt_s (lt_s (lt_s (lt_s lt_0 gw_482) gw_484) gw_486) gw_488) gw_490), ⟨tY_Cl, by decide +kernel⟩, by decide +kernel⟩
def tY_Tk : Nat → FieldType := fun k => match k with
  | 0 => (.object "java/util/List")
  | 1 => .boolean
  | 2 => .int
  | _ => .int
theorem gcl_Tk : gc_cl1 ("GrantChain$Token", tC_Tk, 4) := ⟨gc_ws (lt_s (lt_s (lt_s (lt_s lt_0 gw_626) gw_628) gw_630) gw_632), ⟨tY_Tk, by decide +kernel⟩, by decide +kernel⟩
def tY_Lk : Nat → FieldType := fun k => match k with
  | 0 => .int
  | 1 => .int
  | 2 => .int
  | 3 => .int
  | _ => .int
theorem gcl_Lk : gc_cl1 ("GrantChain$Link", tC_Lk, 5) := ⟨gc_ws (lt_s (lt_s (lt_s (lt_s (lt_s lt_0 gw_661) gw_663) gw_665) gw_667) gw_669), ⟨tY_Lk, by decide +kernel⟩, by decide +kernel⟩
def tY_Md : Nat → FieldType := fun k => match k with
  | 0 => .int
  | 1 => (.array .int)
  | 2 => (.array .int)
  | 3 => (.array .int)
  | 4 => .int
  | 5 => .int
  | 6 => .int
  | 7 => .int
  | 8 => .int
  | 9 => .int
  | 10 => (.array .int)
  | 11 => (.array .int)
  | 12 => (.array .boolean)
  | 13 => (.array .int)
  | 14 => (.array .int)
  | 15 => .int
  | 16 => .int
  | 17 => .int
  | 18 => .int
  | 19 => .int
  | 20 => .boolean
  | 21 => (.array .int)
  | 22 => (.array .int)
  | 23 => (.array .boolean)
  | 24 => (.array .int)
  | 25 => (.array .int)
  | 26 => .int
  | 27 => .int
  | 28 => (.array .int)
  | 29 => (.array .int)
  | 30 => (.array .int)
  | 31 => .int
  | 32 => .int
  | 33 => .int
  | 34 => (.array .int)
  | 35 => .int
  | 36 => .int
  | 37 => .int
  | 38 => (.array .int)
  | 39 => (.array .int)
  | 40 => (.array .int)
  | 41 => (.array .int)
  | 42 => .boolean
  | 43 => .boolean
  | 44 => .boolean
  | _ => .boolean
theorem gcl_Md : gc_cl1 ("GrantChainModel", tC_Md, 46) := ⟨gc_ws (lt_s (lt_s (lt_s (lt_s (lt_s (lt_s (lt_s (lt_s (lt_s (lt_s (lt_s (lt_s (lt_s (lt_s (lt_s (lt_s (lt_s (lt_s (lt_s (lt_s (lt_s (lt_s (lt_s (lt_s (lt_s (lt_s (lt_s (lt_s (lt_s (lt_s (lt_s (lt_s (lt_s (lt_s (lt_s (lt_s (lt_s (lt_s (lt_s (lt_s (lt_s (lt_s (lt_s (lt_s (lt_s (lt_s lt_0 gw_987) gw_989) gw_991) gw_993) gw_995) gw_997) gw_999) gw_1001) gw_1003) gw_1005) gw_1007) gw_1009) gw_1011) gw_1013) gw_1015) gw_1017) gw_1019) gw_1021) gw_1023) gw_1025) gw_1027) gw_1029) gw_1031) gw_1033) gw_1035) gw_1037) gw_1039) gw_1041) gw_1043) gw_1045) gw_1047) gw_1049) gw_1051) gw_1053) gw_1055) gw_1057) gw_1059) gw_1061) gw_1063) gw_1065) gw_1067) gw_1069) gw_1071) gw_1073) gw_1075) gw_1077), ⟨tY_Md, by decide +kernel⟩, by decide +kernel⟩
def tY_AL : Nat → FieldType := fun k => match k with
  | 0 => (.array (.object "java/lang/Object"))
  | 1 => .int
  | _ => .int
theorem gcl_AL : gc_cl1 ("java/util/ArrayList", tC_AL, 3) := ⟨gc_ws (lt_s (lt_s (lt_s lt_0 gw_132) gw_134) gw_136), ⟨tY_AL, by decide +kernel⟩, by decide +kernel⟩
def tY_IA : Nat → FieldType := fun k => match k with
  | _ => .int
theorem gcl_IA : gc_cl1 ("java/lang/IllegalArgumentException", tC_IA, 0) := ⟨gc_ws lt_0, ⟨tY_IA, by decide +kernel⟩, by decide +kernel⟩
def tY_IS : Nat → FieldType := fun k => match k with
  | _ => .int
theorem gcl_IS : gc_cl1 ("java/lang/IllegalStateException", tC_IS, 0) := ⟨gc_ws lt_0, ⟨tY_IS, by decide +kernel⟩, by decide +kernel⟩
def tY_IO : Nat → FieldType := fun k => match k with
  | _ => .int
theorem gcl_IO : gc_cl1 ("java/lang/IndexOutOfBoundsException", tC_IO, 0) := ⟨gc_ws lt_0, ⟨tY_IO, by decide +kernel⟩, by decide +kernel⟩
def tY_UO : Nat → FieldType := fun k => match k with
  | _ => .int
theorem gcl_UO : gc_cl1 ("java/lang/UnsupportedOperationException", tC_UO, 0) := ⟨gc_ws lt_0, ⟨tY_UO, by decide +kernel⟩, by decide +kernel⟩
theorem gc_clall : ∀ q ∈ gc_cl, gc_cl1 q := List.forall_mem_cons.mpr ⟨gcl_GC, List.forall_mem_cons.mpr ⟨gcl_Ln, List.forall_mem_cons.mpr ⟨gcl_Rd, List.forall_mem_cons.mpr ⟨gcl_Jg, List.forall_mem_cons.mpr ⟨gcl_Fa, List.forall_mem_cons.mpr ⟨gcl_Bk, List.forall_mem_cons.mpr ⟨gcl_At, List.forall_mem_cons.mpr ⟨gcl_Cl, List.forall_mem_cons.mpr ⟨gcl_Tk, List.forall_mem_cons.mpr ⟨gcl_Lk, List.forall_mem_cons.mpr ⟨gcl_Md, List.forall_mem_cons.mpr ⟨gcl_AL, List.forall_mem_cons.mpr ⟨gcl_IA, List.forall_mem_cons.mpr ⟨gcl_IS, List.forall_mem_cons.mpr ⟨gcl_IO, List.forall_mem_cons.mpr ⟨gcl_UO, List.forall_mem_nil _⟩⟩⟩⟩⟩⟩⟩⟩⟩⟩⟩⟩⟩⟩⟩⟩
theorem gc_Cl : ag_Cl gc_P := fun ci q hq => gc_clall q (List.mem_of_getElem? hq)
