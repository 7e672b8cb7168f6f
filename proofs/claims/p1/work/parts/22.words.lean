/-! ### The words of this run -/
def gc_nc : List Cond := [.not (.castable "java/lang/UnsupportedOperationException" "java/lang/IllegalArgumentException"), .not (.castable "java/lang/IllegalStateException" "java/lang/IllegalArgumentException"), .not (.castable "java/lang/IndexOutOfBoundsException" "java/lang/IllegalArgumentException"), .not (.castable "java/lang/IllegalArgumentException" "java/lang/UnsupportedOperationException"), .not (.castable "java/lang/IllegalStateException" "java/lang/UnsupportedOperationException"), .not (.castable "java/lang/IndexOutOfBoundsException" "java/lang/UnsupportedOperationException"), .not (.castable "java/lang/IllegalArgumentException" "java/lang/IllegalStateException"), .not (.castable "java/lang/UnsupportedOperationException" "java/lang/IllegalStateException"), .not (.castable "java/lang/IndexOutOfBoundsException" "java/lang/IllegalStateException"), .not (.castable "java/lang/IllegalArgumentException" "java/lang/IndexOutOfBoundsException"), .not (.castable "java/lang/UnsupportedOperationException" "java/lang/IndexOutOfBoundsException"), .not (.castable "java/lang/IllegalStateException" "java/lang/IndexOutOfBoundsException")]
def gc_W : List Cond := lw_tbl.filter ag_gd ++ gc_nc
theorem gc_T {w : Cond} (h : w ∈ tables_1) (hg : ag_gd w = true) : w ∈ gc_W := List.mem_append_left _ (List.mem_filter.mpr ⟨List.mem_append_right _ h, hg⟩)
theorem gc_S {w : Cond} (h : w ∈ k2_sels lw_privs) (hg : ag_gd w = true) : w ∈ gc_W := List.mem_append_left _ (List.mem_filter.mpr ⟨List.mem_append_left _ h, hg⟩)
theorem gc_N {w : Cond} (h : w ∈ gc_nc) : w ∈ gc_W := List.mem_append_right _ h
theorem gc_c1 {i : Nat} {w : Cond} (h : tables_1_1[i]? = some w) (hg : ag_gd w = true) : w ∈ gc_W := gc_T (List.mem_append_left _ (List.mem_of_getElem? h)) hg
theorem gc_c2 {i : Nat} {w : Cond} (h : tables_1_2[i]? = some w) (hg : ag_gd w = true) : w ∈ gc_W := gc_T (List.mem_append_right _ (List.mem_append_left _ (List.mem_of_getElem? h))) hg
theorem gc_c3 {i : Nat} {w : Cond} (h : tables_1_3[i]? = some w) (hg : ag_gd w = true) : w ∈ gc_W := gc_T (List.mem_append_right _ (List.mem_append_right _ (List.mem_append_left _ (List.mem_of_getElem? h)))) hg
theorem gc_c4 {i : Nat} {w : Cond} (h : tables_1_4[i]? = some w) (hg : ag_gd w = true) : w ∈ gc_W := gc_T (List.mem_append_right _ (List.mem_append_right _ (List.mem_append_right _ (List.mem_append_left _ (List.mem_of_getElem? h))))) hg
theorem gc_c5 {i : Nat} {w : Cond} (h : tables_1_5[i]? = some w) (hg : ag_gd w = true) : w ∈ gc_W := gc_T (List.mem_append_right _ (List.mem_append_right _ (List.mem_append_right _ (List.mem_append_right _ (List.mem_append_left _ (List.mem_of_getElem? h)))))) hg
theorem gc_c6 {i : Nat} {w : Cond} (h : tables_1_6[i]? = some w) (hg : ag_gd w = true) : w ∈ gc_W := gc_T (List.mem_append_right _ (List.mem_append_right _ (List.mem_append_right _ (List.mem_append_right _ (List.mem_append_right _ (List.mem_of_getElem? h)))))) hg
theorem gc_ok : ∀ w ∈ gc_W, ag_sb w := by
  intro w hw
  rcases List.mem_append.mp hw with h | h
  · exact ag_stab w (List.mem_filter.mp h).2
  · exact ag_stab w (List.all_eq_true.mp (show gc_nc.all ag_gd = true by decide +kernel) w h)
