/-! ### Starts of the classes' objects; words of the exceptions -/
def md_ch (x : Int32) : Bool := decide (narrow .char (.int x) = .int x)
theorem md_chn {x : Int32} (h : md_ch x = true) : narrow .char (.int x) = .int x := of_decide_eq_true h
theorem ag_ne {x v : Int32} (q : ¬ x = v) : x.toInt ≠ v.toInt := fun e => q (Int32.toInt_inj.mp e)
def gc_sup : List String := ["java/lang/RuntimeException", "java/lang/Exception"]
theorem ny_GC : ∀ j, j < 10 → parseFieldDescriptor (tC_GC j).2.2.1 = some (tY_GC j) := by decide +kernel
theorem nv_GC : ∀ j, j < 10 → defaultValue (tY_GC j) = vp_V [.null, .null, .null, .null, .null, .null, .null, .int 0, .int 0, .int 0] j := by decide +kernel
theorem nf_GC : ∀ j, j < 10 → ∃ ty, parseFieldDescriptor (tC_GC j).2.2.1 = some ty ∧ defaultValue ty = vp_V [.null, .null, .null, .null, .null, .null, .null, .int 0, .int 0, .int 0] j := fun j hj => ⟨_, ny_GC j hj, nv_GC j hj⟩
theorem ny_Ln : ∀ j, j < 3 → parseFieldDescriptor (tC_Ln j).2.2.1 = some (tY_Ln j) := by decide +kernel
theorem nv_Ln : ∀ j, j < 3 → defaultValue (tY_Ln j) = vp_V [.null, .int 0, .int 0] j := by decide +kernel
theorem nf_Ln : ∀ j, j < 3 → ∃ ty, parseFieldDescriptor (tC_Ln j).2.2.1 = some ty ∧ defaultValue ty = vp_V [.null, .int 0, .int 0] j := fun j hj => ⟨_, ny_Ln j hj, nv_Ln j hj⟩
theorem ny_Rd : ∀ j, j < 4 → parseFieldDescriptor (tC_Rd j).2.2.1 = some (tY_Rd j) := by decide +kernel
theorem nv_Rd : ∀ j, j < 4 → defaultValue (tY_Rd j) = vp_V [.null, .int 0, .int 0, .int 0] j := by decide +kernel
theorem nf_Rd : ∀ j, j < 4 → ∃ ty, parseFieldDescriptor (tC_Rd j).2.2.1 = some ty ∧ defaultValue ty = vp_V [.null, .int 0, .int 0, .int 0] j := fun j hj => ⟨_, ny_Rd j hj, nv_Rd j hj⟩
theorem ny_Jg : ∀ j, j < 14 → parseFieldDescriptor (tC_Jg j).2.2.1 = some (tY_Jg j) := by decide +kernel
theorem nv_Jg : ∀ j, j < 14 → defaultValue (tY_Jg j) = vp_V [.null, .null, .null, .int 0, .int 0, .int 0, .null, .null, .int 0, .int 0, .int 0, .int 0, .int 0, .int 0] j := by decide +kernel
theorem nf_Jg : ∀ j, j < 14 → ∃ ty, parseFieldDescriptor (tC_Jg j).2.2.1 = some ty ∧ defaultValue ty = vp_V [.null, .null, .null, .int 0, .int 0, .int 0, .null, .null, .int 0, .int 0, .int 0, .int 0, .int 0, .int 0] j := fun j hj => ⟨_, ny_Jg j hj, nv_Jg j hj⟩
theorem ny_Fa : ∀ j, j < 4 → parseFieldDescriptor (tC_Fa j).2.2.1 = some (tY_Fa j) := by decide +kernel
theorem nv_Fa : ∀ j, j < 4 → defaultValue (tY_Fa j) = vp_V [.null, .int 0, .int 0, .int 0] j := by decide +kernel
theorem nf_Fa : ∀ j, j < 4 → ∃ ty, parseFieldDescriptor (tC_Fa j).2.2.1 = some ty ∧ defaultValue ty = vp_V [.null, .int 0, .int 0, .int 0] j := fun j hj => ⟨_, ny_Fa j hj, nv_Fa j hj⟩
theorem ny_Bk : ∀ j, j < 1 → parseFieldDescriptor (tC_Bk j).2.2.1 = some (tY_Bk j) := by decide +kernel
theorem nv_Bk : ∀ j, j < 1 → defaultValue (tY_Bk j) = vp_V [.null] j := by decide +kernel
theorem nf_Bk : ∀ j, j < 1 → ∃ ty, parseFieldDescriptor (tC_Bk j).2.2.1 = some ty ∧ defaultValue ty = vp_V [.null] j := fun j hj => ⟨_, ny_Bk j hj, nv_Bk j hj⟩
theorem ny_At : ∀ j, j < 4 → parseFieldDescriptor (tC_At j).2.2.1 = some (tY_At j) := by decide +kernel
theorem nv_At : ∀ j, j < 4 → defaultValue (tY_At j) = vp_V [.int 0, .int 0, .int 0, .int 0] j := by decide +kernel
theorem nf_At : ∀ j, j < 4 → ∃ ty, parseFieldDescriptor (tC_At j).2.2.1 = some ty ∧ defaultValue ty = vp_V [.int 0, .int 0, .int 0, .int 0] j := fun j hj => ⟨_, ny_At j hj, nv_At j hj⟩
theorem ny_Cl : ∀ j, j < 5 → parseFieldDescriptor (tC_Cl j).2.2.1 = some (tY_Cl j) := by decide +kernel
theorem nv_Cl : ∀ j, j < 5 → defaultValue (tY_Cl j) = vp_V [.int 0, .int 0, .null, .null, .null] j := by decide +kernel
theorem nf_Cl : ∀ j, j < 5 → ∃ ty, parseFieldDescriptor (tC_Cl j).2.2.1 = some ty ∧ defaultValue ty = vp_V [.int 0, .int 0, .null, .null, .null] j := fun j hj => ⟨_, ny_Cl j hj, nv_Cl j hj⟩
theorem ny_Tk : ∀ j, j < 4 → parseFieldDescriptor (tC_Tk j).2.2.1 = some (tY_Tk j) := by decide +kernel
theorem nv_Tk : ∀ j, j < 4 → defaultValue (tY_Tk j) = vp_V [.null, .int 0, .int 0, .int 0] j := by decide +kernel
theorem nf_Tk : ∀ j, j < 4 → ∃ ty, parseFieldDescriptor (tC_Tk j).2.2.1 = some ty ∧ defaultValue ty = vp_V [.null, .int 0, .int 0, .int 0] j := fun j hj => ⟨_, ny_Tk j hj, nv_Tk j hj⟩
theorem ny_Lk : ∀ j, j < 5 → parseFieldDescriptor (tC_Lk j).2.2.1 = some (tY_Lk j) := by decide +kernel
theorem nv_Lk : ∀ j, j < 5 → defaultValue (tY_Lk j) = vp_V [.int 0, .int 0, .int 0, .int 0, .int 0] j := by decide +kernel
theorem nf_Lk : ∀ j, j < 5 → ∃ ty, parseFieldDescriptor (tC_Lk j).2.2.1 = some ty ∧ defaultValue ty = vp_V [.int 0, .int 0, .int 0, .int 0, .int 0] j := fun j hj => ⟨_, ny_Lk j hj, nv_Lk j hj⟩
theorem ny_Md : ∀ j, j < 46 → parseFieldDescriptor (tC_Md j).2.2.1 = some (tY_Md j) := by decide +kernel
theorem nv_Md : ∀ j, j < 46 → defaultValue (tY_Md j) = vp_V [.int 0, .null, .null, .null, .int 0, .int 0, .int 0, .int 0, .int 0, .int 0, .null, .null, .null, .null, .null, .int 0, .int 0, .int 0, .int 0, .int 0, .int 0, .null, .null, .null, .null, .null, .int 0, .int 0, .null, .null, .null, .int 0, .int 0, .int 0, .null, .int 0, .int 0, .int 0, .null, .null, .null, .null, .int 0, .int 0, .int 0, .int 0] j := by decide +kernel
theorem nf_Md : ∀ j, j < 46 → ∃ ty, parseFieldDescriptor (tC_Md j).2.2.1 = some ty ∧ defaultValue ty = vp_V [.int 0, .null, .null, .null, .int 0, .int 0, .int 0, .int 0, .int 0, .int 0, .null, .null, .null, .null, .null, .int 0, .int 0, .int 0, .int 0, .int 0, .int 0, .null, .null, .null, .null, .null, .int 0, .int 0, .null, .null, .null, .int 0, .int 0, .int 0, .null, .int 0, .int 0, .int 0, .null, .null, .null, .null, .int 0, .int 0, .int 0, .int 0] j := fun j hj => ⟨_, ny_Md j hj, nv_Md j hj⟩
theorem ny_AL : ∀ j, j < 3 → parseFieldDescriptor (tC_AL j).2.2.1 = some (tY_AL j) := by decide +kernel
theorem nv_AL : ∀ j, j < 3 → defaultValue (tY_AL j) = vp_V [.null, .int 0, .int 0] j := by decide +kernel
theorem nf_AL : ∀ j, j < 3 → ∃ ty, parseFieldDescriptor (tC_AL j).2.2.1 = some ty ∧ defaultValue ty = vp_V [.null, .int 0, .int 0] j := fun j hj => ⟨_, ny_AL j hj, nv_AL j hj⟩
theorem xw_GC_73 : ∀ w ∈ ag_xw "GrantChain" 73 "java/lang/IllegalArgumentException" gc_sup, w ∈ gc_W := fun w hw => of_decide_eq_true (List.all_eq_true.mp (show (ag_xw "GrantChain" 73 "java/lang/IllegalArgumentException" gc_sup).all (fun w => decide (w ∈ gc_W)) = true by decide +kernel) w hw)
theorem xw_GC_81 : ∀ w ∈ ag_xw "GrantChain" 81 "java/lang/UnsupportedOperationException" gc_sup, w ∈ gc_W := fun w hw => of_decide_eq_true (List.all_eq_true.mp (show (ag_xw "GrantChain" 81 "java/lang/UnsupportedOperationException" gc_sup).all (fun w => decide (w ∈ gc_W)) = true by decide +kernel) w hw)
theorem xw_GC_93 : ∀ w ∈ ag_xw "GrantChain" 93 "java/lang/IllegalStateException" gc_sup, w ∈ gc_W := fun w hw => of_decide_eq_true (List.all_eq_true.mp (show (ag_xw "GrantChain" 93 "java/lang/IllegalStateException" gc_sup).all (fun w => decide (w ∈ gc_W)) = true by decide +kernel) w hw)
theorem xw_GC_117 : ∀ w ∈ ag_xw "GrantChain" 117 "java/lang/IndexOutOfBoundsException" gc_sup, w ∈ gc_W := fun w hw => of_decide_eq_true (List.all_eq_true.mp (show (ag_xw "GrantChain" 117 "java/lang/IndexOutOfBoundsException" gc_sup).all (fun w => decide (w ∈ gc_W)) = true by decide +kernel) w hw)
