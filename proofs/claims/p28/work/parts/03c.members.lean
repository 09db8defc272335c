theorem tb1 (i : Nat) {w : Cond} (h : tables_1_1[i]? = some w) : w ∈ lw_tbl := List.mem_append_right _ (List.mem_append_left _ (List.mem_of_getElem? h))
theorem tb2 (i : Nat) {w : Cond} (h : tables_1_2[i]? = some w) : w ∈ lw_tbl := List.mem_append_right _ (List.mem_append_right _ (List.mem_append_left _ (List.mem_of_getElem? h)))
theorem tb3 (i : Nat) {w : Cond} (h : tables_1_3[i]? = some w) : w ∈ lw_tbl := List.mem_append_right _ (List.mem_append_right _ (List.mem_append_right _ (List.mem_of_getElem? h)))
theorem pv {q : MethodName × Nat} (h : q ∈ lw_privs) : Cond.selects q.1.cls q.1 q.1 ∈ lw_tbl := List.mem_append_left _ (List.mem_map.mpr ⟨q, h, rfl⟩)
set_option maxRecDepth 20000 in
theorem wsX00_inT : ∀ w ∈ wsX00, w ∈ lw_tbl := List.forall_mem_cons.mpr ⟨(tb1 54 rfl), List.forall_mem_cons.mpr ⟨(tb1 56 rfl), List.forall_mem_cons.mpr ⟨(tb1 58 rfl), List.forall_mem_cons.mpr ⟨(tb1 60 rfl), List.forall_mem_cons.mpr ⟨(tb1 62 rfl), List.forall_mem_cons.mpr ⟨(tb1 64 rfl), List.forall_mem_cons.mpr ⟨(tb1 66 rfl), List.forall_mem_cons.mpr ⟨(tb1 68 rfl), List.forall_mem_cons.mpr ⟨(tb1 70 rfl), List.forall_mem_cons.mpr ⟨(tb1 72 rfl), (fun _ h => absurd h List.not_mem_nil)⟩⟩⟩⟩⟩⟩⟩⟩⟩⟩
set_option maxRecDepth 20000 in
theorem wsX10_inT : ∀ w ∈ wsX10, w ∈ lw_tbl := List.forall_mem_cons.mpr ⟨(tb1 181 rfl), List.forall_mem_cons.mpr ⟨(tb1 183 rfl), List.forall_mem_cons.mpr ⟨(tb1 185 rfl), (fun _ h => absurd h List.not_mem_nil)⟩⟩⟩
set_option maxRecDepth 20000 in
theorem wsX20_inT : ∀ w ∈ wsX20, w ∈ lw_tbl := List.forall_mem_cons.mpr ⟨(tb1 128 rfl), List.forall_mem_cons.mpr ⟨(tb1 130 rfl), List.forall_mem_cons.mpr ⟨(tb1 132 rfl), List.forall_mem_cons.mpr ⟨(tb1 134 rfl), List.forall_mem_cons.mpr ⟨(tb1 136 rfl), List.forall_mem_cons.mpr ⟨(tb1 138 rfl), (fun _ h => absurd h List.not_mem_nil)⟩⟩⟩⟩⟩⟩
set_option maxRecDepth 20000 in
theorem wsX30_inT : ∀ w ∈ wsX30, w ∈ lw_tbl := List.forall_mem_cons.mpr ⟨(tb1 154 rfl), List.forall_mem_cons.mpr ⟨(tb1 156 rfl), List.forall_mem_cons.mpr ⟨(tb1 158 rfl), List.forall_mem_cons.mpr ⟨(tb1 160 rfl), List.forall_mem_cons.mpr ⟨(tb1 162 rfl), List.forall_mem_cons.mpr ⟨(tb1 164 rfl), List.forall_mem_cons.mpr ⟨(tb1 166 rfl), (fun _ h => absurd h List.not_mem_nil)⟩⟩⟩⟩⟩⟩⟩
set_option maxRecDepth 20000 in
theorem wsX40_inT : ∀ w ∈ wsX40, w ∈ lw_tbl := List.forall_mem_cons.mpr ⟨(tb1 94 rfl), List.forall_mem_cons.mpr ⟨(tb1 96 rfl), List.forall_mem_cons.mpr ⟨(tb1 98 rfl), List.forall_mem_cons.mpr ⟨(tb1 100 rfl), List.forall_mem_cons.mpr ⟨(tb1 102 rfl), List.forall_mem_cons.mpr ⟨(tb1 104 rfl), List.forall_mem_cons.mpr ⟨(tb1 106 rfl), (fun _ h => absurd h List.not_mem_nil)⟩⟩⟩⟩⟩⟩⟩
set_option maxRecDepth 20000 in
theorem wsX50_inT : ∀ w ∈ wsX50, w ∈ lw_tbl := List.forall_mem_cons.mpr ⟨(tb1 195 rfl), List.forall_mem_cons.mpr ⟨(tb1 197 rfl), List.forall_mem_cons.mpr ⟨(tb1 199 rfl), List.forall_mem_cons.mpr ⟨(tb1 201 rfl), List.forall_mem_cons.mpr ⟨(tb1 203 rfl), List.forall_mem_cons.mpr ⟨(tb1 205 rfl), List.forall_mem_cons.mpr ⟨(tb1 207 rfl), (fun _ h => absurd h List.not_mem_nil)⟩⟩⟩⟩⟩⟩⟩
theorem wsL_law_x0 : ∀ w ∈ (vx_atS RX5 65 "java/lang/IllegalStateException" ["java/lang/RuntimeException", "java/lang/Exception"]).filter goodWord, w ∈ lw_tbl := by decide +kernel
theorem wsL_law_x1 : ∀ w ∈ (vx_atS RX5 277 "java/lang/IllegalArgumentException" ["java/lang/RuntimeException", "java/lang/Exception"]).filter goodWord, w ∈ lw_tbl := by decide +kernel
theorem wsL_law_x2 : ∀ w ∈ (vx_atS RX5 272 "java/lang/IndexOutOfBoundsException" ["java/lang/RuntimeException", "java/lang/Exception"]).filter goodWord, w ∈ lw_tbl := by decide +kernel
theorem inJ0 : ∀ w ∈ wsJ00, w ∈ lw_tbl := by decide +kernel
theorem inJ10 : ∀ w ∈ wsJ100, w ∈ lw_tbl := by decide +kernel
