theorem gd_162_0 : ∀ q ∈ gc_162_0, decode code q.1 = .ok (q.2.1, q.2.2.1) := by decide +kernel
theorem gd_162_1 : ∀ q ∈ gc_162_1, decode code q.1 = .ok (q.2.1, q.2.2.1) := by decide +kernel
theorem gd_162_2 : ∀ q ∈ gc_162_2, decode code q.1 = .ok (q.2.1, q.2.2.1) := by decide +kernel
theorem gd_162_3 : ∀ q ∈ gc_162_3, decode code q.1 = .ok (q.2.1, q.2.2.1) := by decide +kernel
theorem gd_162_4 : ∀ q ∈ gc_162_4, decode code q.1 = .ok (q.2.1, q.2.2.1) := by decide +kernel
theorem gd_162_5 : ∀ q ∈ gc_162_5, decode code q.1 = .ok (q.2.1, q.2.2.1) := by decide +kernel
theorem gd_162_6 : ∀ q ∈ gc_162_6, decode code q.1 = .ok (q.2.1, q.2.2.1) := by decide +kernel
theorem gd_162_7 : ∀ q ∈ gc_162_7, decode code q.1 = .ok (q.2.1, q.2.2.1) := by decide +kernel
theorem gd_162_8 : ∀ q ∈ gc_162_8, decode code q.1 = .ok (q.2.1, q.2.2.1) := by decide +kernel
theorem gd_162_9 : ∀ q ∈ gc_162_9, decode code q.1 = .ok (q.2.1, q.2.2.1) := by decide +kernel
theorem gd_162_10 : ∀ q ∈ gc_162_10, decode code q.1 = .ok (q.2.1, q.2.2.1) := by decide +kernel
theorem gd_162_11 : ∀ q ∈ gc_162_11, decode code q.1 = .ok (q.2.1, q.2.2.1) := by decide +kernel
theorem gd_162_12 : ∀ q ∈ gc_162_12, decode code q.1 = .ok (q.2.1, q.2.2.1) := by decide +kernel
theorem gd_162_13 : ∀ q ∈ gc_162_13, decode code q.1 = .ok (q.2.1, q.2.2.1) := by decide +kernel
theorem gd_162_14 : ∀ q ∈ gc_162_14, decode code q.1 = .ok (q.2.1, q.2.2.1) := by decide +kernel
theorem gd_162_15 : ∀ q ∈ gc_162_15, decode code q.1 = .ok (q.2.1, q.2.2.1) := by decide +kernel
theorem gd_162_16 : ∀ q ∈ gc_162_16, decode code q.1 = .ok (q.2.1, q.2.2.1) := by decide +kernel
theorem gd_162_17 : ∀ q ∈ gc_162_17, decode code q.1 = .ok (q.2.1, q.2.2.1) := by decide +kernel
theorem gd_162 : ∀ q ∈ gc_162, decode code q.1 = .ok (q.2.1, q.2.2.1) := List.forall_mem_append.mpr ⟨gd_162_0, List.forall_mem_append.mpr ⟨gd_162_1, List.forall_mem_append.mpr ⟨gd_162_2, List.forall_mem_append.mpr ⟨gd_162_3, List.forall_mem_append.mpr ⟨gd_162_4, List.forall_mem_append.mpr ⟨gd_162_5, List.forall_mem_append.mpr ⟨gd_162_6, List.forall_mem_append.mpr ⟨gd_162_7, List.forall_mem_append.mpr ⟨gd_162_8, List.forall_mem_append.mpr ⟨gd_162_9, List.forall_mem_append.mpr ⟨gd_162_10, List.forall_mem_append.mpr ⟨gd_162_11, List.forall_mem_append.mpr ⟨gd_162_12, List.forall_mem_append.mpr ⟨gd_162_13, List.forall_mem_append.mpr ⟨gd_162_14, List.forall_mem_append.mpr ⟨gd_162_15, List.forall_mem_append.mpr ⟨gd_162_16, gd_162_17⟩⟩⟩⟩⟩⟩⟩⟩⟩⟩⟩⟩⟩⟩⟩⟩⟩
theorem gh_162_0 : ∀ q ∈ gc_162_0, gchk "GiftShopsLaw" "law" q = true := by decide +kernel
theorem gh_162_1 : ∀ q ∈ gc_162_1, gchk "GiftShopsLaw" "law" q = true := by decide +kernel
theorem gh_162_2 : ∀ q ∈ gc_162_2, gchk "GiftShopsLaw" "law" q = true := by decide +kernel
theorem gh_162_3 : ∀ q ∈ gc_162_3, gchk "GiftShopsLaw" "law" q = true := by decide +kernel
theorem gh_162_4 : ∀ q ∈ gc_162_4, gchk "GiftShopsLaw" "law" q = true := by decide +kernel
theorem gh_162_5 : ∀ q ∈ gc_162_5, gchk "GiftShopsLaw" "law" q = true := by decide +kernel
theorem gh_162_6 : ∀ q ∈ gc_162_6, gchk "GiftShopsLaw" "law" q = true := by decide +kernel
theorem gh_162_7 : ∀ q ∈ gc_162_7, gchk "GiftShopsLaw" "law" q = true := by decide +kernel
theorem gh_162_8 : ∀ q ∈ gc_162_8, gchk "GiftShopsLaw" "law" q = true := by decide +kernel
theorem gh_162_9 : ∀ q ∈ gc_162_9, gchk "GiftShopsLaw" "law" q = true := by decide +kernel
theorem gh_162_10 : ∀ q ∈ gc_162_10, gchk "GiftShopsLaw" "law" q = true := by decide +kernel
theorem gh_162_11 : ∀ q ∈ gc_162_11, gchk "GiftShopsLaw" "law" q = true := by decide +kernel
theorem gh_162_12 : ∀ q ∈ gc_162_12, gchk "GiftShopsLaw" "law" q = true := by decide +kernel
theorem gh_162_13 : ∀ q ∈ gc_162_13, gchk "GiftShopsLaw" "law" q = true := by decide +kernel
theorem gh_162_14 : ∀ q ∈ gc_162_14, gchk "GiftShopsLaw" "law" q = true := by decide +kernel
theorem gh_162_15 : ∀ q ∈ gc_162_15, gchk "GiftShopsLaw" "law" q = true := by decide +kernel
theorem gh_162_16 : ∀ q ∈ gc_162_16, gchk "GiftShopsLaw" "law" q = true := by decide +kernel
theorem gh_162_17 : ∀ q ∈ gc_162_17, gchk "GiftShopsLaw" "law" q = true := by decide +kernel
theorem gh_162 : ∀ q ∈ gc_162, gchk "GiftShopsLaw" "law" q = true := List.forall_mem_append.mpr ⟨gh_162_0, List.forall_mem_append.mpr ⟨gh_162_1, List.forall_mem_append.mpr ⟨gh_162_2, List.forall_mem_append.mpr ⟨gh_162_3, List.forall_mem_append.mpr ⟨gh_162_4, List.forall_mem_append.mpr ⟨gh_162_5, List.forall_mem_append.mpr ⟨gh_162_6, List.forall_mem_append.mpr ⟨gh_162_7, List.forall_mem_append.mpr ⟨gh_162_8, List.forall_mem_append.mpr ⟨gh_162_9, List.forall_mem_append.mpr ⟨gh_162_10, List.forall_mem_append.mpr ⟨gh_162_11, List.forall_mem_append.mpr ⟨gh_162_12, List.forall_mem_append.mpr ⟨gh_162_13, List.forall_mem_append.mpr ⟨gh_162_14, List.forall_mem_append.mpr ⟨gh_162_15, List.forall_mem_append.mpr ⟨gh_162_16, gh_162_17⟩⟩⟩⟩⟩⟩⟩⟩⟩⟩⟩⟩⟩⟩⟩⟩⟩
theorem gi_162_0 : ∀ q ∈ gc_162_0, gchkI gMT "GiftShopsLaw" q = true := by decide +kernel
theorem gi_162_1 : ∀ q ∈ gc_162_1, gchkI gMT "GiftShopsLaw" q = true := by decide +kernel
theorem gi_162_2 : ∀ q ∈ gc_162_2, gchkI gMT "GiftShopsLaw" q = true := by decide +kernel
theorem gi_162_3 : ∀ q ∈ gc_162_3, gchkI gMT "GiftShopsLaw" q = true := by decide +kernel
theorem gi_162_4 : ∀ q ∈ gc_162_4, gchkI gMT "GiftShopsLaw" q = true := by decide +kernel
theorem gi_162_5 : ∀ q ∈ gc_162_5, gchkI gMT "GiftShopsLaw" q = true := by decide +kernel
theorem gi_162_6 : ∀ q ∈ gc_162_6, gchkI gMT "GiftShopsLaw" q = true := by decide +kernel
theorem gi_162_7 : ∀ q ∈ gc_162_7, gchkI gMT "GiftShopsLaw" q = true := by decide +kernel
theorem gi_162_8 : ∀ q ∈ gc_162_8, gchkI gMT "GiftShopsLaw" q = true := by decide +kernel
theorem gi_162_9 : ∀ q ∈ gc_162_9, gchkI gMT "GiftShopsLaw" q = true := by decide +kernel
theorem gi_162_10 : ∀ q ∈ gc_162_10, gchkI gMT "GiftShopsLaw" q = true := by decide +kernel
theorem gi_162_11 : ∀ q ∈ gc_162_11, gchkI gMT "GiftShopsLaw" q = true := by decide +kernel
theorem gi_162_12 : ∀ q ∈ gc_162_12, gchkI gMT "GiftShopsLaw" q = true := by decide +kernel
theorem gi_162_13 : ∀ q ∈ gc_162_13, gchkI gMT "GiftShopsLaw" q = true := by decide +kernel
theorem gi_162_14 : ∀ q ∈ gc_162_14, gchkI gMT "GiftShopsLaw" q = true := by decide +kernel
theorem gi_162_15 : ∀ q ∈ gc_162_15, gchkI gMT "GiftShopsLaw" q = true := by decide +kernel
theorem gi_162_16 : ∀ q ∈ gc_162_16, gchkI gMT "GiftShopsLaw" q = true := by decide +kernel
theorem gi_162_17 : ∀ q ∈ gc_162_17, gchkI gMT "GiftShopsLaw" q = true := by decide +kernel
theorem gi_162 : ∀ q ∈ gc_162, gchkI gMT "GiftShopsLaw" q = true := List.forall_mem_append.mpr ⟨gi_162_0, List.forall_mem_append.mpr ⟨gi_162_1, List.forall_mem_append.mpr ⟨gi_162_2, List.forall_mem_append.mpr ⟨gi_162_3, List.forall_mem_append.mpr ⟨gi_162_4, List.forall_mem_append.mpr ⟨gi_162_5, List.forall_mem_append.mpr ⟨gi_162_6, List.forall_mem_append.mpr ⟨gi_162_7, List.forall_mem_append.mpr ⟨gi_162_8, List.forall_mem_append.mpr ⟨gi_162_9, List.forall_mem_append.mpr ⟨gi_162_10, List.forall_mem_append.mpr ⟨gi_162_11, List.forall_mem_append.mpr ⟨gi_162_12, List.forall_mem_append.mpr ⟨gi_162_13, List.forall_mem_append.mpr ⟨gi_162_14, List.forall_mem_append.mpr ⟨gi_162_15, List.forall_mem_append.mpr ⟨gi_162_16, gi_162_17⟩⟩⟩⟩⟩⟩⟩⟩⟩⟩⟩⟩⟩⟩⟩⟩⟩
set_option maxRecDepth 100000 in
theorem gm_162 : gMOK gMT gro_162 := ⟨fun h => absurd rfl h, List.mem_filter.mpr ⟨List.mem_append_right _ (List.mem_of_getElem? (i := 0) (by rfl)), rfl⟩, by decide, ⟨by decide, by decide⟩, gd_162, gh_162, gi_162, by decide⟩
