theorem gd_0 : ∀ q ∈ gc_0, decode prog_1_method_1_code q.1 = .ok (q.2.1, q.2.2.1) := by decide +kernel
theorem gh_0 : ∀ q ∈ gc_0, gchk "GiftShops" "<init>" q = true := by decide +kernel
theorem gi_0 : ∀ q ∈ gc_0, gchkI gMT "GiftShops" q = true := by decide +kernel
set_option maxRecDepth 100000 in
theorem gm_0 : gMOK gMT gro_0 := ⟨fun _ => List.mem_filter.mpr ⟨List.mem_append_right _ (List.mem_of_getElem? (i := 27) (by rfl)), rfl⟩, List.mem_filter.mpr ⟨List.mem_append_right _ (List.mem_of_getElem? (i := 1) (by rfl)), rfl⟩, by decide, ⟨by decide, by decide⟩, gd_0, gh_0, gi_0, by decide⟩
theorem gd_1 : ∀ q ∈ gc_1, decode prog_7_method_1_code q.1 = .ok (q.2.1, q.2.2.1) := by decide +kernel
theorem gh_1 : ∀ q ∈ gc_1, gchk "GiftShops$Shop" "<init>" q = true := by decide +kernel
theorem gi_1 : ∀ q ∈ gc_1, gchkI gMT "GiftShops$Shop" q = true := by decide +kernel
set_option maxRecDepth 100000 in
theorem gm_1 : gMOK gMT gro_1 := ⟨fun _ => List.mem_filter.mpr ⟨List.mem_append_right _ (List.mem_of_getElem? (i := 40) (by rfl)), rfl⟩, List.mem_filter.mpr ⟨List.mem_append_right _ (List.mem_of_getElem? (i := 2) (by rfl)), rfl⟩, by decide, ⟨by decide, by decide⟩, gd_1, gh_1, gi_1, by decide⟩
theorem gd_2 : ∀ q ∈ gc_2, decode prog_8_method_1_code q.1 = .ok (q.2.1, q.2.2.1) := by decide +kernel
theorem gh_2 : ∀ q ∈ gc_2, gchk "GiftShops$Tape" "<init>" q = true := by decide +kernel
theorem gi_2 : ∀ q ∈ gc_2, gchkI gMT "GiftShops$Tape" q = true := by decide +kernel
set_option maxRecDepth 100000 in
theorem gm_2 : gMOK gMT gro_2 := ⟨fun _ => List.mem_filter.mpr ⟨List.mem_append_right _ (List.mem_of_getElem? (i := 67) (by rfl)), rfl⟩, List.mem_filter.mpr ⟨List.mem_append_right _ (List.mem_of_getElem? (i := 3) (by rfl)), rfl⟩, by decide, ⟨by decide, by decide⟩, gd_2, gh_2, gi_2, by decide⟩
theorem gd_3 : ∀ q ∈ gc_3, decode prog_4_method_1_code q.1 = .ok (q.2.1, q.2.2.1) := by decide +kernel
theorem gh_3 : ∀ q ∈ gc_3, gchk "GiftShops$Rules" "<init>" q = true := by decide +kernel
theorem gi_3 : ∀ q ∈ gc_3, gchkI gMT "GiftShops$Rules" q = true := by decide +kernel
set_option maxRecDepth 100000 in
theorem gm_3 : gMOK gMT gro_3 := ⟨fun _ => List.mem_filter.mpr ⟨List.mem_append_right _ (List.mem_of_getElem? (i := 84) (by rfl)), rfl⟩, List.mem_filter.mpr ⟨List.mem_append_right _ (List.mem_of_getElem? (i := 4) (by rfl)), rfl⟩, by decide, ⟨by decide, by decide⟩, gd_3, gh_3, gi_3, by decide⟩
theorem gd_4 : ∀ q ∈ gc_4, decode prog_2_method_1_code q.1 = .ok (q.2.1, q.2.2.1) := by decide +kernel
theorem gh_4 : ∀ q ∈ gc_4, gchk "GiftShops$Parser" "<init>" q = true := by decide +kernel
theorem gi_4 : ∀ q ∈ gc_4, gchkI gMT "GiftShops$Parser" q = true := by decide +kernel
set_option maxRecDepth 100000 in
theorem gm_4 : gMOK gMT gro_4 := ⟨fun _ => List.mem_filter.mpr ⟨List.mem_append_right _ (List.mem_of_getElem? (i := 111) (by rfl)), rfl⟩, List.mem_filter.mpr ⟨List.mem_append_right _ (List.mem_of_getElem? (i := 5) (by rfl)), rfl⟩, by decide, ⟨by decide, by decide⟩, gd_4, gh_4, gi_4, by decide⟩
theorem gd_5 : ∀ q ∈ gc_5, decode prog_6_method_1_code q.1 = .ok (q.2.1, q.2.2.1) := by decide +kernel
theorem gh_5 : ∀ q ∈ gc_5, gchk "GiftShops$Scanner" "<init>" q = true := by decide +kernel
theorem gi_5 : ∀ q ∈ gc_5, gchkI gMT "GiftShops$Scanner" q = true := by decide +kernel
set_option maxRecDepth 100000 in
theorem gm_5 : gMOK gMT gro_5 := ⟨fun _ => List.mem_filter.mpr ⟨List.mem_append_right _ (List.mem_of_getElem? (i := 117) (by rfl)), rfl⟩, List.mem_filter.mpr ⟨List.mem_append_right _ (List.mem_of_getElem? (i := 6) (by rfl)), rfl⟩, by decide, ⟨by decide, by decide⟩, gd_5, gh_5, gi_5, by decide⟩
theorem gd_6 : ∀ q ∈ gc_6, decode prog_3_method_1_code q.1 = .ok (q.2.1, q.2.2.1) := by decide +kernel
theorem gh_6 : ∀ q ∈ gc_6, gchk "GiftShops$Roads" "<init>" q = true := by decide +kernel
theorem gi_6 : ∀ q ∈ gc_6, gchkI gMT "GiftShops$Roads" q = true := by decide +kernel
set_option maxRecDepth 100000 in
theorem gm_6 : gMOK gMT gro_6 := ⟨fun _ => List.mem_filter.mpr ⟨List.mem_append_right _ (List.mem_of_getElem? (i := 152) (by rfl)), rfl⟩, List.mem_filter.mpr ⟨List.mem_append_right _ (List.mem_of_getElem? (i := 7) (by rfl)), rfl⟩, by decide, ⟨by decide, by decide⟩, gd_6, gh_6, gi_6, by decide⟩
theorem gd_7 : ∀ q ∈ gc_7, decode prog_10_method_1_code q.1 = .ok (q.2.1, q.2.2.1) := by decide +kernel
theorem gh_7 : ∀ q ∈ gc_7, gchk "GiftShops$Turns" "<init>" q = true := by decide +kernel
theorem gi_7 : ∀ q ∈ gc_7, gchkI gMT "GiftShops$Turns" q = true := by decide +kernel
set_option maxRecDepth 100000 in
theorem gm_7 : gMOK gMT gro_7 := ⟨fun _ => List.mem_filter.mpr ⟨List.mem_append_right _ (List.mem_of_getElem? (i := 165) (by rfl)), rfl⟩, List.mem_filter.mpr ⟨List.mem_append_right _ (List.mem_of_getElem? (i := 8) (by rfl)), rfl⟩, by decide, ⟨by decide, by decide⟩, gd_7, gh_7, gi_7, by decide⟩
theorem gd_8 : ∀ q ∈ gc_8, decode prog_1_method_2_code q.1 = .ok (q.2.1, q.2.2.1) := by decide +kernel
theorem gh_8 : ∀ q ∈ gc_8, gchk "GiftShops" "give" q = true := by decide +kernel
theorem gi_8 : ∀ q ∈ gc_8, gchkI gMT "GiftShops" q = true := by decide +kernel
set_option maxRecDepth 100000 in
theorem gm_8 : gMOK gMT gro_8 := ⟨fun _ => List.mem_filter.mpr ⟨List.mem_append_right _ (List.mem_of_getElem? (i := 242) (by rfl)), rfl⟩, List.mem_filter.mpr ⟨List.mem_append_right _ (List.mem_of_getElem? (i := 1) (by rfl)), rfl⟩, by decide, ⟨by decide, by decide⟩, gd_8, gh_8, gi_8, by decide⟩
theorem gd_9 : ∀ q ∈ gc_9, decode prog_1_method_28_code q.1 = .ok (q.2.1, q.2.2.1) := by decide +kernel
theorem gh_9 : ∀ q ∈ gc_9, gchk "GiftShops" "within" q = true := by decide +kernel
theorem gi_9 : ∀ q ∈ gc_9, gchkI gMT "GiftShops" q = true := by decide +kernel
set_option maxRecDepth 100000 in
theorem gm_9 : gMOK gMT gro_9 := ⟨fun _ => List.mem_filter.mpr ⟨List.mem_append_right _ (List.mem_of_getElem? (i := 245) (by rfl)), rfl⟩, List.mem_filter.mpr ⟨List.mem_append_right _ (List.mem_of_getElem? (i := 1) (by rfl)), rfl⟩, by decide, ⟨by decide, by decide⟩, gd_9, gh_9, gi_9, by decide⟩
theorem gd_10 : ∀ q ∈ gc_10, decode prog_9_method_1_code q.1 = .ok (q.2.1, q.2.2.1) := by decide +kernel
theorem gh_10 : ∀ q ∈ gc_10, gchk "GiftShops$Thing" "<init>" q = true := by decide +kernel
theorem gi_10 : ∀ q ∈ gc_10, gchkI gMT "GiftShops$Thing" q = true := by decide +kernel
set_option maxRecDepth 100000 in
theorem gm_10 : gMOK gMT gro_10 := ⟨fun _ => List.mem_filter.mpr ⟨List.mem_append_right _ (List.mem_of_getElem? (i := 249) (by rfl)), rfl⟩, List.mem_filter.mpr ⟨List.mem_append_right _ (List.mem_of_getElem? (i := 10) (by rfl)), rfl⟩, by decide, ⟨by decide, by decide⟩, gd_10, gh_10, gi_10, by decide⟩
theorem gd_11 : ∀ q ∈ gc_11, decode prog_1_method_3_code q.1 = .ok (q.2.1, q.2.2.1) := by decide +kernel
theorem gh_11 : ∀ q ∈ gc_11, gchk "GiftShops" "shelf" q = true := by decide +kernel
theorem gi_11 : ∀ q ∈ gc_11, gchkI gMT "GiftShops" q = true := by decide +kernel
set_option maxRecDepth 100000 in
theorem gm_11 : gMOK gMT gro_11 := ⟨fun _ => List.mem_filter.mpr ⟨List.mem_append_right _ (List.mem_of_getElem? (i := 290) (by rfl)), rfl⟩, List.mem_filter.mpr ⟨List.mem_append_right _ (List.mem_of_getElem? (i := 1) (by rfl)), rfl⟩, by decide, ⟨by decide, by decide⟩, gd_11, gh_11, gi_11, by decide⟩
theorem gd_12 : ∀ q ∈ gc_12, decode prog_1_method_4_code q.1 = .ok (q.2.1, q.2.2.1) := by decide +kernel
theorem gh_12 : ∀ q ∈ gc_12, gchk "GiftShops" "base" q = true := by decide +kernel
theorem gi_12 : ∀ q ∈ gc_12, gchkI gMT "GiftShops" q = true := by decide +kernel
set_option maxRecDepth 100000 in
theorem gm_12 : gMOK gMT gro_12 := ⟨fun _ => List.mem_filter.mpr ⟨List.mem_append_right _ (List.mem_of_getElem? (i := 294) (by rfl)), rfl⟩, List.mem_filter.mpr ⟨List.mem_append_right _ (List.mem_of_getElem? (i := 1) (by rfl)), rfl⟩, by decide, ⟨by decide, by decide⟩, gd_12, gh_12, gi_12, by decide⟩
theorem gd_13 : ∀ q ∈ gc_13, decode prog_1_method_5_code q.1 = .ok (q.2.1, q.2.2.1) := by decide +kernel
theorem gh_13 : ∀ q ∈ gc_13, gchk "GiftShops" "feed" q = true := by decide +kernel
theorem gi_13 : ∀ q ∈ gc_13, gchkI gMT "GiftShops" q = true := by decide +kernel
set_option maxRecDepth 100000 in
theorem gm_13 : gMOK gMT gro_13 := ⟨fun _ => List.mem_filter.mpr ⟨List.mem_append_right _ (List.mem_of_getElem? (i := 298) (by rfl)), rfl⟩, List.mem_filter.mpr ⟨List.mem_append_right _ (List.mem_of_getElem? (i := 1) (by rfl)), rfl⟩, by decide, ⟨by decide, by decide⟩, gd_13, gh_13, gi_13, by decide⟩
theorem gd_14 : ∀ q ∈ gc_14, decode prog_8_method_2_code q.1 = .ok (q.2.1, q.2.2.1) := by decide +kernel
theorem gh_14 : ∀ q ∈ gc_14, gchk "GiftShops$Tape" "addBytes" q = true := by decide +kernel
theorem gi_14 : ∀ q ∈ gc_14, gchkI gMT "GiftShops$Tape" q = true := by decide +kernel
set_option maxRecDepth 100000 in
theorem gm_14 : gMOK gMT gro_14 := ⟨fun _ => List.mem_filter.mpr ⟨List.mem_append_right _ (List.mem_of_getElem? (i := 302) (by rfl)), rfl⟩, List.mem_filter.mpr ⟨List.mem_append_right _ (List.mem_of_getElem? (i := 3) (by rfl)), rfl⟩, by decide, ⟨by decide, by decide⟩, gd_14, gh_14, gi_14, by decide⟩
theorem gd_15 : ∀ q ∈ gc_15, decode prog_1_method_6_code q.1 = .ok (q.2.1, q.2.2.1) := by decide +kernel
theorem gh_15 : ∀ q ∈ gc_15, gchk "GiftShops" "text" q = true := by decide +kernel
theorem gi_15 : ∀ q ∈ gc_15, gchkI gMT "GiftShops" q = true := by decide +kernel
set_option maxRecDepth 100000 in
theorem gm_15 : gMOK gMT gro_15 := ⟨fun _ => List.mem_filter.mpr ⟨List.mem_append_right _ (List.mem_of_getElem? (i := 306) (by rfl)), rfl⟩, List.mem_filter.mpr ⟨List.mem_append_right _ (List.mem_of_getElem? (i := 1) (by rfl)), rfl⟩, by decide, ⟨by decide, by decide⟩, gd_15, gh_15, gi_15, by decide⟩
theorem gd_16 : ∀ q ∈ gc_16, decode prog_2_method_2_code q.1 = .ok (q.2.1, q.2.2.1) := by decide +kernel
theorem gh_16 : ∀ q ∈ gc_16, gchk "GiftShops$Parser" "readInto" q = true := by decide +kernel
theorem gi_16 : ∀ q ∈ gc_16, gchkI gMT "GiftShops$Parser" q = true := by decide +kernel
set_option maxRecDepth 100000 in
theorem gm_16 : gMOK gMT gro_16 := ⟨fun _ => List.mem_filter.mpr ⟨List.mem_append_right _ (List.mem_of_getElem? (i := 310) (by rfl)), rfl⟩, List.mem_filter.mpr ⟨List.mem_append_right _ (List.mem_of_getElem? (i := 5) (by rfl)), rfl⟩, by decide, ⟨by decide, by decide⟩, gd_16, gh_16, gi_16, by decide⟩
theorem gd_17 : ∀ q ∈ gc_17, decode prog_4_method_2_code q.1 = .ok (q.2.1, q.2.2.1) := by decide +kernel
theorem gh_17 : ∀ q ∈ gc_17, gchk "GiftShops$Rules" "clear" q = true := by decide +kernel
theorem gi_17 : ∀ q ∈ gc_17, gchkI gMT "GiftShops$Rules" q = true := by decide +kernel
set_option maxRecDepth 100000 in
theorem gm_17 : gMOK gMT gro_17 := ⟨fun _ => List.mem_filter.mpr ⟨List.mem_append_right _ (List.mem_of_getElem? (i := 314) (by rfl)), rfl⟩, List.mem_filter.mpr ⟨List.mem_append_right _ (List.mem_of_getElem? (i := 4) (by rfl)), rfl⟩, by decide, ⟨by decide, by decide⟩, gd_17, gh_17, gi_17, by decide⟩
theorem gd_18 : ∀ q ∈ gc_18, decode prog_6_method_2_code q.1 = .ok (q.2.1, q.2.2.1) := by decide +kernel
theorem gh_18 : ∀ q ∈ gc_18, gchk "GiftShops$Scanner" "begin" q = true := by decide +kernel
theorem gi_18 : ∀ q ∈ gc_18, gchkI gMT "GiftShops$Scanner" q = true := by decide +kernel
set_option maxRecDepth 100000 in
theorem gm_18 : gMOK gMT gro_18 := ⟨fun _ => List.mem_filter.mpr ⟨List.mem_append_right _ (List.mem_of_getElem? (i := 318) (by rfl)), rfl⟩, List.mem_filter.mpr ⟨List.mem_append_right _ (List.mem_of_getElem? (i := 6) (by rfl)), rfl⟩, by decide, ⟨by decide, by decide⟩, gd_18, gh_18, gi_18, by decide⟩
theorem gd_19 : ∀ q ∈ gc_19, decode prog_6_method_3_code q.1 = .ok (q.2.1, q.2.2.1) := by decide +kernel
theorem gh_19 : ∀ q ∈ gc_19, gchk "GiftShops$Scanner" "next" q = true := by decide +kernel
theorem gi_19 : ∀ q ∈ gc_19, gchkI gMT "GiftShops$Scanner" q = true := by decide +kernel
set_option maxRecDepth 100000 in
theorem gm_19 : gMOK gMT gro_19 := ⟨fun _ => List.mem_filter.mpr ⟨List.mem_append_right _ (List.mem_of_getElem? (i := 322) (by rfl)), rfl⟩, List.mem_filter.mpr ⟨List.mem_append_right _ (List.mem_of_getElem? (i := 6) (by rfl)), rfl⟩, by decide, ⟨by decide, by decide⟩, gd_19, gh_19, gi_19, by decide⟩
theorem gd_20 : ∀ q ∈ gc_20, decode prog_6_method_12_code q.1 = .ok (q.2.1, q.2.2.1) := by decide +kernel
theorem gh_20 : ∀ q ∈ gc_20, gchk "GiftShops$Scanner" "isBlank" q = true := by decide +kernel
theorem gi_20 : ∀ q ∈ gc_20, gchkI gMT "GiftShops$Scanner" q = true := by decide +kernel
set_option maxRecDepth 100000 in
theorem gm_20 : gMOK gMT gro_20 := ⟨fun _ => List.mem_filter.mpr ⟨List.mem_append_right _ (List.mem_of_getElem? (i := 325) (by rfl)), rfl⟩, List.mem_filter.mpr ⟨List.mem_append_right _ (List.mem_of_getElem? (i := 6) (by rfl)), rfl⟩, by decide, ⟨by decide, by decide⟩, gd_20, gh_20, gi_20, by decide⟩
theorem gd_21 : ∀ q ∈ gc_21, decode prog_6_method_4_code q.1 = .ok (q.2.1, q.2.2.1) := by decide +kernel
theorem gh_21 : ∀ q ∈ gc_21, gchk "GiftShops$Scanner" "behindRun" q = true := by decide +kernel
theorem gi_21 : ∀ q ∈ gc_21, gchkI gMT "GiftShops$Scanner" q = true := by decide +kernel
set_option maxRecDepth 100000 in
theorem gm_21 : gMOK gMT gro_21 := ⟨fun _ => List.mem_filter.mpr ⟨List.mem_append_right _ (List.mem_of_getElem? (i := 329) (by rfl)), rfl⟩, List.mem_filter.mpr ⟨List.mem_append_right _ (List.mem_of_getElem? (i := 6) (by rfl)), rfl⟩, by decide, ⟨by decide, by decide⟩, gd_21, gh_21, gi_21, by decide⟩
theorem gd_22 : ∀ q ∈ gc_22, decode prog_6_method_5_code q.1 = .ok (q.2.1, q.2.2.1) := by decide +kernel
theorem gh_22 : ∀ q ∈ gc_22, gchk "GiftShops$Scanner" "wordToken" q = true := by decide +kernel
theorem gi_22 : ∀ q ∈ gc_22, gchkI gMT "GiftShops$Scanner" q = true := by decide +kernel
set_option maxRecDepth 100000 in
theorem gm_22 : gMOK gMT gro_22 := ⟨fun _ => List.mem_filter.mpr ⟨List.mem_append_right _ (List.mem_of_getElem? (i := 333) (by rfl)), rfl⟩, List.mem_filter.mpr ⟨List.mem_append_right _ (List.mem_of_getElem? (i := 6) (by rfl)), rfl⟩, by decide, ⟨by decide, by decide⟩, gd_22, gh_22, gi_22, by decide⟩
theorem gd_23 : ∀ q ∈ gc_23, decode prog_6_method_6_code q.1 = .ok (q.2.1, q.2.2.1) := by decide +kernel
theorem gh_23 : ∀ q ∈ gc_23, gchk "GiftShops$Scanner" "spells" q = true := by decide +kernel
theorem gi_23 : ∀ q ∈ gc_23, gchkI gMT "GiftShops$Scanner" q = true := by decide +kernel
set_option maxRecDepth 100000 in
theorem gm_23 : gMOK gMT gro_23 := ⟨fun _ => List.mem_filter.mpr ⟨List.mem_append_right _ (List.mem_of_getElem? (i := 337) (by rfl)), rfl⟩, List.mem_filter.mpr ⟨List.mem_append_right _ (List.mem_of_getElem? (i := 6) (by rfl)), rfl⟩, by decide, ⟨by decide, by decide⟩, gd_23, gh_23, gi_23, by decide⟩
theorem gd_24 : ∀ q ∈ gc_24, decode prog_6_method_7_code q.1 = .ok (q.2.1, q.2.2.1) := by decide +kernel
theorem gh_24 : ∀ q ∈ gc_24, gchk "GiftShops$Scanner" "numberToken" q = true := by decide +kernel
theorem gi_24 : ∀ q ∈ gc_24, gchkI gMT "GiftShops$Scanner" q = true := by decide +kernel
set_option maxRecDepth 100000 in
theorem gm_24 : gMOK gMT gro_24 := ⟨fun _ => List.mem_filter.mpr ⟨List.mem_append_right _ (List.mem_of_getElem? (i := 382) (by rfl)), rfl⟩, List.mem_filter.mpr ⟨List.mem_append_right _ (List.mem_of_getElem? (i := 6) (by rfl)), rfl⟩, by decide, ⟨by decide, by decide⟩, gd_24, gh_24, gi_24, by decide⟩
theorem gd_25 : ∀ q ∈ gc_25, decode prog_2_method_3_code q.1 = .ok (q.2.1, q.2.2.1) := by decide +kernel
theorem gh_25 : ∀ q ∈ gc_25, gchk "GiftShops$Parser" "readLine" q = true := by decide +kernel
theorem gi_25 : ∀ q ∈ gc_25, gchkI gMT "GiftShops$Parser" q = true := by decide +kernel
set_option maxRecDepth 100000 in
theorem gm_25 : gMOK gMT gro_25 := ⟨fun _ => List.mem_filter.mpr ⟨List.mem_append_right _ (List.mem_of_getElem? (i := 453) (by rfl)), rfl⟩, List.mem_filter.mpr ⟨List.mem_append_right _ (List.mem_of_getElem? (i := 5) (by rfl)), rfl⟩, by decide, ⟨by decide, by decide⟩, gd_25, gh_25, gi_25, by decide⟩
theorem gd_26 : ∀ q ∈ gc_26, decode prog_6_method_8_code q.1 = .ok (q.2.1, q.2.2.1) := by decide +kernel
theorem gh_26 : ∀ q ∈ gc_26, gchk "GiftShops$Scanner" "isWay" q = true := by decide +kernel
theorem gi_26 : ∀ q ∈ gc_26, gchkI gMT "GiftShops$Scanner" q = true := by decide +kernel
set_option maxRecDepth 100000 in
theorem gm_26 : gMOK gMT gro_26 := ⟨fun _ => List.mem_filter.mpr ⟨List.mem_append_right _ (List.mem_of_getElem? (i := 457) (by rfl)), rfl⟩, List.mem_filter.mpr ⟨List.mem_append_right _ (List.mem_of_getElem? (i := 6) (by rfl)), rfl⟩, by decide, ⟨by decide, by decide⟩, gd_26, gh_26, gi_26, by decide⟩
theorem gd_27 : ∀ q ∈ gc_27, decode prog_2_method_9_code q.1 = .ok (q.2.1, q.2.2.1) := by decide +kernel
theorem gh_27 : ∀ q ∈ gc_27, gchk "GiftShops$Parser" "wrong" q = true := by decide +kernel
theorem gi_27 : ∀ q ∈ gc_27, gchkI gMT "GiftShops$Parser" q = true := by decide +kernel
set_option maxRecDepth 100000 in
theorem gm_27 : gMOK gMT gro_27 := ⟨fun _ => List.mem_filter.mpr ⟨List.mem_append_right _ (List.mem_of_getElem? (i := 461) (by rfl)), rfl⟩, List.mem_filter.mpr ⟨List.mem_append_right _ (List.mem_of_getElem? (i := 5) (by rfl)), rfl⟩, by decide, ⟨by decide, by decide⟩, gd_27, gh_27, gi_27, by decide⟩
theorem gd_28 : ∀ q ∈ gc_28, decode prog_6_method_9_code q.1 = .ok (q.2.1, q.2.2.1) := by decide +kernel
theorem gh_28 : ∀ q ∈ gc_28, gchk "GiftShops$Scanner" "wayTold" q = true := by decide +kernel
theorem gi_28 : ∀ q ∈ gc_28, gchkI gMT "GiftShops$Scanner" q = true := by decide +kernel
set_option maxRecDepth 100000 in
theorem gm_28 : gMOK gMT gro_28 := ⟨fun _ => List.mem_filter.mpr ⟨List.mem_append_right _ (List.mem_of_getElem? (i := 465) (by rfl)), rfl⟩, List.mem_filter.mpr ⟨List.mem_append_right _ (List.mem_of_getElem? (i := 6) (by rfl)), rfl⟩, by decide, ⟨by decide, by decide⟩, gd_28, gh_28, gi_28, by decide⟩
theorem gd_29 : ∀ q ∈ gc_29, decode prog_2_method_8_code q.1 = .ok (q.2.1, q.2.2.1) := by decide +kernel
theorem gh_29 : ∀ q ∈ gc_29, gchk "GiftShops$Parser" "take" q = true := by decide +kernel
theorem gi_29 : ∀ q ∈ gc_29, gchkI gMT "GiftShops$Parser" q = true := by decide +kernel
set_option maxRecDepth 100000 in
theorem gm_29 : gMOK gMT gro_29 := ⟨fun _ => List.mem_filter.mpr ⟨List.mem_append_right _ (List.mem_of_getElem? (i := 470) (by rfl)), rfl⟩, List.mem_filter.mpr ⟨List.mem_append_right _ (List.mem_of_getElem? (i := 5) (by rfl)), rfl⟩, by decide, ⟨by decide, by decide⟩, gd_29, gh_29, gi_29, by decide⟩
theorem gd_30 : ∀ q ∈ gc_30, decode prog_2_method_4_code q.1 = .ok (q.2.1, q.2.2.1) := by decide +kernel
theorem gh_30 : ∀ q ∈ gc_30, gchk "GiftShops$Parser" "readTests" q = true := by decide +kernel
theorem gi_30 : ∀ q ∈ gc_30, gchkI gMT "GiftShops$Parser" q = true := by decide +kernel
set_option maxRecDepth 100000 in
theorem gm_30 : gMOK gMT gro_30 := ⟨fun _ => List.mem_filter.mpr ⟨List.mem_append_right _ (List.mem_of_getElem? (i := 474) (by rfl)), rfl⟩, List.mem_filter.mpr ⟨List.mem_append_right _ (List.mem_of_getElem? (i := 5) (by rfl)), rfl⟩, by decide, ⟨by decide, by decide⟩, gd_30, gh_30, gi_30, by decide⟩
theorem gd_31 : ∀ q ∈ gc_31, decode prog_2_method_5_code q.1 = .ok (q.2.1, q.2.2.1) := by decide +kernel
theorem gh_31 : ∀ q ∈ gc_31, gchk "GiftShops$Parser" "readTest" q = true := by decide +kernel
theorem gi_31 : ∀ q ∈ gc_31, gchkI gMT "GiftShops$Parser" q = true := by decide +kernel
set_option maxRecDepth 100000 in
theorem gm_31 : gMOK gMT gro_31 := ⟨fun _ => List.mem_filter.mpr ⟨List.mem_append_right _ (List.mem_of_getElem? (i := 478) (by rfl)), rfl⟩, List.mem_filter.mpr ⟨List.mem_append_right _ (List.mem_of_getElem? (i := 5) (by rfl)), rfl⟩, by decide, ⟨by decide, by decide⟩, gd_31, gh_31, gi_31, by decide⟩
theorem gd_32 : ∀ q ∈ gc_32, decode prog_2_method_6_code q.1 = .ok (q.2.1, q.2.2.1) := by decide +kernel
theorem gh_32 : ∀ q ∈ gc_32, gchk "GiftShops$Parser" "readSum" q = true := by decide +kernel
theorem gi_32 : ∀ q ∈ gc_32, gchkI gMT "GiftShops$Parser" q = true := by decide +kernel
set_option maxRecDepth 100000 in
theorem gm_32 : gMOK gMT gro_32 := ⟨fun _ => List.mem_filter.mpr ⟨List.mem_append_right _ (List.mem_of_getElem? (i := 482) (by rfl)), rfl⟩, List.mem_filter.mpr ⟨List.mem_append_right _ (List.mem_of_getElem? (i := 5) (by rfl)), rfl⟩, by decide, ⟨by decide, by decide⟩, gd_32, gh_32, gi_32, by decide⟩
theorem gd_33 : ∀ q ∈ gc_33, decode prog_2_method_7_code q.1 = .ok (q.2.1, q.2.2.1) := by decide +kernel
theorem gh_33 : ∀ q ∈ gc_33, gchk "GiftShops$Parser" "readPart" q = true := by decide +kernel
theorem gi_33 : ∀ q ∈ gc_33, gchkI gMT "GiftShops$Parser" q = true := by decide +kernel
set_option maxRecDepth 100000 in
theorem gm_33 : gMOK gMT gro_33 := ⟨fun _ => List.mem_filter.mpr ⟨List.mem_append_right _ (List.mem_of_getElem? (i := 486) (by rfl)), rfl⟩, List.mem_filter.mpr ⟨List.mem_append_right _ (List.mem_of_getElem? (i := 5) (by rfl)), rfl⟩, by decide, ⟨by decide, by decide⟩, gd_33, gh_33, gi_33, by decide⟩
theorem gd_34 : ∀ q ∈ gc_34, decode prog_6_method_10_code q.1 = .ok (q.2.1, q.2.2.1) := by decide +kernel
theorem gh_34 : ∀ q ∈ gc_34, gchk "GiftShops$Scanner" "isFact" q = true := by decide +kernel
theorem gi_34 : ∀ q ∈ gc_34, gchkI gMT "GiftShops$Scanner" q = true := by decide +kernel
set_option maxRecDepth 100000 in
theorem gm_34 : gMOK gMT gro_34 := ⟨fun _ => List.mem_filter.mpr ⟨List.mem_append_right _ (List.mem_of_getElem? (i := 490) (by rfl)), rfl⟩, List.mem_filter.mpr ⟨List.mem_append_right _ (List.mem_of_getElem? (i := 6) (by rfl)), rfl⟩, by decide, ⟨by decide, by decide⟩, gd_34, gh_34, gi_34, by decide⟩
theorem gd_35 : ∀ q ∈ gc_35, decode prog_4_method_3_code q.1 = .ok (q.2.1, q.2.2.1) := by decide +kernel
theorem gh_35 : ∀ q ∈ gc_35, gchk "GiftShops$Rules" "add" q = true := by decide +kernel
theorem gi_35 : ∀ q ∈ gc_35, gchkI gMT "GiftShops$Rules" q = true := by decide +kernel
set_option maxRecDepth 100000 in
theorem gm_35 : gMOK gMT gro_35 := ⟨fun _ => List.mem_filter.mpr ⟨List.mem_append_right _ (List.mem_of_getElem? (i := 494) (by rfl)), rfl⟩, List.mem_filter.mpr ⟨List.mem_append_right _ (List.mem_of_getElem? (i := 4) (by rfl)), rfl⟩, by decide, ⟨by decide, by decide⟩, gd_35, gh_35, gi_35, by decide⟩
theorem gd_36 : ∀ q ∈ gc_36, decode prog_6_method_11_code q.1 = .ok (q.2.1, q.2.2.1) := by decide +kernel
theorem gh_36 : ∀ q ∈ gc_36, gchk "GiftShops$Scanner" "factTold" q = true := by decide +kernel
theorem gi_36 : ∀ q ∈ gc_36, gchkI gMT "GiftShops$Scanner" q = true := by decide +kernel
set_option maxRecDepth 100000 in
theorem gm_36 : gMOK gMT gro_36 := ⟨fun _ => List.mem_filter.mpr ⟨List.mem_append_right _ (List.mem_of_getElem? (i := 498) (by rfl)), rfl⟩, List.mem_filter.mpr ⟨List.mem_append_right _ (List.mem_of_getElem? (i := 6) (by rfl)), rfl⟩, by decide, ⟨by decide, by decide⟩, gd_36, gh_36, gi_36, by decide⟩
theorem gd_37 : ∀ q ∈ gc_37, decode prog_4_method_4_code q.1 = .ok (q.2.1, q.2.2.1) := by decide +kernel
theorem gh_37 : ∀ q ∈ gc_37, gchk "GiftShops$Rules" "endLine" q = true := by decide +kernel
theorem gi_37 : ∀ q ∈ gc_37, gchkI gMT "GiftShops$Rules" q = true := by decide +kernel
set_option maxRecDepth 100000 in
theorem gm_37 : gMOK gMT gro_37 := ⟨fun _ => List.mem_filter.mpr ⟨List.mem_append_right _ (List.mem_of_getElem? (i := 502) (by rfl)), rfl⟩, List.mem_filter.mpr ⟨List.mem_append_right _ (List.mem_of_getElem? (i := 4) (by rfl)), rfl⟩, by decide, ⟨by decide, by decide⟩, gd_37, gh_37, gi_37, by decide⟩
theorem gd_38 : ∀ q ∈ gc_38, decode prog_1_method_7_code q.1 = .ok (q.2.1, q.2.2.1) := by decide +kernel
theorem gh_38 : ∀ q ∈ gc_38, gchk "GiftShops" "sort" q = true := by decide +kernel
theorem gi_38 : ∀ q ∈ gc_38, gchkI gMT "GiftShops" q = true := by decide +kernel
set_option maxRecDepth 100000 in
theorem gm_38 : gMOK gMT gro_38 := ⟨fun _ => List.mem_filter.mpr ⟨List.mem_append_right _ (List.mem_of_getElem? (i := 507) (by rfl)), rfl⟩, List.mem_filter.mpr ⟨List.mem_append_right _ (List.mem_of_getElem? (i := 1) (by rfl)), rfl⟩, by decide, ⟨by decide, by decide⟩, gd_38, gh_38, gi_38, by decide⟩
theorem gd_39 : ∀ q ∈ gc_39, decode prog_1_method_32_code q.1 = .ok (q.2.1, q.2.2.1) := by decide +kernel
theorem gh_39 : ∀ q ∈ gc_39, gchk "GiftShops" "sortFor" q = true := by decide +kernel
theorem gi_39 : ∀ q ∈ gc_39, gchkI gMT "GiftShops" q = true := by decide +kernel
set_option maxRecDepth 100000 in
theorem gm_39 : gMOK gMT gro_39 := ⟨fun _ => List.mem_filter.mpr ⟨List.mem_append_right _ (List.mem_of_getElem? (i := 511) (by rfl)), rfl⟩, List.mem_filter.mpr ⟨List.mem_append_right _ (List.mem_of_getElem? (i := 1) (by rfl)), rfl⟩, by decide, ⟨by decide, by decide⟩, gd_39, gh_39, gi_39, by decide⟩
theorem gd_40 : ∀ q ∈ gc_40, decode prog_1_method_31_code q.1 = .ok (q.2.1, q.2.2.1) := by decide +kernel
theorem gh_40 : ∀ q ∈ gc_40, gchk "GiftShops" "wayByText" q = true := by decide +kernel
theorem gi_40 : ∀ q ∈ gc_40, gchkI gMT "GiftShops" q = true := by decide +kernel
set_option maxRecDepth 100000 in
theorem gm_40 : gMOK gMT gro_40 := ⟨fun _ => List.mem_filter.mpr ⟨List.mem_append_right _ (List.mem_of_getElem? (i := 515) (by rfl)), rfl⟩, List.mem_filter.mpr ⟨List.mem_append_right _ (List.mem_of_getElem? (i := 1) (by rfl)), rfl⟩, by decide, ⟨by decide, by decide⟩, gd_40, gh_40, gi_40, by decide⟩
theorem gd_41 : ∀ q ∈ gc_41, decode prog_1_method_30_code q.1 = .ok (q.2.1, q.2.2.1) := by decide +kernel
theorem gh_41 : ∀ q ∈ gc_41, gchk "GiftShops" "seasonNow" q = true := by decide +kernel
theorem gi_41 : ∀ q ∈ gc_41, gchkI gMT "GiftShops" q = true := by decide +kernel
set_option maxRecDepth 100000 in
theorem gm_41 : gMOK gMT gro_41 := ⟨fun _ => List.mem_filter.mpr ⟨List.mem_append_right _ (List.mem_of_getElem? (i := 519) (by rfl)), rfl⟩, List.mem_filter.mpr ⟨List.mem_append_right _ (List.mem_of_getElem? (i := 1) (by rfl)), rfl⟩, by decide, ⟨by decide, by decide⟩, gd_41, gh_41, gi_41, by decide⟩
theorem gd_42 : ∀ q ∈ gc_42, decode prog_4_method_5_code q.1 = .ok (q.2.1, q.2.2.1) := by decide +kernel
theorem gh_42 : ∀ q ∈ gc_42, gchk "GiftShops$Rules" "wayFor" q = true := by decide +kernel
theorem gi_42 : ∀ q ∈ gc_42, gchkI gMT "GiftShops$Rules" q = true := by decide +kernel
set_option maxRecDepth 100000 in
theorem gm_42 : gMOK gMT gro_42 := ⟨fun _ => List.mem_filter.mpr ⟨List.mem_append_right _ (List.mem_of_getElem? (i := 523) (by rfl)), rfl⟩, List.mem_filter.mpr ⟨List.mem_append_right _ (List.mem_of_getElem? (i := 4) (by rfl)), rfl⟩, by decide, ⟨by decide, by decide⟩, gd_42, gh_42, gi_42, by decide⟩
theorem gd_43 : ∀ q ∈ gc_43, decode prog_4_method_6_code q.1 = .ok (q.2.1, q.2.2.1) := by decide +kernel
theorem gh_43 : ∀ q ∈ gc_43, gchk "GiftShops$Rules" "valueOf" q = true := by decide +kernel
theorem gi_43 : ∀ q ∈ gc_43, gchkI gMT "GiftShops$Rules" q = true := by decide +kernel
set_option maxRecDepth 100000 in
theorem gm_43 : gMOK gMT gro_43 := ⟨fun _ => List.mem_filter.mpr ⟨List.mem_append_right _ (List.mem_of_getElem? (i := 527) (by rfl)), rfl⟩, List.mem_filter.mpr ⟨List.mem_append_right _ (List.mem_of_getElem? (i := 4) (by rfl)), rfl⟩, by decide, ⟨by decide, by decide⟩, gd_43, gh_43, gi_43, by decide⟩
theorem gd_44 : ∀ q ∈ gc_44, decode prog_4_method_7_code q.1 = .ok (q.2.1, q.2.2.1) := by decide +kernel
theorem gh_44 : ∀ q ∈ gc_44, gchk "GiftShops$Rules" "joined" q = true := by decide +kernel
theorem gi_44 : ∀ q ∈ gc_44, gchkI gMT "GiftShops$Rules" q = true := by decide +kernel
set_option maxRecDepth 100000 in
theorem gm_44 : gMOK gMT gro_44 := ⟨fun _ => List.mem_filter.mpr ⟨List.mem_append_right _ (List.mem_of_getElem? (i := 530) (by rfl)), rfl⟩, List.mem_filter.mpr ⟨List.mem_append_right _ (List.mem_of_getElem? (i := 4) (by rfl)), rfl⟩, by decide, ⟨by decide, by decide⟩, gd_44, gh_44, gi_44, by decide⟩
