theorem gd_95 : ∀ q ∈ gc_95, decode prog_12_method_4_code q.1 = .ok (q.2.1, q.2.2.1) := by decide +kernel
theorem gh_95 : ∀ q ∈ gc_95, gchk "GiftShopsModel" "<init>" q = true := by decide +kernel
theorem gi_95 : ∀ q ∈ gc_95, gchkI gMT "GiftShopsModel" q = true := by decide +kernel
set_option maxRecDepth 100000 in
theorem gm_95 : gMOK gMT gro_95 := ⟨fun _ => List.mem_filter.mpr ⟨List.mem_append_right _ (List.mem_of_getElem? (i := 841) (by rfl)), rfl⟩, List.mem_filter.mpr ⟨List.mem_append_right _ (List.mem_of_getElem? (i := 9) (by rfl)), rfl⟩, by decide, ⟨by decide, by decide⟩, gd_95, gh_95, gi_95, by decide⟩
theorem gd_96 : ∀ q ∈ gc_96, decode prog_12_method_18_code q.1 = .ok (q.2.1, q.2.2.1) := by decide +kernel
theorem gh_96 : ∀ q ∈ gc_96, gchk "GiftShopsModel" "text" q = true := by decide +kernel
theorem gi_96 : ∀ q ∈ gc_96, gchkI gMT "GiftShopsModel" q = true := by decide +kernel
set_option maxRecDepth 100000 in
theorem gm_96 : gMOK gMT gro_96 := ⟨fun _ => List.mem_filter.mpr ⟨List.mem_append_right _ (List.mem_of_getElem? (i := 1023) (by rfl)), rfl⟩, List.mem_filter.mpr ⟨List.mem_append_right _ (List.mem_of_getElem? (i := 9) (by rfl)), rfl⟩, by decide, ⟨by decide, by decide⟩, gd_96, gh_96, gi_96, by decide⟩
theorem gd_97 : ∀ q ∈ gc_97, decode prog_12_method_9_code q.1 = .ok (q.2.1, q.2.2.1) := by decide +kernel
theorem gh_97 : ∀ q ∈ gc_97, gchk "GiftShopsModel" "cutAll" q = true := by decide +kernel
theorem gi_97 : ∀ q ∈ gc_97, gchkI gMT "GiftShopsModel" q = true := by decide +kernel
set_option maxRecDepth 100000 in
theorem gm_97 : gMOK gMT gro_97 := ⟨fun _ => List.mem_filter.mpr ⟨List.mem_append_right _ (List.mem_of_getElem? (i := 1027) (by rfl)), rfl⟩, List.mem_filter.mpr ⟨List.mem_append_right _ (List.mem_of_getElem? (i := 9) (by rfl)), rfl⟩, by decide, ⟨by decide, by decide⟩, gd_97, gh_97, gi_97, by decide⟩
theorem gd_98 : ∀ q ∈ gc_98, decode prog_12_method_5_code q.1 = .ok (q.2.1, q.2.2.1) := by decide +kernel
theorem gh_98 : ∀ q ∈ gc_98, gchk "GiftShopsModel" "isLetter" q = true := by decide +kernel
theorem gi_98 : ∀ q ∈ gc_98, gchkI gMT "GiftShopsModel" q = true := by decide +kernel
set_option maxRecDepth 100000 in
theorem gm_98 : gMOK gMT gro_98 := ⟨fun _ => List.mem_filter.mpr ⟨List.mem_append_right _ (List.mem_of_getElem? (i := 1030) (by rfl)), rfl⟩, List.mem_filter.mpr ⟨List.mem_append_right _ (List.mem_of_getElem? (i := 9) (by rfl)), rfl⟩, by decide, ⟨by decide, by decide⟩, gd_98, gh_98, gi_98, by decide⟩
theorem gd_99 : ∀ q ∈ gc_99, decode prog_12_method_7_code q.1 = .ok (q.2.1, q.2.2.1) := by decide +kernel
theorem gh_99 : ∀ q ∈ gc_99, gchk "GiftShopsModel" "rank" q = true := by decide +kernel
theorem gi_99 : ∀ q ∈ gc_99, gchkI gMT "GiftShopsModel" q = true := by decide +kernel
set_option maxRecDepth 100000 in
theorem gm_99 : gMOK gMT gro_99 := ⟨fun _ => List.mem_filter.mpr ⟨List.mem_append_right _ (List.mem_of_getElem? (i := 1034) (by rfl)), rfl⟩, List.mem_filter.mpr ⟨List.mem_append_right _ (List.mem_of_getElem? (i := 9) (by rfl)), rfl⟩, by decide, ⟨by decide, by decide⟩, gd_99, gh_99, gi_99, by decide⟩
theorem gd_100 : ∀ q ∈ gc_100, decode prog_12_method_6_code q.1 = .ok (q.2.1, q.2.2.1) := by decide +kernel
theorem gh_100 : ∀ q ∈ gc_100, gchk "GiftShopsModel" "isDigit" q = true := by decide +kernel
theorem gi_100 : ∀ q ∈ gc_100, gchkI gMT "GiftShopsModel" q = true := by decide +kernel
set_option maxRecDepth 100000 in
theorem gm_100 : gMOK gMT gro_100 := ⟨fun _ => List.mem_filter.mpr ⟨List.mem_append_right _ (List.mem_of_getElem? (i := 1037) (by rfl)), rfl⟩, List.mem_filter.mpr ⟨List.mem_append_right _ (List.mem_of_getElem? (i := 9) (by rfl)), rfl⟩, by decide, ⟨by decide, by decide⟩, gd_100, gh_100, gi_100, by decide⟩
theorem gd_101 : ∀ q ∈ gc_101, decode prog_12_method_8_code q.1 = .ok (q.2.1, q.2.2.1) := by decide +kernel
theorem gh_101 : ∀ q ∈ gc_101, gchk "GiftShopsModel" "isSignOf" q = true := by decide +kernel
theorem gi_101 : ∀ q ∈ gc_101, gchkI gMT "GiftShopsModel" q = true := by decide +kernel
set_option maxRecDepth 100000 in
theorem gm_101 : gMOK gMT gro_101 := ⟨fun _ => List.mem_filter.mpr ⟨List.mem_append_right _ (List.mem_of_getElem? (i := 1042) (by rfl)), rfl⟩, List.mem_filter.mpr ⟨List.mem_append_right _ (List.mem_of_getElem? (i := 9) (by rfl)), rfl⟩, by decide, ⟨by decide, by decide⟩, gd_101, gh_101, gi_101, by decide⟩
theorem gd_102 : ∀ q ∈ gc_102, decode prog_12_method_19_code q.1 = .ok (q.2.1, q.2.2.1) := by decide +kernel
theorem gh_102 : ∀ q ∈ gc_102, gchk "GiftShopsModel" "line" q = true := by decide +kernel
theorem gi_102 : ∀ q ∈ gc_102, gchkI gMT "GiftShopsModel" q = true := by decide +kernel
set_option maxRecDepth 100000 in
theorem gm_102 : gMOK gMT gro_102 := ⟨fun _ => List.mem_filter.mpr ⟨List.mem_append_right _ (List.mem_of_getElem? (i := 1046) (by rfl)), rfl⟩, List.mem_filter.mpr ⟨List.mem_append_right _ (List.mem_of_getElem? (i := 9) (by rfl)), rfl⟩, by decide, ⟨by decide, by decide⟩, gd_102, gh_102, gi_102, by decide⟩
theorem gd_103 : ∀ q ∈ gc_103, decode prog_12_method_12_code q.1 = .ok (q.2.1, q.2.2.1) := by decide +kernel
theorem gh_103 : ∀ q ∈ gc_103, gchk "GiftShopsModel" "isWord" q = true := by decide +kernel
theorem gi_103 : ∀ q ∈ gc_103, gchkI gMT "GiftShopsModel" q = true := by decide +kernel
set_option maxRecDepth 100000 in
theorem gm_103 : gMOK gMT gro_103 := ⟨fun _ => List.mem_filter.mpr ⟨List.mem_append_right _ (List.mem_of_getElem? (i := 1050) (by rfl)), rfl⟩, List.mem_filter.mpr ⟨List.mem_append_right _ (List.mem_of_getElem? (i := 9) (by rfl)), rfl⟩, by decide, ⟨by decide, by decide⟩, gd_103, gh_103, gi_103, by decide⟩
theorem gd_104 : ∀ q ∈ gc_104, decode prog_12_method_10_code q.1 = .ok (q.2.1, q.2.2.1) := by decide +kernel
theorem gh_104 : ∀ q ∈ gc_104, gchk "GiftShopsModel" "wrong" q = true := by decide +kernel
theorem gi_104 : ∀ q ∈ gc_104, gchkI gMT "GiftShopsModel" q = true := by decide +kernel
set_option maxRecDepth 100000 in
theorem gm_104 : gMOK gMT gro_104 := ⟨fun _ => List.mem_filter.mpr ⟨List.mem_append_right _ (List.mem_of_getElem? (i := 1054) (by rfl)), rfl⟩, List.mem_filter.mpr ⟨List.mem_append_right _ (List.mem_of_getElem? (i := 9) (by rfl)), rfl⟩, by decide, ⟨by decide, by decide⟩, gd_104, gh_104, gi_104, by decide⟩
theorem gd_105 : ∀ q ∈ gc_105, decode prog_12_method_16_code q.1 = .ok (q.2.1, q.2.2.1) := by decide +kernel
theorem gh_105 : ∀ q ∈ gc_105, gchk "GiftShopsModel" "takeWord" q = true := by decide +kernel
theorem gi_105 : ∀ q ∈ gc_105, gchkI gMT "GiftShopsModel" q = true := by decide +kernel
set_option maxRecDepth 100000 in
theorem gm_105 : gMOK gMT gro_105 := ⟨fun _ => List.mem_filter.mpr ⟨List.mem_append_right _ (List.mem_of_getElem? (i := 1058) (by rfl)), rfl⟩, List.mem_filter.mpr ⟨List.mem_append_right _ (List.mem_of_getElem? (i := 9) (by rfl)), rfl⟩, by decide, ⟨by decide, by decide⟩, gd_105, gh_105, gi_105, by decide⟩
theorem gd_106 : ∀ q ∈ gc_106, decode prog_12_method_15_code q.1 = .ok (q.2.1, q.2.2.1) := by decide +kernel
theorem gh_106 : ∀ q ∈ gc_106, gchk "GiftShopsModel" "hasWord" q = true := by decide +kernel
theorem gi_106 : ∀ q ∈ gc_106, gchkI gMT "GiftShopsModel" q = true := by decide +kernel
set_option maxRecDepth 100000 in
theorem gm_106 : gMOK gMT gro_106 := ⟨fun _ => List.mem_filter.mpr ⟨List.mem_append_right _ (List.mem_of_getElem? (i := 1062) (by rfl)), rfl⟩, List.mem_filter.mpr ⟨List.mem_append_right _ (List.mem_of_getElem? (i := 9) (by rfl)), rfl⟩, by decide, ⟨by decide, by decide⟩, gd_106, gh_106, gi_106, by decide⟩
theorem gd_107 : ∀ q ∈ gc_107, decode prog_12_method_20_code q.1 = .ok (q.2.1, q.2.2.1) := by decide +kernel
theorem gh_107 : ∀ q ∈ gc_107, gchk "GiftShopsModel" "opens" q = true := by decide +kernel
theorem gi_107 : ∀ q ∈ gc_107, gchkI gMT "GiftShopsModel" q = true := by decide +kernel
set_option maxRecDepth 100000 in
theorem gm_107 : gMOK gMT gro_107 := ⟨fun _ => List.mem_filter.mpr ⟨List.mem_append_right _ (List.mem_of_getElem? (i := 1066) (by rfl)), rfl⟩, List.mem_filter.mpr ⟨List.mem_append_right _ (List.mem_of_getElem? (i := 9) (by rfl)), rfl⟩, by decide, ⟨by decide, by decide⟩, gd_107, gh_107, gi_107, by decide⟩
theorem gd_108 : ∀ q ∈ gc_108, decode prog_12_method_22_code q.1 = .ok (q.2.1, q.2.2.1) := by decide +kernel
theorem gh_108 : ∀ q ∈ gc_108, gchk "GiftShopsModel" "part" q = true := by decide +kernel
theorem gi_108 : ∀ q ∈ gc_108, gchkI gMT "GiftShopsModel" q = true := by decide +kernel
set_option maxRecDepth 100000 in
theorem gm_108 : gMOK gMT gro_108 := ⟨fun _ => List.mem_filter.mpr ⟨List.mem_append_right _ (List.mem_of_getElem? (i := 1070) (by rfl)), rfl⟩, List.mem_filter.mpr ⟨List.mem_append_right _ (List.mem_of_getElem? (i := 9) (by rfl)), rfl⟩, by decide, ⟨by decide, by decide⟩, gd_108, gh_108, gi_108, by decide⟩
theorem gd_109 : ∀ q ∈ gc_109, decode prog_12_method_21_code q.1 = .ok (q.2.1, q.2.2.1) := by decide +kernel
theorem gh_109 : ∀ q ∈ gc_109, gchk "GiftShopsModel" "partWord" q = true := by decide +kernel
theorem gi_109 : ∀ q ∈ gc_109, gchkI gMT "GiftShopsModel" q = true := by decide +kernel
set_option maxRecDepth 100000 in
theorem gm_109 : gMOK gMT gro_109 := ⟨fun _ => List.mem_filter.mpr ⟨List.mem_append_right _ (List.mem_of_getElem? (i := 1074) (by rfl)), rfl⟩, List.mem_filter.mpr ⟨List.mem_append_right _ (List.mem_of_getElem? (i := 9) (by rfl)), rfl⟩, by decide, ⟨by decide, by decide⟩, gd_109, gh_109, gi_109, by decide⟩
theorem gd_110 : ∀ q ∈ gc_110, decode prog_12_method_11_code q.1 = .ok (q.2.1, q.2.2.1) := by decide +kernel
theorem gh_110 : ∀ q ∈ gc_110, gchk "GiftShopsModel" "isSign" q = true := by decide +kernel
theorem gi_110 : ∀ q ∈ gc_110, gchkI gMT "GiftShopsModel" q = true := by decide +kernel
set_option maxRecDepth 100000 in
theorem gm_110 : gMOK gMT gro_110 := ⟨fun _ => List.mem_filter.mpr ⟨List.mem_append_right _ (List.mem_of_getElem? (i := 1078) (by rfl)), rfl⟩, List.mem_filter.mpr ⟨List.mem_append_right _ (List.mem_of_getElem? (i := 9) (by rfl)), rfl⟩, by decide, ⟨by decide, by decide⟩, gd_110, gh_110, gi_110, by decide⟩
theorem gd_111 : ∀ q ∈ gc_111, decode prog_12_method_14_code q.1 = .ok (q.2.1, q.2.2.1) := by decide +kernel
theorem gh_111 : ∀ q ∈ gc_111, gchk "GiftShopsModel" "hasSign" q = true := by decide +kernel
theorem gi_111 : ∀ q ∈ gc_111, gchkI gMT "GiftShopsModel" q = true := by decide +kernel
set_option maxRecDepth 100000 in
theorem gm_111 : gMOK gMT gro_111 := ⟨fun _ => List.mem_filter.mpr ⟨List.mem_append_right _ (List.mem_of_getElem? (i := 1082) (by rfl)), rfl⟩, List.mem_filter.mpr ⟨List.mem_append_right _ (List.mem_of_getElem? (i := 9) (by rfl)), rfl⟩, by decide, ⟨by decide, by decide⟩, gd_111, gh_111, gi_111, by decide⟩
theorem gd_112 : ∀ q ∈ gc_112, decode prog_12_method_17_code q.1 = .ok (q.2.1, q.2.2.1) := by decide +kernel
theorem gh_112 : ∀ q ∈ gc_112, gchk "GiftShopsModel" "emit" q = true := by decide +kernel
theorem gi_112 : ∀ q ∈ gc_112, gchkI gMT "GiftShopsModel" q = true := by decide +kernel
set_option maxRecDepth 100000 in
theorem gm_112 : gMOK gMT gro_112 := ⟨fun _ => List.mem_filter.mpr ⟨List.mem_append_right _ (List.mem_of_getElem? (i := 1086) (by rfl)), rfl⟩, List.mem_filter.mpr ⟨List.mem_append_right _ (List.mem_of_getElem? (i := 9) (by rfl)), rfl⟩, by decide, ⟨by decide, by decide⟩, gd_112, gh_112, gi_112, by decide⟩
theorem gd_113 : ∀ q ∈ gc_113, decode prog_12_method_23_code q.1 = .ok (q.2.1, q.2.2.1) := by decide +kernel
theorem gh_113 : ∀ q ∈ gc_113, gchk "GiftShopsModel" "goesOnBehind" q = true := by decide +kernel
theorem gi_113 : ∀ q ∈ gc_113, gchkI gMT "GiftShopsModel" q = true := by decide +kernel
set_option maxRecDepth 100000 in
theorem gm_113 : gMOK gMT gro_113 := ⟨fun _ => List.mem_filter.mpr ⟨List.mem_append_right _ (List.mem_of_getElem? (i := 1090) (by rfl)), rfl⟩, List.mem_filter.mpr ⟨List.mem_append_right _ (List.mem_of_getElem? (i := 9) (by rfl)), rfl⟩, by decide, ⟨by decide, by decide⟩, gd_113, gh_113, gi_113, by decide⟩
theorem gd_114 : ∀ q ∈ gc_114, decode prog_12_method_13_code q.1 = .ok (q.2.1, q.2.2.1) := by decide +kernel
theorem gh_114 : ∀ q ∈ gc_114, gchk "GiftShopsModel" "takeSign" q = true := by decide +kernel
theorem gi_114 : ∀ q ∈ gc_114, gchkI gMT "GiftShopsModel" q = true := by decide +kernel
set_option maxRecDepth 100000 in
theorem gm_114 : gMOK gMT gro_114 := ⟨fun _ => List.mem_filter.mpr ⟨List.mem_append_right _ (List.mem_of_getElem? (i := 1094) (by rfl)), rfl⟩, List.mem_filter.mpr ⟨List.mem_append_right _ (List.mem_of_getElem? (i := 9) (by rfl)), rfl⟩, by decide, ⟨by decide, by decide⟩, gd_114, gh_114, gi_114, by decide⟩
theorem gd_115 : ∀ q ∈ gc_115, decode prog_12_method_26_code q.1 = .ok (q.2.1, q.2.2.1) := by decide +kernel
theorem gh_115 : ∀ q ∈ gc_115, gchk "GiftShopsModel" "give" q = true := by decide +kernel
theorem gi_115 : ∀ q ∈ gc_115, gchkI gMT "GiftShopsModel" q = true := by decide +kernel
set_option maxRecDepth 100000 in
theorem gm_115 : gMOK gMT gro_115 := ⟨fun _ => List.mem_filter.mpr ⟨List.mem_append_right _ (List.mem_of_getElem? (i := 1098) (by rfl)), rfl⟩, List.mem_filter.mpr ⟨List.mem_append_right _ (List.mem_of_getElem? (i := 9) (by rfl)), rfl⟩, by decide, ⟨by decide, by decide⟩, gd_115, gh_115, gi_115, by decide⟩
theorem gd_116 : ∀ q ∈ gc_116, decode prog_12_method_25_code q.1 = .ok (q.2.1, q.2.2.1) := by decide +kernel
theorem gh_116 : ∀ q ∈ gc_116, gchk "GiftShopsModel" "within" q = true := by decide +kernel
theorem gi_116 : ∀ q ∈ gc_116, gchkI gMT "GiftShopsModel" q = true := by decide +kernel
set_option maxRecDepth 100000 in
theorem gm_116 : gMOK gMT gro_116 := ⟨fun _ => List.mem_filter.mpr ⟨List.mem_append_right _ (List.mem_of_getElem? (i := 1101) (by rfl)), rfl⟩, List.mem_filter.mpr ⟨List.mem_append_right _ (List.mem_of_getElem? (i := 9) (by rfl)), rfl⟩, by decide, ⟨by decide, by decide⟩, gd_116, gh_116, gi_116, by decide⟩
theorem gd_117 : ∀ q ∈ gc_117, decode prog_12_method_30_code q.1 = .ok (q.2.1, q.2.2.1) := by decide +kernel
theorem gh_117 : ∀ q ∈ gc_117, gchk "GiftShopsModel" "shelf" q = true := by decide +kernel
theorem gi_117 : ∀ q ∈ gc_117, gchkI gMT "GiftShopsModel" q = true := by decide +kernel
set_option maxRecDepth 100000 in
theorem gm_117 : gMOK gMT gro_117 := ⟨fun _ => List.mem_filter.mpr ⟨List.mem_append_right _ (List.mem_of_getElem? (i := 1105) (by rfl)), rfl⟩, List.mem_filter.mpr ⟨List.mem_append_right _ (List.mem_of_getElem? (i := 9) (by rfl)), rfl⟩, by decide, ⟨by decide, by decide⟩, gd_117, gh_117, gi_117, by decide⟩
theorem gd_118 : ∀ q ∈ gc_118, decode prog_12_method_29_code q.1 = .ok (q.2.1, q.2.2.1) := by decide +kernel
theorem gh_118 : ∀ q ∈ gc_118, gchk "GiftShopsModel" "isShop" q = true := by decide +kernel
theorem gi_118 : ∀ q ∈ gc_118, gchkI gMT "GiftShopsModel" q = true := by decide +kernel
set_option maxRecDepth 100000 in
theorem gm_118 : gMOK gMT gro_118 := ⟨fun _ => List.mem_filter.mpr ⟨List.mem_append_right _ (List.mem_of_getElem? (i := 1108) (by rfl)), rfl⟩, List.mem_filter.mpr ⟨List.mem_append_right _ (List.mem_of_getElem? (i := 9) (by rfl)), rfl⟩, by decide, ⟨by decide, by decide⟩, gd_118, gh_118, gi_118, by decide⟩
theorem gd_119 : ∀ q ∈ gc_119, decode prog_12_method_31_code q.1 = .ok (q.2.1, q.2.2.1) := by decide +kernel
theorem gh_119 : ∀ q ∈ gc_119, gchk "GiftShopsModel" "base" q = true := by decide +kernel
theorem gi_119 : ∀ q ∈ gc_119, gchkI gMT "GiftShopsModel" q = true := by decide +kernel
set_option maxRecDepth 100000 in
theorem gm_119 : gMOK gMT gro_119 := ⟨fun _ => List.mem_filter.mpr ⟨List.mem_append_right _ (List.mem_of_getElem? (i := 1112) (by rfl)), rfl⟩, List.mem_filter.mpr ⟨List.mem_append_right _ (List.mem_of_getElem? (i := 9) (by rfl)), rfl⟩, by decide, ⟨by decide, by decide⟩, gd_119, gh_119, gi_119, by decide⟩
theorem gd_120 : ∀ q ∈ gc_120, decode prog_12_method_38_code q.1 = .ok (q.2.1, q.2.2.1) := by decide +kernel
theorem gh_120 : ∀ q ∈ gc_120, gchk "GiftShopsModel" "sort" q = true := by decide +kernel
theorem gi_120 : ∀ q ∈ gc_120, gchkI gMT "GiftShopsModel" q = true := by decide +kernel
set_option maxRecDepth 100000 in
theorem gm_120 : gMOK gMT gro_120 := ⟨fun _ => List.mem_filter.mpr ⟨List.mem_append_right _ (List.mem_of_getElem? (i := 1116) (by rfl)), rfl⟩, List.mem_filter.mpr ⟨List.mem_append_right _ (List.mem_of_getElem? (i := 9) (by rfl)), rfl⟩, by decide, ⟨by decide, by decide⟩, gd_120, gh_120, gi_120, by decide⟩
theorem gd_121 : ∀ q ∈ gc_121, decode prog_12_method_27_code q.1 = .ok (q.2.1, q.2.2.1) := by decide +kernel
theorem gh_121 : ∀ q ∈ gc_121, gchk "GiftShopsModel" "isThing" q = true := by decide +kernel
theorem gi_121 : ∀ q ∈ gc_121, gchkI gMT "GiftShopsModel" q = true := by decide +kernel
set_option maxRecDepth 100000 in
theorem gm_121 : gMOK gMT gro_121 := ⟨fun _ => List.mem_filter.mpr ⟨List.mem_append_right _ (List.mem_of_getElem? (i := 1120) (by rfl)), rfl⟩, List.mem_filter.mpr ⟨List.mem_append_right _ (List.mem_of_getElem? (i := 9) (by rfl)), rfl⟩, by decide, ⟨by decide, by decide⟩, gd_121, gh_121, gi_121, by decide⟩
theorem gd_122 : ∀ q ∈ gc_122, decode prog_12_method_37_code q.1 = .ok (q.2.1, q.2.2.1) := by decide +kernel
theorem gh_122 : ∀ q ∈ gc_122, gchk "GiftShopsModel" "sorts" q = true := by decide +kernel
theorem gi_122 : ∀ q ∈ gc_122, gchkI gMT "GiftShopsModel" q = true := by decide +kernel
set_option maxRecDepth 100000 in
theorem gm_122 : gMOK gMT gro_122 := ⟨fun _ => List.mem_filter.mpr ⟨List.mem_append_right _ (List.mem_of_getElem? (i := 1124) (by rfl)), rfl⟩, List.mem_filter.mpr ⟨List.mem_append_right _ (List.mem_of_getElem? (i := 9) (by rfl)), rfl⟩, by decide, ⟨by decide, by decide⟩, gd_122, gh_122, gi_122, by decide⟩
theorem gd_123 : ∀ q ∈ gc_123, decode prog_12_method_33_code q.1 = .ok (q.2.1, q.2.2.1) := by decide +kernel
theorem gh_123 : ∀ q ∈ gc_123, gchk "GiftShopsModel" "wayOf" q = true := by decide +kernel
theorem gi_123 : ∀ q ∈ gc_123, gchkI gMT "GiftShopsModel" q = true := by decide +kernel
set_option maxRecDepth 100000 in
theorem gm_123 : gMOK gMT gro_123 := ⟨fun _ => List.mem_filter.mpr ⟨List.mem_append_right _ (List.mem_of_getElem? (i := 1128) (by rfl)), rfl⟩, List.mem_filter.mpr ⟨List.mem_append_right _ (List.mem_of_getElem? (i := 9) (by rfl)), rfl⟩, by decide, ⟨by decide, by decide⟩, gd_123, gh_123, gi_123, by decide⟩
theorem gd_124 : ∀ q ∈ gc_124, decode prog_12_method_32_code q.1 = .ok (q.2.1, q.2.2.1) := by decide +kernel
theorem gh_124 : ∀ q ∈ gc_124, gchk "GiftShopsModel" "seasonNow" q = true := by decide +kernel
theorem gi_124 : ∀ q ∈ gc_124, gchkI gMT "GiftShopsModel" q = true := by decide +kernel
set_option maxRecDepth 100000 in
theorem gm_124 : gMOK gMT gro_124 := ⟨fun _ => List.mem_filter.mpr ⟨List.mem_append_right _ (List.mem_of_getElem? (i := 1132) (by rfl)), rfl⟩, List.mem_filter.mpr ⟨List.mem_append_right _ (List.mem_of_getElem? (i := 9) (by rfl)), rfl⟩, by decide, ⟨by decide, by decide⟩, gd_124, gh_124, gi_124, by decide⟩
theorem gd_125 : ∀ q ∈ gc_125, decode prog_12_method_24_code q.1 = .ok (q.2.1, q.2.2.1) := by decide +kernel
theorem gh_125 : ∀ q ∈ gc_125, gchk "GiftShopsModel" "valueOf" q = true := by decide +kernel
theorem gi_125 : ∀ q ∈ gc_125, gchkI gMT "GiftShopsModel" q = true := by decide +kernel
set_option maxRecDepth 100000 in
theorem gm_125 : gMOK gMT gro_125 := ⟨fun _ => List.mem_filter.mpr ⟨List.mem_append_right _ (List.mem_of_getElem? (i := 1136) (by rfl)), rfl⟩, List.mem_filter.mpr ⟨List.mem_append_right _ (List.mem_of_getElem? (i := 9) (by rfl)), rfl⟩, by decide, ⟨by decide, by decide⟩, gd_125, gh_125, gi_125, by decide⟩
theorem gd_126 : ∀ q ∈ gc_126, decode prog_12_method_35_code q.1 = .ok (q.2.1, q.2.2.1) := by decide +kernel
theorem gh_126 : ∀ q ∈ gc_126, gchk "GiftShopsModel" "hasRoom" q = true := by decide +kernel
theorem gi_126 : ∀ q ∈ gc_126, gchkI gMT "GiftShopsModel" q = true := by decide +kernel
set_option maxRecDepth 100000 in
theorem gm_126 : gMOK gMT gro_126 := ⟨fun _ => List.mem_filter.mpr ⟨List.mem_append_right _ (List.mem_of_getElem? (i := 1140) (by rfl)), rfl⟩, List.mem_filter.mpr ⟨List.mem_append_right _ (List.mem_of_getElem? (i := 9) (by rfl)), rfl⟩, by decide, ⟨by decide, by decide⟩, gd_126, gh_126, gi_126, by decide⟩
theorem gd_127 : ∀ q ∈ gc_127, decode prog_12_method_34_code q.1 = .ok (q.2.1, q.2.2.1) := by decide +kernel
theorem gh_127 : ∀ q ∈ gc_127, gchk "GiftShopsModel" "onShelf" q = true := by decide +kernel
theorem gi_127 : ∀ q ∈ gc_127, gchkI gMT "GiftShopsModel" q = true := by decide +kernel
set_option maxRecDepth 100000 in
theorem gm_127 : gMOK gMT gro_127 := ⟨fun _ => List.mem_filter.mpr ⟨List.mem_append_right _ (List.mem_of_getElem? (i := 1144) (by rfl)), rfl⟩, List.mem_filter.mpr ⟨List.mem_append_right _ (List.mem_of_getElem? (i := 9) (by rfl)), rfl⟩, by decide, ⟨by decide, by decide⟩, gd_127, gh_127, gi_127, by decide⟩
theorem gd_128 : ∀ q ∈ gc_128, decode prog_12_method_36_code q.1 = .ok (q.2.1, q.2.2.1) := by decide +kernel
theorem gh_128 : ∀ q ∈ gc_128, gchk "GiftShopsModel" "comesOn" q = true := by decide +kernel
theorem gi_128 : ∀ q ∈ gc_128, gchkI gMT "GiftShopsModel" q = true := by decide +kernel
set_option maxRecDepth 100000 in
theorem gm_128 : gMOK gMT gro_128 := ⟨fun _ => List.mem_filter.mpr ⟨List.mem_append_right _ (List.mem_of_getElem? (i := 1148) (by rfl)), rfl⟩, List.mem_filter.mpr ⟨List.mem_append_right _ (List.mem_of_getElem? (i := 9) (by rfl)), rfl⟩, by decide, ⟨by decide, by decide⟩, gd_128, gh_128, gi_128, by decide⟩
theorem gd_129 : ∀ q ∈ gc_129, decode prog_12_method_39_code q.1 = .ok (q.2.1, q.2.2.1) := by decide +kernel
theorem gh_129 : ∀ q ∈ gc_129, gchk "GiftShopsModel" "says" q = true := by decide +kernel
theorem gi_129 : ∀ q ∈ gc_129, gchkI gMT "GiftShopsModel" q = true := by decide +kernel
set_option maxRecDepth 100000 in
theorem gm_129 : gMOK gMT gro_129 := ⟨fun _ => List.mem_filter.mpr ⟨List.mem_append_right _ (List.mem_of_getElem? (i := 1152) (by rfl)), rfl⟩, List.mem_filter.mpr ⟨List.mem_append_right _ (List.mem_of_getElem? (i := 9) (by rfl)), rfl⟩, by decide, ⟨by decide, by decide⟩, gd_129, gh_129, gi_129, by decide⟩
