theorem gd_130 : ∀ q ∈ gc_130, decode prog_12_method_40_code q.1 = .ok (q.2.1, q.2.2.1) := by decide +kernel
theorem gh_130 : ∀ q ∈ gc_130, gchk "GiftShopsModel" "habit" q = true := by decide +kernel
theorem gi_130 : ∀ q ∈ gc_130, gchkI gMT "GiftShopsModel" q = true := by decide +kernel
set_option maxRecDepth 100000 in
theorem gm_130 : gMOK gMT gro_130 := ⟨fun _ => List.mem_filter.mpr ⟨List.mem_append_right _ (List.mem_of_getElem? (i := 1156) (by rfl)), rfl⟩, List.mem_filter.mpr ⟨List.mem_append_right _ (List.mem_of_getElem? (i := 9) (by rfl)), rfl⟩, by decide, ⟨by decide, by decide⟩, gd_130, gh_130, gi_130, by decide⟩
theorem gd_131 : ∀ q ∈ gc_131, decode prog_12_method_43_code q.1 = .ok (q.2.1, q.2.2.1) := by decide +kernel
theorem gh_131 : ∀ q ∈ gc_131, gchk "GiftShopsModel" "weeks" q = true := by decide +kernel
theorem gi_131 : ∀ q ∈ gc_131, gchkI gMT "GiftShopsModel" q = true := by decide +kernel
set_option maxRecDepth 100000 in
theorem gm_131 : gMOK gMT gro_131 := ⟨fun _ => List.mem_filter.mpr ⟨List.mem_append_right _ (List.mem_of_getElem? (i := 1160) (by rfl)), rfl⟩, List.mem_filter.mpr ⟨List.mem_append_right _ (List.mem_of_getElem? (i := 9) (by rfl)), rfl⟩, by decide, ⟨by decide, by decide⟩, gd_131, gh_131, gi_131, by decide⟩
theorem gd_132 : ∀ q ∈ gc_132, decode prog_12_method_41_code q.1 = .ok (q.2.1, q.2.2.1) := by decide +kernel
theorem gh_132 : ∀ q ∈ gc_132, gchk "GiftShopsModel" "week" q = true := by decide +kernel
theorem gi_132 : ∀ q ∈ gc_132, gchkI gMT "GiftShopsModel" q = true := by decide +kernel
set_option maxRecDepth 100000 in
theorem gm_132 : gMOK gMT gro_132 := ⟨fun _ => List.mem_filter.mpr ⟨List.mem_append_right _ (List.mem_of_getElem? (i := 1164) (by rfl)), rfl⟩, List.mem_filter.mpr ⟨List.mem_append_right _ (List.mem_of_getElem? (i := 9) (by rfl)), rfl⟩, by decide, ⟨by decide, by decide⟩, gd_132, gh_132, gi_132, by decide⟩
theorem gd_133 : ∀ q ∈ gc_133, decode prog_12_method_42_code q.1 = .ok (q.2.1, q.2.2.1) := by decide +kernel
theorem gh_133 : ∀ q ∈ gc_133, gchk "GiftShopsModel" "firstWithRoom" q = true := by decide +kernel
theorem gi_133 : ∀ q ∈ gc_133, gchkI gMT "GiftShopsModel" q = true := by decide +kernel
set_option maxRecDepth 100000 in
theorem gm_133 : gMOK gMT gro_133 := ⟨fun _ => List.mem_filter.mpr ⟨List.mem_append_right _ (List.mem_of_getElem? (i := 1168) (by rfl)), rfl⟩, List.mem_filter.mpr ⟨List.mem_append_right _ (List.mem_of_getElem? (i := 9) (by rfl)), rfl⟩, by decide, ⟨by decide, by decide⟩, gd_133, gh_133, gi_133, by decide⟩
theorem gd_134 : ∀ q ∈ gc_134, decode prog_12_method_45_code q.1 = .ok (q.2.1, q.2.2.1) := by decide +kernel
theorem gh_134 : ∀ q ∈ gc_134, gchk "GiftShopsModel" "price" q = true := by decide +kernel
theorem gi_134 : ∀ q ∈ gc_134, gchkI gMT "GiftShopsModel" q = true := by decide +kernel
set_option maxRecDepth 100000 in
theorem gm_134 : gMOK gMT gro_134 := ⟨fun _ => List.mem_filter.mpr ⟨List.mem_append_right _ (List.mem_of_getElem? (i := 1172) (by rfl)), rfl⟩, List.mem_filter.mpr ⟨List.mem_append_right _ (List.mem_of_getElem? (i := 9) (by rfl)), rfl⟩, by decide, ⟨by decide, by decide⟩, gd_134, gh_134, gi_134, by decide⟩
theorem gd_135 : ∀ q ∈ gc_135, decode prog_12_method_28_code q.1 = .ok (q.2.1, q.2.2.1) := by decide +kernel
theorem gh_135 : ∀ q ∈ gc_135, gchk "GiftShopsModel" "isOn" q = true := by decide +kernel
theorem gi_135 : ∀ q ∈ gc_135, gchkI gMT "GiftShopsModel" q = true := by decide +kernel
set_option maxRecDepth 100000 in
theorem gm_135 : gMOK gMT gro_135 := ⟨fun _ => List.mem_filter.mpr ⟨List.mem_append_right _ (List.mem_of_getElem? (i := 1176) (by rfl)), rfl⟩, List.mem_filter.mpr ⟨List.mem_append_right _ (List.mem_of_getElem? (i := 9) (by rfl)), rfl⟩, by decide, ⟨by decide, by decide⟩, gd_135, gh_135, gi_135, by decide⟩
theorem gd_136 : ∀ q ∈ gc_136, decode prog_12_method_44_code q.1 = .ok (q.2.1, q.2.2.1) := by decide +kernel
theorem gh_136 : ∀ q ∈ gc_136, gchk "GiftShopsModel" "priceOf" q = true := by decide +kernel
theorem gi_136 : ∀ q ∈ gc_136, gchkI gMT "GiftShopsModel" q = true := by decide +kernel
set_option maxRecDepth 100000 in
theorem gm_136 : gMOK gMT gro_136 := ⟨fun _ => List.mem_filter.mpr ⟨List.mem_append_right _ (List.mem_of_getElem? (i := 1180) (by rfl)), rfl⟩, List.mem_filter.mpr ⟨List.mem_append_right _ (List.mem_of_getElem? (i := 9) (by rfl)), rfl⟩, by decide, ⟨by decide, by decide⟩, gd_136, gh_136, gi_136, by decide⟩
theorem gd_137 : ∀ q ∈ gc_137, decode prog_12_method_46_code q.1 = .ok (q.2.1, q.2.2.1) := by decide +kernel
theorem gh_137 : ∀ q ∈ gc_137, gchk "GiftShopsModel" "sell" q = true := by decide +kernel
theorem gi_137 : ∀ q ∈ gc_137, gchkI gMT "GiftShopsModel" q = true := by decide +kernel
set_option maxRecDepth 100000 in
theorem gm_137 : gMOK gMT gro_137 := ⟨fun _ => List.mem_filter.mpr ⟨List.mem_append_right _ (List.mem_of_getElem? (i := 1184) (by rfl)), rfl⟩, List.mem_filter.mpr ⟨List.mem_append_right _ (List.mem_of_getElem? (i := 9) (by rfl)), rfl⟩, by decide, ⟨by decide, by decide⟩, gd_137, gh_137, gi_137, by decide⟩
theorem gd_138 : ∀ q ∈ gc_138, decode prog_12_method_47_code q.1 = .ok (q.2.1, q.2.2.1) := by decide +kernel
theorem gh_138 : ∀ q ∈ gc_138, gchk "GiftShopsModel" "undo" q = true := by decide +kernel
theorem gi_138 : ∀ q ∈ gc_138, gchkI gMT "GiftShopsModel" q = true := by decide +kernel
set_option maxRecDepth 100000 in
theorem gm_138 : gMOK gMT gro_138 := ⟨fun _ => List.mem_filter.mpr ⟨List.mem_append_right _ (List.mem_of_getElem? (i := 1188) (by rfl)), rfl⟩, List.mem_filter.mpr ⟨List.mem_append_right _ (List.mem_of_getElem? (i := 9) (by rfl)), rfl⟩, by decide, ⟨by decide, by decide⟩, gd_138, gh_138, gi_138, by decide⟩
theorem gd_139 : ∀ q ∈ gc_139, decode prog_12_method_48_code q.1 = .ok (q.2.1, q.2.2.1) := by decide +kernel
theorem gh_139 : ∀ q ∈ gc_139, gchk "GiftShopsModel" "lose" q = true := by decide +kernel
theorem gi_139 : ∀ q ∈ gc_139, gchkI gMT "GiftShopsModel" q = true := by decide +kernel
set_option maxRecDepth 100000 in
theorem gm_139 : gMOK gMT gro_139 := ⟨fun _ => List.mem_filter.mpr ⟨List.mem_append_right _ (List.mem_of_getElem? (i := 1192) (by rfl)), rfl⟩, List.mem_filter.mpr ⟨List.mem_append_right _ (List.mem_of_getElem? (i := 9) (by rfl)), rfl⟩, by decide, ⟨by decide, by decide⟩, gd_139, gh_139, gi_139, by decide⟩
theorem gd_140 : ∀ q ∈ gc_140, decode prog_12_method_49_code q.1 = .ok (q.2.1, q.2.2.1) := by decide +kernel
theorem gh_140 : ∀ q ∈ gc_140, gchk "GiftShopsModel" "thefts" q = true := by decide +kernel
theorem gi_140 : ∀ q ∈ gc_140, gchkI gMT "GiftShopsModel" q = true := by decide +kernel
set_option maxRecDepth 100000 in
theorem gm_140 : gMOK gMT gro_140 := ⟨fun _ => List.mem_filter.mpr ⟨List.mem_append_right _ (List.mem_of_getElem? (i := 1196) (by rfl)), rfl⟩, List.mem_filter.mpr ⟨List.mem_append_right _ (List.mem_of_getElem? (i := 9) (by rfl)), rfl⟩, by decide, ⟨by decide, by decide⟩, gd_140, gh_140, gi_140, by decide⟩
theorem gd_141 : ∀ q ∈ gc_141, decode prog_12_method_51_code q.1 = .ok (q.2.1, q.2.2.1) := by decide +kernel
theorem gh_141 : ∀ q ∈ gc_141, gchk "GiftShopsModel" "worth" q = true := by decide +kernel
theorem gi_141 : ∀ q ∈ gc_141, gchkI gMT "GiftShopsModel" q = true := by decide +kernel
set_option maxRecDepth 100000 in
theorem gm_141 : gMOK gMT gro_141 := ⟨fun _ => List.mem_filter.mpr ⟨List.mem_append_right _ (List.mem_of_getElem? (i := 1200) (by rfl)), rfl⟩, List.mem_filter.mpr ⟨List.mem_append_right _ (List.mem_of_getElem? (i := 9) (by rfl)), rfl⟩, by decide, ⟨by decide, by decide⟩, gd_141, gh_141, gi_141, by decide⟩
theorem gd_142 : ∀ q ∈ gc_142, decode prog_12_method_50_code q.1 = .ok (q.2.1, q.2.2.1) := by decide +kernel
theorem gh_142 : ∀ q ∈ gc_142, gchk "GiftShopsModel" "weighs" q = true := by decide +kernel
theorem gi_142 : ∀ q ∈ gc_142, gchkI gMT "GiftShopsModel" q = true := by decide +kernel
set_option maxRecDepth 100000 in
theorem gm_142 : gMOK gMT gro_142 := ⟨fun _ => List.mem_filter.mpr ⟨List.mem_append_right _ (List.mem_of_getElem? (i := 1204) (by rfl)), rfl⟩, List.mem_filter.mpr ⟨List.mem_append_right _ (List.mem_of_getElem? (i := 9) (by rfl)), rfl⟩, by decide, ⟨by decide, by decide⟩, gd_142, gh_142, gi_142, by decide⟩
theorem gd_143 : ∀ q ∈ gc_143, decode prog_12_method_53_code q.1 = .ok (q.2.1, q.2.2.1) := by decide +kernel
theorem gh_143 : ∀ q ∈ gc_143, gchk "GiftShopsModel" "where" q = true := by decide +kernel
theorem gi_143 : ∀ q ∈ gc_143, gchkI gMT "GiftShopsModel" q = true := by decide +kernel
set_option maxRecDepth 100000 in
theorem gm_143 : gMOK gMT gro_143 := ⟨fun _ => List.mem_filter.mpr ⟨List.mem_append_right _ (List.mem_of_getElem? (i := 1208) (by rfl)), rfl⟩, List.mem_filter.mpr ⟨List.mem_append_right _ (List.mem_of_getElem? (i := 9) (by rfl)), rfl⟩, by decide, ⟨by decide, by decide⟩, gd_143, gh_143, gi_143, by decide⟩
theorem gd_144 : ∀ q ∈ gc_144, decode prog_12_method_52_code q.1 = .ok (q.2.1, q.2.2.1) := by decide +kernel
theorem gh_144 : ∀ q ∈ gc_144, gchk "GiftShopsModel" "whereTo" q = true := by decide +kernel
theorem gi_144 : ∀ q ∈ gc_144, gchkI gMT "GiftShopsModel" q = true := by decide +kernel
set_option maxRecDepth 100000 in
theorem gm_144 : gMOK gMT gro_144 := ⟨fun _ => List.mem_filter.mpr ⟨List.mem_append_right _ (List.mem_of_getElem? (i := 1212) (by rfl)), rfl⟩, List.mem_filter.mpr ⟨List.mem_append_right _ (List.mem_of_getElem? (i := 9) (by rfl)), rfl⟩, by decide, ⟨by decide, by decide⟩, gd_144, gh_144, gi_144, by decide⟩
theorem gd_145 : ∀ q ∈ gc_145, decode prog_12_method_54_code q.1 = .ok (q.2.1, q.2.2.1) := by decide +kernel
theorem gh_145 : ∀ q ∈ gc_145, gchk "GiftShopsModel" "move" q = true := by decide +kernel
theorem gi_145 : ∀ q ∈ gc_145, gchkI gMT "GiftShopsModel" q = true := by decide +kernel
set_option maxRecDepth 100000 in
theorem gm_145 : gMOK gMT gro_145 := ⟨fun _ => List.mem_filter.mpr ⟨List.mem_append_right _ (List.mem_of_getElem? (i := 1216) (by rfl)), rfl⟩, List.mem_filter.mpr ⟨List.mem_append_right _ (List.mem_of_getElem? (i := 9) (by rfl)), rfl⟩, by decide, ⟨by decide, by decide⟩, gd_145, gh_145, gi_145, by decide⟩
theorem gd_146 : ∀ q ∈ gc_146, decode prog_12_method_55_code q.1 = .ok (q.2.1, q.2.2.1) := by decide +kernel
theorem gh_146 : ∀ q ∈ gc_146, gchk "GiftShopsModel" "van" q = true := by decide +kernel
theorem gi_146 : ∀ q ∈ gc_146, gchkI gMT "GiftShopsModel" q = true := by decide +kernel
set_option maxRecDepth 100000 in
theorem gm_146 : gMOK gMT gro_146 := ⟨fun _ => List.mem_filter.mpr ⟨List.mem_append_right _ (List.mem_of_getElem? (i := 1220) (by rfl)), rfl⟩, List.mem_filter.mpr ⟨List.mem_append_right _ (List.mem_of_getElem? (i := 9) (by rfl)), rfl⟩, by decide, ⟨by decide, by decide⟩, gd_146, gh_146, gi_146, by decide⟩
theorem gd_147 : ∀ q ∈ gc_147, decode prog_12_method_56_code q.1 = .ok (q.2.1, q.2.2.1) := by decide +kernel
theorem gh_147 : ∀ q ∈ gc_147, gchk "GiftShopsModel" "way" q = true := by decide +kernel
theorem gi_147 : ∀ q ∈ gc_147, gchkI gMT "GiftShopsModel" q = true := by decide +kernel
set_option maxRecDepth 100000 in
theorem gm_147 : gMOK gMT gro_147 := ⟨fun _ => List.mem_filter.mpr ⟨List.mem_append_right _ (List.mem_of_getElem? (i := 1224) (by rfl)), rfl⟩, List.mem_filter.mpr ⟨List.mem_append_right _ (List.mem_of_getElem? (i := 9) (by rfl)), rfl⟩, by decide, ⟨by decide, by decide⟩, gd_147, gh_147, gi_147, by decide⟩
theorem gd_148 : ∀ q ∈ gc_148, decode prog_12_method_58_code q.1 = .ok (q.2.1, q.2.2.1) := by decide +kernel
theorem gh_148 : ∀ q ∈ gc_148, gchk "GiftShopsModel" "round" q = true := by decide +kernel
theorem gi_148 : ∀ q ∈ gc_148, gchkI gMT "GiftShopsModel" q = true := by decide +kernel
set_option maxRecDepth 100000 in
theorem gm_148 : gMOK gMT gro_148 := ⟨fun _ => List.mem_filter.mpr ⟨List.mem_append_right _ (List.mem_of_getElem? (i := 1228) (by rfl)), rfl⟩, List.mem_filter.mpr ⟨List.mem_append_right _ (List.mem_of_getElem? (i := 9) (by rfl)), rfl⟩, by decide, ⟨by decide, by decide⟩, gd_148, gh_148, gi_148, by decide⟩
theorem gd_149 : ∀ q ∈ gc_149, decode prog_12_method_57_code q.1 = .ok (q.2.1, q.2.2.1) := by decide +kernel
theorem gh_149 : ∀ q ∈ gc_149, gchk "GiftShopsModel" "goes" q = true := by decide +kernel
theorem gi_149 : ∀ q ∈ gc_149, gchkI gMT "GiftShopsModel" q = true := by decide +kernel
set_option maxRecDepth 100000 in
theorem gm_149 : gMOK gMT gro_149 := ⟨fun _ => List.mem_filter.mpr ⟨List.mem_append_right _ (List.mem_of_getElem? (i := 1232) (by rfl)), rfl⟩, List.mem_filter.mpr ⟨List.mem_append_right _ (List.mem_of_getElem? (i := 9) (by rfl)), rfl⟩, by decide, ⟨by decide, by decide⟩, gd_149, gh_149, gi_149, by decide⟩
theorem gd_150 : ∀ q ∈ gc_150, decode prog_12_method_59_code q.1 = .ok (q.2.1, q.2.2.1) := by decide +kernel
theorem gh_150 : ∀ q ∈ gc_150, gchk "GiftShopsModel" "helper" q = true := by decide +kernel
theorem gi_150 : ∀ q ∈ gc_150, gchkI gMT "GiftShopsModel" q = true := by decide +kernel
set_option maxRecDepth 100000 in
theorem gm_150 : gMOK gMT gro_150 := ⟨fun _ => List.mem_filter.mpr ⟨List.mem_append_right _ (List.mem_of_getElem? (i := 1236) (by rfl)), rfl⟩, List.mem_filter.mpr ⟨List.mem_append_right _ (List.mem_of_getElem? (i := 9) (by rfl)), rfl⟩, by decide, ⟨by decide, by decide⟩, gd_150, gh_150, gi_150, by decide⟩
theorem gd_151 : ∀ q ∈ gc_151, decode prog_12_method_64_code q.1 = .ok (q.2.1, q.2.2.1) := by decide +kernel
theorem gh_151 : ∀ q ∈ gc_151, gchk "GiftShopsModel" "least" q = true := by decide +kernel
theorem gi_151 : ∀ q ∈ gc_151, gchkI gMT "GiftShopsModel" q = true := by decide +kernel
set_option maxRecDepth 100000 in
theorem gm_151 : gMOK gMT gro_151 := ⟨fun _ => List.mem_filter.mpr ⟨List.mem_append_right _ (List.mem_of_getElem? (i := 1240) (by rfl)), rfl⟩, List.mem_filter.mpr ⟨List.mem_append_right _ (List.mem_of_getElem? (i := 9) (by rfl)), rfl⟩, by decide, ⟨by decide, by decide⟩, gd_151, gh_151, gi_151, by decide⟩
theorem gd_152 : ∀ q ∈ gc_152, decode prog_12_method_63_code q.1 = .ok (q.2.1, q.2.2.1) := by decide +kernel
theorem gh_152 : ∀ q ∈ gc_152, gchk "GiftShopsModel" "canBe" q = true := by decide +kernel
theorem gi_152 : ∀ q ∈ gc_152, gchkI gMT "GiftShopsModel" q = true := by decide +kernel
set_option maxRecDepth 100000 in
theorem gm_152 : gMOK gMT gro_152 := ⟨fun _ => List.mem_filter.mpr ⟨List.mem_append_right _ (List.mem_of_getElem? (i := 1244) (by rfl)), rfl⟩, List.mem_filter.mpr ⟨List.mem_append_right _ (List.mem_of_getElem? (i := 9) (by rfl)), rfl⟩, by decide, ⟨by decide, by decide⟩, gd_152, gh_152, gi_152, by decide⟩
theorem gd_153 : ∀ q ∈ gc_153, decode prog_12_method_61_code q.1 = .ok (q.2.1, q.2.2.1) := by decide +kernel
theorem gh_153 : ∀ q ∈ gc_153, gchk "GiftShopsModel" "finds" q = true := by decide +kernel
theorem gi_153 : ∀ q ∈ gc_153, gchkI gMT "GiftShopsModel" q = true := by decide +kernel
set_option maxRecDepth 100000 in
theorem gm_153 : gMOK gMT gro_153 := ⟨fun _ => List.mem_filter.mpr ⟨List.mem_append_right _ (List.mem_of_getElem? (i := 1248) (by rfl)), rfl⟩, List.mem_filter.mpr ⟨List.mem_append_right _ (List.mem_of_getElem? (i := 9) (by rfl)), rfl⟩, by decide, ⟨by decide, by decide⟩, gd_153, gh_153, gi_153, by decide⟩
theorem gd_154 : ∀ q ∈ gc_154, decode prog_12_method_60_code q.1 = .ok (q.2.1, q.2.2.1) := by decide +kernel
theorem gh_154 : ∀ q ∈ gc_154, gchk "GiftShopsModel" "loadOf" q = true := by decide +kernel
theorem gi_154 : ∀ q ∈ gc_154, gchkI gMT "GiftShopsModel" q = true := by decide +kernel
set_option maxRecDepth 100000 in
theorem gm_154 : gMOK gMT gro_154 := ⟨fun _ => List.mem_filter.mpr ⟨List.mem_append_right _ (List.mem_of_getElem? (i := 1252) (by rfl)), rfl⟩, List.mem_filter.mpr ⟨List.mem_append_right _ (List.mem_of_getElem? (i := 9) (by rfl)), rfl⟩, by decide, ⟨by decide, by decide⟩, gd_154, gh_154, gi_154, by decide⟩
theorem gd_155 : ∀ q ∈ gc_155, decode prog_12_method_62_code q.1 = .ok (q.2.1, q.2.2.1) := by decide +kernel
theorem gh_155 : ∀ q ∈ gc_155, gchk "GiftShopsModel" "givesWay" q = true := by decide +kernel
theorem gi_155 : ∀ q ∈ gc_155, gchkI gMT "GiftShopsModel" q = true := by decide +kernel
set_option maxRecDepth 100000 in
theorem gm_155 : gMOK gMT gro_155 := ⟨fun _ => List.mem_filter.mpr ⟨List.mem_append_right _ (List.mem_of_getElem? (i := 1256) (by rfl)), rfl⟩, List.mem_filter.mpr ⟨List.mem_append_right _ (List.mem_of_getElem? (i := 9) (by rfl)), rfl⟩, by decide, ⟨by decide, by decide⟩, gd_155, gh_155, gi_155, by decide⟩
theorem gd_156 : ∀ q ∈ gc_156, decode prog_12_method_65_code q.1 = .ok (q.2.1, q.2.2.1) := by decide +kernel
theorem gh_156 : ∀ q ∈ gc_156, gchk "GiftShopsModel" "rate" q = true := by decide +kernel
theorem gi_156 : ∀ q ∈ gc_156, gchkI gMT "GiftShopsModel" q = true := by decide +kernel
set_option maxRecDepth 100000 in
theorem gm_156 : gMOK gMT gro_156 := ⟨fun _ => List.mem_filter.mpr ⟨List.mem_append_right _ (List.mem_of_getElem? (i := 1260) (by rfl)), rfl⟩, List.mem_filter.mpr ⟨List.mem_append_right _ (List.mem_of_getElem? (i := 9) (by rfl)), rfl⟩, by decide, ⟨by decide, by decide⟩, gd_156, gh_156, gi_156, by decide⟩
theorem gd_157 : ∀ q ∈ gc_157, decode prog_12_method_66_code q.1 = .ok (q.2.1, q.2.2.1) := by decide +kernel
theorem gh_157 : ∀ q ∈ gc_157, gchk "GiftShopsModel" "relief" q = true := by decide +kernel
theorem gi_157 : ∀ q ∈ gc_157, gchkI gMT "GiftShopsModel" q = true := by decide +kernel
set_option maxRecDepth 100000 in
theorem gm_157 : gMOK gMT gro_157 := ⟨fun _ => List.mem_filter.mpr ⟨List.mem_append_right _ (List.mem_of_getElem? (i := 1264) (by rfl)), rfl⟩, List.mem_filter.mpr ⟨List.mem_append_right _ (List.mem_of_getElem? (i := 9) (by rfl)), rfl⟩, by decide, ⟨by decide, by decide⟩, gd_157, gh_157, gi_157, by decide⟩
theorem gd_158 : ∀ q ∈ gc_158, decode prog_12_method_67_code q.1 = .ok (q.2.1, q.2.2.1) := by decide +kernel
theorem gh_158 : ∀ q ∈ gc_158, gchk "GiftShopsModel" "look" q = true := by decide +kernel
theorem gi_158 : ∀ q ∈ gc_158, gchkI gMT "GiftShopsModel" q = true := by decide +kernel
set_option maxRecDepth 100000 in
theorem gm_158 : gMOK gMT gro_158 := ⟨fun _ => List.mem_filter.mpr ⟨List.mem_append_right _ (List.mem_of_getElem? (i := 1268) (by rfl)), rfl⟩, List.mem_filter.mpr ⟨List.mem_append_right _ (List.mem_of_getElem? (i := 9) (by rfl)), rfl⟩, by decide, ⟨by decide, by decide⟩, gd_158, gh_158, gi_158, by decide⟩
theorem gd_159 : ∀ q ∈ gc_159, decode prog_12_method_69_code q.1 = .ok (q.2.1, q.2.2.1) := by decide +kernel
theorem gh_159 : ∀ q ∈ gc_159, gchk "GiftShopsModel" "count" q = true := by decide +kernel
theorem gi_159 : ∀ q ∈ gc_159, gchkI gMT "GiftShopsModel" q = true := by decide +kernel
set_option maxRecDepth 100000 in
theorem gm_159 : gMOK gMT gro_159 := ⟨fun _ => List.mem_filter.mpr ⟨List.mem_append_right _ (List.mem_of_getElem? (i := 1272) (by rfl)), rfl⟩, List.mem_filter.mpr ⟨List.mem_append_right _ (List.mem_of_getElem? (i := 9) (by rfl)), rfl⟩, by decide, ⟨by decide, by decide⟩, gd_159, gh_159, gi_159, by decide⟩
theorem gd_160 : ∀ q ∈ gc_160, decode prog_12_method_68_code q.1 = .ok (q.2.1, q.2.2.1) := by decide +kernel
theorem gh_160 : ∀ q ∈ gc_160, gchk "GiftShopsModel" "thingsThat" q = true := by decide +kernel
theorem gi_160 : ∀ q ∈ gc_160, gchkI gMT "GiftShopsModel" q = true := by decide +kernel
set_option maxRecDepth 100000 in
theorem gm_160 : gMOK gMT gro_160 := ⟨fun _ => List.mem_filter.mpr ⟨List.mem_append_right _ (List.mem_of_getElem? (i := 1276) (by rfl)), rfl⟩, List.mem_filter.mpr ⟨List.mem_append_right _ (List.mem_of_getElem? (i := 9) (by rfl)), rfl⟩, by decide, ⟨by decide, by decide⟩, gd_160, gh_160, gi_160, by decide⟩
theorem gd_161 : ∀ q ∈ gc_161, decode prog_15_method_49_code q.1 = .ok (q.2.1, q.2.2.1) := by decide +kernel
theorem gh_161 : ∀ q ∈ gc_161, gchk "java/lang/Integer" "bitCount" q = true := by decide +kernel
theorem gi_161 : ∀ q ∈ gc_161, gchkI gMT "java/lang/Integer" q = true := by decide +kernel
set_option maxRecDepth 100000 in
theorem gm_161 : gMOK gMT gro_161 := ⟨fun _ => List.mem_filter.mpr ⟨List.mem_append_right _ (List.mem_of_getElem? (i := 720) (by rfl)), rfl⟩, List.mem_filter.mpr ⟨List.mem_append_right _ (List.mem_of_getElem? (i := 18) (by rfl)), rfl⟩, by decide, ⟨by decide, by decide⟩, gd_161, gh_161, gi_161, by decide⟩
