theorem gd_45 : ∀ q ∈ gc_45, decode prog_7_method_2_code q.1 = .ok (q.2.1, q.2.2.1) := by decide +kernel
theorem gh_45 : ∀ q ∈ gc_45, gchk "GiftShops$Shop" "hasRoom" q = true := by decide +kernel
theorem gi_45 : ∀ q ∈ gc_45, gchkI gMT "GiftShops$Shop" q = true := by decide +kernel
set_option maxRecDepth 100000 in
theorem gm_45 : gMOK gMT gro_45 := ⟨fun _ => List.mem_filter.mpr ⟨List.mem_append_right _ (List.mem_of_getElem? (i := 534) (by rfl)), rfl⟩, List.mem_filter.mpr ⟨List.mem_append_right _ (List.mem_of_getElem? (i := 2) (by rfl)), rfl⟩, by decide, ⟨by decide, by decide⟩, gd_45, gh_45, gi_45, by decide⟩
theorem gd_46 : ∀ q ∈ gc_46, decode prog_1_method_33_code q.1 = .ok (q.2.1, q.2.2.1) := by decide +kernel
theorem gh_46 : ∀ q ∈ gc_46, gchk "GiftShops" "comeOnShelf" q = true := by decide +kernel
theorem gi_46 : ∀ q ∈ gc_46, gchkI gMT "GiftShops" q = true := by decide +kernel
set_option maxRecDepth 100000 in
theorem gm_46 : gMOK gMT gro_46 := ⟨fun _ => List.mem_filter.mpr ⟨List.mem_append_right _ (List.mem_of_getElem? (i := 538) (by rfl)), rfl⟩, List.mem_filter.mpr ⟨List.mem_append_right _ (List.mem_of_getElem? (i := 1) (by rfl)), rfl⟩, by decide, ⟨by decide, by decide⟩, gd_46, gh_46, gi_46, by decide⟩
theorem gd_47 : ∀ q ∈ gc_47, decode prog_1_method_8_code q.1 = .ok (q.2.1, q.2.2.1) := by decide +kernel
theorem gh_47 : ∀ q ∈ gc_47, gchk "GiftShops" "says" q = true := by decide +kernel
theorem gi_47 : ∀ q ∈ gc_47, gchkI gMT "GiftShops" q = true := by decide +kernel
set_option maxRecDepth 100000 in
theorem gm_47 : gMOK gMT gro_47 := ⟨fun _ => List.mem_filter.mpr ⟨List.mem_append_right _ (List.mem_of_getElem? (i := 542) (by rfl)), rfl⟩, List.mem_filter.mpr ⟨List.mem_append_right _ (List.mem_of_getElem? (i := 1) (by rfl)), rfl⟩, by decide, ⟨by decide, by decide⟩, gd_47, gh_47, gi_47, by decide⟩
theorem gd_48 : ∀ q ∈ gc_48, decode prog_1_method_9_code q.1 = .ok (q.2.1, q.2.2.1) := by decide +kernel
theorem gh_48 : ∀ q ∈ gc_48, gchk "GiftShops" "habit" q = true := by decide +kernel
theorem gi_48 : ∀ q ∈ gc_48, gchkI gMT "GiftShops" q = true := by decide +kernel
set_option maxRecDepth 100000 in
theorem gm_48 : gMOK gMT gro_48 := ⟨fun _ => List.mem_filter.mpr ⟨List.mem_append_right _ (List.mem_of_getElem? (i := 546) (by rfl)), rfl⟩, List.mem_filter.mpr ⟨List.mem_append_right _ (List.mem_of_getElem? (i := 1) (by rfl)), rfl⟩, by decide, ⟨by decide, by decide⟩, gd_48, gh_48, gi_48, by decide⟩
theorem gd_49 : ∀ q ∈ gc_49, decode prog_1_method_10_code q.1 = .ok (q.2.1, q.2.2.1) := by decide +kernel
theorem gh_49 : ∀ q ∈ gc_49, gchk "GiftShops" "weeks" q = true := by decide +kernel
theorem gi_49 : ∀ q ∈ gc_49, gchkI gMT "GiftShops" q = true := by decide +kernel
set_option maxRecDepth 100000 in
theorem gm_49 : gMOK gMT gro_49 := ⟨fun _ => List.mem_filter.mpr ⟨List.mem_append_right _ (List.mem_of_getElem? (i := 551) (by rfl)), rfl⟩, List.mem_filter.mpr ⟨List.mem_append_right _ (List.mem_of_getElem? (i := 1) (by rfl)), rfl⟩, by decide, ⟨by decide, by decide⟩, gd_49, gh_49, gi_49, by decide⟩
theorem gd_50 : ∀ q ∈ gc_50, decode prog_1_method_35_code q.1 = .ok (q.2.1, q.2.2.1) := by decide +kernel
theorem gh_50 : ∀ q ∈ gc_50, gchk "GiftShops" "endWeek" q = true := by decide +kernel
theorem gi_50 : ∀ q ∈ gc_50, gchkI gMT "GiftShops" q = true := by decide +kernel
set_option maxRecDepth 100000 in
theorem gm_50 : gMOK gMT gro_50 := ⟨fun _ => List.mem_filter.mpr ⟨List.mem_append_right _ (List.mem_of_getElem? (i := 555) (by rfl)), rfl⟩, List.mem_filter.mpr ⟨List.mem_append_right _ (List.mem_of_getElem? (i := 1) (by rfl)), rfl⟩, by decide, ⟨by decide, by decide⟩, gd_50, gh_50, gi_50, by decide⟩
theorem gd_51 : ∀ q ∈ gc_51, decode prog_1_method_36_code q.1 = .ok (q.2.1, q.2.2.1) := by decide +kernel
theorem gh_51 : ∀ q ∈ gc_51, gchk "GiftShops" "endWeekOnShelf" q = true := by decide +kernel
theorem gi_51 : ∀ q ∈ gc_51, gchkI gMT "GiftShops" q = true := by decide +kernel
set_option maxRecDepth 100000 in
theorem gm_51 : gMOK gMT gro_51 := ⟨fun _ => List.mem_filter.mpr ⟨List.mem_append_right _ (List.mem_of_getElem? (i := 559) (by rfl)), rfl⟩, List.mem_filter.mpr ⟨List.mem_append_right _ (List.mem_of_getElem? (i := 1) (by rfl)), rfl⟩, by decide, ⟨by decide, by decide⟩, gd_51, gh_51, gi_51, by decide⟩
theorem gd_52 : ∀ q ∈ gc_52, decode prog_1_method_34_code q.1 = .ok (q.2.1, q.2.2.1) := by decide +kernel
theorem gh_52 : ∀ q ∈ gc_52, gchk "GiftShops" "leaveShelf" q = true := by decide +kernel
theorem gi_52 : ∀ q ∈ gc_52, gchkI gMT "GiftShops" q = true := by decide +kernel
set_option maxRecDepth 100000 in
theorem gm_52 : gMOK gMT gro_52 := ⟨fun _ => List.mem_filter.mpr ⟨List.mem_append_right _ (List.mem_of_getElem? (i := 563) (by rfl)), rfl⟩, List.mem_filter.mpr ⟨List.mem_append_right _ (List.mem_of_getElem? (i := 1) (by rfl)), rfl⟩, by decide, ⟨by decide, by decide⟩, gd_52, gh_52, gi_52, by decide⟩
theorem gd_53 : ∀ q ∈ gc_53, decode prog_1_method_37_code q.1 = .ok (q.2.1, q.2.2.1) := by decide +kernel
theorem gh_53 : ∀ q ∈ gc_53, gchk "GiftShops" "beginSeason" q = true := by decide +kernel
theorem gi_53 : ∀ q ∈ gc_53, gchkI gMT "GiftShops" q = true := by decide +kernel
set_option maxRecDepth 100000 in
theorem gm_53 : gMOK gMT gro_53 := ⟨fun _ => List.mem_filter.mpr ⟨List.mem_append_right _ (List.mem_of_getElem? (i := 567) (by rfl)), rfl⟩, List.mem_filter.mpr ⟨List.mem_append_right _ (List.mem_of_getElem? (i := 1) (by rfl)), rfl⟩, by decide, ⟨by decide, by decide⟩, gd_53, gh_53, gi_53, by decide⟩
theorem gd_54 : ∀ q ∈ gc_54, decode prog_1_method_38_code q.1 = .ok (q.2.1, q.2.2.1) := by decide +kernel
theorem gh_54 : ∀ q ∈ gc_54, gchk "GiftShops" "firstShopWithRoom" q = true := by decide +kernel
theorem gi_54 : ∀ q ∈ gc_54, gchkI gMT "GiftShops" q = true := by decide +kernel
set_option maxRecDepth 100000 in
theorem gm_54 : gMOK gMT gro_54 := ⟨fun _ => List.mem_filter.mpr ⟨List.mem_append_right _ (List.mem_of_getElem? (i := 571) (by rfl)), rfl⟩, List.mem_filter.mpr ⟨List.mem_append_right _ (List.mem_of_getElem? (i := 1) (by rfl)), rfl⟩, by decide, ⟨by decide, by decide⟩, gd_54, gh_54, gi_54, by decide⟩
theorem gd_55 : ∀ q ∈ gc_55, decode prog_1_method_11_code q.1 = .ok (q.2.1, q.2.2.1) := by decide +kernel
theorem gh_55 : ∀ q ∈ gc_55, gchk "GiftShops" "price" q = true := by decide +kernel
theorem gi_55 : ∀ q ∈ gc_55, gchkI gMT "GiftShops" q = true := by decide +kernel
set_option maxRecDepth 100000 in
theorem gm_55 : gMOK gMT gro_55 := ⟨fun _ => List.mem_filter.mpr ⟨List.mem_append_right _ (List.mem_of_getElem? (i := 575) (by rfl)), rfl⟩, List.mem_filter.mpr ⟨List.mem_append_right _ (List.mem_of_getElem? (i := 1) (by rfl)), rfl⟩, by decide, ⟨by decide, by decide⟩, gd_55, gh_55, gi_55, by decide⟩
theorem gd_56 : ∀ q ∈ gc_56, decode prog_1_method_29_code q.1 = .ok (q.2.1, q.2.2.1) := by decide +kernel
theorem gh_56 : ∀ q ∈ gc_56, gchk "GiftShops" "liesOnShelf" q = true := by decide +kernel
theorem gi_56 : ∀ q ∈ gc_56, gchkI gMT "GiftShops" q = true := by decide +kernel
set_option maxRecDepth 100000 in
theorem gm_56 : gMOK gMT gro_56 := ⟨fun _ => List.mem_filter.mpr ⟨List.mem_append_right _ (List.mem_of_getElem? (i := 579) (by rfl)), rfl⟩, List.mem_filter.mpr ⟨List.mem_append_right _ (List.mem_of_getElem? (i := 1) (by rfl)), rfl⟩, by decide, ⟨by decide, by decide⟩, gd_56, gh_56, gi_56, by decide⟩
theorem gd_57 : ∀ q ∈ gc_57, decode prog_1_method_39_code q.1 = .ok (q.2.1, q.2.2.1) := by decide +kernel
theorem gh_57 : ∀ q ∈ gc_57, gchk "GiftShops" "priceNow" q = true := by decide +kernel
theorem gi_57 : ∀ q ∈ gc_57, gchkI gMT "GiftShops" q = true := by decide +kernel
set_option maxRecDepth 100000 in
theorem gm_57 : gMOK gMT gro_57 := ⟨fun _ => List.mem_filter.mpr ⟨List.mem_append_right _ (List.mem_of_getElem? (i := 583) (by rfl)), rfl⟩, List.mem_filter.mpr ⟨List.mem_append_right _ (List.mem_of_getElem? (i := 1) (by rfl)), rfl⟩, by decide, ⟨by decide, by decide⟩, gd_57, gh_57, gi_57, by decide⟩
theorem gd_58 : ∀ q ∈ gc_58, decode prog_1_method_12_code q.1 = .ok (q.2.1, q.2.2.1) := by decide +kernel
theorem gh_58 : ∀ q ∈ gc_58, gchk "GiftShops" "sell" q = true := by decide +kernel
theorem gi_58 : ∀ q ∈ gc_58, gchkI gMT "GiftShops" q = true := by decide +kernel
set_option maxRecDepth 100000 in
theorem gm_58 : gMOK gMT gro_58 := ⟨fun _ => List.mem_filter.mpr ⟨List.mem_append_right _ (List.mem_of_getElem? (i := 588) (by rfl)), rfl⟩, List.mem_filter.mpr ⟨List.mem_append_right _ (List.mem_of_getElem? (i := 1) (by rfl)), rfl⟩, by decide, ⟨by decide, by decide⟩, gd_58, gh_58, gi_58, by decide⟩
theorem gd_59 : ∀ q ∈ gc_59, decode prog_5_method_1_code q.1 = .ok (q.2.1, q.2.2.1) := by decide +kernel
theorem gh_59 : ∀ q ∈ gc_59, gchk "GiftShops$Sale" "<init>" q = true := by decide +kernel
theorem gi_59 : ∀ q ∈ gc_59, gchkI gMT "GiftShops$Sale" q = true := by decide +kernel
set_option maxRecDepth 100000 in
theorem gm_59 : gMOK gMT gro_59 := ⟨fun _ => List.mem_filter.mpr ⟨List.mem_append_right _ (List.mem_of_getElem? (i := 592) (by rfl)), rfl⟩, List.mem_filter.mpr ⟨List.mem_append_right _ (List.mem_of_getElem? (i := 17) (by rfl)), rfl⟩, by decide, ⟨by decide, by decide⟩, gd_59, gh_59, gi_59, by decide⟩
theorem gd_60 : ∀ q ∈ gc_60, decode prog_1_method_13_code q.1 = .ok (q.2.1, q.2.2.1) := by decide +kernel
theorem gh_60 : ∀ q ∈ gc_60, gchk "GiftShops" "undo" q = true := by decide +kernel
theorem gi_60 : ∀ q ∈ gc_60, gchkI gMT "GiftShops" q = true := by decide +kernel
set_option maxRecDepth 100000 in
theorem gm_60 : gMOK gMT gro_60 := ⟨fun _ => List.mem_filter.mpr ⟨List.mem_append_right _ (List.mem_of_getElem? (i := 621) (by rfl)), rfl⟩, List.mem_filter.mpr ⟨List.mem_append_right _ (List.mem_of_getElem? (i := 1) (by rfl)), rfl⟩, by decide, ⟨by decide, by decide⟩, gd_60, gh_60, gi_60, by decide⟩
theorem gd_61 : ∀ q ∈ gc_61, decode prog_1_method_14_code q.1 = .ok (q.2.1, q.2.2.1) := by decide +kernel
theorem gh_61 : ∀ q ∈ gc_61, gchk "GiftShops" "lose" q = true := by decide +kernel
theorem gi_61 : ∀ q ∈ gc_61, gchkI gMT "GiftShops" q = true := by decide +kernel
set_option maxRecDepth 100000 in
theorem gm_61 : gMOK gMT gro_61 := ⟨fun _ => List.mem_filter.mpr ⟨List.mem_append_right _ (List.mem_of_getElem? (i := 625) (by rfl)), rfl⟩, List.mem_filter.mpr ⟨List.mem_append_right _ (List.mem_of_getElem? (i := 1) (by rfl)), rfl⟩, by decide, ⟨by decide, by decide⟩, gd_61, gh_61, gi_61, by decide⟩
theorem gd_62 : ∀ q ∈ gc_62, decode prog_1_method_15_code q.1 = .ok (q.2.1, q.2.2.1) := by decide +kernel
theorem gh_62 : ∀ q ∈ gc_62, gchk "GiftShops" "thefts" q = true := by decide +kernel
theorem gi_62 : ∀ q ∈ gc_62, gchkI gMT "GiftShops" q = true := by decide +kernel
set_option maxRecDepth 100000 in
theorem gm_62 : gMOK gMT gro_62 := ⟨fun _ => List.mem_filter.mpr ⟨List.mem_append_right _ (List.mem_of_getElem? (i := 629) (by rfl)), rfl⟩, List.mem_filter.mpr ⟨List.mem_append_right _ (List.mem_of_getElem? (i := 1) (by rfl)), rfl⟩, by decide, ⟨by decide, by decide⟩, gd_62, gh_62, gi_62, by decide⟩
theorem gd_63 : ∀ q ∈ gc_63, decode prog_1_method_16_code q.1 = .ok (q.2.1, q.2.2.1) := by decide +kernel
theorem gh_63 : ∀ q ∈ gc_63, gchk "GiftShops" "worth" q = true := by decide +kernel
theorem gi_63 : ∀ q ∈ gc_63, gchkI gMT "GiftShops" q = true := by decide +kernel
set_option maxRecDepth 100000 in
theorem gm_63 : gMOK gMT gro_63 := ⟨fun _ => List.mem_filter.mpr ⟨List.mem_append_right _ (List.mem_of_getElem? (i := 633) (by rfl)), rfl⟩, List.mem_filter.mpr ⟨List.mem_append_right _ (List.mem_of_getElem? (i := 1) (by rfl)), rfl⟩, by decide, ⟨by decide, by decide⟩, gd_63, gh_63, gi_63, by decide⟩
theorem gd_64 : ∀ q ∈ gc_64, decode prog_1_method_40_code q.1 = .ok (q.2.1, q.2.2.1) := by decide +kernel
theorem gh_64 : ∀ q ∈ gc_64, gchk "GiftShops" "worthIn" q = true := by decide +kernel
theorem gi_64 : ∀ q ∈ gc_64, gchkI gMT "GiftShops" q = true := by decide +kernel
set_option maxRecDepth 100000 in
theorem gm_64 : gMOK gMT gro_64 := ⟨fun _ => List.mem_filter.mpr ⟨List.mem_append_right _ (List.mem_of_getElem? (i := 637) (by rfl)), rfl⟩, List.mem_filter.mpr ⟨List.mem_append_right _ (List.mem_of_getElem? (i := 1) (by rfl)), rfl⟩, by decide, ⟨by decide, by decide⟩, gd_64, gh_64, gi_64, by decide⟩
theorem gd_65 : ∀ q ∈ gc_65, decode prog_7_method_3_code q.1 = .ok (q.2.1, q.2.2.1) := by decide +kernel
theorem gh_65 : ∀ q ∈ gc_65, gchk "GiftShops$Shop" "expected" q = true := by decide +kernel
theorem gi_65 : ∀ q ∈ gc_65, gchkI gMT "GiftShops$Shop" q = true := by decide +kernel
set_option maxRecDepth 100000 in
theorem gm_65 : gMOK gMT gro_65 := ⟨fun _ => List.mem_filter.mpr ⟨List.mem_append_right _ (List.mem_of_getElem? (i := 641) (by rfl)), rfl⟩, List.mem_filter.mpr ⟨List.mem_append_right _ (List.mem_of_getElem? (i := 2) (by rfl)), rfl⟩, by decide, ⟨by decide, by decide⟩, gd_65, gh_65, gi_65, by decide⟩
theorem gd_66 : ∀ q ∈ gc_66, decode prog_1_method_17_code q.1 = .ok (q.2.1, q.2.2.1) := by decide +kernel
theorem gh_66 : ∀ q ∈ gc_66, gchk "GiftShops" "where" q = true := by decide +kernel
theorem gi_66 : ∀ q ∈ gc_66, gchkI gMT "GiftShops" q = true := by decide +kernel
set_option maxRecDepth 100000 in
theorem gm_66 : gMOK gMT gro_66 := ⟨fun _ => List.mem_filter.mpr ⟨List.mem_append_right _ (List.mem_of_getElem? (i := 645) (by rfl)), rfl⟩, List.mem_filter.mpr ⟨List.mem_append_right _ (List.mem_of_getElem? (i := 1) (by rfl)), rfl⟩, by decide, ⟨by decide, by decide⟩, gd_66, gh_66, gi_66, by decide⟩
theorem gd_67 : ∀ q ∈ gc_67, decode prog_1_method_41_code q.1 = .ok (q.2.1, q.2.2.1) := by decide +kernel
theorem gh_67 : ∀ q ∈ gc_67, gchk "GiftShops" "betterShop" q = true := by decide +kernel
theorem gi_67 : ∀ q ∈ gc_67, gchkI gMT "GiftShops" q = true := by decide +kernel
set_option maxRecDepth 100000 in
theorem gm_67 : gMOK gMT gro_67 := ⟨fun _ => List.mem_filter.mpr ⟨List.mem_append_right _ (List.mem_of_getElem? (i := 649) (by rfl)), rfl⟩, List.mem_filter.mpr ⟨List.mem_append_right _ (List.mem_of_getElem? (i := 1) (by rfl)), rfl⟩, by decide, ⟨by decide, by decide⟩, gd_67, gh_67, gi_67, by decide⟩
theorem gd_68 : ∀ q ∈ gc_68, decode prog_1_method_18_code q.1 = .ok (q.2.1, q.2.2.1) := by decide +kernel
theorem gh_68 : ∀ q ∈ gc_68, gchk "GiftShops" "move" q = true := by decide +kernel
theorem gi_68 : ∀ q ∈ gc_68, gchkI gMT "GiftShops" q = true := by decide +kernel
set_option maxRecDepth 100000 in
theorem gm_68 : gMOK gMT gro_68 := ⟨fun _ => List.mem_filter.mpr ⟨List.mem_append_right _ (List.mem_of_getElem? (i := 653) (by rfl)), rfl⟩, List.mem_filter.mpr ⟨List.mem_append_right _ (List.mem_of_getElem? (i := 1) (by rfl)), rfl⟩, by decide, ⟨by decide, by decide⟩, gd_68, gh_68, gi_68, by decide⟩
theorem gd_69 : ∀ q ∈ gc_69, decode prog_1_method_19_code q.1 = .ok (q.2.1, q.2.2.1) := by decide +kernel
theorem gh_69 : ∀ q ∈ gc_69, gchk "GiftShops" "van" q = true := by decide +kernel
theorem gi_69 : ∀ q ∈ gc_69, gchkI gMT "GiftShops" q = true := by decide +kernel
set_option maxRecDepth 100000 in
theorem gm_69 : gMOK gMT gro_69 := ⟨fun _ => List.mem_filter.mpr ⟨List.mem_append_right _ (List.mem_of_getElem? (i := 657) (by rfl)), rfl⟩, List.mem_filter.mpr ⟨List.mem_append_right _ (List.mem_of_getElem? (i := 1) (by rfl)), rfl⟩, by decide, ⟨by decide, by decide⟩, gd_69, gh_69, gi_69, by decide⟩
theorem gd_70 : ∀ q ∈ gc_70, decode prog_1_method_20_code q.1 = .ok (q.2.1, q.2.2.1) := by decide +kernel
theorem gh_70 : ∀ q ∈ gc_70, gchk "GiftShops" "way" q = true := by decide +kernel
theorem gi_70 : ∀ q ∈ gc_70, gchkI gMT "GiftShops" q = true := by decide +kernel
set_option maxRecDepth 100000 in
theorem gm_70 : gMOK gMT gro_70 := ⟨fun _ => List.mem_filter.mpr ⟨List.mem_append_right _ (List.mem_of_getElem? (i := 661) (by rfl)), rfl⟩, List.mem_filter.mpr ⟨List.mem_append_right _ (List.mem_of_getElem? (i := 1) (by rfl)), rfl⟩, by decide, ⟨by decide, by decide⟩, gd_70, gh_70, gi_70, by decide⟩
theorem gd_71 : ∀ q ∈ gc_71, decode prog_3_method_2_code q.1 = .ok (q.2.1, q.2.2.1) := by decide +kernel
theorem gh_71 : ∀ q ∈ gc_71, gchk "GiftShops$Roads" "tell" q = true := by decide +kernel
theorem gi_71 : ∀ q ∈ gc_71, gchkI gMT "GiftShops$Roads" q = true := by decide +kernel
set_option maxRecDepth 100000 in
theorem gm_71 : gMOK gMT gro_71 := ⟨fun _ => List.mem_filter.mpr ⟨List.mem_append_right _ (List.mem_of_getElem? (i := 665) (by rfl)), rfl⟩, List.mem_filter.mpr ⟨List.mem_append_right _ (List.mem_of_getElem? (i := 7) (by rfl)), rfl⟩, by decide, ⟨by decide, by decide⟩, gd_71, gh_71, gi_71, by decide⟩
theorem gd_72 : ∀ q ∈ gc_72, decode prog_1_method_21_code q.1 = .ok (q.2.1, q.2.2.1) := by decide +kernel
theorem gh_72 : ∀ q ∈ gc_72, gchk "GiftShops" "round" q = true := by decide +kernel
theorem gi_72 : ∀ q ∈ gc_72, gchkI gMT "GiftShops" q = true := by decide +kernel
set_option maxRecDepth 100000 in
theorem gm_72 : gMOK gMT gro_72 := ⟨fun _ => List.mem_filter.mpr ⟨List.mem_append_right _ (List.mem_of_getElem? (i := 670) (by rfl)), rfl⟩, List.mem_filter.mpr ⟨List.mem_append_right _ (List.mem_of_getElem? (i := 1) (by rfl)), rfl⟩, by decide, ⟨by decide, by decide⟩, gd_72, gh_72, gi_72, by decide⟩
theorem gd_73 : ∀ q ∈ gc_73, decode prog_3_method_3_code q.1 = .ok (q.2.1, q.2.2.1) := by decide +kernel
theorem gh_73 : ∀ q ∈ gc_73, gchk "GiftShops$Roads" "shortestRound" q = true := by decide +kernel
theorem gi_73 : ∀ q ∈ gc_73, gchkI gMT "GiftShops$Roads" q = true := by decide +kernel
set_option maxRecDepth 100000 in
theorem gm_73 : gMOK gMT gro_73 := ⟨fun _ => List.mem_filter.mpr ⟨List.mem_append_right _ (List.mem_of_getElem? (i := 674) (by rfl)), rfl⟩, List.mem_filter.mpr ⟨List.mem_append_right _ (List.mem_of_getElem? (i := 7) (by rfl)), rfl⟩, by decide, ⟨by decide, by decide⟩, gd_73, gh_73, gi_73, by decide⟩
theorem gd_74 : ∀ q ∈ gc_74, decode prog_3_method_4_code q.1 = .ok (q.2.1, q.2.2.1) := by decide +kernel
theorem gh_74 : ∀ q ∈ gc_74, gchk "GiftShops$Roads" "fillPart" q = true := by decide +kernel
theorem gi_74 : ∀ q ∈ gc_74, gchkI gMT "GiftShops$Roads" q = true := by decide +kernel
set_option maxRecDepth 100000 in
theorem gm_74 : gMOK gMT gro_74 := ⟨fun _ => List.mem_filter.mpr ⟨List.mem_append_right _ (List.mem_of_getElem? (i := 678) (by rfl)), rfl⟩, List.mem_filter.mpr ⟨List.mem_append_right _ (List.mem_of_getElem? (i := 7) (by rfl)), rfl⟩, by decide, ⟨by decide, by decide⟩, gd_74, gh_74, gi_74, by decide⟩
theorem gd_75 : ∀ q ∈ gc_75, decode prog_3_method_5_code q.1 = .ok (q.2.1, q.2.2.1) := by decide +kernel
theorem gh_75 : ∀ q ∈ gc_75, gchk "GiftShops$Roads" "leastInto" q = true := by decide +kernel
theorem gi_75 : ∀ q ∈ gc_75, gchkI gMT "GiftShops$Roads" q = true := by decide +kernel
set_option maxRecDepth 100000 in
theorem gm_75 : gMOK gMT gro_75 := ⟨fun _ => List.mem_filter.mpr ⟨List.mem_append_right _ (List.mem_of_getElem? (i := 682) (by rfl)), rfl⟩, List.mem_filter.mpr ⟨List.mem_append_right _ (List.mem_of_getElem? (i := 7) (by rfl)), rfl⟩, by decide, ⟨by decide, by decide⟩, gd_75, gh_75, gi_75, by decide⟩
theorem gd_76 : ∀ q ∈ gc_76, decode prog_1_method_22_code q.1 = .ok (q.2.1, q.2.2.1) := by decide +kernel
theorem gh_76 : ∀ q ∈ gc_76, gchk "GiftShops" "helper" q = true := by decide +kernel
theorem gi_76 : ∀ q ∈ gc_76, gchkI gMT "GiftShops" q = true := by decide +kernel
set_option maxRecDepth 100000 in
theorem gm_76 : gMOK gMT gro_76 := ⟨fun _ => List.mem_filter.mpr ⟨List.mem_append_right _ (List.mem_of_getElem? (i := 688) (by rfl)), rfl⟩, List.mem_filter.mpr ⟨List.mem_append_right _ (List.mem_of_getElem? (i := 1) (by rfl)), rfl⟩, by decide, ⟨by decide, by decide⟩, gd_76, gh_76, gi_76, by decide⟩
theorem gd_77 : ∀ q ∈ gc_77, decode prog_10_method_2_code q.1 = .ok (q.2.1, q.2.2.1) := by decide +kernel
theorem gh_77 : ∀ q ∈ gc_77, gchk "GiftShops$Turns" "addHelper" q = true := by decide +kernel
theorem gi_77 : ∀ q ∈ gc_77, gchkI gMT "GiftShops$Turns" q = true := by decide +kernel
set_option maxRecDepth 100000 in
theorem gm_77 : gMOK gMT gro_77 := ⟨fun _ => List.mem_filter.mpr ⟨List.mem_append_right _ (List.mem_of_getElem? (i := 692) (by rfl)), rfl⟩, List.mem_filter.mpr ⟨List.mem_append_right _ (List.mem_of_getElem? (i := 8) (by rfl)), rfl⟩, by decide, ⟨by decide, by decide⟩, gd_77, gh_77, gi_77, by decide⟩
theorem gd_78 : ∀ q ∈ gc_78, decode prog_1_method_23_code q.1 = .ok (q.2.1, q.2.2.1) := by decide +kernel
theorem gh_78 : ∀ q ∈ gc_78, gchk "GiftShops" "least" q = true := by decide +kernel
theorem gi_78 : ∀ q ∈ gc_78, gchkI gMT "GiftShops" q = true := by decide +kernel
set_option maxRecDepth 100000 in
theorem gm_78 : gMOK gMT gro_78 := ⟨fun _ => List.mem_filter.mpr ⟨List.mem_append_right _ (List.mem_of_getElem? (i := 697) (by rfl)), rfl⟩, List.mem_filter.mpr ⟨List.mem_append_right _ (List.mem_of_getElem? (i := 1) (by rfl)), rfl⟩, by decide, ⟨by decide, by decide⟩, gd_78, gh_78, gi_78, by decide⟩
theorem gd_79 : ∀ q ∈ gc_79, decode prog_10_method_3_code q.1 = .ok (q.2.1, q.2.2.1) := by decide +kernel
theorem gh_79 : ∀ q ∈ gc_79, gchk "GiftShops$Turns" "leastTurns" q = true := by decide +kernel
theorem gi_79 : ∀ q ∈ gc_79, gchkI gMT "GiftShops$Turns" q = true := by decide +kernel
set_option maxRecDepth 100000 in
theorem gm_79 : gMOK gMT gro_79 := ⟨fun _ => List.mem_filter.mpr ⟨List.mem_append_right _ (List.mem_of_getElem? (i := 701) (by rfl)), rfl⟩, List.mem_filter.mpr ⟨List.mem_append_right _ (List.mem_of_getElem? (i := 8) (by rfl)), rfl⟩, by decide, ⟨by decide, by decide⟩, gd_79, gh_79, gi_79, by decide⟩
theorem gd_80 : ∀ q ∈ gc_80, decode prog_10_method_4_code q.1 = .ok (q.2.1, q.2.2.1) := by decide +kernel
theorem gh_80 : ∀ q ∈ gc_80, gchk "GiftShops$Turns" "eachDayHasTwo" q = true := by decide +kernel
theorem gi_80 : ∀ q ∈ gc_80, gchkI gMT "GiftShops$Turns" q = true := by decide +kernel
set_option maxRecDepth 100000 in
theorem gm_80 : gMOK gMT gro_80 := ⟨fun _ => List.mem_filter.mpr ⟨List.mem_append_right _ (List.mem_of_getElem? (i := 705) (by rfl)), rfl⟩, List.mem_filter.mpr ⟨List.mem_append_right _ (List.mem_of_getElem? (i := 8) (by rfl)), rfl⟩, by decide, ⟨by decide, by decide⟩, gd_80, gh_80, gi_80, by decide⟩
theorem gd_81 : ∀ q ∈ gc_81, decode prog_10_method_5_code q.1 = .ok (q.2.1, q.2.2.1) := by decide +kernel
theorem gh_81 : ∀ q ∈ gc_81, gchk "GiftShops$Turns" "helpersOn" q = true := by decide +kernel
theorem gi_81 : ∀ q ∈ gc_81, gchkI gMT "GiftShops$Turns" q = true := by decide +kernel
set_option maxRecDepth 100000 in
theorem gm_81 : gMOK gMT gro_81 := ⟨fun _ => List.mem_filter.mpr ⟨List.mem_append_right _ (List.mem_of_getElem? (i := 709) (by rfl)), rfl⟩, List.mem_filter.mpr ⟨List.mem_append_right _ (List.mem_of_getElem? (i := 8) (by rfl)), rfl⟩, by decide, ⟨by decide, by decide⟩, gd_81, gh_81, gi_81, by decide⟩
theorem gd_82 : ∀ q ∈ gc_82, decode prog_10_method_6_code q.1 = .ok (q.2.1, q.2.2.1) := by decide +kernel
theorem gh_82 : ∀ q ∈ gc_82, gchk "GiftShops$Turns" "fillPlace" q = true := by decide +kernel
theorem gi_82 : ∀ q ∈ gc_82, gchkI gMT "GiftShops$Turns" q = true := by decide +kernel
set_option maxRecDepth 100000 in
theorem gm_82 : gMOK gMT gro_82 := ⟨fun _ => List.mem_filter.mpr ⟨List.mem_append_right _ (List.mem_of_getElem? (i := 713) (by rfl)), rfl⟩, List.mem_filter.mpr ⟨List.mem_append_right _ (List.mem_of_getElem? (i := 8) (by rfl)), rfl⟩, by decide, ⟨by decide, by decide⟩, gd_82, gh_82, gi_82, by decide⟩
theorem gd_83 : ∀ q ∈ gc_83, decode prog_10_method_7_code q.1 = .ok (q.2.1, q.2.2.1) := by decide +kernel
theorem gh_83 : ∀ q ∈ gc_83, gchk "GiftShops$Turns" "findHelper" q = true := by decide +kernel
theorem gi_83 : ∀ q ∈ gc_83, gchkI gMT "GiftShops$Turns" q = true := by decide +kernel
set_option maxRecDepth 100000 in
theorem gm_83 : gMOK gMT gro_83 := ⟨fun _ => List.mem_filter.mpr ⟨List.mem_append_right _ (List.mem_of_getElem? (i := 717) (by rfl)), rfl⟩, List.mem_filter.mpr ⟨List.mem_append_right _ (List.mem_of_getElem? (i := 8) (by rfl)), rfl⟩, by decide, ⟨by decide, by decide⟩, gd_83, gh_83, gi_83, by decide⟩
theorem gd_84 : ∀ q ∈ gc_84, decode prog_10_method_8_code q.1 = .ok (q.2.1, q.2.2.1) := by decide +kernel
theorem gh_84 : ∀ q ∈ gc_84, gchk "GiftShops$Turns" "handOver" q = true := by decide +kernel
theorem gi_84 : ∀ q ∈ gc_84, gchkI gMT "GiftShops$Turns" q = true := by decide +kernel
set_option maxRecDepth 100000 in
theorem gm_84 : gMOK gMT gro_84 := ⟨fun _ => List.mem_filter.mpr ⟨List.mem_append_right _ (List.mem_of_getElem? (i := 727) (by rfl)), rfl⟩, List.mem_filter.mpr ⟨List.mem_append_right _ (List.mem_of_getElem? (i := 8) (by rfl)), rfl⟩, by decide, ⟨by decide, by decide⟩, gd_84, gh_84, gi_84, by decide⟩
theorem gd_85 : ∀ q ∈ gc_85, decode prog_1_method_24_code q.1 = .ok (q.2.1, q.2.2.1) := by decide +kernel
theorem gh_85 : ∀ q ∈ gc_85, gchk "GiftShops" "rate" q = true := by decide +kernel
theorem gi_85 : ∀ q ∈ gc_85, gchkI gMT "GiftShops" q = true := by decide +kernel
set_option maxRecDepth 100000 in
theorem gm_85 : gMOK gMT gro_85 := ⟨fun _ => List.mem_filter.mpr ⟨List.mem_append_right _ (List.mem_of_getElem? (i := 731) (by rfl)), rfl⟩, List.mem_filter.mpr ⟨List.mem_append_right _ (List.mem_of_getElem? (i := 1) (by rfl)), rfl⟩, by decide, ⟨by decide, by decide⟩, gd_85, gh_85, gi_85, by decide⟩
theorem gd_86 : ∀ q ∈ gc_86, decode prog_1_method_25_code q.1 = .ok (q.2.1, q.2.2.1) := by decide +kernel
theorem gh_86 : ∀ q ∈ gc_86, gchk "GiftShops" "relief" q = true := by decide +kernel
theorem gi_86 : ∀ q ∈ gc_86, gchkI gMT "GiftShops" q = true := by decide +kernel
set_option maxRecDepth 100000 in
theorem gm_86 : gMOK gMT gro_86 := ⟨fun _ => List.mem_filter.mpr ⟨List.mem_append_right _ (List.mem_of_getElem? (i := 735) (by rfl)), rfl⟩, List.mem_filter.mpr ⟨List.mem_append_right _ (List.mem_of_getElem? (i := 1) (by rfl)), rfl⟩, by decide, ⟨by decide, by decide⟩, gd_86, gh_86, gi_86, by decide⟩
theorem gd_87 : ∀ q ∈ gc_87, decode prog_1_method_27_code q.1 = .ok (q.2.1, q.2.2.1) := by decide +kernel
theorem gh_87 : ∀ q ∈ gc_87, gchk "GiftShops" "count" q = true := by decide +kernel
theorem gi_87 : ∀ q ∈ gc_87, gchkI gMT "GiftShops" q = true := by decide +kernel
set_option maxRecDepth 100000 in
theorem gm_87 : gMOK gMT gro_87 := ⟨fun _ => List.mem_filter.mpr ⟨List.mem_append_right _ (List.mem_of_getElem? (i := 739) (by rfl)), rfl⟩, List.mem_filter.mpr ⟨List.mem_append_right _ (List.mem_of_getElem? (i := 1) (by rfl)), rfl⟩, by decide, ⟨by decide, by decide⟩, gd_87, gh_87, gi_87, by decide⟩
theorem gd_88 : ∀ q ∈ gc_88, decode prog_1_method_42_code q.1 = .ok (q.2.1, q.2.2.1) := by decide +kernel
theorem gh_88 : ∀ q ∈ gc_88, gchk "GiftShops" "validSales" q = true := by decide +kernel
theorem gi_88 : ∀ q ∈ gc_88, gchkI gMT "GiftShops" q = true := by decide +kernel
set_option maxRecDepth 100000 in
theorem gm_88 : gMOK gMT gro_88 := ⟨fun _ => List.mem_filter.mpr ⟨List.mem_append_right _ (List.mem_of_getElem? (i := 743) (by rfl)), rfl⟩, List.mem_filter.mpr ⟨List.mem_append_right _ (List.mem_of_getElem? (i := 1) (by rfl)), rfl⟩, by decide, ⟨by decide, by decide⟩, gd_88, gh_88, gi_88, by decide⟩
theorem gd_89 : ∀ q ∈ gc_89, decode prog_1_method_43_code q.1 = .ok (q.2.1, q.2.2.1) := by decide +kernel
theorem gh_89 : ∀ q ∈ gc_89, gchk "GiftShops" "validSum" q = true := by decide +kernel
theorem gi_89 : ∀ q ∈ gc_89, gchkI gMT "GiftShops" q = true := by decide +kernel
set_option maxRecDepth 100000 in
theorem gm_89 : gMOK gMT gro_89 := ⟨fun _ => List.mem_filter.mpr ⟨List.mem_append_right _ (List.mem_of_getElem? (i := 747) (by rfl)), rfl⟩, List.mem_filter.mpr ⟨List.mem_append_right _ (List.mem_of_getElem? (i := 1) (by rfl)), rfl⟩, by decide, ⟨by decide, by decide⟩, gd_89, gh_89, gi_89, by decide⟩
theorem gd_90 : ∀ q ∈ gc_90, decode prog_1_method_44_code q.1 = .ok (q.2.1, q.2.2.1) := by decide +kernel
theorem gh_90 : ∀ q ∈ gc_90, gchk "GiftShops" "thingsThatAre" q = true := by decide +kernel
theorem gi_90 : ∀ q ∈ gc_90, gchkI gMT "GiftShops" q = true := by decide +kernel
set_option maxRecDepth 100000 in
theorem gm_90 : gMOK gMT gro_90 := ⟨fun _ => List.mem_filter.mpr ⟨List.mem_append_right _ (List.mem_of_getElem? (i := 751) (by rfl)), rfl⟩, List.mem_filter.mpr ⟨List.mem_append_right _ (List.mem_of_getElem? (i := 1) (by rfl)), rfl⟩, by decide, ⟨by decide, by decide⟩, gd_90, gh_90, gi_90, by decide⟩
theorem gd_91 : ∀ q ∈ gc_91, decode prog_1_method_26_code q.1 = .ok (q.2.1, q.2.2.1) := by decide +kernel
theorem gh_91 : ∀ q ∈ gc_91, gchk "GiftShops" "look" q = true := by decide +kernel
theorem gi_91 : ∀ q ∈ gc_91, gchkI gMT "GiftShops" q = true := by decide +kernel
set_option maxRecDepth 100000 in
theorem gm_91 : gMOK gMT gro_91 := ⟨fun _ => List.mem_filter.mpr ⟨List.mem_append_right _ (List.mem_of_getElem? (i := 759) (by rfl)), rfl⟩, List.mem_filter.mpr ⟨List.mem_append_right _ (List.mem_of_getElem? (i := 1) (by rfl)), rfl⟩, by decide, ⟨by decide, by decide⟩, gd_91, gh_91, gi_91, by decide⟩
theorem gd_92 : ∀ q ∈ gc_92, decode prog_12_method_1_code q.1 = .ok (q.2.1, q.2.2.1) := by decide +kernel
theorem gh_92 : ∀ q ∈ gc_92, gchk "GiftShopsModel" "thrown" q = true := by decide +kernel
theorem gi_92 : ∀ q ∈ gc_92, gchkI gMT "GiftShopsModel" q = true := by decide +kernel
set_option maxRecDepth 100000 in
theorem gm_92 : gMOK gMT gro_92 := ⟨fun _ => List.mem_filter.mpr ⟨List.mem_append_right _ (List.mem_of_getElem? (i := 828) (by rfl)), rfl⟩, List.mem_filter.mpr ⟨List.mem_append_right _ (List.mem_of_getElem? (i := 9) (by rfl)), rfl⟩, by decide, ⟨by decide, by decide⟩, gd_92, gh_92, gi_92, by decide⟩
theorem gd_93 : ∀ q ∈ gc_93, decode prog_12_method_2_code q.1 = .ok (q.2.1, q.2.2.1) := by decide +kernel
theorem gh_93 : ∀ q ∈ gc_93, gchk "GiftShopsModel" "feed" q = true := by decide +kernel
theorem gi_93 : ∀ q ∈ gc_93, gchkI gMT "GiftShopsModel" q = true := by decide +kernel
set_option maxRecDepth 100000 in
theorem gm_93 : gMOK gMT gro_93 := ⟨fun _ => List.mem_filter.mpr ⟨List.mem_append_right _ (List.mem_of_getElem? (i := 832) (by rfl)), rfl⟩, List.mem_filter.mpr ⟨List.mem_append_right _ (List.mem_of_getElem? (i := 9) (by rfl)), rfl⟩, by decide, ⟨by decide, by decide⟩, gd_93, gh_93, gi_93, by decide⟩
theorem gd_94 : ∀ q ∈ gc_94, decode prog_12_method_3_code q.1 = .ok (q.2.1, q.2.2.1) := by decide +kernel
theorem gh_94 : ∀ q ∈ gc_94, gchk "GiftShopsModel" "lay" q = true := by decide +kernel
theorem gi_94 : ∀ q ∈ gc_94, gchkI gMT "GiftShopsModel" q = true := by decide +kernel
set_option maxRecDepth 100000 in
theorem gm_94 : gMOK gMT gro_94 := ⟨fun _ => List.mem_filter.mpr ⟨List.mem_append_right _ (List.mem_of_getElem? (i := 837) (by rfl)), rfl⟩, List.mem_filter.mpr ⟨List.mem_append_right _ (List.mem_of_getElem? (i := 9) (by rfl)), rfl⟩, by decide, ⟨by decide, by decide⟩, gd_94, gh_94, gi_94, by decide⟩
