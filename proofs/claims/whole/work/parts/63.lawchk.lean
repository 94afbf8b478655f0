/-! ===== the law: its blocks are its bytes ===== -/
set_option maxRecDepth 100000 in
theorem ck_18 : am_chk code bk_L_law_18 18 = true := by decide +kernel
set_option maxRecDepth 100000 in
theorem ck_216 : am_chk code bk_L_law_216 216 = true := by decide +kernel
set_option maxRecDepth 100000 in
theorem ck_239 : am_chk code bk_L_law_239 239 = true := by decide +kernel
set_option maxRecDepth 100000 in
theorem ck_282 : am_chk code bk_L_law_282 282 = true := by decide +kernel
set_option maxRecDepth 100000 in
theorem ck_305 : am_chk code bk_L_law_305 305 = true := by decide +kernel
set_option maxRecDepth 100000 in
theorem ck_338 : am_chk code bk_L_law_338 338 = true := by decide +kernel
set_option maxRecDepth 100000 in
theorem ck_371 : am_chk code bk_L_law_371 371 = true := by decide +kernel
set_option maxRecDepth 100000 in
theorem ck_414 : am_chk code bk_L_law_414 414 = true := by decide +kernel
set_option maxRecDepth 100000 in
theorem ck_457 : am_chk code bk_L_law_457 457 = true := by decide +kernel
set_option maxRecDepth 100000 in
theorem ck_490 : am_chk code bk_L_law_490 490 = true := by decide +kernel
set_option maxRecDepth 100000 in
theorem ck_513 : am_chk code bk_L_law_513 513 = true := by decide +kernel
set_option maxRecDepth 100000 in
theorem ck_536 : am_chk code bk_L_law_536 536 = true := by decide +kernel
set_option maxRecDepth 100000 in
theorem ck_559 : am_chk code bk_L_law_559 559 = true := by decide +kernel
set_option maxRecDepth 100000 in
theorem ck_602 : am_chk code bk_L_law_602 602 = true := by decide +kernel
set_option maxRecDepth 100000 in
theorem ck_625 : am_chk code bk_L_law_625 625 = true := by decide +kernel
set_option maxRecDepth 100000 in
theorem ck_658 : am_chk code bk_L_law_658 658 = true := by decide +kernel
set_option maxRecDepth 100000 in
theorem ck_691 : am_chk code bk_L_law_691 691 = true := by decide +kernel
set_option maxRecDepth 100000 in
theorem ck_724 : am_chk code bk_L_law_724 724 = true := by decide +kernel
set_option maxRecDepth 100000 in
theorem ck_757 : am_chk code bk_L_law_757 757 = true := by decide +kernel
set_option maxRecDepth 100000 in
theorem ck_800 : am_chk code bk_L_law_800 800 = true := by decide +kernel
set_option maxRecDepth 100000 in
theorem ck_833 : am_chk code bk_L_law_833 833 = true := by decide +kernel
set_option maxRecDepth 100000 in
theorem ck_866 : am_chk code bk_L_law_866 866 = true := by decide +kernel
set_option maxRecDepth 100000 in
theorem ck_909 : am_chk code bk_L_law_909 909 = true := by decide +kernel
set_option maxRecDepth 100000 in
theorem ck_932 : am_chk code bk_L_law_932 932 = true := by decide +kernel
set_option maxRecDepth 100000 in
theorem ck_965 : am_chk code bk_L_law_965 965 = true := by decide +kernel
set_option maxRecDepth 100000 in
theorem ck_998 : am_chk code bk_L_law_998 998 = true := by decide +kernel
set_option maxRecDepth 100000 in
theorem ck_1021 : am_chk code bk_L_law_1021 1021 = true := by decide +kernel
set_option maxRecDepth 100000 in
theorem ck_1065 : am_chk code bk_L_law_1065 1065 = true := by decide +kernel
set_option maxRecDepth 100000 in
theorem ck_1088 : am_chk code bk_L_law_1088 1088 = true := by decide +kernel
set_option maxRecDepth 100000 in
theorem ck_1121 : am_chk code bk_L_law_1121 1121 = true := by decide +kernel
set_option maxRecDepth 100000 in
theorem ck_1134 : am_chk code bk_L_law_1134 1134 = true := by decide +kernel
set_option maxRecDepth 100000 in
theorem ck_1147 : am_chk code bk_L_law_1147 1147 = true := by decide +kernel
set_option maxRecDepth 100000 in
theorem ck_1180 : am_chk code bk_L_law_1180 1180 = true := by decide +kernel
set_option maxRecDepth 100000 in
theorem ck_1213 : am_chk code bk_L_law_1213 1213 = true := by decide +kernel
set_option maxRecDepth 100000 in
theorem ck_1256 : am_chk code bk_L_law_1256 1256 = true := by decide +kernel
set_option maxRecDepth 100000 in
theorem ck_1299 : am_chk code bk_L_law_1299 1299 = true := by decide +kernel
set_option maxRecDepth 100000 in
theorem ck_1362 : am_chk code bk_L_law_1362 1362 = true := by decide +kernel
set_option maxRecDepth 100000 in
theorem ck_1385 : am_chk code bk_L_law_1385 1385 = true := by decide +kernel
set_option maxRecDepth 100000 in
theorem ck_1408 : am_chk code bk_L_law_1408 1408 = true := by decide +kernel
set_option maxRecDepth 100000 in
theorem ck_1421 : am_chk code bk_L_law_1421 1421 = true := by decide +kernel
set_option maxRecDepth 100000 in
theorem ck_1434 : am_chk code bk_L_law_1434 1434 = true := by decide +kernel
set_option maxRecDepth 100000 in
theorem ck_1447 : am_chk code bk_L_law_1447 1447 = true := by decide +kernel
set_option maxRecDepth 100000 in
theorem ck_1470 : am_chk code bk_L_law_1470 1470 = true := by decide +kernel
set_option maxRecDepth 100000 in
theorem ck_1493 : am_chk code bk_L_law_1493 1493 = true := by decide +kernel
set_option maxRecDepth 100000 in
theorem ck_1499 : am_chk code bk_L_law_1499 1499 = true := by decide +kernel
theorem law_chk : am_chC code cd_L_law = true := List.all_eq_true.mpr (List.forall_mem_cons.mpr ⟨ck_18, (List.forall_mem_cons.mpr ⟨ck_216, (List.forall_mem_cons.mpr ⟨ck_239, (List.forall_mem_cons.mpr ⟨ck_282, (List.forall_mem_cons.mpr ⟨ck_305, (List.forall_mem_cons.mpr ⟨ck_338, (List.forall_mem_cons.mpr ⟨ck_371, (List.forall_mem_cons.mpr ⟨ck_414, (List.forall_mem_cons.mpr ⟨ck_457, (List.forall_mem_cons.mpr ⟨ck_490, (List.forall_mem_cons.mpr ⟨ck_513, (List.forall_mem_cons.mpr ⟨ck_536, (List.forall_mem_cons.mpr ⟨ck_559, (List.forall_mem_cons.mpr ⟨ck_602, (List.forall_mem_cons.mpr ⟨ck_625, (List.forall_mem_cons.mpr ⟨ck_658, (List.forall_mem_cons.mpr ⟨ck_691, (List.forall_mem_cons.mpr ⟨ck_724, (List.forall_mem_cons.mpr ⟨ck_757, (List.forall_mem_cons.mpr ⟨ck_800, (List.forall_mem_cons.mpr ⟨ck_833, (List.forall_mem_cons.mpr ⟨ck_866, (List.forall_mem_cons.mpr ⟨ck_909, (List.forall_mem_cons.mpr ⟨ck_932, (List.forall_mem_cons.mpr ⟨ck_965, (List.forall_mem_cons.mpr ⟨ck_998, (List.forall_mem_cons.mpr ⟨ck_1021, (List.forall_mem_cons.mpr ⟨ck_1065, (List.forall_mem_cons.mpr ⟨ck_1088, (List.forall_mem_cons.mpr ⟨ck_1121, (List.forall_mem_cons.mpr ⟨ck_1134, (List.forall_mem_cons.mpr ⟨ck_1147, (List.forall_mem_cons.mpr ⟨ck_1180, (List.forall_mem_cons.mpr ⟨ck_1213, (List.forall_mem_cons.mpr ⟨ck_1256, (List.forall_mem_cons.mpr ⟨ck_1299, (List.forall_mem_cons.mpr ⟨ck_1362, (List.forall_mem_cons.mpr ⟨ck_1385, (List.forall_mem_cons.mpr ⟨ck_1408, (List.forall_mem_cons.mpr ⟨ck_1421, (List.forall_mem_cons.mpr ⟨ck_1434, (List.forall_mem_cons.mpr ⟨ck_1447, (List.forall_mem_cons.mpr ⟨ck_1470, (List.forall_mem_cons.mpr ⟨ck_1493, (List.forall_mem_cons.mpr ⟨ck_1499, (fun _ h => absurd h List.not_mem_nil)⟩)⟩)⟩)⟩)⟩)⟩)⟩)⟩)⟩)⟩)⟩)⟩)⟩)⟩)⟩)⟩)⟩)⟩)⟩)⟩)⟩)⟩)⟩)⟩)⟩)⟩)⟩)⟩)⟩)⟩)⟩)⟩)⟩)⟩)⟩)⟩)⟩)⟩)⟩)⟩)⟩)⟩)⟩)⟩)⟩)
