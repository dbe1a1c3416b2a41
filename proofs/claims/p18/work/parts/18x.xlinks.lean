theorem xl_1 : Cond.classLink RX9 56 (h_exn 1) ∈ h_ws := h_in (List.mem_of_getElem? (i := 218) (by decide +kernel)) rfl
theorem xi_1 : Cond.initialized (h_exn 1) ∈ h_ws := h_in (List.mem_of_getElem? (i := 10) (by decide +kernel)) rfl
theorem xg_1 : ∀ w ∈ (vx_atS RX9 60 (h_exn 1) h_nms).filter goodWord, w ∈ h_ws := fun w hw => List.mem_filter.mpr ⟨(show ∀ w ∈ (vx_atS RX9 60 (h_exn 1) h_nms).filter goodWord, w ∈ lw_tbl by decide +kernel) w hw, (List.mem_filter.mp hw).2⟩
theorem xb_1 : ∀ w ∈ (vx_atS RX9 60 (h_exn 1) h_nms).filter (fun w => !goodWord w), w ∈ h_bad := by decide +kernel
theorem xo_1 : ∀ w ∈ Cond.classLink RX9 56 (h_exn 1) :: Cond.initialized (h_exn 1) :: vx_atS RX9 60 (h_exn 1) h_nms, vx_ot w = true := by decide +kernel
theorem xt_58 : (58, "the parent must be there and the child must not") ∈ h_txs := by decide
theorem xt_83 : (83, "no prefix, not the parent's own, or its whole part") ∈ h_txs := by decide
theorem mv_RX9_75 : h_MV RX9 75 5 yX4_same cX4_same 2 (some .boolean) 1 := ⟨⟨_, _, hcl_4⟩, ⟨by decide, by decide, by decide +kernel⟩, h_in (List.mem_of_getElem? (i := 291) (by decide +kernel)) rfl, h_in (List.mem_of_getElem? (i := 292) (by decide +kernel)) rfl, h_in (List.mem_of_getElem? (i := 293) (by decide +kernel)) rfl, cd_X4_same⟩
theorem lk_RX9_70 : Cond.classLink RX9 70 RX6 ∈ h_ws := h_in (List.mem_of_getElem? (i := 313) (by decide +kernel)) rfl
theorem mi_RX9_85 : h_MI RX9 85 yX6_init cX6_init 5 3 := ⟨rfl, ⟨by decide, by decide, by decide +kernel⟩, h_in (List.mem_of_getElem? (i := 314) (by decide +kernel)) rfl, h_in (List.mem_of_getElem? (i := 54) (by decide +kernel)) rfl, h_in (List.mem_of_getElem? (i := 3) (by decide +kernel)) rfl, cd_X6_init⟩
set_option maxRecDepth 100000 in
theorem cd_X8_plant : Cond.code yX8_plant cX8_plant 2 none ∈ h_ws := h_in (List.mem_of_getElem? (i := 318) rfl) rfl
theorem mv_RX9_88 : h_MV RX9 88 9 yX8_plant cX8_plant 2 none 1 := ⟨⟨_, _, hcl_8⟩, ⟨by decide, by decide, by decide +kernel⟩, h_in (List.mem_of_getElem? (i := 315) (by decide +kernel)) rfl, h_in (List.mem_of_getElem? (i := 316) (by decide +kernel)) rfl, h_in (List.mem_of_getElem? (i := 317) (by decide +kernel)) rfl, cd_X8_plant⟩
theorem xt_92 : (92, "no such site, or it is there already") ∈ h_txs := by decide
theorem xt_102 : (102, "no such place, or a site is there") ∈ h_txs := by decide
set_option maxRecDepth 100000 in
theorem cd_X7_init : Cond.code yX7_init cX7_init 2 none ∈ h_ws := h_in (List.mem_of_getElem? (i := 338) rfl) rfl
theorem mi_RX9_104 : h_MI RX9 104 yX7_init cX7_init 2 1 := ⟨rfl, ⟨by decide, by decide, by decide +kernel⟩, h_in (List.mem_of_getElem? (i := 336) (by decide +kernel)) rfl, h_in (List.mem_of_getElem? (i := 337) (by decide +kernel)) rfl, h_in (List.mem_of_getElem? (i := 11) (by decide +kernel)) rfl, cd_X7_init⟩
theorem xt_115 : (115, "the site isn't there or has four prefixes") ∈ h_txs := by decide
set_option maxRecDepth 100000 in
theorem cd_X7_isFull : Cond.code yX7_isFull cX7_isFull 1 (some .boolean) ∈ h_ws := h_in (List.mem_of_getElem? (i := 391) rfl) rfl
theorem mv_RX9_111 : h_MV RX9 111 8 yX7_isFull cX7_isFull 1 (some .boolean) 0 := ⟨⟨_, _, hcl_7⟩, ⟨by decide, by decide, by decide +kernel⟩, h_in (List.mem_of_getElem? (i := 388) (by decide +kernel)) rfl, h_in (List.mem_of_getElem? (i := 389) (by decide +kernel)) rfl, h_in (List.mem_of_getElem? (i := 390) (by decide +kernel)) rfl, cd_X7_isFull⟩
theorem xt_124 : (124, "no prefix, of several servers, or a site has it") ∈ h_txs := by decide
set_option maxRecDepth 100000 in
theorem cd_X8_ownerOf : Cond.code yX8_ownerOf cX8_ownerOf 3 (some (.object RX6)) ∈ h_ws := h_in (List.mem_of_getElem? (i := 396) rfl) rfl
theorem mv_RX9_117 : h_MV RX9 117 9 yX8_ownerOf cX8_ownerOf 3 (some (.object RX6)) 1 := ⟨⟨_, _, hcl_8⟩, ⟨by decide, by decide, by decide +kernel⟩, h_in (List.mem_of_getElem? (i := 393) (by decide +kernel)) rfl, h_in (List.mem_of_getElem? (i := 394) (by decide +kernel)) rfl, h_in (List.mem_of_getElem? (i := 395) (by decide +kernel)) rfl, cd_X8_ownerOf⟩
set_option maxRecDepth 100000 in
theorem cd_X9_isHeld : Cond.code yX9_isHeld cX9_isHeld 3 (some .boolean) ∈ h_ws := h_in (List.mem_of_getElem? (i := 401) rfl) rfl
theorem mv_RX9_121 : h_MV RX9 121 10 yX9_isHeld cX9_isHeld 3 (some .boolean) 1 := ⟨⟨_, _, hcl_9⟩, ⟨by decide, by decide, by decide +kernel⟩, h_in (List.mem_of_getElem? (i := 398) (by decide +kernel)) rfl, h_in (List.mem_of_getElem? (i := 400) (by decide +kernel)) rfl, h_inS (q := (yX9_isHeld, 14)) (List.mem_append_left _ (List.mem_of_getElem? (i := 6) rfl)) rfl, cd_X9_isHeld⟩
set_option maxRecDepth 100000 in
theorem cd_X7_add : Cond.code yX7_add cX7_add 3 (some .int) ∈ h_ws := h_in (List.mem_of_getElem? (i := 411) rfl) rfl
theorem mv_RX9_126 : h_MV RX9 126 8 yX7_add cX7_add 3 (some .int) 1 := ⟨⟨_, _, hcl_7⟩, ⟨by decide, by decide, by decide +kernel⟩, h_in (List.mem_of_getElem? (i := 408) (by decide +kernel)) rfl, h_in (List.mem_of_getElem? (i := 409) (by decide +kernel)) rfl, h_in (List.mem_of_getElem? (i := 410) (by decide +kernel)) rfl, cd_X7_add⟩
theorem xt_130 : (130, "no such site or place, or a site is there") ∈ h_txs := by decide
theorem fw_RX9_132 : h_FW RX9 132 8 0 0 := ⟨_, _, _, hcl_7, by decide, rfl, h_in (List.mem_of_getElem? (i := 358) (by decide +kernel)) rfl, rfl⟩
theorem fl_RX9_140 : h_FL RX9 140 8 3 0 := ⟨_, _, _, hcl_7, by decide, rfl, h_in (List.mem_of_getElem? (i := 363) (by decide +kernel)) rfl⟩
theorem fl_RX9_143 : h_FL RX9 143 8 2 1 := ⟨_, _, _, hcl_7, by decide, rfl, h_in (List.mem_of_getElem? (i := 361) (by decide +kernel)) rfl⟩
theorem fl_RX9_147 : h_FL RX9 147 8 1 0 := ⟨_, _, _, hcl_7, by decide, rfl, h_in (List.mem_of_getElem? (i := 359) (by decide +kernel)) rfl⟩
theorem fw_RX9_147 : h_FW RX9 147 8 1 0 := ⟨_, _, _, hcl_7, by decide, rfl, h_in (List.mem_of_getElem? (i := 359) (by decide +kernel)) rfl, rfl⟩
set_option maxRecDepth 100000 in
theorem cd_X9_postRegister : Cond.code yX9_postRegister cX9_postRegister 6 none ∈ h_ws := h_in (List.mem_of_getElem? (i := 431) rfl) rfl
theorem mv_RX9_153 : h_MV RX9 153 10 yX9_postRegister cX9_postRegister 6 none 5 := ⟨⟨_, _, hcl_9⟩, ⟨by decide, by decide, by decide +kernel⟩, h_in (List.mem_of_getElem? (i := 428) (by decide +kernel)) rfl, h_in (List.mem_of_getElem? (i := 430) (by decide +kernel)) rfl, h_inS (q := (yX9_postRegister, 14)) (List.mem_append_left _ (List.mem_of_getElem? (i := 7) rfl)) rfl, cd_X9_postRegister⟩
theorem xt_138 : (138, "the site isn't there") ∈ h_txs := by decide
set_option maxRecDepth 100000 in
theorem cd_X3_init : Cond.code yX3_init cX3_init 4 none ∈ h_ws := h_in (List.mem_of_getElem? (i := 478) rfl) rfl
theorem mi_RX9_165 : h_MI RX9 165 yX3_init cX3_init 4 3 := ⟨rfl, ⟨by decide, by decide, by decide +kernel⟩, h_in (List.mem_of_getElem? (i := 476) (by decide +kernel)) rfl, h_in (List.mem_of_getElem? (i := 477) (by decide +kernel)) rfl, h_in (List.mem_of_getElem? (i := 15) (by decide +kernel)) rfl, cd_X3_init⟩
theorem fw_RX9_157 : h_FW RX9 157 10 8 0 := ⟨_, _, _, hcl_9, by decide, rfl, h_in (List.mem_of_getElem? (i := 120) (by decide +kernel)) rfl, rfl⟩
set_option maxRecDepth 100000 in
theorem cd_X9_start : Cond.code yX9_start cX9_start 4 none ∈ h_ws := h_in (List.mem_of_getElem? (i := 514) rfl) rfl
theorem mv_RX9_168 : h_MV RX9 168 10 yX9_start cX9_start 4 none 2 := ⟨⟨_, _, hcl_9⟩, ⟨by decide, by decide, by decide +kernel⟩, h_in (List.mem_of_getElem? (i := 511) (by decide +kernel)) rfl, h_in (List.mem_of_getElem? (i := 513) (by decide +kernel)) rfl, h_inS (q := (yX9_start, 14)) (List.mem_append_left _ (List.mem_of_getElem? (i := 9) rfl)) rfl, cd_X9_start⟩
theorem xl_2 : Cond.classLink RX9 160 (h_exn 2) ∈ h_ws := h_in (List.mem_of_getElem? (i := 459) (by decide +kernel)) rfl
theorem xi_2 : Cond.initialized (h_exn 2) ∈ h_ws := h_in (List.mem_of_getElem? (i := 14) (by decide +kernel)) rfl
theorem xg_2 : ∀ w ∈ (vx_atS RX9 164 (h_exn 2) h_nms).filter goodWord, w ∈ h_ws := fun w hw => List.mem_filter.mpr ⟨(show ∀ w ∈ (vx_atS RX9 164 (h_exn 2) h_nms).filter goodWord, w ∈ lw_tbl by decide +kernel) w hw, (List.mem_filter.mp hw).2⟩
theorem xb_2 : ∀ w ∈ (vx_atS RX9 164 (h_exn 2) h_nms).filter (fun w => !goodWord w), w ∈ h_bad := by decide +kernel
theorem xo_2 : ∀ w ∈ Cond.classLink RX9 160 (h_exn 2) :: Cond.initialized (h_exn 2) :: vx_atS RX9 164 (h_exn 2) h_nms, vx_ot w = true := by decide +kernel
theorem xt_162 : (162, "there are 200 packets") ∈ h_txs := by decide
set_option maxRecDepth 100000 in
theorem cd_X5_has : Cond.code yX5_has cX5_has 2 (some .boolean) ∈ h_ws := h_in (List.mem_of_getElem? (i := 560) rfl) rfl
theorem mv_RX9_173 : h_MV RX9 173 6 yX5_has cX5_has 2 (some .boolean) 1 := ⟨⟨_, _, hcl_5⟩, ⟨by decide, by decide, by decide +kernel⟩, h_in (List.mem_of_getElem? (i := 557) (by decide +kernel)) rfl, h_in (List.mem_of_getElem? (i := 558) (by decide +kernel)) rfl, h_in (List.mem_of_getElem? (i := 559) (by decide +kernel)) rfl, cd_X5_has⟩
set_option maxRecDepth 100000 in
theorem cd_X9_bring : Cond.code yX9_bring cX9_bring 3 none ∈ h_ws := h_in (List.mem_of_getElem? (i := 580) rfl) rfl
theorem mv_RX9_181 : h_MV RX9 181 10 yX9_bring cX9_bring 3 none 1 := ⟨⟨_, _, hcl_9⟩, ⟨by decide, by decide, by decide +kernel⟩, h_in (List.mem_of_getElem? (i := 577) (by decide +kernel)) rfl, h_in (List.mem_of_getElem? (i := 579) (by decide +kernel)) rfl, h_inS (q := (yX9_bring, 14)) (List.mem_append_left _ (List.mem_of_getElem? (i := 14) rfl)) rfl, cd_X9_bring⟩
theorem xl_3 : Cond.classLink RX9 176 (h_exn 3) ∈ h_ws := h_in (List.mem_of_getElem? (i := 561) (by decide +kernel)) rfl
theorem xi_3 : Cond.initialized (h_exn 3) ∈ h_ws := h_in (List.mem_of_getElem? (i := 16) (by decide +kernel)) rfl
theorem xg_3 : ∀ w ∈ (vx_atS RX9 180 (h_exn 3) h_nms).filter goodWord, w ∈ h_ws := fun w hw => List.mem_filter.mpr ⟨(show ∀ w ∈ (vx_atS RX9 180 (h_exn 3) h_nms).filter goodWord, w ∈ lw_tbl by decide +kernel) w hw, (List.mem_filter.mp hw).2⟩
theorem xb_3 : ∀ w ∈ (vx_atS RX9 180 (h_exn 3) h_nms).filter (fun w => !goodWord w), w ∈ h_bad := by decide +kernel
theorem xo_3 : ∀ w ∈ Cond.classLink RX9 176 (h_exn 3) :: Cond.initialized (h_exn 3) :: vx_atS RX9 180 (h_exn 3) h_nms, vx_ot w = true := by decide +kernel
theorem xt_178 : (178, "no such message") ∈ h_txs := by decide
set_option maxRecDepth 100000 in
theorem cd_X5_addAgain : Cond.code yX5_addAgain cX5_addAgain 2 none ∈ h_ws := h_in (List.mem_of_getElem? (i := 760) rfl) rfl
theorem mv_RX9_184 : h_MV RX9 184 6 yX5_addAgain cX5_addAgain 2 none 1 := ⟨⟨_, _, hcl_5⟩, ⟨by decide, by decide, by decide +kernel⟩, h_in (List.mem_of_getElem? (i := 757) (by decide +kernel)) rfl, h_in (List.mem_of_getElem? (i := 758) (by decide +kernel)) rfl, h_in (List.mem_of_getElem? (i := 759) (by decide +kernel)) rfl, cd_X5_addAgain⟩
theorem xt_190 : (190, "no such message or field") ∈ h_txs := by decide
set_option maxRecDepth 100000 in
theorem cd_X5_set : Cond.code yX5_set cX5_set 4 none ∈ h_ws := h_in (List.mem_of_getElem? (i := 779) rfl) rfl
theorem mv_RX9_192 : h_MV RX9 192 6 yX5_set cX5_set 4 none 3 := ⟨⟨_, _, hcl_5⟩, ⟨by decide, by decide, by decide +kernel⟩, h_in (List.mem_of_getElem? (i := 776) (by decide +kernel)) rfl, h_in (List.mem_of_getElem? (i := 777) (by decide +kernel)) rfl, h_in (List.mem_of_getElem? (i := 778) (by decide +kernel)) rfl, cd_X5_set⟩
theorem xt_195 : (195, "no such message, or nothing such of it") ∈ h_txs := by decide
set_option maxRecDepth 100000 in
theorem cd_X5_get : Cond.code yX5_get cX5_get 3 (some .int) ∈ h_ws := h_in (List.mem_of_getElem? (i := 791) rfl) rfl
theorem mv_RX9_197 : h_MV RX9 197 6 yX5_get cX5_get 3 (some .int) 2 := ⟨⟨_, _, hcl_5⟩, ⟨by decide, by decide, by decide +kernel⟩, h_in (List.mem_of_getElem? (i := 788) (by decide +kernel)) rfl, h_in (List.mem_of_getElem? (i := 789) (by decide +kernel)) rfl, h_in (List.mem_of_getElem? (i := 790) (by decide +kernel)) rfl, cd_X5_get⟩
theorem xt_201 : (201, "n isn't 0 .. 1000") ∈ h_txs := by decide
theorem xt_207 : (207, "t isn't 1 .. 1000, or time would be above 1000000") ∈ h_txs := by decide
theorem ck_RX9_206 : Cond.constant RX9 206 (1000000) ∈ h_ws := h_in (List.mem_of_getElem? (i := 807) (by decide +kernel)) rfl
theorem fw_RX9_135 : h_FW RX9 135 10 9 0 := ⟨_, _, _, hcl_9, by decide, rfl, h_in (List.mem_of_getElem? (i := 121) (by decide +kernel)) rfl, rfl⟩
theorem fl_RX9_218 : h_FL RX9 218 4 5 0 := ⟨_, _, _, hcl_3, by decide, rfl, h_in (List.mem_of_getElem? (i := 490) (by decide +kernel)) rfl⟩
theorem fl_RX9_224 : h_FL RX9 224 4 7 0 := ⟨_, _, _, hcl_3, by decide, rfl, h_in (List.mem_of_getElem? (i := 493) (by decide +kernel)) rfl⟩
theorem xt_213 : (213, "no such packet") ∈ h_txs := by decide
theorem fl_RX9_237 : h_FL RX9 237 2 0 1 := ⟨_, _, _, hcl_1, by decide, rfl, h_in (List.mem_of_getElem? (i := 697) (by decide +kernel)) rfl⟩
theorem fl_RX9_246 : h_FL RX9 246 2 2 0 := ⟨_, _, _, hcl_1, by decide, rfl, h_in (List.mem_of_getElem? (i := 702) (by decide +kernel)) rfl⟩
