/-! one list of words for all methods of the main class -/
def lwG : List Cond := wsL_law0
theorem lwG_good : lwG.all goodWord = true := by decide +kernel
theorem gG_sub {x : Cond} {ws : List Cond} (h : ∀ w ∈ ws, w ∈ lwG) : GoodIn (x :: lwG) ws := fun w hw => ⟨List.mem_cons_of_mem _ (h w hw), good_of_word (List.all_eq_true.mp lwG_good w (h w hw))⟩
theorem sub_r {ws : List Cond} (ps : List Nat) (hp : ws = ps.filterMap (fun i => lwG[i]?)) : ∀ w ∈ ws, w ∈ lwG := by
  intro w hw
  rw [hp] at hw
  obtain ⟨i, -, hi⟩ := List.mem_filterMap.mp hw
  exact List.mem_of_getElem? hi
theorem sub_c {w : Cond} {ws : List Cond} (h : w ∈ lwG) (h2 : ∀ v ∈ ws, v ∈ lwG) : ∀ v ∈ w :: ws, v ∈ lwG := fun v hv => (List.mem_cons.mp hv).elim (fun e => e ▸ h) (h2 v)
theorem sub_all : ∀ w ∈ lwG, w ∈ lwG := fun _ h => h

theorem sub_X0_code : ∀ w ∈ wsX0_code, w ∈ lwG := sub_r [202, 148, 149, 203, 204, 131, 132, 25, 133, 54, 150, 2, 151, 205, 206, 207, 208, 209, 210, 211, 212, 60, 213, 214, 215, 180, 181, 182, 183, 184, 185, 186, 1147, 1148, 1149, 1137, 1138] (by decide +kernel)
theorem sub_X0_kind : ∀ w ∈ wsX0_kind, w ∈ lwG := sub_r [772] (by decide +kernel)
theorem sub_X0_sizeOf : ∀ w ∈ wsX0_sizeOf, w ∈ lwG := sub_r [147, 148, 149, 150, 2, 151, 1147, 1148, 1149] (by decide +kernel)
theorem sub_X10_code : ∀ w ∈ wsX10_code, w ∈ lwG := sub_r [244, 245, 131, 132, 25, 133, 54, 246, 247, 248, 175, 249, 177, 178, 250, 206, 207, 208, 209, 210, 211, 212, 60, 251, 184, 185, 186, 1137, 1138, 1158, 1159] (by decide +kernel)
theorem sub_X10_kind : ∀ w ∈ wsX10_kind, w ∈ lwG := sub_r [784] (by decide +kernel)
theorem sub_X10_sizeOf : ∀ w ∈ wsX10_sizeOf, w ∈ lwG := sub_r [176, 177, 178, 150, 2, 151, 1158, 1159] (by decide +kernel)
theorem sub_X1_append : ∀ w ∈ wsX1_append, w ∈ lwG := sub_r [584, 42, 41, 1131, 1132] (by decide +kernel)
theorem sub_X1_code : ∀ w ∈ wsX1_code, w ∈ lwG := sub_r [194, 42, 138, 139, 140, 16, 141, 41, 195, 127, 128, 29, 129, 73, 74, 196, 131, 132, 25, 133, 54, 142, 143, 144, 145, 146, 147, 148, 149, 150, 2, 151, 152, 153, 154, 155, 156, 157, 158, 159, 160, 161, 162, 163, 164, 165, 166, 167, 168, 169, 170, 171, 172, 173, 174, 175, 176, 177, 178, 197, 62, 63, 64, 60, 65, 66, 57, 67, 55, 56, 58, 198, 199, 200, 201, 202, 203, 204, 205, 206, 207, 208, 209, 210, 211, 212, 213, 214, 215, 180, 181, 182, 183, 184, 185, 186, 216, 217, 218, 219, 220, 221, 222, 223, 224, 225, 226, 227, 228, 229, 230, 231, 232, 233, 234, 235, 236, 237, 238, 239, 240, 241, 242, 243, 244, 245, 246, 247, 248, 249, 250, 251, 1131, 1132, 1139, 1140, 1137, 1138, 1147, 1148, 1149, 1150, 1151, 1152, 1153, 1154, 1155, 1156, 1157, 1158, 1159] (by decide +kernel)
theorem sub_X1_count : ∀ w ∈ wsX1_count, w ∈ lwG := sub_r [263, 42, 1131, 1132] (by decide +kernel)
theorem sub_X1_decode : ∀ w ∈ wsX1_decode, w ∈ lwG := sub_r [302, 42, 138, 139, 140, 16, 141, 41, 195, 127, 128, 29, 129, 73, 74, 196, 131, 132, 25, 133, 54, 197, 62, 63, 64, 60, 65, 66, 57, 67, 55, 56, 58, 303, 304, 305, 306, 146, 307, 148, 149, 204, 150, 2, 151, 205, 206, 207, 208, 209, 210, 211, 212, 308, 309, 310, 311, 312, 313, 314, 315, 316, 203, 317, 318, 319, 320, 321, 213, 214, 322, 323, 324, 325, 326, 327, 328, 215, 180, 181, 182, 183, 184, 185, 186, 329, 330, 154, 331, 156, 157, 219, 227, 221, 332, 333, 160, 334, 162, 232, 233, 335, 336, 234, 337, 338, 165, 339, 340, 167, 172, 239, 168, 169, 170, 171, 341, 342, 343, 35, 344, 79, 345, 240, 346, 347, 348, 349, 350, 351, 352, 353, 354, 355, 356, 357, 358, 359, 360, 361, 362, 363, 364, 365, 366, 367, 238, 368, 369, 370, 371, 372, 80, 373, 374, 375, 376, 81, 377, 378, 379, 380, 381, 382, 383, 175, 384, 245, 246, 247, 248, 249, 177, 178, 385, 251, 1131, 1132, 1139, 1140, 1137, 1138, 1147, 1148, 1149, 1150, 1151, 1152, 1153, 1154, 1155, 1156, 1157, 1141, 1142, 1143, 1158, 1159] (by decide +kernel)
theorem sub_X1_removeLast : ∀ w ∈ wsX1_removeLast, w ∈ lwG := sub_r [695, 42, 41, 1131, 1132] (by decide +kernel)
theorem sub_X1_sizeAtEnd : ∀ w ∈ wsX1_sizeAtEnd, w ∈ lwG := sub_r [137, 42, 138, 139, 140, 16, 141, 41, 142, 143, 144, 145, 146, 147, 148, 149, 150, 2, 151, 152, 153, 154, 155, 156, 157, 158, 159, 160, 161, 162, 163, 164, 165, 166, 167, 168, 169, 170, 171, 172, 173, 174, 175, 176, 177, 178, 1131, 1132, 1147, 1148, 1149, 1150, 1151, 1152, 1153, 1154, 1155, 1156, 1157, 1158, 1159] (by decide +kernel)
theorem sub_X1_stageAt : ∀ w ∈ wsX1_stageAt, w ∈ lwG := sub_r [141, 42, 41, 1131, 1132] (by decide +kernel)
theorem sub_X2_code : ∀ w ∈ wsX2_code, w ∈ lwG := sub_r [218, 156, 157, 219, 131, 132, 25, 133, 54, 150, 2, 151, 220, 206, 207, 208, 209, 210, 211, 212, 60, 221, 184, 185, 186, 222, 223, 224, 154, 225, 226, 227, 228, 180, 181, 182, 183, 1150, 1151, 1152, 1137, 1138] (by decide +kernel)
theorem sub_X2_kind : ∀ w ∈ wsX2_kind, w ∈ lwG := sub_r [775] (by decide +kernel)
theorem sub_X2_sizeOf : ∀ w ∈ wsX2_sizeOf, w ∈ lwG := sub_r [155, 156, 157, 150, 2, 151, 1150, 1151, 1152] (by decide +kernel)
theorem sub_X4_at : ∀ w ∈ wsX4_at, w ∈ lwG := sub_r [129, 73, 74, 1139, 1140] (by decide +kernel)
theorem sub_X5_become : ∀ w ∈ wsX5_become, w ∈ lwG := sub_r [719, 46, 47, 48, 49, 1133, 1134, 1135, 1136] (by decide +kernel)
theorem sub_X5_harm : ∀ w ∈ wsX5_harm, w ∈ lwG := sub_r [273, 46, 274, 275, 276, 20, 277, 47, 278, 56, 57, 58, 49, 48, 279, 131, 132, 25, 133, 54, 280, 281, 282, 283, 209, 210, 211, 212, 60, 183, 184, 185, 186, 284, 285, 286, 287, 288, 289, 290, 291, 292, 293, 1133, 1134, 1135, 1136, 1137, 1138] (by decide +kernel)
theorem sub_X5_kind : ∀ w ∈ wsX5_kind, w ∈ lwG := sub_r [715, 46, 1133, 1134, 1135, 1136] (by decide +kernel)
theorem sub_X6_code : ∀ w ∈ wsX6_code, w ∈ lwG := sub_r [231, 162, 232, 131, 132, 25, 133, 54, 233, 206, 207, 208, 209, 210, 211, 212, 60, 234, 184, 185, 186, 1153, 1137, 1138] (by decide +kernel)
theorem sub_X6_kind : ∀ w ∈ wsX6_kind, w ∈ lwG := sub_r [778] (by decide +kernel)
theorem sub_X6_sizeOf : ∀ w ∈ wsX6_sizeOf, w ∈ lwG := sub_r [161, 162, 1153] (by decide +kernel)
theorem sub_X7_copy : ∀ w ∈ wsX7_copy, w ∈ lwG := sub_r [267, 54, 268, 131, 132, 25, 133, 269, 62, 63, 64, 60, 65, 66, 57, 67, 55, 56, 58, 209, 210, 211, 212, 183, 184, 185, 186, 1137, 1138] (by decide +kernel)
theorem sub_X7_get : ∀ w ∈ wsX7_get, w ∈ lwG := sub_r [212, 54, 60, 1137, 1138] (by decide +kernel)
theorem sub_X7_ones : ∀ w ∈ wsX7_ones, w ∈ lwG := sub_r [739, 54, 209, 210, 211, 25, 212, 60, 1137, 1138] (by decide +kernel)
theorem sub_X7_putNumber : ∀ w ∈ wsX7_putNumber, w ∈ lwG := sub_r [182, 183, 184, 185, 25, 186, 54, 60, 1137, 1138] (by decide +kernel)
theorem sub_X7_resize : ∀ w ∈ wsX7_resize, w ∈ lwG := sub_r [64, 60, 65, 66, 57, 67, 55, 56, 58, 54, 1137, 1138] (by decide +kernel)
theorem sub_X7_size : ∀ w ∈ wsX7_size, w ∈ lwG := sub_r [133, 54, 1137, 1138] (by decide +kernel)
theorem sub_X7_turn : ∀ w ∈ wsX7_turn, w ∈ lwG := sub_r [283, 209, 210, 211, 25, 212, 54, 60, 183, 184, 185, 186, 1137, 1138] (by decide +kernel)
theorem sub_X7_turnWhere : ∀ w ∈ wsX7_turnWhere, w ∈ lwG := sub_r [297, 54, 209, 210, 211, 25, 212, 60, 298, 281, 282, 283, 183, 184, 185, 186, 1137, 1138] (by decide +kernel)
theorem sub_X7_unlike : ∀ w ∈ wsX7_unlike, w ∈ lwG := sub_r [793, 54, 209, 210, 211, 25, 212, 60, 1137, 1138] (by decide +kernel)
theorem sub_X8_apart : ∀ w ∈ wsX8_apart, w ∈ lwG := sub_r [960] (by decide +kernel)
theorem sub_X8_damagedIn : ∀ w ∈ wsX8_damagedIn, w ∈ lwG := sub_r [798] (by decide +kernel)
theorem sub_X8_wordsWith : ∀ w ∈ wsX8_wordsWith, w ∈ lwG := sub_r [1004] (by decide +kernel)
theorem sub_X9_code : ∀ w ∈ wsX9_code, w ∈ lwG := sub_r [237, 172, 167, 238, 239, 131, 132, 25, 133, 54, 168, 169, 170, 165, 171, 240, 206, 207, 208, 209, 210, 211, 212, 60, 213, 2, 214, 241, 180, 181, 182, 183, 184, 185, 186, 1154, 1155, 1156, 1157, 1137, 1138] (by decide +kernel)
theorem sub_X9_kind : ∀ w ∈ wsX9_kind, w ∈ lwG := sub_r [781] (by decide +kernel)
theorem sub_X9_sizeOf : ∀ w ∈ wsX9_sizeOf, w ∈ lwG := sub_r [166, 167, 168, 169, 170, 165, 171, 172, 1154, 1155, 1156, 1157] (by decide +kernel)

