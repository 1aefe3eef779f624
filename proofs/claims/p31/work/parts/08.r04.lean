theorem dL_isSettled_220 : decode cL_isSettled 220 = .ok (.if_icmp .ne 7, 3) := by decide +kernel
theorem dL_isSettled_223 : decode cL_isSettled 223 = .ok (.iconst 1, 1) := by decide +kernel
theorem dL_isSettled_224 : decode cL_isSettled 224 = .ok (.goto 4, 3) := by decide +kernel
theorem dL_isSettled_227 : decode cL_isSettled 227 = .ok (.iconst 0, 1) := by decide +kernel
theorem dL_isSettled_228 : decode cL_isSettled 228 = .ok (.istore_n 3, 1) := by decide +kernel
theorem dL_isSettled_229 : decode cL_isSettled 229 = .ok (.iinc 7 1, 3) := by decide +kernel
theorem dL_isSettled_232 : decode cL_isSettled 232 = .ok (.goto (-64), 3) := by decide +kernel
theorem dL_isSettled_235 : decode cL_isSettled 235 = .ok (.iinc 4 1, 3) := by decide +kernel
theorem dL_isSettled_238 : decode cL_isSettled 238 = .ok (.goto (-233), 3) := by decide +kernel
theorem dL_isSettled_241 : decode cL_isSettled 241 = .ok (.iload_n 3, 1) := by decide +kernel
theorem dL_isSettled_242 : decode cL_isSettled 242 = .ok (.ireturn, 1) := by decide +kernel
set_option maxRecDepth 20000 in
theorem ggL_passes_X9_today : GoodIn wsL_passes wsX9_today := goodIn_r _ [6, 7, 8, 414, 415, 416, 417, 418, 419, 420, 421, 422] (by decide +kernel) (by decide +kernel)
set_option maxRecDepth 20000 in
theorem gL_passes_X9_today : GoodIn wsL_passes (wsV RL 61 RX9 yX9_today wsX9_today) := goodIn_app (goodIn_of _ (by decide +kernel)) ggL_passes_X9_today
set_option maxRecDepth 20000 in
theorem ggL_passes_X9_settlementDay : GoodIn wsL_passes wsX9_settlementDay := goodIn_ca (goodIn_r _ [12, 7, 13, 14, 15, 5, 16, 17, 18, 19, 20, 21, 22, 23, 24, 25, 26, 27, 28, 414, 415, 416, 417, 418, 419, 420, 421, 422, 423] (by decide +kernel) (by decide +kernel)) (goodIn_sub (fun _ h => List.mem_cons_of_mem _ (List.mem_append_left _ (List.mem_append_left _ (List.mem_append_right _ h)))) (by decide +kernel))
set_option maxRecDepth 20000 in
theorem gL_passes_X9_settlementDay : GoodIn wsL_passes (wsV RL 64 RX9 yX9_settlementDay wsX9_settlementDay) := goodIn_app (goodIn_of _ (by decide +kernel)) ggL_passes_X9_settlementDay
set_option maxRecDepth 20000 in
theorem ggL_passes_L_top : GoodIn wsL_passes wsL_top := goodIn_r _ [32, 33, 34, 31, 35] (by decide +kernel) (by decide +kernel)
set_option maxRecDepth 20000 in
theorem gL_passes_L_top : GoodIn wsL_passes (va_wsS RL 29 yL_top wsL_top) := goodIn_app (goodIn_of _ (by decide +kernel)) ggL_passes_L_top
set_option maxRecDepth 20000 in
theorem ggL_passes_X9_forecast : GoodIn wsL_passes wsX9_forecast := goodIn_ca (goodIn_ca (goodIn_r _ [39, 7, 40, 41, 42, 43, 5, 44, 45, 46, 47, 48, 49, 50, 51, 52, 53, 54, 55, 56, 57, 58, 59, 60, 61, 62, 63, 64, 65, 66, 67, 68, 69, 70, 71, 14, 15, 16, 17, 18, 72, 73, 74, 75, 76, 77, 78, 79, 80, 81, 82, 83, 84, 85, 86, 87, 88, 89, 90, 91, 92, 93, 94, 95, 96, 97, 98, 99, 100, 101, 102, 103, 104, 105, 106, 107, 108, 109, 110, 111, 112, 113, 114, 115, 116, 117, 118, 119, 120, 121, 122, 123, 124, 125, 126, 127, 128, 129, 130, 131, 132, 133, 134, 135, 136, 137, 138, 139, 140, 141, 142, 143, 144, 145, 25, 26, 22, 27, 28, 146, 147, 148, 149, 150, 151, 152, 153, 154, 155, 156, 157, 158, 159, 160, 161, 162, 163, 164, 165, 166, 167, 168, 169, 170, 171, 172, 173, 174, 175, 176, 177, 178, 179, 180, 181, 182, 183, 184, 185, 186, 187, 188, 189, 190, 191, 192, 193, 194, 195, 196, 197, 198, 199, 200, 201, 202, 203, 204, 205, 206, 207, 208, 209, 210, 211, 212, 213, 214, 215, 216, 217, 218, 219, 220, 221, 222, 223, 224, 225, 226, 227, 228, 229, 230, 231, 232, 233, 234, 235, 236, 237, 238, 239, 240, 241, 242, 243, 244, 245, 246, 247, 248, 249, 250, 251, 252, 253, 254, 255, 256, 257, 258, 259, 260, 261, 262, 263, 264, 265, 266, 267, 268, 269, 270, 271, 272, 273, 274, 275, 276, 277, 278, 279, 280, 281, 282, 283, 284, 285, 286, 287, 288, 289, 290, 291, 292, 293, 294, 295, 296, 297, 298, 299, 300, 301, 302, 303, 304, 305, 306, 307, 308, 309, 310, 311, 312, 313, 314, 315, 316, 317, 318, 319, 320, 321, 322, 323, 324, 325, 326, 327, 328, 329, 330, 331, 332, 333, 334, 335, 336, 337, 338, 339, 340, 341, 342, 343, 344, 345, 346, 414, 424, 425, 426, 427, 428, 429, 430, 431, 432, 433, 434, 435, 415, 416, 417, 418, 419, 420, 421, 422, 436, 437, 438, 439, 440, 441, 442, 443, 444, 445, 446, 447, 448, 449, 450, 451, 452, 453, 454, 455, 456, 457, 458, 459, 460, 461, 462, 463, 464, 465, 466, 467, 468, 469, 423, 470, 471, 472] (by decide +kernel) (by decide +kernel)) (goodIn_sub (fun _ h => List.mem_cons_of_mem _ (List.mem_append_left _ (List.mem_append_right _ h))) (by decide +kernel))) (goodIn_sub (fun _ h => List.mem_cons_of_mem _ (List.mem_append_left _ (List.mem_append_left _ (List.mem_append_right _ h)))) (by decide +kernel))
set_option maxRecDepth 20000 in
theorem gL_passes_X9_forecast : GoodIn wsL_passes (wsV RL 67 RX9 yX9_forecast wsX9_forecast) := goodIn_app (goodIn_of _ (by decide +kernel)) ggL_passes_X9_forecast
set_option maxRecDepth 20000 in
theorem ggL_passes_X9_balance : GoodIn wsL_passes wsX9_balance := goodIn_ca (goodIn_r _ [350, 40, 41, 42, 43, 5, 44, 45, 46, 7, 47, 48, 49, 50, 51, 52, 53, 54, 55, 56, 57, 58, 59, 60, 61, 62, 63, 64, 65, 66, 67, 68, 69, 70, 71, 424, 425, 426, 427, 428, 429, 430, 431, 432, 433, 434, 435, 414, 415, 416, 417, 418, 419, 420, 421, 422, 436, 437, 438] (by decide +kernel) (by decide +kernel)) (goodIn_sub (fun _ h => List.mem_cons_of_mem _ (List.mem_append_left _ (List.mem_append_right _ h))) (by decide +kernel))
set_option maxRecDepth 20000 in
theorem gL_passes_X9_balance : GoodIn wsL_passes (wsV RL 22 RX9 yX9_balance wsX9_balance) := goodIn_app (goodIn_of _ (by decide +kernel)) ggL_passes_X9_balance
set_option maxRecDepth 20000 in
theorem ggL_passes_X9_scheduled : GoodIn wsL_passes wsX9_scheduled := goodIn_ca (goodIn_ca (goodIn_r _ [354, 7, 8, 41, 42, 43, 5, 44, 45, 46, 47, 48, 49, 50, 51, 52, 53, 54, 55, 56, 57, 58, 59, 60, 61, 62, 63, 64, 65, 66, 67, 68, 69, 70, 71, 14, 15, 16, 17, 18, 355, 356, 357, 75, 358, 85, 86, 359, 144, 87, 88, 360, 361, 362, 134, 363, 138, 136, 157, 156, 364, 20, 21, 22, 23, 24, 25, 26, 27, 28, 414, 415, 416, 417, 418, 419, 420, 421, 422, 436, 437, 438, 463, 464, 465, 466, 467, 468, 469, 423] (by decide +kernel) (by decide +kernel)) (goodIn_sub (fun _ h => List.mem_cons_of_mem _ (List.mem_append_left _ (List.mem_append_right _ h))) (by decide +kernel))) (goodIn_sub (fun _ h => List.mem_cons_of_mem _ (List.mem_append_left _ (List.mem_append_left _ (List.mem_append_right _ h)))) (by decide +kernel))
set_option maxRecDepth 20000 in
theorem gL_passes_X9_scheduled : GoodIn wsL_passes (wsV RL 71 RX9 yX9_scheduled wsX9_scheduled) := goodIn_app (goodIn_of _ (by decide +kernel)) ggL_passes_X9_scheduled
set_option maxRecDepth 20000 in
theorem ggL_passes_X9_poolInterest : GoodIn wsL_passes wsX9_poolInterest := goodIn_ca (goodIn_ca (goodIn_r _ [368, 369, 370, 371, 372, 41, 42, 43, 5, 44, 45, 46, 7, 47, 48, 49, 50, 51, 52, 53, 54, 55, 56, 57, 58, 59, 60, 61, 62, 63, 64, 65, 66, 67, 68, 69, 70, 71, 373, 374, 375, 376, 377, 378, 424, 425, 426, 427, 428, 429, 430, 431, 432, 433, 434, 435, 439, 440, 441, 442, 443, 444, 445, 446, 447, 448, 449, 450, 451, 452, 453, 414, 415, 416, 417, 418, 419, 420, 421, 422, 436, 437, 438] (by decide +kernel) (by decide +kernel)) (goodIn_sub (fun _ h => List.mem_cons_of_mem _ (List.mem_append_left _ (List.mem_append_right _ h))) (by decide +kernel))) (goodIn_sub (fun _ h => List.mem_cons_of_mem _ (List.mem_append_right _ h)) (by decide +kernel))
set_option maxRecDepth 20000 in
theorem gL_passes_X9_poolInterest : GoodIn wsL_passes (wsV RL 45 RX9 yX9_poolInterest wsX9_poolInterest) := goodIn_app (goodIn_of _ (by decide +kernel)) ggL_passes_X9_poolInterest
set_option maxRecDepth 20000 in
theorem ggL_passes_X9_costOf : GoodIn wsL_passes wsX9_costOf := goodIn_ca (goodIn_r _ [382, 383, 384, 385, 386, 5, 387, 45, 46, 7, 388, 389, 49, 50, 51, 52, 53, 54, 55, 56, 57, 58, 59, 60, 61, 62, 63, 64, 65, 66, 67, 68, 69, 70, 71, 454, 455, 456, 457, 458, 459, 460, 461, 462, 414, 415, 416, 417, 418, 419, 420, 421, 422, 436, 437, 438] (by decide +kernel) (by decide +kernel)) (goodIn_sub (fun _ h => List.mem_cons_of_mem _ (List.mem_append_left _ (List.mem_append_right _ h))) (by decide +kernel))
set_option maxRecDepth 20000 in
theorem gL_passes_X9_costOf : GoodIn wsL_passes (wsV RL 54 RX9 yX9_costOf wsX9_costOf) := goodIn_app (goodIn_of _ (by decide +kernel)) ggL_passes_X9_costOf
set_option maxRecDepth 20000 in
theorem ggL_passes_X9_drawn : GoodIn wsL_passes wsX9_drawn := goodIn_ca (goodIn_r _ [393, 394, 384, 385, 386, 5, 387, 45, 46, 7, 388, 389, 49, 50, 51, 52, 53, 54, 55, 56, 57, 58, 59, 60, 61, 62, 63, 64, 65, 66, 67, 68, 69, 70, 71, 454, 455, 456, 457, 458, 459, 460, 461, 462, 414, 415, 416, 417, 418, 419, 420, 421, 422, 436, 437, 438] (by decide +kernel) (by decide +kernel)) (goodIn_sub (fun _ h => List.mem_cons_of_mem _ (List.mem_append_left _ (List.mem_append_right _ h))) (by decide +kernel))
set_option maxRecDepth 20000 in
theorem gL_passes_X9_drawn : GoodIn wsL_passes (wsV RL 51 RX9 yX9_drawn wsX9_drawn) := goodIn_app (goodIn_of _ (by decide +kernel)) ggL_passes_X9_drawn
set_option maxRecDepth 20000 in
theorem ggL_passes_X9_passDays : GoodIn wsL_passes wsX9_passDays := goodIn_ca (goodIn_ca (goodIn_r _ [398, 376, 377, 7, 8, 14, 15, 5, 16, 17, 18, 140, 141, 142, 75, 143, 144, 77, 145, 25, 26, 22, 27, 28, 146, 147, 148, 149, 85, 86, 87, 50, 51, 52, 53, 54, 88, 56, 57, 58, 59, 60, 61, 62, 63, 64, 65, 66, 67, 68, 69, 70, 71, 150, 151, 152, 134, 153, 138, 136, 154, 155, 156, 157, 158, 159, 160, 161, 81, 80, 162, 163, 164, 165, 166, 167, 168, 169, 170, 171, 172, 173, 174, 175, 176, 177, 178, 179, 180, 181, 92, 182, 183, 184, 185, 186, 187, 188, 189, 190, 191, 192, 193, 194, 195, 196, 197, 198, 199, 200, 82, 201, 202, 203, 101, 204, 205, 206, 207, 208, 209, 210, 211, 212, 213, 214, 215, 216, 217, 218, 219, 220, 221, 222, 223, 224, 225, 226, 227, 228, 229, 79, 230, 231, 232, 233, 234, 235, 236, 237, 238, 239, 240, 241, 242, 243, 244, 245, 246, 247, 248, 249, 250, 251, 252, 253, 254, 255, 256, 257, 258, 259, 260, 261, 262, 263, 264, 265, 83, 84, 266, 267, 268, 269, 270, 271, 103, 104, 272, 273, 274, 108, 275, 276, 110, 277, 114, 278, 279, 280, 281, 282, 283, 284, 285, 123, 286, 129, 125, 287, 288, 289, 290, 291, 292, 293, 294, 295, 296, 297, 298, 299, 300, 112, 301, 302, 303, 304, 305, 306, 307, 308, 309, 310, 311, 312, 313, 314, 315, 94, 96, 316, 317, 318, 319, 320, 127, 321, 322, 414, 415, 416, 417, 418, 419, 420, 421, 422, 423, 436, 437, 438, 463, 464, 465, 466, 467, 468, 469, 424, 425, 426, 427, 428, 429, 430, 431, 432, 433, 434, 435, 439, 440, 441, 442, 443, 454, 455, 456, 457, 458, 459, 460, 461, 462, 470, 471, 472, 444, 445, 446, 447, 448, 449, 450, 451, 452, 453] (by decide +kernel) (by decide +kernel)) (goodIn_sub (fun _ h => List.mem_cons_of_mem _ (List.mem_append_right _ h)) (by decide +kernel))) (goodIn_sub (fun _ h => List.mem_cons_of_mem _ (List.mem_append_left _ (List.mem_append_left _ (List.mem_append_right _ h)))) (by decide +kernel))
set_option maxRecDepth 20000 in
theorem gL_passes_X9_passDays : GoodIn wsL_passes (wsV RL 75 RX9 yX9_passDays wsX9_passDays) := goodIn_app (goodIn_of _ (by decide +kernel)) ggL_passes_X9_passDays
set_option maxRecDepth 20000 in
theorem ggL_passes_L_isSettled : GoodIn wsL_passes wsL_isSettled := goodIn_ca (goodIn_ca (goodIn_r _ [401, 347, 348, 349, 5, 350, 40, 41, 42, 43, 44, 45, 46, 7, 47, 48, 49, 50, 51, 52, 53, 54, 55, 56, 57, 58, 59, 60, 61, 62, 63, 64, 65, 66, 67, 68, 69, 70, 71, 402, 403, 404, 405, 406, 407, 408, 409, 410, 17, 18, 411, 412, 413, 224, 225, 75, 226, 227, 228, 229, 79, 80, 230, 231, 232, 173, 174, 175, 87, 88, 29, 30, 31, 32, 33, 34, 35, 390, 391, 392, 393, 394, 384, 385, 386, 387, 388, 389, 424, 425, 426, 427, 428, 429, 430, 431, 432, 433, 434, 435, 414, 415, 416, 417, 418, 419, 420, 421, 422, 436, 437, 438, 470, 471, 472, 454, 455, 456, 457, 458, 459, 460, 461, 462] (by decide +kernel) (by decide +kernel)) (goodIn_sub (fun _ h => List.mem_cons_of_mem _ (List.mem_append_left _ (List.mem_append_right _ h))) (by decide +kernel))) (goodIn_sub (fun _ h => List.mem_cons_of_mem _ (List.mem_append_left _ (List.mem_append_left _ (List.mem_append_right _ h)))) (by decide +kernel))
set_option maxRecDepth 20000 in
theorem gL_passes_L_isSettled : GoodIn wsL_passes (va_wsS RL 78 yL_isSettled wsL_isSettled) := goodIn_app (goodIn_of _ (by decide +kernel)) ggL_passes_L_isSettled
theorem dL_passes_0 : decode cL_passes 0 = .ok (.aload_n 0, 1) := by decide +kernel
theorem dL_passes_1 : decode cL_passes 1 = .ok (.invokevirtual 61, 3) := by decide +kernel
theorem dL_passes_4 : decode cL_passes 4 = .ok (.istore_n 3, 1) := by decide +kernel
theorem dL_passes_5 : decode cL_passes 5 = .ok (.iload_n 3, 1) := by decide +kernel
theorem dL_passes_6 : decode cL_passes 6 = .ok (.sipush 400, 3) := by decide +kernel
theorem dL_passes_9 : decode cL_passes 9 = .ok (.if_icmp .lt 5, 3) := by decide +kernel
theorem dL_passes_12 : decode cL_passes 12 = .ok (.iconst 1, 1) := by decide +kernel
theorem dL_passes_13 : decode cL_passes 13 = .ok (.ireturn, 1) := by decide +kernel
theorem dL_passes_14 : decode cL_passes 14 = .ok (.aload_n 0, 1) := by decide +kernel
theorem dL_passes_15 : decode cL_passes 15 = .ok (.iload_n 3, 1) := by decide +kernel
theorem dL_passes_16 : decode cL_passes 16 = .ok (.invokevirtual 64, 3) := by decide +kernel
theorem dL_passes_19 : decode cL_passes 19 = .ok (.iload_n 3, 1) := by decide +kernel
theorem dL_passes_20 : decode cL_passes 20 = .ok (.if_icmp .ne 7, 3) := by decide +kernel
theorem dL_passes_23 : decode cL_passes 23 = .ok (.iconst 1, 1) := by decide +kernel
theorem dL_passes_24 : decode cL_passes 24 = .ok (.goto 4, 3) := by decide +kernel
theorem dL_passes_27 : decode cL_passes 27 = .ok (.iconst 0, 1) := by decide +kernel
theorem dL_passes_28 : decode cL_passes 28 = .ok (.istore 4, 2) := by decide +kernel
theorem dL_passes_30 : decode cL_passes 30 = .ok (.bipush 10, 2) := by decide +kernel
theorem dL_passes_32 : decode cL_passes 32 = .ok (.newarray .long, 2) := by decide +kernel
theorem dL_passes_34 : decode cL_passes 34 = .ok (.astore 5, 2) := by decide +kernel
theorem dL_passes_36 : decode cL_passes 36 = .ok (.bipush 10, 2) := by decide +kernel
theorem dL_passes_38 : decode cL_passes 38 = .ok (.newarray .long, 2) := by decide +kernel
theorem dL_passes_40 : decode cL_passes 40 = .ok (.astore 6, 2) := by decide +kernel
theorem dL_passes_42 : decode cL_passes 42 = .ok (.iconst 0, 1) := by decide +kernel
theorem dL_passes_43 : decode cL_passes 43 = .ok (.istore 7, 2) := by decide +kernel
theorem dL_passes_45 : decode cL_passes 45 = .ok (.iload 7, 2) := by decide +kernel
theorem dL_passes_47 : decode cL_passes 47 = .ok (.aload_n 1, 1) := by decide +kernel
theorem dL_passes_48 : decode cL_passes 48 = .ok (.iconst 0, 1) := by decide +kernel
theorem dL_passes_49 : decode cL_passes 49 = .ok (.iaload, 1) := by decide +kernel
theorem dL_passes_50 : decode cL_passes 50 = .ok (.if_icmp .ge 70, 3) := by decide +kernel
theorem dL_passes_53 : decode cL_passes 53 = .ok (.aload_n 1, 1) := by decide +kernel
theorem dL_passes_54 : decode cL_passes 54 = .ok (.iload 7, 2) := by decide +kernel
theorem dL_passes_56 : decode cL_passes 56 = .ok (.invokestatic 29, 3) := by decide +kernel
theorem dL_passes_59 : decode cL_passes 59 = .ok (.istore 8, 2) := by decide +kernel
theorem dL_passes_61 : decode cL_passes 61 = .ok (.aload 6, 2) := by decide +kernel
theorem dL_passes_63 : decode cL_passes 63 = .ok (.iload 7, 2) := by decide +kernel
theorem dL_passes_65 : decode cL_passes 65 = .ok (.aload_n 0, 1) := by decide +kernel
theorem dL_passes_66 : decode cL_passes 66 = .ok (.iload 7, 2) := by decide +kernel
theorem dL_passes_68 : decode cL_passes 68 = .ok (.iconst 1, 1) := by decide +kernel
theorem dL_passes_69 : decode cL_passes 69 = .ok (.invokevirtual 67, 3) := by decide +kernel
theorem dL_passes_72 : decode cL_passes 72 = .ok (.lastore, 1) := by decide +kernel
theorem dL_passes_73 : decode cL_passes 73 = .ok (.aload 5, 2) := by decide +kernel
theorem dL_passes_75 : decode cL_passes 75 = .ok (.iload 8, 2) := by decide +kernel
theorem dL_passes_77 : decode cL_passes 77 = .ok (.dup2, 1) := by decide +kernel
theorem dL_passes_78 : decode cL_passes 78 = .ok (.laload, 1) := by decide +kernel
theorem dL_passes_79 : decode cL_passes 79 = .ok (.aload_n 0, 1) := by decide +kernel
theorem dL_passes_80 : decode cL_passes 80 = .ok (.iload 7, 2) := by decide +kernel
theorem dL_passes_82 : decode cL_passes 82 = .ok (.invokevirtual 22, 3) := by decide +kernel
theorem dL_passes_85 : decode cL_passes 85 = .ok (.aload_n 0, 1) := by decide +kernel
theorem dL_passes_86 : decode cL_passes 86 = .ok (.iload 7, 2) := by decide +kernel
theorem dL_passes_88 : decode cL_passes 88 = .ok (.iload_n 3, 1) := by decide +kernel
theorem dL_passes_89 : decode cL_passes 89 = .ok (.iload_n 3, 1) := by decide +kernel
theorem dL_passes_90 : decode cL_passes 90 = .ok (.invokevirtual 71, 3) := by decide +kernel
theorem dL_passes_93 : decode cL_passes 93 = .ok (.ladd, 1) := by decide +kernel
theorem dL_passes_94 : decode cL_passes 94 = .ok (.iload 7, 2) := by decide +kernel
theorem dL_passes_96 : decode cL_passes 96 = .ok (.iload 8, 2) := by decide +kernel
theorem dL_passes_98 : decode cL_passes 98 = .ok (.if_icmp .ne 12, 3) := by decide +kernel
theorem dL_passes_101 : decode cL_passes 101 = .ok (.aload_n 0, 1) := by decide +kernel
theorem dL_passes_102 : decode cL_passes 102 = .ok (.iload 7, 2) := by decide +kernel
theorem dL_passes_104 : decode cL_passes 104 = .ok (.invokevirtual 45, 3) := by decide +kernel
theorem dL_passes_107 : decode cL_passes 107 = .ok (.goto 4, 3) := by decide +kernel
theorem dL_passes_110 : decode cL_passes 110 = .ok (.lconst 0, 1) := by decide +kernel
theorem dL_passes_111 : decode cL_passes 111 = .ok (.lsub, 1) := by decide +kernel
theorem dL_passes_112 : decode cL_passes 112 = .ok (.ladd, 1) := by decide +kernel
theorem dL_passes_113 : decode cL_passes 113 = .ok (.lastore, 1) := by decide +kernel
theorem dL_passes_114 : decode cL_passes 114 = .ok (.iinc 7 1, 3) := by decide +kernel
theorem dL_passes_117 : decode cL_passes 117 = .ok (.goto (-72), 3) := by decide +kernel
theorem dL_passes_120 : decode cL_passes 120 = .ok (.iconst 0, 1) := by decide +kernel
theorem dL_passes_121 : decode cL_passes 121 = .ok (.istore 7, 2) := by decide +kernel
theorem dL_passes_123 : decode cL_passes 123 = .ok (.iload 7, 2) := by decide +kernel
theorem dL_passes_125 : decode cL_passes 125 = .ok (.aload_n 1, 1) := by decide +kernel
theorem dL_passes_126 : decode cL_passes 126 = .ok (.iconst 1, 1) := by decide +kernel
theorem dL_passes_127 : decode cL_passes 127 = .ok (.iaload, 1) := by decide +kernel
theorem dL_passes_128 : decode cL_passes 128 = .ok (.if_icmp .ge 38, 3) := by decide +kernel
theorem dL_passes_131 : decode cL_passes 131 = .ok (.aload 5, 2) := by decide +kernel
theorem dL_passes_133 : decode cL_passes 133 = .ok (.aload_n 1, 1) := by decide +kernel
theorem dL_passes_134 : decode cL_passes 134 = .ok (.iconst 2, 1) := by decide +kernel
theorem dL_passes_135 : decode cL_passes 135 = .ok (.iload 7, 2) := by decide +kernel
theorem dL_passes_137 : decode cL_passes 137 = .ok (.imul, 1) := by decide +kernel
theorem dL_passes_138 : decode cL_passes 138 = .ok (.bipush 22, 2) := by decide +kernel
theorem dL_passes_140 : decode cL_passes 140 = .ok (.iadd, 1) := by decide +kernel
theorem dL_passes_141 : decode cL_passes 141 = .ok (.iaload, 1) := by decide +kernel
theorem dL_passes_142 : decode cL_passes 142 = .ok (.dup2, 1) := by decide +kernel
theorem dL_passes_143 : decode cL_passes 143 = .ok (.laload, 1) := by decide +kernel
theorem dL_passes_144 : decode cL_passes 144 = .ok (.aload_n 0, 1) := by decide +kernel
theorem dL_passes_145 : decode cL_passes 145 = .ok (.iload 7, 2) := by decide +kernel
theorem dL_passes_147 : decode cL_passes 147 = .ok (.invokevirtual 54, 3) := by decide +kernel
theorem dL_passes_150 : decode cL_passes 150 = .ok (.aload_n 0, 1) := by decide +kernel
theorem dL_passes_151 : decode cL_passes 151 = .ok (.iload 7, 2) := by decide +kernel
theorem dL_passes_153 : decode cL_passes 153 = .ok (.invokevirtual 51, 3) := by decide +kernel
theorem dL_passes_156 : decode cL_passes 156 = .ok (.i2l, 1) := by decide +kernel
theorem dL_passes_157 : decode cL_passes 157 = .ok (.lsub, 1) := by decide +kernel
theorem dL_passes_158 : decode cL_passes 158 = .ok (.ladd, 1) := by decide +kernel
theorem dL_passes_159 : decode cL_passes 159 = .ok (.lastore, 1) := by decide +kernel
theorem dL_passes_160 : decode cL_passes 160 = .ok (.iinc 7 1, 3) := by decide +kernel
theorem dL_passes_163 : decode cL_passes 163 = .ok (.goto (-40), 3) := by decide +kernel
theorem dL_passes_166 : decode cL_passes 166 = .ok (.aload_n 0, 1) := by decide +kernel
theorem dL_passes_167 : decode cL_passes 167 = .ok (.iconst 1, 1) := by decide +kernel
theorem dL_passes_168 : decode cL_passes 168 = .ok (.invokevirtual 75, 3) := by decide +kernel
theorem dL_passes_171 : decode cL_passes 171 = .ok (.iload_n 3, 1) := by decide +kernel
theorem dL_passes_172 : decode cL_passes 172 = .ok (.iconst 1, 1) := by decide +kernel
theorem dL_passes_173 : decode cL_passes 173 = .ok (.iadd, 1) := by decide +kernel
theorem dL_passes_174 : decode cL_passes 174 = .ok (.if_icmp .ne 7, 3) := by decide +kernel
theorem dL_passes_177 : decode cL_passes 177 = .ok (.iconst 1, 1) := by decide +kernel
theorem dL_passes_178 : decode cL_passes 178 = .ok (.goto 4, 3) := by decide +kernel
theorem dL_passes_181 : decode cL_passes 181 = .ok (.iconst 0, 1) := by decide +kernel
theorem dL_passes_182 : decode cL_passes 182 = .ok (.istore 7, 2) := by decide +kernel
theorem dL_passes_184 : decode cL_passes 184 = .ok (.iconst 0, 1) := by decide +kernel
theorem dL_passes_185 : decode cL_passes 185 = .ok (.istore 8, 2) := by decide +kernel
theorem dL_passes_187 : decode cL_passes 187 = .ok (.iload 8, 2) := by decide +kernel
theorem dL_passes_189 : decode cL_passes 189 = .ok (.aload_n 1, 1) := by decide +kernel
theorem dL_passes_190 : decode cL_passes 190 = .ok (.iconst 0, 1) := by decide +kernel
theorem dL_passes_191 : decode cL_passes 191 = .ok (.iaload, 1) := by decide +kernel
theorem dL_passes_192 : decode cL_passes 192 = .ok (.if_icmp .ge 76, 3) := by decide +kernel
theorem dL_passes_195 : decode cL_passes 195 = .ok (.aload_n 1, 1) := by decide +kernel
theorem dL_passes_196 : decode cL_passes 196 = .ok (.iload 8, 2) := by decide +kernel
theorem dL_passes_198 : decode cL_passes 198 = .ok (.invokestatic 29, 3) := by decide +kernel
theorem dL_passes_201 : decode cL_passes 201 = .ok (.istore 9, 2) := by decide +kernel
theorem dL_passes_203 : decode cL_passes 203 = .ok (.aload 5, 2) := by decide +kernel
theorem dL_passes_205 : decode cL_passes 205 = .ok (.iload 9, 2) := by decide +kernel
theorem dL_passes_207 : decode cL_passes 207 = .ok (.dup2, 1) := by decide +kernel
theorem dL_passes_208 : decode cL_passes 208 = .ok (.laload, 1) := by decide +kernel
theorem dL_passes_209 : decode cL_passes 209 = .ok (.aload_n 0, 1) := by decide +kernel
theorem dL_passes_210 : decode cL_passes 210 = .ok (.iload 8, 2) := by decide +kernel
theorem dL_passes_212 : decode cL_passes 212 = .ok (.invokevirtual 22, 3) := by decide +kernel
theorem dL_passes_215 : decode cL_passes 215 = .ok (.iload 8, 2) := by decide +kernel
theorem dL_passes_217 : decode cL_passes 217 = .ok (.iload 9, 2) := by decide +kernel
theorem dL_passes_219 : decode cL_passes 219 = .ok (.if_icmp .ne 12, 3) := by decide +kernel
theorem dL_passes_222 : decode cL_passes 222 = .ok (.aload_n 0, 1) := by decide +kernel
theorem dL_passes_223 : decode cL_passes 223 = .ok (.iload 8, 2) := by decide +kernel
theorem dL_passes_225 : decode cL_passes 225 = .ok (.invokevirtual 45, 3) := by decide +kernel
theorem dL_passes_228 : decode cL_passes 228 = .ok (.goto 4, 3) := by decide +kernel
theorem dL_passes_231 : decode cL_passes 231 = .ok (.lconst 0, 1) := by decide +kernel
theorem dL_passes_232 : decode cL_passes 232 = .ok (.lsub, 1) := by decide +kernel
theorem dL_passes_233 : decode cL_passes 233 = .ok (.lsub, 1) := by decide +kernel
theorem dL_passes_234 : decode cL_passes 234 = .ok (.lastore, 1) := by decide +kernel
theorem dL_passes_235 : decode cL_passes 235 = .ok (.iload 7, 2) := by decide +kernel
theorem dL_passes_237 : decode cL_passes 237 = .ok (.ifCond .eq 22, 3) := by decide +kernel
theorem dL_passes_240 : decode cL_passes 240 = .ok (.aload_n 0, 1) := by decide +kernel
theorem dL_passes_241 : decode cL_passes 241 = .ok (.iload 8, 2) := by decide +kernel
theorem dL_passes_243 : decode cL_passes 243 = .ok (.invokevirtual 22, 3) := by decide +kernel
theorem dL_passes_246 : decode cL_passes 246 = .ok (.aload 6, 2) := by decide +kernel
theorem dL_passes_248 : decode cL_passes 248 = .ok (.iload 8, 2) := by decide +kernel
theorem dL_passes_250 : decode cL_passes 250 = .ok (.laload, 1) := by decide +kernel
theorem dL_passes_251 : decode cL_passes 251 = .ok (.lcmp, 1) := by decide +kernel
theorem dL_passes_252 : decode cL_passes 252 = .ok (.ifCond .ne 7, 3) := by decide +kernel
theorem dL_passes_255 : decode cL_passes 255 = .ok (.iconst 1, 1) := by decide +kernel
theorem dL_passes_256 : decode cL_passes 256 = .ok (.goto 4, 3) := by decide +kernel
theorem dL_passes_259 : decode cL_passes 259 = .ok (.iconst 0, 1) := by decide +kernel
theorem dL_passes_260 : decode cL_passes 260 = .ok (.istore 7, 2) := by decide +kernel
theorem dL_passes_262 : decode cL_passes 262 = .ok (.iinc 8 1, 3) := by decide +kernel
theorem dL_passes_265 : decode cL_passes 265 = .ok (.goto (-78), 3) := by decide +kernel
theorem dL_passes_268 : decode cL_passes 268 = .ok (.iconst 0, 1) := by decide +kernel
theorem dL_passes_269 : decode cL_passes 269 = .ok (.istore 8, 2) := by decide +kernel
theorem dL_passes_271 : decode cL_passes 271 = .ok (.iload 8, 2) := by decide +kernel
theorem dL_passes_273 : decode cL_passes 273 = .ok (.aload_n 1, 1) := by decide +kernel
theorem dL_passes_274 : decode cL_passes 274 = .ok (.iconst 1, 1) := by decide +kernel
theorem dL_passes_275 : decode cL_passes 275 = .ok (.iaload, 1) := by decide +kernel
theorem dL_passes_276 : decode cL_passes 276 = .ok (.if_icmp .ge 38, 3) := by decide +kernel
theorem dL_passes_279 : decode cL_passes 279 = .ok (.aload 5, 2) := by decide +kernel
theorem dL_passes_281 : decode cL_passes 281 = .ok (.aload_n 1, 1) := by decide +kernel
theorem dL_passes_282 : decode cL_passes 282 = .ok (.iconst 2, 1) := by decide +kernel
theorem dL_passes_283 : decode cL_passes 283 = .ok (.iload 8, 2) := by decide +kernel
theorem dL_passes_285 : decode cL_passes 285 = .ok (.imul, 1) := by decide +kernel
theorem dL_passes_286 : decode cL_passes 286 = .ok (.bipush 22, 2) := by decide +kernel
theorem dL_passes_288 : decode cL_passes 288 = .ok (.iadd, 1) := by decide +kernel
theorem dL_passes_289 : decode cL_passes 289 = .ok (.iaload, 1) := by decide +kernel
theorem dL_passes_290 : decode cL_passes 290 = .ok (.dup2, 1) := by decide +kernel
theorem dL_passes_291 : decode cL_passes 291 = .ok (.laload, 1) := by decide +kernel
theorem dL_passes_292 : decode cL_passes 292 = .ok (.aload_n 0, 1) := by decide +kernel
theorem dL_passes_293 : decode cL_passes 293 = .ok (.iload 8, 2) := by decide +kernel
theorem dL_passes_295 : decode cL_passes 295 = .ok (.invokevirtual 54, 3) := by decide +kernel
theorem dL_passes_298 : decode cL_passes 298 = .ok (.aload_n 0, 1) := by decide +kernel
theorem dL_passes_299 : decode cL_passes 299 = .ok (.iload 8, 2) := by decide +kernel
theorem dL_passes_301 : decode cL_passes 301 = .ok (.invokevirtual 51, 3) := by decide +kernel
theorem dL_passes_304 : decode cL_passes 304 = .ok (.i2l, 1) := by decide +kernel
theorem dL_passes_305 : decode cL_passes 305 = .ok (.lsub, 1) := by decide +kernel
theorem dL_passes_306 : decode cL_passes 306 = .ok (.lsub, 1) := by decide +kernel
theorem dL_passes_307 : decode cL_passes 307 = .ok (.lastore, 1) := by decide +kernel
theorem dL_passes_308 : decode cL_passes 308 = .ok (.iinc 8 1, 3) := by decide +kernel
theorem dL_passes_311 : decode cL_passes 311 = .ok (.goto (-40), 3) := by decide +kernel
theorem dL_passes_314 : decode cL_passes 314 = .ok (.iconst 0, 1) := by decide +kernel
theorem dL_passes_315 : decode cL_passes 315 = .ok (.istore 8, 2) := by decide +kernel
theorem dL_passes_317 : decode cL_passes 317 = .ok (.iload 8, 2) := by decide +kernel
theorem dL_passes_319 : decode cL_passes 319 = .ok (.aload_n 1, 1) := by decide +kernel
theorem dL_passes_320 : decode cL_passes 320 = .ok (.iconst 0, 1) := by decide +kernel
theorem dL_passes_321 : decode cL_passes 321 = .ok (.iaload, 1) := by decide +kernel
theorem dL_passes_322 : decode cL_passes 322 = .ok (.if_icmp .ge 31, 3) := by decide +kernel
theorem dL_passes_325 : decode cL_passes 325 = .ok (.iload 7, 2) := by decide +kernel
theorem dL_passes_327 : decode cL_passes 327 = .ok (.ifCond .eq 17, 3) := by decide +kernel
theorem dL_passes_330 : decode cL_passes 330 = .ok (.aload 5, 2) := by decide +kernel
theorem dL_passes_332 : decode cL_passes 332 = .ok (.iload 8, 2) := by decide +kernel
theorem dL_passes_334 : decode cL_passes 334 = .ok (.laload, 1) := by decide +kernel
theorem dL_passes_335 : decode cL_passes 335 = .ok (.lconst 0, 1) := by decide +kernel
theorem dL_passes_336 : decode cL_passes 336 = .ok (.lcmp, 1) := by decide +kernel
theorem dL_passes_337 : decode cL_passes 337 = .ok (.ifCond .ne 7, 3) := by decide +kernel
theorem dL_passes_340 : decode cL_passes 340 = .ok (.iconst 1, 1) := by decide +kernel
theorem dL_passes_341 : decode cL_passes 341 = .ok (.goto 4, 3) := by decide +kernel
theorem dL_passes_344 : decode cL_passes 344 = .ok (.iconst 0, 1) := by decide +kernel
theorem dL_passes_345 : decode cL_passes 345 = .ok (.istore 7, 2) := by decide +kernel
theorem dL_passes_347 : decode cL_passes 347 = .ok (.iinc 8 1, 3) := by decide +kernel
theorem dL_passes_350 : decode cL_passes 350 = .ok (.goto (-33), 3) := by decide +kernel
theorem dL_passes_353 : decode cL_passes 353 = .ok (.iload 7, 2) := by decide +kernel
theorem dL_passes_355 : decode cL_passes 355 = .ok (.ifCond .eq 30, 3) := by decide +kernel
theorem dL_passes_358 : decode cL_passes 358 = .ok (.iload_n 3, 1) := by decide +kernel
theorem dL_passes_359 : decode cL_passes 359 = .ok (.iconst 1, 1) := by decide +kernel
theorem dL_passes_360 : decode cL_passes 360 = .ok (.iadd, 1) := by decide +kernel
theorem dL_passes_361 : decode cL_passes 361 = .ok (.bipush 20, 2) := by decide +kernel
theorem dL_passes_363 : decode cL_passes 363 = .ok (.irem, 1) := by decide +kernel
theorem dL_passes_364 : decode cL_passes 364 = .ok (.ifCond .eq 17, 3) := by decide +kernel
theorem dL_passes_367 : decode cL_passes 367 = .ok (.iload 4, 2) := by decide +kernel
theorem dL_passes_369 : decode cL_passes 369 = .ok (.ifCond .eq 12, 3) := by decide +kernel
theorem dL_passes_372 : decode cL_passes 372 = .ok (.aload_n 0, 1) := by decide +kernel
theorem dL_passes_373 : decode cL_passes 373 = .ok (.aload_n 1, 1) := by decide +kernel
theorem dL_passes_374 : decode cL_passes 374 = .ok (.aload_n 2, 1) := by decide +kernel
theorem dL_passes_375 : decode cL_passes 375 = .ok (.invokestatic 78, 3) := by decide +kernel
theorem dL_passes_378 : decode cL_passes 378 = .ok (.ifCond .eq 7, 3) := by decide +kernel
theorem dL_passes_381 : decode cL_passes 381 = .ok (.iconst 1, 1) := by decide +kernel
theorem dL_passes_382 : decode cL_passes 382 = .ok (.goto 4, 3) := by decide +kernel
theorem dL_passes_385 : decode cL_passes 385 = .ok (.iconst 0, 1) := by decide +kernel
theorem dL_passes_386 : decode cL_passes 386 = .ok (.ireturn, 1) := by decide +kernel
set_option maxRecDepth 20000 in
theorem ggL_foretells_X9_today : GoodIn wsL_foretells wsX9_today := goodIn_r _ [6, 7, 8, 348, 349, 350, 351, 352, 353, 354, 355, 356] (by decide +kernel) (by decide +kernel)
set_option maxRecDepth 20000 in
theorem gL_foretells_X9_today : GoodIn wsL_foretells (wsV RL 61 RX9 yX9_today wsX9_today) := goodIn_app (goodIn_of _ (by decide +kernel)) ggL_foretells_X9_today
set_option maxRecDepth 20000 in
theorem ggL_foretells_X9_daysToShort : GoodIn wsL_foretells wsX9_daysToShort := goodIn_ca (goodIn_ca (goodIn_ca (goodIn_r _ [12, 7, 13, 14, 15, 16, 5, 17, 18, 19, 20, 21, 22, 23, 24, 25, 26, 27, 28, 29, 30, 31, 32, 33, 34, 35, 36, 37, 38, 39, 40, 41, 42, 43, 44, 45, 46, 47, 48, 49, 50, 51, 52, 53, 54, 55, 56, 57, 58, 59, 60, 61, 62, 63, 64, 65, 66, 67, 68, 69, 70, 71, 72, 73, 74, 75, 76, 77, 78, 79, 80, 81, 82, 83, 84, 85, 86, 87, 88, 89, 90, 91, 92, 93, 94, 95, 96, 97, 98, 99, 100, 101, 102, 103, 104, 105, 106, 107, 108, 109, 110, 111, 112, 113, 114, 115, 116, 117, 118, 119, 120, 121, 122, 123, 124, 125, 126, 127, 128, 129, 130, 131, 132, 133, 134, 135, 136, 137, 138, 139, 140, 141, 142, 143, 144, 145, 146, 147, 148, 149, 150, 151, 152, 153, 154, 155, 156, 157, 158, 159, 160, 161, 162, 163, 164, 165, 166, 167, 168, 169, 170, 171, 172, 173, 174, 175, 176, 177, 178, 179, 180, 181, 182, 183, 184, 185, 186, 187, 188, 189, 190, 191, 192, 193, 194, 195, 196, 197, 198, 199, 200, 201, 202, 203, 204, 205, 206, 207, 208, 209, 210, 211, 212, 213, 214, 215, 216, 217, 218, 219, 220, 221, 222, 223, 224, 225, 226, 227, 228, 229, 230, 231, 232, 233, 234, 235, 236, 237, 238, 239, 240, 241, 242, 243, 244, 245, 246, 247, 248, 249, 250, 251, 252, 253, 254, 255, 256, 257, 258, 259, 260, 261, 262, 263, 264, 265, 266, 267, 268, 269, 270, 271, 272, 273, 274, 275, 276, 277, 278, 279, 280, 281, 282, 283, 284, 285, 286, 287, 288, 289, 290, 291, 292, 293, 294, 295, 296, 297, 298, 299, 300, 301, 302, 303, 304, 305, 306, 307, 308, 309, 310, 311, 312, 313, 314, 315, 316, 317, 318, 319, 320, 321, 322, 323, 324, 325, 326, 327, 328, 329, 330, 331, 332, 333, 334, 335, 348, 357, 358, 359, 360, 361, 362, 363, 364, 365, 366, 367, 368, 349, 350, 351, 352, 353, 354, 355, 356, 369, 370, 371, 372, 373, 374, 375, 376, 377, 378, 379, 380, 381, 382, 383, 384, 385, 386, 387, 388, 389, 390, 391, 392, 393, 394, 395, 396, 397, 398, 399, 400, 401, 402, 403, 404, 405, 406] (by decide +kernel) (by decide +kernel)) (goodIn_sub (fun _ h => List.mem_cons_of_mem _ (List.mem_append_left _ (List.mem_append_left _ (List.mem_append_right _ h)))) (by decide +kernel))) (goodIn_sub (fun _ h => List.mem_cons_of_mem _ (List.mem_append_left _ (List.mem_append_right _ h))) (by decide +kernel))) (goodIn_sub (fun _ h => List.mem_cons_of_mem _ (List.mem_append_right _ h)) (by decide +kernel))
set_option maxRecDepth 20000 in
theorem gL_foretells_X9_daysToShort : GoodIn wsL_foretells (wsV RL 82 RX9 yX9_daysToShort wsX9_daysToShort) := goodIn_app (goodIn_of _ (by decide +kernel)) ggL_foretells_X9_daysToShort
set_option maxRecDepth 20000 in
theorem ggL_foretells_X9_forecast : GoodIn wsL_foretells wsX9_forecast := goodIn_ca (goodIn_ca (goodIn_r _ [339, 7, 13, 14, 15, 16, 5, 17, 18, 19, 20, 21, 22, 23, 24, 25, 26, 27, 28, 29, 30, 31, 32, 33, 34, 35, 36, 37, 38, 39, 40, 41, 42, 43, 44, 45, 46, 47, 48, 49, 56, 57, 58, 59, 60, 61, 62, 63, 64, 65, 66, 67, 68, 69, 70, 71, 72, 73, 74, 75, 76, 77, 78, 79, 80, 81, 82, 83, 84, 85, 86, 87, 88, 89, 90, 91, 92, 93, 94, 95, 96, 97, 98, 99, 100, 101, 102, 103, 104, 105, 106, 107, 108, 109, 110, 111, 112, 113, 114, 115, 116, 117, 118, 119, 120, 121, 122, 123, 124, 125, 126, 127, 128, 129, 130, 131, 132, 133, 134, 135, 136, 137, 138, 139, 140, 141, 142, 143, 144, 145, 146, 147, 148, 149, 150, 151, 152, 153, 154, 155, 156, 157, 158, 159, 160, 161, 162, 163, 164, 165, 166, 167, 168, 169, 170, 171, 172, 173, 174, 175, 176, 177, 178, 179, 180, 181, 182, 183, 184, 185, 186, 187, 188, 189, 190, 191, 192, 193, 194, 195, 196, 197, 198, 199, 200, 201, 202, 203, 204, 205, 206, 207, 208, 209, 210, 211, 212, 213, 214, 215, 216, 217, 218, 219, 220, 221, 222, 223, 224, 225, 226, 227, 228, 229, 230, 231, 232, 233, 234, 235, 236, 237, 238, 239, 240, 241, 242, 243, 244, 245, 246, 247, 248, 249, 250, 251, 252, 253, 254, 255, 256, 257, 258, 259, 260, 261, 262, 263, 264, 265, 266, 267, 268, 269, 270, 271, 272, 273, 274, 275, 276, 277, 278, 279, 280, 281, 282, 283, 284, 285, 286, 287, 288, 289, 290, 291, 292, 293, 294, 295, 296, 297, 298, 299, 300, 301, 302, 303, 304, 305, 306, 307, 308, 309, 310, 311, 312, 313, 314, 315, 316, 317, 318, 319, 320, 321, 322, 323, 324, 325, 326, 327, 328, 329, 330, 331, 332, 333, 334, 335, 348, 357, 358, 359, 360, 361, 362, 363, 364, 365, 366, 367, 368, 349, 350, 351, 352, 353, 354, 355, 356, 369, 370, 371, 372, 373, 374, 375, 376, 377, 378, 379, 380, 381, 382, 383, 384, 385, 386, 387, 388, 389, 390, 391, 392, 393, 394, 395, 396, 397, 398, 399, 400, 401, 402, 403, 404, 405, 406] (by decide +kernel) (by decide +kernel)) (goodIn_sub (fun _ h => List.mem_cons_of_mem _ (List.mem_append_left _ (List.mem_append_left _ (List.mem_append_right _ h)))) (by decide +kernel))) (goodIn_sub (fun _ h => List.mem_cons_of_mem _ (List.mem_append_left _ (List.mem_append_right _ h))) (by decide +kernel))
set_option maxRecDepth 20000 in
theorem gL_foretells_X9_forecast : GoodIn wsL_foretells (wsV RL 67 RX9 yX9_forecast wsX9_forecast) := goodIn_app (goodIn_of _ (by decide +kernel)) ggL_foretells_X9_forecast
set_option maxRecDepth 20000 in
theorem ggL_foretells_X9_passDays : GoodIn wsL_foretells wsX9_passDays := goodIn_ca (goodIn_ca (goodIn_r _ [343, 53, 54, 7, 8, 45, 46, 5, 47, 48, 49, 124, 125, 126, 59, 127, 128, 61, 129, 130, 131, 132, 133, 134, 135, 136, 137, 138, 69, 70, 71, 23, 24, 25, 26, 27, 72, 29, 30, 31, 32, 33, 34, 35, 36, 37, 38, 39, 40, 41, 42, 43, 44, 139, 140, 141, 118, 142, 122, 120, 143, 144, 145, 146, 147, 148, 149, 150, 65, 64, 151, 152, 153, 154, 155, 156, 157, 158, 159, 160, 161, 162, 163, 164, 165, 166, 167, 168, 169, 170, 76, 171, 172, 173, 174, 175, 176, 177, 178, 179, 180, 181, 182, 183, 184, 185, 186, 187, 188, 189, 66, 190, 191, 192, 85, 193, 194, 195, 196, 197, 198, 199, 200, 201, 202, 203, 204, 205, 206, 207, 208, 209, 210, 211, 212, 213, 214, 215, 216, 217, 218, 63, 219, 220, 221, 222, 223, 224, 225, 226, 227, 228, 229, 230, 231, 232, 233, 234, 235, 236, 237, 238, 239, 240, 241, 242, 243, 244, 245, 246, 247, 248, 249, 250, 251, 252, 253, 254, 67, 68, 255, 256, 257, 258, 259, 260, 87, 88, 261, 262, 263, 92, 264, 265, 94, 266, 98, 267, 268, 269, 270, 271, 272, 273, 274, 107, 275, 113, 109, 276, 277, 278, 279, 280, 281, 282, 283, 284, 285, 286, 287, 288, 289, 96, 290, 291, 292, 293, 294, 295, 296, 297, 298, 299, 300, 301, 302, 303, 304, 78, 80, 305, 306, 307, 308, 309, 111, 310, 311, 348, 349, 350, 351, 352, 353, 354, 355, 356, 403, 369, 370, 371, 396, 397, 398, 399, 400, 401, 402, 357, 358, 359, 360, 361, 362, 363, 364, 365, 366, 367, 368, 372, 373, 374, 375, 376, 387, 388, 389, 390, 391, 392, 393, 394, 395, 404, 405, 406, 377, 378, 379, 380, 381, 382, 383, 384, 385, 386] (by decide +kernel) (by decide +kernel)) (goodIn_sub (fun _ h => List.mem_cons_of_mem _ (List.mem_append_right _ h)) (by decide +kernel))) (goodIn_sub (fun _ h => List.mem_cons_of_mem _ (List.mem_append_left _ (List.mem_append_right _ h))) (by decide +kernel))
set_option maxRecDepth 20000 in
theorem gL_foretells_X9_passDays : GoodIn wsL_foretells (wsV RL 75 RX9 yX9_passDays wsX9_passDays) := goodIn_app (goodIn_of _ (by decide +kernel)) ggL_foretells_X9_passDays
set_option maxRecDepth 20000 in
theorem ggL_foretells_X9_balance : GoodIn wsL_foretells wsX9_balance := goodIn_ca (goodIn_r _ [347, 13, 14, 15, 16, 5, 17, 18, 19, 7, 20, 21, 22, 23, 24, 25, 26, 27, 28, 29, 30, 31, 32, 33, 34, 35, 36, 37, 38, 39, 40, 41, 42, 43, 44, 357, 358, 359, 360, 361, 362, 363, 364, 365, 366, 367, 368, 348, 349, 350, 351, 352, 353, 354, 355, 356, 369, 370, 371] (by decide +kernel) (by decide +kernel)) (goodIn_sub (fun _ h => List.mem_cons_of_mem _ (List.mem_append_left _ (List.mem_append_left _ (List.mem_append_right _ h)))) (by decide +kernel))
set_option maxRecDepth 20000 in
theorem gL_foretells_X9_balance : GoodIn wsL_foretells (wsV RL 22 RX9 yX9_balance wsX9_balance) := goodIn_app (goodIn_of _ (by decide +kernel)) ggL_foretells_X9_balance
theorem dL_foretells_0 : decode cL_foretells 0 = .ok (.sipush 400, 3) := by decide +kernel
theorem dL_foretells_3 : decode cL_foretells 3 = .ok (.aload_n 0, 1) := by decide +kernel
theorem dL_foretells_4 : decode cL_foretells 4 = .ok (.invokevirtual 61, 3) := by decide +kernel
theorem dL_foretells_7 : decode cL_foretells 7 = .ok (.isub, 1) := by decide +kernel
theorem dL_foretells_8 : decode cL_foretells 8 = .ok (.iload_n 3, 1) := by decide +kernel
theorem dL_foretells_9 : decode cL_foretells 9 = .ok (.if_icmp .ge 14, 3) := by decide +kernel
theorem dL_foretells_12 : decode cL_foretells 12 = .ok (.sipush 400, 3) := by decide +kernel
theorem dL_foretells_15 : decode cL_foretells 15 = .ok (.aload_n 0, 1) := by decide +kernel
theorem dL_foretells_16 : decode cL_foretells 16 = .ok (.invokevirtual 61, 3) := by decide +kernel
theorem dL_foretells_19 : decode cL_foretells 19 = .ok (.isub, 1) := by decide +kernel
theorem dL_foretells_20 : decode cL_foretells 20 = .ok (.goto 4, 3) := by decide +kernel
theorem dL_foretells_23 : decode cL_foretells 23 = .ok (.iload_n 3, 1) := by decide +kernel
theorem dL_foretells_24 : decode cL_foretells 24 = .ok (.istore 4, 2) := by decide +kernel
theorem dL_foretells_26 : decode cL_foretells 26 = .ok (.aload_n 0, 1) := by decide +kernel
theorem dL_foretells_27 : decode cL_foretells 27 = .ok (.iload_n 2, 1) := by decide +kernel
theorem dL_foretells_28 : decode cL_foretells 28 = .ok (.iload_n 3, 1) := by decide +kernel
theorem dL_foretells_29 : decode cL_foretells 29 = .ok (.invokevirtual 82, 3) := by decide +kernel
theorem dL_foretells_32 : decode cL_foretells 32 = .ok (.istore 5, 2) := by decide +kernel
theorem dL_foretells_34 : decode cL_foretells 34 = .ok (.iload 5, 2) := by decide +kernel
theorem dL_foretells_36 : decode cL_foretells 36 = .ok (.iconst (-1), 1) := by decide +kernel
theorem dL_foretells_37 : decode cL_foretells 37 = .ok (.if_icmp .eq 46, 3) := by decide +kernel
theorem dL_foretells_40 : decode cL_foretells 40 = .ok (.iload 5, 2) := by decide +kernel
theorem dL_foretells_42 : decode cL_foretells 42 = .ok (.iconst 1, 1) := by decide +kernel
theorem dL_foretells_43 : decode cL_foretells 43 = .ok (.if_icmp .lt 44, 3) := by decide +kernel
theorem dL_foretells_46 : decode cL_foretells 46 = .ok (.iload 5, 2) := by decide +kernel
theorem dL_foretells_48 : decode cL_foretells 48 = .ok (.iload_n 3, 1) := by decide +kernel
theorem dL_foretells_49 : decode cL_foretells 49 = .ok (.if_icmp .gt 38, 3) := by decide +kernel
theorem dL_foretells_52 : decode cL_foretells 52 = .ok (.aload_n 0, 1) := by decide +kernel
theorem dL_foretells_53 : decode cL_foretells 53 = .ok (.iload_n 2, 1) := by decide +kernel
theorem dL_foretells_54 : decode cL_foretells 54 = .ok (.iload 5, 2) := by decide +kernel
theorem dL_foretells_56 : decode cL_foretells 56 = .ok (.invokevirtual 67, 3) := by decide +kernel
theorem dL_foretells_59 : decode cL_foretells 59 = .ok (.lconst 0, 1) := by decide +kernel
theorem dL_foretells_60 : decode cL_foretells 60 = .ok (.lcmp, 1) := by decide +kernel
theorem dL_foretells_61 : decode cL_foretells 61 = .ok (.ifCond .ge 26, 3) := by decide +kernel
theorem dL_foretells_64 : decode cL_foretells 64 = .ok (.iload 5, 2) := by decide +kernel
theorem dL_foretells_66 : decode cL_foretells 66 = .ok (.iconst 1, 1) := by decide +kernel
theorem dL_foretells_67 : decode cL_foretells 67 = .ok (.if_icmp .eq 16, 3) := by decide +kernel
theorem dL_foretells_70 : decode cL_foretells 70 = .ok (.aload_n 0, 1) := by decide +kernel
theorem dL_foretells_71 : decode cL_foretells 71 = .ok (.iload_n 2, 1) := by decide +kernel
theorem dL_foretells_72 : decode cL_foretells 72 = .ok (.iload 5, 2) := by decide +kernel
theorem dL_foretells_74 : decode cL_foretells 74 = .ok (.iconst 1, 1) := by decide +kernel
theorem dL_foretells_75 : decode cL_foretells 75 = .ok (.isub, 1) := by decide +kernel
theorem dL_foretells_76 : decode cL_foretells 76 = .ok (.invokevirtual 82, 3) := by decide +kernel
theorem dL_foretells_79 : decode cL_foretells 79 = .ok (.iconst (-1), 1) := by decide +kernel
theorem dL_foretells_80 : decode cL_foretells 80 = .ok (.if_icmp .ne 7, 3) := by decide +kernel
theorem dL_foretells_83 : decode cL_foretells 83 = .ok (.iconst 1, 1) := by decide +kernel
theorem dL_foretells_84 : decode cL_foretells 84 = .ok (.goto 4, 3) := by decide +kernel
theorem dL_foretells_87 : decode cL_foretells 87 = .ok (.iconst 0, 1) := by decide +kernel
theorem dL_foretells_88 : decode cL_foretells 88 = .ok (.istore 6, 2) := by decide +kernel
theorem dL_foretells_90 : decode cL_foretells 90 = .ok (.iload 6, 2) := by decide +kernel
theorem dL_foretells_92 : decode cL_foretells 92 = .ok (.ifCond .eq 39, 3) := by decide +kernel
theorem dL_foretells_95 : decode cL_foretells 95 = .ok (.iload 5, 2) := by decide +kernel
theorem dL_foretells_97 : decode cL_foretells 97 = .ok (.iconst (-1), 1) := by decide +kernel
theorem dL_foretells_98 : decode cL_foretells 98 = .ok (.if_icmp .ne 29, 3) := by decide +kernel
theorem dL_foretells_101 : decode cL_foretells 101 = .ok (.aload_n 0, 1) := by decide +kernel
theorem dL_foretells_102 : decode cL_foretells 102 = .ok (.iload_n 2, 1) := by decide +kernel
theorem dL_foretells_103 : decode cL_foretells 103 = .ok (.iload_n 3, 1) := by decide +kernel
theorem dL_foretells_104 : decode cL_foretells 104 = .ok (.invokevirtual 67, 3) := by decide +kernel
theorem dL_foretells_107 : decode cL_foretells 107 = .ok (.lconst 0, 1) := by decide +kernel
theorem dL_foretells_108 : decode cL_foretells 108 = .ok (.lcmp, 1) := by decide +kernel
theorem dL_foretells_109 : decode cL_foretells 109 = .ok (.ifCond .lt 22, 3) := by decide +kernel
theorem dL_foretells_112 : decode cL_foretells 112 = .ok (.aload_n 0, 1) := by decide +kernel
theorem dL_foretells_113 : decode cL_foretells 113 = .ok (.iload_n 2, 1) := by decide +kernel
theorem dL_foretells_114 : decode cL_foretells 114 = .ok (.iconst 1, 1) := by decide +kernel
theorem dL_foretells_115 : decode cL_foretells 115 = .ok (.iload_n 3, 1) := by decide +kernel
theorem dL_foretells_116 : decode cL_foretells 116 = .ok (.iconst 2, 1) := by decide +kernel
theorem dL_foretells_117 : decode cL_foretells 117 = .ok (.idiv, 1) := by decide +kernel
theorem dL_foretells_118 : decode cL_foretells 118 = .ok (.iadd, 1) := by decide +kernel
theorem dL_foretells_119 : decode cL_foretells 119 = .ok (.invokevirtual 67, 3) := by decide +kernel
theorem dL_foretells_122 : decode cL_foretells 122 = .ok (.lconst 0, 1) := by decide +kernel
theorem dL_foretells_123 : decode cL_foretells 123 = .ok (.lcmp, 1) := by decide +kernel
theorem dL_foretells_124 : decode cL_foretells 124 = .ok (.ifCond .lt 7, 3) := by decide +kernel
theorem dL_foretells_127 : decode cL_foretells 127 = .ok (.iconst 1, 1) := by decide +kernel
theorem dL_foretells_128 : decode cL_foretells 128 = .ok (.goto 4, 3) := by decide +kernel
theorem dL_foretells_131 : decode cL_foretells 131 = .ok (.iconst 0, 1) := by decide +kernel
theorem dL_foretells_132 : decode cL_foretells 132 = .ok (.istore 6, 2) := by decide +kernel
theorem dL_foretells_134 : decode cL_foretells 134 = .ok (.iload 4, 2) := by decide +kernel
theorem dL_foretells_136 : decode cL_foretells 136 = .ok (.iconst 1, 1) := by decide +kernel
theorem dL_foretells_137 : decode cL_foretells 137 = .ok (.if_icmp .ge 6, 3) := by decide +kernel
theorem dL_foretells_140 : decode cL_foretells 140 = .ok (.iload 6, 2) := by decide +kernel
theorem dL_foretells_142 : decode cL_foretells 142 = .ok (.ireturn, 1) := by decide +kernel
theorem dL_foretells_143 : decode cL_foretells 143 = .ok (.bipush 10, 2) := by decide +kernel
theorem dL_foretells_145 : decode cL_foretells 145 = .ok (.newarray .long, 2) := by decide +kernel
theorem dL_foretells_147 : decode cL_foretells 147 = .ok (.astore 7, 2) := by decide +kernel
theorem dL_foretells_149 : decode cL_foretells 149 = .ok (.iconst 0, 1) := by decide +kernel
theorem dL_foretells_150 : decode cL_foretells 150 = .ok (.istore 8, 2) := by decide +kernel
theorem dL_foretells_152 : decode cL_foretells 152 = .ok (.iload 8, 2) := by decide +kernel
theorem dL_foretells_154 : decode cL_foretells 154 = .ok (.aload_n 1, 1) := by decide +kernel
theorem dL_foretells_155 : decode cL_foretells 155 = .ok (.iconst 0, 1) := by decide +kernel
theorem dL_foretells_156 : decode cL_foretells 156 = .ok (.iaload, 1) := by decide +kernel
theorem dL_foretells_157 : decode cL_foretells 157 = .ok (.if_icmp .ge 22, 3) := by decide +kernel
theorem dL_foretells_160 : decode cL_foretells 160 = .ok (.aload 7, 2) := by decide +kernel
theorem dL_foretells_162 : decode cL_foretells 162 = .ok (.iload 8, 2) := by decide +kernel
theorem dL_foretells_164 : decode cL_foretells 164 = .ok (.aload_n 0, 1) := by decide +kernel
theorem dL_foretells_165 : decode cL_foretells 165 = .ok (.iload 8, 2) := by decide +kernel
theorem dL_foretells_167 : decode cL_foretells 167 = .ok (.iload 4, 2) := by decide +kernel
theorem dL_foretells_169 : decode cL_foretells 169 = .ok (.invokevirtual 67, 3) := by decide +kernel
theorem dL_foretells_172 : decode cL_foretells 172 = .ok (.lastore, 1) := by decide +kernel
theorem dL_foretells_173 : decode cL_foretells 173 = .ok (.iinc 8 1, 3) := by decide +kernel
theorem dL_foretells_176 : decode cL_foretells 176 = .ok (.goto (-24), 3) := by decide +kernel
theorem dL_foretells_179 : decode cL_foretells 179 = .ok (.iload 6, 2) := by decide +kernel
theorem dL_foretells_181 : decode cL_foretells 181 = .ok (.ifCond .eq 20, 3) := by decide +kernel
theorem dL_foretells_184 : decode cL_foretells 184 = .ok (.aload_n 0, 1) := by decide +kernel
theorem dL_foretells_185 : decode cL_foretells 185 = .ok (.iload 4, 2) := by decide +kernel
theorem dL_foretells_187 : decode cL_foretells 187 = .ok (.invokevirtual 75, 3) := by decide +kernel
theorem dL_foretells_190 : decode cL_foretells 190 = .ok (.aload_n 0, 1) := by decide +kernel
theorem dL_foretells_191 : decode cL_foretells 191 = .ok (.invokevirtual 61, 3) := by decide +kernel
theorem dL_foretells_194 : decode cL_foretells 194 = .ok (.if_icmp .ne 7, 3) := by decide +kernel
theorem dL_foretells_197 : decode cL_foretells 197 = .ok (.iconst 1, 1) := by decide +kernel
theorem dL_foretells_198 : decode cL_foretells 198 = .ok (.goto 4, 3) := by decide +kernel
theorem dL_foretells_201 : decode cL_foretells 201 = .ok (.iconst 0, 1) := by decide +kernel
theorem dL_foretells_202 : decode cL_foretells 202 = .ok (.istore 6, 2) := by decide +kernel
theorem dL_foretells_204 : decode cL_foretells 204 = .ok (.iconst 0, 1) := by decide +kernel
theorem dL_foretells_205 : decode cL_foretells 205 = .ok (.istore 8, 2) := by decide +kernel
theorem dL_foretells_207 : decode cL_foretells 207 = .ok (.iload 8, 2) := by decide +kernel
theorem dL_foretells_209 : decode cL_foretells 209 = .ok (.aload_n 1, 1) := by decide +kernel
theorem dL_foretells_210 : decode cL_foretells 210 = .ok (.iconst 0, 1) := by decide +kernel
theorem dL_foretells_211 : decode cL_foretells 211 = .ok (.iaload, 1) := by decide +kernel
theorem dL_foretells_212 : decode cL_foretells 212 = .ok (.if_icmp .ge 36, 3) := by decide +kernel
theorem dL_foretells_215 : decode cL_foretells 215 = .ok (.iload 6, 2) := by decide +kernel
theorem dL_foretells_217 : decode cL_foretells 217 = .ok (.ifCond .eq 22, 3) := by decide +kernel
theorem dL_foretells_220 : decode cL_foretells 220 = .ok (.aload_n 0, 1) := by decide +kernel
theorem dL_foretells_221 : decode cL_foretells 221 = .ok (.iload 8, 2) := by decide +kernel
theorem dL_foretells_223 : decode cL_foretells 223 = .ok (.invokevirtual 22, 3) := by decide +kernel
theorem dL_foretells_226 : decode cL_foretells 226 = .ok (.aload 7, 2) := by decide +kernel
theorem dL_foretells_228 : decode cL_foretells 228 = .ok (.iload 8, 2) := by decide +kernel
theorem dL_foretells_230 : decode cL_foretells 230 = .ok (.laload, 1) := by decide +kernel
theorem dL_foretells_231 : decode cL_foretells 231 = .ok (.lcmp, 1) := by decide +kernel
theorem dL_foretells_232 : decode cL_foretells 232 = .ok (.ifCond .ne 7, 3) := by decide +kernel
theorem dL_foretells_235 : decode cL_foretells 235 = .ok (.iconst 1, 1) := by decide +kernel
theorem dL_foretells_236 : decode cL_foretells 236 = .ok (.goto 4, 3) := by decide +kernel
theorem dL_foretells_239 : decode cL_foretells 239 = .ok (.iconst 0, 1) := by decide +kernel
theorem dL_foretells_240 : decode cL_foretells 240 = .ok (.istore 6, 2) := by decide +kernel
theorem dL_foretells_242 : decode cL_foretells 242 = .ok (.iinc 8 1, 3) := by decide +kernel
theorem dL_foretells_245 : decode cL_foretells 245 = .ok (.goto (-38), 3) := by decide +kernel
theorem dL_foretells_248 : decode cL_foretells 248 = .ok (.iload 6, 2) := by decide +kernel
theorem dL_foretells_250 : decode cL_foretells 250 = .ok (.ireturn, 1) := by decide +kernel
set_option maxRecDepth 20000 in
theorem ggL_areDays_X9_settlementDay : GoodIn wsL_areDays wsX9_settlementDay := goodIn_ca (goodIn_r _ [5, 6, 7, 8, 9, 4, 10, 11, 12, 13, 14, 15, 16, 17, 18, 19, 20, 21, 22, 84, 85, 86, 87, 88, 89, 90, 91, 92, 93] (by decide +kernel) (by decide +kernel)) (goodIn_sub (fun _ h => List.mem_cons_of_mem _ (List.mem_append_left _ (List.mem_append_right _ h))) (by decide +kernel))
set_option maxRecDepth 20000 in
theorem gL_areDays_X9_settlementDay : GoodIn wsL_areDays (wsV RL 64 RX9 yX9_settlementDay wsX9_settlementDay) := goodIn_app (goodIn_of _ (by decide +kernel)) ggL_areDays_X9_settlementDay
set_option maxRecDepth 20000 in
theorem ggL_areDays_X9_today : GoodIn wsL_areDays wsX9_today := goodIn_r _ [26, 6, 27, 84, 85, 86, 87, 88, 89, 90, 91, 92] (by decide +kernel) (by decide +kernel)
set_option maxRecDepth 20000 in
theorem gL_areDays_X9_today : GoodIn wsL_areDays (wsV RL 61 RX9 yX9_today wsX9_today) := goodIn_app (goodIn_of _ (by decide +kernel)) ggL_areDays_X9_today
set_option maxRecDepth 20000 in
theorem ggL_areDays_X9_scheduled : GoodIn wsL_areDays wsX9_scheduled := goodIn_ca (goodIn_ca (goodIn_r _ [31, 6, 27, 32, 33, 34, 4, 35, 36, 37, 38, 39, 40, 41, 42, 43, 44, 45, 46, 47, 48, 49, 50, 51, 52, 53, 54, 55, 56, 57, 58, 59, 60, 61, 62, 8, 9, 10, 11, 12, 63, 64, 65, 66, 67, 68, 69, 70, 71, 72, 73, 74, 75, 76, 77, 78, 79, 80, 81, 82, 83, 14, 15, 16, 17, 18, 19, 20, 21, 22, 84, 85, 86, 87, 88, 89, 90, 91, 92, 94, 95, 96, 97, 98, 99, 100, 101, 102, 103, 93] (by decide +kernel) (by decide +kernel)) (goodIn_sub (fun _ h => List.mem_cons_of_mem _ (List.mem_append_right _ h)) (by decide +kernel))) (goodIn_sub (fun _ h => List.mem_cons_of_mem _ (List.mem_append_left _ (List.mem_append_right _ h))) (by decide +kernel))
set_option maxRecDepth 20000 in
theorem gL_areDays_X9_scheduled : GoodIn wsL_areDays (wsV RL 71 RX9 yX9_scheduled wsX9_scheduled) := goodIn_app (goodIn_of _ (by decide +kernel)) ggL_areDays_X9_scheduled
theorem dL_areDays_0 : decode cL_areDays 0 = .ok (.iload_n 2, 1) := by decide +kernel
theorem dL_areDays_1 : decode cL_areDays 1 = .ok (.sipush 451, 3) := by decide +kernel
theorem dL_areDays_4 : decode cL_areDays 4 = .ok (.irem, 1) := by decide +kernel
theorem dL_areDays_5 : decode cL_areDays 5 = .ok (.istore 4, 2) := by decide +kernel
theorem dL_areDays_7 : decode cL_areDays 7 = .ok (.aload_n 0, 1) := by decide +kernel
theorem dL_areDays_8 : decode cL_areDays 8 = .ok (.iload 4, 2) := by decide +kernel
theorem dL_areDays_10 : decode cL_areDays 10 = .ok (.invokevirtual 64, 3) := by decide +kernel
theorem dL_areDays_13 : decode cL_areDays 13 = .ok (.istore 5, 2) := by decide +kernel
theorem dL_areDays_15 : decode cL_areDays 15 = .ok (.iload 5, 2) := by decide +kernel
theorem dL_areDays_17 : decode cL_areDays 17 = .ok (.iconst (-1), 1) := by decide +kernel
theorem dL_areDays_18 : decode cL_areDays 18 = .ok (.if_icmp .ne 22, 3) := by decide +kernel
theorem dL_areDays_21 : decode cL_areDays 21 = .ok (.aload_n 0, 1) := by decide +kernel
theorem dL_areDays_22 : decode cL_areDays 22 = .ok (.sipush 450, 3) := by decide +kernel
theorem dL_areDays_25 : decode cL_areDays 25 = .ok (.invokevirtual 64, 3) := by decide +kernel
theorem dL_areDays_28 : decode cL_areDays 28 = .ok (.iconst (-1), 1) := by decide +kernel
theorem dL_areDays_29 : decode cL_areDays 29 = .ok (.if_icmp .ne 7, 3) := by decide +kernel
theorem dL_areDays_32 : decode cL_areDays 32 = .ok (.iconst 1, 1) := by decide +kernel
theorem dL_areDays_33 : decode cL_areDays 33 = .ok (.goto 59, 3) := by decide +kernel
theorem dL_areDays_36 : decode cL_areDays 36 = .ok (.iconst 0, 1) := by decide +kernel
theorem dL_areDays_37 : decode cL_areDays 37 = .ok (.goto 55, 3) := by decide +kernel
theorem dL_areDays_40 : decode cL_areDays 40 = .ok (.iload 5, 2) := by decide +kernel
theorem dL_areDays_42 : decode cL_areDays 42 = .ok (.iload 4, 2) := by decide +kernel
theorem dL_areDays_44 : decode cL_areDays 44 = .ok (.if_icmp .lt 47, 3) := by decide +kernel
theorem dL_areDays_47 : decode cL_areDays 47 = .ok (.iload 5, 2) := by decide +kernel
theorem dL_areDays_49 : decode cL_areDays 49 = .ok (.bipush 7, 2) := by decide +kernel
theorem dL_areDays_51 : decode cL_areDays 51 = .ok (.irem, 1) := by decide +kernel
theorem dL_areDays_52 : decode cL_areDays 52 = .ok (.iconst 5, 1) := by decide +kernel
theorem dL_areDays_53 : decode cL_areDays 53 = .ok (.if_icmp .ge 38, 3) := by decide +kernel
theorem dL_areDays_56 : decode cL_areDays 56 = .ok (.aload_n 0, 1) := by decide +kernel
theorem dL_areDays_57 : decode cL_areDays 57 = .ok (.iload 5, 2) := by decide +kernel
theorem dL_areDays_59 : decode cL_areDays 59 = .ok (.invokevirtual 64, 3) := by decide +kernel
theorem dL_areDays_62 : decode cL_areDays 62 = .ok (.iload 5, 2) := by decide +kernel
theorem dL_areDays_64 : decode cL_areDays 64 = .ok (.if_icmp .ne 27, 3) := by decide +kernel
theorem dL_areDays_67 : decode cL_areDays 67 = .ok (.iload 5, 2) := by decide +kernel
theorem dL_areDays_69 : decode cL_areDays 69 = .ok (.iload 4, 2) := by decide +kernel
theorem dL_areDays_71 : decode cL_areDays 71 = .ok (.if_icmp .eq 16, 3) := by decide +kernel
theorem dL_areDays_74 : decode cL_areDays 74 = .ok (.aload_n 0, 1) := by decide +kernel
theorem dL_areDays_75 : decode cL_areDays 75 = .ok (.iload 5, 2) := by decide +kernel
theorem dL_areDays_77 : decode cL_areDays 77 = .ok (.iconst 1, 1) := by decide +kernel
theorem dL_areDays_78 : decode cL_areDays 78 = .ok (.isub, 1) := by decide +kernel
theorem dL_areDays_79 : decode cL_areDays 79 = .ok (.invokevirtual 64, 3) := by decide +kernel
theorem dL_areDays_82 : decode cL_areDays 82 = .ok (.iload 5, 2) := by decide +kernel
theorem dL_areDays_84 : decode cL_areDays 84 = .ok (.if_icmp .ne 7, 3) := by decide +kernel
theorem dL_areDays_87 : decode cL_areDays 87 = .ok (.iconst 1, 1) := by decide +kernel
theorem dL_areDays_88 : decode cL_areDays 88 = .ok (.goto 4, 3) := by decide +kernel
theorem dL_areDays_91 : decode cL_areDays 91 = .ok (.iconst 0, 1) := by decide +kernel
theorem dL_areDays_92 : decode cL_areDays 92 = .ok (.istore 6, 2) := by decide +kernel
theorem dL_areDays_94 : decode cL_areDays 94 = .ok (.aload_n 0, 1) := by decide +kernel
theorem dL_areDays_95 : decode cL_areDays 95 = .ok (.invokevirtual 61, 3) := by decide +kernel
theorem dL_areDays_98 : decode cL_areDays 98 = .ok (.iload_n 2, 1) := by decide +kernel
theorem dL_areDays_99 : decode cL_areDays 99 = .ok (.bipush 30, 2) := by decide +kernel
theorem dL_areDays_101 : decode cL_areDays 101 = .ok (.irem, 1) := by decide +kernel
theorem dL_areDays_102 : decode cL_areDays 102 = .ok (.iadd, 1) := by decide +kernel
theorem dL_areDays_103 : decode cL_areDays 103 = .ok (.istore 7, 2) := by decide +kernel
theorem dL_areDays_105 : decode cL_areDays 105 = .ok (.iload 7, 2) := by decide +kernel
theorem dL_areDays_107 : decode cL_areDays 107 = .ok (.iload_n 3, 1) := by decide +kernel
theorem dL_areDays_108 : decode cL_areDays 108 = .ok (.bipush 20, 2) := by decide +kernel
theorem dL_areDays_110 : decode cL_areDays 110 = .ok (.irem, 1) := by decide +kernel
theorem dL_areDays_111 : decode cL_areDays 111 = .ok (.iadd, 1) := by decide +kernel
theorem dL_areDays_112 : decode cL_areDays 112 = .ok (.istore 8, 2) := by decide +kernel
theorem dL_areDays_114 : decode cL_areDays 114 = .ok (.iload 8, 2) := by decide +kernel
theorem dL_areDays_116 : decode cL_areDays 116 = .ok (.iconst 1, 1) := by decide +kernel
theorem dL_areDays_117 : decode cL_areDays 117 = .ok (.iadd, 1) := by decide +kernel
theorem dL_areDays_118 : decode cL_areDays 118 = .ok (.iload_n 2, 1) := by decide +kernel
theorem dL_areDays_119 : decode cL_areDays 119 = .ok (.bipush 30, 2) := by decide +kernel
theorem dL_areDays_121 : decode cL_areDays 121 = .ok (.idiv, 1) := by decide +kernel
theorem dL_areDays_122 : decode cL_areDays 122 = .ok (.bipush 20, 2) := by decide +kernel
theorem dL_areDays_124 : decode cL_areDays 124 = .ok (.irem, 1) := by decide +kernel
theorem dL_areDays_125 : decode cL_areDays 125 = .ok (.iadd, 1) := by decide +kernel
theorem dL_areDays_126 : decode cL_areDays 126 = .ok (.istore 9, 2) := by decide +kernel
theorem dL_areDays_128 : decode cL_areDays 128 = .ok (.iload 9, 2) := by decide +kernel
theorem dL_areDays_130 : decode cL_areDays 130 = .ok (.sipush 450, 3) := by decide +kernel
theorem dL_areDays_133 : decode cL_areDays 133 = .ok (.if_icmp .le 6, 3) := by decide +kernel
theorem dL_areDays_136 : decode cL_areDays 136 = .ok (.iload 6, 2) := by decide +kernel
theorem dL_areDays_138 : decode cL_areDays 138 = .ok (.ireturn, 1) := by decide +kernel
theorem dL_areDays_139 : decode cL_areDays 139 = .ok (.iload 6, 2) := by decide +kernel
theorem dL_areDays_141 : decode cL_areDays 141 = .ok (.ifCond .eq 41, 3) := by decide +kernel
theorem dL_areDays_144 : decode cL_areDays 144 = .ok (.aload_n 0, 1) := by decide +kernel
theorem dL_areDays_145 : decode cL_areDays 145 = .ok (.iload_n 1, 1) := by decide +kernel
theorem dL_areDays_146 : decode cL_areDays 146 = .ok (.iload 7, 2) := by decide +kernel
theorem dL_areDays_148 : decode cL_areDays 148 = .ok (.iload 9, 2) := by decide +kernel
theorem dL_areDays_150 : decode cL_areDays 150 = .ok (.invokevirtual 71, 3) := by decide +kernel
theorem dL_areDays_153 : decode cL_areDays 153 = .ok (.aload_n 0, 1) := by decide +kernel
theorem dL_areDays_154 : decode cL_areDays 154 = .ok (.iload_n 1, 1) := by decide +kernel
theorem dL_areDays_155 : decode cL_areDays 155 = .ok (.iload 7, 2) := by decide +kernel
theorem dL_areDays_157 : decode cL_areDays 157 = .ok (.iload 8, 2) := by decide +kernel
theorem dL_areDays_159 : decode cL_areDays 159 = .ok (.invokevirtual 71, 3) := by decide +kernel
theorem dL_areDays_162 : decode cL_areDays 162 = .ok (.aload_n 0, 1) := by decide +kernel
theorem dL_areDays_163 : decode cL_areDays 163 = .ok (.iload_n 1, 1) := by decide +kernel
theorem dL_areDays_164 : decode cL_areDays 164 = .ok (.iload 8, 2) := by decide +kernel
theorem dL_areDays_166 : decode cL_areDays 166 = .ok (.iconst 1, 1) := by decide +kernel
theorem dL_areDays_167 : decode cL_areDays 167 = .ok (.iadd, 1) := by decide +kernel
theorem dL_areDays_168 : decode cL_areDays 168 = .ok (.iload 9, 2) := by decide +kernel
theorem dL_areDays_170 : decode cL_areDays 170 = .ok (.invokevirtual 71, 3) := by decide +kernel
theorem dL_areDays_173 : decode cL_areDays 173 = .ok (.ladd, 1) := by decide +kernel
theorem dL_areDays_174 : decode cL_areDays 174 = .ok (.lcmp, 1) := by decide +kernel
theorem dL_areDays_175 : decode cL_areDays 175 = .ok (.ifCond .ne 7, 3) := by decide +kernel
theorem dL_areDays_178 : decode cL_areDays 178 = .ok (.iconst 1, 1) := by decide +kernel
theorem dL_areDays_179 : decode cL_areDays 179 = .ok (.goto 4, 3) := by decide +kernel
theorem dL_areDays_182 : decode cL_areDays 182 = .ok (.iconst 0, 1) := by decide +kernel
theorem dL_areDays_183 : decode cL_areDays 183 = .ok (.ireturn, 1) := by decide +kernel
set_option maxRecDepth 20000 in
theorem ggL_schedules_X9_today : GoodIn wsL_schedules wsX9_today := goodIn_r _ [6, 7, 8, 138, 139, 140, 141, 142, 143, 144, 145, 146] (by decide +kernel) (by decide +kernel)
set_option maxRecDepth 20000 in
theorem gL_schedules_X9_today : GoodIn wsL_schedules (wsV RL 61 RX9 yX9_today wsX9_today) := goodIn_app (goodIn_of _ (by decide +kernel)) ggL_schedules_X9_today
set_option maxRecDepth 20000 in
theorem ggL_schedules_X9_schedule : GoodIn wsL_schedules wsX9_schedule := goodIn_ca (goodIn_ca (goodIn_ca (goodIn_r _ [12, 13, 14, 7, 8, 15, 16, 17, 18, 19, 20, 21, 5, 22, 23, 24, 25, 26, 27, 28, 29, 30, 31, 32, 33, 34, 35, 36, 37, 38, 39, 40, 41, 42, 43, 44, 45, 46, 47, 48, 49, 50, 51, 52, 53, 54, 55, 56, 57, 58, 59, 60, 61, 62, 63, 64, 65, 66, 67, 68, 69, 70, 71, 72, 73, 74, 75, 76, 77, 78, 79, 80, 81, 82, 83, 84, 85, 86, 87, 88, 89, 90, 91, 92, 93, 94, 95, 96, 97, 98, 99, 100, 101, 102, 103, 104, 105, 106, 107, 108, 109, 110, 111, 112, 113, 114, 115, 116, 117, 118, 119, 120, 121, 122, 123, 138, 139, 140, 141, 142, 143, 144, 145, 146, 147, 148, 149, 150, 151, 152, 153, 154, 155, 156] (by decide +kernel) (by decide +kernel)) (goodIn_sub (fun _ h => List.mem_cons_of_mem _ (List.mem_append_left _ (List.mem_append_left _ (List.mem_append_right _ h)))) (by decide +kernel))) (goodIn_sub (fun _ h => List.mem_cons_of_mem _ (List.mem_append_left _ (List.mem_append_right _ h))) (by decide +kernel))) (goodIn_sub (fun _ h => List.mem_cons_of_mem _ (List.mem_append_right _ h)) (by decide +kernel))
set_option maxRecDepth 20000 in
theorem gL_schedules_X9_schedule : GoodIn wsL_schedules (wsV RL 87 RX9 yX9_schedule wsX9_schedule) := goodIn_app (goodIn_of _ (by decide +kernel)) ggL_schedules_X9_schedule
set_option maxRecDepth 20000 in
theorem ggL_schedules_X9_timesLeft : GoodIn wsL_schedules wsX9_timesLeft := goodIn_ca (goodIn_r _ [127, 128, 129, 130, 131, 5, 132, 23, 24, 7, 15, 133, 27, 28, 29, 30, 31, 32, 33, 34, 35, 36, 37, 38, 39, 40, 41, 42, 43, 44, 45, 46, 47, 48, 49, 147, 148, 149, 150, 151, 152, 153, 138, 139, 140, 141, 142, 143, 144, 145, 146, 154, 155, 156] (by decide +kernel) (by decide +kernel)) (goodIn_sub (fun _ h => List.mem_cons_of_mem _ (List.mem_append_left _ (List.mem_append_right _ h))) (by decide +kernel))
set_option maxRecDepth 20000 in
theorem gL_schedules_X9_timesLeft : GoodIn wsL_schedules (wsV RL 91 RX9 yX9_timesLeft wsX9_timesLeft) := goodIn_app (goodIn_of _ (by decide +kernel)) ggL_schedules_X9_timesLeft
set_option maxRecDepth 20000 in
theorem ggL_schedules_X9_cancel : GoodIn wsL_schedules wsX9_cancel := goodIn_ca (goodIn_r _ [137, 128, 129, 130, 131, 5, 132, 23, 24, 7, 15, 133, 27, 28, 29, 30, 31, 32, 33, 34, 35, 36, 37, 38, 39, 40, 41, 42, 43, 44, 45, 46, 47, 48, 49, 147, 148, 149, 150, 151, 152, 153, 138, 139, 140, 141, 142, 143, 144, 145, 146, 154, 155, 156] (by decide +kernel) (by decide +kernel)) (goodIn_sub (fun _ h => List.mem_cons_of_mem _ (List.mem_append_left _ (List.mem_append_right _ h))) (by decide +kernel))
set_option maxRecDepth 20000 in
theorem gL_schedules_X9_cancel : GoodIn wsL_schedules (wsV RL 94 RX9 yX9_cancel wsX9_cancel) := goodIn_app (goodIn_of _ (by decide +kernel)) ggL_schedules_X9_cancel
theorem dL_schedules_0 : decode cL_schedules 0 = .ok (.iload_n 2, 1) := by decide +kernel
theorem dL_schedules_1 : decode cL_schedules 1 = .ok (.iconst 2, 1) := by decide +kernel
theorem dL_schedules_2 : decode cL_schedules 2 = .ok (.irem, 1) := by decide +kernel
theorem dL_schedules_3 : decode cL_schedules 3 = .ok (.ifCond .ne 14, 3) := by decide +kernel
theorem dL_schedules_6 : decode cL_schedules 6 = .ok (.iconst 1, 1) := by decide +kernel
theorem dL_schedules_7 : decode cL_schedules 7 = .ok (.iload_n 2, 1) := by decide +kernel
theorem dL_schedules_8 : decode cL_schedules 8 = .ok (.iconst 2, 1) := by decide +kernel
theorem dL_schedules_9 : decode cL_schedules 9 = .ok (.idiv, 1) := by decide +kernel
theorem dL_schedules_10 : decode cL_schedules 10 = .ok (.ldc 86, 2) := by decide +kernel
theorem dL_schedules_12 : decode cL_schedules 12 = .ok (.irem, 1) := by decide +kernel
theorem dL_schedules_13 : decode cL_schedules 13 = .ok (.iadd, 1) := by decide +kernel
theorem dL_schedules_14 : decode cL_schedules 14 = .ok (.goto 11, 3) := by decide +kernel
theorem dL_schedules_17 : decode cL_schedules 17 = .ok (.iconst (-1), 1) := by decide +kernel
theorem dL_schedules_18 : decode cL_schedules 18 = .ok (.iload_n 2, 1) := by decide +kernel
theorem dL_schedules_19 : decode cL_schedules 19 = .ok (.iconst 2, 1) := by decide +kernel
theorem dL_schedules_20 : decode cL_schedules 20 = .ok (.idiv, 1) := by decide +kernel
theorem dL_schedules_21 : decode cL_schedules 21 = .ok (.ldc 86, 2) := by decide +kernel
theorem dL_schedules_23 : decode cL_schedules 23 = .ok (.irem, 1) := by decide +kernel
theorem dL_schedules_24 : decode cL_schedules 24 = .ok (.isub, 1) := by decide +kernel
theorem dL_schedules_25 : decode cL_schedules 25 = .ok (.istore 5, 2) := by decide +kernel
theorem dL_schedules_27 : decode cL_schedules 27 = .ok (.aload_n 0, 1) := by decide +kernel
theorem dL_schedules_28 : decode cL_schedules 28 = .ok (.invokevirtual 61, 3) := by decide +kernel
theorem dL_schedules_31 : decode cL_schedules 31 = .ok (.iload_n 3, 1) := by decide +kernel
theorem dL_schedules_32 : decode cL_schedules 32 = .ok (.bipush 20, 2) := by decide +kernel
theorem dL_schedules_34 : decode cL_schedules 34 = .ok (.irem, 1) := by decide +kernel
theorem dL_schedules_35 : decode cL_schedules 35 = .ok (.iadd, 1) := by decide +kernel
theorem dL_schedules_36 : decode cL_schedules 36 = .ok (.istore 6, 2) := by decide +kernel
theorem dL_schedules_38 : decode cL_schedules 38 = .ok (.iconst 1, 1) := by decide +kernel
theorem dL_schedules_39 : decode cL_schedules 39 = .ok (.iload_n 3, 1) := by decide +kernel
theorem dL_schedules_40 : decode cL_schedules 40 = .ok (.bipush 20, 2) := by decide +kernel
theorem dL_schedules_42 : decode cL_schedules 42 = .ok (.idiv, 1) := by decide +kernel
theorem dL_schedules_43 : decode cL_schedules 43 = .ok (.bipush 30, 2) := by decide +kernel
theorem dL_schedules_45 : decode cL_schedules 45 = .ok (.irem, 1) := by decide +kernel
theorem dL_schedules_46 : decode cL_schedules 46 = .ok (.iadd, 1) := by decide +kernel
theorem dL_schedules_47 : decode cL_schedules 47 = .ok (.istore 7, 2) := by decide +kernel
theorem dL_schedules_49 : decode cL_schedules 49 = .ok (.iconst 1, 1) := by decide +kernel
theorem dL_schedules_50 : decode cL_schedules 50 = .ok (.iload_n 2, 1) := by decide +kernel
theorem dL_schedules_51 : decode cL_schedules 51 = .ok (.bipush 7, 2) := by decide +kernel
theorem dL_schedules_53 : decode cL_schedules 53 = .ok (.idiv, 1) := by decide +kernel
theorem dL_schedules_54 : decode cL_schedules 54 = .ok (.bipush 30, 2) := by decide +kernel
theorem dL_schedules_56 : decode cL_schedules 56 = .ok (.irem, 1) := by decide +kernel
theorem dL_schedules_57 : decode cL_schedules 57 = .ok (.iadd, 1) := by decide +kernel
theorem dL_schedules_58 : decode cL_schedules 58 = .ok (.istore 8, 2) := by decide +kernel
theorem dL_schedules_60 : decode cL_schedules 60 = .ok (.aload_n 0, 1) := by decide +kernel
theorem dL_schedules_61 : decode cL_schedules 61 = .ok (.iload_n 1, 1) := by decide +kernel
theorem dL_schedules_62 : decode cL_schedules 62 = .ok (.iload 5, 2) := by decide +kernel
theorem dL_schedules_64 : decode cL_schedules 64 = .ok (.iload 6, 2) := by decide +kernel
theorem dL_schedules_66 : decode cL_schedules 66 = .ok (.iload 7, 2) := by decide +kernel
theorem dL_schedules_68 : decode cL_schedules 68 = .ok (.iload 8, 2) := by decide +kernel
theorem dL_schedules_70 : decode cL_schedules 70 = .ok (.invokevirtual 87, 3) := by decide +kernel
theorem dL_schedules_73 : decode cL_schedules 73 = .ok (.iload 4, 2) := by decide +kernel
theorem dL_schedules_75 : decode cL_schedules 75 = .ok (.if_icmp .ne 18, 3) := by decide +kernel
theorem dL_schedules_78 : decode cL_schedules 78 = .ok (.aload_n 0, 1) := by decide +kernel
theorem dL_schedules_79 : decode cL_schedules 79 = .ok (.iload 4, 2) := by decide +kernel
theorem dL_schedules_81 : decode cL_schedules 81 = .ok (.invokevirtual 91, 3) := by decide +kernel
theorem dL_schedules_84 : decode cL_schedules 84 = .ok (.iload 8, 2) := by decide +kernel
theorem dL_schedules_86 : decode cL_schedules 86 = .ok (.if_icmp .ne 7, 3) := by decide +kernel
theorem dL_schedules_89 : decode cL_schedules 89 = .ok (.iconst 1, 1) := by decide +kernel
theorem dL_schedules_90 : decode cL_schedules 90 = .ok (.goto 4, 3) := by decide +kernel
theorem dL_schedules_93 : decode cL_schedules 93 = .ok (.iconst 0, 1) := by decide +kernel
theorem dL_schedules_94 : decode cL_schedules 94 = .ok (.istore 9, 2) := by decide +kernel
theorem dL_schedules_96 : decode cL_schedules 96 = .ok (.iload 9, 2) := by decide +kernel
theorem dL_schedules_98 : decode cL_schedules 98 = .ok (.ifCond .eq 43, 3) := by decide +kernel
theorem dL_schedules_101 : decode cL_schedules 101 = .ok (.iload_n 3, 1) := by decide +kernel
theorem dL_schedules_102 : decode cL_schedules 102 = .ok (.bipush 11, 2) := by decide +kernel
theorem dL_schedules_104 : decode cL_schedules 104 = .ok (.irem, 1) := by decide +kernel
theorem dL_schedules_105 : decode cL_schedules 105 = .ok (.ifCond .gt 32, 3) := by decide +kernel
theorem dL_schedules_108 : decode cL_schedules 108 = .ok (.aload_n 0, 1) := by decide +kernel
theorem dL_schedules_109 : decode cL_schedules 109 = .ok (.iload 4, 2) := by decide +kernel
theorem dL_schedules_111 : decode cL_schedules 111 = .ok (.invokevirtual 94, 3) := by decide +kernel
theorem dL_schedules_114 : decode cL_schedules 114 = .ok (.iload 8, 2) := by decide +kernel
theorem dL_schedules_116 : decode cL_schedules 116 = .ok (.if_icmp .ne 25, 3) := by decide +kernel
theorem dL_schedules_119 : decode cL_schedules 119 = .ok (.aload_n 0, 1) := by decide +kernel
theorem dL_schedules_120 : decode cL_schedules 120 = .ok (.iload 4, 2) := by decide +kernel
theorem dL_schedules_122 : decode cL_schedules 122 = .ok (.invokevirtual 91, 3) := by decide +kernel
theorem dL_schedules_125 : decode cL_schedules 125 = .ok (.ifCond .ne 16, 3) := by decide +kernel
theorem dL_schedules_128 : decode cL_schedules 128 = .ok (.aload_n 0, 1) := by decide +kernel
theorem dL_schedules_129 : decode cL_schedules 129 = .ok (.iload 4, 2) := by decide +kernel
theorem dL_schedules_131 : decode cL_schedules 131 = .ok (.invokevirtual 94, 3) := by decide +kernel
theorem dL_schedules_134 : decode cL_schedules 134 = .ok (.ifCond .ne 7, 3) := by decide +kernel
theorem dL_schedules_137 : decode cL_schedules 137 = .ok (.iconst 1, 1) := by decide +kernel
theorem dL_schedules_138 : decode cL_schedules 138 = .ok (.goto 4, 3) := by decide +kernel
theorem dL_schedules_141 : decode cL_schedules 141 = .ok (.iconst 0, 1) := by decide +kernel
theorem dL_schedules_142 : decode cL_schedules 142 = .ok (.ireturn, 1) := by decide +kernel
set_option maxRecDepth 20000 in
theorem ggL_makes_X9_addPool : GoodIn wsL_makes wsX9_addPool := goodIn_ca (goodIn_ca (goodIn_r _ [5, 6, 7, 8, 9, 4, 10, 11, 12, 13, 14, 15, 16, 17, 18, 19, 20, 21, 22, 23, 24, 25, 26, 27, 28, 29, 30, 31, 32, 33, 34, 35, 36, 37, 38, 39, 40, 41, 42, 43, 44, 45, 46, 47, 48, 49, 50, 51, 52, 53, 54, 55, 56, 57, 58, 59, 60, 61, 62, 63, 64, 65, 66, 67, 68, 69, 70, 71, 72, 73, 74, 75, 76, 77, 78, 79, 80, 81, 82, 83, 84, 85, 86, 87, 88, 89, 90, 91, 92, 93, 94, 95, 96, 97, 98, 99, 100, 101, 102, 103, 104, 105, 106, 107, 108, 109, 110, 111, 112, 113, 114, 115, 116, 117, 118, 119, 120, 121, 122, 123, 124, 125, 126, 127, 128, 129, 130, 131, 132, 133, 134, 135, 136, 137, 138, 139, 140, 141, 142, 143, 144, 145, 146, 147, 148, 149, 150, 151, 152, 153, 154, 155, 156, 157, 158, 159, 160, 161, 162, 163, 164, 165, 166, 167, 168, 169, 170, 171, 188, 189, 190, 191, 192, 193, 194, 195, 196, 197, 198, 199, 200, 201, 202, 203, 204, 205, 206, 207, 208, 209, 210, 211, 212, 213, 214, 215, 216, 217, 218, 219, 220, 221, 222, 223, 224, 225, 226] (by decide +kernel) (by decide +kernel)) (goodIn_sub (fun _ h => List.mem_cons_of_mem _ (List.mem_append_left _ (List.mem_append_left _ (List.mem_append_right _ h)))) (by decide +kernel))) (goodIn_sub (fun _ h => List.mem_cons_of_mem _ (List.mem_append_left _ (List.mem_append_right _ h))) (by decide +kernel))
set_option maxRecDepth 20000 in
theorem gL_makes_X9_addPool : GoodIn wsL_makes (wsV RL 97 RX9 yX9_addPool wsX9_addPool) := goodIn_app (goodIn_of _ (by decide +kernel)) ggL_makes_X9_addPool
set_option maxRecDepth 20000 in
theorem ggL_makes_X9_addAccount : GoodIn wsL_makes wsX9_addAccount := goodIn_ca (goodIn_ca (goodIn_ca (goodIn_r _ [175, 6, 176, 177, 178, 4, 179, 180, 181, 47, 182, 15, 16, 17, 18, 19, 20, 21, 22, 23, 24, 25, 26, 27, 28, 29, 30, 31, 32, 33, 34, 35, 36, 37, 7, 8, 9, 10, 11, 12, 13, 14, 41, 42, 43, 44, 45, 46, 183, 184, 185, 51, 186, 53, 57, 58, 59, 170, 187, 61, 103, 104, 105, 106, 66, 67, 107, 69, 108, 109, 110, 111, 112, 113, 79, 80, 81, 82, 83, 84, 85, 86, 87, 88, 89, 90, 91, 114, 115, 116, 117, 118, 119, 120, 121, 122, 123, 124, 125, 126, 127, 128, 129, 130, 131, 132, 133, 134, 135, 136, 137, 138, 139, 140, 141, 142, 143, 144, 145, 146, 147, 148, 149, 150, 151, 152, 153, 154, 155, 156, 157, 158, 159, 160, 161, 162, 163, 164, 165, 166, 167, 168, 169, 171, 188, 189, 190, 191, 192, 193, 194, 195, 196, 197, 198, 199, 205, 206, 207, 208, 209, 210, 211, 212, 213, 214, 215, 216, 200, 201, 202, 203, 204] (by decide +kernel) (by decide +kernel)) (goodIn_sub (fun _ h => List.mem_cons_of_mem _ (List.mem_append_right _ h)) (by decide +kernel))) (goodIn_sub (fun _ h => List.mem_cons_of_mem _ (List.mem_append_left _ (List.mem_append_left _ (List.mem_append_right _ h)))) (by decide +kernel))) (goodIn_sub (fun _ h => List.mem_cons_of_mem _ (List.mem_append_left _ (List.mem_append_right _ h))) (by decide +kernel))
set_option maxRecDepth 20000 in
theorem gL_makes_X9_addAccount : GoodIn wsL_makes (wsV RL 101 RX9 yX9_addAccount wsX9_addAccount) := goodIn_app (goodIn_of _ (by decide +kernel)) ggL_makes_X9_addAccount
theorem dL_makes_0 : decode cL_makes 0 = .ok (.aload_n 1, 1) := by decide +kernel
theorem dL_makes_1 : decode cL_makes 1 = .ok (.iconst 0, 1) := by decide +kernel
theorem dL_makes_2 : decode cL_makes 2 = .ok (.iaload, 1) := by decide +kernel
theorem dL_makes_3 : decode cL_makes 3 = .ok (.istore 4, 2) := by decide +kernel
theorem dL_makes_5 : decode cL_makes 5 = .ok (.iload 4, 2) := by decide +kernel
theorem dL_makes_7 : decode cL_makes 7 = .ok (.ifCond .eq 9, 3) := by decide +kernel
theorem dL_makes_10 : decode cL_makes 10 = .ok (.iload_n 3, 1) := by decide +kernel
theorem dL_makes_11 : decode cL_makes 11 = .ok (.iconst 4, 1) := by decide +kernel
theorem dL_makes_12 : decode cL_makes 12 = .ok (.irem, 1) := by decide +kernel
theorem dL_makes_13 : decode cL_makes 13 = .ok (.ifCond .ne 7, 3) := by decide +kernel
theorem dL_makes_16 : decode cL_makes 16 = .ok (.iconst 1, 1) := by decide +kernel
theorem dL_makes_17 : decode cL_makes 17 = .ok (.goto 4, 3) := by decide +kernel
theorem dL_makes_20 : decode cL_makes 20 = .ok (.iconst 0, 1) := by decide +kernel
theorem dL_makes_21 : decode cL_makes 21 = .ok (.istore 5, 2) := by decide +kernel
theorem dL_makes_23 : decode cL_makes 23 = .ok (.iload 5, 2) := by decide +kernel
theorem dL_makes_25 : decode cL_makes 25 = .ok (.ifCond .eq 7, 3) := by decide +kernel
theorem dL_makes_28 : decode cL_makes 28 = .ok (.iconst (-1), 1) := by decide +kernel
theorem dL_makes_29 : decode cL_makes 29 = .ok (.goto 7, 3) := by decide +kernel
theorem dL_makes_32 : decode cL_makes 32 = .ok (.iload_n 2, 1) := by decide +kernel
theorem dL_makes_33 : decode cL_makes 33 = .ok (.iload 4, 2) := by decide +kernel
theorem dL_makes_35 : decode cL_makes 35 = .ok (.irem, 1) := by decide +kernel
theorem dL_makes_36 : decode cL_makes 36 = .ok (.istore 6, 2) := by decide +kernel
theorem dL_makes_38 : decode cL_makes 38 = .ok (.aload_n 1, 1) := by decide +kernel
theorem dL_makes_39 : decode cL_makes 39 = .ok (.iconst 0, 1) := by decide +kernel
theorem dL_makes_40 : decode cL_makes 40 = .ok (.iload 4, 2) := by decide +kernel
theorem dL_makes_42 : decode cL_makes 42 = .ok (.iconst 1, 1) := by decide +kernel
theorem dL_makes_43 : decode cL_makes 43 = .ok (.iadd, 1) := by decide +kernel
theorem dL_makes_44 : decode cL_makes 44 = .ok (.iastore, 1) := by decide +kernel
theorem dL_makes_45 : decode cL_makes 45 = .ok (.aload_n 1, 1) := by decide +kernel
theorem dL_makes_46 : decode cL_makes 46 = .ok (.iconst 2, 1) := by decide +kernel
theorem dL_makes_47 : decode cL_makes 47 = .ok (.iload 4, 2) := by decide +kernel
theorem dL_makes_49 : decode cL_makes 49 = .ok (.imul, 1) := by decide +kernel
theorem dL_makes_50 : decode cL_makes 50 = .ok (.iconst 2, 1) := by decide +kernel
theorem dL_makes_51 : decode cL_makes 51 = .ok (.iadd, 1) := by decide +kernel
theorem dL_makes_52 : decode cL_makes 52 = .ok (.iload_n 2, 1) := by decide +kernel
theorem dL_makes_53 : decode cL_makes 53 = .ok (.bipush 10, 2) := by decide +kernel
theorem dL_makes_55 : decode cL_makes 55 = .ok (.idiv, 1) := by decide +kernel
theorem dL_makes_56 : decode cL_makes 56 = .ok (.iconst 4, 1) := by decide +kernel
theorem dL_makes_57 : decode cL_makes 57 = .ok (.irem, 1) := by decide +kernel
theorem dL_makes_58 : decode cL_makes 58 = .ok (.iastore, 1) := by decide +kernel
theorem dL_makes_59 : decode cL_makes 59 = .ok (.aload_n 1, 1) := by decide +kernel
theorem dL_makes_60 : decode cL_makes 60 = .ok (.iconst 2, 1) := by decide +kernel
theorem dL_makes_61 : decode cL_makes 61 = .ok (.iload 4, 2) := by decide +kernel
theorem dL_makes_63 : decode cL_makes 63 = .ok (.imul, 1) := by decide +kernel
theorem dL_makes_64 : decode cL_makes 64 = .ok (.iconst 3, 1) := by decide +kernel
theorem dL_makes_65 : decode cL_makes 65 = .ok (.iadd, 1) := by decide +kernel
theorem dL_makes_66 : decode cL_makes 66 = .ok (.iload 6, 2) := by decide +kernel
theorem dL_makes_68 : decode cL_makes 68 = .ok (.iastore, 1) := by decide +kernel
theorem dL_makes_69 : decode cL_makes 69 = .ok (.iload 5, 2) := by decide +kernel
theorem dL_makes_71 : decode cL_makes 71 = .ok (.ifCond .eq 32, 3) := by decide +kernel
theorem dL_makes_74 : decode cL_makes 74 = .ok (.aload_n 0, 1) := by decide +kernel
theorem dL_makes_75 : decode cL_makes 75 = .ok (.iload_n 2, 1) := by decide +kernel
theorem dL_makes_76 : decode cL_makes 76 = .ok (.bipush 10, 2) := by decide +kernel
theorem dL_makes_78 : decode cL_makes 78 = .ok (.idiv, 1) := by decide +kernel
theorem dL_makes_79 : decode cL_makes 79 = .ok (.iconst 4, 1) := by decide +kernel
theorem dL_makes_80 : decode cL_makes 80 = .ok (.irem, 1) := by decide +kernel
theorem dL_makes_81 : decode cL_makes 81 = .ok (.iload_n 2, 1) := by decide +kernel
theorem dL_makes_82 : decode cL_makes 82 = .ok (.bipush 40, 2) := by decide +kernel
theorem dL_makes_84 : decode cL_makes 84 = .ok (.idiv, 1) := by decide +kernel
theorem dL_makes_85 : decode cL_makes 85 = .ok (.sipush 1001, 3) := by decide +kernel
theorem dL_makes_88 : decode cL_makes 88 = .ok (.irem, 1) := by decide +kernel
theorem dL_makes_89 : decode cL_makes 89 = .ok (.iload_n 3, 1) := by decide +kernel
theorem dL_makes_90 : decode cL_makes 90 = .ok (.bipush 40, 2) := by decide +kernel
theorem dL_makes_92 : decode cL_makes 92 = .ok (.idiv, 1) := by decide +kernel
theorem dL_makes_93 : decode cL_makes 93 = .ok (.sipush 1001, 3) := by decide +kernel
theorem dL_makes_96 : decode cL_makes 96 = .ok (.irem, 1) := by decide +kernel
theorem dL_makes_97 : decode cL_makes 97 = .ok (.invokevirtual 97, 3) := by decide +kernel
theorem dL_makes_100 : decode cL_makes 100 = .ok (.goto 15, 3) := by decide +kernel
theorem dL_makes_103 : decode cL_makes 103 = .ok (.aload_n 0, 1) := by decide +kernel
theorem dL_makes_104 : decode cL_makes 104 = .ok (.iload 6, 2) := by decide +kernel
theorem dL_makes_106 : decode cL_makes 106 = .ok (.iload_n 2, 1) := by decide +kernel
theorem dL_makes_107 : decode cL_makes 107 = .ok (.bipush 10, 2) := by decide +kernel
theorem dL_makes_109 : decode cL_makes 109 = .ok (.idiv, 1) := by decide +kernel
theorem dL_makes_110 : decode cL_makes 110 = .ok (.iconst 4, 1) := by decide +kernel
theorem dL_makes_111 : decode cL_makes 111 = .ok (.irem, 1) := by decide +kernel
theorem dL_makes_112 : decode cL_makes 112 = .ok (.invokevirtual 101, 3) := by decide +kernel
theorem dL_makes_115 : decode cL_makes 115 = .ok (.ireturn, 1) := by decide +kernel
set_option maxRecDepth 20000 in
theorem ggL_sets_L_parent : GoodIn wsL_sets wsL_parent := goodIn_r _ [6] (by decide +kernel) (by decide +kernel)
set_option maxRecDepth 20000 in
theorem gL_sets_L_parent : GoodIn wsL_sets (va_wsS RL 10 yL_parent wsL_parent) := goodIn_app (goodIn_of _ (by decide +kernel)) ggL_sets_L_parent
set_option maxRecDepth 20000 in
theorem ggL_sets_X9_setFloor : GoodIn wsL_sets wsX9_setFloor := goodIn_ca (goodIn_ca (goodIn_r _ [11, 12, 13, 14, 15, 16, 17, 10, 18, 19, 20, 21, 22, 23, 24, 25, 26, 27, 28, 29, 30, 31, 32, 33, 34, 35, 36, 37, 38, 39, 40, 41, 42, 43, 44, 45, 46, 47, 48, 49, 50, 51, 61, 62, 63, 64, 65, 66, 67, 68, 69, 70, 71, 72, 73, 74, 75, 76, 77, 78, 79, 80, 81, 82, 83, 84] (by decide +kernel) (by decide +kernel)) (goodIn_sub (fun _ h => List.mem_cons_of_mem _ (List.mem_append_left _ (List.mem_append_left _ (List.mem_append_right _ h)))) (by decide +kernel))) (goodIn_sub (fun _ h => List.mem_cons_of_mem _ (List.mem_append_left _ (List.mem_append_right _ h))) (by decide +kernel))
set_option maxRecDepth 20000 in
theorem gL_sets_X9_setFloor : GoodIn wsL_sets (wsV RL 105 RX9 yX9_setFloor wsX9_setFloor) := goodIn_app (goodIn_of _ (by decide +kernel)) ggL_sets_X9_setFloor
set_option maxRecDepth 20000 in
theorem ggL_sets_X9_setRule : GoodIn wsL_sets wsX9_setRule := goodIn_ca (goodIn_ca (goodIn_ca (goodIn_r _ [55, 56, 57, 12, 13, 58, 59, 60, 15, 16, 17, 10, 18, 19, 20, 21, 22, 23, 24, 25, 26, 27, 28, 29, 30, 31, 32, 33, 34, 35, 36, 37, 38, 39, 40, 41, 42, 43, 44, 45, 46, 47, 48, 49, 50, 51, 61, 62, 63, 64, 65, 66, 67, 68, 69, 70, 71, 72, 73, 74, 75, 76, 77, 78, 79, 80, 81, 82, 83, 84] (by decide +kernel) (by decide +kernel)) (goodIn_sub (fun _ h => List.mem_cons_of_mem _ (List.mem_append_right _ h)) (by decide +kernel))) (goodIn_sub (fun _ h => List.mem_cons_of_mem _ (List.mem_append_left _ (List.mem_append_left _ (List.mem_append_right _ h)))) (by decide +kernel))) (goodIn_sub (fun _ h => List.mem_cons_of_mem _ (List.mem_append_left _ (List.mem_append_right _ h))) (by decide +kernel))
set_option maxRecDepth 20000 in
theorem gL_sets_X9_setRule : GoodIn wsL_sets (wsV RL 108 RX9 yX9_setRule wsX9_setRule) := goodIn_app (goodIn_of _ (by decide +kernel)) ggL_sets_X9_setRule
theorem dL_sets_0 : decode cL_sets 0 = .ok (.iload_n 3, 1) := by decide +kernel
theorem dL_sets_1 : decode cL_sets 1 = .ok (.iconst 3, 1) := by decide +kernel
theorem dL_sets_2 : decode cL_sets 2 = .ok (.irem, 1) := by decide +kernel
theorem dL_sets_3 : decode cL_sets 3 = .ok (.ifCond .ne 15, 3) := by decide +kernel
theorem dL_sets_6 : decode cL_sets 6 = .ok (.iload_n 3, 1) := by decide +kernel
theorem dL_sets_7 : decode cL_sets 7 = .ok (.iconst 3, 1) := by decide +kernel
theorem dL_sets_8 : decode cL_sets 8 = .ok (.idiv, 1) := by decide +kernel
theorem dL_sets_9 : decode cL_sets 9 = .ok (.ldc 104, 2) := by decide +kernel
theorem dL_sets_11 : decode cL_sets 11 = .ok (.irem, 1) := by decide +kernel
theorem dL_sets_12 : decode cL_sets 12 = .ok (.ldc 86, 2) := by decide +kernel
theorem dL_sets_14 : decode cL_sets 14 = .ok (.isub, 1) := by decide +kernel
theorem dL_sets_15 : decode cL_sets 15 = .ok (.goto 14, 3) := by decide +kernel
theorem dL_sets_18 : decode cL_sets 18 = .ok (.iload_n 3, 1) := by decide +kernel
theorem dL_sets_19 : decode cL_sets 19 = .ok (.iconst 3, 1) := by decide +kernel
theorem dL_sets_20 : decode cL_sets 20 = .ok (.idiv, 1) := by decide +kernel
theorem dL_sets_21 : decode cL_sets 21 = .ok (.sipush 2001, 3) := by decide +kernel
theorem dL_sets_24 : decode cL_sets 24 = .ok (.irem, 1) := by decide +kernel
theorem dL_sets_25 : decode cL_sets 25 = .ok (.sipush 1000, 3) := by decide +kernel
theorem dL_sets_28 : decode cL_sets 28 = .ok (.isub, 1) := by decide +kernel
theorem dL_sets_29 : decode cL_sets 29 = .ok (.istore 5, 2) := by decide +kernel
theorem dL_sets_31 : decode cL_sets 31 = .ok (.iload 4, 2) := by decide +kernel
theorem dL_sets_33 : decode cL_sets 33 = .ok (.iconst 3, 1) := by decide +kernel
theorem dL_sets_34 : decode cL_sets 34 = .ok (.irem, 1) := by decide +kernel
theorem dL_sets_35 : decode cL_sets 35 = .ok (.ifCond .eq 11, 3) := by decide +kernel
theorem dL_sets_38 : decode cL_sets 38 = .ok (.aload_n 1, 1) := by decide +kernel
theorem dL_sets_39 : decode cL_sets 39 = .ok (.iload_n 2, 1) := by decide +kernel
theorem dL_sets_40 : decode cL_sets 40 = .ok (.invokestatic 10, 3) := by decide +kernel
theorem dL_sets_43 : decode cL_sets 43 = .ok (.ifCond .ge 41, 3) := by decide +kernel
theorem dL_sets_46 : decode cL_sets 46 = .ok (.aload_n 1, 1) := by decide +kernel
theorem dL_sets_47 : decode cL_sets 47 = .ok (.iconst 3, 1) := by decide +kernel
theorem dL_sets_48 : decode cL_sets 48 = .ok (.iload_n 2, 1) := by decide +kernel
theorem dL_sets_49 : decode cL_sets 49 = .ok (.imul, 1) := by decide +kernel
theorem dL_sets_50 : decode cL_sets 50 = .ok (.bipush 36, 2) := by decide +kernel
theorem dL_sets_52 : decode cL_sets 52 = .ok (.iadd, 1) := by decide +kernel
theorem dL_sets_53 : decode cL_sets 53 = .ok (.iaload, 1) := by decide +kernel
theorem dL_sets_54 : decode cL_sets 54 = .ok (.istore 6, 2) := by decide +kernel
theorem dL_sets_56 : decode cL_sets 56 = .ok (.aload_n 1, 1) := by decide +kernel
theorem dL_sets_57 : decode cL_sets 57 = .ok (.iconst 3, 1) := by decide +kernel
theorem dL_sets_58 : decode cL_sets 58 = .ok (.iload_n 2, 1) := by decide +kernel
theorem dL_sets_59 : decode cL_sets 59 = .ok (.imul, 1) := by decide +kernel
theorem dL_sets_60 : decode cL_sets 60 = .ok (.bipush 36, 2) := by decide +kernel
theorem dL_sets_62 : decode cL_sets 62 = .ok (.iadd, 1) := by decide +kernel
theorem dL_sets_63 : decode cL_sets 63 = .ok (.iload 5, 2) := by decide +kernel
theorem dL_sets_65 : decode cL_sets 65 = .ok (.iastore, 1) := by decide +kernel
theorem dL_sets_66 : decode cL_sets 66 = .ok (.aload_n 0, 1) := by decide +kernel
theorem dL_sets_67 : decode cL_sets 67 = .ok (.iload_n 2, 1) := by decide +kernel
theorem dL_sets_68 : decode cL_sets 68 = .ok (.iload 5, 2) := by decide +kernel
theorem dL_sets_70 : decode cL_sets 70 = .ok (.invokevirtual 105, 3) := by decide +kernel
theorem dL_sets_73 : decode cL_sets 73 = .ok (.iload 6, 2) := by decide +kernel
theorem dL_sets_75 : decode cL_sets 75 = .ok (.if_icmp .ne 7, 3) := by decide +kernel
theorem dL_sets_78 : decode cL_sets 78 = .ok (.iconst 1, 1) := by decide +kernel
theorem dL_sets_79 : decode cL_sets 79 = .ok (.goto 4, 3) := by decide +kernel
theorem dL_sets_82 : decode cL_sets 82 = .ok (.iconst 0, 1) := by decide +kernel
theorem dL_sets_83 : decode cL_sets 83 = .ok (.ireturn, 1) := by decide +kernel
theorem dL_sets_84 : decode cL_sets 84 = .ok (.aload_n 1, 1) := by decide +kernel
theorem dL_sets_85 : decode cL_sets 85 = .ok (.iconst 3, 1) := by decide +kernel
theorem dL_sets_86 : decode cL_sets 86 = .ok (.iload_n 2, 1) := by decide +kernel
theorem dL_sets_87 : decode cL_sets 87 = .ok (.imul, 1) := by decide +kernel
theorem dL_sets_88 : decode cL_sets 88 = .ok (.bipush 34, 2) := by decide +kernel
theorem dL_sets_90 : decode cL_sets 90 = .ok (.iadd, 1) := by decide +kernel
theorem dL_sets_91 : decode cL_sets 91 = .ok (.iaload, 1) := by decide +kernel
theorem dL_sets_92 : decode cL_sets 92 = .ok (.istore 6, 2) := by decide +kernel
theorem dL_sets_94 : decode cL_sets 94 = .ok (.aload_n 1, 1) := by decide +kernel
theorem dL_sets_95 : decode cL_sets 95 = .ok (.iconst 3, 1) := by decide +kernel
theorem dL_sets_96 : decode cL_sets 96 = .ok (.iload_n 2, 1) := by decide +kernel
theorem dL_sets_97 : decode cL_sets 97 = .ok (.imul, 1) := by decide +kernel
theorem dL_sets_98 : decode cL_sets 98 = .ok (.bipush 34, 2) := by decide +kernel
theorem dL_sets_100 : decode cL_sets 100 = .ok (.iadd, 1) := by decide +kernel
theorem dL_sets_101 : decode cL_sets 101 = .ok (.iload 4, 2) := by decide +kernel
theorem dL_sets_103 : decode cL_sets 103 = .ok (.iconst 3, 1) := by decide +kernel
theorem dL_sets_104 : decode cL_sets 104 = .ok (.idiv, 1) := by decide +kernel
theorem dL_sets_105 : decode cL_sets 105 = .ok (.iconst 4, 1) := by decide +kernel
theorem dL_sets_106 : decode cL_sets 106 = .ok (.irem, 1) := by decide +kernel
theorem dL_sets_107 : decode cL_sets 107 = .ok (.iastore, 1) := by decide +kernel
theorem dL_sets_108 : decode cL_sets 108 = .ok (.aload_n 1, 1) := by decide +kernel
theorem dL_sets_109 : decode cL_sets 109 = .ok (.iconst 3, 1) := by decide +kernel
theorem dL_sets_110 : decode cL_sets 110 = .ok (.iload_n 2, 1) := by decide +kernel
theorem dL_sets_111 : decode cL_sets 111 = .ok (.imul, 1) := by decide +kernel
theorem dL_sets_112 : decode cL_sets 112 = .ok (.bipush 35, 2) := by decide +kernel
theorem dL_sets_114 : decode cL_sets 114 = .ok (.iadd, 1) := by decide +kernel
theorem dL_sets_115 : decode cL_sets 115 = .ok (.iload 5, 2) := by decide +kernel
theorem dL_sets_117 : decode cL_sets 117 = .ok (.iastore, 1) := by decide +kernel
theorem dL_sets_118 : decode cL_sets 118 = .ok (.aload_n 0, 1) := by decide +kernel
theorem dL_sets_119 : decode cL_sets 119 = .ok (.iload_n 2, 1) := by decide +kernel
theorem dL_sets_120 : decode cL_sets 120 = .ok (.iload 4, 2) := by decide +kernel
theorem dL_sets_122 : decode cL_sets 122 = .ok (.iconst 3, 1) := by decide +kernel
theorem dL_sets_123 : decode cL_sets 123 = .ok (.idiv, 1) := by decide +kernel
theorem dL_sets_124 : decode cL_sets 124 = .ok (.iconst 4, 1) := by decide +kernel
theorem dL_sets_125 : decode cL_sets 125 = .ok (.irem, 1) := by decide +kernel
theorem dL_sets_126 : decode cL_sets 126 = .ok (.iload 5, 2) := by decide +kernel
theorem dL_sets_128 : decode cL_sets 128 = .ok (.invokevirtual 108, 3) := by decide +kernel
theorem dL_sets_131 : decode cL_sets 131 = .ok (.iload 6, 2) := by decide +kernel
theorem dL_sets_133 : decode cL_sets 133 = .ok (.if_icmp .ne 7, 3) := by decide +kernel
theorem dL_sets_136 : decode cL_sets 136 = .ok (.iconst 1, 1) := by decide +kernel
theorem dL_sets_137 : decode cL_sets 137 = .ok (.goto 4, 3) := by decide +kernel
theorem dL_sets_140 : decode cL_sets 140 = .ok (.iconst 0, 1) := by decide +kernel
theorem dL_sets_141 : decode cL_sets 141 = .ok (.ireturn, 1) := by decide +kernel
set_option maxRecDepth 20000 in
theorem ggL_borrows_L_top : GoodIn wsL_borrows wsL_top := goodIn_r _ [6, 7, 8, 5, 9] (by decide +kernel) (by decide +kernel)
set_option maxRecDepth 20000 in
theorem gL_borrows_L_top : GoodIn wsL_borrows (va_wsS RL 29 yL_top wsL_top) := goodIn_app (goodIn_of _ (by decide +kernel)) ggL_borrows_L_top
set_option maxRecDepth 20000 in
theorem ggL_borrows_X9_addLine : GoodIn wsL_borrows wsX9_addLine := goodIn_ca (goodIn_ca (goodIn_ca (goodIn_r _ [14, 15, 16, 17, 18, 19, 20, 21, 22, 13, 23, 24, 25, 26, 27, 28, 29, 30, 31, 32, 33, 34, 35, 36, 37, 38, 39, 40, 41, 42, 43, 44, 45, 46, 47, 48, 49, 50, 51, 52, 53, 54, 55, 56, 57, 58, 59, 60, 61, 62, 63, 64, 65, 66, 67, 68, 69, 70, 71, 72, 73, 74, 75, 76, 77, 78, 79, 80, 81, 82, 83, 84, 85, 86, 87, 88, 89, 90, 91, 92, 93, 94, 95, 96, 97, 98, 99, 100, 101, 102, 103, 104, 105, 106, 107, 108, 109, 110, 111, 112, 113, 114, 115, 116, 117, 118, 119, 120, 121, 122, 123, 124, 125, 126, 127, 128, 129, 130, 131, 132, 133, 134, 135, 136, 137, 138, 139, 140, 141, 142, 143, 144, 145, 146, 147, 148, 149, 150, 151, 152, 153, 154, 155, 156, 157, 158, 159, 160, 161, 162, 163, 164, 165, 166, 167, 168, 169, 170, 171, 172, 173, 174, 175, 176, 177, 178, 179, 180, 181, 182, 183, 184, 185, 186, 187, 188, 189] (by decide +kernel) (by decide +kernel)) (goodIn_sub (fun _ h => List.mem_cons_of_mem _ (List.mem_append_left _ (List.mem_append_left _ (List.mem_append_right _ h)))) (by decide +kernel))) (goodIn_sub (fun _ h => List.mem_cons_of_mem _ (List.mem_append_left _ (List.mem_append_right _ h))) (by decide +kernel))) (goodIn_sub (fun _ h => List.mem_cons_of_mem _ (List.mem_append_right _ h)) (by decide +kernel))
set_option maxRecDepth 20000 in
theorem gL_borrows_X9_addLine : GoodIn wsL_borrows (wsV RL 113 RX9 yX9_addLine wsX9_addLine) := goodIn_app (goodIn_of _ (by decide +kernel)) ggL_borrows_X9_addLine
theorem dL_borrows_0 : decode cL_borrows 0 = .ok (.aload_n 1, 1) := by decide +kernel
theorem dL_borrows_1 : decode cL_borrows 1 = .ok (.iconst 1, 1) := by decide +kernel
theorem dL_borrows_2 : decode cL_borrows 2 = .ok (.iaload, 1) := by decide +kernel
theorem dL_borrows_3 : decode cL_borrows 3 = .ok (.istore 5, 2) := by decide +kernel
theorem dL_borrows_5 : decode cL_borrows 5 = .ok (.iload 5, 2) := by decide +kernel
theorem dL_borrows_7 : decode cL_borrows 7 = .ok (.bipush 6, 2) := by decide +kernel
theorem dL_borrows_9 : decode cL_borrows 9 = .ok (.if_icmp .ne 5, 3) := by decide +kernel
theorem dL_borrows_12 : decode cL_borrows 12 = .ok (.iconst 1, 1) := by decide +kernel
theorem dL_borrows_13 : decode cL_borrows 13 = .ok (.ireturn, 1) := by decide +kernel
theorem dL_borrows_14 : decode cL_borrows 14 = .ok (.aload_n 1, 1) := by decide +kernel
theorem dL_borrows_15 : decode cL_borrows 15 = .ok (.iconst 1, 1) := by decide +kernel
theorem dL_borrows_16 : decode cL_borrows 16 = .ok (.iload 5, 2) := by decide +kernel
theorem dL_borrows_18 : decode cL_borrows 18 = .ok (.iconst 1, 1) := by decide +kernel
theorem dL_borrows_19 : decode cL_borrows 19 = .ok (.iadd, 1) := by decide +kernel
theorem dL_borrows_20 : decode cL_borrows 20 = .ok (.iastore, 1) := by decide +kernel
theorem dL_borrows_21 : decode cL_borrows 21 = .ok (.aload_n 1, 1) := by decide +kernel
theorem dL_borrows_22 : decode cL_borrows 22 = .ok (.iconst 2, 1) := by decide +kernel
theorem dL_borrows_23 : decode cL_borrows 23 = .ok (.iload 5, 2) := by decide +kernel
theorem dL_borrows_25 : decode cL_borrows 25 = .ok (.imul, 1) := by decide +kernel
theorem dL_borrows_26 : decode cL_borrows 26 = .ok (.bipush 22, 2) := by decide +kernel
theorem dL_borrows_28 : decode cL_borrows 28 = .ok (.iadd, 1) := by decide +kernel
theorem dL_borrows_29 : decode cL_borrows 29 = .ok (.aload_n 1, 1) := by decide +kernel
theorem dL_borrows_30 : decode cL_borrows 30 = .ok (.iload_n 2, 1) := by decide +kernel
theorem dL_borrows_31 : decode cL_borrows 31 = .ok (.invokestatic 29, 3) := by decide +kernel
theorem dL_borrows_34 : decode cL_borrows 34 = .ok (.iastore, 1) := by decide +kernel
theorem dL_borrows_35 : decode cL_borrows 35 = .ok (.aload_n 1, 1) := by decide +kernel
theorem dL_borrows_36 : decode cL_borrows 36 = .ok (.iconst 2, 1) := by decide +kernel
theorem dL_borrows_37 : decode cL_borrows 37 = .ok (.iload 5, 2) := by decide +kernel
theorem dL_borrows_39 : decode cL_borrows 39 = .ok (.imul, 1) := by decide +kernel
theorem dL_borrows_40 : decode cL_borrows 40 = .ok (.bipush 23, 2) := by decide +kernel
theorem dL_borrows_42 : decode cL_borrows 42 = .ok (.iadd, 1) := by decide +kernel
theorem dL_borrows_43 : decode cL_borrows 43 = .ok (.iconst 1, 1) := by decide +kernel
theorem dL_borrows_44 : decode cL_borrows 44 = .ok (.iload 4, 2) := by decide +kernel
theorem dL_borrows_46 : decode cL_borrows 46 = .ok (.iconst 2, 1) := by decide +kernel
theorem dL_borrows_47 : decode cL_borrows 47 = .ok (.irem, 1) := by decide +kernel
theorem dL_borrows_48 : decode cL_borrows 48 = .ok (.ifCond .ne 10, 3) := by decide +kernel
theorem dL_borrows_51 : decode cL_borrows 51 = .ok (.iload_n 3, 1) := by decide +kernel
theorem dL_borrows_52 : decode cL_borrows 52 = .ok (.ldc 111, 2) := by decide +kernel
theorem dL_borrows_54 : decode cL_borrows 54 = .ok (.irem, 1) := by decide +kernel
theorem dL_borrows_55 : decode cL_borrows 55 = .ok (.goto 7, 3) := by decide +kernel
theorem dL_borrows_58 : decode cL_borrows 58 = .ok (.iload_n 3, 1) := by decide +kernel
theorem dL_borrows_59 : decode cL_borrows 59 = .ok (.ldc 112, 2) := by decide +kernel
theorem dL_borrows_61 : decode cL_borrows 61 = .ok (.irem, 1) := by decide +kernel
theorem dL_borrows_62 : decode cL_borrows 62 = .ok (.iadd, 1) := by decide +kernel
theorem dL_borrows_63 : decode cL_borrows 63 = .ok (.iastore, 1) := by decide +kernel
theorem dL_borrows_64 : decode cL_borrows 64 = .ok (.aload_n 0, 1) := by decide +kernel
theorem dL_borrows_65 : decode cL_borrows 65 = .ok (.aload_n 1, 1) := by decide +kernel
theorem dL_borrows_66 : decode cL_borrows 66 = .ok (.iload_n 2, 1) := by decide +kernel
theorem dL_borrows_67 : decode cL_borrows 67 = .ok (.invokestatic 29, 3) := by decide +kernel
theorem dL_borrows_70 : decode cL_borrows 70 = .ok (.aload_n 1, 1) := by decide +kernel
theorem dL_borrows_71 : decode cL_borrows 71 = .ok (.iconst 2, 1) := by decide +kernel
theorem dL_borrows_72 : decode cL_borrows 72 = .ok (.iload 5, 2) := by decide +kernel
theorem dL_borrows_74 : decode cL_borrows 74 = .ok (.imul, 1) := by decide +kernel
theorem dL_borrows_75 : decode cL_borrows 75 = .ok (.bipush 23, 2) := by decide +kernel
theorem dL_borrows_77 : decode cL_borrows 77 = .ok (.iadd, 1) := by decide +kernel
theorem dL_borrows_78 : decode cL_borrows 78 = .ok (.iaload, 1) := by decide +kernel
theorem dL_borrows_79 : decode cL_borrows 79 = .ok (.iload 4, 2) := by decide +kernel
theorem dL_borrows_81 : decode cL_borrows 81 = .ok (.iconst 2, 1) := by decide +kernel
theorem dL_borrows_82 : decode cL_borrows 82 = .ok (.idiv, 1) := by decide +kernel
theorem dL_borrows_83 : decode cL_borrows 83 = .ok (.sipush 1001, 3) := by decide +kernel
theorem dL_borrows_86 : decode cL_borrows 86 = .ok (.irem, 1) := by decide +kernel
theorem dL_borrows_87 : decode cL_borrows 87 = .ok (.invokevirtual 113, 3) := by decide +kernel
theorem dL_borrows_90 : decode cL_borrows 90 = .ok (.iload 5, 2) := by decide +kernel
theorem dL_borrows_92 : decode cL_borrows 92 = .ok (.if_icmp .ne 7, 3) := by decide +kernel
theorem dL_borrows_95 : decode cL_borrows 95 = .ok (.iconst 1, 1) := by decide +kernel
theorem dL_borrows_96 : decode cL_borrows 96 = .ok (.goto 4, 3) := by decide +kernel
theorem dL_borrows_99 : decode cL_borrows 99 = .ok (.iconst 0, 1) := by decide +kernel
theorem dL_borrows_100 : decode cL_borrows 100 = .ok (.ireturn, 1) := by decide +kernel
set_option maxRecDepth 20000 in
theorem ggL_step_L_makes : GoodIn wsL_step wsL_makes := goodIn_ca (goodIn_ca (goodIn_ca (goodIn_r _ [7, 8, 9, 10, 11, 12, 13, 14, 15, 16, 17, 18, 19, 20, 21, 22, 23, 24, 25, 26, 27, 28, 29, 30, 31, 32, 33, 34, 35, 36, 37, 38, 39, 40, 41, 42, 43, 44, 45, 46, 47, 48, 49, 50, 51, 52, 53, 54, 55, 56, 57, 58, 59, 60, 61, 62, 63, 64, 65, 66, 67, 68, 69, 70, 71, 72, 73, 74, 75, 76, 77, 78, 79, 80, 81, 82, 83, 84, 85, 86, 87, 88, 89, 90, 91, 92, 93, 94, 95, 96, 97, 98, 99, 100, 101, 102, 103, 104, 105, 106, 107, 108, 109, 110, 111, 112, 113, 114, 115, 116, 117, 118, 119, 120, 121, 122, 123, 124, 125, 126, 127, 128, 129, 130, 131, 132, 133, 134, 135, 136, 137, 138, 139, 140, 141, 142, 143, 144, 145, 146, 147, 148, 149, 150, 151, 152, 153, 154, 155, 156, 157, 158, 159, 160, 161, 162, 163, 164, 165, 166, 167, 168, 169, 170, 171, 172, 173, 174, 175, 176, 177, 178, 179, 180, 181, 182, 183, 184, 185, 186, 187, 188, 189, 190, 191, 192, 193, 194, 624, 625, 626, 627, 628, 629, 630, 631, 632, 633, 634, 635, 636, 637, 638, 639, 640, 641, 642, 643, 644, 645, 646, 647, 648, 649, 650, 651, 652, 653, 654, 655, 656, 657, 658, 659, 660, 661, 662] (by decide +kernel) (by decide +kernel)) (goodIn_sub (fun _ h => List.mem_cons_of_mem _ (List.mem_append_left _ (List.mem_append_left _ (List.mem_append_right _ h)))) (by decide +kernel))) (goodIn_sub (fun _ h => List.mem_cons_of_mem _ (List.mem_append_left _ (List.mem_append_right _ h))) (by decide +kernel))) (goodIn_sub (fun _ h => List.mem_cons_of_mem _ (List.mem_append_right _ h)) (by decide +kernel))
set_option maxRecDepth 20000 in
theorem gL_step_L_makes : GoodIn wsL_step (va_wsS RL 116 yL_makes wsL_makes) := goodIn_app (goodIn_of _ (by decide +kernel)) ggL_step_L_makes
set_option maxRecDepth 20000 in
theorem ggL_step_L_sets : GoodIn wsL_step wsL_sets := goodIn_ca (goodIn_ca (goodIn_ca (goodIn_r _ [197, 198, 2, 199, 200, 6, 201, 202, 203, 204, 11, 205, 206, 207, 208, 183, 184, 185, 186, 187, 188, 13, 54, 189, 22, 23, 24, 25, 26, 27, 28, 29, 30, 31, 32, 33, 34, 35, 36, 37, 38, 39, 40, 41, 42, 43, 44, 45, 46, 47, 18, 19, 209, 210, 211, 212, 52, 53, 213, 214, 215, 641, 642, 643, 644, 645, 646, 647, 648, 649, 650, 651, 652, 624, 625, 626, 627, 628, 629, 630, 631, 632, 633, 634, 635] (by decide +kernel) (by decide +kernel)) (goodIn_sub (fun _ h => List.mem_cons_of_mem _ (List.mem_append_right _ h)) (by decide +kernel))) (goodIn_sub (fun _ h => List.mem_cons_of_mem _ (List.mem_append_left _ (List.mem_append_left _ (List.mem_append_right _ h)))) (by decide +kernel))) (goodIn_sub (fun _ h => List.mem_cons_of_mem _ (List.mem_append_left _ (List.mem_append_right _ h))) (by decide +kernel))
set_option maxRecDepth 20000 in
theorem gL_step_L_sets : GoodIn wsL_step (va_wsS RL 120 yL_sets wsL_sets) := goodIn_app (goodIn_of _ (by decide +kernel)) ggL_step_L_sets
set_option maxRecDepth 20000 in
theorem ggL_step_L_borrows : GoodIn wsL_step wsL_borrows := goodIn_ca (goodIn_ca (goodIn_ca (goodIn_r _ [218, 219, 220, 221, 222, 6, 223, 199, 200, 201, 224, 225, 226, 11, 227, 52, 53, 228, 13, 229, 183, 184, 185, 186, 187, 188, 54, 189, 22, 23, 24, 25, 26, 27, 28, 29, 30, 31, 32, 33, 34, 35, 36, 37, 38, 39, 40, 41, 42, 43, 44, 45, 46, 47, 18, 19, 230, 231, 232, 213, 233, 234, 235, 58, 236, 237, 238, 239, 240, 177, 241, 242, 243, 244, 73, 74, 245, 246, 247, 121, 122, 123, 124, 125, 126, 127, 128, 129, 130, 131, 132, 133, 134, 135, 136, 137, 138, 88, 139, 140, 141, 142, 143, 144, 145, 146, 147, 148, 149, 150, 151, 152, 153, 154, 155, 156, 157, 158, 159, 160, 161, 162, 163, 164, 165, 166, 167, 168, 169, 170, 171, 172, 248, 249, 250, 63, 251, 78, 252, 253, 254, 255, 256, 257, 258, 259, 260, 261, 262, 263, 264, 68, 624, 625, 626, 627, 628, 629, 630, 631, 632, 633, 634, 635, 641, 642, 643, 644, 645, 646, 647, 648, 649, 650, 651, 652, 663, 664, 665, 666, 667, 668, 669, 670, 671, 636, 637, 638, 639, 640] (by decide +kernel) (by decide +kernel)) (goodIn_sub (fun _ h => List.mem_cons_of_mem _ (List.mem_append_left _ (List.mem_append_right _ h))) (by decide +kernel))) (goodIn_sub (fun _ h => List.mem_cons_of_mem _ (List.mem_append_right _ h)) (by decide +kernel))) (goodIn_sub (fun _ h => List.mem_cons_of_mem _ (List.mem_append_left _ (List.mem_append_left _ (List.mem_append_right _ h)))) (by decide +kernel))
set_option maxRecDepth 20000 in
theorem gL_step_L_borrows : GoodIn wsL_step (va_wsS RL 124 yL_borrows wsL_borrows) := goodIn_app (goodIn_of _ (by decide +kernel)) ggL_step_L_borrows
set_option maxRecDepth 20000 in
theorem ggL_step_X9_setBankLimit : GoodIn wsL_step wsX9_setBankLimit := goodIn_ca (goodIn_r _ [268, 269, 270, 14, 15, 16, 11, 17, 18, 19, 13, 20, 21, 22, 23, 24, 25, 26, 27, 28, 29, 30, 31, 32, 33, 34, 35, 36, 37, 38, 39, 40, 41, 42, 43, 44, 45, 46, 47, 672, 673, 674, 624, 625, 626, 627, 628, 629, 630, 631, 632, 633, 634, 635] (by decide +kernel) (by decide +kernel)) (goodIn_sub (fun _ h => List.mem_cons_of_mem _ (List.mem_append_left _ (List.mem_append_left _ (List.mem_append_right _ h)))) (by decide +kernel))
set_option maxRecDepth 20000 in
theorem gL_step_X9_setBankLimit : GoodIn wsL_step (wsV RL 128 RX9 yX9_setBankLimit wsX9_setBankLimit) := goodIn_app (goodIn_of _ (by decide +kernel)) ggL_step_X9_setBankLimit
set_option maxRecDepth 20000 in
theorem ggL_step_X9_addHoliday : GoodIn wsL_step wsX9_addHoliday := goodIn_ca (goodIn_r _ [274, 13, 275, 45, 46, 11, 47, 18, 19, 276, 277, 278, 279, 280, 281, 282, 283, 284, 285, 286, 287, 288, 289, 624, 625, 626, 627, 628, 629, 630, 631, 632, 675] (by decide +kernel) (by decide +kernel)) (goodIn_sub (fun _ h => List.mem_cons_of_mem _ (List.mem_append_left _ (List.mem_append_left _ (List.mem_append_right _ h)))) (by decide +kernel))
set_option maxRecDepth 20000 in
theorem gL_step_X9_addHoliday : GoodIn wsL_step (wsV RL 131 RX9 yX9_addHoliday wsX9_addHoliday) := goodIn_app (goodIn_of _ (by decide +kernel)) ggL_step_X9_addHoliday
set_option maxRecDepth 20000 in
theorem ggL_step_X9_settlementDay : GoodIn wsL_step wsX9_settlementDay := goodIn_ca (goodIn_r _ [293, 13, 275, 45, 46, 11, 47, 18, 19, 294, 295, 296, 279, 297, 286, 287, 288, 289, 281, 624, 625, 626, 627, 628, 629, 630, 631, 632, 675] (by decide +kernel) (by decide +kernel)) (goodIn_sub (fun _ h => List.mem_cons_of_mem _ (List.mem_append_left _ (List.mem_append_left _ (List.mem_append_right _ h)))) (by decide +kernel))
set_option maxRecDepth 20000 in
theorem gL_step_X9_settlementDay : GoodIn wsL_step (wsV RL 64 RX9 yX9_settlementDay wsX9_settlementDay) := goodIn_app (goodIn_of _ (by decide +kernel)) ggL_step_X9_settlementDay
set_option maxRecDepth 20000 in
theorem ggL_step_X9_balance : GoodIn wsL_step wsX9_balance := goodIn_ca (goodIn_r _ [301, 302, 183, 184, 185, 11, 186, 187, 188, 13, 54, 189, 22, 23, 24, 25, 26, 27, 28, 29, 30, 31, 32, 33, 34, 35, 36, 37, 38, 39, 40, 41, 42, 43, 44, 641, 642, 643, 644, 645, 646, 647, 648, 649, 650, 651, 652, 624, 625, 626, 627, 628, 629, 630, 631, 632, 633, 634, 635] (by decide +kernel) (by decide +kernel)) (goodIn_sub (fun _ h => List.mem_cons_of_mem _ (List.mem_append_right _ h)) (by decide +kernel))
set_option maxRecDepth 20000 in
theorem gL_step_X9_balance : GoodIn wsL_step (wsV RL 22 RX9 yX9_balance wsX9_balance) := goodIn_app (goodIn_of _ (by decide +kernel)) ggL_step_X9_balance
set_option maxRecDepth 20000 in
theorem ggL_step_X9_book : GoodIn wsL_step wsX9_book := goodIn_ca (goodIn_ca (goodIn_r _ [306, 302, 183, 184, 185, 11, 186, 187, 188, 13, 54, 189, 22, 23, 24, 25, 26, 27, 28, 29, 30, 31, 32, 33, 34, 35, 36, 37, 38, 39, 40, 41, 42, 43, 44, 307, 308, 309, 18, 19, 206, 207, 45, 46, 47, 641, 642, 643, 644, 645, 646, 647, 648, 649, 650, 651, 652, 624, 625, 626, 627, 628, 629, 630, 631, 632, 633, 634, 635] (by decide +kernel) (by decide +kernel)) (goodIn_sub (fun _ h => List.mem_cons_of_mem _ (List.mem_append_right _ h)) (by decide +kernel))) (goodIn_sub (fun _ h => List.mem_cons_of_mem _ (List.mem_append_left _ (List.mem_append_left _ (List.mem_append_right _ h)))) (by decide +kernel))
set_option maxRecDepth 20000 in
theorem gL_step_X9_book : GoodIn wsL_step (wsV RL 135 RX9 yX9_book wsX9_book) := goodIn_app (goodIn_of _ (by decide +kernel)) ggL_step_X9_book
set_option maxRecDepth 20000 in
theorem ggL_step_L_top : GoodIn wsL_step wsL_top := goodIn_r _ [223, 199, 200, 6, 201] (by decide +kernel) (by decide +kernel)
set_option maxRecDepth 20000 in
theorem gL_step_L_top : GoodIn wsL_step (va_wsS RL 29 yL_top wsL_top) := goodIn_app (goodIn_of _ (by decide +kernel)) ggL_step_L_top
