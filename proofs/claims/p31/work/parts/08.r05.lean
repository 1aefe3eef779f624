set_option maxRecDepth 20000 in
theorem gL_step_L_foretells : GoodIn wsL_step (va_wsS RL 138 yL_foretells wsL_foretells) := goodIn_app (goodIn_of _ (by decide +kernel)) ggL_step_L_foretells
set_option maxRecDepth 20000 in
theorem ggL_step_L_passes : GoodIn wsL_step wsL_passes := goodIn_ca (goodIn_ca (goodIn_ca (goodIn_r _ [577, 103, 313, 314, 315, 11, 316, 13, 317, 290, 291, 292, 293, 275, 45, 46, 47, 18, 19, 294, 295, 296, 279, 297, 286, 287, 288, 289, 281, 221, 222, 6, 223, 199, 200, 201, 567, 568, 569, 570, 302, 183, 184, 185, 186, 187, 188, 54, 189, 22, 23, 24, 25, 26, 27, 28, 29, 30, 31, 32, 33, 34, 35, 36, 37, 38, 39, 40, 41, 42, 43, 44, 322, 323, 324, 58, 325, 326, 327, 60, 328, 67, 177, 240, 329, 330, 331, 68, 332, 333, 334, 335, 66, 336, 337, 338, 339, 340, 341, 342, 343, 63, 344, 83, 84, 345, 346, 347, 82, 348, 349, 350, 351, 352, 104, 107, 353, 170, 171, 172, 354, 355, 356, 239, 357, 358, 359, 360, 361, 362, 363, 364, 365, 366, 367, 368, 369, 370, 371, 372, 373, 374, 375, 376, 377, 378, 379, 380, 381, 382, 383, 384, 385, 386, 387, 388, 389, 390, 391, 392, 393, 394, 395, 396, 397, 398, 399, 400, 401, 402, 403, 404, 405, 406, 141, 407, 408, 409, 410, 411, 412, 413, 414, 415, 416, 417, 418, 419, 420, 421, 422, 423, 424, 425, 426, 427, 428, 429, 430, 431, 432, 433, 434, 435, 436, 78, 252, 437, 438, 439, 440, 441, 254, 255, 442, 443, 444, 445, 446, 447, 448, 449, 450, 451, 452, 453, 454, 455, 456, 457, 458, 459, 460, 461, 462, 463, 464, 465, 466, 467, 468, 469, 470, 471, 472, 473, 474, 475, 178, 476, 477, 478, 479, 480, 481, 482, 483, 484, 485, 486, 487, 488, 489, 490, 491, 492, 493, 494, 495, 496, 77, 497, 498, 499, 500, 501, 109, 108, 502, 503, 504, 505, 506, 507, 508, 509, 510, 247, 511, 512, 513, 514, 515, 516, 517, 518, 519, 520, 521, 522, 523, 105, 524, 525, 526, 527, 106, 528, 529, 530, 531, 532, 533, 534, 535, 536, 537, 538, 539, 540, 541, 245, 542, 543, 544, 545, 546, 547, 548, 549, 550, 551, 552, 553, 554, 555, 556, 557, 558, 559, 560, 561, 562, 563, 564, 565, 566, 298, 299, 300, 301, 578, 579, 580, 581, 582, 583, 584, 585, 586, 587, 588, 589, 590, 591, 592, 593, 594, 595, 596, 597, 598, 599, 230, 231, 232, 52, 53, 213, 600, 601, 602, 603, 604, 605, 606, 607, 608, 229, 609, 610, 611, 612, 613, 614, 571, 572, 573, 574, 615, 616, 617, 618, 619, 620, 621, 622, 14, 15, 16, 17, 20, 21, 623, 624, 625, 626, 627, 628, 629, 630, 631, 632, 675, 641, 642, 643, 644, 645, 646, 647, 648, 649, 650, 651, 652, 633, 634, 635, 636, 637, 638, 639, 640, 653, 654, 655, 656, 657, 658, 659, 660, 661, 662, 663, 664, 665, 666, 667, 668, 669, 670, 671, 676, 677, 678, 679, 680, 681, 682, 672, 673, 674] (by decide +kernel) (by decide +kernel)) (goodIn_sub (fun _ h => List.mem_cons_of_mem _ (List.mem_append_left _ (List.mem_append_left _ (List.mem_append_right _ h)))) (by decide +kernel))) (goodIn_sub (fun _ h => List.mem_cons_of_mem _ (List.mem_append_right _ h)) (by decide +kernel))) (goodIn_sub (fun _ h => List.mem_cons_of_mem _ (List.mem_append_left _ (List.mem_append_right _ h))) (by decide +kernel))
set_option maxRecDepth 20000 in
theorem gL_step_L_passes : GoodIn wsL_step (va_wsS RL 142 yL_passes wsL_passes) := goodIn_app (goodIn_of _ (by decide +kernel)) ggL_step_L_passes
theorem dL_step_0 : decode cL_step 0 = .ok (.aload 4, 2) := by decide +kernel
theorem dL_step_2 : decode cL_step 2 = .ok (.iconst 0, 1) := by decide +kernel
theorem dL_step_3 : decode cL_step 3 = .ok (.iaload, 1) := by decide +kernel
theorem dL_step_4 : decode cL_step 4 = .ok (.ifCond .eq 8, 3) := by decide +kernel
theorem dL_step_7 : decode cL_step 7 = .ok (.iload_n 1, 1) := by decide +kernel
theorem dL_step_8 : decode cL_step 8 = .ok (.iconst 2, 1) := by decide +kernel
theorem dL_step_9 : decode cL_step 9 = .ok (.if_icmp .ge 35, 3) := by decide +kernel
theorem dL_step_12 : decode cL_step 12 = .ok (.aload 4, 2) := by decide +kernel
theorem dL_step_14 : decode cL_step 14 = .ok (.iconst 0, 1) := by decide +kernel
theorem dL_step_15 : decode cL_step 15 = .ok (.iaload, 1) := by decide +kernel
theorem dL_step_16 : decode cL_step 16 = .ok (.bipush 10, 2) := by decide +kernel
theorem dL_step_18 : decode cL_step 18 = .ok (.if_icmp .eq 20, 3) := by decide +kernel
theorem dL_step_21 : decode cL_step 21 = .ok (.aload_n 0, 1) := by decide +kernel
theorem dL_step_22 : decode cL_step 22 = .ok (.aload 4, 2) := by decide +kernel
theorem dL_step_24 : decode cL_step 24 = .ok (.iload_n 2, 1) := by decide +kernel
theorem dL_step_25 : decode cL_step 25 = .ok (.iload_n 3, 1) := by decide +kernel
theorem dL_step_26 : decode cL_step 26 = .ok (.invokestatic 116, 3) := by decide +kernel
theorem dL_step_29 : decode cL_step 29 = .ok (.aload 4, 2) := by decide +kernel
theorem dL_step_31 : decode cL_step 31 = .ok (.iconst 0, 1) := by decide +kernel
theorem dL_step_32 : decode cL_step 32 = .ok (.iaload, 1) := by decide +kernel
theorem dL_step_33 : decode cL_step 33 = .ok (.iconst 1, 1) := by decide +kernel
theorem dL_step_34 : decode cL_step 34 = .ok (.isub, 1) := by decide +kernel
theorem dL_step_35 : decode cL_step 35 = .ok (.if_icmp .ne 7, 3) := by decide +kernel
theorem dL_step_38 : decode cL_step 38 = .ok (.iconst 1, 1) := by decide +kernel
theorem dL_step_39 : decode cL_step 39 = .ok (.goto 4, 3) := by decide +kernel
theorem dL_step_42 : decode cL_step 42 = .ok (.iconst 0, 1) := by decide +kernel
theorem dL_step_43 : decode cL_step 43 = .ok (.ireturn, 1) := by decide +kernel
theorem dL_step_44 : decode cL_step 44 = .ok (.iload_n 2, 1) := by decide +kernel
theorem dL_step_45 : decode cL_step 45 = .ok (.aload 4, 2) := by decide +kernel
theorem dL_step_47 : decode cL_step 47 = .ok (.iconst 0, 1) := by decide +kernel
theorem dL_step_48 : decode cL_step 48 = .ok (.iaload, 1) := by decide +kernel
theorem dL_step_49 : decode cL_step 49 = .ok (.irem, 1) := by decide +kernel
theorem dL_step_50 : decode cL_step 50 = .ok (.istore 6, 2) := by decide +kernel
theorem dL_step_52 : decode cL_step 52 = .ok (.iload_n 1, 1) := by decide +kernel
theorem dL_step_53 : decode cL_step 53 = .ok (.tableswitch 272 2 10 #[51, 51, 65, 76, 129, 185, 185, 185, 252], 51) := by decide +kernel
theorem dL_step_104 : decode cL_step 104 = .ok (.aload_n 0, 1) := by decide +kernel
theorem dL_step_105 : decode cL_step 105 = .ok (.aload 4, 2) := by decide +kernel
theorem dL_step_107 : decode cL_step 107 = .ok (.iload 6, 2) := by decide +kernel
theorem dL_step_109 : decode cL_step 109 = .ok (.iload_n 3, 1) := by decide +kernel
theorem dL_step_110 : decode cL_step 110 = .ok (.iload_n 2, 1) := by decide +kernel
theorem dL_step_111 : decode cL_step 111 = .ok (.bipush 10, 2) := by decide +kernel
theorem dL_step_113 : decode cL_step 113 = .ok (.idiv, 1) := by decide +kernel
theorem dL_step_114 : decode cL_step 114 = .ok (.invokestatic 120, 3) := by decide +kernel
theorem dL_step_117 : decode cL_step 117 = .ok (.ireturn, 1) := by decide +kernel
theorem dL_step_118 : decode cL_step 118 = .ok (.aload_n 0, 1) := by decide +kernel
theorem dL_step_119 : decode cL_step 119 = .ok (.aload 4, 2) := by decide +kernel
theorem dL_step_121 : decode cL_step 121 = .ok (.iload 6, 2) := by decide +kernel
theorem dL_step_123 : decode cL_step 123 = .ok (.iload_n 2, 1) := by decide +kernel
theorem dL_step_124 : decode cL_step 124 = .ok (.iload_n 3, 1) := by decide +kernel
theorem dL_step_125 : decode cL_step 125 = .ok (.invokestatic 124, 3) := by decide +kernel
theorem dL_step_128 : decode cL_step 128 = .ok (.ireturn, 1) := by decide +kernel
theorem dL_step_129 : decode cL_step 129 = .ok (.iload_n 2, 1) := by decide +kernel
theorem dL_step_130 : decode cL_step 130 = .ok (.iconst 4, 1) := by decide +kernel
theorem dL_step_131 : decode cL_step 131 = .ok (.irem, 1) := by decide +kernel
theorem dL_step_132 : decode cL_step 132 = .ok (.istore 7, 2) := by decide +kernel
theorem dL_step_134 : decode cL_step 134 = .ok (.aload 5, 2) := by decide +kernel
theorem dL_step_136 : decode cL_step 136 = .ok (.iload 7, 2) := by decide +kernel
theorem dL_step_138 : decode cL_step 138 = .ok (.iaload, 1) := by decide +kernel
theorem dL_step_139 : decode cL_step 139 = .ok (.istore 8, 2) := by decide +kernel
theorem dL_step_141 : decode cL_step 141 = .ok (.aload 5, 2) := by decide +kernel
theorem dL_step_143 : decode cL_step 143 = .ok (.iload 7, 2) := by decide +kernel
theorem dL_step_145 : decode cL_step 145 = .ok (.iload_n 3, 1) := by decide +kernel
theorem dL_step_146 : decode cL_step 146 = .ok (.iconst 5, 1) := by decide +kernel
theorem dL_step_147 : decode cL_step 147 = .ok (.irem, 1) := by decide +kernel
theorem dL_step_148 : decode cL_step 148 = .ok (.ifCond .ne 7, 3) := by decide +kernel
theorem dL_step_151 : decode cL_step 151 = .ok (.iconst (-1), 1) := by decide +kernel
theorem dL_step_152 : decode cL_step 152 = .ok (.goto 7, 3) := by decide +kernel
theorem dL_step_155 : decode cL_step 155 = .ok (.iload_n 3, 1) := by decide +kernel
theorem dL_step_156 : decode cL_step 156 = .ok (.ldc 127, 2) := by decide +kernel
theorem dL_step_158 : decode cL_step 158 = .ok (.irem, 1) := by decide +kernel
theorem dL_step_159 : decode cL_step 159 = .ok (.iastore, 1) := by decide +kernel
theorem dL_step_160 : decode cL_step 160 = .ok (.aload_n 0, 1) := by decide +kernel
theorem dL_step_161 : decode cL_step 161 = .ok (.iload 7, 2) := by decide +kernel
theorem dL_step_163 : decode cL_step 163 = .ok (.aload 5, 2) := by decide +kernel
theorem dL_step_165 : decode cL_step 165 = .ok (.iload 7, 2) := by decide +kernel
theorem dL_step_167 : decode cL_step 167 = .ok (.iaload, 1) := by decide +kernel
theorem dL_step_168 : decode cL_step 168 = .ok (.invokevirtual 128, 3) := by decide +kernel
theorem dL_step_171 : decode cL_step 171 = .ok (.iload 8, 2) := by decide +kernel
theorem dL_step_173 : decode cL_step 173 = .ok (.if_icmp .ne 7, 3) := by decide +kernel
theorem dL_step_176 : decode cL_step 176 = .ok (.iconst 1, 1) := by decide +kernel
theorem dL_step_177 : decode cL_step 177 = .ok (.goto 4, 3) := by decide +kernel
theorem dL_step_180 : decode cL_step 180 = .ok (.iconst 0, 1) := by decide +kernel
theorem dL_step_181 : decode cL_step 181 = .ok (.ireturn, 1) := by decide +kernel
theorem dL_step_182 : decode cL_step 182 = .ok (.iload_n 3, 1) := by decide +kernel
theorem dL_step_183 : decode cL_step 183 = .ok (.sipush 451, 3) := by decide +kernel
theorem dL_step_186 : decode cL_step 186 = .ok (.irem, 1) := by decide +kernel
theorem dL_step_187 : decode cL_step 187 = .ok (.istore 9, 2) := by decide +kernel
theorem dL_step_189 : decode cL_step 189 = .ok (.aload_n 0, 1) := by decide +kernel
theorem dL_step_190 : decode cL_step 190 = .ok (.iload 9, 2) := by decide +kernel
theorem dL_step_192 : decode cL_step 192 = .ok (.invokevirtual 131, 3) := by decide +kernel
theorem dL_step_195 : decode cL_step 195 = .ok (.istore 10, 2) := by decide +kernel
theorem dL_step_197 : decode cL_step 197 = .ok (.iload 10, 2) := by decide +kernel
theorem dL_step_199 : decode cL_step 199 = .ok (.ifCond .lt 37, 3) := by decide +kernel
theorem dL_step_202 : decode cL_step 202 = .ok (.iload 10, 2) := by decide +kernel
theorem dL_step_204 : decode cL_step 204 = .ok (.sipush 323, 3) := by decide +kernel
theorem dL_step_207 : decode cL_step 207 = .ok (.if_icmp .gt 29, 3) := by decide +kernel
theorem dL_step_210 : decode cL_step 210 = .ok (.aload_n 0, 1) := by decide +kernel
theorem dL_step_211 : decode cL_step 211 = .ok (.iload 9, 2) := by decide +kernel
theorem dL_step_213 : decode cL_step 213 = .ok (.invokevirtual 64, 3) := by decide +kernel
theorem dL_step_216 : decode cL_step 216 = .ok (.iload 9, 2) := by decide +kernel
theorem dL_step_218 : decode cL_step 218 = .ok (.if_icmp .eq 18, 3) := by decide +kernel
theorem dL_step_221 : decode cL_step 221 = .ok (.aload_n 0, 1) := by decide +kernel
theorem dL_step_222 : decode cL_step 222 = .ok (.iload 9, 2) := by decide +kernel
theorem dL_step_224 : decode cL_step 224 = .ok (.invokevirtual 131, 3) := by decide +kernel
theorem dL_step_227 : decode cL_step 227 = .ok (.iload 10, 2) := by decide +kernel
theorem dL_step_229 : decode cL_step 229 = .ok (.if_icmp .ne 7, 3) := by decide +kernel
theorem dL_step_232 : decode cL_step 232 = .ok (.iconst 1, 1) := by decide +kernel
theorem dL_step_233 : decode cL_step 233 = .ok (.goto 4, 3) := by decide +kernel
theorem dL_step_236 : decode cL_step 236 = .ok (.iconst 0, 1) := by decide +kernel
theorem dL_step_237 : decode cL_step 237 = .ok (.ireturn, 1) := by decide +kernel
theorem dL_step_238 : decode cL_step 238 = .ok (.iload_n 3, 1) := by decide +kernel
theorem dL_step_239 : decode cL_step 239 = .ok (.iconst 2, 1) := by decide +kernel
theorem dL_step_240 : decode cL_step 240 = .ok (.irem, 1) := by decide +kernel
theorem dL_step_241 : decode cL_step 241 = .ok (.ifCond .ne 12, 3) := by decide +kernel
theorem dL_step_244 : decode cL_step 244 = .ok (.iconst 1, 1) := by decide +kernel
theorem dL_step_245 : decode cL_step 245 = .ok (.iload_n 2, 1) := by decide +kernel
theorem dL_step_246 : decode cL_step 246 = .ok (.ldc 86, 2) := by decide +kernel
theorem dL_step_248 : decode cL_step 248 = .ok (.irem, 1) := by decide +kernel
theorem dL_step_249 : decode cL_step 249 = .ok (.iadd, 1) := by decide +kernel
theorem dL_step_250 : decode cL_step 250 = .ok (.goto 9, 3) := by decide +kernel
theorem dL_step_253 : decode cL_step 253 = .ok (.iconst (-1), 1) := by decide +kernel
theorem dL_step_254 : decode cL_step 254 = .ok (.iload_n 2, 1) := by decide +kernel
theorem dL_step_255 : decode cL_step 255 = .ok (.ldc 134, 2) := by decide +kernel
theorem dL_step_257 : decode cL_step 257 = .ok (.irem, 1) := by decide +kernel
theorem dL_step_258 : decode cL_step 258 = .ok (.isub, 1) := by decide +kernel
theorem dL_step_259 : decode cL_step 259 = .ok (.istore 11, 2) := by decide +kernel
theorem dL_step_261 : decode cL_step 261 = .ok (.aload_n 0, 1) := by decide +kernel
theorem dL_step_262 : decode cL_step 262 = .ok (.iload 6, 2) := by decide +kernel
theorem dL_step_264 : decode cL_step 264 = .ok (.invokevirtual 22, 3) := by decide +kernel
theorem dL_step_267 : decode cL_step 267 = .ok (.iload 11, 2) := by decide +kernel
theorem dL_step_269 : decode cL_step 269 = .ok (.i2l, 1) := by decide +kernel
theorem dL_step_270 : decode cL_step 270 = .ok (.ladd, 1) := by decide +kernel
theorem dL_step_271 : decode cL_step 271 = .ok (.lstore 12, 2) := by decide +kernel
theorem dL_step_273 : decode cL_step 273 = .ok (.aload_n 0, 1) := by decide +kernel
theorem dL_step_274 : decode cL_step 274 = .ok (.iload 6, 2) := by decide +kernel
theorem dL_step_276 : decode cL_step 276 = .ok (.iload 11, 2) := by decide +kernel
theorem dL_step_278 : decode cL_step 278 = .ok (.invokevirtual 135, 3) := by decide +kernel
theorem dL_step_281 : decode cL_step 281 = .ok (.lload 12, 2) := by decide +kernel
theorem dL_step_283 : decode cL_step 283 = .ok (.lcmp, 1) := by decide +kernel
theorem dL_step_284 : decode cL_step 284 = .ok (.ifCond .ne 19, 3) := by decide +kernel
theorem dL_step_287 : decode cL_step 287 = .ok (.aload_n 0, 1) := by decide +kernel
theorem dL_step_288 : decode cL_step 288 = .ok (.iload 6, 2) := by decide +kernel
theorem dL_step_290 : decode cL_step 290 = .ok (.invokevirtual 22, 3) := by decide +kernel
theorem dL_step_293 : decode cL_step 293 = .ok (.lload 12, 2) := by decide +kernel
theorem dL_step_295 : decode cL_step 295 = .ok (.lcmp, 1) := by decide +kernel
theorem dL_step_296 : decode cL_step 296 = .ok (.ifCond .ne 7, 3) := by decide +kernel
theorem dL_step_299 : decode cL_step 299 = .ok (.iconst 1, 1) := by decide +kernel
theorem dL_step_300 : decode cL_step 300 = .ok (.goto 4, 3) := by decide +kernel
theorem dL_step_303 : decode cL_step 303 = .ok (.iconst 0, 1) := by decide +kernel
theorem dL_step_304 : decode cL_step 304 = .ok (.ireturn, 1) := by decide +kernel
theorem dL_step_305 : decode cL_step 305 = .ok (.aload_n 0, 1) := by decide +kernel
theorem dL_step_306 : decode cL_step 306 = .ok (.aload 4, 2) := by decide +kernel
theorem dL_step_308 : decode cL_step 308 = .ok (.aload 4, 2) := by decide +kernel
theorem dL_step_310 : decode cL_step 310 = .ok (.iload 6, 2) := by decide +kernel
theorem dL_step_312 : decode cL_step 312 = .ok (.invokestatic 29, 3) := by decide +kernel
theorem dL_step_315 : decode cL_step 315 = .ok (.iconst 1, 1) := by decide +kernel
theorem dL_step_316 : decode cL_step 316 = .ok (.iload_n 3, 1) := by decide +kernel
theorem dL_step_317 : decode cL_step 317 = .ok (.bipush 60, 2) := by decide +kernel
theorem dL_step_319 : decode cL_step 319 = .ok (.irem, 1) := by decide +kernel
theorem dL_step_320 : decode cL_step 320 = .ok (.iadd, 1) := by decide +kernel
theorem dL_step_321 : decode cL_step 321 = .ok (.invokestatic 138, 3) := by decide +kernel
theorem dL_step_324 : decode cL_step 324 = .ok (.ireturn, 1) := by decide +kernel
theorem dL_step_325 : decode cL_step 325 = .ok (.aload_n 0, 1) := by decide +kernel
theorem dL_step_326 : decode cL_step 326 = .ok (.aload 4, 2) := by decide +kernel
theorem dL_step_328 : decode cL_step 328 = .ok (.aload 5, 2) := by decide +kernel
theorem dL_step_330 : decode cL_step 330 = .ok (.invokestatic 142, 3) := by decide +kernel
theorem dL_step_333 : decode cL_step 333 = .ok (.ifCond .eq 18, 3) := by decide +kernel
theorem dL_step_336 : decode cL_step 336 = .ok (.aload_n 0, 1) := by decide +kernel
theorem dL_step_337 : decode cL_step 337 = .ok (.aload 4, 2) := by decide +kernel
theorem dL_step_339 : decode cL_step 339 = .ok (.aload 5, 2) := by decide +kernel
theorem dL_step_341 : decode cL_step 341 = .ok (.invokestatic 142, 3) := by decide +kernel
theorem dL_step_344 : decode cL_step 344 = .ok (.ifCond .eq 7, 3) := by decide +kernel
theorem dL_step_347 : decode cL_step 347 = .ok (.iconst 1, 1) := by decide +kernel
theorem dL_step_348 : decode cL_step 348 = .ok (.goto 4, 3) := by decide +kernel
theorem dL_step_351 : decode cL_step 351 = .ok (.iconst 0, 1) := by decide +kernel
theorem dL_step_352 : decode cL_step 352 = .ok (.ireturn, 1) := by decide +kernel
set_option maxRecDepth 20000 in
theorem ggL_desk_X9_init : GoodIn wsL_desk wsX9_init := goodIn_r _ [8, 9, 10, 11, 12, 13, 14, 15, 16, 17, 18, 19, 20, 21, 22, 23, 24, 25, 26, 27, 28, 29, 30, 31, 32, 33, 34, 35, 36, 37, 38, 39, 40, 41, 42, 43, 44, 45, 46, 47, 48, 49, 50, 51, 52, 53, 54, 55, 56, 57, 58, 59, 60, 61, 62, 63, 64, 65, 66, 67, 68, 69, 70, 71, 72, 73, 74, 75, 76, 77, 78, 79, 80, 81, 82, 83, 84, 85, 86, 87, 88, 89, 90, 91, 92, 93, 94, 95, 96, 97, 98, 99, 100, 101, 102, 103, 104, 105, 106, 107, 108, 109, 110, 111, 112, 113, 753, 754, 755, 756, 757, 758, 759, 760, 752, 761, 762, 763, 764, 765, 766, 767] (by decide +kernel) (by decide +kernel)
set_option maxRecDepth 20000 in
theorem gL_desk_X9_init : GoodIn wsL_desk (wsX9_init) := ggL_desk_X9_init
set_option maxRecDepth 20000 in
theorem ggL_desk_L_draw : GoodIn wsL_desk wsL_draw := goodIn_r _ [117, 118, 119, 120] (by decide +kernel) (by decide +kernel)
set_option maxRecDepth 20000 in
theorem gL_desk_L_draw : GoodIn wsL_desk (va_wsS RL 147 yL_draw wsL_draw) := goodIn_app (goodIn_of _ (by decide +kernel)) ggL_desk_L_draw
set_option maxRecDepth 20000 in
theorem ggL_desk_L_step : GoodIn wsL_desk wsL_step := goodIn_ca (goodIn_ca (goodIn_ca (goodIn_r _ [123, 124, 125, 126, 127, 128, 116, 129, 130, 131, 132, 3, 133, 15, 134, 135, 136, 137, 138, 139, 140, 141, 142, 143, 144, 22, 145, 67, 146, 147, 148, 149, 150, 151, 152, 153, 154, 155, 156, 157, 158, 159, 160, 161, 39, 162, 163, 164, 165, 166, 167, 168, 169, 170, 171, 172, 173, 174, 14, 175, 23, 176, 177, 178, 179, 180, 181, 24, 182, 183, 184, 185, 186, 10, 11, 187, 21, 188, 189, 190, 191, 192, 193, 194, 195, 196, 36, 37, 38, 40, 41, 42, 43, 44, 45, 46, 47, 48, 49, 197, 198, 199, 200, 201, 202, 203, 204, 205, 206, 207, 208, 209, 210, 211, 212, 213, 214, 215, 216, 217, 218, 61, 62, 63, 64, 65, 66, 68, 69, 70, 71, 72, 73, 74, 75, 76, 77, 78, 79, 80, 81, 82, 83, 84, 85, 86, 87, 88, 89, 90, 91, 92, 93, 94, 95, 96, 97, 98, 99, 100, 101, 102, 103, 104, 105, 106, 107, 108, 109, 110, 111, 112, 113, 219, 220, 221, 222, 223, 224, 225, 226, 227, 228, 229, 230, 231, 232, 233, 234, 235, 236, 237, 238, 239, 240, 241, 242, 243, 244, 245, 246, 247, 248, 249, 250, 251, 252, 253, 254, 255, 256, 257, 258, 259, 260, 261, 262, 263, 264, 265, 266, 267, 268, 269, 270, 271, 272, 273, 274, 275, 276, 277, 278, 279, 280, 281, 282, 283, 284, 285, 25, 286, 287, 288, 289, 290, 291, 292, 293, 294, 295, 296, 297, 298, 299, 300, 301, 302, 303, 304, 305, 306, 307, 308, 309, 310, 311, 312, 313, 314, 315, 316, 317, 318, 319, 320, 321, 322, 323, 30, 324, 54, 325, 326, 327, 328, 329, 330, 331, 332, 333, 334, 335, 336, 337, 338, 339, 340, 341, 342, 343, 344, 345, 346, 347, 348, 349, 350, 351, 352, 353, 354, 355, 356, 357, 358, 359, 360, 361, 362, 363, 364, 365, 366, 367, 368, 369, 370, 371, 372, 26, 373, 374, 375, 376, 377, 378, 379, 380, 381, 382, 383, 384, 385, 386, 387, 388, 389, 390, 391, 392, 393, 394, 395, 396, 397, 398, 399, 400, 401, 402, 403, 404, 405, 406, 407, 408, 409, 410, 411, 412, 413, 414, 415, 416, 417, 418, 31, 419, 420, 421, 422, 423, 424, 425, 426, 427, 428, 429, 430, 431, 432, 433, 434, 435, 436, 437, 438, 439, 440, 441, 442, 443, 444, 445, 446, 447, 448, 449, 450, 451, 452, 453, 454, 455, 456, 457, 458, 459, 460, 461, 462, 463, 464, 465, 466, 467, 468, 469, 470, 471, 472, 473, 474, 475, 476, 477, 478, 479, 480, 481, 482, 483, 484, 485, 486, 487, 488, 489, 490, 491, 492, 493, 494, 495, 27, 496, 497, 498, 499, 500, 501, 502, 503, 504, 505, 506, 507, 34, 508, 59, 509, 510, 511, 512, 513, 514, 515, 516, 517, 518, 519, 520, 521, 522, 523, 524, 525, 526, 527, 528, 529, 530, 531, 532, 533, 534, 535, 536, 537, 538, 539, 540, 541, 542, 543, 544, 545, 546, 547, 548, 549, 550, 551, 552, 553, 554, 555, 556, 557, 558, 559, 560, 561, 562, 563, 564, 565, 566, 567, 568, 569, 570, 571, 572, 573, 574, 575, 576, 577, 578, 579, 580, 581, 582, 583, 584, 585, 586, 587, 588, 589, 590, 591, 592, 593, 594, 595, 596, 597, 598, 599, 600, 601, 602, 603, 604, 605, 606, 607, 608, 609, 610, 611, 612, 613, 614, 615, 616, 617, 618, 619, 620, 621, 622, 623, 624, 625, 626, 627, 628, 629, 630, 631, 632, 633, 634, 635, 636, 637, 638, 639, 640, 641, 642, 643, 644, 645, 646, 647, 648, 649, 650, 651, 652, 653, 654, 655, 656, 657, 658, 659, 660, 661, 752, 753, 754, 755, 756, 757, 758, 759, 760, 761, 762, 763, 768, 769, 770, 771, 772, 773, 774, 775, 776, 777, 778, 779, 780, 781, 782, 783, 784, 785, 786, 787, 788, 789, 790, 791, 792, 793, 794, 795, 796, 797, 798, 799, 800, 801, 802, 803, 765, 766, 767, 764, 804, 805, 806, 807, 808, 809, 810] (by decide +kernel) (by decide +kernel)) (goodIn_sub (fun _ h => List.mem_cons_of_mem _ (List.mem_append_left _ (List.mem_append_left _ (List.mem_append_right _ h)))) (by decide +kernel))) (goodIn_sub (fun _ h => List.mem_cons_of_mem _ (List.mem_append_left _ (List.mem_append_right _ h))) (by decide +kernel))) (goodIn_sub (fun _ h => List.mem_cons_of_mem _ (List.mem_append_right _ h)) (by decide +kernel))
set_option maxRecDepth 20000 in
theorem gL_desk_L_step : GoodIn wsL_desk (va_wsS RL 151 yL_step wsL_step) := goodIn_app (goodIn_of _ (by decide +kernel)) ggL_desk_L_step
set_option maxRecDepth 20000 in
theorem ggL_desk_L_areSums : GoodIn wsL_desk wsL_areSums := goodIn_ca (goodIn_ca (goodIn_r _ [664, 665, 666, 667, 3, 668, 15, 171, 142, 143, 144, 22, 145, 67, 341, 342, 343, 344, 345, 229, 230, 231, 232, 233, 234, 235, 146, 147, 148, 149, 150, 151, 152, 153, 154, 155, 156, 157, 158, 159, 160, 161, 39, 245, 246, 116, 247, 669, 670, 671, 672, 673, 438, 674, 445, 443, 444, 450, 451, 675, 267, 268, 269, 676, 677, 678, 679, 680, 681, 682, 683, 684, 685, 449, 686, 687, 688, 689, 446, 447, 82, 448, 690, 691, 692, 452, 453, 454, 181, 455, 456, 457, 458, 459, 460, 461, 465, 466, 467, 468, 469, 693, 694, 695, 696, 697, 698, 699, 700, 701, 634, 702, 703, 704, 705, 706, 365, 366, 367, 14, 368, 369, 370, 23, 371, 24, 223, 25, 372, 26, 373, 182, 374, 375, 376, 377, 378, 379, 380, 381, 382, 383, 384, 385, 178, 386, 194, 195, 387, 388, 389, 193, 390, 391, 392, 393, 394, 202, 205, 395, 111, 112, 113, 396, 397, 398, 285, 399, 400, 401, 402, 403, 404, 405, 406, 407, 408, 409, 410, 411, 412, 413, 414, 707, 433, 434, 435, 436, 437, 439, 440, 441, 442, 462, 463, 464, 581, 582, 583, 584, 585, 586, 587, 588, 589, 590, 591, 592, 593, 594, 595, 596, 597, 598, 599, 600, 601, 602, 603, 604, 630, 631, 632, 633, 635, 636, 637, 276, 277, 278, 169, 170, 259, 752, 753, 754, 755, 756, 757, 758, 759, 760, 761, 762, 763, 773, 774, 775, 776, 777, 778, 779, 780, 781, 782, 783, 784, 768, 769, 770, 771, 772, 785, 786, 787, 788, 789, 790, 791, 792, 793, 794, 795, 796, 797, 798, 799, 800, 801, 802, 803, 804, 805, 806, 807, 808, 809, 810] (by decide +kernel) (by decide +kernel)) (goodIn_sub (fun _ h => List.mem_cons_of_mem _ (List.mem_append_right _ h)) (by decide +kernel))) (goodIn_sub (fun _ h => List.mem_cons_of_mem _ (List.mem_append_left _ (List.mem_append_right _ h))) (by decide +kernel))
set_option maxRecDepth 20000 in
theorem gL_desk_L_areSums : GoodIn wsL_desk (va_wsS RL 155 yL_areSums wsL_areSums) := goodIn_app (goodIn_of _ (by decide +kernel)) ggL_desk_L_areSums
set_option maxRecDepth 20000 in
theorem ggL_desk_L_areExposed : GoodIn wsL_desk wsL_areExposed := goodIn_ca (goodIn_ca (goodIn_r _ [710, 341, 342, 343, 3, 344, 345, 229, 230, 231, 232, 233, 234, 15, 171, 235, 142, 143, 144, 22, 145, 67, 146, 147, 148, 149, 150, 151, 152, 153, 154, 155, 156, 157, 158, 159, 160, 161, 39, 656, 657, 658, 659, 660, 134, 135, 136, 137, 138, 139, 140, 141, 661, 493, 494, 14, 495, 27, 496, 497, 23, 371, 498, 499, 500, 447, 82, 448, 182, 374, 773, 774, 775, 776, 777, 778, 779, 780, 781, 782, 783, 784, 752, 753, 754, 755, 756, 757, 758, 759, 760, 761, 762, 763, 765, 766, 767] (by decide +kernel) (by decide +kernel)) (goodIn_sub (fun _ h => List.mem_cons_of_mem _ (List.mem_append_right _ h)) (by decide +kernel))) (goodIn_sub (fun _ h => List.mem_cons_of_mem _ (List.mem_append_left _ (List.mem_append_left _ (List.mem_append_right _ h)))) (by decide +kernel))
set_option maxRecDepth 20000 in
theorem gL_desk_L_areExposed : GoodIn wsL_desk (va_wsS RL 159 yL_areExposed wsL_areExposed) := goodIn_app (goodIn_of _ (by decide +kernel)) ggL_desk_L_areExposed
set_option maxRecDepth 20000 in
theorem ggL_desk_L_areLines : GoodIn wsL_desk wsL_areLines := goodIn_ca (goodIn_r _ [713, 648, 649, 650, 3, 651, 652, 643, 644, 645, 646, 233, 234, 15, 275, 647, 142, 143, 144, 22, 145, 67, 146, 147, 148, 149, 150, 151, 152, 153, 154, 155, 156, 157, 158, 159, 160, 161, 39, 638, 639, 640, 641, 642, 795, 796, 797, 798, 799, 800, 801, 802, 803, 752, 753, 754, 755, 756, 757, 758, 759, 760, 761, 762, 763] (by decide +kernel) (by decide +kernel)) (goodIn_sub (fun _ h => List.mem_cons_of_mem _ (List.mem_append_right _ h)) (by decide +kernel))
set_option maxRecDepth 20000 in
theorem gL_desk_L_areLines : GoodIn wsL_desk (va_wsS RL 162 yL_areLines wsL_areLines) := goodIn_app (goodIn_of _ (by decide +kernel)) ggL_desk_L_areLines
set_option maxRecDepth 20000 in
theorem ggL_desk_L_isSwept : GoodIn wsL_desk wsL_isSwept := goodIn_ca (goodIn_r _ [716, 676, 677, 678, 3, 679, 229, 230, 231, 232, 233, 234, 15, 171, 235, 142, 143, 144, 22, 145, 67, 146, 147, 148, 149, 150, 151, 152, 153, 154, 155, 156, 157, 158, 159, 160, 161, 39, 680, 681, 438, 682, 683, 684, 685, 449, 686, 443, 444, 687, 688, 689, 446, 447, 82, 448, 690, 691, 692, 445, 450, 451, 452, 453, 454, 181, 455, 456, 457, 458, 459, 460, 461, 465, 466, 467, 468, 469, 245, 246, 116, 247, 341, 342, 343, 344, 345, 717, 718, 719, 752, 753, 754, 755, 756, 757, 758, 759, 760, 761, 762, 763, 773, 774, 775, 776, 777, 778, 779, 780, 781, 782, 783, 784] (by decide +kernel) (by decide +kernel)) (goodIn_sub (fun _ h => List.mem_cons_of_mem _ (List.mem_append_right _ h)) (by decide +kernel))
set_option maxRecDepth 20000 in
theorem gL_desk_L_isSwept : GoodIn wsL_desk (va_wsS RL 165 yL_isSwept wsL_isSwept) := goodIn_app (goodIn_of _ (by decide +kernel)) ggL_desk_L_isSwept
set_option maxRecDepth 20000 in
theorem ggL_desk_L_areDays : GoodIn wsL_desk wsL_areDays := goodIn_ca (goodIn_ca (goodIn_r _ [722, 333, 334, 335, 3, 336, 15, 320, 162, 163, 164, 138, 139, 337, 338, 339, 30, 340, 329, 330, 331, 332, 54, 356, 357, 358, 359, 360, 616, 617, 618, 619, 229, 230, 231, 232, 233, 234, 171, 235, 142, 143, 144, 22, 145, 67, 146, 147, 148, 149, 150, 151, 152, 153, 154, 155, 156, 157, 158, 159, 160, 161, 39, 620, 621, 622, 14, 623, 26, 373, 624, 31, 182, 374, 625, 626, 627, 409, 628, 413, 411, 431, 430, 629, 752, 753, 754, 755, 756, 757, 758, 759, 760, 764, 761, 762, 763, 804, 805, 806, 807, 808, 809, 810] (by decide +kernel) (by decide +kernel)) (goodIn_sub (fun _ h => List.mem_cons_of_mem _ (List.mem_append_left _ (List.mem_append_left _ (List.mem_append_right _ h)))) (by decide +kernel))) (goodIn_sub (fun _ h => List.mem_cons_of_mem _ (List.mem_append_right _ h)) (by decide +kernel))
set_option maxRecDepth 20000 in
theorem gL_desk_L_areDays : GoodIn wsL_desk (va_wsS RL 168 yL_areDays wsL_areDays) := goodIn_app (goodIn_of _ (by decide +kernel)) ggL_desk_L_areDays
set_option maxRecDepth 20000 in
theorem ggL_desk_X9_today : GoodIn wsL_desk wsX9_today := goodIn_r _ [359, 15, 360, 752, 753, 754, 755, 756, 757, 758, 759, 760] (by decide +kernel) (by decide +kernel)
set_option maxRecDepth 20000 in
theorem gL_desk_X9_today : GoodIn wsL_desk (wsV RL 61 RX9 yX9_today wsX9_today) := goodIn_app (goodIn_of _ (by decide +kernel)) ggL_desk_X9_today
set_option maxRecDepth 20000 in
theorem ggL_desk_L_schedules : GoodIn wsL_desk wsL_schedules := goodIn_ca (goodIn_ca (goodIn_ca (goodIn_r _ [725, 125, 356, 357, 358, 3, 359, 15, 360, 726, 727, 728, 729, 169, 170, 730, 731, 732, 409, 229, 230, 231, 232, 233, 234, 171, 235, 142, 143, 144, 22, 145, 67, 146, 147, 148, 149, 150, 151, 152, 153, 154, 155, 156, 157, 158, 159, 160, 161, 39, 350, 351, 352, 138, 139, 252, 253, 162, 163, 164, 733, 734, 735, 736, 10, 11, 428, 430, 431, 411, 413, 737, 62, 63, 64, 65, 66, 68, 69, 70, 71, 72, 73, 74, 75, 76, 77, 78, 79, 38, 80, 81, 82, 83, 84, 85, 86, 87, 88, 89, 90, 91, 92, 93, 94, 95, 96, 97, 98, 99, 100, 101, 102, 103, 104, 105, 106, 107, 108, 109, 110, 111, 112, 113, 738, 739, 740, 741, 742, 743, 744, 745, 746, 747, 748, 749, 750, 751, 752, 753, 754, 755, 756, 757, 758, 759, 760, 804, 805, 806, 807, 808, 809, 810, 761, 762, 763] (by decide +kernel) (by decide +kernel)) (goodIn_sub (fun _ h => List.mem_cons_of_mem _ (List.mem_append_left _ (List.mem_append_right _ h))) (by decide +kernel))) (goodIn_sub (fun _ h => List.mem_cons_of_mem _ (List.mem_append_right _ h)) (by decide +kernel))) (goodIn_sub (fun _ h => List.mem_cons_of_mem _ (List.mem_append_left _ (List.mem_append_left _ (List.mem_append_right _ h)))) (by decide +kernel))
set_option maxRecDepth 20000 in
theorem gL_desk_L_schedules : GoodIn wsL_desk (va_wsS RL 172 yL_schedules wsL_schedules) := goodIn_app (goodIn_of _ (by decide +kernel)) ggL_desk_L_schedules
theorem dL_desk_0 : decode cL_desk 0 = .ok (.new 17, 3) := by decide +kernel
theorem dL_desk_3 : decode cL_desk 3 = .ok (.dup, 1) := by decide +kernel
theorem dL_desk_4 : decode cL_desk 4 = .ok (.invokespecial 145, 3) := by decide +kernel
theorem dL_desk_7 : decode cL_desk 7 = .ok (.astore_n 2, 1) := by decide +kernel
theorem dL_desk_8 : decode cL_desk 8 = .ok (.bipush 64, 2) := by decide +kernel
theorem dL_desk_10 : decode cL_desk 10 = .ok (.newarray .int, 2) := by decide +kernel
theorem dL_desk_12 : decode cL_desk 12 = .ok (.astore_n 3, 1) := by decide +kernel
theorem dL_desk_13 : decode cL_desk 13 = .ok (.iconst 4, 1) := by decide +kernel
theorem dL_desk_14 : decode cL_desk 14 = .ok (.newarray .int, 2) := by decide +kernel
theorem dL_desk_16 : decode cL_desk 16 = .ok (.astore 4, 2) := by decide +kernel
theorem dL_desk_18 : decode cL_desk 18 = .ok (.iconst 0, 1) := by decide +kernel
theorem dL_desk_19 : decode cL_desk 19 = .ok (.istore 5, 2) := by decide +kernel
theorem dL_desk_21 : decode cL_desk 21 = .ok (.iconst 0, 1) := by decide +kernel
theorem dL_desk_22 : decode cL_desk 22 = .ok (.istore 6, 2) := by decide +kernel
theorem dL_desk_24 : decode cL_desk 24 = .ok (.iload 6, 2) := by decide +kernel
theorem dL_desk_26 : decode cL_desk 26 = .ok (.iconst 4, 1) := by decide +kernel
theorem dL_desk_27 : decode cL_desk 27 = .ok (.if_icmp .ge 15, 3) := by decide +kernel
theorem dL_desk_30 : decode cL_desk 30 = .ok (.aload 4, 2) := by decide +kernel
theorem dL_desk_32 : decode cL_desk 32 = .ok (.iload 6, 2) := by decide +kernel
theorem dL_desk_34 : decode cL_desk 34 = .ok (.iconst (-1), 1) := by decide +kernel
theorem dL_desk_35 : decode cL_desk 35 = .ok (.iastore, 1) := by decide +kernel
theorem dL_desk_36 : decode cL_desk 36 = .ok (.iinc 6 1, 3) := by decide +kernel
theorem dL_desk_39 : decode cL_desk 39 = .ok (.goto (-15), 3) := by decide +kernel
theorem dL_desk_42 : decode cL_desk 42 = .ok (.iconst 0, 1) := by decide +kernel
theorem dL_desk_43 : decode cL_desk 43 = .ok (.istore 6, 2) := by decide +kernel
theorem dL_desk_45 : decode cL_desk 45 = .ok (.iload 6, 2) := by decide +kernel
theorem dL_desk_47 : decode cL_desk 47 = .ok (.bipush 40, 2) := by decide +kernel
theorem dL_desk_49 : decode cL_desk 49 = .ok (.if_icmp .ge 240, 3) := by decide +kernel
theorem dL_desk_52 : decode cL_desk 52 = .ok (.aload_n 0, 1) := by decide +kernel
theorem dL_desk_53 : decode cL_desk 53 = .ok (.iload_n 1, 1) := by decide +kernel
theorem dL_desk_54 : decode cL_desk 54 = .ok (.iconst 3, 1) := by decide +kernel
theorem dL_desk_55 : decode cL_desk 55 = .ok (.iload 6, 2) := by decide +kernel
theorem dL_desk_57 : decode cL_desk 57 = .ok (.imul, 1) := by decide +kernel
theorem dL_desk_58 : decode cL_desk 58 = .ok (.iadd, 1) := by decide +kernel
theorem dL_desk_59 : decode cL_desk 59 = .ok (.iconst 1, 1) := by decide +kernel
theorem dL_desk_60 : decode cL_desk 60 = .ok (.iadd, 1) := by decide +kernel
theorem dL_desk_61 : decode cL_desk 61 = .ok (.ldc 146, 2) := by decide +kernel
theorem dL_desk_63 : decode cL_desk 63 = .ok (.invokestatic 147, 3) := by decide +kernel
theorem dL_desk_66 : decode cL_desk 66 = .ok (.istore 7, 2) := by decide +kernel
theorem dL_desk_68 : decode cL_desk 68 = .ok (.aload_n 0, 1) := by decide +kernel
theorem dL_desk_69 : decode cL_desk 69 = .ok (.iload_n 1, 1) := by decide +kernel
theorem dL_desk_70 : decode cL_desk 70 = .ok (.iconst 3, 1) := by decide +kernel
theorem dL_desk_71 : decode cL_desk 71 = .ok (.iload 6, 2) := by decide +kernel
theorem dL_desk_73 : decode cL_desk 73 = .ok (.imul, 1) := by decide +kernel
theorem dL_desk_74 : decode cL_desk 74 = .ok (.iadd, 1) := by decide +kernel
theorem dL_desk_75 : decode cL_desk 75 = .ok (.iconst 2, 1) := by decide +kernel
theorem dL_desk_76 : decode cL_desk 76 = .ok (.iadd, 1) := by decide +kernel
theorem dL_desk_77 : decode cL_desk 77 = .ok (.ldc 146, 2) := by decide +kernel
theorem dL_desk_79 : decode cL_desk 79 = .ok (.invokestatic 147, 3) := by decide +kernel
theorem dL_desk_82 : decode cL_desk 82 = .ok (.istore 8, 2) := by decide +kernel
theorem dL_desk_84 : decode cL_desk 84 = .ok (.iload 6, 2) := by decide +kernel
theorem dL_desk_86 : decode cL_desk 86 = .ok (.iconst 4, 1) := by decide +kernel
theorem dL_desk_87 : decode cL_desk 87 = .ok (.if_icmp .ge 7, 3) := by decide +kernel
theorem dL_desk_90 : decode cL_desk 90 = .ok (.iconst 0, 1) := by decide +kernel
theorem dL_desk_91 : decode cL_desk 91 = .ok (.goto 49, 3) := by decide +kernel
theorem dL_desk_94 : decode cL_desk 94 = .ok (.iload 6, 2) := by decide +kernel
theorem dL_desk_96 : decode cL_desk 96 = .ok (.bipush 6, 2) := by decide +kernel
theorem dL_desk_98 : decode cL_desk 98 = .ok (.if_icmp .ge 7, 3) := by decide +kernel
theorem dL_desk_101 : decode cL_desk 101 = .ok (.iconst 2, 1) := by decide +kernel
theorem dL_desk_102 : decode cL_desk 102 = .ok (.goto 38, 3) := by decide +kernel
theorem dL_desk_105 : decode cL_desk 105 = .ok (.iload 6, 2) := by decide +kernel
theorem dL_desk_107 : decode cL_desk 107 = .ok (.bipush 6, 2) := by decide +kernel
theorem dL_desk_109 : decode cL_desk 109 = .ok (.if_icmp .ne 7, 3) := by decide +kernel
theorem dL_desk_112 : decode cL_desk 112 = .ok (.iconst 4, 1) := by decide +kernel
theorem dL_desk_113 : decode cL_desk 113 = .ok (.goto 27, 3) := by decide +kernel
theorem dL_desk_116 : decode cL_desk 116 = .ok (.iload 6, 2) := by decide +kernel
theorem dL_desk_118 : decode cL_desk 118 = .ok (.bipush 10, 2) := by decide +kernel
theorem dL_desk_120 : decode cL_desk 120 = .ok (.if_icmp .ge 8, 3) := by decide +kernel
theorem dL_desk_123 : decode cL_desk 123 = .ok (.bipush 7, 2) := by decide +kernel
theorem dL_desk_125 : decode cL_desk 125 = .ok (.goto 15, 3) := by decide +kernel
theorem dL_desk_128 : decode cL_desk 128 = .ok (.aload_n 0, 1) := by decide +kernel
theorem dL_desk_129 : decode cL_desk 129 = .ok (.iload_n 1, 1) := by decide +kernel
theorem dL_desk_130 : decode cL_desk 130 = .ok (.iconst 3, 1) := by decide +kernel
theorem dL_desk_131 : decode cL_desk 131 = .ok (.iload 6, 2) := by decide +kernel
theorem dL_desk_133 : decode cL_desk 133 = .ok (.imul, 1) := by decide +kernel
theorem dL_desk_134 : decode cL_desk 134 = .ok (.iadd, 1) := by decide +kernel
theorem dL_desk_135 : decode cL_desk 135 = .ok (.bipush 16, 2) := by decide +kernel
theorem dL_desk_137 : decode cL_desk 137 = .ok (.invokestatic 147, 3) := by decide +kernel
theorem dL_desk_140 : decode cL_desk 140 = .ok (.istore 9, 2) := by decide +kernel
theorem dL_desk_142 : decode cL_desk 142 = .ok (.aload_n 2, 1) := by decide +kernel
theorem dL_desk_143 : decode cL_desk 143 = .ok (.iload 9, 2) := by decide +kernel
theorem dL_desk_145 : decode cL_desk 145 = .ok (.iload 7, 2) := by decide +kernel
theorem dL_desk_147 : decode cL_desk 147 = .ok (.iload 8, 2) := by decide +kernel
theorem dL_desk_149 : decode cL_desk 149 = .ok (.aload_n 3, 1) := by decide +kernel
theorem dL_desk_150 : decode cL_desk 150 = .ok (.aload 4, 2) := by decide +kernel
theorem dL_desk_152 : decode cL_desk 152 = .ok (.invokestatic 151, 3) := by decide +kernel
theorem dL_desk_155 : decode cL_desk 155 = .ok (.ifCond .eq 59, 3) := by decide +kernel
theorem dL_desk_158 : decode cL_desk 158 = .ok (.aload_n 2, 1) := by decide +kernel
theorem dL_desk_159 : decode cL_desk 159 = .ok (.aload_n 3, 1) := by decide +kernel
theorem dL_desk_160 : decode cL_desk 160 = .ok (.invokestatic 155, 3) := by decide +kernel
theorem dL_desk_163 : decode cL_desk 163 = .ok (.ifCond .eq 51, 3) := by decide +kernel
theorem dL_desk_166 : decode cL_desk 166 = .ok (.aload_n 2, 1) := by decide +kernel
theorem dL_desk_167 : decode cL_desk 167 = .ok (.aload_n 3, 1) := by decide +kernel
theorem dL_desk_168 : decode cL_desk 168 = .ok (.invokestatic 159, 3) := by decide +kernel
theorem dL_desk_171 : decode cL_desk 171 = .ok (.ifCond .eq 43, 3) := by decide +kernel
theorem dL_desk_174 : decode cL_desk 174 = .ok (.aload_n 2, 1) := by decide +kernel
theorem dL_desk_175 : decode cL_desk 175 = .ok (.aload_n 3, 1) := by decide +kernel
theorem dL_desk_176 : decode cL_desk 176 = .ok (.invokestatic 162, 3) := by decide +kernel
theorem dL_desk_179 : decode cL_desk 179 = .ok (.ifCond .eq 35, 3) := by decide +kernel
theorem dL_desk_182 : decode cL_desk 182 = .ok (.aload_n 2, 1) := by decide +kernel
theorem dL_desk_183 : decode cL_desk 183 = .ok (.aload_n 3, 1) := by decide +kernel
theorem dL_desk_184 : decode cL_desk 184 = .ok (.invokestatic 165, 3) := by decide +kernel
theorem dL_desk_187 : decode cL_desk 187 = .ok (.ifCond .eq 27, 3) := by decide +kernel
theorem dL_desk_190 : decode cL_desk 190 = .ok (.aload_n 2, 1) := by decide +kernel
theorem dL_desk_191 : decode cL_desk 191 = .ok (.iload 7, 2) := by decide +kernel
theorem dL_desk_193 : decode cL_desk 193 = .ok (.aload_n 3, 1) := by decide +kernel
theorem dL_desk_194 : decode cL_desk 194 = .ok (.iconst 0, 1) := by decide +kernel
theorem dL_desk_195 : decode cL_desk 195 = .ok (.iaload, 1) := by decide +kernel
theorem dL_desk_196 : decode cL_desk 196 = .ok (.irem, 1) := by decide +kernel
theorem dL_desk_197 : decode cL_desk 197 = .ok (.iload 7, 2) := by decide +kernel
theorem dL_desk_199 : decode cL_desk 199 = .ok (.bipush 10, 2) := by decide +kernel
theorem dL_desk_201 : decode cL_desk 201 = .ok (.idiv, 1) := by decide +kernel
theorem dL_desk_202 : decode cL_desk 202 = .ok (.iload 8, 2) := by decide +kernel
theorem dL_desk_204 : decode cL_desk 204 = .ok (.invokestatic 168, 3) := by decide +kernel
theorem dL_desk_207 : decode cL_desk 207 = .ok (.ifCond .eq 7, 3) := by decide +kernel
theorem dL_desk_210 : decode cL_desk 210 = .ok (.iconst 1, 1) := by decide +kernel
theorem dL_desk_211 : decode cL_desk 211 = .ok (.goto 4, 3) := by decide +kernel
theorem dL_desk_214 : decode cL_desk 214 = .ok (.iconst 0, 1) := by decide +kernel
theorem dL_desk_215 : decode cL_desk 215 = .ok (.istore 10, 2) := by decide +kernel
theorem dL_desk_217 : decode cL_desk 217 = .ok (.iload 6, 2) := by decide +kernel
theorem dL_desk_219 : decode cL_desk 219 = .ok (.iconst 4, 1) := by decide +kernel
theorem dL_desk_220 : decode cL_desk 220 = .ok (.irem, 1) := by decide +kernel
theorem dL_desk_221 : decode cL_desk 221 = .ok (.iconst 3, 1) := by decide +kernel
theorem dL_desk_222 : decode cL_desk 222 = .ok (.if_icmp .ne 54, 3) := by decide +kernel
theorem dL_desk_225 : decode cL_desk 225 = .ok (.iload 5, 2) := by decide +kernel
theorem dL_desk_227 : decode cL_desk 227 = .ok (.bipush 20, 2) := by decide +kernel
theorem dL_desk_229 : decode cL_desk 229 = .ok (.if_icmp .ge 47, 3) := by decide +kernel
theorem dL_desk_232 : decode cL_desk 232 = .ok (.aload_n 2, 1) := by decide +kernel
theorem dL_desk_233 : decode cL_desk 233 = .ok (.invokevirtual 61, 3) := by decide +kernel
theorem dL_desk_236 : decode cL_desk 236 = .ok (.bipush 19, 2) := by decide +kernel
theorem dL_desk_238 : decode cL_desk 238 = .ok (.iadd, 1) := by decide +kernel
theorem dL_desk_239 : decode cL_desk 239 = .ok (.sipush 450, 3) := by decide +kernel
theorem dL_desk_242 : decode cL_desk 242 = .ok (.if_icmp .gt 34, 3) := by decide +kernel
theorem dL_desk_245 : decode cL_desk 245 = .ok (.iload 10, 2) := by decide +kernel
theorem dL_desk_247 : decode cL_desk 247 = .ok (.ifCond .eq 29, 3) := by decide +kernel
theorem dL_desk_250 : decode cL_desk 250 = .ok (.aload_n 2, 1) := by decide +kernel
theorem dL_desk_251 : decode cL_desk 251 = .ok (.iload 8, 2) := by decide +kernel
theorem dL_desk_253 : decode cL_desk 253 = .ok (.aload_n 3, 1) := by decide +kernel
theorem dL_desk_254 : decode cL_desk 254 = .ok (.iconst 0, 1) := by decide +kernel
theorem dL_desk_255 : decode cL_desk 255 = .ok (.iaload, 1) := by decide +kernel
theorem dL_desk_256 : decode cL_desk 256 = .ok (.irem, 1) := by decide +kernel
theorem dL_desk_257 : decode cL_desk 257 = .ok (.iload 7, 2) := by decide +kernel
theorem dL_desk_259 : decode cL_desk 259 = .ok (.iconst 3, 1) := by decide +kernel
theorem dL_desk_260 : decode cL_desk 260 = .ok (.idiv, 1) := by decide +kernel
theorem dL_desk_261 : decode cL_desk 261 = .ok (.iload 8, 2) := by decide +kernel
theorem dL_desk_263 : decode cL_desk 263 = .ok (.bipush 10, 2) := by decide +kernel
theorem dL_desk_265 : decode cL_desk 265 = .ok (.idiv, 1) := by decide +kernel
theorem dL_desk_266 : decode cL_desk 266 = .ok (.iload 5, 2) := by decide +kernel
theorem dL_desk_268 : decode cL_desk 268 = .ok (.invokestatic 172, 3) := by decide +kernel
theorem dL_desk_271 : decode cL_desk 271 = .ok (.istore 10, 2) := by decide +kernel
theorem dL_desk_273 : decode cL_desk 273 = .ok (.iinc 5 1, 3) := by decide +kernel
theorem dL_desk_276 : decode cL_desk 276 = .ok (.iload 10, 2) := by decide +kernel
theorem dL_desk_278 : decode cL_desk 278 = .ok (.ifCond .ne 5, 3) := by decide +kernel
theorem dL_desk_281 : decode cL_desk 281 = .ok (.iconst 0, 1) := by decide +kernel
theorem dL_desk_282 : decode cL_desk 282 = .ok (.ireturn, 1) := by decide +kernel
theorem dL_desk_283 : decode cL_desk 283 = .ok (.iinc 6 1, 3) := by decide +kernel
theorem dL_desk_286 : decode cL_desk 286 = .ok (.goto (-241), 3) := by decide +kernel
theorem dL_desk_289 : decode cL_desk 289 = .ok (.iconst 1, 1) := by decide +kernel
theorem dL_desk_290 : decode cL_desk 290 = .ok (.ireturn, 1) := by decide +kernel
theorem dL_law_0 : decode cL_law 0 = .ok (.aload_n 0, 1) := by decide +kernel
theorem dL_law_1 : decode cL_law 1 = .ok (.iconst 0, 1) := by decide +kernel
theorem dL_law_2 : decode cL_law 2 = .ok (.invokestatic 176, 3) := by decide +kernel
theorem dL_law_5 : decode cL_law 5 = .ok (.ifCond .eq 26, 3) := by decide +kernel
theorem dL_law_8 : decode cL_law 8 = .ok (.aload_n 0, 1) := by decide +kernel
theorem dL_law_9 : decode cL_law 9 = .ok (.bipush 125, 2) := by decide +kernel
theorem dL_law_11 : decode cL_law 11 = .ok (.invokestatic 176, 3) := by decide +kernel
theorem dL_law_14 : decode cL_law 14 = .ok (.ifCond .eq 17, 3) := by decide +kernel
theorem dL_law_17 : decode cL_law 17 = .ok (.aload_n 0, 1) := by decide +kernel
theorem dL_law_18 : decode cL_law 18 = .ok (.sipush 250, 3) := by decide +kernel
theorem dL_law_21 : decode cL_law 21 = .ok (.invokestatic 176, 3) := by decide +kernel
theorem dL_law_24 : decode cL_law 24 = .ok (.ifCond .eq 7, 3) := by decide +kernel
theorem dL_law_27 : decode cL_law 27 = .ok (.iconst 1, 1) := by decide +kernel
theorem dL_law_28 : decode cL_law 28 = .ok (.goto 4, 3) := by decide +kernel
theorem dL_law_31 : decode cL_law 31 = .ok (.iconst 0, 1) := by decide +kernel
theorem dL_law_32 : decode cL_law 32 = .ok (.ireturn, 1) := by decide +kernel
