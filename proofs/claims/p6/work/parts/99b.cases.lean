/-! the law: its cases (own work, by program) -/
theorem k_law_148_5 : sblk code [(148, .aload_n 1, .null), (149, .aload_n 0, .null), (150, .iload_n 3, .null), (151, .iconst 1, .int 1), (152, .iadd, .null)] := sblk_of (by decide +kernel)
theorem d_law_153 : decode code 153 = .ok (.iaload, 1) := by decide +kernel
theorem k_law_154_4 : sblk code [(154, .aload_n 0, .null), (155, .iload_n 3, .null), (156, .iconst 2, .int 2), (157, .iadd, .null)] := sblk_of (by decide +kernel)
theorem d_law_158 : decode code 158 = .ok (.iaload, 1) := by decide +kernel
theorem k_law_159_4 : sblk code [(159, .aload_n 0, .null), (160, .iload_n 3, .null), (161, .iconst 3, .int 3), (162, .iadd, .null)] := sblk_of (by decide +kernel)
theorem d_law_163 : decode code 163 = .ok (.iaload, 1) := by decide +kernel
theorem k_law_164_4 : sblk code [(164, .aload_n 0, .null), (165, .iload_n 3, .null), (166, .iconst 4, .int 4), (167, .iadd, .null)] := sblk_of (by decide +kernel)
theorem d_law_168 : decode code 168 = .ok (.iaload, 1) := by decide +kernel
theorem k_law_169_4 : sblk code [(169, .aload_n 0, .null), (170, .iload_n 3, .null), (171, .iconst 5, .int 5), (172, .iadd, .null)] := sblk_of (by decide +kernel)
theorem d_law_173 : decode code 173 = .ok (.iaload, 1) := by decide +kernel
theorem k_law_174_4 : sblk code [(174, .aload_n 0, .null), (175, .iload_n 3, .null), (176, .bipush 6, .int 6), (178, .iadd, .null)] := sblk_of (by decide +kernel)
theorem d_law_179 : decode code 179 = .ok (.iaload, 1) := by decide +kernel
theorem d_law_180 : decode code 180 = .ok (.invokevirtual 13, 3) := by decide +kernel
theorem k_law_183_6 : sblk code [(183, .pop, .null), (184, .aload_n 2, .null), (185, .aload_n 0, .null), (186, .iload_n 3, .null), (187, .iconst 1, .int 1), (188, .iadd, .null)] := sblk_of (by decide +kernel)
theorem d_law_189 : decode code 189 = .ok (.iaload, 1) := by decide +kernel
theorem k_law_190_4 : sblk code [(190, .aload_n 0, .null), (191, .iload_n 3, .null), (192, .iconst 2, .int 2), (193, .iadd, .null)] := sblk_of (by decide +kernel)
theorem d_law_194 : decode code 194 = .ok (.iaload, 1) := by decide +kernel
theorem k_law_195_4 : sblk code [(195, .aload_n 0, .null), (196, .iload_n 3, .null), (197, .iconst 3, .int 3), (198, .iadd, .null)] := sblk_of (by decide +kernel)
theorem d_law_199 : decode code 199 = .ok (.iaload, 1) := by decide +kernel
theorem k_law_200_4 : sblk code [(200, .aload_n 0, .null), (201, .iload_n 3, .null), (202, .iconst 4, .int 4), (203, .iadd, .null)] := sblk_of (by decide +kernel)
theorem d_law_204 : decode code 204 = .ok (.iaload, 1) := by decide +kernel
theorem k_law_205_4 : sblk code [(205, .aload_n 0, .null), (206, .iload_n 3, .null), (207, .iconst 5, .int 5), (208, .iadd, .null)] := sblk_of (by decide +kernel)
theorem d_law_209 : decode code 209 = .ok (.iaload, 1) := by decide +kernel
theorem k_law_210_4 : sblk code [(210, .aload_n 0, .null), (211, .iload_n 3, .null), (212, .bipush 6, .int 6), (214, .iadd, .null)] := sblk_of (by decide +kernel)
theorem d_law_215 : decode code 215 = .ok (.iaload, 1) := by decide +kernel
theorem d_law_216 : decode code 216 = .ok (.invokevirtual 17, 3) := by decide +kernel
theorem k_law_219_2 : sblk code [(219, .pop, .null), (220, .goto 927, .retAddr 1147)] := sblk_of (by decide +kernel)
theorem k_law_223_1 : sblk code [(223, .aload_n 1, .null)] := sblk_of (by decide +kernel)
theorem d_law_224 : decode code 224 = .ok (.invokevirtual 18, 3) := by decide +kernel
theorem k_law_227_2 : sblk code [(227, .pop, .null), (228, .aload_n 2, .null)] := sblk_of (by decide +kernel)
theorem d_law_229 : decode code 229 = .ok (.invokevirtual 22, 3) := by decide +kernel
theorem k_law_232_2 : sblk code [(232, .pop, .null), (233, .goto 914, .retAddr 1147)] := sblk_of (by decide +kernel)
theorem k_law_236_5 : sblk code [(236, .aload_n 1, .null), (237, .aload_n 0, .null), (238, .iload_n 3, .null), (239, .iconst 1, .int 1), (240, .iadd, .null)] := sblk_of (by decide +kernel)
theorem d_law_241 : decode code 241 = .ok (.iaload, 1) := by decide +kernel
theorem k_law_242_4 : sblk code [(242, .aload_n 0, .null), (243, .iload_n 3, .null), (244, .iconst 2, .int 2), (245, .iadd, .null)] := sblk_of (by decide +kernel)
theorem d_law_246 : decode code 246 = .ok (.iaload, 1) := by decide +kernel
theorem d_law_247 : decode code 247 = .ok (.invokevirtual 23, 3) := by decide +kernel
theorem k_law_250_6 : sblk code [(250, .pop, .null), (251, .aload_n 2, .null), (252, .aload_n 0, .null), (253, .iload_n 3, .null), (254, .iconst 1, .int 1), (255, .iadd, .null)] := sblk_of (by decide +kernel)
theorem d_law_256 : decode code 256 = .ok (.iaload, 1) := by decide +kernel
theorem k_law_257_4 : sblk code [(257, .aload_n 0, .null), (258, .iload_n 3, .null), (259, .iconst 2, .int 2), (260, .iadd, .null)] := sblk_of (by decide +kernel)
theorem d_law_261 : decode code 261 = .ok (.iaload, 1) := by decide +kernel
theorem d_law_262 : decode code 262 = .ok (.invokevirtual 27, 3) := by decide +kernel
theorem k_law_265_2 : sblk code [(265, .pop, .null), (266, .goto 881, .retAddr 1147)] := sblk_of (by decide +kernel)
theorem k_law_269_5 : sblk code [(269, .aload_n 1, .null), (270, .aload_n 0, .null), (271, .iload_n 3, .null), (272, .iconst 1, .int 1), (273, .iadd, .null)] := sblk_of (by decide +kernel)
theorem d_law_274 : decode code 274 = .ok (.iaload, 1) := by decide +kernel
theorem k_law_275_4 : sblk code [(275, .aload_n 0, .null), (276, .iload_n 3, .null), (277, .iconst 2, .int 2), (278, .iadd, .null)] := sblk_of (by decide +kernel)
theorem d_law_279 : decode code 279 = .ok (.iaload, 1) := by decide +kernel
theorem d_law_280 : decode code 280 = .ok (.invokevirtual 28, 3) := by decide +kernel
theorem k_law_283_6 : sblk code [(283, .pop, .null), (284, .aload_n 2, .null), (285, .aload_n 0, .null), (286, .iload_n 3, .null), (287, .iconst 1, .int 1), (288, .iadd, .null)] := sblk_of (by decide +kernel)
theorem d_law_289 : decode code 289 = .ok (.iaload, 1) := by decide +kernel
theorem k_law_290_4 : sblk code [(290, .aload_n 0, .null), (291, .iload_n 3, .null), (292, .iconst 2, .int 2), (293, .iadd, .null)] := sblk_of (by decide +kernel)
theorem d_law_294 : decode code 294 = .ok (.iaload, 1) := by decide +kernel
theorem d_law_295 : decode code 295 = .ok (.invokevirtual 31, 3) := by decide +kernel
theorem k_law_298_2 : sblk code [(298, .pop, .null), (299, .goto 848, .retAddr 1147)] := sblk_of (by decide +kernel)
theorem k_law_302_5 : sblk code [(302, .aload_n 1, .null), (303, .aload_n 0, .null), (304, .iload_n 3, .null), (305, .iconst 1, .int 1), (306, .iadd, .null)] := sblk_of (by decide +kernel)
theorem d_law_307 : decode code 307 = .ok (.iaload, 1) := by decide +kernel
theorem k_law_308_4 : sblk code [(308, .aload_n 0, .null), (309, .iload_n 3, .null), (310, .iconst 2, .int 2), (311, .iadd, .null)] := sblk_of (by decide +kernel)
theorem d_law_312 : decode code 312 = .ok (.iaload, 1) := by decide +kernel
theorem k_law_313_4 : sblk code [(313, .aload_n 0, .null), (314, .iload_n 3, .null), (315, .iconst 3, .int 3), (316, .iadd, .null)] := sblk_of (by decide +kernel)
theorem d_law_317 : decode code 317 = .ok (.iaload, 1) := by decide +kernel
theorem d_law_318 : decode code 318 = .ok (.invokevirtual 32, 3) := by decide +kernel
theorem k_law_321_5 : sblk code [(321, .aload_n 2, .null), (322, .aload_n 0, .null), (323, .iload_n 3, .null), (324, .iconst 1, .int 1), (325, .iadd, .null)] := sblk_of (by decide +kernel)
theorem d_law_326 : decode code 326 = .ok (.iaload, 1) := by decide +kernel
theorem k_law_327_4 : sblk code [(327, .aload_n 0, .null), (328, .iload_n 3, .null), (329, .iconst 2, .int 2), (330, .iadd, .null)] := sblk_of (by decide +kernel)
theorem d_law_331 : decode code 331 = .ok (.iaload, 1) := by decide +kernel
theorem k_law_332_4 : sblk code [(332, .aload_n 0, .null), (333, .iload_n 3, .null), (334, .iconst 3, .int 3), (335, .iadd, .null)] := sblk_of (by decide +kernel)
theorem d_law_336 : decode code 336 = .ok (.iaload, 1) := by decide +kernel
theorem d_law_337 : decode code 337 = .ok (.invokevirtual 36, 3) := by decide +kernel
theorem d_law_340 : decode code 340 = .ok (.if_icmp .eq 807, 3) := by decide +kernel
theorem k_law_345_5 : sblk code [(345, .aload_n 1, .null), (346, .aload_n 0, .null), (347, .iload_n 3, .null), (348, .iconst 1, .int 1), (349, .iadd, .null)] := sblk_of (by decide +kernel)
theorem d_law_350 : decode code 350 = .ok (.iaload, 1) := by decide +kernel
theorem k_law_351_4 : sblk code [(351, .aload_n 0, .null), (352, .iload_n 3, .null), (353, .iconst 2, .int 2), (354, .iadd, .null)] := sblk_of (by decide +kernel)
theorem d_law_355 : decode code 355 = .ok (.iaload, 1) := by decide +kernel
theorem k_law_356_4 : sblk code [(356, .aload_n 0, .null), (357, .iload_n 3, .null), (358, .iconst 3, .int 3), (359, .iadd, .null)] := sblk_of (by decide +kernel)
theorem d_law_360 : decode code 360 = .ok (.iaload, 1) := by decide +kernel
theorem d_law_361 : decode code 361 = .ok (.invokevirtual 37, 3) := by decide +kernel
theorem k_law_364_6 : sblk code [(364, .pop, .null), (365, .aload_n 2, .null), (366, .aload_n 0, .null), (367, .iload_n 3, .null), (368, .iconst 1, .int 1), (369, .iadd, .null)] := sblk_of (by decide +kernel)
theorem d_law_370 : decode code 370 = .ok (.iaload, 1) := by decide +kernel
theorem k_law_371_4 : sblk code [(371, .aload_n 0, .null), (372, .iload_n 3, .null), (373, .iconst 2, .int 2), (374, .iadd, .null)] := sblk_of (by decide +kernel)
theorem d_law_375 : decode code 375 = .ok (.iaload, 1) := by decide +kernel
theorem k_law_376_4 : sblk code [(376, .aload_n 0, .null), (377, .iload_n 3, .null), (378, .iconst 3, .int 3), (379, .iadd, .null)] := sblk_of (by decide +kernel)
theorem d_law_380 : decode code 380 = .ok (.iaload, 1) := by decide +kernel
theorem d_law_381 : decode code 381 = .ok (.invokevirtual 40, 3) := by decide +kernel
theorem k_law_384_2 : sblk code [(384, .pop, .null), (385, .goto 762, .retAddr 1147)] := sblk_of (by decide +kernel)
theorem k_law_388_5 : sblk code [(388, .aload_n 1, .null), (389, .aload_n 0, .null), (390, .iload_n 3, .null), (391, .iconst 1, .int 1), (392, .iadd, .null)] := sblk_of (by decide +kernel)
theorem d_law_393 : decode code 393 = .ok (.iaload, 1) := by decide +kernel
theorem k_law_394_4 : sblk code [(394, .aload_n 0, .null), (395, .iload_n 3, .null), (396, .iconst 2, .int 2), (397, .iadd, .null)] := sblk_of (by decide +kernel)
theorem d_law_398 : decode code 398 = .ok (.iaload, 1) := by decide +kernel
theorem d_law_399 : decode code 399 = .ok (.invokevirtual 41, 3) := by decide +kernel
theorem k_law_402_6 : sblk code [(402, .pop2, .null), (403, .aload_n 2, .null), (404, .aload_n 0, .null), (405, .iload_n 3, .null), (406, .iconst 1, .int 1), (407, .iadd, .null)] := sblk_of (by decide +kernel)
theorem d_law_408 : decode code 408 = .ok (.iaload, 1) := by decide +kernel
theorem k_law_409_4 : sblk code [(409, .aload_n 0, .null), (410, .iload_n 3, .null), (411, .iconst 2, .int 2), (412, .iadd, .null)] := sblk_of (by decide +kernel)
theorem d_law_413 : decode code 413 = .ok (.iaload, 1) := by decide +kernel
theorem d_law_414 : decode code 414 = .ok (.invokevirtual 45, 3) := by decide +kernel
theorem k_law_417_2 : sblk code [(417, .pop2, .null), (418, .goto 729, .retAddr 1147)] := sblk_of (by decide +kernel)
theorem k_law_421_5 : sblk code [(421, .aload_n 1, .null), (422, .aload_n 0, .null), (423, .iload_n 3, .null), (424, .iconst 1, .int 1), (425, .iadd, .null)] := sblk_of (by decide +kernel)
theorem d_law_426 : decode code 426 = .ok (.iaload, 1) := by decide +kernel
theorem k_law_427_4 : sblk code [(427, .aload_n 0, .null), (428, .iload_n 3, .null), (429, .iconst 2, .int 2), (430, .iadd, .null)] := sblk_of (by decide +kernel)
theorem d_law_431 : decode code 431 = .ok (.iaload, 1) := by decide +kernel
theorem k_law_432_4 : sblk code [(432, .aload_n 0, .null), (433, .iload_n 3, .null), (434, .iconst 3, .int 3), (435, .iadd, .null)] := sblk_of (by decide +kernel)
theorem d_law_436 : decode code 436 = .ok (.iaload, 1) := by decide +kernel
theorem k_law_437_4 : sblk code [(437, .aload_n 0, .null), (438, .iload_n 3, .null), (439, .iconst 4, .int 4), (440, .iadd, .null)] := sblk_of (by decide +kernel)
theorem d_law_441 : decode code 441 = .ok (.iaload, 1) := by decide +kernel
theorem d_law_442 : decode code 442 = .ok (.invokevirtual 46, 3) := by decide +kernel
theorem k_law_445_6 : sblk code [(445, .pop2, .null), (446, .aload_n 2, .null), (447, .aload_n 0, .null), (448, .iload_n 3, .null), (449, .iconst 1, .int 1), (450, .iadd, .null)] := sblk_of (by decide +kernel)
theorem d_law_451 : decode code 451 = .ok (.iaload, 1) := by decide +kernel
theorem k_law_452_4 : sblk code [(452, .aload_n 0, .null), (453, .iload_n 3, .null), (454, .iconst 2, .int 2), (455, .iadd, .null)] := sblk_of (by decide +kernel)
theorem d_law_456 : decode code 456 = .ok (.iaload, 1) := by decide +kernel
theorem k_law_457_4 : sblk code [(457, .aload_n 0, .null), (458, .iload_n 3, .null), (459, .iconst 3, .int 3), (460, .iadd, .null)] := sblk_of (by decide +kernel)
theorem d_law_461 : decode code 461 = .ok (.iaload, 1) := by decide +kernel
theorem k_law_462_4 : sblk code [(462, .aload_n 0, .null), (463, .iload_n 3, .null), (464, .iconst 4, .int 4), (465, .iadd, .null)] := sblk_of (by decide +kernel)
theorem d_law_466 : decode code 466 = .ok (.iaload, 1) := by decide +kernel
theorem d_law_467 : decode code 467 = .ok (.invokevirtual 50, 3) := by decide +kernel
theorem k_law_470_2 : sblk code [(470, .pop2, .null), (471, .goto 676, .retAddr 1147)] := sblk_of (by decide +kernel)
theorem k_law_474_5 : sblk code [(474, .aload_n 1, .null), (475, .aload_n 0, .null), (476, .iload_n 3, .null), (477, .iconst 1, .int 1), (478, .iadd, .null)] := sblk_of (by decide +kernel)
theorem d_law_479 : decode code 479 = .ok (.iaload, 1) := by decide +kernel
theorem k_law_480_4 : sblk code [(480, .aload_n 0, .null), (481, .iload_n 3, .null), (482, .iconst 2, .int 2), (483, .iadd, .null)] := sblk_of (by decide +kernel)
theorem d_law_484 : decode code 484 = .ok (.iaload, 1) := by decide +kernel
theorem k_law_485_4 : sblk code [(485, .aload_n 0, .null), (486, .iload_n 3, .null), (487, .iconst 3, .int 3), (488, .iadd, .null)] := sblk_of (by decide +kernel)
theorem d_law_489 : decode code 489 = .ok (.iaload, 1) := by decide +kernel
theorem d_law_490 : decode code 490 = .ok (.invokevirtual 51, 3) := by decide +kernel
theorem k_law_493_6 : sblk code [(493, .pop2, .null), (494, .aload_n 2, .null), (495, .aload_n 0, .null), (496, .iload_n 3, .null), (497, .iconst 1, .int 1), (498, .iadd, .null)] := sblk_of (by decide +kernel)
theorem d_law_499 : decode code 499 = .ok (.iaload, 1) := by decide +kernel
theorem k_law_500_4 : sblk code [(500, .aload_n 0, .null), (501, .iload_n 3, .null), (502, .iconst 2, .int 2), (503, .iadd, .null)] := sblk_of (by decide +kernel)
theorem d_law_504 : decode code 504 = .ok (.iaload, 1) := by decide +kernel
theorem k_law_505_4 : sblk code [(505, .aload_n 0, .null), (506, .iload_n 3, .null), (507, .iconst 3, .int 3), (508, .iadd, .null)] := sblk_of (by decide +kernel)
theorem d_law_509 : decode code 509 = .ok (.iaload, 1) := by decide +kernel
theorem d_law_510 : decode code 510 = .ok (.invokevirtual 55, 3) := by decide +kernel
theorem k_law_513_2 : sblk code [(513, .pop2, .null), (514, .goto 633, .retAddr 1147)] := sblk_of (by decide +kernel)
theorem k_law_517_5 : sblk code [(517, .aload_n 1, .null), (518, .aload_n 0, .null), (519, .iload_n 3, .null), (520, .iconst 1, .int 1), (521, .iadd, .null)] := sblk_of (by decide +kernel)
theorem d_law_522 : decode code 522 = .ok (.iaload, 1) := by decide +kernel
theorem k_law_523_4 : sblk code [(523, .aload_n 0, .null), (524, .iload_n 3, .null), (525, .iconst 2, .int 2), (526, .iadd, .null)] := sblk_of (by decide +kernel)
theorem d_law_527 : decode code 527 = .ok (.iaload, 1) := by decide +kernel
theorem k_law_528_4 : sblk code [(528, .aload_n 0, .null), (529, .iload_n 3, .null), (530, .iconst 3, .int 3), (531, .iadd, .null)] := sblk_of (by decide +kernel)
theorem d_law_532 : decode code 532 = .ok (.iaload, 1) := by decide +kernel
theorem k_law_533_4 : sblk code [(533, .aload_n 0, .null), (534, .iload_n 3, .null), (535, .iconst 4, .int 4), (536, .iadd, .null)] := sblk_of (by decide +kernel)
theorem d_law_537 : decode code 537 = .ok (.iaload, 1) := by decide +kernel
theorem d_law_538 : decode code 538 = .ok (.invokevirtual 56, 3) := by decide +kernel
theorem k_law_541_6 : sblk code [(541, .pop2, .null), (542, .aload_n 2, .null), (543, .aload_n 0, .null), (544, .iload_n 3, .null), (545, .iconst 1, .int 1), (546, .iadd, .null)] := sblk_of (by decide +kernel)
theorem d_law_547 : decode code 547 = .ok (.iaload, 1) := by decide +kernel
theorem k_law_548_4 : sblk code [(548, .aload_n 0, .null), (549, .iload_n 3, .null), (550, .iconst 2, .int 2), (551, .iadd, .null)] := sblk_of (by decide +kernel)
theorem d_law_552 : decode code 552 = .ok (.iaload, 1) := by decide +kernel
theorem k_law_553_4 : sblk code [(553, .aload_n 0, .null), (554, .iload_n 3, .null), (555, .iconst 3, .int 3), (556, .iadd, .null)] := sblk_of (by decide +kernel)
theorem d_law_557 : decode code 557 = .ok (.iaload, 1) := by decide +kernel
theorem k_law_558_4 : sblk code [(558, .aload_n 0, .null), (559, .iload_n 3, .null), (560, .iconst 4, .int 4), (561, .iadd, .null)] := sblk_of (by decide +kernel)
theorem d_law_562 : decode code 562 = .ok (.iaload, 1) := by decide +kernel
theorem d_law_563 : decode code 563 = .ok (.invokevirtual 59, 3) := by decide +kernel
theorem k_law_566_2 : sblk code [(566, .pop2, .null), (567, .goto 580, .retAddr 1147)] := sblk_of (by decide +kernel)
theorem k_law_570_5 : sblk code [(570, .aload_n 1, .null), (571, .aload_n 0, .null), (572, .iload_n 3, .null), (573, .iconst 1, .int 1), (574, .iadd, .null)] := sblk_of (by decide +kernel)
theorem d_law_575 : decode code 575 = .ok (.iaload, 1) := by decide +kernel
theorem k_law_576_4 : sblk code [(576, .aload_n 0, .null), (577, .iload_n 3, .null), (578, .iconst 2, .int 2), (579, .iadd, .null)] := sblk_of (by decide +kernel)
theorem d_law_580 : decode code 580 = .ok (.iaload, 1) := by decide +kernel
theorem d_law_581 : decode code 581 = .ok (.invokevirtual 60, 3) := by decide +kernel
theorem k_law_584_6 : sblk code [(584, .pop, .null), (585, .aload_n 2, .null), (586, .aload_n 0, .null), (587, .iload_n 3, .null), (588, .iconst 1, .int 1), (589, .iadd, .null)] := sblk_of (by decide +kernel)
theorem d_law_590 : decode code 590 = .ok (.iaload, 1) := by decide +kernel
theorem k_law_591_4 : sblk code [(591, .aload_n 0, .null), (592, .iload_n 3, .null), (593, .iconst 2, .int 2), (594, .iadd, .null)] := sblk_of (by decide +kernel)
theorem d_law_595 : decode code 595 = .ok (.iaload, 1) := by decide +kernel
theorem d_law_596 : decode code 596 = .ok (.invokevirtual 63, 3) := by decide +kernel
theorem k_law_599_2 : sblk code [(599, .pop, .null), (600, .goto 547, .retAddr 1147)] := sblk_of (by decide +kernel)
theorem k_law_603_5 : sblk code [(603, .aload_n 1, .null), (604, .aload_n 0, .null), (605, .iload_n 3, .null), (606, .iconst 1, .int 1), (607, .iadd, .null)] := sblk_of (by decide +kernel)
theorem d_law_608 : decode code 608 = .ok (.iaload, 1) := by decide +kernel
theorem k_law_609_4 : sblk code [(609, .aload_n 0, .null), (610, .iload_n 3, .null), (611, .iconst 2, .int 2), (612, .iadd, .null)] := sblk_of (by decide +kernel)
theorem d_law_613 : decode code 613 = .ok (.iaload, 1) := by decide +kernel
theorem k_law_614_4 : sblk code [(614, .aload_n 0, .null), (615, .iload_n 3, .null), (616, .iconst 3, .int 3), (617, .iadd, .null)] := sblk_of (by decide +kernel)
theorem d_law_618 : decode code 618 = .ok (.iaload, 1) := by decide +kernel
theorem d_law_619 : decode code 619 = .ok (.invokevirtual 64, 3) := by decide +kernel
theorem k_law_622_6 : sblk code [(622, .pop, .null), (623, .aload_n 2, .null), (624, .aload_n 0, .null), (625, .iload_n 3, .null), (626, .iconst 1, .int 1), (627, .iadd, .null)] := sblk_of (by decide +kernel)
theorem d_law_628 : decode code 628 = .ok (.iaload, 1) := by decide +kernel
theorem k_law_629_4 : sblk code [(629, .aload_n 0, .null), (630, .iload_n 3, .null), (631, .iconst 2, .int 2), (632, .iadd, .null)] := sblk_of (by decide +kernel)
theorem d_law_633 : decode code 633 = .ok (.iaload, 1) := by decide +kernel
theorem k_law_634_4 : sblk code [(634, .aload_n 0, .null), (635, .iload_n 3, .null), (636, .iconst 3, .int 3), (637, .iadd, .null)] := sblk_of (by decide +kernel)
theorem d_law_638 : decode code 638 = .ok (.iaload, 1) := by decide +kernel
theorem d_law_639 : decode code 639 = .ok (.invokevirtual 67, 3) := by decide +kernel
theorem k_law_642_2 : sblk code [(642, .pop, .null), (643, .goto 504, .retAddr 1147)] := sblk_of (by decide +kernel)
theorem k_law_646_5 : sblk code [(646, .aload_n 1, .null), (647, .aload_n 0, .null), (648, .iload_n 3, .null), (649, .iconst 1, .int 1), (650, .iadd, .null)] := sblk_of (by decide +kernel)
theorem d_law_651 : decode code 651 = .ok (.iaload, 1) := by decide +kernel
theorem k_law_652_4 : sblk code [(652, .aload_n 0, .null), (653, .iload_n 3, .null), (654, .iconst 2, .int 2), (655, .iadd, .null)] := sblk_of (by decide +kernel)
theorem d_law_656 : decode code 656 = .ok (.iaload, 1) := by decide +kernel
theorem d_law_657 : decode code 657 = .ok (.invokevirtual 68, 3) := by decide +kernel
theorem k_law_660_6 : sblk code [(660, .pop, .null), (661, .aload_n 2, .null), (662, .aload_n 0, .null), (663, .iload_n 3, .null), (664, .iconst 1, .int 1), (665, .iadd, .null)] := sblk_of (by decide +kernel)
theorem d_law_666 : decode code 666 = .ok (.iaload, 1) := by decide +kernel
theorem k_law_667_4 : sblk code [(667, .aload_n 0, .null), (668, .iload_n 3, .null), (669, .iconst 2, .int 2), (670, .iadd, .null)] := sblk_of (by decide +kernel)
theorem d_law_671 : decode code 671 = .ok (.iaload, 1) := by decide +kernel
theorem d_law_672 : decode code 672 = .ok (.invokevirtual 71, 3) := by decide +kernel
theorem k_law_675_2 : sblk code [(675, .pop, .null), (676, .goto 471, .retAddr 1147)] := sblk_of (by decide +kernel)
theorem k_law_679_5 : sblk code [(679, .aload_n 1, .null), (680, .aload_n 0, .null), (681, .iload_n 3, .null), (682, .iconst 1, .int 1), (683, .iadd, .null)] := sblk_of (by decide +kernel)
theorem d_law_684 : decode code 684 = .ok (.iaload, 1) := by decide +kernel
theorem k_law_685_4 : sblk code [(685, .aload_n 0, .null), (686, .iload_n 3, .null), (687, .iconst 2, .int 2), (688, .iadd, .null)] := sblk_of (by decide +kernel)
theorem d_law_689 : decode code 689 = .ok (.iaload, 1) := by decide +kernel
theorem d_law_690 : decode code 690 = .ok (.invokevirtual 72, 3) := by decide +kernel
theorem k_law_693_6 : sblk code [(693, .pop, .null), (694, .aload_n 2, .null), (695, .aload_n 0, .null), (696, .iload_n 3, .null), (697, .iconst 1, .int 1), (698, .iadd, .null)] := sblk_of (by decide +kernel)
theorem d_law_699 : decode code 699 = .ok (.iaload, 1) := by decide +kernel
theorem k_law_700_4 : sblk code [(700, .aload_n 0, .null), (701, .iload_n 3, .null), (702, .iconst 2, .int 2), (703, .iadd, .null)] := sblk_of (by decide +kernel)
theorem d_law_704 : decode code 704 = .ok (.iaload, 1) := by decide +kernel
theorem d_law_705 : decode code 705 = .ok (.invokevirtual 75, 3) := by decide +kernel
theorem k_law_708_2 : sblk code [(708, .pop, .null), (709, .goto 438, .retAddr 1147)] := sblk_of (by decide +kernel)
theorem k_law_712_5 : sblk code [(712, .aload_n 1, .null), (713, .aload_n 0, .null), (714, .iload_n 3, .null), (715, .iconst 1, .int 1), (716, .iadd, .null)] := sblk_of (by decide +kernel)
theorem d_law_717 : decode code 717 = .ok (.iaload, 1) := by decide +kernel
theorem k_law_718_4 : sblk code [(718, .aload_n 0, .null), (719, .iload_n 3, .null), (720, .iconst 2, .int 2), (721, .iadd, .null)] := sblk_of (by decide +kernel)
theorem d_law_722 : decode code 722 = .ok (.iaload, 1) := by decide +kernel
theorem d_law_723 : decode code 723 = .ok (.invokevirtual 76, 3) := by decide +kernel
theorem k_law_726_6 : sblk code [(726, .pop, .null), (727, .aload_n 2, .null), (728, .aload_n 0, .null), (729, .iload_n 3, .null), (730, .iconst 1, .int 1), (731, .iadd, .null)] := sblk_of (by decide +kernel)
theorem d_law_732 : decode code 732 = .ok (.iaload, 1) := by decide +kernel
theorem k_law_733_4 : sblk code [(733, .aload_n 0, .null), (734, .iload_n 3, .null), (735, .iconst 2, .int 2), (736, .iadd, .null)] := sblk_of (by decide +kernel)
theorem d_law_737 : decode code 737 = .ok (.iaload, 1) := by decide +kernel
theorem d_law_738 : decode code 738 = .ok (.invokevirtual 79, 3) := by decide +kernel
theorem k_law_741_2 : sblk code [(741, .pop, .null), (742, .goto 405, .retAddr 1147)] := sblk_of (by decide +kernel)
theorem k_law_745_5 : sblk code [(745, .aload_n 1, .null), (746, .aload_n 0, .null), (747, .iload_n 3, .null), (748, .iconst 1, .int 1), (749, .iadd, .null)] := sblk_of (by decide +kernel)
theorem d_law_750 : decode code 750 = .ok (.iaload, 1) := by decide +kernel
theorem k_law_751_4 : sblk code [(751, .aload_n 0, .null), (752, .iload_n 3, .null), (753, .iconst 2, .int 2), (754, .iadd, .null)] := sblk_of (by decide +kernel)
theorem d_law_755 : decode code 755 = .ok (.iaload, 1) := by decide +kernel
theorem d_law_756 : decode code 756 = .ok (.invokevirtual 80, 3) := by decide +kernel
theorem k_law_759_6 : sblk code [(759, .pop, .null), (760, .aload_n 2, .null), (761, .aload_n 0, .null), (762, .iload_n 3, .null), (763, .iconst 1, .int 1), (764, .iadd, .null)] := sblk_of (by decide +kernel)
theorem d_law_765 : decode code 765 = .ok (.iaload, 1) := by decide +kernel
theorem k_law_766_4 : sblk code [(766, .aload_n 0, .null), (767, .iload_n 3, .null), (768, .iconst 2, .int 2), (769, .iadd, .null)] := sblk_of (by decide +kernel)
theorem d_law_770 : decode code 770 = .ok (.iaload, 1) := by decide +kernel
theorem d_law_771 : decode code 771 = .ok (.invokevirtual 83, 3) := by decide +kernel
theorem k_law_774_2 : sblk code [(774, .pop, .null), (775, .goto 372, .retAddr 1147)] := sblk_of (by decide +kernel)
theorem k_law_778_5 : sblk code [(778, .aload_n 1, .null), (779, .aload_n 0, .null), (780, .iload_n 3, .null), (781, .iconst 1, .int 1), (782, .iadd, .null)] := sblk_of (by decide +kernel)
theorem d_law_783 : decode code 783 = .ok (.iaload, 1) := by decide +kernel
theorem k_law_784_4 : sblk code [(784, .aload_n 0, .null), (785, .iload_n 3, .null), (786, .iconst 2, .int 2), (787, .iadd, .null)] := sblk_of (by decide +kernel)
theorem d_law_788 : decode code 788 = .ok (.iaload, 1) := by decide +kernel
theorem k_law_789_4 : sblk code [(789, .aload_n 0, .null), (790, .iload_n 3, .null), (791, .iconst 3, .int 3), (792, .iadd, .null)] := sblk_of (by decide +kernel)
theorem d_law_793 : decode code 793 = .ok (.iaload, 1) := by decide +kernel
theorem k_law_794_4 : sblk code [(794, .aload_n 0, .null), (795, .iload_n 3, .null), (796, .iconst 4, .int 4), (797, .iadd, .null)] := sblk_of (by decide +kernel)
theorem d_law_798 : decode code 798 = .ok (.iaload, 1) := by decide +kernel
theorem k_law_799_4 : sblk code [(799, .aload_n 0, .null), (800, .iload_n 3, .null), (801, .iconst 5, .int 5), (802, .iadd, .null)] := sblk_of (by decide +kernel)
theorem d_law_803 : decode code 803 = .ok (.iaload, 1) := by decide +kernel
theorem k_law_804_4 : sblk code [(804, .aload_n 0, .null), (805, .iload_n 3, .null), (806, .bipush 6, .int 6), (808, .iadd, .null)] := sblk_of (by decide +kernel)
theorem d_law_809 : decode code 809 = .ok (.iaload, 1) := by decide +kernel
theorem d_law_810 : decode code 810 = .ok (.invokevirtual 84, 3) := by decide +kernel
theorem k_law_813_6 : sblk code [(813, .pop, .null), (814, .aload_n 2, .null), (815, .aload_n 0, .null), (816, .iload_n 3, .null), (817, .iconst 1, .int 1), (818, .iadd, .null)] := sblk_of (by decide +kernel)
theorem d_law_819 : decode code 819 = .ok (.iaload, 1) := by decide +kernel
theorem k_law_820_4 : sblk code [(820, .aload_n 0, .null), (821, .iload_n 3, .null), (822, .iconst 2, .int 2), (823, .iadd, .null)] := sblk_of (by decide +kernel)
theorem d_law_824 : decode code 824 = .ok (.iaload, 1) := by decide +kernel
theorem k_law_825_4 : sblk code [(825, .aload_n 0, .null), (826, .iload_n 3, .null), (827, .iconst 3, .int 3), (828, .iadd, .null)] := sblk_of (by decide +kernel)
theorem d_law_829 : decode code 829 = .ok (.iaload, 1) := by decide +kernel
theorem k_law_830_4 : sblk code [(830, .aload_n 0, .null), (831, .iload_n 3, .null), (832, .iconst 4, .int 4), (833, .iadd, .null)] := sblk_of (by decide +kernel)
theorem d_law_834 : decode code 834 = .ok (.iaload, 1) := by decide +kernel
theorem k_law_835_4 : sblk code [(835, .aload_n 0, .null), (836, .iload_n 3, .null), (837, .iconst 5, .int 5), (838, .iadd, .null)] := sblk_of (by decide +kernel)
theorem d_law_839 : decode code 839 = .ok (.iaload, 1) := by decide +kernel
theorem k_law_840_4 : sblk code [(840, .aload_n 0, .null), (841, .iload_n 3, .null), (842, .bipush 6, .int 6), (844, .iadd, .null)] := sblk_of (by decide +kernel)
theorem d_law_845 : decode code 845 = .ok (.iaload, 1) := by decide +kernel
theorem d_law_846 : decode code 846 = .ok (.invokevirtual 87, 3) := by decide +kernel
theorem k_law_849_2 : sblk code [(849, .pop, .null), (850, .goto 297, .retAddr 1147)] := sblk_of (by decide +kernel)
theorem k_law_853_5 : sblk code [(853, .aload_n 1, .null), (854, .aload_n 0, .null), (855, .iload_n 3, .null), (856, .iconst 1, .int 1), (857, .iadd, .null)] := sblk_of (by decide +kernel)
theorem d_law_858 : decode code 858 = .ok (.iaload, 1) := by decide +kernel
theorem k_law_859_4 : sblk code [(859, .aload_n 0, .null), (860, .iload_n 3, .null), (861, .iconst 2, .int 2), (862, .iadd, .null)] := sblk_of (by decide +kernel)
theorem d_law_863 : decode code 863 = .ok (.iaload, 1) := by decide +kernel
theorem k_law_864_4 : sblk code [(864, .aload_n 0, .null), (865, .iload_n 3, .null), (866, .iconst 3, .int 3), (867, .iadd, .null)] := sblk_of (by decide +kernel)
theorem d_law_868 : decode code 868 = .ok (.iaload, 1) := by decide +kernel
theorem k_law_869_4 : sblk code [(869, .aload_n 0, .null), (870, .iload_n 3, .null), (871, .iconst 4, .int 4), (872, .iadd, .null)] := sblk_of (by decide +kernel)
theorem d_law_873 : decode code 873 = .ok (.iaload, 1) := by decide +kernel
theorem d_law_874 : decode code 874 = .ok (.invokevirtual 88, 3) := by decide +kernel
theorem k_law_877_6 : sblk code [(877, .pop, .null), (878, .aload_n 2, .null), (879, .aload_n 0, .null), (880, .iload_n 3, .null), (881, .iconst 1, .int 1), (882, .iadd, .null)] := sblk_of (by decide +kernel)
theorem d_law_883 : decode code 883 = .ok (.iaload, 1) := by decide +kernel
theorem k_law_884_4 : sblk code [(884, .aload_n 0, .null), (885, .iload_n 3, .null), (886, .iconst 2, .int 2), (887, .iadd, .null)] := sblk_of (by decide +kernel)
theorem d_law_888 : decode code 888 = .ok (.iaload, 1) := by decide +kernel
theorem k_law_889_4 : sblk code [(889, .aload_n 0, .null), (890, .iload_n 3, .null), (891, .iconst 3, .int 3), (892, .iadd, .null)] := sblk_of (by decide +kernel)
theorem d_law_893 : decode code 893 = .ok (.iaload, 1) := by decide +kernel
theorem k_law_894_4 : sblk code [(894, .aload_n 0, .null), (895, .iload_n 3, .null), (896, .iconst 4, .int 4), (897, .iadd, .null)] := sblk_of (by decide +kernel)
theorem d_law_898 : decode code 898 = .ok (.iaload, 1) := by decide +kernel
theorem d_law_899 : decode code 899 = .ok (.invokevirtual 92, 3) := by decide +kernel
theorem k_law_902_2 : sblk code [(902, .pop, .null), (903, .goto 244, .retAddr 1147)] := sblk_of (by decide +kernel)
theorem k_law_906_5 : sblk code [(906, .aload_n 1, .null), (907, .aload_n 0, .null), (908, .iload_n 3, .null), (909, .iconst 1, .int 1), (910, .iadd, .null)] := sblk_of (by decide +kernel)
theorem d_law_911 : decode code 911 = .ok (.iaload, 1) := by decide +kernel
theorem k_law_912_4 : sblk code [(912, .aload_n 0, .null), (913, .iload_n 3, .null), (914, .iconst 2, .int 2), (915, .iadd, .null)] := sblk_of (by decide +kernel)
theorem d_law_916 : decode code 916 = .ok (.iaload, 1) := by decide +kernel
theorem k_law_917_4 : sblk code [(917, .aload_n 0, .null), (918, .iload_n 3, .null), (919, .iconst 3, .int 3), (920, .iadd, .null)] := sblk_of (by decide +kernel)
theorem d_law_921 : decode code 921 = .ok (.iaload, 1) := by decide +kernel
theorem d_law_922 : decode code 922 = .ok (.invokevirtual 93, 3) := by decide +kernel
theorem k_law_925_6 : sblk code [(925, .pop, .null), (926, .aload_n 2, .null), (927, .aload_n 0, .null), (928, .iload_n 3, .null), (929, .iconst 1, .int 1), (930, .iadd, .null)] := sblk_of (by decide +kernel)
theorem d_law_931 : decode code 931 = .ok (.iaload, 1) := by decide +kernel
theorem k_law_932_4 : sblk code [(932, .aload_n 0, .null), (933, .iload_n 3, .null), (934, .iconst 2, .int 2), (935, .iadd, .null)] := sblk_of (by decide +kernel)
theorem d_law_936 : decode code 936 = .ok (.iaload, 1) := by decide +kernel
theorem k_law_937_4 : sblk code [(937, .aload_n 0, .null), (938, .iload_n 3, .null), (939, .iconst 3, .int 3), (940, .iadd, .null)] := sblk_of (by decide +kernel)
theorem d_law_941 : decode code 941 = .ok (.iaload, 1) := by decide +kernel
theorem d_law_942 : decode code 942 = .ok (.invokevirtual 96, 3) := by decide +kernel
theorem k_law_945_2 : sblk code [(945, .pop, .null), (946, .goto 201, .retAddr 1147)] := sblk_of (by decide +kernel)
theorem k_law_949_1 : sblk code [(949, .aload_n 1, .null)] := sblk_of (by decide +kernel)
theorem d_law_950 : decode code 950 = .ok (.invokevirtual 97, 3) := by decide +kernel
theorem k_law_953_2 : sblk code [(953, .pop, .null), (954, .aload_n 2, .null)] := sblk_of (by decide +kernel)
theorem d_law_955 : decode code 955 = .ok (.invokevirtual 100, 3) := by decide +kernel
theorem k_law_958_2 : sblk code [(958, .pop, .null), (959, .goto 188, .retAddr 1147)] := sblk_of (by decide +kernel)
theorem k_law_962_1 : sblk code [(962, .aload_n 1, .null)] := sblk_of (by decide +kernel)
theorem d_law_963 : decode code 963 = .ok (.invokevirtual 101, 3) := by decide +kernel
theorem k_law_966_2 : sblk code [(966, .pop, .null), (967, .aload_n 2, .null)] := sblk_of (by decide +kernel)
theorem d_law_968 : decode code 968 = .ok (.invokevirtual 104, 3) := by decide +kernel
theorem k_law_971_2 : sblk code [(971, .pop, .null), (972, .goto 175, .retAddr 1147)] := sblk_of (by decide +kernel)
theorem k_law_975_5 : sblk code [(975, .aload_n 1, .null), (976, .aload_n 0, .null), (977, .iload_n 3, .null), (978, .iconst 1, .int 1), (979, .iadd, .null)] := sblk_of (by decide +kernel)
theorem d_law_980 : decode code 980 = .ok (.iaload, 1) := by decide +kernel
theorem d_law_981 : decode code 981 = .ok (.invokevirtual 105, 3) := by decide +kernel
theorem k_law_984_6 : sblk code [(984, .pop, .null), (985, .aload_n 2, .null), (986, .aload_n 0, .null), (987, .iload_n 3, .null), (988, .iconst 1, .int 1), (989, .iadd, .null)] := sblk_of (by decide +kernel)
theorem d_law_990 : decode code 990 = .ok (.iaload, 1) := by decide +kernel
theorem d_law_991 : decode code 991 = .ok (.invokevirtual 109, 3) := by decide +kernel
theorem k_law_994_2 : sblk code [(994, .pop, .null), (995, .goto 152, .retAddr 1147)] := sblk_of (by decide +kernel)
theorem k_law_998_5 : sblk code [(998, .aload_n 1, .null), (999, .aload_n 0, .null), (1000, .iload_n 3, .null), (1001, .iconst 1, .int 1), (1002, .iadd, .null)] := sblk_of (by decide +kernel)
theorem d_law_1003 : decode code 1003 = .ok (.iaload, 1) := by decide +kernel
theorem k_law_1004_4 : sblk code [(1004, .aload_n 0, .null), (1005, .iload_n 3, .null), (1006, .iconst 2, .int 2), (1007, .iadd, .null)] := sblk_of (by decide +kernel)
theorem d_law_1008 : decode code 1008 = .ok (.iaload, 1) := by decide +kernel
theorem k_law_1009_4 : sblk code [(1009, .aload_n 0, .null), (1010, .iload_n 3, .null), (1011, .iconst 3, .int 3), (1012, .iadd, .null)] := sblk_of (by decide +kernel)
theorem d_law_1013 : decode code 1013 = .ok (.iaload, 1) := by decide +kernel
theorem d_law_1014 : decode code 1014 = .ok (.invokevirtual 110, 3) := by decide +kernel
theorem k_law_1017_6 : sblk code [(1017, .pop, .null), (1018, .aload_n 2, .null), (1019, .aload_n 0, .null), (1020, .iload_n 3, .null), (1021, .iconst 1, .int 1), (1022, .iadd, .null)] := sblk_of (by decide +kernel)
theorem d_law_1023 : decode code 1023 = .ok (.iaload, 1) := by decide +kernel
theorem k_law_1024_4 : sblk code [(1024, .aload_n 0, .null), (1025, .iload_n 3, .null), (1026, .iconst 2, .int 2), (1027, .iadd, .null)] := sblk_of (by decide +kernel)
theorem d_law_1028 : decode code 1028 = .ok (.iaload, 1) := by decide +kernel
theorem k_law_1029_4 : sblk code [(1029, .aload_n 0, .null), (1030, .iload_n 3, .null), (1031, .iconst 3, .int 3), (1032, .iadd, .null)] := sblk_of (by decide +kernel)
theorem d_law_1033 : decode code 1033 = .ok (.iaload, 1) := by decide +kernel
theorem d_law_1034 : decode code 1034 = .ok (.invokevirtual 113, 3) := by decide +kernel
theorem k_law_1037_2 : sblk code [(1037, .pop, .null), (1038, .goto 109, .retAddr 1147)] := sblk_of (by decide +kernel)
theorem k_law_1041_5 : sblk code [(1041, .aload_n 1, .null), (1042, .aload_n 0, .null), (1043, .iload_n 3, .null), (1044, .iconst 1, .int 1), (1045, .iadd, .null)] := sblk_of (by decide +kernel)
theorem d_law_1046 : decode code 1046 = .ok (.iaload, 1) := by decide +kernel
theorem k_law_1047_4 : sblk code [(1047, .aload_n 0, .null), (1048, .iload_n 3, .null), (1049, .iconst 2, .int 2), (1050, .iadd, .null)] := sblk_of (by decide +kernel)
theorem d_law_1051 : decode code 1051 = .ok (.iaload, 1) := by decide +kernel
theorem k_law_1052_4 : sblk code [(1052, .aload_n 0, .null), (1053, .iload_n 3, .null), (1054, .iconst 3, .int 3), (1055, .iadd, .null)] := sblk_of (by decide +kernel)
theorem d_law_1056 : decode code 1056 = .ok (.iaload, 1) := by decide +kernel
theorem d_law_1057 : decode code 1057 = .ok (.invokevirtual 114, 3) := by decide +kernel
theorem k_law_1060_6 : sblk code [(1060, .pop, .null), (1061, .aload_n 2, .null), (1062, .aload_n 0, .null), (1063, .iload_n 3, .null), (1064, .iconst 1, .int 1), (1065, .iadd, .null)] := sblk_of (by decide +kernel)
theorem d_law_1066 : decode code 1066 = .ok (.iaload, 1) := by decide +kernel
theorem k_law_1067_4 : sblk code [(1067, .aload_n 0, .null), (1068, .iload_n 3, .null), (1069, .iconst 2, .int 2), (1070, .iadd, .null)] := sblk_of (by decide +kernel)
theorem d_law_1071 : decode code 1071 = .ok (.iaload, 1) := by decide +kernel
theorem k_law_1072_4 : sblk code [(1072, .aload_n 0, .null), (1073, .iload_n 3, .null), (1074, .iconst 3, .int 3), (1075, .iadd, .null)] := sblk_of (by decide +kernel)
theorem d_law_1076 : decode code 1076 = .ok (.iaload, 1) := by decide +kernel
theorem d_law_1077 : decode code 1077 = .ok (.invokevirtual 117, 3) := by decide +kernel
theorem k_law_1080_2 : sblk code [(1080, .pop, .null), (1081, .goto 66, .retAddr 1147)] := sblk_of (by decide +kernel)
theorem k_law_1084_5 : sblk code [(1084, .aload_n 1, .null), (1085, .aload_n 0, .null), (1086, .iload_n 3, .null), (1087, .iconst 1, .int 1), (1088, .iadd, .null)] := sblk_of (by decide +kernel)
theorem d_law_1089 : decode code 1089 = .ok (.iaload, 1) := by decide +kernel
theorem k_law_1090_4 : sblk code [(1090, .aload_n 0, .null), (1091, .iload_n 3, .null), (1092, .iconst 2, .int 2), (1093, .iadd, .null)] := sblk_of (by decide +kernel)
theorem d_law_1094 : decode code 1094 = .ok (.iaload, 1) := by decide +kernel
theorem k_law_1095_4 : sblk code [(1095, .aload_n 0, .null), (1096, .iload_n 3, .null), (1097, .iconst 3, .int 3), (1098, .iadd, .null)] := sblk_of (by decide +kernel)
theorem d_law_1099 : decode code 1099 = .ok (.iaload, 1) := by decide +kernel
theorem k_law_1100_4 : sblk code [(1100, .aload_n 0, .null), (1101, .iload_n 3, .null), (1102, .iconst 4, .int 4), (1103, .iadd, .null)] := sblk_of (by decide +kernel)
theorem d_law_1104 : decode code 1104 = .ok (.iaload, 1) := by decide +kernel
theorem k_law_1105_4 : sblk code [(1105, .aload_n 0, .null), (1106, .iload_n 3, .null), (1107, .iconst 5, .int 5), (1108, .iadd, .null)] := sblk_of (by decide +kernel)
theorem d_law_1109 : decode code 1109 = .ok (.iaload, 1) := by decide +kernel
theorem d_law_1110 : decode code 1110 = .ok (.invokevirtual 118, 3) := by decide +kernel
theorem k_law_1113_6 : sblk code [(1113, .pop, .null), (1114, .aload_n 2, .null), (1115, .aload_n 0, .null), (1116, .iload_n 3, .null), (1117, .iconst 1, .int 1), (1118, .iadd, .null)] := sblk_of (by decide +kernel)
theorem d_law_1119 : decode code 1119 = .ok (.iaload, 1) := by decide +kernel
theorem k_law_1120_4 : sblk code [(1120, .aload_n 0, .null), (1121, .iload_n 3, .null), (1122, .iconst 2, .int 2), (1123, .iadd, .null)] := sblk_of (by decide +kernel)
theorem d_law_1124 : decode code 1124 = .ok (.iaload, 1) := by decide +kernel
theorem k_law_1125_4 : sblk code [(1125, .aload_n 0, .null), (1126, .iload_n 3, .null), (1127, .iconst 3, .int 3), (1128, .iadd, .null)] := sblk_of (by decide +kernel)
theorem d_law_1129 : decode code 1129 = .ok (.iaload, 1) := by decide +kernel
theorem k_law_1130_4 : sblk code [(1130, .aload_n 0, .null), (1131, .iload_n 3, .null), (1132, .iconst 4, .int 4), (1133, .iadd, .null)] := sblk_of (by decide +kernel)
theorem d_law_1134 : decode code 1134 = .ok (.iaload, 1) := by decide +kernel
theorem k_law_1135_4 : sblk code [(1135, .aload_n 0, .null), (1136, .iload_n 3, .null), (1137, .iconst 5, .int 5), (1138, .iadd, .null)] := sblk_of (by decide +kernel)
theorem d_law_1139 : decode code 1139 = .ok (.iaload, 1) := by decide +kernel
theorem d_law_1140 : decode code 1140 = .ok (.invokevirtual 122, 3) := by decide +kernel
theorem k_law_1143_2 : sblk code [(1143, .pop, .null), (1144, .goto 3, .retAddr 1147)] := sblk_of (by decide +kernel)
set_option maxHeartbeats 4000000 in
theorem lawc_0 {g : jG} {D : va_G} {b Ls i : Nat} {xs : Nat → Int32} {w : jW} {x m : Nat} (E : lawE g D b Ls xs) (hL : Ls ≤ 3584) (hi : i + 7 ≤ Ls) (H : lawI D w x m)
    (kk : ∀ w9 : jW, lawI D w9 x m → JJ g w9 1147 [(3, .int (nI i)), (2, .ref m), (1, .ref x), (0, .ref b)] []) : JJ g w 148 [(3, .int (nI i)), (2, .ref m), (1, .ref x), (0, .ref b)] [] := by
  obtain ⟨C, Rm, hX, hbl, -⟩ := E
  have Y : jY g (jGl g) (jGB g) (jGH g) (jGy g) := ⟨rfl, rfl, rfl, rfl⟩
  obtain ⟨G, ad, A, C0, ⟨hW, hb, hx⟩, ⟨hm, hT, hI, hS, rfl⟩, hd, hw, hR⟩ := H
  obtain ⟨V, hV, -⟩ := (tcell_O (τ := 8) rfl).mp (hW x 8 hx)
  refine j_blk 153 [(3, .int (nI i)), (2, .ref (ad 0 0)), (1, .ref x), (0, .ref b)] [.int ((nI i) + 1), .ref b, .ref x] C k_law_148_5 rfl ?_
  refine j_sld C hX hbl (i + 1) (li_c (c := 1) rfl (by omega)) (li_n (c := 1) rfl (by omega) hL) d_law_153 ?_
  refine j_blk 158 [(3, .int (nI i)), (2, .ref (ad 0 0)), (1, .ref x), (0, .ref b)] [.int ((nI i) + 2), .ref b, .int (xs (i + 1)), .ref x] C k_law_154_4 rfl ?_
  refine j_sld C hX hbl (i + 2) (li_c (c := 2) rfl (by omega)) (li_n (c := 2) rfl (by omega) hL) d_law_158 ?_
  refine j_blk 163 [(3, .int (nI i)), (2, .ref (ad 0 0)), (1, .ref x), (0, .ref b)] [.int ((nI i) + 3), .ref b, .int (xs (i + 2)), .int (xs (i + 1)), .ref x] C k_law_159_4 rfl ?_
  refine j_sld C hX hbl (i + 3) (li_c (c := 3) rfl (by omega)) (li_n (c := 3) rfl (by omega) hL) d_law_163 ?_
  refine j_blk 168 [(3, .int (nI i)), (2, .ref (ad 0 0)), (1, .ref x), (0, .ref b)] [.int ((nI i) + 4), .ref b, .int (xs (i + 3)), .int (xs (i + 2)), .int (xs (i + 1)), .ref x] C k_law_164_4 rfl ?_
  refine j_sld C hX hbl (i + 4) (li_c (c := 4) rfl (by omega)) (li_n (c := 4) rfl (by omega) hL) d_law_168 ?_
  refine j_blk 173 [(3, .int (nI i)), (2, .ref (ad 0 0)), (1, .ref x), (0, .ref b)] [.int ((nI i) + 5), .ref b, .int (xs (i + 4)), .int (xs (i + 3)), .int (xs (i + 2)), .int (xs (i + 1)), .ref x] C k_law_169_4 rfl ?_
  refine j_sld C hX hbl (i + 5) (li_c (c := 5) rfl (by omega)) (li_n (c := 5) rfl (by omega) hL) d_law_173 ?_
  refine j_blk 179 [(3, .int (nI i)), (2, .ref (ad 0 0)), (1, .ref x), (0, .ref b)] [.int ((nI i) + 6), .ref b, .int (xs (i + 5)), .int (xs (i + 4)), .int (xs (i + 3)), .int (xs (i + 2)), .int (xs (i + 1)), .ref x] C k_law_174_4 rfl ?_
  refine j_sld C hX hbl (i + 6) (li_c (c := 6) rfl (by omega)) (li_n (c := 6) rfl (by omega) hL) d_law_179 ?_
  have sat : tSat D G w (rhoL x [(xs (i + 1)), (xs (i + 2)), (xs (i + 3)), (xs (i + 4)), (xs (i + 5)), (xs (i + 6))]) (IE I_CS_feed) := law_sat hx rfl rfl
  have cT : jMet (jGl g) D (jGB g) (jGH g) y_CS_feed b_CS_feed 8 (some .int) 1 40 (KC - w.2.1) (KS - w.2.2) [.ref x, .int (xs (i + 1)), .int (xs (i + 2)), .int (xs (i + 3)), .int (xs (i + 4)), .int (xs (i + 5)), .int (xs (i + 6))] w (tEnd D I_CS_feed G w (rhoL x [(xs (i + 1)), (xs (i + 2)), (xs (i + 3)), (xs (i + 4)), (xs (i + 5)), (xs (i + 6))])) := tc_CS_feed (jGl g) D (jGB g) (jGH g) G w _ hW hb sat
  obtain ⟨z, B9, ⟨mc2, ms2, P2, q1, q2, cE, cK⟩, mF⟩ := b9_feed (ad := ad) (jGl g) (jGB g) (jGH g) (xs (i + 1)) (xs (i + 2)) (xs (i + 3)) (xs (i + 4)) (xs (i + 5)) (xs (i + 6)) hw hx hR hT hI hS
  have cM := jMet_both (fr := 1) (lo := 40) cT cE (by decide) (by decide) (by decide) (by decide) q1 q2
  refine j_callV C Rm Y [.int (xs (i + 1)), .int (xs (i + 2)), .int (xs (i + 3)), .int (xs (i + 4)), .int (xs (i + 5)), .int (xs (i + 6))] [] cM cl_Law_13 (by rfl) (by rfl) hV d_law_180 rfl rfl (Nat.le_of_ble_eq_true rfl) ⟨Nat.le_of_ble_eq_true rfl, Nat.le_of_ble_eq_true rfl⟩ (law_room hb) (fun v1 w1 p1 => ?_)
  obtain ⟨p1, w1b, p1b, hj1⟩ := p1
  obtain ⟨rfl, hq1⟩ := cK _ _ p1b
  obtain ⟨G1, C1, ⟨hW1, hb1, hx1⟩, hm1, hd1, hw1, hR1⟩ := face_cE hx hm hd p1 hj1 hq1
  show JJ g w1 183 [(3, .int (nI i)), (2, .ref (ad 0 0)), (1, .ref x), (0, .ref b)] [.int (Int32.ofInt z)]
  refine j_blk 189 [(3, .int (nI i)), (2, .ref (ad 0 0)), (1, .ref x), (0, .ref b)] [.int ((nI i) + 1), .ref b, .ref (ad 0 0)] C k_law_183_6 rfl ?_
  refine j_sld C hX hbl (i + 1) (li_c (c := 1) rfl (by omega)) (li_n (c := 1) rfl (by omega) hL) d_law_189 ?_
  refine j_blk 194 [(3, .int (nI i)), (2, .ref (ad 0 0)), (1, .ref x), (0, .ref b)] [.int ((nI i) + 2), .ref b, .int (xs (i + 1)), .ref (ad 0 0)] C k_law_190_4 rfl ?_
  refine j_sld C hX hbl (i + 2) (li_c (c := 2) rfl (by omega)) (li_n (c := 2) rfl (by omega) hL) d_law_194 ?_
  refine j_blk 199 [(3, .int (nI i)), (2, .ref (ad 0 0)), (1, .ref x), (0, .ref b)] [.int ((nI i) + 3), .ref b, .int (xs (i + 2)), .int (xs (i + 1)), .ref (ad 0 0)] C k_law_195_4 rfl ?_
  refine j_sld C hX hbl (i + 3) (li_c (c := 3) rfl (by omega)) (li_n (c := 3) rfl (by omega) hL) d_law_199 ?_
  refine j_blk 204 [(3, .int (nI i)), (2, .ref (ad 0 0)), (1, .ref x), (0, .ref b)] [.int ((nI i) + 4), .ref b, .int (xs (i + 3)), .int (xs (i + 2)), .int (xs (i + 1)), .ref (ad 0 0)] C k_law_200_4 rfl ?_
  refine j_sld C hX hbl (i + 4) (li_c (c := 4) rfl (by omega)) (li_n (c := 4) rfl (by omega) hL) d_law_204 ?_
  refine j_blk 209 [(3, .int (nI i)), (2, .ref (ad 0 0)), (1, .ref x), (0, .ref b)] [.int ((nI i) + 5), .ref b, .int (xs (i + 4)), .int (xs (i + 3)), .int (xs (i + 2)), .int (xs (i + 1)), .ref (ad 0 0)] C k_law_205_4 rfl ?_
  refine j_sld C hX hbl (i + 5) (li_c (c := 5) rfl (by omega)) (li_n (c := 5) rfl (by omega) hL) d_law_209 ?_
  refine j_blk 215 [(3, .int (nI i)), (2, .ref (ad 0 0)), (1, .ref x), (0, .ref b)] [.int ((nI i) + 6), .ref b, .int (xs (i + 5)), .int (xs (i + 4)), .int (xs (i + 3)), .int (xs (i + 2)), .int (xs (i + 1)), .ref (ad 0 0)] C k_law_210_4 rfl ?_
  refine j_sld C hX hbl (i + 6) (li_c (c := 6) rfl (by omega)) (li_n (c := 6) rfl (by omega) hL) d_law_215 ?_
  obtain ⟨Vm, hVm, -⟩ := (mcell_O rfl).mp (hm1.2 0 0 (by decide))
  obtain ⟨P3, qM, mK⟩ := mF w1 hm1
  refine j_callV C Rm Y [.int (xs (i + 1)), .int (xs (i + 2)), .int (xs (i + 3)), .int (xs (i + 4)), .int (xs (i + 5)), .int (xs (i + 6))] [] qM cl_Law_17 (by rfl) (by rfl) hVm d_law_216 rfl rfl (Nat.le_of_ble_eq_true rfl) ⟨Nat.le_of_ble_eq_true rfl, Nat.le_of_ble_eq_true rfl⟩ (law_room0 hb1) (fun v2 w2 p2 => ?_)
  obtain ⟨rfl, A9, hm9, hf9, hT9, hI9, hk9⟩ := mK _ _ p2
  have hR9 := hk9 C1 hR1
  obtain ⟨hW9, hb9⟩ := law_mE hW1 hb1 hd1 hm9 hf9
  have H9 : lawI D w2 x (ad 0 0) := ⟨G1, ad, A9, C1, ⟨hW9, hb9, hx1⟩, ⟨hm9, hT9, hI9, hS, rfl⟩, hd1, hw1.out hd1 hf9, hR9⟩
  show JJ g w2 219 [(3, .int (nI i)), (2, .ref (ad 0 0)), (1, .ref x), (0, .ref b)] [.int (Int32.ofInt z)]
  refine j_blk 1147 [(3, .int (nI i)), (2, .ref (ad 0 0)), (1, .ref x), (0, .ref b)] [] C k_law_219_2 rfl ?_
  exact kk w2 H9
set_option maxHeartbeats 4000000 in
theorem lawc_1 {g : jG} {D : va_G} {b Ls i : Nat} {xs : Nat → Int32} {w : jW} {x m : Nat} (E : lawE g D b Ls xs) (hL : Ls ≤ 3584) (hi : i + 7 ≤ Ls) (H : lawI D w x m)
    (kk : ∀ w9 : jW, lawI D w9 x m → JJ g w9 1147 [(3, .int (nI i)), (2, .ref m), (1, .ref x), (0, .ref b)] []) : JJ g w 223 [(3, .int (nI i)), (2, .ref m), (1, .ref x), (0, .ref b)] [] := by
  obtain ⟨C, Rm, hX, hbl, -⟩ := E
  have Y : jY g (jGl g) (jGB g) (jGH g) (jGy g) := ⟨rfl, rfl, rfl, rfl⟩
  obtain ⟨G, ad, A, C0, ⟨hW, hb, hx⟩, ⟨hm, hT, hI, hS, rfl⟩, hd, hw, hR⟩ := H
  obtain ⟨V, hV, -⟩ := (tcell_O (τ := 8) rfl).mp (hW x 8 hx)
  refine j_blk 224 [(3, .int (nI i)), (2, .ref (ad 0 0)), (1, .ref x), (0, .ref b)] [.ref x] C k_law_223_1 rfl ?_
  have sat : tSat D G w (rhoL x []) (IE I_CS_program) := law_sat hx rfl rfl
  have cT : jMet (jGl g) D (jGB g) (jGH g) y_CS_program b_CS_program 3 (some .int) 420 31000 (KC - w.2.1) (KS - w.2.2) [.ref x] w (tEnd D I_CS_program G w (rhoL x [])) := tc_CS_program (jGl g) D (jGB g) (jGH g) G w _ hW hb sat
  obtain ⟨z, B9, ⟨mc2, ms2, P2, q1, q2, cE, cK⟩, mF⟩ := b9_program (ad := ad) (jGl g) (jGB g) (jGH g) hW hb hw hx hR hT hI hS
  have cM := jMet_both (fr := 1860) (lo := 74100) cT cE (by decide) (by decide) (by decide) (by decide) q1 q2
  refine j_callV C Rm Y [] [] cM cl_Law_18 (by rfl) (by rfl) hV d_law_224 rfl rfl (Nat.le_of_ble_eq_true rfl) ⟨Nat.le_of_ble_eq_true rfl, Nat.le_of_ble_eq_true rfl⟩ (law_room hb) (fun v1 w1 p1 => ?_)
  obtain ⟨p1, w1b, p1b, hj1⟩ := p1
  obtain ⟨rfl, hq1⟩ := cK _ _ p1b
  obtain ⟨G1, C1, ⟨hW1, hb1, hx1⟩, hm1, hd1, hw1, hR1⟩ := face_cE hx hm hd p1 hj1 hq1
  show JJ g w1 227 [(3, .int (nI i)), (2, .ref (ad 0 0)), (1, .ref x), (0, .ref b)] [.int (Int32.ofInt z)]
  refine j_blk 229 [(3, .int (nI i)), (2, .ref (ad 0 0)), (1, .ref x), (0, .ref b)] [.ref (ad 0 0)] C k_law_227_2 rfl ?_
  obtain ⟨Vm, hVm, -⟩ := (mcell_O rfl).mp (hm1.2 0 0 (by decide))
  obtain ⟨P3, qM, mK⟩ := mF w1 hm1
  refine j_callV C Rm Y [] [] qM cl_Law_22 (by rfl) (by rfl) hVm d_law_229 rfl rfl (Nat.le_of_ble_eq_true rfl) ⟨Nat.le_of_ble_eq_true rfl, Nat.le_of_ble_eq_true rfl⟩ (law_room0 hb1) (fun v2 w2 p2 => ?_)
  obtain ⟨rfl, A9, hm9, hf9, hT9, hI9, hk9⟩ := mK _ _ p2
  have hR9 := hk9 C1 hR1
  obtain ⟨hW9, hb9⟩ := law_mE hW1 hb1 hd1 hm9 hf9
  have H9 : lawI D w2 x (ad 0 0) := ⟨G1, ad, A9, C1, ⟨hW9, hb9, hx1⟩, ⟨hm9, hT9, hI9, hS, rfl⟩, hd1, hw1.out hd1 hf9, hR9⟩
  show JJ g w2 232 [(3, .int (nI i)), (2, .ref (ad 0 0)), (1, .ref x), (0, .ref b)] [.int (Int32.ofInt z)]
  refine j_blk 1147 [(3, .int (nI i)), (2, .ref (ad 0 0)), (1, .ref x), (0, .ref b)] [] C k_law_232_2 rfl ?_
  exact kk w2 H9
set_option maxHeartbeats 4000000 in
theorem lawc_2 {g : jG} {D : va_G} {b Ls i : Nat} {xs : Nat → Int32} {w : jW} {x m : Nat} (E : lawE g D b Ls xs) (hL : Ls ≤ 3584) (hi : i + 7 ≤ Ls) (H : lawI D w x m)
    (kk : ∀ w9 : jW, lawI D w9 x m → JJ g w9 1147 [(3, .int (nI i)), (2, .ref m), (1, .ref x), (0, .ref b)] []) : JJ g w 236 [(3, .int (nI i)), (2, .ref m), (1, .ref x), (0, .ref b)] [] := by
  obtain ⟨C, Rm, hX, hbl, -⟩ := E
  have Y : jY g (jGl g) (jGB g) (jGH g) (jGy g) := ⟨rfl, rfl, rfl, rfl⟩
  obtain ⟨G, ad, A, C0, ⟨hW, hb, hx⟩, ⟨hm, hT, hI, hS, rfl⟩, hd, hw, hR⟩ := H
  obtain ⟨V, hV, -⟩ := (tcell_O (τ := 8) rfl).mp (hW x 8 hx)
  refine j_blk 241 [(3, .int (nI i)), (2, .ref (ad 0 0)), (1, .ref x), (0, .ref b)] [.int ((nI i) + 1), .ref b, .ref x] C k_law_236_5 rfl ?_
  refine j_sld C hX hbl (i + 1) (li_c (c := 1) rfl (by omega)) (li_n (c := 1) rfl (by omega) hL) d_law_241 ?_
  refine j_blk 246 [(3, .int (nI i)), (2, .ref (ad 0 0)), (1, .ref x), (0, .ref b)] [.int ((nI i) + 2), .ref b, .int (xs (i + 1)), .ref x] C k_law_242_4 rfl ?_
  refine j_sld C hX hbl (i + 2) (li_c (c := 2) rfl (by omega)) (li_n (c := 2) rfl (by omega) hL) d_law_246 ?_
  have sat : tSat D G w (rhoL x [(xs (i + 1)), (xs (i + 2))]) (IE I_CS_let) := law_sat hx rfl rfl
  have cT : jMet (jGl g) D (jGB g) (jGH g) y_CS_let b_CS_let 4 (some .int) 2 62 (KC - w.2.1) (KS - w.2.2) [.ref x, .int (xs (i + 1)), .int (xs (i + 2))] w (tEnd D I_CS_let G w (rhoL x [(xs (i + 1)), (xs (i + 2))])) := tc_CS_let (jGl g) D (jGB g) (jGH g) G w _ hW hb sat
  obtain ⟨z, B9, ⟨mc2, ms2, P2, q1, q2, cE, cK⟩, mF⟩ := b9_let (ad := ad) (jGl g) (jGB g) (jGH g) (xs (i + 1)) (xs (i + 2)) hw hx hR hT hI
  have cM := jMet_both (fr := 2) (lo := 62) cT cE (by decide) (by decide) (by decide) (by decide) q1 q2
  refine j_callV C Rm Y [.int (xs (i + 1)), .int (xs (i + 2))] [] cM cl_Law_23 (by rfl) (by rfl) hV d_law_247 rfl rfl (Nat.le_of_ble_eq_true rfl) ⟨Nat.le_of_ble_eq_true rfl, Nat.le_of_ble_eq_true rfl⟩ (law_room hb) (fun v1 w1 p1 => ?_)
  obtain ⟨p1, w1b, p1b, hj1⟩ := p1
  obtain ⟨rfl, hq1⟩ := cK _ _ p1b
  obtain ⟨G1, C1, ⟨hW1, hb1, hx1⟩, hm1, hd1, hw1, hR1⟩ := face_cE hx hm hd p1 hj1 hq1
  show JJ g w1 250 [(3, .int (nI i)), (2, .ref (ad 0 0)), (1, .ref x), (0, .ref b)] [.int (Int32.ofInt z)]
  refine j_blk 256 [(3, .int (nI i)), (2, .ref (ad 0 0)), (1, .ref x), (0, .ref b)] [.int ((nI i) + 1), .ref b, .ref (ad 0 0)] C k_law_250_6 rfl ?_
  refine j_sld C hX hbl (i + 1) (li_c (c := 1) rfl (by omega)) (li_n (c := 1) rfl (by omega) hL) d_law_256 ?_
  refine j_blk 261 [(3, .int (nI i)), (2, .ref (ad 0 0)), (1, .ref x), (0, .ref b)] [.int ((nI i) + 2), .ref b, .int (xs (i + 1)), .ref (ad 0 0)] C k_law_257_4 rfl ?_
  refine j_sld C hX hbl (i + 2) (li_c (c := 2) rfl (by omega)) (li_n (c := 2) rfl (by omega) hL) d_law_261 ?_
  obtain ⟨Vm, hVm, -⟩ := (mcell_O rfl).mp (hm1.2 0 0 (by decide))
  obtain ⟨P3, qM, mK⟩ := mF w1 hm1
  refine j_callV C Rm Y [.int (xs (i + 1)), .int (xs (i + 2))] [] qM cl_Law_27 (by rfl) (by rfl) hVm d_law_262 rfl rfl (Nat.le_of_ble_eq_true rfl) ⟨Nat.le_of_ble_eq_true rfl, Nat.le_of_ble_eq_true rfl⟩ (law_room0 hb1) (fun v2 w2 p2 => ?_)
  obtain ⟨rfl, A9, hm9, hf9, hT9, hI9, hk9⟩ := mK _ _ p2
  have hR9 := hk9 C1 hR1
  obtain ⟨hW9, hb9⟩ := law_mE hW1 hb1 hd1 hm9 hf9
  have H9 : lawI D w2 x (ad 0 0) := ⟨G1, ad, A9, C1, ⟨hW9, hb9, hx1⟩, ⟨hm9, hT9, hI9, hS, rfl⟩, hd1, hw1.out hd1 hf9, hR9⟩
  show JJ g w2 265 [(3, .int (nI i)), (2, .ref (ad 0 0)), (1, .ref x), (0, .ref b)] [.int (Int32.ofInt z)]
  refine j_blk 1147 [(3, .int (nI i)), (2, .ref (ad 0 0)), (1, .ref x), (0, .ref b)] [] C k_law_265_2 rfl ?_
  exact kk w2 H9
set_option maxHeartbeats 4000000 in
theorem lawc_3 {g : jG} {D : va_G} {b Ls i : Nat} {xs : Nat → Int32} {w : jW} {x m : Nat} (E : lawE g D b Ls xs) (hL : Ls ≤ 3584) (hi : i + 7 ≤ Ls) (H : lawI D w x m)
    (kk : ∀ w9 : jW, lawI D w9 x m → JJ g w9 1147 [(3, .int (nI i)), (2, .ref m), (1, .ref x), (0, .ref b)] []) : JJ g w 269 [(3, .int (nI i)), (2, .ref m), (1, .ref x), (0, .ref b)] [] := by
  obtain ⟨C, Rm, hX, hbl, -⟩ := E
  have Y : jY g (jGl g) (jGB g) (jGH g) (jGy g) := ⟨rfl, rfl, rfl, rfl⟩
  obtain ⟨G, ad, A, C0, ⟨hW, hb, hx⟩, ⟨hm, hT, hI, hS, rfl⟩, hd, hw, hR⟩ := H
  obtain ⟨V, hV, -⟩ := (tcell_O (τ := 8) rfl).mp (hW x 8 hx)
  refine j_blk 274 [(3, .int (nI i)), (2, .ref (ad 0 0)), (1, .ref x), (0, .ref b)] [.int ((nI i) + 1), .ref b, .ref x] C k_law_269_5 rfl ?_
  refine j_sld C hX hbl (i + 1) (li_c (c := 1) rfl (by omega)) (li_n (c := 1) rfl (by omega) hL) d_law_274 ?_
  refine j_blk 279 [(3, .int (nI i)), (2, .ref (ad 0 0)), (1, .ref x), (0, .ref b)] [.int ((nI i) + 2), .ref b, .int (xs (i + 1)), .ref x] C k_law_275_4 rfl ?_
  refine j_sld C hX hbl (i + 2) (li_c (c := 2) rfl (by omega)) (li_n (c := 2) rfl (by omega) hL) d_law_279 ?_
  have sat : tSat D G w (rhoL x [(xs (i + 1)), (xs (i + 2))]) (IE I_CS_told) := law_sat hx rfl rfl
  have cM : jMet (jGl g) D (jGB g) (jGH g) y_CS_told b_CS_told 5 (some .int) 221 6311 (KC - w.2.1) (KS - w.2.2) [.ref x, .int (xs (i + 1)), .int (xs (i + 2))] w (tEnd D I_CS_told G w (rhoL x [(xs (i + 1)), (xs (i + 2))])) := tc_CS_told (jGl g) D (jGB g) (jGH g) G w _ hW hb sat
  refine j_callV C Rm Y [.int (xs (i + 1)), .int (xs (i + 2))] [] cM cl_Law_28 (by rfl) (by rfl) hV d_law_280 rfl rfl (Nat.le_of_ble_eq_true rfl) ⟨Nat.le_of_ble_eq_true rfl, Nat.le_of_ble_eq_true rfl⟩ (law_room hb) (fun v1 w1 p1 => ?_)
  obtain ⟨z1, rfl⟩ := tEnd_I (by decide +kernel) p1
  obtain ⟨G1, C1, ⟨hW1, hb1, hx1⟩, hm1, hd1, hw1, hk1⟩ := law_tE (by decide +kernel) hx hw hm hd p1
  show JJ g w1 283 [(3, .int (nI i)), (2, .ref (ad 0 0)), (1, .ref x), (0, .ref b)] [.int z1]
  refine j_blk 289 [(3, .int (nI i)), (2, .ref (ad 0 0)), (1, .ref x), (0, .ref b)] [.int ((nI i) + 1), .ref b, .ref (ad 0 0)] C k_law_283_6 rfl ?_
  refine j_sld C hX hbl (i + 1) (li_c (c := 1) rfl (by omega)) (li_n (c := 1) rfl (by omega) hL) d_law_289 ?_
  refine j_blk 294 [(3, .int (nI i)), (2, .ref (ad 0 0)), (1, .ref x), (0, .ref b)] [.int ((nI i) + 2), .ref b, .int (xs (i + 1)), .ref (ad 0 0)] C k_law_290_4 rfl ?_
  refine j_sld C hX hbl (i + 2) (li_c (c := 2) rfl (by omega)) (li_n (c := 2) rfl (by omega) hL) d_law_294 ?_
  obtain ⟨Vm, hVm, -⟩ := (mcell_O rfl).mp (hm1.2 0 0 (by decide))
  have qM := q_told (jGl g) D (jGB g) (jGH g) ad A hT ((xs (i + 1))).toInt ((xs (i + 2))).toInt (ri _) (ri _) hI w1 hm1
  have eM : mSt ad [vr 0 0, vi ((xs (i + 1))).toInt, vi ((xs (i + 2))).toInt] = [.ref (ad 0 0), .int (xs (i + 1)), .int (xs (i + 2))] := by
    show [Value.ref (ad 0 0), mc ad (vi ((xs (i + 1))).toInt), mc ad (vi ((xs (i + 2))).toInt)] = _
    simp only [ms_i]
  rw [eM] at qM
  refine j_callV C Rm Y [.int (xs (i + 1)), .int (xs (i + 2))] [] qM cl_Law_31 (by rfl) (by rfl) hVm d_law_295 rfl rfl (Nat.le_of_ble_eq_true rfl) ⟨Nat.le_of_ble_eq_true rfl, Nat.le_of_ble_eq_true rfl⟩ (law_room0 hb1) (fun v2 w2 p2 => ?_)
  obtain ⟨v9, A9, rfl, ⟨z9, rfl, hT9, hE9, hz9, hI9⟩, hm9, hf9⟩ := p2
  have hR9 : R9 x C1 A9 := (R9.keepC hw hx hR hk1).M hE9 ⟨⟨rfl, rfl, rfl⟩, fun _ => rfl, fun _ => rfl, ⟨fun _ => rfl, fun _ => rfl, fun _ => rfl⟩, ⟨fun _ _ => rfl, fun _ _ => rfl, fun _ _ => rfl, fun _ _ => rfl, fun _ _ => rfl, fun _ _ => rfl, fun _ _ => rfl, fun _ _ => rfl, fun _ _ => rfl, fun _ _ => rfl, fun _ _ => rfl, fun _ _ => rfl, fun _ _ => rfl⟩⟩ (fun j => hE9 8 0 j rfl)
  obtain ⟨hW9, hb9⟩ := law_mE hW1 hb1 hd1 hm9 hf9
  have H9 : lawI D w2 x (ad 0 0) := ⟨G1, ad, A9, C1, ⟨hW9, hb9, hx1⟩, ⟨hm9, hT9, hI9, hS, rfl⟩, hd1, hw1.out hd1 hf9, hR9⟩
  show JJ g w2 298 [(3, .int (nI i)), (2, .ref (ad 0 0)), (1, .ref x), (0, .ref b)] [.int (Int32.ofInt z9)]
  refine j_blk 1147 [(3, .int (nI i)), (2, .ref (ad 0 0)), (1, .ref x), (0, .ref b)] [] C k_law_298_2 rfl ?_
  exact kk w2 H9
set_option maxHeartbeats 4000000 in
theorem lawc_4 {g : jG} {D : va_G} {b Ls i : Nat} {xs : Nat → Int32} {w : jW} {x m : Nat} (E : lawE g D b Ls xs) (hL : Ls ≤ 3584) (hi : i + 7 ≤ Ls) (H : lawI D w x m)
    (kk : ∀ w9 : jW, lawI D w9 x m → JJ g w9 1147 [(3, .int (nI i)), (2, .ref m), (1, .ref x), (0, .ref b)] []) : JJ g w 302 [(3, .int (nI i)), (2, .ref m), (1, .ref x), (0, .ref b)] [] := by
  obtain ⟨C, Rm, hX, hbl, -⟩ := E
  have Y : jY g (jGl g) (jGB g) (jGH g) (jGy g) := ⟨rfl, rfl, rfl, rfl⟩
  obtain ⟨G, ad, A, C0, ⟨hW, hb, hx⟩, ⟨hm, hT, hI, hS, rfl⟩, hd, hw, hR⟩ := H
  obtain ⟨V, hV, -⟩ := (tcell_O (τ := 8) rfl).mp (hW x 8 hx)
  refine j_blk 307 [(3, .int (nI i)), (2, .ref (ad 0 0)), (1, .ref x), (0, .ref b)] [.int ((nI i) + 1), .ref b, .ref x] C k_law_302_5 rfl ?_
  refine j_sld C hX hbl (i + 1) (li_c (c := 1) rfl (by omega)) (li_n (c := 1) rfl (by omega) hL) d_law_307 ?_
  refine j_blk 312 [(3, .int (nI i)), (2, .ref (ad 0 0)), (1, .ref x), (0, .ref b)] [.int ((nI i) + 2), .ref b, .int (xs (i + 1)), .ref x] C k_law_308_4 rfl ?_
  refine j_sld C hX hbl (i + 2) (li_c (c := 2) rfl (by omega)) (li_n (c := 2) rfl (by omega) hL) d_law_312 ?_
  refine j_blk 317 [(3, .int (nI i)), (2, .ref (ad 0 0)), (1, .ref x), (0, .ref b)] [.int ((nI i) + 3), .ref b, .int (xs (i + 2)), .int (xs (i + 1)), .ref x] C k_law_313_4 rfl ?_
  refine j_sld C hX hbl (i + 3) (li_c (c := 3) rfl (by omega)) (li_n (c := 3) rfl (by omega) hL) d_law_317 ?_
  have sat : tSat D G w (rhoL x [(xs (i + 1)), (xs (i + 2)), (xs (i + 3))]) (IE I_CS_step) := law_sat hx rfl rfl
  have cT : jMet (jGl g) D (jGB g) (jGH g) y_CS_step b_CS_step 5 (some .int) 1 21 (KC - w.2.1) (KS - w.2.2) [.ref x, .int (xs (i + 1)), .int (xs (i + 2)), .int (xs (i + 3))] w (tEnd D I_CS_step G w (rhoL x [(xs (i + 1)), (xs (i + 2)), (xs (i + 3))])) := tc_CS_step (jGl g) D (jGB g) (jGH g) G w _ hW hb sat
  obtain ⟨z, B9, ⟨mc2, ms2, P2, q1, q2, cE, cK⟩, mF⟩ := b9_step (ad := ad) (jGl g) (jGB g) (jGH g) (xs (i + 1)) (xs (i + 2)) (xs (i + 3)) hw hx hR hT hI hS
  have cM := jMet_both (fr := 1) (lo := 21) cT cE (by decide) (by decide) (by decide) (by decide) q1 q2
  refine j_callV C Rm Y [.int (xs (i + 1)), .int (xs (i + 2)), .int (xs (i + 3))] [] cM cl_Law_32 (by rfl) (by rfl) hV d_law_318 rfl rfl (Nat.le_of_ble_eq_true rfl) ⟨Nat.le_of_ble_eq_true rfl, Nat.le_of_ble_eq_true rfl⟩ (law_room hb) (fun v1 w1 p1 => ?_)
  obtain ⟨p1, w1b, p1b, hj1⟩ := p1
  obtain ⟨rfl, hq1⟩ := cK _ _ p1b
  obtain ⟨G1, C1, ⟨hW1, hb1, hx1⟩, hm1, hd1, hw1, hR1⟩ := face_cE hx hm hd p1 hj1 hq1
  show JJ g w1 321 [(3, .int (nI i)), (2, .ref (ad 0 0)), (1, .ref x), (0, .ref b)] [.int (Int32.ofInt z)]
  refine j_blk 326 [(3, .int (nI i)), (2, .ref (ad 0 0)), (1, .ref x), (0, .ref b)] [.int ((nI i) + 1), .ref b, .ref (ad 0 0), .int (Int32.ofInt z)] C k_law_321_5 rfl ?_
  refine j_sld C hX hbl (i + 1) (li_c (c := 1) rfl (by omega)) (li_n (c := 1) rfl (by omega) hL) d_law_326 ?_
  refine j_blk 331 [(3, .int (nI i)), (2, .ref (ad 0 0)), (1, .ref x), (0, .ref b)] [.int ((nI i) + 2), .ref b, .int (xs (i + 1)), .ref (ad 0 0), .int (Int32.ofInt z)] C k_law_327_4 rfl ?_
  refine j_sld C hX hbl (i + 2) (li_c (c := 2) rfl (by omega)) (li_n (c := 2) rfl (by omega) hL) d_law_331 ?_
  refine j_blk 336 [(3, .int (nI i)), (2, .ref (ad 0 0)), (1, .ref x), (0, .ref b)] [.int ((nI i) + 3), .ref b, .int (xs (i + 2)), .int (xs (i + 1)), .ref (ad 0 0), .int (Int32.ofInt z)] C k_law_332_4 rfl ?_
  refine j_sld C hX hbl (i + 3) (li_c (c := 3) rfl (by omega)) (li_n (c := 3) rfl (by omega) hL) d_law_336 ?_
  obtain ⟨Vm, hVm, -⟩ := (mcell_O rfl).mp (hm1.2 0 0 (by decide))
  obtain ⟨P3, qM, mK⟩ := mF w1 hm1
  refine j_callV C Rm Y [.int (xs (i + 1)), .int (xs (i + 2)), .int (xs (i + 3))] [.int (Int32.ofInt z)] qM cl_Law_36 (by rfl) (by rfl) hVm d_law_337 rfl rfl (Nat.le_of_ble_eq_true rfl) ⟨Nat.le_of_ble_eq_true rfl, Nat.le_of_ble_eq_true rfl⟩ (law_room0 hb1) (fun v2 w2 p2 => ?_)
  obtain ⟨rfl, A9, hm9, hf9, hT9, hI9, hk9⟩ := mK _ _ p2
  have hR9 := hk9 C1 hR1
  obtain ⟨hW9, hb9⟩ := law_mE hW1 hb1 hd1 hm9 hf9
  have H9 : lawI D w2 x (ad 0 0) := ⟨G1, ad, A9, C1, ⟨hW9, hb9, hx1⟩, ⟨hm9, hT9, hI9, hS, rfl⟩, hd1, hw1.out hd1 hf9, hR9⟩
  show JJ g w2 340 [(3, .int (nI i)), (2, .ref (ad 0 0)), (1, .ref x), (0, .ref b)] [.int (Int32.ofInt z), .int (Int32.ofInt z)]
  refine j_icmp_eq (tgt := 1147) C d_law_340 (by decide) (fun c1 => ?_) (fun c1 => absurd rfl c1)
  exact kk w2 H9
set_option maxHeartbeats 4000000 in
theorem lawc_5 {g : jG} {D : va_G} {b Ls i : Nat} {xs : Nat → Int32} {w : jW} {x m : Nat} (E : lawE g D b Ls xs) (hL : Ls ≤ 3584) (hi : i + 7 ≤ Ls) (H : lawI D w x m)
    (kk : ∀ w9 : jW, lawI D w9 x m → JJ g w9 1147 [(3, .int (nI i)), (2, .ref m), (1, .ref x), (0, .ref b)] []) : JJ g w 345 [(3, .int (nI i)), (2, .ref m), (1, .ref x), (0, .ref b)] [] := by
  obtain ⟨C, Rm, hX, hbl, -⟩ := E
  have Y : jY g (jGl g) (jGB g) (jGH g) (jGy g) := ⟨rfl, rfl, rfl, rfl⟩
  obtain ⟨G, ad, A, C0, ⟨hW, hb, hx⟩, ⟨hm, hT, hI, hS, rfl⟩, hd, hw, hR⟩ := H
  obtain ⟨V, hV, -⟩ := (tcell_O (τ := 8) rfl).mp (hW x 8 hx)
  refine j_blk 350 [(3, .int (nI i)), (2, .ref (ad 0 0)), (1, .ref x), (0, .ref b)] [.int ((nI i) + 1), .ref b, .ref x] C k_law_345_5 rfl ?_
  refine j_sld C hX hbl (i + 1) (li_c (c := 1) rfl (by omega)) (li_n (c := 1) rfl (by omega) hL) d_law_350 ?_
  refine j_blk 355 [(3, .int (nI i)), (2, .ref (ad 0 0)), (1, .ref x), (0, .ref b)] [.int ((nI i) + 2), .ref b, .int (xs (i + 1)), .ref x] C k_law_351_4 rfl ?_
  refine j_sld C hX hbl (i + 2) (li_c (c := 2) rfl (by omega)) (li_n (c := 2) rfl (by omega) hL) d_law_355 ?_
  refine j_blk 360 [(3, .int (nI i)), (2, .ref (ad 0 0)), (1, .ref x), (0, .ref b)] [.int ((nI i) + 3), .ref b, .int (xs (i + 2)), .int (xs (i + 1)), .ref x] C k_law_356_4 rfl ?_
  refine j_sld C hX hbl (i + 3) (li_c (c := 3) rfl (by omega)) (li_n (c := 3) rfl (by omega) hL) d_law_360 ?_
  have sat : tSat D G w (rhoL x [(xs (i + 1)), (xs (i + 2)), (xs (i + 3))]) (IE I_CS_taken) := law_sat hx rfl rfl
  have cM : jMet (jGl g) D (jGB g) (jGH g) y_CS_taken b_CS_taken 5 (some .int) 1 40 (KC - w.2.1) (KS - w.2.2) [.ref x, .int (xs (i + 1)), .int (xs (i + 2)), .int (xs (i + 3))] w (tEnd D I_CS_taken G w (rhoL x [(xs (i + 1)), (xs (i + 2)), (xs (i + 3))])) := tc_CS_taken (jGl g) D (jGB g) (jGH g) G w _ hW hb sat
  refine j_callV C Rm Y [.int (xs (i + 1)), .int (xs (i + 2)), .int (xs (i + 3))] [] cM cl_Law_37 (by rfl) (by rfl) hV d_law_361 rfl rfl (Nat.le_of_ble_eq_true rfl) ⟨Nat.le_of_ble_eq_true rfl, Nat.le_of_ble_eq_true rfl⟩ (law_room hb) (fun v1 w1 p1 => ?_)
  obtain ⟨z1, rfl⟩ := tEnd_I (by decide +kernel) p1
  obtain ⟨G1, C1, ⟨hW1, hb1, hx1⟩, hm1, hd1, hw1, hk1⟩ := law_tE (by decide +kernel) hx hw hm hd p1
  show JJ g w1 364 [(3, .int (nI i)), (2, .ref (ad 0 0)), (1, .ref x), (0, .ref b)] [.int z1]
  refine j_blk 370 [(3, .int (nI i)), (2, .ref (ad 0 0)), (1, .ref x), (0, .ref b)] [.int ((nI i) + 1), .ref b, .ref (ad 0 0)] C k_law_364_6 rfl ?_
  refine j_sld C hX hbl (i + 1) (li_c (c := 1) rfl (by omega)) (li_n (c := 1) rfl (by omega) hL) d_law_370 ?_
  refine j_blk 375 [(3, .int (nI i)), (2, .ref (ad 0 0)), (1, .ref x), (0, .ref b)] [.int ((nI i) + 2), .ref b, .int (xs (i + 1)), .ref (ad 0 0)] C k_law_371_4 rfl ?_
  refine j_sld C hX hbl (i + 2) (li_c (c := 2) rfl (by omega)) (li_n (c := 2) rfl (by omega) hL) d_law_375 ?_
  refine j_blk 380 [(3, .int (nI i)), (2, .ref (ad 0 0)), (1, .ref x), (0, .ref b)] [.int ((nI i) + 3), .ref b, .int (xs (i + 2)), .int (xs (i + 1)), .ref (ad 0 0)] C k_law_376_4 rfl ?_
  refine j_sld C hX hbl (i + 3) (li_c (c := 3) rfl (by omega)) (li_n (c := 3) rfl (by omega) hL) d_law_380 ?_
  obtain ⟨Vm, hVm, -⟩ := (mcell_O rfl).mp (hm1.2 0 0 (by decide))
  have qM := q_takenF (jGl g) D (jGB g) (jGH g) ad A hT ((xs (i + 1))).toInt ((xs (i + 2))).toInt ((xs (i + 3))).toInt (ri _) (ri _) (ri _) hI w1 hm1
  have eM : mSt ad [vr 0 0, vi ((xs (i + 1))).toInt, vi ((xs (i + 2))).toInt, vi ((xs (i + 3))).toInt] = [.ref (ad 0 0), .int (xs (i + 1)), .int (xs (i + 2)), .int (xs (i + 3))] := by
    show [Value.ref (ad 0 0), mc ad (vi ((xs (i + 1))).toInt), mc ad (vi ((xs (i + 2))).toInt), mc ad (vi ((xs (i + 3))).toInt)] = _
    simp only [ms_i]
  rw [eM] at qM
  refine j_callV C Rm Y [.int (xs (i + 1)), .int (xs (i + 2)), .int (xs (i + 3))] [] qM cl_Law_40 (by rfl) (by rfl) hVm d_law_381 rfl rfl (Nat.le_of_ble_eq_true rfl) ⟨Nat.le_of_ble_eq_true rfl, Nat.le_of_ble_eq_true rfl⟩ (law_room0 hb1) (fun v2 w2 p2 => ?_)
  obtain ⟨v9, A9, rfl, ⟨z9, rfl, hT9, hE9, hz9, hI9⟩, hm9, hf9⟩ := p2
  have hR9 : R9 x C1 A9 := (R9.keepC hw hx hR hk1).M hE9 ⟨⟨rfl, rfl, rfl⟩, fun _ => rfl, fun _ => rfl, ⟨fun _ => rfl, fun _ => rfl, fun _ => rfl⟩, ⟨fun _ _ => rfl, fun _ _ => rfl, fun _ _ => rfl, fun _ _ => rfl, fun _ _ => rfl, fun _ _ => rfl, fun _ _ => rfl, fun _ _ => rfl, fun _ _ => rfl, fun _ _ => rfl, fun _ _ => rfl, fun _ _ => rfl, fun _ _ => rfl⟩⟩ (fun j => hE9 8 0 j rfl)
  obtain ⟨hW9, hb9⟩ := law_mE hW1 hb1 hd1 hm9 hf9
  have H9 : lawI D w2 x (ad 0 0) := ⟨G1, ad, A9, C1, ⟨hW9, hb9, hx1⟩, ⟨hm9, hT9, hI9, hS, rfl⟩, hd1, hw1.out hd1 hf9, hR9⟩
  show JJ g w2 384 [(3, .int (nI i)), (2, .ref (ad 0 0)), (1, .ref x), (0, .ref b)] [.int (Int32.ofInt z9)]
  refine j_blk 1147 [(3, .int (nI i)), (2, .ref (ad 0 0)), (1, .ref x), (0, .ref b)] [] C k_law_384_2 rfl ?_
  exact kk w2 H9
set_option maxHeartbeats 4000000 in
theorem lawc_6 {g : jG} {D : va_G} {b Ls i : Nat} {xs : Nat → Int32} {w : jW} {x m : Nat} (E : lawE g D b Ls xs) (hL : Ls ≤ 3584) (hi : i + 7 ≤ Ls) (H : lawI D w x m)
    (kk : ∀ w9 : jW, lawI D w9 x m → JJ g w9 1147 [(3, .int (nI i)), (2, .ref m), (1, .ref x), (0, .ref b)] []) : JJ g w 388 [(3, .int (nI i)), (2, .ref m), (1, .ref x), (0, .ref b)] [] := by
  obtain ⟨C, Rm, hX, hbl, -⟩ := E
  have Y : jY g (jGl g) (jGB g) (jGH g) (jGy g) := ⟨rfl, rfl, rfl, rfl⟩
  obtain ⟨G, ad, A, C0, ⟨hW, hb, hx⟩, ⟨hm, hT, hI, hS, rfl⟩, hd, hw, hR⟩ := H
  obtain ⟨V, hV, -⟩ := (tcell_O (τ := 8) rfl).mp (hW x 8 hx)
  refine j_blk 393 [(3, .int (nI i)), (2, .ref (ad 0 0)), (1, .ref x), (0, .ref b)] [.int ((nI i) + 1), .ref b, .ref x] C k_law_388_5 rfl ?_
  refine j_sld C hX hbl (i + 1) (li_c (c := 1) rfl (by omega)) (li_n (c := 1) rfl (by omega) hL) d_law_393 ?_
  refine j_blk 398 [(3, .int (nI i)), (2, .ref (ad 0 0)), (1, .ref x), (0, .ref b)] [.int ((nI i) + 2), .ref b, .int (xs (i + 1)), .ref x] C k_law_394_4 rfl ?_
  refine j_sld C hX hbl (i + 2) (li_c (c := 2) rfl (by omega)) (li_n (c := 2) rfl (by omega) hL) d_law_398 ?_
  have sat : tSat D G w (rhoL x [(xs (i + 1)), (xs (i + 2))]) (IE I_CS_left) := law_sat hx rfl rfl
  have cM : jMet (jGl g) D (jGB g) (jGH g) y_CS_left b_CS_left 4 (some .long) 221 6311 (KC - w.2.1) (KS - w.2.2) [.ref x, .int (xs (i + 1)), .int (xs (i + 2))] w (tEnd D I_CS_left G w (rhoL x [(xs (i + 1)), (xs (i + 2))])) := tc_CS_left (jGl g) D (jGB g) (jGH g) G w _ hW hb sat
  refine j_callV C Rm Y [.int (xs (i + 1)), .int (xs (i + 2))] [] cM cl_Law_41 (by rfl) (by rfl) hV d_law_399 rfl rfl (Nat.le_of_ble_eq_true rfl) ⟨Nat.le_of_ble_eq_true rfl, Nat.le_of_ble_eq_true rfl⟩ (law_room hb) (fun v1 w1 p1 => ?_)
  obtain ⟨z1, rfl⟩ := tEnd_J (by decide +kernel) p1
  obtain ⟨G1, C1, ⟨hW1, hb1, hx1⟩, hm1, hd1, hw1, hk1⟩ := law_tE (by decide +kernel) hx hw hm hd p1
  show JJ g w1 402 [(3, .int (nI i)), (2, .ref (ad 0 0)), (1, .ref x), (0, .ref b)] [.long z1]
  refine j_blk 408 [(3, .int (nI i)), (2, .ref (ad 0 0)), (1, .ref x), (0, .ref b)] [.int ((nI i) + 1), .ref b, .ref (ad 0 0)] C k_law_402_6 rfl ?_
  refine j_sld C hX hbl (i + 1) (li_c (c := 1) rfl (by omega)) (li_n (c := 1) rfl (by omega) hL) d_law_408 ?_
  refine j_blk 413 [(3, .int (nI i)), (2, .ref (ad 0 0)), (1, .ref x), (0, .ref b)] [.int ((nI i) + 2), .ref b, .int (xs (i + 1)), .ref (ad 0 0)] C k_law_409_4 rfl ?_
  refine j_sld C hX hbl (i + 2) (li_c (c := 2) rfl (by omega)) (li_n (c := 2) rfl (by omega) hL) d_law_413 ?_
  obtain ⟨Vm, hVm, -⟩ := (mcell_O rfl).mp (hm1.2 0 0 (by decide))
  have qM := q_left (jGl g) D (jGB g) (jGH g) ad A hT ((xs (i + 1))).toInt ((xs (i + 2))).toInt (ri _) (ri _) hI w1 hm1
  have eM : mSt ad [vr 0 0, vi ((xs (i + 1))).toInt, vi ((xs (i + 2))).toInt] = [.ref (ad 0 0), .int (xs (i + 1)), .int (xs (i + 2))] := by
    show [Value.ref (ad 0 0), mc ad (vi ((xs (i + 1))).toInt), mc ad (vi ((xs (i + 2))).toInt)] = _
    simp only [ms_i]
  rw [eM] at qM
  refine j_callV C Rm Y [.int (xs (i + 1)), .int (xs (i + 2))] [] qM cl_Law_45 (by rfl) (by rfl) hVm d_law_414 rfl rfl (Nat.le_of_ble_eq_true rfl) ⟨Nat.le_of_ble_eq_true rfl, Nat.le_of_ble_eq_true rfl⟩ (law_room0 hb1) (fun v2 w2 p2 => ?_)
  obtain ⟨v9, A9, rfl, ⟨z9, rfl, hT9, hE9, hI9⟩, hm9, hf9⟩ := p2
  have hR9 : R9 x C1 A9 := (R9.keepC hw hx hR hk1).M hE9 ⟨⟨rfl, rfl, rfl⟩, fun _ => rfl, fun _ => rfl, ⟨fun _ => rfl, fun _ => rfl, fun _ => rfl⟩, ⟨fun _ _ => rfl, fun _ _ => rfl, fun _ _ => rfl, fun _ _ => rfl, fun _ _ => rfl, fun _ _ => rfl, fun _ _ => rfl, fun _ _ => rfl, fun _ _ => rfl, fun _ _ => rfl, fun _ _ => rfl, fun _ _ => rfl, fun _ _ => rfl⟩⟩ (fun j => hE9 8 0 j rfl)
  obtain ⟨hW9, hb9⟩ := law_mE hW1 hb1 hd1 hm9 hf9
  have H9 : lawI D w2 x (ad 0 0) := ⟨G1, ad, A9, C1, ⟨hW9, hb9, hx1⟩, ⟨hm9, hT9, hI9, hS, rfl⟩, hd1, hw1.out hd1 hf9, hR9⟩
  show JJ g w2 417 [(3, .int (nI i)), (2, .ref (ad 0 0)), (1, .ref x), (0, .ref b)] [.long (Int64.ofInt z9)]
  refine j_blk 1147 [(3, .int (nI i)), (2, .ref (ad 0 0)), (1, .ref x), (0, .ref b)] [] C k_law_417_2 rfl ?_
  exact kk w2 H9
set_option maxHeartbeats 4000000 in
theorem lawc_7 {g : jG} {D : va_G} {b Ls i : Nat} {xs : Nat → Int32} {w : jW} {x m : Nat} (E : lawE g D b Ls xs) (hL : Ls ≤ 3584) (hi : i + 7 ≤ Ls) (H : lawI D w x m)
    (kk : ∀ w9 : jW, lawI D w9 x m → JJ g w9 1147 [(3, .int (nI i)), (2, .ref m), (1, .ref x), (0, .ref b)] []) : JJ g w 421 [(3, .int (nI i)), (2, .ref m), (1, .ref x), (0, .ref b)] [] := by
  obtain ⟨C, Rm, hX, hbl, -⟩ := E
  have Y : jY g (jGl g) (jGB g) (jGH g) (jGy g) := ⟨rfl, rfl, rfl, rfl⟩
  obtain ⟨G, ad, A, C0, ⟨hW, hb, hx⟩, ⟨hm, hT, hI, hS, rfl⟩, hd, hw, hR⟩ := H
  obtain ⟨V, hV, -⟩ := (tcell_O (τ := 8) rfl).mp (hW x 8 hx)
  refine j_blk 426 [(3, .int (nI i)), (2, .ref (ad 0 0)), (1, .ref x), (0, .ref b)] [.int ((nI i) + 1), .ref b, .ref x] C k_law_421_5 rfl ?_
  refine j_sld C hX hbl (i + 1) (li_c (c := 1) rfl (by omega)) (li_n (c := 1) rfl (by omega) hL) d_law_426 ?_
  refine j_blk 431 [(3, .int (nI i)), (2, .ref (ad 0 0)), (1, .ref x), (0, .ref b)] [.int ((nI i) + 2), .ref b, .int (xs (i + 1)), .ref x] C k_law_427_4 rfl ?_
  refine j_sld C hX hbl (i + 2) (li_c (c := 2) rfl (by omega)) (li_n (c := 2) rfl (by omega) hL) d_law_431 ?_
  refine j_blk 436 [(3, .int (nI i)), (2, .ref (ad 0 0)), (1, .ref x), (0, .ref b)] [.int ((nI i) + 3), .ref b, .int (xs (i + 2)), .int (xs (i + 1)), .ref x] C k_law_432_4 rfl ?_
  refine j_sld C hX hbl (i + 3) (li_c (c := 3) rfl (by omega)) (li_n (c := 3) rfl (by omega) hL) d_law_436 ?_
  refine j_blk 441 [(3, .int (nI i)), (2, .ref (ad 0 0)), (1, .ref x), (0, .ref b)] [.int ((nI i) + 4), .ref b, .int (xs (i + 3)), .int (xs (i + 2)), .int (xs (i + 1)), .ref x] C k_law_437_4 rfl ?_
  refine j_sld C hX hbl (i + 4) (li_c (c := 4) rfl (by omega)) (li_n (c := 4) rfl (by omega) hL) d_law_441 ?_
  have sat : tSat D G w (rhoL x [(xs (i + 1)), (xs (i + 2)), (xs (i + 3)), (xs (i + 4))]) (IE I_CS_odds) := law_sat hx rfl rfl
  have cM : jMet (jGl g) D (jGB g) (jGH g) y_CS_odds b_CS_odds 6 (some .long) 221 6311 (KC - w.2.1) (KS - w.2.2) [.ref x, .int (xs (i + 1)), .int (xs (i + 2)), .int (xs (i + 3)), .int (xs (i + 4))] w (tEnd D I_CS_odds G w (rhoL x [(xs (i + 1)), (xs (i + 2)), (xs (i + 3)), (xs (i + 4))])) := tc_CS_odds (jGl g) D (jGB g) (jGH g) G w _ hW hb sat
  refine j_callV C Rm Y [.int (xs (i + 1)), .int (xs (i + 2)), .int (xs (i + 3)), .int (xs (i + 4))] [] cM cl_Law_46 (by rfl) (by rfl) hV d_law_442 rfl rfl (Nat.le_of_ble_eq_true rfl) ⟨Nat.le_of_ble_eq_true rfl, Nat.le_of_ble_eq_true rfl⟩ (law_room hb) (fun v1 w1 p1 => ?_)
  obtain ⟨z1, rfl⟩ := tEnd_J (by decide +kernel) p1
  obtain ⟨G1, C1, ⟨hW1, hb1, hx1⟩, hm1, hd1, hw1, hk1⟩ := law_tE (by decide +kernel) hx hw hm hd p1
  show JJ g w1 445 [(3, .int (nI i)), (2, .ref (ad 0 0)), (1, .ref x), (0, .ref b)] [.long z1]
  refine j_blk 451 [(3, .int (nI i)), (2, .ref (ad 0 0)), (1, .ref x), (0, .ref b)] [.int ((nI i) + 1), .ref b, .ref (ad 0 0)] C k_law_445_6 rfl ?_
  refine j_sld C hX hbl (i + 1) (li_c (c := 1) rfl (by omega)) (li_n (c := 1) rfl (by omega) hL) d_law_451 ?_
  refine j_blk 456 [(3, .int (nI i)), (2, .ref (ad 0 0)), (1, .ref x), (0, .ref b)] [.int ((nI i) + 2), .ref b, .int (xs (i + 1)), .ref (ad 0 0)] C k_law_452_4 rfl ?_
  refine j_sld C hX hbl (i + 2) (li_c (c := 2) rfl (by omega)) (li_n (c := 2) rfl (by omega) hL) d_law_456 ?_
  refine j_blk 461 [(3, .int (nI i)), (2, .ref (ad 0 0)), (1, .ref x), (0, .ref b)] [.int ((nI i) + 3), .ref b, .int (xs (i + 2)), .int (xs (i + 1)), .ref (ad 0 0)] C k_law_457_4 rfl ?_
  refine j_sld C hX hbl (i + 3) (li_c (c := 3) rfl (by omega)) (li_n (c := 3) rfl (by omega) hL) d_law_461 ?_
  refine j_blk 466 [(3, .int (nI i)), (2, .ref (ad 0 0)), (1, .ref x), (0, .ref b)] [.int ((nI i) + 4), .ref b, .int (xs (i + 3)), .int (xs (i + 2)), .int (xs (i + 1)), .ref (ad 0 0)] C k_law_462_4 rfl ?_
  refine j_sld C hX hbl (i + 4) (li_c (c := 4) rfl (by omega)) (li_n (c := 4) rfl (by omega) hL) d_law_466 ?_
  obtain ⟨Vm, hVm, -⟩ := (mcell_O rfl).mp (hm1.2 0 0 (by decide))
  have qM := q_oddsF (jGl g) D (jGB g) (jGH g) ad A hT ((xs (i + 1))).toInt ((xs (i + 2))).toInt ((xs (i + 3))).toInt ((xs (i + 4))).toInt (ri _) (ri _) (ri _) (ri _) hI w1 hm1
  have eM : mSt ad [vr 0 0, vi ((xs (i + 1))).toInt, vi ((xs (i + 2))).toInt, vi ((xs (i + 3))).toInt, vi ((xs (i + 4))).toInt] = [.ref (ad 0 0), .int (xs (i + 1)), .int (xs (i + 2)), .int (xs (i + 3)), .int (xs (i + 4))] := by
    show [Value.ref (ad 0 0), mc ad (vi ((xs (i + 1))).toInt), mc ad (vi ((xs (i + 2))).toInt), mc ad (vi ((xs (i + 3))).toInt), mc ad (vi ((xs (i + 4))).toInt)] = _
    simp only [ms_i]
  rw [eM] at qM
  refine j_callV C Rm Y [.int (xs (i + 1)), .int (xs (i + 2)), .int (xs (i + 3)), .int (xs (i + 4))] [] qM cl_Law_50 (by rfl) (by rfl) hVm d_law_467 rfl rfl (Nat.le_of_ble_eq_true rfl) ⟨Nat.le_of_ble_eq_true rfl, Nat.le_of_ble_eq_true rfl⟩ (law_room0 hb1) (fun v2 w2 p2 => ?_)
  obtain ⟨v9, A9, rfl, ⟨z9, rfl, hT9, hE9, hI9⟩, hm9, hf9⟩ := p2
  have hR9 : R9 x C1 A9 := (R9.keepC hw hx hR hk1).M hE9 ⟨⟨rfl, rfl, rfl⟩, fun _ => rfl, fun _ => rfl, ⟨fun _ => rfl, fun _ => rfl, fun _ => rfl⟩, ⟨fun _ _ => rfl, fun _ _ => rfl, fun _ _ => rfl, fun _ _ => rfl, fun _ _ => rfl, fun _ _ => rfl, fun _ _ => rfl, fun _ _ => rfl, fun _ _ => rfl, fun _ _ => rfl, fun _ _ => rfl, fun _ _ => rfl, fun _ _ => rfl⟩⟩ (fun j => hE9 8 0 j rfl)
  obtain ⟨hW9, hb9⟩ := law_mE hW1 hb1 hd1 hm9 hf9
  have H9 : lawI D w2 x (ad 0 0) := ⟨G1, ad, A9, C1, ⟨hW9, hb9, hx1⟩, ⟨hm9, hT9, hI9, hS, rfl⟩, hd1, hw1.out hd1 hf9, hR9⟩
  show JJ g w2 470 [(3, .int (nI i)), (2, .ref (ad 0 0)), (1, .ref x), (0, .ref b)] [.long (Int64.ofInt z9)]
  refine j_blk 1147 [(3, .int (nI i)), (2, .ref (ad 0 0)), (1, .ref x), (0, .ref b)] [] C k_law_470_2 rfl ?_
  exact kk w2 H9
set_option maxHeartbeats 4000000 in
theorem lawc_8 {g : jG} {D : va_G} {b Ls i : Nat} {xs : Nat → Int32} {w : jW} {x m : Nat} (E : lawE g D b Ls xs) (hL : Ls ≤ 3584) (hi : i + 7 ≤ Ls) (H : lawI D w x m)
    (kk : ∀ w9 : jW, lawI D w9 x m → JJ g w9 1147 [(3, .int (nI i)), (2, .ref m), (1, .ref x), (0, .ref b)] []) : JJ g w 474 [(3, .int (nI i)), (2, .ref m), (1, .ref x), (0, .ref b)] [] := by
  obtain ⟨C, Rm, hX, hbl, -⟩ := E
  have Y : jY g (jGl g) (jGB g) (jGH g) (jGy g) := ⟨rfl, rfl, rfl, rfl⟩
  obtain ⟨G, ad, A, C0, ⟨hW, hb, hx⟩, ⟨hm, hT, hI, hS, rfl⟩, hd, hw, hR⟩ := H
  obtain ⟨V, hV, -⟩ := (tcell_O (τ := 8) rfl).mp (hW x 8 hx)
  refine j_blk 479 [(3, .int (nI i)), (2, .ref (ad 0 0)), (1, .ref x), (0, .ref b)] [.int ((nI i) + 1), .ref b, .ref x] C k_law_474_5 rfl ?_
  refine j_sld C hX hbl (i + 1) (li_c (c := 1) rfl (by omega)) (li_n (c := 1) rfl (by omega) hL) d_law_479 ?_
  refine j_blk 484 [(3, .int (nI i)), (2, .ref (ad 0 0)), (1, .ref x), (0, .ref b)] [.int ((nI i) + 2), .ref b, .int (xs (i + 1)), .ref x] C k_law_480_4 rfl ?_
  refine j_sld C hX hbl (i + 2) (li_c (c := 2) rfl (by omega)) (li_n (c := 2) rfl (by omega) hL) d_law_484 ?_
  refine j_blk 489 [(3, .int (nI i)), (2, .ref (ad 0 0)), (1, .ref x), (0, .ref b)] [.int ((nI i) + 3), .ref b, .int (xs (i + 2)), .int (xs (i + 1)), .ref x] C k_law_485_4 rfl ?_
  refine j_sld C hX hbl (i + 3) (li_c (c := 3) rfl (by omega)) (li_n (c := 3) rfl (by omega) hL) d_law_489 ?_
  have sat : tSat D G w (rhoL x [(xs (i + 1)), (xs (i + 2)), (xs (i + 3))]) (IE I_CS_state) := law_sat hx rfl rfl
  have cM : jMet (jGl g) D (jGB g) (jGH g) y_CS_state b_CS_state 5 (some .long) 221 6311 (KC - w.2.1) (KS - w.2.2) [.ref x, .int (xs (i + 1)), .int (xs (i + 2)), .int (xs (i + 3))] w (tEnd D I_CS_state G w (rhoL x [(xs (i + 1)), (xs (i + 2)), (xs (i + 3))])) := tc_CS_state (jGl g) D (jGB g) (jGH g) G w _ hW hb sat
  refine j_callV C Rm Y [.int (xs (i + 1)), .int (xs (i + 2)), .int (xs (i + 3))] [] cM cl_Law_51 (by rfl) (by rfl) hV d_law_490 rfl rfl (Nat.le_of_ble_eq_true rfl) ⟨Nat.le_of_ble_eq_true rfl, Nat.le_of_ble_eq_true rfl⟩ (law_room hb) (fun v1 w1 p1 => ?_)
  obtain ⟨z1, rfl⟩ := tEnd_J (by decide +kernel) p1
  obtain ⟨G1, C1, ⟨hW1, hb1, hx1⟩, hm1, hd1, hw1, hk1⟩ := law_tE (by decide +kernel) hx hw hm hd p1
  show JJ g w1 493 [(3, .int (nI i)), (2, .ref (ad 0 0)), (1, .ref x), (0, .ref b)] [.long z1]
  refine j_blk 499 [(3, .int (nI i)), (2, .ref (ad 0 0)), (1, .ref x), (0, .ref b)] [.int ((nI i) + 1), .ref b, .ref (ad 0 0)] C k_law_493_6 rfl ?_
  refine j_sld C hX hbl (i + 1) (li_c (c := 1) rfl (by omega)) (li_n (c := 1) rfl (by omega) hL) d_law_499 ?_
  refine j_blk 504 [(3, .int (nI i)), (2, .ref (ad 0 0)), (1, .ref x), (0, .ref b)] [.int ((nI i) + 2), .ref b, .int (xs (i + 1)), .ref (ad 0 0)] C k_law_500_4 rfl ?_
  refine j_sld C hX hbl (i + 2) (li_c (c := 2) rfl (by omega)) (li_n (c := 2) rfl (by omega) hL) d_law_504 ?_
  refine j_blk 509 [(3, .int (nI i)), (2, .ref (ad 0 0)), (1, .ref x), (0, .ref b)] [.int ((nI i) + 3), .ref b, .int (xs (i + 2)), .int (xs (i + 1)), .ref (ad 0 0)] C k_law_505_4 rfl ?_
  refine j_sld C hX hbl (i + 3) (li_c (c := 3) rfl (by omega)) (li_n (c := 3) rfl (by omega) hL) d_law_509 ?_
  obtain ⟨Vm, hVm, -⟩ := (mcell_O rfl).mp (hm1.2 0 0 (by decide))
  have qM := q_state (jGl g) D (jGB g) (jGH g) ad A hT ((xs (i + 1))).toInt ((xs (i + 2))).toInt ((xs (i + 3))).toInt (ri _) (ri _) (ri _) hI w1 hm1
  have eM : mSt ad [vr 0 0, vi ((xs (i + 1))).toInt, vi ((xs (i + 2))).toInt, vi ((xs (i + 3))).toInt] = [.ref (ad 0 0), .int (xs (i + 1)), .int (xs (i + 2)), .int (xs (i + 3))] := by
    show [Value.ref (ad 0 0), mc ad (vi ((xs (i + 1))).toInt), mc ad (vi ((xs (i + 2))).toInt), mc ad (vi ((xs (i + 3))).toInt)] = _
    simp only [ms_i]
  rw [eM] at qM
  refine j_callV C Rm Y [.int (xs (i + 1)), .int (xs (i + 2)), .int (xs (i + 3))] [] qM cl_Law_55 (by rfl) (by rfl) hVm d_law_510 rfl rfl (Nat.le_of_ble_eq_true rfl) ⟨Nat.le_of_ble_eq_true rfl, Nat.le_of_ble_eq_true rfl⟩ (law_room0 hb1) (fun v2 w2 p2 => ?_)
  obtain ⟨v9, A9, rfl, ⟨z9, rfl, hT9, hE9, hI9⟩, hm9, hf9⟩ := p2
  have hR9 : R9 x C1 A9 := (R9.keepC hw hx hR hk1).M hE9 ⟨⟨rfl, rfl, rfl⟩, fun _ => rfl, fun _ => rfl, ⟨fun _ => rfl, fun _ => rfl, fun _ => rfl⟩, ⟨fun _ _ => rfl, fun _ _ => rfl, fun _ _ => rfl, fun _ _ => rfl, fun _ _ => rfl, fun _ _ => rfl, fun _ _ => rfl, fun _ _ => rfl, fun _ _ => rfl, fun _ _ => rfl, fun _ _ => rfl, fun _ _ => rfl, fun _ _ => rfl⟩⟩ (fun j => hE9 8 0 j rfl)
  obtain ⟨hW9, hb9⟩ := law_mE hW1 hb1 hd1 hm9 hf9
  have H9 : lawI D w2 x (ad 0 0) := ⟨G1, ad, A9, C1, ⟨hW9, hb9, hx1⟩, ⟨hm9, hT9, hI9, hS, rfl⟩, hd1, hw1.out hd1 hf9, hR9⟩
  show JJ g w2 513 [(3, .int (nI i)), (2, .ref (ad 0 0)), (1, .ref x), (0, .ref b)] [.long (Int64.ofInt z9)]
  refine j_blk 1147 [(3, .int (nI i)), (2, .ref (ad 0 0)), (1, .ref x), (0, .ref b)] [] C k_law_513_2 rfl ?_
  exact kk w2 H9
set_option maxHeartbeats 4000000 in
theorem lawc_9 {g : jG} {D : va_G} {b Ls i : Nat} {xs : Nat → Int32} {w : jW} {x m : Nat} (E : lawE g D b Ls xs) (hL : Ls ≤ 3584) (hi : i + 7 ≤ Ls) (H : lawI D w x m)
    (kk : ∀ w9 : jW, lawI D w9 x m → JJ g w9 1147 [(3, .int (nI i)), (2, .ref m), (1, .ref x), (0, .ref b)] []) : JJ g w 517 [(3, .int (nI i)), (2, .ref m), (1, .ref x), (0, .ref b)] [] := by
  obtain ⟨C, Rm, hX, hbl, -⟩ := E
  have Y : jY g (jGl g) (jGB g) (jGH g) (jGy g) := ⟨rfl, rfl, rfl, rfl⟩
  obtain ⟨G, ad, A, C0, ⟨hW, hb, hx⟩, ⟨hm, hT, hI, hS, rfl⟩, hd, hw, hR⟩ := H
  obtain ⟨V, hV, -⟩ := (tcell_O (τ := 8) rfl).mp (hW x 8 hx)
  refine j_blk 522 [(3, .int (nI i)), (2, .ref (ad 0 0)), (1, .ref x), (0, .ref b)] [.int ((nI i) + 1), .ref b, .ref x] C k_law_517_5 rfl ?_
  refine j_sld C hX hbl (i + 1) (li_c (c := 1) rfl (by omega)) (li_n (c := 1) rfl (by omega) hL) d_law_522 ?_
  refine j_blk 527 [(3, .int (nI i)), (2, .ref (ad 0 0)), (1, .ref x), (0, .ref b)] [.int ((nI i) + 2), .ref b, .int (xs (i + 1)), .ref x] C k_law_523_4 rfl ?_
  refine j_sld C hX hbl (i + 2) (li_c (c := 2) rfl (by omega)) (li_n (c := 2) rfl (by omega) hL) d_law_527 ?_
  refine j_blk 532 [(3, .int (nI i)), (2, .ref (ad 0 0)), (1, .ref x), (0, .ref b)] [.int ((nI i) + 3), .ref b, .int (xs (i + 2)), .int (xs (i + 1)), .ref x] C k_law_528_4 rfl ?_
  refine j_sld C hX hbl (i + 3) (li_c (c := 3) rfl (by omega)) (li_n (c := 3) rfl (by omega) hL) d_law_532 ?_
  refine j_blk 537 [(3, .int (nI i)), (2, .ref (ad 0 0)), (1, .ref x), (0, .ref b)] [.int ((nI i) + 4), .ref b, .int (xs (i + 3)), .int (xs (i + 2)), .int (xs (i + 1)), .ref x] C k_law_533_4 rfl ?_
  refine j_sld C hX hbl (i + 4) (li_c (c := 4) rfl (by omega)) (li_n (c := 4) rfl (by omega) hL) d_law_537 ?_
  have sat : tSat D G w (rhoL x [(xs (i + 1)), (xs (i + 2)), (xs (i + 3)), (xs (i + 4))]) (IE I_CS_fold) := law_sat hx rfl rfl
  have cM : jMet (jGl g) D (jGB g) (jGH g) y_CS_fold b_CS_fold 9 (some .long) 221 6311 (KC - w.2.1) (KS - w.2.2) [.ref x, .int (xs (i + 1)), .int (xs (i + 2)), .int (xs (i + 3)), .int (xs (i + 4))] w (tEnd D I_CS_fold G w (rhoL x [(xs (i + 1)), (xs (i + 2)), (xs (i + 3)), (xs (i + 4))])) := tc_CS_fold (jGl g) D (jGB g) (jGH g) G w _ hW hb sat
  refine j_callV C Rm Y [.int (xs (i + 1)), .int (xs (i + 2)), .int (xs (i + 3)), .int (xs (i + 4))] [] cM cl_Law_56 (by rfl) (by rfl) hV d_law_538 rfl rfl (Nat.le_of_ble_eq_true rfl) ⟨Nat.le_of_ble_eq_true rfl, Nat.le_of_ble_eq_true rfl⟩ (law_room hb) (fun v1 w1 p1 => ?_)
  obtain ⟨z1, rfl⟩ := tEnd_J (by decide +kernel) p1
  obtain ⟨G1, C1, ⟨hW1, hb1, hx1⟩, hm1, hd1, hw1, hk1⟩ := law_tE (by decide +kernel) hx hw hm hd p1
  show JJ g w1 541 [(3, .int (nI i)), (2, .ref (ad 0 0)), (1, .ref x), (0, .ref b)] [.long z1]
  refine j_blk 547 [(3, .int (nI i)), (2, .ref (ad 0 0)), (1, .ref x), (0, .ref b)] [.int ((nI i) + 1), .ref b, .ref (ad 0 0)] C k_law_541_6 rfl ?_
  refine j_sld C hX hbl (i + 1) (li_c (c := 1) rfl (by omega)) (li_n (c := 1) rfl (by omega) hL) d_law_547 ?_
  refine j_blk 552 [(3, .int (nI i)), (2, .ref (ad 0 0)), (1, .ref x), (0, .ref b)] [.int ((nI i) + 2), .ref b, .int (xs (i + 1)), .ref (ad 0 0)] C k_law_548_4 rfl ?_
  refine j_sld C hX hbl (i + 2) (li_c (c := 2) rfl (by omega)) (li_n (c := 2) rfl (by omega) hL) d_law_552 ?_
  refine j_blk 557 [(3, .int (nI i)), (2, .ref (ad 0 0)), (1, .ref x), (0, .ref b)] [.int ((nI i) + 3), .ref b, .int (xs (i + 2)), .int (xs (i + 1)), .ref (ad 0 0)] C k_law_553_4 rfl ?_
  refine j_sld C hX hbl (i + 3) (li_c (c := 3) rfl (by omega)) (li_n (c := 3) rfl (by omega) hL) d_law_557 ?_
  refine j_blk 562 [(3, .int (nI i)), (2, .ref (ad 0 0)), (1, .ref x), (0, .ref b)] [.int ((nI i) + 4), .ref b, .int (xs (i + 3)), .int (xs (i + 2)), .int (xs (i + 1)), .ref (ad 0 0)] C k_law_558_4 rfl ?_
  refine j_sld C hX hbl (i + 4) (li_c (c := 4) rfl (by omega)) (li_n (c := 4) rfl (by omega) hL) d_law_562 ?_
  obtain ⟨Vm, hVm, -⟩ := (mcell_O rfl).mp (hm1.2 0 0 (by decide))
  have qM := q_foldF (jGl g) D (jGB g) (jGH g) ad A hT ((xs (i + 1))).toInt ((xs (i + 2))).toInt ((xs (i + 3))).toInt ((xs (i + 4))).toInt (ri _) (ri _) (ri _) (ri _) hI w1 hm1
  have eM : mSt ad [vr 0 0, vi ((xs (i + 1))).toInt, vi ((xs (i + 2))).toInt, vi ((xs (i + 3))).toInt, vi ((xs (i + 4))).toInt] = [.ref (ad 0 0), .int (xs (i + 1)), .int (xs (i + 2)), .int (xs (i + 3)), .int (xs (i + 4))] := by
    show [Value.ref (ad 0 0), mc ad (vi ((xs (i + 1))).toInt), mc ad (vi ((xs (i + 2))).toInt), mc ad (vi ((xs (i + 3))).toInt), mc ad (vi ((xs (i + 4))).toInt)] = _
    simp only [ms_i]
  rw [eM] at qM
  refine j_callV C Rm Y [.int (xs (i + 1)), .int (xs (i + 2)), .int (xs (i + 3)), .int (xs (i + 4))] [] qM cl_Law_59 (by rfl) (by rfl) hVm d_law_563 rfl rfl (Nat.le_of_ble_eq_true rfl) ⟨Nat.le_of_ble_eq_true rfl, Nat.le_of_ble_eq_true rfl⟩ (law_room0 hb1) (fun v2 w2 p2 => ?_)
  obtain ⟨v9, A9, rfl, ⟨z9, rfl, hT9, hE9, hI9⟩, hm9, hf9⟩ := p2
  have hR9 : R9 x C1 A9 := (R9.keepC hw hx hR hk1).M hE9 ⟨⟨rfl, rfl, rfl⟩, fun _ => rfl, fun _ => rfl, ⟨fun _ => rfl, fun _ => rfl, fun _ => rfl⟩, ⟨fun _ _ => rfl, fun _ _ => rfl, fun _ _ => rfl, fun _ _ => rfl, fun _ _ => rfl, fun _ _ => rfl, fun _ _ => rfl, fun _ _ => rfl, fun _ _ => rfl, fun _ _ => rfl, fun _ _ => rfl, fun _ _ => rfl, fun _ _ => rfl⟩⟩ (fun j => hE9 8 0 j rfl)
  obtain ⟨hW9, hb9⟩ := law_mE hW1 hb1 hd1 hm9 hf9
  have H9 : lawI D w2 x (ad 0 0) := ⟨G1, ad, A9, C1, ⟨hW9, hb9, hx1⟩, ⟨hm9, hT9, hI9, hS, rfl⟩, hd1, hw1.out hd1 hf9, hR9⟩
  show JJ g w2 566 [(3, .int (nI i)), (2, .ref (ad 0 0)), (1, .ref x), (0, .ref b)] [.long (Int64.ofInt z9)]
  refine j_blk 1147 [(3, .int (nI i)), (2, .ref (ad 0 0)), (1, .ref x), (0, .ref b)] [] C k_law_566_2 rfl ?_
  exact kk w2 H9
set_option maxHeartbeats 4000000 in
theorem lawc_10 {g : jG} {D : va_G} {b Ls i : Nat} {xs : Nat → Int32} {w : jW} {x m : Nat} (E : lawE g D b Ls xs) (hL : Ls ≤ 3584) (hi : i + 7 ≤ Ls) (H : lawI D w x m)
    (kk : ∀ w9 : jW, lawI D w9 x m → JJ g w9 1147 [(3, .int (nI i)), (2, .ref m), (1, .ref x), (0, .ref b)] []) : JJ g w 570 [(3, .int (nI i)), (2, .ref m), (1, .ref x), (0, .ref b)] [] := by
  obtain ⟨C, Rm, hX, hbl, -⟩ := E
  have Y : jY g (jGl g) (jGB g) (jGH g) (jGy g) := ⟨rfl, rfl, rfl, rfl⟩
  obtain ⟨G, ad, A, C0, ⟨hW, hb, hx⟩, ⟨hm, hT, hI, hS, rfl⟩, hd, hw, hR⟩ := H
  obtain ⟨V, hV, -⟩ := (tcell_O (τ := 8) rfl).mp (hW x 8 hx)
  refine j_blk 575 [(3, .int (nI i)), (2, .ref (ad 0 0)), (1, .ref x), (0, .ref b)] [.int ((nI i) + 1), .ref b, .ref x] C k_law_570_5 rfl ?_
  refine j_sld C hX hbl (i + 1) (li_c (c := 1) rfl (by omega)) (li_n (c := 1) rfl (by omega) hL) d_law_575 ?_
  refine j_blk 580 [(3, .int (nI i)), (2, .ref (ad 0 0)), (1, .ref x), (0, .ref b)] [.int ((nI i) + 2), .ref b, .int (xs (i + 1)), .ref x] C k_law_576_4 rfl ?_
  refine j_sld C hX hbl (i + 2) (li_c (c := 2) rfl (by omega)) (li_n (c := 2) rfl (by omega) hL) d_law_580 ?_
  have sat : tSat D G w (rhoL x [(xs (i + 1)), (xs (i + 2))]) (IE I_CS_likeliest) := law_sat hx rfl rfl
  have cM : jMet (jGl g) D (jGB g) (jGH g) y_CS_likeliest b_CS_likeliest 6 (some .int) 221 6311 (KC - w.2.1) (KS - w.2.2) [.ref x, .int (xs (i + 1)), .int (xs (i + 2))] w (tEnd D I_CS_likeliest G w (rhoL x [(xs (i + 1)), (xs (i + 2))])) := tc_CS_likeliest (jGl g) D (jGB g) (jGH g) G w _ hW hb sat
  refine j_callV C Rm Y [.int (xs (i + 1)), .int (xs (i + 2))] [] cM cl_Law_60 (by rfl) (by rfl) hV d_law_581 rfl rfl (Nat.le_of_ble_eq_true rfl) ⟨Nat.le_of_ble_eq_true rfl, Nat.le_of_ble_eq_true rfl⟩ (law_room hb) (fun v1 w1 p1 => ?_)
  obtain ⟨z1, rfl⟩ := tEnd_I (by decide +kernel) p1
  obtain ⟨G1, C1, ⟨hW1, hb1, hx1⟩, hm1, hd1, hw1, hk1⟩ := law_tE (by decide +kernel) hx hw hm hd p1
  show JJ g w1 584 [(3, .int (nI i)), (2, .ref (ad 0 0)), (1, .ref x), (0, .ref b)] [.int z1]
  refine j_blk 590 [(3, .int (nI i)), (2, .ref (ad 0 0)), (1, .ref x), (0, .ref b)] [.int ((nI i) + 1), .ref b, .ref (ad 0 0)] C k_law_584_6 rfl ?_
  refine j_sld C hX hbl (i + 1) (li_c (c := 1) rfl (by omega)) (li_n (c := 1) rfl (by omega) hL) d_law_590 ?_
  refine j_blk 595 [(3, .int (nI i)), (2, .ref (ad 0 0)), (1, .ref x), (0, .ref b)] [.int ((nI i) + 2), .ref b, .int (xs (i + 1)), .ref (ad 0 0)] C k_law_591_4 rfl ?_
  refine j_sld C hX hbl (i + 2) (li_c (c := 2) rfl (by omega)) (li_n (c := 2) rfl (by omega) hL) d_law_595 ?_
  obtain ⟨Vm, hVm, -⟩ := (mcell_O rfl).mp (hm1.2 0 0 (by decide))
  have qM := q_likeliest (jGl g) D (jGB g) (jGH g) ad A hT ((xs (i + 1))).toInt ((xs (i + 2))).toInt (ri _) (ri _) hI w1 hm1
  have eM : mSt ad [vr 0 0, vi ((xs (i + 1))).toInt, vi ((xs (i + 2))).toInt] = [.ref (ad 0 0), .int (xs (i + 1)), .int (xs (i + 2))] := by
    show [Value.ref (ad 0 0), mc ad (vi ((xs (i + 1))).toInt), mc ad (vi ((xs (i + 2))).toInt)] = _
    simp only [ms_i]
  rw [eM] at qM
  refine j_callV C Rm Y [.int (xs (i + 1)), .int (xs (i + 2))] [] qM cl_Law_63 (by rfl) (by rfl) hVm d_law_596 rfl rfl (Nat.le_of_ble_eq_true rfl) ⟨Nat.le_of_ble_eq_true rfl, Nat.le_of_ble_eq_true rfl⟩ (law_room0 hb1) (fun v2 w2 p2 => ?_)
  obtain ⟨v9, A9, rfl, ⟨z9, rfl, hT9, hE9, hz9, hI9⟩, hm9, hf9⟩ := p2
  have hR9 : R9 x C1 A9 := (R9.keepC hw hx hR hk1).M hE9 ⟨⟨rfl, rfl, rfl⟩, fun _ => rfl, fun _ => rfl, ⟨fun _ => rfl, fun _ => rfl, fun _ => rfl⟩, ⟨fun _ _ => rfl, fun _ _ => rfl, fun _ _ => rfl, fun _ _ => rfl, fun _ _ => rfl, fun _ _ => rfl, fun _ _ => rfl, fun _ _ => rfl, fun _ _ => rfl, fun _ _ => rfl, fun _ _ => rfl, fun _ _ => rfl, fun _ _ => rfl⟩⟩ (fun j => hE9 8 0 j rfl)
  obtain ⟨hW9, hb9⟩ := law_mE hW1 hb1 hd1 hm9 hf9
  have H9 : lawI D w2 x (ad 0 0) := ⟨G1, ad, A9, C1, ⟨hW9, hb9, hx1⟩, ⟨hm9, hT9, hI9, hS, rfl⟩, hd1, hw1.out hd1 hf9, hR9⟩
  show JJ g w2 599 [(3, .int (nI i)), (2, .ref (ad 0 0)), (1, .ref x), (0, .ref b)] [.int (Int32.ofInt z9)]
  refine j_blk 1147 [(3, .int (nI i)), (2, .ref (ad 0 0)), (1, .ref x), (0, .ref b)] [] C k_law_599_2 rfl ?_
  exact kk w2 H9
set_option maxHeartbeats 4000000 in
theorem lawc_11 {g : jG} {D : va_G} {b Ls i : Nat} {xs : Nat → Int32} {w : jW} {x m : Nat} (E : lawE g D b Ls xs) (hL : Ls ≤ 3584) (hi : i + 7 ≤ Ls) (H : lawI D w x m)
    (kk : ∀ w9 : jW, lawI D w9 x m → JJ g w9 1147 [(3, .int (nI i)), (2, .ref m), (1, .ref x), (0, .ref b)] []) : JJ g w 603 [(3, .int (nI i)), (2, .ref m), (1, .ref x), (0, .ref b)] [] := by
  obtain ⟨C, Rm, hX, hbl, -⟩ := E
  have Y : jY g (jGl g) (jGB g) (jGH g) (jGy g) := ⟨rfl, rfl, rfl, rfl⟩
  obtain ⟨G, ad, A, C0, ⟨hW, hb, hx⟩, ⟨hm, hT, hI, hS, rfl⟩, hd, hw, hR⟩ := H
  obtain ⟨V, hV, -⟩ := (tcell_O (τ := 8) rfl).mp (hW x 8 hx)
  refine j_blk 608 [(3, .int (nI i)), (2, .ref (ad 0 0)), (1, .ref x), (0, .ref b)] [.int ((nI i) + 1), .ref b, .ref x] C k_law_603_5 rfl ?_
  refine j_sld C hX hbl (i + 1) (li_c (c := 1) rfl (by omega)) (li_n (c := 1) rfl (by omega) hL) d_law_608 ?_
  refine j_blk 613 [(3, .int (nI i)), (2, .ref (ad 0 0)), (1, .ref x), (0, .ref b)] [.int ((nI i) + 2), .ref b, .int (xs (i + 1)), .ref x] C k_law_609_4 rfl ?_
  refine j_sld C hX hbl (i + 2) (li_c (c := 2) rfl (by omega)) (li_n (c := 2) rfl (by omega) hL) d_law_613 ?_
  refine j_blk 618 [(3, .int (nI i)), (2, .ref (ad 0 0)), (1, .ref x), (0, .ref b)] [.int ((nI i) + 3), .ref b, .int (xs (i + 2)), .int (xs (i + 1)), .ref x] C k_law_614_4 rfl ?_
  refine j_sld C hX hbl (i + 3) (li_c (c := 3) rfl (by omega)) (li_n (c := 3) rfl (by omega) hL) d_law_618 ?_
  have sat : tSat D G w (rhoL x [(xs (i + 1)), (xs (i + 2)), (xs (i + 3))]) (IE I_CS_apart) := law_sat hx rfl rfl
  have cM : jMet (jGl g) D (jGB g) (jGH g) y_CS_apart b_CS_apart 11 (some .int) 221 6311 (KC - w.2.1) (KS - w.2.2) [.ref x, .int (xs (i + 1)), .int (xs (i + 2)), .int (xs (i + 3))] w (tEnd D I_CS_apart G w (rhoL x [(xs (i + 1)), (xs (i + 2)), (xs (i + 3))])) := tc_CS_apart (jGl g) D (jGB g) (jGH g) G w _ hW hb sat
  refine j_callV C Rm Y [.int (xs (i + 1)), .int (xs (i + 2)), .int (xs (i + 3))] [] cM cl_Law_64 (by rfl) (by rfl) hV d_law_619 rfl rfl (Nat.le_of_ble_eq_true rfl) ⟨Nat.le_of_ble_eq_true rfl, Nat.le_of_ble_eq_true rfl⟩ (law_room hb) (fun v1 w1 p1 => ?_)
  obtain ⟨z1, rfl⟩ := tEnd_I (by decide +kernel) p1
  obtain ⟨G1, C1, ⟨hW1, hb1, hx1⟩, hm1, hd1, hw1, hk1⟩ := law_tE (by decide +kernel) hx hw hm hd p1
  show JJ g w1 622 [(3, .int (nI i)), (2, .ref (ad 0 0)), (1, .ref x), (0, .ref b)] [.int z1]
  refine j_blk 628 [(3, .int (nI i)), (2, .ref (ad 0 0)), (1, .ref x), (0, .ref b)] [.int ((nI i) + 1), .ref b, .ref (ad 0 0)] C k_law_622_6 rfl ?_
  refine j_sld C hX hbl (i + 1) (li_c (c := 1) rfl (by omega)) (li_n (c := 1) rfl (by omega) hL) d_law_628 ?_
  refine j_blk 633 [(3, .int (nI i)), (2, .ref (ad 0 0)), (1, .ref x), (0, .ref b)] [.int ((nI i) + 2), .ref b, .int (xs (i + 1)), .ref (ad 0 0)] C k_law_629_4 rfl ?_
  refine j_sld C hX hbl (i + 2) (li_c (c := 2) rfl (by omega)) (li_n (c := 2) rfl (by omega) hL) d_law_633 ?_
  refine j_blk 638 [(3, .int (nI i)), (2, .ref (ad 0 0)), (1, .ref x), (0, .ref b)] [.int ((nI i) + 3), .ref b, .int (xs (i + 2)), .int (xs (i + 1)), .ref (ad 0 0)] C k_law_634_4 rfl ?_
  refine j_sld C hX hbl (i + 3) (li_c (c := 3) rfl (by omega)) (li_n (c := 3) rfl (by omega) hL) d_law_638 ?_
  obtain ⟨Vm, hVm, -⟩ := (mcell_O rfl).mp (hm1.2 0 0 (by decide))
  have qM := q_apart (jGl g) D (jGB g) (jGH g) ad A hT ((xs (i + 1))).toInt ((xs (i + 2))).toInt ((xs (i + 3))).toInt (ri _) (ri _) (ri _) hI w1 hm1
  have eM : mSt ad [vr 0 0, vi ((xs (i + 1))).toInt, vi ((xs (i + 2))).toInt, vi ((xs (i + 3))).toInt] = [.ref (ad 0 0), .int (xs (i + 1)), .int (xs (i + 2)), .int (xs (i + 3))] := by
    show [Value.ref (ad 0 0), mc ad (vi ((xs (i + 1))).toInt), mc ad (vi ((xs (i + 2))).toInt), mc ad (vi ((xs (i + 3))).toInt)] = _
    simp only [ms_i]
  rw [eM] at qM
  refine j_callV C Rm Y [.int (xs (i + 1)), .int (xs (i + 2)), .int (xs (i + 3))] [] qM cl_Law_67 (by rfl) (by rfl) hVm d_law_639 rfl rfl (Nat.le_of_ble_eq_true rfl) ⟨Nat.le_of_ble_eq_true rfl, Nat.le_of_ble_eq_true rfl⟩ (law_room0 hb1) (fun v2 w2 p2 => ?_)
  obtain ⟨v9, A9, rfl, ⟨z9, rfl, hT9, hE9, hz9, hI9⟩, hm9, hf9⟩ := p2
  have hR9 : R9 x C1 A9 := (R9.keepC hw hx hR hk1).M hE9 ⟨⟨rfl, rfl, rfl⟩, fun _ => rfl, fun _ => rfl, ⟨fun _ => rfl, fun _ => rfl, fun _ => rfl⟩, ⟨fun _ _ => rfl, fun _ _ => rfl, fun _ _ => rfl, fun _ _ => rfl, fun _ _ => rfl, fun _ _ => rfl, fun _ _ => rfl, fun _ _ => rfl, fun _ _ => rfl, fun _ _ => rfl, fun _ _ => rfl, fun _ _ => rfl, fun _ _ => rfl⟩⟩ (fun j => hE9 8 0 j rfl)
  obtain ⟨hW9, hb9⟩ := law_mE hW1 hb1 hd1 hm9 hf9
  have H9 : lawI D w2 x (ad 0 0) := ⟨G1, ad, A9, C1, ⟨hW9, hb9, hx1⟩, ⟨hm9, hT9, hI9, hS, rfl⟩, hd1, hw1.out hd1 hf9, hR9⟩
  show JJ g w2 642 [(3, .int (nI i)), (2, .ref (ad 0 0)), (1, .ref x), (0, .ref b)] [.int (Int32.ofInt z9)]
  refine j_blk 1147 [(3, .int (nI i)), (2, .ref (ad 0 0)), (1, .ref x), (0, .ref b)] [] C k_law_642_2 rfl ?_
  exact kk w2 H9
set_option maxHeartbeats 4000000 in
theorem lawc_12 {g : jG} {D : va_G} {b Ls i : Nat} {xs : Nat → Int32} {w : jW} {x m : Nat} (E : lawE g D b Ls xs) (hL : Ls ≤ 3584) (hi : i + 7 ≤ Ls) (H : lawI D w x m)
    (kk : ∀ w9 : jW, lawI D w9 x m → JJ g w9 1147 [(3, .int (nI i)), (2, .ref m), (1, .ref x), (0, .ref b)] []) : JJ g w 646 [(3, .int (nI i)), (2, .ref m), (1, .ref x), (0, .ref b)] [] := by
  obtain ⟨C, Rm, hX, hbl, -⟩ := E
  have Y : jY g (jGl g) (jGB g) (jGH g) (jGy g) := ⟨rfl, rfl, rfl, rfl⟩
  obtain ⟨G, ad, A, C0, ⟨hW, hb, hx⟩, ⟨hm, hT, hI, hS, rfl⟩, hd, hw, hR⟩ := H
  obtain ⟨V, hV, -⟩ := (tcell_O (τ := 8) rfl).mp (hW x 8 hx)
  refine j_blk 651 [(3, .int (nI i)), (2, .ref (ad 0 0)), (1, .ref x), (0, .ref b)] [.int ((nI i) + 1), .ref b, .ref x] C k_law_646_5 rfl ?_
  refine j_sld C hX hbl (i + 1) (li_c (c := 1) rfl (by omega)) (li_n (c := 1) rfl (by omega) hL) d_law_651 ?_
  refine j_blk 656 [(3, .int (nI i)), (2, .ref (ad 0 0)), (1, .ref x), (0, .ref b)] [.int ((nI i) + 2), .ref b, .int (xs (i + 1)), .ref x] C k_law_652_4 rfl ?_
  refine j_sld C hX hbl (i + 2) (li_c (c := 2) rfl (by omega)) (li_n (c := 2) rfl (by omega) hL) d_law_656 ?_
  have sat : tSat D G w (rhoL x [(xs (i + 1)), (xs (i + 2))]) (IE I_CS_needed) := law_sat hx rfl rfl
  have cM : jMet (jGl g) D (jGB g) (jGH g) y_CS_needed b_CS_needed 4 (some .int) 18 474 (KC - w.2.1) (KS - w.2.2) [.ref x, .int (xs (i + 1)), .int (xs (i + 2))] w (tEnd D I_CS_needed G w (rhoL x [(xs (i + 1)), (xs (i + 2))])) := tc_CS_needed (jGl g) D (jGB g) (jGH g) G w _ hW hb sat
  refine j_callV C Rm Y [.int (xs (i + 1)), .int (xs (i + 2))] [] cM cl_Law_68 (by rfl) (by rfl) hV d_law_657 rfl rfl (Nat.le_of_ble_eq_true rfl) ⟨Nat.le_of_ble_eq_true rfl, Nat.le_of_ble_eq_true rfl⟩ (law_room hb) (fun v1 w1 p1 => ?_)
  obtain ⟨z1, rfl⟩ := tEnd_I (by decide +kernel) p1
  obtain ⟨G1, C1, ⟨hW1, hb1, hx1⟩, hm1, hd1, hw1, hk1⟩ := law_tE (by decide +kernel) hx hw hm hd p1
  show JJ g w1 660 [(3, .int (nI i)), (2, .ref (ad 0 0)), (1, .ref x), (0, .ref b)] [.int z1]
  refine j_blk 666 [(3, .int (nI i)), (2, .ref (ad 0 0)), (1, .ref x), (0, .ref b)] [.int ((nI i) + 1), .ref b, .ref (ad 0 0)] C k_law_660_6 rfl ?_
  refine j_sld C hX hbl (i + 1) (li_c (c := 1) rfl (by omega)) (li_n (c := 1) rfl (by omega) hL) d_law_666 ?_
  refine j_blk 671 [(3, .int (nI i)), (2, .ref (ad 0 0)), (1, .ref x), (0, .ref b)] [.int ((nI i) + 2), .ref b, .int (xs (i + 1)), .ref (ad 0 0)] C k_law_667_4 rfl ?_
  refine j_sld C hX hbl (i + 2) (li_c (c := 2) rfl (by omega)) (li_n (c := 2) rfl (by omega) hL) d_law_671 ?_
  obtain ⟨Vm, hVm, -⟩ := (mcell_O rfl).mp (hm1.2 0 0 (by decide))
  have qM := q_neededF (jGl g) D (jGB g) (jGH g) ad A hT ((xs (i + 1))).toInt ((xs (i + 2))).toInt (ri _) (ri _) hI w1 hm1
  have eM : mSt ad [vr 0 0, vi ((xs (i + 1))).toInt, vi ((xs (i + 2))).toInt] = [.ref (ad 0 0), .int (xs (i + 1)), .int (xs (i + 2))] := by
    show [Value.ref (ad 0 0), mc ad (vi ((xs (i + 1))).toInt), mc ad (vi ((xs (i + 2))).toInt)] = _
    simp only [ms_i]
  rw [eM] at qM
  refine j_callV C Rm Y [.int (xs (i + 1)), .int (xs (i + 2))] [] qM cl_Law_71 (by rfl) (by rfl) hVm d_law_672 rfl rfl (Nat.le_of_ble_eq_true rfl) ⟨Nat.le_of_ble_eq_true rfl, Nat.le_of_ble_eq_true rfl⟩ (law_room0 hb1) (fun v2 w2 p2 => ?_)
  obtain ⟨v9, A9, rfl, ⟨z9, rfl, hT9, hE9, hz9, hI9⟩, hm9, hf9⟩ := p2
  have hR9 : R9 x C1 A9 := (R9.keepC hw hx hR hk1).M hE9 ⟨⟨rfl, rfl, rfl⟩, fun _ => rfl, fun _ => rfl, ⟨fun _ => rfl, fun _ => rfl, fun _ => rfl⟩, ⟨fun _ _ => rfl, fun _ _ => rfl, fun _ _ => rfl, fun _ _ => rfl, fun _ _ => rfl, fun _ _ => rfl, fun _ _ => rfl, fun _ _ => rfl, fun _ _ => rfl, fun _ _ => rfl, fun _ _ => rfl, fun _ _ => rfl, fun _ _ => rfl⟩⟩ (fun j => hE9 8 0 j rfl)
  obtain ⟨hW9, hb9⟩ := law_mE hW1 hb1 hd1 hm9 hf9
  have H9 : lawI D w2 x (ad 0 0) := ⟨G1, ad, A9, C1, ⟨hW9, hb9, hx1⟩, ⟨hm9, hT9, hI9, hS, rfl⟩, hd1, hw1.out hd1 hf9, hR9⟩
  show JJ g w2 675 [(3, .int (nI i)), (2, .ref (ad 0 0)), (1, .ref x), (0, .ref b)] [.int (Int32.ofInt z9)]
  refine j_blk 1147 [(3, .int (nI i)), (2, .ref (ad 0 0)), (1, .ref x), (0, .ref b)] [] C k_law_675_2 rfl ?_
  exact kk w2 H9
set_option maxHeartbeats 4000000 in
theorem lawc_13 {g : jG} {D : va_G} {b Ls i : Nat} {xs : Nat → Int32} {w : jW} {x m : Nat} (E : lawE g D b Ls xs) (hL : Ls ≤ 3584) (hi : i + 7 ≤ Ls) (H : lawI D w x m)
    (kk : ∀ w9 : jW, lawI D w9 x m → JJ g w9 1147 [(3, .int (nI i)), (2, .ref m), (1, .ref x), (0, .ref b)] []) : JJ g w 679 [(3, .int (nI i)), (2, .ref m), (1, .ref x), (0, .ref b)] [] := by
  obtain ⟨C, Rm, hX, hbl, -⟩ := E
  have Y : jY g (jGl g) (jGB g) (jGH g) (jGy g) := ⟨rfl, rfl, rfl, rfl⟩
  obtain ⟨G, ad, A, C0, ⟨hW, hb, hx⟩, ⟨hm, hT, hI, hS, rfl⟩, hd, hw, hR⟩ := H
  obtain ⟨V, hV, -⟩ := (tcell_O (τ := 8) rfl).mp (hW x 8 hx)
  refine j_blk 684 [(3, .int (nI i)), (2, .ref (ad 0 0)), (1, .ref x), (0, .ref b)] [.int ((nI i) + 1), .ref b, .ref x] C k_law_679_5 rfl ?_
  refine j_sld C hX hbl (i + 1) (li_c (c := 1) rfl (by omega)) (li_n (c := 1) rfl (by omega) hL) d_law_684 ?_
  refine j_blk 689 [(3, .int (nI i)), (2, .ref (ad 0 0)), (1, .ref x), (0, .ref b)] [.int ((nI i) + 2), .ref b, .int (xs (i + 1)), .ref x] C k_law_685_4 rfl ?_
  refine j_sld C hX hbl (i + 2) (li_c (c := 2) rfl (by omega)) (li_n (c := 2) rfl (by omega) hL) d_law_689 ?_
  have sat : tSat D G w (rhoL x [(xs (i + 1)), (xs (i + 2))]) (IE I_CS_peak) := law_sat hx rfl rfl
  have cM : jMet (jGl g) D (jGB g) (jGH g) y_CS_peak b_CS_peak 3 (some .int) 221 6315 (KC - w.2.1) (KS - w.2.2) [.ref x, .int (xs (i + 1)), .int (xs (i + 2))] w (tEnd D I_CS_peak G w (rhoL x [(xs (i + 1)), (xs (i + 2))])) := tc_CS_peak (jGl g) D (jGB g) (jGH g) G w _ hW hb sat
  refine j_callV C Rm Y [.int (xs (i + 1)), .int (xs (i + 2))] [] cM cl_Law_72 (by rfl) (by rfl) hV d_law_690 rfl rfl (Nat.le_of_ble_eq_true rfl) ⟨Nat.le_of_ble_eq_true rfl, Nat.le_of_ble_eq_true rfl⟩ (law_room hb) (fun v1 w1 p1 => ?_)
  obtain ⟨z1, rfl⟩ := tEnd_I (by decide +kernel) p1
  obtain ⟨G1, C1, ⟨hW1, hb1, hx1⟩, hm1, hd1, hw1, hk1⟩ := law_tE (by decide +kernel) hx hw hm hd p1
  show JJ g w1 693 [(3, .int (nI i)), (2, .ref (ad 0 0)), (1, .ref x), (0, .ref b)] [.int z1]
  refine j_blk 699 [(3, .int (nI i)), (2, .ref (ad 0 0)), (1, .ref x), (0, .ref b)] [.int ((nI i) + 1), .ref b, .ref (ad 0 0)] C k_law_693_6 rfl ?_
  refine j_sld C hX hbl (i + 1) (li_c (c := 1) rfl (by omega)) (li_n (c := 1) rfl (by omega) hL) d_law_699 ?_
  refine j_blk 704 [(3, .int (nI i)), (2, .ref (ad 0 0)), (1, .ref x), (0, .ref b)] [.int ((nI i) + 2), .ref b, .int (xs (i + 1)), .ref (ad 0 0)] C k_law_700_4 rfl ?_
  refine j_sld C hX hbl (i + 2) (li_c (c := 2) rfl (by omega)) (li_n (c := 2) rfl (by omega) hL) d_law_704 ?_
  obtain ⟨Vm, hVm, -⟩ := (mcell_O rfl).mp (hm1.2 0 0 (by decide))
  have qM := q_peak (jGl g) D (jGB g) (jGH g) ad A hT ((xs (i + 1))).toInt ((xs (i + 2))).toInt (ri _) (ri _) hI w1 hm1
  have eM : mSt ad [vr 0 0, vi ((xs (i + 1))).toInt, vi ((xs (i + 2))).toInt] = [.ref (ad 0 0), .int (xs (i + 1)), .int (xs (i + 2))] := by
    show [Value.ref (ad 0 0), mc ad (vi ((xs (i + 1))).toInt), mc ad (vi ((xs (i + 2))).toInt)] = _
    simp only [ms_i]
  rw [eM] at qM
  refine j_callV C Rm Y [.int (xs (i + 1)), .int (xs (i + 2))] [] qM cl_Law_75 (by rfl) (by rfl) hVm d_law_705 rfl rfl (Nat.le_of_ble_eq_true rfl) ⟨Nat.le_of_ble_eq_true rfl, Nat.le_of_ble_eq_true rfl⟩ (law_room0 hb1) (fun v2 w2 p2 => ?_)
  obtain ⟨v9, A9, rfl, ⟨z9, rfl, hT9, hE9, hz9, hI9⟩, hm9, hf9⟩ := p2
  have hR9 : R9 x C1 A9 := (R9.keepC hw hx hR hk1).M hE9 ⟨⟨rfl, rfl, rfl⟩, fun _ => rfl, fun _ => rfl, ⟨fun _ => rfl, fun _ => rfl, fun _ => rfl⟩, ⟨fun _ _ => rfl, fun _ _ => rfl, fun _ _ => rfl, fun _ _ => rfl, fun _ _ => rfl, fun _ _ => rfl, fun _ _ => rfl, fun _ _ => rfl, fun _ _ => rfl, fun _ _ => rfl, fun _ _ => rfl, fun _ _ => rfl, fun _ _ => rfl⟩⟩ (fun j => hE9 8 0 j rfl)
  obtain ⟨hW9, hb9⟩ := law_mE hW1 hb1 hd1 hm9 hf9
  have H9 : lawI D w2 x (ad 0 0) := ⟨G1, ad, A9, C1, ⟨hW9, hb9, hx1⟩, ⟨hm9, hT9, hI9, hS, rfl⟩, hd1, hw1.out hd1 hf9, hR9⟩
  show JJ g w2 708 [(3, .int (nI i)), (2, .ref (ad 0 0)), (1, .ref x), (0, .ref b)] [.int (Int32.ofInt z9)]
  refine j_blk 1147 [(3, .int (nI i)), (2, .ref (ad 0 0)), (1, .ref x), (0, .ref b)] [] C k_law_708_2 rfl ?_
  exact kk w2 H9
set_option maxHeartbeats 4000000 in
theorem lawc_14 {g : jG} {D : va_G} {b Ls i : Nat} {xs : Nat → Int32} {w : jW} {x m : Nat} (E : lawE g D b Ls xs) (hL : Ls ≤ 3584) (hi : i + 7 ≤ Ls) (H : lawI D w x m)
    (kk : ∀ w9 : jW, lawI D w9 x m → JJ g w9 1147 [(3, .int (nI i)), (2, .ref m), (1, .ref x), (0, .ref b)] []) : JJ g w 712 [(3, .int (nI i)), (2, .ref m), (1, .ref x), (0, .ref b)] [] := by
  obtain ⟨C, Rm, hX, hbl, -⟩ := E
  have Y : jY g (jGl g) (jGB g) (jGH g) (jGy g) := ⟨rfl, rfl, rfl, rfl⟩
  obtain ⟨G, ad, A, C0, ⟨hW, hb, hx⟩, ⟨hm, hT, hI, hS, rfl⟩, hd, hw, hR⟩ := H
  obtain ⟨V, hV, -⟩ := (tcell_O (τ := 8) rfl).mp (hW x 8 hx)
  refine j_blk 717 [(3, .int (nI i)), (2, .ref (ad 0 0)), (1, .ref x), (0, .ref b)] [.int ((nI i) + 1), .ref b, .ref x] C k_law_712_5 rfl ?_
  refine j_sld C hX hbl (i + 1) (li_c (c := 1) rfl (by omega)) (li_n (c := 1) rfl (by omega) hL) d_law_717 ?_
  refine j_blk 722 [(3, .int (nI i)), (2, .ref (ad 0 0)), (1, .ref x), (0, .ref b)] [.int ((nI i) + 2), .ref b, .int (xs (i + 1)), .ref x] C k_law_718_4 rfl ?_
  refine j_sld C hX hbl (i + 2) (li_c (c := 2) rfl (by omega)) (li_n (c := 2) rfl (by omega) hL) d_law_722 ?_
  have sat : tSat D G w (rhoL x [(xs (i + 1)), (xs (i + 2))]) (IE I_CS_alike) := law_sat hx rfl rfl
  have cM : jMet (jGl g) D (jGB g) (jGH g) y_CS_alike b_CS_alike 7 (some .int) 221 6311 (KC - w.2.1) (KS - w.2.2) [.ref x, .int (xs (i + 1)), .int (xs (i + 2))] w (tEnd D I_CS_alike G w (rhoL x [(xs (i + 1)), (xs (i + 2))])) := tc_CS_alike (jGl g) D (jGB g) (jGH g) G w _ hW hb sat
  refine j_callV C Rm Y [.int (xs (i + 1)), .int (xs (i + 2))] [] cM cl_Law_76 (by rfl) (by rfl) hV d_law_723 rfl rfl (Nat.le_of_ble_eq_true rfl) ⟨Nat.le_of_ble_eq_true rfl, Nat.le_of_ble_eq_true rfl⟩ (law_room hb) (fun v1 w1 p1 => ?_)
  obtain ⟨z1, rfl⟩ := tEnd_I (by decide +kernel) p1
  obtain ⟨G1, C1, ⟨hW1, hb1, hx1⟩, hm1, hd1, hw1, hk1⟩ := law_tE (by decide +kernel) hx hw hm hd p1
  show JJ g w1 726 [(3, .int (nI i)), (2, .ref (ad 0 0)), (1, .ref x), (0, .ref b)] [.int z1]
  refine j_blk 732 [(3, .int (nI i)), (2, .ref (ad 0 0)), (1, .ref x), (0, .ref b)] [.int ((nI i) + 1), .ref b, .ref (ad 0 0)] C k_law_726_6 rfl ?_
  refine j_sld C hX hbl (i + 1) (li_c (c := 1) rfl (by omega)) (li_n (c := 1) rfl (by omega) hL) d_law_732 ?_
  refine j_blk 737 [(3, .int (nI i)), (2, .ref (ad 0 0)), (1, .ref x), (0, .ref b)] [.int ((nI i) + 2), .ref b, .int (xs (i + 1)), .ref (ad 0 0)] C k_law_733_4 rfl ?_
  refine j_sld C hX hbl (i + 2) (li_c (c := 2) rfl (by omega)) (li_n (c := 2) rfl (by omega) hL) d_law_737 ?_
  obtain ⟨Vm, hVm, -⟩ := (mcell_O rfl).mp (hm1.2 0 0 (by decide))
  have qM := q_alike (jGl g) D (jGB g) (jGH g) ad A hT ((xs (i + 1))).toInt ((xs (i + 2))).toInt (ri _) (ri _) hI w1 hm1
  have eM : mSt ad [vr 0 0, vi ((xs (i + 1))).toInt, vi ((xs (i + 2))).toInt] = [.ref (ad 0 0), .int (xs (i + 1)), .int (xs (i + 2))] := by
    show [Value.ref (ad 0 0), mc ad (vi ((xs (i + 1))).toInt), mc ad (vi ((xs (i + 2))).toInt)] = _
    simp only [ms_i]
  rw [eM] at qM
  refine j_callV C Rm Y [.int (xs (i + 1)), .int (xs (i + 2))] [] qM cl_Law_79 (by rfl) (by rfl) hVm d_law_738 rfl rfl (Nat.le_of_ble_eq_true rfl) ⟨Nat.le_of_ble_eq_true rfl, Nat.le_of_ble_eq_true rfl⟩ (law_room0 hb1) (fun v2 w2 p2 => ?_)
  obtain ⟨v9, A9, rfl, ⟨z9, rfl, hT9, hE9, hz9, hI9⟩, hm9, hf9⟩ := p2
  have hR9 : R9 x C1 A9 := (R9.keepC hw hx hR hk1).M hE9 ⟨⟨rfl, rfl, rfl⟩, fun _ => rfl, fun _ => rfl, ⟨fun _ => rfl, fun _ => rfl, fun _ => rfl⟩, ⟨fun _ _ => rfl, fun _ _ => rfl, fun _ _ => rfl, fun _ _ => rfl, fun _ _ => rfl, fun _ _ => rfl, fun _ _ => rfl, fun _ _ => rfl, fun _ _ => rfl, fun _ _ => rfl, fun _ _ => rfl, fun _ _ => rfl, fun _ _ => rfl⟩⟩ (fun j => hE9 8 0 j rfl)
  obtain ⟨hW9, hb9⟩ := law_mE hW1 hb1 hd1 hm9 hf9
  have H9 : lawI D w2 x (ad 0 0) := ⟨G1, ad, A9, C1, ⟨hW9, hb9, hx1⟩, ⟨hm9, hT9, hI9, hS, rfl⟩, hd1, hw1.out hd1 hf9, hR9⟩
  show JJ g w2 741 [(3, .int (nI i)), (2, .ref (ad 0 0)), (1, .ref x), (0, .ref b)] [.int (Int32.ofInt z9)]
  refine j_blk 1147 [(3, .int (nI i)), (2, .ref (ad 0 0)), (1, .ref x), (0, .ref b)] [] C k_law_741_2 rfl ?_
  exact kk w2 H9
set_option maxHeartbeats 4000000 in
theorem lawc_15 {g : jG} {D : va_G} {b Ls i : Nat} {xs : Nat → Int32} {w : jW} {x m : Nat} (E : lawE g D b Ls xs) (hL : Ls ≤ 3584) (hi : i + 7 ≤ Ls) (H : lawI D w x m)
    (kk : ∀ w9 : jW, lawI D w9 x m → JJ g w9 1147 [(3, .int (nI i)), (2, .ref m), (1, .ref x), (0, .ref b)] []) : JJ g w 745 [(3, .int (nI i)), (2, .ref m), (1, .ref x), (0, .ref b)] [] := by
  obtain ⟨C, Rm, hX, hbl, -⟩ := E
  have Y : jY g (jGl g) (jGB g) (jGH g) (jGy g) := ⟨rfl, rfl, rfl, rfl⟩
  obtain ⟨G, ad, A, C0, ⟨hW, hb, hx⟩, ⟨hm, hT, hI, hS, rfl⟩, hd, hw, hR⟩ := H
  obtain ⟨V, hV, -⟩ := (tcell_O (τ := 8) rfl).mp (hW x 8 hx)
  refine j_blk 750 [(3, .int (nI i)), (2, .ref (ad 0 0)), (1, .ref x), (0, .ref b)] [.int ((nI i) + 1), .ref b, .ref x] C k_law_745_5 rfl ?_
  refine j_sld C hX hbl (i + 1) (li_c (c := 1) rfl (by omega)) (li_n (c := 1) rfl (by omega) hL) d_law_750 ?_
  refine j_blk 755 [(3, .int (nI i)), (2, .ref (ad 0 0)), (1, .ref x), (0, .ref b)] [.int ((nI i) + 2), .ref b, .int (xs (i + 1)), .ref x] C k_law_751_4 rfl ?_
  refine j_sld C hX hbl (i + 2) (li_c (c := 2) rfl (by omega)) (li_n (c := 2) rfl (by omega) hL) d_law_755 ?_
  have sat : tSat D G w (rhoL x [(xs (i + 1)), (xs (i + 2))]) (IE I_CS_comes) := law_sat hx rfl rfl
  have cM : jMet (jGl g) D (jGB g) (jGH g) y_CS_comes b_CS_comes 4 (some .int) 127 3390 (KC - w.2.1) (KS - w.2.2) [.ref x, .int (xs (i + 1)), .int (xs (i + 2))] w (tEnd D I_CS_comes G w (rhoL x [(xs (i + 1)), (xs (i + 2))])) := tc_CS_comes (jGl g) D (jGB g) (jGH g) G w _ hW hb sat
  refine j_callV C Rm Y [.int (xs (i + 1)), .int (xs (i + 2))] [] cM cl_Law_80 (by rfl) (by rfl) hV d_law_756 rfl rfl (Nat.le_of_ble_eq_true rfl) ⟨Nat.le_of_ble_eq_true rfl, Nat.le_of_ble_eq_true rfl⟩ (law_room hb) (fun v1 w1 p1 => ?_)
  obtain ⟨z1, rfl⟩ := tEnd_I (by decide +kernel) p1
  obtain ⟨G1, C1, ⟨hW1, hb1, hx1⟩, hm1, hd1, hw1, hk1⟩ := law_tE (by decide +kernel) hx hw hm hd p1
  show JJ g w1 759 [(3, .int (nI i)), (2, .ref (ad 0 0)), (1, .ref x), (0, .ref b)] [.int z1]
  refine j_blk 765 [(3, .int (nI i)), (2, .ref (ad 0 0)), (1, .ref x), (0, .ref b)] [.int ((nI i) + 1), .ref b, .ref (ad 0 0)] C k_law_759_6 rfl ?_
  refine j_sld C hX hbl (i + 1) (li_c (c := 1) rfl (by omega)) (li_n (c := 1) rfl (by omega) hL) d_law_765 ?_
  refine j_blk 770 [(3, .int (nI i)), (2, .ref (ad 0 0)), (1, .ref x), (0, .ref b)] [.int ((nI i) + 2), .ref b, .int (xs (i + 1)), .ref (ad 0 0)] C k_law_766_4 rfl ?_
  refine j_sld C hX hbl (i + 2) (li_c (c := 2) rfl (by omega)) (li_n (c := 2) rfl (by omega) hL) d_law_770 ?_
  obtain ⟨Vm, hVm, -⟩ := (mcell_O rfl).mp (hm1.2 0 0 (by decide))
  have qM := q_comes (jGl g) D (jGB g) (jGH g) ad A hT ((xs (i + 1))).toInt ((xs (i + 2))).toInt (ri _) (ri _) hI w1 hm1
  have eM : mSt ad [vr 0 0, vi ((xs (i + 1))).toInt, vi ((xs (i + 2))).toInt] = [.ref (ad 0 0), .int (xs (i + 1)), .int (xs (i + 2))] := by
    show [Value.ref (ad 0 0), mc ad (vi ((xs (i + 1))).toInt), mc ad (vi ((xs (i + 2))).toInt)] = _
    simp only [ms_i]
  rw [eM] at qM
  refine j_callV C Rm Y [.int (xs (i + 1)), .int (xs (i + 2))] [] qM cl_Law_83 (by rfl) (by rfl) hVm d_law_771 rfl rfl (Nat.le_of_ble_eq_true rfl) ⟨Nat.le_of_ble_eq_true rfl, Nat.le_of_ble_eq_true rfl⟩ (law_room0 hb1) (fun v2 w2 p2 => ?_)
  obtain ⟨v9, A9, rfl, ⟨z9, rfl, hT9, hE9, hz9, hI9⟩, hm9, hf9⟩ := p2
  have hR9 : R9 x C1 A9 := (R9.keepC hw hx hR hk1).M hE9 ⟨⟨rfl, rfl, rfl⟩, fun _ => rfl, fun _ => rfl, ⟨fun _ => rfl, fun _ => rfl, fun _ => rfl⟩, ⟨fun _ _ => rfl, fun _ _ => rfl, fun _ _ => rfl, fun _ _ => rfl, fun _ _ => rfl, fun _ _ => rfl, fun _ _ => rfl, fun _ _ => rfl, fun _ _ => rfl, fun _ _ => rfl, fun _ _ => rfl, fun _ _ => rfl, fun _ _ => rfl⟩⟩ (fun j => hE9 8 0 j rfl)
  obtain ⟨hW9, hb9⟩ := law_mE hW1 hb1 hd1 hm9 hf9
  have H9 : lawI D w2 x (ad 0 0) := ⟨G1, ad, A9, C1, ⟨hW9, hb9, hx1⟩, ⟨hm9, hT9, hI9, hS, rfl⟩, hd1, hw1.out hd1 hf9, hR9⟩
  show JJ g w2 774 [(3, .int (nI i)), (2, .ref (ad 0 0)), (1, .ref x), (0, .ref b)] [.int (Int32.ofInt z9)]
  refine j_blk 1147 [(3, .int (nI i)), (2, .ref (ad 0 0)), (1, .ref x), (0, .ref b)] [] C k_law_774_2 rfl ?_
  exact kk w2 H9
set_option maxHeartbeats 4000000 in
theorem lawc_16 {g : jG} {D : va_G} {b Ls i : Nat} {xs : Nat → Int32} {w : jW} {x m : Nat} (E : lawE g D b Ls xs) (hL : Ls ≤ 3584) (hi : i + 7 ≤ Ls) (H : lawI D w x m)
    (kk : ∀ w9 : jW, lawI D w9 x m → JJ g w9 1147 [(3, .int (nI i)), (2, .ref m), (1, .ref x), (0, .ref b)] []) : JJ g w 778 [(3, .int (nI i)), (2, .ref m), (1, .ref x), (0, .ref b)] [] := by
  obtain ⟨C, Rm, hX, hbl, -⟩ := E
  have Y : jY g (jGl g) (jGB g) (jGH g) (jGy g) := ⟨rfl, rfl, rfl, rfl⟩
  obtain ⟨G, ad, A, C0, ⟨hW, hb, hx⟩, ⟨hm, hT, hI, hS, rfl⟩, hd, hw, hR⟩ := H
  obtain ⟨V, hV, -⟩ := (tcell_O (τ := 8) rfl).mp (hW x 8 hx)
  refine j_blk 783 [(3, .int (nI i)), (2, .ref (ad 0 0)), (1, .ref x), (0, .ref b)] [.int ((nI i) + 1), .ref b, .ref x] C k_law_778_5 rfl ?_
  refine j_sld C hX hbl (i + 1) (li_c (c := 1) rfl (by omega)) (li_n (c := 1) rfl (by omega) hL) d_law_783 ?_
  refine j_blk 788 [(3, .int (nI i)), (2, .ref (ad 0 0)), (1, .ref x), (0, .ref b)] [.int ((nI i) + 2), .ref b, .int (xs (i + 1)), .ref x] C k_law_784_4 rfl ?_
  refine j_sld C hX hbl (i + 2) (li_c (c := 2) rfl (by omega)) (li_n (c := 2) rfl (by omega) hL) d_law_788 ?_
  refine j_blk 793 [(3, .int (nI i)), (2, .ref (ad 0 0)), (1, .ref x), (0, .ref b)] [.int ((nI i) + 3), .ref b, .int (xs (i + 2)), .int (xs (i + 1)), .ref x] C k_law_789_4 rfl ?_
  refine j_sld C hX hbl (i + 3) (li_c (c := 3) rfl (by omega)) (li_n (c := 3) rfl (by omega) hL) d_law_793 ?_
  refine j_blk 798 [(3, .int (nI i)), (2, .ref (ad 0 0)), (1, .ref x), (0, .ref b)] [.int ((nI i) + 4), .ref b, .int (xs (i + 3)), .int (xs (i + 2)), .int (xs (i + 1)), .ref x] C k_law_794_4 rfl ?_
  refine j_sld C hX hbl (i + 4) (li_c (c := 4) rfl (by omega)) (li_n (c := 4) rfl (by omega) hL) d_law_798 ?_
  refine j_blk 803 [(3, .int (nI i)), (2, .ref (ad 0 0)), (1, .ref x), (0, .ref b)] [.int ((nI i) + 5), .ref b, .int (xs (i + 4)), .int (xs (i + 3)), .int (xs (i + 2)), .int (xs (i + 1)), .ref x] C k_law_799_4 rfl ?_
  refine j_sld C hX hbl (i + 5) (li_c (c := 5) rfl (by omega)) (li_n (c := 5) rfl (by omega) hL) d_law_803 ?_
  refine j_blk 809 [(3, .int (nI i)), (2, .ref (ad 0 0)), (1, .ref x), (0, .ref b)] [.int ((nI i) + 6), .ref b, .int (xs (i + 5)), .int (xs (i + 4)), .int (xs (i + 3)), .int (xs (i + 2)), .int (xs (i + 1)), .ref x] C k_law_804_4 rfl ?_
  refine j_sld C hX hbl (i + 6) (li_c (c := 6) rfl (by omega)) (li_n (c := 6) rfl (by omega) hL) d_law_809 ?_
  have sat : tSat D G w (rhoL x [(xs (i + 1)), (xs (i + 2)), (xs (i + 3)), (xs (i + 4)), (xs (i + 5)), (xs (i + 6))]) (IE I_CS_often) := law_sat hx rfl rfl
  have cM : jMet (jGl g) D (jGB g) (jGH g) y_CS_often b_CS_often 11 (some .int) 127 3390 (KC - w.2.1) (KS - w.2.2) [.ref x, .int (xs (i + 1)), .int (xs (i + 2)), .int (xs (i + 3)), .int (xs (i + 4)), .int (xs (i + 5)), .int (xs (i + 6))] w (tEnd D I_CS_often G w (rhoL x [(xs (i + 1)), (xs (i + 2)), (xs (i + 3)), (xs (i + 4)), (xs (i + 5)), (xs (i + 6))])) := tc_CS_often (jGl g) D (jGB g) (jGH g) G w _ hW hb sat
  refine j_callV C Rm Y [.int (xs (i + 1)), .int (xs (i + 2)), .int (xs (i + 3)), .int (xs (i + 4)), .int (xs (i + 5)), .int (xs (i + 6))] [] cM cl_Law_84 (by rfl) (by rfl) hV d_law_810 rfl rfl (Nat.le_of_ble_eq_true rfl) ⟨Nat.le_of_ble_eq_true rfl, Nat.le_of_ble_eq_true rfl⟩ (law_room hb) (fun v1 w1 p1 => ?_)
  obtain ⟨z1, rfl⟩ := tEnd_I (by decide +kernel) p1
  obtain ⟨G1, C1, ⟨hW1, hb1, hx1⟩, hm1, hd1, hw1, hk1⟩ := law_tE (by decide +kernel) hx hw hm hd p1
  show JJ g w1 813 [(3, .int (nI i)), (2, .ref (ad 0 0)), (1, .ref x), (0, .ref b)] [.int z1]
  refine j_blk 819 [(3, .int (nI i)), (2, .ref (ad 0 0)), (1, .ref x), (0, .ref b)] [.int ((nI i) + 1), .ref b, .ref (ad 0 0)] C k_law_813_6 rfl ?_
  refine j_sld C hX hbl (i + 1) (li_c (c := 1) rfl (by omega)) (li_n (c := 1) rfl (by omega) hL) d_law_819 ?_
  refine j_blk 824 [(3, .int (nI i)), (2, .ref (ad 0 0)), (1, .ref x), (0, .ref b)] [.int ((nI i) + 2), .ref b, .int (xs (i + 1)), .ref (ad 0 0)] C k_law_820_4 rfl ?_
  refine j_sld C hX hbl (i + 2) (li_c (c := 2) rfl (by omega)) (li_n (c := 2) rfl (by omega) hL) d_law_824 ?_
  refine j_blk 829 [(3, .int (nI i)), (2, .ref (ad 0 0)), (1, .ref x), (0, .ref b)] [.int ((nI i) + 3), .ref b, .int (xs (i + 2)), .int (xs (i + 1)), .ref (ad 0 0)] C k_law_825_4 rfl ?_
  refine j_sld C hX hbl (i + 3) (li_c (c := 3) rfl (by omega)) (li_n (c := 3) rfl (by omega) hL) d_law_829 ?_
  refine j_blk 834 [(3, .int (nI i)), (2, .ref (ad 0 0)), (1, .ref x), (0, .ref b)] [.int ((nI i) + 4), .ref b, .int (xs (i + 3)), .int (xs (i + 2)), .int (xs (i + 1)), .ref (ad 0 0)] C k_law_830_4 rfl ?_
  refine j_sld C hX hbl (i + 4) (li_c (c := 4) rfl (by omega)) (li_n (c := 4) rfl (by omega) hL) d_law_834 ?_
  refine j_blk 839 [(3, .int (nI i)), (2, .ref (ad 0 0)), (1, .ref x), (0, .ref b)] [.int ((nI i) + 5), .ref b, .int (xs (i + 4)), .int (xs (i + 3)), .int (xs (i + 2)), .int (xs (i + 1)), .ref (ad 0 0)] C k_law_835_4 rfl ?_
  refine j_sld C hX hbl (i + 5) (li_c (c := 5) rfl (by omega)) (li_n (c := 5) rfl (by omega) hL) d_law_839 ?_
  refine j_blk 845 [(3, .int (nI i)), (2, .ref (ad 0 0)), (1, .ref x), (0, .ref b)] [.int ((nI i) + 6), .ref b, .int (xs (i + 5)), .int (xs (i + 4)), .int (xs (i + 3)), .int (xs (i + 2)), .int (xs (i + 1)), .ref (ad 0 0)] C k_law_840_4 rfl ?_
  refine j_sld C hX hbl (i + 6) (li_c (c := 6) rfl (by omega)) (li_n (c := 6) rfl (by omega) hL) d_law_845 ?_
  obtain ⟨Vm, hVm, -⟩ := (mcell_O rfl).mp (hm1.2 0 0 (by decide))
  have qM := q_often (jGl g) D (jGB g) (jGH g) ad A hT ((xs (i + 1))).toInt ((xs (i + 2))).toInt ((xs (i + 3))).toInt ((xs (i + 4))).toInt ((xs (i + 5))).toInt ((xs (i + 6))).toInt (ri _) (ri _) (ri _) (ri _) (ri _) (ri _) hI w1 hm1
  have eM : mSt ad [vr 0 0, vi ((xs (i + 1))).toInt, vi ((xs (i + 2))).toInt, vi ((xs (i + 3))).toInt, vi ((xs (i + 4))).toInt, vi ((xs (i + 5))).toInt, vi ((xs (i + 6))).toInt] = [.ref (ad 0 0), .int (xs (i + 1)), .int (xs (i + 2)), .int (xs (i + 3)), .int (xs (i + 4)), .int (xs (i + 5)), .int (xs (i + 6))] := by
    show [Value.ref (ad 0 0), mc ad (vi ((xs (i + 1))).toInt), mc ad (vi ((xs (i + 2))).toInt), mc ad (vi ((xs (i + 3))).toInt), mc ad (vi ((xs (i + 4))).toInt), mc ad (vi ((xs (i + 5))).toInt), mc ad (vi ((xs (i + 6))).toInt)] = _
    simp only [ms_i]
  rw [eM] at qM
  refine j_callV C Rm Y [.int (xs (i + 1)), .int (xs (i + 2)), .int (xs (i + 3)), .int (xs (i + 4)), .int (xs (i + 5)), .int (xs (i + 6))] [] qM cl_Law_87 (by rfl) (by rfl) hVm d_law_846 rfl rfl (Nat.le_of_ble_eq_true rfl) ⟨Nat.le_of_ble_eq_true rfl, Nat.le_of_ble_eq_true rfl⟩ (law_room0 hb1) (fun v2 w2 p2 => ?_)
  obtain ⟨v9, A9, rfl, ⟨z9, rfl, hT9, hE9, hz9, hI9⟩, hm9, hf9⟩ := p2
  have hR9 : R9 x C1 A9 := (R9.keepC hw hx hR hk1).M hE9 ⟨⟨rfl, rfl, rfl⟩, fun _ => rfl, fun _ => rfl, ⟨fun _ => rfl, fun _ => rfl, fun _ => rfl⟩, ⟨fun _ _ => rfl, fun _ _ => rfl, fun _ _ => rfl, fun _ _ => rfl, fun _ _ => rfl, fun _ _ => rfl, fun _ _ => rfl, fun _ _ => rfl, fun _ _ => rfl, fun _ _ => rfl, fun _ _ => rfl, fun _ _ => rfl, fun _ _ => rfl⟩⟩ (fun j => hE9 8 0 j rfl)
  obtain ⟨hW9, hb9⟩ := law_mE hW1 hb1 hd1 hm9 hf9
  have H9 : lawI D w2 x (ad 0 0) := ⟨G1, ad, A9, C1, ⟨hW9, hb9, hx1⟩, ⟨hm9, hT9, hI9, hS, rfl⟩, hd1, hw1.out hd1 hf9, hR9⟩
  show JJ g w2 849 [(3, .int (nI i)), (2, .ref (ad 0 0)), (1, .ref x), (0, .ref b)] [.int (Int32.ofInt z9)]
  refine j_blk 1147 [(3, .int (nI i)), (2, .ref (ad 0 0)), (1, .ref x), (0, .ref b)] [] C k_law_849_2 rfl ?_
  exact kk w2 H9
set_option maxHeartbeats 4000000 in
theorem lawc_17 {g : jG} {D : va_G} {b Ls i : Nat} {xs : Nat → Int32} {w : jW} {x m : Nat} (E : lawE g D b Ls xs) (hL : Ls ≤ 3584) (hi : i + 7 ≤ Ls) (H : lawI D w x m)
    (kk : ∀ w9 : jW, lawI D w9 x m → JJ g w9 1147 [(3, .int (nI i)), (2, .ref m), (1, .ref x), (0, .ref b)] []) : JJ g w 853 [(3, .int (nI i)), (2, .ref m), (1, .ref x), (0, .ref b)] [] := by
  obtain ⟨C, Rm, hX, hbl, -⟩ := E
  have Y : jY g (jGl g) (jGB g) (jGH g) (jGy g) := ⟨rfl, rfl, rfl, rfl⟩
  obtain ⟨G, ad, A, C0, ⟨hW, hb, hx⟩, ⟨hm, hT, hI, hS, rfl⟩, hd, hw, hR⟩ := H
  obtain ⟨V, hV, -⟩ := (tcell_O (τ := 8) rfl).mp (hW x 8 hx)
  refine j_blk 858 [(3, .int (nI i)), (2, .ref (ad 0 0)), (1, .ref x), (0, .ref b)] [.int ((nI i) + 1), .ref b, .ref x] C k_law_853_5 rfl ?_
  refine j_sld C hX hbl (i + 1) (li_c (c := 1) rfl (by omega)) (li_n (c := 1) rfl (by omega) hL) d_law_858 ?_
  refine j_blk 863 [(3, .int (nI i)), (2, .ref (ad 0 0)), (1, .ref x), (0, .ref b)] [.int ((nI i) + 2), .ref b, .int (xs (i + 1)), .ref x] C k_law_859_4 rfl ?_
  refine j_sld C hX hbl (i + 2) (li_c (c := 2) rfl (by omega)) (li_n (c := 2) rfl (by omega) hL) d_law_863 ?_
  refine j_blk 868 [(3, .int (nI i)), (2, .ref (ad 0 0)), (1, .ref x), (0, .ref b)] [.int ((nI i) + 3), .ref b, .int (xs (i + 2)), .int (xs (i + 1)), .ref x] C k_law_864_4 rfl ?_
  refine j_sld C hX hbl (i + 3) (li_c (c := 3) rfl (by omega)) (li_n (c := 3) rfl (by omega) hL) d_law_868 ?_
  refine j_blk 873 [(3, .int (nI i)), (2, .ref (ad 0 0)), (1, .ref x), (0, .ref b)] [.int ((nI i) + 4), .ref b, .int (xs (i + 3)), .int (xs (i + 2)), .int (xs (i + 1)), .ref x] C k_law_869_4 rfl ?_
  refine j_sld C hX hbl (i + 4) (li_c (c := 4) rfl (by omega)) (li_n (c := 4) rfl (by omega) hL) d_law_873 ?_
  have sat : tSat D G w (rhoL x [(xs (i + 1)), (xs (i + 2)), (xs (i + 3)), (xs (i + 4))]) (IE I_CS_tells) := law_sat hx rfl rfl
  have cM : jMet (jGl g) D (jGB g) (jGH g) y_CS_tells b_CS_tells 7 (some .int) 221 6318 (KC - w.2.1) (KS - w.2.2) [.ref x, .int (xs (i + 1)), .int (xs (i + 2)), .int (xs (i + 3)), .int (xs (i + 4))] w (tEnd D I_CS_tells G w (rhoL x [(xs (i + 1)), (xs (i + 2)), (xs (i + 3)), (xs (i + 4))])) := tc_CS_tells (jGl g) D (jGB g) (jGH g) G w _ hW hb sat
  refine j_callV C Rm Y [.int (xs (i + 1)), .int (xs (i + 2)), .int (xs (i + 3)), .int (xs (i + 4))] [] cM cl_Law_88 (by rfl) (by rfl) hV d_law_874 rfl rfl (Nat.le_of_ble_eq_true rfl) ⟨Nat.le_of_ble_eq_true rfl, Nat.le_of_ble_eq_true rfl⟩ (law_room hb) (fun v1 w1 p1 => ?_)
  obtain ⟨z1, rfl⟩ := tEnd_I (by decide +kernel) p1
  obtain ⟨G1, C1, ⟨hW1, hb1, hx1⟩, hm1, hd1, hw1, hk1⟩ := law_tE (by decide +kernel) hx hw hm hd p1
  show JJ g w1 877 [(3, .int (nI i)), (2, .ref (ad 0 0)), (1, .ref x), (0, .ref b)] [.int z1]
  refine j_blk 883 [(3, .int (nI i)), (2, .ref (ad 0 0)), (1, .ref x), (0, .ref b)] [.int ((nI i) + 1), .ref b, .ref (ad 0 0)] C k_law_877_6 rfl ?_
  refine j_sld C hX hbl (i + 1) (li_c (c := 1) rfl (by omega)) (li_n (c := 1) rfl (by omega) hL) d_law_883 ?_
  refine j_blk 888 [(3, .int (nI i)), (2, .ref (ad 0 0)), (1, .ref x), (0, .ref b)] [.int ((nI i) + 2), .ref b, .int (xs (i + 1)), .ref (ad 0 0)] C k_law_884_4 rfl ?_
  refine j_sld C hX hbl (i + 2) (li_c (c := 2) rfl (by omega)) (li_n (c := 2) rfl (by omega) hL) d_law_888 ?_
  refine j_blk 893 [(3, .int (nI i)), (2, .ref (ad 0 0)), (1, .ref x), (0, .ref b)] [.int ((nI i) + 3), .ref b, .int (xs (i + 2)), .int (xs (i + 1)), .ref (ad 0 0)] C k_law_889_4 rfl ?_
  refine j_sld C hX hbl (i + 3) (li_c (c := 3) rfl (by omega)) (li_n (c := 3) rfl (by omega) hL) d_law_893 ?_
  refine j_blk 898 [(3, .int (nI i)), (2, .ref (ad 0 0)), (1, .ref x), (0, .ref b)] [.int ((nI i) + 4), .ref b, .int (xs (i + 3)), .int (xs (i + 2)), .int (xs (i + 1)), .ref (ad 0 0)] C k_law_894_4 rfl ?_
  refine j_sld C hX hbl (i + 4) (li_c (c := 4) rfl (by omega)) (li_n (c := 4) rfl (by omega) hL) d_law_898 ?_
  obtain ⟨Vm, hVm, -⟩ := (mcell_O rfl).mp (hm1.2 0 0 (by decide))
  have qM := q_tells (jGl g) D (jGB g) (jGH g) ad A hT ((xs (i + 1))).toInt ((xs (i + 2))).toInt ((xs (i + 3))).toInt ((xs (i + 4))).toInt (ri _) (ri _) (ri _) (ri _) hI w1 hm1
  have eM : mSt ad [vr 0 0, vi ((xs (i + 1))).toInt, vi ((xs (i + 2))).toInt, vi ((xs (i + 3))).toInt, vi ((xs (i + 4))).toInt] = [.ref (ad 0 0), .int (xs (i + 1)), .int (xs (i + 2)), .int (xs (i + 3)), .int (xs (i + 4))] := by
    show [Value.ref (ad 0 0), mc ad (vi ((xs (i + 1))).toInt), mc ad (vi ((xs (i + 2))).toInt), mc ad (vi ((xs (i + 3))).toInt), mc ad (vi ((xs (i + 4))).toInt)] = _
    simp only [ms_i]
  rw [eM] at qM
  refine j_callV C Rm Y [.int (xs (i + 1)), .int (xs (i + 2)), .int (xs (i + 3)), .int (xs (i + 4))] [] qM cl_Law_92 (by rfl) (by rfl) hVm d_law_899 rfl rfl (Nat.le_of_ble_eq_true rfl) ⟨Nat.le_of_ble_eq_true rfl, Nat.le_of_ble_eq_true rfl⟩ (law_room0 hb1) (fun v2 w2 p2 => ?_)
  obtain ⟨v9, A9, rfl, ⟨z9, rfl, hT9, hE9, hz9, hI9, hs9⟩, hm9, hf9⟩ := p2
  have hR9 : R9 x C1 A9 := (R9.keepC hw hx hR hk1).M hE9 ⟨⟨rfl, rfl, rfl⟩, fun _ => rfl, fun _ => rfl, ⟨fun _ => rfl, fun _ => rfl, fun _ => rfl⟩, ⟨fun _ _ => rfl, fun _ _ => rfl, fun _ _ => rfl, fun _ _ => rfl, fun _ _ => rfl, fun _ _ => rfl, fun _ _ => rfl, fun _ _ => rfl, fun _ _ => rfl, fun _ _ => rfl, fun _ _ => rfl, fun _ _ => rfl, fun _ _ => rfl⟩⟩ (fun j => by cases j with | zero => exact hs9 | succ j => exact hE9 8 0 (j + 1) rfl)
  obtain ⟨hW9, hb9⟩ := law_mE hW1 hb1 hd1 hm9 hf9
  have H9 : lawI D w2 x (ad 0 0) := ⟨G1, ad, A9, C1, ⟨hW9, hb9, hx1⟩, ⟨hm9, hT9, hI9, hS, rfl⟩, hd1, hw1.out hd1 hf9, hR9⟩
  show JJ g w2 902 [(3, .int (nI i)), (2, .ref (ad 0 0)), (1, .ref x), (0, .ref b)] [.int (Int32.ofInt z9)]
  refine j_blk 1147 [(3, .int (nI i)), (2, .ref (ad 0 0)), (1, .ref x), (0, .ref b)] [] C k_law_902_2 rfl ?_
  exact kk w2 H9
set_option maxHeartbeats 4000000 in
theorem lawc_18 {g : jG} {D : va_G} {b Ls i : Nat} {xs : Nat → Int32} {w : jW} {x m : Nat} (E : lawE g D b Ls xs) (hL : Ls ≤ 3584) (hi : i + 7 ≤ Ls) (H : lawI D w x m)
    (kk : ∀ w9 : jW, lawI D w9 x m → JJ g w9 1147 [(3, .int (nI i)), (2, .ref m), (1, .ref x), (0, .ref b)] []) : JJ g w 906 [(3, .int (nI i)), (2, .ref m), (1, .ref x), (0, .ref b)] [] := by
  obtain ⟨C, Rm, hX, hbl, -⟩ := E
  have Y : jY g (jGl g) (jGB g) (jGH g) (jGy g) := ⟨rfl, rfl, rfl, rfl⟩
  obtain ⟨G, ad, A, C0, ⟨hW, hb, hx⟩, ⟨hm, hT, hI, hS, rfl⟩, hd, hw, hR⟩ := H
  obtain ⟨V, hV, -⟩ := (tcell_O (τ := 8) rfl).mp (hW x 8 hx)
  refine j_blk 911 [(3, .int (nI i)), (2, .ref (ad 0 0)), (1, .ref x), (0, .ref b)] [.int ((nI i) + 1), .ref b, .ref x] C k_law_906_5 rfl ?_
  refine j_sld C hX hbl (i + 1) (li_c (c := 1) rfl (by omega)) (li_n (c := 1) rfl (by omega) hL) d_law_911 ?_
  refine j_blk 916 [(3, .int (nI i)), (2, .ref (ad 0 0)), (1, .ref x), (0, .ref b)] [.int ((nI i) + 2), .ref b, .int (xs (i + 1)), .ref x] C k_law_912_4 rfl ?_
  refine j_sld C hX hbl (i + 2) (li_c (c := 2) rfl (by omega)) (li_n (c := 2) rfl (by omega) hL) d_law_916 ?_
  refine j_blk 921 [(3, .int (nI i)), (2, .ref (ad 0 0)), (1, .ref x), (0, .ref b)] [.int ((nI i) + 3), .ref b, .int (xs (i + 2)), .int (xs (i + 1)), .ref x] C k_law_917_4 rfl ?_
  refine j_sld C hX hbl (i + 3) (li_c (c := 3) rfl (by omega)) (li_n (c := 3) rfl (by omega) hL) d_law_921 ?_
  have sat : tSat D G w (rhoL x [(xs (i + 1)), (xs (i + 2)), (xs (i + 3))]) (IE I_CS_film) := law_sat hx rfl rfl
  have cM : jMet (jGl g) D (jGB g) (jGH g) y_CS_film b_CS_film 7 (some .int) 221 6311 (KC - w.2.1) (KS - w.2.2) [.ref x, .int (xs (i + 1)), .int (xs (i + 2)), .int (xs (i + 3))] w (tEnd D I_CS_film G w (rhoL x [(xs (i + 1)), (xs (i + 2)), (xs (i + 3))])) := tc_CS_film (jGl g) D (jGB g) (jGH g) G w _ hW hb sat
  refine j_callV C Rm Y [.int (xs (i + 1)), .int (xs (i + 2)), .int (xs (i + 3))] [] cM cl_Law_93 (by rfl) (by rfl) hV d_law_922 rfl rfl (Nat.le_of_ble_eq_true rfl) ⟨Nat.le_of_ble_eq_true rfl, Nat.le_of_ble_eq_true rfl⟩ (law_room hb) (fun v1 w1 p1 => ?_)
  obtain ⟨z1, rfl⟩ := tEnd_I (by decide +kernel) p1
  obtain ⟨G1, C1, ⟨hW1, hb1, hx1⟩, hm1, hd1, hw1, hk1⟩ := law_tE (by decide +kernel) hx hw hm hd p1
  show JJ g w1 925 [(3, .int (nI i)), (2, .ref (ad 0 0)), (1, .ref x), (0, .ref b)] [.int z1]
  refine j_blk 931 [(3, .int (nI i)), (2, .ref (ad 0 0)), (1, .ref x), (0, .ref b)] [.int ((nI i) + 1), .ref b, .ref (ad 0 0)] C k_law_925_6 rfl ?_
  refine j_sld C hX hbl (i + 1) (li_c (c := 1) rfl (by omega)) (li_n (c := 1) rfl (by omega) hL) d_law_931 ?_
  refine j_blk 936 [(3, .int (nI i)), (2, .ref (ad 0 0)), (1, .ref x), (0, .ref b)] [.int ((nI i) + 2), .ref b, .int (xs (i + 1)), .ref (ad 0 0)] C k_law_932_4 rfl ?_
  refine j_sld C hX hbl (i + 2) (li_c (c := 2) rfl (by omega)) (li_n (c := 2) rfl (by omega) hL) d_law_936 ?_
  refine j_blk 941 [(3, .int (nI i)), (2, .ref (ad 0 0)), (1, .ref x), (0, .ref b)] [.int ((nI i) + 3), .ref b, .int (xs (i + 2)), .int (xs (i + 1)), .ref (ad 0 0)] C k_law_937_4 rfl ?_
  refine j_sld C hX hbl (i + 3) (li_c (c := 3) rfl (by omega)) (li_n (c := 3) rfl (by omega) hL) d_law_941 ?_
  obtain ⟨Vm, hVm, -⟩ := (mcell_O rfl).mp (hm1.2 0 0 (by decide))
  have qM := q_film (jGl g) D (jGB g) (jGH g) ad A hT ((xs (i + 1))).toInt ((xs (i + 2))).toInt ((xs (i + 3))).toInt (ri _) (ri _) (ri _) hI w1 hm1
  have eM : mSt ad [vr 0 0, vi ((xs (i + 1))).toInt, vi ((xs (i + 2))).toInt, vi ((xs (i + 3))).toInt] = [.ref (ad 0 0), .int (xs (i + 1)), .int (xs (i + 2)), .int (xs (i + 3))] := by
    show [Value.ref (ad 0 0), mc ad (vi ((xs (i + 1))).toInt), mc ad (vi ((xs (i + 2))).toInt), mc ad (vi ((xs (i + 3))).toInt)] = _
    simp only [ms_i]
  rw [eM] at qM
  refine j_callV C Rm Y [.int (xs (i + 1)), .int (xs (i + 2)), .int (xs (i + 3))] [] qM cl_Law_96 (by rfl) (by rfl) hVm d_law_942 rfl rfl (Nat.le_of_ble_eq_true rfl) ⟨Nat.le_of_ble_eq_true rfl, Nat.le_of_ble_eq_true rfl⟩ (law_room0 hb1) (fun v2 w2 p2 => ?_)
  obtain ⟨v9, A9, rfl, ⟨z9, rfl, hT9, hE9, hz9, hI9⟩, hm9, hf9⟩ := p2
  have hR9 : R9 x C1 A9 := (R9.keepC hw hx hR hk1).M hE9 ⟨⟨rfl, rfl, rfl⟩, fun _ => rfl, fun _ => rfl, ⟨fun _ => rfl, fun _ => rfl, fun _ => rfl⟩, ⟨fun _ _ => rfl, fun _ _ => rfl, fun _ _ => rfl, fun _ _ => rfl, fun _ _ => rfl, fun _ _ => rfl, fun _ _ => rfl, fun _ _ => rfl, fun _ _ => rfl, fun _ _ => rfl, fun _ _ => rfl, fun _ _ => rfl, fun _ _ => rfl⟩⟩ (fun j => hE9 8 0 j rfl)
  obtain ⟨hW9, hb9⟩ := law_mE hW1 hb1 hd1 hm9 hf9
  have H9 : lawI D w2 x (ad 0 0) := ⟨G1, ad, A9, C1, ⟨hW9, hb9, hx1⟩, ⟨hm9, hT9, hI9, hS, rfl⟩, hd1, hw1.out hd1 hf9, hR9⟩
  show JJ g w2 945 [(3, .int (nI i)), (2, .ref (ad 0 0)), (1, .ref x), (0, .ref b)] [.int (Int32.ofInt z9)]
  refine j_blk 1147 [(3, .int (nI i)), (2, .ref (ad 0 0)), (1, .ref x), (0, .ref b)] [] C k_law_945_2 rfl ?_
  exact kk w2 H9
set_option maxHeartbeats 4000000 in
theorem lawc_19 {g : jG} {D : va_G} {b Ls i : Nat} {xs : Nat → Int32} {w : jW} {x m : Nat} (E : lawE g D b Ls xs) (hL : Ls ≤ 3584) (hi : i + 7 ≤ Ls) (H : lawI D w x m)
    (kk : ∀ w9 : jW, lawI D w9 x m → JJ g w9 1147 [(3, .int (nI i)), (2, .ref m), (1, .ref x), (0, .ref b)] []) : JJ g w 949 [(3, .int (nI i)), (2, .ref m), (1, .ref x), (0, .ref b)] [] := by
  obtain ⟨C, Rm, hX, hbl, -⟩ := E
  have Y : jY g (jGl g) (jGB g) (jGH g) (jGy g) := ⟨rfl, rfl, rfl, rfl⟩
  obtain ⟨G, ad, A, C0, ⟨hW, hb, hx⟩, ⟨hm, hT, hI, hS, rfl⟩, hd, hw, hR⟩ := H
  obtain ⟨V, hV, -⟩ := (tcell_O (τ := 8) rfl).mp (hW x 8 hx)
  refine j_blk 950 [(3, .int (nI i)), (2, .ref (ad 0 0)), (1, .ref x), (0, .ref b)] [.ref x] C k_law_949_1 rfl ?_
  have sat : tSat D G w (rhoL x []) (IE I_CS_image) := law_sat hx rfl rfl
  have cT : jMet (jGl g) D (jGB g) (jGH g) y_CS_image b_CS_image 1 (some .int) 0 0 (KC - w.2.1) (KS - w.2.2) [.ref x] w (tEnd D I_CS_image G w (rhoL x [])) := tc_CS_image (jGl g) D (jGB g) (jGH g) G w _ hW hb sat
  obtain ⟨z, B9, ⟨mc2, ms2, P2, q1, q2, cE, cK⟩, mF⟩ := b9_image (ad := ad) (jGl g) (jGB g) (jGH g) hw hx hR hT hI
  have cM := jMet_both (fr := 0) (lo := 0) cT cE (by decide) (by decide) (by decide) (by decide) q1 q2
  refine j_callV C Rm Y [] [] cM cl_Law_97 (by rfl) (by rfl) hV d_law_950 rfl rfl (Nat.le_of_ble_eq_true rfl) ⟨Nat.le_of_ble_eq_true rfl, Nat.le_of_ble_eq_true rfl⟩ (law_room hb) (fun v1 w1 p1 => ?_)
  obtain ⟨p1, w1b, p1b, hj1⟩ := p1
  obtain ⟨rfl, hq1⟩ := cK _ _ p1b
  obtain ⟨G1, C1, ⟨hW1, hb1, hx1⟩, hm1, hd1, hw1, hR1⟩ := face_cE hx hm hd p1 hj1 hq1
  show JJ g w1 953 [(3, .int (nI i)), (2, .ref (ad 0 0)), (1, .ref x), (0, .ref b)] [.int (Int32.ofInt z)]
  refine j_blk 955 [(3, .int (nI i)), (2, .ref (ad 0 0)), (1, .ref x), (0, .ref b)] [.ref (ad 0 0)] C k_law_953_2 rfl ?_
  obtain ⟨Vm, hVm, -⟩ := (mcell_O rfl).mp (hm1.2 0 0 (by decide))
  obtain ⟨P3, qM, mK⟩ := mF w1 hm1
  refine j_callV C Rm Y [] [] qM cl_Law_100 (by rfl) (by rfl) hVm d_law_955 rfl rfl (Nat.le_of_ble_eq_true rfl) ⟨Nat.le_of_ble_eq_true rfl, Nat.le_of_ble_eq_true rfl⟩ (law_room0 hb1) (fun v2 w2 p2 => ?_)
  obtain ⟨rfl, A9, hm9, hf9, hT9, hI9, hk9⟩ := mK _ _ p2
  have hR9 := hk9 C1 hR1
  obtain ⟨hW9, hb9⟩ := law_mE hW1 hb1 hd1 hm9 hf9
  have H9 : lawI D w2 x (ad 0 0) := ⟨G1, ad, A9, C1, ⟨hW9, hb9, hx1⟩, ⟨hm9, hT9, hI9, hS, rfl⟩, hd1, hw1.out hd1 hf9, hR9⟩
  show JJ g w2 958 [(3, .int (nI i)), (2, .ref (ad 0 0)), (1, .ref x), (0, .ref b)] [.int (Int32.ofInt z)]
  refine j_blk 1147 [(3, .int (nI i)), (2, .ref (ad 0 0)), (1, .ref x), (0, .ref b)] [] C k_law_958_2 rfl ?_
  exact kk w2 H9
set_option maxHeartbeats 4000000 in
theorem lawc_20 {g : jG} {D : va_G} {b Ls i : Nat} {xs : Nat → Int32} {w : jW} {x m : Nat} (E : lawE g D b Ls xs) (hL : Ls ≤ 3584) (hi : i + 7 ≤ Ls) (H : lawI D w x m)
    (kk : ∀ w9 : jW, lawI D w9 x m → JJ g w9 1147 [(3, .int (nI i)), (2, .ref m), (1, .ref x), (0, .ref b)] []) : JJ g w 962 [(3, .int (nI i)), (2, .ref m), (1, .ref x), (0, .ref b)] [] := by
  obtain ⟨C, Rm, hX, hbl, -⟩ := E
  have Y : jY g (jGl g) (jGB g) (jGH g) (jGy g) := ⟨rfl, rfl, rfl, rfl⟩
  obtain ⟨G, ad, A, C0, ⟨hW, hb, hx⟩, ⟨hm, hT, hI, hS, rfl⟩, hd, hw, hR⟩ := H
  obtain ⟨V, hV, -⟩ := (tcell_O (τ := 8) rfl).mp (hW x 8 hx)
  refine j_blk 963 [(3, .int (nI i)), (2, .ref (ad 0 0)), (1, .ref x), (0, .ref b)] [.ref x] C k_law_962_1 rfl ?_
  have sat : tSat D G w (rhoL x []) (IE I_CS_back) := law_sat hx rfl rfl
  have cT : jMet (jGl g) D (jGB g) (jGH g) y_CS_back b_CS_back 1 (some .int) 0 0 (KC - w.2.1) (KS - w.2.2) [.ref x] w (tEnd D I_CS_back G w (rhoL x [])) := tc_CS_back (jGl g) D (jGB g) (jGH g) G w _ hW hb sat
  obtain ⟨z, B9, ⟨mc2, ms2, P2, q1, q2, cE, cK⟩, mF⟩ := b9_back (ad := ad) (jGl g) (jGB g) (jGH g) hw hx hR hT hI
  have cM := jMet_both (fr := 0) (lo := 0) cT cE (by decide) (by decide) (by decide) (by decide) q1 q2
  refine j_callV C Rm Y [] [] cM cl_Law_101 (by rfl) (by rfl) hV d_law_963 rfl rfl (Nat.le_of_ble_eq_true rfl) ⟨Nat.le_of_ble_eq_true rfl, Nat.le_of_ble_eq_true rfl⟩ (law_room hb) (fun v1 w1 p1 => ?_)
  obtain ⟨p1, w1b, p1b, hj1⟩ := p1
  obtain ⟨rfl, hq1⟩ := cK _ _ p1b
  obtain ⟨G1, C1, ⟨hW1, hb1, hx1⟩, hm1, hd1, hw1, hR1⟩ := face_cE hx hm hd p1 hj1 hq1
  show JJ g w1 966 [(3, .int (nI i)), (2, .ref (ad 0 0)), (1, .ref x), (0, .ref b)] [.int (Int32.ofInt z)]
  refine j_blk 968 [(3, .int (nI i)), (2, .ref (ad 0 0)), (1, .ref x), (0, .ref b)] [.ref (ad 0 0)] C k_law_966_2 rfl ?_
  obtain ⟨Vm, hVm, -⟩ := (mcell_O rfl).mp (hm1.2 0 0 (by decide))
  obtain ⟨P3, qM, mK⟩ := mF w1 hm1
  refine j_callV C Rm Y [] [] qM cl_Law_104 (by rfl) (by rfl) hVm d_law_968 rfl rfl (Nat.le_of_ble_eq_true rfl) ⟨Nat.le_of_ble_eq_true rfl, Nat.le_of_ble_eq_true rfl⟩ (law_room0 hb1) (fun v2 w2 p2 => ?_)
  obtain ⟨rfl, A9, hm9, hf9, hT9, hI9, hk9⟩ := mK _ _ p2
  have hR9 := hk9 C1 hR1
  obtain ⟨hW9, hb9⟩ := law_mE hW1 hb1 hd1 hm9 hf9
  have H9 : lawI D w2 x (ad 0 0) := ⟨G1, ad, A9, C1, ⟨hW9, hb9, hx1⟩, ⟨hm9, hT9, hI9, hS, rfl⟩, hd1, hw1.out hd1 hf9, hR9⟩
  show JJ g w2 971 [(3, .int (nI i)), (2, .ref (ad 0 0)), (1, .ref x), (0, .ref b)] [.int (Int32.ofInt z)]
  refine j_blk 1147 [(3, .int (nI i)), (2, .ref (ad 0 0)), (1, .ref x), (0, .ref b)] [] C k_law_971_2 rfl ?_
  exact kk w2 H9
set_option maxHeartbeats 4000000 in
theorem lawc_21 {g : jG} {D : va_G} {b Ls i : Nat} {xs : Nat → Int32} {w : jW} {x m : Nat} (E : lawE g D b Ls xs) (hL : Ls ≤ 3584) (hi : i + 7 ≤ Ls) (H : lawI D w x m)
    (kk : ∀ w9 : jW, lawI D w9 x m → JJ g w9 1147 [(3, .int (nI i)), (2, .ref m), (1, .ref x), (0, .ref b)] []) : JJ g w 975 [(3, .int (nI i)), (2, .ref m), (1, .ref x), (0, .ref b)] [] := by
  obtain ⟨C, Rm, hX, hbl, -⟩ := E
  have Y : jY g (jGl g) (jGB g) (jGH g) (jGy g) := ⟨rfl, rfl, rfl, rfl⟩
  obtain ⟨G, ad, A, C0, ⟨hW, hb, hx⟩, ⟨hm, hT, hI, hS, rfl⟩, hd, hw, hR⟩ := H
  obtain ⟨V, hV, -⟩ := (tcell_O (τ := 8) rfl).mp (hW x 8 hx)
  refine j_blk 980 [(3, .int (nI i)), (2, .ref (ad 0 0)), (1, .ref x), (0, .ref b)] [.int ((nI i) + 1), .ref b, .ref x] C k_law_975_5 rfl ?_
  refine j_sld C hX hbl (i + 1) (li_c (c := 1) rfl (by omega)) (li_n (c := 1) rfl (by omega) hL) d_law_980 ?_
  have sat : tSat D G w (rhoL x [(xs (i + 1))]) (IE I_CS_count) := law_sat hx rfl rfl
  have cM : jMet (jGl g) D (jGB g) (jGH g) y_CS_count b_CS_count 2 (some .int) 2 62 (KC - w.2.1) (KS - w.2.2) [.ref x, .int (xs (i + 1))] w (tEnd D I_CS_count G w (rhoL x [(xs (i + 1))])) := tc_CS_count (jGl g) D (jGB g) (jGH g) G w _ hW hb sat
  refine j_callV C Rm Y [.int (xs (i + 1))] [] cM cl_Law_105 (by rfl) (by rfl) hV d_law_981 rfl rfl (Nat.le_of_ble_eq_true rfl) ⟨Nat.le_of_ble_eq_true rfl, Nat.le_of_ble_eq_true rfl⟩ (law_room hb) (fun v1 w1 p1 => ?_)
  obtain ⟨z1, rfl⟩ := tEnd_I (by decide +kernel) p1
  obtain ⟨G1, C1, ⟨hW1, hb1, hx1⟩, hm1, hd1, hw1, hk1⟩ := law_tE (by decide +kernel) hx hw hm hd p1
  show JJ g w1 984 [(3, .int (nI i)), (2, .ref (ad 0 0)), (1, .ref x), (0, .ref b)] [.int z1]
  refine j_blk 990 [(3, .int (nI i)), (2, .ref (ad 0 0)), (1, .ref x), (0, .ref b)] [.int ((nI i) + 1), .ref b, .ref (ad 0 0)] C k_law_984_6 rfl ?_
  refine j_sld C hX hbl (i + 1) (li_c (c := 1) rfl (by omega)) (li_n (c := 1) rfl (by omega) hL) d_law_990 ?_
  obtain ⟨Vm, hVm, -⟩ := (mcell_O rfl).mp (hm1.2 0 0 (by decide))
  have qM := q_count (jGl g) D (jGB g) (jGH g) ad A hT ((xs (i + 1))).toInt (ri _) hI w1 hm1
  have eM : mSt ad [vr 0 0, vi ((xs (i + 1))).toInt] = [.ref (ad 0 0), .int (xs (i + 1))] := by
    show [Value.ref (ad 0 0), mc ad (vi ((xs (i + 1))).toInt)] = _
    simp only [ms_i]
  rw [eM] at qM
  refine j_callV C Rm Y [.int (xs (i + 1))] [] qM cl_Law_109 (by rfl) (by rfl) hVm d_law_991 rfl rfl (Nat.le_of_ble_eq_true rfl) ⟨Nat.le_of_ble_eq_true rfl, Nat.le_of_ble_eq_true rfl⟩ (law_room0 hb1) (fun v2 w2 p2 => ?_)
  obtain ⟨v9, A9, rfl, ⟨z9, rfl, hT9, hE9, hz9, hI9⟩, hm9, hf9⟩ := p2
  have hR9 : R9 x C1 A9 := (R9.keepC hw hx hR hk1).M hE9 ⟨⟨rfl, rfl, rfl⟩, fun _ => rfl, fun _ => rfl, ⟨fun _ => rfl, fun _ => rfl, fun _ => rfl⟩, ⟨fun _ _ => rfl, fun _ _ => rfl, fun _ _ => rfl, fun _ _ => rfl, fun _ _ => rfl, fun _ _ => rfl, fun _ _ => rfl, fun _ _ => rfl, fun _ _ => rfl, fun _ _ => rfl, fun _ _ => rfl, fun _ _ => rfl, fun _ _ => rfl⟩⟩ (fun j => hE9 8 0 j rfl)
  obtain ⟨hW9, hb9⟩ := law_mE hW1 hb1 hd1 hm9 hf9
  have H9 : lawI D w2 x (ad 0 0) := ⟨G1, ad, A9, C1, ⟨hW9, hb9, hx1⟩, ⟨hm9, hT9, hI9, hS, rfl⟩, hd1, hw1.out hd1 hf9, hR9⟩
  show JJ g w2 994 [(3, .int (nI i)), (2, .ref (ad 0 0)), (1, .ref x), (0, .ref b)] [.int (Int32.ofInt z9)]
  refine j_blk 1147 [(3, .int (nI i)), (2, .ref (ad 0 0)), (1, .ref x), (0, .ref b)] [] C k_law_994_2 rfl ?_
  exact kk w2 H9
set_option maxHeartbeats 4000000 in
theorem lawc_22 {g : jG} {D : va_G} {b Ls i : Nat} {xs : Nat → Int32} {w : jW} {x m : Nat} (E : lawE g D b Ls xs) (hL : Ls ≤ 3584) (hi : i + 7 ≤ Ls) (H : lawI D w x m)
    (kk : ∀ w9 : jW, lawI D w9 x m → JJ g w9 1147 [(3, .int (nI i)), (2, .ref m), (1, .ref x), (0, .ref b)] []) : JJ g w 998 [(3, .int (nI i)), (2, .ref m), (1, .ref x), (0, .ref b)] [] := by
  obtain ⟨C, Rm, hX, hbl, -⟩ := E
  have Y : jY g (jGl g) (jGB g) (jGH g) (jGy g) := ⟨rfl, rfl, rfl, rfl⟩
  obtain ⟨G, ad, A, C0, ⟨hW, hb, hx⟩, ⟨hm, hT, hI, hS, rfl⟩, hd, hw, hR⟩ := H
  obtain ⟨V, hV, -⟩ := (tcell_O (τ := 8) rfl).mp (hW x 8 hx)
  refine j_blk 1003 [(3, .int (nI i)), (2, .ref (ad 0 0)), (1, .ref x), (0, .ref b)] [.int ((nI i) + 1), .ref b, .ref x] C k_law_998_5 rfl ?_
  refine j_sld C hX hbl (i + 1) (li_c (c := 1) rfl (by omega)) (li_n (c := 1) rfl (by omega) hL) d_law_1003 ?_
  refine j_blk 1008 [(3, .int (nI i)), (2, .ref (ad 0 0)), (1, .ref x), (0, .ref b)] [.int ((nI i) + 2), .ref b, .int (xs (i + 1)), .ref x] C k_law_1004_4 rfl ?_
  refine j_sld C hX hbl (i + 2) (li_c (c := 2) rfl (by omega)) (li_n (c := 2) rfl (by omega) hL) d_law_1008 ?_
  refine j_blk 1013 [(3, .int (nI i)), (2, .ref (ad 0 0)), (1, .ref x), (0, .ref b)] [.int ((nI i) + 3), .ref b, .int (xs (i + 2)), .int (xs (i + 1)), .ref x] C k_law_1009_4 rfl ?_
  refine j_sld C hX hbl (i + 3) (li_c (c := 3) rfl (by omega)) (li_n (c := 3) rfl (by omega) hL) d_law_1013 ?_
  have sat : tSat D G w (rhoL x [(xs (i + 1)), (xs (i + 2)), (xs (i + 3))]) (IE I_CS_sheet) := law_sat hx rfl rfl
  have cM : jMet (jGl g) D (jGB g) (jGH g) y_CS_sheet b_CS_sheet 4 (some .int) 1 40 (KC - w.2.1) (KS - w.2.2) [.ref x, .int (xs (i + 1)), .int (xs (i + 2)), .int (xs (i + 3))] w (tEnd D I_CS_sheet G w (rhoL x [(xs (i + 1)), (xs (i + 2)), (xs (i + 3))])) := tc_CS_sheet (jGl g) D (jGB g) (jGH g) G w _ hW hb sat
  refine j_callV C Rm Y [.int (xs (i + 1)), .int (xs (i + 2)), .int (xs (i + 3))] [] cM cl_Law_110 (by rfl) (by rfl) hV d_law_1014 rfl rfl (Nat.le_of_ble_eq_true rfl) ⟨Nat.le_of_ble_eq_true rfl, Nat.le_of_ble_eq_true rfl⟩ (law_room hb) (fun v1 w1 p1 => ?_)
  obtain ⟨z1, rfl⟩ := tEnd_I (by decide +kernel) p1
  obtain ⟨G1, C1, ⟨hW1, hb1, hx1⟩, hm1, hd1, hw1, hk1⟩ := law_tE (by decide +kernel) hx hw hm hd p1
  show JJ g w1 1017 [(3, .int (nI i)), (2, .ref (ad 0 0)), (1, .ref x), (0, .ref b)] [.int z1]
  refine j_blk 1023 [(3, .int (nI i)), (2, .ref (ad 0 0)), (1, .ref x), (0, .ref b)] [.int ((nI i) + 1), .ref b, .ref (ad 0 0)] C k_law_1017_6 rfl ?_
  refine j_sld C hX hbl (i + 1) (li_c (c := 1) rfl (by omega)) (li_n (c := 1) rfl (by omega) hL) d_law_1023 ?_
  refine j_blk 1028 [(3, .int (nI i)), (2, .ref (ad 0 0)), (1, .ref x), (0, .ref b)] [.int ((nI i) + 2), .ref b, .int (xs (i + 1)), .ref (ad 0 0)] C k_law_1024_4 rfl ?_
  refine j_sld C hX hbl (i + 2) (li_c (c := 2) rfl (by omega)) (li_n (c := 2) rfl (by omega) hL) d_law_1028 ?_
  refine j_blk 1033 [(3, .int (nI i)), (2, .ref (ad 0 0)), (1, .ref x), (0, .ref b)] [.int ((nI i) + 3), .ref b, .int (xs (i + 2)), .int (xs (i + 1)), .ref (ad 0 0)] C k_law_1029_4 rfl ?_
  refine j_sld C hX hbl (i + 3) (li_c (c := 3) rfl (by omega)) (li_n (c := 3) rfl (by omega) hL) d_law_1033 ?_
  obtain ⟨Vm, hVm, -⟩ := (mcell_O rfl).mp (hm1.2 0 0 (by decide))
  have qM := q_sheet (jGl g) D (jGB g) (jGH g) ad A hT ((xs (i + 1))).toInt ((xs (i + 2))).toInt ((xs (i + 3))).toInt (ri _) (ri _) (ri _) hI w1 hm1
  have eM : mSt ad [vr 0 0, vi ((xs (i + 1))).toInt, vi ((xs (i + 2))).toInt, vi ((xs (i + 3))).toInt] = [.ref (ad 0 0), .int (xs (i + 1)), .int (xs (i + 2)), .int (xs (i + 3))] := by
    show [Value.ref (ad 0 0), mc ad (vi ((xs (i + 1))).toInt), mc ad (vi ((xs (i + 2))).toInt), mc ad (vi ((xs (i + 3))).toInt)] = _
    simp only [ms_i]
  rw [eM] at qM
  refine j_callV C Rm Y [.int (xs (i + 1)), .int (xs (i + 2)), .int (xs (i + 3))] [] qM cl_Law_113 (by rfl) (by rfl) hVm d_law_1034 rfl rfl (Nat.le_of_ble_eq_true rfl) ⟨Nat.le_of_ble_eq_true rfl, Nat.le_of_ble_eq_true rfl⟩ (law_room0 hb1) (fun v2 w2 p2 => ?_)
  obtain ⟨v9, A9, rfl, ⟨z9, rfl, hT9, hE9, hz9, hI9⟩, hm9, hf9⟩ := p2
  have hR9 : R9 x C1 A9 := (R9.keepC hw hx hR hk1).M hE9 ⟨⟨rfl, rfl, rfl⟩, fun _ => rfl, fun _ => rfl, ⟨fun _ => rfl, fun _ => rfl, fun _ => rfl⟩, ⟨fun _ _ => rfl, fun _ _ => rfl, fun _ _ => rfl, fun _ _ => rfl, fun _ _ => rfl, fun _ _ => rfl, fun _ _ => rfl, fun _ _ => rfl, fun _ _ => rfl, fun _ _ => rfl, fun _ _ => rfl, fun _ _ => rfl, fun _ _ => rfl⟩⟩ (fun j => hE9 8 0 j rfl)
  obtain ⟨hW9, hb9⟩ := law_mE hW1 hb1 hd1 hm9 hf9
  have H9 : lawI D w2 x (ad 0 0) := ⟨G1, ad, A9, C1, ⟨hW9, hb9, hx1⟩, ⟨hm9, hT9, hI9, hS, rfl⟩, hd1, hw1.out hd1 hf9, hR9⟩
  show JJ g w2 1037 [(3, .int (nI i)), (2, .ref (ad 0 0)), (1, .ref x), (0, .ref b)] [.int (Int32.ofInt z9)]
  refine j_blk 1147 [(3, .int (nI i)), (2, .ref (ad 0 0)), (1, .ref x), (0, .ref b)] [] C k_law_1037_2 rfl ?_
  exact kk w2 H9
set_option maxHeartbeats 4000000 in
theorem lawc_23 {g : jG} {D : va_G} {b Ls i : Nat} {xs : Nat → Int32} {w : jW} {x m : Nat} (E : lawE g D b Ls xs) (hL : Ls ≤ 3584) (hi : i + 7 ≤ Ls) (H : lawI D w x m)
    (kk : ∀ w9 : jW, lawI D w9 x m → JJ g w9 1147 [(3, .int (nI i)), (2, .ref m), (1, .ref x), (0, .ref b)] []) : JJ g w 1041 [(3, .int (nI i)), (2, .ref m), (1, .ref x), (0, .ref b)] [] := by
  obtain ⟨C, Rm, hX, hbl, -⟩ := E
  have Y : jY g (jGl g) (jGB g) (jGH g) (jGy g) := ⟨rfl, rfl, rfl, rfl⟩
  obtain ⟨G, ad, A, C0, ⟨hW, hb, hx⟩, ⟨hm, hT, hI, hS, rfl⟩, hd, hw, hR⟩ := H
  obtain ⟨V, hV, -⟩ := (tcell_O (τ := 8) rfl).mp (hW x 8 hx)
  refine j_blk 1046 [(3, .int (nI i)), (2, .ref (ad 0 0)), (1, .ref x), (0, .ref b)] [.int ((nI i) + 1), .ref b, .ref x] C k_law_1041_5 rfl ?_
  refine j_sld C hX hbl (i + 1) (li_c (c := 1) rfl (by omega)) (li_n (c := 1) rfl (by omega) hL) d_law_1046 ?_
  refine j_blk 1051 [(3, .int (nI i)), (2, .ref (ad 0 0)), (1, .ref x), (0, .ref b)] [.int ((nI i) + 2), .ref b, .int (xs (i + 1)), .ref x] C k_law_1047_4 rfl ?_
  refine j_sld C hX hbl (i + 2) (li_c (c := 2) rfl (by omega)) (li_n (c := 2) rfl (by omega) hL) d_law_1051 ?_
  refine j_blk 1056 [(3, .int (nI i)), (2, .ref (ad 0 0)), (1, .ref x), (0, .ref b)] [.int ((nI i) + 3), .ref b, .int (xs (i + 2)), .int (xs (i + 1)), .ref x] C k_law_1052_4 rfl ?_
  refine j_sld C hX hbl (i + 3) (li_c (c := 3) rfl (by omega)) (li_n (c := 3) rfl (by omega) hL) d_law_1056 ?_
  have sat : tSat D G w (rhoL x [(xs (i + 1)), (xs (i + 2)), (xs (i + 3))]) (IE I_CS_cell) := law_sat hx rfl rfl
  have cM : jMet (jGl g) D (jGB g) (jGH g) y_CS_cell b_CS_cell 5 (some .int) 1 40 (KC - w.2.1) (KS - w.2.2) [.ref x, .int (xs (i + 1)), .int (xs (i + 2)), .int (xs (i + 3))] w (tEnd D I_CS_cell G w (rhoL x [(xs (i + 1)), (xs (i + 2)), (xs (i + 3))])) := tc_CS_cell (jGl g) D (jGB g) (jGH g) G w _ hW hb sat
  refine j_callV C Rm Y [.int (xs (i + 1)), .int (xs (i + 2)), .int (xs (i + 3))] [] cM cl_Law_114 (by rfl) (by rfl) hV d_law_1057 rfl rfl (Nat.le_of_ble_eq_true rfl) ⟨Nat.le_of_ble_eq_true rfl, Nat.le_of_ble_eq_true rfl⟩ (law_room hb) (fun v1 w1 p1 => ?_)
  obtain ⟨z1, rfl⟩ := tEnd_I (by decide +kernel) p1
  obtain ⟨G1, C1, ⟨hW1, hb1, hx1⟩, hm1, hd1, hw1, hk1⟩ := law_tE (by decide +kernel) hx hw hm hd p1
  show JJ g w1 1060 [(3, .int (nI i)), (2, .ref (ad 0 0)), (1, .ref x), (0, .ref b)] [.int z1]
  refine j_blk 1066 [(3, .int (nI i)), (2, .ref (ad 0 0)), (1, .ref x), (0, .ref b)] [.int ((nI i) + 1), .ref b, .ref (ad 0 0)] C k_law_1060_6 rfl ?_
  refine j_sld C hX hbl (i + 1) (li_c (c := 1) rfl (by omega)) (li_n (c := 1) rfl (by omega) hL) d_law_1066 ?_
  refine j_blk 1071 [(3, .int (nI i)), (2, .ref (ad 0 0)), (1, .ref x), (0, .ref b)] [.int ((nI i) + 2), .ref b, .int (xs (i + 1)), .ref (ad 0 0)] C k_law_1067_4 rfl ?_
  refine j_sld C hX hbl (i + 2) (li_c (c := 2) rfl (by omega)) (li_n (c := 2) rfl (by omega) hL) d_law_1071 ?_
  refine j_blk 1076 [(3, .int (nI i)), (2, .ref (ad 0 0)), (1, .ref x), (0, .ref b)] [.int ((nI i) + 3), .ref b, .int (xs (i + 2)), .int (xs (i + 1)), .ref (ad 0 0)] C k_law_1072_4 rfl ?_
  refine j_sld C hX hbl (i + 3) (li_c (c := 3) rfl (by omega)) (li_n (c := 3) rfl (by omega) hL) d_law_1076 ?_
  obtain ⟨Vm, hVm, -⟩ := (mcell_O rfl).mp (hm1.2 0 0 (by decide))
  have qM := q_cell (jGl g) D (jGB g) (jGH g) ad A hT ((xs (i + 1))).toInt ((xs (i + 2))).toInt ((xs (i + 3))).toInt (ri _) (ri _) (ri _) hI w1 hm1
  have eM : mSt ad [vr 0 0, vi ((xs (i + 1))).toInt, vi ((xs (i + 2))).toInt, vi ((xs (i + 3))).toInt] = [.ref (ad 0 0), .int (xs (i + 1)), .int (xs (i + 2)), .int (xs (i + 3))] := by
    show [Value.ref (ad 0 0), mc ad (vi ((xs (i + 1))).toInt), mc ad (vi ((xs (i + 2))).toInt), mc ad (vi ((xs (i + 3))).toInt)] = _
    simp only [ms_i]
  rw [eM] at qM
  refine j_callV C Rm Y [.int (xs (i + 1)), .int (xs (i + 2)), .int (xs (i + 3))] [] qM cl_Law_117 (by rfl) (by rfl) hVm d_law_1077 rfl rfl (Nat.le_of_ble_eq_true rfl) ⟨Nat.le_of_ble_eq_true rfl, Nat.le_of_ble_eq_true rfl⟩ (law_room0 hb1) (fun v2 w2 p2 => ?_)
  obtain ⟨v9, A9, rfl, ⟨z9, rfl, hT9, hE9, hz9, hI9⟩, hm9, hf9⟩ := p2
  have hR9 : R9 x C1 A9 := (R9.keepC hw hx hR hk1).M hE9 ⟨⟨rfl, rfl, rfl⟩, fun _ => rfl, fun _ => rfl, ⟨fun _ => rfl, fun _ => rfl, fun _ => rfl⟩, ⟨fun _ _ => rfl, fun _ _ => rfl, fun _ _ => rfl, fun _ _ => rfl, fun _ _ => rfl, fun _ _ => rfl, fun _ _ => rfl, fun _ _ => rfl, fun _ _ => rfl, fun _ _ => rfl, fun _ _ => rfl, fun _ _ => rfl, fun _ _ => rfl⟩⟩ (fun j => hE9 8 0 j rfl)
  obtain ⟨hW9, hb9⟩ := law_mE hW1 hb1 hd1 hm9 hf9
  have H9 : lawI D w2 x (ad 0 0) := ⟨G1, ad, A9, C1, ⟨hW9, hb9, hx1⟩, ⟨hm9, hT9, hI9, hS, rfl⟩, hd1, hw1.out hd1 hf9, hR9⟩
  show JJ g w2 1080 [(3, .int (nI i)), (2, .ref (ad 0 0)), (1, .ref x), (0, .ref b)] [.int (Int32.ofInt z9)]
  refine j_blk 1147 [(3, .int (nI i)), (2, .ref (ad 0 0)), (1, .ref x), (0, .ref b)] [] C k_law_1080_2 rfl ?_
  exact kk w2 H9
set_option maxHeartbeats 4000000 in
theorem lawc_24 {g : jG} {D : va_G} {b Ls i : Nat} {xs : Nat → Int32} {w : jW} {x m : Nat} (E : lawE g D b Ls xs) (hL : Ls ≤ 3584) (hi : i + 7 ≤ Ls) (H : lawI D w x m)
    (kk : ∀ w9 : jW, lawI D w9 x m → JJ g w9 1147 [(3, .int (nI i)), (2, .ref m), (1, .ref x), (0, .ref b)] []) : JJ g w 1084 [(3, .int (nI i)), (2, .ref m), (1, .ref x), (0, .ref b)] [] := by
  obtain ⟨C, Rm, hX, hbl, -⟩ := E
  have Y : jY g (jGl g) (jGB g) (jGH g) (jGy g) := ⟨rfl, rfl, rfl, rfl⟩
  obtain ⟨G, ad, A, C0, ⟨hW, hb, hx⟩, ⟨hm, hT, hI, hS, rfl⟩, hd, hw, hR⟩ := H
  obtain ⟨V, hV, -⟩ := (tcell_O (τ := 8) rfl).mp (hW x 8 hx)
  refine j_blk 1089 [(3, .int (nI i)), (2, .ref (ad 0 0)), (1, .ref x), (0, .ref b)] [.int ((nI i) + 1), .ref b, .ref x] C k_law_1084_5 rfl ?_
  refine j_sld C hX hbl (i + 1) (li_c (c := 1) rfl (by omega)) (li_n (c := 1) rfl (by omega) hL) d_law_1089 ?_
  refine j_blk 1094 [(3, .int (nI i)), (2, .ref (ad 0 0)), (1, .ref x), (0, .ref b)] [.int ((nI i) + 2), .ref b, .int (xs (i + 1)), .ref x] C k_law_1090_4 rfl ?_
  refine j_sld C hX hbl (i + 2) (li_c (c := 2) rfl (by omega)) (li_n (c := 2) rfl (by omega) hL) d_law_1094 ?_
  refine j_blk 1099 [(3, .int (nI i)), (2, .ref (ad 0 0)), (1, .ref x), (0, .ref b)] [.int ((nI i) + 3), .ref b, .int (xs (i + 2)), .int (xs (i + 1)), .ref x] C k_law_1095_4 rfl ?_
  refine j_sld C hX hbl (i + 3) (li_c (c := 3) rfl (by omega)) (li_n (c := 3) rfl (by omega) hL) d_law_1099 ?_
  refine j_blk 1104 [(3, .int (nI i)), (2, .ref (ad 0 0)), (1, .ref x), (0, .ref b)] [.int ((nI i) + 4), .ref b, .int (xs (i + 3)), .int (xs (i + 2)), .int (xs (i + 1)), .ref x] C k_law_1100_4 rfl ?_
  refine j_sld C hX hbl (i + 4) (li_c (c := 4) rfl (by omega)) (li_n (c := 4) rfl (by omega) hL) d_law_1104 ?_
  refine j_blk 1109 [(3, .int (nI i)), (2, .ref (ad 0 0)), (1, .ref x), (0, .ref b)] [.int ((nI i) + 5), .ref b, .int (xs (i + 4)), .int (xs (i + 3)), .int (xs (i + 2)), .int (xs (i + 1)), .ref x] C k_law_1105_4 rfl ?_
  refine j_sld C hX hbl (i + 5) (li_c (c := 5) rfl (by omega)) (li_n (c := 5) rfl (by omega) hL) d_law_1109 ?_
  have sat : tSat D G w (rhoL x [(xs (i + 1)), (xs (i + 2)), (xs (i + 3)), (xs (i + 4)), (xs (i + 5))]) (IE I_CS_copy) := law_sat hx rfl rfl
  have cM : jMet (jGl g) D (jGB g) (jGH g) y_CS_copy b_CS_copy 8 (some .int) 4 200 (KC - w.2.1) (KS - w.2.2) [.ref x, .int (xs (i + 1)), .int (xs (i + 2)), .int (xs (i + 3)), .int (xs (i + 4)), .int (xs (i + 5))] w (tEnd D I_CS_copy G w (rhoL x [(xs (i + 1)), (xs (i + 2)), (xs (i + 3)), (xs (i + 4)), (xs (i + 5))])) := tc_CS_copy (jGl g) D (jGB g) (jGH g) G w _ hW hb sat
  refine j_callV C Rm Y [.int (xs (i + 1)), .int (xs (i + 2)), .int (xs (i + 3)), .int (xs (i + 4)), .int (xs (i + 5))] [] cM cl_Law_118 (by rfl) (by rfl) hV d_law_1110 rfl rfl (Nat.le_of_ble_eq_true rfl) ⟨Nat.le_of_ble_eq_true rfl, Nat.le_of_ble_eq_true rfl⟩ (law_room hb) (fun v1 w1 p1 => ?_)
  obtain ⟨z1, rfl⟩ := tEnd_I (by decide +kernel) p1
  obtain ⟨G1, C1, ⟨hW1, hb1, hx1⟩, hm1, hd1, hw1, hk1⟩ := law_tE (by decide +kernel) hx hw hm hd p1
  show JJ g w1 1113 [(3, .int (nI i)), (2, .ref (ad 0 0)), (1, .ref x), (0, .ref b)] [.int z1]
  refine j_blk 1119 [(3, .int (nI i)), (2, .ref (ad 0 0)), (1, .ref x), (0, .ref b)] [.int ((nI i) + 1), .ref b, .ref (ad 0 0)] C k_law_1113_6 rfl ?_
  refine j_sld C hX hbl (i + 1) (li_c (c := 1) rfl (by omega)) (li_n (c := 1) rfl (by omega) hL) d_law_1119 ?_
  refine j_blk 1124 [(3, .int (nI i)), (2, .ref (ad 0 0)), (1, .ref x), (0, .ref b)] [.int ((nI i) + 2), .ref b, .int (xs (i + 1)), .ref (ad 0 0)] C k_law_1120_4 rfl ?_
  refine j_sld C hX hbl (i + 2) (li_c (c := 2) rfl (by omega)) (li_n (c := 2) rfl (by omega) hL) d_law_1124 ?_
  refine j_blk 1129 [(3, .int (nI i)), (2, .ref (ad 0 0)), (1, .ref x), (0, .ref b)] [.int ((nI i) + 3), .ref b, .int (xs (i + 2)), .int (xs (i + 1)), .ref (ad 0 0)] C k_law_1125_4 rfl ?_
  refine j_sld C hX hbl (i + 3) (li_c (c := 3) rfl (by omega)) (li_n (c := 3) rfl (by omega) hL) d_law_1129 ?_
  refine j_blk 1134 [(3, .int (nI i)), (2, .ref (ad 0 0)), (1, .ref x), (0, .ref b)] [.int ((nI i) + 4), .ref b, .int (xs (i + 3)), .int (xs (i + 2)), .int (xs (i + 1)), .ref (ad 0 0)] C k_law_1130_4 rfl ?_
  refine j_sld C hX hbl (i + 4) (li_c (c := 4) rfl (by omega)) (li_n (c := 4) rfl (by omega) hL) d_law_1134 ?_
  refine j_blk 1139 [(3, .int (nI i)), (2, .ref (ad 0 0)), (1, .ref x), (0, .ref b)] [.int ((nI i) + 5), .ref b, .int (xs (i + 4)), .int (xs (i + 3)), .int (xs (i + 2)), .int (xs (i + 1)), .ref (ad 0 0)] C k_law_1135_4 rfl ?_
  refine j_sld C hX hbl (i + 5) (li_c (c := 5) rfl (by omega)) (li_n (c := 5) rfl (by omega) hL) d_law_1139 ?_
  obtain ⟨Vm, hVm, -⟩ := (mcell_O rfl).mp (hm1.2 0 0 (by decide))
  have qM := q_copyF (jGl g) D (jGB g) (jGH g) ad A hT ((xs (i + 1))).toInt ((xs (i + 2))).toInt ((xs (i + 3))).toInt ((xs (i + 4))).toInt ((xs (i + 5))).toInt (ri _) (ri _) (ri _) (ri _) (ri _) hI w1 hm1
  have eM : mSt ad [vr 0 0, vi ((xs (i + 1))).toInt, vi ((xs (i + 2))).toInt, vi ((xs (i + 3))).toInt, vi ((xs (i + 4))).toInt, vi ((xs (i + 5))).toInt] = [.ref (ad 0 0), .int (xs (i + 1)), .int (xs (i + 2)), .int (xs (i + 3)), .int (xs (i + 4)), .int (xs (i + 5))] := by
    show [Value.ref (ad 0 0), mc ad (vi ((xs (i + 1))).toInt), mc ad (vi ((xs (i + 2))).toInt), mc ad (vi ((xs (i + 3))).toInt), mc ad (vi ((xs (i + 4))).toInt), mc ad (vi ((xs (i + 5))).toInt)] = _
    simp only [ms_i]
  rw [eM] at qM
  refine j_callV C Rm Y [.int (xs (i + 1)), .int (xs (i + 2)), .int (xs (i + 3)), .int (xs (i + 4)), .int (xs (i + 5))] [] qM cl_Law_122 (by rfl) (by rfl) hVm d_law_1140 rfl rfl (Nat.le_of_ble_eq_true rfl) ⟨Nat.le_of_ble_eq_true rfl, Nat.le_of_ble_eq_true rfl⟩ (law_room0 hb1) (fun v2 w2 p2 => ?_)
  obtain ⟨v9, A9, rfl, ⟨z9, rfl, hT9, hE9, hz9, hI9⟩, hm9, hf9⟩ := p2
  have hR9 : R9 x C1 A9 := (R9.keepC hw hx hR hk1).M hE9 ⟨⟨rfl, rfl, rfl⟩, fun _ => rfl, fun _ => rfl, ⟨fun _ => rfl, fun _ => rfl, fun _ => rfl⟩, ⟨fun _ _ => rfl, fun _ _ => rfl, fun _ _ => rfl, fun _ _ => rfl, fun _ _ => rfl, fun _ _ => rfl, fun _ _ => rfl, fun _ _ => rfl, fun _ _ => rfl, fun _ _ => rfl, fun _ _ => rfl, fun _ _ => rfl, fun _ _ => rfl⟩⟩ (fun j => hE9 8 0 j rfl)
  obtain ⟨hW9, hb9⟩ := law_mE hW1 hb1 hd1 hm9 hf9
  have H9 : lawI D w2 x (ad 0 0) := ⟨G1, ad, A9, C1, ⟨hW9, hb9, hx1⟩, ⟨hm9, hT9, hI9, hS, rfl⟩, hd1, hw1.out hd1 hf9, hR9⟩
  show JJ g w2 1143 [(3, .int (nI i)), (2, .ref (ad 0 0)), (1, .ref x), (0, .ref b)] [.int (Int32.ofInt z9)]
  refine j_blk 1147 [(3, .int (nI i)), (2, .ref (ad 0 0)), (1, .ref x), (0, .ref b)] [] C k_law_1143_2 rfl ?_
  exact kk w2 H9
