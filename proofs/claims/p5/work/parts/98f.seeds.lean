/-! the reference: what comes by seeds (own work, by program) -/
def S_comeStep (n : Nat) : Prop := ∀ (l : Launch) (D : va_G) (B : Nat) (H0 : Heap) (ad : mAd) (A : mA) (hT : mTy A) (N : Int) (M : Int) (Ln : Int) (dep : Nat → Int) (p : Int) (i : Int) (s : Int) (hp : 0 ≤ p ∧ p ≤ 5) (hK : pK A p.toNat N M Ln dep) (ha : aOk A p) (hi : 0 ≤ i ∧ i < N ∧ 20 * p + 16 - i ≤ (n : Int)) (hs : 0 ≤ s ∧ s ≤ 9999999) , mMet l D B H0 ad y_Mo_comeStep b_Mo_comeStep 10 (some .int) (131 + 2 * n) (3840 + 80 * n) [vr 0 0, vi p, vi i, vi s] A (fun v9 A9 => ∃ z : Int, v9 = some (vi z) ∧ mTy A9 ∧ mEq zm A A9 ∧ (-1 ≤ z ∧ z ≤ 9999999))
def S_comeB (n : Nat) : Prop := ∀ (l : Launch) (D : va_G) (B : Nat) (H0 : Heap) (ad : mAd) (A : mA) (hT : mTy A) (N : Int) (M : Int) (Ln : Int) (dep : Nat → Int) (p : Int) (a : Int) (b : Int) (s : Int) (hp : 0 ≤ p ∧ p ≤ 5) (hK : pK A p.toNat N M Ln dep) (ha : aOk A p) (hab : 0 ≤ a ∧ a ≤ 16 ∧ 0 ≤ b ∧ b ≤ N ∧ 20 * p + 17 - a ≤ (n : Int)) (hs : 0 ≤ s ∧ s ≤ 9999999) , mMet l D B H0 ad y_Mo_come b_Mo_come 7 (some .int) (130 + 2 * n) (3800 + 80 * n) [vr 0 0, vi p, vi a, vi b, vi s] A (fun v9 A9 => ∃ z : Int, v9 = some (vi z) ∧ mTy A9 ∧ mEq zm A A9 ∧ (-1 ≤ z ∧ z ≤ 9999999))
theorem f_q_comeStep_0_1 : mblkB b_Mo_comeStep [(0, .aload_n 0, vi 0)] = true := by decide +kernel
theorem e_q_comeStep_1 : decode b_Mo_comeStep 1 = .ok (.getfield 36, 3) := by decide +kernel
theorem f_q_comeStep_4_1 : mblkB b_Mo_comeStep [(4, .iload_n 1, vi 0)] = true := by decide +kernel
theorem e_q_comeStep_5 : decode b_Mo_comeStep 5 = .ok (.aaload, 1) := by decide +kernel
theorem f_q_comeStep_6_1 : mblkB b_Mo_comeStep [(6, .iload_n 2, vi 0)] = true := by decide +kernel
theorem e_q_comeStep_7 : decode b_Mo_comeStep 7 = .ok (.iaload, 1) := by decide +kernel
theorem f_q_comeStep_8_1 : mblkB b_Mo_comeStep [(8, .iconst (-1), vi (-1))] = true := by decide +kernel
theorem e_q_comeStep_9 : decode b_Mo_comeStep 9 = .ok (.if_icmp .ne 7, 3) := by decide +kernel
theorem f_q_comeStep_16_3 : mblkB b_Mo_comeStep [(16, .aload_n 0, vi 0), (17, .iload_n 1, vi 0), (18, .aload_n 0, vi 0)] = true := by decide +kernel
theorem e_q_comeStep_19 : decode b_Mo_comeStep 19 = .ok (.getfield 36, 3) := by decide +kernel
theorem f_q_comeStep_22_1 : mblkB b_Mo_comeStep [(22, .iload_n 1, vi 0)] = true := by decide +kernel
theorem e_q_comeStep_23 : decode b_Mo_comeStep 23 = .ok (.aaload, 1) := by decide +kernel
theorem f_q_comeStep_24_1 : mblkB b_Mo_comeStep [(24, .iload_n 2, vi 0)] = true := by decide +kernel
theorem e_q_comeStep_25 : decode b_Mo_comeStep 25 = .ok (.iaload, 1) := by decide +kernel
theorem f_q_comeStep_26_1 : mblkB b_Mo_comeStep [(26, .iload_n 3, vi 0)] = true := by decide +kernel
theorem e_q_comeStep_27 : decode b_Mo_comeStep 27 = .ok (.invokevirtual 263, 3) := by decide +kernel
theorem f_q_comeStep_30_2 : mblkB b_Mo_comeStep [(30, .istore 4, vi 0), (32, .aload_n 0, vi 0)] = true := by decide +kernel
theorem e_q_comeStep_33 : decode b_Mo_comeStep 33 = .ok (.getfield 21, 3) := by decide +kernel
theorem f_q_comeStep_36_1 : mblkB b_Mo_comeStep [(36, .iload_n 1, vi 0)] = true := by decide +kernel
theorem e_q_comeStep_37 : decode b_Mo_comeStep 37 = .ok (.aaload, 1) := by decide +kernel
theorem f_q_comeStep_38_1 : mblkB b_Mo_comeStep [(38, .iload_n 2, vi 0)] = true := by decide +kernel
theorem e_q_comeStep_39 : decode b_Mo_comeStep 39 = .ok (.iaload, 1) := by decide +kernel
theorem e_q_comeStep_40 : decode b_Mo_comeStep 40 = .ok (.tableswitch 265 0 4 #[36, 134, 152, 163, 211], 36) := by decide +kernel
theorem f_q_comeStep_76_2 : mblkB b_Mo_comeStep [(76, .aload_n 0, vi 0), (77, .aload_n 0, vi 0)] = true := by decide +kernel
theorem e_q_comeStep_78 : decode b_Mo_comeStep 78 = .ok (.getfield 403, 3) := by decide +kernel
theorem e_q_comeStep_81 : decode b_Mo_comeStep 81 = .ok (.ldc_w 406, 3) := by decide +kernel
theorem f_q_comeStep_84_3 : mblkB b_Mo_comeStep [(84, .imul, vi 0), (85, .sipush 12345, vi 12345), (88, .iadd, vi 0)] = true := by decide +kernel
theorem e_q_comeStep_89 : decode b_Mo_comeStep 89 = .ok (.putfield 403, 3) := by decide +kernel
theorem f_q_comeStep_92_1 : mblkB b_Mo_comeStep [(92, .aload_n 0, vi 0)] = true := by decide +kernel
theorem e_q_comeStep_93 : decode b_Mo_comeStep 93 = .ok (.getfield 403, 3) := by decide +kernel
theorem f_q_comeStep_96_5 : mblkB b_Mo_comeStep [(96, .bipush 9, vi 9), (98, .iushr, vi 0), (99, .aload_n 0, vi 0), (100, .iload_n 1, vi 0), (101, .iload_n 2, vi 0)] = true := by decide +kernel
theorem e_q_comeStep_102 : decode b_Mo_comeStep 102 = .ok (.invokevirtual 232, 3) := by decide +kernel
theorem e_q_comeStep_105 : decode b_Mo_comeStep 105 = .ok (.irem, 1) := by decide +kernel
theorem f_q_comeStep_106_2 : mblkB b_Mo_comeStep [(106, .istore 5, vi 0), (108, .aload_n 0, vi 0)] = true := by decide +kernel
theorem e_q_comeStep_109 : decode b_Mo_comeStep 109 = .ok (.getfield 39, 3) := by decide +kernel
theorem f_q_comeStep_112_1 : mblkB b_Mo_comeStep [(112, .iload_n 1, vi 0)] = true := by decide +kernel
theorem e_q_comeStep_113 : decode b_Mo_comeStep 113 = .ok (.aaload, 1) := by decide +kernel
theorem f_q_comeStep_114_1 : mblkB b_Mo_comeStep [(114, .iload_n 2, vi 0)] = true := by decide +kernel
theorem e_q_comeStep_115 : decode b_Mo_comeStep 115 = .ok (.iaload, 1) := by decide +kernel
theorem f_q_comeStep_116_1 : mblkB b_Mo_comeStep [(116, .istore 6, vi 0)] = true := by decide +kernel
theorem f_q_comeStep_118_2 : mblkB b_Mo_comeStep [(118, .iload 5, vi 0), (120, .aload_n 0, vi 0)] = true := by decide +kernel
theorem e_q_comeStep_121 : decode b_Mo_comeStep 121 = .ok (.getfield 45, 3) := by decide +kernel
theorem f_q_comeStep_124_1 : mblkB b_Mo_comeStep [(124, .iload_n 1, vi 0)] = true := by decide +kernel
theorem e_q_comeStep_125 : decode b_Mo_comeStep 125 = .ok (.aaload, 1) := by decide +kernel
theorem f_q_comeStep_126_1 : mblkB b_Mo_comeStep [(126, .iload 6, vi 0)] = true := by decide +kernel
theorem e_q_comeStep_128 : decode b_Mo_comeStep 128 = .ok (.iaload, 1) := by decide +kernel
theorem e_q_comeStep_129 : decode b_Mo_comeStep 129 = .ok (.if_icmp .lt 23, 3) := by decide +kernel
theorem f_q_comeStep_152_2 : mblkB b_Mo_comeStep [(152, .iload_n 3, vi 0), (153, .aload_n 0, vi 0)] = true := by decide +kernel
theorem e_q_comeStep_154 : decode b_Mo_comeStep 154 = .ok (.getfield 24, 3) := by decide +kernel
theorem f_q_comeStep_157_1 : mblkB b_Mo_comeStep [(157, .iload_n 1, vi 0)] = true := by decide +kernel
theorem e_q_comeStep_158 : decode b_Mo_comeStep 158 = .ok (.aaload, 1) := by decide +kernel
theorem f_q_comeStep_159_1 : mblkB b_Mo_comeStep [(159, .iload_n 2, vi 0)] = true := by decide +kernel
theorem e_q_comeStep_160 : decode b_Mo_comeStep 160 = .ok (.iaload, 1) := by decide +kernel
theorem f_q_comeStep_161_1 : mblkB b_Mo_comeStep [(161, .aload_n 0, vi 0)] = true := by decide +kernel
theorem e_q_comeStep_162 : decode b_Mo_comeStep 162 = .ok (.getfield 42, 3) := by decide +kernel
theorem f_q_comeStep_165_1 : mblkB b_Mo_comeStep [(165, .iload_n 1, vi 0)] = true := by decide +kernel
theorem e_q_comeStep_166 : decode b_Mo_comeStep 166 = .ok (.aaload, 1) := by decide +kernel
theorem f_q_comeStep_167_1 : mblkB b_Mo_comeStep [(167, .iload 6, vi 0)] = true := by decide +kernel
theorem e_q_comeStep_169 : decode b_Mo_comeStep 169 = .ok (.iaload, 1) := by decide +kernel
theorem e_q_comeStep_170 : decode b_Mo_comeStep 170 = .ok (.invokestatic 282, 3) := by decide +kernel
theorem e_q_comeStep_173 : decode b_Mo_comeStep 173 = .ok (.ireturn, 1) := by decide +kernel
theorem f_q_comeStep_132_2 : mblkB b_Mo_comeStep [(132, .iload 5, vi 0), (134, .aload_n 0, vi 0)] = true := by decide +kernel
theorem e_q_comeStep_135 : decode b_Mo_comeStep 135 = .ok (.getfield 45, 3) := by decide +kernel
theorem f_q_comeStep_138_1 : mblkB b_Mo_comeStep [(138, .iload_n 1, vi 0)] = true := by decide +kernel
theorem e_q_comeStep_139 : decode b_Mo_comeStep 139 = .ok (.aaload, 1) := by decide +kernel
theorem f_q_comeStep_140_1 : mblkB b_Mo_comeStep [(140, .iload 6, vi 0)] = true := by decide +kernel
theorem e_q_comeStep_142 : decode b_Mo_comeStep 142 = .ok (.iaload, 1) := by decide +kernel
theorem f_q_comeStep_143_4 : mblkB b_Mo_comeStep [(143, .isub, vi 0), (144, .istore 5, vi 0), (146, .iinc 6 1, vi 1), (149, .goto (-31), vi 118)] = true := by decide +kernel
theorem f_q_comeStep_174_2 : mblkB b_Mo_comeStep [(174, .iload_n 3, vi 0), (175, .aload_n 0, vi 0)] = true := by decide +kernel
theorem e_q_comeStep_176 : decode b_Mo_comeStep 176 = .ok (.getfield 24, 3) := by decide +kernel
theorem f_q_comeStep_179_1 : mblkB b_Mo_comeStep [(179, .iload_n 1, vi 0)] = true := by decide +kernel
theorem e_q_comeStep_180 : decode b_Mo_comeStep 180 = .ok (.aaload, 1) := by decide +kernel
theorem f_q_comeStep_181_1 : mblkB b_Mo_comeStep [(181, .iload_n 2, vi 0)] = true := by decide +kernel
theorem e_q_comeStep_182 : decode b_Mo_comeStep 182 = .ok (.iaload, 1) := by decide +kernel
theorem f_q_comeStep_183_1 : mblkB b_Mo_comeStep [(183, .iload 4, vi 0)] = true := by decide +kernel
theorem e_q_comeStep_185 : decode b_Mo_comeStep 185 = .ok (.invokestatic 333, 3) := by decide +kernel
theorem e_q_comeStep_188 : decode b_Mo_comeStep 188 = .ok (.invokestatic 282, 3) := by decide +kernel
theorem e_q_comeStep_191 : decode b_Mo_comeStep 191 = .ok (.ireturn, 1) := by decide +kernel
theorem f_q_comeStep_192_1 : mblkB b_Mo_comeStep [(192, .iload 4, vi 0)] = true := by decide +kernel
theorem e_q_comeStep_194 : decode b_Mo_comeStep 194 = .ok (.ifCond .eq 7, 3) := by decide +kernel
theorem f_q_comeStep_201_1 : mblkB b_Mo_comeStep [(201, .iconst (-1), vi (-1))] = true := by decide +kernel
theorem e_q_comeStep_202 : decode b_Mo_comeStep 202 = .ok (.ireturn, 1) := by decide +kernel
theorem f_q_comeStep_197_2 : mblkB b_Mo_comeStep [(197, .iload_n 3, vi 0), (198, .goto 4, vi 202)] = true := by decide +kernel
theorem f_q_comeStep_203_1 : mblkB b_Mo_comeStep [(203, .iload 4, vi 0)] = true := by decide +kernel
theorem e_q_comeStep_205 : decode b_Mo_comeStep 205 = .ok (.ifCond .eq 23, 3) := by decide +kernel
theorem f_q_comeStep_228_3 : mblkB b_Mo_comeStep [(228, .aload_n 0, vi 0), (229, .iload_n 1, vi 0), (230, .aload_n 0, vi 0)] = true := by decide +kernel
theorem e_q_comeStep_231 : decode b_Mo_comeStep 231 = .ok (.getfield 33, 3) := by decide +kernel
theorem f_q_comeStep_234_1 : mblkB b_Mo_comeStep [(234, .iload_n 1, vi 0)] = true := by decide +kernel
theorem e_q_comeStep_235 : decode b_Mo_comeStep 235 = .ok (.aaload, 1) := by decide +kernel
theorem f_q_comeStep_236_1 : mblkB b_Mo_comeStep [(236, .iload_n 2, vi 0)] = true := by decide +kernel
theorem e_q_comeStep_237 : decode b_Mo_comeStep 237 = .ok (.iaload, 1) := by decide +kernel
theorem f_q_comeStep_238_1 : mblkB b_Mo_comeStep [(238, .aload_n 0, vi 0)] = true := by decide +kernel
theorem e_q_comeStep_239 : decode b_Mo_comeStep 239 = .ok (.getfield 30, 3) := by decide +kernel
theorem f_q_comeStep_242_1 : mblkB b_Mo_comeStep [(242, .iload_n 1, vi 0)] = true := by decide +kernel
theorem e_q_comeStep_243 : decode b_Mo_comeStep 243 = .ok (.aaload, 1) := by decide +kernel
theorem f_q_comeStep_244_1 : mblkB b_Mo_comeStep [(244, .iload_n 2, vi 0)] = true := by decide +kernel
theorem e_q_comeStep_245 : decode b_Mo_comeStep 245 = .ok (.iaload, 1) := by decide +kernel
theorem f_q_comeStep_246_1 : mblkB b_Mo_comeStep [(246, .iload_n 3, vi 0)] = true := by decide +kernel
theorem e_q_comeStep_247 : decode b_Mo_comeStep 247 = .ok (.invokevirtual 407, 3) := by decide +kernel
theorem e_q_comeStep_250 : decode b_Mo_comeStep 250 = .ok (.ireturn, 1) := by decide +kernel
theorem f_q_comeStep_208_6 : mblkB b_Mo_comeStep [(208, .aload_n 0, vi 0), (209, .iload_n 1, vi 0), (210, .iload_n 2, vi 0), (211, .iconst 1, vi 1), (212, .iadd, vi 0), (213, .aload_n 0, vi 0)] = true := by decide +kernel
theorem e_q_comeStep_214 : decode b_Mo_comeStep 214 = .ok (.getfield 33, 3) := by decide +kernel
theorem f_q_comeStep_217_1 : mblkB b_Mo_comeStep [(217, .iload_n 1, vi 0)] = true := by decide +kernel
theorem e_q_comeStep_218 : decode b_Mo_comeStep 218 = .ok (.aaload, 1) := by decide +kernel
theorem f_q_comeStep_219_1 : mblkB b_Mo_comeStep [(219, .iload_n 2, vi 0)] = true := by decide +kernel
theorem e_q_comeStep_220 : decode b_Mo_comeStep 220 = .ok (.iaload, 1) := by decide +kernel
theorem f_q_comeStep_221_1 : mblkB b_Mo_comeStep [(221, .iload_n 3, vi 0)] = true := by decide +kernel
theorem e_q_comeStep_222 : decode b_Mo_comeStep 222 = .ok (.invokevirtual 407, 3) := by decide +kernel
theorem f_q_comeStep_225_1 : mblkB b_Mo_comeStep [(225, .goto 25, vi 250)] = true := by decide +kernel
theorem f_q_comeStep_251_4 : mblkB b_Mo_comeStep [(251, .iload_n 3, vi 0), (252, .istore 7, vi 0), (254, .iconst 0, vi 0), (255, .istore 8, vi 0)] = true := by decide +kernel
theorem f_q_comeStep_257_2 : mblkB b_Mo_comeStep [(257, .iload 8, vi 0), (259, .aload_n 0, vi 0)] = true := by decide +kernel
theorem e_q_comeStep_260 : decode b_Mo_comeStep 260 = .ok (.getfield 27, 3) := by decide +kernel
theorem f_q_comeStep_263_1 : mblkB b_Mo_comeStep [(263, .iload_n 1, vi 0)] = true := by decide +kernel
theorem e_q_comeStep_264 : decode b_Mo_comeStep 264 = .ok (.aaload, 1) := by decide +kernel
theorem f_q_comeStep_265_1 : mblkB b_Mo_comeStep [(265, .iload_n 2, vi 0)] = true := by decide +kernel
theorem e_q_comeStep_266 : decode b_Mo_comeStep 266 = .ok (.iaload, 1) := by decide +kernel
theorem e_q_comeStep_267 : decode b_Mo_comeStep 267 = .ok (.if_icmp .ge 35, 3) := by decide +kernel
theorem f_q_comeStep_302_1 : mblkB b_Mo_comeStep [(302, .iload 7, vi 0)] = true := by decide +kernel
theorem e_q_comeStep_304 : decode b_Mo_comeStep 304 = .ok (.ireturn, 1) := by decide +kernel
theorem f_q_comeStep_270_2 : mblkB b_Mo_comeStep [(270, .iload 7, vi 0), (272, .iconst (-1), vi (-1))] = true := by decide +kernel
theorem e_q_comeStep_273 : decode b_Mo_comeStep 273 = .ok (.if_icmp .eq 29, 3) := by decide +kernel
theorem f_q_comeStep_276_6 : mblkB b_Mo_comeStep [(276, .aload_n 0, vi 0), (277, .iload_n 1, vi 0), (278, .iload_n 2, vi 0), (279, .iconst 1, vi 1), (280, .iadd, vi 0), (281, .aload_n 0, vi 0)] = true := by decide +kernel
theorem e_q_comeStep_282 : decode b_Mo_comeStep 282 = .ok (.getfield 30, 3) := by decide +kernel
theorem f_q_comeStep_285_1 : mblkB b_Mo_comeStep [(285, .iload_n 1, vi 0)] = true := by decide +kernel
theorem e_q_comeStep_286 : decode b_Mo_comeStep 286 = .ok (.aaload, 1) := by decide +kernel
theorem f_q_comeStep_287_1 : mblkB b_Mo_comeStep [(287, .iload_n 2, vi 0)] = true := by decide +kernel
theorem e_q_comeStep_288 : decode b_Mo_comeStep 288 = .ok (.iaload, 1) := by decide +kernel
theorem f_q_comeStep_289_1 : mblkB b_Mo_comeStep [(289, .iload 7, vi 0)] = true := by decide +kernel
theorem e_q_comeStep_291 : decode b_Mo_comeStep 291 = .ok (.invokevirtual 407, 3) := by decide +kernel
theorem f_q_comeStep_294_3 : mblkB b_Mo_comeStep [(294, .istore 7, vi 0), (296, .iinc 8 1, vi 1), (299, .goto (-42), vi 257)] = true := by decide +kernel
theorem f_q_comeStep_305_1 : mblkB b_Mo_comeStep [(305, .aload_n 0, vi 0)] = true := by decide +kernel
theorem e_q_comeStep_306 : decode b_Mo_comeStep 306 = .ok (.getfield 27, 3) := by decide +kernel
theorem f_q_comeStep_309_1 : mblkB b_Mo_comeStep [(309, .iload_n 1, vi 0)] = true := by decide +kernel
theorem e_q_comeStep_310 : decode b_Mo_comeStep 310 = .ok (.aaload, 1) := by decide +kernel
theorem f_q_comeStep_311_1 : mblkB b_Mo_comeStep [(311, .iload_n 2, vi 0)] = true := by decide +kernel
theorem e_q_comeStep_312 : decode b_Mo_comeStep 312 = .ok (.iaload, 1) := by decide +kernel
theorem f_q_comeStep_313_1 : mblkB b_Mo_comeStep [(313, .istore 8, vi 0)] = true := by decide +kernel
theorem f_q_comeStep_315_4 : mblkB b_Mo_comeStep [(315, .aload_n 0, vi 0), (316, .iload 8, vi 0), (318, .iconst 0, vi 0), (319, .aload_n 0, vi 0)] = true := by decide +kernel
theorem e_q_comeStep_320 : decode b_Mo_comeStep 320 = .ok (.getfield 9, 3) := by decide +kernel
theorem f_q_comeStep_323_1 : mblkB b_Mo_comeStep [(323, .iload 8, vi 0)] = true := by decide +kernel
theorem e_q_comeStep_325 : decode b_Mo_comeStep 325 = .ok (.iaload, 1) := by decide +kernel
theorem f_q_comeStep_326_3 : mblkB b_Mo_comeStep [(326, .iconst 0, vi 0), (327, .iconst 0, vi 0), (328, .iload 4, vi 0)] = true := by decide +kernel
theorem e_q_comeStep_330 : decode b_Mo_comeStep 330 = .ok (.invokestatic 333, 3) := by decide +kernel
theorem e_q_comeStep_333 : decode b_Mo_comeStep 333 = .ok (.invokestatic 282, 3) := by decide +kernel
theorem e_q_comeStep_336 : decode b_Mo_comeStep 336 = .ok (.invokevirtual 407, 3) := by decide +kernel
theorem f_q_comeStep_339_3 : mblkB b_Mo_comeStep [(339, .istore 9, vi 0), (341, .iload 9, vi 0), (343, .iconst (-1), vi (-1))] = true := by decide +kernel
theorem e_q_comeStep_344 : decode b_Mo_comeStep 344 = .ok (.if_icmp .ne 7, 3) := by decide +kernel
theorem f_q_comeStep_351_2 : mblkB b_Mo_comeStep [(351, .iload_n 3, vi 0), (352, .aload_n 0, vi 0)] = true := by decide +kernel
theorem e_q_comeStep_353 : decode b_Mo_comeStep 353 = .ok (.getfield 24, 3) := by decide +kernel
theorem f_q_comeStep_356_1 : mblkB b_Mo_comeStep [(356, .iload_n 1, vi 0)] = true := by decide +kernel
theorem e_q_comeStep_357 : decode b_Mo_comeStep 357 = .ok (.aaload, 1) := by decide +kernel
theorem f_q_comeStep_358_1 : mblkB b_Mo_comeStep [(358, .iload_n 2, vi 0)] = true := by decide +kernel
theorem e_q_comeStep_359 : decode b_Mo_comeStep 359 = .ok (.iaload, 1) := by decide +kernel
theorem f_q_comeStep_360_2 : mblkB b_Mo_comeStep [(360, .iload 9, vi 0), (362, .iconst 0, vi 0)] = true := by decide +kernel
theorem e_q_comeStep_363 : decode b_Mo_comeStep 363 = .ok (.invokestatic 260, 3) := by decide +kernel
theorem e_q_comeStep_366 : decode b_Mo_comeStep 366 = .ok (.invokestatic 282, 3) := by decide +kernel
theorem e_q_comeStep_369 : decode b_Mo_comeStep 369 = .ok (.ireturn, 1) := by decide +kernel
theorem f_q_comeStep_347_2 : mblkB b_Mo_comeStep [(347, .iconst (-1), vi (-1)), (348, .goto 21, vi 369)] = true := by decide +kernel
theorem f_q_comeStep_12_2 : mblkB b_Mo_comeStep [(12, .iconst 0, vi 0), (13, .goto 17, vi 30)] = true := by decide +kernel
set_option maxHeartbeats 40000000 in
set_option maxRecDepth 100000 in
theorem q_comeStep (n : Nat) (hq9 : S_comeB n) : S_comeStep n := by
  intro l D B H0 ad A hT N M Ln dep p i s hp hK ha hi hs
  refine m_met (by decide) rfl (fun g w0 C Rm Y E => ?_)
  have hE0 : mEq zm A A := mEq.rfl'
  show JM g D ad w0 A 0 [(0, vr 0 0), (1, vi p), (2, vi i), (3, vi s)] []
  have hr9 := hK.rng
  have hs9 := hK.at (i := i) (by omega) (by omega)
  have he9 := hs9.en
  have ht9 := hs9.tp
  have hk9 := hs9.kd
  obtain ⟨fl, hfl⟩ : ∃ x, A 40 p.toNat i.toNat = x := ⟨_, rfl⟩
  obtain ⟨nu, hnu⟩ : ∃ x, A 36 p.toNat i.toNat = x := ⟨_, rfl⟩
  have rnu : -1 ≤ nu ∧ nu ≤ 9 := mrg hT hnu rfl
  obtain ⟨SW, hSW⟩ : ∃ f : Int → Int, ∀ k, f k = ws (A 42 p.toNat) fl.toNat (Int.toNat k) := ⟨_, fun _ => rfl⟩
  have sw00 : SW 0 = 0 := by rw [hSW]; rfl
  refine m_blk 1 [(0, vr 0 0), (1, vi p), (2, vi i), (3, vi s)] [vr 0 0] C f_q_comeStep_0_1 rfl ?_
  refine m_getr C e_q_comeStep_1 fg_Mo_36 rfl (by decide) rfl ?_
  refine m_blk 5 [(0, vr 0 0), (1, vi p), (2, vi i), (3, vi s)] [vi p, vr 19 0] C f_q_comeStep_4_1 rfl ?_
  refine m_aald C p.toNat e_q_comeStep_5 rfl rfl rfl (by decide) (by decide) (by omega) (by show p < ((6 : Nat) : Int); omega) (mz _ _) ?_
  refine m_blk 7 [(0, vr 0 0), (1, vi p), (2, vi i), (3, vi s)] [vi i, vr 39 p.toNat] C f_q_comeStep_6_1 rfl ?_
  obtain ⟨x1, hx1⟩ : ∃ x, A 39 p.toNat i.toNat = x := ⟨_, rfl⟩
  have rx1 : (-1) ≤ x1 ∧ x1 ≤ 119 := mrg hT hx1 rfl
  refine m_iald C e_q_comeStep_7 rfl (by omega) (by decide) (by omega) (by show i < ((16 : Nat) : Int); omega) x1 hx1 ?_
  refine m_blk 9 [(0, vr 0 0), (1, vi p), (2, vi i), (3, vi s)] [vi (-1), vi x1] C f_q_comeStep_8_1 rfl ?_
  refine m_icmp_ne (tgt := 16) C e_q_comeStep_9 (by decide) (by omega) (by decide) (fun c2 => ?_) (fun c2 => ?_)
  · refine m_blk 19 [(0, vr 0 0), (1, vi p), (2, vi i), (3, vi s)] [vr 0 0, vi p, vr 0 0] C f_q_comeStep_16_3 rfl ?_
    refine m_getr C e_q_comeStep_19 fg_Mo_36 rfl (by decide) rfl ?_
    refine m_blk 23 [(0, vr 0 0), (1, vi p), (2, vi i), (3, vi s)] [vi p, vr 19 0, vi p, vr 0 0] C f_q_comeStep_22_1 rfl ?_
    refine m_aald C p.toNat e_q_comeStep_23 rfl rfl rfl (by decide) (by decide) (by omega) (by show p < ((6 : Nat) : Int); omega) (mz _ _) ?_
    refine m_blk 25 [(0, vr 0 0), (1, vi p), (2, vi i), (3, vi s)] [vi i, vr 39 p.toNat, vi p, vr 0 0] C f_q_comeStep_24_1 rfl ?_
    refine m_iald C e_q_comeStep_25 rfl (by omega) (by decide) (by omega) (by show i < ((16 : Nat) : Int); omega) x1 hx1 ?_
    refine m_blk 27 [(0, vr 0 0), (1, vi p), (2, vi i), (3, vi s)] [vi s, vi x1, vi p, vr 0 0] C f_q_comeStep_26_1 rfl ?_
    refine m_callV C Rm Y [vi p, vi x1, vi s] [] ((q_worth_ 120) l D B H0 ad _ hT M p x1 s hK.2.2.2.2 (by show 0 ≤ p ∧ p ≤ 5 ∧ M ≤ 120; omega) (by show 0 ≤ x1 ∧ x1 < M ∧ x1 < ((120 : Nat) : Int); omega) (by show 0 ≤ s ∧ s ≤ 9999999; omega)) cl_Mo_263 rfl (by decide) rfl rfl e_q_comeStep_27 rfl rfl rfl ⟨by show _ ≤ (131 + 2 * n : Nat); omega, by show _ ≤ (3840 + 80 * n : Nat); omega⟩ ?_
    rintro v3 A4 ⟨z7, rfl, rfl, raw_hz_n6⟩
    have hz_n6 : -2147483648 ≤ z7 ∧ z7 ≤ 2147483647 := raw_hz_n6
    clear raw_hz_n6
    show JM g D ad w0 A 30 [(0, vr 0 0), (1, vi p), (2, vi i), (3, vi s)] [vi z7]
    refine m_blk 33 [(4, vi z7), (0, vr 0 0), (1, vi p), (2, vi i), (3, vi s)] [vr 0 0] C f_q_comeStep_30_2 rfl ?_
    refine m_getr C e_q_comeStep_33 fg_Mo_21 rfl (by decide) rfl ?_
    refine m_blk 37 [(4, vi z7), (0, vr 0 0), (1, vi p), (2, vi i), (3, vi s)] [vi p, vr 14 0] C f_q_comeStep_36_1 rfl ?_
    refine m_aald C p.toNat e_q_comeStep_37 rfl rfl rfl (by decide) (by decide) (by omega) (by show p < ((6 : Nat) : Int); omega) (mz _ _) ?_
    refine m_blk 39 [(4, vi z7), (0, vr 0 0), (1, vi p), (2, vi i), (3, vi s)] [vi i, vr 34 p.toNat] C f_q_comeStep_38_1 rfl ?_
    obtain ⟨x8, hx8⟩ : ∃ x, A 34 p.toNat i.toNat = x := ⟨_, rfl⟩
    have rx8 : (-1) ≤ x8 ∧ x8 ≤ 255 := mrg hT hx8 rfl
    refine m_iald C e_q_comeStep_39 rfl (by omega) (by decide) (by omega) (by show i < ((16 : Nat) : Int); omega) x8 hx8 ?_
    by_cases c9 : x8 = 0
    · refine m_tabIn (tgt := 76) C e_q_comeStep_40 (by omega) (by omega) (by omega) (by rw [c9]; rfl) (by decide) ?_
      have f9 := hs9.k0 (by omega)
      rw [hfl, hnu] at f9
      refine m_blk 78 [(4, vi z7), (0, vr 0 0), (1, vi p), (2, vi i), (3, vi s)] [vr 0 0, vr 0 0] C f_q_comeStep_76_2 rfl ?_
      obtain ⟨x10, hx10⟩ : ∃ x, A 0 0 36 = x := ⟨_, rfl⟩
      have rx10 : (-2147483648) ≤ x10 ∧ x10 ≤ 2147483647 := mrg hT hx10 rfl
      refine m_geti C e_q_comeStep_78 fg_Mo_403 rfl (by decide) rfl x10 hx10 ?_
      refine m_ldcw C 1103515245 e_q_comeStep_81 ld_Mo_406 (by decide) ?_
      refine m_blk 89 [(4, vi z7), (0, vr 0 0), (1, vi p), (2, vi i), (3, vi s)] [vi ((x10 * 1103515245) + 12345), vr 0 0] C f_q_comeStep_84_3 rfl ?_
      refine m_nrm (fun y11 hy11 => ?_)
      refine m_puti C e_q_comeStep_89 fp_Mo_403 rfl (by decide) rfl ?_
      have t12 : mTy (mu A 0 0 36 y11) := hT.mu (by show (-2147483648) ≤ y11 ∧ y11 ≤ 2147483647; omega)
      have q13 := hE0.mu (f := 0) (k := 0) (j := 36) (z := y11) (by simp [zm])
      refine m_blk 93 [(4, vi z7), (0, vr 0 0), (1, vi p), (2, vi i), (3, vi s)] [vr 0 0] C f_q_comeStep_92_1 rfl ?_
      refine m_geti C e_q_comeStep_93 fg_Mo_403 rfl (by decide) rfl y11 rfl ?_
      refine m_blk 102 [(4, vi z7), (0, vr 0 0), (1, vi p), (2, vi i), (3, vi s)] [vi i, vi p, vr 0 0, vi (iUsh y11 9)] C f_q_comeStep_96_5 rfl ?_
      refine m_callV C Rm Y [vi p, vi i] [vi (iUsh y11 9)] (q_lotsAll l D B H0 ad _ t12 fl nu p i (by show 0 ≤ p ∧ p ≤ 5 ∧ 0 ≤ i ∧ i ≤ 15; omega) ⟨hfl, hnu, by omega, by omega, by omega, by omega⟩) cl_Mo_232 rfl (by decide) rfl rfl e_q_comeStep_102 rfl rfl rfl ⟨by show _ ≤ (131 + 2 * n : Nat); omega, by show _ ≤ (3840 + 80 * n : Nat); omega⟩ ?_
      rintro v14 A15 ⟨z18, rfl, rfl, raw_hz_n17⟩
      have hz_n17 : z18 = ws ((mu A 0 0 36 y11) 42 p.toNat) fl.toNat nu.toNat ∧ 0 ≤ z18 ∧ z18 ≤ 16 * nu := raw_hz_n17
      clear raw_hz_n17
      show JM g D ad w0 (mu A 0 0 36 y11) 105 [(4, vi z7), (0, vr 0 0), (1, vi p), (2, vi i), (3, vi s)] [vi z18, vi (iUsh y11 9)]
      have hal : z18 = SW nu := by rw [hSW]; exact hz_n17.1
      have hal1 : 1 ≤ z18 := by rw [hal, hSW]; exact f9.2.2.2
      have ush9 := iUsh9 y11
      have tm9 := tm_lt ush9.1 hal1
      refine m_irem C e_q_comeStep_105 (by omega) (by omega) (by omega) ?_
      refine m_blk 109 [(5, vi (Int.tmod (iUsh y11 9) z18)), (4, vi z7), (0, vr 0 0), (1, vi p), (2, vi i), (3, vi s)] [vr 0 0] C f_q_comeStep_106_2 rfl ?_
      refine m_getr C e_q_comeStep_109 fg_Mo_39 rfl (by decide) rfl ?_
      refine m_blk 113 [(5, vi (Int.tmod (iUsh y11 9) z18)), (4, vi z7), (0, vr 0 0), (1, vi p), (2, vi i), (3, vi s)] [vi p, vr 20 0] C f_q_comeStep_112_1 rfl ?_
      refine m_aald C p.toNat e_q_comeStep_113 rfl rfl rfl (by decide) (by decide) (by omega) (by show p < ((6 : Nat) : Int); omega) (mz _ _) ?_
      refine m_blk 115 [(5, vi (Int.tmod (iUsh y11 9) z18)), (4, vi z7), (0, vr 0 0), (1, vi p), (2, vi i), (3, vi s)] [vi i, vr 40 p.toNat] C f_q_comeStep_114_1 rfl ?_
      refine m_iald C e_q_comeStep_115 rfl (by omega) (by decide) (by omega) (by show i < ((16 : Nat) : Int); omega) fl hfl ?_
      refine m_blk 118 [(6, vi fl), (5, vi (Int.tmod (iUsh y11 9) z18)), (4, vi z7), (0, vr 0 0), (1, vi p), (2, vi i), (3, vi s)] [] C f_q_comeStep_116_1 rfl ?_
      have hd_118 : ∀ (NZ : Nat) (le : Int) (l9 : Int), fl ≤ l9 ∧ l9 ≤ fl + nu → (0 ≤ le ∧ le ≤ 200) ∧ le + SW (l9 - fl) < SW nu → (200 - l9) < (NZ : Int) → JM g D ad w0 (mu A 0 0 36 y11) 118 [(5, vi le), (6, vi l9), (0, vr 0 0), (1, vi p), (2, vi i), (3, vi s), (4, vi z7)] [] := by
        intro NZ
        induction NZ with
        | zero => intro le l9 hl9 hle hm118; exact absurd hm118 (by omega)
        | succ NZ ih118 =>
          intro le l9 hl9 hle hm118
          have lq9 : l9 < fl + nu := by
            rcases (show l9 < fl + nu ∨ l9 = fl + nu from by omega) with h8 | h8
            · exact h8
            · have e8 : l9 - fl = nu := by omega
              rw [e8] at hle
              omega
          refine m_blk 121 [(5, vi le), (6, vi l9), (0, vr 0 0), (1, vi p), (2, vi i), (3, vi s), (4, vi z7)] [vr 0 0, vi le] C f_q_comeStep_118_2 rfl ?_
          refine m_getr C e_q_comeStep_121 fg_Mo_45 rfl (by decide) rfl ?_
          refine m_blk 125 [(5, vi le), (6, vi l9), (0, vr 0 0), (1, vi p), (2, vi i), (3, vi s), (4, vi z7)] [vi p, vr 22 0, vi le] C f_q_comeStep_124_1 rfl ?_
          refine m_aald C p.toNat e_q_comeStep_125 rfl rfl rfl (by decide) (by decide) (by omega) (by show p < ((6 : Nat) : Int); omega) (mz _ _) ?_
          refine m_blk 128 [(5, vi le), (6, vi l9), (0, vr 0 0), (1, vi p), (2, vi i), (3, vi s), (4, vi z7)] [vi l9, vr 42 p.toNat, vi le] C f_q_comeStep_126_1 rfl ?_
          obtain ⟨x19, hx19⟩ : ∃ x, A 42 p.toNat l9.toNat = x := ⟨_, rfl⟩
          have rx19 : 0 ≤ x19 ∧ x19 ≤ 16 := mrg hT hx19 rfl
          have hsw : SW (l9 + 1 - fl) = SW (l9 - fl) + x19 := by rw [hSW, hSW, show l9 + 1 - fl = l9 - fl + 1 by omega, ws_step (by omega) (by omega), show fl + (l9 - fl) = l9 by omega, hx19]
          refine m_iald C e_q_comeStep_128 rfl (by omega) (by decide) (by omega) (by show l9 < ((120 : Nat) : Int); omega) x19 hx19 ?_
          refine m_icmp_lt (tgt := 152) C e_q_comeStep_129 (by decide) (by omega) (by omega) (fun c20 => ?_) (fun c20 => ?_)
          · refine m_blk 154 [(5, vi le), (6, vi l9), (0, vr 0 0), (1, vi p), (2, vi i), (3, vi s), (4, vi z7)] [vr 0 0, vi s] C f_q_comeStep_152_2 rfl ?_
            refine m_getr C e_q_comeStep_154 fg_Mo_24 rfl (by decide) rfl ?_
            refine m_blk 158 [(5, vi le), (6, vi l9), (0, vr 0 0), (1, vi p), (2, vi i), (3, vi s), (4, vi z7)] [vi p, vr 15 0, vi s] C f_q_comeStep_157_1 rfl ?_
            refine m_aald C p.toNat e_q_comeStep_158 rfl rfl rfl (by decide) (by decide) (by omega) (by show p < ((6 : Nat) : Int); omega) (mz _ _) ?_
            refine m_blk 160 [(5, vi le), (6, vi l9), (0, vr 0 0), (1, vi p), (2, vi i), (3, vi s), (4, vi z7)] [vi i, vr 35 p.toNat, vi s] C f_q_comeStep_159_1 rfl ?_
            obtain ⟨x21, hx21⟩ : ∃ x, A 35 p.toNat i.toNat = x := ⟨_, rfl⟩
            have rx21 : (-1) ≤ x21 ∧ x21 ≤ 5 := mrg hT hx21 rfl
            refine m_iald C e_q_comeStep_160 rfl (by omega) (by decide) (by omega) (by show i < ((16 : Nat) : Int); omega) x21 hx21 ?_
            refine m_blk 162 [(5, vi le), (6, vi l9), (0, vr 0 0), (1, vi p), (2, vi i), (3, vi s), (4, vi z7)] [vr 0 0, vi x21, vi s] C f_q_comeStep_161_1 rfl ?_
            refine m_getr C e_q_comeStep_162 fg_Mo_42 rfl (by decide) rfl ?_
            refine m_blk 166 [(5, vi le), (6, vi l9), (0, vr 0 0), (1, vi p), (2, vi i), (3, vi s), (4, vi z7)] [vi p, vr 21 0, vi x21, vi s] C f_q_comeStep_165_1 rfl ?_
            refine m_aald C p.toNat e_q_comeStep_166 rfl rfl rfl (by decide) (by decide) (by omega) (by show p < ((6 : Nat) : Int); omega) (mz _ _) ?_
            refine m_blk 169 [(5, vi le), (6, vi l9), (0, vr 0 0), (1, vi p), (2, vi i), (3, vi s), (4, vi z7)] [vi l9, vr 41 p.toNat, vi x21, vi s] C f_q_comeStep_167_1 rfl ?_
            obtain ⟨x22, hx22⟩ : ∃ x, A 41 p.toNat l9.toNat = x := ⟨_, rfl⟩
            have rx22 : 0 ≤ x22 ∧ x22 ≤ 9 := mrg hT hx22 rfl
            refine m_iald C e_q_comeStep_169 rfl (by omega) (by decide) (by omega) (by show l9 < ((120 : Nat) : Int); omega) x22 hx22 ?_
            refine m_callS C Rm Y [vi s, vi x21, vi x22] [] (q_with l D B H0 ad _ s x21 x22 (by show 0 ≤ s ∧ s ≤ 9999999; omega) (by show -1 ≤ x21 ∧ x21 ≤ 5; omega) (by show 0 ≤ x22 ∧ x22 ≤ 9; omega)) cl_Mo_282 e_q_comeStep_170 rfl rfl rfl ⟨by show _ ≤ (131 + 2 * n : Nat); omega, by show _ ≤ (3840 + 80 * n : Nat); omega⟩ ?_
            rintro v23 A24 ⟨z27, rfl, rfl, raw_hz_n26⟩
            have hz_n26 : z27 = s + (x22 - dg s x21) * tnF x21 ∧ 0 ≤ z27 ∧ z27 ≤ 9999999 := raw_hz_n26
            clear raw_hz_n26
            show JM g D ad w0 (mu A 0 0 36 y11) 173 [(5, vi le), (6, vi l9), (0, vr 0 0), (1, vi p), (2, vi i), (3, vi s), (4, vi z7)] [vi z27]
            exact m_iret C Rm E e_q_comeStep_173 ⟨z27, rfl, t12, q13, (by show -1 ≤ z27 ∧ z27 ≤ 9999999; omega)⟩
          · refine m_blk 135 [(5, vi le), (6, vi l9), (0, vr 0 0), (1, vi p), (2, vi i), (3, vi s), (4, vi z7)] [vr 0 0, vi le] C f_q_comeStep_132_2 rfl ?_
            refine m_getr C e_q_comeStep_135 fg_Mo_45 rfl (by decide) rfl ?_
            refine m_blk 139 [(5, vi le), (6, vi l9), (0, vr 0 0), (1, vi p), (2, vi i), (3, vi s), (4, vi z7)] [vi p, vr 22 0, vi le] C f_q_comeStep_138_1 rfl ?_
            refine m_aald C p.toNat e_q_comeStep_139 rfl rfl rfl (by decide) (by decide) (by omega) (by show p < ((6 : Nat) : Int); omega) (mz _ _) ?_
            refine m_blk 142 [(5, vi le), (6, vi l9), (0, vr 0 0), (1, vi p), (2, vi i), (3, vi s), (4, vi z7)] [vi l9, vr 42 p.toNat, vi le] C f_q_comeStep_140_1 rfl ?_
            refine m_iald C e_q_comeStep_142 rfl (by omega) (by decide) (by omega) (by show l9 < ((120 : Nat) : Int); omega) x19 hx19 ?_
            refine m_blk 118 [(6, vi (l9 + 1)), (5, vi (le - x19)), (0, vr 0 0), (1, vi p), (2, vi i), (3, vi s), (4, vi z7)] [] C f_q_comeStep_143_4 rfl ?_
            refine m_loc [(5, vi (le - x19)), (6, vi (l9 + 1)), (0, vr 0 0), (1, vi p), (2, vi i), (3, vi s), (4, vi z7)] ⟨rfl, rfl, rfl, rfl, rfl, rfl, rfl, trivial⟩ ?_
            exact ih118 (le - x19) (l9 + 1) (by show fl ≤ (l9 + 1) ∧ (l9 + 1) ≤ fl + nu; omega) (by show (0 ≤ (le - x19) ∧ (le - x19) ≤ 200) ∧ (le - x19) + SW (l9 + 1 - fl) < SW nu; omega) (by show (200 - (l9 + 1)) < _; omega)
      refine m_loc [(5, vi (Int.tmod (iUsh y11 9) z18)), (6, vi fl), (0, vr 0 0), (1, vi p), (2, vi i), (3, vi s), (4, vi z7)] ⟨rfl, rfl, rfl, rfl, rfl, rfl, rfl, trivial⟩ ?_
      exact hd_118 (Int.toNat ((200 - fl)) + 1) (Int.tmod (iUsh y11 9) z18) fl (by show fl ≤ fl ∧ fl ≤ fl + nu; omega) (by rw [show fl - fl = 0 by omega, sw00]; omega) (by show (200 - fl) < _; omega)
    by_cases c28 : x8 = 1
    · refine m_tabIn (tgt := 174) C e_q_comeStep_40 (by omega) (by omega) (by omega) (by rw [c28]; rfl) (by decide) ?_
      refine m_blk 176 [(4, vi z7), (0, vr 0 0), (1, vi p), (2, vi i), (3, vi s)] [vr 0 0, vi s] C f_q_comeStep_174_2 rfl ?_
      refine m_getr C e_q_comeStep_176 fg_Mo_24 rfl (by decide) rfl ?_
      refine m_blk 180 [(4, vi z7), (0, vr 0 0), (1, vi p), (2, vi i), (3, vi s)] [vi p, vr 15 0, vi s] C f_q_comeStep_179_1 rfl ?_
      refine m_aald C p.toNat e_q_comeStep_180 rfl rfl rfl (by decide) (by decide) (by omega) (by show p < ((6 : Nat) : Int); omega) (mz _ _) ?_
      refine m_blk 182 [(4, vi z7), (0, vr 0 0), (1, vi p), (2, vi i), (3, vi s)] [vi i, vr 35 p.toNat, vi s] C f_q_comeStep_181_1 rfl ?_
      obtain ⟨x29, hx29⟩ : ∃ x, A 35 p.toNat i.toNat = x := ⟨_, rfl⟩
      have rx29 : (-1) ≤ x29 ∧ x29 ≤ 5 := mrg hT hx29 rfl
      refine m_iald C e_q_comeStep_182 rfl (by omega) (by decide) (by omega) (by show i < ((16 : Nat) : Int); omega) x29 hx29 ?_
      refine m_blk 185 [(4, vi z7), (0, vr 0 0), (1, vi p), (2, vi i), (3, vi s)] [vi z7, vi x29, vi s] C f_q_comeStep_183_1 rfl ?_
      refine m_callS C Rm Y [vi z7] [vi x29, vi s] (q_digit l D B H0 ad _ z7 (by show -2147483648 ≤ z7 ∧ z7 ≤ 2147483647; omega)) cl_Mo_333 e_q_comeStep_185 rfl rfl rfl ⟨by show _ ≤ (131 + 2 * n : Nat); omega, by show _ ≤ (3840 + 80 * n : Nat); omega⟩ ?_
      rintro v30 A31 ⟨z34, rfl, rfl, raw_hz_n33⟩
      have hz_n33 : z34 = z7 % 10 ∧ 0 ≤ z34 ∧ z34 ≤ 9 := raw_hz_n33
      clear raw_hz_n33
      show JM g D ad w0 A 188 [(4, vi z7), (0, vr 0 0), (1, vi p), (2, vi i), (3, vi s)] [vi z34, vi x29, vi s]
      refine m_callS C Rm Y [vi s, vi x29, vi z34] [] (q_with l D B H0 ad _ s x29 z34 (by show 0 ≤ s ∧ s ≤ 9999999; omega) (by show -1 ≤ x29 ∧ x29 ≤ 5; omega) (by show 0 ≤ z34 ∧ z34 ≤ 9; omega)) cl_Mo_282 e_q_comeStep_188 rfl rfl rfl ⟨by show _ ≤ (131 + 2 * n : Nat); omega, by show _ ≤ (3840 + 80 * n : Nat); omega⟩ ?_
      rintro v35 A36 ⟨z39, rfl, rfl, raw_hz_n38⟩
      have hz_n38 : z39 = s + (z34 - dg s x29) * tnF x29 ∧ 0 ≤ z39 ∧ z39 ≤ 9999999 := raw_hz_n38
      clear raw_hz_n38
      show JM g D ad w0 A 191 [(4, vi z7), (0, vr 0 0), (1, vi p), (2, vi i), (3, vi s)] [vi z39]
      exact m_iret C Rm E e_q_comeStep_191 ⟨z39, rfl, hT, hE0, (by show -1 ≤ z39 ∧ z39 ≤ 9999999; omega)⟩
    by_cases c40 : x8 = 2
    · refine m_tabIn (tgt := 192) C e_q_comeStep_40 (by omega) (by omega) (by omega) (by rw [c40]; rfl) (by decide) ?_
      refine m_blk 194 [(4, vi z7), (0, vr 0 0), (1, vi p), (2, vi i), (3, vi s)] [vi z7] C f_q_comeStep_192_1 rfl ?_
      refine m_if_eq (tgt := 201) C e_q_comeStep_194 (by decide) (by omega) (fun c41 => ?_) (fun c41 => ?_)
      · refine m_blk 202 [(4, vi z7), (0, vr 0 0), (1, vi p), (2, vi i), (3, vi s)] [vi (-1)] C f_q_comeStep_201_1 rfl ?_
        exact m_iret C Rm E e_q_comeStep_202 ⟨(-1), rfl, hT, hE0, (by show -1 ≤ (-1) ∧ (-1) ≤ 9999999; omega)⟩
      · refine m_blk 202 [(4, vi z7), (0, vr 0 0), (1, vi p), (2, vi i), (3, vi s)] [vi s] C f_q_comeStep_197_2 rfl ?_
        exact m_iret C Rm E e_q_comeStep_202 ⟨s, rfl, hT, hE0, (by show -1 ≤ s ∧ s ≤ 9999999; omega)⟩
    by_cases c42 : x8 = 3
    · refine m_tabIn (tgt := 203) C e_q_comeStep_40 (by omega) (by omega) (by omega) (by rw [c42]; rfl) (by decide) ?_
      refine m_blk 205 [(4, vi z7), (0, vr 0 0), (1, vi p), (2, vi i), (3, vi s)] [vi z7] C f_q_comeStep_203_1 rfl ?_
      refine m_if_eq (tgt := 228) C e_q_comeStep_205 (by decide) (by omega) (fun c43 => ?_) (fun c43 => ?_)
      · refine m_blk 231 [(4, vi z7), (0, vr 0 0), (1, vi p), (2, vi i), (3, vi s)] [vr 0 0, vi p, vr 0 0] C f_q_comeStep_228_3 rfl ?_
        refine m_getr C e_q_comeStep_231 fg_Mo_33 rfl (by decide) rfl ?_
        refine m_blk 235 [(4, vi z7), (0, vr 0 0), (1, vi p), (2, vi i), (3, vi s)] [vi p, vr 18 0, vi p, vr 0 0] C f_q_comeStep_234_1 rfl ?_
        refine m_aald C p.toNat e_q_comeStep_235 rfl rfl rfl (by decide) (by decide) (by omega) (by show p < ((6 : Nat) : Int); omega) (mz _ _) ?_
        refine m_blk 237 [(4, vi z7), (0, vr 0 0), (1, vi p), (2, vi i), (3, vi s)] [vi i, vr 38 p.toNat, vi p, vr 0 0] C f_q_comeStep_236_1 rfl ?_
        obtain ⟨x44, hx44⟩ : ∃ x, A 38 p.toNat i.toNat = x := ⟨_, rfl⟩
        have rx44 : 0 ≤ x44 ∧ x44 ≤ 16 := mrg hT hx44 rfl
        refine m_iald C e_q_comeStep_237 rfl (by omega) (by decide) (by omega) (by show i < ((16 : Nat) : Int); omega) x44 hx44 ?_
        refine m_blk 239 [(4, vi z7), (0, vr 0 0), (1, vi p), (2, vi i), (3, vi s)] [vr 0 0, vi x44, vi p, vr 0 0] C f_q_comeStep_238_1 rfl ?_
        refine m_getr C e_q_comeStep_239 fg_Mo_30 rfl (by decide) rfl ?_
        refine m_blk 243 [(4, vi z7), (0, vr 0 0), (1, vi p), (2, vi i), (3, vi s)] [vi p, vr 17 0, vi x44, vi p, vr 0 0] C f_q_comeStep_242_1 rfl ?_
        refine m_aald C p.toNat e_q_comeStep_243 rfl rfl rfl (by decide) (by decide) (by omega) (by show p < ((6 : Nat) : Int); omega) (mz _ _) ?_
        refine m_blk 245 [(4, vi z7), (0, vr 0 0), (1, vi p), (2, vi i), (3, vi s)] [vi i, vr 37 p.toNat, vi x44, vi p, vr 0 0] C f_q_comeStep_244_1 rfl ?_
        obtain ⟨x45, hx45⟩ : ∃ x, A 37 p.toNat i.toNat = x := ⟨_, rfl⟩
        have rx45 : 0 ≤ x45 ∧ x45 ≤ 16 := mrg hT hx45 rfl
        refine m_iald C e_q_comeStep_245 rfl (by omega) (by decide) (by omega) (by show i < ((16 : Nat) : Int); omega) x45 hx45 ?_
        refine m_blk 247 [(4, vi z7), (0, vr 0 0), (1, vi p), (2, vi i), (3, vi s)] [vi s, vi x45, vi x44, vi p, vr 0 0] C f_q_comeStep_246_1 rfl ?_
        refine m_callV C Rm Y [vi p, vi x44, vi x45, vi s] [] (hq9 l D B H0 ad _ hT N M Ln dep p x44 x45 s (by show 0 ≤ p ∧ p ≤ 5; omega) hK ha (by show 0 ≤ x44 ∧ x44 ≤ 16 ∧ 0 ≤ x45 ∧ x45 ≤ N ∧ 20 * p + 17 - x44 ≤ (n : Int); omega) (by show 0 ≤ s ∧ s ≤ 9999999; omega)) cl_Mo_407 rfl (by decide) rfl rfl e_q_comeStep_247 rfl rfl rfl ⟨by show _ ≤ (131 + 2 * n : Nat); omega, by show _ ≤ (3840 + 80 * n : Nat); omega⟩ ?_
        rintro v46 A47 ⟨z50, rfl, hT_n49, hE_n49, raw_hz_n49⟩
        have hF_n49 := hE0.trans (hE_n49.sub (fun _ _ _ h9 => h9))
        have hz_n49 : -1 ≤ z50 ∧ z50 ≤ 9999999 := raw_hz_n49
        clear raw_hz_n49
        show JM g D ad w0 A47 250 [(4, vi z7), (0, vr 0 0), (1, vi p), (2, vi i), (3, vi s)] [vi z50]
        exact m_iret C Rm E e_q_comeStep_250 ⟨z50, rfl, hT_n49, hF_n49, (by show -1 ≤ z50 ∧ z50 ≤ 9999999; omega)⟩
      · refine m_blk 214 [(4, vi z7), (0, vr 0 0), (1, vi p), (2, vi i), (3, vi s)] [vr 0 0, vi (i + 1), vi p, vr 0 0] C f_q_comeStep_208_6 rfl ?_
        refine m_getr C e_q_comeStep_214 fg_Mo_33 rfl (by decide) rfl ?_
        refine m_blk 218 [(4, vi z7), (0, vr 0 0), (1, vi p), (2, vi i), (3, vi s)] [vi p, vr 18 0, vi (i + 1), vi p, vr 0 0] C f_q_comeStep_217_1 rfl ?_
        refine m_aald C p.toNat e_q_comeStep_218 rfl rfl rfl (by decide) (by decide) (by omega) (by show p < ((6 : Nat) : Int); omega) (mz _ _) ?_
        refine m_blk 220 [(4, vi z7), (0, vr 0 0), (1, vi p), (2, vi i), (3, vi s)] [vi i, vr 38 p.toNat, vi (i + 1), vi p, vr 0 0] C f_q_comeStep_219_1 rfl ?_
        obtain ⟨x51, hx51⟩ : ∃ x, A 38 p.toNat i.toNat = x := ⟨_, rfl⟩
        have rx51 : 0 ≤ x51 ∧ x51 ≤ 16 := mrg hT hx51 rfl
        refine m_iald C e_q_comeStep_220 rfl (by omega) (by decide) (by omega) (by show i < ((16 : Nat) : Int); omega) x51 hx51 ?_
        refine m_blk 222 [(4, vi z7), (0, vr 0 0), (1, vi p), (2, vi i), (3, vi s)] [vi s, vi x51, vi (i + 1), vi p, vr 0 0] C f_q_comeStep_221_1 rfl ?_
        refine m_callV C Rm Y [vi p, vi (i + 1), vi x51, vi s] [] (hq9 l D B H0 ad _ hT N M Ln dep p (i + 1) x51 s (by show 0 ≤ p ∧ p ≤ 5; omega) hK ha (by show 0 ≤ (i + 1) ∧ (i + 1) ≤ 16 ∧ 0 ≤ x51 ∧ x51 ≤ N ∧ 20 * p + 17 - (i + 1) ≤ (n : Int); omega) (by show 0 ≤ s ∧ s ≤ 9999999; omega)) cl_Mo_407 rfl (by decide) rfl rfl e_q_comeStep_222 rfl rfl rfl ⟨by show _ ≤ (131 + 2 * n : Nat); omega, by show _ ≤ (3840 + 80 * n : Nat); omega⟩ ?_
        rintro v52 A53 ⟨z56, rfl, hT_n55, hE_n55, raw_hz_n55⟩
        have hF_n55 := hE0.trans (hE_n55.sub (fun _ _ _ h9 => h9))
        have hz_n55 : -1 ≤ z56 ∧ z56 ≤ 9999999 := raw_hz_n55
        clear raw_hz_n55
        show JM g D ad w0 A53 225 [(4, vi z7), (0, vr 0 0), (1, vi p), (2, vi i), (3, vi s)] [vi z56]
        refine m_blk 250 [(4, vi z7), (0, vr 0 0), (1, vi p), (2, vi i), (3, vi s)] [vi z56] C f_q_comeStep_225_1 rfl ?_
        exact m_iret C Rm E e_q_comeStep_250 ⟨z56, rfl, hT_n55, hF_n55, (by show -1 ≤ z56 ∧ z56 ≤ 9999999; omega)⟩
    by_cases c57 : x8 = 4
    · refine m_tabIn (tgt := 251) C e_q_comeStep_40 (by omega) (by omega) (by omega) (by rw [c57]; rfl) (by decide) ?_
      refine m_blk 257 [(8, vi 0), (7, vi s), (4, vi z7), (0, vr 0 0), (1, vi p), (2, vi i), (3, vi s)] [] C f_q_comeStep_251_4 rfl ?_
      have hd_257 : ∀ (NZ : Nat) (A2 : mA) (t : Int) (e : Int), mTy A2 → mEq zm A A2 → 0 ≤ t ∧ t ≤ 10 → -1 ≤ e ∧ e ≤ 9999999 → (40 - t) < (NZ : Int) → JM g D ad w0 A2 257 [(8, vi t), (7, vi e), (0, vr 0 0), (1, vi p), (2, vi i), (3, vi s)] [] := by
        intro NZ
        induction NZ with
        | zero => intro A2 t e hT2 hE2 ht2 he2 hm257; exact absurd hm257 (by omega)
        | succ NZ ih257 =>
          intro A2 t e hT2 hE2 ht2 he2 hm257
          have e36 : A2 36 p.toNat i.toNat = nu := (hE2 36 p.toNat i.toNat (zm_far (by decide) _ _)).trans hnu
          have e37 : A2 37 p.toNat i.toNat = A 37 p.toNat i.toNat := hE2 37 p.toNat i.toNat (zm_far (by decide) _ _)
          refine m_blk 260 [(8, vi t), (7, vi e), (0, vr 0 0), (1, vi p), (2, vi i), (3, vi s)] [vr 0 0, vi t] C f_q_comeStep_257_2 rfl ?_
          refine m_getr C e_q_comeStep_260 fg_Mo_27 rfl (by decide) rfl ?_
          refine m_blk 264 [(8, vi t), (7, vi e), (0, vr 0 0), (1, vi p), (2, vi i), (3, vi s)] [vi p, vr 16 0, vi t] C f_q_comeStep_263_1 rfl ?_
          refine m_aald C p.toNat e_q_comeStep_264 rfl rfl rfl (by decide) (by decide) (by omega) (by show p < ((6 : Nat) : Int); omega) (mz _ _) ?_
          refine m_blk 266 [(8, vi t), (7, vi e), (0, vr 0 0), (1, vi p), (2, vi i), (3, vi s)] [vi i, vr 36 p.toNat, vi t] C f_q_comeStep_265_1 rfl ?_
          refine m_iald C e_q_comeStep_266 rfl (by omega) (by decide) (by omega) (by show i < ((16 : Nat) : Int); omega) nu e36 ?_
          refine m_icmp_ge (tgt := 302) C e_q_comeStep_267 (by decide) (by omega) (by omega) (fun c58 => ?_) (fun c58 => ?_)
          · refine m_blk 304 [(8, vi t), (7, vi e), (0, vr 0 0), (1, vi p), (2, vi i), (3, vi s)] [vi e] C f_q_comeStep_302_1 rfl ?_
            exact m_iret C Rm E e_q_comeStep_304 ⟨e, rfl, hT2, hE2, (by show -1 ≤ e ∧ e ≤ 9999999; omega)⟩
          · refine m_blk 273 [(8, vi t), (7, vi e), (0, vr 0 0), (1, vi p), (2, vi i), (3, vi s)] [vi (-1), vi e] C f_q_comeStep_270_2 rfl ?_
            refine m_icmp_eq (tgt := 302) C e_q_comeStep_273 (by decide) (by omega) (by decide) (fun c59 => ?_) (fun c59 => ?_)
            · refine m_blk 304 [(8, vi t), (7, vi e), (0, vr 0 0), (1, vi p), (2, vi i), (3, vi s)] [vi e] C f_q_comeStep_302_1 rfl ?_
              exact m_iret C Rm E e_q_comeStep_304 ⟨e, rfl, hT2, hE2, (by show -1 ≤ e ∧ e ≤ 9999999; omega)⟩
            · refine m_blk 282 [(8, vi t), (7, vi e), (0, vr 0 0), (1, vi p), (2, vi i), (3, vi s)] [vr 0 0, vi (i + 1), vi p, vr 0 0] C f_q_comeStep_276_6 rfl ?_
              refine m_getr C e_q_comeStep_282 fg_Mo_30 rfl (by decide) rfl ?_
              refine m_blk 286 [(8, vi t), (7, vi e), (0, vr 0 0), (1, vi p), (2, vi i), (3, vi s)] [vi p, vr 17 0, vi (i + 1), vi p, vr 0 0] C f_q_comeStep_285_1 rfl ?_
              refine m_aald C p.toNat e_q_comeStep_286 rfl rfl rfl (by decide) (by decide) (by omega) (by show p < ((6 : Nat) : Int); omega) (mz _ _) ?_
              refine m_blk 288 [(8, vi t), (7, vi e), (0, vr 0 0), (1, vi p), (2, vi i), (3, vi s)] [vi i, vr 37 p.toNat, vi (i + 1), vi p, vr 0 0] C f_q_comeStep_287_1 rfl ?_
              obtain ⟨x60, hx60⟩ : ∃ x, A2 37 p.toNat i.toNat = x := ⟨_, rfl⟩
              have rx60 : 0 ≤ x60 ∧ x60 ≤ 16 := mrg hT2 hx60 rfl
              refine m_iald C e_q_comeStep_288 rfl (by omega) (by decide) (by omega) (by show i < ((16 : Nat) : Int); omega) x60 hx60 ?_
              refine m_blk 291 [(8, vi t), (7, vi e), (0, vr 0 0), (1, vi p), (2, vi i), (3, vi s)] [vi e, vi x60, vi (i + 1), vi p, vr 0 0] C f_q_comeStep_289_1 rfl ?_
              refine m_callV C Rm Y [vi p, vi (i + 1), vi x60, vi e] [] (hq9 l D B H0 ad _ hT2 N M Ln dep p (i + 1) x60 e (by show 0 ≤ p ∧ p ≤ 5; omega) (hK.zmk hE2) (ha.zmk hE2) (by show 0 ≤ (i + 1) ∧ (i + 1) ≤ 16 ∧ 0 ≤ x60 ∧ x60 ≤ N ∧ 20 * p + 17 - (i + 1) ≤ (n : Int); omega) (by show 0 ≤ e ∧ e ≤ 9999999; omega)) cl_Mo_407 rfl (by decide) rfl rfl e_q_comeStep_291 rfl rfl rfl ⟨by show _ ≤ (131 + 2 * n : Nat); omega, by show _ ≤ (3840 + 80 * n : Nat); omega⟩ ?_
              rintro v61 A62 ⟨z65, rfl, hT_n64, hE_n64, raw_hz_n64⟩
              have hF_n64 := hE2.trans (hE_n64.sub (fun _ _ _ h9 => h9))
              have hz_n64 : -1 ≤ z65 ∧ z65 ≤ 9999999 := raw_hz_n64
              clear raw_hz_n64
              show JM g D ad w0 A62 294 [(8, vi t), (7, vi e), (0, vr 0 0), (1, vi p), (2, vi i), (3, vi s)] [vi z65]
              refine m_blk 257 [(8, vi (t + 1)), (7, vi z65), (0, vr 0 0), (1, vi p), (2, vi i), (3, vi s)] [] C f_q_comeStep_294_3 rfl ?_
              refine m_loc [(8, vi (t + 1)), (7, vi z65), (0, vr 0 0), (1, vi p), (2, vi i), (3, vi s)] ⟨rfl, rfl, rfl, rfl, rfl, rfl, trivial⟩ ?_
              exact ih257 A62 (t + 1) z65 hT_n64 hF_n64 (by show 0 ≤ (t + 1) ∧ (t + 1) ≤ 10; omega) (by show -1 ≤ z65 ∧ z65 ≤ 9999999; omega) (by show (40 - (t + 1)) < _; omega)
      refine m_loc [(8, vi 0), (7, vi s), (0, vr 0 0), (1, vi p), (2, vi i), (3, vi s)] ⟨rfl, rfl, rfl, rfl, rfl, rfl, trivial⟩ ?_
      exact hd_257 (Int.toNat ((40 - 0)) + 1) A 0 s hT hE0 (by show 0 ≤ 0 ∧ 0 ≤ 10; omega) (by show -1 ≤ s ∧ s ≤ 9999999; omega) (by show (40 - 0) < _; omega)
    refine m_tabOut (tgt := 305) C e_q_comeStep_40 (by omega) (by omega) (by decide) ?_
    refine m_blk 306 [(4, vi z7), (0, vr 0 0), (1, vi p), (2, vi i), (3, vi s)] [vr 0 0] C f_q_comeStep_305_1 rfl ?_
    refine m_getr C e_q_comeStep_306 fg_Mo_27 rfl (by decide) rfl ?_
    refine m_blk 310 [(4, vi z7), (0, vr 0 0), (1, vi p), (2, vi i), (3, vi s)] [vi p, vr 16 0] C f_q_comeStep_309_1 rfl ?_
    refine m_aald C p.toNat e_q_comeStep_310 rfl rfl rfl (by decide) (by decide) (by omega) (by show p < ((6 : Nat) : Int); omega) (mz _ _) ?_
    refine m_blk 312 [(4, vi z7), (0, vr 0 0), (1, vi p), (2, vi i), (3, vi s)] [vi i, vr 36 p.toNat] C f_q_comeStep_311_1 rfl ?_
    refine m_iald C e_q_comeStep_312 rfl (by omega) (by decide) (by omega) (by show i < ((16 : Nat) : Int); omega) nu hnu ?_
    refine m_blk 315 [(8, vi nu), (4, vi z7), (0, vr 0 0), (1, vi p), (2, vi i), (3, vi s)] [] C f_q_comeStep_313_1 rfl ?_
    have f9 := hs9.k5 (by omega)
    obtain ⟨M2, Ln2, dep2, hK2⟩ := ha.at (p := nu) (by omega) (by omega)
    obtain ⟨N2, hN2⟩ : ∃ x, A 5 0 nu.toNat = x := ⟨_, rfl⟩
    rw [hN2] at hK2
    have hr2 := hK2.rng
    refine m_blk 320 [(8, vi nu), (4, vi z7), (0, vr 0 0), (1, vi p), (2, vi i), (3, vi s)] [vr 0 0, vi 0, vi nu, vr 0 0] C f_q_comeStep_315_4 rfl ?_
    refine m_getr C e_q_comeStep_320 fg_Mo_9 rfl (by decide) rfl ?_
    refine m_blk 325 [(8, vi nu), (4, vi z7), (0, vr 0 0), (1, vi p), (2, vi i), (3, vi s)] [vi nu, vr 5 0, vi 0, vi nu, vr 0 0] C f_q_comeStep_323_1 rfl ?_
    obtain ⟨x66, hx66⟩ : ∃ x, A 5 0 nu.toNat = x := ⟨_, rfl⟩
    have rx66 : 0 ≤ x66 ∧ x66 ≤ 16 := mrg hT hx66 rfl
    refine m_iald C e_q_comeStep_325 rfl (by decide) (by decide) (by omega) (by show nu < ((6 : Nat) : Int); omega) x66 hx66 ?_
    refine m_blk 330 [(8, vi nu), (4, vi z7), (0, vr 0 0), (1, vi p), (2, vi i), (3, vi s)] [vi z7, vi 0, vi 0, vi x66, vi 0, vi nu, vr 0 0] C f_q_comeStep_326_3 rfl ?_
    refine m_callS C Rm Y [vi z7] [vi 0, vi 0, vi x66, vi 0, vi nu, vr 0 0] (q_digit l D B H0 ad _ z7 (by show -2147483648 ≤ z7 ∧ z7 ≤ 2147483647; omega)) cl_Mo_333 e_q_comeStep_330 rfl rfl rfl ⟨by show _ ≤ (131 + 2 * n : Nat); omega, by show _ ≤ (3840 + 80 * n : Nat); omega⟩ ?_
    rintro v67 A68 ⟨z71, rfl, rfl, raw_hz_n70⟩
    have hz_n70 : z71 = z7 % 10 ∧ 0 ≤ z71 ∧ z71 ≤ 9 := raw_hz_n70
    clear raw_hz_n70
    show JM g D ad w0 A 333 [(8, vi nu), (4, vi z7), (0, vr 0 0), (1, vi p), (2, vi i), (3, vi s)] [vi z71, vi 0, vi 0, vi x66, vi 0, vi nu, vr 0 0]
    refine m_callS C Rm Y [vi 0, vi 0, vi z71] [vi x66, vi 0, vi nu, vr 0 0] (q_with l D B H0 ad _ 0 0 z71 (by show 0 ≤ 0 ∧ 0 ≤ 9999999; omega) (by show -1 ≤ 0 ∧ 0 ≤ 5; omega) (by show 0 ≤ z71 ∧ z71 ≤ 9; omega)) cl_Mo_282 e_q_comeStep_333 rfl rfl rfl ⟨by show _ ≤ (131 + 2 * n : Nat); omega, by show _ ≤ (3840 + 80 * n : Nat); omega⟩ ?_
    rintro v72 A73 ⟨z76, rfl, rfl, raw_hz_n75⟩
    have hz_n75 : z76 = 0 + (z71 - dg 0 0) * tnF 0 ∧ 0 ≤ z76 ∧ z76 ≤ 9999999 := raw_hz_n75
    clear raw_hz_n75
    show JM g D ad w0 A 336 [(8, vi nu), (4, vi z7), (0, vr 0 0), (1, vi p), (2, vi i), (3, vi s)] [vi z76, vi x66, vi 0, vi nu, vr 0 0]
    refine m_callV C Rm Y [vi nu, vi 0, vi x66, vi z76] [] (hq9 l D B H0 ad _ hT N2 M2 Ln2 dep2 nu 0 x66 z76 (by show 0 ≤ nu ∧ nu ≤ 5; omega) hK2 (ha.le (by omega)) (by show 0 ≤ 0 ∧ 0 ≤ 16 ∧ 0 ≤ x66 ∧ x66 ≤ N2 ∧ 20 * nu + 17 - 0 ≤ (n : Int); omega) (by show 0 ≤ z76 ∧ z76 ≤ 9999999; omega)) cl_Mo_407 rfl (by decide) rfl rfl e_q_comeStep_336 rfl rfl rfl ⟨by show _ ≤ (131 + 2 * n : Nat); omega, by show _ ≤ (3840 + 80 * n : Nat); omega⟩ ?_
    rintro v77 A78 ⟨z81, rfl, hT_n80, hE_n80, raw_hz_n80⟩
    have hF_n80 := hE0.trans (hE_n80.sub (fun _ _ _ h9 => h9))
    have hz_n80 : -1 ≤ z81 ∧ z81 ≤ 9999999 := raw_hz_n80
    clear raw_hz_n80
    show JM g D ad w0 A78 339 [(8, vi nu), (4, vi z7), (0, vr 0 0), (1, vi p), (2, vi i), (3, vi s)] [vi z81]
    refine m_blk 344 [(9, vi z81), (8, vi nu), (4, vi z7), (0, vr 0 0), (1, vi p), (2, vi i), (3, vi s)] [vi (-1), vi z81] C f_q_comeStep_339_3 rfl ?_
    refine m_icmp_ne (tgt := 351) C e_q_comeStep_344 (by decide) (by omega) (by decide) (fun c82 => ?_) (fun c82 => ?_)
    · refine m_blk 353 [(9, vi z81), (8, vi nu), (4, vi z7), (0, vr 0 0), (1, vi p), (2, vi i), (3, vi s)] [vr 0 0, vi s] C f_q_comeStep_351_2 rfl ?_
      refine m_getr C e_q_comeStep_353 fg_Mo_24 rfl (by decide) rfl ?_
      refine m_blk 357 [(9, vi z81), (8, vi nu), (4, vi z7), (0, vr 0 0), (1, vi p), (2, vi i), (3, vi s)] [vi p, vr 15 0, vi s] C f_q_comeStep_356_1 rfl ?_
      refine m_aald C p.toNat e_q_comeStep_357 rfl rfl rfl (by decide) (by decide) (by omega) (by show p < ((6 : Nat) : Int); omega) (mz _ _) ?_
      refine m_blk 359 [(9, vi z81), (8, vi nu), (4, vi z7), (0, vr 0 0), (1, vi p), (2, vi i), (3, vi s)] [vi i, vr 35 p.toNat, vi s] C f_q_comeStep_358_1 rfl ?_
      obtain ⟨x83, hx83⟩ : ∃ x, A78 35 p.toNat i.toNat = x := ⟨_, rfl⟩
      have rx83 : (-1) ≤ x83 ∧ x83 ≤ 5 := mrg hT_n80 hx83 rfl
      refine m_iald C e_q_comeStep_359 rfl (by omega) (by decide) (by omega) (by show i < ((16 : Nat) : Int); omega) x83 hx83 ?_
      refine m_blk 363 [(9, vi z81), (8, vi nu), (4, vi z7), (0, vr 0 0), (1, vi p), (2, vi i), (3, vi s)] [vi 0, vi z81, vi x83, vi s] C f_q_comeStep_360_2 rfl ?_
      refine m_callS C Rm Y [vi z81, vi 0] [vi x83, vi s] (q_valueOf l D B H0 ad _ z81 0 (by show 0 ≤ z81 ∧ z81 ≤ 2147483647; omega) (by show -1 ≤ 0 ∧ 0 ≤ 2147483647; omega)) cl_Mo_260 e_q_comeStep_363 rfl rfl rfl ⟨by show _ ≤ (131 + 2 * n : Nat); omega, by show _ ≤ (3840 + 80 * n : Nat); omega⟩ ?_
      rintro v84 A85 ⟨z88, rfl, rfl, raw_hz_n87⟩
      have hz_n87 : z88 = dg z81 0 ∧ 0 ≤ z88 ∧ z88 ≤ 9 := raw_hz_n87
      clear raw_hz_n87
      show JM g D ad w0 A78 366 [(9, vi z81), (8, vi nu), (4, vi z7), (0, vr 0 0), (1, vi p), (2, vi i), (3, vi s)] [vi z88, vi x83, vi s]
      refine m_callS C Rm Y [vi s, vi x83, vi z88] [] (q_with l D B H0 ad _ s x83 z88 (by show 0 ≤ s ∧ s ≤ 9999999; omega) (by show -1 ≤ x83 ∧ x83 ≤ 5; omega) (by show 0 ≤ z88 ∧ z88 ≤ 9; omega)) cl_Mo_282 e_q_comeStep_366 rfl rfl rfl ⟨by show _ ≤ (131 + 2 * n : Nat); omega, by show _ ≤ (3840 + 80 * n : Nat); omega⟩ ?_
      rintro v89 A90 ⟨z93, rfl, rfl, raw_hz_n92⟩
      have hz_n92 : z93 = s + (z88 - dg s x83) * tnF x83 ∧ 0 ≤ z93 ∧ z93 ≤ 9999999 := raw_hz_n92
      clear raw_hz_n92
      show JM g D ad w0 A78 369 [(9, vi z81), (8, vi nu), (4, vi z7), (0, vr 0 0), (1, vi p), (2, vi i), (3, vi s)] [vi z93]
      exact m_iret C Rm E e_q_comeStep_369 ⟨z93, rfl, hT_n80, hF_n80, (by show -1 ≤ z93 ∧ z93 ≤ 9999999; omega)⟩
    · refine m_blk 369 [(9, vi z81), (8, vi nu), (4, vi z7), (0, vr 0 0), (1, vi p), (2, vi i), (3, vi s)] [vi (-1)] C f_q_comeStep_347_2 rfl ?_
      exact m_iret C Rm E e_q_comeStep_369 ⟨(-1), rfl, hT_n80, hF_n80, (by show -1 ≤ (-1) ∧ (-1) ≤ 9999999; omega)⟩
  · refine m_blk 30 [(0, vr 0 0), (1, vi p), (2, vi i), (3, vi s)] [vi 0] C f_q_comeStep_12_2 rfl ?_
    refine m_blk 33 [(4, vi 0), (0, vr 0 0), (1, vi p), (2, vi i), (3, vi s)] [vr 0 0] C f_q_comeStep_30_2 rfl ?_
    refine m_getr C e_q_comeStep_33 fg_Mo_21 rfl (by decide) rfl ?_
    refine m_blk 37 [(4, vi 0), (0, vr 0 0), (1, vi p), (2, vi i), (3, vi s)] [vi p, vr 14 0] C f_q_comeStep_36_1 rfl ?_
    refine m_aald C p.toNat e_q_comeStep_37 rfl rfl rfl (by decide) (by decide) (by omega) (by show p < ((6 : Nat) : Int); omega) (mz _ _) ?_
    refine m_blk 39 [(4, vi 0), (0, vr 0 0), (1, vi p), (2, vi i), (3, vi s)] [vi i, vr 34 p.toNat] C f_q_comeStep_38_1 rfl ?_
    obtain ⟨x94, hx94⟩ : ∃ x, A 34 p.toNat i.toNat = x := ⟨_, rfl⟩
    have rx94 : (-1) ≤ x94 ∧ x94 ≤ 255 := mrg hT hx94 rfl
    refine m_iald C e_q_comeStep_39 rfl (by omega) (by decide) (by omega) (by show i < ((16 : Nat) : Int); omega) x94 hx94 ?_
    by_cases c95 : x94 = 0
    · refine m_tabIn (tgt := 76) C e_q_comeStep_40 (by omega) (by omega) (by omega) (by rw [c95]; rfl) (by decide) ?_
      have f9 := hs9.k0 (by omega)
      rw [hfl, hnu] at f9
      refine m_blk 78 [(4, vi 0), (0, vr 0 0), (1, vi p), (2, vi i), (3, vi s)] [vr 0 0, vr 0 0] C f_q_comeStep_76_2 rfl ?_
      obtain ⟨x96, hx96⟩ : ∃ x, A 0 0 36 = x := ⟨_, rfl⟩
      have rx96 : (-2147483648) ≤ x96 ∧ x96 ≤ 2147483647 := mrg hT hx96 rfl
      refine m_geti C e_q_comeStep_78 fg_Mo_403 rfl (by decide) rfl x96 hx96 ?_
      refine m_ldcw C 1103515245 e_q_comeStep_81 ld_Mo_406 (by decide) ?_
      refine m_blk 89 [(4, vi 0), (0, vr 0 0), (1, vi p), (2, vi i), (3, vi s)] [vi ((x96 * 1103515245) + 12345), vr 0 0] C f_q_comeStep_84_3 rfl ?_
      refine m_nrm (fun y97 hy97 => ?_)
      refine m_puti C e_q_comeStep_89 fp_Mo_403 rfl (by decide) rfl ?_
      have t98 : mTy (mu A 0 0 36 y97) := hT.mu (by show (-2147483648) ≤ y97 ∧ y97 ≤ 2147483647; omega)
      have q99 := hE0.mu (f := 0) (k := 0) (j := 36) (z := y97) (by simp [zm])
      refine m_blk 93 [(4, vi 0), (0, vr 0 0), (1, vi p), (2, vi i), (3, vi s)] [vr 0 0] C f_q_comeStep_92_1 rfl ?_
      refine m_geti C e_q_comeStep_93 fg_Mo_403 rfl (by decide) rfl y97 rfl ?_
      refine m_blk 102 [(4, vi 0), (0, vr 0 0), (1, vi p), (2, vi i), (3, vi s)] [vi i, vi p, vr 0 0, vi (iUsh y97 9)] C f_q_comeStep_96_5 rfl ?_
      refine m_callV C Rm Y [vi p, vi i] [vi (iUsh y97 9)] (q_lotsAll l D B H0 ad _ t98 fl nu p i (by show 0 ≤ p ∧ p ≤ 5 ∧ 0 ≤ i ∧ i ≤ 15; omega) ⟨hfl, hnu, by omega, by omega, by omega, by omega⟩) cl_Mo_232 rfl (by decide) rfl rfl e_q_comeStep_102 rfl rfl rfl ⟨by show _ ≤ (131 + 2 * n : Nat); omega, by show _ ≤ (3840 + 80 * n : Nat); omega⟩ ?_
      rintro v100 A101 ⟨z104, rfl, rfl, raw_hz_n103⟩
      have hz_n103 : z104 = ws ((mu A 0 0 36 y97) 42 p.toNat) fl.toNat nu.toNat ∧ 0 ≤ z104 ∧ z104 ≤ 16 * nu := raw_hz_n103
      clear raw_hz_n103
      show JM g D ad w0 (mu A 0 0 36 y97) 105 [(4, vi 0), (0, vr 0 0), (1, vi p), (2, vi i), (3, vi s)] [vi z104, vi (iUsh y97 9)]
      have hal : z104 = SW nu := by rw [hSW]; exact hz_n103.1
      have hal1 : 1 ≤ z104 := by rw [hal, hSW]; exact f9.2.2.2
      have ush9 := iUsh9 y97
      have tm9 := tm_lt ush9.1 hal1
      refine m_irem C e_q_comeStep_105 (by omega) (by omega) (by omega) ?_
      refine m_blk 109 [(5, vi (Int.tmod (iUsh y97 9) z104)), (4, vi 0), (0, vr 0 0), (1, vi p), (2, vi i), (3, vi s)] [vr 0 0] C f_q_comeStep_106_2 rfl ?_
      refine m_getr C e_q_comeStep_109 fg_Mo_39 rfl (by decide) rfl ?_
      refine m_blk 113 [(5, vi (Int.tmod (iUsh y97 9) z104)), (4, vi 0), (0, vr 0 0), (1, vi p), (2, vi i), (3, vi s)] [vi p, vr 20 0] C f_q_comeStep_112_1 rfl ?_
      refine m_aald C p.toNat e_q_comeStep_113 rfl rfl rfl (by decide) (by decide) (by omega) (by show p < ((6 : Nat) : Int); omega) (mz _ _) ?_
      refine m_blk 115 [(5, vi (Int.tmod (iUsh y97 9) z104)), (4, vi 0), (0, vr 0 0), (1, vi p), (2, vi i), (3, vi s)] [vi i, vr 40 p.toNat] C f_q_comeStep_114_1 rfl ?_
      refine m_iald C e_q_comeStep_115 rfl (by omega) (by decide) (by omega) (by show i < ((16 : Nat) : Int); omega) fl hfl ?_
      refine m_blk 118 [(6, vi fl), (5, vi (Int.tmod (iUsh y97 9) z104)), (4, vi 0), (0, vr 0 0), (1, vi p), (2, vi i), (3, vi s)] [] C f_q_comeStep_116_1 rfl ?_
      have hd_118 : ∀ (NZ : Nat) (le : Int) (l9 : Int), fl ≤ l9 ∧ l9 ≤ fl + nu → (0 ≤ le ∧ le ≤ 200) ∧ le + SW (l9 - fl) < SW nu → (200 - l9) < (NZ : Int) → JM g D ad w0 (mu A 0 0 36 y97) 118 [(5, vi le), (6, vi l9), (0, vr 0 0), (1, vi p), (2, vi i), (3, vi s), (4, vi 0)] [] := by
        intro NZ
        induction NZ with
        | zero => intro le l9 hl9 hle hm118; exact absurd hm118 (by omega)
        | succ NZ ih118 =>
          intro le l9 hl9 hle hm118
          have lq9 : l9 < fl + nu := by
            rcases (show l9 < fl + nu ∨ l9 = fl + nu from by omega) with h8 | h8
            · exact h8
            · have e8 : l9 - fl = nu := by omega
              rw [e8] at hle
              omega
          refine m_blk 121 [(5, vi le), (6, vi l9), (0, vr 0 0), (1, vi p), (2, vi i), (3, vi s), (4, vi 0)] [vr 0 0, vi le] C f_q_comeStep_118_2 rfl ?_
          refine m_getr C e_q_comeStep_121 fg_Mo_45 rfl (by decide) rfl ?_
          refine m_blk 125 [(5, vi le), (6, vi l9), (0, vr 0 0), (1, vi p), (2, vi i), (3, vi s), (4, vi 0)] [vi p, vr 22 0, vi le] C f_q_comeStep_124_1 rfl ?_
          refine m_aald C p.toNat e_q_comeStep_125 rfl rfl rfl (by decide) (by decide) (by omega) (by show p < ((6 : Nat) : Int); omega) (mz _ _) ?_
          refine m_blk 128 [(5, vi le), (6, vi l9), (0, vr 0 0), (1, vi p), (2, vi i), (3, vi s), (4, vi 0)] [vi l9, vr 42 p.toNat, vi le] C f_q_comeStep_126_1 rfl ?_
          obtain ⟨x105, hx105⟩ : ∃ x, A 42 p.toNat l9.toNat = x := ⟨_, rfl⟩
          have rx105 : 0 ≤ x105 ∧ x105 ≤ 16 := mrg hT hx105 rfl
          have hsw : SW (l9 + 1 - fl) = SW (l9 - fl) + x105 := by rw [hSW, hSW, show l9 + 1 - fl = l9 - fl + 1 by omega, ws_step (by omega) (by omega), show fl + (l9 - fl) = l9 by omega, hx105]
          refine m_iald C e_q_comeStep_128 rfl (by omega) (by decide) (by omega) (by show l9 < ((120 : Nat) : Int); omega) x105 hx105 ?_
          refine m_icmp_lt (tgt := 152) C e_q_comeStep_129 (by decide) (by omega) (by omega) (fun c106 => ?_) (fun c106 => ?_)
          · refine m_blk 154 [(5, vi le), (6, vi l9), (0, vr 0 0), (1, vi p), (2, vi i), (3, vi s), (4, vi 0)] [vr 0 0, vi s] C f_q_comeStep_152_2 rfl ?_
            refine m_getr C e_q_comeStep_154 fg_Mo_24 rfl (by decide) rfl ?_
            refine m_blk 158 [(5, vi le), (6, vi l9), (0, vr 0 0), (1, vi p), (2, vi i), (3, vi s), (4, vi 0)] [vi p, vr 15 0, vi s] C f_q_comeStep_157_1 rfl ?_
            refine m_aald C p.toNat e_q_comeStep_158 rfl rfl rfl (by decide) (by decide) (by omega) (by show p < ((6 : Nat) : Int); omega) (mz _ _) ?_
            refine m_blk 160 [(5, vi le), (6, vi l9), (0, vr 0 0), (1, vi p), (2, vi i), (3, vi s), (4, vi 0)] [vi i, vr 35 p.toNat, vi s] C f_q_comeStep_159_1 rfl ?_
            obtain ⟨x107, hx107⟩ : ∃ x, A 35 p.toNat i.toNat = x := ⟨_, rfl⟩
            have rx107 : (-1) ≤ x107 ∧ x107 ≤ 5 := mrg hT hx107 rfl
            refine m_iald C e_q_comeStep_160 rfl (by omega) (by decide) (by omega) (by show i < ((16 : Nat) : Int); omega) x107 hx107 ?_
            refine m_blk 162 [(5, vi le), (6, vi l9), (0, vr 0 0), (1, vi p), (2, vi i), (3, vi s), (4, vi 0)] [vr 0 0, vi x107, vi s] C f_q_comeStep_161_1 rfl ?_
            refine m_getr C e_q_comeStep_162 fg_Mo_42 rfl (by decide) rfl ?_
            refine m_blk 166 [(5, vi le), (6, vi l9), (0, vr 0 0), (1, vi p), (2, vi i), (3, vi s), (4, vi 0)] [vi p, vr 21 0, vi x107, vi s] C f_q_comeStep_165_1 rfl ?_
            refine m_aald C p.toNat e_q_comeStep_166 rfl rfl rfl (by decide) (by decide) (by omega) (by show p < ((6 : Nat) : Int); omega) (mz _ _) ?_
            refine m_blk 169 [(5, vi le), (6, vi l9), (0, vr 0 0), (1, vi p), (2, vi i), (3, vi s), (4, vi 0)] [vi l9, vr 41 p.toNat, vi x107, vi s] C f_q_comeStep_167_1 rfl ?_
            obtain ⟨x108, hx108⟩ : ∃ x, A 41 p.toNat l9.toNat = x := ⟨_, rfl⟩
            have rx108 : 0 ≤ x108 ∧ x108 ≤ 9 := mrg hT hx108 rfl
            refine m_iald C e_q_comeStep_169 rfl (by omega) (by decide) (by omega) (by show l9 < ((120 : Nat) : Int); omega) x108 hx108 ?_
            refine m_callS C Rm Y [vi s, vi x107, vi x108] [] (q_with l D B H0 ad _ s x107 x108 (by show 0 ≤ s ∧ s ≤ 9999999; omega) (by show -1 ≤ x107 ∧ x107 ≤ 5; omega) (by show 0 ≤ x108 ∧ x108 ≤ 9; omega)) cl_Mo_282 e_q_comeStep_170 rfl rfl rfl ⟨by show _ ≤ (131 + 2 * n : Nat); omega, by show _ ≤ (3840 + 80 * n : Nat); omega⟩ ?_
            rintro v109 A110 ⟨z113, rfl, rfl, raw_hz_n112⟩
            have hz_n112 : z113 = s + (x108 - dg s x107) * tnF x107 ∧ 0 ≤ z113 ∧ z113 ≤ 9999999 := raw_hz_n112
            clear raw_hz_n112
            show JM g D ad w0 (mu A 0 0 36 y97) 173 [(5, vi le), (6, vi l9), (0, vr 0 0), (1, vi p), (2, vi i), (3, vi s), (4, vi 0)] [vi z113]
            exact m_iret C Rm E e_q_comeStep_173 ⟨z113, rfl, t98, q99, (by show -1 ≤ z113 ∧ z113 ≤ 9999999; omega)⟩
          · refine m_blk 135 [(5, vi le), (6, vi l9), (0, vr 0 0), (1, vi p), (2, vi i), (3, vi s), (4, vi 0)] [vr 0 0, vi le] C f_q_comeStep_132_2 rfl ?_
            refine m_getr C e_q_comeStep_135 fg_Mo_45 rfl (by decide) rfl ?_
            refine m_blk 139 [(5, vi le), (6, vi l9), (0, vr 0 0), (1, vi p), (2, vi i), (3, vi s), (4, vi 0)] [vi p, vr 22 0, vi le] C f_q_comeStep_138_1 rfl ?_
            refine m_aald C p.toNat e_q_comeStep_139 rfl rfl rfl (by decide) (by decide) (by omega) (by show p < ((6 : Nat) : Int); omega) (mz _ _) ?_
            refine m_blk 142 [(5, vi le), (6, vi l9), (0, vr 0 0), (1, vi p), (2, vi i), (3, vi s), (4, vi 0)] [vi l9, vr 42 p.toNat, vi le] C f_q_comeStep_140_1 rfl ?_
            refine m_iald C e_q_comeStep_142 rfl (by omega) (by decide) (by omega) (by show l9 < ((120 : Nat) : Int); omega) x105 hx105 ?_
            refine m_blk 118 [(6, vi (l9 + 1)), (5, vi (le - x105)), (0, vr 0 0), (1, vi p), (2, vi i), (3, vi s), (4, vi 0)] [] C f_q_comeStep_143_4 rfl ?_
            refine m_loc [(5, vi (le - x105)), (6, vi (l9 + 1)), (0, vr 0 0), (1, vi p), (2, vi i), (3, vi s), (4, vi 0)] ⟨rfl, rfl, rfl, rfl, rfl, rfl, rfl, trivial⟩ ?_
            exact ih118 (le - x105) (l9 + 1) (by show fl ≤ (l9 + 1) ∧ (l9 + 1) ≤ fl + nu; omega) (by show (0 ≤ (le - x105) ∧ (le - x105) ≤ 200) ∧ (le - x105) + SW (l9 + 1 - fl) < SW nu; omega) (by show (200 - (l9 + 1)) < _; omega)
      refine m_loc [(5, vi (Int.tmod (iUsh y97 9) z104)), (6, vi fl), (0, vr 0 0), (1, vi p), (2, vi i), (3, vi s), (4, vi 0)] ⟨rfl, rfl, rfl, rfl, rfl, rfl, rfl, trivial⟩ ?_
      exact hd_118 (Int.toNat ((200 - fl)) + 1) (Int.tmod (iUsh y97 9) z104) fl (by show fl ≤ fl ∧ fl ≤ fl + nu; omega) (by rw [show fl - fl = 0 by omega, sw00]; omega) (by show (200 - fl) < _; omega)
    by_cases c114 : x94 = 1
    · refine m_tabIn (tgt := 174) C e_q_comeStep_40 (by omega) (by omega) (by omega) (by rw [c114]; rfl) (by decide) ?_
      refine m_blk 176 [(4, vi 0), (0, vr 0 0), (1, vi p), (2, vi i), (3, vi s)] [vr 0 0, vi s] C f_q_comeStep_174_2 rfl ?_
      refine m_getr C e_q_comeStep_176 fg_Mo_24 rfl (by decide) rfl ?_
      refine m_blk 180 [(4, vi 0), (0, vr 0 0), (1, vi p), (2, vi i), (3, vi s)] [vi p, vr 15 0, vi s] C f_q_comeStep_179_1 rfl ?_
      refine m_aald C p.toNat e_q_comeStep_180 rfl rfl rfl (by decide) (by decide) (by omega) (by show p < ((6 : Nat) : Int); omega) (mz _ _) ?_
      refine m_blk 182 [(4, vi 0), (0, vr 0 0), (1, vi p), (2, vi i), (3, vi s)] [vi i, vr 35 p.toNat, vi s] C f_q_comeStep_181_1 rfl ?_
      obtain ⟨x115, hx115⟩ : ∃ x, A 35 p.toNat i.toNat = x := ⟨_, rfl⟩
      have rx115 : (-1) ≤ x115 ∧ x115 ≤ 5 := mrg hT hx115 rfl
      refine m_iald C e_q_comeStep_182 rfl (by omega) (by decide) (by omega) (by show i < ((16 : Nat) : Int); omega) x115 hx115 ?_
      refine m_blk 185 [(4, vi 0), (0, vr 0 0), (1, vi p), (2, vi i), (3, vi s)] [vi 0, vi x115, vi s] C f_q_comeStep_183_1 rfl ?_
      refine m_callS C Rm Y [vi 0] [vi x115, vi s] (q_digit l D B H0 ad _ 0 (by show -2147483648 ≤ 0 ∧ 0 ≤ 2147483647; omega)) cl_Mo_333 e_q_comeStep_185 rfl rfl rfl ⟨by show _ ≤ (131 + 2 * n : Nat); omega, by show _ ≤ (3840 + 80 * n : Nat); omega⟩ ?_
      rintro v116 A117 ⟨z120, rfl, rfl, raw_hz_n119⟩
      have hz_n119 : z120 = 0 % 10 ∧ 0 ≤ z120 ∧ z120 ≤ 9 := raw_hz_n119
      clear raw_hz_n119
      show JM g D ad w0 A 188 [(4, vi 0), (0, vr 0 0), (1, vi p), (2, vi i), (3, vi s)] [vi z120, vi x115, vi s]
      refine m_callS C Rm Y [vi s, vi x115, vi z120] [] (q_with l D B H0 ad _ s x115 z120 (by show 0 ≤ s ∧ s ≤ 9999999; omega) (by show -1 ≤ x115 ∧ x115 ≤ 5; omega) (by show 0 ≤ z120 ∧ z120 ≤ 9; omega)) cl_Mo_282 e_q_comeStep_188 rfl rfl rfl ⟨by show _ ≤ (131 + 2 * n : Nat); omega, by show _ ≤ (3840 + 80 * n : Nat); omega⟩ ?_
      rintro v121 A122 ⟨z125, rfl, rfl, raw_hz_n124⟩
      have hz_n124 : z125 = s + (z120 - dg s x115) * tnF x115 ∧ 0 ≤ z125 ∧ z125 ≤ 9999999 := raw_hz_n124
      clear raw_hz_n124
      show JM g D ad w0 A 191 [(4, vi 0), (0, vr 0 0), (1, vi p), (2, vi i), (3, vi s)] [vi z125]
      exact m_iret C Rm E e_q_comeStep_191 ⟨z125, rfl, hT, hE0, (by show -1 ≤ z125 ∧ z125 ≤ 9999999; omega)⟩
    by_cases c126 : x94 = 2
    · refine m_tabIn (tgt := 192) C e_q_comeStep_40 (by omega) (by omega) (by omega) (by rw [c126]; rfl) (by decide) ?_
      refine m_blk 194 [(4, vi 0), (0, vr 0 0), (1, vi p), (2, vi i), (3, vi s)] [vi 0] C f_q_comeStep_192_1 rfl ?_
      refine m_if_eq (tgt := 201) C e_q_comeStep_194 (by decide) (by decide) (fun c127 => ?_) (fun c127 => (by omega : False).elim)
      refine m_blk 202 [(4, vi 0), (0, vr 0 0), (1, vi p), (2, vi i), (3, vi s)] [vi (-1)] C f_q_comeStep_201_1 rfl ?_
      exact m_iret C Rm E e_q_comeStep_202 ⟨(-1), rfl, hT, hE0, (by show -1 ≤ (-1) ∧ (-1) ≤ 9999999; omega)⟩
    by_cases c128 : x94 = 3
    · refine m_tabIn (tgt := 203) C e_q_comeStep_40 (by omega) (by omega) (by omega) (by rw [c128]; rfl) (by decide) ?_
      refine m_blk 205 [(4, vi 0), (0, vr 0 0), (1, vi p), (2, vi i), (3, vi s)] [vi 0] C f_q_comeStep_203_1 rfl ?_
      refine m_if_eq (tgt := 228) C e_q_comeStep_205 (by decide) (by decide) (fun c129 => ?_) (fun c129 => (by omega : False).elim)
      refine m_blk 231 [(4, vi 0), (0, vr 0 0), (1, vi p), (2, vi i), (3, vi s)] [vr 0 0, vi p, vr 0 0] C f_q_comeStep_228_3 rfl ?_
      refine m_getr C e_q_comeStep_231 fg_Mo_33 rfl (by decide) rfl ?_
      refine m_blk 235 [(4, vi 0), (0, vr 0 0), (1, vi p), (2, vi i), (3, vi s)] [vi p, vr 18 0, vi p, vr 0 0] C f_q_comeStep_234_1 rfl ?_
      refine m_aald C p.toNat e_q_comeStep_235 rfl rfl rfl (by decide) (by decide) (by omega) (by show p < ((6 : Nat) : Int); omega) (mz _ _) ?_
      refine m_blk 237 [(4, vi 0), (0, vr 0 0), (1, vi p), (2, vi i), (3, vi s)] [vi i, vr 38 p.toNat, vi p, vr 0 0] C f_q_comeStep_236_1 rfl ?_
      obtain ⟨x130, hx130⟩ : ∃ x, A 38 p.toNat i.toNat = x := ⟨_, rfl⟩
      have rx130 : 0 ≤ x130 ∧ x130 ≤ 16 := mrg hT hx130 rfl
      refine m_iald C e_q_comeStep_237 rfl (by omega) (by decide) (by omega) (by show i < ((16 : Nat) : Int); omega) x130 hx130 ?_
      refine m_blk 239 [(4, vi 0), (0, vr 0 0), (1, vi p), (2, vi i), (3, vi s)] [vr 0 0, vi x130, vi p, vr 0 0] C f_q_comeStep_238_1 rfl ?_
      refine m_getr C e_q_comeStep_239 fg_Mo_30 rfl (by decide) rfl ?_
      refine m_blk 243 [(4, vi 0), (0, vr 0 0), (1, vi p), (2, vi i), (3, vi s)] [vi p, vr 17 0, vi x130, vi p, vr 0 0] C f_q_comeStep_242_1 rfl ?_
      refine m_aald C p.toNat e_q_comeStep_243 rfl rfl rfl (by decide) (by decide) (by omega) (by show p < ((6 : Nat) : Int); omega) (mz _ _) ?_
      refine m_blk 245 [(4, vi 0), (0, vr 0 0), (1, vi p), (2, vi i), (3, vi s)] [vi i, vr 37 p.toNat, vi x130, vi p, vr 0 0] C f_q_comeStep_244_1 rfl ?_
      obtain ⟨x131, hx131⟩ : ∃ x, A 37 p.toNat i.toNat = x := ⟨_, rfl⟩
      have rx131 : 0 ≤ x131 ∧ x131 ≤ 16 := mrg hT hx131 rfl
      refine m_iald C e_q_comeStep_245 rfl (by omega) (by decide) (by omega) (by show i < ((16 : Nat) : Int); omega) x131 hx131 ?_
      refine m_blk 247 [(4, vi 0), (0, vr 0 0), (1, vi p), (2, vi i), (3, vi s)] [vi s, vi x131, vi x130, vi p, vr 0 0] C f_q_comeStep_246_1 rfl ?_
      refine m_callV C Rm Y [vi p, vi x130, vi x131, vi s] [] (hq9 l D B H0 ad _ hT N M Ln dep p x130 x131 s (by show 0 ≤ p ∧ p ≤ 5; omega) hK ha (by show 0 ≤ x130 ∧ x130 ≤ 16 ∧ 0 ≤ x131 ∧ x131 ≤ N ∧ 20 * p + 17 - x130 ≤ (n : Int); omega) (by show 0 ≤ s ∧ s ≤ 9999999; omega)) cl_Mo_407 rfl (by decide) rfl rfl e_q_comeStep_247 rfl rfl rfl ⟨by show _ ≤ (131 + 2 * n : Nat); omega, by show _ ≤ (3840 + 80 * n : Nat); omega⟩ ?_
      rintro v132 A133 ⟨z136, rfl, hT_n135, hE_n135, raw_hz_n135⟩
      have hF_n135 := hE0.trans (hE_n135.sub (fun _ _ _ h9 => h9))
      have hz_n135 : -1 ≤ z136 ∧ z136 ≤ 9999999 := raw_hz_n135
      clear raw_hz_n135
      show JM g D ad w0 A133 250 [(4, vi 0), (0, vr 0 0), (1, vi p), (2, vi i), (3, vi s)] [vi z136]
      exact m_iret C Rm E e_q_comeStep_250 ⟨z136, rfl, hT_n135, hF_n135, (by show -1 ≤ z136 ∧ z136 ≤ 9999999; omega)⟩
    by_cases c137 : x94 = 4
    · refine m_tabIn (tgt := 251) C e_q_comeStep_40 (by omega) (by omega) (by omega) (by rw [c137]; rfl) (by decide) ?_
      refine m_blk 257 [(8, vi 0), (7, vi s), (4, vi 0), (0, vr 0 0), (1, vi p), (2, vi i), (3, vi s)] [] C f_q_comeStep_251_4 rfl ?_
      have hd_257 : ∀ (NZ : Nat) (A2 : mA) (t : Int) (e : Int), mTy A2 → mEq zm A A2 → 0 ≤ t ∧ t ≤ 10 → -1 ≤ e ∧ e ≤ 9999999 → (40 - t) < (NZ : Int) → JM g D ad w0 A2 257 [(8, vi t), (7, vi e), (0, vr 0 0), (1, vi p), (2, vi i), (3, vi s)] [] := by
        intro NZ
        induction NZ with
        | zero => intro A2 t e hT2 hE2 ht2 he2 hm257; exact absurd hm257 (by omega)
        | succ NZ ih257 =>
          intro A2 t e hT2 hE2 ht2 he2 hm257
          have e36 : A2 36 p.toNat i.toNat = nu := (hE2 36 p.toNat i.toNat (zm_far (by decide) _ _)).trans hnu
          have e37 : A2 37 p.toNat i.toNat = A 37 p.toNat i.toNat := hE2 37 p.toNat i.toNat (zm_far (by decide) _ _)
          refine m_blk 260 [(8, vi t), (7, vi e), (0, vr 0 0), (1, vi p), (2, vi i), (3, vi s)] [vr 0 0, vi t] C f_q_comeStep_257_2 rfl ?_
          refine m_getr C e_q_comeStep_260 fg_Mo_27 rfl (by decide) rfl ?_
          refine m_blk 264 [(8, vi t), (7, vi e), (0, vr 0 0), (1, vi p), (2, vi i), (3, vi s)] [vi p, vr 16 0, vi t] C f_q_comeStep_263_1 rfl ?_
          refine m_aald C p.toNat e_q_comeStep_264 rfl rfl rfl (by decide) (by decide) (by omega) (by show p < ((6 : Nat) : Int); omega) (mz _ _) ?_
          refine m_blk 266 [(8, vi t), (7, vi e), (0, vr 0 0), (1, vi p), (2, vi i), (3, vi s)] [vi i, vr 36 p.toNat, vi t] C f_q_comeStep_265_1 rfl ?_
          refine m_iald C e_q_comeStep_266 rfl (by omega) (by decide) (by omega) (by show i < ((16 : Nat) : Int); omega) nu e36 ?_
          refine m_icmp_ge (tgt := 302) C e_q_comeStep_267 (by decide) (by omega) (by omega) (fun c138 => ?_) (fun c138 => ?_)
          · refine m_blk 304 [(8, vi t), (7, vi e), (0, vr 0 0), (1, vi p), (2, vi i), (3, vi s)] [vi e] C f_q_comeStep_302_1 rfl ?_
            exact m_iret C Rm E e_q_comeStep_304 ⟨e, rfl, hT2, hE2, (by show -1 ≤ e ∧ e ≤ 9999999; omega)⟩
          · refine m_blk 273 [(8, vi t), (7, vi e), (0, vr 0 0), (1, vi p), (2, vi i), (3, vi s)] [vi (-1), vi e] C f_q_comeStep_270_2 rfl ?_
            refine m_icmp_eq (tgt := 302) C e_q_comeStep_273 (by decide) (by omega) (by decide) (fun c139 => ?_) (fun c139 => ?_)
            · refine m_blk 304 [(8, vi t), (7, vi e), (0, vr 0 0), (1, vi p), (2, vi i), (3, vi s)] [vi e] C f_q_comeStep_302_1 rfl ?_
              exact m_iret C Rm E e_q_comeStep_304 ⟨e, rfl, hT2, hE2, (by show -1 ≤ e ∧ e ≤ 9999999; omega)⟩
            · refine m_blk 282 [(8, vi t), (7, vi e), (0, vr 0 0), (1, vi p), (2, vi i), (3, vi s)] [vr 0 0, vi (i + 1), vi p, vr 0 0] C f_q_comeStep_276_6 rfl ?_
              refine m_getr C e_q_comeStep_282 fg_Mo_30 rfl (by decide) rfl ?_
              refine m_blk 286 [(8, vi t), (7, vi e), (0, vr 0 0), (1, vi p), (2, vi i), (3, vi s)] [vi p, vr 17 0, vi (i + 1), vi p, vr 0 0] C f_q_comeStep_285_1 rfl ?_
              refine m_aald C p.toNat e_q_comeStep_286 rfl rfl rfl (by decide) (by decide) (by omega) (by show p < ((6 : Nat) : Int); omega) (mz _ _) ?_
              refine m_blk 288 [(8, vi t), (7, vi e), (0, vr 0 0), (1, vi p), (2, vi i), (3, vi s)] [vi i, vr 37 p.toNat, vi (i + 1), vi p, vr 0 0] C f_q_comeStep_287_1 rfl ?_
              obtain ⟨x140, hx140⟩ : ∃ x, A2 37 p.toNat i.toNat = x := ⟨_, rfl⟩
              have rx140 : 0 ≤ x140 ∧ x140 ≤ 16 := mrg hT2 hx140 rfl
              refine m_iald C e_q_comeStep_288 rfl (by omega) (by decide) (by omega) (by show i < ((16 : Nat) : Int); omega) x140 hx140 ?_
              refine m_blk 291 [(8, vi t), (7, vi e), (0, vr 0 0), (1, vi p), (2, vi i), (3, vi s)] [vi e, vi x140, vi (i + 1), vi p, vr 0 0] C f_q_comeStep_289_1 rfl ?_
              refine m_callV C Rm Y [vi p, vi (i + 1), vi x140, vi e] [] (hq9 l D B H0 ad _ hT2 N M Ln dep p (i + 1) x140 e (by show 0 ≤ p ∧ p ≤ 5; omega) (hK.zmk hE2) (ha.zmk hE2) (by show 0 ≤ (i + 1) ∧ (i + 1) ≤ 16 ∧ 0 ≤ x140 ∧ x140 ≤ N ∧ 20 * p + 17 - (i + 1) ≤ (n : Int); omega) (by show 0 ≤ e ∧ e ≤ 9999999; omega)) cl_Mo_407 rfl (by decide) rfl rfl e_q_comeStep_291 rfl rfl rfl ⟨by show _ ≤ (131 + 2 * n : Nat); omega, by show _ ≤ (3840 + 80 * n : Nat); omega⟩ ?_
              rintro v141 A142 ⟨z145, rfl, hT_n144, hE_n144, raw_hz_n144⟩
              have hF_n144 := hE2.trans (hE_n144.sub (fun _ _ _ h9 => h9))
              have hz_n144 : -1 ≤ z145 ∧ z145 ≤ 9999999 := raw_hz_n144
              clear raw_hz_n144
              show JM g D ad w0 A142 294 [(8, vi t), (7, vi e), (0, vr 0 0), (1, vi p), (2, vi i), (3, vi s)] [vi z145]
              refine m_blk 257 [(8, vi (t + 1)), (7, vi z145), (0, vr 0 0), (1, vi p), (2, vi i), (3, vi s)] [] C f_q_comeStep_294_3 rfl ?_
              refine m_loc [(8, vi (t + 1)), (7, vi z145), (0, vr 0 0), (1, vi p), (2, vi i), (3, vi s)] ⟨rfl, rfl, rfl, rfl, rfl, rfl, trivial⟩ ?_
              exact ih257 A142 (t + 1) z145 hT_n144 hF_n144 (by show 0 ≤ (t + 1) ∧ (t + 1) ≤ 10; omega) (by show -1 ≤ z145 ∧ z145 ≤ 9999999; omega) (by show (40 - (t + 1)) < _; omega)
      refine m_loc [(8, vi 0), (7, vi s), (0, vr 0 0), (1, vi p), (2, vi i), (3, vi s)] ⟨rfl, rfl, rfl, rfl, rfl, rfl, trivial⟩ ?_
      exact hd_257 (Int.toNat ((40 - 0)) + 1) A 0 s hT hE0 (by show 0 ≤ 0 ∧ 0 ≤ 10; omega) (by show -1 ≤ s ∧ s ≤ 9999999; omega) (by show (40 - 0) < _; omega)
    refine m_tabOut (tgt := 305) C e_q_comeStep_40 (by omega) (by omega) (by decide) ?_
    refine m_blk 306 [(4, vi 0), (0, vr 0 0), (1, vi p), (2, vi i), (3, vi s)] [vr 0 0] C f_q_comeStep_305_1 rfl ?_
    refine m_getr C e_q_comeStep_306 fg_Mo_27 rfl (by decide) rfl ?_
    refine m_blk 310 [(4, vi 0), (0, vr 0 0), (1, vi p), (2, vi i), (3, vi s)] [vi p, vr 16 0] C f_q_comeStep_309_1 rfl ?_
    refine m_aald C p.toNat e_q_comeStep_310 rfl rfl rfl (by decide) (by decide) (by omega) (by show p < ((6 : Nat) : Int); omega) (mz _ _) ?_
    refine m_blk 312 [(4, vi 0), (0, vr 0 0), (1, vi p), (2, vi i), (3, vi s)] [vi i, vr 36 p.toNat] C f_q_comeStep_311_1 rfl ?_
    refine m_iald C e_q_comeStep_312 rfl (by omega) (by decide) (by omega) (by show i < ((16 : Nat) : Int); omega) nu hnu ?_
    refine m_blk 315 [(8, vi nu), (4, vi 0), (0, vr 0 0), (1, vi p), (2, vi i), (3, vi s)] [] C f_q_comeStep_313_1 rfl ?_
    have f9 := hs9.k5 (by omega)
    obtain ⟨M2, Ln2, dep2, hK2⟩ := ha.at (p := nu) (by omega) (by omega)
    obtain ⟨N2, hN2⟩ : ∃ x, A 5 0 nu.toNat = x := ⟨_, rfl⟩
    rw [hN2] at hK2
    have hr2 := hK2.rng
    refine m_blk 320 [(8, vi nu), (4, vi 0), (0, vr 0 0), (1, vi p), (2, vi i), (3, vi s)] [vr 0 0, vi 0, vi nu, vr 0 0] C f_q_comeStep_315_4 rfl ?_
    refine m_getr C e_q_comeStep_320 fg_Mo_9 rfl (by decide) rfl ?_
    refine m_blk 325 [(8, vi nu), (4, vi 0), (0, vr 0 0), (1, vi p), (2, vi i), (3, vi s)] [vi nu, vr 5 0, vi 0, vi nu, vr 0 0] C f_q_comeStep_323_1 rfl ?_
    obtain ⟨x146, hx146⟩ : ∃ x, A 5 0 nu.toNat = x := ⟨_, rfl⟩
    have rx146 : 0 ≤ x146 ∧ x146 ≤ 16 := mrg hT hx146 rfl
    refine m_iald C e_q_comeStep_325 rfl (by decide) (by decide) (by omega) (by show nu < ((6 : Nat) : Int); omega) x146 hx146 ?_
    refine m_blk 330 [(8, vi nu), (4, vi 0), (0, vr 0 0), (1, vi p), (2, vi i), (3, vi s)] [vi 0, vi 0, vi 0, vi x146, vi 0, vi nu, vr 0 0] C f_q_comeStep_326_3 rfl ?_
    refine m_callS C Rm Y [vi 0] [vi 0, vi 0, vi x146, vi 0, vi nu, vr 0 0] (q_digit l D B H0 ad _ 0 (by show -2147483648 ≤ 0 ∧ 0 ≤ 2147483647; omega)) cl_Mo_333 e_q_comeStep_330 rfl rfl rfl ⟨by show _ ≤ (131 + 2 * n : Nat); omega, by show _ ≤ (3840 + 80 * n : Nat); omega⟩ ?_
    rintro v147 A148 ⟨z151, rfl, rfl, raw_hz_n150⟩
    have hz_n150 : z151 = 0 % 10 ∧ 0 ≤ z151 ∧ z151 ≤ 9 := raw_hz_n150
    clear raw_hz_n150
    show JM g D ad w0 A 333 [(8, vi nu), (4, vi 0), (0, vr 0 0), (1, vi p), (2, vi i), (3, vi s)] [vi z151, vi 0, vi 0, vi x146, vi 0, vi nu, vr 0 0]
    refine m_callS C Rm Y [vi 0, vi 0, vi z151] [vi x146, vi 0, vi nu, vr 0 0] (q_with l D B H0 ad _ 0 0 z151 (by show 0 ≤ 0 ∧ 0 ≤ 9999999; omega) (by show -1 ≤ 0 ∧ 0 ≤ 5; omega) (by show 0 ≤ z151 ∧ z151 ≤ 9; omega)) cl_Mo_282 e_q_comeStep_333 rfl rfl rfl ⟨by show _ ≤ (131 + 2 * n : Nat); omega, by show _ ≤ (3840 + 80 * n : Nat); omega⟩ ?_
    rintro v152 A153 ⟨z156, rfl, rfl, raw_hz_n155⟩
    have hz_n155 : z156 = 0 + (z151 - dg 0 0) * tnF 0 ∧ 0 ≤ z156 ∧ z156 ≤ 9999999 := raw_hz_n155
    clear raw_hz_n155
    show JM g D ad w0 A 336 [(8, vi nu), (4, vi 0), (0, vr 0 0), (1, vi p), (2, vi i), (3, vi s)] [vi z156, vi x146, vi 0, vi nu, vr 0 0]
    refine m_callV C Rm Y [vi nu, vi 0, vi x146, vi z156] [] (hq9 l D B H0 ad _ hT N2 M2 Ln2 dep2 nu 0 x146 z156 (by show 0 ≤ nu ∧ nu ≤ 5; omega) hK2 (ha.le (by omega)) (by show 0 ≤ 0 ∧ 0 ≤ 16 ∧ 0 ≤ x146 ∧ x146 ≤ N2 ∧ 20 * nu + 17 - 0 ≤ (n : Int); omega) (by show 0 ≤ z156 ∧ z156 ≤ 9999999; omega)) cl_Mo_407 rfl (by decide) rfl rfl e_q_comeStep_336 rfl rfl rfl ⟨by show _ ≤ (131 + 2 * n : Nat); omega, by show _ ≤ (3840 + 80 * n : Nat); omega⟩ ?_
    rintro v157 A158 ⟨z161, rfl, hT_n160, hE_n160, raw_hz_n160⟩
    have hF_n160 := hE0.trans (hE_n160.sub (fun _ _ _ h9 => h9))
    have hz_n160 : -1 ≤ z161 ∧ z161 ≤ 9999999 := raw_hz_n160
    clear raw_hz_n160
    show JM g D ad w0 A158 339 [(8, vi nu), (4, vi 0), (0, vr 0 0), (1, vi p), (2, vi i), (3, vi s)] [vi z161]
    refine m_blk 344 [(9, vi z161), (8, vi nu), (4, vi 0), (0, vr 0 0), (1, vi p), (2, vi i), (3, vi s)] [vi (-1), vi z161] C f_q_comeStep_339_3 rfl ?_
    refine m_icmp_ne (tgt := 351) C e_q_comeStep_344 (by decide) (by omega) (by decide) (fun c162 => ?_) (fun c162 => ?_)
    · refine m_blk 353 [(9, vi z161), (8, vi nu), (4, vi 0), (0, vr 0 0), (1, vi p), (2, vi i), (3, vi s)] [vr 0 0, vi s] C f_q_comeStep_351_2 rfl ?_
      refine m_getr C e_q_comeStep_353 fg_Mo_24 rfl (by decide) rfl ?_
      refine m_blk 357 [(9, vi z161), (8, vi nu), (4, vi 0), (0, vr 0 0), (1, vi p), (2, vi i), (3, vi s)] [vi p, vr 15 0, vi s] C f_q_comeStep_356_1 rfl ?_
      refine m_aald C p.toNat e_q_comeStep_357 rfl rfl rfl (by decide) (by decide) (by omega) (by show p < ((6 : Nat) : Int); omega) (mz _ _) ?_
      refine m_blk 359 [(9, vi z161), (8, vi nu), (4, vi 0), (0, vr 0 0), (1, vi p), (2, vi i), (3, vi s)] [vi i, vr 35 p.toNat, vi s] C f_q_comeStep_358_1 rfl ?_
      obtain ⟨x163, hx163⟩ : ∃ x, A158 35 p.toNat i.toNat = x := ⟨_, rfl⟩
      have rx163 : (-1) ≤ x163 ∧ x163 ≤ 5 := mrg hT_n160 hx163 rfl
      refine m_iald C e_q_comeStep_359 rfl (by omega) (by decide) (by omega) (by show i < ((16 : Nat) : Int); omega) x163 hx163 ?_
      refine m_blk 363 [(9, vi z161), (8, vi nu), (4, vi 0), (0, vr 0 0), (1, vi p), (2, vi i), (3, vi s)] [vi 0, vi z161, vi x163, vi s] C f_q_comeStep_360_2 rfl ?_
      refine m_callS C Rm Y [vi z161, vi 0] [vi x163, vi s] (q_valueOf l D B H0 ad _ z161 0 (by show 0 ≤ z161 ∧ z161 ≤ 2147483647; omega) (by show -1 ≤ 0 ∧ 0 ≤ 2147483647; omega)) cl_Mo_260 e_q_comeStep_363 rfl rfl rfl ⟨by show _ ≤ (131 + 2 * n : Nat); omega, by show _ ≤ (3840 + 80 * n : Nat); omega⟩ ?_
      rintro v164 A165 ⟨z168, rfl, rfl, raw_hz_n167⟩
      have hz_n167 : z168 = dg z161 0 ∧ 0 ≤ z168 ∧ z168 ≤ 9 := raw_hz_n167
      clear raw_hz_n167
      show JM g D ad w0 A158 366 [(9, vi z161), (8, vi nu), (4, vi 0), (0, vr 0 0), (1, vi p), (2, vi i), (3, vi s)] [vi z168, vi x163, vi s]
      refine m_callS C Rm Y [vi s, vi x163, vi z168] [] (q_with l D B H0 ad _ s x163 z168 (by show 0 ≤ s ∧ s ≤ 9999999; omega) (by show -1 ≤ x163 ∧ x163 ≤ 5; omega) (by show 0 ≤ z168 ∧ z168 ≤ 9; omega)) cl_Mo_282 e_q_comeStep_366 rfl rfl rfl ⟨by show _ ≤ (131 + 2 * n : Nat); omega, by show _ ≤ (3840 + 80 * n : Nat); omega⟩ ?_
      rintro v169 A170 ⟨z173, rfl, rfl, raw_hz_n172⟩
      have hz_n172 : z173 = s + (z168 - dg s x163) * tnF x163 ∧ 0 ≤ z173 ∧ z173 ≤ 9999999 := raw_hz_n172
      clear raw_hz_n172
      show JM g D ad w0 A158 369 [(9, vi z161), (8, vi nu), (4, vi 0), (0, vr 0 0), (1, vi p), (2, vi i), (3, vi s)] [vi z173]
      exact m_iret C Rm E e_q_comeStep_369 ⟨z173, rfl, hT_n160, hF_n160, (by show -1 ≤ z173 ∧ z173 ≤ 9999999; omega)⟩
    · refine m_blk 369 [(9, vi z161), (8, vi nu), (4, vi 0), (0, vr 0 0), (1, vi p), (2, vi i), (3, vi s)] [vi (-1)] C f_q_comeStep_347_2 rfl ?_
      exact m_iret C Rm E e_q_comeStep_369 ⟨(-1), rfl, hT_n160, hF_n160, (by show -1 ≤ (-1) ∧ (-1) ≤ 9999999; omega)⟩

theorem f_q_comeB_0_4 : mblkB b_Mo_come [(0, .iload 4, vi 0), (2, .istore 5, vi 0), (4, .iload_n 2, vi 0), (5, .istore 6, vi 0)] = true := by decide +kernel
theorem f_q_comeB_7_2 : mblkB b_Mo_come [(7, .iload 6, vi 0), (9, .iload_n 3, vi 0)] = true := by decide +kernel
theorem e_q_comeB_10 : decode b_Mo_come 10 = .ok (.if_icmp .ge 34, 3) := by decide +kernel
theorem f_q_comeB_44_1 : mblkB b_Mo_come [(44, .iload 5, vi 0)] = true := by decide +kernel
theorem e_q_comeB_46 : decode b_Mo_come 46 = .ok (.ireturn, 1) := by decide +kernel
theorem f_q_comeB_13_2 : mblkB b_Mo_come [(13, .iload 5, vi 0), (15, .iconst (-1), vi (-1))] = true := by decide +kernel
theorem e_q_comeB_16 : decode b_Mo_come 16 = .ok (.if_icmp .eq 28, 3) := by decide +kernel
theorem f_q_comeB_19_4 : mblkB b_Mo_come [(19, .aload_n 0, vi 0), (20, .iload_n 1, vi 0), (21, .iload 6, vi 0), (23, .iload 5, vi 0)] = true := by decide +kernel
theorem e_q_comeB_25 : decode b_Mo_come 25 = .ok (.invokevirtual 400, 3) := by decide +kernel
theorem f_q_comeB_28_2 : mblkB b_Mo_come [(28, .istore 5, vi 0), (30, .aload_n 0, vi 0)] = true := by decide +kernel
theorem e_q_comeB_31 : decode b_Mo_come 31 = .ok (.getfield 30, 3) := by decide +kernel
theorem f_q_comeB_34_1 : mblkB b_Mo_come [(34, .iload_n 1, vi 0)] = true := by decide +kernel
theorem e_q_comeB_35 : decode b_Mo_come 35 = .ok (.aaload, 1) := by decide +kernel
theorem f_q_comeB_36_1 : mblkB b_Mo_come [(36, .iload 6, vi 0)] = true := by decide +kernel
theorem e_q_comeB_38 : decode b_Mo_come 38 = .ok (.iaload, 1) := by decide +kernel
theorem f_q_comeB_39_2 : mblkB b_Mo_come [(39, .istore 6, vi 0), (41, .goto (-34), vi 7)] = true := by decide +kernel
set_option maxHeartbeats 40000000 in
set_option maxRecDepth 100000 in
theorem q_comeB (n : Nat) (hrec : ∀ n1 : Nat, n = n1 + 1 → S_comeStep n1) : S_comeB n := by
  intro l D B H0 ad A hT N M Ln dep p a b s hp hK ha hab hs
  refine m_met (by decide) rfl (fun g w0 C Rm Y E => ?_)
  have hE0 : mEq zm A A := mEq.rfl'
  show JM g D ad w0 A 0 [(0, vr 0 0), (1, vi p), (2, vi a), (3, vi b), (4, vi s)] []
  have hr9 := hK.rng
  obtain ⟨n1, hn1⟩ : ∃ n1, n = n1 + 1 := ⟨n - 1, by omega⟩
  refine m_blk 7 [(6, vi a), (5, vi s), (0, vr 0 0), (1, vi p), (2, vi a), (3, vi b), (4, vi s)] [] C f_q_comeB_0_4 rfl ?_
  have hd_7 : ∀ (NZ : Nat) (A2 : mA) (i : Int) (e : Int), mTy A2 → mEq zm A A2 → a ≤ i ∧ i ≤ 16 → -1 ≤ e ∧ e ≤ 9999999 → (40 - i) < (NZ : Int) → JM g D ad w0 A2 7 [(6, vi i), (5, vi e), (0, vr 0 0), (1, vi p), (3, vi b)] [] := by
    intro NZ
    induction NZ with
    | zero => intro A2 i e hT2 hE2 hi2 he2 hm7; exact absurd hm7 (by omega)
    | succ NZ ih7 =>
      intro A2 i e hT2 hE2 hi2 he2 hm7
      refine m_blk 10 [(6, vi i), (5, vi e), (0, vr 0 0), (1, vi p), (3, vi b)] [vi b, vi i] C f_q_comeB_7_2 rfl ?_
      refine m_icmp_ge (tgt := 44) C e_q_comeB_10 (by decide) (by omega) (by omega) (fun c1 => ?_) (fun c1 => ?_)
      · refine m_blk 46 [(6, vi i), (5, vi e), (0, vr 0 0), (1, vi p), (3, vi b)] [vi e] C f_q_comeB_44_1 rfl ?_
        exact m_iret C Rm E e_q_comeB_46 ⟨e, rfl, hT2, hE2, (by show -1 ≤ e ∧ e ≤ 9999999; omega)⟩
      · refine m_blk 16 [(6, vi i), (5, vi e), (0, vr 0 0), (1, vi p), (3, vi b)] [vi (-1), vi e] C f_q_comeB_13_2 rfl ?_
        refine m_icmp_eq (tgt := 44) C e_q_comeB_16 (by decide) (by omega) (by decide) (fun c2 => ?_) (fun c2 => ?_)
        · refine m_blk 46 [(6, vi i), (5, vi e), (0, vr 0 0), (1, vi p), (3, vi b)] [vi e] C f_q_comeB_44_1 rfl ?_
          exact m_iret C Rm E e_q_comeB_46 ⟨e, rfl, hT2, hE2, (by show -1 ≤ e ∧ e ≤ 9999999; omega)⟩
        · have hs9 := hK.at (i := i) (by omega) (by omega)
          have he9 := hs9.en
          refine m_blk 25 [(6, vi i), (5, vi e), (0, vr 0 0), (1, vi p), (3, vi b)] [vi e, vi i, vi p, vr 0 0] C f_q_comeB_19_4 rfl ?_
          refine m_callV C Rm Y [vi p, vi i, vi e] [] ((hrec n1 hn1) l D B H0 ad _ hT2 N M Ln dep p i e (by show 0 ≤ p ∧ p ≤ 5; omega) (hK.zmk hE2) (ha.zmk hE2) (by show 0 ≤ i ∧ i < N ∧ 20 * p + 16 - i ≤ (n1 : Int); omega) (by show 0 ≤ e ∧ e ≤ 9999999; omega)) cl_Mo_400 rfl (by decide) rfl rfl e_q_comeB_25 rfl rfl rfl ⟨by show _ ≤ (130 + 2 * n : Nat); omega, by show _ ≤ (3800 + 80 * n : Nat); omega⟩ ?_
          rintro v3 A4 ⟨z7, rfl, hT_n6, hE_n6, raw_hz_n6⟩
          have hF_n6 := hE2.trans (hE_n6.sub (fun _ _ _ h9 => h9))
          have hz_n6 : -1 ≤ z7 ∧ z7 ≤ 9999999 := raw_hz_n6
          clear raw_hz_n6
          show JM g D ad w0 A4 28 [(6, vi i), (5, vi e), (0, vr 0 0), (1, vi p), (3, vi b)] [vi z7]
          refine m_blk 31 [(5, vi z7), (6, vi i), (0, vr 0 0), (1, vi p), (3, vi b)] [vr 0 0] C f_q_comeB_28_2 rfl ?_
          refine m_getr C e_q_comeB_31 fg_Mo_30 rfl (by decide) rfl ?_
          refine m_blk 35 [(5, vi z7), (6, vi i), (0, vr 0 0), (1, vi p), (3, vi b)] [vi p, vr 17 0] C f_q_comeB_34_1 rfl ?_
          refine m_aald C p.toNat e_q_comeB_35 rfl rfl rfl (by decide) (by decide) (by omega) (by show p < ((6 : Nat) : Int); omega) (mz _ _) ?_
          refine m_blk 38 [(5, vi z7), (6, vi i), (0, vr 0 0), (1, vi p), (3, vi b)] [vi i, vr 37 p.toNat] C f_q_comeB_36_1 rfl ?_
          obtain ⟨x8, hx8⟩ : ∃ x, A4 37 p.toNat i.toNat = x := ⟨_, rfl⟩
          have rx8 : 0 ≤ x8 ∧ x8 ≤ 16 := mrg hT_n6 hx8 rfl
          have ex8 : x8 = A 37 p.toNat i.toNat := hx8.symm.trans (hF_n6 37 p.toNat i.toNat (zm_far (by decide) _ _))
          refine m_iald C e_q_comeB_38 rfl (by omega) (by decide) (by omega) (by show i < ((16 : Nat) : Int); omega) x8 hx8 ?_
          refine m_blk 7 [(6, vi x8), (5, vi z7), (0, vr 0 0), (1, vi p), (3, vi b)] [] C f_q_comeB_39_2 rfl ?_
          refine m_loc [(6, vi x8), (5, vi z7), (0, vr 0 0), (1, vi p), (3, vi b)] ⟨rfl, rfl, rfl, rfl, rfl, trivial⟩ ?_
          exact ih7 A4 x8 z7 hT_n6 hF_n6 (by show a ≤ x8 ∧ x8 ≤ 16; omega) (by show -1 ≤ z7 ∧ z7 ≤ 9999999; omega) (by show (40 - x8) < _; omega)
  refine m_loc [(6, vi a), (5, vi s), (0, vr 0 0), (1, vi p), (3, vi b)] ⟨rfl, rfl, rfl, rfl, rfl, trivial⟩ ?_
  exact hd_7 (Int.toNat ((40 - a)) + 1) A a s hT hE0 (by show a ≤ a ∧ a ≤ 16; omega) (by show -1 ≤ s ∧ s ≤ 9999999; omega) (by show (40 - a) < _; omega)

theorem q_come_ : ∀ n : Nat, S_comeB n ∧ S_comeStep n := fun n => by
  induction n with
  | zero =>
    have h : S_comeB 0 := q_comeB 0 (fun n1 h => absurd h (by omega))
    exact ⟨h, q_comeStep 0 h⟩
  | succ n ih =>
    have h : S_comeB (n + 1) := q_comeB (n + 1) (fun n1 h => by
      have : n1 = n := by omega
      rw [this]
      exact ih.2)
    exact ⟨h, q_comeStep (n + 1) h⟩

theorem f_q_comesBy_0_2 : mblkB b_Mo_comesBy [(0, .aload_n 0, vi 0), (1, .iload_n 2, vi 0)] = true := by decide +kernel
theorem e_q_comesBy_2 : decode b_Mo_comesBy 2 = .ok (.putfield 403, 3) := by decide +kernel
theorem f_q_comesBy_5_4 : mblkB b_Mo_comesBy [(5, .aload_n 0, vi 0), (6, .iload_n 1, vi 0), (7, .iconst 0, vi 0), (8, .aload_n 0, vi 0)] = true := by decide +kernel
theorem e_q_comesBy_9 : decode b_Mo_comesBy 9 = .ok (.getfield 9, 3) := by decide +kernel
theorem f_q_comesBy_12_1 : mblkB b_Mo_comesBy [(12, .iload_n 1, vi 0)] = true := by decide +kernel
theorem e_q_comesBy_13 : decode b_Mo_comesBy 13 = .ok (.iaload, 1) := by decide +kernel
theorem f_q_comesBy_14_1 : mblkB b_Mo_comesBy [(14, .aload_n 0, vi 0)] = true := by decide +kernel
theorem e_q_comesBy_15 : decode b_Mo_comesBy 15 = .ok (.invokevirtual 358, 3) := by decide +kernel
theorem e_q_comesBy_18 : decode b_Mo_comesBy 18 = .ok (.invokevirtual 407, 3) := by decide +kernel
theorem e_q_comesBy_21 : decode b_Mo_comesBy 21 = .ok (.ireturn, 1) := by decide +kernel
set_option maxHeartbeats 40000000 in
set_option maxRecDepth 100000 in
theorem q_comesBy (l : Launch) (D : va_G) (B : Nat) (H0 : Heap) (ad : mAd) (A : mA) (hT : mTy A)  (p : Int) (x : Int) (hp : 0 ≤ p ∧ p < A 0 0 0) (hI : mI A)  : mMet l D B H0 ad y_Mo_comesBy b_Mo_comesBy 3 (some .int) 365 13300 [vr 0 0, vi p, vi x] A (fun v9 A9 => ∃ z : Int, v9 = some (vi z) ∧ mTy A9 ∧ mEq zm A A9 ∧ (-1 ≤ z ∧ z ≤ 9999999) ∧ (mI A9)) := by
  refine m_met (by decide) rfl (fun g w0 C Rm Y E => ?_)
  have hE0 : mEq zm A A := mEq.rfl'
  show JM g D ad w0 A 0 [(0, vr 0 0), (1, vi p), (2, vi x)] []
  have r0 : 0 ≤ A 0 0 0 ∧ A 0 0 0 ≤ 6 := hT 0 0 0
  obtain ⟨M, Ln, dep, hK⟩ := (hI.ok (p := p) (by omega)).at (p := p) (by omega) (by omega)
  obtain ⟨N, hN⟩ : ∃ x, A 5 0 p.toNat = x := ⟨_, rfl⟩
  rw [hN] at hK
  have hr9 := hK.rng
  have ha := (hI.ok (p := p) (by omega)).le (show p ≤ p + 1 by omega)
  refine m_blk 2 [(0, vr 0 0), (1, vi p), (2, vi x)] [vi x, vr 0 0] C f_q_comesBy_0_2 rfl ?_
  refine m_nrm (fun y1 hy1 => ?_)
  refine m_puti C e_q_comesBy_2 fp_Mo_403 rfl (by decide) rfl ?_
  have t2 : mTy (mu A 0 0 36 y1) := hT.mu (by show (-2147483648) ≤ y1 ∧ y1 ≤ 2147483647; omega)
  have q3 := hE0.mu (f := 0) (k := 0) (j := 36) (z := y1) (by simp [zm])
  refine m_blk 9 [(0, vr 0 0), (1, vi p), (2, vi x)] [vr 0 0, vi 0, vi p, vr 0 0] C f_q_comesBy_5_4 rfl ?_
  refine m_getr C e_q_comesBy_9 fg_Mo_9 rfl (by decide) rfl ?_
  refine m_blk 13 [(0, vr 0 0), (1, vi p), (2, vi x)] [vi p, vr 5 0, vi 0, vi p, vr 0 0] C f_q_comesBy_12_1 rfl ?_
  obtain ⟨x4, hx4⟩ : ∃ x, A 5 0 p.toNat = x := ⟨_, rfl⟩
  have rx4 : 0 ≤ x4 ∧ x4 ≤ 16 := mrg hT hx4 rfl
  refine m_iald C e_q_comesBy_13 rfl (by decide) (by decide) (by omega) (by show p < ((6 : Nat) : Int); omega) x4 hx4 ?_
  refine m_blk 15 [(0, vr 0 0), (1, vi p), (2, vi x)] [vr 0 0, vi x4, vi 0, vi p, vr 0 0] C f_q_comesBy_14_1 rfl ?_
  refine m_callV C Rm Y [] [vi x4, vi 0, vi p, vr 0 0] (q_startState l D B H0 ad _ t2) cl_Mo_358 rfl (by decide) rfl rfl e_q_comesBy_15 rfl rfl rfl ⟨by decide, by decide⟩ ?_
  rintro v5 A6 ⟨z9, rfl, rfl, raw_hz_n8⟩
  have hz_n8 : 0 ≤ z9 ∧ z9 ≤ 999999 ∧ z9 = ((((A 8 0 0 * 10 + A 8 0 1) * 10 + A 8 0 2) * 10 + A 8 0 3) * 10 + A 8 0 4) * 10 + A 8 0 5 := raw_hz_n8
  clear raw_hz_n8
  show JM g D ad w0 (mu A 0 0 36 y1) 18 [(0, vr 0 0), (1, vi p), (2, vi x)] [vi z9, vi x4, vi 0, vi p, vr 0 0]
  refine m_callV C Rm Y [vi p, vi 0, vi x4, vi z9] [] ((q_come_ 117).1 l D B H0 ad _ t2 N M Ln dep p 0 x4 z9 (by show 0 ≤ p ∧ p ≤ 5; omega) (hK.zmk q3) (ha.zmk q3) (by show 0 ≤ 0 ∧ 0 ≤ 16 ∧ 0 ≤ x4 ∧ x4 ≤ N ∧ 20 * p + 17 - 0 ≤ ((117 : Nat) : Int); omega) (by show 0 ≤ z9 ∧ z9 ≤ 9999999; omega)) cl_Mo_407 rfl (by decide) rfl rfl e_q_comesBy_18 rfl rfl rfl ⟨by decide, by decide⟩ ?_
  rintro v10 A11 ⟨z14, rfl, hT_n13, hE_n13, raw_hz_n13⟩
  have hF_n13 := q3.trans (hE_n13.sub (fun _ _ _ h9 => h9))
  have hz_n13 : -1 ≤ z14 ∧ z14 ≤ 9999999 := raw_hz_n13
  clear raw_hz_n13
  show JM g D ad w0 A11 21 [(0, vr 0 0), (1, vi p), (2, vi x)] [vi z14]
  exact m_iret C Rm E e_q_comesBy_21 ⟨z14, rfl, hT_n13, hF_n13, (by show -1 ≤ z14 ∧ z14 ≤ 9999999; omega), (hI.zmk hF_n13)⟩

theorem f_q_comes_0_2 : mblkB b_Mo_comes [(0, .aload_n 0, vi 0), (1, .iload_n 1, vi 0)] = true := by decide +kernel
theorem e_q_comes_2 : decode b_Mo_comes 2 = .ok (.invokevirtual 364, 3) := by decide +kernel
theorem e_q_comes_5 : decode b_Mo_comes 5 = .ok (.ifCond .eq 12, 3) := by decide +kernel
theorem f_q_comes_8_3 : mblkB b_Mo_comes [(8, .aload_n 0, vi 0), (9, .iload_n 1, vi 0), (10, .iload_n 2, vi 0)] = true := by decide +kernel
theorem e_q_comes_11 : decode b_Mo_comes 11 = .ok (.invokevirtual 409, 3) := by decide +kernel
theorem f_q_comes_14_1 : mblkB b_Mo_comes [(14, .goto 5, vi 19)] = true := by decide +kernel
theorem e_q_comes_19 : decode b_Mo_comes 19 = .ok (.ireturn, 1) := by decide +kernel
theorem f_q_comes_17_1 : mblkB b_Mo_comes [(17, .bipush (-2), vi (-2))] = true := by decide +kernel
set_option maxHeartbeats 40000000 in
set_option maxRecDepth 100000 in
theorem q_comes (l : Launch) (D : va_G) (B : Nat) (H0 : Heap) (ad : mAd) (A : mA) (hT : mTy A)  (p : Int) (x : Int) (hpr : -2147483648 ≤ p ∧ p ≤ 2147483647) (hxr : -2147483648 ≤ x ∧ x ≤ 2147483647) (hI : mI A)  : mMet l D B H0 ad y_Mo_comes b_Mo_comes 3 (some .int) 920 23600 [vr 0 0, vi p, vi x] A (fun v9 A9 => ∃ z : Int, v9 = some (vi z) ∧ mTy A9 ∧ mEq zm A A9 ∧ (-2147483648 ≤ z ∧ z ≤ 2147483647) ∧ (mI A9)) := by
  refine m_met (by decide) rfl (fun g w0 C Rm Y E => ?_)
  have hE0 : mEq zm A A := mEq.rfl'
  show JM g D ad w0 A 0 [(0, vr 0 0), (1, vi p), (2, vi x)] []
  have r0 : 0 ≤ A 0 0 0 ∧ A 0 0 0 ≤ 6 := hT 0 0 0
  refine m_blk 2 [(0, vr 0 0), (1, vi p), (2, vi x)] [vi p, vr 0 0] C f_q_comes_0_2 rfl ?_
  refine m_callV C Rm Y [vi p] [] (q_isProgram l D B H0 ad _ hT p (by show -2147483648 ≤ p ∧ p ≤ 2147483647; omega)) cl_Mo_364 rfl (by decide) rfl rfl e_q_comes_2 rfl rfl rfl ⟨by decide, by decide⟩ ?_
  rintro v1 A2 ⟨z5, rfl, rfl, raw_hz_n4⟩
  show JM g D ad w0 A 5 [(0, vr 0 0), (1, vi p), (2, vi x)] [vi z5]
  have hz_n4 : z5 = 1 ∧ 0 ≤ p ∧ p < A 0 0 0 ∨ z5 = 0 ∧ ¬ (0 ≤ p ∧ p < A 0 0 0) := raw_hz_n4
  clear raw_hz_n4
  rcases hz_n4 with ⟨e_n4, hz_n4⟩ | ⟨e_n4, hz_n4⟩
  · subst e_n4
    refine m_if_eq (tgt := 17) C e_q_comes_5 (by decide) (by decide) (fun c6 => (by omega : False).elim) (fun c6 => ?_)
    refine m_blk 11 [(0, vr 0 0), (1, vi p), (2, vi x)] [vi x, vi p, vr 0 0] C f_q_comes_8_3 rfl ?_
    refine m_callV C Rm Y [vi p, vi x] [] (q_comesBy l D B H0 ad _ hT p x (by show 0 ≤ p ∧ p < A 0 0 0; omega) (by show mI A; omega)) cl_Mo_409 rfl (by decide) rfl rfl e_q_comes_11 rfl rfl rfl ⟨by decide, by decide⟩ ?_
    rintro v7 A8 ⟨z11, rfl, hT_n10, hE_n10, raw_hz_n10, raw_hI_n10⟩
    have hF_n10 := hE0.trans (hE_n10.sub (fun _ _ _ h9 => h9))
    have hz_n10 : -1 ≤ z11 ∧ z11 ≤ 9999999 := raw_hz_n10
    clear raw_hz_n10
    have hI_n10 : mI A8 := raw_hI_n10
    clear raw_hI_n10
    show JM g D ad w0 A8 14 [(0, vr 0 0), (1, vi p), (2, vi x)] [vi z11]
    refine m_blk 19 [(0, vr 0 0), (1, vi p), (2, vi x)] [vi z11] C f_q_comes_14_1 rfl ?_
    exact m_iret C Rm E e_q_comes_19 ⟨z11, rfl, hT_n10, hF_n10, (by show -2147483648 ≤ z11 ∧ z11 ≤ 2147483647; omega), (hI.zmk hF_n10)⟩
  · subst e_n4
    clear hz_n4
    refine m_if_eq (tgt := 17) C e_q_comes_5 (by decide) (by decide) (fun c12 => ?_) (fun c12 => (by omega : False).elim)
    refine m_blk 19 [(0, vr 0 0), (1, vi p), (2, vi x)] [vi (-2)] C f_q_comes_17_1 rfl ?_
    exact m_iret C Rm E e_q_comes_19 ⟨(-2), rfl, hT, hE0, (by show -2147483648 ≤ (-2) ∧ (-2) ≤ 2147483647; omega), (hI.zmk hE0)⟩

theorem f_q_often_0_2 : mblkB b_Mo_often [(0, .aload_n 0, vi 0), (1, .iload_n 1, vi 0)] = true := by decide +kernel
theorem e_q_often_2 : decode b_Mo_often 2 = .ok (.invokevirtual 364, 3) := by decide +kernel
theorem e_q_often_5 : decode b_Mo_often 5 = .ok (.ifCond .eq 42, 3) := by decide +kernel
theorem f_q_often_8_3 : mblkB b_Mo_often [(8, .iload_n 3, vi 0), (9, .iconst 1, vi 1), (10, .bipush 20, vi 20)] = true := by decide +kernel
theorem e_q_often_12 : decode b_Mo_often 12 = .ok (.invokestatic 108, 3) := by decide +kernel
theorem e_q_often_15 : decode b_Mo_often 15 = .ok (.ifCond .eq 32, 3) := by decide +kernel
theorem f_q_often_18_1 : mblkB b_Mo_often [(18, .iload 4, vi 0)] = true := by decide +kernel
theorem e_q_often_20 : decode b_Mo_often 20 = .ok (.invokestatic 254, 3) := by decide +kernel
theorem e_q_often_23 : decode b_Mo_often 23 = .ok (.ifCond .eq 24, 3) := by decide +kernel
theorem f_q_often_26_3 : mblkB b_Mo_often [(26, .iload 5, vi 0), (28, .iconst 0, vi 0), (29, .bipush 9, vi 9)] = true := by decide +kernel
theorem e_q_often_31 : decode b_Mo_often 31 = .ok (.invokestatic 108, 3) := by decide +kernel
theorem e_q_often_34 : decode b_Mo_often 34 = .ok (.ifCond .eq 13, 3) := by decide +kernel
theorem f_q_often_37_3 : mblkB b_Mo_often [(37, .iload 6, vi 0), (39, .iconst 0, vi 0), (40, .iconst 1, vi 1)] = true := by decide +kernel
theorem e_q_often_41 : decode b_Mo_often 41 = .ok (.invokestatic 108, 3) := by decide +kernel
theorem e_q_often_44 : decode b_Mo_often 44 = .ok (.ifCond .ne 6, 3) := by decide +kernel
theorem f_q_often_50_6 : mblkB b_Mo_often [(50, .iconst 0, vi 0), (51, .istore 7, vi 0), (53, .iconst 0, vi 0), (54, .istore 8, vi 0), (56, .iconst 0, vi 0), (57, .istore 9, vi 0)] = true := by decide +kernel
theorem f_q_often_59_2 : mblkB b_Mo_often [(59, .iload 9, vi 0), (61, .iload_n 3, vi 0)] = true := by decide +kernel
theorem e_q_often_62 : decode b_Mo_often 62 = .ok (.if_icmp .ge 47, 3) := by decide +kernel
theorem f_q_often_109_1 : mblkB b_Mo_often [(109, .iload 7, vi 0)] = true := by decide +kernel
theorem e_q_often_111 : decode b_Mo_often 111 = .ok (.ifCond .ne 7, 3) := by decide +kernel
theorem f_q_often_118_1 : mblkB b_Mo_often [(118, .iload 8, vi 0)] = true := by decide +kernel
theorem e_q_often_120 : decode b_Mo_often 120 = .ok (.i2l, 1) := by decide +kernel
theorem f_q_often_121_1 : mblkB b_Mo_often [(121, .iload 7, vi 0)] = true := by decide +kernel
theorem e_q_often_123 : decode b_Mo_often 123 = .ok (.i2l, 1) := by decide +kernel
theorem f_q_often_124_1 : mblkB b_Mo_often [(124, .iload 6, vi 0)] = true := by decide +kernel
theorem e_q_often_126 : decode b_Mo_often 126 = .ok (.invokestatic 376, 3) := by decide +kernel
theorem f_q_often_129_1 : mblkB b_Mo_often [(129, .l2i, vi 0)] = true := by decide +kernel
theorem e_q_often_130 : decode b_Mo_often 130 = .ok (.ireturn, 1) := by decide +kernel
theorem f_q_often_114_2 : mblkB b_Mo_often [(114, .iconst (-1), vi (-1)), (115, .goto 15, vi 130)] = true := by decide +kernel
theorem f_q_often_65_5 : mblkB b_Mo_often [(65, .aload_n 0, vi 0), (66, .iload_n 1, vi 0), (67, .iload_n 2, vi 0), (68, .iload 9, vi 0), (70, .iadd, vi 0)] = true := by decide +kernel
theorem e_q_often_71 : decode b_Mo_often 71 = .ok (.invokevirtual 409, 3) := by decide +kernel
theorem f_q_often_74_3 : mblkB b_Mo_often [(74, .istore 10, vi 0), (76, .iload 10, vi 0), (78, .iconst (-1), vi (-1))] = true := by decide +kernel
theorem e_q_often_79 : decode b_Mo_often 79 = .ok (.if_icmp .ne 6, 3) := by decide +kernel
theorem f_q_often_85_3 : mblkB b_Mo_often [(85, .iinc 7 1, vi 1), (88, .iload 10, vi 0), (90, .iload 4, vi 0)] = true := by decide +kernel
theorem e_q_often_92 : decode b_Mo_often 92 = .ok (.invokestatic 260, 3) := by decide +kernel
theorem f_q_often_95_1 : mblkB b_Mo_often [(95, .iload 5, vi 0)] = true := by decide +kernel
theorem e_q_often_97 : decode b_Mo_often 97 = .ok (.if_icmp .ne 6, 3) := by decide +kernel
theorem f_q_often_103_2 : mblkB b_Mo_often [(103, .iinc 9 1, vi 1), (106, .goto (-47), vi 59)] = true := by decide +kernel
theorem f_q_often_100_3 : mblkB b_Mo_often [(100, .iinc 8 1, vi 1), (103, .iinc 9 1, vi 1), (106, .goto (-47), vi 59)] = true := by decide +kernel
theorem f_q_often_82_1 : mblkB b_Mo_often [(82, .goto 21, vi 103)] = true := by decide +kernel
theorem f_q_often_47_1 : mblkB b_Mo_often [(47, .bipush (-2), vi (-2))] = true := by decide +kernel
theorem e_q_often_49 : decode b_Mo_often 49 = .ok (.ireturn, 1) := by decide +kernel
set_option maxHeartbeats 40000000 in
set_option maxRecDepth 100000 in
theorem q_often (l : Launch) (D : va_G) (B : Nat) (H0 : Heap) (ad : mAd) (A : mA) (hT : mTy A)  (p : Int) (e : Int) (m : Int) (n : Int) (v : Int) (x : Int) (hpr : -2147483648 ≤ p ∧ p ≤ 2147483647) (her : -2147483648 ≤ e ∧ e ≤ 2147483647) (hmr : -2147483648 ≤ m ∧ m ≤ 2147483647) (hnr : -2147483648 ≤ n ∧ n ≤ 2147483647) (hvr : -2147483648 ≤ v ∧ v ≤ 2147483647) (hxr : -2147483648 ≤ x ∧ x ≤ 2147483647) (hI : mI A)  : mMet l D B H0 ad y_Mo_often b_Mo_often 11 (some .int) 920 23600 [vr 0 0, vi p, vi e, vi m, vi n, vi v, vi x] A (fun v9 A9 => ∃ z : Int, v9 = some (vi z) ∧ mTy A9 ∧ mEq zm A A9 ∧ (-2147483648 ≤ z ∧ z ≤ 2147483647) ∧ (mI A9)) := by
  refine m_met (by decide) rfl (fun g w0 C Rm Y E => ?_)
  have hE0 : mEq zm A A := mEq.rfl'
  show JM g D ad w0 A 0 [(0, vr 0 0), (1, vi p), (2, vi e), (3, vi m), (4, vi n), (5, vi v), (6, vi x)] []
  have r0 : 0 ≤ A 0 0 0 ∧ A 0 0 0 ≤ 6 := hT 0 0 0
  refine m_blk 2 [(0, vr 0 0), (1, vi p), (2, vi e), (3, vi m), (4, vi n), (5, vi v), (6, vi x)] [vi p, vr 0 0] C f_q_often_0_2 rfl ?_
  refine m_callV C Rm Y [vi p] [] (q_isProgram l D B H0 ad _ hT p (by show -2147483648 ≤ p ∧ p ≤ 2147483647; omega)) cl_Mo_364 rfl (by decide) rfl rfl e_q_often_2 rfl rfl rfl ⟨by decide, by decide⟩ ?_
  rintro v1 A2 ⟨z5, rfl, rfl, raw_hz_n4⟩
  show JM g D ad w0 A 5 [(0, vr 0 0), (1, vi p), (2, vi e), (3, vi m), (4, vi n), (5, vi v), (6, vi x)] [vi z5]
  have hz_n4 : z5 = 1 ∧ 0 ≤ p ∧ p < A 0 0 0 ∨ z5 = 0 ∧ ¬ (0 ≤ p ∧ p < A 0 0 0) := raw_hz_n4
  clear raw_hz_n4
  rcases hz_n4 with ⟨e_n4, hz_n4⟩ | ⟨e_n4, hz_n4⟩
  · subst e_n4
    refine m_if_eq (tgt := 47) C e_q_often_5 (by decide) (by decide) (fun c6 => (by omega : False).elim) (fun c6 => ?_)
    refine m_blk 12 [(0, vr 0 0), (1, vi p), (2, vi e), (3, vi m), (4, vi n), (5, vi v), (6, vi x)] [vi 20, vi 1, vi m] C f_q_often_8_3 rfl ?_
    refine m_callS C Rm Y [vi m, vi 1, vi 20] [] (q_in l D B H0 ad _ m 1 20 (by show -2147483648 ≤ m ∧ m ≤ 2147483647; omega) (by show -2147483648 ≤ 1 ∧ 1 ≤ 2147483647; omega) (by show -2147483648 ≤ 20 ∧ 20 ≤ 2147483647; omega)) cl_Mo_108 e_q_often_12 rfl rfl rfl ⟨by decide, by decide⟩ ?_
    rintro v7 A8 ⟨z11, rfl, rfl, raw_hz_n10⟩
    show JM g D ad w0 A 15 [(0, vr 0 0), (1, vi p), (2, vi e), (3, vi m), (4, vi n), (5, vi v), (6, vi x)] [vi z11]
    have hz_n10 : z11 = 1 ∧ 1 ≤ m ∧ m ≤ 20 ∨ z11 = 0 ∧ ¬ (1 ≤ m ∧ m ≤ 20) := raw_hz_n10
    clear raw_hz_n10
    rcases hz_n10 with ⟨e_n10, hz_n10⟩ | ⟨e_n10, hz_n10⟩
    · subst e_n10
      refine m_if_eq (tgt := 47) C e_q_often_15 (by decide) (by decide) (fun c12 => (by omega : False).elim) (fun c12 => ?_)
      refine m_blk 20 [(0, vr 0 0), (1, vi p), (2, vi e), (3, vi m), (4, vi n), (5, vi v), (6, vi x)] [vi n] C f_q_often_18_1 rfl ?_
      refine m_callS C Rm Y [vi n] [] (q_isName l D B H0 ad _ n (by show -2147483648 ≤ n ∧ n ≤ 2147483647; omega)) cl_Mo_254 e_q_often_20 rfl rfl rfl ⟨by decide, by decide⟩ ?_
      rintro v13 A14 ⟨z17, rfl, rfl, raw_hz_n16⟩
      show JM g D ad w0 A 23 [(0, vr 0 0), (1, vi p), (2, vi e), (3, vi m), (4, vi n), (5, vi v), (6, vi x)] [vi z17]
      have hz_n16 : z17 = 1 ∧ 0 ≤ n ∧ n ≤ 5 ∨ z17 = 0 ∧ ¬ (0 ≤ n ∧ n ≤ 5) := raw_hz_n16
      clear raw_hz_n16
      rcases hz_n16 with ⟨e_n16, hz_n16⟩ | ⟨e_n16, hz_n16⟩
      · subst e_n16
        refine m_if_eq (tgt := 47) C e_q_often_23 (by decide) (by decide) (fun c18 => (by omega : False).elim) (fun c18 => ?_)
        refine m_blk 31 [(0, vr 0 0), (1, vi p), (2, vi e), (3, vi m), (4, vi n), (5, vi v), (6, vi x)] [vi 9, vi 0, vi v] C f_q_often_26_3 rfl ?_
        refine m_callS C Rm Y [vi v, vi 0, vi 9] [] (q_in l D B H0 ad _ v 0 9 (by show -2147483648 ≤ v ∧ v ≤ 2147483647; omega) (by show -2147483648 ≤ 0 ∧ 0 ≤ 2147483647; omega) (by show -2147483648 ≤ 9 ∧ 9 ≤ 2147483647; omega)) cl_Mo_108 e_q_often_31 rfl rfl rfl ⟨by decide, by decide⟩ ?_
        rintro v19 A20 ⟨z23, rfl, rfl, raw_hz_n22⟩
        show JM g D ad w0 A 34 [(0, vr 0 0), (1, vi p), (2, vi e), (3, vi m), (4, vi n), (5, vi v), (6, vi x)] [vi z23]
        have hz_n22 : z23 = 1 ∧ 0 ≤ v ∧ v ≤ 9 ∨ z23 = 0 ∧ ¬ (0 ≤ v ∧ v ≤ 9) := raw_hz_n22
        clear raw_hz_n22
        rcases hz_n22 with ⟨e_n22, hz_n22⟩ | ⟨e_n22, hz_n22⟩
        · subst e_n22
          refine m_if_eq (tgt := 47) C e_q_often_34 (by decide) (by decide) (fun c24 => (by omega : False).elim) (fun c24 => ?_)
          refine m_blk 41 [(0, vr 0 0), (1, vi p), (2, vi e), (3, vi m), (4, vi n), (5, vi v), (6, vi x)] [vi 1, vi 0, vi x] C f_q_often_37_3 rfl ?_
          refine m_callS C Rm Y [vi x, vi 0, vi 1] [] (q_in l D B H0 ad _ x 0 1 (by show -2147483648 ≤ x ∧ x ≤ 2147483647; omega) (by show -2147483648 ≤ 0 ∧ 0 ≤ 2147483647; omega) (by show -2147483648 ≤ 1 ∧ 1 ≤ 2147483647; omega)) cl_Mo_108 e_q_often_41 rfl rfl rfl ⟨by decide, by decide⟩ ?_
          rintro v25 A26 ⟨z29, rfl, rfl, raw_hz_n28⟩
          show JM g D ad w0 A 44 [(0, vr 0 0), (1, vi p), (2, vi e), (3, vi m), (4, vi n), (5, vi v), (6, vi x)] [vi z29]
          have hz_n28 : z29 = 1 ∧ 0 ≤ x ∧ x ≤ 1 ∨ z29 = 0 ∧ ¬ (0 ≤ x ∧ x ≤ 1) := raw_hz_n28
          clear raw_hz_n28
          rcases hz_n28 with ⟨e_n28, hz_n28⟩ | ⟨e_n28, hz_n28⟩
          · subst e_n28
            refine m_if_ne (tgt := 50) C e_q_often_44 (by decide) (by decide) (fun c30 => ?_) (fun c30 => (by omega : False).elim)
            refine m_blk 59 [(9, vi 0), (8, vi 0), (7, vi 0), (0, vr 0 0), (1, vi p), (2, vi e), (3, vi m), (4, vi n), (5, vi v), (6, vi x)] [] C f_q_often_50_6 rfl ?_
            have hd_59 : ∀ (NZ : Nat) (A2 : mA) (k : Int) (al : Int) (so : Int), mTy A2 → mEq zm A A2 → mI A2 → 0 ≤ k ∧ k ≤ 20 → 0 ≤ so ∧ so ≤ al ∧ al ≤ k → (40 - k) < (NZ : Int) → JM g D ad w0 A2 59 [(9, vi k), (7, vi al), (8, vi so), (0, vr 0 0), (1, vi p), (2, vi e), (3, vi m), (4, vi n), (5, vi v), (6, vi x)] [] := by
              intro NZ
              induction NZ with
              | zero => intro A2 k al so hT2 hE2 hI2 hk2 ha2 hm59; exact absurd hm59 (by omega)
              | succ NZ ih59 =>
                intro A2 k al so hT2 hE2 hI2 hk2 ha2 hm59
                have e0 : A2 0 0 0 = A 0 0 0 := hE2 0 0 0 rfl
                refine m_blk 62 [(9, vi k), (7, vi al), (8, vi so), (0, vr 0 0), (1, vi p), (2, vi e), (3, vi m), (4, vi n), (5, vi v), (6, vi x)] [vi m, vi k] C f_q_often_59_2 rfl ?_
                refine m_icmp_ge (tgt := 109) C e_q_often_62 (by decide) (by omega) (by omega) (fun c31 => ?_) (fun c31 => ?_)
                · refine m_blk 111 [(9, vi k), (7, vi al), (8, vi so), (0, vr 0 0), (1, vi p), (2, vi e), (3, vi m), (4, vi n), (5, vi v), (6, vi x)] [vi al] C f_q_often_109_1 rfl ?_
                  refine m_if_ne (tgt := 118) C e_q_often_111 (by decide) (by omega) (fun c32 => ?_) (fun c32 => ?_)
                  · refine m_blk 120 [(9, vi k), (7, vi al), (8, vi so), (0, vr 0 0), (1, vi p), (2, vi e), (3, vi m), (4, vi n), (5, vi v), (6, vi x)] [vi so] C f_q_often_118_1 rfl ?_
                    refine m_i2l C e_q_often_120 (by omega) ?_
                    refine m_blk 123 [(9, vi k), (7, vi al), (8, vi so), (0, vr 0 0), (1, vi p), (2, vi e), (3, vi m), (4, vi n), (5, vi v), (6, vi x)] [vi al, vl so] C f_q_often_121_1 rfl ?_
                    refine m_i2l C e_q_often_123 (by omega) ?_
                    refine m_blk 126 [(9, vi k), (7, vi al), (8, vi so), (0, vr 0 0), (1, vi p), (2, vi e), (3, vi m), (4, vi n), (5, vi v), (6, vi x)] [vi x, vl al, vl so] C f_q_often_124_1 rfl ?_
                    refine m_callS C Rm Y [vl so, vl al, vi x] [] (q_lowest l D B H0 ad _ so al x (by show 0 ≤ so ∧ so ≤ 9223372036854775807; omega) (by show 1 ≤ al ∧ al ≤ 9223372036854775807; omega) (by show -2147483648 ≤ x ∧ x ≤ 2147483647; omega)) cl_Mo_376 e_q_often_126 rfl rfl rfl ⟨by decide, by decide⟩ ?_
                    rintro v33 A34 ⟨z37, rfl, rfl, raw_hz_n36⟩
                    have hz_n36 : 0 ≤ z37 ∧ z37 ≤ 9223372036854775807 := raw_hz_n36
                    clear raw_hz_n36
                    show JM g D ad w0 A2 129 [(9, vi k), (7, vi al), (8, vi so), (0, vr 0 0), (1, vi p), (2, vi e), (3, vi m), (4, vi n), (5, vi v), (6, vi x)] [vl z37]
                    refine m_blk 130 [(9, vi k), (7, vi al), (8, vi so), (0, vr 0 0), (1, vi p), (2, vi e), (3, vi m), (4, vi n), (5, vi v), (6, vi x)] [vi z37] C f_q_often_129_1 rfl ?_
                    refine m_nrm (fun y38 hy38 => ?_)
                    exact m_iret C Rm E e_q_often_130 ⟨y38, rfl, hT2, hE2, (by show -2147483648 ≤ y38 ∧ y38 ≤ 2147483647; omega), (hI.zmk hE2)⟩
                  · refine m_blk 130 [(9, vi k), (7, vi al), (8, vi so), (0, vr 0 0), (1, vi p), (2, vi e), (3, vi m), (4, vi n), (5, vi v), (6, vi x)] [vi (-1)] C f_q_often_114_2 rfl ?_
                    exact m_iret C Rm E e_q_often_130 ⟨(-1), rfl, hT2, hE2, (by show -2147483648 ≤ (-1) ∧ (-1) ≤ 2147483647; omega), (hI.zmk hE2)⟩
                · refine m_blk 71 [(9, vi k), (7, vi al), (8, vi so), (0, vr 0 0), (1, vi p), (2, vi e), (3, vi m), (4, vi n), (5, vi v), (6, vi x)] [vi (e + k), vi p, vr 0 0] C f_q_often_65_5 rfl ?_
                  refine m_callV C Rm Y [vi p, vi (e + k)] [] (q_comesBy l D B H0 ad _ hT2 p (e + k) (by show 0 ≤ p ∧ p < A2 0 0 0; omega) hI2) cl_Mo_409 rfl (by decide) rfl rfl e_q_often_71 rfl rfl rfl ⟨by decide, by decide⟩ ?_
                  rintro v39 A40 ⟨z43, rfl, hT_n42, hE_n42, raw_hz_n42, raw_hI_n42⟩
                  have hF_n42 := hE2.trans (hE_n42.sub (fun _ _ _ h9 => h9))
                  have hz_n42 : -1 ≤ z43 ∧ z43 ≤ 9999999 := raw_hz_n42
                  clear raw_hz_n42
                  have hI_n42 : mI A40 := raw_hI_n42
                  clear raw_hI_n42
                  show JM g D ad w0 A40 74 [(9, vi k), (7, vi al), (8, vi so), (0, vr 0 0), (1, vi p), (2, vi e), (3, vi m), (4, vi n), (5, vi v), (6, vi x)] [vi z43]
                  refine m_blk 79 [(10, vi z43), (9, vi k), (7, vi al), (8, vi so), (0, vr 0 0), (1, vi p), (2, vi e), (3, vi m), (4, vi n), (5, vi v), (6, vi x)] [vi (-1), vi z43] C f_q_often_74_3 rfl ?_
                  refine m_icmp_ne (tgt := 85) C e_q_often_79 (by decide) (by omega) (by decide) (fun c44 => ?_) (fun c44 => ?_)
                  · refine m_blk 92 [(7, vi (al + 1)), (10, vi z43), (9, vi k), (8, vi so), (0, vr 0 0), (1, vi p), (2, vi e), (3, vi m), (4, vi n), (5, vi v), (6, vi x)] [vi n, vi z43] C f_q_often_85_3 rfl ?_
                    refine m_callS C Rm Y [vi z43, vi n] [] (q_valueOf l D B H0 ad _ z43 n (by show 0 ≤ z43 ∧ z43 ≤ 2147483647; omega) (by show -1 ≤ n ∧ n ≤ 2147483647; omega)) cl_Mo_260 e_q_often_92 rfl rfl rfl ⟨by decide, by decide⟩ ?_
                    rintro v45 A46 ⟨z49, rfl, rfl, raw_hz_n48⟩
                    have hz_n48 : z49 = dg z43 n ∧ 0 ≤ z49 ∧ z49 ≤ 9 := raw_hz_n48
                    clear raw_hz_n48
                    show JM g D ad w0 A40 95 [(7, vi (al + 1)), (10, vi z43), (9, vi k), (8, vi so), (0, vr 0 0), (1, vi p), (2, vi e), (3, vi m), (4, vi n), (5, vi v), (6, vi x)] [vi z49]
                    refine m_blk 97 [(7, vi (al + 1)), (10, vi z43), (9, vi k), (8, vi so), (0, vr 0 0), (1, vi p), (2, vi e), (3, vi m), (4, vi n), (5, vi v), (6, vi x)] [vi v, vi z49] C f_q_often_95_1 rfl ?_
                    refine m_icmp_ne (tgt := 103) C e_q_often_97 (by decide) (by omega) (by omega) (fun c50 => ?_) (fun c50 => ?_)
                    · refine m_blk 59 [(9, vi (k + 1)), (7, vi (al + 1)), (10, vi z43), (8, vi so), (0, vr 0 0), (1, vi p), (2, vi e), (3, vi m), (4, vi n), (5, vi v), (6, vi x)] [] C f_q_often_103_2 rfl ?_
                      refine m_loc [(9, vi (k + 1)), (7, vi (al + 1)), (8, vi so), (0, vr 0 0), (1, vi p), (2, vi e), (3, vi m), (4, vi n), (5, vi v), (6, vi x)] ⟨rfl, rfl, rfl, rfl, rfl, rfl, rfl, rfl, rfl, rfl, trivial⟩ ?_
                      exact ih59 A40 (k + 1) (al + 1) so hT_n42 hF_n42 hI_n42 (by show 0 ≤ (k + 1) ∧ (k + 1) ≤ 20; omega) (by show 0 ≤ so ∧ so ≤ (al + 1) ∧ (al + 1) ≤ (k + 1); omega) (by show (40 - (k + 1)) < _; omega)
                    · refine m_blk 59 [(9, vi (k + 1)), (8, vi (so + 1)), (7, vi (al + 1)), (10, vi z43), (0, vr 0 0), (1, vi p), (2, vi e), (3, vi m), (4, vi n), (5, vi v), (6, vi x)] [] C f_q_often_100_3 rfl ?_
                      refine m_loc [(9, vi (k + 1)), (7, vi (al + 1)), (8, vi (so + 1)), (0, vr 0 0), (1, vi p), (2, vi e), (3, vi m), (4, vi n), (5, vi v), (6, vi x)] ⟨rfl, rfl, rfl, rfl, rfl, rfl, rfl, rfl, rfl, rfl, trivial⟩ ?_
                      exact ih59 A40 (k + 1) (al + 1) (so + 1) hT_n42 hF_n42 hI_n42 (by show 0 ≤ (k + 1) ∧ (k + 1) ≤ 20; omega) (by show 0 ≤ (so + 1) ∧ (so + 1) ≤ (al + 1) ∧ (al + 1) ≤ (k + 1); omega) (by show (40 - (k + 1)) < _; omega)
                  · refine m_blk 103 [(10, vi z43), (9, vi k), (7, vi al), (8, vi so), (0, vr 0 0), (1, vi p), (2, vi e), (3, vi m), (4, vi n), (5, vi v), (6, vi x)] [] C f_q_often_82_1 rfl ?_
                    refine m_blk 59 [(9, vi (k + 1)), (10, vi z43), (7, vi al), (8, vi so), (0, vr 0 0), (1, vi p), (2, vi e), (3, vi m), (4, vi n), (5, vi v), (6, vi x)] [] C f_q_often_103_2 rfl ?_
                    refine m_loc [(9, vi (k + 1)), (7, vi al), (8, vi so), (0, vr 0 0), (1, vi p), (2, vi e), (3, vi m), (4, vi n), (5, vi v), (6, vi x)] ⟨rfl, rfl, rfl, rfl, rfl, rfl, rfl, rfl, rfl, rfl, trivial⟩ ?_
                    exact ih59 A40 (k + 1) al so hT_n42 hF_n42 hI_n42 (by show 0 ≤ (k + 1) ∧ (k + 1) ≤ 20; omega) (by show 0 ≤ so ∧ so ≤ al ∧ al ≤ (k + 1); omega) (by show (40 - (k + 1)) < _; omega)
            refine m_loc [(9, vi 0), (7, vi 0), (8, vi 0), (0, vr 0 0), (1, vi p), (2, vi e), (3, vi m), (4, vi n), (5, vi v), (6, vi x)] ⟨rfl, rfl, rfl, rfl, rfl, rfl, rfl, rfl, rfl, rfl, trivial⟩ ?_
            exact hd_59 (Int.toNat ((40 - 0)) + 1) A 0 0 0 hT hE0 hI (by show 0 ≤ 0 ∧ 0 ≤ 20; omega) (by show 0 ≤ 0 ∧ 0 ≤ 0 ∧ 0 ≤ 0; omega) (by show (40 - 0) < _; omega)
          · subst e_n28
            refine m_if_ne (tgt := 50) C e_q_often_44 (by decide) (by decide) (fun c51 => (by omega : False).elim) (fun c51 => ?_)
            refine m_blk 49 [(0, vr 0 0), (1, vi p), (2, vi e), (3, vi m), (4, vi n), (5, vi v), (6, vi x)] [vi (-2)] C f_q_often_47_1 rfl ?_
            exact m_iret C Rm E e_q_often_49 ⟨(-2), rfl, hT, hE0, (by show -2147483648 ≤ (-2) ∧ (-2) ≤ 2147483647; omega), (hI.zmk hE0)⟩
        · subst e_n22
          refine m_if_eq (tgt := 47) C e_q_often_34 (by decide) (by decide) (fun c52 => ?_) (fun c52 => (by omega : False).elim)
          refine m_blk 49 [(0, vr 0 0), (1, vi p), (2, vi e), (3, vi m), (4, vi n), (5, vi v), (6, vi x)] [vi (-2)] C f_q_often_47_1 rfl ?_
          exact m_iret C Rm E e_q_often_49 ⟨(-2), rfl, hT, hE0, (by show -2147483648 ≤ (-2) ∧ (-2) ≤ 2147483647; omega), (hI.zmk hE0)⟩
      · subst e_n16
        clear hz_n16
        refine m_if_eq (tgt := 47) C e_q_often_23 (by decide) (by decide) (fun c53 => ?_) (fun c53 => (by omega : False).elim)
        refine m_blk 49 [(0, vr 0 0), (1, vi p), (2, vi e), (3, vi m), (4, vi n), (5, vi v), (6, vi x)] [vi (-2)] C f_q_often_47_1 rfl ?_
        exact m_iret C Rm E e_q_often_49 ⟨(-2), rfl, hT, hE0, (by show -2147483648 ≤ (-2) ∧ (-2) ≤ 2147483647; omega), (hI.zmk hE0)⟩
    · subst e_n10
      refine m_if_eq (tgt := 47) C e_q_often_15 (by decide) (by decide) (fun c54 => ?_) (fun c54 => (by omega : False).elim)
      refine m_blk 49 [(0, vr 0 0), (1, vi p), (2, vi e), (3, vi m), (4, vi n), (5, vi v), (6, vi x)] [vi (-2)] C f_q_often_47_1 rfl ?_
      exact m_iret C Rm E e_q_often_49 ⟨(-2), rfl, hT, hE0, (by show -2147483648 ≤ (-2) ∧ (-2) ≤ 2147483647; omega), (hI.zmk hE0)⟩
  · subst e_n4
    clear hz_n4
    refine m_if_eq (tgt := 47) C e_q_often_5 (by decide) (by decide) (fun c55 => ?_) (fun c55 => (by omega : False).elim)
    refine m_blk 49 [(0, vr 0 0), (1, vi p), (2, vi e), (3, vi m), (4, vi n), (5, vi v), (6, vi x)] [vi (-2)] C f_q_often_47_1 rfl ?_
    exact m_iret C Rm E e_q_often_49 ⟨(-2), rfl, hT, hE0, (by show -2147483648 ≤ (-2) ∧ (-2) ≤ 2147483647; omega), (hI.zmk hE0)⟩
