/-! the reference as it is made (own work, by program) -/
theorem kt_200 : Int32.toInt 200 = 200 := by decide
theorem jl_lt {k : Nat} (h : ¬ (200 : Int32) ≤ nI k) (hk : k ≤ 200) : k < 200 := by rw [jle, kt_200, nI_toInt (show k < 2 ^ 31 by omega)] at h; omega
theorem jl_eq {k : Nat} (h : (200 : Int32) ≤ nI k) (hk : k ≤ 200) : k = 200 := by rw [jle, kt_200, nI_toInt (show k < 2 ^ 31 by omega)] at h; omega
theorem jl_fu {k n : Nat} (h : 200 < k + (n + 1)) : 200 < k + 1 + n := by omega
theorem jl_c (a c k : Nat) {n b : Nat} (e : n = b + (a + c * k + c)) : n = b + (a + c * (k + 1)) := by rw [e, Nat.mul_succ]; omega
theorem jl_r (m : Nat) {a c k d n b r t : Nat} (hk : k ≤ m) (e : n = b + (a + c * k + d)) (h : Nat.ble (a + c * m + d + r) t = true) : n + r ≤ b + t := by have h1 := Nat.le_of_ble_eq_true h; have h2 := Nat.mul_le_mul_left c hk; omega
theorem k_c_Mo_init_0_1 : sblk b_Mo_init [(0, .aload_n 0, .null)] := sblk_of (by decide +kernel)
theorem d_c_Mo_init_1 : decode b_Mo_init 1 = .ok (.invokespecial 1, 3) := by decide +kernel
theorem k_c_Mo_init_4_2 : sblk b_Mo_init [(4, .aload_n 0, .null), (5, .bipush 6, .int 6)] := sblk_of (by decide +kernel)
theorem d_c_Mo_init_7 : decode b_Mo_init 7 = .ok (.newarray .int, 2) := by decide +kernel
theorem d_c_Mo_init_9 : decode b_Mo_init 9 = .ok (.putfield 9, 3) := by decide +kernel
theorem k_c_Mo_init_12_2 : sblk b_Mo_init [(12, .aload_n 0, .null), (13, .bipush 6, .int 6)] := sblk_of (by decide +kernel)
theorem d_c_Mo_init_15 : decode b_Mo_init 15 = .ok (.newarray .int, 2) := by decide +kernel
theorem d_c_Mo_init_17 : decode b_Mo_init 17 = .ok (.putfield 13, 3) := by decide +kernel
theorem k_c_Mo_init_20_2 : sblk b_Mo_init [(20, .aload_n 0, .null), (21, .bipush 6, .int 6)] := sblk_of (by decide +kernel)
theorem d_c_Mo_init_23 : decode b_Mo_init 23 = .ok (.newarray .int, 2) := by decide +kernel
theorem d_c_Mo_init_25 : decode b_Mo_init 25 = .ok (.putfield 16, 3) := by decide +kernel
theorem k_c_Mo_init_28_3 : sblk b_Mo_init [(28, .aload_n 0, .null), (29, .bipush 6, .int 6), (31, .bipush 16, .int 16)] := sblk_of (by decide +kernel)
theorem d_c_Mo_init_33 : decode b_Mo_init 33 = .ok (.multianewarray 19 2, 4) := by decide +kernel
theorem d_c_Mo_init_37 : decode b_Mo_init 37 = .ok (.putfield 21, 3) := by decide +kernel
theorem k_c_Mo_init_40_3 : sblk b_Mo_init [(40, .aload_n 0, .null), (41, .bipush 6, .int 6), (43, .bipush 16, .int 16)] := sblk_of (by decide +kernel)
theorem d_c_Mo_init_45 : decode b_Mo_init 45 = .ok (.multianewarray 19 2, 4) := by decide +kernel
theorem d_c_Mo_init_49 : decode b_Mo_init 49 = .ok (.putfield 24, 3) := by decide +kernel
theorem k_c_Mo_init_52_3 : sblk b_Mo_init [(52, .aload_n 0, .null), (53, .bipush 6, .int 6), (55, .bipush 16, .int 16)] := sblk_of (by decide +kernel)
theorem d_c_Mo_init_57 : decode b_Mo_init 57 = .ok (.multianewarray 19 2, 4) := by decide +kernel
theorem d_c_Mo_init_61 : decode b_Mo_init 61 = .ok (.putfield 27, 3) := by decide +kernel
theorem k_c_Mo_init_64_3 : sblk b_Mo_init [(64, .aload_n 0, .null), (65, .bipush 6, .int 6), (67, .bipush 16, .int 16)] := sblk_of (by decide +kernel)
theorem d_c_Mo_init_69 : decode b_Mo_init 69 = .ok (.multianewarray 19 2, 4) := by decide +kernel
theorem d_c_Mo_init_73 : decode b_Mo_init 73 = .ok (.putfield 30, 3) := by decide +kernel
theorem k_c_Mo_init_76_3 : sblk b_Mo_init [(76, .aload_n 0, .null), (77, .bipush 6, .int 6), (79, .bipush 16, .int 16)] := sblk_of (by decide +kernel)
theorem d_c_Mo_init_81 : decode b_Mo_init 81 = .ok (.multianewarray 19 2, 4) := by decide +kernel
theorem d_c_Mo_init_85 : decode b_Mo_init 85 = .ok (.putfield 33, 3) := by decide +kernel
theorem k_c_Mo_init_88_3 : sblk b_Mo_init [(88, .aload_n 0, .null), (89, .bipush 6, .int 6), (91, .bipush 16, .int 16)] := sblk_of (by decide +kernel)
theorem d_c_Mo_init_93 : decode b_Mo_init 93 = .ok (.multianewarray 19 2, 4) := by decide +kernel
theorem d_c_Mo_init_97 : decode b_Mo_init 97 = .ok (.putfield 36, 3) := by decide +kernel
theorem k_c_Mo_init_100_3 : sblk b_Mo_init [(100, .aload_n 0, .null), (101, .bipush 6, .int 6), (103, .bipush 16, .int 16)] := sblk_of (by decide +kernel)
theorem d_c_Mo_init_105 : decode b_Mo_init 105 = .ok (.multianewarray 19 2, 4) := by decide +kernel
theorem d_c_Mo_init_109 : decode b_Mo_init 109 = .ok (.putfield 39, 3) := by decide +kernel
theorem k_c_Mo_init_112_3 : sblk b_Mo_init [(112, .aload_n 0, .null), (113, .bipush 6, .int 6), (115, .bipush 120, .int 120)] := sblk_of (by decide +kernel)
theorem d_c_Mo_init_117 : decode b_Mo_init 117 = .ok (.multianewarray 19 2, 4) := by decide +kernel
theorem d_c_Mo_init_121 : decode b_Mo_init 121 = .ok (.putfield 42, 3) := by decide +kernel
theorem k_c_Mo_init_124_3 : sblk b_Mo_init [(124, .aload_n 0, .null), (125, .bipush 6, .int 6), (127, .bipush 120, .int 120)] := sblk_of (by decide +kernel)
theorem d_c_Mo_init_129 : decode b_Mo_init 129 = .ok (.multianewarray 19 2, 4) := by decide +kernel
theorem d_c_Mo_init_133 : decode b_Mo_init 133 = .ok (.putfield 45, 3) := by decide +kernel
theorem k_c_Mo_init_136_3 : sblk b_Mo_init [(136, .aload_n 0, .null), (137, .bipush 6, .int 6), (139, .bipush 120, .int 120)] := sblk_of (by decide +kernel)
theorem d_c_Mo_init_141 : decode b_Mo_init 141 = .ok (.multianewarray 19 2, 4) := by decide +kernel
theorem d_c_Mo_init_145 : decode b_Mo_init 145 = .ok (.putfield 48, 3) := by decide +kernel
theorem k_c_Mo_init_148_3 : sblk b_Mo_init [(148, .aload_n 0, .null), (149, .bipush 6, .int 6), (151, .bipush 120, .int 120)] := sblk_of (by decide +kernel)
theorem d_c_Mo_init_153 : decode b_Mo_init 153 = .ok (.multianewarray 19 2, 4) := by decide +kernel
theorem d_c_Mo_init_157 : decode b_Mo_init 157 = .ok (.putfield 51, 3) := by decide +kernel
theorem k_c_Mo_init_160_3 : sblk b_Mo_init [(160, .aload_n 0, .null), (161, .bipush 6, .int 6), (163, .bipush 120, .int 120)] := sblk_of (by decide +kernel)
theorem d_c_Mo_init_165 : decode b_Mo_init 165 = .ok (.multianewarray 19 2, 4) := by decide +kernel
theorem d_c_Mo_init_169 : decode b_Mo_init 169 = .ok (.putfield 54, 3) := by decide +kernel
theorem k_c_Mo_init_172_3 : sblk b_Mo_init [(172, .aload_n 0, .null), (173, .bipush 6, .int 6), (175, .bipush 120, .int 120)] := sblk_of (by decide +kernel)
theorem d_c_Mo_init_177 : decode b_Mo_init 177 = .ok (.multianewarray 19 2, 4) := by decide +kernel
theorem d_c_Mo_init_181 : decode b_Mo_init 181 = .ok (.putfield 57, 3) := by decide +kernel
theorem k_c_Mo_init_184_2 : sblk b_Mo_init [(184, .aload_n 0, .null), (185, .bipush 6, .int 6)] := sblk_of (by decide +kernel)
theorem d_c_Mo_init_187 : decode b_Mo_init 187 = .ok (.newarray .int, 2) := by decide +kernel
theorem d_c_Mo_init_189 : decode b_Mo_init 189 = .ok (.putfield 60, 3) := by decide +kernel
theorem k_c_Mo_init_192_3 : sblk b_Mo_init [(192, .aload_n 0, .null), (193, .bipush 6, .int 6), (195, .bipush 10, .int 10)] := sblk_of (by decide +kernel)
theorem d_c_Mo_init_197 : decode b_Mo_init 197 = .ok (.multianewarray 63 2, 4) := by decide +kernel
theorem d_c_Mo_init_201 : decode b_Mo_init 201 = .ok (.putfield 65, 3) := by decide +kernel
theorem k_c_Mo_init_204_3 : sblk b_Mo_init [(204, .aload_n 0, .null), (205, .bipush 6, .int 6), (207, .bipush 10, .int 10)] := sblk_of (by decide +kernel)
theorem d_c_Mo_init_209 : decode b_Mo_init 209 = .ok (.multianewarray 63 2, 4) := by decide +kernel
theorem d_c_Mo_init_213 : decode b_Mo_init 213 = .ok (.putfield 68, 3) := by decide +kernel
theorem k_c_Mo_init_216_4 : sblk b_Mo_init [(216, .aload_n 0, .null), (217, .bipush 6, .int 6), (219, .bipush 10, .int 10), (221, .bipush 10, .int 10)] := sblk_of (by decide +kernel)
theorem d_c_Mo_init_223 : decode b_Mo_init 223 = .ok (.multianewarray 71 3, 4) := by decide +kernel
theorem d_c_Mo_init_227 : decode b_Mo_init 227 = .ok (.putfield 73, 3) := by decide +kernel
theorem k_c_Mo_init_230_2 : sblk b_Mo_init [(230, .aload_n 0, .null), (231, .bipush 120, .int 120)] := sblk_of (by decide +kernel)
theorem d_c_Mo_init_233 : decode b_Mo_init 233 = .ok (.newarray .int, 2) := by decide +kernel
theorem d_c_Mo_init_235 : decode b_Mo_init 235 = .ok (.putfield 76, 3) := by decide +kernel
theorem k_c_Mo_init_238_2 : sblk b_Mo_init [(238, .aload_n 0, .null), (239, .sipush 200, .int 200)] := sblk_of (by decide +kernel)
theorem d_c_Mo_init_242 : decode b_Mo_init 242 = .ok (.anewarray 79, 3) := by decide +kernel
theorem d_c_Mo_init_245 : decode b_Mo_init 245 = .ok (.putfield 81, 3) := by decide +kernel
theorem k_c_Mo_init_248_2 : sblk b_Mo_init [(248, .aload_n 0, .null), (249, .iconst (-1), .int (-1))] := sblk_of (by decide +kernel)
theorem d_c_Mo_init_250 : decode b_Mo_init 250 = .ok (.putfield 85, 3) := by decide +kernel
theorem k_c_Mo_init_253_2 : sblk b_Mo_init [(253, .aload_n 0, .null), (254, .bipush 6, .int 6)] := sblk_of (by decide +kernel)
theorem d_c_Mo_init_256 : decode b_Mo_init 256 = .ok (.newarray .int, 2) := by decide +kernel
theorem d_c_Mo_init_258 : decode b_Mo_init 258 = .ok (.putfield 89, 3) := by decide +kernel
theorem k_c_Mo_init_261_2 : sblk b_Mo_init [(261, .aload_n 0, .null), (262, .iconst 4, .int 4)] := sblk_of (by decide +kernel)
theorem d_c_Mo_init_263 : decode b_Mo_init 263 = .ok (.newarray .int, 2) := by decide +kernel
theorem k_c_Mo_init_265_3 : sblk b_Mo_init [(265, .dup, .null), (266, .iconst 0, .int 0), (267, .iconst (-1), .int (-1))] := sblk_of (by decide +kernel)
theorem d_c_Mo_init_268 : decode b_Mo_init 268 = .ok (.iastore, 1) := by decide +kernel
theorem k_c_Mo_init_269_3 : sblk b_Mo_init [(269, .dup, .null), (270, .iconst 1, .int 1), (271, .iconst (-1), .int (-1))] := sblk_of (by decide +kernel)
theorem d_c_Mo_init_272 : decode b_Mo_init 272 = .ok (.iastore, 1) := by decide +kernel
theorem k_c_Mo_init_273_3 : sblk b_Mo_init [(273, .dup, .null), (274, .iconst 2, .int 2), (275, .iconst (-1), .int (-1))] := sblk_of (by decide +kernel)
theorem d_c_Mo_init_276 : decode b_Mo_init 276 = .ok (.iastore, 1) := by decide +kernel
theorem k_c_Mo_init_277_3 : sblk b_Mo_init [(277, .dup, .null), (278, .iconst 3, .int 3), (279, .iconst (-1), .int (-1))] := sblk_of (by decide +kernel)
theorem d_c_Mo_init_280 : decode b_Mo_init 280 = .ok (.iastore, 1) := by decide +kernel
theorem d_c_Mo_init_281 : decode b_Mo_init 281 = .ok (.putfield 92, 3) := by decide +kernel
theorem k_c_Mo_init_284_2 : sblk b_Mo_init [(284, .aload_n 0, .null), (285, .iconst 4, .int 4)] := sblk_of (by decide +kernel)
theorem d_c_Mo_init_286 : decode b_Mo_init 286 = .ok (.newarray .int, 2) := by decide +kernel
theorem d_c_Mo_init_288 : decode b_Mo_init 288 = .ok (.putfield 95, 3) := by decide +kernel
theorem k_c_Mo_init_291_3 : sblk b_Mo_init [(291, .aload_n 0, .null), (292, .iconst 4, .int 4), (293, .bipush 40, .int 40)] := sblk_of (by decide +kernel)
theorem d_c_Mo_init_295 : decode b_Mo_init 295 = .ok (.multianewarray 19 2, 4) := by decide +kernel
theorem d_c_Mo_init_299 : decode b_Mo_init 299 = .ok (.putfield 98, 3) := by decide +kernel
theorem k_c_Mo_init_302_2 : sblk b_Mo_init [(302, .aload_n 0, .null), (303, .bipush 40, .int 40)] := sblk_of (by decide +kernel)
theorem d_c_Mo_init_305 : decode b_Mo_init 305 = .ok (.newarray .int, 2) := by decide +kernel
theorem d_c_Mo_init_307 : decode b_Mo_init 307 = .ok (.putfield 101, 3) := by decide +kernel
theorem k_c_Mo_init_310_2 : sblk b_Mo_init [(310, .iconst 0, .int 0), (311, .istore_n 1, .null)] := sblk_of (by decide +kernel)
theorem k_c_Mo_init_312_2 : sblk b_Mo_init [(312, .iload_n 1, .null), (313, .sipush 200, .int 200)] := sblk_of (by decide +kernel)
theorem d_c_Mo_init_316 : decode b_Mo_init 316 = .ok (.if_icmp .ge 22, 3) := by decide +kernel
theorem d_c_Mo_init_338 : decode b_Mo_init 338 = .ok (.return_, 1) := by decide +kernel
theorem k_c_Mo_init_319_1 : sblk b_Mo_init [(319, .aload_n 0, .null)] := sblk_of (by decide +kernel)
theorem d_c_Mo_init_320 : decode b_Mo_init 320 = .ok (.getfield 81, 3) := by decide +kernel
theorem k_c_Mo_init_323_1 : sblk b_Mo_init [(323, .iload_n 1, .null)] := sblk_of (by decide +kernel)
theorem d_c_Mo_init_324 : decode b_Mo_init 324 = .ok (.new 79, 3) := by decide +kernel
theorem k_c_Mo_init_327_1 : sblk b_Mo_init [(327, .dup, .null)] := sblk_of (by decide +kernel)
theorem d_c_Mo_init_328 : decode b_Mo_init 328 = .ok (.invokespecial 104, 3) := by decide +kernel
theorem d_c_Mo_init_331 : decode b_Mo_init 331 = .ok (.aastore, 1) := by decide +kernel
theorem k_c_Mo_init_332_2 : sblk b_Mo_init [(332, .iinc 1 1, .int 1), (335, .goto (-23), .retAddr 312)] := sblk_of (by decide +kernel)
set_option maxHeartbeats 40000000 in
set_option maxRecDepth 100000 in
theorem c_Mo_init (l : Launch) (D : va_G) (B : Nat) (H0 : Heap) (w : jW) (a : Nat) (V : Nat → Value) (ha : w.1 a = some (.inr (10, V))) : jMet l D B H0 y_Mo_init b_Mo_init 2 none 2 80 787 127430 [.ref a] w (fun v w9 => v = none ∧ (w9.2.1 = w.2.1 + 787 ∧ w9.2.2 = w.2.2 + 127430) ∧ jfr (fun b => b ≠ a) w w9 ∧ ∃ (V9 : Nat → Value) (msizes mbits mturns mkinds mnames mnumbers mends mothers mtops mfirstLots mlotValues mlotWeights macts mfigures mfirsts mseconds mstart misTold misWideSo mmade mtape mpool mimageStart msorts mlengths mitems mpassed : Nat) (fS : Nat → Int32), (∀ b e, w.1 b = some e → b < msizes) ∧ (∀ b e, w.1 b = some e → b < mbits) ∧ (∀ b e, w.1 b = some e → b < mturns) ∧ (∀ b e, w.1 b = some e → b < mkinds) ∧ (∀ b e, w.1 b = some e → b < mnames) ∧ (∀ b e, w.1 b = some e → b < mnumbers) ∧ (∀ b e, w.1 b = some e → b < mends) ∧ (∀ b e, w.1 b = some e → b < mothers) ∧ (∀ b e, w.1 b = some e → b < mtops) ∧ (∀ b e, w.1 b = some e → b < mfirstLots) ∧ (∀ b e, w.1 b = some e → b < mlotValues) ∧ (∀ b e, w.1 b = some e → b < mlotWeights) ∧ (∀ b e, w.1 b = some e → b < macts) ∧ (∀ b e, w.1 b = some e → b < mfigures) ∧ (∀ b e, w.1 b = some e → b < mfirsts) ∧ (∀ b e, w.1 b = some e → b < mseconds) ∧ (∀ b e, w.1 b = some e → b < mstart) ∧ (∀ b e, w.1 b = some e → b < misTold) ∧ (∀ b e, w.1 b = some e → b < misWideSo) ∧ (∀ b e, w.1 b = some e → b < mmade) ∧ (∀ b e, w.1 b = some e → b < mtape) ∧ (∀ b e, w.1 b = some e → b < mpool) ∧ (∀ b e, w.1 b = some e → b < mimageStart) ∧ (∀ b e, w.1 b = some e → b < msorts) ∧ (∀ b e, w.1 b = some e → b < mlengths) ∧ (∀ b e, w.1 b = some e → b < mitems) ∧ (∀ b e, w.1 b = some e → b < mpassed) ∧ w9.1 a = some (.inr (10, V9)) ∧ V9 0 = V 0 ∧ V9 1 = .ref msizes ∧ V9 2 = .ref mbits ∧ V9 3 = .ref mturns ∧ V9 4 = .ref mkinds ∧ V9 5 = .ref mnames ∧ V9 6 = .ref mnumbers ∧ V9 7 = .ref mends ∧ V9 8 = .ref mothers ∧ V9 9 = .ref mtops ∧ V9 10 = .ref mfirstLots ∧ V9 11 = .ref mlotValues ∧ V9 12 = .ref mlotWeights ∧ V9 13 = .ref macts ∧ V9 14 = .ref mfigures ∧ V9 15 = .ref mfirsts ∧ V9 16 = .ref mseconds ∧ V9 17 = .ref mstart ∧ V9 18 = .ref misTold ∧ V9 19 = .ref misWideSo ∧ V9 20 = .ref mmade ∧ V9 21 = .ref mtape ∧ V9 22 = V 22 ∧ V9 23 = V 23 ∧ V9 24 = V 24 ∧ V9 25 = V 25 ∧ V9 26 = V 26 ∧ V9 27 = V 27 ∧ V9 28 = V 28 ∧ V9 29 = V 29 ∧ V9 30 = V 30 ∧ V9 31 = V 31 ∧ V9 32 = .ref mpool ∧ V9 33 = V 33 ∧ V9 34 = V 34 ∧ V9 35 = V 35 ∧ V9 36 = V 36 ∧ V9 37 = .int (-1) ∧ V9 38 = .ref mimageStart ∧ V9 39 = .ref msorts ∧ V9 40 = .ref mlengths ∧ V9 41 = .ref mitems ∧ V9 42 = .ref mpassed ∧ w9.1 mtape = some (aI D 120 (fun _ => 0)) ∧ w9.1 mstart = some (aI D 6 (fun _ => 0)) ∧ w9.1 mimageStart = some (aI D 6 (fun _ => 0)) ∧ w9.1 msorts = some (aI D 4 fS) ∧ (∀ j, j < 4 → fS j = -1) ∧ w9.1 mlengths = some (aI D 4 (fun _ => 0)) ∧ w9.1 mitems = some (aR D 3 4 (jro 4 (fun j => mitems + 1 + j))) ∧ (∀ j, j < 4 → w9.1 (mitems + 1 + j) = some (aI D 40 (fun _ => 0))) ∧ msorts ≠ mlengths ∧ mstart ≠ mimageStart) := by
  refine j_met (by decide) (Nat.le_of_ble_eq_true rfl) (fun g C Rm Y E => ?_)
  have hin : (jGy g).name = "<init>" := congrArg MethodName.name Y.2.2.2
  have hk := jkz w
  have fr0 : jfr (fun b => b ≠ a) w w := jfr0
  show JJ g w 0 [(0, .ref a)] []
  refine j_blk 1 [(0, .ref a)] [.ref a] C k_c_Mo_init_0_1 rfl ?_
  refine j_obj C Rm cl_Mo_1 d_c_Mo_init_1 (by decide) (by decide) ?_
  refine j_blk 7 [(0, .ref a)] [.int 6, .ref a] C k_c_Mo_init_4_2 rfl ?_
  refine j_newa (n := 6) C Rm d_c_Mo_init_7 rfl ac_int (by decide) (by decide) (by decide) (jroom hk.1 rfl) (jroom hk.2 rfl) (fun q1 f_q1 => ?_)
  refine jnv (fun w_1 ew_1 => ?_)
  have m_q1_w_1 : w_1.1 q1 = some (aI D 6 (fun _ => 0)) := jus ew_1
  have hk_w_1 := jk1 ew_1 hk
  have lt_q1 := jfrL fr0 f_q1
  have fr_w_1 := jfrN ew_1 fr0 f_q1
  have x_a_q1 := Nat.ne_of_lt (f_q1 _ _ ha)
  have m_a_w_1 := jun ew_1 ha x_a_q1
  refine j_putF C hin d_c_Mo_init_9 ff_Mo_9 m_a_w_1 rfl rfl ?_
  refine jnv (fun w_2 ew_2 => ?_)
  have m_a_w_2 : w_2.1 a = some (.inr (10, (updV V 1 (.ref q1)))) := jus ew_2
  have hk_w_2 := jk0 ew_2 hk_w_1
  have fr_w_2 := jfrW ew_2 fr_w_1 (fun b e hb _ => hb)
  refine j_blk 15 [(0, .ref a)] [.int 6, .ref a] C k_c_Mo_init_12_2 rfl ?_
  refine j_newa (n := 6) C Rm d_c_Mo_init_15 rfl ac_int (by decide) (by decide) (by decide) (jroom hk_w_2.1 rfl) (jroom hk_w_2.2 rfl) (fun q2 f_q2 => ?_)
  refine jnv (fun w_3 ew_3 => ?_)
  have m_q2_w_3 : w_3.1 q2 = some (aI D 6 (fun _ => 0)) := jus ew_3
  have hk_w_3 := jk1 ew_3 hk_w_2
  have lt_q2 := jfrL fr_w_2 f_q2
  have fr_w_3 := jfrN ew_3 fr_w_2 f_q2
  have x_a_q2 := Nat.ne_of_lt (f_q2 _ _ m_a_w_2)
  have m_a_w_3 := jun ew_3 m_a_w_2 x_a_q2
  refine j_putF C hin d_c_Mo_init_17 ff_Mo_13 m_a_w_3 rfl rfl ?_
  refine jnv (fun w_4 ew_4 => ?_)
  have m_a_w_4 : w_4.1 a = some (.inr (10, (updV (updV V 1 (.ref q1)) 2 (.ref q2)))) := jus ew_4
  have hk_w_4 := jk0 ew_4 hk_w_3
  have fr_w_4 := jfrW ew_4 fr_w_3 (fun b e hb _ => hb)
  refine j_blk 23 [(0, .ref a)] [.int 6, .ref a] C k_c_Mo_init_20_2 rfl ?_
  refine j_newa (n := 6) C Rm d_c_Mo_init_23 rfl ac_int (by decide) (by decide) (by decide) (jroom hk_w_4.1 rfl) (jroom hk_w_4.2 rfl) (fun q3 f_q3 => ?_)
  refine jnv (fun w_5 ew_5 => ?_)
  have m_q3_w_5 : w_5.1 q3 = some (aI D 6 (fun _ => 0)) := jus ew_5
  have hk_w_5 := jk1 ew_5 hk_w_4
  have lt_q3 := jfrL fr_w_4 f_q3
  have fr_w_5 := jfrN ew_5 fr_w_4 f_q3
  have x_a_q3 := Nat.ne_of_lt (f_q3 _ _ m_a_w_4)
  have m_a_w_5 := jun ew_5 m_a_w_4 x_a_q3
  refine j_putF C hin d_c_Mo_init_25 ff_Mo_16 m_a_w_5 rfl rfl ?_
  refine jnv (fun w_6 ew_6 => ?_)
  have m_a_w_6 : w_6.1 a = some (.inr (10, (updV (updV (updV V 1 (.ref q1)) 2 (.ref q2)) 3 (.ref q3)))) := jus ew_6
  have hk_w_6 := jk0 ew_6 hk_w_5
  have fr_w_6 := jfrW ew_6 fr_w_5 (fun b e hb _ => hb)
  refine j_blk 33 [(0, .ref a)] [.int 16, .int 6, .ref a] C k_c_Mo_init_28_3 rfl ?_
  refine j_mn2 (t := 3) (t0 := 0) (n := 6) (k := 16) C Rm d_c_Mo_init_33 (by decide) rfl rfl (by rw [sj_0]; exact ca_Mo_19) (by decide) (by decide) (by decide) (by decide) (by decide) (by decide) (jroom hk_w_6.1 rfl) (jroom hk_w_6.2 rfl) (fun q4 f_q4 => ?_)
  refine jnv (fun w_7 ew_7 => ?_)
  have m_q4_w_7 : w_7.1 q4 = some (aR D 3 6 (jro 6 (fun j => q4 + 1 + j))) := jm2o ew_7
  have r_q4 : ∀ j, j < 6 → w_7.1 (q4 + 1 + j) = some (aI D 16 (fun _ => 0)) := fun j hj => jm2i ew_7 hj
  have hk_w_7 := jkM ew_7 hk_w_6
  have lt_q4 := jfrL fr_w_6 f_q4
  have fr_w_7 := jfrM2 ew_7 fr_w_6 f_q4
  have m_a_w_7 := jm2p ew_7 f_q4 m_a_w_6
  refine j_putF C hin d_c_Mo_init_37 ff_Mo_21 m_a_w_7 rfl rfl ?_
  refine jnv (fun w_8 ew_8 => ?_)
  have m_a_w_8 : w_8.1 a = some (.inr (10, (updV (updV (updV (updV V 1 (.ref q1)) 2 (.ref q2)) 3 (.ref q3)) 4 (.ref q4)))) := jus ew_8
  have hk_w_8 := jk0 ew_8 hk_w_7
  have fr_w_8 := jfrW ew_8 fr_w_7 (fun b e hb _ => hb)
  refine j_blk 45 [(0, .ref a)] [.int 16, .int 6, .ref a] C k_c_Mo_init_40_3 rfl ?_
  refine j_mn2 (t := 3) (t0 := 0) (n := 6) (k := 16) C Rm d_c_Mo_init_45 (by decide) rfl rfl (by rw [sj_0]; exact ca_Mo_19) (by decide) (by decide) (by decide) (by decide) (by decide) (by decide) (jroom hk_w_8.1 rfl) (jroom hk_w_8.2 rfl) (fun q5 f_q5 => ?_)
  refine jnv (fun w_9 ew_9 => ?_)
  have m_q5_w_9 : w_9.1 q5 = some (aR D 3 6 (jro 6 (fun j => q5 + 1 + j))) := jm2o ew_9
  have r_q5 : ∀ j, j < 6 → w_9.1 (q5 + 1 + j) = some (aI D 16 (fun _ => 0)) := fun j hj => jm2i ew_9 hj
  have hk_w_9 := jkM ew_9 hk_w_8
  have lt_q5 := jfrL fr_w_8 f_q5
  have fr_w_9 := jfrM2 ew_9 fr_w_8 f_q5
  have m_a_w_9 := jm2p ew_9 f_q5 m_a_w_8
  refine j_putF C hin d_c_Mo_init_49 ff_Mo_24 m_a_w_9 rfl rfl ?_
  refine jnv (fun w_10 ew_10 => ?_)
  have m_a_w_10 : w_10.1 a = some (.inr (10, (updV (updV (updV (updV (updV V 1 (.ref q1)) 2 (.ref q2)) 3 (.ref q3)) 4 (.ref q4)) 5 (.ref q5)))) := jus ew_10
  have hk_w_10 := jk0 ew_10 hk_w_9
  have fr_w_10 := jfrW ew_10 fr_w_9 (fun b e hb _ => hb)
  refine j_blk 57 [(0, .ref a)] [.int 16, .int 6, .ref a] C k_c_Mo_init_52_3 rfl ?_
  refine j_mn2 (t := 3) (t0 := 0) (n := 6) (k := 16) C Rm d_c_Mo_init_57 (by decide) rfl rfl (by rw [sj_0]; exact ca_Mo_19) (by decide) (by decide) (by decide) (by decide) (by decide) (by decide) (jroom hk_w_10.1 rfl) (jroom hk_w_10.2 rfl) (fun q6 f_q6 => ?_)
  refine jnv (fun w_11 ew_11 => ?_)
  have m_q6_w_11 : w_11.1 q6 = some (aR D 3 6 (jro 6 (fun j => q6 + 1 + j))) := jm2o ew_11
  have r_q6 : ∀ j, j < 6 → w_11.1 (q6 + 1 + j) = some (aI D 16 (fun _ => 0)) := fun j hj => jm2i ew_11 hj
  have hk_w_11 := jkM ew_11 hk_w_10
  have lt_q6 := jfrL fr_w_10 f_q6
  have fr_w_11 := jfrM2 ew_11 fr_w_10 f_q6
  have m_a_w_11 := jm2p ew_11 f_q6 m_a_w_10
  refine j_putF C hin d_c_Mo_init_61 ff_Mo_27 m_a_w_11 rfl rfl ?_
  refine jnv (fun w_12 ew_12 => ?_)
  have m_a_w_12 : w_12.1 a = some (.inr (10, (updV (updV (updV (updV (updV (updV V 1 (.ref q1)) 2 (.ref q2)) 3 (.ref q3)) 4 (.ref q4)) 5 (.ref q5)) 6 (.ref q6)))) := jus ew_12
  have hk_w_12 := jk0 ew_12 hk_w_11
  have fr_w_12 := jfrW ew_12 fr_w_11 (fun b e hb _ => hb)
  refine j_blk 69 [(0, .ref a)] [.int 16, .int 6, .ref a] C k_c_Mo_init_64_3 rfl ?_
  refine j_mn2 (t := 3) (t0 := 0) (n := 6) (k := 16) C Rm d_c_Mo_init_69 (by decide) rfl rfl (by rw [sj_0]; exact ca_Mo_19) (by decide) (by decide) (by decide) (by decide) (by decide) (by decide) (jroom hk_w_12.1 rfl) (jroom hk_w_12.2 rfl) (fun q7 f_q7 => ?_)
  refine jnv (fun w_13 ew_13 => ?_)
  have m_q7_w_13 : w_13.1 q7 = some (aR D 3 6 (jro 6 (fun j => q7 + 1 + j))) := jm2o ew_13
  have r_q7 : ∀ j, j < 6 → w_13.1 (q7 + 1 + j) = some (aI D 16 (fun _ => 0)) := fun j hj => jm2i ew_13 hj
  have hk_w_13 := jkM ew_13 hk_w_12
  have lt_q7 := jfrL fr_w_12 f_q7
  have fr_w_13 := jfrM2 ew_13 fr_w_12 f_q7
  have m_a_w_13 := jm2p ew_13 f_q7 m_a_w_12
  refine j_putF C hin d_c_Mo_init_73 ff_Mo_30 m_a_w_13 rfl rfl ?_
  refine jnv (fun w_14 ew_14 => ?_)
  have m_a_w_14 : w_14.1 a = some (.inr (10, (updV (updV (updV (updV (updV (updV (updV V 1 (.ref q1)) 2 (.ref q2)) 3 (.ref q3)) 4 (.ref q4)) 5 (.ref q5)) 6 (.ref q6)) 7 (.ref q7)))) := jus ew_14
  have hk_w_14 := jk0 ew_14 hk_w_13
  have fr_w_14 := jfrW ew_14 fr_w_13 (fun b e hb _ => hb)
  refine j_blk 81 [(0, .ref a)] [.int 16, .int 6, .ref a] C k_c_Mo_init_76_3 rfl ?_
  refine j_mn2 (t := 3) (t0 := 0) (n := 6) (k := 16) C Rm d_c_Mo_init_81 (by decide) rfl rfl (by rw [sj_0]; exact ca_Mo_19) (by decide) (by decide) (by decide) (by decide) (by decide) (by decide) (jroom hk_w_14.1 rfl) (jroom hk_w_14.2 rfl) (fun q8 f_q8 => ?_)
  refine jnv (fun w_15 ew_15 => ?_)
  have m_q8_w_15 : w_15.1 q8 = some (aR D 3 6 (jro 6 (fun j => q8 + 1 + j))) := jm2o ew_15
  have r_q8 : ∀ j, j < 6 → w_15.1 (q8 + 1 + j) = some (aI D 16 (fun _ => 0)) := fun j hj => jm2i ew_15 hj
  have hk_w_15 := jkM ew_15 hk_w_14
  have lt_q8 := jfrL fr_w_14 f_q8
  have fr_w_15 := jfrM2 ew_15 fr_w_14 f_q8
  have m_a_w_15 := jm2p ew_15 f_q8 m_a_w_14
  refine j_putF C hin d_c_Mo_init_85 ff_Mo_33 m_a_w_15 rfl rfl ?_
  refine jnv (fun w_16 ew_16 => ?_)
  have m_a_w_16 : w_16.1 a = some (.inr (10, (updV (updV (updV (updV (updV (updV (updV (updV V 1 (.ref q1)) 2 (.ref q2)) 3 (.ref q3)) 4 (.ref q4)) 5 (.ref q5)) 6 (.ref q6)) 7 (.ref q7)) 8 (.ref q8)))) := jus ew_16
  have hk_w_16 := jk0 ew_16 hk_w_15
  have fr_w_16 := jfrW ew_16 fr_w_15 (fun b e hb _ => hb)
  refine j_blk 93 [(0, .ref a)] [.int 16, .int 6, .ref a] C k_c_Mo_init_88_3 rfl ?_
  refine j_mn2 (t := 3) (t0 := 0) (n := 6) (k := 16) C Rm d_c_Mo_init_93 (by decide) rfl rfl (by rw [sj_0]; exact ca_Mo_19) (by decide) (by decide) (by decide) (by decide) (by decide) (by decide) (jroom hk_w_16.1 rfl) (jroom hk_w_16.2 rfl) (fun q9 f_q9 => ?_)
  refine jnv (fun w_17 ew_17 => ?_)
  have m_q9_w_17 : w_17.1 q9 = some (aR D 3 6 (jro 6 (fun j => q9 + 1 + j))) := jm2o ew_17
  have r_q9 : ∀ j, j < 6 → w_17.1 (q9 + 1 + j) = some (aI D 16 (fun _ => 0)) := fun j hj => jm2i ew_17 hj
  have hk_w_17 := jkM ew_17 hk_w_16
  have lt_q9 := jfrL fr_w_16 f_q9
  have fr_w_17 := jfrM2 ew_17 fr_w_16 f_q9
  have m_a_w_17 := jm2p ew_17 f_q9 m_a_w_16
  refine j_putF C hin d_c_Mo_init_97 ff_Mo_36 m_a_w_17 rfl rfl ?_
  refine jnv (fun w_18 ew_18 => ?_)
  have m_a_w_18 : w_18.1 a = some (.inr (10, (updV (updV (updV (updV (updV (updV (updV (updV (updV V 1 (.ref q1)) 2 (.ref q2)) 3 (.ref q3)) 4 (.ref q4)) 5 (.ref q5)) 6 (.ref q6)) 7 (.ref q7)) 8 (.ref q8)) 9 (.ref q9)))) := jus ew_18
  have hk_w_18 := jk0 ew_18 hk_w_17
  have fr_w_18 := jfrW ew_18 fr_w_17 (fun b e hb _ => hb)
  refine j_blk 105 [(0, .ref a)] [.int 16, .int 6, .ref a] C k_c_Mo_init_100_3 rfl ?_
  refine j_mn2 (t := 3) (t0 := 0) (n := 6) (k := 16) C Rm d_c_Mo_init_105 (by decide) rfl rfl (by rw [sj_0]; exact ca_Mo_19) (by decide) (by decide) (by decide) (by decide) (by decide) (by decide) (jroom hk_w_18.1 rfl) (jroom hk_w_18.2 rfl) (fun q10 f_q10 => ?_)
  refine jnv (fun w_19 ew_19 => ?_)
  have m_q10_w_19 : w_19.1 q10 = some (aR D 3 6 (jro 6 (fun j => q10 + 1 + j))) := jm2o ew_19
  have r_q10 : ∀ j, j < 6 → w_19.1 (q10 + 1 + j) = some (aI D 16 (fun _ => 0)) := fun j hj => jm2i ew_19 hj
  have hk_w_19 := jkM ew_19 hk_w_18
  have lt_q10 := jfrL fr_w_18 f_q10
  have fr_w_19 := jfrM2 ew_19 fr_w_18 f_q10
  have m_a_w_19 := jm2p ew_19 f_q10 m_a_w_18
  refine j_putF C hin d_c_Mo_init_109 ff_Mo_39 m_a_w_19 rfl rfl ?_
  refine jnv (fun w_20 ew_20 => ?_)
  have m_a_w_20 : w_20.1 a = some (.inr (10, (updV (updV (updV (updV (updV (updV (updV (updV (updV (updV V 1 (.ref q1)) 2 (.ref q2)) 3 (.ref q3)) 4 (.ref q4)) 5 (.ref q5)) 6 (.ref q6)) 7 (.ref q7)) 8 (.ref q8)) 9 (.ref q9)) 10 (.ref q10)))) := jus ew_20
  have hk_w_20 := jk0 ew_20 hk_w_19
  have fr_w_20 := jfrW ew_20 fr_w_19 (fun b e hb _ => hb)
  refine j_blk 117 [(0, .ref a)] [.int 120, .int 6, .ref a] C k_c_Mo_init_112_3 rfl ?_
  refine j_mn2 (t := 3) (t0 := 0) (n := 6) (k := 120) C Rm d_c_Mo_init_117 (by decide) rfl rfl (by rw [sj_0]; exact ca_Mo_19) (by decide) (by decide) (by decide) (by decide) (by decide) (by decide) (jroom hk_w_20.1 rfl) (jroom hk_w_20.2 rfl) (fun q11 f_q11 => ?_)
  refine jnv (fun w_21 ew_21 => ?_)
  have m_q11_w_21 : w_21.1 q11 = some (aR D 3 6 (jro 6 (fun j => q11 + 1 + j))) := jm2o ew_21
  have r_q11 : ∀ j, j < 6 → w_21.1 (q11 + 1 + j) = some (aI D 120 (fun _ => 0)) := fun j hj => jm2i ew_21 hj
  have hk_w_21 := jkM ew_21 hk_w_20
  have lt_q11 := jfrL fr_w_20 f_q11
  have fr_w_21 := jfrM2 ew_21 fr_w_20 f_q11
  have m_a_w_21 := jm2p ew_21 f_q11 m_a_w_20
  refine j_putF C hin d_c_Mo_init_121 ff_Mo_42 m_a_w_21 rfl rfl ?_
  refine jnv (fun w_22 ew_22 => ?_)
  have m_a_w_22 : w_22.1 a = some (.inr (10, (updV (updV (updV (updV (updV (updV (updV (updV (updV (updV (updV V 1 (.ref q1)) 2 (.ref q2)) 3 (.ref q3)) 4 (.ref q4)) 5 (.ref q5)) 6 (.ref q6)) 7 (.ref q7)) 8 (.ref q8)) 9 (.ref q9)) 10 (.ref q10)) 11 (.ref q11)))) := jus ew_22
  have hk_w_22 := jk0 ew_22 hk_w_21
  have fr_w_22 := jfrW ew_22 fr_w_21 (fun b e hb _ => hb)
  refine j_blk 129 [(0, .ref a)] [.int 120, .int 6, .ref a] C k_c_Mo_init_124_3 rfl ?_
  refine j_mn2 (t := 3) (t0 := 0) (n := 6) (k := 120) C Rm d_c_Mo_init_129 (by decide) rfl rfl (by rw [sj_0]; exact ca_Mo_19) (by decide) (by decide) (by decide) (by decide) (by decide) (by decide) (jroom hk_w_22.1 rfl) (jroom hk_w_22.2 rfl) (fun q12 f_q12 => ?_)
  refine jnv (fun w_23 ew_23 => ?_)
  have m_q12_w_23 : w_23.1 q12 = some (aR D 3 6 (jro 6 (fun j => q12 + 1 + j))) := jm2o ew_23
  have r_q12 : ∀ j, j < 6 → w_23.1 (q12 + 1 + j) = some (aI D 120 (fun _ => 0)) := fun j hj => jm2i ew_23 hj
  have hk_w_23 := jkM ew_23 hk_w_22
  have lt_q12 := jfrL fr_w_22 f_q12
  have fr_w_23 := jfrM2 ew_23 fr_w_22 f_q12
  have m_a_w_23 := jm2p ew_23 f_q12 m_a_w_22
  refine j_putF C hin d_c_Mo_init_133 ff_Mo_45 m_a_w_23 rfl rfl ?_
  refine jnv (fun w_24 ew_24 => ?_)
  have m_a_w_24 : w_24.1 a = some (.inr (10, (updV (updV (updV (updV (updV (updV (updV (updV (updV (updV (updV (updV V 1 (.ref q1)) 2 (.ref q2)) 3 (.ref q3)) 4 (.ref q4)) 5 (.ref q5)) 6 (.ref q6)) 7 (.ref q7)) 8 (.ref q8)) 9 (.ref q9)) 10 (.ref q10)) 11 (.ref q11)) 12 (.ref q12)))) := jus ew_24
  have hk_w_24 := jk0 ew_24 hk_w_23
  have fr_w_24 := jfrW ew_24 fr_w_23 (fun b e hb _ => hb)
  refine j_blk 141 [(0, .ref a)] [.int 120, .int 6, .ref a] C k_c_Mo_init_136_3 rfl ?_
  refine j_mn2 (t := 3) (t0 := 0) (n := 6) (k := 120) C Rm d_c_Mo_init_141 (by decide) rfl rfl (by rw [sj_0]; exact ca_Mo_19) (by decide) (by decide) (by decide) (by decide) (by decide) (by decide) (jroom hk_w_24.1 rfl) (jroom hk_w_24.2 rfl) (fun q13 f_q13 => ?_)
  refine jnv (fun w_25 ew_25 => ?_)
  have m_q13_w_25 : w_25.1 q13 = some (aR D 3 6 (jro 6 (fun j => q13 + 1 + j))) := jm2o ew_25
  have r_q13 : ∀ j, j < 6 → w_25.1 (q13 + 1 + j) = some (aI D 120 (fun _ => 0)) := fun j hj => jm2i ew_25 hj
  have hk_w_25 := jkM ew_25 hk_w_24
  have lt_q13 := jfrL fr_w_24 f_q13
  have fr_w_25 := jfrM2 ew_25 fr_w_24 f_q13
  have m_a_w_25 := jm2p ew_25 f_q13 m_a_w_24
  refine j_putF C hin d_c_Mo_init_145 ff_Mo_48 m_a_w_25 rfl rfl ?_
  refine jnv (fun w_26 ew_26 => ?_)
  have m_a_w_26 : w_26.1 a = some (.inr (10, (updV (updV (updV (updV (updV (updV (updV (updV (updV (updV (updV (updV (updV V 1 (.ref q1)) 2 (.ref q2)) 3 (.ref q3)) 4 (.ref q4)) 5 (.ref q5)) 6 (.ref q6)) 7 (.ref q7)) 8 (.ref q8)) 9 (.ref q9)) 10 (.ref q10)) 11 (.ref q11)) 12 (.ref q12)) 13 (.ref q13)))) := jus ew_26
  have hk_w_26 := jk0 ew_26 hk_w_25
  have fr_w_26 := jfrW ew_26 fr_w_25 (fun b e hb _ => hb)
  refine j_blk 153 [(0, .ref a)] [.int 120, .int 6, .ref a] C k_c_Mo_init_148_3 rfl ?_
  refine j_mn2 (t := 3) (t0 := 0) (n := 6) (k := 120) C Rm d_c_Mo_init_153 (by decide) rfl rfl (by rw [sj_0]; exact ca_Mo_19) (by decide) (by decide) (by decide) (by decide) (by decide) (by decide) (jroom hk_w_26.1 rfl) (jroom hk_w_26.2 rfl) (fun q14 f_q14 => ?_)
  refine jnv (fun w_27 ew_27 => ?_)
  have m_q14_w_27 : w_27.1 q14 = some (aR D 3 6 (jro 6 (fun j => q14 + 1 + j))) := jm2o ew_27
  have r_q14 : ∀ j, j < 6 → w_27.1 (q14 + 1 + j) = some (aI D 120 (fun _ => 0)) := fun j hj => jm2i ew_27 hj
  have hk_w_27 := jkM ew_27 hk_w_26
  have lt_q14 := jfrL fr_w_26 f_q14
  have fr_w_27 := jfrM2 ew_27 fr_w_26 f_q14
  have m_a_w_27 := jm2p ew_27 f_q14 m_a_w_26
  refine j_putF C hin d_c_Mo_init_157 ff_Mo_51 m_a_w_27 rfl rfl ?_
  refine jnv (fun w_28 ew_28 => ?_)
  have m_a_w_28 : w_28.1 a = some (.inr (10, (updV (updV (updV (updV (updV (updV (updV (updV (updV (updV (updV (updV (updV (updV V 1 (.ref q1)) 2 (.ref q2)) 3 (.ref q3)) 4 (.ref q4)) 5 (.ref q5)) 6 (.ref q6)) 7 (.ref q7)) 8 (.ref q8)) 9 (.ref q9)) 10 (.ref q10)) 11 (.ref q11)) 12 (.ref q12)) 13 (.ref q13)) 14 (.ref q14)))) := jus ew_28
  have hk_w_28 := jk0 ew_28 hk_w_27
  have fr_w_28 := jfrW ew_28 fr_w_27 (fun b e hb _ => hb)
  refine j_blk 165 [(0, .ref a)] [.int 120, .int 6, .ref a] C k_c_Mo_init_160_3 rfl ?_
  refine j_mn2 (t := 3) (t0 := 0) (n := 6) (k := 120) C Rm d_c_Mo_init_165 (by decide) rfl rfl (by rw [sj_0]; exact ca_Mo_19) (by decide) (by decide) (by decide) (by decide) (by decide) (by decide) (jroom hk_w_28.1 rfl) (jroom hk_w_28.2 rfl) (fun q15 f_q15 => ?_)
  refine jnv (fun w_29 ew_29 => ?_)
  have m_q15_w_29 : w_29.1 q15 = some (aR D 3 6 (jro 6 (fun j => q15 + 1 + j))) := jm2o ew_29
  have r_q15 : ∀ j, j < 6 → w_29.1 (q15 + 1 + j) = some (aI D 120 (fun _ => 0)) := fun j hj => jm2i ew_29 hj
  have hk_w_29 := jkM ew_29 hk_w_28
  have lt_q15 := jfrL fr_w_28 f_q15
  have fr_w_29 := jfrM2 ew_29 fr_w_28 f_q15
  have m_a_w_29 := jm2p ew_29 f_q15 m_a_w_28
  refine j_putF C hin d_c_Mo_init_169 ff_Mo_54 m_a_w_29 rfl rfl ?_
  refine jnv (fun w_30 ew_30 => ?_)
  have m_a_w_30 : w_30.1 a = some (.inr (10, (updV (updV (updV (updV (updV (updV (updV (updV (updV (updV (updV (updV (updV (updV (updV V 1 (.ref q1)) 2 (.ref q2)) 3 (.ref q3)) 4 (.ref q4)) 5 (.ref q5)) 6 (.ref q6)) 7 (.ref q7)) 8 (.ref q8)) 9 (.ref q9)) 10 (.ref q10)) 11 (.ref q11)) 12 (.ref q12)) 13 (.ref q13)) 14 (.ref q14)) 15 (.ref q15)))) := jus ew_30
  have hk_w_30 := jk0 ew_30 hk_w_29
  have fr_w_30 := jfrW ew_30 fr_w_29 (fun b e hb _ => hb)
  refine j_blk 177 [(0, .ref a)] [.int 120, .int 6, .ref a] C k_c_Mo_init_172_3 rfl ?_
  refine j_mn2 (t := 3) (t0 := 0) (n := 6) (k := 120) C Rm d_c_Mo_init_177 (by decide) rfl rfl (by rw [sj_0]; exact ca_Mo_19) (by decide) (by decide) (by decide) (by decide) (by decide) (by decide) (jroom hk_w_30.1 rfl) (jroom hk_w_30.2 rfl) (fun q16 f_q16 => ?_)
  refine jnv (fun w_31 ew_31 => ?_)
  have m_q16_w_31 : w_31.1 q16 = some (aR D 3 6 (jro 6 (fun j => q16 + 1 + j))) := jm2o ew_31
  have r_q16 : ∀ j, j < 6 → w_31.1 (q16 + 1 + j) = some (aI D 120 (fun _ => 0)) := fun j hj => jm2i ew_31 hj
  have hk_w_31 := jkM ew_31 hk_w_30
  have lt_q16 := jfrL fr_w_30 f_q16
  have fr_w_31 := jfrM2 ew_31 fr_w_30 f_q16
  have m_a_w_31 := jm2p ew_31 f_q16 m_a_w_30
  refine j_putF C hin d_c_Mo_init_181 ff_Mo_57 m_a_w_31 rfl rfl ?_
  refine jnv (fun w_32 ew_32 => ?_)
  have m_a_w_32 : w_32.1 a = some (.inr (10, (updV (updV (updV (updV (updV (updV (updV (updV (updV (updV (updV (updV (updV (updV (updV (updV V 1 (.ref q1)) 2 (.ref q2)) 3 (.ref q3)) 4 (.ref q4)) 5 (.ref q5)) 6 (.ref q6)) 7 (.ref q7)) 8 (.ref q8)) 9 (.ref q9)) 10 (.ref q10)) 11 (.ref q11)) 12 (.ref q12)) 13 (.ref q13)) 14 (.ref q14)) 15 (.ref q15)) 16 (.ref q16)))) := jus ew_32
  have hk_w_32 := jk0 ew_32 hk_w_31
  have fr_w_32 := jfrW ew_32 fr_w_31 (fun b e hb _ => hb)
  refine j_blk 187 [(0, .ref a)] [.int 6, .ref a] C k_c_Mo_init_184_2 rfl ?_
  refine j_newa (n := 6) C Rm d_c_Mo_init_187 rfl ac_int (by decide) (by decide) (by decide) (jroom hk_w_32.1 rfl) (jroom hk_w_32.2 rfl) (fun q17 f_q17 => ?_)
  refine jnv (fun w_33 ew_33 => ?_)
  have m_q17_w_33 : w_33.1 q17 = some (aI D 6 (fun _ => 0)) := jus ew_33
  have hk_w_33 := jk1 ew_33 hk_w_32
  have lt_q17 := jfrL fr_w_32 f_q17
  have fr_w_33 := jfrN ew_33 fr_w_32 f_q17
  have x_a_q17 := Nat.ne_of_lt (f_q17 _ _ m_a_w_32)
  have m_a_w_33 := jun ew_33 m_a_w_32 x_a_q17
  refine j_putF C hin d_c_Mo_init_189 ff_Mo_60 m_a_w_33 rfl rfl ?_
  refine jnv (fun w_34 ew_34 => ?_)
  have m_a_w_34 : w_34.1 a = some (.inr (10, (updV (updV (updV (updV (updV (updV (updV (updV (updV (updV (updV (updV (updV (updV (updV (updV (updV V 1 (.ref q1)) 2 (.ref q2)) 3 (.ref q3)) 4 (.ref q4)) 5 (.ref q5)) 6 (.ref q6)) 7 (.ref q7)) 8 (.ref q8)) 9 (.ref q9)) 10 (.ref q10)) 11 (.ref q11)) 12 (.ref q12)) 13 (.ref q13)) 14 (.ref q14)) 15 (.ref q15)) 16 (.ref q16)) 17 (.ref q17)))) := jus ew_34
  have hk_w_34 := jk0 ew_34 hk_w_33
  have fr_w_34 := jfrW ew_34 fr_w_33 (fun b e hb _ => hb)
  refine j_blk 197 [(0, .ref a)] [.int 10, .int 6, .ref a] C k_c_Mo_init_192_3 rfl ?_
  refine j_mn2 (t := 4) (t0 := 2) (n := 6) (k := 10) C Rm d_c_Mo_init_197 (by decide) rfl rfl (by rw [sj_2]; exact ca_Mo_63) (by decide) (by decide) (by decide) (by decide) (by decide) (by decide) (jroom hk_w_34.1 rfl) (jroom hk_w_34.2 rfl) (fun q18 f_q18 => ?_)
  refine jnv (fun w_35 ew_35 => ?_)
  have m_q18_w_35 : w_35.1 q18 = some (aR D 4 6 (jro 6 (fun j => q18 + 1 + j))) := jm2o ew_35
  have r_q18 : ∀ j, j < 6 → w_35.1 (q18 + 1 + j) = some (aZ D 10 (fun _ => 0)) := fun j hj => jm2i ew_35 hj
  have hk_w_35 := jkM ew_35 hk_w_34
  have lt_q18 := jfrL fr_w_34 f_q18
  have fr_w_35 := jfrM2 ew_35 fr_w_34 f_q18
  have m_a_w_35 := jm2p ew_35 f_q18 m_a_w_34
  refine j_putF C hin d_c_Mo_init_201 ff_Mo_65 m_a_w_35 rfl rfl ?_
  refine jnv (fun w_36 ew_36 => ?_)
  have m_a_w_36 : w_36.1 a = some (.inr (10, (updV (updV (updV (updV (updV (updV (updV (updV (updV (updV (updV (updV (updV (updV (updV (updV (updV (updV V 1 (.ref q1)) 2 (.ref q2)) 3 (.ref q3)) 4 (.ref q4)) 5 (.ref q5)) 6 (.ref q6)) 7 (.ref q7)) 8 (.ref q8)) 9 (.ref q9)) 10 (.ref q10)) 11 (.ref q11)) 12 (.ref q12)) 13 (.ref q13)) 14 (.ref q14)) 15 (.ref q15)) 16 (.ref q16)) 17 (.ref q17)) 18 (.ref q18)))) := jus ew_36
  have hk_w_36 := jk0 ew_36 hk_w_35
  have fr_w_36 := jfrW ew_36 fr_w_35 (fun b e hb _ => hb)
  refine j_blk 209 [(0, .ref a)] [.int 10, .int 6, .ref a] C k_c_Mo_init_204_3 rfl ?_
  refine j_mn2 (t := 4) (t0 := 2) (n := 6) (k := 10) C Rm d_c_Mo_init_209 (by decide) rfl rfl (by rw [sj_2]; exact ca_Mo_63) (by decide) (by decide) (by decide) (by decide) (by decide) (by decide) (jroom hk_w_36.1 rfl) (jroom hk_w_36.2 rfl) (fun q19 f_q19 => ?_)
  refine jnv (fun w_37 ew_37 => ?_)
  have m_q19_w_37 : w_37.1 q19 = some (aR D 4 6 (jro 6 (fun j => q19 + 1 + j))) := jm2o ew_37
  have r_q19 : ∀ j, j < 6 → w_37.1 (q19 + 1 + j) = some (aZ D 10 (fun _ => 0)) := fun j hj => jm2i ew_37 hj
  have hk_w_37 := jkM ew_37 hk_w_36
  have lt_q19 := jfrL fr_w_36 f_q19
  have fr_w_37 := jfrM2 ew_37 fr_w_36 f_q19
  have m_a_w_37 := jm2p ew_37 f_q19 m_a_w_36
  refine j_putF C hin d_c_Mo_init_213 ff_Mo_68 m_a_w_37 rfl rfl ?_
  refine jnv (fun w_38 ew_38 => ?_)
  have m_a_w_38 : w_38.1 a = some (.inr (10, (updV (updV (updV (updV (updV (updV (updV (updV (updV (updV (updV (updV (updV (updV (updV (updV (updV (updV (updV V 1 (.ref q1)) 2 (.ref q2)) 3 (.ref q3)) 4 (.ref q4)) 5 (.ref q5)) 6 (.ref q6)) 7 (.ref q7)) 8 (.ref q8)) 9 (.ref q9)) 10 (.ref q10)) 11 (.ref q11)) 12 (.ref q12)) 13 (.ref q13)) 14 (.ref q14)) 15 (.ref q15)) 16 (.ref q16)) 17 (.ref q17)) 18 (.ref q18)) 19 (.ref q19)))) := jus ew_38
  have hk_w_38 := jk0 ew_38 hk_w_37
  have fr_w_38 := jfrW ew_38 fr_w_37 (fun b e hb _ => hb)
  refine j_blk 223 [(0, .ref a)] [.int 10, .int 10, .int 6, .ref a] C k_c_Mo_init_216_4 rfl ?_
  refine j_mn3 (t := 6) (t1 := 5) (t0 := 1) (n := 6) (m9 := 10) (k := 10) C Rm d_c_Mo_init_223 (by decide) rfl rfl rfl (by rw [sj_3]; exact ca_Mo_71) (by decide) (by decide) (by decide) (by decide) (by decide) (by decide) (by decide) (by decide) (by decide) (jroom hk_w_38.1 rfl) (jroom hk_w_38.2 rfl) (fun q20 f_q20 => ?_)
  refine jnv (fun w_39 ew_39 => ?_)
  have m_q20_w_39 : w_39.1 q20 = some (aR D 6 6 (jro 6 (fun j => q20 + 1 + j * (10 + 1)))) := jm3o ew_39
  have r_q20 : ∀ j, j < 6 → w_39.1 (q20 + 1 + j * (10 + 1)) = some (aR D 5 10 (jro 10 (fun i => q20 + 1 + j * (10 + 1) + 1 + i))) := fun j hj => jm3m ew_39 hj
  have r2_q20 : ∀ j, j < 6 → ∀ i, i < 10 → w_39.1 (q20 + 1 + j * (10 + 1) + 1 + i) = some (aJ D 10 (fun _ => 0)) := fun j hj i hi => jm3i ew_39 hj hi
  have hk_w_39 := jkM ew_39 hk_w_38
  have lt_q20 := jfrL fr_w_38 f_q20
  have fr_w_39 := jfrM3 ew_39 fr_w_38 f_q20
  have m_a_w_39 := jm3p ew_39 f_q20 m_a_w_38
  refine j_putF C hin d_c_Mo_init_227 ff_Mo_73 m_a_w_39 rfl rfl ?_
  refine jnv (fun w_40 ew_40 => ?_)
  have m_a_w_40 : w_40.1 a = some (.inr (10, (updV (updV (updV (updV (updV (updV (updV (updV (updV (updV (updV (updV (updV (updV (updV (updV (updV (updV (updV (updV V 1 (.ref q1)) 2 (.ref q2)) 3 (.ref q3)) 4 (.ref q4)) 5 (.ref q5)) 6 (.ref q6)) 7 (.ref q7)) 8 (.ref q8)) 9 (.ref q9)) 10 (.ref q10)) 11 (.ref q11)) 12 (.ref q12)) 13 (.ref q13)) 14 (.ref q14)) 15 (.ref q15)) 16 (.ref q16)) 17 (.ref q17)) 18 (.ref q18)) 19 (.ref q19)) 20 (.ref q20)))) := jus ew_40
  have hk_w_40 := jk0 ew_40 hk_w_39
  have fr_w_40 := jfrW ew_40 fr_w_39 (fun b e hb _ => hb)
  refine j_blk 233 [(0, .ref a)] [.int 120, .ref a] C k_c_Mo_init_230_2 rfl ?_
  refine j_newa (n := 120) C Rm d_c_Mo_init_233 rfl ac_int (by decide) (by decide) (by decide) (jroom hk_w_40.1 rfl) (jroom hk_w_40.2 rfl) (fun q21 f_q21 => ?_)
  refine jnv (fun w_41 ew_41 => ?_)
  have m_q21_w_41 : w_41.1 q21 = some (aI D 120 (fun _ => 0)) := jus ew_41
  have hk_w_41 := jk1 ew_41 hk_w_40
  have lt_q21 := jfrL fr_w_40 f_q21
  have fr_w_41 := jfrN ew_41 fr_w_40 f_q21
  have x_a_q21 := Nat.ne_of_lt (f_q21 _ _ m_a_w_40)
  have m_a_w_41 := jun ew_41 m_a_w_40 x_a_q21
  refine j_putF C hin d_c_Mo_init_235 ff_Mo_76 m_a_w_41 rfl rfl ?_
  refine jnv (fun w_42 ew_42 => ?_)
  have m_a_w_42 : w_42.1 a = some (.inr (10, (updV (updV (updV (updV (updV (updV (updV (updV (updV (updV (updV (updV (updV (updV (updV (updV (updV (updV (updV (updV (updV V 1 (.ref q1)) 2 (.ref q2)) 3 (.ref q3)) 4 (.ref q4)) 5 (.ref q5)) 6 (.ref q6)) 7 (.ref q7)) 8 (.ref q8)) 9 (.ref q9)) 10 (.ref q10)) 11 (.ref q11)) 12 (.ref q12)) 13 (.ref q13)) 14 (.ref q14)) 15 (.ref q15)) 16 (.ref q16)) 17 (.ref q17)) 18 (.ref q18)) 19 (.ref q19)) 20 (.ref q20)) 21 (.ref q21)))) := jus ew_42
  have hk_w_42 := jk0 ew_42 hk_w_41
  have fr_w_42 := jfrW ew_42 fr_w_41 (fun b e hb _ => hb)
  refine j_blk 242 [(0, .ref a)] [.int 200, .ref a] C k_c_Mo_init_238_2 rfl ?_
  refine j_anew (t := 11) (n := 200) C Rm d_c_Mo_init_242 rfl (by decide) ca_Mo_79 (by decide) (by decide) (by decide) (jroom hk_w_42.1 rfl) (jroom hk_w_42.2 rfl) (fun q22 f_q22 => ?_)
  refine jnv (fun w_43 ew_43 => ?_)
  have m_q22_w_43 : w_43.1 q22 = some (aR D 11 200 (fun _ => none)) := jus ew_43
  have hk_w_43 := jk1 ew_43 hk_w_42
  have lt_q22 := jfrL fr_w_42 f_q22
  have fr_w_43 := jfrN ew_43 fr_w_42 f_q22
  have x_a_q22 := Nat.ne_of_lt (f_q22 _ _ m_a_w_42)
  have m_a_w_43 := jun ew_43 m_a_w_42 x_a_q22
  refine j_putF C hin d_c_Mo_init_245 ff_Mo_81 m_a_w_43 rfl rfl ?_
  refine jnv (fun w_44 ew_44 => ?_)
  have m_a_w_44 : w_44.1 a = some (.inr (10, (updV (updV (updV (updV (updV (updV (updV (updV (updV (updV (updV (updV (updV (updV (updV (updV (updV (updV (updV (updV (updV (updV V 1 (.ref q1)) 2 (.ref q2)) 3 (.ref q3)) 4 (.ref q4)) 5 (.ref q5)) 6 (.ref q6)) 7 (.ref q7)) 8 (.ref q8)) 9 (.ref q9)) 10 (.ref q10)) 11 (.ref q11)) 12 (.ref q12)) 13 (.ref q13)) 14 (.ref q14)) 15 (.ref q15)) 16 (.ref q16)) 17 (.ref q17)) 18 (.ref q18)) 19 (.ref q19)) 20 (.ref q20)) 21 (.ref q21)) 32 (.ref q22)))) := jus ew_44
  have hk_w_44 := jk0 ew_44 hk_w_43
  have fr_w_44 := jfrW ew_44 fr_w_43 (fun b e hb _ => hb)
  refine j_blk 250 [(0, .ref a)] [.int (-1), .ref a] C k_c_Mo_init_248_2 rfl ?_
  refine j_put C d_c_Mo_init_250 fp_Mo_85 m_a_w_44 rfl rfl ?_
  refine jnv (fun w_45 ew_45 => ?_)
  have m_a_w_45 : w_45.1 a = some (.inr (10, (updV (updV (updV (updV (updV (updV (updV (updV (updV (updV (updV (updV (updV (updV (updV (updV (updV (updV (updV (updV (updV (updV (updV V 1 (.ref q1)) 2 (.ref q2)) 3 (.ref q3)) 4 (.ref q4)) 5 (.ref q5)) 6 (.ref q6)) 7 (.ref q7)) 8 (.ref q8)) 9 (.ref q9)) 10 (.ref q10)) 11 (.ref q11)) 12 (.ref q12)) 13 (.ref q13)) 14 (.ref q14)) 15 (.ref q15)) 16 (.ref q16)) 17 (.ref q17)) 18 (.ref q18)) 19 (.ref q19)) 20 (.ref q20)) 21 (.ref q21)) 32 (.ref q22)) 37 (.int (-1))))) := jus ew_45
  have hk_w_45 := jk0 ew_45 hk_w_44
  have fr_w_45 := jfrW ew_45 fr_w_44 (fun b e hb _ => hb)
  refine j_blk 256 [(0, .ref a)] [.int 6, .ref a] C k_c_Mo_init_253_2 rfl ?_
  refine j_newa (n := 6) C Rm d_c_Mo_init_256 rfl ac_int (by decide) (by decide) (by decide) (jroom hk_w_45.1 rfl) (jroom hk_w_45.2 rfl) (fun q23 f_q23 => ?_)
  refine jnv (fun w_46 ew_46 => ?_)
  have m_q23_w_46 : w_46.1 q23 = some (aI D 6 (fun _ => 0)) := jus ew_46
  have hk_w_46 := jk1 ew_46 hk_w_45
  have lt_q23 := jfrL fr_w_45 f_q23
  have fr_w_46 := jfrN ew_46 fr_w_45 f_q23
  have x_a_q23 := Nat.ne_of_lt (f_q23 _ _ m_a_w_45)
  have m_a_w_46 := jun ew_46 m_a_w_45 x_a_q23
  refine j_putF C hin d_c_Mo_init_258 ff_Mo_89 m_a_w_46 rfl rfl ?_
  refine jnv (fun w_47 ew_47 => ?_)
  have m_a_w_47 : w_47.1 a = some (.inr (10, (updV (updV (updV (updV (updV (updV (updV (updV (updV (updV (updV (updV (updV (updV (updV (updV (updV (updV (updV (updV (updV (updV (updV (updV V 1 (.ref q1)) 2 (.ref q2)) 3 (.ref q3)) 4 (.ref q4)) 5 (.ref q5)) 6 (.ref q6)) 7 (.ref q7)) 8 (.ref q8)) 9 (.ref q9)) 10 (.ref q10)) 11 (.ref q11)) 12 (.ref q12)) 13 (.ref q13)) 14 (.ref q14)) 15 (.ref q15)) 16 (.ref q16)) 17 (.ref q17)) 18 (.ref q18)) 19 (.ref q19)) 20 (.ref q20)) 21 (.ref q21)) 32 (.ref q22)) 37 (.int (-1))) 38 (.ref q23)))) := jus ew_47
  have hk_w_47 := jk0 ew_47 hk_w_46
  have fr_w_47 := jfrW ew_47 fr_w_46 (fun b e hb _ => hb)
  refine j_blk 263 [(0, .ref a)] [.int 4, .ref a] C k_c_Mo_init_261_2 rfl ?_
  refine j_newa (n := 4) C Rm d_c_Mo_init_263 rfl ac_int (by decide) (by decide) (by decide) (jroom hk_w_47.1 rfl) (jroom hk_w_47.2 rfl) (fun q24 f_q24 => ?_)
  refine jnv (fun w_48 ew_48 => ?_)
  have m_q24_w_48 : w_48.1 q24 = some (aI D 4 (fun _ => 0)) := jus ew_48
  have hk_w_48 := jk1 ew_48 hk_w_47
  have lt_q24 := jfrL fr_w_47 f_q24
  have fr_w_48 := jfrN ew_48 fr_w_47 f_q24
  refine j_blk 268 [(0, .ref a)] [.int (-1), .int 0, .ref q24, .ref q24, .ref a] C k_c_Mo_init_265_3 rfl ?_
  refine j_iast C d_c_Mo_init_268 m_q24_w_48 (jin (by decide) (by decide)) ?_
  refine jnv (fun w_49 ew_49 => ?_)
  have m_q24_w_49 : w_49.1 q24 = some (aI D 4 (upd (fun _ => 0) 0 (-1))) := jus ew_49
  have hk_w_49 := jk0 ew_49 hk_w_48
  have fr_w_49 := jfrW ew_49 fr_w_48 (fun b _ _ he => Nat.ne_of_lt (lt_q24 b _ he))
  refine j_blk 272 [(0, .ref a)] [.int (-1), .int 1, .ref q24, .ref q24, .ref a] C k_c_Mo_init_269_3 rfl ?_
  refine j_iast C d_c_Mo_init_272 m_q24_w_49 (jin (by decide) (by decide)) ?_
  refine jnv (fun w_50 ew_50 => ?_)
  have m_q24_w_50 : w_50.1 q24 = some (aI D 4 (upd (upd (fun _ => 0) 0 (-1)) 1 (-1))) := jus ew_50
  have hk_w_50 := jk0 ew_50 hk_w_49
  have fr_w_50 := jfrW ew_50 fr_w_49 (fun b _ _ he => Nat.ne_of_lt (lt_q24 b _ he))
  refine j_blk 276 [(0, .ref a)] [.int (-1), .int 2, .ref q24, .ref q24, .ref a] C k_c_Mo_init_273_3 rfl ?_
  refine j_iast C d_c_Mo_init_276 m_q24_w_50 (jin (by decide) (by decide)) ?_
  refine jnv (fun w_51 ew_51 => ?_)
  have m_q24_w_51 : w_51.1 q24 = some (aI D 4 (upd (upd (upd (fun _ => 0) 0 (-1)) 1 (-1)) 2 (-1))) := jus ew_51
  have hk_w_51 := jk0 ew_51 hk_w_50
  have fr_w_51 := jfrW ew_51 fr_w_50 (fun b _ _ he => Nat.ne_of_lt (lt_q24 b _ he))
  refine j_blk 280 [(0, .ref a)] [.int (-1), .int 3, .ref q24, .ref q24, .ref a] C k_c_Mo_init_277_3 rfl ?_
  refine j_iast C d_c_Mo_init_280 m_q24_w_51 (jin (by decide) (by decide)) ?_
  refine jnv (fun w_52 ew_52 => ?_)
  have m_q24_w_52 : w_52.1 q24 = some (aI D 4 (upd (upd (upd (upd (fun _ => 0) 0 (-1)) 1 (-1)) 2 (-1)) 3 (-1))) := jus ew_52
  have hk_w_52 := jk0 ew_52 hk_w_51
  have fr_w_52 := jfrW ew_52 fr_w_51 (fun b _ _ he => Nat.ne_of_lt (lt_q24 b _ he))
  have x_a_q24 := Nat.ne_of_lt (f_q24 _ _ m_a_w_47)
  have m_a_w_48 := jun ew_48 m_a_w_47 x_a_q24
  have m_a_w_49 := jun ew_49 m_a_w_48 x_a_q24
  have m_a_w_50 := jun ew_50 m_a_w_49 x_a_q24
  have m_a_w_51 := jun ew_51 m_a_w_50 x_a_q24
  have m_a_w_52 := jun ew_52 m_a_w_51 x_a_q24
  refine j_putF C hin d_c_Mo_init_281 ff_Mo_92 m_a_w_52 rfl rfl ?_
  refine jnv (fun w_53 ew_53 => ?_)
  have m_a_w_53 : w_53.1 a = some (.inr (10, (updV (updV (updV (updV (updV (updV (updV (updV (updV (updV (updV (updV (updV (updV (updV (updV (updV (updV (updV (updV (updV (updV (updV (updV (updV V 1 (.ref q1)) 2 (.ref q2)) 3 (.ref q3)) 4 (.ref q4)) 5 (.ref q5)) 6 (.ref q6)) 7 (.ref q7)) 8 (.ref q8)) 9 (.ref q9)) 10 (.ref q10)) 11 (.ref q11)) 12 (.ref q12)) 13 (.ref q13)) 14 (.ref q14)) 15 (.ref q15)) 16 (.ref q16)) 17 (.ref q17)) 18 (.ref q18)) 19 (.ref q19)) 20 (.ref q20)) 21 (.ref q21)) 32 (.ref q22)) 37 (.int (-1))) 38 (.ref q23)) 39 (.ref q24)))) := jus ew_53
  have hk_w_53 := jk0 ew_53 hk_w_52
  have fr_w_53 := jfrW ew_53 fr_w_52 (fun b e hb _ => hb)
  refine j_blk 286 [(0, .ref a)] [.int 4, .ref a] C k_c_Mo_init_284_2 rfl ?_
  refine j_newa (n := 4) C Rm d_c_Mo_init_286 rfl ac_int (by decide) (by decide) (by decide) (jroom hk_w_53.1 rfl) (jroom hk_w_53.2 rfl) (fun q25 f_q25 => ?_)
  refine jnv (fun w_54 ew_54 => ?_)
  have m_q25_w_54 : w_54.1 q25 = some (aI D 4 (fun _ => 0)) := jus ew_54
  have hk_w_54 := jk1 ew_54 hk_w_53
  have lt_q25 := jfrL fr_w_53 f_q25
  have fr_w_54 := jfrN ew_54 fr_w_53 f_q25
  have x_a_q25 := Nat.ne_of_lt (f_q25 _ _ m_a_w_53)
  have m_a_w_54 := jun ew_54 m_a_w_53 x_a_q25
  refine j_putF C hin d_c_Mo_init_288 ff_Mo_95 m_a_w_54 rfl rfl ?_
  refine jnv (fun w_55 ew_55 => ?_)
  have m_a_w_55 : w_55.1 a = some (.inr (10, (updV (updV (updV (updV (updV (updV (updV (updV (updV (updV (updV (updV (updV (updV (updV (updV (updV (updV (updV (updV (updV (updV (updV (updV (updV (updV V 1 (.ref q1)) 2 (.ref q2)) 3 (.ref q3)) 4 (.ref q4)) 5 (.ref q5)) 6 (.ref q6)) 7 (.ref q7)) 8 (.ref q8)) 9 (.ref q9)) 10 (.ref q10)) 11 (.ref q11)) 12 (.ref q12)) 13 (.ref q13)) 14 (.ref q14)) 15 (.ref q15)) 16 (.ref q16)) 17 (.ref q17)) 18 (.ref q18)) 19 (.ref q19)) 20 (.ref q20)) 21 (.ref q21)) 32 (.ref q22)) 37 (.int (-1))) 38 (.ref q23)) 39 (.ref q24)) 40 (.ref q25)))) := jus ew_55
  have hk_w_55 := jk0 ew_55 hk_w_54
  have fr_w_55 := jfrW ew_55 fr_w_54 (fun b e hb _ => hb)
  refine j_blk 295 [(0, .ref a)] [.int 40, .int 4, .ref a] C k_c_Mo_init_291_3 rfl ?_
  refine j_mn2 (t := 3) (t0 := 0) (n := 4) (k := 40) C Rm d_c_Mo_init_295 (by decide) rfl rfl (by rw [sj_0]; exact ca_Mo_19) (by decide) (by decide) (by decide) (by decide) (by decide) (by decide) (jroom hk_w_55.1 rfl) (jroom hk_w_55.2 rfl) (fun q26 f_q26 => ?_)
  refine jnv (fun w_56 ew_56 => ?_)
  have m_q26_w_56 : w_56.1 q26 = some (aR D 3 4 (jro 4 (fun j => q26 + 1 + j))) := jm2o ew_56
  have r_q26 : ∀ j, j < 4 → w_56.1 (q26 + 1 + j) = some (aI D 40 (fun _ => 0)) := fun j hj => jm2i ew_56 hj
  have hk_w_56 := jkM ew_56 hk_w_55
  have lt_q26 := jfrL fr_w_55 f_q26
  have fr_w_56 := jfrM2 ew_56 fr_w_55 f_q26
  have m_a_w_56 := jm2p ew_56 f_q26 m_a_w_55
  refine j_putF C hin d_c_Mo_init_299 ff_Mo_98 m_a_w_56 rfl rfl ?_
  refine jnv (fun w_57 ew_57 => ?_)
  have m_a_w_57 : w_57.1 a = some (.inr (10, (updV (updV (updV (updV (updV (updV (updV (updV (updV (updV (updV (updV (updV (updV (updV (updV (updV (updV (updV (updV (updV (updV (updV (updV (updV (updV (updV V 1 (.ref q1)) 2 (.ref q2)) 3 (.ref q3)) 4 (.ref q4)) 5 (.ref q5)) 6 (.ref q6)) 7 (.ref q7)) 8 (.ref q8)) 9 (.ref q9)) 10 (.ref q10)) 11 (.ref q11)) 12 (.ref q12)) 13 (.ref q13)) 14 (.ref q14)) 15 (.ref q15)) 16 (.ref q16)) 17 (.ref q17)) 18 (.ref q18)) 19 (.ref q19)) 20 (.ref q20)) 21 (.ref q21)) 32 (.ref q22)) 37 (.int (-1))) 38 (.ref q23)) 39 (.ref q24)) 40 (.ref q25)) 41 (.ref q26)))) := jus ew_57
  have hk_w_57 := jk0 ew_57 hk_w_56
  have fr_w_57 := jfrW ew_57 fr_w_56 (fun b e hb _ => hb)
  refine j_blk 305 [(0, .ref a)] [.int 40, .ref a] C k_c_Mo_init_302_2 rfl ?_
  refine j_newa (n := 40) C Rm d_c_Mo_init_305 rfl ac_int (by decide) (by decide) (by decide) (jroom hk_w_57.1 rfl) (jroom hk_w_57.2 rfl) (fun q27 f_q27 => ?_)
  refine jnv (fun w_58 ew_58 => ?_)
  have m_q27_w_58 : w_58.1 q27 = some (aI D 40 (fun _ => 0)) := jus ew_58
  have hk_w_58 := jk1 ew_58 hk_w_57
  have lt_q27 := jfrL fr_w_57 f_q27
  have fr_w_58 := jfrN ew_58 fr_w_57 f_q27
  have x_a_q27 := Nat.ne_of_lt (f_q27 _ _ m_a_w_57)
  have m_a_w_58 := jun ew_58 m_a_w_57 x_a_q27
  refine j_putF C hin d_c_Mo_init_307 ff_Mo_101 m_a_w_58 rfl rfl ?_
  refine jnv (fun w_59 ew_59 => ?_)
  have m_a_w_59 : w_59.1 a = some (.inr (10, (updV (updV (updV (updV (updV (updV (updV (updV (updV (updV (updV (updV (updV (updV (updV (updV (updV (updV (updV (updV (updV (updV (updV (updV (updV (updV (updV (updV V 1 (.ref q1)) 2 (.ref q2)) 3 (.ref q3)) 4 (.ref q4)) 5 (.ref q5)) 6 (.ref q6)) 7 (.ref q7)) 8 (.ref q8)) 9 (.ref q9)) 10 (.ref q10)) 11 (.ref q11)) 12 (.ref q12)) 13 (.ref q13)) 14 (.ref q14)) 15 (.ref q15)) 16 (.ref q16)) 17 (.ref q17)) 18 (.ref q18)) 19 (.ref q19)) 20 (.ref q20)) 21 (.ref q21)) 32 (.ref q22)) 37 (.int (-1))) 38 (.ref q23)) 39 (.ref q24)) 40 (.ref q25)) 41 (.ref q26)) 42 (.ref q27)))) := jus ew_59
  have hk_w_59 := jk0 ew_59 hk_w_58
  have fr_w_59 := jfrW ew_59 fr_w_58 (fun b e hb _ => hb)
  refine j_blk 312 [(1, .int 0), (0, .ref a)] [] C k_c_Mo_init_310_2 rfl ?_
  have m_q21_w_42 := jun ew_42 m_q21_w_41 (Ne.symm x_a_q21)
  have x_q21_q22 := Nat.ne_of_lt (f_q22 _ _ m_q21_w_42)
  have m_q21_w_43 := jun ew_43 m_q21_w_42 x_q21_q22
  have m_q21_w_44 := jun ew_44 m_q21_w_43 (Ne.symm x_a_q21)
  have m_q21_w_45 := jun ew_45 m_q21_w_44 (Ne.symm x_a_q21)
  have x_q21_q23 := Nat.ne_of_lt (f_q23 _ _ m_q21_w_45)
  have m_q21_w_46 := jun ew_46 m_q21_w_45 x_q21_q23
  have m_q21_w_47 := jun ew_47 m_q21_w_46 (Ne.symm x_a_q21)
  have x_q21_q24 := Nat.ne_of_lt (f_q24 _ _ m_q21_w_47)
  have m_q21_w_48 := jun ew_48 m_q21_w_47 x_q21_q24
  have m_q21_w_49 := jun ew_49 m_q21_w_48 x_q21_q24
  have m_q21_w_50 := jun ew_50 m_q21_w_49 x_q21_q24
  have m_q21_w_51 := jun ew_51 m_q21_w_50 x_q21_q24
  have m_q21_w_52 := jun ew_52 m_q21_w_51 x_q21_q24
  have m_q21_w_53 := jun ew_53 m_q21_w_52 (Ne.symm x_a_q21)
  have x_q21_q25 := Nat.ne_of_lt (f_q25 _ _ m_q21_w_53)
  have m_q21_w_54 := jun ew_54 m_q21_w_53 x_q21_q25
  have m_q21_w_55 := jun ew_55 m_q21_w_54 (Ne.symm x_a_q21)
  have m_q21_w_56 := jm2p ew_56 f_q26 m_q21_w_55
  have m_q21_w_57 := jun ew_57 m_q21_w_56 (Ne.symm x_a_q21)
  have x_q21_q27 := Nat.ne_of_lt (f_q27 _ _ m_q21_w_57)
  have m_q21_w_58 := jun ew_58 m_q21_w_57 x_q21_q27
  have m_q21_w_59 := jun ew_59 m_q21_w_58 (Ne.symm x_a_q21)
  have m_q17_w_34 := jun ew_34 m_q17_w_33 (Ne.symm x_a_q17)
  have m_q17_w_35 := jm2p ew_35 f_q18 m_q17_w_34
  have m_q17_w_36 := jun ew_36 m_q17_w_35 (Ne.symm x_a_q17)
  have m_q17_w_37 := jm2p ew_37 f_q19 m_q17_w_36
  have m_q17_w_38 := jun ew_38 m_q17_w_37 (Ne.symm x_a_q17)
  have m_q17_w_39 := jm3p ew_39 f_q20 m_q17_w_38
  have m_q17_w_40 := jun ew_40 m_q17_w_39 (Ne.symm x_a_q17)
  have x_q17_q21 := Nat.ne_of_lt (f_q21 _ _ m_q17_w_40)
  have m_q17_w_41 := jun ew_41 m_q17_w_40 x_q17_q21
  have m_q17_w_42 := jun ew_42 m_q17_w_41 (Ne.symm x_a_q17)
  have x_q17_q22 := Nat.ne_of_lt (f_q22 _ _ m_q17_w_42)
  have m_q17_w_43 := jun ew_43 m_q17_w_42 x_q17_q22
  have m_q17_w_44 := jun ew_44 m_q17_w_43 (Ne.symm x_a_q17)
  have m_q17_w_45 := jun ew_45 m_q17_w_44 (Ne.symm x_a_q17)
  have x_q17_q23 := Nat.ne_of_lt (f_q23 _ _ m_q17_w_45)
  have m_q17_w_46 := jun ew_46 m_q17_w_45 x_q17_q23
  have m_q17_w_47 := jun ew_47 m_q17_w_46 (Ne.symm x_a_q17)
  have x_q17_q24 := Nat.ne_of_lt (f_q24 _ _ m_q17_w_47)
  have m_q17_w_48 := jun ew_48 m_q17_w_47 x_q17_q24
  have m_q17_w_49 := jun ew_49 m_q17_w_48 x_q17_q24
  have m_q17_w_50 := jun ew_50 m_q17_w_49 x_q17_q24
  have m_q17_w_51 := jun ew_51 m_q17_w_50 x_q17_q24
  have m_q17_w_52 := jun ew_52 m_q17_w_51 x_q17_q24
  have m_q17_w_53 := jun ew_53 m_q17_w_52 (Ne.symm x_a_q17)
  have x_q17_q25 := Nat.ne_of_lt (f_q25 _ _ m_q17_w_53)
  have m_q17_w_54 := jun ew_54 m_q17_w_53 x_q17_q25
  have m_q17_w_55 := jun ew_55 m_q17_w_54 (Ne.symm x_a_q17)
  have m_q17_w_56 := jm2p ew_56 f_q26 m_q17_w_55
  have m_q17_w_57 := jun ew_57 m_q17_w_56 (Ne.symm x_a_q17)
  have x_q17_q27 := Nat.ne_of_lt (f_q27 _ _ m_q17_w_57)
  have m_q17_w_58 := jun ew_58 m_q17_w_57 x_q17_q27
  have m_q17_w_59 := jun ew_59 m_q17_w_58 (Ne.symm x_a_q17)
  have m_q23_w_47 := jun ew_47 m_q23_w_46 (Ne.symm x_a_q23)
  have x_q23_q24 := Nat.ne_of_lt (f_q24 _ _ m_q23_w_47)
  have m_q23_w_48 := jun ew_48 m_q23_w_47 x_q23_q24
  have m_q23_w_49 := jun ew_49 m_q23_w_48 x_q23_q24
  have m_q23_w_50 := jun ew_50 m_q23_w_49 x_q23_q24
  have m_q23_w_51 := jun ew_51 m_q23_w_50 x_q23_q24
  have m_q23_w_52 := jun ew_52 m_q23_w_51 x_q23_q24
  have m_q23_w_53 := jun ew_53 m_q23_w_52 (Ne.symm x_a_q23)
  have x_q23_q25 := Nat.ne_of_lt (f_q25 _ _ m_q23_w_53)
  have m_q23_w_54 := jun ew_54 m_q23_w_53 x_q23_q25
  have m_q23_w_55 := jun ew_55 m_q23_w_54 (Ne.symm x_a_q23)
  have m_q23_w_56 := jm2p ew_56 f_q26 m_q23_w_55
  have m_q23_w_57 := jun ew_57 m_q23_w_56 (Ne.symm x_a_q23)
  have x_q23_q27 := Nat.ne_of_lt (f_q27 _ _ m_q23_w_57)
  have m_q23_w_58 := jun ew_58 m_q23_w_57 x_q23_q27
  have m_q23_w_59 := jun ew_59 m_q23_w_58 (Ne.symm x_a_q23)
  have m_q24_w_53 := jun ew_53 m_q24_w_52 (Ne.symm x_a_q24)
  have x_q24_q25 := Nat.ne_of_lt (f_q25 _ _ m_q24_w_53)
  have m_q24_w_54 := jun ew_54 m_q24_w_53 x_q24_q25
  have m_q24_w_55 := jun ew_55 m_q24_w_54 (Ne.symm x_a_q24)
  have m_q24_w_56 := jm2p ew_56 f_q26 m_q24_w_55
  have m_q24_w_57 := jun ew_57 m_q24_w_56 (Ne.symm x_a_q24)
  have x_q24_q27 := Nat.ne_of_lt (f_q27 _ _ m_q24_w_57)
  have m_q24_w_58 := jun ew_58 m_q24_w_57 x_q24_q27
  have m_q24_w_59 := jun ew_59 m_q24_w_58 (Ne.symm x_a_q24)
  have m_q25_w_55 := jun ew_55 m_q25_w_54 (Ne.symm x_a_q25)
  have m_q25_w_56 := jm2p ew_56 f_q26 m_q25_w_55
  have m_q25_w_57 := jun ew_57 m_q25_w_56 (Ne.symm x_a_q25)
  have x_q25_q27 := Nat.ne_of_lt (f_q27 _ _ m_q25_w_57)
  have m_q25_w_58 := jun ew_58 m_q25_w_57 x_q25_q27
  have m_q25_w_59 := jun ew_59 m_q25_w_58 (Ne.symm x_a_q25)
  have m_q26_w_57 := jun ew_57 m_q26_w_56 (jneAO m_q26_w_56 m_a_w_56)
  have x_q26_q27 := Nat.ne_of_lt (f_q27 _ _ m_q26_w_57)
  have m_q26_w_58 := jun ew_58 m_q26_w_57 x_q26_q27
  have m_q26_w_59 := jun ew_59 m_q26_w_58 (jneAO m_q26_w_58 m_a_w_58)
  have m_q22_w_44 := jun ew_44 m_q22_w_43 (Ne.symm x_a_q22)
  have m_q22_w_45 := jun ew_45 m_q22_w_44 (Ne.symm x_a_q22)
  have x_q22_q23 := Nat.ne_of_lt (f_q23 _ _ m_q22_w_45)
  have m_q22_w_46 := jun ew_46 m_q22_w_45 x_q22_q23
  have m_q22_w_47 := jun ew_47 m_q22_w_46 (Ne.symm x_a_q22)
  have x_q22_q24 := Nat.ne_of_lt (f_q24 _ _ m_q22_w_47)
  have m_q22_w_48 := jun ew_48 m_q22_w_47 x_q22_q24
  have m_q22_w_49 := jun ew_49 m_q22_w_48 x_q22_q24
  have m_q22_w_50 := jun ew_50 m_q22_w_49 x_q22_q24
  have m_q22_w_51 := jun ew_51 m_q22_w_50 x_q22_q24
  have m_q22_w_52 := jun ew_52 m_q22_w_51 x_q22_q24
  have m_q22_w_53 := jun ew_53 m_q22_w_52 (Ne.symm x_a_q22)
  have x_q22_q25 := Nat.ne_of_lt (f_q25 _ _ m_q22_w_53)
  have m_q22_w_54 := jun ew_54 m_q22_w_53 x_q22_q25
  have m_q22_w_55 := jun ew_55 m_q22_w_54 (Ne.symm x_a_q22)
  have m_q22_w_56 := jm2p ew_56 f_q26 m_q22_w_55
  have m_q22_w_57 := jun ew_57 m_q22_w_56 (Ne.symm x_a_q22)
  have x_q22_q27 := Nat.ne_of_lt (f_q27 _ _ m_q22_w_57)
  have m_q22_w_58 := jun ew_58 m_q22_w_57 x_q22_q27
  have m_q22_w_59 := jun ew_59 m_q22_w_58 (Ne.symm x_a_q22)
  have r56_q26 : ∀ j, j < 4 → w_57.1 (q26 + 1 + j) = some (aI D 40 (fun _ => 0)) := fun j hj => jun ew_57 (r_q26 j hj) (jneAO (r_q26 j hj) m_a_w_56)
  have r57_q26 : ∀ j, j < 4 → w_58.1 (q26 + 1 + j) = some (aI D 40 (fun _ => 0)) := fun j hj => jun ew_58 (r56_q26 j hj) (Nat.ne_of_lt (f_q27 _ _ (r56_q26 j hj)))
  have r58_q26 : ∀ j, j < 4 → w_59.1 (q26 + 1 + j) = some (aI D 40 (fun _ => 0)) := fun j hj => jun ew_59 (r57_q26 j hj) (jneAO (r57_q26 j hj) m_a_w_58)
  have lp : ∀ (n k : Nat) (w1 : jW) (F : Nat → Option Nat), k ≤ 200 → 200 < k + n → w1.1 q22 = some (aR D 11 200 F) → jfr (fun b => b ≠ q22) w_59 w1 → (w1.2.1 = w.2.1 + (187 + 3 * k) ∧ w1.2.2 = w.2.2 + (6430 + 605 * k)) → JJ g w1 312 [(1, .int (nI k)), (0, .ref a)] [] := by
    intro n
    induction n with
    | zero => intro k w1 F h1 h2; exact absurd h2 (Nat.not_lt.mpr h1)
    | succ n ih =>
      intro k w1 F hk1 hk2 hF hfr hc1
      have hcz : w1.2.1 = w.2.1 + (187 + 3 * k + 0) ∧ w1.2.2 = w.2.2 + (6430 + 605 * k + 0) := hc1
      refine j_blk 316 [(1, .int (nI k)), (0, .ref a)] [.int 200, .int (nI k)] C k_c_Mo_init_312_2 rfl ?_
      refine j_icmp_ge (tgt := 338) C d_c_Mo_init_316 (by decide) (fun c28 => ?_) (fun c28 => ?_)
      · have hk : k = 200 := jl_eq c28 hk1
        subst hk
        have fo := jfrT fr_w_59 hfr (fun b e _ he => Nat.ne_of_lt (lt_q22 b _ he))
        have m_a_w1 := (hfr _ _ m_a_w_59).1 x_a_q22
        have m_q21_w1 := (hfr _ _ m_q21_w_59).1 x_q21_q22
        have m_q17_w1 := (hfr _ _ m_q17_w_59).1 x_q17_q22
        have m_q23_w1 := (hfr _ _ m_q23_w_59).1 (Ne.symm x_q22_q23)
        have m_q24_w1 := (hfr _ _ m_q24_w_59).1 (Ne.symm x_q22_q24)
        have m_q25_w1 := (hfr _ _ m_q25_w_59).1 (Ne.symm x_q22_q25)
        have m_q26_w1 := (hfr _ _ m_q26_w_59).1 (jneN m_q26_w_59 m_q22_w_59 rfl)
        have hrows : ∀ j, j < 4 → w1.1 (q26 + 1 + j) = some (aI D 40 (fun _ => 0)) := fun j hj => (hfr _ _ (r58_q26 j hj)).1 (jneIJ (r58_q26 j hj) m_q22_w_59)
        exact j_vret C Rm E d_c_Mo_init_338 ⟨rfl, ⟨hc1.1, hc1.2⟩, fo, _, q1, q2, q3, q4, q5, q6, q7, q8, q9, q10, q11, q12, q13, q14, q15, q16, q17, q18, q19, q20, q21, q22, q23, q24, q25, q26, q27, (upd (upd (upd (upd (fun _ => 0) 0 (-1)) 1 (-1)) 2 (-1)) 3 (-1)), lt_q1, lt_q2, lt_q3, lt_q4, lt_q5, lt_q6, lt_q7, lt_q8, lt_q9, lt_q10, lt_q11, lt_q12, lt_q13, lt_q14, lt_q15, lt_q16, lt_q17, lt_q18, lt_q19, lt_q20, lt_q21, lt_q22, lt_q23, lt_q24, lt_q25, lt_q26, lt_q27, m_a_w1, rfl, rfl, rfl, rfl, rfl, rfl, rfl, rfl, rfl, rfl, rfl, rfl, rfl, rfl, rfl, rfl, rfl, rfl, rfl, rfl, rfl, rfl, rfl, rfl, rfl, rfl, rfl, rfl, rfl, rfl, rfl, rfl, rfl, rfl, rfl, rfl, rfl, rfl, rfl, rfl, rfl, rfl, rfl, m_q21_w1, m_q17_w1, m_q23_w1, m_q24_w1, fun j hj => by match j, hj with | 0, _ => rfl | 1, _ => rfl | 2, _ => rfl | 3, _ => rfl, m_q25_w1, m_q26_w1, hrows, x_q24_q25, x_q17_q23⟩ (jbnd hc1.1 rfl) (jbnd hc1.2 rfl)
      · refine j_blk 320 [(1, .int (nI k)), (0, .ref a)] [.ref a] C k_c_Mo_init_319_1 rfl ?_
        have m_a_w1 := (hfr _ _ m_a_w_59).1 x_a_q22
        refine j_get C d_c_Mo_init_320 fg_Mo_81 m_a_w1 rfl ?_
        refine j_blk 324 [(1, .int (nI k)), (0, .ref a)] [.int (nI k), .ref q22] C k_c_Mo_init_323_1 rfl ?_
        refine j_new C Rm d_c_Mo_init_324 nw_Mo_79 (jl_r 199 (Nat.le_of_lt_succ (jl_lt c28 hk1)) hcz.1 rfl) (jl_r 199 (Nat.le_of_lt_succ (jl_lt c28 hk1)) hcz.2 rfl) (fun q29 f_q29 => ?_)
        refine jnv (fun w_60 ew_60 => ?_)
        have m_q29_w_60 : w_60.1 q29 = some (.inr (9, v0_9)) := jus ew_60
        have hk_w_60 := jk1 ew_60 hcz
        have lt_q29 := jfrL hfr f_q29
        have fr_w_60 := jfrN ew_60 hfr f_q29
        refine j_blk 328 [(1, .int (nI k)), (0, .ref a)] [.ref q29, .ref q29, .int (nI k), .ref q22] C k_c_Mo_init_327_1 rfl ?_
        refine j_callIn C Rm Y [] [.ref q29, .int (nI k), .ref q22] (c_Odds_init l D B H0 w_60 q29 v0_9 m_q29_w_60) cl_Mo_104 d_c_Mo_init_328 rfl rfl (Nat.le_of_ble_eq_true rfl) ⟨by decide, by decide⟩ ⟨(jl_r 199 (Nat.le_of_lt_succ (jl_lt c28 hk1)) hk_w_60.1 rfl), (jl_r 199 (Nat.le_of_lt_succ (jl_lt c28 hk1)) hk_w_60.2 rfl)⟩ (fun v30 w_61 pw_61 => ?_)
        obtain ⟨rfl, hc_w_61, G_w_61, V_w_61, q31, q32, ltq31_w_61, ltq32_w_61, mo_w_61, hV0_w_61, hV1_w_61, hV2_w_61, mmq31_w_61, mmq32_w_61⟩ := pw_61
        have hk_w_61 := jkT hk_w_60 hc_w_61
        have lt_q31 := jfrL fr_w_60 ltq31_w_61
        have lt_q32 := jfrL fr_w_60 ltq32_w_61
        have fr_w_61 := jfrT fr_w_60 G_w_61 (fun b _ _ he => Nat.ne_of_lt (lt_q29 b _ he))
        show JJ g w_61 331 [(1, .int (nI k)), (0, .ref a)] [.ref q29, .int (nI k), .ref q22]
        have x_q22_q29 := Nat.ne_of_lt (f_q29 _ _ hF)
        have m_q22_w_60 := jun ew_60 hF x_q22_q29
        have m_q22_w_61 := (G_w_61 _ _ m_q22_w_60).1 x_q22_q29
        refine j_aast C d_c_Mo_init_331 (by rfl) (by rfl) m_q22_w_61 mo_w_61 (vp_in_nI (jl_lt c28 hk1) (by decide)) ?_
        refine jnv (fun w_62 ew_62 => ?_)
        have m_q22_w_62 : w_62.1 q22 = some (aR D 11 200 (va_up F (Int32.toNatClampNeg (nI k)) (some q29))) := jus ew_62
        have hk_w_62 := jk0 ew_62 hk_w_61
        have fr_w_62 := jfrW ew_62 fr_w_61 (fun b e hb _ => hb)
        refine j_blk 312 [(1, .int ((nI k) + 1)), (0, .ref a)] [] C k_c_Mo_init_332_2 rfl ?_
        rw [nI_1]
        exact ih (k + 1) w_62 _ (jl_lt c28 hk1) (jl_fu hk2) m_q22_w_62 fr_w_62 ⟨jl_c 187 3 k hk_w_62.1, jl_c 6430 605 k hk_w_62.2⟩
  have hB := hk_w_59
  exact lp 201 0 w_59 _ (by decide) (by decide) m_q22_w_59 jfr0 ⟨hB.1, hB.2⟩
