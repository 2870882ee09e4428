/-! methods of the JDK that the reference calls (own work, by program) -/
def y_JI_numberOfTrailingZeros : MethodName := ⟨"java/lang/Integer", "numberOfTrailingZeros", "(I)I"⟩
abbrev b_JI_numberOfTrailingZeros : ByteArray := prog_14_method_48_code
theorem jb_JI_numberOfTrailingZeros : jcB y_JI_numberOfTrailingZeros b_JI_numberOfTrailingZeros 2 (some .int) 1 := ⟨jmem 119 (by decide +kernel) rfl, jmem 1412 (by decide +kernel) rfl, ⟨by decide +kernel, by decide +kernel⟩, by decide +kernel⟩
def y_JL_numberOfTrailingZeros : MethodName := ⟨"java/lang/Long", "numberOfTrailingZeros", "(J)I"⟩
abbrev b_JL_numberOfTrailingZeros : ByteArray := prog_15_method_49_code
theorem jb_JL_numberOfTrailingZeros : jcB y_JL_numberOfTrailingZeros b_JL_numberOfTrailingZeros 3 (some .int) 1 := ⟨jmem 122 (by decide +kernel) rfl, jmem 1545 (by decide +kernel) rfl, ⟨by decide +kernel, by decide +kernel⟩, by decide +kernel⟩
def y_Str_indexOf_0 : MethodName := ⟨"java/lang/String", "indexOf", "(I)I"⟩
abbrev b_Str_indexOf_0 : ByteArray := prog_17_method_79_code
theorem jb_Str_indexOf_0 : jcB y_Str_indexOf_0 b_Str_indexOf_0 2 (some .int) 1 := ⟨jmem 114 (by decide +kernel) rfl, jmem 1298 (by decide +kernel) rfl, ⟨by decide +kernel, by decide +kernel⟩, by decide +kernel⟩
def y_Str_indexOf_1 : MethodName := ⟨"java/lang/String", "indexOf", "(II)I"⟩
abbrev b_Str_indexOf_1 : ByteArray := prog_17_method_80_code
theorem jb_Str_indexOf_1 : jcB y_Str_indexOf_1 b_Str_indexOf_1 3 (some .int) 2 := ⟨jmem 114 (by decide +kernel) rfl, jmem 1302 (by decide +kernel) rfl, ⟨by decide +kernel, by decide +kernel⟩, by decide +kernel⟩
def y_L1_canEncode : MethodName := ⟨"java/lang/StringLatin1", "canEncode", "(I)Z"⟩
abbrev b_L1_canEncode : ByteArray := prog_18_method_4_code
theorem jb_L1_canEncode : jcB y_L1_canEncode b_L1_canEncode 1 (some .boolean) 1 := ⟨jmem 115 (by decide +kernel) rfl, jmem 1309 (by decide +kernel) rfl, ⟨by decide +kernel, by decide +kernel⟩, by decide +kernel⟩
def y_L1_indexOf : MethodName := ⟨"java/lang/StringLatin1", "indexOf", "([BIII)I"⟩
abbrev b_L1_indexOf : ByteArray := prog_18_method_22_code
theorem jb_L1_indexOf : jcB y_L1_indexOf b_L1_indexOf 4 (some .int) 4 := ⟨jmem 115 (by decide +kernel) rfl, jmem 1306 (by decide +kernel) rfl, ⟨by decide +kernel, by decide +kernel⟩, by decide +kernel⟩
def y_L1_indexOfChar : MethodName := ⟨"java/lang/StringLatin1", "indexOfChar", "([BIII)I"⟩
abbrev b_L1_indexOfChar : ByteArray := prog_18_method_23_code
theorem jb_L1_indexOfChar : jcB y_L1_indexOfChar b_L1_indexOfChar 6 (some .int) 4 := ⟨jmem 115 (by decide +kernel) rfl, jmem 1314 (by decide +kernel) rfl, ⟨by decide +kernel, by decide +kernel⟩, by decide +kernel⟩
theorem cl_JL_311 : jcS "java/lang/Long" 311 y_JI_numberOfTrailingZeros b_JI_numberOfTrailingZeros 2 (some .int) 1 := ⟨jb_JI_numberOfTrailingZeros, jmem 1411 (by decide +kernel) rfl, jmem 1546 (by decide +kernel) rfl⟩
theorem cl_Str_633 : jcV "java/lang/String" 633 y_Str_indexOf_1 b_Str_indexOf_1 3 (some .int) 2 := ⟨jb_Str_indexOf_1, jmem 1300 (by decide +kernel) rfl, jmem 1301 (by decide +kernel) rfl, jmem 1299 (by decide +kernel) rfl⟩
theorem cl_Str_505 : jcV "java/lang/String" 505 y_Str_length b_Str_length 1 (some .int) 0 := ⟨jb_Str_length, jmem 500 (by decide +kernel) rfl, jmem 501 (by decide +kernel) rfl, jmem 1303 (by decide +kernel) rfl⟩
theorem cl_Str_637 : jcS "java/lang/String" 637 y_L1_indexOf b_L1_indexOf 4 (some .int) 4 := ⟨jb_L1_indexOf, jmem 1305 (by decide +kernel) rfl, jmem 1304 (by decide +kernel) rfl⟩
theorem cl_L1_88 : jcS "java/lang/StringLatin1" 88 y_L1_canEncode b_L1_canEncode 1 (some .boolean) 1 := ⟨jb_L1_canEncode, jmem 1308 (by decide +kernel) rfl, jmem 1307 (by decide +kernel) rfl⟩
theorem cl_L1_95 : jcS "java/lang/StringLatin1" 95 y_L1_indexOfChar b_L1_indexOfChar 6 (some .int) 4 := ⟨jb_L1_indexOfChar, jmem 1313 (by decide +kernel) rfl, jmem 1312 (by decide +kernel) rfl⟩
theorem cl_L1_92 : jcM "java/lang/StringLatin1" 92 Lib.Math.max.name Lib.Math.max.code := ⟨jmem 1310 (by decide +kernel) rfl, jmem 651 (by decide +kernel) rfl, jmem 113 (by decide +kernel) rfl, jmem 652 (by decide +kernel) rfl⟩
theorem cl_L1_38 : jcM "java/lang/StringLatin1" 38 Lib.Math.min.name Lib.Math.min.code := ⟨jmem 1311 (by decide +kernel) rfl, jmem 461 (by decide +kernel) rfl, jmem 113 (by decide +kernel) rfl, jmem 462 (by decide +kernel) rfl⟩
theorem cl_Mo_119 : jcV "ChanceStepsModel" 119 y_Str_length b_Str_length 1 (some .int) 0 := ⟨jb_Str_length, jmem 500 (by decide +kernel) rfl, jmem 501 (by decide +kernel) rfl, jmem 1287 (by decide +kernel) rfl⟩
theorem cl_Mo_131 : jcV "ChanceStepsModel" 131 y_Str_charAt b_Str_charAt 2 (some .char) 1 := ⟨jb_Str_charAt, jmem 510 (by decide +kernel) rfl, jmem 511 (by decide +kernel) rfl, jmem 1288 (by decide +kernel) rfl⟩
theorem cl_Mo_170 : jcV "ChanceStepsModel" 170 y_Str_indexOf_0 b_Str_indexOf_0 2 (some .int) 1 := ⟨jb_Str_indexOf_0, jmem 1296 (by decide +kernel) rfl, jmem 1297 (by decide +kernel) rfl, jmem 1295 (by decide +kernel) rfl⟩
theorem cl_Mo_235 : jcS "ChanceStepsModel" 235 y_JI_numberOfTrailingZeros b_JI_numberOfTrailingZeros 2 (some .int) 1 := ⟨jb_JI_numberOfTrailingZeros, jmem 1411 (by decide +kernel) rfl, jmem 1410 (by decide +kernel) rfl⟩
theorem cl_Mo_342 : jcS "ChanceStepsModel" 342 y_JL_numberOfTrailingZeros b_JL_numberOfTrailingZeros 3 (some .int) 1 := ⟨jb_JL_numberOfTrailingZeros, jmem 1544 (by decide +kernel) rfl, jmem 1543 (by decide +kernel) rfl⟩
theorem ld_JI_264 : Cond.constant "java/lang/Integer" 264 65536 ∈ jwd := jmem 1413 (by decide +kernel) rfl
theorem iXor_r (x y : Int) : -2147483648 ≤ iXor x y ∧ iXor x y ≤ 2147483647 := ⟨jlo _, by have := jhi (Int32.ofInt x ^^^ Int32.ofInt y); unfold iXor; omega⟩
theorem iAnd_r (x y : Int) : -2147483648 ≤ iAnd x y ∧ iAnd x y ≤ 2147483647 := ⟨jlo _, by have := jhi (Int32.ofInt x &&& Int32.ofInt y); unfold iAnd; omega⟩
theorem iOr_r (x y : Int) : -2147483648 ≤ iOr x y ∧ iOr x y ≤ 2147483647 := ⟨jlo _, by have := jhi (Int32.ofInt x ||| Int32.ofInt y); unfold iOr; omega⟩
theorem iShl_r (x y : Int) : -2147483648 ≤ iShl x y ∧ iShl x y ≤ 2147483647 := ⟨jlo _, by have := jhi (Int32.ofInt x <<< (Int32.ofInt y &&& 31)); unfold iShl; omega⟩
theorem iShr_r (x y : Int) : -2147483648 ≤ iShr x y ∧ iShr x y ≤ 2147483647 := ⟨jlo _, by have := jhi (Int32.ofInt x >>> (Int32.ofInt y &&& 31)); unfold iShr; omega⟩
theorem iUsh_r (x y : Int) : -2147483648 ≤ iUsh x y ∧ iUsh x y ≤ 2147483647 := ⟨jlo _, by have := jhi ((Int32.ofInt x).toUInt32 >>> ((Int32.ofInt y).toUInt32 &&& Int32.toUInt32 31)).toInt32; unfold iUsh; omega⟩
theorem iByt_r (x : Int) : -2147483648 ≤ iByt x ∧ iByt x ≤ 2147483647 := ⟨jlo _, by have := jhi ((Int32.ofInt x).toInt8.toInt32); unfold iByt; omega⟩
/-- a number within its range, for another of the same bits -/
theorem m_nrm {g : jG} {D : va_G} {ad : mAd} {w0 : jW} {A : mA} {pc : Nat} {L : List (Nat × mV)} {st : List mV} {z : Int} (kk : ∀ z' : Int, -2147483648 ≤ z' ∧ z' ≤ 2147483647 → JM g D ad w0 A pc L (vi z' :: st)) : JM g D ad w0 A pc L (vi z :: st) := fun w hw hr => by
  have k := kk (Int32.ofInt z).toInt ⟨jlo _, by have := jhi (Int32.ofInt z); omega⟩ w hw hr
  have e : mc ad (vi (Int32.ofInt z).toInt) = mc ad (vi z) := congrArg Value.int (Int32.ofInt_toInt _)
  rw [mSt, List.map_cons, e] at k
  exact k
theorem m_lushr {g : jG} {D : va_G} {ad : mAd} {w0 : jW} {A : mA} {cc : ByteArray} {nL pc : Nat} {own : String} {L : List (Nat × mV)} {st : List mV} (C : jX g cc nL own D) {x y : Int} (hd : decode cc pc = .ok (.lushr, 1)) (kk : ∀ z : Int, JM g D ad w0 A (pc + 1) L (vl z :: st)) : JM g D ad w0 A pc L (vi y :: vl x :: st) := fun w hw hr => by
  have k := kk ((Int64.ofInt x).toUInt64 >>> ((Int32.ofInt y).toInt64.toUInt64 &&& Int64.toUInt64 63)).toInt64.toInt w hw hr
  have e : mc ad (vl ((Int64.ofInt x).toUInt64 >>> ((Int32.ofInt y).toInt64.toUInt64 &&& Int64.toUInt64 63)).toInt64.toInt) = .long ((Int64.ofInt x).toUInt64 >>> ((Int32.ofInt y).toInt64.toUInt64 &&& Int64.toUInt64 63)).toInt64 := congrArg Value.long (Int64.ofInt_toInt _)
  rw [mSt, List.map_cons, e] at k
  obtain ⟨⟨hx, hb, -⟩, rfl, -⟩ := C
  exact fun H locs ls h1 h2 h3 h4 h5 => lv_lushr hx hb hd rfl (k H locs ls h1 h2 h3 h4 h5)
/-- String.indexOf(int) of a constant: some number -/
def jany (w : jW) : Option Value → jW → Prop := fun v w9 => (∃ z : Int32, v = some (.int z)) ∧ w9 = w
theorem c_L1_canEncode (l : Launch) (D : va_G) (B : Nat) (H0 : Heap) (w : jW) (x : Int32) : jMet l D B H0 y_L1_canEncode b_L1_canEncode 1 (some .boolean) 0 0 0 0 [.int x] w (fun v w9 => (v = some (.int 0) ∨ v = some (.int 1)) ∧ w9 = w) := by
  refine j_met (by decide) (Nat.le_of_ble_eq_true rfl) (fun g C Rm Y E => ?_)
  show JJ g w 0 [(0, .int x)] []
  refine j_blk (b := [(0, .iload_n 0, .null)]) 1 [(0, .int x)] [.int x] C (sblk_of (by decide +kernel)) rfl ?_
  refine j_if_lt (off := 14) (tgt := 15) C (by decide +kernel) (by decide) (fun _ => ?_) (fun _ => ?_)
  · refine j_blk (b := [(15, .iconst 0, .int 0)]) 16 [(0, .int x)] [.int 0] C (sblk_of (by decide +kernel)) rfl ?_
    exact j_zret C Rm E rfl (by decide +kernel) ⟨Or.inl rfl, rfl⟩ (Nat.le_refl _) (Nat.le_refl _)
  · refine j_blk (b := [(4, .iload_n 0, .null), (5, .sipush 255, .int 255)]) 8 [(0, .int x)] [.int 255, .int x] C (sblk_of (by decide +kernel)) rfl ?_
    refine j_icmp_gt (off := 7) (tgt := 15) C (by decide +kernel) (by decide) (fun _ => ?_) (fun _ => ?_)
    · refine j_blk (b := [(15, .iconst 0, .int 0)]) 16 [(0, .int x)] [.int 0] C (sblk_of (by decide +kernel)) rfl ?_
      exact j_zret C Rm E rfl (by decide +kernel) ⟨Or.inl rfl, rfl⟩ (Nat.le_refl _) (Nat.le_refl _)
    · refine j_blk (b := [(11, .iconst 1, .int 1), (12, .goto 4, .retAddr 16)]) 16 [(0, .int x)] [.int 1] C (sblk_of (by decide +kernel)) rfl ?_
      exact j_zret C Rm E rfl (by decide +kernel) ⟨Or.inr rfl, rfl⟩ (Nat.le_refl _) (Nat.le_refl _)
theorem c_L1_indexOfChar (l : Launch) (D : va_G) (B : Nat) (H0 : Heap) (w : jW) (i : Nat) (hi : i < 13) (x : Int32) : jMet l D B H0 y_L1_indexOfChar b_L1_indexOfChar 6 (some .int) 0 0 0 0 [.ref (jsV D i), .int x, .int 0, .int (nI (jlen.getD i 0))] w (jany w) := by
  have hn : jlen.getD i 0 < 20 := by
    have : ∀ i, i < 13 → jlen.getD i 0 < 20 := by decide
    exact this i hi
  refine j_met (by decide) (Nat.le_of_ble_eq_true rfl) (fun g C Rm Y E => ?_)
  show JJ g w 0 [(0, .ref (jsV D i)), (1, .int x), (2, .int 0), (3, .int (nI (jlen.getD i 0)))] []
  have hd : ∀ (N k : Nat), jlen.getD i 0 < k + N → k ≤ jlen.getD i 0 → JJ g w 7 [(5, .int (nI k)), (4, .int x.toInt8.toInt32), (0, .ref (jsV D i)), (3, .int (nI (jlen.getD i 0)))] [] := by
    intro N
    induction N with
    | zero => intro k h1 h2; exact absurd h1 (by omega)
    | succ N ih =>
      intro k h1 h2
      have k3 : (nI k).toInt = (k : Int) := nI_toInt (by omega)
      have l3 : (nI (jlen.getD i 0)).toInt = ((jlen.getD i 0 : Nat) : Int) := nI_toInt (by omega)
      refine j_blk (b := [(7, .iload 5, .null), (9, .iload_n 3, .null)]) 10 [(5, .int (nI k)), (4, .int x.toInt8.toInt32), (0, .ref (jsV D i)), (3, .int (nI (jlen.getD i 0)))] [.int (nI (jlen.getD i 0)), .int (nI k)] C (sblk_of (by decide +kernel)) rfl ?_
      refine j_icmp_ge (off := 21) (tgt := 31) C (by decide +kernel) (by decide) (fun _ => ?_) (fun h => ?_)
      · refine j_blk (b := [(31, .iconst (-1), .int (-1))]) 32 [(5, .int (nI k)), (4, .int x.toInt8.toInt32), (0, .ref (jsV D i)), (3, .int (nI (jlen.getD i 0)))] [.int (-1)] C (sblk_of (by decide +kernel)) rfl ?_
        exact j_iret C Rm E (by decide +kernel) ⟨⟨_, rfl⟩, rfl⟩ (Nat.le_refl _) (Nat.le_refl _)
      · rw [jle, k3, l3] at h
        refine j_blk (b := [(13, .aload_n 0, .null), (14, .iload 5, .null)]) 16 [(5, .int (nI k)), (4, .int x.toInt8.toInt32), (0, .ref (jsV D i)), (3, .int (nI (jlen.getD i 0)))] [.int (nI k), .ref (jsV D i)] C (sblk_of (by decide +kernel)) rfl ?_
        refine j_baldK C hi (vp_in_nI (by omega) (by omega)) (by decide +kernel) ?_
        refine j_blk (b := [(17, .iload 4, .null)]) 19 [(5, .int (nI k)), (4, .int x.toInt8.toInt32), (0, .ref (jsV D i)), (3, .int (nI (jlen.getD i 0)))] [.int x.toInt8.toInt32, .int ((jbyt.getD i []).getD (Int32.toNatClampNeg (nI k)) 0)] C (sblk_of (by decide +kernel)) rfl ?_
        refine j_icmp_ne (off := 6) (tgt := 25) C (by decide +kernel) (by decide) (fun _ => ?_) (fun _ => ?_)
        · refine j_blk (b := [(25, .iinc 5 1, .int 1), (28, .goto (-21), .retAddr 7)]) 7 [(5, .int (nI k + 1)), (4, .int x.toInt8.toInt32), (0, .ref (jsV D i)), (3, .int (nI (jlen.getD i 0)))] [] C (sblk_of (by decide +kernel)) rfl ?_
          have e : nI k + 1 = nI (k + 1) := by
            have a1 : nI k = Int32.ofInt k := by rw [jeq, k3, iR (by omega)]
            have a2 : nI (k + 1) = Int32.ofInt ((k : Int) + 1) := by rw [jeq, nI_toInt (show k + 1 < 2 ^ 31 by omega), iR (by omega)]; omega
            rw [a1, a2, Int32.ofInt_add]
            rfl
          rw [e]
          exact ih (k + 1) (by omega) (by omega)
        · refine j_blk (b := [(22, .iload 5, .null)]) 24 [(5, .int (nI k)), (4, .int x.toInt8.toInt32), (0, .ref (jsV D i)), (3, .int (nI (jlen.getD i 0)))] [.int (nI k)] C (sblk_of (by decide +kernel)) rfl ?_
          exact j_iret C Rm E (by decide +kernel) ⟨⟨_, rfl⟩, rfl⟩ (Nat.le_refl _) (Nat.le_refl _)
  refine j_blk (b := [(0, .iload_n 1, .null), (1, .i2b, .null), (2, .istore 4, .null), (4, .iload_n 2, .null), (5, .istore 5, .null)]) 7 [(5, .int 0), (4, .int x.toInt8.toInt32), (0, .ref (jsV D i)), (1, .int x), (2, .int 0), (3, .int (nI (jlen.getD i 0)))] [] C (sblk_of (by decide +kernel)) rfl ?_
  refine JJ.loc [(5, .int (nI 0)), (4, .int x.toInt8.toInt32), (0, .ref (jsV D i)), (3, .int (nI (jlen.getD i 0)))] ⟨rfl, rfl, rfl, rfl, trivial⟩ ?_
  exact hd (jlen.getD i 0 + 1) 0 (by omega) (by omega)
theorem c_L1_indexOf (l : Launch) (D : va_G) (B : Nat) (H0 : Heap) (w : jW) (i : Nat) (hi : i < 13) (x : Int32) : jMet l D B H0 y_L1_indexOf b_L1_indexOf 4 (some .int) 1 40 0 0 [.ref (jsV D i), .int x, .int 0, .int (nI (jlen.getD i 0))] w (jany w) := by
  have hn : jlen.getD i 0 < 20 := by
    have : ∀ i, i < 13 → jlen.getD i 0 < 20 := by decide
    exact this i hi
  have l3 : (nI (jlen.getD i 0)).toInt = ((jlen.getD i 0 : Nat) : Int) := nI_toInt (by omega)
  refine j_met (by decide) (Nat.le_of_ble_eq_true rfl) (fun g C Rm Y E => ?_)
  show JJ g w 0 [(0, .ref (jsV D i)), (1, .int x), (2, .int 0), (3, .int (nI (jlen.getD i 0)))] []
  refine j_blk (b := [(0, .iload_n 1, .null)]) 1 [(0, .ref (jsV D i)), (1, .int x), (2, .int 0), (3, .int (nI (jlen.getD i 0)))] [.int x] C (sblk_of (by decide +kernel)) rfl ?_
  refine j_callS (idx := 88) C Rm Y (As := [.int x]) [] (c_L1_canEncode l D B H0 w x) cl_L1_88 (by decide +kernel) rfl rfl (by decide) ⟨by decide, by decide⟩ ⟨Nat.le_refl _, Nat.le_refl _⟩ (fun v w' hp => ?_)
  obtain ⟨hv, rfl⟩ := hp
  rcases hv with rfl | rfl
  · show JJ g w' 4 [(0, .ref (jsV D i)), (1, .int x), (2, .int 0), (3, .int (nI (jlen.getD i 0)))] [.int 0]
    refine j_if_ne (off := 5) (tgt := 9) C (by decide +kernel) (by decide) (fun h => absurd rfl h) (fun _ => ?_)
    refine j_blk (b := [(7, .iconst (-1), .int (-1))]) 8 [(0, .ref (jsV D i)), (1, .int x), (2, .int 0), (3, .int (nI (jlen.getD i 0)))] [.int (-1)] C (sblk_of (by decide +kernel)) rfl ?_
    exact j_iret C Rm E (by decide +kernel) ⟨⟨_, rfl⟩, rfl⟩ (Nat.le_refl _) (Nat.le_refl _)
  · show JJ g w' 4 [(0, .ref (jsV D i)), (1, .int x), (2, .int 0), (3, .int (nI (jlen.getD i 0)))] [.int 1]
    refine j_if_ne (off := 5) (tgt := 9) C (by decide +kernel) (by decide) (fun _ => ?_) (fun h => absurd h (by decide))
    refine j_blk (b := [(9, .iload_n 2, .null), (10, .iconst 0, .int 0)]) 11 [(0, .ref (jsV D i)), (1, .int x), (2, .int 0), (3, .int (nI (jlen.getD i 0)))] [.int 0, .int 0] C (sblk_of (by decide +kernel)) rfl ?_
    refine j_mmax (idx := 92) C Rm cl_L1_92 (by decide +kernel) (by decide) (Nat.le_of_ble_eq_true rfl) (Nat.le_refl _) (Nat.le_refl _) ?_
    rw [if_neg (by decide : ¬ ((0 : Int32) < 0))]
    refine j_blk (b := [(14, .istore_n 2, .null), (15, .iload_n 3, .null), (16, .aload_n 0, .null)]) 17 [(2, .int 0), (0, .ref (jsV D i)), (1, .int x), (3, .int (nI (jlen.getD i 0)))] [.ref (jsV D i), .int (nI (jlen.getD i 0))] C (sblk_of (by decide +kernel)) rfl ?_
    refine j_lenK C hi (by decide +kernel) ?_
    refine j_mmin (idx := 38) C Rm cl_L1_38 (by decide +kernel) (by decide) (Nat.le_of_ble_eq_true rfl) (Nat.le_refl _) (Nat.le_refl _) ?_
    rw [show (if nI (jlen.getD i 0) < nI (jlen.getD i 0) then nI (jlen.getD i 0) else nI (jlen.getD i 0)) = nI (jlen.getD i 0) from by split <;> rfl]
    refine j_blk (b := [(21, .istore_n 3, .null), (22, .iload_n 2, .null), (23, .iload_n 3, .null)]) 24 [(3, .int (nI (jlen.getD i 0))), (2, .int 0), (0, .ref (jsV D i)), (1, .int x)] [.int (nI (jlen.getD i 0)), .int 0] C (sblk_of (by decide +kernel)) rfl ?_
    refine j_icmp_lt (off := 5) (tgt := 29) C (by decide +kernel) (by decide) (fun _ => ?_) (fun _ => ?_)
    · refine j_blk (b := [(29, .aload_n 0, .null), (30, .iload_n 1, .null), (31, .iload_n 2, .null), (32, .iload_n 3, .null)]) 33 [(3, .int (nI (jlen.getD i 0))), (2, .int 0), (0, .ref (jsV D i)), (1, .int x)] [.int (nI (jlen.getD i 0)), .int 0, .int x, .ref (jsV D i)] C (sblk_of (by decide +kernel)) rfl ?_
      refine j_callS (idx := 95) C Rm Y (As := [.ref (jsV D i), .int x, .int 0, .int (nI (jlen.getD i 0))]) [] (c_L1_indexOfChar l D B H0 w' i hi x) cl_L1_95 (by decide +kernel) rfl rfl (by decide) ⟨by decide, by decide⟩ ⟨Nat.le_refl _, Nat.le_refl _⟩ (fun v w9 hp => ?_)
      obtain ⟨⟨z, rfl⟩, rfl⟩ := hp
      show JJ g w9 36 [(3, .int (nI (jlen.getD i 0))), (2, .int 0), (0, .ref (jsV D i)), (1, .int x)] [.int z]
      exact j_iret C Rm E (by decide +kernel) ⟨⟨_, rfl⟩, rfl⟩ (Nat.le_refl _) (Nat.le_refl _)
    · refine j_blk (b := [(27, .iconst (-1), .int (-1))]) 28 [(3, .int (nI (jlen.getD i 0))), (2, .int 0), (0, .ref (jsV D i)), (1, .int x)] [.int (-1)] C (sblk_of (by decide +kernel)) rfl ?_
      exact j_iret C Rm E (by decide +kernel) ⟨⟨_, rfl⟩, rfl⟩ (Nat.le_refl _) (Nat.le_refl _)
theorem c_Str_indexOf2 (l : Launch) (D : va_G) (B : Nat) (H0 : Heap) (w : jW) (i : Nat) (hi : i < 13) (x : Int32) : jMet l D B H0 y_Str_indexOf_1 b_Str_indexOf_1 3 (some .int) 2 80 0 0 [.ref (jsK D i), .int x, .int 0] w (jany w) := by
  refine j_met (by decide) (Nat.le_of_ble_eq_true rfl) (fun g C Rm Y E => ?_)
  show JJ g w 0 [(0, .ref (jsK D i)), (1, .int x), (2, .int 0)] []
  refine j_blk (b := [(0, .aload_n 0, .null)]) 1 [(0, .ref (jsK D i)), (1, .int x), (2, .int 0)] [.ref (jsK D i)] C (sblk_of (by decide +kernel)) rfl ?_
  refine j_callVK (idx := 492) C Rm Y [] [] hi rfl (c_Str_isLatin1 l D B H0 w i hi) cl_Str_492 (by decide +kernel) rfl rfl (by decide) ⟨by decide, by decide⟩ ⟨Nat.le_refl _, Nat.le_refl _⟩ (fun v w' hp => ?_)
  obtain ⟨rfl, rfl⟩ := hp
  show JJ g w' 4 [(0, .ref (jsK D i)), (1, .int x), (2, .int 0)] [.int 1]
  refine j_if_eq (off := 19) (tgt := 23) C (by decide +kernel) (by decide) (fun h => absurd h (by decide)) (fun _ => ?_)
  refine j_blk (b := [(7, .aload_n 0, .null)]) 8 [(0, .ref (jsK D i)), (1, .int x), (2, .int 0)] [.ref (jsK D i)] C (sblk_of (by decide +kernel)) rfl ?_
  refine j_valueK (idx := 9) C hi fl_Str_9 (by decide +kernel) ?_
  refine j_blk (b := [(11, .iload_n 1, .null), (12, .iload_n 2, .null), (13, .aload_n 0, .null)]) 14 [(0, .ref (jsK D i)), (1, .int x), (2, .int 0)] [.ref (jsK D i), .int 0, .int x, .ref (jsV D i)] C (sblk_of (by decide +kernel)) rfl ?_
  refine j_callVK (idx := 505) C Rm Y [] [.int 0, .int x, .ref (jsV D i)] hi rfl (c_Str_length l D B H0 w' i hi) cl_Str_505 (by decide +kernel) rfl rfl (Nat.le_of_ble_eq_true rfl) ⟨by decide, by decide⟩ ⟨Nat.le_refl _, Nat.le_refl _⟩ (fun v w9 hp => ?_)
  obtain ⟨rfl, rfl⟩ := hp
  show JJ g w9 17 [(0, .ref (jsK D i)), (1, .int x), (2, .int 0)] [.int (nI (jlen.getD i 0)), .int 0, .int x, .ref (jsV D i)]
  refine j_callS (idx := 637) C Rm Y (As := [.ref (jsV D i), .int x, .int 0, .int (nI (jlen.getD i 0))]) [] (c_L1_indexOf l D B H0 w9 i hi x) cl_Str_637 (by decide +kernel) rfl rfl (by decide) ⟨by decide, by decide⟩ ⟨Nat.le_refl _, Nat.le_refl _⟩ (fun v w8 hp => ?_)
  obtain ⟨⟨z, rfl⟩, rfl⟩ := hp
  show JJ g w8 20 [(0, .ref (jsK D i)), (1, .int x), (2, .int 0)] [.int z]
  refine j_blk (b := [(20, .goto 16, .retAddr 36)]) 36 [(0, .ref (jsK D i)), (1, .int x), (2, .int 0)] [.int z] C (sblk_of (by decide +kernel)) rfl ?_
  exact j_iret C Rm E (by decide +kernel) ⟨⟨_, rfl⟩, rfl⟩ (Nat.le_refl _) (Nat.le_refl _)
theorem c_Str_indexOf (l : Launch) (D : va_G) (B : Nat) (H0 : Heap) (w : jW) (i : Nat) (hi : i < 13) (x : Int32) : jMet l D B H0 y_Str_indexOf_0 b_Str_indexOf_0 2 (some .int) 3 120 0 0 [.ref (jsK D i), .int x] w (jany w) := by
  refine j_met (by decide) (Nat.le_of_ble_eq_true rfl) (fun g C Rm Y E => ?_)
  show JJ g w 0 [(0, .ref (jsK D i)), (1, .int x)] []
  refine j_blk (b := [(0, .aload_n 0, .null), (1, .iload_n 1, .null), (2, .iconst 0, .int 0)]) 3 [(0, .ref (jsK D i)), (1, .int x)] [.int 0, .int x, .ref (jsK D i)] C (sblk_of (by decide +kernel)) rfl ?_
  refine j_callVK (idx := 633) C Rm Y [.int x, .int 0] [] hi rfl (c_Str_indexOf2 l D B H0 w i hi x) cl_Str_633 (by decide +kernel) rfl rfl (by decide) ⟨by decide, by decide⟩ ⟨Nat.le_refl _, Nat.le_refl _⟩ (fun v w8 hp => ?_)
  obtain ⟨⟨z, rfl⟩, rfl⟩ := hp
  show JJ g w8 6 [(0, .ref (jsK D i)), (1, .int x)] [.int z]
  exact j_iret C Rm E (by decide +kernel) ⟨⟨_, rfl⟩, rfl⟩ (Nat.le_refl _) (Nat.le_refl _)
section MJ
variable {g : jG} {D : va_G} {ad : mAd} {w0 : jW} {A : mA} {cc : ByteArray} {nL pc : Nat} {own : String} {L : List (Nat × mV)} {st : List mV} {l : Launch} {B : Nat} {H0 : Heap} {y0 : MethodName} {rm : Room}
/-- indexOf of a constant, at the reference's site -/
theorem m_index (C : jX g cc nL own D) (Rm : jRm g w0.2.1 w0.2.2 rm) (Y : jY g l B H0 y0) (hS : mStr D ad) {idx i : Nat} {x : Int} (rest : List mV) (hi : i < 13) (hc : jcV own idx y_Str_indexOf_0 b_Str_indexOf_0 2 (some .int) 1) (hd : decode cc pc = .ok (.invokevirtual idx, 3)) (h8 : Nat.ble (mcsum rest) 8 = true) (hR : 3 + 1 ≤ rm.frames ∧ 8 + (2 + 11) + 120 ≤ rm.locals)
    (kk : ∀ z : Int, -2147483648 ≤ z ∧ z ≤ 2147483647 → JM g D ad w0 A (pc + 3) L (vi z :: rest)) : JM g D ad w0 A pc L (vi x :: vr 90 i :: rest) := fun w hw hr => by
  have e : mSt ad (vi x :: vr 90 i :: rest) = ([.int (Int32.ofInt x)] : List Value).reverse ++ .ref (jsK D i) :: mSt ad rest := by
    rw [← hS i hi]
    simp [mSt, mc]
  rw [e]
  refine j_callVK C Rm Y [.int (Int32.ofInt x)] (mSt ad rest) hi rfl (c_Str_indexOf l D B H0 w i hi (Int32.ofInt x)) hc hd rfl rfl (by rw [mcsum_ok]; exact Nat.le_of_ble_eq_true h8) hR (mrm hr Rm) (fun v w' hp => ?_)
  obtain ⟨⟨z, rfl⟩, rfl⟩ := hp
  have k := kk z.toInt ⟨jlo _, by have := jhi z; omega⟩ w' hw hr
  have e2 : mc ad (vi z.toInt) = .int z := congrArg Value.int (Int32.ofInt_toInt _)
  rw [mSt, List.map_cons, e2] at k
  exact k
end MJ

theorem f_q_itz_0_9 : mblkB b_JI_numberOfTrailingZeros [(0, .iload_n 0, vi 0), (1, .iconst (-1), vi (-1)), (2, .ixor, vi 0), (3, .iload_n 0, vi 0), (4, .iconst 1, vi 1), (5, .isub, vi 0), (6, .iand, vi 0), (7, .istore_n 0, vi 0), (8, .iload_n 0, vi 0)] = true := by decide +kernel
theorem e_q_itz_9 : decode b_JI_numberOfTrailingZeros 9 = .ok (.ifCond .gt 8, 3) := by decide +kernel
theorem f_q_itz_17_3 : mblkB b_JI_numberOfTrailingZeros [(17, .iconst 1, vi 1), (18, .istore_n 1, vi 0), (19, .iload_n 0, vi 0)] = true := by decide +kernel
theorem e_q_itz_20 : decode b_JI_numberOfTrailingZeros 20 = .ok (.ldc_w 264, 3) := by decide +kernel
theorem e_q_itz_23 : decode b_JI_numberOfTrailingZeros 23 = .ok (.if_icmp .le 11, 3) := by decide +kernel
theorem f_q_itz_34_2 : mblkB b_JI_numberOfTrailingZeros [(34, .iload_n 0, vi 0), (35, .sipush 256, vi 256)] = true := by decide +kernel
theorem e_q_itz_38 : decode b_JI_numberOfTrailingZeros 38 = .ok (.if_icmp .le 11, 3) := by decide +kernel
theorem f_q_itz_49_2 : mblkB b_JI_numberOfTrailingZeros [(49, .iload_n 0, vi 0), (50, .bipush 16, vi 16)] = true := by decide +kernel
theorem e_q_itz_52 : decode b_JI_numberOfTrailingZeros 52 = .ok (.if_icmp .le 10, 3) := by decide +kernel
theorem f_q_itz_62_2 : mblkB b_JI_numberOfTrailingZeros [(62, .iload_n 0, vi 0), (63, .iconst 4, vi 4)] = true := by decide +kernel
theorem e_q_itz_64 : decode b_JI_numberOfTrailingZeros 64 = .ok (.if_icmp .le 10, 3) := by decide +kernel
theorem f_q_itz_74_5 : mblkB b_JI_numberOfTrailingZeros [(74, .iload_n 1, vi 0), (75, .iload_n 0, vi 0), (76, .iconst 1, vi 1), (77, .iushr, vi 0), (78, .iadd, vi 0)] = true := by decide +kernel
theorem e_q_itz_79 : decode b_JI_numberOfTrailingZeros 79 = .ok (.ireturn, 1) := by decide +kernel
theorem f_q_itz_67_10 : mblkB b_JI_numberOfTrailingZeros [(67, .iinc 1 2, vi 2), (70, .iload_n 0, vi 0), (71, .iconst 2, vi 2), (72, .iushr, vi 0), (73, .istore_n 0, vi 0), (74, .iload_n 1, vi 0), (75, .iload_n 0, vi 0), (76, .iconst 1, vi 1), (77, .iushr, vi 0), (78, .iadd, vi 0)] = true := by decide +kernel
theorem f_q_itz_55_7 : mblkB b_JI_numberOfTrailingZeros [(55, .iinc 1 4, vi 4), (58, .iload_n 0, vi 0), (59, .iconst 4, vi 4), (60, .iushr, vi 0), (61, .istore_n 0, vi 0), (62, .iload_n 0, vi 0), (63, .iconst 4, vi 4)] = true := by decide +kernel
theorem f_q_itz_41_7 : mblkB b_JI_numberOfTrailingZeros [(41, .iinc 1 8, vi 8), (44, .iload_n 0, vi 0), (45, .bipush 8, vi 8), (47, .iushr, vi 0), (48, .istore_n 0, vi 0), (49, .iload_n 0, vi 0), (50, .bipush 16, vi 16)] = true := by decide +kernel
theorem f_q_itz_26_7 : mblkB b_JI_numberOfTrailingZeros [(26, .iinc 1 16, vi 16), (29, .iload_n 0, vi 0), (30, .bipush 16, vi 16), (32, .iushr, vi 0), (33, .istore_n 0, vi 0), (34, .iload_n 0, vi 0), (35, .sipush 256, vi 256)] = true := by decide +kernel
theorem f_q_itz_12_3 : mblkB b_JI_numberOfTrailingZeros [(12, .iload_n 0, vi 0), (13, .bipush 32, vi 32), (15, .iand, vi 0)] = true := by decide +kernel
theorem e_q_itz_16 : decode b_JI_numberOfTrailingZeros 16 = .ok (.ireturn, 1) := by decide +kernel
set_option maxHeartbeats 40000000 in
set_option maxRecDepth 100000 in
theorem q_itz (l : Launch) (D : va_G) (B : Nat) (H0 : Heap) (ad : mAd) (A : mA)  (x : Int) (hx : -2147483648 ≤ x ∧ x ≤ 2147483647)  : mMet l D B H0 ad y_JI_numberOfTrailingZeros b_JI_numberOfTrailingZeros 2 (some .int) 0 0 [vi x] A (fun v9 A9 => ∃ z : Int, v9 = some (vi z) ∧ A = A9 ∧ (-2147483648 ≤ z ∧ z ≤ 2147483647)) := by
  refine m_met (by decide) rfl (fun g w0 C Rm Y E => ?_)
  show JM g D ad w0 A 0 [(0, vi x)] []
  refine m_blk 9 [(0, vi (iAnd (iXor x (-1)) (x - 1)))] [vi (iAnd (iXor x (-1)) (x - 1))] C f_q_itz_0_9 rfl ?_
  refine m_if_gt (tgt := 17) C e_q_itz_9 (by decide) (iAnd_r _ _) (fun c1 => ?_) (fun c1 => ?_)
  · refine m_blk 20 [(1, vi 1), (0, vi (iAnd (iXor x (-1)) (x - 1)))] [vi (iAnd (iXor x (-1)) (x - 1))] C f_q_itz_17_3 rfl ?_
    refine m_ldcw C 65536 e_q_itz_20 ld_JI_264 (by decide) ?_
    refine m_icmp_le (tgt := 34) C e_q_itz_23 (by decide) (iAnd_r _ _) (by decide) (fun c2 => ?_) (fun c2 => ?_)
    · refine m_blk 38 [(1, vi 1), (0, vi (iAnd (iXor x (-1)) (x - 1)))] [vi 256, vi (iAnd (iXor x (-1)) (x - 1))] C f_q_itz_34_2 rfl ?_
      refine m_icmp_le (tgt := 49) C e_q_itz_38 (by decide) (iAnd_r _ _) (by decide) (fun c3 => ?_) (fun c3 => ?_)
      · refine m_blk 52 [(1, vi 1), (0, vi (iAnd (iXor x (-1)) (x - 1)))] [vi 16, vi (iAnd (iXor x (-1)) (x - 1))] C f_q_itz_49_2 rfl ?_
        refine m_icmp_le (tgt := 62) C e_q_itz_52 (by decide) (iAnd_r _ _) (by decide) (fun c4 => ?_) (fun c4 => ?_)
        · refine m_blk 64 [(1, vi 1), (0, vi (iAnd (iXor x (-1)) (x - 1)))] [vi 4, vi (iAnd (iXor x (-1)) (x - 1))] C f_q_itz_62_2 rfl ?_
          refine m_icmp_le (tgt := 74) C e_q_itz_64 (by decide) (iAnd_r _ _) (by decide) (fun c5 => ?_) (fun c5 => ?_)
          · refine m_blk 79 [(1, vi 1), (0, vi (iAnd (iXor x (-1)) (x - 1)))] [vi (1 + (iUsh (iAnd (iXor x (-1)) (x - 1)) 1))] C f_q_itz_74_5 rfl ?_
            refine m_nrm (fun y6 hy6 => ?_)
            exact m_iret C Rm E e_q_itz_79 ⟨y6, rfl, rfl, (by show -2147483648 ≤ y6 ∧ y6 ≤ 2147483647; omega)⟩
          · refine m_blk 79 [(0, vi (iUsh (iAnd (iXor x (-1)) (x - 1)) 2)), (1, vi 3)] [vi (3 + (iUsh (iUsh (iAnd (iXor x (-1)) (x - 1)) 2) 1))] C f_q_itz_67_10 rfl ?_
            refine m_nrm (fun y7 hy7 => ?_)
            exact m_iret C Rm E e_q_itz_79 ⟨y7, rfl, rfl, (by show -2147483648 ≤ y7 ∧ y7 ≤ 2147483647; omega)⟩
        · refine m_blk 64 [(0, vi (iUsh (iAnd (iXor x (-1)) (x - 1)) 4)), (1, vi 5)] [vi 4, vi (iUsh (iAnd (iXor x (-1)) (x - 1)) 4)] C f_q_itz_55_7 rfl ?_
          refine m_icmp_le (tgt := 74) C e_q_itz_64 (by decide) (iUsh_r _ _) (by decide) (fun c8 => ?_) (fun c8 => ?_)
          · refine m_blk 79 [(0, vi (iUsh (iAnd (iXor x (-1)) (x - 1)) 4)), (1, vi 5)] [vi (5 + (iUsh (iUsh (iAnd (iXor x (-1)) (x - 1)) 4) 1))] C f_q_itz_74_5 rfl ?_
            refine m_nrm (fun y9 hy9 => ?_)
            exact m_iret C Rm E e_q_itz_79 ⟨y9, rfl, rfl, (by show -2147483648 ≤ y9 ∧ y9 ≤ 2147483647; omega)⟩
          · refine m_blk 79 [(0, vi (iUsh (iUsh (iAnd (iXor x (-1)) (x - 1)) 4) 2)), (1, vi 7)] [vi (7 + (iUsh (iUsh (iUsh (iAnd (iXor x (-1)) (x - 1)) 4) 2) 1))] C f_q_itz_67_10 rfl ?_
            refine m_nrm (fun y10 hy10 => ?_)
            exact m_iret C Rm E e_q_itz_79 ⟨y10, rfl, rfl, (by show -2147483648 ≤ y10 ∧ y10 ≤ 2147483647; omega)⟩
      · refine m_blk 52 [(0, vi (iUsh (iAnd (iXor x (-1)) (x - 1)) 8)), (1, vi 9)] [vi 16, vi (iUsh (iAnd (iXor x (-1)) (x - 1)) 8)] C f_q_itz_41_7 rfl ?_
        refine m_icmp_le (tgt := 62) C e_q_itz_52 (by decide) (iUsh_r _ _) (by decide) (fun c11 => ?_) (fun c11 => ?_)
        · refine m_blk 64 [(0, vi (iUsh (iAnd (iXor x (-1)) (x - 1)) 8)), (1, vi 9)] [vi 4, vi (iUsh (iAnd (iXor x (-1)) (x - 1)) 8)] C f_q_itz_62_2 rfl ?_
          refine m_icmp_le (tgt := 74) C e_q_itz_64 (by decide) (iUsh_r _ _) (by decide) (fun c12 => ?_) (fun c12 => ?_)
          · refine m_blk 79 [(0, vi (iUsh (iAnd (iXor x (-1)) (x - 1)) 8)), (1, vi 9)] [vi (9 + (iUsh (iUsh (iAnd (iXor x (-1)) (x - 1)) 8) 1))] C f_q_itz_74_5 rfl ?_
            refine m_nrm (fun y13 hy13 => ?_)
            exact m_iret C Rm E e_q_itz_79 ⟨y13, rfl, rfl, (by show -2147483648 ≤ y13 ∧ y13 ≤ 2147483647; omega)⟩
          · refine m_blk 79 [(0, vi (iUsh (iUsh (iAnd (iXor x (-1)) (x - 1)) 8) 2)), (1, vi 11)] [vi (11 + (iUsh (iUsh (iUsh (iAnd (iXor x (-1)) (x - 1)) 8) 2) 1))] C f_q_itz_67_10 rfl ?_
            refine m_nrm (fun y14 hy14 => ?_)
            exact m_iret C Rm E e_q_itz_79 ⟨y14, rfl, rfl, (by show -2147483648 ≤ y14 ∧ y14 ≤ 2147483647; omega)⟩
        · refine m_blk 64 [(0, vi (iUsh (iUsh (iAnd (iXor x (-1)) (x - 1)) 8) 4)), (1, vi 13)] [vi 4, vi (iUsh (iUsh (iAnd (iXor x (-1)) (x - 1)) 8) 4)] C f_q_itz_55_7 rfl ?_
          refine m_icmp_le (tgt := 74) C e_q_itz_64 (by decide) (iUsh_r _ _) (by decide) (fun c15 => ?_) (fun c15 => ?_)
          · refine m_blk 79 [(0, vi (iUsh (iUsh (iAnd (iXor x (-1)) (x - 1)) 8) 4)), (1, vi 13)] [vi (13 + (iUsh (iUsh (iUsh (iAnd (iXor x (-1)) (x - 1)) 8) 4) 1))] C f_q_itz_74_5 rfl ?_
            refine m_nrm (fun y16 hy16 => ?_)
            exact m_iret C Rm E e_q_itz_79 ⟨y16, rfl, rfl, (by show -2147483648 ≤ y16 ∧ y16 ≤ 2147483647; omega)⟩
          · refine m_blk 79 [(0, vi (iUsh (iUsh (iUsh (iAnd (iXor x (-1)) (x - 1)) 8) 4) 2)), (1, vi 15)] [vi (15 + (iUsh (iUsh (iUsh (iUsh (iAnd (iXor x (-1)) (x - 1)) 8) 4) 2) 1))] C f_q_itz_67_10 rfl ?_
            refine m_nrm (fun y17 hy17 => ?_)
            exact m_iret C Rm E e_q_itz_79 ⟨y17, rfl, rfl, (by show -2147483648 ≤ y17 ∧ y17 ≤ 2147483647; omega)⟩
    · refine m_blk 38 [(0, vi (iUsh (iAnd (iXor x (-1)) (x - 1)) 16)), (1, vi 17)] [vi 256, vi (iUsh (iAnd (iXor x (-1)) (x - 1)) 16)] C f_q_itz_26_7 rfl ?_
      refine m_icmp_le (tgt := 49) C e_q_itz_38 (by decide) (iUsh_r _ _) (by decide) (fun c18 => ?_) (fun c18 => ?_)
      · refine m_blk 52 [(0, vi (iUsh (iAnd (iXor x (-1)) (x - 1)) 16)), (1, vi 17)] [vi 16, vi (iUsh (iAnd (iXor x (-1)) (x - 1)) 16)] C f_q_itz_49_2 rfl ?_
        refine m_icmp_le (tgt := 62) C e_q_itz_52 (by decide) (iUsh_r _ _) (by decide) (fun c19 => ?_) (fun c19 => ?_)
        · refine m_blk 64 [(0, vi (iUsh (iAnd (iXor x (-1)) (x - 1)) 16)), (1, vi 17)] [vi 4, vi (iUsh (iAnd (iXor x (-1)) (x - 1)) 16)] C f_q_itz_62_2 rfl ?_
          refine m_icmp_le (tgt := 74) C e_q_itz_64 (by decide) (iUsh_r _ _) (by decide) (fun c20 => ?_) (fun c20 => ?_)
          · refine m_blk 79 [(0, vi (iUsh (iAnd (iXor x (-1)) (x - 1)) 16)), (1, vi 17)] [vi (17 + (iUsh (iUsh (iAnd (iXor x (-1)) (x - 1)) 16) 1))] C f_q_itz_74_5 rfl ?_
            refine m_nrm (fun y21 hy21 => ?_)
            exact m_iret C Rm E e_q_itz_79 ⟨y21, rfl, rfl, (by show -2147483648 ≤ y21 ∧ y21 ≤ 2147483647; omega)⟩
          · refine m_blk 79 [(0, vi (iUsh (iUsh (iAnd (iXor x (-1)) (x - 1)) 16) 2)), (1, vi 19)] [vi (19 + (iUsh (iUsh (iUsh (iAnd (iXor x (-1)) (x - 1)) 16) 2) 1))] C f_q_itz_67_10 rfl ?_
            refine m_nrm (fun y22 hy22 => ?_)
            exact m_iret C Rm E e_q_itz_79 ⟨y22, rfl, rfl, (by show -2147483648 ≤ y22 ∧ y22 ≤ 2147483647; omega)⟩
        · refine m_blk 64 [(0, vi (iUsh (iUsh (iAnd (iXor x (-1)) (x - 1)) 16) 4)), (1, vi 21)] [vi 4, vi (iUsh (iUsh (iAnd (iXor x (-1)) (x - 1)) 16) 4)] C f_q_itz_55_7 rfl ?_
          refine m_icmp_le (tgt := 74) C e_q_itz_64 (by decide) (iUsh_r _ _) (by decide) (fun c23 => ?_) (fun c23 => ?_)
          · refine m_blk 79 [(0, vi (iUsh (iUsh (iAnd (iXor x (-1)) (x - 1)) 16) 4)), (1, vi 21)] [vi (21 + (iUsh (iUsh (iUsh (iAnd (iXor x (-1)) (x - 1)) 16) 4) 1))] C f_q_itz_74_5 rfl ?_
            refine m_nrm (fun y24 hy24 => ?_)
            exact m_iret C Rm E e_q_itz_79 ⟨y24, rfl, rfl, (by show -2147483648 ≤ y24 ∧ y24 ≤ 2147483647; omega)⟩
          · refine m_blk 79 [(0, vi (iUsh (iUsh (iUsh (iAnd (iXor x (-1)) (x - 1)) 16) 4) 2)), (1, vi 23)] [vi (23 + (iUsh (iUsh (iUsh (iUsh (iAnd (iXor x (-1)) (x - 1)) 16) 4) 2) 1))] C f_q_itz_67_10 rfl ?_
            refine m_nrm (fun y25 hy25 => ?_)
            exact m_iret C Rm E e_q_itz_79 ⟨y25, rfl, rfl, (by show -2147483648 ≤ y25 ∧ y25 ≤ 2147483647; omega)⟩
      · refine m_blk 52 [(0, vi (iUsh (iUsh (iAnd (iXor x (-1)) (x - 1)) 16) 8)), (1, vi 25)] [vi 16, vi (iUsh (iUsh (iAnd (iXor x (-1)) (x - 1)) 16) 8)] C f_q_itz_41_7 rfl ?_
        refine m_icmp_le (tgt := 62) C e_q_itz_52 (by decide) (iUsh_r _ _) (by decide) (fun c26 => ?_) (fun c26 => ?_)
        · refine m_blk 64 [(0, vi (iUsh (iUsh (iAnd (iXor x (-1)) (x - 1)) 16) 8)), (1, vi 25)] [vi 4, vi (iUsh (iUsh (iAnd (iXor x (-1)) (x - 1)) 16) 8)] C f_q_itz_62_2 rfl ?_
          refine m_icmp_le (tgt := 74) C e_q_itz_64 (by decide) (iUsh_r _ _) (by decide) (fun c27 => ?_) (fun c27 => ?_)
          · refine m_blk 79 [(0, vi (iUsh (iUsh (iAnd (iXor x (-1)) (x - 1)) 16) 8)), (1, vi 25)] [vi (25 + (iUsh (iUsh (iUsh (iAnd (iXor x (-1)) (x - 1)) 16) 8) 1))] C f_q_itz_74_5 rfl ?_
            refine m_nrm (fun y28 hy28 => ?_)
            exact m_iret C Rm E e_q_itz_79 ⟨y28, rfl, rfl, (by show -2147483648 ≤ y28 ∧ y28 ≤ 2147483647; omega)⟩
          · refine m_blk 79 [(0, vi (iUsh (iUsh (iUsh (iAnd (iXor x (-1)) (x - 1)) 16) 8) 2)), (1, vi 27)] [vi (27 + (iUsh (iUsh (iUsh (iUsh (iAnd (iXor x (-1)) (x - 1)) 16) 8) 2) 1))] C f_q_itz_67_10 rfl ?_
            refine m_nrm (fun y29 hy29 => ?_)
            exact m_iret C Rm E e_q_itz_79 ⟨y29, rfl, rfl, (by show -2147483648 ≤ y29 ∧ y29 ≤ 2147483647; omega)⟩
        · refine m_blk 64 [(0, vi (iUsh (iUsh (iUsh (iAnd (iXor x (-1)) (x - 1)) 16) 8) 4)), (1, vi 29)] [vi 4, vi (iUsh (iUsh (iUsh (iAnd (iXor x (-1)) (x - 1)) 16) 8) 4)] C f_q_itz_55_7 rfl ?_
          refine m_icmp_le (tgt := 74) C e_q_itz_64 (by decide) (iUsh_r _ _) (by decide) (fun c30 => ?_) (fun c30 => ?_)
          · refine m_blk 79 [(0, vi (iUsh (iUsh (iUsh (iAnd (iXor x (-1)) (x - 1)) 16) 8) 4)), (1, vi 29)] [vi (29 + (iUsh (iUsh (iUsh (iUsh (iAnd (iXor x (-1)) (x - 1)) 16) 8) 4) 1))] C f_q_itz_74_5 rfl ?_
            refine m_nrm (fun y31 hy31 => ?_)
            exact m_iret C Rm E e_q_itz_79 ⟨y31, rfl, rfl, (by show -2147483648 ≤ y31 ∧ y31 ≤ 2147483647; omega)⟩
          · refine m_blk 79 [(0, vi (iUsh (iUsh (iUsh (iUsh (iAnd (iXor x (-1)) (x - 1)) 16) 8) 4) 2)), (1, vi 31)] [vi (31 + (iUsh (iUsh (iUsh (iUsh (iUsh (iAnd (iXor x (-1)) (x - 1)) 16) 8) 4) 2) 1))] C f_q_itz_67_10 rfl ?_
            refine m_nrm (fun y32 hy32 => ?_)
            exact m_iret C Rm E e_q_itz_79 ⟨y32, rfl, rfl, (by show -2147483648 ≤ y32 ∧ y32 ≤ 2147483647; omega)⟩
  · refine m_blk 16 [(0, vi (iAnd (iXor x (-1)) (x - 1)))] [vi (iAnd (iAnd (iXor x (-1)) (x - 1)) 32)] C f_q_itz_12_3 rfl ?_
    refine m_nrm (fun y33 hy33 => ?_)
    exact m_iret C Rm E e_q_itz_16 ⟨y33, rfl, rfl, (by show -2147483648 ≤ y33 ∧ y33 ≤ 2147483647; omega)⟩

theorem f_q_ltz_0_4 : mblkB b_JL_numberOfTrailingZeros [(0, .lload_n 0, vi 0), (1, .l2i, vi 0), (2, .istore_n 2, vi 0), (3, .iload_n 2, vi 0)] = true := by decide +kernel
theorem e_q_ltz_4 : decode b_JL_numberOfTrailingZeros 4 = .ok (.ifCond .ne 17, 3) := by decide +kernel
theorem f_q_ltz_21_1 : mblkB b_JL_numberOfTrailingZeros [(21, .iload_n 2, vi 0)] = true := by decide +kernel
theorem e_q_ltz_22 : decode b_JL_numberOfTrailingZeros 22 = .ok (.invokestatic 311, 3) := by decide +kernel
theorem e_q_ltz_25 : decode b_JL_numberOfTrailingZeros 25 = .ok (.ireturn, 1) := by decide +kernel
theorem f_q_ltz_7_3 : mblkB b_JL_numberOfTrailingZeros [(7, .bipush 32, vi 32), (9, .lload_n 0, vi 0), (10, .bipush 32, vi 32)] = true := by decide +kernel
theorem e_q_ltz_12 : decode b_JL_numberOfTrailingZeros 12 = .ok (.lushr, 1) := by decide +kernel
theorem f_q_ltz_13_1 : mblkB b_JL_numberOfTrailingZeros [(13, .l2i, vi 0)] = true := by decide +kernel
theorem e_q_ltz_14 : decode b_JL_numberOfTrailingZeros 14 = .ok (.invokestatic 311, 3) := by decide +kernel
theorem f_q_ltz_17_2 : mblkB b_JL_numberOfTrailingZeros [(17, .iadd, vi 0), (18, .goto 7, vi 25)] = true := by decide +kernel
set_option maxHeartbeats 40000000 in
set_option maxRecDepth 100000 in
theorem q_ltz (l : Launch) (D : va_G) (B : Nat) (H0 : Heap) (ad : mAd) (A : mA)  (x : Int)  : mMet l D B H0 ad y_JL_numberOfTrailingZeros b_JL_numberOfTrailingZeros 3 (some .int) 1 40 [vl x] A (fun v9 A9 => ∃ z : Int, v9 = some (vi z) ∧ A = A9 ∧ (-2147483648 ≤ z ∧ z ≤ 2147483647)) := by
  refine m_met (by decide) rfl (fun g w0 C Rm Y E => ?_)
  show JM g D ad w0 A 0 [(0, vl x)] []
  refine m_blk 4 [(2, vi x), (0, vl x)] [vi x] C f_q_ltz_0_4 rfl ?_
  refine m_nrm (fun y1 hy1 => ?_)
  refine m_if_ne (tgt := 21) C e_q_ltz_4 (by decide) (by omega) (fun c2 => ?_) (fun c2 => ?_)
  · refine m_blk 22 [(2, vi x), (0, vl x)] [vi x] C f_q_ltz_21_1 rfl ?_
    refine m_nrm (fun y3 hy3 => ?_)
    refine m_callS C Rm Y [vi y3] [] (q_itz l D B H0 ad _ y3 (by show -2147483648 ≤ y3 ∧ y3 ≤ 2147483647; omega)) cl_JL_311 e_q_ltz_22 rfl rfl rfl ⟨by decide, by decide⟩ ?_
    rintro v4 A5 ⟨z8, rfl, rfl, raw_hz_n7⟩
    have hz_n7 : -2147483648 ≤ z8 ∧ z8 ≤ 2147483647 := raw_hz_n7
    show JM g D ad w0 A 25 [(2, vi x), (0, vl x)] [vi z8]
    refine m_nrm (fun y9 hy9 => ?_)
    exact m_iret C Rm E e_q_ltz_25 ⟨y9, rfl, rfl, (by show -2147483648 ≤ y9 ∧ y9 ≤ 2147483647; omega)⟩
  · refine m_blk 12 [(2, vi x), (0, vl x)] [vi 32, vl x, vi 32] C f_q_ltz_7_3 rfl ?_
    refine m_lushr C e_q_ltz_12 (fun z10 => ?_)
    refine m_blk 14 [(2, vi x), (0, vl x)] [vi z10, vi 32] C f_q_ltz_13_1 rfl ?_
    refine m_nrm (fun y11 hy11 => ?_)
    refine m_callS C Rm Y [vi y11] [vi 32] (q_itz l D B H0 ad _ y11 (by show -2147483648 ≤ y11 ∧ y11 ≤ 2147483647; omega)) cl_JL_311 e_q_ltz_14 rfl rfl rfl ⟨by decide, by decide⟩ ?_
    rintro v12 A13 ⟨z16, rfl, rfl, raw_hz_n15⟩
    have hz_n15 : -2147483648 ≤ z16 ∧ z16 ≤ 2147483647 := raw_hz_n15
    show JM g D ad w0 A 17 [(2, vi x), (0, vl x)] [vi z16, vi 32]
    refine m_blk 25 [(2, vi x), (0, vl x)] [vi (32 + z16)] C f_q_ltz_17_2 rfl ?_
    refine m_nrm (fun y17 hy17 => ?_)
    exact m_iret C Rm E e_q_ltz_25 ⟨y17, rfl, rfl, (by show -2147483648 ≤ y17 ∧ y17 ≤ 2147483647; omega)⟩
