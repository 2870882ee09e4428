/-! indexOf of a constant, exactly (own work) -/
def jFirst (x : Int32) : List Int32 → Nat → Int32
  | [], _ => -1
  | b :: r, k => if b = x then nI k else jFirst x r (k + 1)
def jfX (i : Nat) (x : Int32) : Int32 := jFirst x.toInt8.toInt32 (jbyt.getD i []) 0
theorem dropD (l : List Int32) (k : Nat) (hk : k < l.length) : l.drop k = l.getD k 0 :: l.drop (k + 1) := by
  rw [List.drop_eq_getElem_cons hk, List.getD_eq_getElem?_getD, List.getElem?_eq_getElem hk]
  rfl
theorem jlenB : ∀ i, i < 13 → (jbyt.getD i []).length = jlen.getD i 0 := by decide
theorem c_L1_canEncodeX (l : Launch) (D : va_G) (B : Nat) (H0 : Heap) (w : jW) (x : Int32) (hx : 0 ≤ x.toInt ∧ x.toInt ≤ 255) : jMet l D B H0 y_L1_canEncode b_L1_canEncode 1 (some .boolean) 0 0 0 0 [.int x] w (jsame w (some (.int 1))) := by
  refine j_met (by decide) (Nat.le_of_ble_eq_true rfl) (fun g C Rm Y E => ?_)
  show JJ g w 0 [(0, .int x)] []
  refine j_blk (b := [(0, .iload_n 0, .null)]) 1 [(0, .int x)] [.int x] C (sblk_of (by decide +kernel)) rfl ?_
  have n1 : ¬ x < 0 := fun h => by
    rw [Int32.lt_iff_toInt_lt] at h
    have : (0 : Int32).toInt = 0 := rfl
    omega
  have n2 : ¬ (255 : Int32) < x := fun h => by
    rw [Int32.lt_iff_toInt_lt] at h
    have : (255 : Int32).toInt = 255 := rfl
    omega
  refine j_if_lt (off := 14) (tgt := 15) C (by decide +kernel) (by decide) (fun h => absurd h n1) (fun _ => ?_)
  refine j_blk (b := [(4, .iload_n 0, .null), (5, .sipush 255, .int 255)]) 8 [(0, .int x)] [.int 255, .int x] C (sblk_of (by decide +kernel)) rfl ?_
  refine j_icmp_gt (off := 7) (tgt := 15) C (by decide +kernel) (by decide) (fun h => absurd h n2) (fun _ => ?_)
  refine j_blk (b := [(11, .iconst 1, .int 1), (12, .goto 4, .retAddr 16)]) 16 [(0, .int x)] [.int 1] C (sblk_of (by decide +kernel)) rfl ?_
  exact j_zret C Rm E rfl (by decide +kernel) ⟨rfl, rfl⟩ (Nat.le_refl _) (Nat.le_refl _)
theorem c_L1_indexOfCharX (l : Launch) (D : va_G) (B : Nat) (H0 : Heap) (w : jW) (i : Nat) (hi : i < 13) (x : Int32) (hx : 0 ≤ x.toInt ∧ x.toInt ≤ 255) : jMet l D B H0 y_L1_indexOfChar b_L1_indexOfChar 6 (some .int) 0 0 0 0 [.ref (jsV D i), .int x, .int 0, .int (nI (jlen.getD i 0))] w (jsame w (some (.int (jfX i x)))) := by
  have hn : jlen.getD i 0 < 20 := by
    have : ∀ i, i < 13 → jlen.getD i 0 < 20 := by decide
    exact this i hi
  refine j_met (by decide) (Nat.le_of_ble_eq_true rfl) (fun g C Rm Y E => ?_)
  show JJ g w 0 [(0, .ref (jsV D i)), (1, .int x), (2, .int 0), (3, .int (nI (jlen.getD i 0)))] []
  have hd : ∀ (N k : Nat), jlen.getD i 0 < k + N → k ≤ jlen.getD i 0 → jfX i x = jFirst x.toInt8.toInt32 ((jbyt.getD i []).drop k) k → JJ g w 7 [(5, .int (nI k)), (4, .int x.toInt8.toInt32), (0, .ref (jsV D i)), (3, .int (nI (jlen.getD i 0)))] [] := by
    intro N
    induction N with
    | zero => intro k h1 h2 h3; exact absurd h1 (by omega)
    | succ N ih =>
      intro k h1 h2 h3
      have k3 : (nI k).toInt = (k : Int) := nI_toInt (by omega)
      have l3 : (nI (jlen.getD i 0)).toInt = ((jlen.getD i 0 : Nat) : Int) := nI_toInt (by omega)
      refine j_blk (b := [(7, .iload 5, .null), (9, .iload_n 3, .null)]) 10 [(5, .int (nI k)), (4, .int x.toInt8.toInt32), (0, .ref (jsV D i)), (3, .int (nI (jlen.getD i 0)))] [.int (nI (jlen.getD i 0)), .int (nI k)] C (sblk_of (by decide +kernel)) rfl ?_
      refine j_icmp_ge (off := 21) (tgt := 31) C (by decide +kernel) (by decide) (fun h => ?_) (fun h => ?_)
      · rw [jle, k3, l3] at h
        have hz : jfX i x = -1 := by
          rw [h3, List.drop_eq_nil_of_le (by rw [jlenB i hi]; omega)]
          rfl
        rw [hz] at E
        refine j_blk (b := [(31, .iconst (-1), .int (-1))]) 32 [(5, .int (nI k)), (4, .int x.toInt8.toInt32), (0, .ref (jsV D i)), (3, .int (nI (jlen.getD i 0)))] [.int (-1)] C (sblk_of (by decide +kernel)) rfl ?_
        exact j_iret C Rm E (by decide +kernel) ⟨rfl, rfl⟩ (Nat.le_refl _) (Nat.le_refl _)
      · rw [jle, k3, l3] at h
        refine j_blk (b := [(13, .aload_n 0, .null), (14, .iload 5, .null)]) 16 [(5, .int (nI k)), (4, .int x.toInt8.toInt32), (0, .ref (jsV D i)), (3, .int (nI (jlen.getD i 0)))] [.int (nI k), .ref (jsV D i)] C (sblk_of (by decide +kernel)) rfl ?_
        have ec : (nI k).toNatClampNeg = k := by
          show (nI k).toInt.toNat = k
          rw [k3]
          rfl
        have hdr : (jbyt.getD i []).drop k = (jbyt.getD i []).getD k 0 :: (jbyt.getD i []).drop (k + 1) := by
          exact dropD _ k (by rw [jlenB i hi]; omega)
        refine j_baldK C hi (vp_in_nI (by omega) (by omega)) (by decide +kernel) ?_
        refine j_blk (b := [(17, .iload 4, .null)]) 19 [(5, .int (nI k)), (4, .int x.toInt8.toInt32), (0, .ref (jsV D i)), (3, .int (nI (jlen.getD i 0)))] [.int x.toInt8.toInt32, .int ((jbyt.getD i []).getD (Int32.toNatClampNeg (nI k)) 0)] C (sblk_of (by decide +kernel)) rfl ?_
        refine j_icmp_ne (off := 6) (tgt := 25) C (by decide +kernel) (by decide) (fun hc => ?_) (fun hc => ?_)
        · rw [ec] at hc
          refine j_blk (b := [(25, .iinc 5 1, .int 1), (28, .goto (-21), .retAddr 7)]) 7 [(5, .int (nI k + 1)), (4, .int x.toInt8.toInt32), (0, .ref (jsV D i)), (3, .int (nI (jlen.getD i 0)))] [] C (sblk_of (by decide +kernel)) rfl ?_
          have e : nI k + 1 = nI (k + 1) := by
            have a1 : nI k = Int32.ofInt k := by rw [jeq, k3, iR (by omega)]
            have a2 : nI (k + 1) = Int32.ofInt ((k : Int) + 1) := by rw [jeq, nI_toInt (show k + 1 < 2 ^ 31 by omega), iR (by omega)]; omega
            rw [a1, a2, Int32.ofInt_add]
            rfl
          rw [e]
          exact ih (k + 1) (by omega) (by omega) (by rw [h3, hdr]; exact if_neg hc)
        · rw [ec] at hc
          have hc : (jbyt.getD i []).getD k 0 = x.toInt8.toInt32 := by
            first
              | exact hc
              | exact Decidable.not_not.mp hc
          have hz : jfX i x = nI k := by
            rw [h3, hdr]
            exact if_pos hc
          rw [hz] at E
          refine j_blk (b := [(22, .iload 5, .null)]) 24 [(5, .int (nI k)), (4, .int x.toInt8.toInt32), (0, .ref (jsV D i)), (3, .int (nI (jlen.getD i 0)))] [.int (nI k)] C (sblk_of (by decide +kernel)) rfl ?_
          exact j_iret C Rm E (by decide +kernel) ⟨rfl, rfl⟩ (Nat.le_refl _) (Nat.le_refl _)
  refine j_blk (b := [(0, .iload_n 1, .null), (1, .i2b, .null), (2, .istore 4, .null), (4, .iload_n 2, .null), (5, .istore 5, .null)]) 7 [(5, .int 0), (4, .int x.toInt8.toInt32), (0, .ref (jsV D i)), (1, .int x), (2, .int 0), (3, .int (nI (jlen.getD i 0)))] [] C (sblk_of (by decide +kernel)) rfl ?_
  refine JJ.loc [(5, .int (nI 0)), (4, .int x.toInt8.toInt32), (0, .ref (jsV D i)), (3, .int (nI (jlen.getD i 0)))] ⟨rfl, rfl, rfl, rfl, trivial⟩ ?_
  exact hd (jlen.getD i 0 + 1) 0 (by omega) (by omega) rfl
theorem c_L1_indexOfX (l : Launch) (D : va_G) (B : Nat) (H0 : Heap) (w : jW) (i : Nat) (hi : i < 13) (x : Int32) (hx : 0 ≤ x.toInt ∧ x.toInt ≤ 255) : jMet l D B H0 y_L1_indexOf b_L1_indexOf 4 (some .int) 1 40 0 0 [.ref (jsV D i), .int x, .int 0, .int (nI (jlen.getD i 0))] w (jsame w (some (.int (jfX i x)))) := by
  have hn : jlen.getD i 0 < 20 := by
    have : ∀ i, i < 13 → jlen.getD i 0 < 20 := by decide
    exact this i hi
  have l3 : (nI (jlen.getD i 0)).toInt = ((jlen.getD i 0 : Nat) : Int) := nI_toInt (by omega)
  refine j_met (by decide) (Nat.le_of_ble_eq_true rfl) (fun g C Rm Y E => ?_)
  show JJ g w 0 [(0, .ref (jsV D i)), (1, .int x), (2, .int 0), (3, .int (nI (jlen.getD i 0)))] []
  refine j_blk (b := [(0, .iload_n 1, .null)]) 1 [(0, .ref (jsV D i)), (1, .int x), (2, .int 0), (3, .int (nI (jlen.getD i 0)))] [.int x] C (sblk_of (by decide +kernel)) rfl ?_
  refine j_callS (idx := 88) C Rm Y (As := [.int x]) [] (c_L1_canEncodeX l D B H0 w x hx) cl_L1_88 (by decide +kernel) rfl rfl (by decide) ⟨by decide, by decide⟩ ⟨Nat.le_refl _, Nat.le_refl _⟩ (fun v w' hp => ?_)
  obtain ⟨rfl, rfl⟩ := hp
  show JJ g w' 4 [(0, .ref (jsV D i)), (1, .int x), (2, .int 0), (3, .int (nI (jlen.getD i 0)))] [.int 1]
  refine j_if_ne (off := 5) (tgt := 9) C (by decide +kernel) (by decide) (fun _ => ?_) (fun h => absurd h (by decide))
  refine j_blk (b := [(9, .iload_n 2, .null), (10, .iconst 0, .int 0)]) 11 [(0, .ref (jsV D i)), (1, .int x), (2, .int 0), (3, .int (nI (jlen.getD i 0)))] [.int 0, .int 0] C (sblk_of (by decide +kernel)) rfl ?_
  refine j_mmax (idx := 92) C Rm cl_L1_92 (by decide +kernel) (by decide) (Nat.le_of_ble_eq_true rfl) (Nat.le_refl _) (Nat.le_refl _) ?_
  rw [if_neg (by decide : ¬ ((0 : Int32) < 0))]
  refine j_blk (b := [(14, .istore_n 2, .null), (15, .iload_n 3, .null), (16, .aload_n 0, .null)]) 17 [(2, .int 0), (0, .ref (jsV D i)), (1, .int x), (3, .int (nI (jlen.getD i 0)))] [.ref (jsV D i), .int (nI (jlen.getD i 0))] C (sblk_of (by decide +kernel)) rfl ?_
  refine j_lenK C hi (by decide +kernel) ?_
  refine j_mmin (idx := 38) C Rm cl_L1_38 (by decide +kernel) (by decide) (Nat.le_of_ble_eq_true rfl) (Nat.le_refl _) (Nat.le_refl _) ?_
  rw [show (if nI (jlen.getD i 0) < nI (jlen.getD i 0) then nI (jlen.getD i 0) else nI (jlen.getD i 0)) = nI (jlen.getD i 0) from by split <;> rfl]
  refine j_blk (b := [(21, .istore_n 3, .null), (22, .iload_n 2, .null), (23, .iload_n 3, .null)]) 24 [(3, .int (nI (jlen.getD i 0))), (2, .int 0), (0, .ref (jsV D i)), (1, .int x)] [.int (nI (jlen.getD i 0)), .int 0] C (sblk_of (by decide +kernel)) rfl ?_
  refine j_icmp_lt (off := 5) (tgt := 29) C (by decide +kernel) (by decide) (fun _ => ?_) (fun h9 => ?_)
  · refine j_blk (b := [(29, .aload_n 0, .null), (30, .iload_n 1, .null), (31, .iload_n 2, .null), (32, .iload_n 3, .null)]) 33 [(3, .int (nI (jlen.getD i 0))), (2, .int 0), (0, .ref (jsV D i)), (1, .int x)] [.int (nI (jlen.getD i 0)), .int 0, .int x, .ref (jsV D i)] C (sblk_of (by decide +kernel)) rfl ?_
    refine j_callS (idx := 95) C Rm Y (As := [.ref (jsV D i), .int x, .int 0, .int (nI (jlen.getD i 0))]) [] (c_L1_indexOfCharX l D B H0 w' i hi x hx) cl_L1_95 (by decide +kernel) rfl rfl (by decide) ⟨by decide, by decide⟩ ⟨Nat.le_refl _, Nat.le_refl _⟩ (fun v w9 hp => ?_)
    obtain ⟨rfl, rfl⟩ := hp
    show JJ g w9 36 [(3, .int (nI (jlen.getD i 0))), (2, .int 0), (0, .ref (jsV D i)), (1, .int x)] [.int (jfX i x)]
    exact j_iret C Rm E (by decide +kernel) ⟨rfl, rfl⟩ (Nat.le_refl _) (Nat.le_refl _)
  · refine absurd ?_ h9
    have l0 : ∀ i, i < 13 → 0 < jlen.getD i 0 := by decide
    have := l0 i hi
    rw [Int32.lt_iff_toInt_lt, l3]
    show (0 : Int) < _
    omega
theorem c_Str_indexOf2X (l : Launch) (D : va_G) (B : Nat) (H0 : Heap) (w : jW) (i : Nat) (hi : i < 13) (x : Int32) (hx : 0 ≤ x.toInt ∧ x.toInt ≤ 255) : jMet l D B H0 y_Str_indexOf_1 b_Str_indexOf_1 3 (some .int) 2 80 0 0 [.ref (jsK D i), .int x, .int 0] w (jsame w (some (.int (jfX i x)))) := by
  refine j_met (by decide) (Nat.le_of_ble_eq_true rfl) (fun g C Rm Y E => ?_)
  show JJ g w 0 [(0, .ref (jsK D i)), (1, .int x), (2, .int 0)] []
  refine j_blk (b := [(0, .aload_n 0, .null)]) 1 [(0, .ref (jsK D i)), (1, .int x), (2, .int 0)] [.ref (jsK D i)] C (sblk_of (by decide +kernel)) rfl ?_
  refine j_callVK (idx := 492) C Rm Y [] [] hi rfl (c_Str_isLatin1 l D B H0 w i hi) cl_Str_492 (by decide +kernel) rfl rfl (by decide) ⟨by decide, by decide⟩ ⟨Nat.le_refl _, Nat.le_refl _⟩ (fun v w' hp => ?_)
  obtain ⟨rfl, rfl⟩ := hp
  show JJ g w' 4 [(0, .ref (jsK D i)), (1, .int x), (2, .int 0)] [.int 1]
  refine j_if_eq (off := 19) (tgt := 23) C (by decide +kernel) (by decide) (fun h => absurd h (by decide)) (fun _ => ?_)
  refine j_blk (b := [(7, .aload_n 0, .null)]) 8 [(0, .ref (jsK D i)), (1, .int x), (2, .int 0)] [.ref (jsK D i)] C (sblk_of (by decide +kernel)) rfl ?_
  refine j_valueK (idx := 9) C hi fl_Str_9 (by decide +kernel) ?_
  refine j_blk (b := [(11, .iload_n 1, .null), (12, .iload_n 2, .null), (13, .aload_n 0, .null)]) 14 [(0, .ref (jsK D i)), (1, .int x), (2, .int 0)] [.ref (jsK D i), .int 0, .int x, .ref (jsV D i)] C (sblk_of (by decide +kernel)) rfl ?_
  refine j_callVK (idx := 505) C Rm Y [] [.int 0, .int x, .ref (jsV D i)] hi rfl (c_Str_length l D B H0 w' i hi) cl_Str_505 (by decide +kernel) rfl rfl (Nat.le_of_ble_eq_true rfl) ⟨by decide, by decide⟩ ⟨Nat.le_refl _, Nat.le_refl _⟩ (fun v w9 hp => ?_)
  obtain ⟨rfl, rfl⟩ := hp
  show JJ g w9 17 [(0, .ref (jsK D i)), (1, .int x), (2, .int 0)] [.int (nI (jlen.getD i 0)), .int 0, .int x, .ref (jsV D i)]
  refine j_callS (idx := 637) C Rm Y (As := [.ref (jsV D i), .int x, .int 0, .int (nI (jlen.getD i 0))]) [] (c_L1_indexOfX l D B H0 w9 i hi x hx) cl_Str_637 (by decide +kernel) rfl rfl (by decide) ⟨by decide, by decide⟩ ⟨Nat.le_refl _, Nat.le_refl _⟩ (fun v w8 hp => ?_)
  obtain ⟨rfl, rfl⟩ := hp
  show JJ g w8 20 [(0, .ref (jsK D i)), (1, .int x), (2, .int 0)] [.int (jfX i x)]
  refine j_blk (b := [(20, .goto 16, .retAddr 36)]) 36 [(0, .ref (jsK D i)), (1, .int x), (2, .int 0)] [.int (jfX i x)] C (sblk_of (by decide +kernel)) rfl ?_
  exact j_iret C Rm E (by decide +kernel) ⟨rfl, rfl⟩ (Nat.le_refl _) (Nat.le_refl _)
theorem c_Str_indexOfX (l : Launch) (D : va_G) (B : Nat) (H0 : Heap) (w : jW) (i : Nat) (hi : i < 13) (x : Int32) (hx : 0 ≤ x.toInt ∧ x.toInt ≤ 255) : jMet l D B H0 y_Str_indexOf_0 b_Str_indexOf_0 2 (some .int) 3 120 0 0 [.ref (jsK D i), .int x] w (jsame w (some (.int (jfX i x)))) := by
  refine j_met (by decide) (Nat.le_of_ble_eq_true rfl) (fun g C Rm Y E => ?_)
  show JJ g w 0 [(0, .ref (jsK D i)), (1, .int x)] []
  refine j_blk (b := [(0, .aload_n 0, .null), (1, .iload_n 1, .null), (2, .iconst 0, .int 0)]) 3 [(0, .ref (jsK D i)), (1, .int x)] [.int 0, .int x, .ref (jsK D i)] C (sblk_of (by decide +kernel)) rfl ?_
  refine j_callVK (idx := 633) C Rm Y [.int x, .int 0] [] hi rfl (c_Str_indexOf2X l D B H0 w i hi x hx) cl_Str_633 (by decide +kernel) rfl rfl (by decide) ⟨by decide, by decide⟩ ⟨Nat.le_refl _, Nat.le_refl _⟩ (fun v w8 hp => ?_)
  obtain ⟨rfl, rfl⟩ := hp
  show JJ g w8 6 [(0, .ref (jsK D i)), (1, .int x)] [.int (jfX i x)]
  exact j_iret C Rm E (by decide +kernel) ⟨rfl, rfl⟩ (Nat.le_refl _) (Nat.le_refl _)
section MJ
variable {g : jG} {D : va_G} {ad : mAd} {w0 : jW} {A : mA} {cc : ByteArray} {nL pc : Nat} {own : String} {L : List (Nat × mV)} {st : List mV} {l : Launch} {B : Nat} {H0 : Heap} {y0 : MethodName} {rm : Room}
def jIx (i : Nat) (x : Int) : Int := (jfX i (Int32.ofInt x)).toInt
theorem m_indexX (C : jX g cc nL own D) (Rm : jRm g w0.2.1 w0.2.2 rm) (Y : jY g l B H0 y0) (hS : mStr D ad) {idx i : Nat} {x : Int} (rest : List mV) (hi : i < 13) (hc : jcV own idx y_Str_indexOf_0 b_Str_indexOf_0 2 (some .int) 1) (hx : 0 ≤ x ∧ x ≤ 255) (hd : decode cc pc = .ok (.invokevirtual idx, 3)) (h8 : Nat.ble (mcsum rest) 8 = true) (hR : 3 + 1 ≤ rm.frames ∧ 8 + (2 + 11) + 120 ≤ rm.locals)
    (kk : JM g D ad w0 A (pc + 3) L (vi (jIx i x) :: rest)) : JM g D ad w0 A pc L (vi x :: vr 90 i :: rest) := fun w hw hr => by
  have e : mSt ad (vi x :: vr 90 i :: rest) = ([.int (Int32.ofInt x)] : List Value).reverse ++ .ref (jsK D i) :: mSt ad rest := by
    rw [← hS i hi]
    simp [mSt, mc]
  rw [e]
  refine j_callVK C Rm Y [.int (Int32.ofInt x)] (mSt ad rest) hi rfl (c_Str_indexOfX l D B H0 w i hi (Int32.ofInt x) (by rw [iR (by omega)]; exact hx)) hc hd rfl rfl (by rw [mcsum_ok]; exact Nat.le_of_ble_eq_true h8) hR (mrm hr Rm) (fun v w' hp => ?_)
  obtain ⟨rfl, rfl⟩ := hp
  have k := kk w' hw hr
  have e2 : mc ad (vi (jIx i x)) = .int (jfX i (Int32.ofInt x)) := congrArg Value.int (Int32.ofInt_toInt _)
  rw [mSt, List.map_cons, e2] at k
  exact k
end MJ
