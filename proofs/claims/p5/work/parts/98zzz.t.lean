/-! four bits of a state (own work) -/
def nb9 (s : Int) (j : Nat) : Int := match j with
  | 0 => s / 1048576 % 16
  | 1 => s / 65536 % 16
  | 2 => s / 4096 % 16
  | 3 => s / 256 % 16
  | 4 => s / 16 % 16
  | _ => s % 16
theorem i32_small {z : Int32} {X : BitVec 32} (e : z.toBitVec = X) (h : X.toNat < 2147483648) : z.toInt = (X.toNat : Int) := by
  show z.toBitVec.toInt = _
  rw [e]
  exact BitVec.toInt_eq_toNat_of_lt (by omega)
theorem bv_dig (x : BitVec 32) (k : Nat) : ((x >>> k) &&& 15#32).toNat = x.toNat / 2 ^ k % 16 := by
  rw [BitVec.toNat_and, BitVec.toNat_ushiftRight, Nat.shiftRight_eq_div_pow]
  exact Nat.and_two_pow_sub_one_eq_mod _ 4
theorem bv_of {s : Int} (h0 : 0 ≤ s) (h1 : s < 4294967296) : (Int32.ofInt s).toBitVec.toNat = s.toNat := by
  show (BitVec.ofInt 32 s).toNat = _
  rw [BitVec.toNat_ofInt]
  congr 1
  exact Int.emod_eq_of_lt h0 h1
/-- a name's four bits, as the class reads them -/
theorem dA_ok {s n : Int} (h : 0 ≤ s ∧ s < 16777216) (hn : 0 ≤ n ∧ n < 6) : iAnd (iUsh s ((5 - n) * 4)) 15 = nb9 s n.toNat := by
  have key : ∀ (k : Nat) (z : Int32), z.toBitVec = ((Int32.ofInt s).toBitVec >>> k) &&& 15#32 → z.toInt = ((s.toNat / 2 ^ k % 16 : Nat) : Int) := fun k z e => by
    have q := bv_dig (Int32.ofInt s).toBitVec k
    rw [bv_of h.1 (by omega)] at q
    rw [i32_small e (by rw [q]; omega), q]
  have e : iAnd (iUsh s ((5 - n) * 4)) 15 = (((Int32.ofInt s).toUInt32 >>> ((Int32.ofInt ((5 - n) * 4)).toUInt32 &&& Int32.toUInt32 31)).toInt32 &&& Int32.ofInt 15).toInt := by
    unfold iAnd iUsh
    rw [Int32.ofInt_toInt]
  rw [e]
  have c : n = 0 ∨ n = 1 ∨ n = 2 ∨ n = 3 ∨ n = 4 ∨ n = 5 := by omega
  rcases c with rfl | rfl | rfl | rfl | rfl | rfl
  · rw [key 20 _ rfl]
    show _ = s / 1048576 % 16
    omega
  · rw [key 16 _ rfl]
    show _ = s / 65536 % 16
    omega
  · rw [key 12 _ rfl]
    show _ = s / 4096 % 16
    omega
  · rw [key 8 _ rfl]
    show _ = s / 256 % 16
    omega
  · rw [key 4 _ rfl]
    show _ = s / 16 % 16
    omega
  · rw [key 0 _ rfl]
    show _ = s % 16
    omega
theorem bv_hi {v : Int} (h : 0 ≤ v ∧ v ≤ 15) : (∀ i, 4 ≤ i → (Int32.ofInt v).toBitVec.getLsbD i = false) ∧ ((Int32.ofInt v).toBitVec &&& 15#32).toNat = v.toNat := by
  have q := bv_of (s := v) h.1 (by omega)
  refine ⟨fun i hi => ?_, ?_⟩
  · show (Int32.ofInt v).toBitVec.toNat.testBit i = false
    rw [q]
    exact Nat.testBit_lt_two_pow (Nat.lt_of_lt_of_le (m := 16) (by omega) (Nat.pow_le_pow_right (n := 2) (by decide) hi))
  · rw [BitVec.toNat_and, q]
    show v.toNat &&& 15 = _
    have := Nat.and_two_pow_sub_one_eq_mod v.toNat 4
    have e : v.toNat % 2 ^ 4 = v.toNat := Nat.mod_eq_of_lt (by omega)
    rw [e] at this
    exact this
/-- as the class writes them -/
theorem wD_ok {s n v : Int} (h : 0 ≤ s ∧ s < 16777216) (hn : 0 ≤ n ∧ n < 6) (hv : 0 ≤ v ∧ v ≤ 15) : (0 ≤ iOr (iAnd s (iXor (iShl 15 ((5 - n) * 4)) (-1))) (iShl v ((5 - n) * 4)) ∧ iOr (iAnd s (iXor (iShl 15 ((5 - n) * 4)) (-1))) (iShl v ((5 - n) * 4)) < 16777216) ∧ ∀ j, j < 6 → nb9 (iOr (iAnd s (iXor (iShl 15 ((5 - n) * 4)) (-1))) (iShl v ((5 - n) * 4))) j = if j = n.toNat then v else nb9 s j := by
  have e : iOr (iAnd s (iXor (iShl 15 ((5 - n) * 4)) (-1))) (iShl v ((5 - n) * 4)) = ((Int32.ofInt s &&& ((Int32.ofInt 15 <<< (Int32.ofInt ((5 - n) * 4) &&& 31)) ^^^ Int32.ofInt (-1))) ||| (Int32.ofInt v <<< (Int32.ofInt ((5 - n) * 4) &&& 31))).toInt := by
    unfold iOr iAnd iXor iShl
    rw [Int32.ofInt_toInt, Int32.ofInt_toInt, Int32.ofInt_toInt, Int32.ofInt_toInt]
  rw [e]
  obtain ⟨v1, v2⟩ := bv_hi hv
  have hs := bv_of h.1 (show s < 4294967296 by omega)
  have key : ∀ (a : Nat) (z : Int32), a ≤ 5 → z.toBitVec = ((Int32.ofInt s).toBitVec &&& ~~~(15#32 <<< (a * 4)) ||| (Int32.ofInt v).toBitVec <<< (a * 4)) → (0 ≤ z.toInt ∧ z.toInt < 16777216) ∧ ∀ b, b ≤ 5 → z.toInt.toNat / 2 ^ (b * 4) % 16 = if b = a then v.toNat else s.toNat / 2 ^ (b * 4) % 16 := fun a z ha ez => by
    have lt : z.toBitVec.toNat < 2 ^ 24 := by
      apply Nat.lt_pow_two_of_testBit
      intro i hi
      show z.toBitVec.getLsbD i = false
      rw [ez, BitVec.getLsbD_or, BitVec.getLsbD_and, BitVec.getLsbD_shiftLeft]
      have s0 : (Int32.ofInt s).toBitVec.getLsbD i = false := by
        show (Int32.ofInt s).toBitVec.toNat.testBit i = false
        rw [hs]
        exact Nat.testBit_lt_two_pow (Nat.lt_of_lt_of_le (m := 2 ^ 24) (by omega) (Nat.pow_le_pow_right (n := 2) (by decide) hi))
      rw [s0, v1 (i - a * 4) (by omega)]
      simp
    have zi : z.toInt = (z.toBitVec.toNat : Int) := i32_small rfl (by omega)
    refine ⟨by omega, fun b hb => ?_⟩
    have q := bv_dig z.toBitVec (b * 4)
    have en : z.toInt.toNat = z.toBitVec.toNat := by omega
    rw [en, ← q, ez]
    by_cases c : b = a
    · rw [if_pos c, c, nb_1 _ _ (by omega), v2]
    · rw [if_neg c, nb_2 _ _ ha hb (Ne.symm c) v1, bv_dig, hs]
  have fin : ∀ (a : Nat) (z : Int), a ≤ 5 → a = 5 - n.toNat → (0 ≤ z ∧ z < 16777216) → (∀ b, b ≤ 5 → z.toNat / 2 ^ (b * 4) % 16 = if b = a then v.toNat else s.toNat / 2 ^ (b * 4) % 16) → ∀ j, j < 6 → nb9 z j = if j = n.toNat then v else nb9 s j := fun a z ha hn2 hz hb j hj => by
    have q := hb (5 - j) (by omega)
    have c : j = 0 ∨ j = 1 ∨ j = 2 ∨ j = 3 ∨ j = 4 ∨ j = 5 := by omega
    by_cases e : j = n.toNat
    · rw [if_pos e]
      rw [if_pos (by omega)] at q
      rcases c with rfl | rfl | rfl | rfl | rfl | rfl
      · show z / 1048576 % 16 = v
        have q : z.toNat / 1048576 % 16 = v.toNat := q
        omega
      · show z / 65536 % 16 = v
        have q : z.toNat / 65536 % 16 = v.toNat := q
        omega
      · show z / 4096 % 16 = v
        have q : z.toNat / 4096 % 16 = v.toNat := q
        omega
      · show z / 256 % 16 = v
        have q : z.toNat / 256 % 16 = v.toNat := q
        omega
      · show z / 16 % 16 = v
        have q : z.toNat / 16 % 16 = v.toNat := q
        omega
      · show z % 16 = v
        have q : z.toNat / 1 % 16 = v.toNat := q
        omega
    · rw [if_neg e]
      rw [if_neg (by omega)] at q
      rcases c with rfl | rfl | rfl | rfl | rfl | rfl
      · show z / 1048576 % 16 = s / 1048576 % 16
        have q : z.toNat / 1048576 % 16 = s.toNat / 1048576 % 16 := q
        omega
      · show z / 65536 % 16 = s / 65536 % 16
        have q : z.toNat / 65536 % 16 = s.toNat / 65536 % 16 := q
        omega
      · show z / 4096 % 16 = s / 4096 % 16
        have q : z.toNat / 4096 % 16 = s.toNat / 4096 % 16 := q
        omega
      · show z / 256 % 16 = s / 256 % 16
        have q : z.toNat / 256 % 16 = s.toNat / 256 % 16 := q
        omega
      · show z / 16 % 16 = s / 16 % 16
        have q : z.toNat / 16 % 16 = s.toNat / 16 % 16 := q
        omega
      · show z % 16 = s % 16
        have q : z.toNat / 1 % 16 = s.toNat / 1 % 16 := q
        omega
  have c : n = 0 ∨ n = 1 ∨ n = 2 ∨ n = 3 ∨ n = 4 ∨ n = 5 := by omega
  rcases c with rfl | rfl | rfl | rfl | rfl | rfl
  · obtain ⟨k1, k2⟩ := key 5 ((Int32.ofInt s &&& ((Int32.ofInt 15 <<< (Int32.ofInt ((5 - 0) * 4) &&& 31)) ^^^ Int32.ofInt (-1))) ||| (Int32.ofInt v <<< (Int32.ofInt ((5 - 0) * 4) &&& 31))) (by decide) rfl
    exact ⟨k1, fin 5 _ (by decide) rfl k1 k2⟩
  · obtain ⟨k1, k2⟩ := key 4 ((Int32.ofInt s &&& ((Int32.ofInt 15 <<< (Int32.ofInt ((5 - 1) * 4) &&& 31)) ^^^ Int32.ofInt (-1))) ||| (Int32.ofInt v <<< (Int32.ofInt ((5 - 1) * 4) &&& 31))) (by decide) rfl
    exact ⟨k1, fin 4 _ (by decide) rfl k1 k2⟩
  · obtain ⟨k1, k2⟩ := key 3 ((Int32.ofInt s &&& ((Int32.ofInt 15 <<< (Int32.ofInt ((5 - 2) * 4) &&& 31)) ^^^ Int32.ofInt (-1))) ||| (Int32.ofInt v <<< (Int32.ofInt ((5 - 2) * 4) &&& 31))) (by decide) rfl
    exact ⟨k1, fin 3 _ (by decide) rfl k1 k2⟩
  · obtain ⟨k1, k2⟩ := key 2 ((Int32.ofInt s &&& ((Int32.ofInt 15 <<< (Int32.ofInt ((5 - 3) * 4) &&& 31)) ^^^ Int32.ofInt (-1))) ||| (Int32.ofInt v <<< (Int32.ofInt ((5 - 3) * 4) &&& 31))) (by decide) rfl
    exact ⟨k1, fin 2 _ (by decide) rfl k1 k2⟩
  · obtain ⟨k1, k2⟩ := key 1 ((Int32.ofInt s &&& ((Int32.ofInt 15 <<< (Int32.ofInt ((5 - 4) * 4) &&& 31)) ^^^ Int32.ofInt (-1))) ||| (Int32.ofInt v <<< (Int32.ofInt ((5 - 4) * 4) &&& 31))) (by decide) rfl
    exact ⟨k1, fin 1 _ (by decide) rfl k1 k2⟩
  · obtain ⟨k1, k2⟩ := key 0 ((Int32.ofInt s &&& ((Int32.ofInt 15 <<< (Int32.ofInt ((5 - 5) * 4) &&& 31)) ^^^ Int32.ofInt (-1))) ||| (Int32.ofInt v <<< (Int32.ofInt ((5 - 5) * 4) &&& 31))) (by decide) rfl
    exact ⟨k1, fin 0 _ (by decide) rfl k1 k2⟩
/-- a state of the class has these digits -/
def st9 (s : Int) (d : Nat → Int) : Prop := (0 ≤ s ∧ s < 16777216) ∧ ∀ j, j < 6 → nb9 s j = d j ∧ 0 ≤ d j ∧ d j ≤ 9
theorem st9.ext {s s' : Int} {d : Nat → Int} (h : st9 s d) (h' : st9 s' d) : s = s' := by
  obtain ⟨a, b⟩ := h
  obtain ⟨a', b'⟩ := h'
  have e : ∀ j, j < 6 → nb9 s j = nb9 s' j := fun j hj => (b j hj).1.trans (b' j hj).1.symm
  have e0 : s / 1048576 % 16 = s' / 1048576 % 16 := e 0 (by decide)
  have e1 : s / 65536 % 16 = s' / 65536 % 16 := e 1 (by decide)
  have e2 : s / 4096 % 16 = s' / 4096 % 16 := e 2 (by decide)
  have e3 : s / 256 % 16 = s' / 256 % 16 := e 3 (by decide)
  have e4 : s / 16 % 16 = s' / 16 % 16 := e 4 (by decide)
  have e5 : s % 16 = s' % 16 := e 5 (by decide)
  omega
theorem st9.cg {s : Int} {d d' : Nat → Int} (h : st9 s d) (e : ∀ j, j < 6 → d' j = d j) : st9 s d' := ⟨h.1, fun j hj => by rw [e j hj]; exact h.2 j hj⟩
