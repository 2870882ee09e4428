/-! the number of zeros at the end, and times, exactly (own work) -/
theorem bv_low {x : BitVec 32} {z m : Nat} (h : x.toNat = 2 ^ z * (2 * m + 1)) (hz : z < 32) : (~~~x) &&& (x - 1#32) = BitVec.ofNat 32 (2 ^ z - 1) := by
  have hp : 1 ≤ 2 ^ z := Nat.one_le_two_pow
  have hx := x.isLt
  have hsub : (x - 1#32).toNat = 2 ^ z * (2 * m) + (2 ^ z - 1) := by
    rw [BitVec.toNat_sub]
    show (2 ^ 32 - 1 + x.toNat) % 2 ^ 32 = _
    have e : 2 ^ z * (2 * m + 1) = 2 ^ z * (2 * m) + 2 ^ z := by rw [Nat.mul_add, Nat.mul_one]
    rw [h] at hx ⊢
    rw [e] at hx ⊢
    have : 2 ^ 32 - 1 + (2 ^ z * (2 * m) + 2 ^ z) = 2 ^ 32 + (2 ^ z * (2 * m) + (2 ^ z - 1)) := by omega
    rw [this, Nat.add_mod_left]
    exact Nat.mod_eq_of_lt (by omega)
  apply BitVec.eq_of_getLsbD_eq
  intro i hi
  rw [BitVec.getLsbD_and, BitVec.getLsbD_not, BitVec.getLsbD_ofNat]
  have b1 : x.getLsbD i = (2 ^ z * (2 * m + 1) + 0).testBit i := by
    show x.toNat.testBit i = _
    rw [h]; rfl
  have b2 : (x - 1#32).getLsbD i = (2 ^ z * (2 * m) + (2 ^ z - 1)).testBit i := by
    show (x - 1#32).toNat.testBit i = _
    rw [hsub]
  rw [b1, b2, Nat.testBit_two_pow_mul_add _ (by omega), Nat.testBit_two_pow_mul_add _ (by omega), Nat.testBit_two_pow_sub_one]
  simp only [hi, decide_true, Bool.true_and]
  by_cases k : i < z
  · rw [if_pos k, if_pos k]
    simp [k]
  · rw [if_neg k, if_neg k]
    by_cases q : i = z
    · subst q
      simp
    · have e : i - z = (i - z - 1) + 1 := by omega
      rw [e, Nat.testBit_succ, Nat.testBit_succ]
      have e1 : (2 * m + 1) / 2 = m := by omega
      have e2 : 2 * m / 2 = m := by omega
      rw [e1, e2]
      simp [k]
theorem ji_y {a : Int} {z m : Nat} (h : (Int32.ofInt a).toBitVec.toNat = 2 ^ z * (2 * m + 1)) (hz : z < 32) : iAnd (iXor a (-1)) (a - 1) = ((2 ^ z - 1 : Nat) : Int) := by
  have e : iAnd (iXor a (-1)) (a - 1) = (((Int32.ofInt (Int32.ofInt a ^^^ Int32.ofInt (-1)).toInt).toBitVec) &&& (Int32.ofInt (a - 1)).toBitVec).toInt := rfl
  have e1 : Int32.ofInt (Int32.ofInt a ^^^ Int32.ofInt (-1)).toInt = Int32.ofInt a ^^^ Int32.ofInt (-1) := Int32.ofInt_toInt _
  have e2 : (Int32.ofInt a ^^^ Int32.ofInt (-1)).toBitVec = ~~~ (Int32.ofInt a).toBitVec := by
    show (Int32.ofInt a).toBitVec ^^^ BitVec.ofInt 32 (-1) = _
    rw [show BitVec.ofInt 32 (-1) = BitVec.allOnes 32 by decide, BitVec.xor_allOnes]
  have e3 : (Int32.ofInt (a - 1)).toBitVec = (Int32.ofInt a).toBitVec - 1#32 := by
    show BitVec.ofInt 32 (a - 1) = BitVec.ofInt 32 a - 1#32
    rw [Int.sub_eq_add_neg, BitVec.ofInt_add, BitVec.sub_eq_add_neg]
    rfl
  rw [e, e1, e2, e3, bv_low h hz]
  have hp : 2 ^ z ≤ 2 ^ 31 := Nat.pow_le_pow_right (by decide) (by omega)
  have hn : (BitVec.ofNat 32 (2 ^ z - 1)).toNat = 2 ^ z - 1 := by
    rw [BitVec.toNat_ofNat]
    exact Nat.mod_eq_of_lt (by omega)
  rw [BitVec.toInt_eq_toNat_of_lt (by rw [hn]; omega), hn]
theorem ji_ntz {A : mA} {a : Int} {z m : Nat} (h : (Int32.ofInt a).toBitVec.toNat = 2 ^ z * (2 * m + 1)) (hz : z < 32) : f_JI_ntz A a = some ((z : Int), A) := by
  have e := ji_y h hz
  unfold f_JI_ntz
  rw [e]
  clear e h
  have hz' : z = 0 ∨ z = 1 ∨ z = 2 ∨ z = 3 ∨ z = 4 ∨ z = 5 ∨ z = 6 ∨ z = 7 ∨ z = 8 ∨ z = 9 ∨ z = 10 ∨ z = 11 ∨ z = 12 ∨ z = 13 ∨ z = 14 ∨ z = 15 ∨ z = 16 ∨ z = 17 ∨ z = 18 ∨ z = 19 ∨ z = 20 ∨ z = 21 ∨ z = 22 ∨ z = 23 ∨ z = 24 ∨ z = 25 ∨ z = 26 ∨ z = 27 ∨ z = 28 ∨ z = 29 ∨ z = 30 ∨ z = 31 := by omega
  rcases hz' with rfl | rfl | rfl | rfl | rfl | rfl | rfl | rfl | rfl | rfl | rfl | rfl | rfl | rfl | rfl | rfl | rfl | rfl | rfl | rfl | rfl | rfl | rfl | rfl | rfl | rfl | rfl | rfl | rfl | rfl | rfl | rfl
  all_goals rfl
theorem nat_odd : ∀ n : Nat, 0 < n → ∃ z m, n = 2 ^ z * (2 * m + 1) := by
  intro n
  induction n using Nat.strongRecOn with
  | _ n ih =>
    intro h
    by_cases k : n % 2 = 1
    · exact ⟨0, n / 2, by omega⟩
    · obtain ⟨z, m, e⟩ := ih (n / 2) (by omega) (by omega)
      refine ⟨z + 1, m, ?_⟩
      have : n = 2 * (n / 2) := by omega
      rw [this, e, Nat.pow_succ, Nat.mul_comm (2 ^ z) 2, Nat.mul_assoc]
/-- the number of zeros at the end of a long, exactly -/
theorem jl_ntz {A : mA} {n z m : Nat} (hn : n = 2 ^ z * (2 * m + 1)) (hl : n < 2 ^ 63) : f_JL_ntz A n = some ((z : Int), A) ∧ z < 63 := by
  have hz : z < 63 := by
    have h1 : 2 ^ z ≤ n := by rw [hn]; exact Nat.le_mul_of_pos_right _ (by omega)
    rcases Nat.lt_or_ge z 63 with q | q
    · exact q
    · have := Nat.pow_le_pow_right (n := 2) (by decide) q
      omega
  have low : (Int32.ofInt (nm32 n)).toBitVec.toNat = n % 2 ^ 32 := by
    have e : Int32.ofInt (nm32 n) = Int32.ofInt n := Int32.ofInt_toInt _
    rw [e]
    show (BitVec.ofInt 32 ((n : Nat) : Int)).toNat = _
    rw [BitVec.ofInt_natCast, BitVec.toNat_ofNat]
  refine ⟨?_, hz⟩
  unfold f_JL_ntz
  by_cases k : z < 32
  · -- in the low half
    have e1 : n % 2 ^ 32 = 2 ^ z * (2 * (m % 2 ^ (31 - z)) + 1) := by
      have e32 : 2 ^ 32 = 2 ^ z * (2 * 2 ^ (31 - z)) := by
        rw [← Nat.pow_succ', ← Nat.pow_add]
        congr 1
        omega
      rw [hn, e32, Nat.mul_mod_mul_left]
      congr 1
      have hd := Nat.div_add_mod m (2 ^ (31 - z))
      have hlt := Nat.mod_lt m (show 0 < 2 ^ (31 - z) from Nat.two_pow_pos _)
      have e9 : 2 * m + 1 = (2 * 2 ^ (31 - z)) * (m / 2 ^ (31 - z)) + (2 * (m % 2 ^ (31 - z)) + 1) := by
        rw [Nat.mul_assoc]
        omega
      rw [e9, Nat.mul_add_mod]
      exact Nat.mod_eq_of_lt (by omega)
    have hne : ¬ nm32 n = 0 := fun q => by
      rw [q] at low
      have : n % 2 ^ 32 = 0 := low.symm
      rw [e1] at this
      have h9 : 0 < 2 ^ z * (2 * (m % 2 ^ (31 - z)) + 1) := Nat.mul_pos (Nat.two_pow_pos _) (by omega)
      omega
    rw [if_neg hne, ji_ntz (low.trans e1) k, obind]
  · have e1 : n = 2 ^ 32 * (2 ^ (z - 32) * (2 * m + 1)) := by
      rw [← Nat.mul_assoc, ← Nat.pow_add, hn]
      congr 2
      omega
    have h0 : nm32 n = 0 := by
      have h1 : (Int32.ofInt (nm32 n)).toBitVec.toNat = 0 := by rw [low, e1, Nat.mul_mod_right]
      have h2 : (Int32.ofInt n).toBitVec.toNat = 0 := by
        have e : Int32.ofInt (nm32 n) = Int32.ofInt n := Int32.ofInt_toInt _
        rw [e] at h1; exact h1
      have h3 : (Int32.ofInt n).toBitVec = 0#32 := BitVec.eq_of_toNat_eq h2
      show (Int32.ofInt n).toBitVec.toInt = 0
      rw [h3]; rfl
    have eh : lUsh n 32 = ((n / 2 ^ 32 : Nat) : Int) := by
      have e : lUsh n 32 = ((Int64.ofInt n).toBitVec >>> 32).toInt := rfl
      have hb : ((Int64.ofInt n).toBitVec >>> 32).toNat = n / 2 ^ 32 := by
        rw [BitVec.toNat_ushiftRight, Nat.shiftRight_eq_div_pow]
        congr 1
        show (BitVec.ofInt 64 ((n : Nat) : Int)).toNat = _
        rw [BitVec.ofInt_natCast, BitVec.toNat_ofNat]
        exact Nat.mod_eq_of_lt (by omega)
      have hlt : n / 2 ^ 32 < 2 ^ 31 := by omega
      rw [e, BitVec.toInt_eq_toNat_of_lt (by rw [hb]; omega), hb]
    have hi : (Int32.ofInt (nm32 (lUsh n 32))).toBitVec.toNat = 2 ^ (z - 32) * (2 * m + 1) := by
      have e : Int32.ofInt (nm32 (lUsh n 32)) = Int32.ofInt (lUsh n 32) := Int32.ofInt_toInt _
      have hd : n / 2 ^ 32 = 2 ^ (z - 32) * (2 * m + 1) := by
        rw [e1]; exact Nat.mul_div_cancel_left _ (by decide)
      rw [e, eh]
      show (BitVec.ofInt 32 ((n / 2 ^ 32 : Nat) : Int)).toNat = _
      rw [BitVec.ofInt_natCast, BitVec.toNat_ofNat, ← hd]
      exact Nat.mod_eq_of_lt (by omega)
    rw [if_pos h0, ji_ntz hi (by omega), obind]
    have e9 : nm32 (32 + ((z - 32 : Nat) : Int)) = (z : Int) := by
      have : 32 + ((z - 32 : Nat) : Int) = (z : Int) := by omega
      rw [this]
      exact Int32.toInt_ofInt_of_le (by omega) (by omega)
    show some (nm32 (32 + ((z - 32 : Nat) : Int)), A) = _
    rw [e9]
theorem dvd_odd {k z m : Nat} (h : 2 ^ k ∣ 2 ^ z * (2 * m + 1)) : k ≤ z := by
  rcases Nat.lt_or_ge z k with q | q
  · exfalso
    obtain ⟨c, hc⟩ := h
    have e : 2 ^ k = 2 ^ z * (2 * 2 ^ (k - z - 1)) := by
      rw [← Nat.pow_succ', ← Nat.pow_add]
      congr 1
      omega
    rw [e, Nat.mul_assoc] at hc
    have h2 := Nat.eq_of_mul_eq_mul_left (Nat.two_pow_pos z) hc
    rw [Nat.mul_assoc] at h2
    omega
  · exact q
theorem m_times {A : mA} {a b B b' : Int} (hB : 0 ≤ B) (hb' : 0 ≤ b') (h50 : B + b' ≤ 50) (ha : 0 ≤ a ∧ a ≤ 1125899906842624) (hb : 0 ≤ b ∧ b ≤ 1125899906842624) (da : dv B ∣ a) (db : dv b' ∣ b) : f_Mo_times A a b = some (a * b / 1125899906842624, A) := by
  unfold f_Mo_times
  rw [if_pos (show g64 b by unfold g64; omega)]
  by_cases k : b = 0
  · subst k
    rw [if_pos (show lc 0 0 = 0 by decide), Int.mul_zero]
    rfl
  · have hlc : ¬ lc b 0 = 0 := by
      unfold lc
      rw [if_neg (by omega), if_neg k]
      decide
    rw [if_neg hlc]
    obtain ⟨n, rfl⟩ : ∃ n : Nat, b = n := ⟨b.toNat, by omega⟩
    obtain ⟨z, m, hn⟩ := nat_odd n (by omega)
    have hle : n ≤ 2 ^ 50 := by have := hb.2; omega
    have hz : z ≤ 50 := by
      have h1 : 2 ^ z ≤ n := by rw [hn]; exact Nat.le_mul_of_pos_right _ (by omega)
      rcases Nat.lt_or_ge 50 z with q | q
      · have := Nat.pow_le_pow_right (n := 2) (by decide) q
        omega
      · exact q
    obtain ⟨j1, -⟩ := jl_ntz (A := A) hn (by omega)
    rw [j1, obind]
    have hk : (50 - b').toNat ≤ z := by
      refine dvd_odd (m := m) ?_
      rw [← hn]
      have : ((2 ^ (50 - b').toNat : Nat) : Int) ∣ (n : Int) := by
        rw [Int.natCast_pow]
        exact db
      exact Int.natCast_dvd_natCast.mp this
    have e1 : lShr a (50 - (z : Int)) = a / 2 ^ (50 - z) := by
      have : 50 - (z : Int) = ((50 - z : Nat) : Int) := by omega
      rw [this]
      exact lShr_x (by unfold g64; omega) (by omega)
    have e2 : lShr (n : Int) (z : Int) = (n : Int) / 2 ^ z := lShr_x (by unfold g64; omega) (by omega)
    have hda : (2 : Int) ^ (50 - z) ∣ a := by
      refine Int.dvd_trans ?_ da
      unfold dv
      refine ⟨(2 : Int) ^ ((50 - B).toNat - (50 - z)), ?_⟩
      rw [← Int.pow_add]
      congr 1
      omega
    obtain ⟨c, rfl⟩ := hda
    have hnd : ((n : Nat) : Int) = (2 : Int) ^ z * (2 * (m : Int) + 1) := by
      rw [hn, Int.natCast_mul, Int.natCast_pow]
      congr 1
    show some (lShr ((2 : Int) ^ (50 - z) * c) (50 - (z : Int)) * lShr (n : Int) (z : Int), A) = _
    rw [e1, e2, Int.mul_ediv_cancel_left _ (Int.ne_of_gt (Int.pow_pos (by decide))), hnd, Int.mul_ediv_cancel_left _ (Int.ne_of_gt (Int.pow_pos (by decide)))]
    have e3 : (2 : Int) ^ (50 - z) * c * ((2 : Int) ^ z * (2 * (m : Int) + 1)) = 1125899906842624 * (c * (2 * (m : Int) + 1)) := by
      have e4 : (2 : Int) ^ (50 - z) * (2 : Int) ^ z = 1125899906842624 := by
        rw [← Int.pow_add, show 50 - z + z = 50 by omega]
        decide
      calc (2 : Int) ^ (50 - z) * c * ((2 : Int) ^ z * (2 * (m : Int) + 1)) = ((2 : Int) ^ (50 - z) * (2 : Int) ^ z) * (c * (2 * (m : Int) + 1)) := by
            rw [Int.mul_assoc, Int.mul_assoc, ← Int.mul_assoc c, Int.mul_comm c, Int.mul_assoc ((2 : Int) ^ z) c]
        _ = _ := by rw [e4]
    rw [e3, Int.mul_ediv_cancel_left _ (by decide)]
