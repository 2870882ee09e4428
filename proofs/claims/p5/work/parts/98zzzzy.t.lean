/-! masks of the class: what they leave of a state (own work) -/
def mkL : Nat → List Int
  | 0 => [0]
  | n + 1 => (mkL n).flatMap (fun M => [iOr M (iShl 15 ((5 - (n : Int)) * 4)), iOr M 0])
theorem mkL_ok : ∀ M ∈ mkL 6, (0 ≤ M ∧ M < 16777216) ∧ ∀ j, j < 6 → nb9 M j = 0 ∨ nb9 M j = 15 := by decide +kernel
theorem c_mask4 {A : mA} {kept : Int} (hk : g32 kept) : ∀ (r n F : Nat) (M : Int), n + r = 6 → r < F → M ∈ mkL n → ∃ M', f_CS_maskOf_4 F A kept M n = some (M', A) ∧ M' ∈ mkL 6 := by
  intro r
  induction r with
  | zero =>
    intro n F M h1 h2 h3
    obtain ⟨F, rfl⟩ : ∃ q, F = q + 1 := ⟨F - 1, by omega⟩
    obtain rfl : n = 6 := by omega
    exact ⟨M, rfl, h3⟩
  | succ r ih =>
    intro n F M h1 h2 h3
    obtain ⟨F, rfl⟩ : ∃ q, F = q + 1 := ⟨F - 1, by omega⟩
    have e3 : ((n : Int) + 1) = ((n + 1 : Nat) : Int) := by omega
    have m1 : iOr M (iShl 15 ((5 - (n : Int)) * 4)) ∈ mkL (n + 1) := List.mem_flatMap.mpr ⟨M, h3, List.mem_cons_self⟩
    have m2 : iOr M 0 ∈ mkL (n + 1) := List.mem_flatMap.mpr ⟨M, h3, List.mem_cons_of_mem _ List.mem_cons_self⟩
    obtain ⟨x, x1, x2⟩ := ih (n + 1) F _ (by omega) (by omega) m1
    obtain ⟨y, y1, y2⟩ := ih (n + 1) F _ (by omega) (by omega) m2
    unfold f_CS_maskOf_4
    rw [if_pos (show g32 (n : Int) by unfold g32; omega), if_neg (show ¬ (6 : Int) ≤ n by omega), if_pos hk, e3]
    by_cases k : kept = -1
    · rw [if_pos k]
      exact ⟨x, x1, x2⟩
    · rw [if_neg k]
      by_cases q : iAnd (iShr kept n) 1 = 1
      · rw [if_pos q]
        exact ⟨x, x1, x2⟩
      · rw [if_neg q]
        exact ⟨y, y1, y2⟩
theorem c_mask {A : mA} {kept : Int} (hk : g32 kept) : ∃ M, f_CS_maskOf A kept = some (M, A) ∧ (0 ≤ M ∧ M < 16777216) ∧ (∀ j, j < 6 → nb9 M j = 0 ∨ nb9 M j = 15) := by
  obtain ⟨M, h1, h2⟩ := c_mask4 (A := A) hk 6 0 20 0 rfl (by decide) List.mem_cons_self
  exact ⟨M, h1, mkL_ok M h2⟩
theorem c_maskN {A : mA} : f_CS_maskOf A (-1) = some (16777215, A) := by
  have s : ∀ (F n : Nat) (M M' : Int), n < 6 → iOr M (iShl 15 ((5 - (n : Int)) * 4)) = M' → f_CS_maskOf_4 (F + 1) A (-1) M n = f_CS_maskOf_4 F A (-1) M' ((n + 1 : Nat) : Int) := fun F n M M' hn e => by
    have e3 : ((n : Int) + 1) = ((n + 1 : Nat) : Int) := by omega
    conv => lhs; unfold f_CS_maskOf_4
    rw [if_pos (show g32 (n : Int) by unfold g32; omega), if_neg (show ¬ (6 : Int) ≤ n by omega), if_pos (show g32 (-1) by decide), if_pos rfl, e3]
    show f_CS_maskOf_4 F A (-1) (iOr M (iShl 15 ((5 - (n : Int)) * 4))) _ = _
    rw [e]
  have h : f_CS_maskOf_4 20 A (-1) 0 ((0 : Nat) : Int) = some (16777215, A) := by
    rw [s 19 0 0 15728640 (by decide) (by decide), s 18 1 _ 16711680 (by decide) (by decide), s 17 2 _ 16773120 (by decide) (by decide), s 16 3 _ 16776960 (by decide) (by decide), s 15 4 _ 16777200 (by decide) (by decide), s 14 5 _ 16777215 (by decide) (by decide)]
    rfl
  exact h
theorem and_nb {s M : Int} (hs : 0 ≤ s ∧ s < 16777216) (hM : 0 ≤ M ∧ M < 16777216) : (0 ≤ iAnd s M ∧ iAnd s M < 16777216) ∧ ∀ j, nb9 (iAnd s M) j = (((nb9 s j).toNat &&& (nb9 M j).toNat : Nat) : Int) := by
  have e : iAnd s M = ((s.toNat &&& M.toNat : Nat) : Int) := by
    have q : ((Int32.ofInt s &&& Int32.ofInt M)).toBitVec.toNat = s.toNat &&& M.toNat := by
      show ((Int32.ofInt s).toBitVec &&& (Int32.ofInt M).toBitVec).toNat = _
      rw [BitVec.toNat_and, bv_of hs.1 (by omega), bv_of hM.1 (by omega)]
    have hle : s.toNat &&& M.toNat ≤ s.toNat := Nat.and_le_left
    unfold iAnd
    rw [i32_small rfl (by rw [q]; omega), q]
  have hle : s.toNat &&& M.toNat ≤ s.toNat := Nat.and_le_left
  refine ⟨by rw [e]; omega, fun j => ?_⟩
  have key : ∀ k : Nat, (s.toNat &&& M.toNat) / 2 ^ k % 16 = (s.toNat / 2 ^ k % 16) &&& (M.toNat / 2 ^ k % 16) := fun k => by
    rw [← Nat.shiftRight_eq_div_pow, ← Nat.shiftRight_eq_div_pow, ← Nat.shiftRight_eq_div_pow, Nat.shiftRight_and_distrib]
    exact Nat.and_mod_two_pow (n := 4)
  obtain ⟨a, rfl⟩ : ∃ a : Nat, s = a := ⟨s.toNat, by omega⟩
  obtain ⟨b, rfl⟩ : ∃ b : Nat, M = b := ⟨M.toNat, by omega⟩
  rw [e]
  simp only [Int.toNat_natCast] at key ⊢
  have cast : ∀ d : Nat, 0 < d → ∀ x : Nat, ((x : Nat) : Int) / (d : Int) % 16 = ((x / d % 16 : Nat) : Int) := fun d _ x => by omega
  have fin : ∀ (k d : Nat), 2 ^ k = d → 0 < d → (((a &&& b : Nat) : Int)) / (d : Int) % 16 = (((((a : Int)) / (d : Int) % 16).toNat &&& (((b : Int)) / (d : Int) % 16).toNat : Nat) : Int) := fun k d hd h0 => by
    rw [cast d h0, cast d h0, cast d h0, Int.toNat_natCast, Int.toNat_natCast, ← hd, key]
  have hj : j = 0 ∨ j = 1 ∨ j = 2 ∨ j = 3 ∨ j = 4 ∨ 5 ≤ j := by omega
  rcases hj with rfl | rfl | rfl | rfl | rfl | hj
  · exact fin 20 1048576 rfl (by decide)
  · exact fin 16 65536 rfl (by decide)
  · exact fin 12 4096 rfl (by decide)
  · exact fin 8 256 rfl (by decide)
  · exact fin 4 16 rfl (by decide)
  · obtain ⟨j, rfl⟩ : ∃ q, j = q + 5 := ⟨j - 5, by omega⟩
    have := key 0
    simp only [Nat.pow_zero, Nat.div_one] at this
    show ((a &&& b : Nat) : Int) % 16 = ((((a : Int) % 16).toNat &&& ((b : Int) % 16).toNat : Nat) : Int)
    have c1 : ∀ x : Nat, ((x : Nat) : Int) % 16 = ((x % 16 : Nat) : Int) := fun x => by omega
    rw [c1, c1, c1, Int.toNat_natCast, Int.toNat_natCast, this]
def rho (M t : Int) : Int := dsum (fun j => if nb9 M j = 15 then dd t j else 0)
theorem dd_r (t : Int) (j : Nat) : 0 ≤ dd t j ∧ dd t j ≤ 9 := by unfold dd; split <;> omega
theorem rho_r (M t : Int) : 0 ≤ rho M t ∧ rho M t ≤ 999999 := by
  have k : ∀ j, 0 ≤ (if nb9 M j = 15 then dd t j else 0) ∧ (if nb9 M j = 15 then dd t j else 0) ≤ 9 := fun j => by
    have := dd_r t j
    split <;> omega
  unfold rho dsum
  show 0 ≤ 100000 * (if nb9 M 0 = 15 then dd t 0 else 0) + 10000 * (if nb9 M 1 = 15 then dd t 1 else 0) + 1000 * (if nb9 M 2 = 15 then dd t 2 else 0) + 100 * (if nb9 M 3 = 15 then dd t 3 else 0) + 10 * (if nb9 M 4 = 15 then dd t 4 else 0) + (if nb9 M 5 = 15 then dd t 5 else 0) ∧ 100000 * (if nb9 M 0 = 15 then dd t 0 else 0) + 10000 * (if nb9 M 1 = 15 then dd t 1 else 0) + 1000 * (if nb9 M 2 = 15 then dd t 2 else 0) + 100 * (if nb9 M 3 = 15 then dd t 3 else 0) + 10 * (if nb9 M 4 = 15 then dd t 4 else 0) + (if nb9 M 5 = 15 then dd t 5 else 0) ≤ 999999
  have := k 0; have := k 1; have := k 2; have := k 3; have := k 4; have := k 5
  omega
theorem okM_of {M : Int} (hM : 0 ≤ M ∧ M < 16777216) (h : ∀ j, j < 6 → nb9 M j = 0 ∨ nb9 M j = 15) : okM M (rho M) := fun s hs => by
  obtain ⟨a, b⟩ := and_nb hs.1 hM
  have n9 : ∀ v : Fin 10, v.val &&& 15 = v.val := by decide
  have hn : ∀ j, j < 6 → nb9 (iAnd s M) j = if nb9 M j = 15 then nb9 s j else 0 := fun j hj => by
    have r := (hs.2 j hj).2
    rw [b j]
    rcases h j hj with q | q
    · rw [q, if_neg (by decide)]
      show ((((nb9 s j).toNat &&& 0 : Nat)) : Int) = 0
      rw [Nat.and_zero]
      rfl
    · rw [q, if_pos rfl]
      have := n9 ⟨(nb9 s j).toNat, by omega⟩
      show ((((nb9 s j).toNat &&& 15 : Nat)) : Int) = _
      have this : (nb9 s j).toNat &&& 15 = (nb9 s j).toNat := this
      rw [this]
      omega
  refine ⟨⟨a, fun j hj => ⟨rfl, ?_⟩⟩, ?_⟩
  · rw [hn j hj]
    have r := (hs.2 j hj).2
    split
    · exact r
    · decide
  · unfold rho
    show dsum (nb9 (iAnd s M)) = _
    refine dsum_cg (fun j hj => ?_)
    rw [hn j hj, (hs.tn.2 j hj).1]
theorem rho_id {t : Int} (h : 0 ≤ t ∧ t ≤ 999999) : rho 16777215 t = t := by
  unfold rho
  have e : ∀ j, nb9 16777215 j = 15 := fun j => by unfold nb9; split <;> rfl
  simp only [e, if_true]
  unfold dsum dd
  show 100000 * (t / 100000 % 10) + 10000 * (t / 10000 % 10) + 1000 * (t / 1000 % 10) + 100 * (t / 100 % 10) + 10 * (t / 10 % 10) + t % 10 = t
  omega
theorem rmp_id {L : List xE} (h : ∀ q ∈ L, 0 ≤ q.1 ∧ q.1 ≤ 999999) : rmp (rho 16777215) L = L := by
  unfold rmp
  induction L with
  | nil => rfl
  | cons q L ih =>
    rw [List.map_cons, ih (fun z hz => h z (List.mem_cons_of_mem _ hz)), rho_id (h q List.mem_cons_self)]
/-- a mask as the walk takes it: what is kept, and what it leaves -/
theorem c_keep {A : mA} {kept : Int} (hk : g32 kept) : ∃ M, f_CS_maskOf A kept = some (M, A) ∧ okM M (rho M) ∧ (kept = -1 → M = 16777215) := by
  by_cases k : kept = -1
  · subst k
    exact ⟨16777215, c_maskN, okM_of (by decide) (fun j _ => Or.inr (by unfold nb9; split <;> rfl)), fun _ => rfl⟩
  · obtain ⟨M, h1, h2, h3⟩ := c_mask (A := A) hk
    exact ⟨M, h1, okM_of h2 h3, fun q => absurd q k⟩
theorem tot_rmp {ρ : Int → Int} {L : List xE} : tot (rmp ρ L) = tot L := by
  unfold rmp
  induction L with
  | nil => rfl
  | cons q L ih => rw [List.map_cons]; simp only [tot]; rw [ih]
/-- the mask is the same in every memory -/
theorem c_mask4w {C C' : mA} {kept : Int} (hk : g32 kept) : ∀ (r n F : Nat) (M : Int), n + r = 6 → r < F → ∃ M', f_CS_maskOf_4 F C kept M n = some (M', C) ∧ f_CS_maskOf_4 F C' kept M n = some (M', C') := by
  intro r
  induction r with
  | zero =>
    intro n F M h1 h2
    obtain ⟨F, rfl⟩ : ∃ q, F = q + 1 := ⟨F - 1, by omega⟩
    obtain rfl : n = 6 := by omega
    exact ⟨M, rfl, rfl⟩
  | succ r ih =>
    intro n F M h1 h2
    obtain ⟨F, rfl⟩ : ∃ q, F = q + 1 := ⟨F - 1, by omega⟩
    have e3 : ((n : Int) + 1) = ((n + 1 : Nat) : Int) := by omega
    obtain ⟨x, x1, x2⟩ := ih (n + 1) F (iOr M (iShl 15 ((5 - (n : Int)) * 4))) (by omega) (by omega)
    obtain ⟨y, y1, y2⟩ := ih (n + 1) F (iOr M 0) (by omega) (by omega)
    unfold f_CS_maskOf_4
    rw [if_pos (show g32 (n : Int) by unfold g32; omega), if_neg (show ¬ (6 : Int) ≤ n by omega), if_pos hk, e3, if_pos (show g32 (n : Int) by unfold g32; omega), if_neg (show ¬ (6 : Int) ≤ n by omega), if_pos hk]
    by_cases k : kept = -1
    · rw [if_pos k, if_pos k]
      exact ⟨x, x1, x2⟩
    · rw [if_neg k, if_neg k]
      by_cases q : iAnd (iShr kept n) 1 = 1
      · rw [if_pos q, if_pos q]
        exact ⟨x, x1, x2⟩
      · rw [if_neg q, if_neg q]
        exact ⟨y, y1, y2⟩
theorem c_mask4v {C C' : mA} {kept : Int} (hk : g32 kept) : ∃ M', f_CS_maskOf C kept = some (M', C) ∧ f_CS_maskOf C' kept = some (M', C') := c_mask4w hk 6 0 20 0 rfl (by decide)
