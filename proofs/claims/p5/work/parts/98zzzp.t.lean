/-! ratios in lowest terms, often: both alike (own work) -/
section EUC
variable {A : mA}
theorem lc_0 (n : Nat) : (lc (n : Int) 0 = 0 ↔ n = 0) ∧ (lc (n : Int) 0 ≤ 0 ↔ n = 0) := by
  unfold lc
  by_cases h : n = 0
  · rw [if_neg (by omega), if_pos (by omega)]
    exact ⟨⟨fun _ => h, fun _ => rfl⟩, ⟨fun _ => h, fun _ => by omega⟩⟩
  · rw [if_neg (by omega), if_neg (by omega)]
    exact ⟨⟨fun q => by omega, fun q => absurd q h⟩, ⟨fun q => by omega, fun q => absurd q h⟩⟩
theorem half {b r k : Nat} (h : b < 2 ^ (k + 1)) (hr : r < b) (h0 : 0 < r) : b % r < 2 ^ k := by
  have e : 2 ^ (k + 1) = 2 ^ k * 2 := Nat.pow_succ 2 k
  by_cases q : r ≤ 2 ^ k
  · exact Nat.lt_of_lt_of_le (Nat.mod_lt _ h0) q
  · have : b % r = b - r := by
      rw [Nat.mod_eq_sub_mod (by omega), Nat.mod_eq_of_lt (by omega)]
    omega
theorem c_div0 {a c F : Nat} (ha : a < 2 ^ 62) (hc : c ≤ 200) : f_CS_divisorOf_9 (F + 1) A a (0 : Nat) c = some ((((if a = 0 then 1 else a) : Nat) : Int), A) := by
  have ha : a < 4611686018427387904 := ha
  have fin : (if g64 (a : Int) then (if lc (a : Int) 0 ≤ 0 then some (1, A) else some ((a : Int), A)) else none) = some ((((if a = 0 then 1 else a) : Nat) : Int), A) := by
    rw [if_pos (show g64 (a : Int) by unfold g64; omega)]
    by_cases h : a = 0
    · rw [if_pos ((lc_0 a).2.mpr h), if_pos h]
      rfl
    · rw [if_neg (fun q => h ((lc_0 a).2.mp q)), if_neg h]
  rw [f_CS_divisorOf_9, if_pos (show g32 (c : Int) by unfold g32; omega)]
  by_cases q : (200 : Int) ≤ c
  · rw [if_pos q]
    exact fin
  · rw [if_neg q, if_pos (show g64 ((0 : Nat) : Int) by decide), if_pos ((lc_0 0).1.mpr rfl)]
    exact fin
theorem c_div1 {a b c F : Nat} (ha : a < 2 ^ 62) (hb : b < 2 ^ 62) (h : 0 < b) (hc : c < 200) : f_CS_divisorOf_9 (F + 1) A a b c = f_CS_divisorOf_9 F A b (a % b : Nat) (c + 1 : Nat) := by
  have ha : a < 4611686018427387904 := ha
  have hb : b < 4611686018427387904 := hb
  rw [f_CS_divisorOf_9, if_pos (show g32 (c : Int) by unfold g32; omega), if_neg (by omega), if_pos (show g64 (b : Int) by unfold g64; omega), if_neg (fun q => absurd ((lc_0 b).1.mp q) (by omega)), if_pos (show g64 (a : Int) by unfold g64; omega), if_pos (show (b : Int) ≠ 0 by omega), Int.tmod_eq_emod_of_nonneg (by omega)]
  rfl
theorem c_divN : ∀ (k a b c F : Nat), b < 2 ^ k → k ≤ 62 → a < 2 ^ 62 → c + (2 * k + 2) ≤ 200 → f_CS_divisorOf_9 (F + (2 * k + 2)) A a b c = some ((((if Nat.gcd a b = 0 then 1 else Nat.gcd a b) : Nat) : Int), A) := by
  intro k
  induction k with
  | zero =>
    intro a b c F h1 h2 h3 h4
    have e : b = 0 := by
      have h1 : b < 1 := h1
      omega
    subst e
    rw [Nat.gcd_zero_right]
    exact c_div0 h3 (by omega)
  | succ k ih =>
    intro a b c F h1 h2 h3 h4
    have p1 : 2 ^ (k + 1) ≤ 2 ^ 62 := Nat.pow_le_pow_right (by decide) h2
    have p2 : 2 ^ k ≤ 2 ^ 62 := Nat.pow_le_pow_right (by decide) (by omega)
    by_cases q : b = 0
    · subst q
      rw [Nat.gcd_zero_right, show F + (2 * (k + 1) + 2) = (F + 2 * k + 3) + 1 by omega]
      exact c_div0 h3 (by omega)
    · have hb : b < 2 ^ 62 := by omega
      rw [show F + (2 * (k + 1) + 2) = (F + 2 * k + 3) + 1 by omega, c_div1 h3 hb (by omega) (by omega)]
      have lr := Nat.mod_lt a (show 0 < b by omega)
      have g1 : Nat.gcd a b = Nat.gcd b (a % b) := by
        rw [Nat.gcd_comm, Nat.gcd_rec, Nat.gcd_comm]
      rw [g1]
      generalize a % b = r at lr
      by_cases q2 : r = 0
      · subst q2
        rw [Nat.gcd_zero_right]
        exact c_div0 hb (by omega)
      · have hf := half h1 lr (by omega)
        have g2 : Nat.gcd b r = Nat.gcd r (b % r) := by
          rw [Nat.gcd_comm, Nat.gcd_rec, Nat.gcd_comm]
        rw [show F + 2 * k + 3 = (F + (2 * k + 2)) + 1 by omega, c_div1 hb (by omega) (by omega) (by omega), g2]
        exact ih r (b % r) (c + 1 + 1) F hf (by omega) (by omega) (by omega)
theorem m_low0 {a0 b0 a F : Nat} {p : Int} (gp : g32 p) (ha : a < 2 ^ 62) (h0 : 0 < a) (h1 : a0 < 2 ^ 62) (h2 : b0 < 2 ^ 62) : f_Mo_lowest_6 (F + 1) A a0 b0 p a (0 : Nat) = some ((((if p = 0 then a0 else b0) / a : Nat) : Int), A) := by
  have ha : a < 4611686018427387904 := ha
  have h1 : a0 < 4611686018427387904 := h1
  have h2 : b0 < 4611686018427387904 := h2
  rw [f_Mo_lowest_6, if_pos (show g64 ((0 : Nat) : Int) by decide), if_pos ((lc_0 0).1.mpr rfl), if_pos gp]
  by_cases q : p = 0
  · rw [if_pos q, if_pos q, if_pos (show g64 (a0 : Int) by unfold g64; omega), if_pos (show g64 (a : Int) by unfold g64; omega), if_pos (show (a : Int) ≠ 0 by omega), Int.tdiv_eq_ediv_of_nonneg (by omega)]
    rfl
  · rw [if_neg q, if_neg q, if_pos (show g64 (b0 : Int) by unfold g64; omega), if_pos (show g64 (a : Int) by unfold g64; omega), if_pos (show (a : Int) ≠ 0 by omega), Int.tdiv_eq_ediv_of_nonneg (by omega)]
    rfl
theorem m_low1 {a0 b0 : Int} {a b F : Nat} {p : Int} (ha : a < 2 ^ 62) (hb : b < 2 ^ 62) (h : 0 < b) : f_Mo_lowest_6 (F + 1) A a0 b0 p a b = f_Mo_lowest_6 F A a0 b0 p b (a % b : Nat) := by
  have ha : a < 4611686018427387904 := ha
  have hb : b < 4611686018427387904 := hb
  rw [f_Mo_lowest_6, if_pos (show g64 (b : Int) by unfold g64; omega), if_neg (fun q => absurd ((lc_0 b).1.mp q) (by omega)), if_pos (show g64 (a : Int) by unfold g64; omega), if_pos (show (b : Int) ≠ 0 by omega), Int.tmod_eq_emod_of_nonneg (by omega)]
  rfl
theorem m_lowN {a0 b0 : Nat} {p : Int} (gp : g32 p) (k1 : a0 < 2 ^ 62) (k2 : b0 < 2 ^ 62) : ∀ (k a b F : Nat), b < 2 ^ k → k ≤ 62 → a < 2 ^ 62 → 0 < Nat.gcd a b → f_Mo_lowest_6 (F + (2 * k + 2)) A a0 b0 p a b = some ((((if p = 0 then a0 else b0) / Nat.gcd a b : Nat) : Int), A) := by
  intro k
  induction k with
  | zero =>
    intro a b F h1 h2 h3 h4
    have e : b = 0 := by
      have h1 : b < 1 := h1
      omega
    subst e
    rw [Nat.gcd_zero_right] at h4 ⊢
    exact m_low0 gp h3 h4 k1 k2
  | succ k ih =>
    intro a b F h1 h2 h3 h4
    have p1 : 2 ^ (k + 1) ≤ 2 ^ 62 := Nat.pow_le_pow_right (by decide) h2
    have p2 : 2 ^ k ≤ 2 ^ 62 := Nat.pow_le_pow_right (by decide) (by omega)
    by_cases q : b = 0
    · subst q
      rw [Nat.gcd_zero_right] at h4 ⊢
      rw [show F + (2 * (k + 1) + 2) = (F + 2 * k + 3) + 1 by omega]
      exact m_low0 gp h3 h4 k1 k2
    · have hb : b < 2 ^ 62 := by omega
      rw [show F + (2 * (k + 1) + 2) = (F + 2 * k + 3) + 1 by omega, m_low1 h3 hb (by omega)]
      have lr := Nat.mod_lt a (show 0 < b by omega)
      have g1 : Nat.gcd a b = Nat.gcd b (a % b) := by
        rw [Nat.gcd_comm, Nat.gcd_rec, Nat.gcd_comm]
      rw [g1] at h4 ⊢
      generalize a % b = r at lr h4
      by_cases q2 : r = 0
      · subst q2
        rw [Nat.gcd_zero_right] at h4 ⊢
        exact m_low0 gp hb h4 k1 k2
      · have hf := half h1 lr (by omega)
        have g2 : Nat.gcd b r = Nat.gcd r (b % r) := by
          rw [Nat.gcd_comm, Nat.gcd_rec, Nat.gcd_comm]
        rw [g2] at h4
        rw [show F + 2 * k + 3 = (F + (2 * k + 2)) + 1 by omega, m_low1 hb (by omega) (by omega), g2]
        exact ih r (b % r) F hf (by omega) (by omega) h4
/-- in lowest terms, by both -/
def lowN (a b : Nat) (p : Int) : Nat := (if p = 0 then a else b) / Nat.gcd a b
theorem part_both {C : mA} {a b : Nat} {p : Int} (gp : g32 p) (ha : a < 2 ^ 62) (hb : b < 2 ^ 62) (h : 0 < b) : f_CS_partOf C a b p = some ((lowN a b p : Int), C) ∧ f_Mo_lowest A a b p = some ((lowN a b p : Int), A) := by
  have hg : 0 < Nat.gcd a b := Nat.gcd_pos_of_pos_right a h
  have gb : Nat.gcd a b ≤ b := Nat.gcd_le_right a h
  have ha' : a < 4611686018427387904 := ha
  have hb' : b < 4611686018427387904 := hb
  constructor
  · unfold f_CS_partOf f_CS_divisorOf
    have k := c_divN (A := C) 62 a b 0 84 hb (Nat.le_refl _) ha (by decide)
    rw [if_neg (show ¬ Nat.gcd a b = 0 by omega)] at k
    have k' : f_CS_divisorOf_9 210 C a b 0 = some (((Nat.gcd a b : Nat) : Int), C) := k
    rw [k', obind, if_pos (show g64 ((Nat.gcd a b : Nat) : Int) by unfold g64; omega), if_neg (fun q => absurd ((lc_0 _).1.mp q) (by omega)), if_pos gp]
    unfold lowN
    by_cases q : p = 0
    · rw [if_pos q, if_pos q, if_pos (show g64 (a : Int) by unfold g64; omega), if_pos (show ((Nat.gcd a b : Nat) : Int) ≠ 0 by omega), Int.tdiv_eq_ediv_of_nonneg (by omega)]
      rfl
    · rw [if_neg q, if_neg q, if_pos (show g64 (b : Int) by unfold g64; omega), if_pos (show ((Nat.gcd a b : Nat) : Int) ≠ 0 by omega), Int.tdiv_eq_ediv_of_nonneg (by omega)]
      rfl
  · exact m_lowN gp ha hb 62 a b 84 hb (Nat.le_refl _) ha hg
end EUC
section OFT
variable {C A C' A' C0 A0 : mA} {x wk : Nat}
theorem SM.trans (h : SM wk C0 A0 C A) (h' : SM wk C A C' A') : SM wk C0 A0 C' A' := ⟨fun f a j q => (h'.1 f a j q).trans (h.1 f a j q), fun f a j q => (h'.2.1 f a j q).trans (h.2.1 f a j q), h'.2.2⟩
theorem oft_sim {D : va_G} {G : tG} {w : jW} (hw : hW D G C0 w) (gx : G x = some 8) (hR : R9 x C0 A0) {p m : Nat} {sd nm v pt : Int} (hp : (p : Int) < A0 0 0 0) (hm : m ≤ 20) (hn : 0 ≤ nm ∧ nm < 6) (hv : g32 v) (gp : g32 pt) : ∀ (q k al su F F' : Nat) (C A : mA), k + q = m → q < F → q < F' → su ≤ al → al ≤ k → (C = C0 ∧ A = A0 ∨ SM (C0 8 x 10).toNat C0 A0 C A) → ∃ z C' A', f_CS_often_55 F C x p sd m nm v pt al su k = some (z, C') ∧ f_Mo_often_59 F' A p sd m nm v pt al su k = some (z, A') ∧ (C' = C0 ∧ A' = A0 ∨ SM (C0 8 x 10).toNat C0 A0 C' A') := by
  have b3 := hR.1.1.2.1.2.2
  intro q
  induction q with
  | zero =>
    intro k al su F F' C A h1 h2 h3 h4 h5 h6
    obtain ⟨F, rfl⟩ : ∃ q, F = q + 1 := ⟨F - 1, by omega⟩
    obtain ⟨F', rfl⟩ : ∃ q, F' = q + 1 := ⟨F' - 1, by omega⟩
    rw [f_CS_often_55, f_Mo_often_59, if_pos (show g32 (k : Int) by unfold g32; omega), if_pos (show g32 (m : Int) by unfold g32; omega), if_pos (show (m : Int) ≤ (k : Int) by omega), if_pos (show g32 (al : Int) by unfold g32; omega), if_pos (show g32 (k : Int) by unfold g32; omega), if_pos (show g32 (m : Int) by unfold g32; omega), if_pos (show (m : Int) ≤ (k : Int) by omega), if_pos (show g32 (al : Int) by unfold g32; omega)]
    by_cases q0 : al = 0
    · rw [if_pos (show (al : Int) = 0 by omega), if_pos (show (al : Int) = 0 by omega)]
      exact ⟨_, C, A, rfl, rfl, h6⟩
    · obtain ⟨e1, e2⟩ := part_both (A := A) (C := C) (a := su) (b := al) gp (by omega) (by omega) (by omega)
      rw [if_neg (show ¬ (al : Int) = 0 by omega), if_neg (show ¬ (al : Int) = 0 by omega), if_pos (show g32 (su : Int) by unfold g32; omega), if_pos (show g32 (su : Int) by unfold g32; omega), e1, e2, obind, obind]
      exact ⟨_, C, A, rfl, rfl, h6⟩
  | succ q ih =>
    intro k al su F F' C A h1 h2 h3 h4 h5 h6
    obtain ⟨F, rfl⟩ : ∃ q, F = q + 1 := ⟨F - 1, by omega⟩
    obtain ⟨F', rfl⟩ : ∃ q, F' = q + 1 := ⟨F' - 1, by omega⟩
    have hR1 : R9 x C A := by
      rcases h6 with ⟨rfl, rfl⟩ | h6
      · exact hR
      · exact R9.sm hw gx hR h6
    have hp1 : (p : Int) < A 0 0 0 := by
      rcases h6 with ⟨rfl, rfl⟩ | h6
      · exact hp
      · rw [h6.2.1 0 0 0 (fun r => by omega)]
        exact hp
    have e10 : C 8 x 10 = C0 8 x 10 := by
      rcases h6 with ⟨rfl, rfl⟩ | h6
      · rfl
      · exact h6.1 8 x 10 (fun r => by omega)
    have q3 := (hR1.1.1.2.2.2.2.2.1 p hp1).1
    obtain ⟨r, r', C', A', k1, k2, k3, k4⟩ := by_sim hR1 hp1 (sd + k) (C0 8 x 10).toNat
    have h6' : C' = C0 ∧ A' = A0 ∨ SM (C0 8 x 10).toNat C0 A0 C' A' := by
      rcases h6 with ⟨rfl, rfl⟩ | h6
      · exact Or.inr k4
      · exact Or.inr (h6.trans k4)
    obtain ⟨gr, gr', gi⟩ := k3.g
    have k1' : f_Walk_comingBy C (C0 8 x 10).toNat (C 21 (C 8 x 2).toNat p).toNat (C 8 x 4) (sd + k) = some (r, C') := k1
    rw [f_CS_often_55, f_Mo_often_59, if_pos (show g32 (k : Int) by unfold g32; omega), if_pos (show g32 (m : Int) by unfold g32; omega), if_neg (show ¬ (m : Int) ≤ (k : Int) by omega), if_pos (show 0 ≤ (p : Int) ∧ (p : Int) < ((6 : Nat) : Int) by omega)]
    simp only [Int.toNat_natCast]
    rw [if_pos q3, e10, k1', obind, if_pos gr, if_pos (show g32 (k : Int) by unfold g32; omega), if_pos (show g32 (m : Int) by unfold g32; omega), if_neg (show ¬ (m : Int) ≤ (k : Int) by omega), k2, obind, if_pos gr']
    rcases k3 with ⟨z1, z2⟩ | ⟨D2, z1, z2⟩
    · rw [if_pos z1, if_pos z2]
      exact ih (k + 1) al su F F' C' A' (by omega) (by omega) (by omega) h4 (by omega) h6'
    · have n1 : ¬ r = -1 := by have := z1.1; omega
      have n2 : ¬ r' = -1 := by have := z2.1; omega
      have d0 := z1.2 nm.toNat (by omega)
      rw [if_neg n1, if_neg n2, c_digit z1.1 hn, obind, m_valueOf z2 hn, obind]
      simp only []
      rw [d0.1, if_pos (show g32 (D2 nm.toNat) by unfold g32; omega), if_pos hv, if_pos (show g32 (D2 nm.toNat) by unfold g32; omega), if_pos hv]
      by_cases e : D2 nm.toNat = v
      · rw [if_pos e, if_pos e]
        exact ih (k + 1) (al + 1) (su + 1) F F' C' A' (by omega) (by omega) (by omega) (by omega) (by omega) h6'
      · rw [if_neg e, if_neg e, Int.add_zero]
        exact ih (k + 1) (al + 1) su F F' C' A' (by omega) (by omega) (by omega) (by omega) (by omega) h6'
theorem c_isPart {n : Int} (g : g32 n) : f_CS_isPart C n = some (if 0 ≤ n ∧ n ≤ 1 then 1 else 0, C) := by
  unfold f_CS_isPart
  rw [if_pos g]
  by_cases q1 : n = 0
  · rw [if_pos q1, if_pos (by omega)]
  rw [if_neg q1]
  by_cases q2 : n = 1
  · rw [if_pos q2, if_pos (by omega)]
  · rw [if_neg q2, if_neg (by omega)]
theorem c_oftenE {p n m a v t : Int} (hR : R9 x C A) (gp : g32 p) (gm : g32 m) (ga : g32 a) (gv : g32 v) (gt : g32 t) : f_CS_often C x p n m a v t = if (0 ≤ p ∧ p < A 0 0 0) ∧ (1 ≤ m ∧ m ≤ 20) ∧ (0 ≤ a ∧ a < 6) ∧ (0 ≤ v ∧ v < 10) ∧ (0 ≤ t ∧ t ≤ 1) then f_CS_often_55 30 C x p n m a v t 0 0 0 else some (-2, C) := by
  unfold f_CS_often
  rw [c_isProg hR.1.1 gp, obind]
  by_cases q1 : 0 ≤ p ∧ p < A 0 0 0
  · rw [if_pos q1, if_pos (show g32 (1 : Int) by decide), if_neg (show ¬ (1 : Int) = 0 by decide), if_pos gm]
    by_cases q2 : m < 1
    · rw [if_pos q2, if_neg (by omega)]
    rw [if_neg q2]
    by_cases q3 : 20 < m
    · rw [if_pos q3, if_neg (by omega)]
    rw [if_neg q3]
    simp only []
    rw [c_isName ga, obind]
    by_cases q4 : 0 ≤ a ∧ a < 6
    · rw [if_pos q4, if_pos (show g32 (1 : Int) by decide), if_neg (show ¬ (1 : Int) = 0 by decide)]
      simp only []
      rw [c_isValue gv, obind]
      by_cases q5 : 0 ≤ v ∧ v < 10
      · rw [if_pos q5, if_pos (show g32 (1 : Int) by decide), if_neg (show ¬ (1 : Int) = 0 by decide)]
        simp only []
        rw [c_isPart gt, obind]
        by_cases q6 : 0 ≤ t ∧ t ≤ 1
        · rw [if_pos q6, if_pos (show g32 (1 : Int) by decide), if_neg (show ¬ (1 : Int) = 0 by decide), if_pos ⟨q1, by omega, q4, q5, q6⟩]
        · rw [if_neg q6, if_pos (show g32 (0 : Int) by decide), if_pos rfl, if_neg (fun r => q6 r.2.2.2.2)]
      · rw [if_neg q5, if_pos (show g32 (0 : Int) by decide), if_pos rfl, if_neg (fun r => q5 r.2.2.2.1)]
    · rw [if_neg q4, if_pos (show g32 (0 : Int) by decide), if_pos rfl, if_neg (fun r => q4 r.2.2.1)]
  · rw [if_neg q1, if_pos (show g32 (0 : Int) by decide), if_pos rfl, if_neg (fun r => q1 r.1)]
theorem m_isName {n : Int} (g : g32 n) : f_Mo_isName A n = some (if 0 ≤ n ∧ n ≤ 5 then 1 else 0, A) := by
  unfold f_Mo_isName
  rw [m_inF g (by decide) (by decide), obind]
  by_cases q : 0 ≤ n ∧ n ≤ 5
  · rw [if_pos q]
    rfl
  · rw [if_neg q]
    rfl
theorem m_oftenE {p n m a v t : Int} (hR : R9 x C A) (gp : g32 p) (gm : g32 m) (ga : g32 a) (gv : g32 v) (gt : g32 t) : f_Mo_often A p n m a v t = if (0 ≤ p ∧ p < A 0 0 0) ∧ (1 ≤ m ∧ m ≤ 20) ∧ (0 ≤ a ∧ a < 6) ∧ (0 ≤ v ∧ v < 10) ∧ (0 ≤ t ∧ t ≤ 1) then f_Mo_often_59 30 A p n m a v t 0 0 0 else some (-2, A) := by
  obtain ⟨-, ⟨b1, b2, b3⟩, -, -, -, f1, -⟩ := id hR.1.1
  unfold f_Mo_often
  rw [m_isProg ⟨b2, b3⟩ gp, obind]
  by_cases q1 : 0 ≤ p ∧ p < A 0 0 0
  · rw [if_pos q1, if_pos (show g32 (1 : Int) by decide), if_neg (show ¬ (1 : Int) = 0 by decide)]
    simp only []
    rw [m_inF gm (by decide) (by decide), obind]
    by_cases q2 : 1 ≤ m ∧ m ≤ 20
    · rw [if_pos q2, if_pos (show g32 (1 : Int) by decide), if_neg (show ¬ (1 : Int) = 0 by decide)]
      simp only []
      rw [m_isName ga, obind]
      by_cases q4 : 0 ≤ a ∧ a ≤ 5
      · rw [if_pos q4, if_pos (show g32 (1 : Int) by decide), if_neg (show ¬ (1 : Int) = 0 by decide)]
        simp only []
        rw [m_inF gv (by decide) (by decide), obind]
        by_cases q5 : 0 ≤ v ∧ v ≤ 9
        · rw [if_pos q5, if_pos (show g32 (1 : Int) by decide), if_neg (show ¬ (1 : Int) = 0 by decide)]
          simp only []
          rw [m_inF gt (by decide) (by decide), obind]
          by_cases q6 : 0 ≤ t ∧ t ≤ 1
          · rw [if_pos q6, if_pos (show g32 (1 : Int) by decide), if_neg (show ¬ (1 : Int) = 0 by decide), if_pos ⟨q1, q2, by omega, by omega, q6⟩]
          · rw [if_neg q6, if_pos (show g32 (0 : Int) by decide), if_pos rfl, if_neg (fun r => q6 r.2.2.2.2)]
        · rw [if_neg q5, if_pos (show g32 (0 : Int) by decide), if_pos rfl, if_neg (fun r => q5 (by omega))]
      · rw [if_neg q4, if_pos (show g32 (0 : Int) by decide), if_pos rfl, if_neg (fun r => q4 (by omega))]
    · rw [if_neg q2, if_pos (show g32 (0 : Int) by decide), if_pos rfl, if_neg (fun r => q2 r.2.1)]
  · rw [if_neg q1, if_pos (show g32 (0 : Int) by decide), if_pos rfl, if_neg (fun r => q1 r.1)]
end OFT
section OFTF
variable {D : va_G} {G : tG} {ad : mAd} {C A : mA} {w : jW} {x : Nat}
theorem b9_often (l : Launch) (B : Nat) (H0 : Heap) (p n m a v t : Int32) (hw : hW D G C w) (gx : G x = some 8) (hR : R9 x C A) (hT : mTy A) (hI : mI A) (hS : mStr D ad) : ∃ z B9, cFace9 l D B H0 y_CS_often b_CS_often 11 274 8211 [.ref x, .int p, .int n, .int m, .int a, .int v, .int t] G w x z B9 ∧ ∀ w1, mW D ad A w1 → mFace9 l D B H0 y_Mo_often b_Mo_often 11 920 29400 [.ref (ad 0 0), .int p, .int n, .int m, .int a, .int v, .int t] ad w1 x z B9 := by
  have main : ∃ z C' A', f_CS_often C x p.toInt n.toInt m.toInt a.toInt v.toInt t.toInt = some (z, C') ∧ f_Mo_often A p.toInt n.toInt m.toInt a.toInt v.toInt t.toInt = some (z, A') ∧ (C' = C ∧ A' = A ∨ SM (C 8 x 10).toNat C A C' A') := by
    rw [c_oftenE hR (ri p) (ri m) (ri a) (ri v) (ri t), m_oftenE hR (ri p) (ri m) (ri a) (ri v) (ri t)]
    by_cases q : (0 ≤ p.toInt ∧ p.toInt < A 0 0 0) ∧ (1 ≤ m.toInt ∧ m.toInt ≤ 20) ∧ (0 ≤ a.toInt ∧ a.toInt < 6) ∧ (0 ≤ v.toInt ∧ v.toInt < 10) ∧ (0 ≤ t.toInt ∧ t.toInt ≤ 1)
    · rw [if_pos q, if_pos q]
      obtain ⟨P, hP⟩ : ∃ P : Nat, p.toInt = P := ⟨p.toInt.toNat, by omega⟩
      obtain ⟨m9, hm⟩ : ∃ P : Nat, m.toInt = P := ⟨m.toInt.toNat, by omega⟩
      rw [hP, hm]
      exact oft_sim hw gx hR (p := P) (m := m9) (by omega) (by omega) q.2.2.1 (ri v) (ri t) m9 0 0 0 30 30 C A (by omega) (by omega) (by omega) (Nat.le_refl _) (Nat.le_refl _) (Or.inl ⟨rfl, rfl⟩)
    · rw [if_neg q, if_neg q]
      exact ⟨_, C, A, rfl, rfl, Or.inl ⟨rfl, rfl⟩⟩
  obtain ⟨z, C', A', h1, h2, h3⟩ := main
  have hR9 : R9 x C' A' := by
    rcases h3 with ⟨rfl, rfl⟩ | h3
    · exact hR
    · exact R9.sm hw gx hR h3
  have eC : ∀ (ad : mAd) (f k : Nat), mSt ad [vr f k, vi p.toInt, vi n.toInt, vi m.toInt, vi a.toInt, vi v.toInt, vi t.toInt] = [.ref (ad f k), .int p, .int n, .int m, .int a, .int v, .int t] := fun ad f k => by
    show [Value.ref (ad f k), mc ad (vi p.toInt), mc ad (vi n.toInt), mc ad (vi m.toInt), mc ad (vi a.toInt), mc ad (vi v.toInt), mc ad (vi t.toInt)] = _
    simp only [ms_i]
  exact ⟨z, A', cF9 (hx_CS_often l D B H0 G C x p.toInt n.toInt m.toInt a.toInt v.toInt t.toInt gx _ _ h1) hw (eC hid 8 x) hR9, fun w1 hm => mF9m (q_often l D B H0 ad A hT p.toInt n.toInt m.toInt a.toInt v.toInt t.toInt (ri p) (ri n) (ri m) (ri a) (ri v) (ri t) hI) (fun v9 A9 h => by
    obtain ⟨z9, -, hT9, -, -, hI9⟩ := h
    exact ⟨hT9, hI9⟩) (x_Mo_often l D B H0 ad A p.toInt n.toInt m.toInt a.toInt v.toInt t.toInt hS _ _ h2) (by decide) (by decide) (by decide) (by decide) (eC ad 0 0) w1 hm⟩
end OFTF
