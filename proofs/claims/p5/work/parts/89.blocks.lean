/-! the reference: blocks on odds (own work, by program) -/
def rm (u f k j : Nat) : Bool := (f == 0 && (j == 33 || (j == 34 || j == 35))) || (((f == 1 || (f == 3 || f == 4)) && Nat.ble u k) || (f == 47 || (f == 48 || f == 51)))
theorem rm_lo {u k f : Nat} (h : k < u) (hf : f = 1 ∨ f = 3 ∨ f = 4) (j : Nat) : rm u f k j = false := by
  unfold rm
  rw [ble_f h]
  rcases hf with rfl | rfl | rfl <;> rfl
theorem rm_far {u k f : Nat} (h1 : 5 ≤ f) (h2 : f ≤ 46) (j : Nat) : rm u f k j = false := by
  unfold rm
  have a0 : (f == 0) = false := by simp; omega
  have a1 : (f == 1) = false := by simp; omega
  have a2 : (f == 3) = false := by simp; omega
  have a3 : (f == 4) = false := by simp; omega
  have a4 : (f == 47) = false := by simp; omega
  have a5 : (f == 48) = false := by simp; omega
  have a6 : (f == 51) = false := by simp; omega
  rw [a0, a1, a2, a3, a4, a5, a6]; rfl
theorem dm_rm {u u2 : Nat} (h : u ≤ u2) : ∀ f k j, rm u f k j = false → dm u2 f k j = false := by
  intro f k j h2
  unfold rm at h2
  rw [Bool.or_eq_false_iff, Bool.or_eq_false_iff] at h2
  unfold dm
  rw [Bool.or_eq_false_iff]
  refine ⟨?_, ?_⟩
  · cases e : f == 0 with
    | false => rfl
    | true =>
      have := h2.1
      rw [e, Bool.true_and, Bool.or_eq_false_iff] at this
      rw [this.1]; rfl
  · by_cases c : u2 ≤ k
    · have h3 := h2.2.1
      rw [ble_t (show u ≤ k by omega), Bool.and_true] at h3
      rw [h3]; rfl
    · rw [ble_f (by omega), Bool.and_false]
theorem cm_rm {u k : Nat} (h : u ≤ k) : ∀ f k2 j, rm u f k2 j = false → cm k f k2 j = false := fun f k2 j q => cm_dm (Nat.le_refl k) f k2 j (dm_rm h f k2 j q)
theorem tk_rm {u u2 : Nat} (h : u ≤ u2) : ∀ f k2 j, rm u f k2 j = false → tkm u2 f k2 j = false := fun f k2 j q => tk_dm (Nat.le_refl u2) f k2 j (dm_rm h f k2 j q)
theorem rm_rm {u u2 : Nat} (h : u ≤ u2) : ∀ f k j, rm u f k j = false → rm u2 f k j = false := by
  intro f k j h2
  unfold rm at h2 ⊢
  rw [Bool.or_eq_false_iff, Bool.or_eq_false_iff] at h2
  rw [h2.1, h2.2.2, Bool.false_or, Bool.or_false]
  by_cases c : u2 ≤ k
  · have h3 := h2.2.1
    rw [ble_t (show u ≤ k by omega), Bool.and_true] at h3
    rw [h3]; rfl
  · rw [ble_f (by omega), Bool.and_false]
theorem pK.rmk {A A9 : mA} {u P : Nat} {N M Ln : Int} {dep : Nat → Int} (h : pK A P N M Ln dep) (k : mEq (rm u) A A9) : pK A9 P N M Ln dep := h.fam (fun f h1 h2 => funext fun j => k f P j (rm_far (by omega) h2 j))
theorem aOk.rmk {A A9 : mA} {u : Nat} {q : Int} (h : aOk A q) (k : mEq (rm u) A A9) : aOk A9 q := fun r hr => (h r hr).fam (fun f h1 h2 => funext fun j => k f r j (rm_far (by omega) h2 j)) (k 5 0 r (rm_far (by decide) (by decide) r))
theorem mS.eq {A A9 : mA} (h : mS A) (k : ∀ c, A9 51 c = A 51 c) : mS A9 := fun c => by
  rw [k c]
  exact h c
theorem mS.dmk {A A9 : mA} {u : Nat} (h : mS A) (k : mEq (dm u) A A9) : mS A9 := h.eq (fun c => funext fun j => k 51 c j (dm_far (by decide) j))
theorem mS.cmk {A A9 : mA} {o : Nat} (h : mS A) (k : mEq (cm o) A A9) : mS A9 := h.eq (fun c => funext fun j => k 51 c j rfl)
theorem mS.tkk {A A9 : mA} {o : Nat} (h : mS A) (k : mEq (tkm o) A A9) : mS A9 := h.eq (fun c => funext fun j => k 51 c j rfl)
theorem iOr01 {x y : Int} (hx : 0 ≤ x ∧ x ≤ 1) (hy : 0 ≤ y ∧ y ≤ 1) : 0 ≤ iOr x y ∧ iOr x y ≤ 1 := by
  have h1 : x = 0 ∨ x = 1 := by omega
  have h2 : y = 0 ∨ y = 1 := by omega
  rcases h1 with rfl | rfl <;> rcases h2 with rfl | rfl
  · rw [ior0]; omega
  · rw [ior1]; omega
  · rw [ior2]; omega
  · rw [ior3]; omega
