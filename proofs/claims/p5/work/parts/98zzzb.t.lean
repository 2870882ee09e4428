/-! what a method keeps, by its contract (own work) -/
def chkU (I : tI) : Bool := [0, 1, 2, 3, 4, 5, 6, 7, 8, 10].all (fun k => keepF 8 k || kel (IK I) 8 k) && ([0, 1, 2, 4, 5, 8, 9, 10, 11, 12].all (fun k => keepF 2 k || kel (IK I) 2 k) && ([0, 1, 2].all (fun k => keepF 4 k || kel (IK I) 4 k) && ((List.range 14).all (fun k => keepF 6 k || kel (IK I) 6 k) && (kel (IK I) 1020 0 && (kel (IK I) 1021 0 && (kel (IK I) 1022 0 && (kel (IK I) 1027 0 && kel (IK I) 1036 0)))))))
theorem keepU_else {τ : Nat} (h : τ ≠ 8 ∧ τ ≠ 2 ∧ τ ≠ 4 ∧ τ ≠ 6 ∧ τ ≠ 20 ∧ τ ≠ 21 ∧ τ ≠ 22 ∧ τ ≠ 25 ∧ τ ≠ 27 ∧ τ ≠ 36) (k : Nat) : keepU τ k = false := by
  unfold keepU
  split
  · omega
  · omega
  · omega
  · omega
  · omega
  · omega
  · omega
  · omega
  · omega
  · omega
  · rfl
theorem hW_U {D : va_G} {G G9 : tG} {C : mA} {w w9 : jW} {I : tI} (hk : chkU I = true) (hw : hW D G C w) (hO : WOK D G9 w9) (tr : TRr G w G9 w9) (tk : TRk (IK I) G w w9) : ∃ C', hW D G9 C' w9 ∧ ∀ τ a k, G a = some τ → keepU τ k = true → C' τ a k = C τ a k := by
  unfold chkU at hk
  rw [Bool.and_eq_true, Bool.and_eq_true, Bool.and_eq_true, Bool.and_eq_true, Bool.and_eq_true, Bool.and_eq_true, Bool.and_eq_true, Bool.and_eq_true] at hk
  obtain ⟨k8, k2, k4, k6, k20, k21, k22, k27, k36⟩ := hk
  obtain ⟨t1, t2, t3, t4, t5, t6⟩ := tr
  -- an object's fields
  have obj : ∀ (a τ ci : Nat) (fs : List vT) (V V9 : Nat → Value), G a = some τ → tyO τ = some (ci, fs) → w.1 a = some (.inr (ci, V)) → w9.1 a = some (.inr (ci, V9)) → ∀ k, (keepF ci k || kel (IK I) ci k) = true → V9 k = V k := fun a τ ci fs V V9 g1 g2 g3 g4 k q => by
    rw [Bool.or_eq_true] at q
    rcases q with q | q
    · exact t6 a τ (ci, fs) V V9 g1 g2 g3 g4 k q
    · exact tk.1 a τ ci fs V V9 k g1 g2 q g3 g4
  have ob : ∀ (τ ci : Nat) (fs : List vT), tyO τ = some (ci, fs) → (∀ k, keepU τ k = true → (keepF ci k || kel (IK I) ci k) = true) → ∀ a, G a = some τ → hcell D G9 (fun τ a k => if G a = some τ ∧ keepU τ k = true then C τ a k else hread w9 τ a k) τ a (w9.1 a) := fun τ ci fs ho hf a g1 => by
    obtain ⟨V, e1, q1⟩ := (hcell_O ho).mp (hw a τ g1)
    obtain ⟨V9, e9, q9⟩ := (hcell_O ho).mp (hW_read hO a τ (t1 _ _ g1))
    refine (hcell_O ho).mpr ⟨V9, e9, fun k t hk => ?_⟩
    by_cases q : keepU τ k = true
    · show hv G9 t (if G a = some τ ∧ keepU τ k = true then C τ a k else hread w9 τ a k) (V9 k)
      rw [if_pos ⟨g1, q⟩, obj a τ ci fs V V9 g1 ho e1 e9 k (hf k q)]
      exact hv_mono t1 (q1 k t hk)
    · show hv G9 t (if G a = some τ ∧ keepU τ k = true then C τ a k else hread w9 τ a k) (V9 k)
      rw [if_neg (fun r => q r.2)]
      exact q9 k t hk
  have f8 : ∀ k, keepU 8 k = true → (keepF 8 k || kel (IK I) 8 k) = true := fun k q => List.all_eq_true.mp k8 k (List.elem_iff.mp q)
  have f2 : ∀ k, keepU 2 k = true → (keepF 2 k || kel (IK I) 2 k) = true := fun k q => List.all_eq_true.mp k2 k (List.elem_iff.mp q)
  have f4 : ∀ k, keepU 4 k = true → (keepF 4 k || kel (IK I) 4 k) = true := fun k q => List.all_eq_true.mp k4 k (List.elem_iff.mp q)
  have f6 : ∀ k, keepU 6 k = true → (keepF 6 k || kel (IK I) 6 k) = true := fun k q => List.all_eq_true.mp k6 k (List.mem_range.mpr (Nat.lt_succ_of_le (Nat.le_of_ble_eq_true q)))
  have ar : ∀ τ, tyO τ = none → kel (IK I) (1000 + τ) 0 = true → (∀ k, keepU τ k = true) → ∀ a, G a = some τ → hcell D G9 (fun τ a k => if G a = some τ ∧ keepU τ k = true then C τ a k else hread w9 τ a k) τ a (w9.1 a) := fun τ ho hk9 hall a g1 => by
    refine hcell_congr (A := C) (funext fun k => if_pos ⟨g1, hall k⟩) ?_
    rw [tk.2 a τ g1 ho hk9]
    exact hcell_mono t1 (hw a τ g1)
  refine ⟨fun τ a k => if G a = some τ ∧ keepU τ k = true then C τ a k else hread w9 τ a k, fun a τ hg => ?_, fun τ a k h1 h2 => if_pos ⟨h1, h2⟩⟩
  by_cases g1 : G a = some τ
  · by_cases q8 : τ = 8
    · subst q8
      exact ob 8 8 _ rfl f8 a g1
    by_cases q2 : τ = 2
    · subst q2
      exact ob 2 2 _ rfl f2 a g1
    by_cases q4 : τ = 4
    · subst q4
      exact ob 4 4 _ rfl f4 a g1
    by_cases q6 : τ = 6
    · subst q6
      exact ob 6 6 _ rfl f6 a g1
    by_cases q20 : τ = 20
    · subst q20
      exact ar 20 rfl k20 (fun _ => rfl) a g1
    by_cases q21 : τ = 21
    · subst q21
      exact ar 21 rfl k21 (fun _ => rfl) a g1
    by_cases q22 : τ = 22
    · subst q22
      exact ar 22 rfl k22 (fun _ => rfl) a g1
    by_cases q27 : τ = 27
    · subst q27
      exact ar 27 rfl k27 (fun _ => rfl) a g1
    by_cases q36 : τ = 36
    · subst q36
      exact ar 36 rfl k36 (fun _ => rfl) a g1
    by_cases q25 : τ = 25
    · subst q25
      refine hcell_congr (A := C) (funext fun k => if_pos ⟨g1, rfl⟩) ?_
      obtain ⟨f, e1, q1⟩ := (hcell_R (t := 7) (rfl : tyO 25 = none) rfl).mp (hw a 25 g1)
      obtain ⟨f9, e9, hm⟩ := t5 a 25 g1 rfl _ _ f e1
      refine (hcell_R (t := 7) (rfl : tyO 25 = none) rfl).mpr ⟨f9, e9, fun j hj => ?_⟩
      obtain ⟨h1, h2⟩ := hv4 (τ' := 6) rfl rfl (q1 j hj)
      have h3 : f j = some (C 25 a j).toNat := by
        cases e : f j with
        | none => rw [e] at h1; cases h1
        | some r =>
          rw [e] at h1
          exact congrArg some (Value.ref.inj h1)
      rw [hm j _ h3]
      exact ⟨rfl, t1 _ _ h2⟩
    · exact hcell_congr (A := hread w9) (funext fun k => if_neg (fun r => by
        rw [keepU_else ⟨q8, q2, q4, q6, q20, q21, q22, q25, q27, q36⟩ k] at r
        cases r.2)) (hW_read hO a τ hg)
  · exact hcell_congr (A := hread w9) (funext fun k => if_neg (fun r => g1 r.1)) (hW_read hO a τ hg)
