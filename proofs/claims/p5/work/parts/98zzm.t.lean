/-! two contracts of one call: one content (own work) -/
theorem hv_join {G1 G9 : tG} {t : vT} {x : Int} {v : Value} (h : hv G1 t x v) (h9 : vok G9 t v) : hv G9 t x v := by
  obtain ⟨k, a, b⟩ := t
  match k, h, h9 with
  | 0, h, _ => exact h
  | 1, h, _ => exact h
  | 2, h, _ => exact h
  | 3, h, _ => exact h
  | 4, h, h9 =>
    obtain ⟨r, q1, q2⟩ := h9
    have e1 : v = .ref x.toNat := h.1
    rw [q1] at e1
    have e2 : r = x.toNat := Value.ref.inj e1
    refine ⟨by rw [q1, e2], ?_⟩
    rw [← e2]
    exact q2
  | 5, h, h9 =>
    rcases h with h | ⟨h0, h1, -⟩
    · exact Or.inl h
    · rcases h9 with h9 | ⟨r, q1, q2⟩
      · rw [h9] at h1
        cases h1
      · rw [q1] at h1
        have e2 : r = x.toNat := Value.ref.inj h1
        refine Or.inr ⟨h0, by rw [q1, e2], ?_⟩
        rw [← e2]
        exact q2
  | 6, _, _ => trivial
  | 7, h, _ => exact h
  | k + 8, _, h9 => exact h9.elim
theorem tyO_len {τ c : Nat} {fs : List vT} (h : tyO τ = some (c, fs)) : ∃ r : vw_C, vwCl[c]? = some r ∧ fs.length ≤ r.2.2 := by
  match τ, h with
  | 0, h => obtain ⟨rfl, rfl⟩ := Prod.mk.inj (Option.some.inj h); exact ⟨_, rfl, Nat.le_of_ble_eq_true rfl⟩
  | 1, h => obtain ⟨rfl, rfl⟩ := Prod.mk.inj (Option.some.inj h); exact ⟨_, rfl, Nat.le_of_ble_eq_true rfl⟩
  | 2, h => obtain ⟨rfl, rfl⟩ := Prod.mk.inj (Option.some.inj h); exact ⟨_, rfl, Nat.le_of_ble_eq_true rfl⟩
  | 3, h => obtain ⟨rfl, rfl⟩ := Prod.mk.inj (Option.some.inj h); exact ⟨_, rfl, Nat.le_of_ble_eq_true rfl⟩
  | 4, h => obtain ⟨rfl, rfl⟩ := Prod.mk.inj (Option.some.inj h); exact ⟨_, rfl, Nat.le_of_ble_eq_true rfl⟩
  | 5, h => obtain ⟨rfl, rfl⟩ := Prod.mk.inj (Option.some.inj h); exact ⟨_, rfl, Nat.le_of_ble_eq_true rfl⟩
  | 6, h => obtain ⟨rfl, rfl⟩ := Prod.mk.inj (Option.some.inj h); exact ⟨_, rfl, Nat.le_of_ble_eq_true rfl⟩
  | 7, h => obtain ⟨rfl, rfl⟩ := Prod.mk.inj (Option.some.inj h); exact ⟨_, rfl, Nat.le_of_ble_eq_true rfl⟩
  | 8, h => obtain ⟨rfl, rfl⟩ := Prod.mk.inj (Option.some.inj h); exact ⟨_, rfl, Nat.le_of_ble_eq_true rfl⟩
  | τ + 9, h => cases h
theorem jat_O {D : va_G} {a c n : Nat} {V V' : Nat → Value} {H : Heap} (hr : ∃ r : vw_C, vwCl[c]? = some r ∧ n ≤ r.2.2) (h : jat D a (.inr (c, V)) H) (h' : jat D a (.inr (c, V')) H) : ∀ k, k < n → V' k = V k := by
  obtain ⟨r, e, hn⟩ := hr
  obtain ⟨r1, e1, c1, q1, -, -, s1⟩ := h
  obtain ⟨r2, e2, c2, q2, -, -, s2⟩ := h'
  have f1 : r1 = r := Option.some.inj (e1.symm.trans e)
  have f2 : r2 = r := Option.some.inj (e2.symm.trans e)
  have f3 : c2 = c1 := Option.some.inj (q2.symm.trans q1)
  subst f1 f2 f3
  intro k hk
  exact Option.some.inj ((s2 k (by omega)).symm.trans (s1 k (by omega)))
theorem jat_arr2 {D : va_G} {a : Nat} {c c' : ClassId} {y y' : vp_A} {H : Heap} (h : jat D a (.inl (c, y)) H) (h' : jat D a (.inl (c', y')) H) : vp_cell c y = vp_cell c' y' := by
  have h1 : H[a]? = some (vp_cell c y) := h
  have h2 : H[a]? = some (vp_cell c' y') := h'
  exact Option.some.inj (h1.symm.trans h2)
theorem arrV_eq {c c' : ClassId} {n n' : Nat} {f g : Nat → Value} (h : arrV c n f = arrV c' n' g) {j : Nat} (h1 : j < n) (h2 : j < n') : f j = g j := by
  have a1 := arrV_read c f h1
  rw [h, arrV_read c' g h2] at a1
  exact (Option.some.inj a1).symm
theorem hcell_join {D : va_G} {G1 G9 : tG} {C : mA} {τ a : Nat} {c c9 : Option jEl} {H : Heap} (h : hcell D G1 C τ a c) (h9 : tcell D G9 τ c9) (j : ∀ e, c = some e → jat D a e H) (j9 : ∀ e, c9 = some e → jat D a e H) : hcell D G9 C τ a c9 := by
  cases ho : tyO τ with
  | some o =>
    obtain ⟨ci, fs⟩ := o
    obtain ⟨V, e1, q1⟩ := (hcell_O ho).mp h
    obtain ⟨V9, e9, q9⟩ := (tcell_O ho).mp h9
    refine (hcell_O ho).mpr ⟨V9, e9, fun k t hk => ?_⟩
    have e := jat_O (tyO_len ho) (j _ e1) (j9 _ e9) k (List.getElem?_eq_some_iff.mp hk).1
    exact hv_join (by rw [e]; exact q1 k t hk) (q9 k t hk)
  | none =>
    cases ha : tyA τ with
    | none => unfold tcell at h9; rw [ho, ha] at h9; exact h9.elim
    | some r =>
      obtain ⟨k, n, e⟩ := r
      match k, ha with
      | 0, ha =>
        obtain ⟨f, e1, q1⟩ := (hcell_I ho ha).mp h
        obtain ⟨f9, e9, -⟩ := (tcell_I ho ha).mp h9
        refine (hcell_I ho ha).mpr ⟨f9, e9, fun i hi => ?_⟩
        have q : Value.int (f i) = .int (f9 i) := arrV_eq (c := D.1 100) (c' := D.1 100) (n := n) (n' := n) (f := fun j => .int (f j)) (g := fun j => .int (f9 j)) (jat_arr2 (j _ e1) (j9 _ e9)) hi hi
        rw [← Value.int.inj q]
        exact q1 i hi
      | 1, ha =>
        obtain ⟨f, e1, q1⟩ := (hcell_J ho ha).mp h
        obtain ⟨f9, e9⟩ := (tcell_J ho ha).mp h9
        refine (hcell_J ho ha).mpr ⟨f9, e9, fun i hi => ?_⟩
        have q : Value.long (f i) = .long (f9 i) := arrV_eq (c := D.1 101) (c' := D.1 101) (n := n) (n' := n) (f := fun j => .long (f j)) (g := fun j => .long (f9 j)) (jat_arr2 (j _ e1) (j9 _ e9)) hi hi
        rw [← Value.long.inj q]
        exact q1 i hi
      | 2, ha =>
        unfold hcell at h ⊢
        rw [ho, ha] at h
        rw [ho, ha]
        obtain ⟨f, e1, q1⟩ := h
        obtain ⟨f9, e9, -⟩ := (tcell_Z ho ha).mp h9
        refine ⟨f9, e9, fun i hi => ?_⟩
        have q : Value.int (f i) = .int (f9 i) := arrV_eq (c := D.1 102) (c' := D.1 102) (n := n) (n' := n) (f := fun j => .int (f j)) (g := fun j => .int (f9 j)) (jat_arr2 (j _ e1) (j9 _ e9)) hi hi
        rw [← Value.int.inj q]
        exact q1 i hi
      | k + 3, ha =>
        obtain ⟨f, e1, q1⟩ := (hcell_R ho ha).mp h
        obtain ⟨f9, e9, q9⟩ := (tcell_R ho ha).mp h9
        refine (hcell_R ho ha).mpr ⟨f9, e9, fun i hi => ?_⟩
        have q : va_rf (f i) = va_rf (f9 i) := arrV_eq (c := D.1 (100 + (k + 3))) (c' := D.1 (100 + (k + 3))) (n := n) (n' := n) (f := fun j => va_rf (f j)) (g := fun j => va_rf (f9 j)) (jat_arr2 (j _ e1) (j9 _ e9)) hi hi
        exact hv_join (by rw [← q]; exact q1 i hi) (q9 i hi)
/-- the one's content, the other's types -/
theorem hW_join {D : va_G} {G1 G9 : tG} {C9 : mA} {w9 w' : jW} (hO : WOK D G9 w9) (hw : hW D G1 C9 w') (hj : jAg D w9 w') : ∃ C', hW D G9 C' w9 ∧ ∀ τ a k, G1 a = some τ → C' τ a k = C9 τ a k := by
  obtain ⟨B, H0, H, j1, j2⟩ := hj
  refine ⟨fun τ a k => if G1 a = some τ then C9 τ a k else hread w9 τ a k, fun a τ hg => ?_, fun τ a k h => if_pos h⟩
  by_cases q : G1 a = some τ
  · exact hcell_congr (A := C9) (funext fun k => if_pos q) (hcell_join (hw a τ q) (hO a τ hg) (fun e he => j2.at he) (fun e he => j1.at he))
  · exact hcell_congr (A := hread w9) (funext fun k => if_neg q) (hW_read hO a τ hg)
theorem keepS_else {τ : Nat} (h : τ ≠ 8 ∧ τ ≠ 2 ∧ τ ≠ 6 ∧ τ ≠ 20 ∧ τ ≠ 21 ∧ τ ≠ 25) (k : Nat) : keepS τ k = false := by
  unfold keepS
  split
  · omega
  · omega
  · omega
  · omega
  · omega
  · omega
  · rfl
/-- a method that keeps what the relation speaks of -/
def chkS (I : tI) : Bool := [0, 1, 2, 3, 5, 7].all (fun k => keepF 8 k || kel (IK I) 8 k) && ([0, 1, 2, 4, 5, 8, 9, 11].all (fun k => keepF 2 k || kel (IK I) 2 k) && ([0, 1, 2, 3, 6, 7].all (fun k => keepF 6 k || kel (IK I) 6 k)) && (kel (IK I) 1020 0 && kel (IK I) 1021 0))
theorem hW_T {D : va_G} {G G9 : tG} {C : mA} {w w9 : jW} {I : tI} (hk : chkS I = true) (hw : hW D G C w) (hO : WOK D G9 w9) (tr : TRr G w G9 w9) (tk : TRk (IK I) G w w9) : ∃ C', hW D G9 C' w9 ∧ ∀ τ a k, G a = some τ → keepS τ k = true → C' τ a k = C τ a k := by
  unfold chkS at hk
  rw [Bool.and_eq_true, Bool.and_eq_true, Bool.and_eq_true, Bool.and_eq_true] at hk
  obtain ⟨k8, ⟨k2, k6⟩, k20, k21⟩ := hk
  obtain ⟨t1, t2, t3, t4, t5, t6⟩ := tr
  -- an object's fields
  have obj : ∀ (a τ ci : Nat) (fs : List vT) (V V9 : Nat → Value), G a = some τ → tyO τ = some (ci, fs) → w.1 a = some (.inr (ci, V)) → w9.1 a = some (.inr (ci, V9)) → ∀ k, (keepF ci k || kel (IK I) ci k) = true → V9 k = V k := fun a τ ci fs V V9 g1 g2 g3 g4 k q => by
    rw [Bool.or_eq_true] at q
    rcases q with q | q
    · exact t6 a τ (ci, fs) V V9 g1 g2 g3 g4 k q
    · exact tk.1 a τ ci fs V V9 k g1 g2 q g3 g4
  have ob : ∀ (τ ci : Nat) (fs : List vT), tyO τ = some (ci, fs) → (∀ k, keepS τ k = true → (keepF ci k || kel (IK I) ci k) = true) → ∀ a, G a = some τ → hcell D G9 (fun τ a k => if G a = some τ ∧ keepS τ k = true then C τ a k else hread w9 τ a k) τ a (w9.1 a) := fun τ ci fs ho hf a g1 => by
    obtain ⟨V, e1, q1⟩ := (hcell_O ho).mp (hw a τ g1)
    obtain ⟨V9, e9, q9⟩ := (hcell_O ho).mp (hW_read hO a τ (t1 _ _ g1))
    refine (hcell_O ho).mpr ⟨V9, e9, fun k t hk => ?_⟩
    by_cases q : keepS τ k = true
    · show hv G9 t (if G a = some τ ∧ keepS τ k = true then C τ a k else hread w9 τ a k) (V9 k)
      rw [if_pos ⟨g1, q⟩, obj a τ ci fs V V9 g1 ho e1 e9 k (hf k q)]
      exact hv_mono t1 (q1 k t hk)
    · show hv G9 t (if G a = some τ ∧ keepS τ k = true then C τ a k else hread w9 τ a k) (V9 k)
      rw [if_neg (fun r => q r.2)]
      exact q9 k t hk
  have f8 : ∀ k, keepS 8 k = true → (keepF 8 k || kel (IK I) 8 k) = true := fun k q => List.all_eq_true.mp k8 k (List.elem_iff.mp q)
  have f2 : ∀ k, keepS 2 k = true → (keepF 2 k || kel (IK I) 2 k) = true := fun k q => List.all_eq_true.mp k2 k (List.elem_iff.mp q)
  have f6 : ∀ k, keepS 6 k = true → (keepF 6 k || kel (IK I) 6 k) = true := fun k q => List.all_eq_true.mp k6 k (List.elem_iff.mp q)
  refine ⟨fun τ a k => if G a = some τ ∧ keepS τ k = true then C τ a k else hread w9 τ a k, fun a τ hg => ?_, fun τ a k h1 h2 => if_pos ⟨h1, h2⟩⟩
  by_cases g1 : G a = some τ
  · by_cases q8 : τ = 8
    · subst q8
      exact ob 8 8 _ rfl f8 a g1
    by_cases q2 : τ = 2
    · subst q2
      exact ob 2 2 _ rfl f2 a g1
    by_cases q6 : τ = 6
    · subst q6
      exact ob 6 6 _ rfl f6 a g1
    by_cases q20 : τ = 20
    · subst q20
      refine hcell_congr (A := C) (funext fun k => if_pos ⟨g1, rfl⟩) ?_
      rw [tk.2 a 20 g1 rfl k20]
      exact hcell_mono t1 (hw a 20 g1)
    by_cases q21 : τ = 21
    · subst q21
      refine hcell_congr (A := C) (funext fun k => if_pos ⟨g1, rfl⟩) ?_
      rw [tk.2 a 21 g1 rfl k21]
      exact hcell_mono t1 (hw a 21 g1)
    by_cases q25 : τ = 25
    · subst q25
      refine hcell_congr (A := C) (funext fun k => if_pos ⟨g1, rfl⟩) ?_
      obtain ⟨f, e1, q1⟩ := (hcell_R (t := 7) (rfl : tyO 25 = none) rfl).mp (hw a 25 g1)
      obtain ⟨f9, e9, hm⟩ := t5 a 25 g1 rfl _ _ f e1
      refine (hcell_R (t := 7) (rfl : tyO 25 = none) rfl).mpr ⟨f9, e9, fun j hj => ?_⟩
      obtain ⟨h1, h2⟩ := hv4 (τ' := 6) rfl rfl (q1 j hj)
      have h3 : f j = some (C 25 a j).toNat := by
        cases e : f j with
        | none => rw [e] at h1; cases h1
        | some r =>
          rw [e] at h1
          exact congrArg some (Value.ref.inj h1)
      rw [hm j _ h3]
      exact ⟨rfl, t1 _ _ h2⟩
    · exact hcell_congr (A := hread w9) (funext fun k => if_neg (fun r => by
        rw [keepS_else ⟨q8, q2, q6, q20, q21, q25⟩ k] at r
        cases r.2)) (hW_read hO a τ hg)
  · exact hcell_congr (A := hread w9) (funext fun k => if_neg (fun r => g1 r.1)) (hW_read hO a τ hg)
/-- what is no cell of the reference's stays -/
theorem hW.out {D : va_G} {G : tG} {C : mA} {w w9 : jW} {ad : mAd} (h : hW D G C w) (hd : ∀ f k, k < mcnt f → G (ad f k) = none) (hf : mfr ad w w9) : hW D G C w9 := fun a τ hg => by
  rw [hf.2 a (fun ⟨f, k, hk, e⟩ => by rw [e, hd f k hk] at hg; cases hg)]
  exact h a τ hg
