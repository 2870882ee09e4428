/-! STEPS of the class: if (own work) -/
section CBC
variable {o pr ca lv lw sa : Nat} {st : Nat → Nat} {others : Int} {T : Nat → Int} {m d : Nat}
theorem stIs.muS {C : mA} {i k j : Nat} {z : Int} {s : kS} (h : stIs pr ca lv lw st C i s) (hn : st i ≠ st k) : stIs pr ca lv lw st (mu C 6 (st k) j z) i s := by
  have e : ∀ j', mu C 6 (st k) j z 6 (st i) j' = C 6 (st i) j' := fun j' => mu_ne _ _ (fun r => hn r.2.1)
  obtain ⟨h1, h2, h3, h4, h5, h6, h7⟩ := h
  refine ⟨by rw [e, e, e, e, e]; exact h1, fun q => by rw [e]; exact h2 q, by rw [e]; exact h3, by rw [e]; exact h4, by rw [e, e, e]; exact h5, fun q1 q2 => ?_, fun q => ?_⟩
  · obtain ⟨n, a1, a2, a3, a4⟩ := h6 q1 q2
    exact ⟨n, by rw [e]; exact a1, by rw [e]; exact a2, a3, a4⟩
  · obtain ⟨n, a1, a2, a3⟩ := h7 q
    exact ⟨n, by rw [e]; exact a1, a2, a3⟩
theorem stAll.muS (hst : ∀ i, i < 16 → ∀ j, j < 16 → st i = st j → i = j) {C : mA} {k k' j : Nat} {z : Int} {c : List kS} (h : stAll pr ca lv lw st C k' c) (hk : k < k') (h16 : k' + c.length ≤ 16) : stAll pr ca lv lw st (mu C 6 (st k) j z) k' c := fun i hi => (h i hi).muS (fun r => by
  have := hst (k' + i) (by omega) k (by omega) r
  omega)
theorem cSt.st6 {C : mA} {p k s j : Nat} {z : Int} (h : cSt o pr ca lv lw sa st others T m C p k) : cSt o pr ca lv lw sa st others T m (mu C 6 s j z) p k := ⟨h.1.st, h.2.1, h.2.2.1, h.2.2.2.1, h.2.2.2.2.1, h.2.2.2.2.2⟩
end CBC
