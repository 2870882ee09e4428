/-! THE T LAYER: worlds (own work) -/
def nulls (n : Nat) (f : Nat → Option Nat) : Nat := ((List.range n).filter (fun j => (f j).isNone)).length
def nullc (c : Option jEl) : Nat := match c with
  | some (.inl (_, n, .inr (.inr (.inr (.inr f))))) => nulls n f
  | _ => 0
def nulle (c : Option jEl) : Nat := match c with
  | some (.inr (_, V)) => (match V 13 with
    | .null => 1
    | _ => 0)
  | _ => 0
/-- what may still be made: crowds, programs -/
def pu (τ : Option Nat) (c : Option jEl) : Nat := match τ with
  | some 35 => nullc c
  | some 21 => nullc c
  | some 2 => nulle c
  | _ => 0
def qu (τ : Option Nat) (c : Option jEl) : Nat := match τ with
  | some 21 => nullc c
  | _ => 0
def KC : Nat := 5000
def KS : Nat := 500000
def bud (G : tG) (w : jW) : Prop := ∃ As : List Nat, As.Nodup ∧ (∀ a, a ∉ As → pu (G a) (w.1 a) = 0 ∧ qu (G a) (w.1 a) = 0) ∧
  w.2.1 + 3 * (As.map (fun a => pu (G a) (w.1 a))).sum + 26 * (As.map (fun a => qu (G a) (w.1 a))).sum ≤ KC ∧
  w.2.2 + 604 * (As.map (fun a => pu (G a) (w.1 a))).sum + 739 * (As.map (fun a => qu (G a) (w.1 a))).sum ≤ KS
theorem bud.le {G : tG} {w : jW} (h : bud G w) : w.2.1 ≤ KC ∧ w.2.2 ≤ KS := by
  obtain ⟨As, -, -, h1, h2⟩ := h
  exact ⟨by omega, by omega⟩
theorem bud.same {G : tG} {w w1 : jW} (h : bud G w) (hc : w1.2 = w.2) (hp : ∀ a, pu (G a) (w1.1 a) = pu (G a) (w.1 a) ∧ qu (G a) (w1.1 a) = qu (G a) (w.1 a)) : bud G w1 := by
  obtain ⟨As, h0, h1, h2, h3⟩ := h
  have e1 : (As.map (fun a => pu (G a) (w1.1 a))) = As.map (fun a => pu (G a) (w.1 a)) := List.map_congr_left (fun a _ => (hp a).1)
  have e2 : (As.map (fun a => qu (G a) (w1.1 a))) = As.map (fun a => qu (G a) (w.1 a)) := List.map_congr_left (fun a _ => (hp a).2)
  refine ⟨As, h0, fun a ha => ?_, ?_, ?_⟩
  · rw [(hp a).1, (hp a).2]; exact h1 a ha
  · rw [e1, e2, hc]; exact h2
  · rw [e1, e2, hc]; exact h3
/-- from one world to a later one -/
def TRr (G0 : tG) (w0 : jW) (G : tG) (w : jW) : Prop :=
  (∀ a τ, G0 a = some τ → G a = some τ) ∧ (∀ a τ, G a = some τ → G0 a = some τ ∨ w0.1 a = none) ∧ (∀ a e, w0.1 a = some e → G0 a = none → w.1 a = some e) ∧ (∀ a e, w0.1 a = some e → ∃ e', w.1 a = some e') ∧
  (∀ a τ, G0 a = some τ → keepA τ = true → w.1 a = w0.1 a) ∧ ∀ a τ o V0 V, G0 a = some τ → tyO τ = some o → w0.1 a = some (.inr (o.1, V0)) → w.1 a = some (.inr (o.1, V)) → ∀ k, keepF o.1 k = true → V k = V0 k
theorem TRr.rfl' {G : tG} {w : jW} : TRr G w G w := ⟨fun _ _ h => h, fun _ _ h => Or.inl h, fun _ _ h _ => h, fun _ e h => ⟨e, h⟩, fun _ _ _ _ => rfl, fun a τ o V0 V _ _ h1 h2 k _ => by
  rw [h1] at h2; cases h2; rfl⟩
theorem TRr.trans {D : va_G} {G0 G G2 : tG} {w0 w w2 : jW} (h : TRr G0 w0 G w) (hw : WOK D G w) (h2 : TRr G w G2 w2) : TRr G0 w0 G2 w2 := by
  obtain ⟨a1, a2, a3, a4, a5, a6⟩ := h
  obtain ⟨b1, b2, b3, b4, b5, b6⟩ := h2
  refine ⟨fun a τ q => b1 _ _ (a1 _ _ q), fun a τ q => ?_, fun a e q1 q2 => ?_, fun a e q => ?_, fun a τ q1 q2 => ?_, fun a τ o V0 V2 q1 q2 q3 q4 k hk => ?_⟩
  · rcases b2 a τ q with q1 | q1
    · exact a2 a τ q1
    · refine Or.inr ?_
      cases e : w0.1 a with
      | none => rfl
      | some x =>
        obtain ⟨e', he⟩ := a4 a x e
        rw [he] at q1
        cases q1
  · have hG : G a = none := by
      cases e9 : G a with
      | none => rfl
      | some τ =>
        rcases a2 a τ e9 with q3 | q3
        · rw [q3] at q2; cases q2
        · rw [q3] at q1; cases q1
    exact b3 a e (a3 a e q1 q2) hG
  · obtain ⟨e', he⟩ := a4 a e q
    exact b4 a e' he
  · exact (b5 a τ (a1 _ _ q1) q2).trans (a5 a τ q1 q2)
  · obtain ⟨V, hV, -⟩ := (tcell_O q2).mp (hw a τ (a1 _ _ q1))
    exact (b6 a τ o V V2 (a1 _ _ q1) q2 hV q4 k hk).trans (a6 a τ o V0 V q1 q2 q3 hV k hk)
def PW (D : va_G) (G0 : tG) (w0 : jW) (G : tG) (w : jW) : Prop := WOK D G w ∧ bud G w ∧ TRr G0 w0 G w
theorem keepA_O {τ : Nat} {o : Nat × List (Nat × Int × Int)} (h : keepA τ = true) (ho : tyO τ = some o) : False := by
  have h1 : τ = 21 ∨ τ = 22 ∨ τ = 25 := by simpa [keepA] using h
  rcases h1 with rfl | rfl | rfl <;> cases ho
theorem keepA_P {τ k n : Nat} {e : Nat × Int × Int} (h : keepA τ = true) (ha : tyA τ = some (k, n, e)) (hk : k < 3) : False := by
  have h1 : τ = 21 ∨ τ = 22 ∨ τ = 25 := by simpa [keepA] using h
  rcases h1 with rfl | rfl | rfl <;> (cases ha; omega)
theorem pu_put {τ c k : Nat} {fs : List (Nat × Int × Int)} {V : Nat → Value} {v : Value} (ho : tyO τ = some (c, fs)) (hn : noW c k = false) : pu (some τ) (some (.inr (c, updV V k v))) = pu (some τ) (some (.inr (c, V))) ∧ qu (some τ) (some (.inr (c, updV V k v))) = qu (some τ) (some (.inr (c, V))) := by
  by_cases e1 : τ = 35
  · subst e1; cases ho
  by_cases e2 : τ = 21
  · subst e2; cases ho
  have hq : ∀ x, qu (some τ) x = 0 := by
    intro x
    unfold qu
    split
    · rename_i h; cases h; exact absurd rfl e2
    · rfl
  refine ⟨?_, by rw [hq, hq]⟩
  by_cases e3 : τ = 2
  · subst e3
    cases ho
    have hk : k ≠ 13 := by
      intro e; subst e
      simp [noW] at hn
    simp only [pu, nulle, updV, if_neg (Ne.symm hk)]
  · have hp : ∀ x, pu (some τ) x = 0 := by
      intro x
      unfold pu
      split
      · rename_i h; cases h; exact absurd rfl e1
      · rename_i h; cases h; exact absurd rfl e2
      · rename_i h; cases h; exact absurd rfl e3
      · rfl
    rw [hp, hp]
/-- a field is written -/
theorem PW.put {D : va_G} {G0 G : tG} {w0 w : jW} (h : PW D G0 w0 G w) {a τ c k : Nat} {fs : List vT} {V : Nat → Value} {v : Value} {t : vT} (hG : G a = some τ) (ho : tyO τ = some (c, fs)) (hV : w.1 a = some (.inr (c, V))) (ht : fs[k]? = some t) (hv : vok G t v) (hn : noW c k = false) : PW D G0 w0 G (va_up w.1 a (some (.inr (c, updV V k v))), w.2) := by
  obtain ⟨h1, h2, a1, a2, a3, a4, a5, a6⟩ := h
  have hkf : keepF c k = false := by
    unfold noW at hn
    rw [Bool.or_eq_false_iff] at hn
    exact hn.1
  refine ⟨fun b τ' hb => ?_, h2.same rfl (fun b => ?_), a1, a2, fun b e q1 q2 => ?_, fun b e q => ?_, fun b τ' q1 q2 => ?_, fun b τ' o V0 V2 q1 q2 q3 q4 k' hk' => ?_⟩
  · by_cases e : b = a
    · subst e
      cases hG.symm.trans hb
      refine (tcell_O ho).mpr ⟨updV V k v, va_up_self _ _ _, fun k' t' hk' => ?_⟩
      obtain ⟨V1, e1, e2⟩ := (tcell_O ho).mp (h1 b τ hG)
      rw [hV] at e1
      cases e1
      by_cases e3 : k' = k
      · subst e3
        have e4 : some t = some t' := ht.symm.trans hk'
        cases e4
        simp only [updV, if_true]
        exact hv
      · simp only [updV, if_neg e3]
        exact e2 k' t' hk'
    · show tcell D G τ' (va_up w.1 a _ b)
      rw [va_up_ne _ _ e]
      exact h1 b τ' hb
  · by_cases e : b = a
    · subst e
      show pu (G b) (va_up w.1 b _ b) = _ ∧ qu (G b) (va_up w.1 b _ b) = _
      rw [va_up_self, hG, hV]
      exact pu_put ho hn
    · show pu (G b) (va_up w.1 a _ b) = _ ∧ qu (G b) (va_up w.1 a _ b) = _
      rw [va_up_ne _ _ e]
      exact ⟨rfl, rfl⟩
  · have e3 : b ≠ a := by
      intro e3; subst e3
      rcases a2 b τ hG with q | q
      · rw [q] at q2; cases q2
      · rw [q] at q1; cases q1
    show va_up w.1 a _ b = _
    rw [va_up_ne _ _ e3]
    exact a3 b e q1 q2
  · by_cases e3 : b = a
    · subst e3; exact ⟨_, va_up_self _ _ _⟩
    · obtain ⟨e', he⟩ := a4 b e q
      exact ⟨e', (va_up_ne _ _ e3).trans he⟩
  · have e3 : b ≠ a := by
      intro e3; subst e3
      have := a1 _ _ q1
      rw [hG] at this
      cases this
      exact keepA_O q2 ho
    exact (va_up_ne _ _ e3).trans (a5 b τ' q1 q2)
  · by_cases e3 : b = a
    · subst e3
      have e4 := a1 _ _ q1
      rw [hG] at e4
      cases e4
      rw [ho] at q2
      cases q2
      have e5 : va_up w.1 b (some (.inr (c, updV V k v))) b = some (.inr (c, V2)) := q4
      rw [va_up_self] at e5
      cases e5
      have hne : k' ≠ k := by
        intro e6; subst e6
        have e7 : keepF c k' = true := hk'
        rw [hkf] at e7; cases e7
      simp only [updV, if_neg hne]
      exact a6 b τ (c, fs) V0 V q1 ho q3 hV k' hk'
    · have e5 : va_up w.1 a (some (.inr (c, updV V k v))) b = some (.inr (o.1, V2)) := q4
      rw [va_up_ne _ _ e3] at e5
      exact a6 b τ' o V0 V2 q1 q2 q3 e5 k' hk'
/-- an array's cell is written: one of numbers -/
theorem PW.arr {D : va_G} {G0 G : tG} {w0 w : jW} (h : PW D G0 w0 G w) {a τ kd n : Nat} {e : vT} {c0 c1 : jEl} (hG : G a = some τ) (ho : tyO τ = none) (ha : tyA τ = some (kd, n, e)) (hk : kd < 3) (h0 : w.1 a = some c0) (hc : tcell D G τ (some c1)) (hp : (pu (some τ) (some c1) = pu (some τ) (some c0) ∧ qu (some τ) (some c1) = qu (some τ) (some c0))) : PW D G0 w0 G (va_up w.1 a (some c1), w.2) := by
  obtain ⟨h1, h2, a1, a2, a3, a4, a5, a6⟩ := h
  refine ⟨fun b τ' hb => ?_, h2.same rfl (fun b => ?_), a1, a2, fun b e q1 q2 => ?_, fun b e q => ?_, fun b τ' q1 q2 => ?_, fun b τ' o V0 V2 q1 q2 q3 q4 k' hk' => ?_⟩
  · by_cases e : b = a
    · subst e
      cases hG.symm.trans hb
      show tcell D G τ (va_up w.1 b _ b)
      rw [va_up_self]; exact hc
    · show tcell D G τ' (va_up w.1 a _ b)
      rw [va_up_ne _ _ e]
      exact h1 b τ' hb
  · by_cases e : b = a
    · subst e
      show pu (G b) (va_up w.1 b _ b) = _ ∧ qu (G b) (va_up w.1 b _ b) = _
      rw [va_up_self, hG, h0]
      exact hp
    · show pu (G b) (va_up w.1 a _ b) = _ ∧ qu (G b) (va_up w.1 a _ b) = _
      rw [va_up_ne _ _ e]
      exact ⟨rfl, rfl⟩
  · have e3 : b ≠ a := by
      intro e3; subst e3
      rcases a2 b τ hG with q | q
      · rw [q] at q2; cases q2
      · rw [q] at q1; cases q1
    show va_up w.1 a _ b = _
    rw [va_up_ne _ _ e3]
    exact a3 b e q1 q2
  · by_cases e3 : b = a
    · subst e3; exact ⟨_, va_up_self _ _ _⟩
    · obtain ⟨e', he⟩ := a4 b e q
      exact ⟨e', (va_up_ne _ _ e3).trans he⟩
  · have e3 : b ≠ a := by
      intro e3; subst e3
      have := a1 _ _ q1
      rw [hG] at this
      cases this
      exact keepA_P q2 ha hk
    exact (va_up_ne _ _ e3).trans (a5 b τ' q1 q2)
  · have e3 : b ≠ a := by
      intro e3; subst e3
      have := a1 _ _ q1
      rw [hG] at this
      cases this
      rw [ho] at q2; cases q2
    have e5 : va_up w.1 a (some c1) b = some (.inr (o.1, V2)) := q4
    rw [va_up_ne _ _ e3] at e5
    exact a6 b τ' o V0 V2 q1 q2 q3 e5 k' hk'
theorem pu_num {τ : Nat} {c c' : jEl} (h : nullc (some c) = 0 ∧ nullc (some c') = 0 ∧ nulle (some c) = 0 ∧ nulle (some c') = 0) : pu (some τ) (some c') = pu (some τ) (some c) ∧ qu (some τ) (some c') = qu (some τ) (some c) := by
  obtain ⟨h1, h2, h3, h4⟩ := h
  have hp : ∀ x, nullc (some x) = 0 → nulle (some x) = 0 → pu (some τ) (some x) = 0 ∧ qu (some τ) (some x) = 0 := by
    intro x q1 q2
    refine ⟨?_, ?_⟩
    · unfold pu
      split
      · exact q1
      · exact q1
      · exact q2
      · rfl
    · unfold qu
      split
      · exact q1
      · rfl
  rw [(hp c h1 h3).1, (hp c h1 h3).2, (hp c' h2 h4).1, (hp c' h2 h4).2]
  exact ⟨rfl, rfl⟩
