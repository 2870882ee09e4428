/-! THE T LAYER: worlds (own work) -/
def nulls (n : Nat) (f : Nat → Option Nat) : Nat := ((List.range n).filter (fun j => (f j).isNone)).length
def nullc (c : Option jEl) : Nat := match c with
  | some (.inl (_, n, .inr (.inr (.inr (.inr f))))) => nulls n f
  | _ => 0
def nulle (c : Option jEl) : Nat := match c with
  | some (.inr (_, V)) => (match V 13 with
    | .null => 1
    | _ => 0)
  | _ => 0
/-- what may still be made: crowds, programs -/
def pu (τ : Option Nat) (c : Option jEl) : Nat := match τ with
  | some 35 => nullc c
  | some 21 => nullc c
  | some 2 => nulle c
  | _ => 0
def qu (τ : Option Nat) (c : Option jEl) : Nat := match τ with
  | some 21 => nullc c
  | _ => 0
def KC : Nat := 5000
def KS : Nat := 500000
def bud (G : tG) (w : jW) : Prop := (∃ As : List Nat, As.Nodup ∧ (∀ a ∈ As, ∃ e, w.1 a = some e) ∧ (∀ a, a ∉ As → pu (G a) (w.1 a) = 0 ∧ qu (G a) (w.1 a) = 0) ∧
  w.2.1 + 3 * (As.map (fun a => pu (G a) (w.1 a))).sum + 26 * (As.map (fun a => qu (G a) (w.1 a))).sum ≤ KC ∧
  w.2.2 + 604 * (As.map (fun a => pu (G a) (w.1 a))).sum + 739 * (As.map (fun a => qu (G a) (w.1 a))).sum ≤ KS)
theorem bud.le {G : tG} {w : jW} (h : bud G w) : w.2.1 ≤ KC ∧ w.2.2 ≤ KS := by
  obtain ⟨As, -, -, -, h1, h2⟩ := h
  exact ⟨by omega, by omega⟩
theorem bud.same {G : tG} {w w1 : jW} (h : bud G w) (hc : w1.2 = w.2) (hp : ∀ a, pu (G a) (w1.1 a) = pu (G a) (w.1 a) ∧ qu (G a) (w1.1 a) = qu (G a) (w.1 a)) (hd2 : ∀ a e, w.1 a = some e → ∃ e', w1.1 a = some e') : bud G w1 := by
  obtain ⟨As, h0, h0d, h1, h2, h3⟩ := h
  have e1 : (As.map (fun a => pu (G a) (w1.1 a))) = As.map (fun a => pu (G a) (w.1 a)) := List.map_congr_left (fun a _ => (hp a).1)
  have e2 : (As.map (fun a => qu (G a) (w1.1 a))) = As.map (fun a => qu (G a) (w.1 a)) := List.map_congr_left (fun a _ => (hp a).2)
  refine ⟨As, h0, fun a ha => ?_, fun a ha => ?_, ?_, ?_⟩
  · obtain ⟨e, he⟩ := h0d a ha
    exact hd2 a e he
  · rw [(hp a).1, (hp a).2]; exact h1 a ha
  · rw [e1, e2, hc]; exact h2
  · rw [e1, e2, hc]; exact h3
theorem va_up_dom {M : jM} {a : Nat} {c c0 : jEl} (h : M a = some c0) : (∀ b e, va_up M a (some c) b = some e → ∃ e', M b = some e') ∧ ∀ b e, M b = some e → ∃ e', va_up M a (some c) b = some e' := by
  refine ⟨fun b e hb => ?_, fun b e hb => ?_⟩
  · by_cases e1 : b = a
    · subst e1; exact ⟨c0, h⟩
    · rw [va_up_ne _ _ e1] at hb; exact ⟨e, hb⟩
  · by_cases e1 : b = a
    · subst e1; exact ⟨c, va_up_self _ _ _⟩
    · exact ⟨e, (va_up_ne _ _ e1).trans hb⟩
/-- an array of references whose elements stay, once they are there -/
def emono (c c' : Option jEl) : Prop := ∀ (t : ClassId) (n : Nat) (f : Nat → Option Nat), c = some (.inl (t, n, .inr (.inr (.inr (.inr f))))) → ∃ f' : Nat → Option Nat, c' = some (.inl (t, n, .inr (.inr (.inr (.inr f'))))) ∧ ∀ i r, f i = some r → f' i = some r
theorem emono.rfl' {c : Option jEl} : emono c c := fun t n f h => ⟨f, h, fun _ _ h => h⟩
theorem emono.trans {a b c : Option jEl} (h1 : emono a b) (h2 : emono b c) : emono a c := fun t n f h => by
  obtain ⟨f1, e1, e2⟩ := h1 t n f h
  obtain ⟨f2, e3, e4⟩ := h2 t n f1 e1
  exact ⟨f2, e3, fun i r q => e4 i r (e2 i r q)⟩
/-- from one world to a later one -/
def TRr (G0 : tG) (w0 : jW) (G : tG) (w : jW) : Prop :=
  (∀ a τ, G0 a = some τ → G a = some τ) ∧ (∀ a τ, G a = some τ → G0 a = some τ ∨ w0.1 a = none) ∧ (∀ a e, w0.1 a = some e → G0 a = none → w.1 a = some e) ∧ (∀ a e, w0.1 a = some e → ∃ e', w.1 a = some e') ∧
  (∀ a τ, G0 a = some τ → keepA τ = true → emono (w0.1 a) (w.1 a)) ∧ ∀ a τ o V0 V, G0 a = some τ → tyO τ = some o → w0.1 a = some (.inr (o.1, V0)) → w.1 a = some (.inr (o.1, V)) → ∀ k, keepF o.1 k = true → V k = V0 k
theorem TRr.rfl' {G : tG} {w : jW} : TRr G w G w := ⟨fun _ _ h => h, fun _ _ h => Or.inl h, fun _ _ h _ => h, fun _ e h => ⟨e, h⟩, fun _ _ _ _ => emono.rfl', fun a τ o V0 V _ _ h1 h2 k _ => by
  rw [h1] at h2; cases h2; rfl⟩
theorem TRr.trans {D : va_G} {G0 G G2 : tG} {w0 w w2 : jW} (h : TRr G0 w0 G w) (hw : WOK D G w) (h2 : TRr G w G2 w2) : TRr G0 w0 G2 w2 := by
  obtain ⟨a1, a2, a3, a4, a5, a6⟩ := h
  obtain ⟨b1, b2, b3, b4, b5, b6⟩ := h2
  refine ⟨fun a τ q => b1 _ _ (a1 _ _ q), fun a τ q => ?_, fun a e q1 q2 => ?_, fun a e q => ?_, fun a τ q1 q2 => ?_, fun a τ o V0 V2 q1 q2 q3 q4 k hk => ?_⟩
  · rcases b2 a τ q with q1 | q1
    · exact a2 a τ q1
    · refine Or.inr ?_
      cases e : w0.1 a with
      | none => rfl
      | some x =>
        obtain ⟨e', he⟩ := a4 a x e
        rw [he] at q1
        cases q1
  · have hG : G a = none := by
      cases e9 : G a with
      | none => rfl
      | some τ =>
        rcases a2 a τ e9 with q3 | q3
        · rw [q3] at q2; cases q2
        · rw [q3] at q1; cases q1
    exact b3 a e (a3 a e q1 q2) hG
  · obtain ⟨e', he⟩ := a4 a e q
    exact b4 a e' he
  · exact (a5 a τ q1 q2).trans (b5 a τ (a1 _ _ q1) q2)
  · obtain ⟨V, hV, -⟩ := (tcell_O q2).mp (hw a τ (a1 _ _ q1))
    exact (b6 a τ o V V2 (a1 _ _ q1) q2 hV q4 k hk).trans (a6 a τ o V0 V q1 q2 q3 hV k hk)
def PW (D : va_G) (G0 : tG) (w0 : jW) (G : tG) (w : jW) : Prop := WOK D G w ∧ bud G w ∧ TRr G0 w0 G w
theorem keepA_O {τ : Nat} {o : Nat × List (Nat × Int × Int)} (h : keepA τ = true) (ho : tyO τ = some o) : False := by
  have h1 : τ = 21 ∨ τ = 22 ∨ τ = 25 ∨ τ = 35 := by simpa [keepA] using h
  rcases h1 with rfl | rfl | rfl | rfl <;> cases ho
theorem keepA_P {τ k n : Nat} {e : Nat × Int × Int} (h : keepA τ = true) (ha : tyA τ = some (k, n, e)) (hk : k < 3) : False := by
  have h1 : τ = 21 ∨ τ = 22 ∨ τ = 25 ∨ τ = 35 := by simpa [keepA] using h
  rcases h1 with rfl | rfl | rfl | rfl <;> (cases ha; omega)
theorem pu_put {τ c k : Nat} {fs : List (Nat × Int × Int)} {V : Nat → Value} {v : Value} (ho : tyO τ = some (c, fs)) (hn : noW c k = false) : pu (some τ) (some (.inr (c, updV V k v))) = pu (some τ) (some (.inr (c, V))) ∧ qu (some τ) (some (.inr (c, updV V k v))) = qu (some τ) (some (.inr (c, V))) := by
  by_cases e1 : τ = 35
  · subst e1; cases ho
  by_cases e2 : τ = 21
  · subst e2; cases ho
  have hq : ∀ x, qu (some τ) x = 0 := by
    intro x
    unfold qu
    split
    · rename_i h; cases h; exact absurd rfl e2
    · rfl
  refine ⟨?_, by rw [hq, hq]⟩
  by_cases e3 : τ = 2
  · subst e3
    cases ho
    have hk : k ≠ 13 := by
      intro e; subst e
      simp [noW] at hn
    simp only [pu, nulle, updV, if_neg (Ne.symm hk)]
  · have hp : ∀ x, pu (some τ) x = 0 := by
      intro x
      unfold pu
      split
      · rename_i h; cases h; exact absurd rfl e1
      · rename_i h; cases h; exact absurd rfl e2
      · rename_i h; cases h; exact absurd rfl e3
      · rfl
    rw [hp, hp]
/-- a field is written -/
theorem PW.put {D : va_G} {G0 G : tG} {w0 w : jW} (h : PW D G0 w0 G w) {a τ c k : Nat} {fs : List vT} {V : Nat → Value} {v : Value} {t : vT} (hG : G a = some τ) (ho : tyO τ = some (c, fs)) (hV : w.1 a = some (.inr (c, V))) (ht : fs[k]? = some t) (hv : vok G t v) (hn : noW c k = false) : PW D G0 w0 G (va_up w.1 a (some (.inr (c, updV V k v))), w.2) := by
  obtain ⟨h1, h2, a1, a2, a3, a4, a5, a6⟩ := h
  have hkf : keepF c k = false := by
    unfold noW at hn
    rw [Bool.or_eq_false_iff] at hn
    exact hn.1
  refine ⟨fun b τ' hb => ?_, h2.same rfl (fun b => ?_) (va_up_dom hV).2, a1, a2, fun b e q1 q2 => ?_, fun b e q => ?_, fun b τ' q1 q2 => ?_, fun b τ' o V0 V2 q1 q2 q3 q4 k' hk' => ?_⟩
  · by_cases e : b = a
    · subst e
      cases hG.symm.trans hb
      refine (tcell_O ho).mpr ⟨updV V k v, va_up_self _ _ _, fun k' t' hk' => ?_⟩
      obtain ⟨V1, e1, e2⟩ := (tcell_O ho).mp (h1 b τ hG)
      rw [hV] at e1
      cases e1
      by_cases e3 : k' = k
      · subst e3
        have e4 : some t = some t' := ht.symm.trans hk'
        cases e4
        simp only [updV, if_true]
        exact hv
      · simp only [updV, if_neg e3]
        exact e2 k' t' hk'
    · show tcell D G τ' (va_up w.1 a _ b)
      rw [va_up_ne _ _ e]
      exact h1 b τ' hb
  · by_cases e : b = a
    · subst e
      show pu (G b) (va_up w.1 b _ b) = _ ∧ qu (G b) (va_up w.1 b _ b) = _
      rw [va_up_self, hG, hV]
      exact pu_put ho hn
    · show pu (G b) (va_up w.1 a _ b) = _ ∧ qu (G b) (va_up w.1 a _ b) = _
      rw [va_up_ne _ _ e]
      exact ⟨rfl, rfl⟩
  · have e3 : b ≠ a := by
      intro e3; subst e3
      rcases a2 b τ hG with q | q
      · rw [q] at q2; cases q2
      · rw [q] at q1; cases q1
    show va_up w.1 a _ b = _
    rw [va_up_ne _ _ e3]
    exact a3 b e q1 q2
  · by_cases e3 : b = a
    · subst e3; exact ⟨_, va_up_self _ _ _⟩
    · obtain ⟨e', he⟩ := a4 b e q
      exact ⟨e', (va_up_ne _ _ e3).trans he⟩
  · have e3 : b ≠ a := by
      intro e3; subst e3
      have := a1 _ _ q1
      rw [hG] at this
      cases this
      exact keepA_O q2 ho
    have e4 := a5 b τ' q1 q2
    rw [← va_up_ne w.1 _ e3] at e4
    exact e4
  · by_cases e3 : b = a
    · subst e3
      have e4 := a1 _ _ q1
      rw [hG] at e4
      cases e4
      rw [ho] at q2
      cases q2
      have e5 : va_up w.1 b (some (.inr (c, updV V k v))) b = some (.inr (c, V2)) := q4
      rw [va_up_self] at e5
      cases e5
      have hne : k' ≠ k := by
        intro e6; subst e6
        have e7 : keepF c k' = true := hk'
        rw [hkf] at e7; cases e7
      simp only [updV, if_neg hne]
      exact a6 b τ (c, fs) V0 V q1 ho q3 hV k' hk'
    · have e5 : va_up w.1 a (some (.inr (c, updV V k v))) b = some (.inr (o.1, V2)) := q4
      rw [va_up_ne _ _ e3] at e5
      exact a6 b τ' o V0 V2 q1 q2 q3 e5 k' hk'
/-- an array's cell is written: one of numbers -/
theorem PW.arr {D : va_G} {G0 G : tG} {w0 w : jW} (h : PW D G0 w0 G w) {a τ kd n : Nat} {e : vT} {c0 c1 : jEl} (hG : G a = some τ) (ho : tyO τ = none) (ha : tyA τ = some (kd, n, e)) (hk : kd < 3) (h0 : w.1 a = some c0) (hc : tcell D G τ (some c1)) (hp : (pu (some τ) (some c1) = pu (some τ) (some c0) ∧ qu (some τ) (some c1) = qu (some τ) (some c0))) : PW D G0 w0 G (va_up w.1 a (some c1), w.2) := by
  obtain ⟨h1, h2, a1, a2, a3, a4, a5, a6⟩ := h
  refine ⟨fun b τ' hb => ?_, h2.same rfl (fun b => ?_) (va_up_dom h0).2, a1, a2, fun b e q1 q2 => ?_, fun b e q => ?_, fun b τ' q1 q2 => ?_, fun b τ' o V0 V2 q1 q2 q3 q4 k' hk' => ?_⟩
  · by_cases e : b = a
    · subst e
      cases hG.symm.trans hb
      show tcell D G τ (va_up w.1 b _ b)
      rw [va_up_self]; exact hc
    · show tcell D G τ' (va_up w.1 a _ b)
      rw [va_up_ne _ _ e]
      exact h1 b τ' hb
  · by_cases e : b = a
    · subst e
      show pu (G b) (va_up w.1 b _ b) = _ ∧ qu (G b) (va_up w.1 b _ b) = _
      rw [va_up_self, hG, h0]
      exact hp
    · show pu (G b) (va_up w.1 a _ b) = _ ∧ qu (G b) (va_up w.1 a _ b) = _
      rw [va_up_ne _ _ e]
      exact ⟨rfl, rfl⟩
  · have e3 : b ≠ a := by
      intro e3; subst e3
      rcases a2 b τ hG with q | q
      · rw [q] at q2; cases q2
      · rw [q] at q1; cases q1
    show va_up w.1 a _ b = _
    rw [va_up_ne _ _ e3]
    exact a3 b e q1 q2
  · by_cases e3 : b = a
    · subst e3; exact ⟨_, va_up_self _ _ _⟩
    · obtain ⟨e', he⟩ := a4 b e q
      exact ⟨e', (va_up_ne _ _ e3).trans he⟩
  · have e3 : b ≠ a := by
      intro e3; subst e3
      have := a1 _ _ q1
      rw [hG] at this
      cases this
      exact keepA_P q2 ha hk
    have e4 := a5 b τ' q1 q2
    rw [← va_up_ne w.1 _ e3] at e4
    exact e4
  · have e3 : b ≠ a := by
      intro e3; subst e3
      have := a1 _ _ q1
      rw [hG] at this
      cases this
      rw [ho] at q2; cases q2
    have e5 : va_up w.1 a (some c1) b = some (.inr (o.1, V2)) := q4
    rw [va_up_ne _ _ e3] at e5
    exact a6 b τ' o V0 V2 q1 q2 q3 e5 k' hk'
theorem pu_num {τ : Nat} {c c' : jEl} (h : nullc (some c) = 0 ∧ nullc (some c') = 0 ∧ nulle (some c) = 0 ∧ nulle (some c') = 0) : pu (some τ) (some c') = pu (some τ) (some c) ∧ qu (some τ) (some c') = qu (some τ) (some c) := by
  obtain ⟨h1, h2, h3, h4⟩ := h
  have hp : ∀ x, nullc (some x) = 0 → nulle (some x) = 0 → pu (some τ) (some x) = 0 ∧ qu (some τ) (some x) = 0 := by
    intro x q1 q2
    refine ⟨?_, ?_⟩
    · unfold pu
      split
      · exact q1
      · exact q1
      · exact q2
      · rfl
    · unfold qu
      split
      · exact q1
      · rfl
  rw [(hp c h1 h3).1, (hp c h1 h3).2, (hp c' h2 h4).1, (hp c' h2 h4).2]
  exact ⟨rfl, rfl⟩
/-- more cells -/
def gext (N : List (Nat × Nat)) (G : tG) : tG := fun b => match N.find? (fun p => p.1 == b) with
  | some p => some p.2
  | none => G b
theorem gext_none {N : List (Nat × Nat)} {G : tG} {b : Nat} (h : ∀ p ∈ N, p.1 ≠ b) : gext N G b = G b := by
  unfold gext
  have : N.find? (fun p => p.1 == b) = none := List.find?_eq_none.mpr (fun p hp => by simpa using h p hp)
  rw [this]
theorem gext_cases {N : List (Nat × Nat)} {G : tG} {b τ : Nat} (h : gext N G b = some τ) : (∃ p ∈ N, p.1 = b ∧ p.2 = τ) ∨ ((∀ p ∈ N, p.1 ≠ b) ∧ G b = some τ) := by
  unfold gext at h
  cases e : N.find? (fun p => p.1 == b) with
  | some p =>
    rw [e] at h
    refine Or.inl ⟨p, List.mem_of_find?_eq_some e, by simpa using List.find?_some e, by cases h; rfl⟩
  | none =>
    rw [e] at h
    exact Or.inr ⟨fun p hp => by simpa using List.find?_eq_none.mp e p hp, h⟩
theorem sum_one {As : List Nat} (hn : As.Nodup) {a : Nat} (ha : a ∈ As) {f g : Nat → Nat} (hfg : ∀ b, b ∈ As → b ≠ a → g b = f b) : (As.map g).sum + f a = (As.map f).sum + g a := by
  induction As with
  | nil => cases ha
  | cons b l ih =>
    have hn2 := List.nodup_cons.mp hn
    simp only [List.map_cons, List.sum_cons]
    by_cases e : b = a
    · subst e
      have : l.map g = l.map f := List.map_congr_left (fun c hc => hfg c (List.mem_cons_of_mem _ hc) (fun e => by subst e; exact hn2.1 hc))
      rw [this]
      omega
    · have ha2 : a ∈ l := by
        rcases List.mem_cons.mp ha with h | h
        · exact absurd h.symm e
        · exact h
      have := ih hn2.2 ha2 (fun c hc hne => hfg c (List.mem_cons_of_mem _ hc) hne)
      have hb := hfg b List.mem_cons_self e
      omega
theorem sum_zero : ∀ l : List Nat, (l.map (fun _ => 0)).sum = 0 := by
  intro l
  induction l with
  | nil => rfl
  | cons a l ih => rw [List.map_cons, List.sum_cons, ih]
theorem tcell_some {D : va_G} {G : tG} {τ : Nat} {c : Option jEl} (h : tcell D G τ c) : ∃ e, c = some e := by
  cases ho : tyO τ with
  | some o =>
    obtain ⟨V, h1, -⟩ := (tcell_O ho).mp h
    exact ⟨_, h1⟩
  | none =>
    cases ha : tyA τ with
    | none => unfold tcell at h; rw [ho, ha] at h; exact h.elim
    | some r =>
      obtain ⟨k, n, e⟩ := r
      match k, ha with
      | 0, ha => obtain ⟨f, h1, -⟩ := (tcell_I ho ha).mp h; exact ⟨_, h1⟩
      | 1, ha => obtain ⟨f, h1⟩ := (tcell_J ho ha).mp h; exact ⟨_, h1⟩
      | 2, ha => obtain ⟨f, h1, -⟩ := (tcell_Z ho ha).mp h; exact ⟨_, h1⟩
      | k + 3, ha => obtain ⟨f, h1, -⟩ := (tcell_R ho ha).mp h; exact ⟨_, h1⟩
/-- CELLS MADE, AND STORED WHERE THERE WAS NONE: w2 behind the making, a the cell that takes it -/
theorem PW.alloc {D : va_G} {G0 G : tG} {w0 w w2 : jW} (h : PW D G0 w0 G w) (N : List (Nat × Nat)) (Ns : List Nat) (hold : ∀ b e, w.1 b = some e → w2.1 b = some e) (hfresh : ∀ p ∈ N, ∀ b e, w.1 b = some e → b < p.1) (hN : ∀ p ∈ N, gext N G p.1 = some p.2) (hcell : ∀ p ∈ N, tcell D (gext N G) p.2 (w2.1 p.1) ∧ ∃ e, w2.1 p.1 = some e)
    {a τ : Nat} {c0 c9 : jEl} (hG : G a = some τ) (h0 : w.1 a = some c0) (hty : tcell D (gext N G) τ (some c9)) (hk : keepA τ = true → emono (some c0) (some c9)) (hkf : ∀ o V V', tyO τ = some o → c0 = .inr (o.1, V) → c9 = .inr (o.1, V') → ∀ k, keepF o.1 k = true → V' k = V k)
    (hpos : 0 < pu (some τ) (some c0)) (hNs : Ns.Nodup) (hNs1 : ∀ b ∈ Ns, ∃ p ∈ N, p.1 = b) (hNs2 : ∀ p ∈ N, p.1 ∉ Ns → pu (some p.2) (w2.1 p.1) = 0) (hNq : ∀ p ∈ N, qu (some p.2) (w2.1 p.1) = 0)
    (hc1 : w2.2.1 + 3 * (pu (some τ) (some c9) + (Ns.map (fun b => pu (gext N G b) (w2.1 b))).sum) + 26 * qu (some τ) (some c9) ≤ w.2.1 + 3 * pu (some τ) (some c0) + 26 * qu (some τ) (some c0))
    (hc2 : w2.2.2 + 604 * (pu (some τ) (some c9) + (Ns.map (fun b => pu (gext N G b) (w2.1 b))).sum) + 739 * qu (some τ) (some c9) ≤ w.2.2 + 604 * pu (some τ) (some c0) + 739 * qu (some τ) (some c0)) : PW D G0 w0 (gext N G) (va_up w2.1 a (some c9), w2.2) := by
  obtain ⟨hw, ⟨As, b0, b1, b2, b3, b4⟩, a1, a2, a3, a4, a5, a6⟩ := h
  have hGN : ∀ p ∈ N, G p.1 = none := by
    intro p hp
    cases e : G p.1 with
    | none => rfl
    | some τ' =>
      obtain ⟨c, hc⟩ := tcell_some (hw p.1 τ' e)
      have := hfresh p hp p.1 c hc
      omega
  have hne : ∀ b τ', G b = some τ' → ∀ p ∈ N, p.1 ≠ b := fun b τ' hb p hp e => by
    have := hGN p hp
    rw [e, hb] at this
    cases this
  have hgo : ∀ b τ', G b = some τ' → gext N G b = some τ' := fun b τ' hb => (gext_none (hne b τ' hb)).trans hb
  have haN : ∀ p ∈ N, p.1 ≠ a := hne a τ hG
  have hga : gext N G a = some τ := hgo a τ hG
  have hw2a : w2.1 a = some c0 := hold a c0 h0
  have haA : a ∈ As := by
    by_cases e : a ∈ As
    · exact e
    · have := (b2 a e).1
      rw [hG, h0] at this
      omega
  have hNA : ∀ p ∈ N, p.1 ∉ As := fun p hp hm => by
    obtain ⟨e, he⟩ := b1 _ hm
    have := hfresh p hp _ e he
    omega
  have hsame : ∀ b, b ≠ a → (∀ p ∈ N, p.1 ≠ b) → pu (gext N G b) (va_up w2.1 a (some c9) b) = pu (G b) (w.1 b) ∧ qu (gext N G b) (va_up w2.1 a (some c9) b) = qu (G b) (w.1 b) := by
    intro b hba hbN
    rw [gext_none hbN, va_up_ne _ _ hba]
    cases e : G b with
    | none => exact ⟨rfl, rfl⟩
    | some τ' =>
      obtain ⟨c, hc⟩ := tcell_some (hw b τ' e)
      rw [hc, hold b c hc]
      exact ⟨rfl, rfl⟩
  have hAsN : ∀ b ∈ As, ∀ p ∈ N, p.1 ≠ b := fun b hb p hp e => hNA p hp (by rw [e]; exact hb)
  have su : (As.map (fun b => pu (gext N G b) (va_up w2.1 a (some c9) b))).sum + pu (some τ) (some c0) = (As.map (fun b => pu (G b) (w.1 b))).sum + pu (some τ) (some c9) := by
    have := sum_one b0 haA (f := fun b => pu (G b) (w.1 b)) (g := fun b => pu (gext N G b) (va_up w2.1 a (some c9) b)) (fun b hb hba => (hsame b hba (hAsN b hb)).1)
    simp only [hG, h0, hga, va_up_self] at this
    exact this
  have sq : (As.map (fun b => qu (gext N G b) (va_up w2.1 a (some c9) b))).sum + qu (some τ) (some c0) = (As.map (fun b => qu (G b) (w.1 b))).sum + qu (some τ) (some c9) := by
    have := sum_one b0 haA (f := fun b => qu (G b) (w.1 b)) (g := fun b => qu (gext N G b) (va_up w2.1 a (some c9) b)) (fun b hb hba => (hsame b hba (hAsN b hb)).2)
    simp only [hG, h0, hga, va_up_self] at this
    exact this
  have hNsa : ∀ b ∈ Ns, b ≠ a := fun b hb e => by
    obtain ⟨p, hp, hpb⟩ := hNs1 b hb
    exact haN p hp (hpb.trans e)
  have nu : Ns.map (fun b => pu (gext N G b) (va_up w2.1 a (some c9) b)) = Ns.map (fun b => pu (gext N G b) (w2.1 b)) := List.map_congr_left (fun b hb => by rw [va_up_ne _ _ (hNsa b hb)])
  have nq : (Ns.map (fun b => qu (gext N G b) (va_up w2.1 a (some c9) b))).sum = 0 := by
    have : Ns.map (fun b => qu (gext N G b) (va_up w2.1 a (some c9) b)) = Ns.map (fun _ => 0) := List.map_congr_left (fun b hb => by
      obtain ⟨p, hp, hpb⟩ := hNs1 b hb
      rw [va_up_ne _ _ (hNsa b hb), ← hpb, hN p hp]
      exact hNq p hp)
    rw [this]
    exact sum_zero Ns
  refine ⟨fun b τ' hb => ?_, ⟨As ++ Ns, ?_, fun b hb => ?_, fun b hb => ?_, ?_, ?_⟩, fun b τ' hb => hgo b τ' (a1 b τ' hb), fun b τ' hb => ?_, fun b e q1 q2 => ?_, fun b e q => ?_, fun b τ' q1 q2 => ?_, fun b τ' o V0 V2 q1 q2 q3 q4 k hk' => ?_⟩
  · show tcell D (gext N G) τ' (va_up w2.1 a (some c9) b)
    rcases gext_cases hb with ⟨p, hp, hpb, hpt⟩ | ⟨hbN, hGb⟩
    · rw [va_up_ne _ _ (by rw [← hpb]; exact haN p hp), ← hpb, ← hpt]
      exact (hcell p hp).1
    · by_cases e : b = a
      · subst e
        rw [hG] at hGb
        cases hGb
        rw [va_up_self]; exact hty
      · rw [va_up_ne _ _ e]
        have hc := hw b τ' hGb
        obtain ⟨c, hcc⟩ := tcell_some hc
        rw [hcc] at hc
        rw [hold b c hcc]
        exact tcell_mono hgo hc
  · refine List.nodup_append.mpr ⟨b0, hNs, fun x hx y hy e => ?_⟩
    subst e
    obtain ⟨p, hp, hpb⟩ := hNs1 x hy
    exact hNA p hp (by rw [hpb]; exact hx)
  · show ∃ e, va_up w2.1 a (some c9) b = some e
    by_cases e1 : b = a
    · subst e1; exact ⟨c9, va_up_self _ _ _⟩
    · rw [va_up_ne _ _ e1]
      rcases List.mem_append.mp hb with hb | hb
      · obtain ⟨e, he⟩ := b1 b hb
        exact ⟨e, hold b e he⟩
      · obtain ⟨p, hp, hpb⟩ := hNs1 b hb
        rw [← hpb]
        exact (hcell p hp).2
  · show pu (gext N G b) (va_up w2.1 a (some c9) b) = 0 ∧ qu (gext N G b) (va_up w2.1 a (some c9) b) = 0
    have hbA : b ∉ As := fun e => hb (List.mem_append_left _ e)
    have hbS : b ∉ Ns := fun e => hb (List.mem_append_right _ e)
    have hba : b ≠ a := fun e => hbA (by rw [e]; exact haA)
    by_cases hx : ∃ p ∈ N, p.1 = b
    · obtain ⟨p, hp, hpb⟩ := hx
      rw [va_up_ne _ _ hba, ← hpb, hN p hp]
      exact ⟨hNs2 p hp (by rw [hpb]; exact hbS), hNq p hp⟩
    · have hbN : ∀ p ∈ N, p.1 ≠ b := fun p hp e => hx ⟨p, hp, e⟩
      rw [(hsame b hba hbN).1, (hsame b hba hbN).2]
      exact b2 b hbA
  · show w2.2.1 + 3 * ((As ++ Ns).map (fun b => pu (gext N G b) (va_up w2.1 a (some c9) b))).sum + 26 * ((As ++ Ns).map (fun b => qu (gext N G b) (va_up w2.1 a (some c9) b))).sum ≤ KC
    rw [List.map_append, List.map_append, List.sum_append, List.sum_append, nu, nq]
    omega
  · show w2.2.2 + 604 * ((As ++ Ns).map (fun b => pu (gext N G b) (va_up w2.1 a (some c9) b))).sum + 739 * ((As ++ Ns).map (fun b => qu (gext N G b) (va_up w2.1 a (some c9) b))).sum ≤ KS
    rw [List.map_append, List.map_append, List.sum_append, List.sum_append, nu, nq]
    omega
  · rcases gext_cases hb with ⟨p, hp, hpb, hpt⟩ | ⟨hbN, hGb⟩
    · refine Or.inr ?_
      cases e : w0.1 b with
      | none => rfl
      | some x =>
        obtain ⟨x', hx'⟩ := a4 b x e
        have := hfresh p hp b x' hx'
        omega
    · exact a2 b τ' hGb
  · have hba : b ≠ a := by
      intro e3
      rw [e3] at q1 q2
      rcases a2 a τ hG with q | q
      · rw [q] at q2; cases q2
      · rw [q] at q1; cases q1
    show va_up w2.1 a (some c9) b = some e
    rw [va_up_ne _ _ hba]
    exact hold b e (a3 b e q1 q2)
  · show ∃ e', va_up w2.1 a (some c9) b = some e'
    by_cases e1 : b = a
    · rw [e1]; exact ⟨c9, va_up_self _ _ _⟩
    · obtain ⟨x, hx⟩ := a4 b e q
      exact ⟨x, (va_up_ne _ _ e1).trans (hold b x hx)⟩
  · show emono (w0.1 b) (va_up w2.1 a (some c9) b)
    have h5 := a5 b τ' q1 q2
    by_cases e1 : b = a
    · have e2 := a1 b τ' q1
      rw [e1, hG] at e2
      have e2 : τ = τ' := Option.some.inj e2
      rw [e1] at h5 ⊢
      rw [va_up_self]
      rw [h0] at h5
      exact h5.trans (hk (by rw [e2]; exact q2))
    · rw [va_up_ne _ _ e1]
      obtain ⟨c, hc⟩ := tcell_some (hw b τ' (a1 b τ' q1))
      rw [hc] at h5
      rw [hold b c hc]
      exact h5
  · have q4 : va_up w2.1 a (some c9) b = some (.inr (o.1, V2)) := q4
    obtain ⟨V1, hV1, -⟩ := (tcell_O q2).mp (hw b τ' (a1 b τ' q1))
    by_cases e1 : b = a
    · have e2 := a1 b τ' q1
      rw [e1, hG] at e2
      have e2 : τ = τ' := Option.some.inj e2
      rw [e1, va_up_self] at q4
      rw [e1, h0] at hV1
      exact (hkf o V1 V2 (by rw [e2]; exact q2) (Option.some.inj hV1) (Option.some.inj q4) k hk').trans (a6 b τ' o V0 V1 q1 q2 q3 (by rw [e1, h0]; exact hV1) k hk')
    · rw [va_up_ne _ _ e1, hold b _ hV1] at q4
      have e3 : V1 = V2 := congrArg Prod.snd (Sum.inr.inj (Option.some.inj q4))
      rw [← e3]
      exact a6 b τ' o V0 V1 q1 q2 q3 hV1 k hk'
