/-! THE T LAYER: crowds made (own work) -/
theorem bud.room {G : tG} {w : jW} (h : bud G w) {a τ : Nat} (hG : G a = some τ) (hp : 0 < pu (some τ) (w.1 a)) : w.2.1 + 3 ≤ KC ∧ w.2.2 + 604 ≤ KS := by
  obtain ⟨As, b0, b1, b2, b3, b4⟩ := h
  have haA : a ∈ As := by
    by_cases e : a ∈ As
    · exact e
    · have := (b2 a e).1
      rw [hG] at this
      omega
  have h1 : pu (some τ) (w.1 a) ≤ (As.map (fun a => pu (G a) (w.1 a))).sum := by
    have key : ∀ l : List Nat, a ∈ l → pu (some τ) (w.1 a) ≤ (l.map (fun a => pu (G a) (w.1 a))).sum := by
      intro l
      induction l with
      | nil => intro h; cases h
      | cons b l ih =>
        intro hm
        rw [List.map_cons, List.sum_cons]
        rcases List.mem_cons.mp hm with e | h
        · rw [← e, hG]; omega
        · have := ih h; omega
    exact key As haA
  exact ⟨by omega, by omega⟩
section XC
variable {g : jG} {cc : ByteArray} {nL pc : Nat} {own : String} {D : va_G} {G0 G : tG} {w0 w : jW} {k0 n0 : Nat} {rm : Room} {l : Launch} {B : Nat} {H0 : Heap} {y0 : MethodName} {L : List (Nat × Value)} {st : List Value}
/-- new Crowd, dup, <init> -/
theorem x_crowd (C : jX g cc nL own D) (Rm : jRm g k0 n0 rm) (Y : jY g l B H0 y0) {idx idx2 : Nat} (hd1 : decode cc pc = .ok (.new idx, 3)) (hnw : jNew own idx 0 4 v0_0) (hb2 : sblk cc [(pc + 3, .dup, .null)]) (hd3 : decode cc (pc + 4) = .ok (.invokespecial idx2, 3)) (hcl : jcIn own idx2 y_Crowd_init b_Crowd_init 1 0) (h8 : (st.map fun v => v.category).sum ≤ 7) (hrm : rm.cells = KC - k0 ∧ rm.slots = KS - n0 ∧ k0 ≤ KC ∧ n0 ≤ KS ∧ 2 ≤ rm.frames ∧ 60 ≤ rm.locals) (hroom : w.2.1 + 3 ≤ KC ∧ w.2.2 + 604 ≤ KS)
    (kk : ∀ (q c1 c2 : Nat) (w2 : jW) (V9 : Nat → Value), (∀ b e, w.1 b = some e → b < q) → q < c1 → q < c2 → c1 ≠ c2 → (∀ b e, w.1 b = some e → w2.1 b = some e) → w2.1 q = some (.inr (0, V9)) → V9 0 = .ref c1 → V9 1 = .ref c2 → V9 2 = .int 0 → V9 3 = .int 0 → w2.1 c1 = some (aI D 300 (fun _ => 0)) → w2.1 c2 = some (aJ D 300 (fun _ => 0)) → w2.2.1 = w.2.1 + 3 → w2.2.2 = w.2.2 + 604 → JJ g w2 (pc + 7) L (.ref q :: st)) : JJ g w pc L st := by
  refine j_new C Rm hd1 hnw (by omega) (by omega) (fun q hq => ?_)
  refine jnv (fun w1 e1 => ?_)
  have hm : w1.1 q = some (.inr (0, v0_0)) := jus e1
  have hk : w1.2.1 = w.2.1 + 1 ∧ w1.2.2 = w.2.2 + 4 := by rw [e1]; exact ⟨rfl, rfl⟩
  refine j_blk (pc + 4) L (.ref q :: .ref q :: st) C hb2 (by
    show (match Nat.beq (pc + 3) (pc + 3) with | true => _ | false => _) = _
    rw [Nat.beq_refl]
    rfl) ?_
  refine j_callIn C Rm Y [] (.ref q :: st) (c_Crowd_init l D B H0 w1 q v0_0 hm) hcl hd3 rfl rfl (by simp only [List.map_cons, List.sum_cons]; show 1 + _ ≤ 8; omega) ⟨by omega, by omega⟩ ⟨by omega, by omega⟩ (fun v w2 p => ?_)
  obtain ⟨rfl, hk2, G2, V9, c1, c2, l1, l2, mo, h0, h1, h2, h3, m1, m2⟩ := p
  have hne : c1 ≠ c2 := fun e => by
    rw [e, m2] at m1
    have := (Prod.mk.inj (Prod.mk.inj (Sum.inl.inj (Option.some.inj m1))).2).2
    cases this
  refine kk q c1 c2 w2 V9 hq (l1 q _ hm) (l2 q _ hm) hne (fun b e hb => ?_) mo h0 h1 h2 h3 m1 m2 (by omega) (by omega)
  have hbq := Nat.ne_of_lt (hq b e hb)
  exact (G2 b e (jun e1 hb hbq)).1 hbq
/-- the crowd's cells' types -/
abbrev xN (q c1 c2 : Nat) : List (Nat × Nat) := [(q, 0), (c1, 31), (c2, 32)]
theorem xN_ok {q c1 c2 : Nat} (h1 : q < c1) (h2 : q < c2) (h3 : c1 ≠ c2) : gext (xN q c1 c2) G q = some 0 ∧ gext (xN q c1 c2) G c1 = some 31 ∧ gext (xN q c1 c2) G c2 = some 32 := by
  have e1 : (q == c1) = false := by simpa using Nat.ne_of_lt h1
  have e2 : (q == c2) = false := by simpa using Nat.ne_of_lt h2
  have e3 : (c1 == c2) = false := by simpa using h3
  refine ⟨?_, ?_, ?_⟩
  · simp [gext, List.find?]
  · simp [gext, List.find?, e1]
  · simp [gext, List.find?, e2, e3]
theorem xN_cells {q c1 c2 : Nat} {w2 : jW} {V9 : Nat → Value} (h1 : q < c1) (h2 : q < c2) (h3 : c1 ≠ c2) (mo : w2.1 q = some (.inr (0, V9))) (e0 : V9 0 = .ref c1) (e1 : V9 1 = .ref c2) (e2 : V9 2 = .int 0) (e3 : V9 3 = .int 0) (m1 : w2.1 c1 = some (aI D 300 (fun _ => 0))) (m2 : w2.1 c2 = some (aJ D 300 (fun _ => 0))) : (∀ p ∈ xN q c1 c2, gext (xN q c1 c2) G p.1 = some p.2) ∧ (∀ p ∈ xN q c1 c2, tcell D (gext (xN q c1 c2) G) p.2 (w2.1 p.1) ∧ ∃ e, w2.1 p.1 = some e) ∧ (∀ p ∈ xN q c1 c2, pu (some p.2) (w2.1 p.1) = 0) ∧ ∀ p ∈ xN q c1 c2, qu (some p.2) (w2.1 p.1) = 0 := by
  obtain ⟨n1, n2, n3⟩ := xN_ok (G := G) h1 h2 h3
  refine ⟨fun p hp => ?_, fun p hp => ?_, fun p hp => ?_, fun p hp => ?_⟩
  · rcases List.mem_cons.mp hp with rfl | hp
    · exact n1
    · rcases List.mem_cons.mp hp with rfl | hp
      · exact n2
      · rcases List.mem_cons.mp hp with rfl | hp
        · exact n3
        · cases hp
  · rcases List.mem_cons.mp hp with rfl | hp
    · refine ⟨(tcell_O (τ := 0) rfl).mpr ⟨V9, mo, fun k t hk => ?_⟩, _, mo⟩
      match k, hk with
      | 0, hk => cases hk; rw [e0]; exact ⟨c1, rfl, n2⟩
      | 1, hk => cases hk; rw [e1]; exact ⟨c2, rfl, n3⟩
      | 2, hk => cases hk; rw [e2]; exact ⟨0, rfl, by decide, by decide⟩
      | 3, hk => cases hk; rw [e3]; exact ⟨0, rfl, by decide, by decide⟩
      | k + 4, hk => cases hk
    · rcases List.mem_cons.mp hp with rfl | hp
      · exact ⟨(tcell_I (τ := 31) rfl rfl).mpr ⟨_, m1, fun j hj => ⟨0, rfl, by decide, by decide⟩⟩, _, m1⟩
      · rcases List.mem_cons.mp hp with rfl | hp
        · exact ⟨(tcell_J (τ := 32) rfl rfl).mpr ⟨_, m2⟩, _, m2⟩
        · cases hp
  · rcases List.mem_cons.mp hp with rfl | hp
    · rfl
    · rcases List.mem_cons.mp hp with rfl | hp
      · rfl
      · rcases List.mem_cons.mp hp with rfl | hp
        · rfl
        · cases hp
  · rcases List.mem_cons.mp hp with rfl | hp
    · rfl
    · rcases List.mem_cons.mp hp with rfl | hp
      · rfl
      · rcases List.mem_cons.mp hp with rfl | hp
        · rfl
        · cases hp
theorem nulls_one {n i : Nat} {f : Nat → Option Nat} {q : Nat} (hi : i < n) (hf : f i = none) : nulls n f = nulls n (va_up f i (some q)) + 1 := by
  unfold nulls
  have key : ∀ l : List Nat, l.Nodup → i ∈ l → (l.filter (fun j => (f j).isNone)).length = (l.filter (fun j => (va_up f i (some q) j).isNone)).length + 1 := by
    intro l
    induction l with
    | nil => intro _ h; cases h
    | cons a l ih =>
      intro hn hm
      have hn2 := List.nodup_cons.mp hn
      by_cases e : a = i
      · subst e
        have e1 : (f a).isNone = true := by rw [hf]; rfl
        have e2 : (va_up f a (some q) a).isNone = false := by rw [va_up_self]; rfl
        have this : l.filter (fun j => (f j).isNone) = l.filter (fun j => (va_up f a (some q) j).isNone) := List.filter_congr (fun b hb => by
          have hba : b ≠ a := fun e => by subst e; exact hn2.1 hb
          rw [va_up_ne _ _ hba])
        simp only [List.filter_cons, e1, e2, if_true, Bool.false_eq_true, if_false, List.length_cons, this]
      · have hm2 : i ∈ l := by
          rcases List.mem_cons.mp hm with h | h
          · exact absurd h.symm e
          · exact h
        have h1 := ih hn2.2 hm2
        have e2 : va_up f i (some q) a = f a := va_up_ne _ _ e
        cases e1 : (f a).isNone with
        | true => simp only [List.filter_cons, e2, e1, if_true, List.length_cons, h1]
        | false => simp only [List.filter_cons, e2, e1, Bool.false_eq_true, if_false, h1]
  exact key _ List.nodup_range (List.mem_range.mpr hi)
theorem up_mono {n i q : Nat} {t : ClassId} {f : Nat → Option Nat} (hf : f i = none) : emono (some (.inl (t, n, .inr (.inr (.inr (.inr f)))))) (some (.inl (t, n, .inr (.inr (.inr (.inr (va_up f i (some q)))))))) := fun t' n' f' h => by
  have h1 := Sum.inl.inj (Option.some.inj h)
  have e1 : t = t' := (Prod.mk.inj h1).1
  have h2 := (Prod.mk.inj h1).2
  have e2 : n = n' := (Prod.mk.inj h2).1
  have e3 : f = f' := by
    have := (Prod.mk.inj h2).2
    injection this with a
    injection a with a
    injection a with a
    injection a
  subst e1 e2 e3
  refine ⟨_, rfl, fun j r hj => ?_⟩
  by_cases e : j = i
  · rw [e, hf] at hj; cases hj
  · rw [va_up_ne _ _ e]; exact hj
end XC
theorem x_mono {D : va_G} {G : tG} {w : jW} {N : List (Nat × Nat)} (hw : WOK D G w) (hf : ∀ p ∈ N, ∀ b e, w.1 b = some e → b < p.1) : ∀ a τ, G a = some τ → gext N G a = some τ := fun a τ h => by
  refine (gext_none (fun p hp e => ?_)).trans h
  obtain ⟨c, hc⟩ := tcell_some (hw a τ h)
  have := hf p hp a c hc
  omega
theorem xN_fresh {w : jW} {q c1 c2 : Nat} (hq : ∀ b e, w.1 b = some e → b < q) (h1 : q < c1) (h2 : q < c2) : ∀ p ∈ xN q c1 c2, ∀ b e, w.1 b = some e → b < p.1 := fun p hp b e hb => by
  have := hq b e hb
  rcases List.mem_cons.mp hp with rfl | hp
  · exact this
  · rcases List.mem_cons.mp hp with rfl | hp
    · show b < c1; omega
    · rcases List.mem_cons.mp hp with rfl | hp
      · show b < c2; omega
      · cases hp
theorem tcell_sm {D : va_G} {G : tG} {τ : Nat} {c : Option jEl} (h : tcell D G τ c) : ∃ e, c = some e := by
  cases c with
  | some e => exact ⟨e, rfl⟩
  | none =>
    exfalso
    unfold tcell at h
    split at h
    · obtain ⟨V, h, -⟩ := h
      cases h
    · split at h
      · split at h
        · obtain ⟨f, h, -⟩ := h
          cases h
        · obtain ⟨f, h⟩ := h
          cases h
        · obtain ⟨f, h, -⟩ := h
          cases h
        · obtain ⟨f, h, -⟩ := h
          cases h
      · exact h
theorem TRk.alloc {D : va_G} {K : List (Nat × Nat)} {G0 G : tG} {w0 w w2 : jW} (h : TRk K G0 w0 w) (hT : TRr G0 w0 G w) (hw : WOK D G w) (hold : ∀ b e, w.1 b = some e → w2.1 b = some e) {a τ : Nat} {c0 c9 : jEl} (hG : G a = some τ) (h0 : w.1 a = some c0) (hk : ∀ (c : Nat) (fs : List vT) (V V' : Nat → Value), tyO τ = some (c, fs) → c0 = .inr (c, V) → c9 = .inr (c, V') → ∀ k, kel K c k = true → V' k = V k) (hka : tyO τ = none → kel K (1000 + τ) 0 = false) : TRk K G0 w0 (va_up w2.1 a (some c9), w2.2) := by
  refine ⟨fun b τ' c fs V0 V9 k q1 q2 q3 q4 q5 => ?_, fun b τ' q1 q2 q3 => ?_⟩
  case refine_2 =>
    have e : b ≠ a := by
      intro e
      rw [e] at q1
      have e1 := hT.1 _ _ q1
      rw [hG] at e1
      have e1 : τ = τ' := Option.some.inj e1
      rw [← e1] at q2 q3
      rw [hka q2] at q3
      cases q3
    obtain ⟨x, hx⟩ := tcell_sm (hw b τ' (hT.1 b τ' q1))
    exact ((va_up_ne _ _ e).trans (hold b x hx)).trans (hx.symm.trans (h.2 b τ' q1 q2 q3))
  have hGb := hT.1 b τ' q1
  obtain ⟨V1, hV1, -⟩ := (tcell_O q2).mp (hw b τ' hGb)
  have q5 : va_up w2.1 a (some c9) b = some (.inr (c, V9)) := q5
  by_cases e : b = a
  · rw [e, hG] at hGb
    have e2 : τ = τ' := Option.some.inj hGb
    rw [e, va_up_self] at q5
    have hV2 := hV1
    rw [e, h0] at hV2
    exact (hk c fs V1 V9 (by rw [e2]; exact q2) (Option.some.inj hV2) (Option.some.inj q5) k q3).trans (h.1 b τ' c fs V0 V1 k q1 q2 q3 q4 hV1)
  · rw [va_up_ne _ _ e, hold b _ hV1] at q5
    have e3 : V1 = V9 := congrArg Prod.snd (Sum.inr.inj (Option.some.inj q5))
    rw [← e3]
    exact h.1 b τ' c fs V0 V1 k q1 q2 q3 q4 hV1
theorem x_null {f : Nat → Option Nat} {i : Nat} (h : va_rf (f i) = .null) : f i = none := by
  cases e : f i with
  | none => rfl
  | some r => rw [e] at h; cases h
theorem x_arrf {D : va_G} {t n n' : Nat} {f f' : Nat → Option Nat} {t' : Nat} (h : (some (aR D t n f) : Option jEl) = some (aR D t' n' f')) : f = f' := by
  have h1 := (Prod.mk.inj (Prod.mk.inj (Sum.inl.inj (Option.some.inj h))).2).2
  injection h1 with a
  injection a with a
  injection a with a
  injection a
