/-! two contracts of one call hold of the same end (own work) -/
theorem room_mono {s : State} {pl : Platform} {r r' : Room} (h : s.hasRoom pl r' = true) (hf : r.frames ≤ r'.frames) (hl : r.locals ≤ r'.locals) (hc : r.cells ≤ r'.cells) (hs : r.slots ≤ r'.slots) : s.hasRoom pl r = true := by
  unfold State.hasRoom at h ⊢
  simp only [Bool.and_eq_true, decide_eq_true_eq] at h ⊢
  obtain ⟨⟨⟨⟨h1, h2, h3, h4, h5, h6⟩, h7⟩, h8⟩, h9⟩ := h
  exact ⟨⟨⟨⟨by omega, by omega, by omega, by omega, by omega, h6⟩, by omega⟩, by omega⟩, h9⟩
theorem loose_mono {x : MethodName} {pl : Platform} {s : State} {m : MethodId} {args : Array Value} {below : List Frame} {ws : List Cond} {r r' : Room} (hfr : s.frames = .invoking m args :: below) (h : (headSpec ws r').appliesLoose x pl s = true) (hf : r.frames ≤ r'.frames) (hl : r.locals ≤ r'.locals) (hc : r.cells ≤ r'.cells) (hs : r.slots ≤ r'.slots) : (headSpec ws r).appliesLoose x pl s = true := by
  rw [Spec.appliesLoose_iff hfr] at h ⊢
  exact ⟨h.1, h.2.1, h.2.2.1, h.2.2.2.1, h.2.2.2.2.1, h.2.2.2.2.2.1, room_mono h.2.2.2.2.2.2.1 hf hl hc hs, h.2.2.2.2.2.2.2⟩
theorem met_both {l : Launch} {x : MethodName} {S1 S2 S : Spec} {P1 P2 : Array Value → State → Prop} {K : Program → Env → List Frame → State → Array Value → Prop} {Q1 Q2 : Array Value → State → Outcome → State → Prop} (h1 : MetFree l x S1 P1 K Q1) (h2 : MetFree l x S2 P2 K Q2)
    (hS : ∀ (pl : Platform) (s : State) (m : MethodId) (args : Array Value) (below : List Frame), s.frames = .invoking m args :: below → S.appliesLoose x pl s = true → S1.appliesLoose x pl s = true ∧ S2.appliesLoose x pl s = true) : MetFree l x S (fun a s => P1 a s ∧ P2 a s) K (fun a s o t => Q1 a s o t ∧ Q2 a s o t) := by
  intro p e ha hf1 hf2 s m args below hfr hap hP hK
  obtain ⟨a1, a2⟩ := hS _ s m args below hfr hap
  obtain ⟨n1, o1, w1, r1, e1, q1⟩ := h1 p e ha hf1 hf2 s m args below hfr a1 hP.1 hK
  obtain ⟨n2, o2, w2, r2, e2, q2⟩ := h2 p e ha hf1 hf2 s m args below hfr a2 hP.2 hK
  have hn : n1 = n2 := by
    rcases Nat.lt_trichotomy n1 n2 with h | h | h
    · exact absurd (w2 n1 h) e1.not_within
    · exact h
    · exact absurd (w1 n2 h) e2.not_within
  subst hn
  have ho : o1 = o2 := e1.outcome_unique e2
  subst ho
  exact ⟨n1, o1, w1, r1, e1, q1, q2⟩
/-- worlds of one heap -/
def jAg (D : va_G) (w w' : jW) : Prop := ∃ (B : Nat) (H0 H : Heap), jH D B H0 w H ∧ jH D B H0 w' H
theorem jMet_both {l : Launch} {D : va_G} {B : Nat} {H0 : Heap} {y : MethodName} {cc : ByteArray} {maxL : Nat} {ret : Option FieldType} {fr lo fr1 lo1 fr2 lo2 mc ms mc2 ms2 : Nat} {av : List Value} {w : jW} {P1 P2 : Option Value → jW → Prop} (h1 : jMet l D B H0 y cc maxL ret fr1 lo1 mc ms av w P1) (h2 : jMet l D B H0 y cc maxL ret fr2 lo2 mc2 ms2 av w P2) (hf1 : fr1 ≤ fr) (hl1 : lo1 ≤ lo) (hf2 : fr2 ≤ fr) (hl2 : lo2 ≤ lo) (hc : mc2 ≤ mc) (hs : ms2 ≤ ms) : jMet l D B H0 y cc maxL ret fr lo mc ms av w (fun v w9 => P1 v w9 ∧ ∃ w', P2 v w' ∧ jAg D w9 w') := by
  have k := met_both (S := headSpec (Cond.code y cc maxL ret :: jwd) ({ frames := fr, cells := mc, slots := ms, locals := lo } : Room)) h1 h2 (fun pl s m args below hfr hap => ⟨loose_mono hfr hap hf1 hl1 (Nat.le_refl _) (Nat.le_refl _), loose_mono hfr hap hf2 hl2 hc hs⟩)
  intro p e ha hfa hfb s m args below hfr hap hP hK
  obtain ⟨n, o, c1, c2, c3, ⟨q1, f1⟩, q2, -⟩ := k p e ha hfa hfb s m args below hfr hap ⟨hP, hP⟩ hK
  refine ⟨n, o, c1, c2, c3, ?_, f1⟩
  obtain ⟨v, w9, rfl, p1, j1⟩ := q1
  obtain ⟨v', w', hv, p2, j2⟩ := q2
  cases hv
  exact ⟨v, w9, rfl, ⟨p1, w', p2, B, H0, _, j1, j2⟩, j1⟩
