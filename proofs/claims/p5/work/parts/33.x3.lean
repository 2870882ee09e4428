/-! THE T LAYER: cells made, by their shapes; a program made (own work) -/
def tshI (n : Nat) : Nat := if n = 120 then 20 else if n = 40 then 24 else if n = 60 then 27 else if n = 10 then 28 else if n = 300 then 31 else 33
def tshJ (n : Nat) : Nat := if n = 10 then 23 else if n = 100 then 29 else 32
def tshR (n : Nat) : Nat := if n = 6 then 21 else if n = 4 then 22 else if n = 16 then 25 else 35
def tshp (c : Option jEl) : Nat := match c with
  | some (.inr (c, _)) => c
  | some (.inl (_, n, .inl _)) => tshI n
  | some (.inl (_, n, .inr (.inl _))) => tshJ n
  | some (.inl (_, n, .inr (.inr (.inr (.inr _))))) => tshR n
  | _ => 99
theorem newcells {N : List (Nat × Nat)} {f9 : Nat → Nat} (h : ∀ p ∈ N, f9 p.1 = p.2) (G : tG) : ∀ p ∈ N, gext N G p.1 = some p.2 := fun p hp => by
  have h1 : ∃ r, N.find? (fun r => r.1 == p.1) = some r := by
    cases e : N.find? (fun r => r.1 == p.1) with
    | some r => exact ⟨r, rfl⟩
    | none => exact absurd (beq_self_eq_true p.1) (List.find?_eq_none.mp e p hp)
  obtain ⟨r, hr⟩ := h1
  have hm := List.mem_of_find?_eq_some hr
  have he : r.1 = p.1 := by simpa using List.find?_some hr
  unfold gext
  rw [hr]
  show some r.2 = some p.2
  rw [← h r hm, ← h p hp, he]
theorem tn_I {D : va_G} {G : tG} {τ n : Nat} {a b : Int} {c : Option jEl} (ho : tyO τ = none) (ha : tyA τ = some (0, n, (0, a, b))) (h0 : a ≤ 0 ∧ 0 ≤ b) (m : c = some (aI D n (fun _ => 0))) : tcell D G τ c := (tcell_I ho ha).mpr ⟨_, m, fun _ _ => ⟨0, rfl, h0.1, h0.2⟩⟩
theorem tn_J {D : va_G} {G : tG} {τ n : Nat} {e : vT} {c : Option jEl} (ho : tyO τ = none) (ha : tyA τ = some (1, n, e)) (m : c = some (aJ D n (fun _ => 0))) : tcell D G τ c := (tcell_J ho ha).mpr ⟨_, m⟩
theorem tn_R {D : va_G} {G : tG} {τ t n : Nat} {a b : Int} {c : Option jEl} (ho : tyO τ = none) (ha : tyA τ = some (t + 3, n, (5, a, b))) (m : c = some (aR D (t + 3) n (fun _ => none))) : tcell D G τ c := (tcell_R ho ha).mpr ⟨_, m, fun _ _ => Or.inl rfl⟩
theorem vo_int {G : tG} {v : Value} {x : Int32} {a b : Int} (h : v = .int x) (h1 : a ≤ x.toInt) (h2 : x.toInt ≤ b) : vok G (0, a, b) v := ⟨x, h, h1, h2⟩
theorem vo_ref {G : tG} {v : Value} {q τ : Nat} {b : Int} (h : v = .ref q) (hg : G q = some τ) : vok G (4, (τ : Int), b) v := ⟨q, h, hg⟩
theorem vo_nul {G : tG} {v : Value} {a b : Int} (h : v = .null) : vok G (5, a, b) v := Or.inl h
theorem bud.room2 {G : tG} {w : jW} (h : bud G w) {a τ : Nat} (hG : G a = some τ) (hp : 0 < qu (some τ) (w.1 a)) : w.2.1 + 26 ≤ KC ∧ w.2.2 + 739 ≤ KS := by
  obtain ⟨As, b0, b1, b2, b3, b4⟩ := h
  have haA : a ∈ As := by
    by_cases e : a ∈ As
    · exact e
    · have := (b2 a e).2
      rw [hG] at this
      omega
  have h1 : qu (some τ) (w.1 a) ≤ (As.map (fun a => qu (G a) (w.1 a))).sum := by
    have key : ∀ l : List Nat, a ∈ l → qu (some τ) (w.1 a) ≤ (l.map (fun a => qu (G a) (w.1 a))).sum := by
      intro l
      induction l with
      | nil => intro h; cases h
      | cons b l ih =>
        intro hm
        rw [List.map_cons, List.sum_cons]
        rcases List.mem_cons.mp hm with e | h
        · rw [← e, hG]; omega
        · have := ih h; omega
    exact key As haA
  exact ⟨by omega, by omega⟩
/-- what a new program brings -/
def xPn (D : va_G) (w w2 : jW) (q : Nat) (N : List (Nat × Nat)) : Prop :=
  (∀ b e, w.1 b = some e → w2.1 b = some e) ∧ (∀ p ∈ N, ∀ b e, w.1 b = some e → b < p.1) ∧ (∀ G, ∀ p ∈ N, gext N G p.1 = some p.2) ∧ (∀ G, ∀ p ∈ N, tcell D (gext N G) p.2 (w2.1 p.1) ∧ ∃ e, w2.1 p.1 = some e) ∧
  ((q, 2) ∈ N ∧ pu (some 2) (w2.1 q) = 1 ∧ ∃ V, w2.1 q = some (.inr (2, V))) ∧ (∀ p ∈ N, p.1 ∉ [q] → pu (some p.2) (w2.1 p.1) = 0) ∧ (∀ p ∈ N, qu (some p.2) (w2.1 p.1) = 0) ∧ w2.2.1 = w.2.1 + 26 ∧ w2.2.2 = w.2.2 + 739
theorem xPn_ok {D : va_G} {w w1 w2 : jW} {q sp cd lv lw sk ru r1 r2 r3 : Nat} {V9 Vr : Nat → Value} {F : Nat → Option Nat} (hq : ∀ b e, w.1 b = some e → b < q) (e1 : w1 = (va_up w.1 q (some (.inr (2, v0_2))), w.2.1 + 1, w.2.2 + 16)) (hc : w2.2.1 = w1.2.1 + 25 ∧ w2.2.2 = w1.2.2 + 723) (hfr : jfr (fun b => b ≠ q) w1 w2) (l1 : ∀ b e, w1.1 b = some e → b < sp) (l2 : ∀ b e, w1.1 b = some e → b < cd) (l3 : ∀ b e, w1.1 b = some e → b < lv) (l4 : ∀ b e, w1.1 b = some e → b < lw) (l5 : ∀ b e, w1.1 b = some e → b < sk) (l6 : ∀ b e, w1.1 b = some e → b < ru) (l7 : ∀ b e, w1.1 b = some e → b < r1) (l8 : ∀ b e, w1.1 b = some e → b < r2) (l9 : ∀ b e, w1.1 b = some e → b < r3)
    (mo : w2.1 q = some (.inr (2, V9))) (h0 : V9 0 = .ref sp) (h1 : V9 1 = v0_2 1) (h2 : V9 2 = .ref cd) (h3 : V9 3 = v0_2 3) (h4 : V9 4 = .ref lv) (h5 : V9 5 = .ref lw) (h6 : V9 6 = v0_2 6) (h7 : V9 7 = .ref sk) (h8 : V9 8 = v0_2 8) (h9 : V9 9 = v0_2 9) (h10 : V9 10 = v0_2 10) (h11 : V9 11 = v0_2 11) (h12 : V9 12 = .ref ru) (h13 : V9 13 = v0_2 13) (h14 : V9 14 = .int (-1)) (h15 : V9 15 = v0_2 15)
    (mr : w2.1 ru = some (.inr (4, Vr))) (u0 : Vr 0 = .ref r1) (u1 : Vr 1 = .ref r2) (u2 : Vr 2 = .ref r3) (m1 : w2.1 cd = some (aI D 120 (fun _ => 0))) (m2 : w2.1 lv = some (aI D 60 (fun _ => 0))) (m3 : w2.1 lw = some (aI D 60 (fun _ => 0))) (m4 : w2.1 sk = some (aI D 120 (fun _ => 0))) (m5 : w2.1 r1 = some (aI D 10 (fun _ => 0))) (m6 : w2.1 r2 = some (aJ D 100 (fun _ => 0))) (m7 : w2.1 r3 = some (aJ D 10 (fun _ => 0))) (m8 : w2.1 sp = some (aR D 10 16 F)) (hel : jels w1 w2 F 16) (hcs : cd ≠ sk) :
    ∃ N, xPn D w w2 q N := by
  have inw : ∀ b e, w.1 b = some e → w1.1 b = some e := fun b e hb => jun e1 hb (Nat.ne_of_lt (hq b e hb))
  have hst : ∀ p ∈ (List.range 16).map (fun j => ((F j).getD 0, 6)), ∃ V, w2.1 p.1 = some (.inr (6, V)) ∧ p.2 = 6 ∧ (∀ b e, w.1 b = some e → b < p.1) ∧ p.1 ≠ q ∧ ∀ k, k < 14 → V k = v0_6 k := fun p hp => by
    obtain ⟨j, hj, rfl⟩ := List.mem_map.mp hp
    obtain ⟨s, Vs, a1, a2, a3, a4⟩ := hel j (List.mem_range.mp hj)
    have a5 : ((F j).getD 0) = s := by rw [a1]; rfl
    refine ⟨Vs, ?_, rfl, ?_, ?_, a4⟩
    · show w2.1 ((F j).getD 0) = _
      rw [a5]; exact a3
    · show ∀ b e, w.1 b = some e → b < (F j).getD 0
      rw [a5]; exact fun b e hb => a2 b e (inw b e hb)
    · show (F j).getD 0 ≠ q
      rw [a5]
      exact Nat.ne_of_gt (a2 q _ (jus e1))
  let N : List (Nat × Nat) := (q, 2) :: (sp, 25) :: (cd, 36) :: (lv, 27) :: (lw, 27) :: (sk, 37) :: (ru, 4) :: (r1, 28) :: (r2, 29) :: (r3, 23) :: (List.range 16).map (fun j => ((F j).getD 0, 6))
  let f9 : Nat → Nat := fun a => if a = sk then 37 else if a = cd then 36 else tshp (w2.1 a)
  have f9e : ∀ a, a ≠ sk → a ≠ cd → f9 a = tshp (w2.1 a) := fun a h1 h2 => by
    show (if a = sk then 37 else if a = cd then 36 else tshp (w2.1 a)) = _
    rw [if_neg h1, if_neg h2]
  have hsh : ∀ p ∈ N, f9 p.1 = p.2 := by
    refine List.forall_mem_cons.mpr ⟨?_, List.forall_mem_cons.mpr ⟨?_, List.forall_mem_cons.mpr ⟨?_, List.forall_mem_cons.mpr ⟨?_, List.forall_mem_cons.mpr ⟨?_, List.forall_mem_cons.mpr ⟨?_, List.forall_mem_cons.mpr ⟨?_, List.forall_mem_cons.mpr ⟨?_, List.forall_mem_cons.mpr ⟨?_, List.forall_mem_cons.mpr ⟨?_, fun p hp => ?_⟩⟩⟩⟩⟩⟩⟩⟩⟩⟩
    · show f9 q = 2; rw [f9e q (jneOA mo m4) (jneOA mo m1), mo]; rfl
    · show f9 sp = 25; rw [f9e sp (jneN m8 m4 rfl) (jneN m8 m1 rfl), m8]; rfl
    · show (if cd = sk then 37 else if cd = cd then 36 else tshp (w2.1 cd)) = 36; rw [if_neg hcs, if_pos rfl]
    · show f9 lv = 27; rw [f9e lv (jneN m2 m4 rfl) (jneN m2 m1 rfl), m2]; rfl
    · show f9 lw = 27; rw [f9e lw (jneN m3 m4 rfl) (jneN m3 m1 rfl), m3]; rfl
    · show (if sk = sk then 37 else if sk = cd then 36 else tshp (w2.1 sk)) = 37; rw [if_pos rfl]
    · show f9 ru = 4; rw [f9e ru (jneOA mr m4) (jneOA mr m1), mr]; rfl
    · show f9 r1 = 28; rw [f9e r1 (jneN m5 m4 rfl) (jneN m5 m1 rfl), m5]; rfl
    · show f9 r2 = 29; rw [f9e r2 (jneN m6 m4 rfl) (jneN m6 m1 rfl), m6]; rfl
    · show f9 r3 = 23; rw [f9e r3 (jneN m7 m4 rfl) (jneN m7 m1 rfl), m7]; rfl
    · obtain ⟨V, a1, a2, -⟩ := hst p hp
      rw [f9e p.1 (jneOA a1 m4) (jneOA a1 m1), a1, a2]; rfl
  have hg := newcells hsh
  have mem : ∀ p ∈ N, ∀ G, gext N G p.1 = some p.2 := fun p hp G => hg G p hp
  have tl : ∀ {a : Nat × Nat} {l : List (Nat × Nat)}, (∀ p ∈ a :: l, ∀ G, gext N G p.1 = some p.2) → (∀ G, gext N G a.1 = some a.2) ∧ ∀ p ∈ l, ∀ G, gext N G p.1 = some p.2 := fun h => ⟨h _ List.mem_cons_self, fun p hp => h p (List.mem_cons_of_mem _ hp)⟩
  obtain ⟨gq, t1⟩ := tl mem
  obtain ⟨gsp, t2⟩ := tl t1
  obtain ⟨gcd, t3⟩ := tl t2
  obtain ⟨glv, t4⟩ := tl t3
  obtain ⟨glw, t5⟩ := tl t4
  obtain ⟨gsk, t6⟩ := tl t5
  obtain ⟨gru, t7⟩ := tl t6
  obtain ⟨gr1, t8⟩ := tl t7
  obtain ⟨gr2, t9⟩ := tl t8
  obtain ⟨gr3, t10⟩ := tl t9
  have hpq : pu (some 2) (w2.1 q) = 1 := by
    rw [mo]
    show (match V9 13 with | .null => 1 | _ => 0) = 1
    rw [h13]; rfl
  refine ⟨N, fun b e hb => (hfr b e (inw b e hb)).1 (Nat.ne_of_lt (hq b e hb)), ?_, hg, fun G => ?_, ⟨List.mem_cons_self, hpq, V9, mo⟩, ?_, ?_, by have := hc.1; rw [e1] at this; simp only at this; omega, by have := hc.2; rw [e1] at this; simp only at this; omega⟩
  · exact List.forall_mem_cons.mpr ⟨hq, List.forall_mem_cons.mpr ⟨fun b e hb => l1 b e (inw b e hb), List.forall_mem_cons.mpr ⟨fun b e hb => l2 b e (inw b e hb), List.forall_mem_cons.mpr ⟨fun b e hb => l3 b e (inw b e hb), List.forall_mem_cons.mpr ⟨fun b e hb => l4 b e (inw b e hb), List.forall_mem_cons.mpr ⟨fun b e hb => l5 b e (inw b e hb), List.forall_mem_cons.mpr ⟨fun b e hb => l6 b e (inw b e hb), List.forall_mem_cons.mpr ⟨fun b e hb => l7 b e (inw b e hb), List.forall_mem_cons.mpr ⟨fun b e hb => l8 b e (inw b e hb), List.forall_mem_cons.mpr ⟨fun b e hb => l9 b e (inw b e hb), fun p hp => (hst p hp).choose_spec.2.2.1⟩⟩⟩⟩⟩⟩⟩⟩⟩⟩
  · refine List.forall_mem_cons.mpr ⟨⟨?_, _, mo⟩, List.forall_mem_cons.mpr ⟨⟨?_, _, m8⟩, List.forall_mem_cons.mpr ⟨⟨tn_I rfl rfl (by decide) m1, _, m1⟩, List.forall_mem_cons.mpr ⟨⟨tn_I rfl rfl (by decide) m2, _, m2⟩, List.forall_mem_cons.mpr ⟨⟨tn_I rfl rfl (by decide) m3, _, m3⟩, List.forall_mem_cons.mpr ⟨⟨tn_I rfl rfl (by decide) m4, _, m4⟩, List.forall_mem_cons.mpr ⟨⟨?_, _, mr⟩, List.forall_mem_cons.mpr ⟨⟨tn_I rfl rfl (by decide) m5, _, m5⟩, List.forall_mem_cons.mpr ⟨⟨tn_J rfl rfl m6, _, m6⟩, List.forall_mem_cons.mpr ⟨⟨tn_J rfl rfl m7, _, m7⟩, fun p hp => ?_⟩⟩⟩⟩⟩⟩⟩⟩⟩⟩
    · refine (tcell_O (τ := 2) rfl).mpr ⟨V9, mo, fun k t hk => ?_⟩
      match k, hk with
      | 0, hk => cases hk; exact vo_ref h0 (gsp G)
      | 1, hk => cases hk; exact vo_int h1 (by decide) (by decide)
      | 2, hk => cases hk; exact vo_ref h2 (gcd G)
      | 3, hk => cases hk; exact vo_int h3 (by decide) (by decide)
      | 4, hk => cases hk; exact vo_ref h4 (glv G)
      | 5, hk => cases hk; exact vo_ref h5 (glw G)
      | 6, hk => cases hk; exact vo_int h6 (by decide) (by decide)
      | 7, hk => cases hk; exact vo_ref h7 (gsk G)
      | 8, hk => cases hk; exact vo_int h8 (by decide) (by decide)
      | 9, hk => cases hk; exact vo_int h9 (by decide) (by decide)
      | 10, hk => cases hk; exact vo_int h10 (by decide) (by decide)
      | 11, hk => cases hk; exact vo_int h11 (by decide) (by decide)
      | 12, hk => cases hk; exact vo_ref h12 (gru G)
      | 13, hk => cases hk; exact vo_nul h13
      | 14, hk => cases hk; exact vo_int h14 (by decide) (by decide)
      | 15, hk => cases hk; exact vo_int h15 (by decide) (by decide)
      | k + 16, hk => cases hk
    · refine (tcell_R (τ := 25) (t := 7) rfl rfl).mpr ⟨F, m8, fun j hj => ?_⟩
      obtain ⟨s, Vs, a1, a2, a3, a4⟩ := hel j hj
      rw [a1]
      refine ⟨s, rfl, ?_⟩
      have := t10 ((F j).getD 0, 6) (List.mem_map.mpr ⟨j, List.mem_range.mpr hj, rfl⟩) G
      rw [a1] at this
      exact this
    · refine (tcell_O (τ := 4) rfl).mpr ⟨Vr, mr, fun k t hk => ?_⟩
      match k, hk with
      | 0, hk => cases hk; exact vo_ref u0 (gr1 G)
      | 1, hk => cases hk; exact vo_ref u1 (gr2 G)
      | 2, hk => cases hk; exact vo_ref u2 (gr3 G)
      | k + 3, hk => cases hk
    · obtain ⟨V, a1, a2, a3, a4, a5⟩ := hst p hp
      refine ⟨?_, _, a1⟩
      rw [a2]
      refine (tcell_O (τ := 6) rfl).mpr ⟨V, a1, fun k t hk => ?_⟩
      match k, hk with
      | 0, hk => cases hk; exact vo_int (a5 0 (by decide)) (by decide) (by decide)
      | 1, hk => cases hk; exact vo_int (a5 1 (by decide)) (by decide) (by decide)
      | 2, hk => cases hk; exact vo_int (a5 2 (by decide)) (by decide) (by decide)
      | 3, hk => cases hk; exact vo_int (a5 3 (by decide)) (by decide) (by decide)
      | 4, hk => cases hk; exact vo_int (a5 4 (by decide)) (by decide) (by decide)
      | 5, hk => cases hk; exact vo_int (a5 5 (by decide)) (by decide) (by decide)
      | 6, hk => cases hk; exact vo_int (a5 6 (by decide)) (by decide) (by decide)
      | 7, hk => cases hk; exact vo_int (a5 7 (by decide)) (by decide) (by decide)
      | 8, hk => cases hk; exact vo_int (a5 8 (by decide)) (by decide) (by decide)
      | 9, hk => cases hk; exact vo_int (a5 9 (by decide)) (by decide) (by decide)
      | 10, hk => cases hk; exact vo_int (a5 10 (by decide)) (by decide) (by decide)
      | 11, hk => cases hk; exact vo_int (a5 11 (by decide)) (by decide) (by decide)
      | 12, hk => cases hk; exact vo_int (a5 12 (by decide)) (by decide) (by decide)
      | 13, hk => cases hk; exact vo_nul (a5 13 (by decide))
      | k + 14, hk => cases hk
  · exact List.forall_mem_cons.mpr ⟨fun h => absurd List.mem_cons_self h, List.forall_mem_cons.mpr ⟨fun _ => rfl, List.forall_mem_cons.mpr ⟨fun _ => rfl, List.forall_mem_cons.mpr ⟨fun _ => rfl, List.forall_mem_cons.mpr ⟨fun _ => rfl, List.forall_mem_cons.mpr ⟨fun _ => rfl, List.forall_mem_cons.mpr ⟨fun _ => rfl, List.forall_mem_cons.mpr ⟨fun _ => rfl, List.forall_mem_cons.mpr ⟨fun _ => rfl, List.forall_mem_cons.mpr ⟨fun _ => rfl, fun p hp _ => by
      obtain ⟨V, a1, a2, -⟩ := hst p hp
      rw [a2]; rfl⟩⟩⟩⟩⟩⟩⟩⟩⟩⟩
  · exact List.forall_mem_cons.mpr ⟨rfl, List.forall_mem_cons.mpr ⟨rfl, List.forall_mem_cons.mpr ⟨rfl, List.forall_mem_cons.mpr ⟨rfl, List.forall_mem_cons.mpr ⟨rfl, List.forall_mem_cons.mpr ⟨rfl, List.forall_mem_cons.mpr ⟨rfl, List.forall_mem_cons.mpr ⟨rfl, List.forall_mem_cons.mpr ⟨rfl, List.forall_mem_cons.mpr ⟨rfl, fun p hp => by
      obtain ⟨V, a1, a2, -⟩ := hst p hp
      rw [a2]; rfl⟩⟩⟩⟩⟩⟩⟩⟩⟩⟩
