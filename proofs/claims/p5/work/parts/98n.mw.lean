/-! the reference as it is made: a world of the M layer (own work, by program) -/
def mgo (f k : Nat) : Nat × Nat := match f with
  | 1 => (3 * k + 27, 0)
  | 3 => (3 * k + 1 + 27, 0)
  | 4 => (3 * k + 2 + 27, 0)
  | 2 => (21, 0)
  | 30 => (19, 0)
  | 50 => (19, 1 + k * (10 + 1))
  | 51 => (19, 1 + k / 10 * (10 + 1) + 1 + k % 10)
  | 5 => (0, 0)
  | 6 => (1, 0)
  | 7 => (2, 0)
  | 8 => (16, 0)
  | 9 => (20, 0)
  | 10 => (22, 0)
  | 11 => (23, 0)
  | 12 => (24, 0)
  | 13 => (26, 0)
  | 14 => (3, 0)
  | 15 => (4, 0)
  | 16 => (5, 0)
  | 17 => (6, 0)
  | 18 => (7, 0)
  | 19 => (8, 0)
  | 20 => (9, 0)
  | 21 => (10, 0)
  | 22 => (11, 0)
  | 23 => (12, 0)
  | 24 => (13, 0)
  | 25 => (14, 0)
  | 26 => (15, 0)
  | 27 => (17, 0)
  | 28 => (18, 0)
  | 29 => (25, 0)
  | 34 => (3, 1 + k)
  | 35 => (4, 1 + k)
  | 36 => (5, 1 + k)
  | 37 => (6, 1 + k)
  | 38 => (7, 1 + k)
  | 39 => (8, 1 + k)
  | 40 => (9, 1 + k)
  | 41 => (10, 1 + k)
  | 42 => (11, 1 + k)
  | 43 => (12, 1 + k)
  | 44 => (13, 1 + k)
  | 45 => (14, 1 + k)
  | 46 => (15, 1 + k)
  | 47 => (17, 1 + k)
  | 48 => (18, 1 + k)
  | 49 => (25, 1 + k)
  | _ => (0, 0)
def gsz (i : Nat) : Nat := match i with
  | 0 => 1
  | 1 => 1
  | 2 => 1
  | 3 => 7
  | 4 => 7
  | 5 => 7
  | 6 => 7
  | 7 => 7
  | 8 => 7
  | 9 => 7
  | 10 => 7
  | 11 => 7
  | 12 => 7
  | 13 => 7
  | 14 => 7
  | 15 => 7
  | 16 => 1
  | 17 => 7
  | 18 => 7
  | 19 => 67
  | 20 => 1
  | 21 => 1
  | 22 => 1
  | 23 => 1
  | 24 => 1
  | 25 => 5
  | 26 => 1
  | _ => 1
def minv (i o : Nat) : Nat × Nat := match i with
  | 0 => (5, 0)
  | 1 => (6, 0)
  | 2 => (7, 0)
  | 16 => (8, 0)
  | 20 => (9, 0)
  | 22 => (10, 0)
  | 23 => (11, 0)
  | 24 => (12, 0)
  | 26 => (13, 0)
  | 21 => (2, 0)
  | 19 => (bif Nat.beq o 0 then (30, 0) else bif Nat.beq ((o - 1) % 11) 0 then (50, (o - 1) / 11) else (51, (o - 1) / 11 * 10 + ((o - 1) % 11 - 1)))
  | 3 => (bif Nat.beq o 0 then (14, 0) else (34, o - 1))
  | 4 => (bif Nat.beq o 0 then (15, 0) else (35, o - 1))
  | 5 => (bif Nat.beq o 0 then (16, 0) else (36, o - 1))
  | 6 => (bif Nat.beq o 0 then (17, 0) else (37, o - 1))
  | 7 => (bif Nat.beq o 0 then (18, 0) else (38, o - 1))
  | 8 => (bif Nat.beq o 0 then (19, 0) else (39, o - 1))
  | 9 => (bif Nat.beq o 0 then (20, 0) else (40, o - 1))
  | 10 => (bif Nat.beq o 0 then (21, 0) else (41, o - 1))
  | 11 => (bif Nat.beq o 0 then (22, 0) else (42, o - 1))
  | 12 => (bif Nat.beq o 0 then (23, 0) else (43, o - 1))
  | 13 => (bif Nat.beq o 0 then (24, 0) else (44, o - 1))
  | 14 => (bif Nat.beq o 0 then (25, 0) else (45, o - 1))
  | 15 => (bif Nat.beq o 0 then (26, 0) else (46, o - 1))
  | 17 => (bif Nat.beq o 0 then (27, 0) else (47, o - 1))
  | 18 => (bif Nat.beq o 0 then (28, 0) else (48, o - 1))
  | 25 => (bif Nat.beq o 0 then (29, 0) else (49, o - 1))
  | i => (bif Nat.beq (i % 3) 0 then (1, i / 3 - 9) else bif Nat.beq (i % 3) 1 then (3, i / 3 - 9) else (4, i / 3 - 9))
set_option maxRecDepth 100000 in
theorem minv_ok : ∀ f, f < 52 → ∀ k, k < mcnt f → (f = 0 ∨ (minv (mgo f k).1 (mgo f k).2 = (f, k) ∧ (mgo f k).2 < gsz (mgo f k).1 ∧ (mgo f k).1 < 627)) := by decide +kernel
theorem mcnt_hi {f : Nat} (h : 52 ≤ f) : mcnt f = 0 := by
  show (mfam f).1 = 0
  unfold mfam
  split <;> first | omega | rfl
def mad (a : Nat) (bs : Nat → Nat) (D : va_G) (f k : Nat) : Nat := match f with
  | 0 => a
  | 90 => jsK D k
  | f => bs (mgo f k).1 + (mgo f k).2
theorem mad_eq {a : Nat} {bs : Nat → Nat} {D : va_G} {f k : Nat} (h0 : f ≠ 0) (h1 : f < 52) : mad a bs D f k = bs (mgo f k).1 + (mgo f k).2 := by
  unfold mad
  split
  · omega
  · omega
  · rfl
theorem mad_mono {bs : Nat → Nat} (h : ∀ i, i < 626 → bs i + gsz i ≤ bs (i + 1)) : ∀ n i : Nat, i + n + 1 < 627 → bs i + gsz i ≤ bs (i + n + 1)
  | 0, i, hi => h i (by omega)
  | n + 1, i, hi => by
    have h1 := mad_mono h n i (by omega)
    have h2 := h (i + n + 1) (by omega)
    rw [show i + (n + 1) + 1 = i + n + 1 + 1 by omega]
    omega
theorem mad_lt {bs : Nat → Nat} (h : ∀ i, i < 626 → bs i + gsz i ≤ bs (i + 1)) {i j : Nat} (hi : i < j) (hj : j < 627) : bs i + gsz i ≤ bs j := by
  have := mad_mono h (j - i - 1) i (by omega)
  rw [show i + (j - i - 1) + 1 = j by omega] at this
  exact this
theorem mad_lo {a : Nat} {bs : Nat → Nat} {D : va_G} {f k : Nat} (h : ∀ i, i < 626 → bs i + gsz i ≤ bs (i + 1)) (hf : f ≠ 0) (h1 : f < 52) (hk : k < mcnt f) : bs 0 ≤ mad a bs D f k := by
  rw [mad_eq hf h1]
  rcases minv_ok f h1 k hk with e | ⟨-, -, e3⟩
  · exact absurd e hf
  · by_cases q : (mgo f k).1 = 0
    · rw [q]; omega
    · have := mad_lt h (i := 0) (j := (mgo f k).1) (by omega) e3
      omega
theorem mad_inj {a : Nat} {bs : Nat → Nat} {D : va_G} (h : ∀ i, i < 626 → bs i + gsz i ≤ bs (i + 1)) (ha : a < bs 0) : mInj (mad a bs D) := by
  intro f k f' k' hk hk' e
  have h1 : f < 52 := by
    rcases Nat.lt_or_ge f 52 with q | q
    · exact q
    · rw [mcnt_hi q] at hk; omega
  have h2 : f' < 52 := by
    rcases Nat.lt_or_ge f' 52 with q | q
    · exact q
    · rw [mcnt_hi q] at hk'; omega
  by_cases e1 : f = 0
  · subst e1
    by_cases e2 : f' = 0
    · subst e2
      have a1 : k < 1 := hk
      have a2 : k' < 1 := hk'
      exact ⟨rfl, by omega⟩
    · have := mad_lo (a := a) (D := D) h e2 h2 hk'
      have e9 : a = mad a bs D f' k' := e
      omega
  · by_cases e2 : f' = 0
    · subst e2
      have := mad_lo (a := a) (D := D) h e1 h1 hk
      have e9 : mad a bs D f k = a := e
      omega
    · rw [mad_eq e1 h1, mad_eq e2 h2] at e
      rcases minv_ok f h1 k hk with q | ⟨b1, b2, b3⟩
      · exact absurd q e1
      · rcases minv_ok f' h2 k' hk' with q | ⟨c1, c2, c3⟩
        · exact absurd q e2
        · have hg : (mgo f k).1 = (mgo f' k').1 := by
            rcases Nat.lt_trichotomy (mgo f k).1 (mgo f' k').1 with q | q | q
            · have := mad_lt h q c3; omega
            · exact q
            · have := mad_lt h q b3; omega
          rw [hg] at e
          have ho : (mgo f k).2 = (mgo f' k').2 := by omega
          rw [hg, ho, c1] at b1
          exact ⟨(congrArg Prod.fst b1).symm, (congrArg Prod.snd b1).symm⟩
def mA0 : mA := fun f _ j => match f with
  | 11 => (match j with
    | 0 => -1
    | 1 => -1
    | 2 => -1
    | 3 => -1
    | _ => 0)
  | 0 => (match j with
    | 37 => -1
    | _ => 0)
  | _ => 0
theorem mA0_ty : mTy mA0 := fun f k j => by
  unfold mA0
  split
  · split <;> exact ⟨by show -1 ≤ _; decide, by show _ ≤ 1; decide⟩
  · split
    · exact ⟨by show -1 ≤ _; decide, by show _ ≤ 6; decide⟩
    · unfold mty
      split <;> first | exact ⟨by decide, by decide⟩ | (split <;> exact ⟨by decide, by decide⟩)
  · unfold mty
    split <;> first | exact ⟨by decide, by decide⟩ | (split <;> exact ⟨by decide, by decide⟩)
theorem mA0_mI : mI mA0 := by
  refine ⟨fun p hp => ?_, ?_, fun c => ?_⟩
  · have hp : (p : Int) < 0 := hp
    omega
  · show (-1 : Int) ≤ 0
    decide
  · exact ⟨fun v _ => Int.le_refl 0, by show ws (fun _ => (0 : Int)) 0 10 ≤ 1125899906842624; decide⟩
theorem i0_ : Int32.ofInt 0 = 0 := by decide
theorem i1_ : Int32.ofInt (-1) = -1 := by decide
theorem l0_ : Int64.ofInt 0 = 0 := by decide
section MC
variable {D : va_G} {ad : mAd} {A : mA} {f k c n a b : Nat} {x : Option jEl}
theorem mc_I (hs : mfam f = (c, 0, n, a, b)) (h : x = some (aI D n (fun _ => 0))) (h0 : ∀ j, A f k j = 0) : mcell D ad A f k x := (mcell_I hs).mpr (by
  rw [h, show (fun j => Int32.ofInt (A f k j)) = fun _ => 0 from funext fun j => by rw [h0 j]; exact i0_])
theorem mc_Z (hs : mfam f = (c, 2, n, a, b)) (h : x = some (aZ D n (fun _ => 0))) (h0 : ∀ j, A f k j = 0) : mcell D ad A f k x := (mcell_Z hs).mpr (by
  rw [h, show (fun j => Int32.ofInt (A f k j)) = fun _ => 0 from funext fun j => by rw [h0 j]; exact i0_])
theorem mc_J (hs : mfam f = (c, 1, n, a, b)) (h : x = some (aJ D n (fun _ => 0))) (h0 : ∀ j, A f k j = 0) : mcell D ad A f k x := (mcell_J hs).mpr (by
  rw [h, show (fun j => Int64.ofInt (A f k j)) = fun _ => 0 from funext fun j => by rw [h0 j]; exact l0_])
theorem mc_R {t f' : Nat} {ro : Nat → Nat} (hs : mfam f = (c, 3, n, t, f')) (h : x = some (aR D t n (jro n ro))) (h0 : ∀ j, j < n → ro j = ad f' (k * n + j)) : mcell D ad A f k x := (mcell_R hs).mpr ⟨_, h, fun j hj => by
  unfold jro
  rw [if_pos hj, h0 j hj]⟩
end MC

set_option maxHeartbeats 4000000 in
theorem mo_world {D : va_G} {w w9 : jW} {a : Nat} {V9 : Nat → Value} {bs : Nat → Nat} {F : Nat → Option Nat} {e0 : jEl} (hw : w.1 a = some e0) (h : moK D w w9 a v0_10 V9 bs F) : mW D (mad a bs D) mA0 w9 ∧ mad a bs D 0 0 = a ∧ mStr D (mad a bs D) ∧ ∀ f k, k < mcnt f → mad a bs D f k = a ∨ ∀ b e, w.1 b = some e → b < mad a bs D f k := by
  obtain ⟨hm, v0, v1, v2, v3, v4, v5, v6, v7, v8, v9, v10, v11, v12, v13, v14, v15, v16, v17, v18, v19, v20, v21, v22, v23, v24, v25, v26, v27, v28, v29, v30, v31, v32, v33, v34, v35, v36, v37, v38, v39, v40, v41, v42, hlt, o0, o1, o2, o3, o4, o5, o6, o7, o8, o9, o10, o11, o12, o13, o14, o15, o16, o17, o18, o19, o20, o21, o22, o23, o24, o25, o26, c0, c1, c2, ⟨c3, d3⟩, ⟨c4, d4⟩, ⟨c5, d5⟩, ⟨c6, d6⟩, ⟨c7, d7⟩, ⟨c8, d8⟩, ⟨c9, d9⟩, ⟨c10, d10⟩, ⟨c11, d11⟩, ⟨c12, d12⟩, ⟨c13, d13⟩, ⟨c14, d14⟩, ⟨c15, d15⟩, c16, ⟨c17, d17⟩, ⟨c18, d18⟩, ⟨c19, d19, e19⟩, c20, ⟨c21, hod⟩, c22, c23, c24, ⟨c25, d25⟩, c26⟩ := h
  have ha : a < bs 0 := hlt a _ hw
  have hmo : ∀ i, i < 626 → bs i + gsz i ≤ bs (i + 1) := by
    intro i hi
    match i, hi with
    | 0, _ => exact o0
    | 1, _ => exact o1
    | 2, _ => exact o2
    | 3, _ => exact o3
    | 4, _ => exact o4
    | 5, _ => exact o5
    | 6, _ => exact o6
    | 7, _ => exact o7
    | 8, _ => exact o8
    | 9, _ => exact o9
    | 10, _ => exact o10
    | 11, _ => exact o11
    | 12, _ => exact o12
    | 13, _ => exact o13
    | 14, _ => exact o14
    | 15, _ => exact o15
    | 16, _ => exact o16
    | 17, _ => exact o17
    | 18, _ => exact o18
    | 19, _ => exact o19
    | 20, _ => exact o20
    | 21, _ => exact o21
    | 22, _ => exact o22
    | 23, _ => exact o23
    | 24, _ => exact o24
    | 25, _ => exact o25
    | 26, _ => exact o26
    | i + 27, hi =>
      have h9 : bs (i + 27) < bs (i + 1 + 27) := hod.2.1 i (by omega)
      show bs (i + 27) + 1 ≤ bs (i + 1 + 27)
      exact h9
  have hfar : ∀ f k, k < mcnt f → mad a bs D f k = a ∨ ∀ b e, w.1 b = some e → b < mad a bs D f k := by
    intro f k hk
    have h1 : f < 52 := by
      rcases Nat.lt_or_ge f 52 with q | q
      · exact q
      · rw [mcnt_hi q] at hk; omega
    by_cases e : f = 0
    · subst e; exact Or.inl rfl
    · refine Or.inr (fun b e9 hb => ?_)
      have := mad_lo (a := a) (D := D) hmo e h1 hk
      have := hlt b e9 hb
      omega
  refine ⟨⟨mad_inj hmo ha, fun f k hk => ?_⟩, rfl, fun i _ => rfl, hfar⟩
  match f, hk with
  | 0, hk =>
    have hk : k < 1 := hk
    have hk0 : k = 0 := by omega
    subst hk0
    refine (mcell_O rfl).mpr ⟨V9, hm, fun p q hq => ?_⟩
    match p, hq with
    | 0, hq =>
      cases hq
      show V9 0 = .int (Int32.ofInt 0)
      rw [v0, i0_]
      rfl
    | 1, hq => cases hq; exact v1
    | 2, hq => cases hq; exact v2
    | 3, hq => cases hq; exact v3
    | 4, hq => cases hq; exact v4
    | 5, hq => cases hq; exact v5
    | 6, hq => cases hq; exact v6
    | 7, hq => cases hq; exact v7
    | 8, hq => cases hq; exact v8
    | 9, hq => cases hq; exact v9
    | 10, hq => cases hq; exact v10
    | 11, hq => cases hq; exact v11
    | 12, hq => cases hq; exact v12
    | 13, hq => cases hq; exact v13
    | 14, hq => cases hq; exact v14
    | 15, hq => cases hq; exact v15
    | 16, hq => cases hq; exact v16
    | 17, hq => cases hq; exact v17
    | 18, hq => cases hq; exact v18
    | 19, hq => cases hq; exact v19
    | 20, hq => cases hq; exact v20
    | 21, hq => cases hq; exact v21
    | 22, hq =>
      cases hq
      show V9 22 = .int (Int32.ofInt 0)
      rw [v22, i0_]
      rfl
    | 23, hq =>
      cases hq
      show V9 23 = .int (Int32.ofInt 0)
      rw [v23, i0_]
      rfl
    | 24, hq =>
      cases hq
      show V9 24 = .int (Int32.ofInt 0)
      rw [v24, i0_]
      rfl
    | 25, hq =>
      cases hq
      show V9 25 = .int (Int32.ofInt 0)
      rw [v25, i0_]
      rfl
    | 26, hq =>
      cases hq
      show V9 26 = .int (Int32.ofInt 0)
      rw [v26, i0_]
      rfl
    | 27, hq =>
      cases hq
      show V9 27 = .int (Int32.ofInt 0)
      rw [v27, i0_]
      rfl
    | 28, hq =>
      cases hq
      show V9 28 = .int (Int32.ofInt 0)
      rw [v28, i0_]
      rfl
    | 29, hq =>
      cases hq
      show V9 29 = .int (Int32.ofInt 0)
      rw [v29, i0_]
      rfl
    | 30, hq =>
      cases hq
      show V9 30 = .int (Int32.ofInt 0)
      rw [v30, i0_]
      rfl
    | 31, hq =>
      cases hq
      show V9 31 = .int (Int32.ofInt 0)
      rw [v31, i0_]
      rfl
    | 32, hq => cases hq; exact v32
    | 33, hq =>
      cases hq
      show V9 33 = .int (Int32.ofInt 0)
      rw [v33, i0_]
      rfl
    | 34, hq =>
      cases hq
      show V9 34 = .int (Int32.ofInt 0)
      rw [v34, i0_]
      rfl
    | 35, hq =>
      cases hq
      show V9 35 = .int (Int32.ofInt 0)
      rw [v35, i0_]
      rfl
    | 36, hq =>
      cases hq
      show V9 36 = .int (Int32.ofInt 0)
      rw [v36, i0_]
      rfl
    | 37, hq =>
      cases hq
      show V9 37 = .int (Int32.ofInt (-1))
      rw [v37, i1_]
    | 38, hq => cases hq; exact v38
    | 39, hq => cases hq; exact v39
    | 40, hq => cases hq; exact v40
    | 41, hq => cases hq; exact v41
    | 42, hq => cases hq; exact v42
    | p + 43, hq => cases hq
  | 1, hk =>
    have hk : k < 200 := hk
    obtain ⟨-, ⟨W, a2, a3, a4, a5⟩, a6, a7⟩ := hod.1 k hk
    refine (mcell_O rfl).mpr ⟨W, a2, fun p q hq => ?_⟩
    match p, hq with
    | 0, hq => cases hq; exact a3
    | 1, hq => cases hq; exact a4
    | 2, hq =>
      cases hq
      show W 2 = .int (Int32.ofInt 0)
      rw [a5, i0_]
    | p + 3, hq => cases hq
  | 2, hk =>
    have hk : k < 1 := hk
    have hk0 : k = 0 := by omega
    subst hk0
    refine (mcell_R rfl).mpr ⟨F, c21, fun j hj => ?_⟩
    obtain ⟨a1, -⟩ := hod.1 j hj
    rw [a1, show 0 * 200 + j = j by omega]
    rfl
  | 3, hk =>
    have hk : k < 200 := hk
    obtain ⟨-, -, a6, a7⟩ := hod.1 k hk
    exact mc_I rfl a6 (fun _ => rfl)
  | 4, hk =>
    have hk : k < 200 := hk
    obtain ⟨-, -, a6, a7⟩ := hod.1 k hk
    exact mc_J rfl a7 (fun _ => rfl)
  | 5, hk =>
    have hk : k < 1 := hk
    have hk0 : k = 0 := by omega
    subst hk0
    exact mc_I rfl c0 (fun _ => rfl)
  | 6, hk =>
    have hk : k < 1 := hk
    have hk0 : k = 0 := by omega
    subst hk0
    exact mc_I rfl c1 (fun _ => rfl)
  | 7, hk =>
    have hk : k < 1 := hk
    have hk0 : k = 0 := by omega
    subst hk0
    exact mc_I rfl c2 (fun _ => rfl)
  | 8, hk =>
    have hk : k < 1 := hk
    have hk0 : k = 0 := by omega
    subst hk0
    exact mc_I rfl c16 (fun _ => rfl)
  | 9, hk =>
    have hk : k < 1 := hk
    have hk0 : k = 0 := by omega
    subst hk0
    exact mc_I rfl c20 (fun _ => rfl)
  | 10, hk =>
    have hk : k < 1 := hk
    have hk0 : k = 0 := by omega
    subst hk0
    exact mc_I rfl c22 (fun _ => rfl)
  | 11, hk =>
    have hk : k < 1 := hk
    have hk0 : k = 0 := by omega
    subst hk0
    refine (mcell_I rfl).mpr ?_
    show w9.1 (bs 23) = _
    rw [c23]
    refine congrArg (fun x => some (aI D 4 x)) (funext fun j => ?_)
    match j with
    | 0 => exact i1_.symm
    | 1 => exact i1_.symm
    | 2 => exact i1_.symm
    | 3 => exact i1_.symm
    | j + 4 =>
      rw [pk_un (by omega), pk_un (by omega), pk_un (by omega), pk_un (by omega)]
      exact i0_.symm
  | 12, hk =>
    have hk : k < 1 := hk
    have hk0 : k = 0 := by omega
    subst hk0
    exact mc_I rfl c24 (fun _ => rfl)
  | 13, hk =>
    have hk : k < 1 := hk
    have hk0 : k = 0 := by omega
    subst hk0
    exact mc_I rfl c26 (fun _ => rfl)
  | 14, hk =>
    have hk : k < 1 := hk
    have hk0 : k = 0 := by omega
    subst hk0
    exact mc_R rfl c3 (fun j _ => by show bs 3 + 1 + j = bs 3 + (1 + (0 * 6 + j)); omega)
  | 15, hk =>
    have hk : k < 1 := hk
    have hk0 : k = 0 := by omega
    subst hk0
    exact mc_R rfl c4 (fun j _ => by show bs 4 + 1 + j = bs 4 + (1 + (0 * 6 + j)); omega)
  | 16, hk =>
    have hk : k < 1 := hk
    have hk0 : k = 0 := by omega
    subst hk0
    exact mc_R rfl c5 (fun j _ => by show bs 5 + 1 + j = bs 5 + (1 + (0 * 6 + j)); omega)
  | 17, hk =>
    have hk : k < 1 := hk
    have hk0 : k = 0 := by omega
    subst hk0
    exact mc_R rfl c6 (fun j _ => by show bs 6 + 1 + j = bs 6 + (1 + (0 * 6 + j)); omega)
  | 18, hk =>
    have hk : k < 1 := hk
    have hk0 : k = 0 := by omega
    subst hk0
    exact mc_R rfl c7 (fun j _ => by show bs 7 + 1 + j = bs 7 + (1 + (0 * 6 + j)); omega)
  | 19, hk =>
    have hk : k < 1 := hk
    have hk0 : k = 0 := by omega
    subst hk0
    exact mc_R rfl c8 (fun j _ => by show bs 8 + 1 + j = bs 8 + (1 + (0 * 6 + j)); omega)
  | 20, hk =>
    have hk : k < 1 := hk
    have hk0 : k = 0 := by omega
    subst hk0
    exact mc_R rfl c9 (fun j _ => by show bs 9 + 1 + j = bs 9 + (1 + (0 * 6 + j)); omega)
  | 21, hk =>
    have hk : k < 1 := hk
    have hk0 : k = 0 := by omega
    subst hk0
    exact mc_R rfl c10 (fun j _ => by show bs 10 + 1 + j = bs 10 + (1 + (0 * 6 + j)); omega)
  | 22, hk =>
    have hk : k < 1 := hk
    have hk0 : k = 0 := by omega
    subst hk0
    exact mc_R rfl c11 (fun j _ => by show bs 11 + 1 + j = bs 11 + (1 + (0 * 6 + j)); omega)
  | 23, hk =>
    have hk : k < 1 := hk
    have hk0 : k = 0 := by omega
    subst hk0
    exact mc_R rfl c12 (fun j _ => by show bs 12 + 1 + j = bs 12 + (1 + (0 * 6 + j)); omega)
  | 24, hk =>
    have hk : k < 1 := hk
    have hk0 : k = 0 := by omega
    subst hk0
    exact mc_R rfl c13 (fun j _ => by show bs 13 + 1 + j = bs 13 + (1 + (0 * 6 + j)); omega)
  | 25, hk =>
    have hk : k < 1 := hk
    have hk0 : k = 0 := by omega
    subst hk0
    exact mc_R rfl c14 (fun j _ => by show bs 14 + 1 + j = bs 14 + (1 + (0 * 6 + j)); omega)
  | 26, hk =>
    have hk : k < 1 := hk
    have hk0 : k = 0 := by omega
    subst hk0
    exact mc_R rfl c15 (fun j _ => by show bs 15 + 1 + j = bs 15 + (1 + (0 * 6 + j)); omega)
  | 27, hk =>
    have hk : k < 1 := hk
    have hk0 : k = 0 := by omega
    subst hk0
    exact mc_R rfl c17 (fun j _ => by show bs 17 + 1 + j = bs 17 + (1 + (0 * 6 + j)); omega)
  | 28, hk =>
    have hk : k < 1 := hk
    have hk0 : k = 0 := by omega
    subst hk0
    exact mc_R rfl c18 (fun j _ => by show bs 18 + 1 + j = bs 18 + (1 + (0 * 6 + j)); omega)
  | 29, hk =>
    have hk : k < 1 := hk
    have hk0 : k = 0 := by omega
    subst hk0
    exact mc_R rfl c25 (fun j _ => by show bs 25 + 1 + j = bs 25 + (1 + (0 * 4 + j)); omega)
  | 30, hk =>
    have hk : k < 1 := hk
    have hk0 : k = 0 := by omega
    subst hk0
    exact mc_R rfl c19 (fun j _ => by show bs 19 + 1 + j * (10 + 1) = bs 19 + (1 + (0 * 6 + j) * (10 + 1)); omega)
  | 34, hk =>
    have hk : k < 6 := hk
    have h9 := d3 k hk
    rw [show bs 3 + 1 + k = bs 3 + (1 + k) by omega] at h9
    exact mc_I rfl h9 (fun _ => rfl)
  | 35, hk =>
    have hk : k < 6 := hk
    have h9 := d4 k hk
    rw [show bs 4 + 1 + k = bs 4 + (1 + k) by omega] at h9
    exact mc_I rfl h9 (fun _ => rfl)
  | 36, hk =>
    have hk : k < 6 := hk
    have h9 := d5 k hk
    rw [show bs 5 + 1 + k = bs 5 + (1 + k) by omega] at h9
    exact mc_I rfl h9 (fun _ => rfl)
  | 37, hk =>
    have hk : k < 6 := hk
    have h9 := d6 k hk
    rw [show bs 6 + 1 + k = bs 6 + (1 + k) by omega] at h9
    exact mc_I rfl h9 (fun _ => rfl)
  | 38, hk =>
    have hk : k < 6 := hk
    have h9 := d7 k hk
    rw [show bs 7 + 1 + k = bs 7 + (1 + k) by omega] at h9
    exact mc_I rfl h9 (fun _ => rfl)
  | 39, hk =>
    have hk : k < 6 := hk
    have h9 := d8 k hk
    rw [show bs 8 + 1 + k = bs 8 + (1 + k) by omega] at h9
    exact mc_I rfl h9 (fun _ => rfl)
  | 40, hk =>
    have hk : k < 6 := hk
    have h9 := d9 k hk
    rw [show bs 9 + 1 + k = bs 9 + (1 + k) by omega] at h9
    exact mc_I rfl h9 (fun _ => rfl)
  | 41, hk =>
    have hk : k < 6 := hk
    have h9 := d10 k hk
    rw [show bs 10 + 1 + k = bs 10 + (1 + k) by omega] at h9
    exact mc_I rfl h9 (fun _ => rfl)
  | 42, hk =>
    have hk : k < 6 := hk
    have h9 := d11 k hk
    rw [show bs 11 + 1 + k = bs 11 + (1 + k) by omega] at h9
    exact mc_I rfl h9 (fun _ => rfl)
  | 43, hk =>
    have hk : k < 6 := hk
    have h9 := d12 k hk
    rw [show bs 12 + 1 + k = bs 12 + (1 + k) by omega] at h9
    exact mc_I rfl h9 (fun _ => rfl)
  | 44, hk =>
    have hk : k < 6 := hk
    have h9 := d13 k hk
    rw [show bs 13 + 1 + k = bs 13 + (1 + k) by omega] at h9
    exact mc_I rfl h9 (fun _ => rfl)
  | 45, hk =>
    have hk : k < 6 := hk
    have h9 := d14 k hk
    rw [show bs 14 + 1 + k = bs 14 + (1 + k) by omega] at h9
    exact mc_I rfl h9 (fun _ => rfl)
  | 46, hk =>
    have hk : k < 6 := hk
    have h9 := d15 k hk
    rw [show bs 15 + 1 + k = bs 15 + (1 + k) by omega] at h9
    exact mc_I rfl h9 (fun _ => rfl)
  | 47, hk =>
    have hk : k < 6 := hk
    have h9 := d17 k hk
    rw [show bs 17 + 1 + k = bs 17 + (1 + k) by omega] at h9
    exact mc_Z rfl h9 (fun _ => rfl)
  | 48, hk =>
    have hk : k < 6 := hk
    have h9 := d18 k hk
    rw [show bs 18 + 1 + k = bs 18 + (1 + k) by omega] at h9
    exact mc_Z rfl h9 (fun _ => rfl)
  | 49, hk =>
    have hk : k < 4 := hk
    have h9 := d25 k hk
    rw [show bs 25 + 1 + k = bs 25 + (1 + k) by omega] at h9
    exact mc_I rfl h9 (fun _ => rfl)
  | 50, hk =>
    have hk : k < 6 := hk
    have h9 := d19 k hk
    rw [show bs 19 + 1 + k * (10 + 1) = bs 19 + (1 + k * (10 + 1)) by omega] at h9
    exact mc_R rfl h9 (fun j hj => by
      show bs 19 + (1 + k * (10 + 1)) + 1 + j = bs 19 + (1 + (k * 10 + j) / 10 * (10 + 1) + 1 + (k * 10 + j) % 10)
      have e1 : (k * 10 + j) / 10 = k := by omega
      have e2 : (k * 10 + j) % 10 = j := by omega
      rw [e1, e2]
      omega)
  | 51, hk =>
    have hk : k < 60 := hk
    have h9 := e19 (k / 10) (by omega) (k % 10) (by omega)
    rw [show bs 19 + 1 + k / 10 * (10 + 1) + 1 + k % 10 = bs 19 + (1 + k / 10 * (10 + 1) + 1 + k % 10) by omega] at h9
    exact mc_J rfl h9 (fun _ => rfl)
  | 31, hk => exact absurd hk (Nat.not_lt_zero _)
  | 32, hk => exact absurd hk (Nat.not_lt_zero _)
  | 33, hk => exact absurd hk (Nat.not_lt_zero _)
  | f + 52, hk => rw [mcnt_hi (by omega)] at hk; exact absurd hk (Nat.not_lt_zero _)
