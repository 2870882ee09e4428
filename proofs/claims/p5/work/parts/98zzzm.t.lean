/-! runs by a seed, of both (own work) -/
def smC (wk : Nat) (C0 C : mA) : Prop := ∀ f a j, ¬ (f = 37 ∨ (f = 7 ∧ a = wk ∧ j = 3)) → C f a j = C0 f a j
def smA (A0 A : mA) : Prop := ∀ f a j, ¬ (f = 0 ∧ a = 0 ∧ j = 36) → A f a j = A0 f a j
def SM (wk : Nat) (C0 A0 C A : mA) : Prop := smC wk C0 C ∧ smA A0 A ∧ C 7 wk 3 = A 0 0 36
def rl (r r' : Int) : Prop := (r = -1 ∧ r' = -1) ∨ ∃ d, st9 r d ∧ tn9 r' d
def RS (wk : Nat) (C0 A0 : mA) (X Y : Option (Int × mA)) : Prop := ∃ r r' C' A', X = some (r, C') ∧ Y = some (r', A') ∧ rl r r' ∧ SM wk C0 A0 C' A'
theorem rl.g {r r' : Int} (h : rl r r') : g32 r ∧ g32 r' ∧ (r = -1 ↔ r' = -1) := by
  rcases h with ⟨rfl, rfl⟩ | ⟨d, ⟨h1, -⟩, ⟨h2, -⟩⟩
  · exact ⟨by decide, by decide, fun _ => rfl, fun _ => rfl⟩
  · exact ⟨by unfold g32; omega, by unfold g32; omega, fun q => by omega, fun q => by omega⟩
section SMS
variable {wk x : Nat} {C0 A0 C A C' : mA}
theorem SM.ap (h : SM wk C0 A0 C A) (p : Nat) : aPr C x p = aPr C0 x p := by
  show (C 21 (C 8 x 2).toNat p).toNat = _
  rw [h.1 8 x 2 (fun r => by omega), h.1 21 _ p (fun r => by omega)]
theorem SM.pg (h : SM wk C0 A0 C A) {p N : Nat} {c : Nat → kS} (q : pg9 x p C0 A0 N c) (hp : p < 6) : pg9 x p C A N c := q.cg hp (fun u _ => h.ap u) (fun u _ k _ => h.1 2 _ k (fun r => by omega)) (fun j => h.1 25 _ j (fun r => by omega)) (fun i _ k _ => h.1 6 _ k (fun r => by omega)) (fun j => h.1 36 _ j (fun r => by omega)) (fun a j _ => h.1 27 a j (fun r => by omega)) (h.2.1 5 0 p (fun r => by omega)) (fun u _ => ⟨h.2.1 6 0 u (fun r => by omega), h.2.1 7 0 u (fun r => by omega)⟩) (fun f j h1 h2 _ _ _ => h.2.1 f p j (fun r => by omega))
theorem SM.stk {sp top : Nat} (h : SM wk C0 A0 C A) (hs : stk sp C C' top) : SM wk C0 A0 C' A := by
  obtain ⟨h1, h2, h3⟩ := h
  refine ⟨fun f a j q => ?_, h2, ?_⟩
  · rw [hs f a j (fun r => q (Or.inl r.1))]
    exact h1 f a j q
  · rw [hs 7 wk 3 (fun r => by omega)]
    exact h3
theorem SM.z (h : SM wk C0 A0 C A) (z : Int) : SM wk C0 A0 (mu C 7 wk 3 z) (mu A 0 0 36 z) := by
  obtain ⟨h1, h2, h3⟩ := h
  refine ⟨fun f a j q => ?_, fun f a j q => ?_, ?_⟩
  · rw [mu_ne _ _ (fun r => q (Or.inr r))]
    exact h1 f a j q
  · rw [mu_ne _ _ q]
    exact h2 f a j q
  · rw [mu_at, mu_at]
end SMS
section ONE
variable {C A : mA} {P wk pr i : Nat} {s t d v : Int} {e : kS}
variable {fst : mA → Nat → Nat → Int → Int → Int → Option (Int × mA)} {cst : mA → Int → Int → Int → Option (Int × mA)}
theorem c_fs (hi : i < 16) (h0 : C 6 (sAd C pr i) 0 = sK e) (hk : 0 ≤ sK e ∧ sK e ≤ 5) :
    (sK e = 0 → f_Walk_followStep fst C wk pr i s d = Option.bind (f_Walk_drawn C wk pr (sAd C pr i)) (fun q6 => Option.bind (f_CS_withDigit q6.2 s (C 6 (sAd C pr i) 1) q6.1) (fun q8 => some (q8.1, q8.2)))) ∧
    (sK e = 1 → f_Walk_followStep fst C wk pr i s d = Option.bind (f_Prog_digitOf C pr (sAd C pr i) s) (fun q11 => Option.bind (f_CS_withDigit q11.2 s (C 6 (sAd C pr i) 1) q11.1) (fun q13 => some (q13.1, q13.2)))) ∧
    (sK e = 2 → f_Walk_followStep fst C wk pr i s d = Option.bind (f_Prog_valueOf C pr (sAd C pr i) s) (fun q16 => if g32 q16.1 then (if q16.1 = 0 then some ((-1), q16.2) else some (s, q16.2)) else none)) ∧
    (sK e = 3 → f_Walk_followStep fst C wk pr i s d = Option.bind (f_Prog_valueOf C pr (sAd C pr i) s) (fun q21 => if g32 q21.1 then (if q21.1 = 0 then Option.bind (f_Prog_behind q21.2 pr i) (fun q25 => Option.bind (f_Walk_followBlock fst q25.2 wk pr (q21.2 6 (sAd C pr i) 5) q25.1 s (d + 1)) (fun q27 => some (q27.1, q27.2))) else Option.bind (f_Walk_followBlock fst q21.2 wk pr ((i : Int) + 1) (q21.2 6 (sAd C pr i) 5) s (d + 1)) (fun q29 => some (q29.1, q29.2))) else none)) ∧
    (sK e = 4 → f_Walk_followStep fst C wk pr i s d = Option.bind (f_Walk_followLoop fst C wk pr i s d) (fun q32 => some (q32.1, q32.2))) ∧
    (sK e = 5 → f_Walk_followStep fst C wk pr i s d = Option.bind (f_Walk_followRun fst C wk pr (sAd C pr i) s d) (fun q34 => some (q34.1, q34.2))) := by
  have g : g32 (sK e) := by unfold g32; omega
  unfold f_Walk_followStep
  rw [c_stepA6 (by omega) (by omega), obind]
  simp only [Int.toNat_natCast]
  rw [h0, if_pos g]
  refine ⟨fun k => ?_, fun k => ?_, fun k => ?_, fun k => ?_, fun k => ?_, fun k => ?_⟩
  · rw [if_pos k]
  · rw [if_neg (by omega), if_pos k]
  · rw [if_neg (by omega), if_neg (by omega), if_pos k]
  · rw [if_neg (by omega), if_neg (by omega), if_neg (by omega), if_pos k]
  · rw [if_neg (by omega), if_neg (by omega), if_neg (by omega), if_neg (by omega), if_pos k]
  · rw [if_neg (by omega), if_neg (by omega), if_neg (by omega), if_neg (by omega), if_neg (by omega)]
theorem m_cs0 (hP : P < 6) (hi : i < 16) (h34 : A 34 P i = sK e) (h39 : A 39 P i = -1) :
    (sK e = 0 → f_Mo_comeStepT cst A P i t = Option.bind (f_Mo_lotsAll (mu A 0 0 36 (A 0 0 36 * 1103515245 + 12345)) P i) (fun q78 => if g32 q78.1 then (if q78.1 ≠ 0 then f_Mo_comeStepT_118 cst 20 q78.2 P i t (Int.tmod (iUsh (A 0 0 36 * 1103515245 + 12345) 9) q78.1) (q78.2 40 P i) else none) else none)) ∧
    (sK e = 4 → f_Mo_comeStepT cst A P i t = f_Mo_comeStepT_257 cst 20 A P i t 0) := by
  unfold f_Mo_comeStepT
  simp only [Int.toNat_natCast]
  rw [if_pos (show 0 ≤ (P : Int) ∧ (P : Int) < ((6 : Nat) : Int) by omega), if_pos (show 0 ≤ (i : Int) ∧ (i : Int) < ((16 : Nat) : Int) by omega), h39, if_pos (show g32 (-1 : Int) by decide), if_pos rfl, h34]
  refine ⟨fun k => ?_, fun k => ?_⟩
  · rw [if_pos (by rw [k]; decide), if_pos k]
  · rw [if_pos (by rw [k]; decide), if_neg (by omega), if_neg (by omega), if_neg (by omega), if_neg (by omega), if_pos k]
theorem m_cs1 (hP : P < 6) (hi : i < 16) (h34 : A 34 P i = sK e) (hk : 0 ≤ sK e ∧ sK e ≤ 5) (h39 : 0 ≤ A 39 P i ∧ A 39 P i < 120) (hw : f_Mo_worthN 121 A P (A 39 P i) t = some (v, A)) :
    (sK e = 1 → f_Mo_comeStepT cst A P i t = Option.bind (f_Mo_digit A v) (fun q42 => Option.bind (f_Mo_with q42.2 t (A 35 P i) q42.1) (fun q44 => some (q44.1, q44.2)))) ∧
    (sK e = 2 → f_Mo_comeStepT cst A P i t = if g32 v then (if v = 0 then some ((-1), A) else some (t, A)) else none) ∧
    (sK e = 3 → f_Mo_comeStepT cst A P i t = if g32 v then (if v = 0 then Option.bind (f_Mo_come cst A P (A 38 P i) (A 37 P i) t) (fun q54 => some (q54.1, q54.2)) else Option.bind (f_Mo_come cst A P ((i : Int) + 1) (A 38 P i) t) (fun q57 => some (q57.1, q57.2))) else none) ∧
    (sK e = 5 → f_Mo_comeStepT cst A P i t = if 0 ≤ A 36 P i ∧ A 36 P i < ((6 : Nat) : Int) then Option.bind (f_Mo_digit A v) (fun q62 => Option.bind (f_Mo_with q62.2 0 0 q62.1) (fun q64 => Option.bind (f_Mo_come cst q64.2 (A 36 P i) 0 (A 5 0 (A 36 P i).toNat) q64.1) (fun q66 => if g32 q66.1 then (if q66.1 = (-1) then some ((-1), q66.2) else Option.bind (f_Mo_valueOf q66.2 q66.1 0) (fun q71 => Option.bind (f_Mo_with q71.2 t (q66.2 35 P i) q71.1) (fun q73 => some (q73.1, q73.2)))) else none))) else none) := by
  have g : g32 (sK e) := by unfold g32; omega
  unfold f_Mo_comeStepT
  simp only [Int.toNat_natCast]
  rw [if_pos (show 0 ≤ (P : Int) ∧ (P : Int) < ((6 : Nat) : Int) by omega), if_pos (show 0 ≤ (i : Int) ∧ (i : Int) < ((16 : Nat) : Int) by omega), if_pos (show g32 (A 39 P i) by unfold g32; omega), if_neg (show ¬ A 39 P i = -1 by omega), hw, obind]
  simp only []
  rw [h34, if_pos g]
  refine ⟨fun k => ?_, fun k => ?_, fun k => ?_, fun k => ?_⟩
  · rw [if_neg (by omega), if_pos k]
  · rw [if_neg (by omega), if_neg (by omega), if_pos k]
  · rw [if_neg (by omega), if_neg (by omega), if_neg (by omega), if_pos k]
  · rw [if_neg (by omega), if_neg (by omega), if_neg (by omega), if_neg (by omega), if_neg (by omega)]
theorem c_fB {a b : Int} (hd : 0 ≤ d ∧ d ≤ 40) : f_Walk_followBlock fst C wk pr a b s d = f_Walk_followBlock_21 fst 20 C wk pr b d s a 0 := by
  unfold f_Walk_followBlock
  rw [if_pos (show g32 d by unfold g32; omega), if_neg (by omega)]
end ONE
section BLK
variable {wk x P N : Nat} {C0 A0 : mA} {c : Nat → kS} {L d : Int}
variable {fst : mA → Nat → Nat → Int → Int → Int → Option (Int × mA)} {cst : mA → Int → Int → Int → Option (Int × mA)}
theorem blk_sim (hP : P < 6) (hpg : pg9 x P C0 A0 N c) (hs : ∀ i, i < N → sV (c i) = L → ∀ C A s t D, SM wk C0 A0 C A → st9 s D → tn9 t D → RS wk C0 A0 (fst C wk (aPr C0 x P) i s d) (cst A P i t)) : ∀ (n a b : Nat) (C A : mA) (r r' : Int) (cnt F F' : Nat), tl c L n a b → b ≤ N → SM wk C0 A0 C A → rl r r' → cnt + (b - a) ≤ 16 → b - a < F → b - a < F' → RS wk C0 A0 (f_Walk_followBlock_21 fst F C wk (aPr C0 x P) b d r a cnt) (f_Mo_come_7 cst F' A P b r' a) := by
  have hN := hpg.1.1.1
  have stop : ∀ (a b : Nat) (C A : mA) (r r' : Int) (cnt F F' : Nat), a = b → b ≤ N → SM wk C0 A0 C A → rl r r' → cnt ≤ 16 → RS wk C0 A0 (f_Walk_followBlock_21 fst (F + 1) C wk (aPr C0 x P) b d r a cnt) (f_Mo_come_7 cst (F' + 1) A P b r' a) := fun a b C A r r' cnt F F' e h1 h2 h3 h4 => by
    refine ⟨r, r', C, A, ?_, ?_, h3, h2⟩
    · rw [f_Walk_followBlock_21, if_pos (show g32 (cnt : Int) by unfold g32; omega)]
      by_cases q : (16 : Int) ≤ cnt
      · rw [if_pos q]
      · rw [if_neg q, if_pos (show g32 (a : Int) by unfold g32; omega), if_pos (show g32 (b : Int) by unfold g32; omega), if_pos (by omega)]
    · rw [f_Mo_come_7, if_pos (show g32 (a : Int) by unfold g32; omega), if_pos (show g32 (b : Int) by unfold g32; omega), if_pos (by omega)]
  intro n
  induction n with
  | zero =>
    intro a b C A r r' cnt F F' t h1 h2 h3 h4 h5 h6
    obtain ⟨F, rfl⟩ : ∃ q, F = q + 1 := ⟨F - 1, by omega⟩
    obtain ⟨F', rfl⟩ : ∃ q, F' = q + 1 := ⟨F' - 1, by omega⟩
    exact stop a b C A r r' cnt F F' t h1 h2 h3 (by omega)
  | succ n ih =>
    intro a b C A r r' cnt F F' t h1 h2 h3 h4 h5 h6
    obtain ⟨F, rfl⟩ : ∃ q, F = q + 1 := ⟨F - 1, by omega⟩
    obtain ⟨F', rfl⟩ : ∃ q, F' = q + 1 := ⟨F' - 1, by omega⟩
    rcases t with t | ⟨t1, t2, t3, t4, t5, t6⟩
    · exact stop a b C A r r' cnt F F' t h1 h2 h3 (by omega)
    obtain ⟨gr, gr', gi⟩ := h3.g
    have e1 : f_Walk_followBlock_21 fst (F + 1) C wk (aPr C0 x P) b d r a cnt = if r = -1 then some (r, C) else Option.bind (fst C wk (aPr C0 x P) a r d) (fun q8 => Option.bind (f_Prog_behind q8.2 (aPr C0 x P) a) (fun q10 => f_Walk_followBlock_21 fst F q10.2 wk (aPr C0 x P) b d q8.1 q10.1 ((cnt : Int) + 1))) := by
      rw [f_Walk_followBlock_21, if_pos (show g32 (cnt : Int) by unfold g32; omega), if_neg (by omega), if_pos (show g32 (a : Int) by unfold g32; omega), if_pos (show g32 (b : Int) by unfold g32; omega), if_neg (by omega), if_pos gr]
    have e2 : f_Mo_come_7 cst (F' + 1) A P b r' a = if r' = -1 then some (r', A) else Option.bind (cst A P a r') (fun q6 => f_Mo_come_7 cst F' q6.2 P b q6.1 (q6.2 37 P a)) := by
      rw [f_Mo_come_7, if_pos (show g32 (a : Int) by unfold g32; omega), if_pos (show g32 (b : Int) by unfold g32; omega), if_neg (by omega), if_pos gr']
      by_cases q : r' = -1
      · rw [if_pos q, if_pos q]
      · rw [if_neg q, if_neg q]
        congr 1
        funext q6
        rw [if_pos (show 0 ≤ (P : Int) ∧ (P : Int) < ((6 : Nat) : Int) by omega), if_pos (show 0 ≤ (a : Int) ∧ (a : Int) < ((16 : Nat) : Int) by omega)]
        simp only [Int.toNat_natCast]
    rw [e1, e2]
    rcases h3 with ⟨k1, k2⟩ | ⟨D, k1, k2⟩
    · rw [if_pos k1, if_pos k2]
      exact ⟨r, r', C, A, rfl, rfl, Or.inl ⟨k1, k2⟩, h2⟩
    · have n1 : ¬ r = -1 := by have := k1.1; omega
      have n2 : ¬ r' = -1 := by have := k2.1; omega
      obtain ⟨v, v', C', A', x1, x2, x3, x4⟩ := hs a (by omega) t2 C A r r' D h2 k1 k2
      have pg := x4.pg hpg hP
      have cs := pg.2.1.2 a (by omega)
      have ms := pg.2.2.1.2 a (by omega)
      rw [x4.ap] at cs
      have i1 := (hpg.1.1.2.2 a (by omega))
      have bh : f_Prog_behind C' (aPr C0 x P) a = some (((a + sI (c a) : Nat) : Int), C') := c_behind9 (by omega) cs.1.2.2.2.1 t3 (by omega)
      rw [if_neg n1, if_neg n2, x1, x2, obind, obind]
      simp only []
      rw [bh, obind, ms.1.2.2.2.1]
      have k := ih (a + sI (c a)) b C' A' v v' (cnt + 1) F F' t6 h1 x4 x3 (by omega) (by omega) (by omega)
      exact k
theorem loop_sim {i T : Nat} (hP : P < 6) (hpg : pg9 x P C0 A0 N c) (hi : i < N) (hT : T ≤ 9) (h36 : ∀ A, smA A0 A → A 36 P i = T) (hB : ∀ C A s t D, SM wk C0 A0 C A → st9 s D → tn9 t D → RS wk C0 A0 (f_Walk_followBlock fst C wk (aPr C0 x P) ((i : Int) + 1) ((i + sI (c i) : Nat) : Int) s (d + 1)) (f_Mo_come cst A P ((i : Int) + 1) ((i + sI (c i) : Nat) : Int) t)) : ∀ (q k F F' : Nat) (C A : mA) (r r' : Int), k + q = T → q < F → q < F' → SM wk C0 A0 C A → rl r r' → RS wk C0 A0 (f_Walk_followLoop_16 fst F C wk (aPr C0 x P) i d r T k) (f_Mo_comeStepT_257 cst F' A P i r' k) := by
  have hN := hpg.1.1.1
  intro q
  induction q with
  | zero =>
    intro k F F' C A r r' h1 h2 h3 h4 h5
    obtain ⟨F, rfl⟩ : ∃ q, F = q + 1 := ⟨F - 1, by omega⟩
    obtain ⟨F', rfl⟩ : ∃ q, F' = q + 1 := ⟨F' - 1, by omega⟩
    refine ⟨r, r', C, A, ?_, ?_, h5, h4⟩
    · rw [f_Walk_followLoop_16, if_pos (show g32 (k : Int) by unfold g32; omega), if_pos (show g32 (T : Int) by unfold g32; omega), if_pos (by omega)]
    · rw [f_Mo_comeStepT_257]
      simp only [Int.toNat_natCast]
      rw [if_pos (show 0 ≤ (P : Int) ∧ (P : Int) < ((6 : Nat) : Int) by omega), if_pos (show 0 ≤ (i : Int) ∧ (i : Int) < ((16 : Nat) : Int) by omega), if_pos (show g32 (k : Int) by unfold g32; omega), h36 A h4.2.1, if_pos (show g32 (T : Int) by unfold g32; omega), if_pos (by omega)]
  | succ q ih =>
    intro k F F' C A r r' h1 h2 h3 h4 h5
    obtain ⟨F, rfl⟩ : ∃ q, F = q + 1 := ⟨F - 1, by omega⟩
    obtain ⟨F', rfl⟩ : ∃ q, F' = q + 1 := ⟨F' - 1, by omega⟩
    obtain ⟨gr, gr', gi⟩ := h5.g
    have pg := h4.pg hpg hP
    have cs := pg.2.1.2 i hi
    have ms := pg.2.2.1.2 i hi
    rw [h4.ap] at cs
    obtain ⟨⟨-, -, i1, -⟩, i9⟩ := hpg.1.1.2.2 i hi
    have bh : f_Prog_behind C (aPr C0 x P) i = some (((i + sI (c i) : Nat) : Int), C) := c_behind9 (by omega) cs.1.2.2.2.1 i1 (by omega)
    have e1 : f_Walk_followLoop_16 fst (F + 1) C wk (aPr C0 x P) i d r T k = if r = -1 then some (r, C) else Option.bind (f_Walk_followBlock fst C wk (aPr C0 x P) ((i : Int) + 1) ((i + sI (c i) : Nat) : Int) r (d + 1)) (fun q8 => f_Walk_followLoop_16 fst F q8.2 wk (aPr C0 x P) i d q8.1 T ((k : Int) + 1)) := by
      rw [f_Walk_followLoop_16, if_pos (show g32 (k : Int) by unfold g32; omega), if_pos (show g32 (T : Int) by unfold g32; omega), if_neg (by omega), if_pos gr, bh, obind]
    have e2 : f_Mo_comeStepT_257 cst (F' + 1) A P i r' k = if r' = -1 then some (r', A) else Option.bind (f_Mo_come cst A P ((i : Int) + 1) ((i + sI (c i) : Nat) : Int) r') (fun q10 => f_Mo_comeStepT_257 cst F' q10.2 P i q10.1 ((k : Int) + 1)) := by
      rw [f_Mo_comeStepT_257]
      simp only [Int.toNat_natCast]
      rw [if_pos (show 0 ≤ (P : Int) ∧ (P : Int) < ((6 : Nat) : Int) by omega), if_pos (show 0 ≤ (i : Int) ∧ (i : Int) < ((16 : Nat) : Int) by omega), if_pos (show g32 (k : Int) by unfold g32; omega), h36 A h4.2.1, if_pos (show g32 (T : Int) by unfold g32; omega), if_neg (by omega), if_pos gr', ms.1.2.2.2.1]
    rw [e1, e2]
    rcases h5 with ⟨k1, k2⟩ | ⟨D, k1, k2⟩
    · rw [if_pos k1, if_pos k2]
      exact ⟨r, r', C, A, rfl, rfl, Or.inl ⟨k1, k2⟩, h4⟩
    · have n1 : ¬ r = -1 := by have := k1.1; omega
      have n2 : ¬ r' = -1 := by have := k2.1; omega
      obtain ⟨v, v', C', A', x1, x2, x3, x4⟩ := hB C A r r' D h4 k1 k2
      rw [if_neg n1, if_neg n2, x1, x2, obind, obind]
      exact ih (k + 1) F F' C' A' v v' (by omega) (by omega) (by omega) x4 x3
end BLK
theorem z9s : st9 0 (fun _ => 0) := ⟨by decide, fun j hj => by
  have c : j = 0 ∨ j = 1 ∨ j = 2 ∨ j = 3 ∨ j = 4 ∨ j = 5 := by omega
  rcases c with rfl | rfl | rfl | rfl | rfl | rfl <;> exact ⟨rfl, by decide, by decide⟩⟩
theorem z9t : tn9 0 (fun _ => 0) := ⟨by decide, fun j hj => by
  have c : j = 0 ∨ j = 1 ∨ j = 2 ∨ j = 3 ∨ j = 4 ∨ j = 5 := by omega
  rcases c with rfl | rfl | rfl | rfl | rfl | rfl <;> exact ⟨rfl, by decide, by decide⟩⟩
section SIM
variable {wk x PP : Nat} {C0 A0 : mA} {Nn : Nat → Nat} {cc : Nat → Nat → kS}
theorem sim (H : ∀ p : Nat, p < PP → pg9 x p C0 A0 (Nn p) (cc p)) (hPP : PP ≤ 6) : ∀ (K p i : Nat) (L d : Int) (C A : mA) (s t : Int) (D : Nat → Int), p < PP → i < Nn p → sV (cc p i) = L → 5 * ((p : Int) + 1) ≤ K + L → 0 ≤ d → d ≤ 5 * (5 - (p : Int)) + L → SM wk C0 A0 C A → st9 s D → tn9 t D → RS wk C0 A0 (f_Walk_fsN K C wk (aPr C0 x p) i s d) (f_Mo_csN K A p i t) := by
  intro K
  induction K with
  | zero =>
    intro p i L d C A s t D h1 h2 h3 h4 h5 h6 h7 h8 h9
    have := ((H p h1).1.1.2.2 i h2).1.2.1
    omega
  | succ K ih =>
    intro p i L d C A s t D h1 h2 h3 h4 h5 h6 h7 h8 h9
    have hp6 : p < 6 := by omega
    have H0 := H p h1
    have ho := H0.1.1
    have hN := ho.1
    obtain ⟨⟨hK, hV, hI, g3, g4, g5, g0, gn⟩, gI⟩ := ho.2.2 i h2
    obtain ⟨x1, x2, x3, x4⟩ := H0.1.2 i h2
    have pg := h7.pg H0 hp6
    obtain ⟨-, ⟨-, pc⟩, ⟨-, pm⟩, pE, bE, tE, sE, el, wg, -⟩ := pg
    have cs := pc i h2
    have ms := pm i h2
    have wg := wg i h2
    rw [h7.ap] at cs wg
    have ms' := ms
    obtain ⟨⟨e0, e1, e2, e3, e4⟩, e5, e6, -, e9⟩ := id cs
    obtain ⟨⟨m34, m35, m36, m37, m38⟩, -, m39, m40⟩ := ms'
    have hi16 : i < 16 := by omega
    obtain ⟨f0, f1, f2, f3, f4, f5⟩ := c_fs (fst := f_Walk_fsN K) (wk := wk) (s := s) (d := d) hi16 e0 hK
    have hpr : ∀ {C' A'}, SM wk C0 A0 C' A' → ∀ k, k < 14 → C' 6 (sAd C (aPr C0 x p) i) k = C 6 (sAd C (aPr C0 x p) i) k := fun {C' A'} q k _ => by
      rw [q.1 6 _ k (fun r => by omega), h7.1 6 _ k (fun r => by omega)]
    -- a block within
    have blk : ∀ (a b : Nat) (C A : mA) (s t : Int) (D : Nat → Int), L ≤ 3 → tl (cc p) (L + 1) 16 a b → b ≤ Nn p → SM wk C0 A0 C A → st9 s D → tn9 t D → RS wk C0 A0 (f_Walk_followBlock (f_Walk_fsN K) C wk (aPr C0 x p) a b s (d + 1)) (f_Mo_come (f_Mo_csN K) A p a b t) := fun a b C A s t D q1 q2 q3 q4 q5 q6 => by
      have := tl_le _ _ _ q2
      rw [c_fB (by omega)]
      exact blk_sim hp6 H0 (fun j hj hL C A s t D y1 y2 y3 => ih p j (L + 1) (d + 1) C A s t D h1 hj hL (by omega) (by omega) (by omega) y1 y2 y3) 16 a b C A s t 0 20 20 q2 q3 q4 (Or.inr ⟨D, q5, q6⟩) (by omega) (by omega) (by omega)
    show RS wk C0 A0 (f_Walk_followStep (f_Walk_fsN K) C wk (aPr C0 x p) i s d) (f_Mo_comeStepT (f_Mo_csN K) A p i t)
    by_cases c0 : sK (cc p i) = 0
    · -- draw
      obtain ⟨k1, -⟩ := m_cs0 (cst := f_Mo_csN K) (t := t) hp6 hi16 m34 (m39 (Or.inl c0))
      obtain ⟨⟨b1, b2⟩, l1, l2, l3⟩ := g0 c0
      obtain ⟨n0, n1, n2, n3⟩ := e9 c0
      obtain ⟨r0, r1, r2, r3⟩ := m40 c0
      have nm := x1 (Or.inl c0)
      rw [f0 c0, k1 c0]
      have hz := h7.2.2
      obtain ⟨Z, hZ⟩ : ∃ Z, Z = A 0 0 36 * 1103515245 + 12345 := ⟨_, rfl⟩
      have h7' := h7.z Z
      have e7 : C 6 (sAd C (aPr C0 x p) i) 7 = kBt (kSumW (sL (cc p i))) := by
        rw [wg.1, gv_eq (Fb_c ho) hN h2, Fb_0 c0]
      have la : f_Mo_lotsAll (mu A 0 0 36 Z) p i = some (kSumW (sL (cc p i)), mu A 0 0 36 Z) := m_lotsAll (M := mu A 0 0 36 Z) hp6 hi16 (m36.trans b2) r1 r3 r2 l2
      have S0 : kSumW (sL (cc p i)) = 2 ∨ kSumW (sL (cc p i)) = 4 ∨ kSumW (sL (cc p i)) = 8 ∨ kSumW (sL (cc p i)) = 16 := by
        unfold kBt at b1
        by_cases s2 : kSumW (sL (cc p i)) = 2
        · exact Or.inl s2
        rw [if_neg s2] at b1
        by_cases s4 : kSumW (sL (cc p i)) = 4
        · exact Or.inr (Or.inl s4)
        rw [if_neg s4] at b1
        by_cases s8 : kSumW (sL (cc p i)) = 8
        · exact Or.inr (Or.inr (Or.inl s8))
        rw [if_neg s8] at b1
        by_cases s16 : kSumW (sL (cc p i)) = 16
        · exact Or.inr (Or.inr (Or.inr s16))
        · rw [if_neg s16] at b1
          exact absurd b1 (by decide)
      have u9 := ush9 Z
      have em : Int.tmod (iUsh Z 9) (kSumW (sL (cc p i))) = iUsh Z 9 % kSumW (sL (cc p i)) := Int.tmod_eq_emod_of_nonneg u9.1
      have p0 := Int.emod_nonneg (iUsh Z 9) (show kSumW (sL (cc p i)) ≠ 0 by omega)
      have p1 := Int.emod_lt_of_pos (iUsh Z 9) (show 0 < kSumW (sL (cc p i)) by omega)
      obtain ⟨v, v1, v2, v3⟩ := draw_both (C := mu C 7 wk 3 Z) (A := mu A 0 0 36 Z) (pr := aPr C0 x p) (t := t) (e := cc p i) (cst := f_Mo_csN K) hp6 hi16 n1 n2 r2 l2 l3 n3 r3 (sL (cc p i)) [] (Int.tmod (iUsh Z 9) (kSumW (sL (cc p i)))) 20 rfl (by omega) (by omega) (by omega) (by omega)
      have dw : f_Walk_drawn C wk (aPr C0 x p) (sAd C (aPr C0 x p) i) = some (v, mu C 7 wk 3 Z) := by
        unfold f_Walk_drawn
        rw [hz, ← hZ, e7, dr_eq b1]
        exact v2
      obtain ⟨t', w1, w2⟩ := m_with (A := mu A 0 0 36 Z) h9 (n := sN (cc p i)) (by omega) v1
      have v3' : f_Mo_comeStepT_118 (f_Mo_csN K) 20 (mu A 0 0 36 Z) p i t (Int.tmod (iUsh Z 9) (kSumW (sL (cc p i)))) (mu A 0 0 36 Z 40 p i) = some (t', mu A 0 0 36 Z) := by
        have e40 : mu A 0 0 36 Z 40 p i = ((r0 + ([] : List (Int × Int)).length : Nat) : Int) := r1
        rw [e40, v3]
        have e35 : mu A 0 0 36 Z 35 p i = sN (cc p i) := m35
        rw [e35, w1, obind]
      refine ⟨wd s (sN (cc p i)) v, t', mu C 7 wk 3 Z, mu A 0 0 36 Z, ?_, ?_, Or.inr ⟨_, st9_wd h8 (by omega) v1, w2⟩, h7'⟩
      · rw [dw, obind]
        show Option.bind (f_CS_withDigit (mu C 7 wk 3 Z) s (C 6 (sAd C (aPr C0 x p) i) 1) v) _ = _
        rw [e1, c_with, obind]
      · rw [← hZ, la, obind]
        show (if g32 (kSumW (sL (cc p i))) then (if kSumW (sL (cc p i)) ≠ 0 then f_Mo_comeStepT_118 (f_Mo_csN K) 20 (mu A 0 0 36 Z) p i t (Int.tmod (iUsh Z 9) (kSumW (sL (cc p i)))) (mu A 0 0 36 Z 40 p i) else none) else none) = _
        rw [if_pos (show g32 (kSumW (sL (cc p i))) by unfold g32; omega), if_pos (show kSumW (sL (cc p i)) ≠ 0 by omega), v3']
    by_cases c4 : sK (cc p i) = 4
    · -- loop
      obtain ⟨-, k1⟩ := m_cs0 (cst := f_Mo_csN K) (t := t) hp6 hi16 m34 (m39 (Or.inr c4))
      obtain ⟨l3, u1, t1⟩ := g4 c4
      rw [f4 c4, k1 c4]
      have k := loop_sim (wk := wk) (d := d) (fst := f_Walk_fsN K) (cst := f_Mo_csN K) (T := (sU (cc p i)).toNat) hp6 H0 h2 (by omega) (fun A1 q => by
        have q2 := (H0.2.2.1.2 i h2).1.2.2.1
        rw [q 36 p i (fun r => by omega), q2]
        omega) (fun C A s t D y1 y2 y3 => blk (i + 1) (i + sI (cc p i)) C A s t D (by omega) (by rw [h3] at t1; exact t1) gI y1 y2 y3) (sU (cc p i)).toNat 0 20 20 C A s t (by omega) (by omega) (by omega) h7 (Or.inr ⟨D, h8, h9⟩)
      obtain ⟨r, r', C', A', y1, y2, y3, y4⟩ := k
      refine ⟨r, r', C', A', ?_, y2, y3, y4⟩
      have lp : f_Walk_followLoop (f_Walk_fsN K) C wk (aPr C0 x p) i s d = some (r, C') := by
        unfold f_Walk_followLoop
        rw [c_stepA6 (by omega) (by omega), obind]
        simp only [Int.toNat_natCast]
        rw [e2, ← Int.toNat_of_nonneg u1.1]
        exact y1
      rw [lp, obind]
    obtain ⟨v, C1, gv, a1, a2, a3, a4, a5⟩ := val_both hp6 cs ms c0 c4 h8 h9
    have h71 := h7.stk a5
    obtain ⟨k1, k2, k3, k5⟩ := m_cs1 (cst := f_Mo_csN K) hp6 hi16 m34 hK ⟨a1, a2⟩ a3
    have ev : 0 ≤ v % 10 ∧ v % 10 ≤ 9 := ⟨Int.emod_nonneg v (by decide), by have := Int.emod_lt_of_pos v (show (0 : Int) < 10 by decide); omega⟩
    have dg : f_Prog_digitOf C (aPr C0 x p) (sAd C (aPr C0 x p) i) s = some (v % 10, C1) := by
      unfold f_Prog_digitOf
      rw [a4, obind]
      show Option.bind (f_Math_floorMod C1 v 10) _ = _
      rw [c_floor gv, obind]
    by_cases c1 : sK (cc p i) = 1
    · have nm := x1 (Or.inr (Or.inl c1))
      obtain ⟨t', w1, w2⟩ := m_with (A := A) h9 (n := sN (cc p i)) (by omega) ev
      rw [f1 c1, k1 c1]
      refine ⟨wd s (sN (cc p i)) (v % 10), t', C1, A, ?_, ?_, Or.inr ⟨_, st9_wd h8 (by omega) ev, w2⟩, h71⟩
      · rw [dg, obind]
        show Option.bind (f_CS_withDigit C1 s (C 6 (sAd C (aPr C0 x p) i) 1) (v % 10)) _ = _
        rw [e1, c_with, obind]
      · rw [m_digit gv, obind]
        show Option.bind (f_Mo_with A t (A 35 p i) (v % 10)) _ = _
        rw [m35, w1, obind]
    by_cases c2 : sK (cc p i) = 2
    · rw [f2 c2, k2 c2, a4, obind]
      show RS wk C0 A0 (if g32 v then (if v = 0 then some ((-1), C1) else some (s, C1)) else none) _
      rw [if_pos gv, if_pos gv]
      by_cases q : v = 0
      · rw [if_pos q, if_pos q]
        exact ⟨_, _, C1, A, rfl, rfl, Or.inl ⟨rfl, rfl⟩, h71⟩
      · rw [if_neg q, if_neg q]
        exact ⟨_, _, C1, A, rfl, rfl, Or.inr ⟨D, h8, h9⟩, h71⟩
    by_cases c3 : sK (cc p i) = 3
    · obtain ⟨l3, o1, o2, t1, t2⟩ := g3 c3
      rw [h3] at l3 t1 t2
      have e5' : C1 6 (sAd C (aPr C0 x p) i) 5 = ((i + sO (cc p i) : Nat) : Int) := (hpr h71 5 (by decide)).trans (e5 c3)
      rw [f3 c3, k3 c3, a4, obind]
      show RS wk C0 A0 (if g32 v then (if v = 0 then Option.bind (f_Prog_behind C1 (aPr C0 x p) i) (fun q25 => Option.bind (f_Walk_followBlock (f_Walk_fsN K) q25.2 wk (aPr C0 x p) (C1 6 (sAd C (aPr C0 x p) i) 5) q25.1 s (d + 1)) (fun q27 => some (q27.1, q27.2))) else Option.bind (f_Walk_followBlock (f_Walk_fsN K) C1 wk (aPr C0 x p) ((i : Int) + 1) (C1 6 (sAd C (aPr C0 x p) i) 5) s (d + 1)) (fun q29 => some (q29.1, q29.2))) else none) _
      rw [if_pos gv, if_pos gv, e5', m38 c3]
      by_cases q : v = 0
      · have cs1 := (h71.pg H0 hp6).2.1.2 i h2
        rw [h71.ap] at cs1
        have bh : f_Prog_behind C1 (aPr C0 x p) i = some (((i + sI (cc p i) : Nat) : Int), C1) := c_behind9 hi16 cs1.1.2.2.2.1 hI (by omega)
        obtain ⟨r, r', C', A', y1, y2, y3, y4⟩ := blk (i + sO (cc p i)) (i + sI (cc p i)) C1 A s t D l3 t2 gI h71 h8 h9
        rw [if_pos q, if_pos q, bh, obind]
        refine ⟨r, r', C', A', ?_, ?_, y3, y4⟩
        · show Option.bind (f_Walk_followBlock (f_Walk_fsN K) C1 wk (aPr C0 x p) ((i + sO (cc p i) : Nat) : Int) ((i + sI (cc p i) : Nat) : Int) s (d + 1)) _ = _
          rw [y1, obind]
        · rw [m37, y2, obind]
      · obtain ⟨r, r', C', A', y1, y2, y3, y4⟩ := blk (i + 1) (i + sO (cc p i)) C1 A s t D l3 t1 (by omega) h71 h8 h9
        have y1' : f_Walk_followBlock (f_Walk_fsN K) C1 wk (aPr C0 x p) ((i : Int) + 1) ((i + sO (cc p i) : Nat) : Int) s (d + 1) = some (r, C') := y1
        have y2' : f_Mo_come (f_Mo_csN K) A p ((i : Int) + 1) ((i + sO (cc p i) : Nat) : Int) t = some (r', A') := y2
        rw [if_neg q, if_neg q]
        refine ⟨r, r', C', A', ?_, ?_, y3, y4⟩
        · rw [y1', obind]
        · rw [y2', obind]
    · have c5 : sK (cc p i) = 5 := by omega
      have nm := x1 (Or.inr (Or.inr c5))
      obtain ⟨u1, u2⟩ := g5 c5
      obtain ⟨u, hu⟩ : ∃ u : Nat, sU (cc p i) = u := ⟨(sU (cc p i)).toNat, by omega⟩
      have hup : u < p := by omega
      have Hu := H u (by omega)
      have e13 : C 6 (sAd C (aPr C0 x p) i) 13 = ((aPr C0 x u : Nat) : Int) := by
        have q := wg.2.2.2
        have q2 := (el u hup).1
        rw [h7.ap] at q2
        unfold vRan at q
        rw [if_pos c5, hu, Int.toNat_natCast, q2] at q
        exact q
      obtain ⟨t0, w1, w2⟩ := m_with (A := A) z9t (n := 0) (by decide) ev
      have s0 := st9_wd z9s (n := 0) (by decide) ev
      have cN : C1 2 (aPr C0 x u) 1 = Nn u := (h71.1 2 _ 1 (fun r => by omega)).trans Hu.2.1.1
      have mN : A 5 0 u = Nn u := (h71.2.1 5 0 u (fun r => by omega)).trans Hu.2.2.1.1
      have run : RS wk C0 A0 (f_Walk_followBlock (f_Walk_fsN K) C1 wk (aPr C0 x u) (0 : Nat) (Nn u) (wd 0 0 (v % 10)) (d + 1)) (f_Mo_come (f_Mo_csN K) A u (0 : Nat) (Nn u) t0) := by
        have hNu := Hu.1.1.1
        rw [c_fB (by omega)]
        exact blk_sim (by omega) Hu (fun j hj hL C A s t D y1 y2 y3 => ih u j 0 (d + 1) C A s t D (by omega) hj hL (by omega) (by omega) (by omega) y1 y2 y3) 16 0 (Nn u) C1 A (wd 0 0 (v % 10)) t0 0 20 20 Hu.1.1.2.1 (Nat.le_refl _) h71 (Or.inr ⟨_, s0, w2⟩) (by omega) (by omega) (by omega)
      obtain ⟨r, r', C', A', y1, y2, y3, y4⟩ := run
      have y1' : f_Walk_followBlock (f_Walk_fsN K) C1 wk (aPr C0 x u) 0 (Nn u : Int) (wd 0 0 (v % 10)) (d + 1) = some (r, C') := y1
      have y2' : f_Mo_come (f_Mo_csN K) A u 0 (Nn u : Int) t0 = some (r', A') := y2
      obtain ⟨gr, gr', gi⟩ := y3.g
      have eC : f_Walk_followRun (f_Walk_fsN K) C wk (aPr C0 x p) (sAd C (aPr C0 x p) i) s d = if r = -1 then some ((-1), C') else Option.bind (f_CS_digitAt C' r 0) (fun q11 => Option.bind (f_CS_withDigit q11.2 s (C' 6 (sAd C (aPr C0 x p) i) 1) q11.1) (fun q13 => some (q13.1, q13.2))) := by
        unfold f_Walk_followRun
        rw [e13, if_pos (show 0 ≤ ((aPr C0 x u : Nat) : Int) by omega), Int.toNat_natCast, dg, obind]
        show Option.bind (f_CS_withDigit C1 0 0 (v % 10)) _ = _
        rw [c_with, obind]
        show Option.bind (f_Walk_followBlock (f_Walk_fsN K) C1 wk (aPr C0 x u) 0 (C1 2 (aPr C0 x u) 1) (wd 0 0 (v % 10)) (d + 1)) _ = _
        rw [cN, y1', obind, if_pos gr]
      have eM : (if 0 ≤ A 36 p i ∧ A 36 p i < ((6 : Nat) : Int) then Option.bind (f_Mo_digit A v) (fun q62 => Option.bind (f_Mo_with q62.2 0 0 q62.1) (fun q64 => Option.bind (f_Mo_come (f_Mo_csN K) q64.2 (A 36 p i) 0 (A 5 0 (A 36 p i).toNat) q64.1) (fun q66 => if g32 q66.1 then (if q66.1 = (-1) then some ((-1), q66.2) else Option.bind (f_Mo_valueOf q66.2 q66.1 0) (fun q71 => Option.bind (f_Mo_with q71.2 t (q66.2 35 p i) q71.1) (fun q73 => some (q73.1, q73.2)))) else none))) else none) = if r' = -1 then some ((-1), A') else Option.bind (f_Mo_valueOf A' r' 0) (fun q71 => Option.bind (f_Mo_with q71.2 t (A' 35 p i) q71.1) (fun q73 => some (q73.1, q73.2))) := by
        rw [m36, hu, if_pos (show 0 ≤ (u : Int) ∧ (u : Int) < ((6 : Nat) : Int) by omega), m_digit gv, obind]
        show Option.bind (f_Mo_with A 0 0 (v % 10)) _ = _
        rw [w1, obind]
        show Option.bind (f_Mo_come (f_Mo_csN K) A u 0 (A 5 0 (u : Int).toNat) t0) _ = _
        rw [Int.toNat_natCast, mN, y2', obind, if_pos gr']
      rw [f5 c5, k5 c5, eM, eC]
      rcases y3 with ⟨z1, z2⟩ | ⟨D2, z1, z2⟩
      · rw [if_pos z1, if_pos z2, obind]
        exact ⟨_, _, C', A', rfl, rfl, Or.inl ⟨rfl, rfl⟩, y4⟩
      · have n1 : ¬ r = -1 := by have := z1.1; omega
        have n2 : ¬ r' = -1 := by have := z2.1; omega
        have d0 := z1.2 0 (by decide)
        obtain ⟨t', w3, w4⟩ := m_with (A := A') h9 (n := sN (cc p i)) (v := D2 0) (by omega) d0.2
        have e1' : C' 6 (sAd C (aPr C0 x p) i) 1 = sN (cc p i) := (hpr y4 1 (by decide)).trans e1
        have m35' : A' 35 p i = sN (cc p i) := by
          rw [y4.2.1 35 p i (fun r => by omega), ← h7.2.1 35 p i (fun r => by omega)]
          exact m35
        rw [if_neg n1, if_neg n2]
        refine ⟨wd s (sN (cc p i)) (D2 0), t', C', A', ?_, ?_, Or.inr ⟨_, st9_wd h8 (by omega) d0.2, w4⟩, y4⟩
        · rw [c_digit z1.1 (by decide), obind]
          show Option.bind (Option.bind (f_CS_withDigit C' s (C' 6 (sAd C (aPr C0 x p) i) 1) (nb9 r (0 : Int).toNat)) _) _ = _
          have q : nb9 r (0 : Int).toNat = D2 0 := d0.1
          rw [e1', q, c_with, obind, obind]
        · rw [m_valueOf z2 (by decide), obind]
          show Option.bind (f_Mo_with A' t (A' 35 p i) (D2 (0 : Int).toNat)) _ = _
          rw [m35']
          show Option.bind (f_Mo_with A' t (sN (cc p i)) (D2 0)) _ = _
          rw [w3, obind]
end SIM
