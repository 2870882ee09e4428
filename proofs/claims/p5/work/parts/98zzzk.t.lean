/-! states as decimals, a value of a formula by both (own work) -/
theorem nm32_id {z : Int} (h : g32 z) : nm32 z = z := iR h
def dd (t : Int) (j : Nat) : Int := match j with
  | 0 => t / 100000 % 10
  | 1 => t / 10000 % 10
  | 2 => t / 1000 % 10
  | 3 => t / 100 % 10
  | 4 => t / 10 % 10
  | _ => t % 10
def tn9 (t : Int) (d : Nat → Int) : Prop := (0 ≤ t ∧ t ≤ 999999) ∧ ∀ j, j < 6 → dd t j = d j ∧ 0 ≤ d j ∧ d j ≤ 9
theorem tn9.ext {t t' : Int} {d : Nat → Int} (h : tn9 t d) (h' : tn9 t' d) : t = t' := by
  obtain ⟨a, b⟩ := h
  obtain ⟨a', b'⟩ := h'
  have e : ∀ j, j < 6 → dd t j = dd t' j := fun j hj => (b j hj).1.trans (b' j hj).1.symm
  have e0 : t / 100000 % 10 = t' / 100000 % 10 := e 0 (by decide)
  have e1 : t / 10000 % 10 = t' / 10000 % 10 := e 1 (by decide)
  have e2 : t / 1000 % 10 = t' / 1000 % 10 := e 2 (by decide)
  have e3 : t / 100 % 10 = t' / 100 % 10 := e 3 (by decide)
  have e4 : t / 10 % 10 = t' / 10 % 10 := e 4 (by decide)
  have e5 : t % 10 = t' % 10 := e 5 (by decide)
  omega
theorem tn9.cg {t : Int} {d d' : Nat → Int} (h : tn9 t d) (e : ∀ j, j < 6 → d' j = d j) : tn9 t d' := ⟨h.1, fun j hj => by rw [e j hj]; exact h.2 j hj⟩
/-- out of six digits -/
def dsum (d : Nat → Int) : Int := 100000 * d 0 + 10000 * d 1 + 1000 * d 2 + 100 * d 3 + 10 * d 4 + d 5
theorem tn9_sum {d : Nat → Int} (h : ∀ j, j < 6 → 0 ≤ d j ∧ d j ≤ 9) : tn9 (dsum d) d := by
  have h0 := h 0 (by decide)
  have h1 := h 1 (by decide)
  have h2 := h 2 (by decide)
  have h3 := h 3 (by decide)
  have h4 := h 4 (by decide)
  have h5 := h 5 (by decide)
  unfold dsum
  refine ⟨by omega, fun j hj => ?_⟩
  have c : j = 0 ∨ j = 1 ∨ j = 2 ∨ j = 3 ∨ j = 4 ∨ j = 5 := by omega
  rcases c with rfl | rfl | rfl | rfl | rfl | rfl
  · exact ⟨by show (_ : Int) / 100000 % 10 = _; omega, h0⟩
  · exact ⟨by show (_ : Int) / 10000 % 10 = _; omega, h1⟩
  · exact ⟨by show (_ : Int) / 1000 % 10 = _; omega, h2⟩
  · exact ⟨by show (_ : Int) / 100 % 10 = _; omega, h3⟩
  · exact ⟨by show (_ : Int) / 10 % 10 = _; omega, h4⟩
  · exact ⟨by show (_ : Int) % 10 = _; omega, h5⟩
theorem tn9.sum {t : Int} {d : Nat → Int} (h : tn9 t d) : t = dsum d := h.ext (tn9_sum (fun j hj => (h.2 j hj).2))
def tns (n : Nat) : Int := match n with
  | 0 => 100000
  | 1 => 10000
  | 2 => 1000
  | 3 => 100
  | 4 => 10
  | _ => 1
section TEN
variable {A : mA} {t n v : Int} {d : Nat → Int}
theorem m_tens (hn : 0 ≤ n ∧ n < 6) : f_Mo_tens A n = some (tns n.toNat, A) := by
  have c : n = 0 ∨ n = 1 ∨ n = 2 ∨ n = 3 ∨ n = 4 ∨ n = 5 := by omega
  rcases c with rfl | rfl | rfl | rfl | rfl | rfl <;> rfl
theorem m_valueOf (h : tn9 t d) (hn : 0 ≤ n ∧ n < 6) : f_Mo_valueOf A t n = some (d n.toNat, A) := by
  obtain ⟨h1, h2⟩ := h
  have k := (h2 n.toNat (by omega)).1
  unfold f_Mo_valueOf
  rw [m_tens hn, obind, if_pos (show g32 t by unfold g32; omega)]
  have c : n = 0 ∨ n = 1 ∨ n = 2 ∨ n = 3 ∨ n = 4 ∨ n = 5 := by omega
  have fin : ∀ u : Int, 1 ≤ u → u ≤ 100000 → t / u % 10 = d n.toNat → (if g32 u then (if u ≠ 0 then (if g32 (Int.tdiv t u) then some (Int.tmod (Int.tdiv t u) 10, A) else none) else none) else none) = some (d n.toNat, A) := fun u u1 u2 e => by
    have e1 : Int.tdiv t u = t / u := Int.tdiv_eq_ediv_of_nonneg h1.1
    have p0 : 0 ≤ t / u := Int.ediv_nonneg h1.1 (by omega)
    have p1 : t / u ≤ t := Int.ediv_le_self _ h1.1
    rw [if_pos (show g32 u by unfold g32; omega), if_pos (by omega), e1, if_pos (show g32 (t / u) by unfold g32; omega), Int.tmod_eq_emod_of_nonneg p0, e]
  rcases c with rfl | rfl | rfl | rfl | rfl | rfl
  · exact fin 100000 (by decide) (by decide) k
  · exact fin 10000 (by decide) (by decide) k
  · exact fin 1000 (by decide) (by decide) k
  · exact fin 100 (by decide) (by decide) k
  · exact fin 10 (by decide) (by decide) k
  · exact fin 1 (by decide) (by decide) (by rw [Int.ediv_one]; exact k)
theorem m_with (h : tn9 t d) (hn : 0 ≤ n ∧ n < 6) (hv : 0 ≤ v ∧ v ≤ 9) : ∃ t', f_Mo_with A t n v = some (t', A) ∧ tn9 t' (fun j => if j = n.toNat then v else d j) := by
  unfold f_Mo_with
  rw [m_valueOf h hn, obind]
  show ∃ t', Option.bind (f_Mo_tens A n) _ = _ ∧ _
  rw [m_tens hn, obind]
  refine ⟨_, rfl, ?_⟩
  have e : t + (v - d n.toNat) * tns n.toNat = dsum (fun j => if j = n.toNat then v else d j) := by
    rw [h.sum]
    unfold dsum
    have c : n = 0 ∨ n = 1 ∨ n = 2 ∨ n = 3 ∨ n = 4 ∨ n = 5 := by omega
    rcases c with rfl | rfl | rfl | rfl | rfl | rfl
    · show _ + (v - d 0) * 100000 = 100000 * v + 10000 * d 1 + 1000 * d 2 + 100 * d 3 + 10 * d 4 + d 5
      omega
    · show _ + (v - d 1) * 10000 = 100000 * d 0 + 10000 * v + 1000 * d 2 + 100 * d 3 + 10 * d 4 + d 5
      omega
    · show _ + (v - d 2) * 1000 = 100000 * d 0 + 10000 * d 1 + 1000 * v + 100 * d 3 + 10 * d 4 + d 5
      omega
    · show _ + (v - d 3) * 100 = 100000 * d 0 + 10000 * d 1 + 1000 * d 2 + 100 * v + 10 * d 4 + d 5
      omega
    · show _ + (v - d 4) * 10 = 100000 * d 0 + 10000 * d 1 + 1000 * d 2 + 100 * d 3 + 10 * v + d 5
      omega
    · show _ + (v - d 5) * 1 = 100000 * d 0 + 10000 * d 1 + 1000 * d 2 + 100 * d 3 + 10 * d 4 + v
      omega
  show tn9 (t + (v - d n.toNat) * tns n.toNat) _
  rw [e]
  refine tn9_sum (fun j hj => ?_)
  show 0 ≤ (if j = n.toNat then v else d j) ∧ (if j = n.toNat then v else d j) ≤ 9
  by_cases q : j = n.toNat
  · rw [if_pos q]
    exact hv
  · rw [if_neg q]
    exact (h.2 j hj).2
theorem m_startState (h : ∀ j, j < 6 → 0 ≤ A 8 0 j ∧ A 8 0 j ≤ 9) : f_Mo_startState A = some (dsum (A 8 0), A) := by
  have e : f_Mo_startState A = some ((10 * (10 * (10 * (10 * (10 * (10 * 0 + A 8 0 0) + A 8 0 1) + A 8 0 2) + A 8 0 3) + A 8 0 4) + A 8 0 5), A) := rfl
  rw [e]
  unfold dsum
  congr 2
  omega
theorem c_unpacked {s : Int} (h : st9 s d) : f_CS_unpacked A s = some (dsum d, A) := by
  have k : ∀ (F j : Nat) (r : Int), j < 6 → f_CS_unpacked_4 (F + 1) A s r j = f_CS_unpacked_4 F A s (r * 10 + d j) ((j : Int) + 1) := fun F j r hj => by
    rw [f_CS_unpacked_4, if_pos (show g32 (j : Int) by unfold g32; omega), if_neg (by omega), c_digit h.1 (by omega), obind]
    simp only [Int.toNat_natCast]
    rw [(h.2 j hj).1]
  unfold f_CS_unpacked
  have k0 := k 19 0 0 (by decide)
  have k1 := k 18 1 (0 * 10 + d 0) (by decide)
  have k2 := k 17 2 ((0 * 10 + d 0) * 10 + d 1) (by decide)
  have k3 := k 16 3 (((0 * 10 + d 0) * 10 + d 1) * 10 + d 2) (by decide)
  have k4 := k 15 4 ((((0 * 10 + d 0) * 10 + d 1) * 10 + d 2) * 10 + d 3) (by decide)
  have k5 := k 14 5 (((((0 * 10 + d 0) * 10 + d 1) * 10 + d 2) * 10 + d 3) * 10 + d 4) (by decide)
  have k6 : f_CS_unpacked_4 14 A s ((((((0 * 10 + d 0) * 10 + d 1) * 10 + d 2) * 10 + d 3) * 10 + d 4) * 10 + d 5) 6 = some ((((((0 * 10 + d 0) * 10 + d 1) * 10 + d 2) * 10 + d 3) * 10 + d 4) * 10 + d 5, A) := rfl
  have e : f_CS_unpacked_4 20 A s 0 0 = some ((((((0 * 10 + d 0) * 10 + d 1) * 10 + d 2) * 10 + d 3) * 10 + d 4) * 10 + d 5, A) := k0.trans (k1.trans (k2.trans (k3.trans (k4.trans (k5.trans k6)))))
  rw [e]
  unfold dsum
  congr 2
  omega
end TEN
/-! what a sign makes of two values -/
def jn (a x y : Int) : Int := if a = 37 then (if y = 0 then 0 else nm32 (Int.tmod x y)) else if a = 42 then nm32 (x * y) else if a = 43 then nm32 (x + y) else if a = 45 then nm32 (x - y) else if a = 60 then (if y ≤ x then 0 else 1) else if x = y then 1 else 0
theorem jn_r {a x y : Int} : g32 (jn a x y) := by
  unfold jn
  have z0 : g32 0 := by decide
  have z1 : g32 1 := by decide
  by_cases h1 : a = 37
  · rw [if_pos h1]
    by_cases h : y = 0
    · rw [if_pos h]; exact z0
    · rw [if_neg h]; exact nm32_r _
  rw [if_neg h1]
  by_cases h2 : a = 42
  · rw [if_pos h2]; exact nm32_r _
  rw [if_neg h2]
  by_cases h3 : a = 43
  · rw [if_pos h3]; exact nm32_r _
  rw [if_neg h3]
  by_cases h4 : a = 45
  · rw [if_pos h4]; exact nm32_r _
  rw [if_neg h4]
  by_cases h5 : a = 60
  · rw [if_pos h5]
    by_cases h : y ≤ x
    · rw [if_pos h]; exact z0
    · rw [if_neg h]; exact z1
  rw [if_neg h5]
  by_cases h : x = y
  · rw [if_pos h]; exact z1
  · rw [if_neg h]; exact z0
theorem c_joined {C : mA} {a x y : Int} (ga : g32 a) (gx : g32 x) (gy : g32 y) : f_Prog_joined C a x y = some (jn a x y, C) := by
  unfold f_Prog_joined jn
  rw [if_pos ga]
  by_cases h1 : a = 37
  · rw [if_pos h1, if_pos h1, if_pos gy]
    by_cases h : y = 0
    · rw [if_pos h, if_pos h]
    · rw [if_neg h, if_neg h, if_pos gx, if_pos h]
  rw [if_neg h1, if_neg h1]
  by_cases h2 : a = 42
  · rw [if_pos h2, if_pos h2]
  rw [if_neg h2, if_neg h2]
  by_cases h3 : a = 43
  · rw [if_pos h3, if_pos h3]
  rw [if_neg h3, if_neg h3]
  by_cases h4 : a = 45
  · rw [if_pos h4, if_pos h4]
  rw [if_neg h4, if_neg h4]
  by_cases h5 : a = 60
  · rw [if_pos h5, if_pos h5, if_pos gx, if_pos gy]
    by_cases h : y ≤ x
    · rw [if_pos h, if_pos h]
    · rw [if_neg h, if_neg h]
  rw [if_neg h5, if_neg h5, if_pos gx, if_pos gy]
  by_cases h : x = y
  · rw [if_pos h, if_pos h]
  · rw [if_neg h, if_neg h]
section VAL
variable {A : mA} {P pr b1 ca sp : Nat} {s t : Int} {d : Nat → Int}
/-- the same but for the stack from here on -/
def stk (sp : Nat) (C C' : mA) (top : Nat) : Prop := ∀ f a j, ¬ (f = 37 ∧ a = sp ∧ top ≤ j) → C' f a j = C f a j
theorem stk.refl {C : mA} {top : Nat} : stk sp C C top := fun _ _ _ _ => rfl
theorem stk.trans {C C' C'' : mA} {t1 t2 : Nat} (h : stk sp C C' t1) (h' : stk sp C' C'' t2) (ht : t1 ≤ t2) : stk sp C C'' t1 := fun f a j q => by
  rw [h' f a j (fun r => q ⟨r.1, r.2.1, by omega⟩), h f a j q]
theorem stk.mu {C : mA} {t1 j : Nat} {z : Int} (h : t1 ≤ j) : stk sp C (mu C 37 sp j z) t1 := fun f a k q => mu_ne _ _ (fun r => q ⟨r.1, r.2.1, by omega⟩)
/-- the class stands before these codes -/
def cod (C : mA) (pr b1 ca sp pos top T : Nat) (c : List Int) : Prop := (C 2 pr 2).toNat = ca ∧ (C 2 pr 7).toNat = sp ∧ C 6 b1 10 = T ∧ pos + c.length ≤ T ∧ T ≤ 120 ∧ top + c.length ≤ 120 ∧ ∀ i, i < c.length → C 36 ca (pos + i) = c.getD i 0
theorem cod.go {C C' : mA} {pos top T pos' top' t0 : Nat} {c c' : List Int} (h : cod C pr b1 ca sp pos top T c) (hs : stk sp C C' t0) (h1 : pos' + c'.length ≤ pos + c.length) (h2 : top' + c'.length ≤ 120) (h3 : ∀ i, i < c'.length → ∃ k, pos' + i = pos + k ∧ k < c.length ∧ c'.getD i 0 = c.getD k 0) : cod C' pr b1 ca sp pos' top' T c' := by
  obtain ⟨a1, a2, a3, a4, a5, a6, a7⟩ := h
  refine ⟨by rw [hs 2 pr 2 (fun r => by omega)]; exact a1, by rw [hs 2 pr 7 (fun r => by omega)]; exact a2, by rw [hs 6 b1 10 (fun r => by omega)]; exact a3, by omega, a5, h2, fun i hi => ?_⟩
  obtain ⟨k, k1, k2, k3⟩ := h3 i hi
  rw [hs 36 ca _ (fun r => by omega), k1, a7 k k2, k3]
/-- one code on -/
theorem c_v1 {C : mA} {F pos top T : Nat} {x : Int} (h : cod C pr b1 ca sp pos top T [x]) (h0 : 0 ≤ x) (h1 : x < 100) : f_Prog_valueOf_12 (F + 1) C pr b1 s top pos = f_Prog_valueOf_12 F (mu C 37 sp top x) pr b1 s ((top : Int) + 1) ((pos : Int) + 1) := by
  obtain ⟨a1, a2, a3, a4, a5, a6, a7⟩ := h
  have e := a7 0 (Nat.zero_lt_one)
  have e : C 36 ca pos = x := e
  have a4 : pos + 1 ≤ T := a4
  have a6 : top + 1 ≤ 120 := a6
  rw [f_Prog_valueOf_12, if_pos (show g32 (pos : Int) by unfold g32; omega), a3, if_pos (show g32 (T : Int) by unfold g32; omega), if_neg (by omega), if_neg (by omega), if_pos (show 0 ≤ (pos : Int) ∧ (pos : Int) < ((120 : Nat) : Int) by omega), a1, a2]
  simp only [Int.toNat_natCast]
  rw [e, if_pos (show g32 x by unfold g32; omega), if_pos (by omega), if_neg (by omega), if_pos (show g32 (top : Int) by unfold g32; omega), if_neg (by omega), if_pos h1, if_pos (show 0 ≤ (top : Int) ∧ (top : Int) < ((120 : Nat) : Int) by omega), nm32_id (show g32 x by unfold g32; omega)]
theorem c_v2 {C : mA} {F pos top T : Nat} {k : Int} (hs : st9 s d) (h : cod C pr b1 ca sp pos top T [100 + k]) (h0 : 0 ≤ k) (h1 : k < 6) : f_Prog_valueOf_12 (F + 1) C pr b1 s top pos = f_Prog_valueOf_12 F (mu C 37 sp top (d k.toNat)) pr b1 s ((top : Int) + 1) ((pos : Int) + 1) := by
  obtain ⟨a1, a2, a3, a4, a5, a6, a7⟩ := h
  have e := a7 0 (Nat.zero_lt_one)
  have e : C 36 ca pos = 100 + k := e
  have a4 : pos + 1 ≤ T := a4
  have a6 : top + 1 ≤ 120 := a6
  rw [f_Prog_valueOf_12, if_pos (show g32 (pos : Int) by unfold g32; omega), a3, if_pos (show g32 (T : Int) by unfold g32; omega), if_neg (by omega), if_neg (by omega), if_pos (show 0 ≤ (pos : Int) ∧ (pos : Int) < ((120 : Nat) : Int) by omega), a1, a2]
  simp only [Int.toNat_natCast]
  rw [e, if_pos (show g32 (100 + k) by unfold g32; omega), if_pos (by omega), if_neg (by omega), if_pos (show g32 (top : Int) by unfold g32; omega), if_neg (by omega), if_neg (by omega), show (100 + k - 100 : Int) = k by omega, c_digit hs.1 ⟨h0, h1⟩, obind, if_pos (show 0 ≤ (top : Int) ∧ (top : Int) < ((120 : Nat) : Int) by omega), (hs.2 k.toNat (by omega)).1]
theorem c_v3 {C : mA} {F pos top T : Nat} {v : Int} (h : cod C pr b1 ca sp pos top T [150]) (hv : C 37 sp top = v) : f_Prog_valueOf_12 (F + 1) C pr b1 s ((top : Int) + 1) pos = f_Prog_valueOf_12 F (mu C 37 sp top (nm32 (-v))) pr b1 s ((top : Int) + 1) ((pos : Int) + 1) := by
  obtain ⟨a1, a2, a3, a4, a5, a6, a7⟩ := h
  have e := a7 0 (Nat.zero_lt_one)
  have e : C 36 ca pos = 150 := e
  have a4 : pos + 1 ≤ T := a4
  have a6 : top + 1 ≤ 120 := a6
  rw [f_Prog_valueOf_12, if_pos (show g32 (pos : Int) by unfold g32; omega), a3, if_pos (show g32 (T : Int) by unfold g32; omega), if_neg (by omega), if_neg (by omega), if_pos (show 0 ≤ (pos : Int) ∧ (pos : Int) < ((120 : Nat) : Int) by omega), a1, a2]
  simp only [Int.toNat_natCast]
  rw [e, if_pos (show g32 (150 : Int) by decide), if_pos (by decide), if_pos rfl, if_pos (show g32 ((top : Int) + 1) by unfold g32; omega), if_neg (by omega), if_neg (by omega), show ((top : Int) + 1 - 1) = (top : Int) by omega, if_pos (show 0 ≤ (top : Int) ∧ (top : Int) < ((120 : Nat) : Int) by omega)]
  simp only [Int.toNat_natCast]
  rw [hv]
theorem c_v4 {C : mA} {F pos top T : Nat} {a v w : Int} (h : cod C pr b1 ca sp pos (top + 1) T [200 + a]) (ha : 0 ≤ a ∧ a ≤ 255) (hv : C 37 sp top = v) (hw : C 37 sp (top + 1) = w) (gv : g32 v) (gw : g32 w) : f_Prog_valueOf_12 (F + 1) C pr b1 s ((top : Int) + 2) pos = f_Prog_valueOf_12 F (mu C 37 sp top (jn a v w)) pr b1 s ((top : Int) + 1) ((pos : Int) + 1) := by
  obtain ⟨a1, a2, a3, a4, a5, a6, a7⟩ := h
  have e := a7 0 (Nat.zero_lt_one)
  have e : C 36 ca pos = 200 + a := e
  have a4 : pos + 1 ≤ T := a4
  have a6 : top + 1 + 1 ≤ 120 := a6
  rw [f_Prog_valueOf_12, if_pos (show g32 (pos : Int) by unfold g32; omega), a3, if_pos (show g32 (T : Int) by unfold g32; omega), if_neg (by omega), if_neg (by omega), if_pos (show 0 ≤ (pos : Int) ∧ (pos : Int) < ((120 : Nat) : Int) by omega), a1, a2]
  simp only [Int.toNat_natCast]
  rw [e, if_pos (show g32 (200 + a) by unfold g32; omega), if_neg (by omega), if_pos (show g32 ((top : Int) + 2) by unfold g32; omega), if_neg (by omega), if_neg (by omega), show ((top : Int) + 2 + -1) = ((top + 1 : Nat) : Int) by omega, show (((top + 1 : Nat) : Int) - 1) = (top : Int) by omega, if_pos (show 0 ≤ (top : Int) ∧ (top : Int) < ((120 : Nat) : Int) by omega), if_pos (show 0 ≤ ((top + 1 : Nat) : Int) ∧ ((top + 1 : Nat) : Int) < ((120 : Nat) : Int) by omega), show (200 + a - 200 : Int) = a by omega]
  simp only [Int.toNat_natCast]
  rw [hv, hw, c_joined (by unfold g32; omega) gv gw, obind]
  rfl
theorem getD_app1 {c e : List Int} {i : Nat} (h : i < c.length) : (c ++ e).getD i 0 = c.getD i 0 := by
  rw [List.getD_eq_getElem?_getD, List.getD_eq_getElem?_getD, List.getElem?_append_left h]
theorem getD_app2 {c e : List Int} {i : Nat} : (c ++ e).getD (c.length + i) 0 = e.getD i 0 := by
  rw [List.getD_eq_getElem?_getD, List.getD_eq_getElem?_getD, List.getElem?_append_right (by omega), show c.length + i - c.length = i by omega]
theorem nT_len {M : mA} {P n : Nat} {a : Int} {c : List Int} (h : nT M P n a c) : 1 ≤ c.length := by
  cases n with
  | zero => exact h.elim
  | succ n =>
    rcases h.2 with ⟨-, -, rfl⟩ | ⟨-, -, rfl⟩ | ⟨-, -, c1, -, -, rfl⟩ | ⟨-, -, c1, c2, -, -, -, -, rfl⟩
    · exact Nat.le_refl 1
    · exact Nat.le_refl 1
    · rw [List.length_append]
      exact Nat.le_add_left 1 _
    · rw [List.length_append, List.length_append]
      show 1 ≤ c1.length + (c2.length + 1)
      omega
def wtK (wt : mA → Int → Int → Int → Option (Int × mA)) (A : mA) (P a : Nat) (t : Int) : Option (Int × mA) := (if g32 (A 43 P a) then (if (A 43 P a) = 0 then (some ((nm32 (A 44 P a)), A)) else (if (A 43 P a) = 1 then (Option.bind (f_Mo_valueOf A t (A 44 P a)) (fun q30 => (some (q30.1, q30.2)))) else (Option.bind (wt A P (A 45 P a) t) (fun q8 => (if (A 43 P a) = 2 then (some ((nm32 (-q8.1)), q8.2)) else (Option.bind (wt q8.2 P (q8.2 46 P a) t) (fun q12 => (if (A 43 P a) = 43 then (some ((nm32 (q8.1 + q12.1)), q12.2)) else (if (A 43 P a) = 45 then (some ((nm32 (q8.1 - q12.1)), q12.2)) else (if (A 43 P a) = 42 then (some ((nm32 (q8.1 * q12.1)), q12.2)) else (if (A 43 P a) = 37 then (if g32 q12.1 then (if q12.1 = 0 then (some (0, q12.2)) else (if g32 q8.1 then (if q12.1 ≠ 0 then (some ((nm32 (Int.tmod q8.1 q12.1)), q12.2)) else none) else none)) else none) else (if (A 43 P a) = 60 then (if g32 q8.1 then if g32 q12.1 then (if q12.1 ≤ q8.1 then (some (0, q12.2)) else (some (1, q12.2))) else none else none) else (if g32 q8.1 then if g32 q12.1 then (if q8.1 = q12.1 then (some (1, q12.2)) else (some (0, q12.2))) else none else none))))))))))))) else none)
theorem worth_s {wt : mA → Int → Int → Int → Option (Int × mA)} {a : Int} (hP : P < 6) (h0 : 0 ≤ a) (h1 : a < 120) : f_Mo_worthT wt A P a t = wtK wt A P a.toNat t := by
  unfold f_Mo_worthT wtK
  simp only [Int.toNat_natCast]
  rw [if_pos (show 0 ≤ (P : Int) ∧ (P : Int) < ((6 : Nat) : Int) by omega), if_pos (show 0 ≤ a ∧ a < ((120 : Nat) : Int) by omega)]
/-- a formula's value, by both -/
theorem val9 (hP : P < 6) (hs : st9 s d) (ht : tn9 t d) : ∀ (n : Nat) (a : Int) (c : List Int), nT A P n a c → a < 120 → ∃ v, g32 v ∧ (∀ K : Nat, a + 1 < K → f_Mo_worthN K A P a t = some (v, A)) ∧ ∀ (C : mA) (F pos top T : Nat), cod C pr b1 ca sp pos top T c → ∃ C', stk sp C C' top ∧ C' 37 sp top = v ∧ f_Prog_valueOf_12 (F + c.length) C pr b1 s top pos = f_Prog_valueOf_12 F C' pr b1 s ((top : Int) + 1) (((pos + c.length : Nat) : Int)) := by
  intro n
  induction n with
  | zero => intro a c h; exact h.elim
  | succ n ih =>
    intro a c h ha
    obtain ⟨h0, h⟩ := h
    have start : ∀ (K : Nat) (r : Option (Int × mA)), wtK (f_Mo_worthN K) A P a.toNat t = r → f_Mo_worthN (K + 1) A P a t = r := fun K r e => by
      show f_Mo_worthT (f_Mo_worthN K) A P a t = r
      rw [worth_s hP (by omega) (by omega)]
      exact e
    rcases h with ⟨h1, ⟨h2, h3, h4, h5⟩, rfl⟩ | ⟨h1, ⟨h2, h3⟩, rfl⟩ | ⟨h1, h2, c1, h3, h4, rfl⟩ | ⟨h1, h2, c1, c2, h3, h4, h5, h6, rfl⟩
    · refine ⟨A 44 P a.toNat, by unfold g32; omega, fun K hK => ?_, fun C F pos top T hc => ?_⟩
      · obtain ⟨K, rfl⟩ : ∃ q, K = q + 1 := ⟨K - 1, by omega⟩
        refine start K _ ?_
        unfold wtK
        rw [h1, if_pos (by decide), if_pos rfl, nm32_id (show g32 (A 44 P a.toNat) by unfold g32; omega)]
      · exact ⟨_, stk.mu (Nat.le_refl top), mu_at _ _ _ _ _, c_v1 hc h4 (by omega)⟩
    · refine ⟨d (A 44 P a.toNat).toNat, ?_, fun K hK => ?_, fun C F pos top T hc => ?_⟩
      · have := (hs.2 (A 44 P a.toNat).toNat (by omega)).2
        unfold g32
        omega
      · obtain ⟨K, rfl⟩ : ∃ q, K = q + 1 := ⟨K - 1, by omega⟩
        refine start K _ ?_
        unfold wtK
        rw [h1, if_pos (by decide), if_neg (by decide), if_pos rfl, m_valueOf ht ⟨h2, by omega⟩, obind]
      · exact ⟨_, stk.mu (Nat.le_refl top), mu_at _ _ _ _ _, c_v2 hs hc h2 (by omega)⟩
    · have n1 := nT_nn h4
      obtain ⟨v, g, e1, e2⟩ := ih _ _ h4 (by omega)
      refine ⟨nm32 (-v), nm32_r _, fun K hK => ?_, fun C F pos top T hc => ?_⟩
      · obtain ⟨K, rfl⟩ : ∃ q, K = q + 1 := ⟨K - 1, by omega⟩
        refine start K _ ?_
        unfold wtK
        rw [h1, if_pos (by decide), if_neg (by decide), if_neg (by decide), e1 K (by omega), obind, if_pos rfl]
      · have hl : (c1 ++ [(150 : Int)]).length = c1.length + 1 := by rw [List.length_append]; rfl
        have h6 := hc.2.2.2.2.2.1
        have hc1 : cod C pr b1 ca sp pos top T c1 := hc.go (t0 := 0) stk.refl (by omega) (by omega) (fun i hi => ⟨i, rfl, by omega, (getD_app1 hi).symm⟩)
        obtain ⟨C1, s1, s2, s3⟩ := e2 C (F + 1) pos top T hc1
        have hc2 : cod C1 pr b1 ca sp (pos + c1.length) top T [150] := hc.go s1 (by rw [hl]; show pos + c1.length + 1 ≤ _; omega) (by show top + 1 ≤ 120; omega) (fun i hi => by
          have hi : i < 1 := hi
          exact ⟨c1.length + i, by omega, by omega, getD_app2.symm⟩)
        refine ⟨mu C1 37 sp top (nm32 (-v)), s1.trans (stk.mu (Nat.le_refl top)) (Nat.le_refl top), mu_at _ _ _ _ _, ?_⟩
        rw [hl, show F + (c1.length + 1) = F + 1 + c1.length by omega, s3, c_v3 hc2 s2]
        congr 1
    · have n1 := nT_nn h5
      have n2 := nT_nn h6
      obtain ⟨v, gv, e1, e2⟩ := ih _ _ h5 (by omega)
      obtain ⟨w, gw, e3, e4⟩ := ih _ _ h6 (by omega)
      refine ⟨jn (A 43 P a.toNat) v w, jn_r, fun K hK => ?_, fun C F pos top T hc => ?_⟩
      · obtain ⟨K, rfl⟩ : ∃ q, K = q + 1 := ⟨K - 1, by omega⟩
        refine start K _ ?_
        unfold wtK
        rw [if_pos (show g32 (A 43 P a.toNat) by unfold g32; omega), if_neg (by omega), if_neg (by omega), e1 K (by omega), obind, if_neg (show ¬ A 43 P a.toNat = 2 by omega)]
        show Option.bind (f_Mo_worthN K A P (A 46 P a.toNat) t) _ = _
        rw [e3 K (by omega), obind]
        show (if A 43 P a.toNat = 43 then some (nm32 (v + w), A) else (if A 43 P a.toNat = 45 then some (nm32 (v - w), A) else (if A 43 P a.toNat = 42 then some (nm32 (v * w), A) else (if A 43 P a.toNat = 37 then (if g32 w then (if w = 0 then some (0, A) else (if g32 v then (if w ≠ 0 then some (nm32 (Int.tmod v w), A) else none) else none)) else none) else (if A 43 P a.toNat = 60 then (if g32 v then if g32 w then (if w ≤ v then some (0, A) else some (1, A)) else none else none) else (if g32 v then if g32 w then (if v = w then some (1, A) else some (0, A)) else none else none)))))) = some (jn (A 43 P a.toNat) v w, A)
        generalize A 43 P a.toNat = z
        unfold jn
        by_cases k1 : z = 43
        · rw [if_pos k1, if_neg (by omega), if_neg (by omega), if_pos k1]
        rw [if_neg k1]
        by_cases k2 : z = 45
        · rw [if_pos k2, if_neg (by omega), if_neg (by omega), if_neg k1, if_pos k2]
        rw [if_neg k2]
        by_cases k3 : z = 42
        · rw [if_pos k3, if_neg (by omega), if_pos k3]
        rw [if_neg k3]
        by_cases k4 : z = 37
        · rw [if_pos k4, if_pos k4, if_pos gw]
          by_cases k : w = 0
          · rw [if_pos k, if_pos k]
          · rw [if_neg k, if_neg k, if_pos gv, if_pos k]
        rw [if_neg k4, if_neg k4, if_neg k3, if_neg k1, if_neg k2]
        by_cases k5 : z = 60
        · rw [if_pos k5, if_pos k5, if_pos gv, if_pos gw]
          by_cases k : w ≤ v
          · rw [if_pos k, if_pos k]
          · rw [if_neg k, if_neg k]
        rw [if_neg k5, if_neg k5, if_pos gv, if_pos gw]
        by_cases k : v = w
        · rw [if_pos k, if_pos k]
        · rw [if_neg k, if_neg k]
      · have hl : (c1 ++ (c2 ++ [200 + A 43 P a.toNat])).length = c1.length + (c2.length + 1) := by rw [List.length_append, List.length_append]; rfl
        have h9 := hc.2.2.2.2.2.1
        have l1 := nT_len h5
        have hc1 : cod C pr b1 ca sp pos top T c1 := hc.go (t0 := 0) stk.refl (by omega) (by omega) (fun i hi => ⟨i, rfl, by omega, (getD_app1 hi).symm⟩)
        obtain ⟨C1, s1, s2, s3⟩ := e2 C (F + 1 + c2.length) pos top T hc1
        have hc2 : cod C1 pr b1 ca sp (pos + c1.length) (top + 1) T c2 := hc.go s1 (by omega) (by omega) (fun i hi => ⟨c1.length + i, by omega, by omega, by rw [getD_app2, getD_app1 hi]⟩)
        obtain ⟨C2, t1, t2, t3⟩ := e4 C1 (F + 1) (pos + c1.length) (top + 1) T hc2
        have hc3 : cod C2 pr b1 ca sp (pos + c1.length + c2.length) (top + 1) T [200 + A 43 P a.toNat] := hc.go (s1.trans t1 (by omega)) (by rw [hl]; show pos + c1.length + c2.length + 1 ≤ _; omega) (by show top + 1 + 1 ≤ 120; omega) (fun i hi => by
          have hi : i < 1 := hi
          exact ⟨c1.length + (c2.length + i), by omega, by omega, by rw [getD_app2, getD_app2]⟩)
        have v2 : C2 37 sp top = v := by
          rw [t1 37 sp top (fun r => by omega)]
          exact s2
        refine ⟨mu C2 37 sp top (jn (A 43 P a.toNat) v w), (s1.trans t1 (by omega)).trans (stk.mu (Nat.le_refl top)) (Nat.le_refl top), mu_at _ _ _ _ _, ?_⟩
        have k4 := c_v4 (s := s) (F := F) hc3 (by omega) v2 t2 gv gw
        have t3' : f_Prog_valueOf_12 (F + 1 + c2.length) C1 pr b1 s ((top : Int) + 1) ((pos + c1.length : Nat) : Int) = f_Prog_valueOf_12 (F + 1) C2 pr b1 s ((top : Int) + 2) ((pos + c1.length + c2.length : Nat) : Int) := by
          rw [show ((top : Int) + 1) = ((top + 1 : Nat) : Int) by omega, t3]
          congr 1
        rw [hl, show F + (c1.length + (c2.length + 1)) = F + 1 + c2.length + c1.length by omega, s3, t3', k4]
        congr 1
        omega
end VAL
