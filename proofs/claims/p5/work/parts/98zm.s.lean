/-! STEPS of the class: if E, both blocks (own work) -/
section CBD
variable {o pr ca lv lw sa : Nat} {st : Nat → Nat} {others : Int} {T : Nat → Int} {m d : Nat}
theorem kThen_r {X Y : Type} {x : Nat × X} {g : Nat → X → kR Y} : kThen (.inr x) g = g x.1 x.2 := rfl
theorem c_ifR (hst : ∀ i, i < 16 → ∀ j, j < 16 → st i = st j → i = j) {stp : mA → Nat → Option (Int × mA)} {br : Nat → Nat → kR (List kS)} (hb : cBr o pr ca lv lw sa st others T m d (f_Read_readBraces stp) br) (hpr : kPs m br) {C : mA} {p k : Nat} (hd : d ≤ 4) (h : cSt o pr ca lv lw sa st others T m C p (k + 1)) (hn : stNew C (st k) 3 (4 - d)) (ho : C 3 o 5 = 4 - d) : ∃ z C', f_Read_readRest stp C o (st k) = some (z, C') ∧ fS o pr ca lv lw st k C C' ∧ kCase (kRest T m (4 - d) others (kExp T m (kOne T m d)) br 3 k p) (fun b => z = 0 ∧ C' 3 o 6 = b) (fun x => z = 1 ∧ cSt o pr ca lv lw sa st others T m C' x.1 (k + x.2.length) ∧ C' 3 o 5 = 4 - d ∧ ∃ hd tl, x.2 = hd :: tl ∧ stIs pr ca lv lw st (mu C' 6 (st k) 3 ((x.2.length : Nat) : Int)) k hd ∧ stAll pr ca lv lw st C' (k + 1) tl) := by
  obtain ⟨n0, n1, n2, n3, n4, n5, n6, n7, n8, n12, n13⟩ := hn
  have h120 := h.1.1.1.tx.1
  have hT := h.1.1.1.tx.2
  have hk16 := h.2.2.2.1
  have hc0 := h.1.1.1.2.2.2.1
  obtain ⟨z, C1, x1, x2, x4⟩ := c_form (i := k) h (by omega) hd ho
  unfold f_Read_readRest
  rw [n0, if_pos (by decide), if_neg (by decide), if_neg (by decide), if_neg (by decide), if_pos rfl, x1, obind]
  show ∃ z' C', (if g32 z then if z = 0 then some (0, C1) else Option.bind (f_Read_readBraces stp C1 o) _ else none) = _ ∧ _
  have e : kRest T m (4 - d) others (kExp T m (kOne T m d)) br 3 k p = kThen (kExp T m (kOne T m d) p) (fun q c => kThen (br (k + 1) q) (fun q y => kThen (br (k + 1 + y.length) q) (fun q z => .inr (q, (3, -1, -1, 1 + y.length + z.length, 1 + y.length, c, [], 4 - (d : Int)) :: (y ++ z))))) := rfl
  rw [e]
  cases hq : kExp T m (kOne T m d) p with
  | inl b =>
    rw [hq] at x4
    obtain ⟨y1, y2⟩ := x4
    subst y1
    exact ⟨0, C1, rfl, x2, rfl, y2⟩
  | inr x =>
    rw [hq] at x4
    obtain ⟨y1, y2, y3, y4, y5, y6, y7, y8, y9, y10⟩ := x4
    subst y1
    obtain ⟨-, xm, -⟩ := kExp_pr h120 hT (kOne_pr h120 hT d) _ h.1.1.2.2.1 x hq
    rw [if_pos (by decide), if_neg (by decide)]
    obtain ⟨z, C2, v1, v2, v4⟩ := hb C1 _ (k + 1) y2 y3
    rw [v1, obind]
    show ∃ z' C', (if g32 z then if z = 0 then some (0, C2) else Option.bind (f_Read_readSecond stp C2 o (st k)) _ else none) = _ ∧ _
    have f2 := x2.trans v2 (by omega)
    rw [kThen_r]
    cases hq2 : br (k + 1) x.1 with
    | inl b =>
      rw [hq2] at v4
      obtain ⟨w1, w2⟩ := v4
      subst w1
      exact ⟨0, C2, rfl, f2, rfl, w2⟩
    | inr y =>
      rw [hq2] at v4
      obtain ⟨w1, w2, w3, w4⟩ := v4
      subst w1
      obtain ⟨b1, b2, b3, b4⟩ := hpr _ _ xm y hq2
      rw [if_pos (by decide), if_neg (by decide)]
      unfold f_Read_readSecond
      rw [w2.1.1.1.2.1, if_pos (by omega), Int.toNat_natCast, w2.2.2.1]
      obtain ⟨z, C3, u1, u2, u4⟩ := hb _ _ (k + 1 + y.2.length) (w2.st6 (s := st k) (j := 5) (z := ((k + 1 + y.2.length : Nat) : Int))) w3
      rw [u1, obind]
      have f3 : fS o pr ca lv lw st k C C3 := (f2.trans (fS.st (by omega)) (Nat.le_refl k)).trans u2 (by omega)
      rw [kThen_r]
      cases hq3 : br (k + 1 + y.2.length) y.1 with
      | inl b =>
        rw [hq3] at u4
        obtain ⟨t1, t2⟩ := u4
        subst t1
        exact ⟨0, C3, rfl, f3, rfl, t2⟩
      | inr w =>
        rw [hq3] at u4
        obtain ⟨t1, t2, t3, t4⟩ := u4
        subst t1
        obtain ⟨d1, d2, d3, d4⟩ := hpr _ _ b2 w hq3
        have el : ∀ j, j ≠ 5 → C3 6 (st k) j = C1 6 (st k) j := fun j hj => (u2.el hst (by omega) b4 j).trans ((mu_ne _ _ (fun r => hj r.2.2)).trans (v2.el hst (by omega) hk16 j))
        have e5 : C3 6 (st k) 5 = ((k + 1 + y.2.length : Nat) : Int) := (u2.el hst (by omega) b4 5).trans (mu_at _ _ _ _ _)
        have s3 : C1 2 pr 3 ≤ C3 2 pr 3 := Int.le_trans v2.1 u2.1
        have ek : k + 1 + y.2.length + w.2.length = k + ((y.2 ++ w.2).length + 1) := by
          rw [List.length_append]
          omega
        rw [ek] at t2
        have cd : codesAt C3 ca (C 2 pr 3).toNat x.2 := fun j hj => by
          have a1 : (((C 2 pr 3).toNat + j : Nat) : Int) < C1 2 pr 3 := by rw [y8]; omega
          rw [u2.code _ (show (((C 2 pr 3).toNat + j : Nat) : Int) < C2 2 pr 3 from Int.lt_of_lt_of_le a1 v2.1)]
          show C2 36 ca ((C 2 pr 3).toNat + j) = _
          rw [v2.code _ a1]
          exact y9 j hj
        refine ⟨1, C3, rfl, f3, rfl, t2, t3, _, y.2 ++ w.2, rfl, ?_, ((w4.muS hst (by omega) b4).keep hst u2 (Nat.le_refl _) b4).app t4⟩
        refine stIs.mk9 ?_ ?_ ?_ ?_ ?_ (fun _ => ?_) ?_ ?_ ⟨?_, ?_, ?_⟩ (fun _ _ => ⟨(C 2 pr 3).toNat, ?_, ?_, ?_, cd⟩) (fun q => absurd q (by show ¬ (3 : Int) = 0; decide))
        · show (((y.2 ++ w.2).length + 1 : Nat) : Int) = ((1 + y.2.length + w.2.length : Nat) : Int)
          rw [List.length_append]
          omega
        · rw [el 0 (by decide), y7 0 (by decide) (by decide) (by decide)]; exact n0
        · rw [el 1 (by decide), y7 1 (by decide) (by decide) (by decide)]; exact n1
        · rw [el 2 (by decide), y7 2 (by decide) (by decide) (by decide)]; exact n2
        · rw [el 4 (by decide), y7 4 (by decide) (by decide) (by decide)]; exact n4
        · rw [e5]
          show ((k + 1 + y.2.length : Nat) : Int) = ((k + (1 + y.2.length) : Nat) : Int)
          omega
        · rw [el 6 (by decide), y6, n6]
        · rw [el 7 (by decide), y7 7 (by decide) (by decide) (by decide), n7]
          rfl
        · rw [el 8 (by decide), y7 8 (by decide) (by decide) (by decide)]; exact n8
        · rw [el 12 (by decide), y7 12 (by decide) (by decide) (by decide)]; exact n12
        · rw [el 13 (by decide), y7 13 (by decide) (by decide) (by decide)]; exact n13
        · rw [el 9 (by decide), y4]; omega
        · rw [el 10 (by decide), y5, y8]
          show _ = (((C 2 pr 3).toNat + x.2.length : Nat) : Int)
          omega
        · refine Int.le_trans ?_ s3
          rw [y8]
          show (((C 2 pr 3).toNat + x.2.length : Nat) : Int) ≤ _
          omega
end CBD
