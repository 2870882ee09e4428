/-! program() of the class, whole (own work) -/
theorem k_pq_0 : sblk b_CS_program [(0, .aload_n 0, .null)] := sblk_of (by decide +kernel)
theorem d_pq_1 : decode b_CS_program 1 = .ok (.getfield 59, 3) := by decide +kernel
theorem k_pq_4 : sblk b_CS_program [(4, .bipush 6, .int 6)] := sblk_of (by decide +kernel)
theorem d_pq_6 : decode b_CS_program 6 = .ok (.if_icmp .lt 6, 3) := by decide +kernel
theorem k_pq_9 : sblk b_CS_program [(9, .bipush (-4), .int (-4))] := sblk_of (by decide +kernel)
theorem d_pq_11 : decode b_CS_program 11 = .ok (.ireturn, 1) := by decide +kernel
theorem k_pq_12 : sblk b_CS_program [(12, .aload_n 0, .null)] := sblk_of (by decide +kernel)
theorem d_pq_13 : decode b_CS_program 13 = .ok (.getfield 15, 3) := by decide +kernel
theorem k_pq_16 : sblk b_CS_program [(16, .aload_n 0, .null)] := sblk_of (by decide +kernel)
theorem d_pq_17 : decode b_CS_program 17 = .ok (.getfield 59, 3) := by decide +kernel
theorem d_pq_20 : decode b_CS_program 20 = .ok (.aaload, 1) := by decide +kernel
theorem k_pq_21 : sblk b_CS_program [(21, .astore_n 1, .null), (22, .aload_n 1, .null)] := sblk_of (by decide +kernel)
theorem d_pq_23 : decode b_CS_program 23 = .ok (.ifnonnull 21, 3) := by decide +kernel
section PQ
variable {D : va_G} {G : tG} {C0 : mA} {w : jW} {x P : Nat}
theorem j_prog0 {g : jG} (C : jX g b_CS_program 3 "ChanceSteps" D) (hw : hW D G C0 w) (gx : G x = some 8) (eP : C0 8 x 3 = P) (hP : P < 6) (kn : C0 21 (aOa C0 x) P < 0 → JJ g w 26 [(0, .ref x)] []) (kk : 0 ≤ C0 21 (aOa C0 x) P → JJ g w 44 [(0, .ref x), (1, .ref (aPr C0 x P))] []) : JJ g w 0 [(0, .ref x)] [] := by
  obtain ⟨Vx, hxc, hVx⟩ := (hcell_O (rfl : tyO 8 = some (8, _))).mp (hw x 8 gx)
  have v2 : Vx 2 = .ref (aOa C0 x) ∧ G (aOa C0 x) = some 21 := hv4 (τ' := 21) rfl rfl (hVx 2 _ rfl)
  have v3 : Vx 3 = .int (Int32.ofInt (P : Int)) := by
    have := hint1 rfl (hVx 3 _ rfl)
    rw [eP] at this
    exact this
  obtain ⟨f, hcell, hel⟩ := (hcell_R (t := 5) (rfl : tyO 21 = none) rfl).mp (hw _ 21 v2.2)
  have eiP : (Int32.ofInt (P : Int)).toInt = P := iR (by omega)
  have ein : (Int32.ofInt (P : Int)).toNatClampNeg = P := by
    show (Int32.ofInt (P : Int)).toInt.toNat = P
    rw [eiP]
    omega
  have hin : vp_in (Int32.ofInt (P : Int)) 6 := jin (by rw [eiP]; omega) (by rw [eiP]; omega)
  refine j_blk 1 [(0, .ref x)] [.ref x] C k_pq_0 rfl ?_
  refine j_get C d_pq_1 fg_CS_59 hxc v3 ?_
  refine j_blk 6 [(0, .ref x)] [.int 6, .int (Int32.ofInt (P : Int))] C k_pq_4 rfl ?_
  refine j_icmp_lt (tgt := 12) C d_pq_6 (by decide) (fun _ => ?_) (fun c => ?_)
  · refine j_blk 13 [(0, .ref x)] [.ref x] C k_pq_12 rfl ?_
    refine j_get C d_pq_13 fg_CS_15 hxc v2.1 ?_
    refine j_blk 17 [(0, .ref x)] [.ref x, .ref (aOa C0 x)] C k_pq_16 rfl ?_
    refine j_get C d_pq_17 fg_CS_59 hxc v3 ?_
    have h9 := hel P hP
    have h9 : (C0 21 (aOa C0 x) P < 0 ∧ va_rf (f P) = .null) ∨ (0 ≤ C0 21 (aOa C0 x) P ∧ va_rf (f P) = .ref (aPr C0 x P) ∧ G (aPr C0 x P) = some 2) := h9
    rcases h9 with ⟨h8, h9⟩ | ⟨h8, h9, -⟩
    · refine j_aald (t := 8) (v := .null) C d_pq_20 rfl rfl hcell hin (by rw [ein]; exact h9) ?_
      refine j_blk 23 [(1, .null), (0, .ref x)] [.null] C k_pq_21 rfl ?_
      refine j_ifnonnullN C d_pq_23 ?_
      exact JJ.loc [(0, .ref x)] ⟨rfl, trivial⟩ (kn h8)
    · refine j_aald (t := 8) (v := .ref (aPr C0 x P)) C d_pq_20 rfl rfl hcell hin (by rw [ein]; exact h9) ?_
      refine j_blk 23 [(1, .ref (aPr C0 x P)), (0, .ref x)] [.ref (aPr C0 x P)] C k_pq_21 rfl ?_
      refine j_ifnonnull (tgt := 44) C d_pq_23 (by decide) ?_
      exact JJ.loc [(0, .ref x), (1, .ref (aPr C0 x P))] ⟨rfl, rfl, trivial⟩ (kk h8)
  · exfalso
    apply c
    rw [Int32.lt_iff_toInt_lt, eiP]
    show (P : Int) < 6
    omega
/-- with six programs nothing is read -/
theorem cs_prog6 (l : Launch) (B : Nat) (H0 : Heap) (hw : hW D G C0 w) (gx : G x = some 8) (eP : C0 8 x 3 = 6) : jMet l D B H0 y_CS_program b_CS_program 3 (some .int) 1860 74100 0 0 [.ref x] w (fun v w9 => v = some (.int (Int32.ofInt (-4))) ∧ w9 = w) := by
  obtain ⟨Vx, hxc, hVx⟩ := (hcell_O (rfl : tyO 8 = some (8, _))).mp (hw x 8 gx)
  have v3 : Vx 3 = .int 6 := by
    have := hint1 rfl (hVx 3 _ rfl)
    rw [eP] at this
    exact this
  refine j_met (by decide) (Nat.le_of_ble_eq_true rfl) (fun g C Rm Y E => ?_)
  have hk := jkz w
  show JJ g w 0 [(0, .ref x)] []
  refine j_blk 1 [(0, .ref x)] [.ref x] C k_pq_0 rfl ?_
  refine j_get C d_pq_1 fg_CS_59 hxc v3 ?_
  refine j_blk 6 [(0, .ref x)] [.int 6, .int 6] C k_pq_4 rfl ?_
  refine j_icmp_lt (tgt := 12) C d_pq_6 (by decide) (fun c => absurd c (by decide)) (fun _ => ?_)
  refine j_blk 11 [(0, .ref x)] [.int (-4)] C k_pq_9 rfl ?_
  exact j_iret C Rm E d_pq_11 ⟨rfl, rfl⟩ (jbnd hk.1 rfl) (jbnd hk.2 rfl)
/-- what program() leaves, beside what the reference's leaves -/
def cPo (G : tG) (D : va_G) (x P : Nat) (A : mA) (v : Option Value) (w9 : jW) : Prop := ∃ (z : Int) (G1 : tG) (C9 : mA), v = some (.int (Int32.ofInt z)) ∧ (∀ a τ, G a = some τ → G1 a = some τ) ∧ hW D G1 C9 w9 ∧ ∀ z' A9, mPg P (A 9 0) (A 0 0 22).toNat A (eB A) (eT A) z' A9 → z = z' ∧ (-2147483648 ≤ z ∧ z ≤ 2147483647) ∧ R3 x C9 A9
theorem cs_program (l : Launch) (B : Nat) (H0 : Heap) {A : mA} (hO : WOK D G w) (hb : bud G w) (hw : hW D G C0 w) (gx : G x = some 8) (hR : R3 x C0 A) (eP : A 0 0 0 = P) (hP : P < 6) : ∃ mc ms, mc ≤ KC - w.2.1 ∧ ms ≤ KS - w.2.2 ∧ jMet l D B H0 y_CS_program b_CS_program 3 (some .int) 1860 74100 mc ms [.ref x] w (cPo G D x P A) := by
  have hR0 := hR
  obtain ⟨⟨a1, a2, a3⟩, ⟨b1, b2, b3⟩, i1, d1, e1, f1, g1⟩ := hR0
  have e3 : C0 8 x 3 = P := b1.trans eP
  have em : A 0 0 22 = (((A 0 0 22).toNat : Nat) : Int) := (Int.toNat_of_nonneg a2).symm
  have hT : ∀ j, j < 120 → 0 ≤ A 9 0 j ∧ A 9 0 j ≤ 255 := fun j hj => (d1 j hj).2
  have nx : G x ≠ none := by rw [gx]; exact fun q => by cases q
  have no : G (aOa C0 x) ≠ none := by rw [hg_oa hw gx]; exact fun q => by cases q
  have nt : G (C0 8 x 0).toNat ≠ none := by rw [hg_ta hw gx]; exact fun q => by cases q
  -- the method's end, from its Program on
  have go : ∀ (C1 : mA) (pr : Nat) (_ : ∀ τ a k, G a ≠ none → ¬ (τ = 21 ∧ a = aOa C0 x ∧ k = P) → C1 τ a k = C0 τ a k) (_ : C1 21 (aOa C0 x) P = pr) (_ : cPg C1 pr) (_ : ∀ p, p < 6 → p ≠ P → 0 ≤ C0 21 (aOa C0 x) p → aPr C0 x p ≠ pr), ∃ z C9, f_CS_program_44 C1 x pr = some (z, C9) ∧ ∀ z' A9, mPg P (A 9 0) (A 0 0 22).toNat A (eB A) (eT A) z' A9 → z = z' ∧ (-2147483648 ≤ z ∧ z ≤ 2147483647) ∧ R3 x C9 A9 := fun C1 pr hC hs hg hne => by
    have x8 : ∀ k, C1 8 x k = C0 8 x k := fun k => hC 8 x k nx (fun r => by omega)
    have eo : aOa C1 x = aOa C0 x := congrArg Int.toNat (x8 2)
    obtain ⟨z, C9, q1, q2⟩ := c_prog44 (P := P) (m := (A 0 0 22).toNat) (x := x) (pr := pr) (oa := aOa C0 x) (T := A 9 0) (pE := aPr C0 x) (bE := eB A) (tE := eT A) (sE := eS C0 x) (C := C1) hP (by omega) hT (fun j hj => by
      rw [x8, hC 20 _ j nt (fun r => by omega)]
      exact (d1 j hj).1) (by rw [x8, a1]; exact em) ((x8 3).trans e3) eo hg (hR.el eP hP (fun u hu => hC 21 _ u no (fun r => by omega)) (fun u hu k => hC 2 _ k (by
      have h0 := (f1 u (by omega)).1
      rw [hg_pr hw gx (by omega) h0]
      exact fun q => by cases q) (fun r => by omega))) (fun u hu => hne u (by omega) (by omega) (f1 u (by omega)).1)
    exact ⟨z, C9, q1, fun z' A9 hm => R3_program hw gx hR eP hP hC hs hg hne q2 hm⟩
  by_cases hn : 0 ≤ C0 21 (aOa C0 x) P
  · obtain ⟨z, C9, q1, q2⟩ := go C0 (aPr C0 x P) (fun _ _ _ _ _ => rfl) (Int.toNat_of_nonneg hn).symm (e1 P hP hn) (fun p hp q h0 => g1 p P hp hP q h0 hn)
    refine ⟨0, 0, Nat.zero_le _, Nat.zero_le _, j_met (by decide) (Nat.le_of_ble_eq_true rfl) (fun g C Rm Y E => ?_)⟩
    show JJ g w 0 [(0, .ref x)] []
    refine j_prog0 C hw gx e3 hP (fun q => absurd q (by omega)) (fun _ => ?_)
    exact hx_CS_program_44 (q := w.2) C0 x (aPr C0 x P) gx (hg_pr hw gx hP hn) z C9 q1 C Rm Y E ⟨Nat.le_refl _, Nat.le_refl _⟩ ⟨Nat.le_refl _, Nat.le_refl _⟩ (fun w' h1 _ => ⟨z, G, C9, rfl, fun _ _ h => h, h1, q2⟩) w hw rfl
  · have hposq : 0 < qu (some 21) (w.1 (aOa C0 x)) := by
      obtain ⟨f, hcell, hel⟩ := (hcell_R (t := 5) (rfl : tyO 21 = none) rfl).mp (hw _ 21 (hg_oa hw gx))
      have h9 := hel P hP
      have h9 : (C0 21 (aOa C0 x) P < 0 ∧ va_rf (f P) = .null) ∨ (0 ≤ C0 21 (aOa C0 x) P ∧ va_rf (f P) = .ref (aPr C0 x P) ∧ G (aPr C0 x P) = some 2) := h9
      have hf0 : f P = none := by
        rcases h9 with h9 | h9
        · exact x_null h9.2
        · omega
      rw [hcell]
      show 0 < nulls 6 f
      rw [nulls_one (q := 0) hP hf0]
      omega
    obtain ⟨room1, room2⟩ := hb.room2 (hg_oa hw gx) hposq
    refine ⟨26, 739, by omega, by omega, j_met (by decide) (Nat.le_of_ble_eq_true rfl) (fun g C Rm Y E => ?_)⟩
    show JJ g w 0 [(0, .ref x)] []
    refine j_prog0 C hw gx e3 hP (fun _ => ?_) (fun q => absurd q hn)
    refine j_prog26 C Rm (by decide) (by decide) (Nat.le_refl _) (Nat.le_refl _) Y hO hb hw gx rfl e3 hP (by omega) (fun q G1 C1 w9 hO9 hgo hw1 hk hC hs hgq hnew => ?_)
    obtain ⟨z, C9, q1, q2⟩ := go C1 q hC hs hnew.1 (fun p hp _ h0 e => by
      have g9 := hg_pr hw gx hp h0
      rw [e, hnew.2.1] at g9
      cases g9)
    refine JJ.loc [(0, .ref x), (1, .ref q)] ⟨rfl, rfl, trivial⟩ ?_
    exact hx_CS_program_44 (q := w9.2) C1 x q (hgo _ _ gx) hgq z C9 q1 C Rm Y E (by rw [hk.1, hk.2]; exact ⟨Nat.le_refl _, Nat.le_refl _⟩) (by rw [hk.1, hk.2]; exact ⟨Nat.le_refl _, Nat.le_refl _⟩) (fun w' h1 _ => ⟨z, G1, C9, rfl, hgo, h1, q2⟩) w9 hw1 rfl
end PQ
