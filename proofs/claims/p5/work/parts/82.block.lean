/-! the reference: steps and blocks (own work, by program) -/
theorem pV.one' {P i : Nat} {d : Int} {A A9 : mA} (g0 : A 0 0 31 = 0) (hs : A 0 0 24 - A 0 0 30 - 3 * A 0 0 29 ≤ A9 0 0 24 - A9 0 0 30 - 3 * A9 0 0 29) (hi : A 0 0 28 = (i : Int)) (hN : A9 0 0 28 = A 0 0 28 + 1) (h : sG P A9 (A9 0 0 28) (A9 0 0 30) (A9 0 0 29) (fun _ => d) i) : pV P d A A9 := fun _ => ⟨g0, hs, by omega, fun _ => d, fun j h1 h2 => by
  have : j = i := by omega
  subst this
  exact ⟨h, Int.le_refl _⟩⟩
theorem pV.mk {P a : Nat} {d : Int} {A A9 : mA} (g0 : A 0 0 31 = 0) (hs : A 0 0 24 - A 0 0 30 - 3 * A 0 0 29 ≤ A9 0 0 24 - A9 0 0 30 - 3 * A9 0 0 29) (ha : A 0 0 28 = (a : Int)) (hN : A 0 0 28 + 1 ≤ A9 0 0 28) (h : ∃ dep : Nat → Int, sB P A9 (a : Int) dep d) : pV P d A A9 := fun _ => ⟨g0, hs, hN, by rw [ha]; exact h⟩
theorem pV.loop' {P a : Nat} {d x : Int} {A1 A2 : mA} (hV : pV P (d + 1) A1 A2) (hx : A2 0 0 28 = x) (g : A2 0 0 31 = 0) (e1 : A1 0 0 28 = (a : Int) + 1) (h34 : A2 34 P a = 4) (h39 : A2 39 P a = -1) (h36 : 0 ≤ A2 36 P a) (hd : 0 ≤ d ∧ d ≤ 4) (h30 : 0 ≤ A2 0 0 30) : ∃ dep : Nat → Int, sB P (mu (mu A2 38 P a x) 37 P a x) (a : Int) dep d := by
  subst hx
  exact pV.loop hV g e1 h34 h39 h36 hd h30
theorem pV.cond' {P a : Nat} {d x y : Int} {A1 A2 A4 : mA} (hV1 : pV P (d + 1) A1 A2) (hx : A2 0 0 28 = x) (hV2 : pV P (d + 1) (mu A2 38 P a x) A4) (q : pQ P (A2 0 0 28) (A2 0 0 29) (A2 0 0 30) (mu A2 38 P a x) A4) (hy : A4 0 0 28 = y) (m2 : A2 0 0 29 ≤ A4 0 0 29) (m3 : A2 0 0 30 ≤ A4 0 0 30) (g : A4 0 0 31 = 0) (e1 : A1 0 0 28 = (a : Int) + 1) (h34 : A4 34 P a = 3) (h39 : 0 ≤ A4 39 P a ∧ A4 39 P a < A4 0 0 30) (hd : 0 ≤ d ∧ d ≤ 4) : ∃ dep : Nat → Int, sB P (mu A4 37 P a y) (a : Int) dep d := by
  subst hx
  subst hy
  exact pV.cond hV1 hV2 q m2 m3 g e1 h34 h39 hd
theorem sG.mk {P i : Nat} {A : mA} {N M Ln kd na nu en ot tp fl : Int} {dep : Nat → Int} (h34 : A 34 P i = kd) (h35 : A 35 P i = na) (h36 : A 36 P i = nu) (h37 : A 37 P i = en) (h38 : A 38 P i = ot) (h39 : A 39 P i = tp) (h40 : A 40 P i = fl) (c1 : 0 ≤ kd ∧ kd ≤ 5) (c2 : (i : Int) + 1 ≤ ot ∧ ot ≤ en ∧ en ≤ N) (c3 : -1 ≤ tp ∧ tp < M) (c4 : kd = 1 ∨ kd = 2 ∨ kd = 3 ∨ kd = 5 → 0 ≤ tp) (c5 : kd = 0 ∨ kd = 1 ∨ kd = 5 → 0 ≤ na) (c6 : kd = 5 → 0 ≤ nu ∧ nu < P) (c7 : kd = 4 → False) (c8 : kd = 0 → 0 ≤ fl ∧ 1 ≤ nu ∧ fl + nu ≤ Ln ∧ 1 ≤ ws (A 42 P) fl.toNat nu.toNat) (c9 : 0 ≤ dep i ∧ dep i ≤ 4) (c10 : kd = 3 → False) : sG P A N M Ln dep i := by
  unfold sG
  rw [h34, h35, h36, h37, h38, h39, h40]
  exact ⟨c1, c2, c3, c4, c5, c6, fun k => (c7 k).elim, c8, c9, fun k => by rcases k with k | k; exact (c10 k).elim; exact (c7 k).elim⟩
theorem pQ.lots {P i : Nat} {s t t2 n : Int} {A A2 A9 : mA} (h : pQ P s t n A A2) (k : mEq (lo P) A2 A9) (q : lQ P t2 A2 A9) (ht : t ≤ t2) (r : lNm P i A2 A9) (hi : s ≤ (i : Int)) : pQ P s t n A A9 := by
  have key : ∀ f, 34 ≤ f → f ≠ 36 → f ≠ 41 → f ≠ 42 → ∀ j, A9 f P j = A2 f P j := fun f h1 h2 h3 h4 j => k f P j (by
    unfold lo
    have a1 : (f == 0) = false := by simp; omega
    have a2 : (f == 36) = false := by simp; omega
    have a3 : (f == 41) = false := by simp; omega
    have a4 : (f == 42) = false := by simp; omega
    rw [a1, a2, a3, a4]; simp)
  refine ⟨fun f a b j hj => Eq.trans ?_ (h.1 f a b j hj), fun f a b j hj => Eq.trans ?_ (h.2.1 f a b j hj), fun f a b j hj => (key f (by omega) (by omega) (by omega) (by omega) j).trans (h.2.2 f a b j hj)⟩
  · by_cases c : f = 36
    · subst c; exact r j (by omega)
    · exact key f a c (by omega) (by omega) j
  · have c : f = 41 ∨ f = 42 := by omega
    rcases c with rfl | rfl
    · exact (q j (by omega)).1
    · exact (q j (by omega)).2
theorem pm_pm (P : Nat) : ∀ f k j, pm P f k j = false → pm P f k j = false := fun _ _ _ h => h
theorem nG.fam {P : Nat} {A A9 : mA} (h : nG P A) (k : ∀ f, 43 ≤ f → f ≤ 46 → A9 f P = A f P) (e : A9 0 0 30 = A 0 0 30) : nG P A9 := fun j hj => by
  rw [k 43 (by omega) (by omega), k 45 (by omega) (by omega), k 46 (by omega) (by omega)]
  rw [e] at hj
  exact h j hj
theorem nG.lots {P : Nat} {A A9 : mA} (h : nG P A) (k : mEq (lo P) A A9) (e : A9 0 0 30 = A 0 0 30) : nG P A9 := nG.fam h (fun f h1 h2 => funext fun j => k f P j (by
    unfold lo
    have a1 : (f == 0) = false := by simp; omega
    have a2 : (f == 36) = false := by simp; omega
    have a3 : (f == 41) = false := by simp; omega
    have a4 : (f == 42) = false := by simp; omega
    rw [a1, a2, a3, a4]; simp)) e
def S_inBraces (d : Nat) : Prop := ∀ (l : Launch) (D : va_G) (B : Nat) (H0 : Heap) (ad : mAd) (A : mA) (hS : mStr D ad) (hT : mTy A) (p0 : Int) (hp : A 0 0 0 = p0 ∧ 0 ≤ p0 ∧ p0 ≤ 5) (hb : A 0 0 24 ≤ A 0 0 23 ∧ A 0 0 23 ≤ A 0 0 22) (hn : pT A) (hl : pL A) (hG : nG p0.toNat A) (ho : A 0 0 27 = 4 - (d : Int) ∧ (d : Int) ≤ 4) , mMet l D B H0 ad y_Mo_inBraces b_Mo_inBraces 1 none (31 + 4 * d) (600 + 300 * d) [vr 0 0] A (fun v9 A9 => v9 = none ∧ mTy A9 ∧ mEq (pm p0.toNat) A A9 ∧ (A9 0 0 24 ≤ A9 0 0 23 ∧ A9 0 0 23 ≤ A9 0 0 22) ∧ (pT A9) ∧ (pV p0.toNat (4 - (d : Int) + 1) A A9) ∧ (A 0 0 24 ≤ A9 0 0 24 ∧ A 0 0 28 ≤ A9 0 0 28 ∧ A 0 0 29 ≤ A9 0 0 29 ∧ A 0 0 30 ≤ A9 0 0 30 ∧ A9 0 0 27 = A 0 0 27) ∧ (nG p0.toNat A9) ∧ (pQ p0.toNat (A 0 0 28) (A 0 0 29) (A 0 0 30) A A9))
def S_step (d : Nat) : Prop := ∀ (l : Launch) (D : va_G) (B : Nat) (H0 : Heap) (ad : mAd) (A : mA) (hS : mStr D ad) (hT : mTy A) (p0 : Int) (hp : A 0 0 0 = p0 ∧ 0 ≤ p0 ∧ p0 ≤ 5) (hb : A 0 0 24 ≤ A 0 0 23 ∧ A 0 0 23 ≤ A 0 0 22) (hn : pT A) (hl : pL A) (hG : nG p0.toNat A) (ho : A 0 0 27 = 4 - (d : Int) ∧ (d : Int) ≤ 4) , mMet l D B H0 ad y_Mo_step_0 b_Mo_step_0 4 none (32 + 4 * d) (630 + 300 * d) [vr 0 0] A (fun v9 A9 => v9 = none ∧ mTy A9 ∧ mEq (pm p0.toNat) A A9 ∧ (A9 0 0 24 ≤ A9 0 0 23 ∧ A9 0 0 23 ≤ A9 0 0 22) ∧ (pT A9) ∧ (pV p0.toNat (4 - (d : Int)) A A9) ∧ (A 0 0 24 ≤ A9 0 0 24 ∧ A 0 0 28 ≤ A9 0 0 28 ∧ A 0 0 29 ≤ A9 0 0 29 ∧ A 0 0 30 ≤ A9 0 0 30 ∧ A9 0 0 27 = A 0 0 27) ∧ (nG p0.toNat A9) ∧ (pQ p0.toNat (A 0 0 28) (A 0 0 29) (A 0 0 30) A A9))
def S_block (d : Nat) : Prop := ∀ (l : Launch) (D : va_G) (B : Nat) (H0 : Heap) (ad : mAd) (A : mA) (hS : mStr D ad) (hT : mTy A) (p0 : Int) (hp : A 0 0 0 = p0 ∧ 0 ≤ p0 ∧ p0 ≤ 5) (hb : A 0 0 24 ≤ A 0 0 23 ∧ A 0 0 23 ≤ A 0 0 22) (hn : pT A) (hl : pL A) (hG : nG p0.toNat A) (ho : A 0 0 27 = 4 - (d : Int) ∧ (d : Int) ≤ 4) , mMet l D B H0 ad y_Mo_block b_Mo_block 1 none (33 + 4 * d) (660 + 300 * d) [vr 0 0] A (fun v9 A9 => v9 = none ∧ mTy A9 ∧ mEq (pm p0.toNat) A A9 ∧ (A9 0 0 24 ≤ A9 0 0 23 ∧ A9 0 0 23 ≤ A9 0 0 22) ∧ (pT A9) ∧ (pV p0.toNat (4 - (d : Int)) A A9) ∧ (A 0 0 24 ≤ A9 0 0 24 ∧ A 0 0 28 ≤ A9 0 0 28 ∧ A 0 0 29 ≤ A9 0 0 29 ∧ A 0 0 30 ≤ A9 0 0 30 ∧ A9 0 0 27 = A 0 0 27) ∧ (nG p0.toNat A9) ∧ (pQ p0.toNat (A 0 0 28) (A 0 0 29) (A 0 0 30) A A9))
theorem f_q_inBraces_0_2 : mblkB b_Mo_inBraces [(0, .aload_n 0, vi 0), (1, .bipush 123, vi 123)] = true := by decide +kernel
theorem e_q_inBraces_3 : decode b_Mo_inBraces 3 = .ok (.invokevirtual 173, 3) := by decide +kernel
theorem e_q_inBraces_6 : decode b_Mo_inBraces 6 = .ok (.ifCond .eq 11, 3) := by decide +kernel
theorem f_q_inBraces_9_1 : mblkB b_Mo_inBraces [(9, .aload_n 0, vi 0)] = true := by decide +kernel
theorem e_q_inBraces_10 : decode b_Mo_inBraces 10 = .ok (.getfield 182, 3) := by decide +kernel
theorem f_q_inBraces_13_1 : mblkB b_Mo_inBraces [(13, .iconst 4, vi 4)] = true := by decide +kernel
theorem e_q_inBraces_14 : decode b_Mo_inBraces 14 = .ok (.if_icmp .ne 9, 3) := by decide +kernel
theorem f_q_inBraces_23_2 : mblkB b_Mo_inBraces [(23, .aload_n 0, vi 0), (24, .dup, vi 0)] = true := by decide +kernel
theorem e_q_inBraces_25 : decode b_Mo_inBraces 25 = .ok (.getfield 182, 3) := by decide +kernel
theorem f_q_inBraces_28_2 : mblkB b_Mo_inBraces [(28, .iconst 1, vi 1), (29, .iadd, vi 0)] = true := by decide +kernel
theorem e_q_inBraces_30 : decode b_Mo_inBraces 30 = .ok (.putfield 182, 3) := by decide +kernel
theorem f_q_inBraces_33_1 : mblkB b_Mo_inBraces [(33, .aload_n 0, vi 0)] = true := by decide +kernel
theorem e_q_inBraces_34 : decode b_Mo_inBraces 34 = .ok (.invokevirtual 176, 3) := by decide +kernel
theorem f_q_inBraces_37_1 : mblkB b_Mo_inBraces [(37, .aload_n 0, vi 0)] = true := by decide +kernel
theorem e_q_inBraces_38 : decode b_Mo_inBraces 38 = .ok (.invokevirtual 185, 3) := by decide +kernel
theorem f_q_inBraces_41_2 : mblkB b_Mo_inBraces [(41, .aload_n 0, vi 0), (42, .dup, vi 0)] = true := by decide +kernel
theorem e_q_inBraces_43 : decode b_Mo_inBraces 43 = .ok (.getfield 182, 3) := by decide +kernel
theorem f_q_inBraces_46_2 : mblkB b_Mo_inBraces [(46, .iconst 1, vi 1), (47, .isub, vi 0)] = true := by decide +kernel
theorem e_q_inBraces_48 : decode b_Mo_inBraces 48 = .ok (.putfield 182, 3) := by decide +kernel
theorem f_q_inBraces_51_2 : mblkB b_Mo_inBraces [(51, .aload_n 0, vi 0), (52, .bipush 125, vi 125)] = true := by decide +kernel
theorem e_q_inBraces_54 : decode b_Mo_inBraces 54 = .ok (.invokevirtual 188, 3) := by decide +kernel
theorem e_q_inBraces_57 : decode b_Mo_inBraces 57 = .ok (.return_, 1) := by decide +kernel
theorem f_q_inBraces_17_2 : mblkB b_Mo_inBraces [(17, .aload_n 0, vi 0), (18, .iconst 1, vi 1)] = true := by decide +kernel
theorem e_q_inBraces_19 : decode b_Mo_inBraces 19 = .ok (.putfield 155, 3) := by decide +kernel
theorem e_q_inBraces_22 : decode b_Mo_inBraces 22 = .ok (.return_, 1) := by decide +kernel
set_option maxHeartbeats 40000000 in
set_option maxRecDepth 100000 in
theorem q_inBraces (d : Nat) (hrec : ∀ d1 : Nat, d = d1 + 1 → S_block d1) : S_inBraces d := by
  intro l D B H0 ad A hS hT p0 hp hb hn hl hG ho
  refine m_met (by decide) rfl (fun g w0 C Rm Y E => ?_)
  have hE0 : mEq (pm p0.toNat) A A := mEq.rfl'
  show JM g D ad w0 A 0 [(0, vr 0 0)] []
  obtain ⟨xs, hxs⟩ : ∃ x, A 0 0 28 = x := ⟨_, rfl⟩
  have rxs : 0 ≤ xs ∧ xs ≤ 16 := mrg hT hxs rfl
  have rt : A 0 0 22 ≤ 120 := (hT 0 0 22).2
  have rd9 : 0 ≤ A 0 0 29 ∧ 0 ≤ A 0 0 30 := ⟨(hT 0 0 29).1, (hT 0 0 30).1⟩
  rcases (show A 0 0 31 = 0 ∨ A 0 0 31 = 1 from by have w8 : 0 ≤ A 0 0 31 ∧ A 0 0 31 ≤ 1 := hT 0 0 31; omega) with g0 | g0
  · have hl0 := hl g0
    refine m_blk 3 [(0, vr 0 0)] [vi 123, vr 0 0] C f_q_inBraces_0_2 rfl ?_
    refine m_callV C Rm Y [vi 123] [] (q_isSign l D B H0 ad _ hT 123 (by show -2147483648 ≤ 123 ∧ 123 ≤ 2147483647; omega)) cl_Mo_173 rfl (by decide) rfl rfl e_q_inBraces_3 rfl rfl rfl ⟨by show _ ≤ (31 + 4 * d : Nat); omega, by show _ ≤ (600 + 300 * d : Nat); omega⟩ ?_
    rintro v1 A2 ⟨z5, rfl, rfl, raw_hz_n4⟩
    show JM g D ad w0 A 6 [(0, vr 0 0)] [vi z5]
    have hz_n4 : z5 = 1 ∧ A 0 0 31 = 0 ∧ A 0 0 25 = 4 ∧ A 0 0 26 = 123 ∨ z5 = 0 ∧ ¬ (A 0 0 31 = 0 ∧ A 0 0 25 = 4 ∧ A 0 0 26 = 123) := raw_hz_n4
    clear raw_hz_n4
    rcases hz_n4 with ⟨e_n4, hz_n4⟩ | ⟨e_n4, hz_n4⟩
    · subst e_n4
      have bt_n4 : A 0 0 24 < A 0 0 23 := pT_lt (A := A) hn hz_n4.1 (by show ¬ A 0 0 25 = 0; omega)
      refine m_if_eq (tgt := 17) C e_q_inBraces_6 (by decide) (by decide) (fun c6 => (by omega : False).elim) (fun c6 => ?_)
      refine m_blk 10 [(0, vr 0 0)] [vr 0 0] C f_q_inBraces_9_1 rfl ?_
      obtain ⟨x7, hx7⟩ : ∃ x, A 0 0 27 = x := ⟨_, rfl⟩
      have rx7 : 0 ≤ x7 ∧ x7 ≤ 4 := mrg hT hx7 rfl
      refine m_geti C e_q_inBraces_10 fg_Mo_182 rfl (by decide) rfl x7 hx7 ?_
      refine m_blk 14 [(0, vr 0 0)] [vi 4, vi x7] C f_q_inBraces_13_1 rfl ?_
      refine m_icmp_ne (tgt := 23) C e_q_inBraces_14 (by decide) (by omega) (by decide) (fun c8 => ?_) (fun c8 => ?_)
      · obtain ⟨d1, hd1⟩ : ∃ d1, d = d1 + 1 := ⟨d - 1, by omega⟩
        have ed1 : (4 - (d1 : Int)) = 4 - (d : Int) + 1 := by omega
        refine m_blk 25 [(0, vr 0 0)] [vr 0 0, vr 0 0] C f_q_inBraces_23_2 rfl ?_
        refine m_geti C e_q_inBraces_25 fg_Mo_182 rfl (by decide) rfl x7 hx7 ?_
        refine m_blk 30 [(0, vr 0 0)] [vi (x7 + 1), vr 0 0] C f_q_inBraces_28_2 rfl ?_
        refine m_puti C e_q_inBraces_30 fp_Mo_182 rfl (by decide) rfl ?_
        have t9 : mTy (mu A 0 0 27 (x7 + 1)) := hT.mu (by show 0 ≤ (x7 + 1) ∧ (x7 + 1) ≤ 4; omega)
        have q10 := hE0.mu (f := 0) (k := 0) (j := 27) (z := (x7 + 1)) (by simp [pm])
        have Q11 : pQ p0.toNat (A 0 0 28) (A 0 0 29) (A 0 0 30) A (mu A 0 0 27 (x7 + 1)) := pQ.fam (A2 := A) pQ.rfl' (fam_0 A p0.toNat 27 (x7 + 1))
        have G12 : nG p0.toNat (mu A 0 0 27 (x7 + 1)) := hG
        refine m_blk 34 [(0, vr 0 0)] [vr 0 0] C f_q_inBraces_33_1 rfl ?_
        refine m_callV C Rm Y [] [] (q_next l D B H0 ad _ hS t9 (by show A 0 0 23 ≤ A 0 0 22; omega)) cl_Mo_176 rfl (by decide) rfl rfl e_q_inBraces_34 rfl rfl rfl ⟨by show _ ≤ (31 + 4 * d : Nat); omega, by show _ ≤ (600 + 300 * d : Nat); omega⟩ ?_
        rintro v13 A14 ⟨rfl, hT_n16, hE_n16, raw_hw_n16, raw_hb_n16⟩
        have hF_n16 := q10.trans (hE_n16.sub (nm_pm _))
        show JM g D ad w0 A14 37 [(0, vr 0 0)] []
        obtain ⟨b1_n16, b2_n16, b3_n16, pt_n16⟩ : A 0 0 23 ≤ A14 0 0 24 ∧ A14 0 0 24 ≤ A14 0 0 23 ∧ A14 0 0 23 ≤ A14 0 0 22 ∧ pT A14 := raw_hb_n16 g0
        clear raw_hb_n16 raw_hw_n16
        have k0_n16 : A14 0 0 0 = A 0 0 0 := hE_n16 0 0 0 rfl
        have k22_n16 : A14 0 0 22 = A 0 0 22 := hE_n16 0 0 22 rfl
        have k27_n16 : A14 0 0 27 = (x7 + 1) := hE_n16 0 0 27 rfl
        have k28_n16 : A14 0 0 28 = A 0 0 28 := hE_n16 0 0 28 rfl
        have k29_n16 : A14 0 0 29 = A 0 0 29 := hE_n16 0 0 29 rfl
        have k30_n16 : A14 0 0 30 = A 0 0 30 := hE_n16 0 0 30 rfl
        have G17 : nG p0.toNat A14 := nG.nm (A := (mu A 0 0 27 (x7 + 1))) G12 hE_n16
        have Q18 : pQ p0.toNat (A 0 0 28) (A 0 0 29) (A 0 0 30) A A14 := pQ.fam (A2 := (mu A 0 0 27 (x7 + 1))) Q11 (fam_nm _ hE_n16)
        rcases (show A14 0 0 31 = 0 ∨ A14 0 0 31 = 1 from by have w9 := hT_n16 0 0 31; have w8 : 0 ≤ A14 0 0 31 ∧ A14 0 0 31 ≤ 1 := w9; omega) with g_n16 | g_n16
        · refine m_blk 38 [(0, vr 0 0)] [vr 0 0] C f_q_inBraces_37_1 rfl ?_
          refine m_callV C Rm Y [] [] ((hrec d1 hd1) l D B H0 ad _ hS hT_n16 p0 (by show A14 0 0 0 = p0 ∧ 0 ≤ p0 ∧ p0 ≤ 5; omega) (by show A14 0 0 24 ≤ A14 0 0 23 ∧ A14 0 0 23 ≤ A14 0 0 22; omega) pt_n16 (fun _ => by show A14 0 0 30 + 3 * A14 0 0 29 ≤ A14 0 0 24; omega) G17 (by show A14 0 0 27 = 4 - (d1 : Int) ∧ (d1 : Int) ≤ 4; omega)) cl_Mo_185 rfl (by decide) rfl rfl e_q_inBraces_38 rfl rfl rfl ⟨by show _ ≤ (31 + 4 * d : Nat); omega, by show _ ≤ (600 + 300 * d : Nat); omega⟩ ?_
          rintro v19 A20 ⟨rfl, hT_n22, hE_n22, raw_hb_n22, raw_hn_n22, raw_hw_n22, raw_hm_n22, raw_hG_n22, raw_hQ_n22⟩
          have hF_n22 := hF_n16.trans (hE_n22.sub (fun _ _ _ h => h))
          show JM g D ad w0 A20 41 [(0, vr 0 0)] []
          have hb_n22 : A20 0 0 24 ≤ A20 0 0 23 ∧ A20 0 0 23 ≤ A20 0 0 22 := raw_hb_n22
          clear raw_hb_n22
          have hm_n22 : A14 0 0 24 ≤ A20 0 0 24 ∧ A14 0 0 28 ≤ A20 0 0 28 ∧ A14 0 0 29 ≤ A20 0 0 29 ∧ A14 0 0 30 ≤ A20 0 0 30 ∧ A20 0 0 27 = A14 0 0 27 := raw_hm_n22
          clear raw_hm_n22
          have pt_n22 : pT A20 := raw_hn_n22
          have k0_n22 : A20 0 0 0 = A14 0 0 0 := hE_n22 0 0 0 rfl
          have k22_n22 : A20 0 0 22 = A14 0 0 22 := hE_n22 0 0 22 rfl
          have hG_n22 : nG p0.toNat A20 := raw_hG_n22
          have hV_n22 : pV p0.toNat (4 - (d1 : Int)) A14 A20 := raw_hw_n22
          clear raw_hw_n22
          have hQ_n22 : pQ p0.toNat (A14 0 0 28) (A14 0 0 29) (A14 0 0 30) A14 A20 := raw_hQ_n22
          clear raw_hQ_n22
          have Q23 : pQ p0.toNat (A 0 0 28) (A 0 0 29) (A 0 0 30) A A20 := pQ.trans Q18 (pQ.le hQ_n22 (by show A 0 0 28 ≤ A14 0 0 28; omega) (by show A 0 0 29 ≤ A14 0 0 29; omega) (by show A 0 0 30 ≤ A14 0 0 30; omega))
          rcases (show A20 0 0 31 = 0 ∨ A20 0 0 31 = 1 from by have w9 := hT_n22 0 0 31; have w8 : 0 ≤ A20 0 0 31 ∧ A20 0 0 31 ≤ 1 := w9; omega) with g_n22 | g_n22
          · have u_n22 : A14 0 0 24 - A14 0 0 30 - 3 * A14 0 0 29 ≤ A20 0 0 24 - A20 0 0 30 - 3 * A20 0 0 29 ∧ A14 0 0 28 + 1 ≤ A20 0 0 28 := ⟨(hV_n22 g_n22).2.1, (hV_n22 g_n22).2.2.1⟩
            refine m_blk 43 [(0, vr 0 0)] [vr 0 0, vr 0 0] C f_q_inBraces_41_2 rfl ?_
            obtain ⟨x24, hx24⟩ : ∃ x, A20 0 0 27 = x := ⟨_, rfl⟩
            have rx24 : 0 ≤ x24 ∧ x24 ≤ 4 := mrg hT_n22 hx24 rfl
            refine m_geti C e_q_inBraces_43 fg_Mo_182 rfl (by decide) rfl x24 hx24 ?_
            refine m_blk 48 [(0, vr 0 0)] [vi (x24 - 1), vr 0 0] C f_q_inBraces_46_2 rfl ?_
            refine m_puti C e_q_inBraces_48 fp_Mo_182 rfl (by decide) rfl ?_
            have t25 : mTy (mu A20 0 0 27 (x24 - 1)) := hT_n22.mu (by show 0 ≤ (x24 - 1) ∧ (x24 - 1) ≤ 4; omega)
            have q26 := hF_n22.mu (f := 0) (k := 0) (j := 27) (z := (x24 - 1)) (by simp [pm])
            have Q27 : pQ p0.toNat (A 0 0 28) (A 0 0 29) (A 0 0 30) A (mu A20 0 0 27 (x24 - 1)) := pQ.fam (A2 := A20) Q23 (fam_0 A20 p0.toNat 27 (x24 - 1))
            have G28 : nG p0.toNat (mu A20 0 0 27 (x24 - 1)) := hG_n22
            refine m_blk 54 [(0, vr 0 0)] [vi 125, vr 0 0] C f_q_inBraces_51_2 rfl ?_
            refine m_callV C Rm Y [vi 125] [] (q_need l D B H0 ad _ hS t25 125 (by show -2147483648 ≤ 125 ∧ 125 ≤ 2147483647; omega) (by show A20 0 0 24 ≤ A20 0 0 23 ∧ A20 0 0 23 ≤ A20 0 0 22; omega) pt_n22) cl_Mo_188 rfl (by decide) rfl rfl e_q_inBraces_54 rfl rfl rfl ⟨by show _ ≤ (31 + 4 * d : Nat); omega, by show _ ≤ (600 + 300 * d : Nat); omega⟩ ?_
            rintro v29 A30 ⟨rfl, hT_n32, hE_n32, raw_hb_n32, raw_hn_n32, raw_hw_n32, raw_hm_n32⟩
            have hF_n32 := q26.trans (hE_n32.sub (nm_pm _))
            show JM g D ad w0 A30 57 [(0, vr 0 0)] []
            have hb_n32 : A30 0 0 24 ≤ A30 0 0 23 ∧ A30 0 0 23 ≤ A30 0 0 22 := raw_hb_n32
            clear raw_hb_n32
            have hm_n32 : A20 0 0 24 ≤ A30 0 0 24 := raw_hm_n32
            clear raw_hm_n32
            have pt_n32 : pT A30 := raw_hn_n32
            clear raw_hn_n32
            have k0_n32 : A30 0 0 0 = A20 0 0 0 := hE_n32 0 0 0 rfl
            have k22_n32 : A30 0 0 22 = A20 0 0 22 := hE_n32 0 0 22 rfl
            have k27_n32 : A30 0 0 27 = (x24 - 1) := hE_n32 0 0 27 rfl
            have k28_n32 : A30 0 0 28 = A20 0 0 28 := hE_n32 0 0 28 rfl
            have k29_n32 : A30 0 0 29 = A20 0 0 29 := hE_n32 0 0 29 rfl
            have k30_n32 : A30 0 0 30 = A20 0 0 30 := hE_n32 0 0 30 rfl
            have G33 : nG p0.toNat A30 := nG.nm (A := (mu A20 0 0 27 (x24 - 1))) G28 hE_n32
            have Q34 : pQ p0.toNat (A 0 0 28) (A 0 0 29) (A 0 0 30) A A30 := pQ.fam (A2 := (mu A20 0 0 27 (x24 - 1))) Q27 (fam_nm _ hE_n32)
            rcases (show A30 0 0 31 = 0 ∨ A30 0 0 31 = 1 from by have w9 := hT_n32 0 0 31; have w8 : 0 ≤ A30 0 0 31 ∧ A30 0 0 31 ≤ 1 := w9; omega) with g_n32 | g_n32
            · have u_n32 : A20 0 0 31 = 0 ∧ A20 0 0 24 < A30 0 0 24 := raw_hw_n32 g_n32
              clear raw_hw_n32
              exact m_vret C Rm E e_q_inBraces_57 ⟨rfl, hT_n32, hF_n32, (by show A30 0 0 24 ≤ A30 0 0 23 ∧ A30 0 0 23 ≤ A30 0 0 22; omega), pt_n32, (pV.tok (A2 := mu A20 0 0 27 (x24 - 1)) (pV.tok (pV.ahead (ed1 ▸ hV_n22) (by show A14 0 0 28 = A 0 0 28; omega) (by show A14 0 0 29 = A 0 0 29; omega) (by show A14 0 0 30 = A 0 0 30; omega) (fun _ => g0) (by show A 0 0 24 ≤ A14 0 0 24; omega)) (fam_0 _ _ _ _) rfl rfl rfl (fun h9 => h9) (Int.le_refl _)) (fam_nm _ hE_n32) (hE_n32 0 0 28 rfl) (hE_n32 0 0 29 rfl) (hE_n32 0 0 30 rfl) (fun _ => g_n22) hm_n32), (by show A 0 0 24 ≤ A30 0 0 24 ∧ A 0 0 28 ≤ A30 0 0 28 ∧ A 0 0 29 ≤ A30 0 0 29 ∧ A 0 0 30 ≤ A30 0 0 30 ∧ A30 0 0 27 = A 0 0 27; omega), G33, Q34⟩
            · clear raw_hw_n32
              exact m_vret C Rm E e_q_inBraces_57 ⟨rfl, hT_n32, hF_n32, (by show A30 0 0 24 ≤ A30 0 0 23 ∧ A30 0 0 23 ≤ A30 0 0 22; omega), pt_n32, (fun h9 => absurd ((g_n32 : A30 0 0 31 = 1).symm.trans h9) (by decide)), (by show A 0 0 24 ≤ A30 0 0 24 ∧ A 0 0 28 ≤ A30 0 0 28 ∧ A 0 0 29 ≤ A30 0 0 29 ∧ A 0 0 30 ≤ A30 0 0 30 ∧ A30 0 0 27 = A 0 0 27; omega), G33, Q34⟩
          · refine m_blk 43 [(0, vr 0 0)] [vr 0 0, vr 0 0] C f_q_inBraces_41_2 rfl ?_
            obtain ⟨x35, hx35⟩ : ∃ x, A20 0 0 27 = x := ⟨_, rfl⟩
            have rx35 : 0 ≤ x35 ∧ x35 ≤ 4 := mrg hT_n22 hx35 rfl
            refine m_geti C e_q_inBraces_43 fg_Mo_182 rfl (by decide) rfl x35 hx35 ?_
            refine m_blk 48 [(0, vr 0 0)] [vi (x35 - 1), vr 0 0] C f_q_inBraces_46_2 rfl ?_
            refine m_puti C e_q_inBraces_48 fp_Mo_182 rfl (by decide) rfl ?_
            have t36 : mTy (mu A20 0 0 27 (x35 - 1)) := hT_n22.mu (by show 0 ≤ (x35 - 1) ∧ (x35 - 1) ≤ 4; omega)
            have q37 := hF_n22.mu (f := 0) (k := 0) (j := 27) (z := (x35 - 1)) (by simp [pm])
            have Q38 : pQ p0.toNat (A 0 0 28) (A 0 0 29) (A 0 0 30) A (mu A20 0 0 27 (x35 - 1)) := pQ.fam (A2 := A20) Q23 (fam_0 A20 p0.toNat 27 (x35 - 1))
            have G39 : nG p0.toNat (mu A20 0 0 27 (x35 - 1)) := hG_n22
            refine m_blk 54 [(0, vr 0 0)] [vi 125, vr 0 0] C f_q_inBraces_51_2 rfl ?_
            refine m_callV C Rm Y [vi 125] [] (q_need l D B H0 ad _ hS t36 125 (by show -2147483648 ≤ 125 ∧ 125 ≤ 2147483647; omega) (by show A20 0 0 24 ≤ A20 0 0 23 ∧ A20 0 0 23 ≤ A20 0 0 22; omega) pt_n22) cl_Mo_188 rfl (by decide) rfl rfl e_q_inBraces_54 rfl rfl rfl ⟨by show _ ≤ (31 + 4 * d : Nat); omega, by show _ ≤ (600 + 300 * d : Nat); omega⟩ ?_
            rintro v40 A41 ⟨rfl, hT_n43, hE_n43, raw_hb_n43, raw_hn_n43, raw_hw_n43, raw_hm_n43⟩
            have hF_n43 := q37.trans (hE_n43.sub (nm_pm _))
            show JM g D ad w0 A41 57 [(0, vr 0 0)] []
            have hb_n43 : A41 0 0 24 ≤ A41 0 0 23 ∧ A41 0 0 23 ≤ A41 0 0 22 := raw_hb_n43
            clear raw_hb_n43
            have hm_n43 : A20 0 0 24 ≤ A41 0 0 24 := raw_hm_n43
            clear raw_hm_n43
            have pt_n43 : pT A41 := raw_hn_n43
            clear raw_hn_n43
            have k0_n43 : A41 0 0 0 = A20 0 0 0 := hE_n43 0 0 0 rfl
            have k22_n43 : A41 0 0 22 = A20 0 0 22 := hE_n43 0 0 22 rfl
            have k27_n43 : A41 0 0 27 = (x35 - 1) := hE_n43 0 0 27 rfl
            have k28_n43 : A41 0 0 28 = A20 0 0 28 := hE_n43 0 0 28 rfl
            have k29_n43 : A41 0 0 29 = A20 0 0 29 := hE_n43 0 0 29 rfl
            have k30_n43 : A41 0 0 30 = A20 0 0 30 := hE_n43 0 0 30 rfl
            have G44 : nG p0.toNat A41 := nG.nm (A := (mu A20 0 0 27 (x35 - 1))) G39 hE_n43
            have Q45 : pQ p0.toNat (A 0 0 28) (A 0 0 29) (A 0 0 30) A A41 := pQ.fam (A2 := (mu A20 0 0 27 (x35 - 1))) Q38 (fam_nm _ hE_n43)
            have g_n43 : A41 0 0 31 = 1 := wr_1 (hT_n43 0 0 31) (fun h9 => absurd ((g_n22 : A20 0 0 31 = 1).symm.trans (raw_hw_n43 h9).1) (by decide))
            clear raw_hw_n43
            exact m_vret C Rm E e_q_inBraces_57 ⟨rfl, hT_n43, hF_n43, (by show A41 0 0 24 ≤ A41 0 0 23 ∧ A41 0 0 23 ≤ A41 0 0 22; omega), pt_n43, (fun h9 => absurd ((g_n43 : A41 0 0 31 = 1).symm.trans h9) (by decide)), (by show A 0 0 24 ≤ A41 0 0 24 ∧ A 0 0 28 ≤ A41 0 0 28 ∧ A 0 0 29 ≤ A41 0 0 29 ∧ A 0 0 30 ≤ A41 0 0 30 ∧ A41 0 0 27 = A 0 0 27; omega), G44, Q45⟩
        · refine m_blk 38 [(0, vr 0 0)] [vr 0 0] C f_q_inBraces_37_1 rfl ?_
          refine m_callV C Rm Y [] [] ((hrec d1 hd1) l D B H0 ad _ hS hT_n16 p0 (by show A14 0 0 0 = p0 ∧ 0 ≤ p0 ∧ p0 ≤ 5; omega) (by show A14 0 0 24 ≤ A14 0 0 23 ∧ A14 0 0 23 ≤ A14 0 0 22; omega) pt_n16 (fun h9 => absurd ((g_n16 : A14 0 0 31 = 1).symm.trans h9) (by decide)) G17 (by show A14 0 0 27 = 4 - (d1 : Int) ∧ (d1 : Int) ≤ 4; omega)) cl_Mo_185 rfl (by decide) rfl rfl e_q_inBraces_38 rfl rfl rfl ⟨by show _ ≤ (31 + 4 * d : Nat); omega, by show _ ≤ (600 + 300 * d : Nat); omega⟩ ?_
          rintro v46 A47 ⟨rfl, hT_n49, hE_n49, raw_hb_n49, raw_hn_n49, raw_hw_n49, raw_hm_n49, raw_hG_n49, raw_hQ_n49⟩
          have hF_n49 := hF_n16.trans (hE_n49.sub (fun _ _ _ h => h))
          show JM g D ad w0 A47 41 [(0, vr 0 0)] []
          have hb_n49 : A47 0 0 24 ≤ A47 0 0 23 ∧ A47 0 0 23 ≤ A47 0 0 22 := raw_hb_n49
          clear raw_hb_n49
          have hm_n49 : A14 0 0 24 ≤ A47 0 0 24 ∧ A14 0 0 28 ≤ A47 0 0 28 ∧ A14 0 0 29 ≤ A47 0 0 29 ∧ A14 0 0 30 ≤ A47 0 0 30 ∧ A47 0 0 27 = A14 0 0 27 := raw_hm_n49
          clear raw_hm_n49
          have pt_n49 : pT A47 := raw_hn_n49
          have k0_n49 : A47 0 0 0 = A14 0 0 0 := hE_n49 0 0 0 rfl
          have k22_n49 : A47 0 0 22 = A14 0 0 22 := hE_n49 0 0 22 rfl
          have hG_n49 : nG p0.toNat A47 := raw_hG_n49
          have hV_n49 : pV p0.toNat (4 - (d1 : Int)) A14 A47 := raw_hw_n49
          clear raw_hw_n49
          have hQ_n49 : pQ p0.toNat (A14 0 0 28) (A14 0 0 29) (A14 0 0 30) A14 A47 := raw_hQ_n49
          clear raw_hQ_n49
          have Q50 : pQ p0.toNat (A 0 0 28) (A 0 0 29) (A 0 0 30) A A47 := pQ.trans Q18 (pQ.le hQ_n49 (by show A 0 0 28 ≤ A14 0 0 28; omega) (by show A 0 0 29 ≤ A14 0 0 29; omega) (by show A 0 0 30 ≤ A14 0 0 30; omega))
          have g_n49 : A47 0 0 31 = 1 := wr_1 (hT_n49 0 0 31) (fun h9 => absurd ((g_n16 : A14 0 0 31 = 1).symm.trans (hV_n49 h9).1) (by decide))
          refine m_blk 43 [(0, vr 0 0)] [vr 0 0, vr 0 0] C f_q_inBraces_41_2 rfl ?_
          obtain ⟨x51, hx51⟩ : ∃ x, A47 0 0 27 = x := ⟨_, rfl⟩
          have rx51 : 0 ≤ x51 ∧ x51 ≤ 4 := mrg hT_n49 hx51 rfl
          refine m_geti C e_q_inBraces_43 fg_Mo_182 rfl (by decide) rfl x51 hx51 ?_
          refine m_blk 48 [(0, vr 0 0)] [vi (x51 - 1), vr 0 0] C f_q_inBraces_46_2 rfl ?_
          refine m_puti C e_q_inBraces_48 fp_Mo_182 rfl (by decide) rfl ?_
          have t52 : mTy (mu A47 0 0 27 (x51 - 1)) := hT_n49.mu (by show 0 ≤ (x51 - 1) ∧ (x51 - 1) ≤ 4; omega)
          have q53 := hF_n49.mu (f := 0) (k := 0) (j := 27) (z := (x51 - 1)) (by simp [pm])
          have Q54 : pQ p0.toNat (A 0 0 28) (A 0 0 29) (A 0 0 30) A (mu A47 0 0 27 (x51 - 1)) := pQ.fam (A2 := A47) Q50 (fam_0 A47 p0.toNat 27 (x51 - 1))
          have G55 : nG p0.toNat (mu A47 0 0 27 (x51 - 1)) := hG_n49
          refine m_blk 54 [(0, vr 0 0)] [vi 125, vr 0 0] C f_q_inBraces_51_2 rfl ?_
          refine m_callV C Rm Y [vi 125] [] (q_need l D B H0 ad _ hS t52 125 (by show -2147483648 ≤ 125 ∧ 125 ≤ 2147483647; omega) (by show A47 0 0 24 ≤ A47 0 0 23 ∧ A47 0 0 23 ≤ A47 0 0 22; omega) pt_n49) cl_Mo_188 rfl (by decide) rfl rfl e_q_inBraces_54 rfl rfl rfl ⟨by show _ ≤ (31 + 4 * d : Nat); omega, by show _ ≤ (600 + 300 * d : Nat); omega⟩ ?_
          rintro v56 A57 ⟨rfl, hT_n59, hE_n59, raw_hb_n59, raw_hn_n59, raw_hw_n59, raw_hm_n59⟩
          have hF_n59 := q53.trans (hE_n59.sub (nm_pm _))
          show JM g D ad w0 A57 57 [(0, vr 0 0)] []
          have hb_n59 : A57 0 0 24 ≤ A57 0 0 23 ∧ A57 0 0 23 ≤ A57 0 0 22 := raw_hb_n59
          clear raw_hb_n59
          have hm_n59 : A47 0 0 24 ≤ A57 0 0 24 := raw_hm_n59
          clear raw_hm_n59
          have pt_n59 : pT A57 := raw_hn_n59
          clear raw_hn_n59
          have k0_n59 : A57 0 0 0 = A47 0 0 0 := hE_n59 0 0 0 rfl
          have k22_n59 : A57 0 0 22 = A47 0 0 22 := hE_n59 0 0 22 rfl
          have k27_n59 : A57 0 0 27 = (x51 - 1) := hE_n59 0 0 27 rfl
          have k28_n59 : A57 0 0 28 = A47 0 0 28 := hE_n59 0 0 28 rfl
          have k29_n59 : A57 0 0 29 = A47 0 0 29 := hE_n59 0 0 29 rfl
          have k30_n59 : A57 0 0 30 = A47 0 0 30 := hE_n59 0 0 30 rfl
          have G60 : nG p0.toNat A57 := nG.nm (A := (mu A47 0 0 27 (x51 - 1))) G55 hE_n59
          have Q61 : pQ p0.toNat (A 0 0 28) (A 0 0 29) (A 0 0 30) A A57 := pQ.fam (A2 := (mu A47 0 0 27 (x51 - 1))) Q54 (fam_nm _ hE_n59)
          have g_n59 : A57 0 0 31 = 1 := wr_1 (hT_n59 0 0 31) (fun h9 => absurd ((g_n49 : A47 0 0 31 = 1).symm.trans (raw_hw_n59 h9).1) (by decide))
          clear raw_hw_n59
          exact m_vret C Rm E e_q_inBraces_57 ⟨rfl, hT_n59, hF_n59, (by show A57 0 0 24 ≤ A57 0 0 23 ∧ A57 0 0 23 ≤ A57 0 0 22; omega), pt_n59, (fun h9 => absurd ((g_n59 : A57 0 0 31 = 1).symm.trans h9) (by decide)), (by show A 0 0 24 ≤ A57 0 0 24 ∧ A 0 0 28 ≤ A57 0 0 28 ∧ A 0 0 29 ≤ A57 0 0 29 ∧ A 0 0 30 ≤ A57 0 0 30 ∧ A57 0 0 27 = A 0 0 27; omega), G60, Q61⟩
      · refine m_blk 19 [(0, vr 0 0)] [vi 1, vr 0 0] C f_q_inBraces_17_2 rfl ?_
        refine m_putz C e_q_inBraces_19 fp_Mo_155 rfl (by decide) rfl (Or.inr rfl) ?_
        have t62 : mTy (mu A 0 0 31 1) := hT.mu (by show 0 ≤ 1 ∧ 1 ≤ 1; omega)
        have q63 := hE0.mu (f := 0) (k := 0) (j := 31) (z := 1) (by simp [pm])
        have Q64 : pQ p0.toNat (A 0 0 28) (A 0 0 29) (A 0 0 30) A (mu A 0 0 31 1) := pQ.fam (A2 := A) pQ.rfl' (fam_0 A p0.toNat 31 1)
        have G65 : nG p0.toNat (mu A 0 0 31 1) := hG
        exact m_vret C Rm E e_q_inBraces_22 ⟨rfl, t62, q63, (by show A 0 0 24 ≤ A 0 0 23 ∧ A 0 0 23 ≤ A 0 0 22; omega), (fun h9 => absurd (show (1 : Int) = 0 from h9) (by decide)), (fun h9 => absurd (show (1 : Int) = 0 from h9) (by decide)), (by show A 0 0 24 ≤ A 0 0 24 ∧ A 0 0 28 ≤ A 0 0 28 ∧ A 0 0 29 ≤ A 0 0 29 ∧ A 0 0 30 ≤ A 0 0 30 ∧ A 0 0 27 = A 0 0 27; omega), G65, Q64⟩
    · subst e_n4
      clear hz_n4
      refine m_if_eq (tgt := 17) C e_q_inBraces_6 (by decide) (by decide) (fun c66 => ?_) (fun c66 => (by omega : False).elim)
      refine m_blk 19 [(0, vr 0 0)] [vi 1, vr 0 0] C f_q_inBraces_17_2 rfl ?_
      refine m_putz C e_q_inBraces_19 fp_Mo_155 rfl (by decide) rfl (Or.inr rfl) ?_
      have t67 : mTy (mu A 0 0 31 1) := hT.mu (by show 0 ≤ 1 ∧ 1 ≤ 1; omega)
      have q68 := hE0.mu (f := 0) (k := 0) (j := 31) (z := 1) (by simp [pm])
      have Q69 : pQ p0.toNat (A 0 0 28) (A 0 0 29) (A 0 0 30) A (mu A 0 0 31 1) := pQ.fam (A2 := A) pQ.rfl' (fam_0 A p0.toNat 31 1)
      have G70 : nG p0.toNat (mu A 0 0 31 1) := hG
      exact m_vret C Rm E e_q_inBraces_22 ⟨rfl, t67, q68, (by show A 0 0 24 ≤ A 0 0 23 ∧ A 0 0 23 ≤ A 0 0 22; omega), (fun h9 => absurd (show (1 : Int) = 0 from h9) (by decide)), (fun h9 => absurd (show (1 : Int) = 0 from h9) (by decide)), (by show A 0 0 24 ≤ A 0 0 24 ∧ A 0 0 28 ≤ A 0 0 28 ∧ A 0 0 29 ≤ A 0 0 29 ∧ A 0 0 30 ≤ A 0 0 30 ∧ A 0 0 27 = A 0 0 27; omega), G70, Q69⟩
  · refine m_blk 3 [(0, vr 0 0)] [vi 123, vr 0 0] C f_q_inBraces_0_2 rfl ?_
    refine m_callV C Rm Y [vi 123] [] (q_isSign l D B H0 ad _ hT 123 (by show -2147483648 ≤ 123 ∧ 123 ≤ 2147483647; omega)) cl_Mo_173 rfl (by decide) rfl rfl e_q_inBraces_3 rfl rfl rfl ⟨by show _ ≤ (31 + 4 * d : Nat); omega, by show _ ≤ (600 + 300 * d : Nat); omega⟩ ?_
    rintro v71 A72 ⟨z75, rfl, rfl, raw_hz_n74⟩
    show JM g D ad w0 A 6 [(0, vr 0 0)] [vi z75]
    have hz_n74 : z75 = 1 ∧ A 0 0 31 = 0 ∧ A 0 0 25 = 4 ∧ A 0 0 26 = 123 ∨ z75 = 0 ∧ ¬ (A 0 0 31 = 0 ∧ A 0 0 25 = 4 ∧ A 0 0 26 = 123) := raw_hz_n74
    clear raw_hz_n74
    rcases hz_n74 with ⟨e_n74, hz_n74⟩ | ⟨e_n74, hz_n74⟩
    · subst e_n74
      exact (by omega : False).elim
    · subst e_n74
      clear hz_n74
      refine m_if_eq (tgt := 17) C e_q_inBraces_6 (by decide) (by decide) (fun c76 => ?_) (fun c76 => (by omega : False).elim)
      refine m_blk 19 [(0, vr 0 0)] [vi 1, vr 0 0] C f_q_inBraces_17_2 rfl ?_
      refine m_putz C e_q_inBraces_19 fp_Mo_155 rfl (by decide) rfl (Or.inr rfl) ?_
      have t77 : mTy (mu A 0 0 31 1) := hT.mu (by show 0 ≤ 1 ∧ 1 ≤ 1; omega)
      have q78 := hE0.mu (f := 0) (k := 0) (j := 31) (z := 1) (by simp [pm])
      have Q79 : pQ p0.toNat (A 0 0 28) (A 0 0 29) (A 0 0 30) A (mu A 0 0 31 1) := pQ.fam (A2 := A) pQ.rfl' (fam_0 A p0.toNat 31 1)
      have G80 : nG p0.toNat (mu A 0 0 31 1) := hG
      exact m_vret C Rm E e_q_inBraces_22 ⟨rfl, t77, q78, (by show A 0 0 24 ≤ A 0 0 23 ∧ A 0 0 23 ≤ A 0 0 22; omega), (fun h9 => absurd (show (1 : Int) = 0 from h9) (by decide)), (fun h9 => absurd (show (1 : Int) = 0 from h9) (by decide)), (by show A 0 0 24 ≤ A 0 0 24 ∧ A 0 0 28 ≤ A 0 0 28 ∧ A 0 0 29 ≤ A 0 0 29 ∧ A 0 0 30 ≤ A 0 0 30 ∧ A 0 0 27 = A 0 0 27; omega), G80, Q79⟩

theorem f_q_step_0_1 : mblkB b_Mo_step_0 [(0, .aload_n 0, vi 0)] = true := by decide +kernel
theorem e_q_step_1 : decode b_Mo_step_0 1 = .ok (.getfield 155, 3) := by decide +kernel
theorem e_q_step_4 : decode b_Mo_step_0 4 = .ok (.ifCond .ne 20, 3) := by decide +kernel
theorem f_q_step_7_1 : mblkB b_Mo_step_0 [(7, .aload_n 0, vi 0)] = true := by decide +kernel
theorem e_q_step_8 : decode b_Mo_step_0 8 = .ok (.getfield 159, 3) := by decide +kernel
theorem f_q_step_11_1 : mblkB b_Mo_step_0 [(11, .iconst 2, vi 2)] = true := by decide +kernel
theorem e_q_step_12 : decode b_Mo_step_0 12 = .ok (.if_icmp .ne 12, 3) := by decide +kernel
theorem f_q_step_24_2 : mblkB b_Mo_step_0 [(24, .aload_n 0, vi 0), (25, .iconst 1, vi 1)] = true := by decide +kernel
theorem e_q_step_26 : decode b_Mo_step_0 26 = .ok (.putfield 155, 3) := by decide +kernel
theorem e_q_step_29 : decode b_Mo_step_0 29 = .ok (.return_, 1) := by decide +kernel
theorem f_q_step_15_1 : mblkB b_Mo_step_0 [(15, .aload_n 0, vi 0)] = true := by decide +kernel
theorem e_q_step_16 : decode b_Mo_step_0 16 = .ok (.getfield 192, 3) := by decide +kernel
theorem f_q_step_19_1 : mblkB b_Mo_step_0 [(19, .bipush 16, vi 16)] = true := by decide +kernel
theorem e_q_step_21 : decode b_Mo_step_0 21 = .ok (.if_icmp .ne 9, 3) := by decide +kernel
theorem f_q_step_30_1 : mblkB b_Mo_step_0 [(30, .aload_n 0, vi 0)] = true := by decide +kernel
theorem e_q_step_31 : decode b_Mo_step_0 31 = .ok (.getfield 105, 3) := by decide +kernel
theorem f_q_step_34_2 : mblkB b_Mo_step_0 [(34, .istore_n 1, vi 0), (35, .aload_n 0, vi 0)] = true := by decide +kernel
theorem e_q_step_36 : decode b_Mo_step_0 36 = .ok (.getfield 192, 3) := by decide +kernel
theorem f_q_step_39_2 : mblkB b_Mo_step_0 [(39, .istore_n 2, vi 0), (40, .aload_n 0, vi 0)] = true := by decide +kernel
theorem e_q_step_41 : decode b_Mo_step_0 41 = .ok (.getfield 165, 3) := by decide +kernel
theorem f_q_step_44_3 : mblkB b_Mo_step_0 [(44, .istore_n 3, vi 0), (45, .aload_n 0, vi 0), (46, .dup, vi 0)] = true := by decide +kernel
theorem e_q_step_47 : decode b_Mo_step_0 47 = .ok (.getfield 192, 3) := by decide +kernel
theorem f_q_step_50_2 : mblkB b_Mo_step_0 [(50, .iconst 1, vi 1), (51, .iadd, vi 0)] = true := by decide +kernel
theorem e_q_step_52 : decode b_Mo_step_0 52 = .ok (.putfield 192, 3) := by decide +kernel
theorem f_q_step_55_1 : mblkB b_Mo_step_0 [(55, .aload_n 0, vi 0)] = true := by decide +kernel
theorem e_q_step_56 : decode b_Mo_step_0 56 = .ok (.getfield 21, 3) := by decide +kernel
theorem f_q_step_59_1 : mblkB b_Mo_step_0 [(59, .iload_n 1, vi 0)] = true := by decide +kernel
theorem e_q_step_60 : decode b_Mo_step_0 60 = .ok (.aaload, 1) := by decide +kernel
theorem f_q_step_61_2 : mblkB b_Mo_step_0 [(61, .iload_n 2, vi 0), (62, .iload_n 3, vi 0)] = true := by decide +kernel
theorem e_q_step_63 : decode b_Mo_step_0 63 = .ok (.iastore, 1) := by decide +kernel
theorem f_q_step_64_1 : mblkB b_Mo_step_0 [(64, .aload_n 0, vi 0)] = true := by decide +kernel
theorem e_q_step_65 : decode b_Mo_step_0 65 = .ok (.getfield 24, 3) := by decide +kernel
theorem f_q_step_68_1 : mblkB b_Mo_step_0 [(68, .iload_n 1, vi 0)] = true := by decide +kernel
theorem e_q_step_69 : decode b_Mo_step_0 69 = .ok (.aaload, 1) := by decide +kernel
theorem f_q_step_70_2 : mblkB b_Mo_step_0 [(70, .iload_n 2, vi 0), (71, .iconst (-1), vi (-1))] = true := by decide +kernel
theorem e_q_step_72 : decode b_Mo_step_0 72 = .ok (.iastore, 1) := by decide +kernel
theorem f_q_step_73_1 : mblkB b_Mo_step_0 [(73, .aload_n 0, vi 0)] = true := by decide +kernel
theorem e_q_step_74 : decode b_Mo_step_0 74 = .ok (.getfield 27, 3) := by decide +kernel
theorem f_q_step_77_1 : mblkB b_Mo_step_0 [(77, .iload_n 1, vi 0)] = true := by decide +kernel
theorem e_q_step_78 : decode b_Mo_step_0 78 = .ok (.aaload, 1) := by decide +kernel
theorem f_q_step_79_2 : mblkB b_Mo_step_0 [(79, .iload_n 2, vi 0), (80, .iconst (-1), vi (-1))] = true := by decide +kernel
theorem e_q_step_81 : decode b_Mo_step_0 81 = .ok (.iastore, 1) := by decide +kernel
theorem f_q_step_82_1 : mblkB b_Mo_step_0 [(82, .aload_n 0, vi 0)] = true := by decide +kernel
theorem e_q_step_83 : decode b_Mo_step_0 83 = .ok (.getfield 36, 3) := by decide +kernel
theorem f_q_step_86_1 : mblkB b_Mo_step_0 [(86, .iload_n 1, vi 0)] = true := by decide +kernel
theorem e_q_step_87 : decode b_Mo_step_0 87 = .ok (.aaload, 1) := by decide +kernel
theorem f_q_step_88_2 : mblkB b_Mo_step_0 [(88, .iload_n 2, vi 0), (89, .iconst (-1), vi (-1))] = true := by decide +kernel
theorem e_q_step_90 : decode b_Mo_step_0 90 = .ok (.iastore, 1) := by decide +kernel
theorem f_q_step_91_1 : mblkB b_Mo_step_0 [(91, .aload_n 0, vi 0)] = true := by decide +kernel
theorem e_q_step_92 : decode b_Mo_step_0 92 = .ok (.getfield 39, 3) := by decide +kernel
theorem f_q_step_95_1 : mblkB b_Mo_step_0 [(95, .iload_n 1, vi 0)] = true := by decide +kernel
theorem e_q_step_96 : decode b_Mo_step_0 96 = .ok (.aaload, 1) := by decide +kernel
theorem f_q_step_97_2 : mblkB b_Mo_step_0 [(97, .iload_n 2, vi 0), (98, .aload_n 0, vi 0)] = true := by decide +kernel
theorem e_q_step_99 : decode b_Mo_step_0 99 = .ok (.getfield 195, 3) := by decide +kernel
theorem e_q_step_102 : decode b_Mo_step_0 102 = .ok (.iastore, 1) := by decide +kernel
theorem f_q_step_103_1 : mblkB b_Mo_step_0 [(103, .aload_n 0, vi 0)] = true := by decide +kernel
theorem e_q_step_104 : decode b_Mo_step_0 104 = .ok (.invokevirtual 176, 3) := by decide +kernel
theorem f_q_step_107_1 : mblkB b_Mo_step_0 [(107, .iload_n 3, vi 0)] = true := by decide +kernel
theorem e_q_step_108 : decode b_Mo_step_0 108 = .ok (.ifCond .eq 13, 3) := by decide +kernel
theorem f_q_step_121_1 : mblkB b_Mo_step_0 [(121, .aload_n 0, vi 0)] = true := by decide +kernel
theorem e_q_step_122 : decode b_Mo_step_0 122 = .ok (.getfield 24, 3) := by decide +kernel
theorem f_q_step_125_1 : mblkB b_Mo_step_0 [(125, .iload_n 1, vi 0)] = true := by decide +kernel
theorem e_q_step_126 : decode b_Mo_step_0 126 = .ok (.aaload, 1) := by decide +kernel
theorem f_q_step_127_5 : mblkB b_Mo_step_0 [(127, .iload_n 2, vi 0), (128, .aload_n 0, vi 0), (129, .iconst 1, vi 1), (130, .iconst 0, vi 0), (131, .iconst 5, vi 5)] = true := by decide +kernel
theorem e_q_step_132 : decode b_Mo_step_0 132 = .ok (.invokevirtual 198, 3) := by decide +kernel
theorem e_q_step_135 : decode b_Mo_step_0 135 = .ok (.iastore, 1) := by decide +kernel
theorem f_q_step_136_1 : mblkB b_Mo_step_0 [(136, .iload_n 3, vi 0)] = true := by decide +kernel
theorem e_q_step_137 : decode b_Mo_step_0 137 = .ok (.ifCond .ne 9, 3) := by decide +kernel
theorem f_q_step_140_3 : mblkB b_Mo_step_0 [(140, .aload_n 0, vi 0), (141, .iload_n 1, vi 0), (142, .iload_n 2, vi 0)] = true := by decide +kernel
theorem e_q_step_143 : decode b_Mo_step_0 143 = .ok (.invokevirtual 202, 3) := by decide +kernel
theorem f_q_step_146_2 : mblkB b_Mo_step_0 [(146, .iload_n 3, vi 0), (147, .iconst 4, vi 4)] = true := by decide +kernel
theorem e_q_step_148 : decode b_Mo_step_0 148 = .ok (.if_icmp .ne 19, 3) := by decide +kernel
theorem f_q_step_167_2 : mblkB b_Mo_step_0 [(167, .iload_n 3, vi 0), (168, .iconst 5, vi 5)] = true := by decide +kernel
theorem e_q_step_169 : decode b_Mo_step_0 169 = .ok (.if_icmp .ne 23, 3) := by decide +kernel
theorem f_q_step_192_2 : mblkB b_Mo_step_0 [(192, .iload_n 3, vi 0), (193, .iconst 1, vi 1)] = true := by decide +kernel
theorem e_q_step_194 : decode b_Mo_step_0 194 = .ok (.if_icmp .eq 18, 3) := by decide +kernel
theorem f_q_step_197_2 : mblkB b_Mo_step_0 [(197, .iload_n 3, vi 0), (198, .iconst 2, vi 2)] = true := by decide +kernel
theorem e_q_step_199 : decode b_Mo_step_0 199 = .ok (.if_icmp .eq 13, 3) := by decide +kernel
theorem f_q_step_202_2 : mblkB b_Mo_step_0 [(202, .iload_n 3, vi 0), (203, .iconst 3, vi 3)] = true := by decide +kernel
theorem e_q_step_204 : decode b_Mo_step_0 204 = .ok (.if_icmp .eq 8, 3) := by decide +kernel
theorem f_q_step_207_2 : mblkB b_Mo_step_0 [(207, .iload_n 3, vi 0), (208, .iconst 5, vi 5)] = true := by decide +kernel
theorem e_q_step_209 : decode b_Mo_step_0 209 = .ok (.if_icmp .ne 15, 3) := by decide +kernel
theorem f_q_step_224_2 : mblkB b_Mo_step_0 [(224, .iload_n 3, vi 0), (225, .iconst 3, vi 3)] = true := by decide +kernel
theorem e_q_step_226 : decode b_Mo_step_0 226 = .ok (.if_icmp .eq 8, 3) := by decide +kernel
theorem f_q_step_229_2 : mblkB b_Mo_step_0 [(229, .iload_n 3, vi 0), (230, .iconst 4, vi 4)] = true := by decide +kernel
theorem e_q_step_231 : decode b_Mo_step_0 231 = .ok (.if_icmp .ne 7, 3) := by decide +kernel
theorem f_q_step_238_1 : mblkB b_Mo_step_0 [(238, .aload_n 0, vi 0)] = true := by decide +kernel
theorem e_q_step_239 : decode b_Mo_step_0 239 = .ok (.getfield 33, 3) := by decide +kernel
theorem f_q_step_242_1 : mblkB b_Mo_step_0 [(242, .iload_n 1, vi 0)] = true := by decide +kernel
theorem e_q_step_243 : decode b_Mo_step_0 243 = .ok (.aaload, 1) := by decide +kernel
theorem f_q_step_244_2 : mblkB b_Mo_step_0 [(244, .iload_n 2, vi 0), (245, .aload_n 0, vi 0)] = true := by decide +kernel
theorem e_q_step_246 : decode b_Mo_step_0 246 = .ok (.getfield 192, 3) := by decide +kernel
theorem e_q_step_249 : decode b_Mo_step_0 249 = .ok (.iastore, 1) := by decide +kernel
theorem f_q_step_250_2 : mblkB b_Mo_step_0 [(250, .iload_n 3, vi 0), (251, .iconst 3, vi 3)] = true := by decide +kernel
theorem e_q_step_252 : decode b_Mo_step_0 252 = .ok (.if_icmp .ne 7, 3) := by decide +kernel
theorem f_q_step_259_1 : mblkB b_Mo_step_0 [(259, .aload_n 0, vi 0)] = true := by decide +kernel
theorem e_q_step_260 : decode b_Mo_step_0 260 = .ok (.getfield 30, 3) := by decide +kernel
theorem f_q_step_263_1 : mblkB b_Mo_step_0 [(263, .iload_n 1, vi 0)] = true := by decide +kernel
theorem e_q_step_264 : decode b_Mo_step_0 264 = .ok (.aaload, 1) := by decide +kernel
theorem f_q_step_265_2 : mblkB b_Mo_step_0 [(265, .iload_n 2, vi 0), (266, .aload_n 0, vi 0)] = true := by decide +kernel
theorem e_q_step_267 : decode b_Mo_step_0 267 = .ok (.getfield 192, 3) := by decide +kernel
theorem e_q_step_270 : decode b_Mo_step_0 270 = .ok (.iastore, 1) := by decide +kernel
theorem e_q_step_271 : decode b_Mo_step_0 271 = .ok (.return_, 1) := by decide +kernel
theorem f_q_step_111_2 : mblkB b_Mo_step_0 [(111, .iload_n 3, vi 0), (112, .iconst 1, vi 1)] = true := by decide +kernel
theorem e_q_step_113 : decode b_Mo_step_0 113 = .ok (.if_icmp .eq 8, 3) := by decide +kernel
theorem f_q_step_212_1 : mblkB b_Mo_step_0 [(212, .aload_n 0, vi 0)] = true := by decide +kernel
theorem e_q_step_213 : decode b_Mo_step_0 213 = .ok (.getfield 36, 3) := by decide +kernel
theorem f_q_step_216_1 : mblkB b_Mo_step_0 [(216, .iload_n 1, vi 0)] = true := by decide +kernel
theorem e_q_step_217 : decode b_Mo_step_0 217 = .ok (.aaload, 1) := by decide +kernel
theorem f_q_step_218_2 : mblkB b_Mo_step_0 [(218, .iload_n 2, vi 0), (219, .aload_n 0, vi 0)] = true := by decide +kernel
theorem e_q_step_220 : decode b_Mo_step_0 220 = .ok (.invokevirtual 206, 3) := by decide +kernel
theorem e_q_step_223 : decode b_Mo_step_0 223 = .ok (.iastore, 1) := by decide +kernel
theorem f_q_step_116_2 : mblkB b_Mo_step_0 [(116, .iload_n 3, vi 0), (117, .iconst 5, vi 5)] = true := by decide +kernel
theorem e_q_step_118 : decode b_Mo_step_0 118 = .ok (.if_icmp .ne 18, 3) := by decide +kernel
theorem f_q_step_234_1 : mblkB b_Mo_step_0 [(234, .aload_n 0, vi 0)] = true := by decide +kernel
theorem e_q_step_235 : decode b_Mo_step_0 235 = .ok (.invokevirtual 209, 3) := by decide +kernel
theorem f_q_step_255_1 : mblkB b_Mo_step_0 [(255, .aload_n 0, vi 0)] = true := by decide +kernel
theorem e_q_step_256 : decode b_Mo_step_0 256 = .ok (.invokevirtual 209, 3) := by decide +kernel
theorem f_q_step_151_1 : mblkB b_Mo_step_0 [(151, .aload_n 0, vi 0)] = true := by decide +kernel
theorem e_q_step_152 : decode b_Mo_step_0 152 = .ok (.getfield 27, 3) := by decide +kernel
theorem f_q_step_155_1 : mblkB b_Mo_step_0 [(155, .iload_n 1, vi 0)] = true := by decide +kernel
theorem e_q_step_156 : decode b_Mo_step_0 156 = .ok (.aaload, 1) := by decide +kernel
theorem f_q_step_157_5 : mblkB b_Mo_step_0 [(157, .iload_n 2, vi 0), (158, .aload_n 0, vi 0), (159, .iconst 3, vi 3), (160, .iconst 0, vi 0), (161, .bipush 9, vi 9)] = true := by decide +kernel
theorem e_q_step_163 : decode b_Mo_step_0 163 = .ok (.invokevirtual 198, 3) := by decide +kernel
theorem e_q_step_166 : decode b_Mo_step_0 166 = .ok (.iastore, 1) := by decide +kernel
theorem f_q_step_172_1 : mblkB b_Mo_step_0 [(172, .aload_n 0, vi 0)] = true := by decide +kernel
theorem e_q_step_173 : decode b_Mo_step_0 173 = .ok (.getfield 27, 3) := by decide +kernel
theorem f_q_step_176_1 : mblkB b_Mo_step_0 [(176, .iload_n 1, vi 0)] = true := by decide +kernel
theorem e_q_step_177 : decode b_Mo_step_0 177 = .ok (.aaload, 1) := by decide +kernel
theorem f_q_step_178_5 : mblkB b_Mo_step_0 [(178, .iload_n 2, vi 0), (179, .aload_n 0, vi 0), (180, .iconst 3, vi 3), (181, .iconst 0, vi 0), (182, .aload_n 0, vi 0)] = true := by decide +kernel
theorem e_q_step_183 : decode b_Mo_step_0 183 = .ok (.getfield 105, 3) := by decide +kernel
theorem f_q_step_186_2 : mblkB b_Mo_step_0 [(186, .iconst 1, vi 1), (187, .isub, vi 0)] = true := by decide +kernel
theorem e_q_step_188 : decode b_Mo_step_0 188 = .ok (.invokevirtual 198, 3) := by decide +kernel
theorem e_q_step_191 : decode b_Mo_step_0 191 = .ok (.iastore, 1) := by decide +kernel
set_option maxHeartbeats 40000000 in
set_option maxRecDepth 100000 in
theorem q_step (d : Nat) (hq9 : S_inBraces d) : S_step d := by
  intro l D B H0 ad A hS hT p0 hp hb hn hl hG ho
  refine m_met (by decide) rfl (fun g w0 C Rm Y E => ?_)
  have hE0 : mEq (pm p0.toNat) A A := mEq.rfl'
  show JM g D ad w0 A 0 [(0, vr 0 0)] []
  obtain ⟨xs, hxs⟩ : ∃ x, A 0 0 28 = x := ⟨_, rfl⟩
  have rxs : 0 ≤ xs ∧ xs ≤ 16 := mrg hT hxs rfl
  have rt : A 0 0 22 ≤ 120 := (hT 0 0 22).2
  have rd9 : 0 ≤ A 0 0 29 ∧ 0 ≤ A 0 0 30 := ⟨(hT 0 0 29).1, (hT 0 0 30).1⟩
  rcases (show A 0 0 31 = 0 ∨ A 0 0 31 = 1 from by have w8 : 0 ≤ A 0 0 31 ∧ A 0 0 31 ≤ 1 := hT 0 0 31; omega) with g0 | g0
  · have hl0 := hl g0
    refine m_blk 1 [(0, vr 0 0)] [vr 0 0] C f_q_step_0_1 rfl ?_
    refine m_geti C e_q_step_1 fg_Mo_155 rfl (by decide) rfl 0 g0 ?_
    refine m_if_ne (tgt := 24) C e_q_step_4 (by decide) (by decide) (fun c1 => (by omega : False).elim) (fun c1 => ?_)
    refine m_blk 8 [(0, vr 0 0)] [vr 0 0] C f_q_step_7_1 rfl ?_
    obtain ⟨x2, hx2⟩ : ∃ x, A 0 0 25 = x := ⟨_, rfl⟩
    have rx2 : 0 ≤ x2 ∧ x2 ≤ 4 := mrg hT hx2 rfl
    refine m_geti C e_q_step_8 fg_Mo_159 rfl (by decide) rfl x2 hx2 ?_
    refine m_blk 12 [(0, vr 0 0)] [vi 2, vi x2] C f_q_step_11_1 rfl ?_
    refine m_icmp_ne (tgt := 24) C e_q_step_12 (by decide) (by omega) (by decide) (fun c3 => ?_) (fun c3 => ?_)
    · refine m_blk 26 [(0, vr 0 0)] [vi 1, vr 0 0] C f_q_step_24_2 rfl ?_
      refine m_putz C e_q_step_26 fp_Mo_155 rfl (by decide) rfl (Or.inr rfl) ?_
      have t4 : mTy (mu A 0 0 31 1) := hT.mu (by show 0 ≤ 1 ∧ 1 ≤ 1; omega)
      have q5 := hE0.mu (f := 0) (k := 0) (j := 31) (z := 1) (by simp [pm])
      have Q6 : pQ p0.toNat (A 0 0 28) (A 0 0 29) (A 0 0 30) A (mu A 0 0 31 1) := pQ.fam (A2 := A) pQ.rfl' (fam_0 A p0.toNat 31 1)
      have G7 : nG p0.toNat (mu A 0 0 31 1) := hG
      exact m_vret C Rm E e_q_step_29 ⟨rfl, t4, q5, (by show A 0 0 24 ≤ A 0 0 23 ∧ A 0 0 23 ≤ A 0 0 22; omega), (fun h9 => absurd (show (1 : Int) = 0 from h9) (by decide)), (fun h9 => absurd (show (1 : Int) = 0 from h9) (by decide)), (by show A 0 0 24 ≤ A 0 0 24 ∧ A 0 0 28 ≤ A 0 0 28 ∧ A 0 0 29 ≤ A 0 0 29 ∧ A 0 0 30 ≤ A 0 0 30 ∧ A 0 0 27 = A 0 0 27; omega), G7, Q6⟩
    · refine m_blk 16 [(0, vr 0 0)] [vr 0 0] C f_q_step_15_1 rfl ?_
      refine m_geti C e_q_step_16 fg_Mo_192 rfl (by decide) rfl xs hxs ?_
      refine m_blk 21 [(0, vr 0 0)] [vi 16, vi xs] C f_q_step_19_1 rfl ?_
      refine m_icmp_ne (tgt := 30) C e_q_step_21 (by decide) (by omega) (by decide) (fun c8 => ?_) (fun c8 => ?_)
      · refine m_blk 31 [(0, vr 0 0)] [vr 0 0] C f_q_step_30_1 rfl ?_
        refine m_geti C e_q_step_31 fg_Mo_105 rfl (by decide) rfl p0 hp.1 ?_
        refine m_blk 36 [(1, vi p0), (0, vr 0 0)] [vr 0 0] C f_q_step_34_2 rfl ?_
        refine m_geti C e_q_step_36 fg_Mo_192 rfl (by decide) rfl xs hxs ?_
        refine m_blk 41 [(2, vi xs), (1, vi p0), (0, vr 0 0)] [vr 0 0] C f_q_step_39_2 rfl ?_
        obtain ⟨x9, hx9⟩ : ∃ x, A 0 0 26 = x := ⟨_, rfl⟩
        have rx9 : (-1) ≤ x9 ∧ x9 ≤ 255 := mrg hT hx9 rfl
        refine m_geti C e_q_step_41 fg_Mo_165 rfl (by decide) rfl x9 hx9 ?_
        refine m_blk 47 [(3, vi x9), (2, vi xs), (1, vi p0), (0, vr 0 0)] [vr 0 0, vr 0 0] C f_q_step_44_3 rfl ?_
        refine m_geti C e_q_step_47 fg_Mo_192 rfl (by decide) rfl xs hxs ?_
        refine m_blk 52 [(3, vi x9), (2, vi xs), (1, vi p0), (0, vr 0 0)] [vi (xs + 1), vr 0 0] C f_q_step_50_2 rfl ?_
        refine m_puti C e_q_step_52 fp_Mo_192 rfl (by decide) rfl ?_
        have t10 : mTy (mu A 0 0 28 (xs + 1)) := hT.mu (by show 0 ≤ (xs + 1) ∧ (xs + 1) ≤ 16; omega)
        have q11 := hE0.mu (f := 0) (k := 0) (j := 28) (z := (xs + 1)) (by simp [pm])
        have Q12 : pQ p0.toNat (A 0 0 28) (A 0 0 29) (A 0 0 30) A (mu A 0 0 28 (xs + 1)) := pQ.fam (A2 := A) pQ.rfl' (fam_0 A p0.toNat 28 (xs + 1))
        have G13 : nG p0.toNat (mu A 0 0 28 (xs + 1)) := hG
        refine m_blk 56 [(3, vi x9), (2, vi xs), (1, vi p0), (0, vr 0 0)] [vr 0 0] C f_q_step_55_1 rfl ?_
        refine m_getr C e_q_step_56 fg_Mo_21 rfl (by decide) rfl ?_
        refine m_blk 60 [(3, vi x9), (2, vi xs), (1, vi p0), (0, vr 0 0)] [vi p0, vr 14 0] C f_q_step_59_1 rfl ?_
        refine m_aald C p0.toNat e_q_step_60 rfl rfl rfl (by decide) (by decide) (by omega) (by show p0 < ((6 : Nat) : Int); omega) (mz _ _) ?_
        refine m_blk 63 [(3, vi x9), (2, vi xs), (1, vi p0), (0, vr 0 0)] [vi x9, vi xs, vr 34 p0.toNat] C f_q_step_61_2 rfl ?_
        refine m_iast C e_q_step_63 rfl (by omega) (by decide) (by omega) (by show xs < ((16 : Nat) : Int); omega) ?_
        have t14 : mTy (mu (mu A 0 0 28 (xs + 1)) 34 p0.toNat xs.toNat x9) := t10.mu (by show (-1) ≤ x9 ∧ x9 ≤ 255; omega)
        have q15 := q11.mu (f := 34) (k := p0.toNat) (j := xs.toNat) (z := x9) (by simp [pm])
        have Q16 : pQ p0.toNat (A 0 0 28) (A 0 0 29) (A 0 0 30) A (mu (mu A 0 0 28 (xs + 1)) 34 p0.toNat xs.toNat x9) := pQ.mu (A2 := (mu A 0 0 28 (xs + 1))) Q12 (by omega) (by omega) (by omega)
        have G17 : nG p0.toNat (mu (mu A 0 0 28 (xs + 1)) 34 p0.toNat xs.toNat x9) := G13
        refine m_blk 65 [(3, vi x9), (2, vi xs), (1, vi p0), (0, vr 0 0)] [vr 0 0] C f_q_step_64_1 rfl ?_
        refine m_getr C e_q_step_65 fg_Mo_24 rfl (by decide) rfl ?_
        refine m_blk 69 [(3, vi x9), (2, vi xs), (1, vi p0), (0, vr 0 0)] [vi p0, vr 15 0] C f_q_step_68_1 rfl ?_
        refine m_aald C p0.toNat e_q_step_69 rfl rfl rfl (by decide) (by decide) (by omega) (by show p0 < ((6 : Nat) : Int); omega) (mz _ _) ?_
        refine m_blk 72 [(3, vi x9), (2, vi xs), (1, vi p0), (0, vr 0 0)] [vi (-1), vi xs, vr 35 p0.toNat] C f_q_step_70_2 rfl ?_
        refine m_iast C e_q_step_72 rfl (by omega) (by decide) (by omega) (by show xs < ((16 : Nat) : Int); omega) ?_
        have t18 : mTy (mu (mu (mu A 0 0 28 (xs + 1)) 34 p0.toNat xs.toNat x9) 35 p0.toNat xs.toNat (-1)) := t14.mu (by show (-1) ≤ (-1) ∧ (-1) ≤ 5; omega)
        have q19 := q15.mu (f := 35) (k := p0.toNat) (j := xs.toNat) (z := (-1)) (by simp [pm])
        have Q20 : pQ p0.toNat (A 0 0 28) (A 0 0 29) (A 0 0 30) A (mu (mu (mu A 0 0 28 (xs + 1)) 34 p0.toNat xs.toNat x9) 35 p0.toNat xs.toNat (-1)) := pQ.mu (A2 := (mu (mu A 0 0 28 (xs + 1)) 34 p0.toNat xs.toNat x9)) Q16 (by omega) (by omega) (by omega)
        have G21 : nG p0.toNat (mu (mu (mu A 0 0 28 (xs + 1)) 34 p0.toNat xs.toNat x9) 35 p0.toNat xs.toNat (-1)) := G17
        refine m_blk 74 [(3, vi x9), (2, vi xs), (1, vi p0), (0, vr 0 0)] [vr 0 0] C f_q_step_73_1 rfl ?_
        refine m_getr C e_q_step_74 fg_Mo_27 rfl (by decide) rfl ?_
        refine m_blk 78 [(3, vi x9), (2, vi xs), (1, vi p0), (0, vr 0 0)] [vi p0, vr 16 0] C f_q_step_77_1 rfl ?_
        refine m_aald C p0.toNat e_q_step_78 rfl rfl rfl (by decide) (by decide) (by omega) (by show p0 < ((6 : Nat) : Int); omega) (mz _ _) ?_
        refine m_blk 81 [(3, vi x9), (2, vi xs), (1, vi p0), (0, vr 0 0)] [vi (-1), vi xs, vr 36 p0.toNat] C f_q_step_79_2 rfl ?_
        refine m_iast C e_q_step_81 rfl (by omega) (by decide) (by omega) (by show xs < ((16 : Nat) : Int); omega) ?_
        have t22 : mTy (mu (mu (mu (mu A 0 0 28 (xs + 1)) 34 p0.toNat xs.toNat x9) 35 p0.toNat xs.toNat (-1)) 36 p0.toNat xs.toNat (-1)) := t18.mu (by show (-1) ≤ (-1) ∧ (-1) ≤ 9; omega)
        have q23 := q19.mu (f := 36) (k := p0.toNat) (j := xs.toNat) (z := (-1)) (by simp [pm])
        have Q24 : pQ p0.toNat (A 0 0 28) (A 0 0 29) (A 0 0 30) A (mu (mu (mu (mu A 0 0 28 (xs + 1)) 34 p0.toNat xs.toNat x9) 35 p0.toNat xs.toNat (-1)) 36 p0.toNat xs.toNat (-1)) := pQ.mu (A2 := (mu (mu (mu A 0 0 28 (xs + 1)) 34 p0.toNat xs.toNat x9) 35 p0.toNat xs.toNat (-1))) Q20 (by omega) (by omega) (by omega)
        have G25 : nG p0.toNat (mu (mu (mu (mu A 0 0 28 (xs + 1)) 34 p0.toNat xs.toNat x9) 35 p0.toNat xs.toNat (-1)) 36 p0.toNat xs.toNat (-1)) := G21
        refine m_blk 83 [(3, vi x9), (2, vi xs), (1, vi p0), (0, vr 0 0)] [vr 0 0] C f_q_step_82_1 rfl ?_
        refine m_getr C e_q_step_83 fg_Mo_36 rfl (by decide) rfl ?_
        refine m_blk 87 [(3, vi x9), (2, vi xs), (1, vi p0), (0, vr 0 0)] [vi p0, vr 19 0] C f_q_step_86_1 rfl ?_
        refine m_aald C p0.toNat e_q_step_87 rfl rfl rfl (by decide) (by decide) (by omega) (by show p0 < ((6 : Nat) : Int); omega) (mz _ _) ?_
        refine m_blk 90 [(3, vi x9), (2, vi xs), (1, vi p0), (0, vr 0 0)] [vi (-1), vi xs, vr 39 p0.toNat] C f_q_step_88_2 rfl ?_
        refine m_iast C e_q_step_90 rfl (by omega) (by decide) (by omega) (by show xs < ((16 : Nat) : Int); omega) ?_
        have t26 : mTy (mu (mu (mu (mu (mu A 0 0 28 (xs + 1)) 34 p0.toNat xs.toNat x9) 35 p0.toNat xs.toNat (-1)) 36 p0.toNat xs.toNat (-1)) 39 p0.toNat xs.toNat (-1)) := t22.mu (by show (-1) ≤ (-1) ∧ (-1) ≤ 119; omega)
        have q27 := q23.mu (f := 39) (k := p0.toNat) (j := xs.toNat) (z := (-1)) (by simp [pm])
        have Q28 : pQ p0.toNat (A 0 0 28) (A 0 0 29) (A 0 0 30) A (mu (mu (mu (mu (mu A 0 0 28 (xs + 1)) 34 p0.toNat xs.toNat x9) 35 p0.toNat xs.toNat (-1)) 36 p0.toNat xs.toNat (-1)) 39 p0.toNat xs.toNat (-1)) := pQ.mu (A2 := (mu (mu (mu (mu A 0 0 28 (xs + 1)) 34 p0.toNat xs.toNat x9) 35 p0.toNat xs.toNat (-1)) 36 p0.toNat xs.toNat (-1))) Q24 (by omega) (by omega) (by omega)
        have G29 : nG p0.toNat (mu (mu (mu (mu (mu A 0 0 28 (xs + 1)) 34 p0.toNat xs.toNat x9) 35 p0.toNat xs.toNat (-1)) 36 p0.toNat xs.toNat (-1)) 39 p0.toNat xs.toNat (-1)) := G25
        refine m_blk 92 [(3, vi x9), (2, vi xs), (1, vi p0), (0, vr 0 0)] [vr 0 0] C f_q_step_91_1 rfl ?_
        refine m_getr C e_q_step_92 fg_Mo_39 rfl (by decide) rfl ?_
        refine m_blk 96 [(3, vi x9), (2, vi xs), (1, vi p0), (0, vr 0 0)] [vi p0, vr 20 0] C f_q_step_95_1 rfl ?_
        refine m_aald C p0.toNat e_q_step_96 rfl rfl rfl (by decide) (by decide) (by omega) (by show p0 < ((6 : Nat) : Int); omega) (mz _ _) ?_
        refine m_blk 99 [(3, vi x9), (2, vi xs), (1, vi p0), (0, vr 0 0)] [vr 0 0, vi xs, vr 40 p0.toNat] C f_q_step_97_2 rfl ?_
        obtain ⟨x30, hx30⟩ : ∃ x, A 0 0 29 = x := ⟨_, rfl⟩
        have rx30 : 0 ≤ x30 ∧ x30 ≤ 40 := mrg hT hx30 rfl
        refine m_geti C e_q_step_99 fg_Mo_195 rfl (by decide) rfl x30 hx30 ?_
        refine m_iast C e_q_step_102 rfl (by omega) (by decide) (by omega) (by show xs < ((16 : Nat) : Int); omega) ?_
        have t31 : mTy (mu (mu (mu (mu (mu (mu A 0 0 28 (xs + 1)) 34 p0.toNat xs.toNat x9) 35 p0.toNat xs.toNat (-1)) 36 p0.toNat xs.toNat (-1)) 39 p0.toNat xs.toNat (-1)) 40 p0.toNat xs.toNat x30) := t26.mu (by show 0 ≤ x30 ∧ x30 ≤ 40; omega)
        have q32 := q27.mu (f := 40) (k := p0.toNat) (j := xs.toNat) (z := x30) (by simp [pm])
        have Q33 : pQ p0.toNat (A 0 0 28) (A 0 0 29) (A 0 0 30) A (mu (mu (mu (mu (mu (mu A 0 0 28 (xs + 1)) 34 p0.toNat xs.toNat x9) 35 p0.toNat xs.toNat (-1)) 36 p0.toNat xs.toNat (-1)) 39 p0.toNat xs.toNat (-1)) 40 p0.toNat xs.toNat x30) := pQ.mu (A2 := (mu (mu (mu (mu (mu A 0 0 28 (xs + 1)) 34 p0.toNat xs.toNat x9) 35 p0.toNat xs.toNat (-1)) 36 p0.toNat xs.toNat (-1)) 39 p0.toNat xs.toNat (-1))) Q28 (by omega) (by omega) (by omega)
        have G34 : nG p0.toNat (mu (mu (mu (mu (mu (mu A 0 0 28 (xs + 1)) 34 p0.toNat xs.toNat x9) 35 p0.toNat xs.toNat (-1)) 36 p0.toNat xs.toNat (-1)) 39 p0.toNat xs.toNat (-1)) 40 p0.toNat xs.toNat x30) := G29
        have kk9 : 0 ≤ x9 ∧ x9 ≤ 5 := hx9 ▸ pT_kind hn g0 (by omega)
        rcases (show x9 = 0 ∨ x9 = 1 ∨ x9 = 2 ∨ x9 = 3 ∨ x9 = 4 ∨ x9 = 5 from by omega) with rfl | rfl | rfl | rfl | rfl | rfl
        · have bt9 : A 0 0 24 < A 0 0 23 := pT_lt hn g0 (by omega)
          refine m_blk 104 [(3, vi 0), (2, vi xs), (1, vi p0), (0, vr 0 0)] [vr 0 0] C f_q_step_103_1 rfl ?_
          refine m_callV C Rm Y [] [] (q_next l D B H0 ad _ hS t31 (by show A 0 0 23 ≤ A 0 0 22; omega)) cl_Mo_176 rfl (by decide) rfl rfl e_q_step_104 rfl rfl rfl ⟨by show _ ≤ (32 + 4 * d : Nat); omega, by show _ ≤ (630 + 300 * d : Nat); omega⟩ ?_
          rintro v35 A36 ⟨rfl, hT_n38, hE_n38, raw_hw_n38, raw_hb_n38⟩
          have hF_n38 := q32.trans (hE_n38.sub (nm_pm _))
          show JM g D ad w0 A36 107 [(3, vi 0), (2, vi xs), (1, vi p0), (0, vr 0 0)] []
          obtain ⟨b1_n38, b2_n38, b3_n38, pt_n38⟩ : A 0 0 23 ≤ A36 0 0 24 ∧ A36 0 0 24 ≤ A36 0 0 23 ∧ A36 0 0 23 ≤ A36 0 0 22 ∧ pT A36 := raw_hb_n38 g0
          clear raw_hb_n38 raw_hw_n38
          have k0_n38 : A36 0 0 0 = A 0 0 0 := hE_n38 0 0 0 rfl
          have k22_n38 : A36 0 0 22 = A 0 0 22 := hE_n38 0 0 22 rfl
          have k27_n38 : A36 0 0 27 = A 0 0 27 := hE_n38 0 0 27 rfl
          have k28_n38 : A36 0 0 28 = (xs + 1) := hE_n38 0 0 28 rfl
          have k29_n38 : A36 0 0 29 = A 0 0 29 := hE_n38 0 0 29 rfl
          have k30_n38 : A36 0 0 30 = A 0 0 30 := hE_n38 0 0 30 rfl
          have G39 : nG p0.toNat A36 := nG.nm (A := (mu (mu (mu (mu (mu (mu A 0 0 28 (xs + 1)) 34 p0.toNat xs.toNat 0) 35 p0.toNat xs.toNat (-1)) 36 p0.toNat xs.toNat (-1)) 39 p0.toNat xs.toNat (-1)) 40 p0.toNat xs.toNat x30)) G34 hE_n38
          have Q40 : pQ p0.toNat (A 0 0 28) (A 0 0 29) (A 0 0 30) A A36 := pQ.fam (A2 := (mu (mu (mu (mu (mu (mu A 0 0 28 (xs + 1)) 34 p0.toNat xs.toNat 0) 35 p0.toNat xs.toNat (-1)) 36 p0.toNat xs.toNat (-1)) 39 p0.toNat xs.toNat (-1)) 40 p0.toNat xs.toNat x30)) Q33 (fam_nm _ hE_n38)
          have r34_n38 : A36 34 p0.toNat xs.toNat = 0 := Eq.trans (hE_n38 34 p0.toNat xs.toNat rfl) (mu_at (mu A 0 0 28 (xs + 1)) 34 p0.toNat xs.toNat 0)
          have r35_n38 : A36 35 p0.toNat xs.toNat = (-1) := Eq.trans (hE_n38 35 p0.toNat xs.toNat rfl) (mu_at (mu (mu A 0 0 28 (xs + 1)) 34 p0.toNat xs.toNat 0) 35 p0.toNat xs.toNat (-1))
          have r36_n38 : A36 36 p0.toNat xs.toNat = (-1) := Eq.trans (hE_n38 36 p0.toNat xs.toNat rfl) (mu_at (mu (mu (mu A 0 0 28 (xs + 1)) 34 p0.toNat xs.toNat 0) 35 p0.toNat xs.toNat (-1)) 36 p0.toNat xs.toNat (-1))
          have r39_n38 : A36 39 p0.toNat xs.toNat = (-1) := Eq.trans (hE_n38 39 p0.toNat xs.toNat rfl) (mu_at (mu (mu (mu (mu A 0 0 28 (xs + 1)) 34 p0.toNat xs.toNat 0) 35 p0.toNat xs.toNat (-1)) 36 p0.toNat xs.toNat (-1)) 39 p0.toNat xs.toNat (-1))
          have r40_n38 : A36 40 p0.toNat xs.toNat = x30 := Eq.trans (hE_n38 40 p0.toNat xs.toNat rfl) (mu_at (mu (mu (mu (mu (mu A 0 0 28 (xs + 1)) 34 p0.toNat xs.toNat 0) 35 p0.toNat xs.toNat (-1)) 36 p0.toNat xs.toNat (-1)) 39 p0.toNat xs.toNat (-1)) 40 p0.toNat xs.toNat x30)
          rcases (show A36 0 0 31 = 0 ∨ A36 0 0 31 = 1 from by have w9 := hT_n38 0 0 31; have w8 : 0 ≤ A36 0 0 31 ∧ A36 0 0 31 ≤ 1 := w9; omega) with g_n38 | g_n38
          · refine m_blk 108 [(3, vi 0), (2, vi xs), (1, vi p0), (0, vr 0 0)] [vi 0] C f_q_step_107_1 rfl ?_
            refine m_if_eq (tgt := 121) C e_q_step_108 (by decide) (by decide) (fun c41 => ?_) (fun c41 => (by omega : False).elim)
            refine m_blk 122 [(3, vi 0), (2, vi xs), (1, vi p0), (0, vr 0 0)] [vr 0 0] C f_q_step_121_1 rfl ?_
            refine m_getr C e_q_step_122 fg_Mo_24 rfl (by decide) rfl ?_
            refine m_blk 126 [(3, vi 0), (2, vi xs), (1, vi p0), (0, vr 0 0)] [vi p0, vr 15 0] C f_q_step_125_1 rfl ?_
            refine m_aald C p0.toNat e_q_step_126 rfl rfl rfl (by decide) (by decide) (by omega) (by show p0 < ((6 : Nat) : Int); omega) (mz _ _) ?_
            refine m_blk 132 [(3, vi 0), (2, vi xs), (1, vi p0), (0, vr 0 0)] [vi 5, vi 0, vi 1, vr 0 0, vi xs, vr 35 p0.toNat] C f_q_step_127_5 rfl ?_
            refine m_callV C Rm Y [vi 1, vi 0, vi 5] [vi xs, vr 35 p0.toNat] (q_takes l D B H0 ad _ hS hT_n38 1 0 5 (by show 1 ≤ 1 ∧ 1 ≤ 4; omega) (by show 0 ≤ 0 ∧ 0 ≤ 2147483647 ∧ -1 ≤ 5 ∧ 5 ≤ 2147483647; omega) (by show A36 0 0 24 ≤ A36 0 0 23 ∧ A36 0 0 23 ≤ A36 0 0 22; omega) pt_n38) cl_Mo_198 rfl (by decide) rfl rfl e_q_step_132 rfl rfl rfl ⟨by show _ ≤ (32 + 4 * d : Nat); omega, by show _ ≤ (630 + 300 * d : Nat); omega⟩ ?_
            rintro v42 A43 ⟨z46, rfl, hT_n45, hE_n45, raw_hz_n45, raw_hb_n45, raw_hn_n45, raw_hw_n45, raw_hm_n45⟩
            have hF_n45 := hF_n38.trans (hE_n45.sub (nm_pm _))
            show JM g D ad w0 A43 135 [(3, vi 0), (2, vi xs), (1, vi p0), (0, vr 0 0)] [vi z46, vi xs, vr 35 p0.toNat]
            have hb_n45 : A43 0 0 24 ≤ A43 0 0 23 ∧ A43 0 0 23 ≤ A43 0 0 22 := raw_hb_n45
            clear raw_hb_n45
            have hm_n45 : A36 0 0 24 ≤ A43 0 0 24 := raw_hm_n45
            clear raw_hm_n45
            have hz_n45 : z46 = 0 ∨ 0 ≤ z46 ∧ z46 ≤ 5 := raw_hz_n45
            clear raw_hz_n45
            have pt_n45 : pT A43 := raw_hn_n45
            clear raw_hn_n45
            have k0_n45 : A43 0 0 0 = A36 0 0 0 := hE_n45 0 0 0 rfl
            have k22_n45 : A43 0 0 22 = A36 0 0 22 := hE_n45 0 0 22 rfl
            have k27_n45 : A43 0 0 27 = A36 0 0 27 := hE_n45 0 0 27 rfl
            have k28_n45 : A43 0 0 28 = A36 0 0 28 := hE_n45 0 0 28 rfl
            have k29_n45 : A43 0 0 29 = A36 0 0 29 := hE_n45 0 0 29 rfl
            have k30_n45 : A43 0 0 30 = A36 0 0 30 := hE_n45 0 0 30 rfl
            have G47 : nG p0.toNat A43 := nG.nm (A := A36) G39 hE_n45
            have Q48 : pQ p0.toNat (A 0 0 28) (A 0 0 29) (A 0 0 30) A A43 := pQ.fam (A2 := A36) Q40 (fam_nm _ hE_n45)
            have r34_n45 : A43 34 p0.toNat xs.toNat = 0 := Eq.trans (hE_n45 34 p0.toNat xs.toNat rfl) r34_n38
            have r35_n45 : A43 35 p0.toNat xs.toNat = (-1) := Eq.trans (hE_n45 35 p0.toNat xs.toNat rfl) r35_n38
            have r36_n45 : A43 36 p0.toNat xs.toNat = (-1) := Eq.trans (hE_n45 36 p0.toNat xs.toNat rfl) r36_n38
            have r39_n45 : A43 39 p0.toNat xs.toNat = (-1) := Eq.trans (hE_n45 39 p0.toNat xs.toNat rfl) r39_n38
            have r40_n45 : A43 40 p0.toNat xs.toNat = x30 := Eq.trans (hE_n45 40 p0.toNat xs.toNat rfl) r40_n38
            rcases (show A43 0 0 31 = 0 ∨ A43 0 0 31 = 1 from by have w9 := hT_n45 0 0 31; have w8 : 0 ≤ A43 0 0 31 ∧ A43 0 0 31 ≤ 1 := w9; omega) with g_n45 | g_n45
            · have u_n45 : A36 0 0 31 = 0 ∧ A36 0 0 24 < A43 0 0 24 ∧ 0 ≤ z46 ∧ z46 ≤ 5 := raw_hw_n45 g_n45
              clear raw_hw_n45
              refine m_iast C e_q_step_135 rfl (by omega) (by decide) (by omega) (by show xs < ((16 : Nat) : Int); omega) ?_
              have t49 : mTy (mu A43 35 p0.toNat xs.toNat z46) := hT_n45.mu (by show (-1) ≤ z46 ∧ z46 ≤ 5; omega)
              have q50 := hF_n45.mu (f := 35) (k := p0.toNat) (j := xs.toNat) (z := z46) (by simp [pm])
              have Q51 : pQ p0.toNat (A 0 0 28) (A 0 0 29) (A 0 0 30) A (mu A43 35 p0.toNat xs.toNat z46) := pQ.mu (A2 := A43) Q48 (by omega) (by omega) (by omega)
              have G52 : nG p0.toNat (mu A43 35 p0.toNat xs.toNat z46) := G47
              refine m_blk 137 [(3, vi 0), (2, vi xs), (1, vi p0), (0, vr 0 0)] [vi 0] C f_q_step_136_1 rfl ?_
              refine m_if_ne (tgt := 146) C e_q_step_137 (by decide) (by decide) (fun c53 => (by omega : False).elim) (fun c53 => ?_)
              refine m_blk 143 [(3, vi 0), (2, vi xs), (1, vi p0), (0, vr 0 0)] [vi xs, vi p0, vr 0 0] C f_q_step_140_3 rfl ?_
              refine m_callV C Rm Y [vi p0, vi xs] [] (q_lotsOf l D B H0 ad _ hS t49 p0 xs (by show A43 0 0 0 = p0 ∧ 0 ≤ p0 ∧ p0 ≤ 5; omega) (by show 0 ≤ xs ∧ xs ≤ 15; omega) (by show A43 0 0 24 ≤ A43 0 0 23 ∧ A43 0 0 23 ≤ A43 0 0 22; omega) pt_n45 (fun _ => by show A43 0 0 30 + 3 * A43 0 0 29 ≤ A43 0 0 24; omega)) cl_Mo_202 rfl (by decide) rfl rfl e_q_step_143 rfl rfl rfl ⟨by show _ ≤ (32 + 4 * d : Nat); omega, by show _ ≤ (630 + 300 * d : Nat); omega⟩ ?_
              rintro v54 A55 ⟨rfl, hT_n57, hE_n57, raw_hb_n57, raw_hn_n57, raw_hm_n57, raw_hw_n57, raw_hQ_n57, raw_hN_n57⟩
              have hF_n57 := q50.trans (hE_n57.sub (lo_pm _))
              show JM g D ad w0 A55 146 [(3, vi 0), (2, vi xs), (1, vi p0), (0, vr 0 0)] []
              have hb_n57 : A55 0 0 24 ≤ A55 0 0 23 ∧ A55 0 0 23 ≤ A55 0 0 22 := raw_hb_n57
              clear raw_hb_n57
              have hm_n57 : A43 0 0 24 ≤ A55 0 0 24 ∧ A43 0 0 29 ≤ A55 0 0 29 := raw_hm_n57
              clear raw_hm_n57
              have pt_n57 : pT A55 := raw_hn_n57
              have k0_n57 : A55 0 0 0 = A43 0 0 0 := hE_n57 0 0 0 (by simp [lo])
              have k22_n57 : A55 0 0 22 = A43 0 0 22 := hE_n57 0 0 22 (by simp [lo])
              have k27_n57 : A55 0 0 27 = A43 0 0 27 := hE_n57 0 0 27 (by simp [lo])
              have k28_n57 : A55 0 0 28 = A43 0 0 28 := hE_n57 0 0 28 (by simp [lo])
              have k30_n57 : A55 0 0 30 = A43 0 0 30 := hE_n57 0 0 30 (by simp [lo])
              have G58 : nG p0.toNat A55 := nG.lots (A := (mu A43 35 p0.toNat xs.toNat z46)) G52 hE_n57 (hE_n57 0 0 30 (by simp [lo]))
              have hL_n57 : lQ p0.toNat (A43 0 0 29) (mu A43 35 p0.toNat xs.toNat z46) A55 := raw_hQ_n57
              have hM_n57 : lNm p0.toNat xs.toNat (mu A43 35 p0.toNat xs.toNat z46) A55 := raw_hN_n57
              have Q59 : pQ p0.toNat (A 0 0 28) (A 0 0 29) (A 0 0 30) A A55 := pQ.lots (A2 := (mu A43 35 p0.toNat xs.toNat z46)) Q51 hE_n57 hL_n57 (by show A 0 0 29 ≤ A43 0 0 29; omega) hM_n57 (by omega)
              have r34_n57 : A55 34 p0.toNat xs.toNat = 0 := Eq.trans (hE_n57 34 p0.toNat xs.toNat (by simp [lo])) r34_n45
              have r35_n57 : A55 35 p0.toNat xs.toNat = z46 := Eq.trans (hE_n57 35 p0.toNat xs.toNat (by simp [lo])) (mu_at A43 35 p0.toNat xs.toNat z46)
              have r39_n57 : A55 39 p0.toNat xs.toNat = (-1) := Eq.trans (hE_n57 39 p0.toNat xs.toNat (by simp [lo])) r39_n45
              have r40_n57 : A55 40 p0.toNat xs.toNat = x30 := Eq.trans (hE_n57 40 p0.toNat xs.toNat (by simp [lo])) r40_n45
              obtain ⟨nu_n57, hnu_n57⟩ : ∃ x, A55 36 p0.toNat xs.toNat = x := ⟨_, rfl⟩
              rcases (show A55 0 0 31 = 0 ∨ A55 0 0 31 = 1 from by have w9 := hT_n57 0 0 31; have w8 : 0 ≤ A55 0 0 31 ∧ A55 0 0 31 ≤ 1 := w9; omega) with g_n57 | g_n57
              · have ul_n57 : A43 0 0 24 - 3 * A43 0 0 29 ≤ A55 0 0 24 - 3 * A55 0 0 29 := (raw_hw_n57 g_n57).2.1
                have un_n57 : 1 ≤ nu_n57 ∧ A43 0 0 29 + nu_n57 ≤ A55 0 0 29 := hnu_n57 ▸ ⟨(raw_hw_n57 g_n57).2.2.1, (raw_hw_n57 g_n57).2.2.2.1⟩
                have ux_n57 : 1 ≤ ws (A55 42 p0.toNat) (Int.toNat (A43 0 0 29)) nu_n57.toNat := hnu_n57 ▸ (raw_hw_n57 g_n57).2.2.2.2
                have uw_n57 : 1 ≤ ws (A55 42 p0.toNat) (Int.toNat x30) nu_n57.toNat := (show A43 0 0 29 = x30 by omega) ▸ ux_n57
                clear raw_hw_n57
                refine m_blk 148 [(3, vi 0), (2, vi xs), (1, vi p0), (0, vr 0 0)] [vi 4, vi 0] C f_q_step_146_2 rfl ?_
                refine m_icmp_ne (tgt := 167) C e_q_step_148 (by decide) (by decide) (by decide) (fun c60 => ?_) (fun c60 => (by omega : False).elim)
                refine m_blk 169 [(3, vi 0), (2, vi xs), (1, vi p0), (0, vr 0 0)] [vi 5, vi 0] C f_q_step_167_2 rfl ?_
                refine m_icmp_ne (tgt := 192) C e_q_step_169 (by decide) (by decide) (by decide) (fun c61 => ?_) (fun c61 => (by omega : False).elim)
                refine m_blk 194 [(3, vi 0), (2, vi xs), (1, vi p0), (0, vr 0 0)] [vi 1, vi 0] C f_q_step_192_2 rfl ?_
                refine m_icmp_eq (tgt := 212) C e_q_step_194 (by decide) (by decide) (by decide) (fun c62 => (by omega : False).elim) (fun c62 => ?_)
                refine m_blk 199 [(3, vi 0), (2, vi xs), (1, vi p0), (0, vr 0 0)] [vi 2, vi 0] C f_q_step_197_2 rfl ?_
                refine m_icmp_eq (tgt := 212) C e_q_step_199 (by decide) (by decide) (by decide) (fun c63 => (by omega : False).elim) (fun c63 => ?_)
                refine m_blk 204 [(3, vi 0), (2, vi xs), (1, vi p0), (0, vr 0 0)] [vi 3, vi 0] C f_q_step_202_2 rfl ?_
                refine m_icmp_eq (tgt := 212) C e_q_step_204 (by decide) (by decide) (by decide) (fun c64 => (by omega : False).elim) (fun c64 => ?_)
                refine m_blk 209 [(3, vi 0), (2, vi xs), (1, vi p0), (0, vr 0 0)] [vi 5, vi 0] C f_q_step_207_2 rfl ?_
                refine m_icmp_ne (tgt := 224) C e_q_step_209 (by decide) (by decide) (by decide) (fun c65 => ?_) (fun c65 => (by omega : False).elim)
                refine m_blk 226 [(3, vi 0), (2, vi xs), (1, vi p0), (0, vr 0 0)] [vi 3, vi 0] C f_q_step_224_2 rfl ?_
                refine m_icmp_eq (tgt := 234) C e_q_step_226 (by decide) (by decide) (by decide) (fun c66 => (by omega : False).elim) (fun c66 => ?_)
                refine m_blk 231 [(3, vi 0), (2, vi xs), (1, vi p0), (0, vr 0 0)] [vi 4, vi 0] C f_q_step_229_2 rfl ?_
                refine m_icmp_ne (tgt := 238) C e_q_step_231 (by decide) (by decide) (by decide) (fun c67 => ?_) (fun c67 => (by omega : False).elim)
                refine m_blk 239 [(3, vi 0), (2, vi xs), (1, vi p0), (0, vr 0 0)] [vr 0 0] C f_q_step_238_1 rfl ?_
                refine m_getr C e_q_step_239 fg_Mo_33 rfl (by decide) rfl ?_
                refine m_blk 243 [(3, vi 0), (2, vi xs), (1, vi p0), (0, vr 0 0)] [vi p0, vr 18 0] C f_q_step_242_1 rfl ?_
                refine m_aald C p0.toNat e_q_step_243 rfl rfl rfl (by decide) (by decide) (by omega) (by show p0 < ((6 : Nat) : Int); omega) (mz _ _) ?_
                refine m_blk 246 [(3, vi 0), (2, vi xs), (1, vi p0), (0, vr 0 0)] [vr 0 0, vi xs, vr 38 p0.toNat] C f_q_step_244_2 rfl ?_
                obtain ⟨x68, hx68⟩ : ∃ x, A55 0 0 28 = x := ⟨_, rfl⟩
                have rx68 : 0 ≤ x68 ∧ x68 ≤ 16 := mrg hT_n57 hx68 rfl
                refine m_geti C e_q_step_246 fg_Mo_192 rfl (by decide) rfl x68 hx68 ?_
                refine m_iast C e_q_step_249 rfl (by omega) (by decide) (by omega) (by show xs < ((16 : Nat) : Int); omega) ?_
                have t69 : mTy (mu A55 38 p0.toNat xs.toNat x68) := hT_n57.mu (by show 0 ≤ x68 ∧ x68 ≤ 16; omega)
                have q70 := hF_n57.mu (f := 38) (k := p0.toNat) (j := xs.toNat) (z := x68) (by simp [pm])
                have Q71 : pQ p0.toNat (A 0 0 28) (A 0 0 29) (A 0 0 30) A (mu A55 38 p0.toNat xs.toNat x68) := pQ.mu (A2 := A55) Q59 (by omega) (by omega) (by omega)
                have G72 : nG p0.toNat (mu A55 38 p0.toNat xs.toNat x68) := G58
                refine m_blk 252 [(3, vi 0), (2, vi xs), (1, vi p0), (0, vr 0 0)] [vi 3, vi 0] C f_q_step_250_2 rfl ?_
                refine m_icmp_ne (tgt := 259) C e_q_step_252 (by decide) (by decide) (by decide) (fun c73 => ?_) (fun c73 => (by omega : False).elim)
                refine m_blk 260 [(3, vi 0), (2, vi xs), (1, vi p0), (0, vr 0 0)] [vr 0 0] C f_q_step_259_1 rfl ?_
                refine m_getr C e_q_step_260 fg_Mo_30 rfl (by decide) rfl ?_
                refine m_blk 264 [(3, vi 0), (2, vi xs), (1, vi p0), (0, vr 0 0)] [vi p0, vr 17 0] C f_q_step_263_1 rfl ?_
                refine m_aald C p0.toNat e_q_step_264 rfl rfl rfl (by decide) (by decide) (by omega) (by show p0 < ((6 : Nat) : Int); omega) (mz _ _) ?_
                refine m_blk 267 [(3, vi 0), (2, vi xs), (1, vi p0), (0, vr 0 0)] [vr 0 0, vi xs, vr 37 p0.toNat] C f_q_step_265_2 rfl ?_
                refine m_geti C e_q_step_267 fg_Mo_192 rfl (by decide) rfl x68 hx68 ?_
                refine m_iast C e_q_step_270 rfl (by omega) (by decide) (by omega) (by show xs < ((16 : Nat) : Int); omega) ?_
                have t74 : mTy (mu (mu A55 38 p0.toNat xs.toNat x68) 37 p0.toNat xs.toNat x68) := t69.mu (by show 0 ≤ x68 ∧ x68 ≤ 16; omega)
                have q75 := q70.mu (f := 37) (k := p0.toNat) (j := xs.toNat) (z := x68) (by simp [pm])
                have Q76 : pQ p0.toNat (A 0 0 28) (A 0 0 29) (A 0 0 30) A (mu (mu A55 38 p0.toNat xs.toNat x68) 37 p0.toNat xs.toNat x68) := pQ.mu (A2 := (mu A55 38 p0.toNat xs.toNat x68)) Q71 (by omega) (by omega) (by omega)
                have G77 : nG p0.toNat (mu (mu A55 38 p0.toNat xs.toNat x68) 37 p0.toNat xs.toNat x68) := G72
                exact m_vret C Rm E e_q_step_271 ⟨rfl, t74, q75, (by show A55 0 0 24 ≤ A55 0 0 23 ∧ A55 0 0 23 ≤ A55 0 0 22; omega), pt_n57, (pV.one' (i := xs.toNat) g0 (by show A 0 0 24 - A 0 0 30 - 3 * A 0 0 29 ≤ A55 0 0 24 - A55 0 0 30 - 3 * A55 0 0 29; omega) (by omega) (by show A55 0 0 28 = A 0 0 28 + 1; omega) (sG.mk r34_n57 r35_n57 hnu_n57 (mu_at (mu A55 38 p0.toNat xs.toNat x68) 37 p0.toNat xs.toNat x68) (mu_at A55 38 p0.toNat xs.toNat x68) r39_n57 r40_n57 (by decide) (by show _ ∧ _ ∧ _ ≤ A55 0 0 28; omega) (by show _ ∧ _ < A55 0 0 30; omega) (by omega) (by omega) (by omega) (by decide) (fun _ => ⟨by omega, by omega, by show _ ≤ A55 0 0 29; omega, uw_n57⟩) (by show 0 ≤ (4 - (d : Int)) ∧ (4 - (d : Int)) ≤ 4; omega) (by decide))), (by show A 0 0 24 ≤ A55 0 0 24 ∧ A 0 0 28 ≤ A55 0 0 28 ∧ A 0 0 29 ≤ A55 0 0 29 ∧ A 0 0 30 ≤ A55 0 0 30 ∧ A55 0 0 27 = A 0 0 27; omega), G77, Q76⟩
              · clear raw_hw_n57
                refine m_blk 148 [(3, vi 0), (2, vi xs), (1, vi p0), (0, vr 0 0)] [vi 4, vi 0] C f_q_step_146_2 rfl ?_
                refine m_icmp_ne (tgt := 167) C e_q_step_148 (by decide) (by decide) (by decide) (fun c78 => ?_) (fun c78 => (by omega : False).elim)
                refine m_blk 169 [(3, vi 0), (2, vi xs), (1, vi p0), (0, vr 0 0)] [vi 5, vi 0] C f_q_step_167_2 rfl ?_
                refine m_icmp_ne (tgt := 192) C e_q_step_169 (by decide) (by decide) (by decide) (fun c79 => ?_) (fun c79 => (by omega : False).elim)
                refine m_blk 194 [(3, vi 0), (2, vi xs), (1, vi p0), (0, vr 0 0)] [vi 1, vi 0] C f_q_step_192_2 rfl ?_
                refine m_icmp_eq (tgt := 212) C e_q_step_194 (by decide) (by decide) (by decide) (fun c80 => (by omega : False).elim) (fun c80 => ?_)
                refine m_blk 199 [(3, vi 0), (2, vi xs), (1, vi p0), (0, vr 0 0)] [vi 2, vi 0] C f_q_step_197_2 rfl ?_
                refine m_icmp_eq (tgt := 212) C e_q_step_199 (by decide) (by decide) (by decide) (fun c81 => (by omega : False).elim) (fun c81 => ?_)
                refine m_blk 204 [(3, vi 0), (2, vi xs), (1, vi p0), (0, vr 0 0)] [vi 3, vi 0] C f_q_step_202_2 rfl ?_
                refine m_icmp_eq (tgt := 212) C e_q_step_204 (by decide) (by decide) (by decide) (fun c82 => (by omega : False).elim) (fun c82 => ?_)
                refine m_blk 209 [(3, vi 0), (2, vi xs), (1, vi p0), (0, vr 0 0)] [vi 5, vi 0] C f_q_step_207_2 rfl ?_
                refine m_icmp_ne (tgt := 224) C e_q_step_209 (by decide) (by decide) (by decide) (fun c83 => ?_) (fun c83 => (by omega : False).elim)
                refine m_blk 226 [(3, vi 0), (2, vi xs), (1, vi p0), (0, vr 0 0)] [vi 3, vi 0] C f_q_step_224_2 rfl ?_
                refine m_icmp_eq (tgt := 234) C e_q_step_226 (by decide) (by decide) (by decide) (fun c84 => (by omega : False).elim) (fun c84 => ?_)
                refine m_blk 231 [(3, vi 0), (2, vi xs), (1, vi p0), (0, vr 0 0)] [vi 4, vi 0] C f_q_step_229_2 rfl ?_
                refine m_icmp_ne (tgt := 238) C e_q_step_231 (by decide) (by decide) (by decide) (fun c85 => ?_) (fun c85 => (by omega : False).elim)
                refine m_blk 239 [(3, vi 0), (2, vi xs), (1, vi p0), (0, vr 0 0)] [vr 0 0] C f_q_step_238_1 rfl ?_
                refine m_getr C e_q_step_239 fg_Mo_33 rfl (by decide) rfl ?_
                refine m_blk 243 [(3, vi 0), (2, vi xs), (1, vi p0), (0, vr 0 0)] [vi p0, vr 18 0] C f_q_step_242_1 rfl ?_
                refine m_aald C p0.toNat e_q_step_243 rfl rfl rfl (by decide) (by decide) (by omega) (by show p0 < ((6 : Nat) : Int); omega) (mz _ _) ?_
                refine m_blk 246 [(3, vi 0), (2, vi xs), (1, vi p0), (0, vr 0 0)] [vr 0 0, vi xs, vr 38 p0.toNat] C f_q_step_244_2 rfl ?_
                obtain ⟨x86, hx86⟩ : ∃ x, A55 0 0 28 = x := ⟨_, rfl⟩
                have rx86 : 0 ≤ x86 ∧ x86 ≤ 16 := mrg hT_n57 hx86 rfl
                refine m_geti C e_q_step_246 fg_Mo_192 rfl (by decide) rfl x86 hx86 ?_
                refine m_iast C e_q_step_249 rfl (by omega) (by decide) (by omega) (by show xs < ((16 : Nat) : Int); omega) ?_
                have t87 : mTy (mu A55 38 p0.toNat xs.toNat x86) := hT_n57.mu (by show 0 ≤ x86 ∧ x86 ≤ 16; omega)
                have q88 := hF_n57.mu (f := 38) (k := p0.toNat) (j := xs.toNat) (z := x86) (by simp [pm])
                have Q89 : pQ p0.toNat (A 0 0 28) (A 0 0 29) (A 0 0 30) A (mu A55 38 p0.toNat xs.toNat x86) := pQ.mu (A2 := A55) Q59 (by omega) (by omega) (by omega)
                have G90 : nG p0.toNat (mu A55 38 p0.toNat xs.toNat x86) := G58
                refine m_blk 252 [(3, vi 0), (2, vi xs), (1, vi p0), (0, vr 0 0)] [vi 3, vi 0] C f_q_step_250_2 rfl ?_
                refine m_icmp_ne (tgt := 259) C e_q_step_252 (by decide) (by decide) (by decide) (fun c91 => ?_) (fun c91 => (by omega : False).elim)
                refine m_blk 260 [(3, vi 0), (2, vi xs), (1, vi p0), (0, vr 0 0)] [vr 0 0] C f_q_step_259_1 rfl ?_
                refine m_getr C e_q_step_260 fg_Mo_30 rfl (by decide) rfl ?_
                refine m_blk 264 [(3, vi 0), (2, vi xs), (1, vi p0), (0, vr 0 0)] [vi p0, vr 17 0] C f_q_step_263_1 rfl ?_
                refine m_aald C p0.toNat e_q_step_264 rfl rfl rfl (by decide) (by decide) (by omega) (by show p0 < ((6 : Nat) : Int); omega) (mz _ _) ?_
                refine m_blk 267 [(3, vi 0), (2, vi xs), (1, vi p0), (0, vr 0 0)] [vr 0 0, vi xs, vr 37 p0.toNat] C f_q_step_265_2 rfl ?_
                refine m_geti C e_q_step_267 fg_Mo_192 rfl (by decide) rfl x86 hx86 ?_
                refine m_iast C e_q_step_270 rfl (by omega) (by decide) (by omega) (by show xs < ((16 : Nat) : Int); omega) ?_
                have t92 : mTy (mu (mu A55 38 p0.toNat xs.toNat x86) 37 p0.toNat xs.toNat x86) := t87.mu (by show 0 ≤ x86 ∧ x86 ≤ 16; omega)
                have q93 := q88.mu (f := 37) (k := p0.toNat) (j := xs.toNat) (z := x86) (by simp [pm])
                have Q94 : pQ p0.toNat (A 0 0 28) (A 0 0 29) (A 0 0 30) A (mu (mu A55 38 p0.toNat xs.toNat x86) 37 p0.toNat xs.toNat x86) := pQ.mu (A2 := (mu A55 38 p0.toNat xs.toNat x86)) Q89 (by omega) (by omega) (by omega)
                have G95 : nG p0.toNat (mu (mu A55 38 p0.toNat xs.toNat x86) 37 p0.toNat xs.toNat x86) := G90
                exact m_vret C Rm E e_q_step_271 ⟨rfl, t92, q93, (by show A55 0 0 24 ≤ A55 0 0 23 ∧ A55 0 0 23 ≤ A55 0 0 22; omega), pt_n57, (fun h9 => absurd ((g_n57 : A55 0 0 31 = 1).symm.trans h9) (by decide)), (by show A 0 0 24 ≤ A55 0 0 24 ∧ A 0 0 28 ≤ A55 0 0 28 ∧ A 0 0 29 ≤ A55 0 0 29 ∧ A 0 0 30 ≤ A55 0 0 30 ∧ A55 0 0 27 = A 0 0 27; omega), G95, Q94⟩
            · clear raw_hw_n45
              refine m_iast C e_q_step_135 rfl (by omega) (by decide) (by omega) (by show xs < ((16 : Nat) : Int); omega) ?_
              have t96 : mTy (mu A43 35 p0.toNat xs.toNat z46) := hT_n45.mu (by show (-1) ≤ z46 ∧ z46 ≤ 5; omega)
              have q97 := hF_n45.mu (f := 35) (k := p0.toNat) (j := xs.toNat) (z := z46) (by simp [pm])
              have Q98 : pQ p0.toNat (A 0 0 28) (A 0 0 29) (A 0 0 30) A (mu A43 35 p0.toNat xs.toNat z46) := pQ.mu (A2 := A43) Q48 (by omega) (by omega) (by omega)
              have G99 : nG p0.toNat (mu A43 35 p0.toNat xs.toNat z46) := G47
              refine m_blk 137 [(3, vi 0), (2, vi xs), (1, vi p0), (0, vr 0 0)] [vi 0] C f_q_step_136_1 rfl ?_
              refine m_if_ne (tgt := 146) C e_q_step_137 (by decide) (by decide) (fun c100 => (by omega : False).elim) (fun c100 => ?_)
              refine m_blk 143 [(3, vi 0), (2, vi xs), (1, vi p0), (0, vr 0 0)] [vi xs, vi p0, vr 0 0] C f_q_step_140_3 rfl ?_
              refine m_callV C Rm Y [vi p0, vi xs] [] (q_lotsOf l D B H0 ad _ hS t96 p0 xs (by show A43 0 0 0 = p0 ∧ 0 ≤ p0 ∧ p0 ≤ 5; omega) (by show 0 ≤ xs ∧ xs ≤ 15; omega) (by show A43 0 0 24 ≤ A43 0 0 23 ∧ A43 0 0 23 ≤ A43 0 0 22; omega) pt_n45 (fun h9 => absurd ((g_n45 : A43 0 0 31 = 1).symm.trans h9) (by decide))) cl_Mo_202 rfl (by decide) rfl rfl e_q_step_143 rfl rfl rfl ⟨by show _ ≤ (32 + 4 * d : Nat); omega, by show _ ≤ (630 + 300 * d : Nat); omega⟩ ?_
              rintro v101 A102 ⟨rfl, hT_n104, hE_n104, raw_hb_n104, raw_hn_n104, raw_hm_n104, raw_hw_n104, raw_hQ_n104, raw_hN_n104⟩
              have hF_n104 := q97.trans (hE_n104.sub (lo_pm _))
              show JM g D ad w0 A102 146 [(3, vi 0), (2, vi xs), (1, vi p0), (0, vr 0 0)] []
              have hb_n104 : A102 0 0 24 ≤ A102 0 0 23 ∧ A102 0 0 23 ≤ A102 0 0 22 := raw_hb_n104
              clear raw_hb_n104
              have hm_n104 : A43 0 0 24 ≤ A102 0 0 24 ∧ A43 0 0 29 ≤ A102 0 0 29 := raw_hm_n104
              clear raw_hm_n104
              have pt_n104 : pT A102 := raw_hn_n104
              have k0_n104 : A102 0 0 0 = A43 0 0 0 := hE_n104 0 0 0 (by simp [lo])
              have k22_n104 : A102 0 0 22 = A43 0 0 22 := hE_n104 0 0 22 (by simp [lo])
              have k27_n104 : A102 0 0 27 = A43 0 0 27 := hE_n104 0 0 27 (by simp [lo])
              have k28_n104 : A102 0 0 28 = A43 0 0 28 := hE_n104 0 0 28 (by simp [lo])
              have k30_n104 : A102 0 0 30 = A43 0 0 30 := hE_n104 0 0 30 (by simp [lo])
              have G105 : nG p0.toNat A102 := nG.lots (A := (mu A43 35 p0.toNat xs.toNat z46)) G99 hE_n104 (hE_n104 0 0 30 (by simp [lo]))
              have hL_n104 : lQ p0.toNat (A43 0 0 29) (mu A43 35 p0.toNat xs.toNat z46) A102 := raw_hQ_n104
              have hM_n104 : lNm p0.toNat xs.toNat (mu A43 35 p0.toNat xs.toNat z46) A102 := raw_hN_n104
              have Q106 : pQ p0.toNat (A 0 0 28) (A 0 0 29) (A 0 0 30) A A102 := pQ.lots (A2 := (mu A43 35 p0.toNat xs.toNat z46)) Q98 hE_n104 hL_n104 (by show A 0 0 29 ≤ A43 0 0 29; omega) hM_n104 (by omega)
              have r34_n104 : A102 34 p0.toNat xs.toNat = 0 := Eq.trans (hE_n104 34 p0.toNat xs.toNat (by simp [lo])) r34_n45
              have r35_n104 : A102 35 p0.toNat xs.toNat = z46 := Eq.trans (hE_n104 35 p0.toNat xs.toNat (by simp [lo])) (mu_at A43 35 p0.toNat xs.toNat z46)
              have r39_n104 : A102 39 p0.toNat xs.toNat = (-1) := Eq.trans (hE_n104 39 p0.toNat xs.toNat (by simp [lo])) r39_n45
              have r40_n104 : A102 40 p0.toNat xs.toNat = x30 := Eq.trans (hE_n104 40 p0.toNat xs.toNat (by simp [lo])) r40_n45
              obtain ⟨nu_n104, hnu_n104⟩ : ∃ x, A102 36 p0.toNat xs.toNat = x := ⟨_, rfl⟩
              have g_n104 : A102 0 0 31 = 1 := wr_1 (hT_n104 0 0 31) (fun h9 => absurd ((g_n45 : A43 0 0 31 = 1).symm.trans (raw_hw_n104 h9).1) (by decide))
              clear raw_hw_n104
              refine m_blk 148 [(3, vi 0), (2, vi xs), (1, vi p0), (0, vr 0 0)] [vi 4, vi 0] C f_q_step_146_2 rfl ?_
              refine m_icmp_ne (tgt := 167) C e_q_step_148 (by decide) (by decide) (by decide) (fun c107 => ?_) (fun c107 => (by omega : False).elim)
              refine m_blk 169 [(3, vi 0), (2, vi xs), (1, vi p0), (0, vr 0 0)] [vi 5, vi 0] C f_q_step_167_2 rfl ?_
              refine m_icmp_ne (tgt := 192) C e_q_step_169 (by decide) (by decide) (by decide) (fun c108 => ?_) (fun c108 => (by omega : False).elim)
              refine m_blk 194 [(3, vi 0), (2, vi xs), (1, vi p0), (0, vr 0 0)] [vi 1, vi 0] C f_q_step_192_2 rfl ?_
              refine m_icmp_eq (tgt := 212) C e_q_step_194 (by decide) (by decide) (by decide) (fun c109 => (by omega : False).elim) (fun c109 => ?_)
              refine m_blk 199 [(3, vi 0), (2, vi xs), (1, vi p0), (0, vr 0 0)] [vi 2, vi 0] C f_q_step_197_2 rfl ?_
              refine m_icmp_eq (tgt := 212) C e_q_step_199 (by decide) (by decide) (by decide) (fun c110 => (by omega : False).elim) (fun c110 => ?_)
              refine m_blk 204 [(3, vi 0), (2, vi xs), (1, vi p0), (0, vr 0 0)] [vi 3, vi 0] C f_q_step_202_2 rfl ?_
              refine m_icmp_eq (tgt := 212) C e_q_step_204 (by decide) (by decide) (by decide) (fun c111 => (by omega : False).elim) (fun c111 => ?_)
              refine m_blk 209 [(3, vi 0), (2, vi xs), (1, vi p0), (0, vr 0 0)] [vi 5, vi 0] C f_q_step_207_2 rfl ?_
              refine m_icmp_ne (tgt := 224) C e_q_step_209 (by decide) (by decide) (by decide) (fun c112 => ?_) (fun c112 => (by omega : False).elim)
              refine m_blk 226 [(3, vi 0), (2, vi xs), (1, vi p0), (0, vr 0 0)] [vi 3, vi 0] C f_q_step_224_2 rfl ?_
              refine m_icmp_eq (tgt := 234) C e_q_step_226 (by decide) (by decide) (by decide) (fun c113 => (by omega : False).elim) (fun c113 => ?_)
              refine m_blk 231 [(3, vi 0), (2, vi xs), (1, vi p0), (0, vr 0 0)] [vi 4, vi 0] C f_q_step_229_2 rfl ?_
              refine m_icmp_ne (tgt := 238) C e_q_step_231 (by decide) (by decide) (by decide) (fun c114 => ?_) (fun c114 => (by omega : False).elim)
              refine m_blk 239 [(3, vi 0), (2, vi xs), (1, vi p0), (0, vr 0 0)] [vr 0 0] C f_q_step_238_1 rfl ?_
              refine m_getr C e_q_step_239 fg_Mo_33 rfl (by decide) rfl ?_
              refine m_blk 243 [(3, vi 0), (2, vi xs), (1, vi p0), (0, vr 0 0)] [vi p0, vr 18 0] C f_q_step_242_1 rfl ?_
              refine m_aald C p0.toNat e_q_step_243 rfl rfl rfl (by decide) (by decide) (by omega) (by show p0 < ((6 : Nat) : Int); omega) (mz _ _) ?_
              refine m_blk 246 [(3, vi 0), (2, vi xs), (1, vi p0), (0, vr 0 0)] [vr 0 0, vi xs, vr 38 p0.toNat] C f_q_step_244_2 rfl ?_
              obtain ⟨x115, hx115⟩ : ∃ x, A102 0 0 28 = x := ⟨_, rfl⟩
              have rx115 : 0 ≤ x115 ∧ x115 ≤ 16 := mrg hT_n104 hx115 rfl
              refine m_geti C e_q_step_246 fg_Mo_192 rfl (by decide) rfl x115 hx115 ?_
              refine m_iast C e_q_step_249 rfl (by omega) (by decide) (by omega) (by show xs < ((16 : Nat) : Int); omega) ?_
              have t116 : mTy (mu A102 38 p0.toNat xs.toNat x115) := hT_n104.mu (by show 0 ≤ x115 ∧ x115 ≤ 16; omega)
              have q117 := hF_n104.mu (f := 38) (k := p0.toNat) (j := xs.toNat) (z := x115) (by simp [pm])
              have Q118 : pQ p0.toNat (A 0 0 28) (A 0 0 29) (A 0 0 30) A (mu A102 38 p0.toNat xs.toNat x115) := pQ.mu (A2 := A102) Q106 (by omega) (by omega) (by omega)
              have G119 : nG p0.toNat (mu A102 38 p0.toNat xs.toNat x115) := G105
              refine m_blk 252 [(3, vi 0), (2, vi xs), (1, vi p0), (0, vr 0 0)] [vi 3, vi 0] C f_q_step_250_2 rfl ?_
              refine m_icmp_ne (tgt := 259) C e_q_step_252 (by decide) (by decide) (by decide) (fun c120 => ?_) (fun c120 => (by omega : False).elim)
              refine m_blk 260 [(3, vi 0), (2, vi xs), (1, vi p0), (0, vr 0 0)] [vr 0 0] C f_q_step_259_1 rfl ?_
              refine m_getr C e_q_step_260 fg_Mo_30 rfl (by decide) rfl ?_
              refine m_blk 264 [(3, vi 0), (2, vi xs), (1, vi p0), (0, vr 0 0)] [vi p0, vr 17 0] C f_q_step_263_1 rfl ?_
              refine m_aald C p0.toNat e_q_step_264 rfl rfl rfl (by decide) (by decide) (by omega) (by show p0 < ((6 : Nat) : Int); omega) (mz _ _) ?_
              refine m_blk 267 [(3, vi 0), (2, vi xs), (1, vi p0), (0, vr 0 0)] [vr 0 0, vi xs, vr 37 p0.toNat] C f_q_step_265_2 rfl ?_
              refine m_geti C e_q_step_267 fg_Mo_192 rfl (by decide) rfl x115 hx115 ?_
              refine m_iast C e_q_step_270 rfl (by omega) (by decide) (by omega) (by show xs < ((16 : Nat) : Int); omega) ?_
              have t121 : mTy (mu (mu A102 38 p0.toNat xs.toNat x115) 37 p0.toNat xs.toNat x115) := t116.mu (by show 0 ≤ x115 ∧ x115 ≤ 16; omega)
              have q122 := q117.mu (f := 37) (k := p0.toNat) (j := xs.toNat) (z := x115) (by simp [pm])
              have Q123 : pQ p0.toNat (A 0 0 28) (A 0 0 29) (A 0 0 30) A (mu (mu A102 38 p0.toNat xs.toNat x115) 37 p0.toNat xs.toNat x115) := pQ.mu (A2 := (mu A102 38 p0.toNat xs.toNat x115)) Q118 (by omega) (by omega) (by omega)
              have G124 : nG p0.toNat (mu (mu A102 38 p0.toNat xs.toNat x115) 37 p0.toNat xs.toNat x115) := G119
              exact m_vret C Rm E e_q_step_271 ⟨rfl, t121, q122, (by show A102 0 0 24 ≤ A102 0 0 23 ∧ A102 0 0 23 ≤ A102 0 0 22; omega), pt_n104, (fun h9 => absurd ((g_n104 : A102 0 0 31 = 1).symm.trans h9) (by decide)), (by show A 0 0 24 ≤ A102 0 0 24 ∧ A 0 0 28 ≤ A102 0 0 28 ∧ A 0 0 29 ≤ A102 0 0 29 ∧ A 0 0 30 ≤ A102 0 0 30 ∧ A102 0 0 27 = A 0 0 27; omega), G124, Q123⟩
          · refine m_blk 108 [(3, vi 0), (2, vi xs), (1, vi p0), (0, vr 0 0)] [vi 0] C f_q_step_107_1 rfl ?_
            refine m_if_eq (tgt := 121) C e_q_step_108 (by decide) (by decide) (fun c125 => ?_) (fun c125 => (by omega : False).elim)
            refine m_blk 122 [(3, vi 0), (2, vi xs), (1, vi p0), (0, vr 0 0)] [vr 0 0] C f_q_step_121_1 rfl ?_
            refine m_getr C e_q_step_122 fg_Mo_24 rfl (by decide) rfl ?_
            refine m_blk 126 [(3, vi 0), (2, vi xs), (1, vi p0), (0, vr 0 0)] [vi p0, vr 15 0] C f_q_step_125_1 rfl ?_
            refine m_aald C p0.toNat e_q_step_126 rfl rfl rfl (by decide) (by decide) (by omega) (by show p0 < ((6 : Nat) : Int); omega) (mz _ _) ?_
            refine m_blk 132 [(3, vi 0), (2, vi xs), (1, vi p0), (0, vr 0 0)] [vi 5, vi 0, vi 1, vr 0 0, vi xs, vr 35 p0.toNat] C f_q_step_127_5 rfl ?_
            refine m_callV C Rm Y [vi 1, vi 0, vi 5] [vi xs, vr 35 p0.toNat] (q_takes l D B H0 ad _ hS hT_n38 1 0 5 (by show 1 ≤ 1 ∧ 1 ≤ 4; omega) (by show 0 ≤ 0 ∧ 0 ≤ 2147483647 ∧ -1 ≤ 5 ∧ 5 ≤ 2147483647; omega) (by show A36 0 0 24 ≤ A36 0 0 23 ∧ A36 0 0 23 ≤ A36 0 0 22; omega) pt_n38) cl_Mo_198 rfl (by decide) rfl rfl e_q_step_132 rfl rfl rfl ⟨by show _ ≤ (32 + 4 * d : Nat); omega, by show _ ≤ (630 + 300 * d : Nat); omega⟩ ?_
            rintro v126 A127 ⟨z130, rfl, hT_n129, hE_n129, raw_hz_n129, raw_hb_n129, raw_hn_n129, raw_hw_n129, raw_hm_n129⟩
            have hF_n129 := hF_n38.trans (hE_n129.sub (nm_pm _))
            show JM g D ad w0 A127 135 [(3, vi 0), (2, vi xs), (1, vi p0), (0, vr 0 0)] [vi z130, vi xs, vr 35 p0.toNat]
            have hb_n129 : A127 0 0 24 ≤ A127 0 0 23 ∧ A127 0 0 23 ≤ A127 0 0 22 := raw_hb_n129
            clear raw_hb_n129
            have hm_n129 : A36 0 0 24 ≤ A127 0 0 24 := raw_hm_n129
            clear raw_hm_n129
            have hz_n129 : z130 = 0 ∨ 0 ≤ z130 ∧ z130 ≤ 5 := raw_hz_n129
            clear raw_hz_n129
            have pt_n129 : pT A127 := raw_hn_n129
            clear raw_hn_n129
            have k0_n129 : A127 0 0 0 = A36 0 0 0 := hE_n129 0 0 0 rfl
            have k22_n129 : A127 0 0 22 = A36 0 0 22 := hE_n129 0 0 22 rfl
            have k27_n129 : A127 0 0 27 = A36 0 0 27 := hE_n129 0 0 27 rfl
            have k28_n129 : A127 0 0 28 = A36 0 0 28 := hE_n129 0 0 28 rfl
            have k29_n129 : A127 0 0 29 = A36 0 0 29 := hE_n129 0 0 29 rfl
            have k30_n129 : A127 0 0 30 = A36 0 0 30 := hE_n129 0 0 30 rfl
            have G131 : nG p0.toNat A127 := nG.nm (A := A36) G39 hE_n129
            have Q132 : pQ p0.toNat (A 0 0 28) (A 0 0 29) (A 0 0 30) A A127 := pQ.fam (A2 := A36) Q40 (fam_nm _ hE_n129)
            have r34_n129 : A127 34 p0.toNat xs.toNat = 0 := Eq.trans (hE_n129 34 p0.toNat xs.toNat rfl) r34_n38
            have r35_n129 : A127 35 p0.toNat xs.toNat = (-1) := Eq.trans (hE_n129 35 p0.toNat xs.toNat rfl) r35_n38
            have r36_n129 : A127 36 p0.toNat xs.toNat = (-1) := Eq.trans (hE_n129 36 p0.toNat xs.toNat rfl) r36_n38
            have r39_n129 : A127 39 p0.toNat xs.toNat = (-1) := Eq.trans (hE_n129 39 p0.toNat xs.toNat rfl) r39_n38
            have r40_n129 : A127 40 p0.toNat xs.toNat = x30 := Eq.trans (hE_n129 40 p0.toNat xs.toNat rfl) r40_n38
            have g_n129 : A127 0 0 31 = 1 := wr_1 (hT_n129 0 0 31) (fun h9 => absurd ((g_n38 : A36 0 0 31 = 1).symm.trans (raw_hw_n129 h9).1) (by decide))
            clear raw_hw_n129
            refine m_iast C e_q_step_135 rfl (by omega) (by decide) (by omega) (by show xs < ((16 : Nat) : Int); omega) ?_
            have t133 : mTy (mu A127 35 p0.toNat xs.toNat z130) := hT_n129.mu (by show (-1) ≤ z130 ∧ z130 ≤ 5; omega)
            have q134 := hF_n129.mu (f := 35) (k := p0.toNat) (j := xs.toNat) (z := z130) (by simp [pm])
            have Q135 : pQ p0.toNat (A 0 0 28) (A 0 0 29) (A 0 0 30) A (mu A127 35 p0.toNat xs.toNat z130) := pQ.mu (A2 := A127) Q132 (by omega) (by omega) (by omega)
            have G136 : nG p0.toNat (mu A127 35 p0.toNat xs.toNat z130) := G131
            refine m_blk 137 [(3, vi 0), (2, vi xs), (1, vi p0), (0, vr 0 0)] [vi 0] C f_q_step_136_1 rfl ?_
            refine m_if_ne (tgt := 146) C e_q_step_137 (by decide) (by decide) (fun c137 => (by omega : False).elim) (fun c137 => ?_)
            refine m_blk 143 [(3, vi 0), (2, vi xs), (1, vi p0), (0, vr 0 0)] [vi xs, vi p0, vr 0 0] C f_q_step_140_3 rfl ?_
            refine m_callV C Rm Y [vi p0, vi xs] [] (q_lotsOf l D B H0 ad _ hS t133 p0 xs (by show A127 0 0 0 = p0 ∧ 0 ≤ p0 ∧ p0 ≤ 5; omega) (by show 0 ≤ xs ∧ xs ≤ 15; omega) (by show A127 0 0 24 ≤ A127 0 0 23 ∧ A127 0 0 23 ≤ A127 0 0 22; omega) pt_n129 (fun h9 => absurd ((g_n129 : A127 0 0 31 = 1).symm.trans h9) (by decide))) cl_Mo_202 rfl (by decide) rfl rfl e_q_step_143 rfl rfl rfl ⟨by show _ ≤ (32 + 4 * d : Nat); omega, by show _ ≤ (630 + 300 * d : Nat); omega⟩ ?_
            rintro v138 A139 ⟨rfl, hT_n141, hE_n141, raw_hb_n141, raw_hn_n141, raw_hm_n141, raw_hw_n141, raw_hQ_n141, raw_hN_n141⟩
            have hF_n141 := q134.trans (hE_n141.sub (lo_pm _))
            show JM g D ad w0 A139 146 [(3, vi 0), (2, vi xs), (1, vi p0), (0, vr 0 0)] []
            have hb_n141 : A139 0 0 24 ≤ A139 0 0 23 ∧ A139 0 0 23 ≤ A139 0 0 22 := raw_hb_n141
            clear raw_hb_n141
            have hm_n141 : A127 0 0 24 ≤ A139 0 0 24 ∧ A127 0 0 29 ≤ A139 0 0 29 := raw_hm_n141
            clear raw_hm_n141
            have pt_n141 : pT A139 := raw_hn_n141
            have k0_n141 : A139 0 0 0 = A127 0 0 0 := hE_n141 0 0 0 (by simp [lo])
            have k22_n141 : A139 0 0 22 = A127 0 0 22 := hE_n141 0 0 22 (by simp [lo])
            have k27_n141 : A139 0 0 27 = A127 0 0 27 := hE_n141 0 0 27 (by simp [lo])
            have k28_n141 : A139 0 0 28 = A127 0 0 28 := hE_n141 0 0 28 (by simp [lo])
            have k30_n141 : A139 0 0 30 = A127 0 0 30 := hE_n141 0 0 30 (by simp [lo])
            have G142 : nG p0.toNat A139 := nG.lots (A := (mu A127 35 p0.toNat xs.toNat z130)) G136 hE_n141 (hE_n141 0 0 30 (by simp [lo]))
            have hL_n141 : lQ p0.toNat (A127 0 0 29) (mu A127 35 p0.toNat xs.toNat z130) A139 := raw_hQ_n141
            have hM_n141 : lNm p0.toNat xs.toNat (mu A127 35 p0.toNat xs.toNat z130) A139 := raw_hN_n141
            have Q143 : pQ p0.toNat (A 0 0 28) (A 0 0 29) (A 0 0 30) A A139 := pQ.lots (A2 := (mu A127 35 p0.toNat xs.toNat z130)) Q135 hE_n141 hL_n141 (by show A 0 0 29 ≤ A127 0 0 29; omega) hM_n141 (by omega)
            have r34_n141 : A139 34 p0.toNat xs.toNat = 0 := Eq.trans (hE_n141 34 p0.toNat xs.toNat (by simp [lo])) r34_n129
            have r35_n141 : A139 35 p0.toNat xs.toNat = z130 := Eq.trans (hE_n141 35 p0.toNat xs.toNat (by simp [lo])) (mu_at A127 35 p0.toNat xs.toNat z130)
            have r39_n141 : A139 39 p0.toNat xs.toNat = (-1) := Eq.trans (hE_n141 39 p0.toNat xs.toNat (by simp [lo])) r39_n129
            have r40_n141 : A139 40 p0.toNat xs.toNat = x30 := Eq.trans (hE_n141 40 p0.toNat xs.toNat (by simp [lo])) r40_n129
            obtain ⟨nu_n141, hnu_n141⟩ : ∃ x, A139 36 p0.toNat xs.toNat = x := ⟨_, rfl⟩
            have g_n141 : A139 0 0 31 = 1 := wr_1 (hT_n141 0 0 31) (fun h9 => absurd ((g_n129 : A127 0 0 31 = 1).symm.trans (raw_hw_n141 h9).1) (by decide))
            clear raw_hw_n141
            refine m_blk 148 [(3, vi 0), (2, vi xs), (1, vi p0), (0, vr 0 0)] [vi 4, vi 0] C f_q_step_146_2 rfl ?_
            refine m_icmp_ne (tgt := 167) C e_q_step_148 (by decide) (by decide) (by decide) (fun c144 => ?_) (fun c144 => (by omega : False).elim)
            refine m_blk 169 [(3, vi 0), (2, vi xs), (1, vi p0), (0, vr 0 0)] [vi 5, vi 0] C f_q_step_167_2 rfl ?_
            refine m_icmp_ne (tgt := 192) C e_q_step_169 (by decide) (by decide) (by decide) (fun c145 => ?_) (fun c145 => (by omega : False).elim)
            refine m_blk 194 [(3, vi 0), (2, vi xs), (1, vi p0), (0, vr 0 0)] [vi 1, vi 0] C f_q_step_192_2 rfl ?_
            refine m_icmp_eq (tgt := 212) C e_q_step_194 (by decide) (by decide) (by decide) (fun c146 => (by omega : False).elim) (fun c146 => ?_)
            refine m_blk 199 [(3, vi 0), (2, vi xs), (1, vi p0), (0, vr 0 0)] [vi 2, vi 0] C f_q_step_197_2 rfl ?_
            refine m_icmp_eq (tgt := 212) C e_q_step_199 (by decide) (by decide) (by decide) (fun c147 => (by omega : False).elim) (fun c147 => ?_)
            refine m_blk 204 [(3, vi 0), (2, vi xs), (1, vi p0), (0, vr 0 0)] [vi 3, vi 0] C f_q_step_202_2 rfl ?_
            refine m_icmp_eq (tgt := 212) C e_q_step_204 (by decide) (by decide) (by decide) (fun c148 => (by omega : False).elim) (fun c148 => ?_)
            refine m_blk 209 [(3, vi 0), (2, vi xs), (1, vi p0), (0, vr 0 0)] [vi 5, vi 0] C f_q_step_207_2 rfl ?_
            refine m_icmp_ne (tgt := 224) C e_q_step_209 (by decide) (by decide) (by decide) (fun c149 => ?_) (fun c149 => (by omega : False).elim)
            refine m_blk 226 [(3, vi 0), (2, vi xs), (1, vi p0), (0, vr 0 0)] [vi 3, vi 0] C f_q_step_224_2 rfl ?_
            refine m_icmp_eq (tgt := 234) C e_q_step_226 (by decide) (by decide) (by decide) (fun c150 => (by omega : False).elim) (fun c150 => ?_)
            refine m_blk 231 [(3, vi 0), (2, vi xs), (1, vi p0), (0, vr 0 0)] [vi 4, vi 0] C f_q_step_229_2 rfl ?_
            refine m_icmp_ne (tgt := 238) C e_q_step_231 (by decide) (by decide) (by decide) (fun c151 => ?_) (fun c151 => (by omega : False).elim)
            refine m_blk 239 [(3, vi 0), (2, vi xs), (1, vi p0), (0, vr 0 0)] [vr 0 0] C f_q_step_238_1 rfl ?_
            refine m_getr C e_q_step_239 fg_Mo_33 rfl (by decide) rfl ?_
            refine m_blk 243 [(3, vi 0), (2, vi xs), (1, vi p0), (0, vr 0 0)] [vi p0, vr 18 0] C f_q_step_242_1 rfl ?_
            refine m_aald C p0.toNat e_q_step_243 rfl rfl rfl (by decide) (by decide) (by omega) (by show p0 < ((6 : Nat) : Int); omega) (mz _ _) ?_
            refine m_blk 246 [(3, vi 0), (2, vi xs), (1, vi p0), (0, vr 0 0)] [vr 0 0, vi xs, vr 38 p0.toNat] C f_q_step_244_2 rfl ?_
            obtain ⟨x152, hx152⟩ : ∃ x, A139 0 0 28 = x := ⟨_, rfl⟩
            have rx152 : 0 ≤ x152 ∧ x152 ≤ 16 := mrg hT_n141 hx152 rfl
            refine m_geti C e_q_step_246 fg_Mo_192 rfl (by decide) rfl x152 hx152 ?_
            refine m_iast C e_q_step_249 rfl (by omega) (by decide) (by omega) (by show xs < ((16 : Nat) : Int); omega) ?_
            have t153 : mTy (mu A139 38 p0.toNat xs.toNat x152) := hT_n141.mu (by show 0 ≤ x152 ∧ x152 ≤ 16; omega)
            have q154 := hF_n141.mu (f := 38) (k := p0.toNat) (j := xs.toNat) (z := x152) (by simp [pm])
            have Q155 : pQ p0.toNat (A 0 0 28) (A 0 0 29) (A 0 0 30) A (mu A139 38 p0.toNat xs.toNat x152) := pQ.mu (A2 := A139) Q143 (by omega) (by omega) (by omega)
            have G156 : nG p0.toNat (mu A139 38 p0.toNat xs.toNat x152) := G142
            refine m_blk 252 [(3, vi 0), (2, vi xs), (1, vi p0), (0, vr 0 0)] [vi 3, vi 0] C f_q_step_250_2 rfl ?_
            refine m_icmp_ne (tgt := 259) C e_q_step_252 (by decide) (by decide) (by decide) (fun c157 => ?_) (fun c157 => (by omega : False).elim)
            refine m_blk 260 [(3, vi 0), (2, vi xs), (1, vi p0), (0, vr 0 0)] [vr 0 0] C f_q_step_259_1 rfl ?_
            refine m_getr C e_q_step_260 fg_Mo_30 rfl (by decide) rfl ?_
            refine m_blk 264 [(3, vi 0), (2, vi xs), (1, vi p0), (0, vr 0 0)] [vi p0, vr 17 0] C f_q_step_263_1 rfl ?_
            refine m_aald C p0.toNat e_q_step_264 rfl rfl rfl (by decide) (by decide) (by omega) (by show p0 < ((6 : Nat) : Int); omega) (mz _ _) ?_
            refine m_blk 267 [(3, vi 0), (2, vi xs), (1, vi p0), (0, vr 0 0)] [vr 0 0, vi xs, vr 37 p0.toNat] C f_q_step_265_2 rfl ?_
            refine m_geti C e_q_step_267 fg_Mo_192 rfl (by decide) rfl x152 hx152 ?_
            refine m_iast C e_q_step_270 rfl (by omega) (by decide) (by omega) (by show xs < ((16 : Nat) : Int); omega) ?_
            have t158 : mTy (mu (mu A139 38 p0.toNat xs.toNat x152) 37 p0.toNat xs.toNat x152) := t153.mu (by show 0 ≤ x152 ∧ x152 ≤ 16; omega)
            have q159 := q154.mu (f := 37) (k := p0.toNat) (j := xs.toNat) (z := x152) (by simp [pm])
            have Q160 : pQ p0.toNat (A 0 0 28) (A 0 0 29) (A 0 0 30) A (mu (mu A139 38 p0.toNat xs.toNat x152) 37 p0.toNat xs.toNat x152) := pQ.mu (A2 := (mu A139 38 p0.toNat xs.toNat x152)) Q155 (by omega) (by omega) (by omega)
            have G161 : nG p0.toNat (mu (mu A139 38 p0.toNat xs.toNat x152) 37 p0.toNat xs.toNat x152) := G156
            exact m_vret C Rm E e_q_step_271 ⟨rfl, t158, q159, (by show A139 0 0 24 ≤ A139 0 0 23 ∧ A139 0 0 23 ≤ A139 0 0 22; omega), pt_n141, (fun h9 => absurd ((g_n141 : A139 0 0 31 = 1).symm.trans h9) (by decide)), (by show A 0 0 24 ≤ A139 0 0 24 ∧ A 0 0 28 ≤ A139 0 0 28 ∧ A 0 0 29 ≤ A139 0 0 29 ∧ A 0 0 30 ≤ A139 0 0 30 ∧ A139 0 0 27 = A 0 0 27; omega), G161, Q160⟩
        · have bt9 : A 0 0 24 < A 0 0 23 := pT_lt hn g0 (by omega)
          refine m_blk 104 [(3, vi 1), (2, vi xs), (1, vi p0), (0, vr 0 0)] [vr 0 0] C f_q_step_103_1 rfl ?_
          refine m_callV C Rm Y [] [] (q_next l D B H0 ad _ hS t31 (by show A 0 0 23 ≤ A 0 0 22; omega)) cl_Mo_176 rfl (by decide) rfl rfl e_q_step_104 rfl rfl rfl ⟨by show _ ≤ (32 + 4 * d : Nat); omega, by show _ ≤ (630 + 300 * d : Nat); omega⟩ ?_
          rintro v162 A163 ⟨rfl, hT_n165, hE_n165, raw_hw_n165, raw_hb_n165⟩
          have hF_n165 := q32.trans (hE_n165.sub (nm_pm _))
          show JM g D ad w0 A163 107 [(3, vi 1), (2, vi xs), (1, vi p0), (0, vr 0 0)] []
          obtain ⟨b1_n165, b2_n165, b3_n165, pt_n165⟩ : A 0 0 23 ≤ A163 0 0 24 ∧ A163 0 0 24 ≤ A163 0 0 23 ∧ A163 0 0 23 ≤ A163 0 0 22 ∧ pT A163 := raw_hb_n165 g0
          clear raw_hb_n165 raw_hw_n165
          have k0_n165 : A163 0 0 0 = A 0 0 0 := hE_n165 0 0 0 rfl
          have k22_n165 : A163 0 0 22 = A 0 0 22 := hE_n165 0 0 22 rfl
          have k27_n165 : A163 0 0 27 = A 0 0 27 := hE_n165 0 0 27 rfl
          have k28_n165 : A163 0 0 28 = (xs + 1) := hE_n165 0 0 28 rfl
          have k29_n165 : A163 0 0 29 = A 0 0 29 := hE_n165 0 0 29 rfl
          have k30_n165 : A163 0 0 30 = A 0 0 30 := hE_n165 0 0 30 rfl
          have G166 : nG p0.toNat A163 := nG.nm (A := (mu (mu (mu (mu (mu (mu A 0 0 28 (xs + 1)) 34 p0.toNat xs.toNat 1) 35 p0.toNat xs.toNat (-1)) 36 p0.toNat xs.toNat (-1)) 39 p0.toNat xs.toNat (-1)) 40 p0.toNat xs.toNat x30)) G34 hE_n165
          have Q167 : pQ p0.toNat (A 0 0 28) (A 0 0 29) (A 0 0 30) A A163 := pQ.fam (A2 := (mu (mu (mu (mu (mu (mu A 0 0 28 (xs + 1)) 34 p0.toNat xs.toNat 1) 35 p0.toNat xs.toNat (-1)) 36 p0.toNat xs.toNat (-1)) 39 p0.toNat xs.toNat (-1)) 40 p0.toNat xs.toNat x30)) Q33 (fam_nm _ hE_n165)
          have r34_n165 : A163 34 p0.toNat xs.toNat = 1 := Eq.trans (hE_n165 34 p0.toNat xs.toNat rfl) (mu_at (mu A 0 0 28 (xs + 1)) 34 p0.toNat xs.toNat 1)
          have r35_n165 : A163 35 p0.toNat xs.toNat = (-1) := Eq.trans (hE_n165 35 p0.toNat xs.toNat rfl) (mu_at (mu (mu A 0 0 28 (xs + 1)) 34 p0.toNat xs.toNat 1) 35 p0.toNat xs.toNat (-1))
          have r36_n165 : A163 36 p0.toNat xs.toNat = (-1) := Eq.trans (hE_n165 36 p0.toNat xs.toNat rfl) (mu_at (mu (mu (mu A 0 0 28 (xs + 1)) 34 p0.toNat xs.toNat 1) 35 p0.toNat xs.toNat (-1)) 36 p0.toNat xs.toNat (-1))
          have r39_n165 : A163 39 p0.toNat xs.toNat = (-1) := Eq.trans (hE_n165 39 p0.toNat xs.toNat rfl) (mu_at (mu (mu (mu (mu A 0 0 28 (xs + 1)) 34 p0.toNat xs.toNat 1) 35 p0.toNat xs.toNat (-1)) 36 p0.toNat xs.toNat (-1)) 39 p0.toNat xs.toNat (-1))
          have r40_n165 : A163 40 p0.toNat xs.toNat = x30 := Eq.trans (hE_n165 40 p0.toNat xs.toNat rfl) (mu_at (mu (mu (mu (mu (mu A 0 0 28 (xs + 1)) 34 p0.toNat xs.toNat 1) 35 p0.toNat xs.toNat (-1)) 36 p0.toNat xs.toNat (-1)) 39 p0.toNat xs.toNat (-1)) 40 p0.toNat xs.toNat x30)
          rcases (show A163 0 0 31 = 0 ∨ A163 0 0 31 = 1 from by have w9 := hT_n165 0 0 31; have w8 : 0 ≤ A163 0 0 31 ∧ A163 0 0 31 ≤ 1 := w9; omega) with g_n165 | g_n165
          · refine m_blk 108 [(3, vi 1), (2, vi xs), (1, vi p0), (0, vr 0 0)] [vi 1] C f_q_step_107_1 rfl ?_
            refine m_if_eq (tgt := 121) C e_q_step_108 (by decide) (by decide) (fun c168 => (by omega : False).elim) (fun c168 => ?_)
            refine m_blk 113 [(3, vi 1), (2, vi xs), (1, vi p0), (0, vr 0 0)] [vi 1, vi 1] C f_q_step_111_2 rfl ?_
            refine m_icmp_eq (tgt := 121) C e_q_step_113 (by decide) (by decide) (by decide) (fun c169 => ?_) (fun c169 => (by omega : False).elim)
            refine m_blk 122 [(3, vi 1), (2, vi xs), (1, vi p0), (0, vr 0 0)] [vr 0 0] C f_q_step_121_1 rfl ?_
            refine m_getr C e_q_step_122 fg_Mo_24 rfl (by decide) rfl ?_
            refine m_blk 126 [(3, vi 1), (2, vi xs), (1, vi p0), (0, vr 0 0)] [vi p0, vr 15 0] C f_q_step_125_1 rfl ?_
            refine m_aald C p0.toNat e_q_step_126 rfl rfl rfl (by decide) (by decide) (by omega) (by show p0 < ((6 : Nat) : Int); omega) (mz _ _) ?_
            refine m_blk 132 [(3, vi 1), (2, vi xs), (1, vi p0), (0, vr 0 0)] [vi 5, vi 0, vi 1, vr 0 0, vi xs, vr 35 p0.toNat] C f_q_step_127_5 rfl ?_
            refine m_callV C Rm Y [vi 1, vi 0, vi 5] [vi xs, vr 35 p0.toNat] (q_takes l D B H0 ad _ hS hT_n165 1 0 5 (by show 1 ≤ 1 ∧ 1 ≤ 4; omega) (by show 0 ≤ 0 ∧ 0 ≤ 2147483647 ∧ -1 ≤ 5 ∧ 5 ≤ 2147483647; omega) (by show A163 0 0 24 ≤ A163 0 0 23 ∧ A163 0 0 23 ≤ A163 0 0 22; omega) pt_n165) cl_Mo_198 rfl (by decide) rfl rfl e_q_step_132 rfl rfl rfl ⟨by show _ ≤ (32 + 4 * d : Nat); omega, by show _ ≤ (630 + 300 * d : Nat); omega⟩ ?_
            rintro v170 A171 ⟨z174, rfl, hT_n173, hE_n173, raw_hz_n173, raw_hb_n173, raw_hn_n173, raw_hw_n173, raw_hm_n173⟩
            have hF_n173 := hF_n165.trans (hE_n173.sub (nm_pm _))
            show JM g D ad w0 A171 135 [(3, vi 1), (2, vi xs), (1, vi p0), (0, vr 0 0)] [vi z174, vi xs, vr 35 p0.toNat]
            have hb_n173 : A171 0 0 24 ≤ A171 0 0 23 ∧ A171 0 0 23 ≤ A171 0 0 22 := raw_hb_n173
            clear raw_hb_n173
            have hm_n173 : A163 0 0 24 ≤ A171 0 0 24 := raw_hm_n173
            clear raw_hm_n173
            have hz_n173 : z174 = 0 ∨ 0 ≤ z174 ∧ z174 ≤ 5 := raw_hz_n173
            clear raw_hz_n173
            have pt_n173 : pT A171 := raw_hn_n173
            clear raw_hn_n173
            have k0_n173 : A171 0 0 0 = A163 0 0 0 := hE_n173 0 0 0 rfl
            have k22_n173 : A171 0 0 22 = A163 0 0 22 := hE_n173 0 0 22 rfl
            have k27_n173 : A171 0 0 27 = A163 0 0 27 := hE_n173 0 0 27 rfl
            have k28_n173 : A171 0 0 28 = A163 0 0 28 := hE_n173 0 0 28 rfl
            have k29_n173 : A171 0 0 29 = A163 0 0 29 := hE_n173 0 0 29 rfl
            have k30_n173 : A171 0 0 30 = A163 0 0 30 := hE_n173 0 0 30 rfl
            have G175 : nG p0.toNat A171 := nG.nm (A := A163) G166 hE_n173
            have Q176 : pQ p0.toNat (A 0 0 28) (A 0 0 29) (A 0 0 30) A A171 := pQ.fam (A2 := A163) Q167 (fam_nm _ hE_n173)
            have r34_n173 : A171 34 p0.toNat xs.toNat = 1 := Eq.trans (hE_n173 34 p0.toNat xs.toNat rfl) r34_n165
            have r35_n173 : A171 35 p0.toNat xs.toNat = (-1) := Eq.trans (hE_n173 35 p0.toNat xs.toNat rfl) r35_n165
            have r36_n173 : A171 36 p0.toNat xs.toNat = (-1) := Eq.trans (hE_n173 36 p0.toNat xs.toNat rfl) r36_n165
            have r39_n173 : A171 39 p0.toNat xs.toNat = (-1) := Eq.trans (hE_n173 39 p0.toNat xs.toNat rfl) r39_n165
            have r40_n173 : A171 40 p0.toNat xs.toNat = x30 := Eq.trans (hE_n173 40 p0.toNat xs.toNat rfl) r40_n165
            rcases (show A171 0 0 31 = 0 ∨ A171 0 0 31 = 1 from by have w9 := hT_n173 0 0 31; have w8 : 0 ≤ A171 0 0 31 ∧ A171 0 0 31 ≤ 1 := w9; omega) with g_n173 | g_n173
            · have u_n173 : A163 0 0 31 = 0 ∧ A163 0 0 24 < A171 0 0 24 ∧ 0 ≤ z174 ∧ z174 ≤ 5 := raw_hw_n173 g_n173
              clear raw_hw_n173
              refine m_iast C e_q_step_135 rfl (by omega) (by decide) (by omega) (by show xs < ((16 : Nat) : Int); omega) ?_
              have t177 : mTy (mu A171 35 p0.toNat xs.toNat z174) := hT_n173.mu (by show (-1) ≤ z174 ∧ z174 ≤ 5; omega)
              have q178 := hF_n173.mu (f := 35) (k := p0.toNat) (j := xs.toNat) (z := z174) (by simp [pm])
              have Q179 : pQ p0.toNat (A 0 0 28) (A 0 0 29) (A 0 0 30) A (mu A171 35 p0.toNat xs.toNat z174) := pQ.mu (A2 := A171) Q176 (by omega) (by omega) (by omega)
              have G180 : nG p0.toNat (mu A171 35 p0.toNat xs.toNat z174) := G175
              refine m_blk 137 [(3, vi 1), (2, vi xs), (1, vi p0), (0, vr 0 0)] [vi 1] C f_q_step_136_1 rfl ?_
              refine m_if_ne (tgt := 146) C e_q_step_137 (by decide) (by decide) (fun c181 => ?_) (fun c181 => (by omega : False).elim)
              refine m_blk 148 [(3, vi 1), (2, vi xs), (1, vi p0), (0, vr 0 0)] [vi 4, vi 1] C f_q_step_146_2 rfl ?_
              refine m_icmp_ne (tgt := 167) C e_q_step_148 (by decide) (by decide) (by decide) (fun c182 => ?_) (fun c182 => (by omega : False).elim)
              refine m_blk 169 [(3, vi 1), (2, vi xs), (1, vi p0), (0, vr 0 0)] [vi 5, vi 1] C f_q_step_167_2 rfl ?_
              refine m_icmp_ne (tgt := 192) C e_q_step_169 (by decide) (by decide) (by decide) (fun c183 => ?_) (fun c183 => (by omega : False).elim)
              refine m_blk 194 [(3, vi 1), (2, vi xs), (1, vi p0), (0, vr 0 0)] [vi 1, vi 1] C f_q_step_192_2 rfl ?_
              refine m_icmp_eq (tgt := 212) C e_q_step_194 (by decide) (by decide) (by decide) (fun c184 => ?_) (fun c184 => (by omega : False).elim)
              refine m_blk 213 [(3, vi 1), (2, vi xs), (1, vi p0), (0, vr 0 0)] [vr 0 0] C f_q_step_212_1 rfl ?_
              refine m_getr C e_q_step_213 fg_Mo_36 rfl (by decide) rfl ?_
              refine m_blk 217 [(3, vi 1), (2, vi xs), (1, vi p0), (0, vr 0 0)] [vi p0, vr 19 0] C f_q_step_216_1 rfl ?_
              refine m_aald C p0.toNat e_q_step_217 rfl rfl rfl (by decide) (by decide) (by omega) (by show p0 < ((6 : Nat) : Int); omega) (mz _ _) ?_
              refine m_blk 220 [(3, vi 1), (2, vi xs), (1, vi p0), (0, vr 0 0)] [vr 0 0, vi xs, vr 39 p0.toNat] C f_q_step_218_2 rfl ?_
              refine m_callV C Rm Y [] [vi xs, vr 39 p0.toNat] ((q_E d).2 l D B H0 ad _ hS t177 p0 (by show A171 0 0 0 = p0 ∧ 0 ≤ p0 ∧ p0 ≤ 5; omega) (by show A171 0 0 24 ≤ A171 0 0 23 ∧ A171 0 0 23 ≤ A171 0 0 22; omega) pt_n173 (fun _ => by show A171 0 0 30 + 3 * A171 0 0 29 ≤ A171 0 0 24; omega) G180 (by show A171 0 0 27 = 4 - (d : Int) ∧ (d : Int) ≤ 4; omega)) cl_Mo_206 rfl (by decide) rfl rfl e_q_step_220 rfl rfl rfl ⟨by show _ ≤ (32 + 4 * d : Nat); omega, by show _ ≤ (630 + 300 * d : Nat); omega⟩ ?_
              rintro v185 A186 ⟨z189, rfl, hT_n188, hE_n188, raw_hz_n188, raw_hb_n188, raw_hn_n188, raw_hw_n188, raw_hm_n188, raw_hG_n188, raw_hK_n188⟩
              have hF_n188 := q178.trans (hE_n188.sub (em_pm _))
              show JM g D ad w0 A186 223 [(3, vi 1), (2, vi xs), (1, vi p0), (0, vr 0 0)] [vi z189, vi xs, vr 39 p0.toNat]
              have hz_n188 : 0 ≤ z189 ∧ z189 ≤ 119 := raw_hz_n188
              clear raw_hz_n188
              have hb_n188 : A186 0 0 24 ≤ A186 0 0 23 ∧ A186 0 0 23 ≤ A186 0 0 22 := raw_hb_n188
              clear raw_hb_n188
              have hm_n188 : A171 0 0 24 ≤ A186 0 0 24 ∧ A171 0 0 30 ≤ A186 0 0 30 ∧ A186 0 0 27 = A171 0 0 27 := raw_hm_n188
              clear raw_hm_n188
              have pt_n188 : pT A186 := raw_hn_n188
              have k0_n188 : A186 0 0 0 = A171 0 0 0 := hE_n188 0 0 0 rfl
              have k22_n188 : A186 0 0 22 = A171 0 0 22 := hE_n188 0 0 22 rfl
              have k28_n188 : A186 0 0 28 = A171 0 0 28 := hE_n188 0 0 28 rfl
              have k29_n188 : A186 0 0 29 = A171 0 0 29 := hE_n188 0 0 29 rfl
              have hG_n188 : nG p0.toNat A186 := raw_hG_n188
              have hK_n188 : nK p0.toNat (mu A171 35 p0.toNat xs.toNat z174) A186 := raw_hK_n188
              have Q190 : pQ p0.toNat (A 0 0 28) (A 0 0 29) (A 0 0 30) A A186 := pQ.emk (A2 := (mu A171 35 p0.toNat xs.toNat z174)) Q179 hE_n188 hK_n188 (by show A 0 0 30 ≤ A171 0 0 30; omega)
              have r34_n188 : A186 34 p0.toNat xs.toNat = 1 := Eq.trans (hE_n188 34 p0.toNat xs.toNat rfl) r34_n173
              have r35_n188 : A186 35 p0.toNat xs.toNat = z174 := Eq.trans (hE_n188 35 p0.toNat xs.toNat rfl) (mu_at A171 35 p0.toNat xs.toNat z174)
              have r36_n188 : A186 36 p0.toNat xs.toNat = (-1) := Eq.trans (hE_n188 36 p0.toNat xs.toNat rfl) r36_n173
              have r39_n188 : A186 39 p0.toNat xs.toNat = (-1) := Eq.trans (hE_n188 39 p0.toNat xs.toNat rfl) r39_n173
              have r40_n188 : A186 40 p0.toNat xs.toNat = x30 := Eq.trans (hE_n188 40 p0.toNat xs.toNat rfl) r40_n173
              rcases (show A186 0 0 31 = 0 ∨ A186 0 0 31 = 1 from by have w9 := hT_n188 0 0 31; have w8 : 0 ≤ A186 0 0 31 ∧ A186 0 0 31 ≤ 1 := w9; omega) with g_n188 | g_n188
              · have u_n188 : z189 < A186 0 0 30 ∧ A171 0 0 24 - A171 0 0 30 ≤ A186 0 0 24 - A186 0 0 30 := (raw_hw_n188 g_n188).2
                refine m_iast C e_q_step_223 rfl (by omega) (by decide) (by omega) (by show xs < ((16 : Nat) : Int); omega) ?_
                have t191 : mTy (mu A186 39 p0.toNat xs.toNat z189) := hT_n188.mu (by show (-1) ≤ z189 ∧ z189 ≤ 119; omega)
                have q192 := hF_n188.mu (f := 39) (k := p0.toNat) (j := xs.toNat) (z := z189) (by simp [pm])
                have Q193 : pQ p0.toNat (A 0 0 28) (A 0 0 29) (A 0 0 30) A (mu A186 39 p0.toNat xs.toNat z189) := pQ.mu (A2 := A186) Q190 (by omega) (by omega) (by omega)
                have G194 : nG p0.toNat (mu A186 39 p0.toNat xs.toNat z189) := hG_n188
                refine m_blk 226 [(3, vi 1), (2, vi xs), (1, vi p0), (0, vr 0 0)] [vi 3, vi 1] C f_q_step_224_2 rfl ?_
                refine m_icmp_eq (tgt := 234) C e_q_step_226 (by decide) (by decide) (by decide) (fun c195 => (by omega : False).elim) (fun c195 => ?_)
                refine m_blk 231 [(3, vi 1), (2, vi xs), (1, vi p0), (0, vr 0 0)] [vi 4, vi 1] C f_q_step_229_2 rfl ?_
                refine m_icmp_ne (tgt := 238) C e_q_step_231 (by decide) (by decide) (by decide) (fun c196 => ?_) (fun c196 => (by omega : False).elim)
                refine m_blk 239 [(3, vi 1), (2, vi xs), (1, vi p0), (0, vr 0 0)] [vr 0 0] C f_q_step_238_1 rfl ?_
                refine m_getr C e_q_step_239 fg_Mo_33 rfl (by decide) rfl ?_
                refine m_blk 243 [(3, vi 1), (2, vi xs), (1, vi p0), (0, vr 0 0)] [vi p0, vr 18 0] C f_q_step_242_1 rfl ?_
                refine m_aald C p0.toNat e_q_step_243 rfl rfl rfl (by decide) (by decide) (by omega) (by show p0 < ((6 : Nat) : Int); omega) (mz _ _) ?_
                refine m_blk 246 [(3, vi 1), (2, vi xs), (1, vi p0), (0, vr 0 0)] [vr 0 0, vi xs, vr 38 p0.toNat] C f_q_step_244_2 rfl ?_
                obtain ⟨x197, hx197⟩ : ∃ x, A186 0 0 28 = x := ⟨_, rfl⟩
                have rx197 : 0 ≤ x197 ∧ x197 ≤ 16 := mrg hT_n188 hx197 rfl
                refine m_geti C e_q_step_246 fg_Mo_192 rfl (by decide) rfl x197 hx197 ?_
                refine m_iast C e_q_step_249 rfl (by omega) (by decide) (by omega) (by show xs < ((16 : Nat) : Int); omega) ?_
                have t198 : mTy (mu (mu A186 39 p0.toNat xs.toNat z189) 38 p0.toNat xs.toNat x197) := t191.mu (by show 0 ≤ x197 ∧ x197 ≤ 16; omega)
                have q199 := q192.mu (f := 38) (k := p0.toNat) (j := xs.toNat) (z := x197) (by simp [pm])
                have Q200 : pQ p0.toNat (A 0 0 28) (A 0 0 29) (A 0 0 30) A (mu (mu A186 39 p0.toNat xs.toNat z189) 38 p0.toNat xs.toNat x197) := pQ.mu (A2 := (mu A186 39 p0.toNat xs.toNat z189)) Q193 (by omega) (by omega) (by omega)
                have G201 : nG p0.toNat (mu (mu A186 39 p0.toNat xs.toNat z189) 38 p0.toNat xs.toNat x197) := G194
                refine m_blk 252 [(3, vi 1), (2, vi xs), (1, vi p0), (0, vr 0 0)] [vi 3, vi 1] C f_q_step_250_2 rfl ?_
                refine m_icmp_ne (tgt := 259) C e_q_step_252 (by decide) (by decide) (by decide) (fun c202 => ?_) (fun c202 => (by omega : False).elim)
                refine m_blk 260 [(3, vi 1), (2, vi xs), (1, vi p0), (0, vr 0 0)] [vr 0 0] C f_q_step_259_1 rfl ?_
                refine m_getr C e_q_step_260 fg_Mo_30 rfl (by decide) rfl ?_
                refine m_blk 264 [(3, vi 1), (2, vi xs), (1, vi p0), (0, vr 0 0)] [vi p0, vr 17 0] C f_q_step_263_1 rfl ?_
                refine m_aald C p0.toNat e_q_step_264 rfl rfl rfl (by decide) (by decide) (by omega) (by show p0 < ((6 : Nat) : Int); omega) (mz _ _) ?_
                refine m_blk 267 [(3, vi 1), (2, vi xs), (1, vi p0), (0, vr 0 0)] [vr 0 0, vi xs, vr 37 p0.toNat] C f_q_step_265_2 rfl ?_
                refine m_geti C e_q_step_267 fg_Mo_192 rfl (by decide) rfl x197 hx197 ?_
                refine m_iast C e_q_step_270 rfl (by omega) (by decide) (by omega) (by show xs < ((16 : Nat) : Int); omega) ?_
                have t203 : mTy (mu (mu (mu A186 39 p0.toNat xs.toNat z189) 38 p0.toNat xs.toNat x197) 37 p0.toNat xs.toNat x197) := t198.mu (by show 0 ≤ x197 ∧ x197 ≤ 16; omega)
                have q204 := q199.mu (f := 37) (k := p0.toNat) (j := xs.toNat) (z := x197) (by simp [pm])
                have Q205 : pQ p0.toNat (A 0 0 28) (A 0 0 29) (A 0 0 30) A (mu (mu (mu A186 39 p0.toNat xs.toNat z189) 38 p0.toNat xs.toNat x197) 37 p0.toNat xs.toNat x197) := pQ.mu (A2 := (mu (mu A186 39 p0.toNat xs.toNat z189) 38 p0.toNat xs.toNat x197)) Q200 (by omega) (by omega) (by omega)
                have G206 : nG p0.toNat (mu (mu (mu A186 39 p0.toNat xs.toNat z189) 38 p0.toNat xs.toNat x197) 37 p0.toNat xs.toNat x197) := G201
                exact m_vret C Rm E e_q_step_271 ⟨rfl, t203, q204, (by show A186 0 0 24 ≤ A186 0 0 23 ∧ A186 0 0 23 ≤ A186 0 0 22; omega), pt_n188, (pV.one' (i := xs.toNat) g0 (by show A 0 0 24 - A 0 0 30 - 3 * A 0 0 29 ≤ A186 0 0 24 - A186 0 0 30 - 3 * A186 0 0 29; omega) (by omega) (by show A186 0 0 28 = A 0 0 28 + 1; omega) (sG.mk r34_n188 r35_n188 r36_n188 (mu_at (mu (mu A186 39 p0.toNat xs.toNat z189) 38 p0.toNat xs.toNat x197) 37 p0.toNat xs.toNat x197) (mu_at (mu A186 39 p0.toNat xs.toNat z189) 38 p0.toNat xs.toNat x197) (mu_at A186 39 p0.toNat xs.toNat z189) r40_n188 (by decide) (by show _ ∧ _ ∧ _ ≤ A186 0 0 28; omega) (by show _ ∧ _ < A186 0 0 30; omega) (by omega) (by omega) (by omega) (by decide) (fun h9 => absurd h9 (by decide)) (by show 0 ≤ (4 - (d : Int)) ∧ (4 - (d : Int)) ≤ 4; omega) (by decide))), (by show A 0 0 24 ≤ A186 0 0 24 ∧ A 0 0 28 ≤ A186 0 0 28 ∧ A 0 0 29 ≤ A186 0 0 29 ∧ A 0 0 30 ≤ A186 0 0 30 ∧ A186 0 0 27 = A 0 0 27; omega), G206, Q205⟩
              · refine m_iast C e_q_step_223 rfl (by omega) (by decide) (by omega) (by show xs < ((16 : Nat) : Int); omega) ?_
                have t207 : mTy (mu A186 39 p0.toNat xs.toNat z189) := hT_n188.mu (by show (-1) ≤ z189 ∧ z189 ≤ 119; omega)
                have q208 := hF_n188.mu (f := 39) (k := p0.toNat) (j := xs.toNat) (z := z189) (by simp [pm])
                have Q209 : pQ p0.toNat (A 0 0 28) (A 0 0 29) (A 0 0 30) A (mu A186 39 p0.toNat xs.toNat z189) := pQ.mu (A2 := A186) Q190 (by omega) (by omega) (by omega)
                have G210 : nG p0.toNat (mu A186 39 p0.toNat xs.toNat z189) := hG_n188
                refine m_blk 226 [(3, vi 1), (2, vi xs), (1, vi p0), (0, vr 0 0)] [vi 3, vi 1] C f_q_step_224_2 rfl ?_
                refine m_icmp_eq (tgt := 234) C e_q_step_226 (by decide) (by decide) (by decide) (fun c211 => (by omega : False).elim) (fun c211 => ?_)
                refine m_blk 231 [(3, vi 1), (2, vi xs), (1, vi p0), (0, vr 0 0)] [vi 4, vi 1] C f_q_step_229_2 rfl ?_
                refine m_icmp_ne (tgt := 238) C e_q_step_231 (by decide) (by decide) (by decide) (fun c212 => ?_) (fun c212 => (by omega : False).elim)
                refine m_blk 239 [(3, vi 1), (2, vi xs), (1, vi p0), (0, vr 0 0)] [vr 0 0] C f_q_step_238_1 rfl ?_
                refine m_getr C e_q_step_239 fg_Mo_33 rfl (by decide) rfl ?_
                refine m_blk 243 [(3, vi 1), (2, vi xs), (1, vi p0), (0, vr 0 0)] [vi p0, vr 18 0] C f_q_step_242_1 rfl ?_
                refine m_aald C p0.toNat e_q_step_243 rfl rfl rfl (by decide) (by decide) (by omega) (by show p0 < ((6 : Nat) : Int); omega) (mz _ _) ?_
                refine m_blk 246 [(3, vi 1), (2, vi xs), (1, vi p0), (0, vr 0 0)] [vr 0 0, vi xs, vr 38 p0.toNat] C f_q_step_244_2 rfl ?_
                obtain ⟨x213, hx213⟩ : ∃ x, A186 0 0 28 = x := ⟨_, rfl⟩
                have rx213 : 0 ≤ x213 ∧ x213 ≤ 16 := mrg hT_n188 hx213 rfl
                refine m_geti C e_q_step_246 fg_Mo_192 rfl (by decide) rfl x213 hx213 ?_
                refine m_iast C e_q_step_249 rfl (by omega) (by decide) (by omega) (by show xs < ((16 : Nat) : Int); omega) ?_
                have t214 : mTy (mu (mu A186 39 p0.toNat xs.toNat z189) 38 p0.toNat xs.toNat x213) := t207.mu (by show 0 ≤ x213 ∧ x213 ≤ 16; omega)
                have q215 := q208.mu (f := 38) (k := p0.toNat) (j := xs.toNat) (z := x213) (by simp [pm])
                have Q216 : pQ p0.toNat (A 0 0 28) (A 0 0 29) (A 0 0 30) A (mu (mu A186 39 p0.toNat xs.toNat z189) 38 p0.toNat xs.toNat x213) := pQ.mu (A2 := (mu A186 39 p0.toNat xs.toNat z189)) Q209 (by omega) (by omega) (by omega)
                have G217 : nG p0.toNat (mu (mu A186 39 p0.toNat xs.toNat z189) 38 p0.toNat xs.toNat x213) := G210
                refine m_blk 252 [(3, vi 1), (2, vi xs), (1, vi p0), (0, vr 0 0)] [vi 3, vi 1] C f_q_step_250_2 rfl ?_
                refine m_icmp_ne (tgt := 259) C e_q_step_252 (by decide) (by decide) (by decide) (fun c218 => ?_) (fun c218 => (by omega : False).elim)
                refine m_blk 260 [(3, vi 1), (2, vi xs), (1, vi p0), (0, vr 0 0)] [vr 0 0] C f_q_step_259_1 rfl ?_
                refine m_getr C e_q_step_260 fg_Mo_30 rfl (by decide) rfl ?_
                refine m_blk 264 [(3, vi 1), (2, vi xs), (1, vi p0), (0, vr 0 0)] [vi p0, vr 17 0] C f_q_step_263_1 rfl ?_
                refine m_aald C p0.toNat e_q_step_264 rfl rfl rfl (by decide) (by decide) (by omega) (by show p0 < ((6 : Nat) : Int); omega) (mz _ _) ?_
                refine m_blk 267 [(3, vi 1), (2, vi xs), (1, vi p0), (0, vr 0 0)] [vr 0 0, vi xs, vr 37 p0.toNat] C f_q_step_265_2 rfl ?_
                refine m_geti C e_q_step_267 fg_Mo_192 rfl (by decide) rfl x213 hx213 ?_
                refine m_iast C e_q_step_270 rfl (by omega) (by decide) (by omega) (by show xs < ((16 : Nat) : Int); omega) ?_
                have t219 : mTy (mu (mu (mu A186 39 p0.toNat xs.toNat z189) 38 p0.toNat xs.toNat x213) 37 p0.toNat xs.toNat x213) := t214.mu (by show 0 ≤ x213 ∧ x213 ≤ 16; omega)
                have q220 := q215.mu (f := 37) (k := p0.toNat) (j := xs.toNat) (z := x213) (by simp [pm])
                have Q221 : pQ p0.toNat (A 0 0 28) (A 0 0 29) (A 0 0 30) A (mu (mu (mu A186 39 p0.toNat xs.toNat z189) 38 p0.toNat xs.toNat x213) 37 p0.toNat xs.toNat x213) := pQ.mu (A2 := (mu (mu A186 39 p0.toNat xs.toNat z189) 38 p0.toNat xs.toNat x213)) Q216 (by omega) (by omega) (by omega)
                have G222 : nG p0.toNat (mu (mu (mu A186 39 p0.toNat xs.toNat z189) 38 p0.toNat xs.toNat x213) 37 p0.toNat xs.toNat x213) := G217
                exact m_vret C Rm E e_q_step_271 ⟨rfl, t219, q220, (by show A186 0 0 24 ≤ A186 0 0 23 ∧ A186 0 0 23 ≤ A186 0 0 22; omega), pt_n188, (fun h9 => absurd ((g_n188 : A186 0 0 31 = 1).symm.trans h9) (by decide)), (by show A 0 0 24 ≤ A186 0 0 24 ∧ A 0 0 28 ≤ A186 0 0 28 ∧ A 0 0 29 ≤ A186 0 0 29 ∧ A 0 0 30 ≤ A186 0 0 30 ∧ A186 0 0 27 = A 0 0 27; omega), G222, Q221⟩
            · clear raw_hw_n173
              refine m_iast C e_q_step_135 rfl (by omega) (by decide) (by omega) (by show xs < ((16 : Nat) : Int); omega) ?_
              have t223 : mTy (mu A171 35 p0.toNat xs.toNat z174) := hT_n173.mu (by show (-1) ≤ z174 ∧ z174 ≤ 5; omega)
              have q224 := hF_n173.mu (f := 35) (k := p0.toNat) (j := xs.toNat) (z := z174) (by simp [pm])
              have Q225 : pQ p0.toNat (A 0 0 28) (A 0 0 29) (A 0 0 30) A (mu A171 35 p0.toNat xs.toNat z174) := pQ.mu (A2 := A171) Q176 (by omega) (by omega) (by omega)
              have G226 : nG p0.toNat (mu A171 35 p0.toNat xs.toNat z174) := G175
              refine m_blk 137 [(3, vi 1), (2, vi xs), (1, vi p0), (0, vr 0 0)] [vi 1] C f_q_step_136_1 rfl ?_
              refine m_if_ne (tgt := 146) C e_q_step_137 (by decide) (by decide) (fun c227 => ?_) (fun c227 => (by omega : False).elim)
              refine m_blk 148 [(3, vi 1), (2, vi xs), (1, vi p0), (0, vr 0 0)] [vi 4, vi 1] C f_q_step_146_2 rfl ?_
              refine m_icmp_ne (tgt := 167) C e_q_step_148 (by decide) (by decide) (by decide) (fun c228 => ?_) (fun c228 => (by omega : False).elim)
              refine m_blk 169 [(3, vi 1), (2, vi xs), (1, vi p0), (0, vr 0 0)] [vi 5, vi 1] C f_q_step_167_2 rfl ?_
              refine m_icmp_ne (tgt := 192) C e_q_step_169 (by decide) (by decide) (by decide) (fun c229 => ?_) (fun c229 => (by omega : False).elim)
              refine m_blk 194 [(3, vi 1), (2, vi xs), (1, vi p0), (0, vr 0 0)] [vi 1, vi 1] C f_q_step_192_2 rfl ?_
              refine m_icmp_eq (tgt := 212) C e_q_step_194 (by decide) (by decide) (by decide) (fun c230 => ?_) (fun c230 => (by omega : False).elim)
              refine m_blk 213 [(3, vi 1), (2, vi xs), (1, vi p0), (0, vr 0 0)] [vr 0 0] C f_q_step_212_1 rfl ?_
              refine m_getr C e_q_step_213 fg_Mo_36 rfl (by decide) rfl ?_
              refine m_blk 217 [(3, vi 1), (2, vi xs), (1, vi p0), (0, vr 0 0)] [vi p0, vr 19 0] C f_q_step_216_1 rfl ?_
              refine m_aald C p0.toNat e_q_step_217 rfl rfl rfl (by decide) (by decide) (by omega) (by show p0 < ((6 : Nat) : Int); omega) (mz _ _) ?_
              refine m_blk 220 [(3, vi 1), (2, vi xs), (1, vi p0), (0, vr 0 0)] [vr 0 0, vi xs, vr 39 p0.toNat] C f_q_step_218_2 rfl ?_
              refine m_callV C Rm Y [] [vi xs, vr 39 p0.toNat] ((q_E d).2 l D B H0 ad _ hS t223 p0 (by show A171 0 0 0 = p0 ∧ 0 ≤ p0 ∧ p0 ≤ 5; omega) (by show A171 0 0 24 ≤ A171 0 0 23 ∧ A171 0 0 23 ≤ A171 0 0 22; omega) pt_n173 (fun h9 => absurd ((g_n173 : A171 0 0 31 = 1).symm.trans h9) (by decide)) G226 (by show A171 0 0 27 = 4 - (d : Int) ∧ (d : Int) ≤ 4; omega)) cl_Mo_206 rfl (by decide) rfl rfl e_q_step_220 rfl rfl rfl ⟨by show _ ≤ (32 + 4 * d : Nat); omega, by show _ ≤ (630 + 300 * d : Nat); omega⟩ ?_
              rintro v231 A232 ⟨z235, rfl, hT_n234, hE_n234, raw_hz_n234, raw_hb_n234, raw_hn_n234, raw_hw_n234, raw_hm_n234, raw_hG_n234, raw_hK_n234⟩
              have hF_n234 := q224.trans (hE_n234.sub (em_pm _))
              show JM g D ad w0 A232 223 [(3, vi 1), (2, vi xs), (1, vi p0), (0, vr 0 0)] [vi z235, vi xs, vr 39 p0.toNat]
              have hz_n234 : 0 ≤ z235 ∧ z235 ≤ 119 := raw_hz_n234
              clear raw_hz_n234
              have hb_n234 : A232 0 0 24 ≤ A232 0 0 23 ∧ A232 0 0 23 ≤ A232 0 0 22 := raw_hb_n234
              clear raw_hb_n234
              have hm_n234 : A171 0 0 24 ≤ A232 0 0 24 ∧ A171 0 0 30 ≤ A232 0 0 30 ∧ A232 0 0 27 = A171 0 0 27 := raw_hm_n234
              clear raw_hm_n234
              have pt_n234 : pT A232 := raw_hn_n234
              have k0_n234 : A232 0 0 0 = A171 0 0 0 := hE_n234 0 0 0 rfl
              have k22_n234 : A232 0 0 22 = A171 0 0 22 := hE_n234 0 0 22 rfl
              have k28_n234 : A232 0 0 28 = A171 0 0 28 := hE_n234 0 0 28 rfl
              have k29_n234 : A232 0 0 29 = A171 0 0 29 := hE_n234 0 0 29 rfl
              have hG_n234 : nG p0.toNat A232 := raw_hG_n234
              have hK_n234 : nK p0.toNat (mu A171 35 p0.toNat xs.toNat z174) A232 := raw_hK_n234
              have Q236 : pQ p0.toNat (A 0 0 28) (A 0 0 29) (A 0 0 30) A A232 := pQ.emk (A2 := (mu A171 35 p0.toNat xs.toNat z174)) Q225 hE_n234 hK_n234 (by show A 0 0 30 ≤ A171 0 0 30; omega)
              have r34_n234 : A232 34 p0.toNat xs.toNat = 1 := Eq.trans (hE_n234 34 p0.toNat xs.toNat rfl) r34_n173
              have r35_n234 : A232 35 p0.toNat xs.toNat = z174 := Eq.trans (hE_n234 35 p0.toNat xs.toNat rfl) (mu_at A171 35 p0.toNat xs.toNat z174)
              have r36_n234 : A232 36 p0.toNat xs.toNat = (-1) := Eq.trans (hE_n234 36 p0.toNat xs.toNat rfl) r36_n173
              have r39_n234 : A232 39 p0.toNat xs.toNat = (-1) := Eq.trans (hE_n234 39 p0.toNat xs.toNat rfl) r39_n173
              have r40_n234 : A232 40 p0.toNat xs.toNat = x30 := Eq.trans (hE_n234 40 p0.toNat xs.toNat rfl) r40_n173
              have g_n234 : A232 0 0 31 = 1 := wr_1 (hT_n234 0 0 31) (fun h9 => absurd ((g_n173 : A171 0 0 31 = 1).symm.trans (raw_hw_n234 h9).1) (by decide))
              refine m_iast C e_q_step_223 rfl (by omega) (by decide) (by omega) (by show xs < ((16 : Nat) : Int); omega) ?_
              have t237 : mTy (mu A232 39 p0.toNat xs.toNat z235) := hT_n234.mu (by show (-1) ≤ z235 ∧ z235 ≤ 119; omega)
              have q238 := hF_n234.mu (f := 39) (k := p0.toNat) (j := xs.toNat) (z := z235) (by simp [pm])
              have Q239 : pQ p0.toNat (A 0 0 28) (A 0 0 29) (A 0 0 30) A (mu A232 39 p0.toNat xs.toNat z235) := pQ.mu (A2 := A232) Q236 (by omega) (by omega) (by omega)
              have G240 : nG p0.toNat (mu A232 39 p0.toNat xs.toNat z235) := hG_n234
              refine m_blk 226 [(3, vi 1), (2, vi xs), (1, vi p0), (0, vr 0 0)] [vi 3, vi 1] C f_q_step_224_2 rfl ?_
              refine m_icmp_eq (tgt := 234) C e_q_step_226 (by decide) (by decide) (by decide) (fun c241 => (by omega : False).elim) (fun c241 => ?_)
              refine m_blk 231 [(3, vi 1), (2, vi xs), (1, vi p0), (0, vr 0 0)] [vi 4, vi 1] C f_q_step_229_2 rfl ?_
              refine m_icmp_ne (tgt := 238) C e_q_step_231 (by decide) (by decide) (by decide) (fun c242 => ?_) (fun c242 => (by omega : False).elim)
              refine m_blk 239 [(3, vi 1), (2, vi xs), (1, vi p0), (0, vr 0 0)] [vr 0 0] C f_q_step_238_1 rfl ?_
              refine m_getr C e_q_step_239 fg_Mo_33 rfl (by decide) rfl ?_
              refine m_blk 243 [(3, vi 1), (2, vi xs), (1, vi p0), (0, vr 0 0)] [vi p0, vr 18 0] C f_q_step_242_1 rfl ?_
              refine m_aald C p0.toNat e_q_step_243 rfl rfl rfl (by decide) (by decide) (by omega) (by show p0 < ((6 : Nat) : Int); omega) (mz _ _) ?_
              refine m_blk 246 [(3, vi 1), (2, vi xs), (1, vi p0), (0, vr 0 0)] [vr 0 0, vi xs, vr 38 p0.toNat] C f_q_step_244_2 rfl ?_
              obtain ⟨x243, hx243⟩ : ∃ x, A232 0 0 28 = x := ⟨_, rfl⟩
              have rx243 : 0 ≤ x243 ∧ x243 ≤ 16 := mrg hT_n234 hx243 rfl
              refine m_geti C e_q_step_246 fg_Mo_192 rfl (by decide) rfl x243 hx243 ?_
              refine m_iast C e_q_step_249 rfl (by omega) (by decide) (by omega) (by show xs < ((16 : Nat) : Int); omega) ?_
              have t244 : mTy (mu (mu A232 39 p0.toNat xs.toNat z235) 38 p0.toNat xs.toNat x243) := t237.mu (by show 0 ≤ x243 ∧ x243 ≤ 16; omega)
              have q245 := q238.mu (f := 38) (k := p0.toNat) (j := xs.toNat) (z := x243) (by simp [pm])
              have Q246 : pQ p0.toNat (A 0 0 28) (A 0 0 29) (A 0 0 30) A (mu (mu A232 39 p0.toNat xs.toNat z235) 38 p0.toNat xs.toNat x243) := pQ.mu (A2 := (mu A232 39 p0.toNat xs.toNat z235)) Q239 (by omega) (by omega) (by omega)
              have G247 : nG p0.toNat (mu (mu A232 39 p0.toNat xs.toNat z235) 38 p0.toNat xs.toNat x243) := G240
              refine m_blk 252 [(3, vi 1), (2, vi xs), (1, vi p0), (0, vr 0 0)] [vi 3, vi 1] C f_q_step_250_2 rfl ?_
              refine m_icmp_ne (tgt := 259) C e_q_step_252 (by decide) (by decide) (by decide) (fun c248 => ?_) (fun c248 => (by omega : False).elim)
              refine m_blk 260 [(3, vi 1), (2, vi xs), (1, vi p0), (0, vr 0 0)] [vr 0 0] C f_q_step_259_1 rfl ?_
              refine m_getr C e_q_step_260 fg_Mo_30 rfl (by decide) rfl ?_
              refine m_blk 264 [(3, vi 1), (2, vi xs), (1, vi p0), (0, vr 0 0)] [vi p0, vr 17 0] C f_q_step_263_1 rfl ?_
              refine m_aald C p0.toNat e_q_step_264 rfl rfl rfl (by decide) (by decide) (by omega) (by show p0 < ((6 : Nat) : Int); omega) (mz _ _) ?_
              refine m_blk 267 [(3, vi 1), (2, vi xs), (1, vi p0), (0, vr 0 0)] [vr 0 0, vi xs, vr 37 p0.toNat] C f_q_step_265_2 rfl ?_
              refine m_geti C e_q_step_267 fg_Mo_192 rfl (by decide) rfl x243 hx243 ?_
              refine m_iast C e_q_step_270 rfl (by omega) (by decide) (by omega) (by show xs < ((16 : Nat) : Int); omega) ?_
              have t249 : mTy (mu (mu (mu A232 39 p0.toNat xs.toNat z235) 38 p0.toNat xs.toNat x243) 37 p0.toNat xs.toNat x243) := t244.mu (by show 0 ≤ x243 ∧ x243 ≤ 16; omega)
              have q250 := q245.mu (f := 37) (k := p0.toNat) (j := xs.toNat) (z := x243) (by simp [pm])
              have Q251 : pQ p0.toNat (A 0 0 28) (A 0 0 29) (A 0 0 30) A (mu (mu (mu A232 39 p0.toNat xs.toNat z235) 38 p0.toNat xs.toNat x243) 37 p0.toNat xs.toNat x243) := pQ.mu (A2 := (mu (mu A232 39 p0.toNat xs.toNat z235) 38 p0.toNat xs.toNat x243)) Q246 (by omega) (by omega) (by omega)
              have G252 : nG p0.toNat (mu (mu (mu A232 39 p0.toNat xs.toNat z235) 38 p0.toNat xs.toNat x243) 37 p0.toNat xs.toNat x243) := G247
              exact m_vret C Rm E e_q_step_271 ⟨rfl, t249, q250, (by show A232 0 0 24 ≤ A232 0 0 23 ∧ A232 0 0 23 ≤ A232 0 0 22; omega), pt_n234, (fun h9 => absurd ((g_n234 : A232 0 0 31 = 1).symm.trans h9) (by decide)), (by show A 0 0 24 ≤ A232 0 0 24 ∧ A 0 0 28 ≤ A232 0 0 28 ∧ A 0 0 29 ≤ A232 0 0 29 ∧ A 0 0 30 ≤ A232 0 0 30 ∧ A232 0 0 27 = A 0 0 27; omega), G252, Q251⟩
          · refine m_blk 108 [(3, vi 1), (2, vi xs), (1, vi p0), (0, vr 0 0)] [vi 1] C f_q_step_107_1 rfl ?_
            refine m_if_eq (tgt := 121) C e_q_step_108 (by decide) (by decide) (fun c253 => (by omega : False).elim) (fun c253 => ?_)
            refine m_blk 113 [(3, vi 1), (2, vi xs), (1, vi p0), (0, vr 0 0)] [vi 1, vi 1] C f_q_step_111_2 rfl ?_
            refine m_icmp_eq (tgt := 121) C e_q_step_113 (by decide) (by decide) (by decide) (fun c254 => ?_) (fun c254 => (by omega : False).elim)
            refine m_blk 122 [(3, vi 1), (2, vi xs), (1, vi p0), (0, vr 0 0)] [vr 0 0] C f_q_step_121_1 rfl ?_
            refine m_getr C e_q_step_122 fg_Mo_24 rfl (by decide) rfl ?_
            refine m_blk 126 [(3, vi 1), (2, vi xs), (1, vi p0), (0, vr 0 0)] [vi p0, vr 15 0] C f_q_step_125_1 rfl ?_
            refine m_aald C p0.toNat e_q_step_126 rfl rfl rfl (by decide) (by decide) (by omega) (by show p0 < ((6 : Nat) : Int); omega) (mz _ _) ?_
            refine m_blk 132 [(3, vi 1), (2, vi xs), (1, vi p0), (0, vr 0 0)] [vi 5, vi 0, vi 1, vr 0 0, vi xs, vr 35 p0.toNat] C f_q_step_127_5 rfl ?_
            refine m_callV C Rm Y [vi 1, vi 0, vi 5] [vi xs, vr 35 p0.toNat] (q_takes l D B H0 ad _ hS hT_n165 1 0 5 (by show 1 ≤ 1 ∧ 1 ≤ 4; omega) (by show 0 ≤ 0 ∧ 0 ≤ 2147483647 ∧ -1 ≤ 5 ∧ 5 ≤ 2147483647; omega) (by show A163 0 0 24 ≤ A163 0 0 23 ∧ A163 0 0 23 ≤ A163 0 0 22; omega) pt_n165) cl_Mo_198 rfl (by decide) rfl rfl e_q_step_132 rfl rfl rfl ⟨by show _ ≤ (32 + 4 * d : Nat); omega, by show _ ≤ (630 + 300 * d : Nat); omega⟩ ?_
            rintro v255 A256 ⟨z259, rfl, hT_n258, hE_n258, raw_hz_n258, raw_hb_n258, raw_hn_n258, raw_hw_n258, raw_hm_n258⟩
            have hF_n258 := hF_n165.trans (hE_n258.sub (nm_pm _))
            show JM g D ad w0 A256 135 [(3, vi 1), (2, vi xs), (1, vi p0), (0, vr 0 0)] [vi z259, vi xs, vr 35 p0.toNat]
            have hb_n258 : A256 0 0 24 ≤ A256 0 0 23 ∧ A256 0 0 23 ≤ A256 0 0 22 := raw_hb_n258
            clear raw_hb_n258
            have hm_n258 : A163 0 0 24 ≤ A256 0 0 24 := raw_hm_n258
            clear raw_hm_n258
            have hz_n258 : z259 = 0 ∨ 0 ≤ z259 ∧ z259 ≤ 5 := raw_hz_n258
            clear raw_hz_n258
            have pt_n258 : pT A256 := raw_hn_n258
            clear raw_hn_n258
            have k0_n258 : A256 0 0 0 = A163 0 0 0 := hE_n258 0 0 0 rfl
            have k22_n258 : A256 0 0 22 = A163 0 0 22 := hE_n258 0 0 22 rfl
            have k27_n258 : A256 0 0 27 = A163 0 0 27 := hE_n258 0 0 27 rfl
            have k28_n258 : A256 0 0 28 = A163 0 0 28 := hE_n258 0 0 28 rfl
            have k29_n258 : A256 0 0 29 = A163 0 0 29 := hE_n258 0 0 29 rfl
            have k30_n258 : A256 0 0 30 = A163 0 0 30 := hE_n258 0 0 30 rfl
            have G260 : nG p0.toNat A256 := nG.nm (A := A163) G166 hE_n258
            have Q261 : pQ p0.toNat (A 0 0 28) (A 0 0 29) (A 0 0 30) A A256 := pQ.fam (A2 := A163) Q167 (fam_nm _ hE_n258)
            have r34_n258 : A256 34 p0.toNat xs.toNat = 1 := Eq.trans (hE_n258 34 p0.toNat xs.toNat rfl) r34_n165
            have r35_n258 : A256 35 p0.toNat xs.toNat = (-1) := Eq.trans (hE_n258 35 p0.toNat xs.toNat rfl) r35_n165
            have r36_n258 : A256 36 p0.toNat xs.toNat = (-1) := Eq.trans (hE_n258 36 p0.toNat xs.toNat rfl) r36_n165
            have r39_n258 : A256 39 p0.toNat xs.toNat = (-1) := Eq.trans (hE_n258 39 p0.toNat xs.toNat rfl) r39_n165
            have r40_n258 : A256 40 p0.toNat xs.toNat = x30 := Eq.trans (hE_n258 40 p0.toNat xs.toNat rfl) r40_n165
            have g_n258 : A256 0 0 31 = 1 := wr_1 (hT_n258 0 0 31) (fun h9 => absurd ((g_n165 : A163 0 0 31 = 1).symm.trans (raw_hw_n258 h9).1) (by decide))
            clear raw_hw_n258
            refine m_iast C e_q_step_135 rfl (by omega) (by decide) (by omega) (by show xs < ((16 : Nat) : Int); omega) ?_
            have t262 : mTy (mu A256 35 p0.toNat xs.toNat z259) := hT_n258.mu (by show (-1) ≤ z259 ∧ z259 ≤ 5; omega)
            have q263 := hF_n258.mu (f := 35) (k := p0.toNat) (j := xs.toNat) (z := z259) (by simp [pm])
            have Q264 : pQ p0.toNat (A 0 0 28) (A 0 0 29) (A 0 0 30) A (mu A256 35 p0.toNat xs.toNat z259) := pQ.mu (A2 := A256) Q261 (by omega) (by omega) (by omega)
            have G265 : nG p0.toNat (mu A256 35 p0.toNat xs.toNat z259) := G260
            refine m_blk 137 [(3, vi 1), (2, vi xs), (1, vi p0), (0, vr 0 0)] [vi 1] C f_q_step_136_1 rfl ?_
            refine m_if_ne (tgt := 146) C e_q_step_137 (by decide) (by decide) (fun c266 => ?_) (fun c266 => (by omega : False).elim)
            refine m_blk 148 [(3, vi 1), (2, vi xs), (1, vi p0), (0, vr 0 0)] [vi 4, vi 1] C f_q_step_146_2 rfl ?_
            refine m_icmp_ne (tgt := 167) C e_q_step_148 (by decide) (by decide) (by decide) (fun c267 => ?_) (fun c267 => (by omega : False).elim)
            refine m_blk 169 [(3, vi 1), (2, vi xs), (1, vi p0), (0, vr 0 0)] [vi 5, vi 1] C f_q_step_167_2 rfl ?_
            refine m_icmp_ne (tgt := 192) C e_q_step_169 (by decide) (by decide) (by decide) (fun c268 => ?_) (fun c268 => (by omega : False).elim)
            refine m_blk 194 [(3, vi 1), (2, vi xs), (1, vi p0), (0, vr 0 0)] [vi 1, vi 1] C f_q_step_192_2 rfl ?_
            refine m_icmp_eq (tgt := 212) C e_q_step_194 (by decide) (by decide) (by decide) (fun c269 => ?_) (fun c269 => (by omega : False).elim)
            refine m_blk 213 [(3, vi 1), (2, vi xs), (1, vi p0), (0, vr 0 0)] [vr 0 0] C f_q_step_212_1 rfl ?_
            refine m_getr C e_q_step_213 fg_Mo_36 rfl (by decide) rfl ?_
            refine m_blk 217 [(3, vi 1), (2, vi xs), (1, vi p0), (0, vr 0 0)] [vi p0, vr 19 0] C f_q_step_216_1 rfl ?_
            refine m_aald C p0.toNat e_q_step_217 rfl rfl rfl (by decide) (by decide) (by omega) (by show p0 < ((6 : Nat) : Int); omega) (mz _ _) ?_
            refine m_blk 220 [(3, vi 1), (2, vi xs), (1, vi p0), (0, vr 0 0)] [vr 0 0, vi xs, vr 39 p0.toNat] C f_q_step_218_2 rfl ?_
            refine m_callV C Rm Y [] [vi xs, vr 39 p0.toNat] ((q_E d).2 l D B H0 ad _ hS t262 p0 (by show A256 0 0 0 = p0 ∧ 0 ≤ p0 ∧ p0 ≤ 5; omega) (by show A256 0 0 24 ≤ A256 0 0 23 ∧ A256 0 0 23 ≤ A256 0 0 22; omega) pt_n258 (fun h9 => absurd ((g_n258 : A256 0 0 31 = 1).symm.trans h9) (by decide)) G265 (by show A256 0 0 27 = 4 - (d : Int) ∧ (d : Int) ≤ 4; omega)) cl_Mo_206 rfl (by decide) rfl rfl e_q_step_220 rfl rfl rfl ⟨by show _ ≤ (32 + 4 * d : Nat); omega, by show _ ≤ (630 + 300 * d : Nat); omega⟩ ?_
            rintro v270 A271 ⟨z274, rfl, hT_n273, hE_n273, raw_hz_n273, raw_hb_n273, raw_hn_n273, raw_hw_n273, raw_hm_n273, raw_hG_n273, raw_hK_n273⟩
            have hF_n273 := q263.trans (hE_n273.sub (em_pm _))
            show JM g D ad w0 A271 223 [(3, vi 1), (2, vi xs), (1, vi p0), (0, vr 0 0)] [vi z274, vi xs, vr 39 p0.toNat]
            have hz_n273 : 0 ≤ z274 ∧ z274 ≤ 119 := raw_hz_n273
            clear raw_hz_n273
            have hb_n273 : A271 0 0 24 ≤ A271 0 0 23 ∧ A271 0 0 23 ≤ A271 0 0 22 := raw_hb_n273
            clear raw_hb_n273
            have hm_n273 : A256 0 0 24 ≤ A271 0 0 24 ∧ A256 0 0 30 ≤ A271 0 0 30 ∧ A271 0 0 27 = A256 0 0 27 := raw_hm_n273
            clear raw_hm_n273
            have pt_n273 : pT A271 := raw_hn_n273
            have k0_n273 : A271 0 0 0 = A256 0 0 0 := hE_n273 0 0 0 rfl
            have k22_n273 : A271 0 0 22 = A256 0 0 22 := hE_n273 0 0 22 rfl
            have k28_n273 : A271 0 0 28 = A256 0 0 28 := hE_n273 0 0 28 rfl
            have k29_n273 : A271 0 0 29 = A256 0 0 29 := hE_n273 0 0 29 rfl
            have hG_n273 : nG p0.toNat A271 := raw_hG_n273
            have hK_n273 : nK p0.toNat (mu A256 35 p0.toNat xs.toNat z259) A271 := raw_hK_n273
            have Q275 : pQ p0.toNat (A 0 0 28) (A 0 0 29) (A 0 0 30) A A271 := pQ.emk (A2 := (mu A256 35 p0.toNat xs.toNat z259)) Q264 hE_n273 hK_n273 (by show A 0 0 30 ≤ A256 0 0 30; omega)
            have r34_n273 : A271 34 p0.toNat xs.toNat = 1 := Eq.trans (hE_n273 34 p0.toNat xs.toNat rfl) r34_n258
            have r35_n273 : A271 35 p0.toNat xs.toNat = z259 := Eq.trans (hE_n273 35 p0.toNat xs.toNat rfl) (mu_at A256 35 p0.toNat xs.toNat z259)
            have r36_n273 : A271 36 p0.toNat xs.toNat = (-1) := Eq.trans (hE_n273 36 p0.toNat xs.toNat rfl) r36_n258
            have r39_n273 : A271 39 p0.toNat xs.toNat = (-1) := Eq.trans (hE_n273 39 p0.toNat xs.toNat rfl) r39_n258
            have r40_n273 : A271 40 p0.toNat xs.toNat = x30 := Eq.trans (hE_n273 40 p0.toNat xs.toNat rfl) r40_n258
            have g_n273 : A271 0 0 31 = 1 := wr_1 (hT_n273 0 0 31) (fun h9 => absurd ((g_n258 : A256 0 0 31 = 1).symm.trans (raw_hw_n273 h9).1) (by decide))
            refine m_iast C e_q_step_223 rfl (by omega) (by decide) (by omega) (by show xs < ((16 : Nat) : Int); omega) ?_
            have t276 : mTy (mu A271 39 p0.toNat xs.toNat z274) := hT_n273.mu (by show (-1) ≤ z274 ∧ z274 ≤ 119; omega)
            have q277 := hF_n273.mu (f := 39) (k := p0.toNat) (j := xs.toNat) (z := z274) (by simp [pm])
            have Q278 : pQ p0.toNat (A 0 0 28) (A 0 0 29) (A 0 0 30) A (mu A271 39 p0.toNat xs.toNat z274) := pQ.mu (A2 := A271) Q275 (by omega) (by omega) (by omega)
            have G279 : nG p0.toNat (mu A271 39 p0.toNat xs.toNat z274) := hG_n273
            refine m_blk 226 [(3, vi 1), (2, vi xs), (1, vi p0), (0, vr 0 0)] [vi 3, vi 1] C f_q_step_224_2 rfl ?_
            refine m_icmp_eq (tgt := 234) C e_q_step_226 (by decide) (by decide) (by decide) (fun c280 => (by omega : False).elim) (fun c280 => ?_)
            refine m_blk 231 [(3, vi 1), (2, vi xs), (1, vi p0), (0, vr 0 0)] [vi 4, vi 1] C f_q_step_229_2 rfl ?_
            refine m_icmp_ne (tgt := 238) C e_q_step_231 (by decide) (by decide) (by decide) (fun c281 => ?_) (fun c281 => (by omega : False).elim)
            refine m_blk 239 [(3, vi 1), (2, vi xs), (1, vi p0), (0, vr 0 0)] [vr 0 0] C f_q_step_238_1 rfl ?_
            refine m_getr C e_q_step_239 fg_Mo_33 rfl (by decide) rfl ?_
            refine m_blk 243 [(3, vi 1), (2, vi xs), (1, vi p0), (0, vr 0 0)] [vi p0, vr 18 0] C f_q_step_242_1 rfl ?_
            refine m_aald C p0.toNat e_q_step_243 rfl rfl rfl (by decide) (by decide) (by omega) (by show p0 < ((6 : Nat) : Int); omega) (mz _ _) ?_
            refine m_blk 246 [(3, vi 1), (2, vi xs), (1, vi p0), (0, vr 0 0)] [vr 0 0, vi xs, vr 38 p0.toNat] C f_q_step_244_2 rfl ?_
            obtain ⟨x282, hx282⟩ : ∃ x, A271 0 0 28 = x := ⟨_, rfl⟩
            have rx282 : 0 ≤ x282 ∧ x282 ≤ 16 := mrg hT_n273 hx282 rfl
            refine m_geti C e_q_step_246 fg_Mo_192 rfl (by decide) rfl x282 hx282 ?_
            refine m_iast C e_q_step_249 rfl (by omega) (by decide) (by omega) (by show xs < ((16 : Nat) : Int); omega) ?_
            have t283 : mTy (mu (mu A271 39 p0.toNat xs.toNat z274) 38 p0.toNat xs.toNat x282) := t276.mu (by show 0 ≤ x282 ∧ x282 ≤ 16; omega)
            have q284 := q277.mu (f := 38) (k := p0.toNat) (j := xs.toNat) (z := x282) (by simp [pm])
            have Q285 : pQ p0.toNat (A 0 0 28) (A 0 0 29) (A 0 0 30) A (mu (mu A271 39 p0.toNat xs.toNat z274) 38 p0.toNat xs.toNat x282) := pQ.mu (A2 := (mu A271 39 p0.toNat xs.toNat z274)) Q278 (by omega) (by omega) (by omega)
            have G286 : nG p0.toNat (mu (mu A271 39 p0.toNat xs.toNat z274) 38 p0.toNat xs.toNat x282) := G279
            refine m_blk 252 [(3, vi 1), (2, vi xs), (1, vi p0), (0, vr 0 0)] [vi 3, vi 1] C f_q_step_250_2 rfl ?_
            refine m_icmp_ne (tgt := 259) C e_q_step_252 (by decide) (by decide) (by decide) (fun c287 => ?_) (fun c287 => (by omega : False).elim)
            refine m_blk 260 [(3, vi 1), (2, vi xs), (1, vi p0), (0, vr 0 0)] [vr 0 0] C f_q_step_259_1 rfl ?_
            refine m_getr C e_q_step_260 fg_Mo_30 rfl (by decide) rfl ?_
            refine m_blk 264 [(3, vi 1), (2, vi xs), (1, vi p0), (0, vr 0 0)] [vi p0, vr 17 0] C f_q_step_263_1 rfl ?_
            refine m_aald C p0.toNat e_q_step_264 rfl rfl rfl (by decide) (by decide) (by omega) (by show p0 < ((6 : Nat) : Int); omega) (mz _ _) ?_
            refine m_blk 267 [(3, vi 1), (2, vi xs), (1, vi p0), (0, vr 0 0)] [vr 0 0, vi xs, vr 37 p0.toNat] C f_q_step_265_2 rfl ?_
            refine m_geti C e_q_step_267 fg_Mo_192 rfl (by decide) rfl x282 hx282 ?_
            refine m_iast C e_q_step_270 rfl (by omega) (by decide) (by omega) (by show xs < ((16 : Nat) : Int); omega) ?_
            have t288 : mTy (mu (mu (mu A271 39 p0.toNat xs.toNat z274) 38 p0.toNat xs.toNat x282) 37 p0.toNat xs.toNat x282) := t283.mu (by show 0 ≤ x282 ∧ x282 ≤ 16; omega)
            have q289 := q284.mu (f := 37) (k := p0.toNat) (j := xs.toNat) (z := x282) (by simp [pm])
            have Q290 : pQ p0.toNat (A 0 0 28) (A 0 0 29) (A 0 0 30) A (mu (mu (mu A271 39 p0.toNat xs.toNat z274) 38 p0.toNat xs.toNat x282) 37 p0.toNat xs.toNat x282) := pQ.mu (A2 := (mu (mu A271 39 p0.toNat xs.toNat z274) 38 p0.toNat xs.toNat x282)) Q285 (by omega) (by omega) (by omega)
            have G291 : nG p0.toNat (mu (mu (mu A271 39 p0.toNat xs.toNat z274) 38 p0.toNat xs.toNat x282) 37 p0.toNat xs.toNat x282) := G286
            exact m_vret C Rm E e_q_step_271 ⟨rfl, t288, q289, (by show A271 0 0 24 ≤ A271 0 0 23 ∧ A271 0 0 23 ≤ A271 0 0 22; omega), pt_n273, (fun h9 => absurd ((g_n273 : A271 0 0 31 = 1).symm.trans h9) (by decide)), (by show A 0 0 24 ≤ A271 0 0 24 ∧ A 0 0 28 ≤ A271 0 0 28 ∧ A 0 0 29 ≤ A271 0 0 29 ∧ A 0 0 30 ≤ A271 0 0 30 ∧ A271 0 0 27 = A 0 0 27; omega), G291, Q290⟩
        · have bt9 : A 0 0 24 < A 0 0 23 := pT_lt hn g0 (by omega)
          refine m_blk 104 [(3, vi 2), (2, vi xs), (1, vi p0), (0, vr 0 0)] [vr 0 0] C f_q_step_103_1 rfl ?_
          refine m_callV C Rm Y [] [] (q_next l D B H0 ad _ hS t31 (by show A 0 0 23 ≤ A 0 0 22; omega)) cl_Mo_176 rfl (by decide) rfl rfl e_q_step_104 rfl rfl rfl ⟨by show _ ≤ (32 + 4 * d : Nat); omega, by show _ ≤ (630 + 300 * d : Nat); omega⟩ ?_
          rintro v292 A293 ⟨rfl, hT_n295, hE_n295, raw_hw_n295, raw_hb_n295⟩
          have hF_n295 := q32.trans (hE_n295.sub (nm_pm _))
          show JM g D ad w0 A293 107 [(3, vi 2), (2, vi xs), (1, vi p0), (0, vr 0 0)] []
          obtain ⟨b1_n295, b2_n295, b3_n295, pt_n295⟩ : A 0 0 23 ≤ A293 0 0 24 ∧ A293 0 0 24 ≤ A293 0 0 23 ∧ A293 0 0 23 ≤ A293 0 0 22 ∧ pT A293 := raw_hb_n295 g0
          clear raw_hb_n295 raw_hw_n295
          have k0_n295 : A293 0 0 0 = A 0 0 0 := hE_n295 0 0 0 rfl
          have k22_n295 : A293 0 0 22 = A 0 0 22 := hE_n295 0 0 22 rfl
          have k27_n295 : A293 0 0 27 = A 0 0 27 := hE_n295 0 0 27 rfl
          have k28_n295 : A293 0 0 28 = (xs + 1) := hE_n295 0 0 28 rfl
          have k29_n295 : A293 0 0 29 = A 0 0 29 := hE_n295 0 0 29 rfl
          have k30_n295 : A293 0 0 30 = A 0 0 30 := hE_n295 0 0 30 rfl
          have G296 : nG p0.toNat A293 := nG.nm (A := (mu (mu (mu (mu (mu (mu A 0 0 28 (xs + 1)) 34 p0.toNat xs.toNat 2) 35 p0.toNat xs.toNat (-1)) 36 p0.toNat xs.toNat (-1)) 39 p0.toNat xs.toNat (-1)) 40 p0.toNat xs.toNat x30)) G34 hE_n295
          have Q297 : pQ p0.toNat (A 0 0 28) (A 0 0 29) (A 0 0 30) A A293 := pQ.fam (A2 := (mu (mu (mu (mu (mu (mu A 0 0 28 (xs + 1)) 34 p0.toNat xs.toNat 2) 35 p0.toNat xs.toNat (-1)) 36 p0.toNat xs.toNat (-1)) 39 p0.toNat xs.toNat (-1)) 40 p0.toNat xs.toNat x30)) Q33 (fam_nm _ hE_n295)
          have r34_n295 : A293 34 p0.toNat xs.toNat = 2 := Eq.trans (hE_n295 34 p0.toNat xs.toNat rfl) (mu_at (mu A 0 0 28 (xs + 1)) 34 p0.toNat xs.toNat 2)
          have r35_n295 : A293 35 p0.toNat xs.toNat = (-1) := Eq.trans (hE_n295 35 p0.toNat xs.toNat rfl) (mu_at (mu (mu A 0 0 28 (xs + 1)) 34 p0.toNat xs.toNat 2) 35 p0.toNat xs.toNat (-1))
          have r36_n295 : A293 36 p0.toNat xs.toNat = (-1) := Eq.trans (hE_n295 36 p0.toNat xs.toNat rfl) (mu_at (mu (mu (mu A 0 0 28 (xs + 1)) 34 p0.toNat xs.toNat 2) 35 p0.toNat xs.toNat (-1)) 36 p0.toNat xs.toNat (-1))
          have r39_n295 : A293 39 p0.toNat xs.toNat = (-1) := Eq.trans (hE_n295 39 p0.toNat xs.toNat rfl) (mu_at (mu (mu (mu (mu A 0 0 28 (xs + 1)) 34 p0.toNat xs.toNat 2) 35 p0.toNat xs.toNat (-1)) 36 p0.toNat xs.toNat (-1)) 39 p0.toNat xs.toNat (-1))
          have r40_n295 : A293 40 p0.toNat xs.toNat = x30 := Eq.trans (hE_n295 40 p0.toNat xs.toNat rfl) (mu_at (mu (mu (mu (mu (mu A 0 0 28 (xs + 1)) 34 p0.toNat xs.toNat 2) 35 p0.toNat xs.toNat (-1)) 36 p0.toNat xs.toNat (-1)) 39 p0.toNat xs.toNat (-1)) 40 p0.toNat xs.toNat x30)
          rcases (show A293 0 0 31 = 0 ∨ A293 0 0 31 = 1 from by have w9 := hT_n295 0 0 31; have w8 : 0 ≤ A293 0 0 31 ∧ A293 0 0 31 ≤ 1 := w9; omega) with g_n295 | g_n295
          · refine m_blk 108 [(3, vi 2), (2, vi xs), (1, vi p0), (0, vr 0 0)] [vi 2] C f_q_step_107_1 rfl ?_
            refine m_if_eq (tgt := 121) C e_q_step_108 (by decide) (by decide) (fun c298 => (by omega : False).elim) (fun c298 => ?_)
            refine m_blk 113 [(3, vi 2), (2, vi xs), (1, vi p0), (0, vr 0 0)] [vi 1, vi 2] C f_q_step_111_2 rfl ?_
            refine m_icmp_eq (tgt := 121) C e_q_step_113 (by decide) (by decide) (by decide) (fun c299 => (by omega : False).elim) (fun c299 => ?_)
            refine m_blk 118 [(3, vi 2), (2, vi xs), (1, vi p0), (0, vr 0 0)] [vi 5, vi 2] C f_q_step_116_2 rfl ?_
            refine m_icmp_ne (tgt := 136) C e_q_step_118 (by decide) (by decide) (by decide) (fun c300 => ?_) (fun c300 => (by omega : False).elim)
            refine m_blk 137 [(3, vi 2), (2, vi xs), (1, vi p0), (0, vr 0 0)] [vi 2] C f_q_step_136_1 rfl ?_
            refine m_if_ne (tgt := 146) C e_q_step_137 (by decide) (by decide) (fun c301 => ?_) (fun c301 => (by omega : False).elim)
            refine m_blk 148 [(3, vi 2), (2, vi xs), (1, vi p0), (0, vr 0 0)] [vi 4, vi 2] C f_q_step_146_2 rfl ?_
            refine m_icmp_ne (tgt := 167) C e_q_step_148 (by decide) (by decide) (by decide) (fun c302 => ?_) (fun c302 => (by omega : False).elim)
            refine m_blk 169 [(3, vi 2), (2, vi xs), (1, vi p0), (0, vr 0 0)] [vi 5, vi 2] C f_q_step_167_2 rfl ?_
            refine m_icmp_ne (tgt := 192) C e_q_step_169 (by decide) (by decide) (by decide) (fun c303 => ?_) (fun c303 => (by omega : False).elim)
            refine m_blk 194 [(3, vi 2), (2, vi xs), (1, vi p0), (0, vr 0 0)] [vi 1, vi 2] C f_q_step_192_2 rfl ?_
            refine m_icmp_eq (tgt := 212) C e_q_step_194 (by decide) (by decide) (by decide) (fun c304 => (by omega : False).elim) (fun c304 => ?_)
            refine m_blk 199 [(3, vi 2), (2, vi xs), (1, vi p0), (0, vr 0 0)] [vi 2, vi 2] C f_q_step_197_2 rfl ?_
            refine m_icmp_eq (tgt := 212) C e_q_step_199 (by decide) (by decide) (by decide) (fun c305 => ?_) (fun c305 => (by omega : False).elim)
            refine m_blk 213 [(3, vi 2), (2, vi xs), (1, vi p0), (0, vr 0 0)] [vr 0 0] C f_q_step_212_1 rfl ?_
            refine m_getr C e_q_step_213 fg_Mo_36 rfl (by decide) rfl ?_
            refine m_blk 217 [(3, vi 2), (2, vi xs), (1, vi p0), (0, vr 0 0)] [vi p0, vr 19 0] C f_q_step_216_1 rfl ?_
            refine m_aald C p0.toNat e_q_step_217 rfl rfl rfl (by decide) (by decide) (by omega) (by show p0 < ((6 : Nat) : Int); omega) (mz _ _) ?_
            refine m_blk 220 [(3, vi 2), (2, vi xs), (1, vi p0), (0, vr 0 0)] [vr 0 0, vi xs, vr 39 p0.toNat] C f_q_step_218_2 rfl ?_
            refine m_callV C Rm Y [] [vi xs, vr 39 p0.toNat] ((q_E d).2 l D B H0 ad _ hS hT_n295 p0 (by show A293 0 0 0 = p0 ∧ 0 ≤ p0 ∧ p0 ≤ 5; omega) (by show A293 0 0 24 ≤ A293 0 0 23 ∧ A293 0 0 23 ≤ A293 0 0 22; omega) pt_n295 (fun _ => by show A293 0 0 30 + 3 * A293 0 0 29 ≤ A293 0 0 24; omega) G296 (by show A293 0 0 27 = 4 - (d : Int) ∧ (d : Int) ≤ 4; omega)) cl_Mo_206 rfl (by decide) rfl rfl e_q_step_220 rfl rfl rfl ⟨by show _ ≤ (32 + 4 * d : Nat); omega, by show _ ≤ (630 + 300 * d : Nat); omega⟩ ?_
            rintro v306 A307 ⟨z310, rfl, hT_n309, hE_n309, raw_hz_n309, raw_hb_n309, raw_hn_n309, raw_hw_n309, raw_hm_n309, raw_hG_n309, raw_hK_n309⟩
            have hF_n309 := hF_n295.trans (hE_n309.sub (em_pm _))
            show JM g D ad w0 A307 223 [(3, vi 2), (2, vi xs), (1, vi p0), (0, vr 0 0)] [vi z310, vi xs, vr 39 p0.toNat]
            have hz_n309 : 0 ≤ z310 ∧ z310 ≤ 119 := raw_hz_n309
            clear raw_hz_n309
            have hb_n309 : A307 0 0 24 ≤ A307 0 0 23 ∧ A307 0 0 23 ≤ A307 0 0 22 := raw_hb_n309
            clear raw_hb_n309
            have hm_n309 : A293 0 0 24 ≤ A307 0 0 24 ∧ A293 0 0 30 ≤ A307 0 0 30 ∧ A307 0 0 27 = A293 0 0 27 := raw_hm_n309
            clear raw_hm_n309
            have pt_n309 : pT A307 := raw_hn_n309
            have k0_n309 : A307 0 0 0 = A293 0 0 0 := hE_n309 0 0 0 rfl
            have k22_n309 : A307 0 0 22 = A293 0 0 22 := hE_n309 0 0 22 rfl
            have k28_n309 : A307 0 0 28 = A293 0 0 28 := hE_n309 0 0 28 rfl
            have k29_n309 : A307 0 0 29 = A293 0 0 29 := hE_n309 0 0 29 rfl
            have hG_n309 : nG p0.toNat A307 := raw_hG_n309
            have hK_n309 : nK p0.toNat A293 A307 := raw_hK_n309
            have Q311 : pQ p0.toNat (A 0 0 28) (A 0 0 29) (A 0 0 30) A A307 := pQ.emk (A2 := A293) Q297 hE_n309 hK_n309 (by show A 0 0 30 ≤ A293 0 0 30; omega)
            have r34_n309 : A307 34 p0.toNat xs.toNat = 2 := Eq.trans (hE_n309 34 p0.toNat xs.toNat rfl) r34_n295
            have r35_n309 : A307 35 p0.toNat xs.toNat = (-1) := Eq.trans (hE_n309 35 p0.toNat xs.toNat rfl) r35_n295
            have r36_n309 : A307 36 p0.toNat xs.toNat = (-1) := Eq.trans (hE_n309 36 p0.toNat xs.toNat rfl) r36_n295
            have r39_n309 : A307 39 p0.toNat xs.toNat = (-1) := Eq.trans (hE_n309 39 p0.toNat xs.toNat rfl) r39_n295
            have r40_n309 : A307 40 p0.toNat xs.toNat = x30 := Eq.trans (hE_n309 40 p0.toNat xs.toNat rfl) r40_n295
            rcases (show A307 0 0 31 = 0 ∨ A307 0 0 31 = 1 from by have w9 := hT_n309 0 0 31; have w8 : 0 ≤ A307 0 0 31 ∧ A307 0 0 31 ≤ 1 := w9; omega) with g_n309 | g_n309
            · have u_n309 : z310 < A307 0 0 30 ∧ A293 0 0 24 - A293 0 0 30 ≤ A307 0 0 24 - A307 0 0 30 := (raw_hw_n309 g_n309).2
              refine m_iast C e_q_step_223 rfl (by omega) (by decide) (by omega) (by show xs < ((16 : Nat) : Int); omega) ?_
              have t312 : mTy (mu A307 39 p0.toNat xs.toNat z310) := hT_n309.mu (by show (-1) ≤ z310 ∧ z310 ≤ 119; omega)
              have q313 := hF_n309.mu (f := 39) (k := p0.toNat) (j := xs.toNat) (z := z310) (by simp [pm])
              have Q314 : pQ p0.toNat (A 0 0 28) (A 0 0 29) (A 0 0 30) A (mu A307 39 p0.toNat xs.toNat z310) := pQ.mu (A2 := A307) Q311 (by omega) (by omega) (by omega)
              have G315 : nG p0.toNat (mu A307 39 p0.toNat xs.toNat z310) := hG_n309
              refine m_blk 226 [(3, vi 2), (2, vi xs), (1, vi p0), (0, vr 0 0)] [vi 3, vi 2] C f_q_step_224_2 rfl ?_
              refine m_icmp_eq (tgt := 234) C e_q_step_226 (by decide) (by decide) (by decide) (fun c316 => (by omega : False).elim) (fun c316 => ?_)
              refine m_blk 231 [(3, vi 2), (2, vi xs), (1, vi p0), (0, vr 0 0)] [vi 4, vi 2] C f_q_step_229_2 rfl ?_
              refine m_icmp_ne (tgt := 238) C e_q_step_231 (by decide) (by decide) (by decide) (fun c317 => ?_) (fun c317 => (by omega : False).elim)
              refine m_blk 239 [(3, vi 2), (2, vi xs), (1, vi p0), (0, vr 0 0)] [vr 0 0] C f_q_step_238_1 rfl ?_
              refine m_getr C e_q_step_239 fg_Mo_33 rfl (by decide) rfl ?_
              refine m_blk 243 [(3, vi 2), (2, vi xs), (1, vi p0), (0, vr 0 0)] [vi p0, vr 18 0] C f_q_step_242_1 rfl ?_
              refine m_aald C p0.toNat e_q_step_243 rfl rfl rfl (by decide) (by decide) (by omega) (by show p0 < ((6 : Nat) : Int); omega) (mz _ _) ?_
              refine m_blk 246 [(3, vi 2), (2, vi xs), (1, vi p0), (0, vr 0 0)] [vr 0 0, vi xs, vr 38 p0.toNat] C f_q_step_244_2 rfl ?_
              obtain ⟨x318, hx318⟩ : ∃ x, A307 0 0 28 = x := ⟨_, rfl⟩
              have rx318 : 0 ≤ x318 ∧ x318 ≤ 16 := mrg hT_n309 hx318 rfl
              refine m_geti C e_q_step_246 fg_Mo_192 rfl (by decide) rfl x318 hx318 ?_
              refine m_iast C e_q_step_249 rfl (by omega) (by decide) (by omega) (by show xs < ((16 : Nat) : Int); omega) ?_
              have t319 : mTy (mu (mu A307 39 p0.toNat xs.toNat z310) 38 p0.toNat xs.toNat x318) := t312.mu (by show 0 ≤ x318 ∧ x318 ≤ 16; omega)
              have q320 := q313.mu (f := 38) (k := p0.toNat) (j := xs.toNat) (z := x318) (by simp [pm])
              have Q321 : pQ p0.toNat (A 0 0 28) (A 0 0 29) (A 0 0 30) A (mu (mu A307 39 p0.toNat xs.toNat z310) 38 p0.toNat xs.toNat x318) := pQ.mu (A2 := (mu A307 39 p0.toNat xs.toNat z310)) Q314 (by omega) (by omega) (by omega)
              have G322 : nG p0.toNat (mu (mu A307 39 p0.toNat xs.toNat z310) 38 p0.toNat xs.toNat x318) := G315
              refine m_blk 252 [(3, vi 2), (2, vi xs), (1, vi p0), (0, vr 0 0)] [vi 3, vi 2] C f_q_step_250_2 rfl ?_
              refine m_icmp_ne (tgt := 259) C e_q_step_252 (by decide) (by decide) (by decide) (fun c323 => ?_) (fun c323 => (by omega : False).elim)
              refine m_blk 260 [(3, vi 2), (2, vi xs), (1, vi p0), (0, vr 0 0)] [vr 0 0] C f_q_step_259_1 rfl ?_
              refine m_getr C e_q_step_260 fg_Mo_30 rfl (by decide) rfl ?_
              refine m_blk 264 [(3, vi 2), (2, vi xs), (1, vi p0), (0, vr 0 0)] [vi p0, vr 17 0] C f_q_step_263_1 rfl ?_
              refine m_aald C p0.toNat e_q_step_264 rfl rfl rfl (by decide) (by decide) (by omega) (by show p0 < ((6 : Nat) : Int); omega) (mz _ _) ?_
              refine m_blk 267 [(3, vi 2), (2, vi xs), (1, vi p0), (0, vr 0 0)] [vr 0 0, vi xs, vr 37 p0.toNat] C f_q_step_265_2 rfl ?_
              refine m_geti C e_q_step_267 fg_Mo_192 rfl (by decide) rfl x318 hx318 ?_
              refine m_iast C e_q_step_270 rfl (by omega) (by decide) (by omega) (by show xs < ((16 : Nat) : Int); omega) ?_
              have t324 : mTy (mu (mu (mu A307 39 p0.toNat xs.toNat z310) 38 p0.toNat xs.toNat x318) 37 p0.toNat xs.toNat x318) := t319.mu (by show 0 ≤ x318 ∧ x318 ≤ 16; omega)
              have q325 := q320.mu (f := 37) (k := p0.toNat) (j := xs.toNat) (z := x318) (by simp [pm])
              have Q326 : pQ p0.toNat (A 0 0 28) (A 0 0 29) (A 0 0 30) A (mu (mu (mu A307 39 p0.toNat xs.toNat z310) 38 p0.toNat xs.toNat x318) 37 p0.toNat xs.toNat x318) := pQ.mu (A2 := (mu (mu A307 39 p0.toNat xs.toNat z310) 38 p0.toNat xs.toNat x318)) Q321 (by omega) (by omega) (by omega)
              have G327 : nG p0.toNat (mu (mu (mu A307 39 p0.toNat xs.toNat z310) 38 p0.toNat xs.toNat x318) 37 p0.toNat xs.toNat x318) := G322
              exact m_vret C Rm E e_q_step_271 ⟨rfl, t324, q325, (by show A307 0 0 24 ≤ A307 0 0 23 ∧ A307 0 0 23 ≤ A307 0 0 22; omega), pt_n309, (pV.one' (i := xs.toNat) g0 (by show A 0 0 24 - A 0 0 30 - 3 * A 0 0 29 ≤ A307 0 0 24 - A307 0 0 30 - 3 * A307 0 0 29; omega) (by omega) (by show A307 0 0 28 = A 0 0 28 + 1; omega) (sG.mk r34_n309 r35_n309 r36_n309 (mu_at (mu (mu A307 39 p0.toNat xs.toNat z310) 38 p0.toNat xs.toNat x318) 37 p0.toNat xs.toNat x318) (mu_at (mu A307 39 p0.toNat xs.toNat z310) 38 p0.toNat xs.toNat x318) (mu_at A307 39 p0.toNat xs.toNat z310) r40_n309 (by decide) (by show _ ∧ _ ∧ _ ≤ A307 0 0 28; omega) (by show _ ∧ _ < A307 0 0 30; omega) (by omega) (by omega) (by omega) (by decide) (fun h9 => absurd h9 (by decide)) (by show 0 ≤ (4 - (d : Int)) ∧ (4 - (d : Int)) ≤ 4; omega) (by decide))), (by show A 0 0 24 ≤ A307 0 0 24 ∧ A 0 0 28 ≤ A307 0 0 28 ∧ A 0 0 29 ≤ A307 0 0 29 ∧ A 0 0 30 ≤ A307 0 0 30 ∧ A307 0 0 27 = A 0 0 27; omega), G327, Q326⟩
            · refine m_iast C e_q_step_223 rfl (by omega) (by decide) (by omega) (by show xs < ((16 : Nat) : Int); omega) ?_
              have t328 : mTy (mu A307 39 p0.toNat xs.toNat z310) := hT_n309.mu (by show (-1) ≤ z310 ∧ z310 ≤ 119; omega)
              have q329 := hF_n309.mu (f := 39) (k := p0.toNat) (j := xs.toNat) (z := z310) (by simp [pm])
              have Q330 : pQ p0.toNat (A 0 0 28) (A 0 0 29) (A 0 0 30) A (mu A307 39 p0.toNat xs.toNat z310) := pQ.mu (A2 := A307) Q311 (by omega) (by omega) (by omega)
              have G331 : nG p0.toNat (mu A307 39 p0.toNat xs.toNat z310) := hG_n309
              refine m_blk 226 [(3, vi 2), (2, vi xs), (1, vi p0), (0, vr 0 0)] [vi 3, vi 2] C f_q_step_224_2 rfl ?_
              refine m_icmp_eq (tgt := 234) C e_q_step_226 (by decide) (by decide) (by decide) (fun c332 => (by omega : False).elim) (fun c332 => ?_)
              refine m_blk 231 [(3, vi 2), (2, vi xs), (1, vi p0), (0, vr 0 0)] [vi 4, vi 2] C f_q_step_229_2 rfl ?_
              refine m_icmp_ne (tgt := 238) C e_q_step_231 (by decide) (by decide) (by decide) (fun c333 => ?_) (fun c333 => (by omega : False).elim)
              refine m_blk 239 [(3, vi 2), (2, vi xs), (1, vi p0), (0, vr 0 0)] [vr 0 0] C f_q_step_238_1 rfl ?_
              refine m_getr C e_q_step_239 fg_Mo_33 rfl (by decide) rfl ?_
              refine m_blk 243 [(3, vi 2), (2, vi xs), (1, vi p0), (0, vr 0 0)] [vi p0, vr 18 0] C f_q_step_242_1 rfl ?_
              refine m_aald C p0.toNat e_q_step_243 rfl rfl rfl (by decide) (by decide) (by omega) (by show p0 < ((6 : Nat) : Int); omega) (mz _ _) ?_
              refine m_blk 246 [(3, vi 2), (2, vi xs), (1, vi p0), (0, vr 0 0)] [vr 0 0, vi xs, vr 38 p0.toNat] C f_q_step_244_2 rfl ?_
              obtain ⟨x334, hx334⟩ : ∃ x, A307 0 0 28 = x := ⟨_, rfl⟩
              have rx334 : 0 ≤ x334 ∧ x334 ≤ 16 := mrg hT_n309 hx334 rfl
              refine m_geti C e_q_step_246 fg_Mo_192 rfl (by decide) rfl x334 hx334 ?_
              refine m_iast C e_q_step_249 rfl (by omega) (by decide) (by omega) (by show xs < ((16 : Nat) : Int); omega) ?_
              have t335 : mTy (mu (mu A307 39 p0.toNat xs.toNat z310) 38 p0.toNat xs.toNat x334) := t328.mu (by show 0 ≤ x334 ∧ x334 ≤ 16; omega)
              have q336 := q329.mu (f := 38) (k := p0.toNat) (j := xs.toNat) (z := x334) (by simp [pm])
              have Q337 : pQ p0.toNat (A 0 0 28) (A 0 0 29) (A 0 0 30) A (mu (mu A307 39 p0.toNat xs.toNat z310) 38 p0.toNat xs.toNat x334) := pQ.mu (A2 := (mu A307 39 p0.toNat xs.toNat z310)) Q330 (by omega) (by omega) (by omega)
              have G338 : nG p0.toNat (mu (mu A307 39 p0.toNat xs.toNat z310) 38 p0.toNat xs.toNat x334) := G331
              refine m_blk 252 [(3, vi 2), (2, vi xs), (1, vi p0), (0, vr 0 0)] [vi 3, vi 2] C f_q_step_250_2 rfl ?_
              refine m_icmp_ne (tgt := 259) C e_q_step_252 (by decide) (by decide) (by decide) (fun c339 => ?_) (fun c339 => (by omega : False).elim)
              refine m_blk 260 [(3, vi 2), (2, vi xs), (1, vi p0), (0, vr 0 0)] [vr 0 0] C f_q_step_259_1 rfl ?_
              refine m_getr C e_q_step_260 fg_Mo_30 rfl (by decide) rfl ?_
              refine m_blk 264 [(3, vi 2), (2, vi xs), (1, vi p0), (0, vr 0 0)] [vi p0, vr 17 0] C f_q_step_263_1 rfl ?_
              refine m_aald C p0.toNat e_q_step_264 rfl rfl rfl (by decide) (by decide) (by omega) (by show p0 < ((6 : Nat) : Int); omega) (mz _ _) ?_
              refine m_blk 267 [(3, vi 2), (2, vi xs), (1, vi p0), (0, vr 0 0)] [vr 0 0, vi xs, vr 37 p0.toNat] C f_q_step_265_2 rfl ?_
              refine m_geti C e_q_step_267 fg_Mo_192 rfl (by decide) rfl x334 hx334 ?_
              refine m_iast C e_q_step_270 rfl (by omega) (by decide) (by omega) (by show xs < ((16 : Nat) : Int); omega) ?_
              have t340 : mTy (mu (mu (mu A307 39 p0.toNat xs.toNat z310) 38 p0.toNat xs.toNat x334) 37 p0.toNat xs.toNat x334) := t335.mu (by show 0 ≤ x334 ∧ x334 ≤ 16; omega)
              have q341 := q336.mu (f := 37) (k := p0.toNat) (j := xs.toNat) (z := x334) (by simp [pm])
              have Q342 : pQ p0.toNat (A 0 0 28) (A 0 0 29) (A 0 0 30) A (mu (mu (mu A307 39 p0.toNat xs.toNat z310) 38 p0.toNat xs.toNat x334) 37 p0.toNat xs.toNat x334) := pQ.mu (A2 := (mu (mu A307 39 p0.toNat xs.toNat z310) 38 p0.toNat xs.toNat x334)) Q337 (by omega) (by omega) (by omega)
              have G343 : nG p0.toNat (mu (mu (mu A307 39 p0.toNat xs.toNat z310) 38 p0.toNat xs.toNat x334) 37 p0.toNat xs.toNat x334) := G338
              exact m_vret C Rm E e_q_step_271 ⟨rfl, t340, q341, (by show A307 0 0 24 ≤ A307 0 0 23 ∧ A307 0 0 23 ≤ A307 0 0 22; omega), pt_n309, (fun h9 => absurd ((g_n309 : A307 0 0 31 = 1).symm.trans h9) (by decide)), (by show A 0 0 24 ≤ A307 0 0 24 ∧ A 0 0 28 ≤ A307 0 0 28 ∧ A 0 0 29 ≤ A307 0 0 29 ∧ A 0 0 30 ≤ A307 0 0 30 ∧ A307 0 0 27 = A 0 0 27; omega), G343, Q342⟩
          · refine m_blk 108 [(3, vi 2), (2, vi xs), (1, vi p0), (0, vr 0 0)] [vi 2] C f_q_step_107_1 rfl ?_
            refine m_if_eq (tgt := 121) C e_q_step_108 (by decide) (by decide) (fun c344 => (by omega : False).elim) (fun c344 => ?_)
            refine m_blk 113 [(3, vi 2), (2, vi xs), (1, vi p0), (0, vr 0 0)] [vi 1, vi 2] C f_q_step_111_2 rfl ?_
            refine m_icmp_eq (tgt := 121) C e_q_step_113 (by decide) (by decide) (by decide) (fun c345 => (by omega : False).elim) (fun c345 => ?_)
            refine m_blk 118 [(3, vi 2), (2, vi xs), (1, vi p0), (0, vr 0 0)] [vi 5, vi 2] C f_q_step_116_2 rfl ?_
            refine m_icmp_ne (tgt := 136) C e_q_step_118 (by decide) (by decide) (by decide) (fun c346 => ?_) (fun c346 => (by omega : False).elim)
            refine m_blk 137 [(3, vi 2), (2, vi xs), (1, vi p0), (0, vr 0 0)] [vi 2] C f_q_step_136_1 rfl ?_
            refine m_if_ne (tgt := 146) C e_q_step_137 (by decide) (by decide) (fun c347 => ?_) (fun c347 => (by omega : False).elim)
            refine m_blk 148 [(3, vi 2), (2, vi xs), (1, vi p0), (0, vr 0 0)] [vi 4, vi 2] C f_q_step_146_2 rfl ?_
            refine m_icmp_ne (tgt := 167) C e_q_step_148 (by decide) (by decide) (by decide) (fun c348 => ?_) (fun c348 => (by omega : False).elim)
            refine m_blk 169 [(3, vi 2), (2, vi xs), (1, vi p0), (0, vr 0 0)] [vi 5, vi 2] C f_q_step_167_2 rfl ?_
            refine m_icmp_ne (tgt := 192) C e_q_step_169 (by decide) (by decide) (by decide) (fun c349 => ?_) (fun c349 => (by omega : False).elim)
            refine m_blk 194 [(3, vi 2), (2, vi xs), (1, vi p0), (0, vr 0 0)] [vi 1, vi 2] C f_q_step_192_2 rfl ?_
            refine m_icmp_eq (tgt := 212) C e_q_step_194 (by decide) (by decide) (by decide) (fun c350 => (by omega : False).elim) (fun c350 => ?_)
            refine m_blk 199 [(3, vi 2), (2, vi xs), (1, vi p0), (0, vr 0 0)] [vi 2, vi 2] C f_q_step_197_2 rfl ?_
            refine m_icmp_eq (tgt := 212) C e_q_step_199 (by decide) (by decide) (by decide) (fun c351 => ?_) (fun c351 => (by omega : False).elim)
            refine m_blk 213 [(3, vi 2), (2, vi xs), (1, vi p0), (0, vr 0 0)] [vr 0 0] C f_q_step_212_1 rfl ?_
            refine m_getr C e_q_step_213 fg_Mo_36 rfl (by decide) rfl ?_
            refine m_blk 217 [(3, vi 2), (2, vi xs), (1, vi p0), (0, vr 0 0)] [vi p0, vr 19 0] C f_q_step_216_1 rfl ?_
            refine m_aald C p0.toNat e_q_step_217 rfl rfl rfl (by decide) (by decide) (by omega) (by show p0 < ((6 : Nat) : Int); omega) (mz _ _) ?_
            refine m_blk 220 [(3, vi 2), (2, vi xs), (1, vi p0), (0, vr 0 0)] [vr 0 0, vi xs, vr 39 p0.toNat] C f_q_step_218_2 rfl ?_
            refine m_callV C Rm Y [] [vi xs, vr 39 p0.toNat] ((q_E d).2 l D B H0 ad _ hS hT_n295 p0 (by show A293 0 0 0 = p0 ∧ 0 ≤ p0 ∧ p0 ≤ 5; omega) (by show A293 0 0 24 ≤ A293 0 0 23 ∧ A293 0 0 23 ≤ A293 0 0 22; omega) pt_n295 (fun h9 => absurd ((g_n295 : A293 0 0 31 = 1).symm.trans h9) (by decide)) G296 (by show A293 0 0 27 = 4 - (d : Int) ∧ (d : Int) ≤ 4; omega)) cl_Mo_206 rfl (by decide) rfl rfl e_q_step_220 rfl rfl rfl ⟨by show _ ≤ (32 + 4 * d : Nat); omega, by show _ ≤ (630 + 300 * d : Nat); omega⟩ ?_
            rintro v352 A353 ⟨z356, rfl, hT_n355, hE_n355, raw_hz_n355, raw_hb_n355, raw_hn_n355, raw_hw_n355, raw_hm_n355, raw_hG_n355, raw_hK_n355⟩
            have hF_n355 := hF_n295.trans (hE_n355.sub (em_pm _))
            show JM g D ad w0 A353 223 [(3, vi 2), (2, vi xs), (1, vi p0), (0, vr 0 0)] [vi z356, vi xs, vr 39 p0.toNat]
            have hz_n355 : 0 ≤ z356 ∧ z356 ≤ 119 := raw_hz_n355
            clear raw_hz_n355
            have hb_n355 : A353 0 0 24 ≤ A353 0 0 23 ∧ A353 0 0 23 ≤ A353 0 0 22 := raw_hb_n355
            clear raw_hb_n355
            have hm_n355 : A293 0 0 24 ≤ A353 0 0 24 ∧ A293 0 0 30 ≤ A353 0 0 30 ∧ A353 0 0 27 = A293 0 0 27 := raw_hm_n355
            clear raw_hm_n355
            have pt_n355 : pT A353 := raw_hn_n355
            have k0_n355 : A353 0 0 0 = A293 0 0 0 := hE_n355 0 0 0 rfl
            have k22_n355 : A353 0 0 22 = A293 0 0 22 := hE_n355 0 0 22 rfl
            have k28_n355 : A353 0 0 28 = A293 0 0 28 := hE_n355 0 0 28 rfl
            have k29_n355 : A353 0 0 29 = A293 0 0 29 := hE_n355 0 0 29 rfl
            have hG_n355 : nG p0.toNat A353 := raw_hG_n355
            have hK_n355 : nK p0.toNat A293 A353 := raw_hK_n355
            have Q357 : pQ p0.toNat (A 0 0 28) (A 0 0 29) (A 0 0 30) A A353 := pQ.emk (A2 := A293) Q297 hE_n355 hK_n355 (by show A 0 0 30 ≤ A293 0 0 30; omega)
            have r34_n355 : A353 34 p0.toNat xs.toNat = 2 := Eq.trans (hE_n355 34 p0.toNat xs.toNat rfl) r34_n295
            have r35_n355 : A353 35 p0.toNat xs.toNat = (-1) := Eq.trans (hE_n355 35 p0.toNat xs.toNat rfl) r35_n295
            have r36_n355 : A353 36 p0.toNat xs.toNat = (-1) := Eq.trans (hE_n355 36 p0.toNat xs.toNat rfl) r36_n295
            have r39_n355 : A353 39 p0.toNat xs.toNat = (-1) := Eq.trans (hE_n355 39 p0.toNat xs.toNat rfl) r39_n295
            have r40_n355 : A353 40 p0.toNat xs.toNat = x30 := Eq.trans (hE_n355 40 p0.toNat xs.toNat rfl) r40_n295
            have g_n355 : A353 0 0 31 = 1 := wr_1 (hT_n355 0 0 31) (fun h9 => absurd ((g_n295 : A293 0 0 31 = 1).symm.trans (raw_hw_n355 h9).1) (by decide))
            refine m_iast C e_q_step_223 rfl (by omega) (by decide) (by omega) (by show xs < ((16 : Nat) : Int); omega) ?_
            have t358 : mTy (mu A353 39 p0.toNat xs.toNat z356) := hT_n355.mu (by show (-1) ≤ z356 ∧ z356 ≤ 119; omega)
            have q359 := hF_n355.mu (f := 39) (k := p0.toNat) (j := xs.toNat) (z := z356) (by simp [pm])
            have Q360 : pQ p0.toNat (A 0 0 28) (A 0 0 29) (A 0 0 30) A (mu A353 39 p0.toNat xs.toNat z356) := pQ.mu (A2 := A353) Q357 (by omega) (by omega) (by omega)
            have G361 : nG p0.toNat (mu A353 39 p0.toNat xs.toNat z356) := hG_n355
            refine m_blk 226 [(3, vi 2), (2, vi xs), (1, vi p0), (0, vr 0 0)] [vi 3, vi 2] C f_q_step_224_2 rfl ?_
            refine m_icmp_eq (tgt := 234) C e_q_step_226 (by decide) (by decide) (by decide) (fun c362 => (by omega : False).elim) (fun c362 => ?_)
            refine m_blk 231 [(3, vi 2), (2, vi xs), (1, vi p0), (0, vr 0 0)] [vi 4, vi 2] C f_q_step_229_2 rfl ?_
            refine m_icmp_ne (tgt := 238) C e_q_step_231 (by decide) (by decide) (by decide) (fun c363 => ?_) (fun c363 => (by omega : False).elim)
            refine m_blk 239 [(3, vi 2), (2, vi xs), (1, vi p0), (0, vr 0 0)] [vr 0 0] C f_q_step_238_1 rfl ?_
            refine m_getr C e_q_step_239 fg_Mo_33 rfl (by decide) rfl ?_
            refine m_blk 243 [(3, vi 2), (2, vi xs), (1, vi p0), (0, vr 0 0)] [vi p0, vr 18 0] C f_q_step_242_1 rfl ?_
            refine m_aald C p0.toNat e_q_step_243 rfl rfl rfl (by decide) (by decide) (by omega) (by show p0 < ((6 : Nat) : Int); omega) (mz _ _) ?_
            refine m_blk 246 [(3, vi 2), (2, vi xs), (1, vi p0), (0, vr 0 0)] [vr 0 0, vi xs, vr 38 p0.toNat] C f_q_step_244_2 rfl ?_
            obtain ⟨x364, hx364⟩ : ∃ x, A353 0 0 28 = x := ⟨_, rfl⟩
            have rx364 : 0 ≤ x364 ∧ x364 ≤ 16 := mrg hT_n355 hx364 rfl
            refine m_geti C e_q_step_246 fg_Mo_192 rfl (by decide) rfl x364 hx364 ?_
            refine m_iast C e_q_step_249 rfl (by omega) (by decide) (by omega) (by show xs < ((16 : Nat) : Int); omega) ?_
            have t365 : mTy (mu (mu A353 39 p0.toNat xs.toNat z356) 38 p0.toNat xs.toNat x364) := t358.mu (by show 0 ≤ x364 ∧ x364 ≤ 16; omega)
            have q366 := q359.mu (f := 38) (k := p0.toNat) (j := xs.toNat) (z := x364) (by simp [pm])
            have Q367 : pQ p0.toNat (A 0 0 28) (A 0 0 29) (A 0 0 30) A (mu (mu A353 39 p0.toNat xs.toNat z356) 38 p0.toNat xs.toNat x364) := pQ.mu (A2 := (mu A353 39 p0.toNat xs.toNat z356)) Q360 (by omega) (by omega) (by omega)
            have G368 : nG p0.toNat (mu (mu A353 39 p0.toNat xs.toNat z356) 38 p0.toNat xs.toNat x364) := G361
            refine m_blk 252 [(3, vi 2), (2, vi xs), (1, vi p0), (0, vr 0 0)] [vi 3, vi 2] C f_q_step_250_2 rfl ?_
            refine m_icmp_ne (tgt := 259) C e_q_step_252 (by decide) (by decide) (by decide) (fun c369 => ?_) (fun c369 => (by omega : False).elim)
            refine m_blk 260 [(3, vi 2), (2, vi xs), (1, vi p0), (0, vr 0 0)] [vr 0 0] C f_q_step_259_1 rfl ?_
            refine m_getr C e_q_step_260 fg_Mo_30 rfl (by decide) rfl ?_
            refine m_blk 264 [(3, vi 2), (2, vi xs), (1, vi p0), (0, vr 0 0)] [vi p0, vr 17 0] C f_q_step_263_1 rfl ?_
            refine m_aald C p0.toNat e_q_step_264 rfl rfl rfl (by decide) (by decide) (by omega) (by show p0 < ((6 : Nat) : Int); omega) (mz _ _) ?_
            refine m_blk 267 [(3, vi 2), (2, vi xs), (1, vi p0), (0, vr 0 0)] [vr 0 0, vi xs, vr 37 p0.toNat] C f_q_step_265_2 rfl ?_
            refine m_geti C e_q_step_267 fg_Mo_192 rfl (by decide) rfl x364 hx364 ?_
            refine m_iast C e_q_step_270 rfl (by omega) (by decide) (by omega) (by show xs < ((16 : Nat) : Int); omega) ?_
            have t370 : mTy (mu (mu (mu A353 39 p0.toNat xs.toNat z356) 38 p0.toNat xs.toNat x364) 37 p0.toNat xs.toNat x364) := t365.mu (by show 0 ≤ x364 ∧ x364 ≤ 16; omega)
            have q371 := q366.mu (f := 37) (k := p0.toNat) (j := xs.toNat) (z := x364) (by simp [pm])
            have Q372 : pQ p0.toNat (A 0 0 28) (A 0 0 29) (A 0 0 30) A (mu (mu (mu A353 39 p0.toNat xs.toNat z356) 38 p0.toNat xs.toNat x364) 37 p0.toNat xs.toNat x364) := pQ.mu (A2 := (mu (mu A353 39 p0.toNat xs.toNat z356) 38 p0.toNat xs.toNat x364)) Q367 (by omega) (by omega) (by omega)
            have G373 : nG p0.toNat (mu (mu (mu A353 39 p0.toNat xs.toNat z356) 38 p0.toNat xs.toNat x364) 37 p0.toNat xs.toNat x364) := G368
            exact m_vret C Rm E e_q_step_271 ⟨rfl, t370, q371, (by show A353 0 0 24 ≤ A353 0 0 23 ∧ A353 0 0 23 ≤ A353 0 0 22; omega), pt_n355, (fun h9 => absurd ((g_n355 : A353 0 0 31 = 1).symm.trans h9) (by decide)), (by show A 0 0 24 ≤ A353 0 0 24 ∧ A 0 0 28 ≤ A353 0 0 28 ∧ A 0 0 29 ≤ A353 0 0 29 ∧ A 0 0 30 ≤ A353 0 0 30 ∧ A353 0 0 27 = A 0 0 27; omega), G373, Q372⟩
        · have bt9 : A 0 0 24 < A 0 0 23 := pT_lt hn g0 (by omega)
          refine m_blk 104 [(3, vi 3), (2, vi xs), (1, vi p0), (0, vr 0 0)] [vr 0 0] C f_q_step_103_1 rfl ?_
          refine m_callV C Rm Y [] [] (q_next l D B H0 ad _ hS t31 (by show A 0 0 23 ≤ A 0 0 22; omega)) cl_Mo_176 rfl (by decide) rfl rfl e_q_step_104 rfl rfl rfl ⟨by show _ ≤ (32 + 4 * d : Nat); omega, by show _ ≤ (630 + 300 * d : Nat); omega⟩ ?_
          rintro v374 A375 ⟨rfl, hT_n377, hE_n377, raw_hw_n377, raw_hb_n377⟩
          have hF_n377 := q32.trans (hE_n377.sub (nm_pm _))
          show JM g D ad w0 A375 107 [(3, vi 3), (2, vi xs), (1, vi p0), (0, vr 0 0)] []
          obtain ⟨b1_n377, b2_n377, b3_n377, pt_n377⟩ : A 0 0 23 ≤ A375 0 0 24 ∧ A375 0 0 24 ≤ A375 0 0 23 ∧ A375 0 0 23 ≤ A375 0 0 22 ∧ pT A375 := raw_hb_n377 g0
          clear raw_hb_n377 raw_hw_n377
          have k0_n377 : A375 0 0 0 = A 0 0 0 := hE_n377 0 0 0 rfl
          have k22_n377 : A375 0 0 22 = A 0 0 22 := hE_n377 0 0 22 rfl
          have k27_n377 : A375 0 0 27 = A 0 0 27 := hE_n377 0 0 27 rfl
          have k28_n377 : A375 0 0 28 = (xs + 1) := hE_n377 0 0 28 rfl
          have k29_n377 : A375 0 0 29 = A 0 0 29 := hE_n377 0 0 29 rfl
          have k30_n377 : A375 0 0 30 = A 0 0 30 := hE_n377 0 0 30 rfl
          have G378 : nG p0.toNat A375 := nG.nm (A := (mu (mu (mu (mu (mu (mu A 0 0 28 (xs + 1)) 34 p0.toNat xs.toNat 3) 35 p0.toNat xs.toNat (-1)) 36 p0.toNat xs.toNat (-1)) 39 p0.toNat xs.toNat (-1)) 40 p0.toNat xs.toNat x30)) G34 hE_n377
          have Q379 : pQ p0.toNat (A 0 0 28) (A 0 0 29) (A 0 0 30) A A375 := pQ.fam (A2 := (mu (mu (mu (mu (mu (mu A 0 0 28 (xs + 1)) 34 p0.toNat xs.toNat 3) 35 p0.toNat xs.toNat (-1)) 36 p0.toNat xs.toNat (-1)) 39 p0.toNat xs.toNat (-1)) 40 p0.toNat xs.toNat x30)) Q33 (fam_nm _ hE_n377)
          have r34_n377 : A375 34 p0.toNat xs.toNat = 3 := Eq.trans (hE_n377 34 p0.toNat xs.toNat rfl) (mu_at (mu A 0 0 28 (xs + 1)) 34 p0.toNat xs.toNat 3)
          have r35_n377 : A375 35 p0.toNat xs.toNat = (-1) := Eq.trans (hE_n377 35 p0.toNat xs.toNat rfl) (mu_at (mu (mu A 0 0 28 (xs + 1)) 34 p0.toNat xs.toNat 3) 35 p0.toNat xs.toNat (-1))
          have r36_n377 : A375 36 p0.toNat xs.toNat = (-1) := Eq.trans (hE_n377 36 p0.toNat xs.toNat rfl) (mu_at (mu (mu (mu A 0 0 28 (xs + 1)) 34 p0.toNat xs.toNat 3) 35 p0.toNat xs.toNat (-1)) 36 p0.toNat xs.toNat (-1))
          have r39_n377 : A375 39 p0.toNat xs.toNat = (-1) := Eq.trans (hE_n377 39 p0.toNat xs.toNat rfl) (mu_at (mu (mu (mu (mu A 0 0 28 (xs + 1)) 34 p0.toNat xs.toNat 3) 35 p0.toNat xs.toNat (-1)) 36 p0.toNat xs.toNat (-1)) 39 p0.toNat xs.toNat (-1))
          have r40_n377 : A375 40 p0.toNat xs.toNat = x30 := Eq.trans (hE_n377 40 p0.toNat xs.toNat rfl) (mu_at (mu (mu (mu (mu (mu A 0 0 28 (xs + 1)) 34 p0.toNat xs.toNat 3) 35 p0.toNat xs.toNat (-1)) 36 p0.toNat xs.toNat (-1)) 39 p0.toNat xs.toNat (-1)) 40 p0.toNat xs.toNat x30)
          rcases (show A375 0 0 31 = 0 ∨ A375 0 0 31 = 1 from by have w9 := hT_n377 0 0 31; have w8 : 0 ≤ A375 0 0 31 ∧ A375 0 0 31 ≤ 1 := w9; omega) with g_n377 | g_n377
          · refine m_blk 108 [(3, vi 3), (2, vi xs), (1, vi p0), (0, vr 0 0)] [vi 3] C f_q_step_107_1 rfl ?_
            refine m_if_eq (tgt := 121) C e_q_step_108 (by decide) (by decide) (fun c380 => (by omega : False).elim) (fun c380 => ?_)
            refine m_blk 113 [(3, vi 3), (2, vi xs), (1, vi p0), (0, vr 0 0)] [vi 1, vi 3] C f_q_step_111_2 rfl ?_
            refine m_icmp_eq (tgt := 121) C e_q_step_113 (by decide) (by decide) (by decide) (fun c381 => (by omega : False).elim) (fun c381 => ?_)
            refine m_blk 118 [(3, vi 3), (2, vi xs), (1, vi p0), (0, vr 0 0)] [vi 5, vi 3] C f_q_step_116_2 rfl ?_
            refine m_icmp_ne (tgt := 136) C e_q_step_118 (by decide) (by decide) (by decide) (fun c382 => ?_) (fun c382 => (by omega : False).elim)
            refine m_blk 137 [(3, vi 3), (2, vi xs), (1, vi p0), (0, vr 0 0)] [vi 3] C f_q_step_136_1 rfl ?_
            refine m_if_ne (tgt := 146) C e_q_step_137 (by decide) (by decide) (fun c383 => ?_) (fun c383 => (by omega : False).elim)
            refine m_blk 148 [(3, vi 3), (2, vi xs), (1, vi p0), (0, vr 0 0)] [vi 4, vi 3] C f_q_step_146_2 rfl ?_
            refine m_icmp_ne (tgt := 167) C e_q_step_148 (by decide) (by decide) (by decide) (fun c384 => ?_) (fun c384 => (by omega : False).elim)
            refine m_blk 169 [(3, vi 3), (2, vi xs), (1, vi p0), (0, vr 0 0)] [vi 5, vi 3] C f_q_step_167_2 rfl ?_
            refine m_icmp_ne (tgt := 192) C e_q_step_169 (by decide) (by decide) (by decide) (fun c385 => ?_) (fun c385 => (by omega : False).elim)
            refine m_blk 194 [(3, vi 3), (2, vi xs), (1, vi p0), (0, vr 0 0)] [vi 1, vi 3] C f_q_step_192_2 rfl ?_
            refine m_icmp_eq (tgt := 212) C e_q_step_194 (by decide) (by decide) (by decide) (fun c386 => (by omega : False).elim) (fun c386 => ?_)
            refine m_blk 199 [(3, vi 3), (2, vi xs), (1, vi p0), (0, vr 0 0)] [vi 2, vi 3] C f_q_step_197_2 rfl ?_
            refine m_icmp_eq (tgt := 212) C e_q_step_199 (by decide) (by decide) (by decide) (fun c387 => (by omega : False).elim) (fun c387 => ?_)
            refine m_blk 204 [(3, vi 3), (2, vi xs), (1, vi p0), (0, vr 0 0)] [vi 3, vi 3] C f_q_step_202_2 rfl ?_
            refine m_icmp_eq (tgt := 212) C e_q_step_204 (by decide) (by decide) (by decide) (fun c388 => ?_) (fun c388 => (by omega : False).elim)
            refine m_blk 213 [(3, vi 3), (2, vi xs), (1, vi p0), (0, vr 0 0)] [vr 0 0] C f_q_step_212_1 rfl ?_
            refine m_getr C e_q_step_213 fg_Mo_36 rfl (by decide) rfl ?_
            refine m_blk 217 [(3, vi 3), (2, vi xs), (1, vi p0), (0, vr 0 0)] [vi p0, vr 19 0] C f_q_step_216_1 rfl ?_
            refine m_aald C p0.toNat e_q_step_217 rfl rfl rfl (by decide) (by decide) (by omega) (by show p0 < ((6 : Nat) : Int); omega) (mz _ _) ?_
            refine m_blk 220 [(3, vi 3), (2, vi xs), (1, vi p0), (0, vr 0 0)] [vr 0 0, vi xs, vr 39 p0.toNat] C f_q_step_218_2 rfl ?_
            refine m_callV C Rm Y [] [vi xs, vr 39 p0.toNat] ((q_E d).2 l D B H0 ad _ hS hT_n377 p0 (by show A375 0 0 0 = p0 ∧ 0 ≤ p0 ∧ p0 ≤ 5; omega) (by show A375 0 0 24 ≤ A375 0 0 23 ∧ A375 0 0 23 ≤ A375 0 0 22; omega) pt_n377 (fun _ => by show A375 0 0 30 + 3 * A375 0 0 29 ≤ A375 0 0 24; omega) G378 (by show A375 0 0 27 = 4 - (d : Int) ∧ (d : Int) ≤ 4; omega)) cl_Mo_206 rfl (by decide) rfl rfl e_q_step_220 rfl rfl rfl ⟨by show _ ≤ (32 + 4 * d : Nat); omega, by show _ ≤ (630 + 300 * d : Nat); omega⟩ ?_
            rintro v389 A390 ⟨z393, rfl, hT_n392, hE_n392, raw_hz_n392, raw_hb_n392, raw_hn_n392, raw_hw_n392, raw_hm_n392, raw_hG_n392, raw_hK_n392⟩
            have hF_n392 := hF_n377.trans (hE_n392.sub (em_pm _))
            show JM g D ad w0 A390 223 [(3, vi 3), (2, vi xs), (1, vi p0), (0, vr 0 0)] [vi z393, vi xs, vr 39 p0.toNat]
            have hz_n392 : 0 ≤ z393 ∧ z393 ≤ 119 := raw_hz_n392
            clear raw_hz_n392
            have hb_n392 : A390 0 0 24 ≤ A390 0 0 23 ∧ A390 0 0 23 ≤ A390 0 0 22 := raw_hb_n392
            clear raw_hb_n392
            have hm_n392 : A375 0 0 24 ≤ A390 0 0 24 ∧ A375 0 0 30 ≤ A390 0 0 30 ∧ A390 0 0 27 = A375 0 0 27 := raw_hm_n392
            clear raw_hm_n392
            have pt_n392 : pT A390 := raw_hn_n392
            have k0_n392 : A390 0 0 0 = A375 0 0 0 := hE_n392 0 0 0 rfl
            have k22_n392 : A390 0 0 22 = A375 0 0 22 := hE_n392 0 0 22 rfl
            have k28_n392 : A390 0 0 28 = A375 0 0 28 := hE_n392 0 0 28 rfl
            have k29_n392 : A390 0 0 29 = A375 0 0 29 := hE_n392 0 0 29 rfl
            have hG_n392 : nG p0.toNat A390 := raw_hG_n392
            have hK_n392 : nK p0.toNat A375 A390 := raw_hK_n392
            have Q394 : pQ p0.toNat (A 0 0 28) (A 0 0 29) (A 0 0 30) A A390 := pQ.emk (A2 := A375) Q379 hE_n392 hK_n392 (by show A 0 0 30 ≤ A375 0 0 30; omega)
            have r34_n392 : A390 34 p0.toNat xs.toNat = 3 := Eq.trans (hE_n392 34 p0.toNat xs.toNat rfl) r34_n377
            have r35_n392 : A390 35 p0.toNat xs.toNat = (-1) := Eq.trans (hE_n392 35 p0.toNat xs.toNat rfl) r35_n377
            have r36_n392 : A390 36 p0.toNat xs.toNat = (-1) := Eq.trans (hE_n392 36 p0.toNat xs.toNat rfl) r36_n377
            have r39_n392 : A390 39 p0.toNat xs.toNat = (-1) := Eq.trans (hE_n392 39 p0.toNat xs.toNat rfl) r39_n377
            have r40_n392 : A390 40 p0.toNat xs.toNat = x30 := Eq.trans (hE_n392 40 p0.toNat xs.toNat rfl) r40_n377
            rcases (show A390 0 0 31 = 0 ∨ A390 0 0 31 = 1 from by have w9 := hT_n392 0 0 31; have w8 : 0 ≤ A390 0 0 31 ∧ A390 0 0 31 ≤ 1 := w9; omega) with g_n392 | g_n392
            · have u_n392 : z393 < A390 0 0 30 ∧ A375 0 0 24 - A375 0 0 30 ≤ A390 0 0 24 - A390 0 0 30 := (raw_hw_n392 g_n392).2
              refine m_iast C e_q_step_223 rfl (by omega) (by decide) (by omega) (by show xs < ((16 : Nat) : Int); omega) ?_
              have t395 : mTy (mu A390 39 p0.toNat xs.toNat z393) := hT_n392.mu (by show (-1) ≤ z393 ∧ z393 ≤ 119; omega)
              have q396 := hF_n392.mu (f := 39) (k := p0.toNat) (j := xs.toNat) (z := z393) (by simp [pm])
              have Q397 : pQ p0.toNat (A 0 0 28) (A 0 0 29) (A 0 0 30) A (mu A390 39 p0.toNat xs.toNat z393) := pQ.mu (A2 := A390) Q394 (by omega) (by omega) (by omega)
              have G398 : nG p0.toNat (mu A390 39 p0.toNat xs.toNat z393) := hG_n392
              refine m_blk 226 [(3, vi 3), (2, vi xs), (1, vi p0), (0, vr 0 0)] [vi 3, vi 3] C f_q_step_224_2 rfl ?_
              refine m_icmp_eq (tgt := 234) C e_q_step_226 (by decide) (by decide) (by decide) (fun c399 => ?_) (fun c399 => (by omega : False).elim)
              refine m_blk 235 [(3, vi 3), (2, vi xs), (1, vi p0), (0, vr 0 0)] [vr 0 0] C f_q_step_234_1 rfl ?_
              refine m_callV C Rm Y [] [] (hq9 l D B H0 ad _ hS t395 p0 (by show A390 0 0 0 = p0 ∧ 0 ≤ p0 ∧ p0 ≤ 5; omega) (by show A390 0 0 24 ≤ A390 0 0 23 ∧ A390 0 0 23 ≤ A390 0 0 22; omega) pt_n392 (fun _ => by show A390 0 0 30 + 3 * A390 0 0 29 ≤ A390 0 0 24; omega) G398 (by show A390 0 0 27 = 4 - (d : Int) ∧ (d : Int) ≤ 4; omega)) cl_Mo_209 rfl (by decide) rfl rfl e_q_step_235 rfl rfl rfl ⟨by show _ ≤ (32 + 4 * d : Nat); omega, by show _ ≤ (630 + 300 * d : Nat); omega⟩ ?_
              rintro v400 A401 ⟨rfl, hT_n403, hE_n403, raw_hb_n403, raw_hn_n403, raw_hw_n403, raw_hm_n403, raw_hG_n403, raw_hQ_n403⟩
              have hF_n403 := q396.trans (hE_n403.sub (fun _ _ _ h => h))
              show JM g D ad w0 A401 238 [(3, vi 3), (2, vi xs), (1, vi p0), (0, vr 0 0)] []
              have hb_n403 : A401 0 0 24 ≤ A401 0 0 23 ∧ A401 0 0 23 ≤ A401 0 0 22 := raw_hb_n403
              clear raw_hb_n403
              have hm_n403 : A390 0 0 24 ≤ A401 0 0 24 ∧ A390 0 0 28 ≤ A401 0 0 28 ∧ A390 0 0 29 ≤ A401 0 0 29 ∧ A390 0 0 30 ≤ A401 0 0 30 ∧ A401 0 0 27 = A390 0 0 27 := raw_hm_n403
              clear raw_hm_n403
              have pt_n403 : pT A401 := raw_hn_n403
              have k0_n403 : A401 0 0 0 = A390 0 0 0 := hE_n403 0 0 0 rfl
              have k22_n403 : A401 0 0 22 = A390 0 0 22 := hE_n403 0 0 22 rfl
              have hG_n403 : nG p0.toNat A401 := raw_hG_n403
              have hV_n403 : pV p0.toNat (4 - (d : Int) + 1) (mu A390 39 p0.toNat xs.toNat z393) A401 := raw_hw_n403
              clear raw_hw_n403
              have hQ_n403 : pQ p0.toNat (A390 0 0 28) (A390 0 0 29) (A390 0 0 30) (mu A390 39 p0.toNat xs.toNat z393) A401 := raw_hQ_n403
              clear raw_hQ_n403
              have Q404 : pQ p0.toNat (A 0 0 28) (A 0 0 29) (A 0 0 30) A A401 := pQ.trans Q397 (pQ.le hQ_n403 (by show A 0 0 28 ≤ A390 0 0 28; omega) (by show A 0 0 29 ≤ A390 0 0 29; omega) (by show A 0 0 30 ≤ A390 0 0 30; omega))
              have r34_n403 : A401 34 p0.toNat xs.toNat = 3 := Eq.trans (hQ_n403.1 34 (by decide) (by decide) xs.toNat (by show ((xs.toNat : Nat) : Int) < A390 0 0 28; omega)) r34_n392
              have r35_n403 : A401 35 p0.toNat xs.toNat = (-1) := Eq.trans (hQ_n403.1 35 (by decide) (by decide) xs.toNat (by show ((xs.toNat : Nat) : Int) < A390 0 0 28; omega)) r35_n392
              have r36_n403 : A401 36 p0.toNat xs.toNat = (-1) := Eq.trans (hQ_n403.1 36 (by decide) (by decide) xs.toNat (by show ((xs.toNat : Nat) : Int) < A390 0 0 28; omega)) r36_n392
              have r39_n403 : A401 39 p0.toNat xs.toNat = z393 := Eq.trans (hQ_n403.1 39 (by decide) (by decide) xs.toNat (by show ((xs.toNat : Nat) : Int) < A390 0 0 28; omega)) (mu_at A390 39 p0.toNat xs.toNat z393)
              have r40_n403 : A401 40 p0.toNat xs.toNat = x30 := Eq.trans (hQ_n403.1 40 (by decide) (by decide) xs.toNat (by show ((xs.toNat : Nat) : Int) < A390 0 0 28; omega)) r40_n392
              rcases (show A401 0 0 31 = 0 ∨ A401 0 0 31 = 1 from by have w9 := hT_n403 0 0 31; have w8 : 0 ≤ A401 0 0 31 ∧ A401 0 0 31 ≤ 1 := w9; omega) with g_n403 | g_n403
              · have u_n403 : A390 0 0 24 - A390 0 0 30 - 3 * A390 0 0 29 ≤ A401 0 0 24 - A401 0 0 30 - 3 * A401 0 0 29 ∧ A390 0 0 28 + 1 ≤ A401 0 0 28 := ⟨(hV_n403 g_n403).2.1, (hV_n403 g_n403).2.2.1⟩
                refine m_blk 239 [(3, vi 3), (2, vi xs), (1, vi p0), (0, vr 0 0)] [vr 0 0] C f_q_step_238_1 rfl ?_
                refine m_getr C e_q_step_239 fg_Mo_33 rfl (by decide) rfl ?_
                refine m_blk 243 [(3, vi 3), (2, vi xs), (1, vi p0), (0, vr 0 0)] [vi p0, vr 18 0] C f_q_step_242_1 rfl ?_
                refine m_aald C p0.toNat e_q_step_243 rfl rfl rfl (by decide) (by decide) (by omega) (by show p0 < ((6 : Nat) : Int); omega) (mz _ _) ?_
                refine m_blk 246 [(3, vi 3), (2, vi xs), (1, vi p0), (0, vr 0 0)] [vr 0 0, vi xs, vr 38 p0.toNat] C f_q_step_244_2 rfl ?_
                obtain ⟨x405, hx405⟩ : ∃ x, A401 0 0 28 = x := ⟨_, rfl⟩
                have rx405 : 0 ≤ x405 ∧ x405 ≤ 16 := mrg hT_n403 hx405 rfl
                refine m_geti C e_q_step_246 fg_Mo_192 rfl (by decide) rfl x405 hx405 ?_
                refine m_iast C e_q_step_249 rfl (by omega) (by decide) (by omega) (by show xs < ((16 : Nat) : Int); omega) ?_
                have t406 : mTy (mu A401 38 p0.toNat xs.toNat x405) := hT_n403.mu (by show 0 ≤ x405 ∧ x405 ≤ 16; omega)
                have q407 := hF_n403.mu (f := 38) (k := p0.toNat) (j := xs.toNat) (z := x405) (by simp [pm])
                have Q408 : pQ p0.toNat (A 0 0 28) (A 0 0 29) (A 0 0 30) A (mu A401 38 p0.toNat xs.toNat x405) := pQ.mu (A2 := A401) Q404 (by omega) (by omega) (by omega)
                have G409 : nG p0.toNat (mu A401 38 p0.toNat xs.toNat x405) := hG_n403
                refine m_blk 252 [(3, vi 3), (2, vi xs), (1, vi p0), (0, vr 0 0)] [vi 3, vi 3] C f_q_step_250_2 rfl ?_
                refine m_icmp_ne (tgt := 259) C e_q_step_252 (by decide) (by decide) (by decide) (fun c410 => (by omega : False).elim) (fun c410 => ?_)
                refine m_blk 256 [(3, vi 3), (2, vi xs), (1, vi p0), (0, vr 0 0)] [vr 0 0] C f_q_step_255_1 rfl ?_
                refine m_callV C Rm Y [] [] (hq9 l D B H0 ad _ hS t406 p0 (by show A401 0 0 0 = p0 ∧ 0 ≤ p0 ∧ p0 ≤ 5; omega) (by show A401 0 0 24 ≤ A401 0 0 23 ∧ A401 0 0 23 ≤ A401 0 0 22; omega) pt_n403 (fun _ => by show A401 0 0 30 + 3 * A401 0 0 29 ≤ A401 0 0 24; omega) G409 (by show A401 0 0 27 = 4 - (d : Int) ∧ (d : Int) ≤ 4; omega)) cl_Mo_209 rfl (by decide) rfl rfl e_q_step_256 rfl rfl rfl ⟨by show _ ≤ (32 + 4 * d : Nat); omega, by show _ ≤ (630 + 300 * d : Nat); omega⟩ ?_
                rintro v411 A412 ⟨rfl, hT_n414, hE_n414, raw_hb_n414, raw_hn_n414, raw_hw_n414, raw_hm_n414, raw_hG_n414, raw_hQ_n414⟩
                have hF_n414 := q407.trans (hE_n414.sub (fun _ _ _ h => h))
                show JM g D ad w0 A412 259 [(3, vi 3), (2, vi xs), (1, vi p0), (0, vr 0 0)] []
                have hb_n414 : A412 0 0 24 ≤ A412 0 0 23 ∧ A412 0 0 23 ≤ A412 0 0 22 := raw_hb_n414
                clear raw_hb_n414
                have hm_n414 : A401 0 0 24 ≤ A412 0 0 24 ∧ A401 0 0 28 ≤ A412 0 0 28 ∧ A401 0 0 29 ≤ A412 0 0 29 ∧ A401 0 0 30 ≤ A412 0 0 30 ∧ A412 0 0 27 = A401 0 0 27 := raw_hm_n414
                clear raw_hm_n414
                have pt_n414 : pT A412 := raw_hn_n414
                have k0_n414 : A412 0 0 0 = A401 0 0 0 := hE_n414 0 0 0 rfl
                have k22_n414 : A412 0 0 22 = A401 0 0 22 := hE_n414 0 0 22 rfl
                have hG_n414 : nG p0.toNat A412 := raw_hG_n414
                have hV_n414 : pV p0.toNat (4 - (d : Int) + 1) (mu A401 38 p0.toNat xs.toNat x405) A412 := raw_hw_n414
                clear raw_hw_n414
                have hQ_n414 : pQ p0.toNat (A401 0 0 28) (A401 0 0 29) (A401 0 0 30) (mu A401 38 p0.toNat xs.toNat x405) A412 := raw_hQ_n414
                clear raw_hQ_n414
                have Q415 : pQ p0.toNat (A 0 0 28) (A 0 0 29) (A 0 0 30) A A412 := pQ.trans Q408 (pQ.le hQ_n414 (by show A 0 0 28 ≤ A401 0 0 28; omega) (by show A 0 0 29 ≤ A401 0 0 29; omega) (by show A 0 0 30 ≤ A401 0 0 30; omega))
                have r34_n414 : A412 34 p0.toNat xs.toNat = 3 := Eq.trans (hQ_n414.1 34 (by decide) (by decide) xs.toNat (by show ((xs.toNat : Nat) : Int) < A401 0 0 28; omega)) r34_n403
                have r35_n414 : A412 35 p0.toNat xs.toNat = (-1) := Eq.trans (hQ_n414.1 35 (by decide) (by decide) xs.toNat (by show ((xs.toNat : Nat) : Int) < A401 0 0 28; omega)) r35_n403
                have r36_n414 : A412 36 p0.toNat xs.toNat = (-1) := Eq.trans (hQ_n414.1 36 (by decide) (by decide) xs.toNat (by show ((xs.toNat : Nat) : Int) < A401 0 0 28; omega)) r36_n403
                have r38_n414 : A412 38 p0.toNat xs.toNat = x405 := Eq.trans (hQ_n414.1 38 (by decide) (by decide) xs.toNat (by show ((xs.toNat : Nat) : Int) < A401 0 0 28; omega)) (mu_at A401 38 p0.toNat xs.toNat x405)
                have r39_n414 : A412 39 p0.toNat xs.toNat = z393 := Eq.trans (hQ_n414.1 39 (by decide) (by decide) xs.toNat (by show ((xs.toNat : Nat) : Int) < A401 0 0 28; omega)) r39_n403
                have r40_n414 : A412 40 p0.toNat xs.toNat = x30 := Eq.trans (hQ_n414.1 40 (by decide) (by decide) xs.toNat (by show ((xs.toNat : Nat) : Int) < A401 0 0 28; omega)) r40_n403
                rcases (show A412 0 0 31 = 0 ∨ A412 0 0 31 = 1 from by have w9 := hT_n414 0 0 31; have w8 : 0 ≤ A412 0 0 31 ∧ A412 0 0 31 ≤ 1 := w9; omega) with g_n414 | g_n414
                · have u_n414 : A401 0 0 24 - A401 0 0 30 - 3 * A401 0 0 29 ≤ A412 0 0 24 - A412 0 0 30 - 3 * A412 0 0 29 ∧ A401 0 0 28 + 1 ≤ A412 0 0 28 := ⟨(hV_n414 g_n414).2.1, (hV_n414 g_n414).2.2.1⟩
                  refine m_blk 260 [(3, vi 3), (2, vi xs), (1, vi p0), (0, vr 0 0)] [vr 0 0] C f_q_step_259_1 rfl ?_
                  refine m_getr C e_q_step_260 fg_Mo_30 rfl (by decide) rfl ?_
                  refine m_blk 264 [(3, vi 3), (2, vi xs), (1, vi p0), (0, vr 0 0)] [vi p0, vr 17 0] C f_q_step_263_1 rfl ?_
                  refine m_aald C p0.toNat e_q_step_264 rfl rfl rfl (by decide) (by decide) (by omega) (by show p0 < ((6 : Nat) : Int); omega) (mz _ _) ?_
                  refine m_blk 267 [(3, vi 3), (2, vi xs), (1, vi p0), (0, vr 0 0)] [vr 0 0, vi xs, vr 37 p0.toNat] C f_q_step_265_2 rfl ?_
                  obtain ⟨x416, hx416⟩ : ∃ x, A412 0 0 28 = x := ⟨_, rfl⟩
                  have rx416 : 0 ≤ x416 ∧ x416 ≤ 16 := mrg hT_n414 hx416 rfl
                  refine m_geti C e_q_step_267 fg_Mo_192 rfl (by decide) rfl x416 hx416 ?_
                  refine m_iast C e_q_step_270 rfl (by omega) (by decide) (by omega) (by show xs < ((16 : Nat) : Int); omega) ?_
                  have t417 : mTy (mu A412 37 p0.toNat xs.toNat x416) := hT_n414.mu (by show 0 ≤ x416 ∧ x416 ≤ 16; omega)
                  have q418 := hF_n414.mu (f := 37) (k := p0.toNat) (j := xs.toNat) (z := x416) (by simp [pm])
                  have Q419 : pQ p0.toNat (A 0 0 28) (A 0 0 29) (A 0 0 30) A (mu A412 37 p0.toNat xs.toNat x416) := pQ.mu (A2 := A412) Q415 (by omega) (by omega) (by omega)
                  have G420 : nG p0.toNat (mu A412 37 p0.toNat xs.toNat x416) := hG_n414
                  exact m_vret C Rm E e_q_step_271 ⟨rfl, t417, q418, (by show A412 0 0 24 ≤ A412 0 0 23 ∧ A412 0 0 23 ≤ A412 0 0 22; omega), pt_n414, (pV.mk (a := xs.toNat) g0 (by show A 0 0 24 - A 0 0 30 - 3 * A 0 0 29 ≤ A412 0 0 24 - A412 0 0 30 - 3 * A412 0 0 29; omega) (by omega) (by show A 0 0 28 + 1 ≤ A412 0 0 28; omega) (pV.cond' hV_n403 hx405 hV_n414 (hx405 ▸ hQ_n414) hx416 (by omega) (by omega) g_n414 (by show A390 0 0 28 = _; omega) r34_n414 (by omega) (by omega))), (by show A 0 0 24 ≤ A412 0 0 24 ∧ A 0 0 28 ≤ A412 0 0 28 ∧ A 0 0 29 ≤ A412 0 0 29 ∧ A 0 0 30 ≤ A412 0 0 30 ∧ A412 0 0 27 = A 0 0 27; omega), G420, Q419⟩
                · refine m_blk 260 [(3, vi 3), (2, vi xs), (1, vi p0), (0, vr 0 0)] [vr 0 0] C f_q_step_259_1 rfl ?_
                  refine m_getr C e_q_step_260 fg_Mo_30 rfl (by decide) rfl ?_
                  refine m_blk 264 [(3, vi 3), (2, vi xs), (1, vi p0), (0, vr 0 0)] [vi p0, vr 17 0] C f_q_step_263_1 rfl ?_
                  refine m_aald C p0.toNat e_q_step_264 rfl rfl rfl (by decide) (by decide) (by omega) (by show p0 < ((6 : Nat) : Int); omega) (mz _ _) ?_
                  refine m_blk 267 [(3, vi 3), (2, vi xs), (1, vi p0), (0, vr 0 0)] [vr 0 0, vi xs, vr 37 p0.toNat] C f_q_step_265_2 rfl ?_
                  obtain ⟨x421, hx421⟩ : ∃ x, A412 0 0 28 = x := ⟨_, rfl⟩
                  have rx421 : 0 ≤ x421 ∧ x421 ≤ 16 := mrg hT_n414 hx421 rfl
                  refine m_geti C e_q_step_267 fg_Mo_192 rfl (by decide) rfl x421 hx421 ?_
                  refine m_iast C e_q_step_270 rfl (by omega) (by decide) (by omega) (by show xs < ((16 : Nat) : Int); omega) ?_
                  have t422 : mTy (mu A412 37 p0.toNat xs.toNat x421) := hT_n414.mu (by show 0 ≤ x421 ∧ x421 ≤ 16; omega)
                  have q423 := hF_n414.mu (f := 37) (k := p0.toNat) (j := xs.toNat) (z := x421) (by simp [pm])
                  have Q424 : pQ p0.toNat (A 0 0 28) (A 0 0 29) (A 0 0 30) A (mu A412 37 p0.toNat xs.toNat x421) := pQ.mu (A2 := A412) Q415 (by omega) (by omega) (by omega)
                  have G425 : nG p0.toNat (mu A412 37 p0.toNat xs.toNat x421) := hG_n414
                  exact m_vret C Rm E e_q_step_271 ⟨rfl, t422, q423, (by show A412 0 0 24 ≤ A412 0 0 23 ∧ A412 0 0 23 ≤ A412 0 0 22; omega), pt_n414, (fun h9 => absurd ((g_n414 : A412 0 0 31 = 1).symm.trans h9) (by decide)), (by show A 0 0 24 ≤ A412 0 0 24 ∧ A 0 0 28 ≤ A412 0 0 28 ∧ A 0 0 29 ≤ A412 0 0 29 ∧ A 0 0 30 ≤ A412 0 0 30 ∧ A412 0 0 27 = A 0 0 27; omega), G425, Q424⟩
              · refine m_blk 239 [(3, vi 3), (2, vi xs), (1, vi p0), (0, vr 0 0)] [vr 0 0] C f_q_step_238_1 rfl ?_
                refine m_getr C e_q_step_239 fg_Mo_33 rfl (by decide) rfl ?_
                refine m_blk 243 [(3, vi 3), (2, vi xs), (1, vi p0), (0, vr 0 0)] [vi p0, vr 18 0] C f_q_step_242_1 rfl ?_
                refine m_aald C p0.toNat e_q_step_243 rfl rfl rfl (by decide) (by decide) (by omega) (by show p0 < ((6 : Nat) : Int); omega) (mz _ _) ?_
                refine m_blk 246 [(3, vi 3), (2, vi xs), (1, vi p0), (0, vr 0 0)] [vr 0 0, vi xs, vr 38 p0.toNat] C f_q_step_244_2 rfl ?_
                obtain ⟨x426, hx426⟩ : ∃ x, A401 0 0 28 = x := ⟨_, rfl⟩
                have rx426 : 0 ≤ x426 ∧ x426 ≤ 16 := mrg hT_n403 hx426 rfl
                refine m_geti C e_q_step_246 fg_Mo_192 rfl (by decide) rfl x426 hx426 ?_
                refine m_iast C e_q_step_249 rfl (by omega) (by decide) (by omega) (by show xs < ((16 : Nat) : Int); omega) ?_
                have t427 : mTy (mu A401 38 p0.toNat xs.toNat x426) := hT_n403.mu (by show 0 ≤ x426 ∧ x426 ≤ 16; omega)
                have q428 := hF_n403.mu (f := 38) (k := p0.toNat) (j := xs.toNat) (z := x426) (by simp [pm])
                have Q429 : pQ p0.toNat (A 0 0 28) (A 0 0 29) (A 0 0 30) A (mu A401 38 p0.toNat xs.toNat x426) := pQ.mu (A2 := A401) Q404 (by omega) (by omega) (by omega)
                have G430 : nG p0.toNat (mu A401 38 p0.toNat xs.toNat x426) := hG_n403
                refine m_blk 252 [(3, vi 3), (2, vi xs), (1, vi p0), (0, vr 0 0)] [vi 3, vi 3] C f_q_step_250_2 rfl ?_
                refine m_icmp_ne (tgt := 259) C e_q_step_252 (by decide) (by decide) (by decide) (fun c431 => (by omega : False).elim) (fun c431 => ?_)
                refine m_blk 256 [(3, vi 3), (2, vi xs), (1, vi p0), (0, vr 0 0)] [vr 0 0] C f_q_step_255_1 rfl ?_
                refine m_callV C Rm Y [] [] (hq9 l D B H0 ad _ hS t427 p0 (by show A401 0 0 0 = p0 ∧ 0 ≤ p0 ∧ p0 ≤ 5; omega) (by show A401 0 0 24 ≤ A401 0 0 23 ∧ A401 0 0 23 ≤ A401 0 0 22; omega) pt_n403 (fun h9 => absurd ((g_n403 : A401 0 0 31 = 1).symm.trans h9) (by decide)) G430 (by show A401 0 0 27 = 4 - (d : Int) ∧ (d : Int) ≤ 4; omega)) cl_Mo_209 rfl (by decide) rfl rfl e_q_step_256 rfl rfl rfl ⟨by show _ ≤ (32 + 4 * d : Nat); omega, by show _ ≤ (630 + 300 * d : Nat); omega⟩ ?_
                rintro v432 A433 ⟨rfl, hT_n435, hE_n435, raw_hb_n435, raw_hn_n435, raw_hw_n435, raw_hm_n435, raw_hG_n435, raw_hQ_n435⟩
                have hF_n435 := q428.trans (hE_n435.sub (fun _ _ _ h => h))
                show JM g D ad w0 A433 259 [(3, vi 3), (2, vi xs), (1, vi p0), (0, vr 0 0)] []
                have hb_n435 : A433 0 0 24 ≤ A433 0 0 23 ∧ A433 0 0 23 ≤ A433 0 0 22 := raw_hb_n435
                clear raw_hb_n435
                have hm_n435 : A401 0 0 24 ≤ A433 0 0 24 ∧ A401 0 0 28 ≤ A433 0 0 28 ∧ A401 0 0 29 ≤ A433 0 0 29 ∧ A401 0 0 30 ≤ A433 0 0 30 ∧ A433 0 0 27 = A401 0 0 27 := raw_hm_n435
                clear raw_hm_n435
                have pt_n435 : pT A433 := raw_hn_n435
                have k0_n435 : A433 0 0 0 = A401 0 0 0 := hE_n435 0 0 0 rfl
                have k22_n435 : A433 0 0 22 = A401 0 0 22 := hE_n435 0 0 22 rfl
                have hG_n435 : nG p0.toNat A433 := raw_hG_n435
                have hV_n435 : pV p0.toNat (4 - (d : Int) + 1) (mu A401 38 p0.toNat xs.toNat x426) A433 := raw_hw_n435
                clear raw_hw_n435
                have hQ_n435 : pQ p0.toNat (A401 0 0 28) (A401 0 0 29) (A401 0 0 30) (mu A401 38 p0.toNat xs.toNat x426) A433 := raw_hQ_n435
                clear raw_hQ_n435
                have Q436 : pQ p0.toNat (A 0 0 28) (A 0 0 29) (A 0 0 30) A A433 := pQ.trans Q429 (pQ.le hQ_n435 (by show A 0 0 28 ≤ A401 0 0 28; omega) (by show A 0 0 29 ≤ A401 0 0 29; omega) (by show A 0 0 30 ≤ A401 0 0 30; omega))
                have r34_n435 : A433 34 p0.toNat xs.toNat = 3 := Eq.trans (hQ_n435.1 34 (by decide) (by decide) xs.toNat (by show ((xs.toNat : Nat) : Int) < A401 0 0 28; omega)) r34_n403
                have r35_n435 : A433 35 p0.toNat xs.toNat = (-1) := Eq.trans (hQ_n435.1 35 (by decide) (by decide) xs.toNat (by show ((xs.toNat : Nat) : Int) < A401 0 0 28; omega)) r35_n403
                have r36_n435 : A433 36 p0.toNat xs.toNat = (-1) := Eq.trans (hQ_n435.1 36 (by decide) (by decide) xs.toNat (by show ((xs.toNat : Nat) : Int) < A401 0 0 28; omega)) r36_n403
                have r38_n435 : A433 38 p0.toNat xs.toNat = x426 := Eq.trans (hQ_n435.1 38 (by decide) (by decide) xs.toNat (by show ((xs.toNat : Nat) : Int) < A401 0 0 28; omega)) (mu_at A401 38 p0.toNat xs.toNat x426)
                have r39_n435 : A433 39 p0.toNat xs.toNat = z393 := Eq.trans (hQ_n435.1 39 (by decide) (by decide) xs.toNat (by show ((xs.toNat : Nat) : Int) < A401 0 0 28; omega)) r39_n403
                have r40_n435 : A433 40 p0.toNat xs.toNat = x30 := Eq.trans (hQ_n435.1 40 (by decide) (by decide) xs.toNat (by show ((xs.toNat : Nat) : Int) < A401 0 0 28; omega)) r40_n403
                have g_n435 : A433 0 0 31 = 1 := wr_1 (hT_n435 0 0 31) (fun h9 => absurd ((g_n403 : A401 0 0 31 = 1).symm.trans (hV_n435 h9).1) (by decide))
                refine m_blk 260 [(3, vi 3), (2, vi xs), (1, vi p0), (0, vr 0 0)] [vr 0 0] C f_q_step_259_1 rfl ?_
                refine m_getr C e_q_step_260 fg_Mo_30 rfl (by decide) rfl ?_
                refine m_blk 264 [(3, vi 3), (2, vi xs), (1, vi p0), (0, vr 0 0)] [vi p0, vr 17 0] C f_q_step_263_1 rfl ?_
                refine m_aald C p0.toNat e_q_step_264 rfl rfl rfl (by decide) (by decide) (by omega) (by show p0 < ((6 : Nat) : Int); omega) (mz _ _) ?_
                refine m_blk 267 [(3, vi 3), (2, vi xs), (1, vi p0), (0, vr 0 0)] [vr 0 0, vi xs, vr 37 p0.toNat] C f_q_step_265_2 rfl ?_
                obtain ⟨x437, hx437⟩ : ∃ x, A433 0 0 28 = x := ⟨_, rfl⟩
                have rx437 : 0 ≤ x437 ∧ x437 ≤ 16 := mrg hT_n435 hx437 rfl
                refine m_geti C e_q_step_267 fg_Mo_192 rfl (by decide) rfl x437 hx437 ?_
                refine m_iast C e_q_step_270 rfl (by omega) (by decide) (by omega) (by show xs < ((16 : Nat) : Int); omega) ?_
                have t438 : mTy (mu A433 37 p0.toNat xs.toNat x437) := hT_n435.mu (by show 0 ≤ x437 ∧ x437 ≤ 16; omega)
                have q439 := hF_n435.mu (f := 37) (k := p0.toNat) (j := xs.toNat) (z := x437) (by simp [pm])
                have Q440 : pQ p0.toNat (A 0 0 28) (A 0 0 29) (A 0 0 30) A (mu A433 37 p0.toNat xs.toNat x437) := pQ.mu (A2 := A433) Q436 (by omega) (by omega) (by omega)
                have G441 : nG p0.toNat (mu A433 37 p0.toNat xs.toNat x437) := hG_n435
                exact m_vret C Rm E e_q_step_271 ⟨rfl, t438, q439, (by show A433 0 0 24 ≤ A433 0 0 23 ∧ A433 0 0 23 ≤ A433 0 0 22; omega), pt_n435, (fun h9 => absurd ((g_n435 : A433 0 0 31 = 1).symm.trans h9) (by decide)), (by show A 0 0 24 ≤ A433 0 0 24 ∧ A 0 0 28 ≤ A433 0 0 28 ∧ A 0 0 29 ≤ A433 0 0 29 ∧ A 0 0 30 ≤ A433 0 0 30 ∧ A433 0 0 27 = A 0 0 27; omega), G441, Q440⟩
            · refine m_iast C e_q_step_223 rfl (by omega) (by decide) (by omega) (by show xs < ((16 : Nat) : Int); omega) ?_
              have t442 : mTy (mu A390 39 p0.toNat xs.toNat z393) := hT_n392.mu (by show (-1) ≤ z393 ∧ z393 ≤ 119; omega)
              have q443 := hF_n392.mu (f := 39) (k := p0.toNat) (j := xs.toNat) (z := z393) (by simp [pm])
              have Q444 : pQ p0.toNat (A 0 0 28) (A 0 0 29) (A 0 0 30) A (mu A390 39 p0.toNat xs.toNat z393) := pQ.mu (A2 := A390) Q394 (by omega) (by omega) (by omega)
              have G445 : nG p0.toNat (mu A390 39 p0.toNat xs.toNat z393) := hG_n392
              refine m_blk 226 [(3, vi 3), (2, vi xs), (1, vi p0), (0, vr 0 0)] [vi 3, vi 3] C f_q_step_224_2 rfl ?_
              refine m_icmp_eq (tgt := 234) C e_q_step_226 (by decide) (by decide) (by decide) (fun c446 => ?_) (fun c446 => (by omega : False).elim)
              refine m_blk 235 [(3, vi 3), (2, vi xs), (1, vi p0), (0, vr 0 0)] [vr 0 0] C f_q_step_234_1 rfl ?_
              refine m_callV C Rm Y [] [] (hq9 l D B H0 ad _ hS t442 p0 (by show A390 0 0 0 = p0 ∧ 0 ≤ p0 ∧ p0 ≤ 5; omega) (by show A390 0 0 24 ≤ A390 0 0 23 ∧ A390 0 0 23 ≤ A390 0 0 22; omega) pt_n392 (fun h9 => absurd ((g_n392 : A390 0 0 31 = 1).symm.trans h9) (by decide)) G445 (by show A390 0 0 27 = 4 - (d : Int) ∧ (d : Int) ≤ 4; omega)) cl_Mo_209 rfl (by decide) rfl rfl e_q_step_235 rfl rfl rfl ⟨by show _ ≤ (32 + 4 * d : Nat); omega, by show _ ≤ (630 + 300 * d : Nat); omega⟩ ?_
              rintro v447 A448 ⟨rfl, hT_n450, hE_n450, raw_hb_n450, raw_hn_n450, raw_hw_n450, raw_hm_n450, raw_hG_n450, raw_hQ_n450⟩
              have hF_n450 := q443.trans (hE_n450.sub (fun _ _ _ h => h))
              show JM g D ad w0 A448 238 [(3, vi 3), (2, vi xs), (1, vi p0), (0, vr 0 0)] []
              have hb_n450 : A448 0 0 24 ≤ A448 0 0 23 ∧ A448 0 0 23 ≤ A448 0 0 22 := raw_hb_n450
              clear raw_hb_n450
              have hm_n450 : A390 0 0 24 ≤ A448 0 0 24 ∧ A390 0 0 28 ≤ A448 0 0 28 ∧ A390 0 0 29 ≤ A448 0 0 29 ∧ A390 0 0 30 ≤ A448 0 0 30 ∧ A448 0 0 27 = A390 0 0 27 := raw_hm_n450
              clear raw_hm_n450
              have pt_n450 : pT A448 := raw_hn_n450
              have k0_n450 : A448 0 0 0 = A390 0 0 0 := hE_n450 0 0 0 rfl
              have k22_n450 : A448 0 0 22 = A390 0 0 22 := hE_n450 0 0 22 rfl
              have hG_n450 : nG p0.toNat A448 := raw_hG_n450
              have hV_n450 : pV p0.toNat (4 - (d : Int) + 1) (mu A390 39 p0.toNat xs.toNat z393) A448 := raw_hw_n450
              clear raw_hw_n450
              have hQ_n450 : pQ p0.toNat (A390 0 0 28) (A390 0 0 29) (A390 0 0 30) (mu A390 39 p0.toNat xs.toNat z393) A448 := raw_hQ_n450
              clear raw_hQ_n450
              have Q451 : pQ p0.toNat (A 0 0 28) (A 0 0 29) (A 0 0 30) A A448 := pQ.trans Q444 (pQ.le hQ_n450 (by show A 0 0 28 ≤ A390 0 0 28; omega) (by show A 0 0 29 ≤ A390 0 0 29; omega) (by show A 0 0 30 ≤ A390 0 0 30; omega))
              have r34_n450 : A448 34 p0.toNat xs.toNat = 3 := Eq.trans (hQ_n450.1 34 (by decide) (by decide) xs.toNat (by show ((xs.toNat : Nat) : Int) < A390 0 0 28; omega)) r34_n392
              have r35_n450 : A448 35 p0.toNat xs.toNat = (-1) := Eq.trans (hQ_n450.1 35 (by decide) (by decide) xs.toNat (by show ((xs.toNat : Nat) : Int) < A390 0 0 28; omega)) r35_n392
              have r36_n450 : A448 36 p0.toNat xs.toNat = (-1) := Eq.trans (hQ_n450.1 36 (by decide) (by decide) xs.toNat (by show ((xs.toNat : Nat) : Int) < A390 0 0 28; omega)) r36_n392
              have r39_n450 : A448 39 p0.toNat xs.toNat = z393 := Eq.trans (hQ_n450.1 39 (by decide) (by decide) xs.toNat (by show ((xs.toNat : Nat) : Int) < A390 0 0 28; omega)) (mu_at A390 39 p0.toNat xs.toNat z393)
              have r40_n450 : A448 40 p0.toNat xs.toNat = x30 := Eq.trans (hQ_n450.1 40 (by decide) (by decide) xs.toNat (by show ((xs.toNat : Nat) : Int) < A390 0 0 28; omega)) r40_n392
              have g_n450 : A448 0 0 31 = 1 := wr_1 (hT_n450 0 0 31) (fun h9 => absurd ((g_n392 : A390 0 0 31 = 1).symm.trans (hV_n450 h9).1) (by decide))
              refine m_blk 239 [(3, vi 3), (2, vi xs), (1, vi p0), (0, vr 0 0)] [vr 0 0] C f_q_step_238_1 rfl ?_
              refine m_getr C e_q_step_239 fg_Mo_33 rfl (by decide) rfl ?_
              refine m_blk 243 [(3, vi 3), (2, vi xs), (1, vi p0), (0, vr 0 0)] [vi p0, vr 18 0] C f_q_step_242_1 rfl ?_
              refine m_aald C p0.toNat e_q_step_243 rfl rfl rfl (by decide) (by decide) (by omega) (by show p0 < ((6 : Nat) : Int); omega) (mz _ _) ?_
              refine m_blk 246 [(3, vi 3), (2, vi xs), (1, vi p0), (0, vr 0 0)] [vr 0 0, vi xs, vr 38 p0.toNat] C f_q_step_244_2 rfl ?_
              obtain ⟨x452, hx452⟩ : ∃ x, A448 0 0 28 = x := ⟨_, rfl⟩
              have rx452 : 0 ≤ x452 ∧ x452 ≤ 16 := mrg hT_n450 hx452 rfl
              refine m_geti C e_q_step_246 fg_Mo_192 rfl (by decide) rfl x452 hx452 ?_
              refine m_iast C e_q_step_249 rfl (by omega) (by decide) (by omega) (by show xs < ((16 : Nat) : Int); omega) ?_
              have t453 : mTy (mu A448 38 p0.toNat xs.toNat x452) := hT_n450.mu (by show 0 ≤ x452 ∧ x452 ≤ 16; omega)
              have q454 := hF_n450.mu (f := 38) (k := p0.toNat) (j := xs.toNat) (z := x452) (by simp [pm])
              have Q455 : pQ p0.toNat (A 0 0 28) (A 0 0 29) (A 0 0 30) A (mu A448 38 p0.toNat xs.toNat x452) := pQ.mu (A2 := A448) Q451 (by omega) (by omega) (by omega)
              have G456 : nG p0.toNat (mu A448 38 p0.toNat xs.toNat x452) := hG_n450
              refine m_blk 252 [(3, vi 3), (2, vi xs), (1, vi p0), (0, vr 0 0)] [vi 3, vi 3] C f_q_step_250_2 rfl ?_
              refine m_icmp_ne (tgt := 259) C e_q_step_252 (by decide) (by decide) (by decide) (fun c457 => (by omega : False).elim) (fun c457 => ?_)
              refine m_blk 256 [(3, vi 3), (2, vi xs), (1, vi p0), (0, vr 0 0)] [vr 0 0] C f_q_step_255_1 rfl ?_
              refine m_callV C Rm Y [] [] (hq9 l D B H0 ad _ hS t453 p0 (by show A448 0 0 0 = p0 ∧ 0 ≤ p0 ∧ p0 ≤ 5; omega) (by show A448 0 0 24 ≤ A448 0 0 23 ∧ A448 0 0 23 ≤ A448 0 0 22; omega) pt_n450 (fun h9 => absurd ((g_n450 : A448 0 0 31 = 1).symm.trans h9) (by decide)) G456 (by show A448 0 0 27 = 4 - (d : Int) ∧ (d : Int) ≤ 4; omega)) cl_Mo_209 rfl (by decide) rfl rfl e_q_step_256 rfl rfl rfl ⟨by show _ ≤ (32 + 4 * d : Nat); omega, by show _ ≤ (630 + 300 * d : Nat); omega⟩ ?_
              rintro v458 A459 ⟨rfl, hT_n461, hE_n461, raw_hb_n461, raw_hn_n461, raw_hw_n461, raw_hm_n461, raw_hG_n461, raw_hQ_n461⟩
              have hF_n461 := q454.trans (hE_n461.sub (fun _ _ _ h => h))
              show JM g D ad w0 A459 259 [(3, vi 3), (2, vi xs), (1, vi p0), (0, vr 0 0)] []
              have hb_n461 : A459 0 0 24 ≤ A459 0 0 23 ∧ A459 0 0 23 ≤ A459 0 0 22 := raw_hb_n461
              clear raw_hb_n461
              have hm_n461 : A448 0 0 24 ≤ A459 0 0 24 ∧ A448 0 0 28 ≤ A459 0 0 28 ∧ A448 0 0 29 ≤ A459 0 0 29 ∧ A448 0 0 30 ≤ A459 0 0 30 ∧ A459 0 0 27 = A448 0 0 27 := raw_hm_n461
              clear raw_hm_n461
              have pt_n461 : pT A459 := raw_hn_n461
              have k0_n461 : A459 0 0 0 = A448 0 0 0 := hE_n461 0 0 0 rfl
              have k22_n461 : A459 0 0 22 = A448 0 0 22 := hE_n461 0 0 22 rfl
              have hG_n461 : nG p0.toNat A459 := raw_hG_n461
              have hV_n461 : pV p0.toNat (4 - (d : Int) + 1) (mu A448 38 p0.toNat xs.toNat x452) A459 := raw_hw_n461
              clear raw_hw_n461
              have hQ_n461 : pQ p0.toNat (A448 0 0 28) (A448 0 0 29) (A448 0 0 30) (mu A448 38 p0.toNat xs.toNat x452) A459 := raw_hQ_n461
              clear raw_hQ_n461
              have Q462 : pQ p0.toNat (A 0 0 28) (A 0 0 29) (A 0 0 30) A A459 := pQ.trans Q455 (pQ.le hQ_n461 (by show A 0 0 28 ≤ A448 0 0 28; omega) (by show A 0 0 29 ≤ A448 0 0 29; omega) (by show A 0 0 30 ≤ A448 0 0 30; omega))
              have r34_n461 : A459 34 p0.toNat xs.toNat = 3 := Eq.trans (hQ_n461.1 34 (by decide) (by decide) xs.toNat (by show ((xs.toNat : Nat) : Int) < A448 0 0 28; omega)) r34_n450
              have r35_n461 : A459 35 p0.toNat xs.toNat = (-1) := Eq.trans (hQ_n461.1 35 (by decide) (by decide) xs.toNat (by show ((xs.toNat : Nat) : Int) < A448 0 0 28; omega)) r35_n450
              have r36_n461 : A459 36 p0.toNat xs.toNat = (-1) := Eq.trans (hQ_n461.1 36 (by decide) (by decide) xs.toNat (by show ((xs.toNat : Nat) : Int) < A448 0 0 28; omega)) r36_n450
              have r38_n461 : A459 38 p0.toNat xs.toNat = x452 := Eq.trans (hQ_n461.1 38 (by decide) (by decide) xs.toNat (by show ((xs.toNat : Nat) : Int) < A448 0 0 28; omega)) (mu_at A448 38 p0.toNat xs.toNat x452)
              have r39_n461 : A459 39 p0.toNat xs.toNat = z393 := Eq.trans (hQ_n461.1 39 (by decide) (by decide) xs.toNat (by show ((xs.toNat : Nat) : Int) < A448 0 0 28; omega)) r39_n450
              have r40_n461 : A459 40 p0.toNat xs.toNat = x30 := Eq.trans (hQ_n461.1 40 (by decide) (by decide) xs.toNat (by show ((xs.toNat : Nat) : Int) < A448 0 0 28; omega)) r40_n450
              have g_n461 : A459 0 0 31 = 1 := wr_1 (hT_n461 0 0 31) (fun h9 => absurd ((g_n450 : A448 0 0 31 = 1).symm.trans (hV_n461 h9).1) (by decide))
              refine m_blk 260 [(3, vi 3), (2, vi xs), (1, vi p0), (0, vr 0 0)] [vr 0 0] C f_q_step_259_1 rfl ?_
              refine m_getr C e_q_step_260 fg_Mo_30 rfl (by decide) rfl ?_
              refine m_blk 264 [(3, vi 3), (2, vi xs), (1, vi p0), (0, vr 0 0)] [vi p0, vr 17 0] C f_q_step_263_1 rfl ?_
              refine m_aald C p0.toNat e_q_step_264 rfl rfl rfl (by decide) (by decide) (by omega) (by show p0 < ((6 : Nat) : Int); omega) (mz _ _) ?_
              refine m_blk 267 [(3, vi 3), (2, vi xs), (1, vi p0), (0, vr 0 0)] [vr 0 0, vi xs, vr 37 p0.toNat] C f_q_step_265_2 rfl ?_
              obtain ⟨x463, hx463⟩ : ∃ x, A459 0 0 28 = x := ⟨_, rfl⟩
              have rx463 : 0 ≤ x463 ∧ x463 ≤ 16 := mrg hT_n461 hx463 rfl
              refine m_geti C e_q_step_267 fg_Mo_192 rfl (by decide) rfl x463 hx463 ?_
              refine m_iast C e_q_step_270 rfl (by omega) (by decide) (by omega) (by show xs < ((16 : Nat) : Int); omega) ?_
              have t464 : mTy (mu A459 37 p0.toNat xs.toNat x463) := hT_n461.mu (by show 0 ≤ x463 ∧ x463 ≤ 16; omega)
              have q465 := hF_n461.mu (f := 37) (k := p0.toNat) (j := xs.toNat) (z := x463) (by simp [pm])
              have Q466 : pQ p0.toNat (A 0 0 28) (A 0 0 29) (A 0 0 30) A (mu A459 37 p0.toNat xs.toNat x463) := pQ.mu (A2 := A459) Q462 (by omega) (by omega) (by omega)
              have G467 : nG p0.toNat (mu A459 37 p0.toNat xs.toNat x463) := hG_n461
              exact m_vret C Rm E e_q_step_271 ⟨rfl, t464, q465, (by show A459 0 0 24 ≤ A459 0 0 23 ∧ A459 0 0 23 ≤ A459 0 0 22; omega), pt_n461, (fun h9 => absurd ((g_n461 : A459 0 0 31 = 1).symm.trans h9) (by decide)), (by show A 0 0 24 ≤ A459 0 0 24 ∧ A 0 0 28 ≤ A459 0 0 28 ∧ A 0 0 29 ≤ A459 0 0 29 ∧ A 0 0 30 ≤ A459 0 0 30 ∧ A459 0 0 27 = A 0 0 27; omega), G467, Q466⟩
          · refine m_blk 108 [(3, vi 3), (2, vi xs), (1, vi p0), (0, vr 0 0)] [vi 3] C f_q_step_107_1 rfl ?_
            refine m_if_eq (tgt := 121) C e_q_step_108 (by decide) (by decide) (fun c468 => (by omega : False).elim) (fun c468 => ?_)
            refine m_blk 113 [(3, vi 3), (2, vi xs), (1, vi p0), (0, vr 0 0)] [vi 1, vi 3] C f_q_step_111_2 rfl ?_
            refine m_icmp_eq (tgt := 121) C e_q_step_113 (by decide) (by decide) (by decide) (fun c469 => (by omega : False).elim) (fun c469 => ?_)
            refine m_blk 118 [(3, vi 3), (2, vi xs), (1, vi p0), (0, vr 0 0)] [vi 5, vi 3] C f_q_step_116_2 rfl ?_
            refine m_icmp_ne (tgt := 136) C e_q_step_118 (by decide) (by decide) (by decide) (fun c470 => ?_) (fun c470 => (by omega : False).elim)
            refine m_blk 137 [(3, vi 3), (2, vi xs), (1, vi p0), (0, vr 0 0)] [vi 3] C f_q_step_136_1 rfl ?_
            refine m_if_ne (tgt := 146) C e_q_step_137 (by decide) (by decide) (fun c471 => ?_) (fun c471 => (by omega : False).elim)
            refine m_blk 148 [(3, vi 3), (2, vi xs), (1, vi p0), (0, vr 0 0)] [vi 4, vi 3] C f_q_step_146_2 rfl ?_
            refine m_icmp_ne (tgt := 167) C e_q_step_148 (by decide) (by decide) (by decide) (fun c472 => ?_) (fun c472 => (by omega : False).elim)
            refine m_blk 169 [(3, vi 3), (2, vi xs), (1, vi p0), (0, vr 0 0)] [vi 5, vi 3] C f_q_step_167_2 rfl ?_
            refine m_icmp_ne (tgt := 192) C e_q_step_169 (by decide) (by decide) (by decide) (fun c473 => ?_) (fun c473 => (by omega : False).elim)
            refine m_blk 194 [(3, vi 3), (2, vi xs), (1, vi p0), (0, vr 0 0)] [vi 1, vi 3] C f_q_step_192_2 rfl ?_
            refine m_icmp_eq (tgt := 212) C e_q_step_194 (by decide) (by decide) (by decide) (fun c474 => (by omega : False).elim) (fun c474 => ?_)
            refine m_blk 199 [(3, vi 3), (2, vi xs), (1, vi p0), (0, vr 0 0)] [vi 2, vi 3] C f_q_step_197_2 rfl ?_
            refine m_icmp_eq (tgt := 212) C e_q_step_199 (by decide) (by decide) (by decide) (fun c475 => (by omega : False).elim) (fun c475 => ?_)
            refine m_blk 204 [(3, vi 3), (2, vi xs), (1, vi p0), (0, vr 0 0)] [vi 3, vi 3] C f_q_step_202_2 rfl ?_
            refine m_icmp_eq (tgt := 212) C e_q_step_204 (by decide) (by decide) (by decide) (fun c476 => ?_) (fun c476 => (by omega : False).elim)
            refine m_blk 213 [(3, vi 3), (2, vi xs), (1, vi p0), (0, vr 0 0)] [vr 0 0] C f_q_step_212_1 rfl ?_
            refine m_getr C e_q_step_213 fg_Mo_36 rfl (by decide) rfl ?_
            refine m_blk 217 [(3, vi 3), (2, vi xs), (1, vi p0), (0, vr 0 0)] [vi p0, vr 19 0] C f_q_step_216_1 rfl ?_
            refine m_aald C p0.toNat e_q_step_217 rfl rfl rfl (by decide) (by decide) (by omega) (by show p0 < ((6 : Nat) : Int); omega) (mz _ _) ?_
            refine m_blk 220 [(3, vi 3), (2, vi xs), (1, vi p0), (0, vr 0 0)] [vr 0 0, vi xs, vr 39 p0.toNat] C f_q_step_218_2 rfl ?_
            refine m_callV C Rm Y [] [vi xs, vr 39 p0.toNat] ((q_E d).2 l D B H0 ad _ hS hT_n377 p0 (by show A375 0 0 0 = p0 ∧ 0 ≤ p0 ∧ p0 ≤ 5; omega) (by show A375 0 0 24 ≤ A375 0 0 23 ∧ A375 0 0 23 ≤ A375 0 0 22; omega) pt_n377 (fun h9 => absurd ((g_n377 : A375 0 0 31 = 1).symm.trans h9) (by decide)) G378 (by show A375 0 0 27 = 4 - (d : Int) ∧ (d : Int) ≤ 4; omega)) cl_Mo_206 rfl (by decide) rfl rfl e_q_step_220 rfl rfl rfl ⟨by show _ ≤ (32 + 4 * d : Nat); omega, by show _ ≤ (630 + 300 * d : Nat); omega⟩ ?_
            rintro v477 A478 ⟨z481, rfl, hT_n480, hE_n480, raw_hz_n480, raw_hb_n480, raw_hn_n480, raw_hw_n480, raw_hm_n480, raw_hG_n480, raw_hK_n480⟩
            have hF_n480 := hF_n377.trans (hE_n480.sub (em_pm _))
            show JM g D ad w0 A478 223 [(3, vi 3), (2, vi xs), (1, vi p0), (0, vr 0 0)] [vi z481, vi xs, vr 39 p0.toNat]
            have hz_n480 : 0 ≤ z481 ∧ z481 ≤ 119 := raw_hz_n480
            clear raw_hz_n480
            have hb_n480 : A478 0 0 24 ≤ A478 0 0 23 ∧ A478 0 0 23 ≤ A478 0 0 22 := raw_hb_n480
            clear raw_hb_n480
            have hm_n480 : A375 0 0 24 ≤ A478 0 0 24 ∧ A375 0 0 30 ≤ A478 0 0 30 ∧ A478 0 0 27 = A375 0 0 27 := raw_hm_n480
            clear raw_hm_n480
            have pt_n480 : pT A478 := raw_hn_n480
            have k0_n480 : A478 0 0 0 = A375 0 0 0 := hE_n480 0 0 0 rfl
            have k22_n480 : A478 0 0 22 = A375 0 0 22 := hE_n480 0 0 22 rfl
            have k28_n480 : A478 0 0 28 = A375 0 0 28 := hE_n480 0 0 28 rfl
            have k29_n480 : A478 0 0 29 = A375 0 0 29 := hE_n480 0 0 29 rfl
            have hG_n480 : nG p0.toNat A478 := raw_hG_n480
            have hK_n480 : nK p0.toNat A375 A478 := raw_hK_n480
            have Q482 : pQ p0.toNat (A 0 0 28) (A 0 0 29) (A 0 0 30) A A478 := pQ.emk (A2 := A375) Q379 hE_n480 hK_n480 (by show A 0 0 30 ≤ A375 0 0 30; omega)
            have r34_n480 : A478 34 p0.toNat xs.toNat = 3 := Eq.trans (hE_n480 34 p0.toNat xs.toNat rfl) r34_n377
            have r35_n480 : A478 35 p0.toNat xs.toNat = (-1) := Eq.trans (hE_n480 35 p0.toNat xs.toNat rfl) r35_n377
            have r36_n480 : A478 36 p0.toNat xs.toNat = (-1) := Eq.trans (hE_n480 36 p0.toNat xs.toNat rfl) r36_n377
            have r39_n480 : A478 39 p0.toNat xs.toNat = (-1) := Eq.trans (hE_n480 39 p0.toNat xs.toNat rfl) r39_n377
            have r40_n480 : A478 40 p0.toNat xs.toNat = x30 := Eq.trans (hE_n480 40 p0.toNat xs.toNat rfl) r40_n377
            have g_n480 : A478 0 0 31 = 1 := wr_1 (hT_n480 0 0 31) (fun h9 => absurd ((g_n377 : A375 0 0 31 = 1).symm.trans (raw_hw_n480 h9).1) (by decide))
            refine m_iast C e_q_step_223 rfl (by omega) (by decide) (by omega) (by show xs < ((16 : Nat) : Int); omega) ?_
            have t483 : mTy (mu A478 39 p0.toNat xs.toNat z481) := hT_n480.mu (by show (-1) ≤ z481 ∧ z481 ≤ 119; omega)
            have q484 := hF_n480.mu (f := 39) (k := p0.toNat) (j := xs.toNat) (z := z481) (by simp [pm])
            have Q485 : pQ p0.toNat (A 0 0 28) (A 0 0 29) (A 0 0 30) A (mu A478 39 p0.toNat xs.toNat z481) := pQ.mu (A2 := A478) Q482 (by omega) (by omega) (by omega)
            have G486 : nG p0.toNat (mu A478 39 p0.toNat xs.toNat z481) := hG_n480
            refine m_blk 226 [(3, vi 3), (2, vi xs), (1, vi p0), (0, vr 0 0)] [vi 3, vi 3] C f_q_step_224_2 rfl ?_
            refine m_icmp_eq (tgt := 234) C e_q_step_226 (by decide) (by decide) (by decide) (fun c487 => ?_) (fun c487 => (by omega : False).elim)
            refine m_blk 235 [(3, vi 3), (2, vi xs), (1, vi p0), (0, vr 0 0)] [vr 0 0] C f_q_step_234_1 rfl ?_
            refine m_callV C Rm Y [] [] (hq9 l D B H0 ad _ hS t483 p0 (by show A478 0 0 0 = p0 ∧ 0 ≤ p0 ∧ p0 ≤ 5; omega) (by show A478 0 0 24 ≤ A478 0 0 23 ∧ A478 0 0 23 ≤ A478 0 0 22; omega) pt_n480 (fun h9 => absurd ((g_n480 : A478 0 0 31 = 1).symm.trans h9) (by decide)) G486 (by show A478 0 0 27 = 4 - (d : Int) ∧ (d : Int) ≤ 4; omega)) cl_Mo_209 rfl (by decide) rfl rfl e_q_step_235 rfl rfl rfl ⟨by show _ ≤ (32 + 4 * d : Nat); omega, by show _ ≤ (630 + 300 * d : Nat); omega⟩ ?_
            rintro v488 A489 ⟨rfl, hT_n491, hE_n491, raw_hb_n491, raw_hn_n491, raw_hw_n491, raw_hm_n491, raw_hG_n491, raw_hQ_n491⟩
            have hF_n491 := q484.trans (hE_n491.sub (fun _ _ _ h => h))
            show JM g D ad w0 A489 238 [(3, vi 3), (2, vi xs), (1, vi p0), (0, vr 0 0)] []
            have hb_n491 : A489 0 0 24 ≤ A489 0 0 23 ∧ A489 0 0 23 ≤ A489 0 0 22 := raw_hb_n491
            clear raw_hb_n491
            have hm_n491 : A478 0 0 24 ≤ A489 0 0 24 ∧ A478 0 0 28 ≤ A489 0 0 28 ∧ A478 0 0 29 ≤ A489 0 0 29 ∧ A478 0 0 30 ≤ A489 0 0 30 ∧ A489 0 0 27 = A478 0 0 27 := raw_hm_n491
            clear raw_hm_n491
            have pt_n491 : pT A489 := raw_hn_n491
            have k0_n491 : A489 0 0 0 = A478 0 0 0 := hE_n491 0 0 0 rfl
            have k22_n491 : A489 0 0 22 = A478 0 0 22 := hE_n491 0 0 22 rfl
            have hG_n491 : nG p0.toNat A489 := raw_hG_n491
            have hV_n491 : pV p0.toNat (4 - (d : Int) + 1) (mu A478 39 p0.toNat xs.toNat z481) A489 := raw_hw_n491
            clear raw_hw_n491
            have hQ_n491 : pQ p0.toNat (A478 0 0 28) (A478 0 0 29) (A478 0 0 30) (mu A478 39 p0.toNat xs.toNat z481) A489 := raw_hQ_n491
            clear raw_hQ_n491
            have Q492 : pQ p0.toNat (A 0 0 28) (A 0 0 29) (A 0 0 30) A A489 := pQ.trans Q485 (pQ.le hQ_n491 (by show A 0 0 28 ≤ A478 0 0 28; omega) (by show A 0 0 29 ≤ A478 0 0 29; omega) (by show A 0 0 30 ≤ A478 0 0 30; omega))
            have r34_n491 : A489 34 p0.toNat xs.toNat = 3 := Eq.trans (hQ_n491.1 34 (by decide) (by decide) xs.toNat (by show ((xs.toNat : Nat) : Int) < A478 0 0 28; omega)) r34_n480
            have r35_n491 : A489 35 p0.toNat xs.toNat = (-1) := Eq.trans (hQ_n491.1 35 (by decide) (by decide) xs.toNat (by show ((xs.toNat : Nat) : Int) < A478 0 0 28; omega)) r35_n480
            have r36_n491 : A489 36 p0.toNat xs.toNat = (-1) := Eq.trans (hQ_n491.1 36 (by decide) (by decide) xs.toNat (by show ((xs.toNat : Nat) : Int) < A478 0 0 28; omega)) r36_n480
            have r39_n491 : A489 39 p0.toNat xs.toNat = z481 := Eq.trans (hQ_n491.1 39 (by decide) (by decide) xs.toNat (by show ((xs.toNat : Nat) : Int) < A478 0 0 28; omega)) (mu_at A478 39 p0.toNat xs.toNat z481)
            have r40_n491 : A489 40 p0.toNat xs.toNat = x30 := Eq.trans (hQ_n491.1 40 (by decide) (by decide) xs.toNat (by show ((xs.toNat : Nat) : Int) < A478 0 0 28; omega)) r40_n480
            have g_n491 : A489 0 0 31 = 1 := wr_1 (hT_n491 0 0 31) (fun h9 => absurd ((g_n480 : A478 0 0 31 = 1).symm.trans (hV_n491 h9).1) (by decide))
            refine m_blk 239 [(3, vi 3), (2, vi xs), (1, vi p0), (0, vr 0 0)] [vr 0 0] C f_q_step_238_1 rfl ?_
            refine m_getr C e_q_step_239 fg_Mo_33 rfl (by decide) rfl ?_
            refine m_blk 243 [(3, vi 3), (2, vi xs), (1, vi p0), (0, vr 0 0)] [vi p0, vr 18 0] C f_q_step_242_1 rfl ?_
            refine m_aald C p0.toNat e_q_step_243 rfl rfl rfl (by decide) (by decide) (by omega) (by show p0 < ((6 : Nat) : Int); omega) (mz _ _) ?_
            refine m_blk 246 [(3, vi 3), (2, vi xs), (1, vi p0), (0, vr 0 0)] [vr 0 0, vi xs, vr 38 p0.toNat] C f_q_step_244_2 rfl ?_
            obtain ⟨x493, hx493⟩ : ∃ x, A489 0 0 28 = x := ⟨_, rfl⟩
            have rx493 : 0 ≤ x493 ∧ x493 ≤ 16 := mrg hT_n491 hx493 rfl
            refine m_geti C e_q_step_246 fg_Mo_192 rfl (by decide) rfl x493 hx493 ?_
            refine m_iast C e_q_step_249 rfl (by omega) (by decide) (by omega) (by show xs < ((16 : Nat) : Int); omega) ?_
            have t494 : mTy (mu A489 38 p0.toNat xs.toNat x493) := hT_n491.mu (by show 0 ≤ x493 ∧ x493 ≤ 16; omega)
            have q495 := hF_n491.mu (f := 38) (k := p0.toNat) (j := xs.toNat) (z := x493) (by simp [pm])
            have Q496 : pQ p0.toNat (A 0 0 28) (A 0 0 29) (A 0 0 30) A (mu A489 38 p0.toNat xs.toNat x493) := pQ.mu (A2 := A489) Q492 (by omega) (by omega) (by omega)
            have G497 : nG p0.toNat (mu A489 38 p0.toNat xs.toNat x493) := hG_n491
            refine m_blk 252 [(3, vi 3), (2, vi xs), (1, vi p0), (0, vr 0 0)] [vi 3, vi 3] C f_q_step_250_2 rfl ?_
            refine m_icmp_ne (tgt := 259) C e_q_step_252 (by decide) (by decide) (by decide) (fun c498 => (by omega : False).elim) (fun c498 => ?_)
            refine m_blk 256 [(3, vi 3), (2, vi xs), (1, vi p0), (0, vr 0 0)] [vr 0 0] C f_q_step_255_1 rfl ?_
            refine m_callV C Rm Y [] [] (hq9 l D B H0 ad _ hS t494 p0 (by show A489 0 0 0 = p0 ∧ 0 ≤ p0 ∧ p0 ≤ 5; omega) (by show A489 0 0 24 ≤ A489 0 0 23 ∧ A489 0 0 23 ≤ A489 0 0 22; omega) pt_n491 (fun h9 => absurd ((g_n491 : A489 0 0 31 = 1).symm.trans h9) (by decide)) G497 (by show A489 0 0 27 = 4 - (d : Int) ∧ (d : Int) ≤ 4; omega)) cl_Mo_209 rfl (by decide) rfl rfl e_q_step_256 rfl rfl rfl ⟨by show _ ≤ (32 + 4 * d : Nat); omega, by show _ ≤ (630 + 300 * d : Nat); omega⟩ ?_
            rintro v499 A500 ⟨rfl, hT_n502, hE_n502, raw_hb_n502, raw_hn_n502, raw_hw_n502, raw_hm_n502, raw_hG_n502, raw_hQ_n502⟩
            have hF_n502 := q495.trans (hE_n502.sub (fun _ _ _ h => h))
            show JM g D ad w0 A500 259 [(3, vi 3), (2, vi xs), (1, vi p0), (0, vr 0 0)] []
            have hb_n502 : A500 0 0 24 ≤ A500 0 0 23 ∧ A500 0 0 23 ≤ A500 0 0 22 := raw_hb_n502
            clear raw_hb_n502
            have hm_n502 : A489 0 0 24 ≤ A500 0 0 24 ∧ A489 0 0 28 ≤ A500 0 0 28 ∧ A489 0 0 29 ≤ A500 0 0 29 ∧ A489 0 0 30 ≤ A500 0 0 30 ∧ A500 0 0 27 = A489 0 0 27 := raw_hm_n502
            clear raw_hm_n502
            have pt_n502 : pT A500 := raw_hn_n502
            have k0_n502 : A500 0 0 0 = A489 0 0 0 := hE_n502 0 0 0 rfl
            have k22_n502 : A500 0 0 22 = A489 0 0 22 := hE_n502 0 0 22 rfl
            have hG_n502 : nG p0.toNat A500 := raw_hG_n502
            have hV_n502 : pV p0.toNat (4 - (d : Int) + 1) (mu A489 38 p0.toNat xs.toNat x493) A500 := raw_hw_n502
            clear raw_hw_n502
            have hQ_n502 : pQ p0.toNat (A489 0 0 28) (A489 0 0 29) (A489 0 0 30) (mu A489 38 p0.toNat xs.toNat x493) A500 := raw_hQ_n502
            clear raw_hQ_n502
            have Q503 : pQ p0.toNat (A 0 0 28) (A 0 0 29) (A 0 0 30) A A500 := pQ.trans Q496 (pQ.le hQ_n502 (by show A 0 0 28 ≤ A489 0 0 28; omega) (by show A 0 0 29 ≤ A489 0 0 29; omega) (by show A 0 0 30 ≤ A489 0 0 30; omega))
            have r34_n502 : A500 34 p0.toNat xs.toNat = 3 := Eq.trans (hQ_n502.1 34 (by decide) (by decide) xs.toNat (by show ((xs.toNat : Nat) : Int) < A489 0 0 28; omega)) r34_n491
            have r35_n502 : A500 35 p0.toNat xs.toNat = (-1) := Eq.trans (hQ_n502.1 35 (by decide) (by decide) xs.toNat (by show ((xs.toNat : Nat) : Int) < A489 0 0 28; omega)) r35_n491
            have r36_n502 : A500 36 p0.toNat xs.toNat = (-1) := Eq.trans (hQ_n502.1 36 (by decide) (by decide) xs.toNat (by show ((xs.toNat : Nat) : Int) < A489 0 0 28; omega)) r36_n491
            have r38_n502 : A500 38 p0.toNat xs.toNat = x493 := Eq.trans (hQ_n502.1 38 (by decide) (by decide) xs.toNat (by show ((xs.toNat : Nat) : Int) < A489 0 0 28; omega)) (mu_at A489 38 p0.toNat xs.toNat x493)
            have r39_n502 : A500 39 p0.toNat xs.toNat = z481 := Eq.trans (hQ_n502.1 39 (by decide) (by decide) xs.toNat (by show ((xs.toNat : Nat) : Int) < A489 0 0 28; omega)) r39_n491
            have r40_n502 : A500 40 p0.toNat xs.toNat = x30 := Eq.trans (hQ_n502.1 40 (by decide) (by decide) xs.toNat (by show ((xs.toNat : Nat) : Int) < A489 0 0 28; omega)) r40_n491
            have g_n502 : A500 0 0 31 = 1 := wr_1 (hT_n502 0 0 31) (fun h9 => absurd ((g_n491 : A489 0 0 31 = 1).symm.trans (hV_n502 h9).1) (by decide))
            refine m_blk 260 [(3, vi 3), (2, vi xs), (1, vi p0), (0, vr 0 0)] [vr 0 0] C f_q_step_259_1 rfl ?_
            refine m_getr C e_q_step_260 fg_Mo_30 rfl (by decide) rfl ?_
            refine m_blk 264 [(3, vi 3), (2, vi xs), (1, vi p0), (0, vr 0 0)] [vi p0, vr 17 0] C f_q_step_263_1 rfl ?_
            refine m_aald C p0.toNat e_q_step_264 rfl rfl rfl (by decide) (by decide) (by omega) (by show p0 < ((6 : Nat) : Int); omega) (mz _ _) ?_
            refine m_blk 267 [(3, vi 3), (2, vi xs), (1, vi p0), (0, vr 0 0)] [vr 0 0, vi xs, vr 37 p0.toNat] C f_q_step_265_2 rfl ?_
            obtain ⟨x504, hx504⟩ : ∃ x, A500 0 0 28 = x := ⟨_, rfl⟩
            have rx504 : 0 ≤ x504 ∧ x504 ≤ 16 := mrg hT_n502 hx504 rfl
            refine m_geti C e_q_step_267 fg_Mo_192 rfl (by decide) rfl x504 hx504 ?_
            refine m_iast C e_q_step_270 rfl (by omega) (by decide) (by omega) (by show xs < ((16 : Nat) : Int); omega) ?_
            have t505 : mTy (mu A500 37 p0.toNat xs.toNat x504) := hT_n502.mu (by show 0 ≤ x504 ∧ x504 ≤ 16; omega)
            have q506 := hF_n502.mu (f := 37) (k := p0.toNat) (j := xs.toNat) (z := x504) (by simp [pm])
            have Q507 : pQ p0.toNat (A 0 0 28) (A 0 0 29) (A 0 0 30) A (mu A500 37 p0.toNat xs.toNat x504) := pQ.mu (A2 := A500) Q503 (by omega) (by omega) (by omega)
            have G508 : nG p0.toNat (mu A500 37 p0.toNat xs.toNat x504) := hG_n502
            exact m_vret C Rm E e_q_step_271 ⟨rfl, t505, q506, (by show A500 0 0 24 ≤ A500 0 0 23 ∧ A500 0 0 23 ≤ A500 0 0 22; omega), pt_n502, (fun h9 => absurd ((g_n502 : A500 0 0 31 = 1).symm.trans h9) (by decide)), (by show A 0 0 24 ≤ A500 0 0 24 ∧ A 0 0 28 ≤ A500 0 0 28 ∧ A 0 0 29 ≤ A500 0 0 29 ∧ A 0 0 30 ≤ A500 0 0 30 ∧ A500 0 0 27 = A 0 0 27; omega), G508, Q507⟩
        · have bt9 : A 0 0 24 < A 0 0 23 := pT_lt hn g0 (by omega)
          refine m_blk 104 [(3, vi 4), (2, vi xs), (1, vi p0), (0, vr 0 0)] [vr 0 0] C f_q_step_103_1 rfl ?_
          refine m_callV C Rm Y [] [] (q_next l D B H0 ad _ hS t31 (by show A 0 0 23 ≤ A 0 0 22; omega)) cl_Mo_176 rfl (by decide) rfl rfl e_q_step_104 rfl rfl rfl ⟨by show _ ≤ (32 + 4 * d : Nat); omega, by show _ ≤ (630 + 300 * d : Nat); omega⟩ ?_
          rintro v509 A510 ⟨rfl, hT_n512, hE_n512, raw_hw_n512, raw_hb_n512⟩
          have hF_n512 := q32.trans (hE_n512.sub (nm_pm _))
          show JM g D ad w0 A510 107 [(3, vi 4), (2, vi xs), (1, vi p0), (0, vr 0 0)] []
          obtain ⟨b1_n512, b2_n512, b3_n512, pt_n512⟩ : A 0 0 23 ≤ A510 0 0 24 ∧ A510 0 0 24 ≤ A510 0 0 23 ∧ A510 0 0 23 ≤ A510 0 0 22 ∧ pT A510 := raw_hb_n512 g0
          clear raw_hb_n512 raw_hw_n512
          have k0_n512 : A510 0 0 0 = A 0 0 0 := hE_n512 0 0 0 rfl
          have k22_n512 : A510 0 0 22 = A 0 0 22 := hE_n512 0 0 22 rfl
          have k27_n512 : A510 0 0 27 = A 0 0 27 := hE_n512 0 0 27 rfl
          have k28_n512 : A510 0 0 28 = (xs + 1) := hE_n512 0 0 28 rfl
          have k29_n512 : A510 0 0 29 = A 0 0 29 := hE_n512 0 0 29 rfl
          have k30_n512 : A510 0 0 30 = A 0 0 30 := hE_n512 0 0 30 rfl
          have G513 : nG p0.toNat A510 := nG.nm (A := (mu (mu (mu (mu (mu (mu A 0 0 28 (xs + 1)) 34 p0.toNat xs.toNat 4) 35 p0.toNat xs.toNat (-1)) 36 p0.toNat xs.toNat (-1)) 39 p0.toNat xs.toNat (-1)) 40 p0.toNat xs.toNat x30)) G34 hE_n512
          have Q514 : pQ p0.toNat (A 0 0 28) (A 0 0 29) (A 0 0 30) A A510 := pQ.fam (A2 := (mu (mu (mu (mu (mu (mu A 0 0 28 (xs + 1)) 34 p0.toNat xs.toNat 4) 35 p0.toNat xs.toNat (-1)) 36 p0.toNat xs.toNat (-1)) 39 p0.toNat xs.toNat (-1)) 40 p0.toNat xs.toNat x30)) Q33 (fam_nm _ hE_n512)
          have r34_n512 : A510 34 p0.toNat xs.toNat = 4 := Eq.trans (hE_n512 34 p0.toNat xs.toNat rfl) (mu_at (mu A 0 0 28 (xs + 1)) 34 p0.toNat xs.toNat 4)
          have r35_n512 : A510 35 p0.toNat xs.toNat = (-1) := Eq.trans (hE_n512 35 p0.toNat xs.toNat rfl) (mu_at (mu (mu A 0 0 28 (xs + 1)) 34 p0.toNat xs.toNat 4) 35 p0.toNat xs.toNat (-1))
          have r36_n512 : A510 36 p0.toNat xs.toNat = (-1) := Eq.trans (hE_n512 36 p0.toNat xs.toNat rfl) (mu_at (mu (mu (mu A 0 0 28 (xs + 1)) 34 p0.toNat xs.toNat 4) 35 p0.toNat xs.toNat (-1)) 36 p0.toNat xs.toNat (-1))
          have r39_n512 : A510 39 p0.toNat xs.toNat = (-1) := Eq.trans (hE_n512 39 p0.toNat xs.toNat rfl) (mu_at (mu (mu (mu (mu A 0 0 28 (xs + 1)) 34 p0.toNat xs.toNat 4) 35 p0.toNat xs.toNat (-1)) 36 p0.toNat xs.toNat (-1)) 39 p0.toNat xs.toNat (-1))
          have r40_n512 : A510 40 p0.toNat xs.toNat = x30 := Eq.trans (hE_n512 40 p0.toNat xs.toNat rfl) (mu_at (mu (mu (mu (mu (mu A 0 0 28 (xs + 1)) 34 p0.toNat xs.toNat 4) 35 p0.toNat xs.toNat (-1)) 36 p0.toNat xs.toNat (-1)) 39 p0.toNat xs.toNat (-1)) 40 p0.toNat xs.toNat x30)
          rcases (show A510 0 0 31 = 0 ∨ A510 0 0 31 = 1 from by have w9 := hT_n512 0 0 31; have w8 : 0 ≤ A510 0 0 31 ∧ A510 0 0 31 ≤ 1 := w9; omega) with g_n512 | g_n512
          · refine m_blk 108 [(3, vi 4), (2, vi xs), (1, vi p0), (0, vr 0 0)] [vi 4] C f_q_step_107_1 rfl ?_
            refine m_if_eq (tgt := 121) C e_q_step_108 (by decide) (by decide) (fun c515 => (by omega : False).elim) (fun c515 => ?_)
            refine m_blk 113 [(3, vi 4), (2, vi xs), (1, vi p0), (0, vr 0 0)] [vi 1, vi 4] C f_q_step_111_2 rfl ?_
            refine m_icmp_eq (tgt := 121) C e_q_step_113 (by decide) (by decide) (by decide) (fun c516 => (by omega : False).elim) (fun c516 => ?_)
            refine m_blk 118 [(3, vi 4), (2, vi xs), (1, vi p0), (0, vr 0 0)] [vi 5, vi 4] C f_q_step_116_2 rfl ?_
            refine m_icmp_ne (tgt := 136) C e_q_step_118 (by decide) (by decide) (by decide) (fun c517 => ?_) (fun c517 => (by omega : False).elim)
            refine m_blk 137 [(3, vi 4), (2, vi xs), (1, vi p0), (0, vr 0 0)] [vi 4] C f_q_step_136_1 rfl ?_
            refine m_if_ne (tgt := 146) C e_q_step_137 (by decide) (by decide) (fun c518 => ?_) (fun c518 => (by omega : False).elim)
            refine m_blk 148 [(3, vi 4), (2, vi xs), (1, vi p0), (0, vr 0 0)] [vi 4, vi 4] C f_q_step_146_2 rfl ?_
            refine m_icmp_ne (tgt := 167) C e_q_step_148 (by decide) (by decide) (by decide) (fun c519 => (by omega : False).elim) (fun c519 => ?_)
            refine m_blk 152 [(3, vi 4), (2, vi xs), (1, vi p0), (0, vr 0 0)] [vr 0 0] C f_q_step_151_1 rfl ?_
            refine m_getr C e_q_step_152 fg_Mo_27 rfl (by decide) rfl ?_
            refine m_blk 156 [(3, vi 4), (2, vi xs), (1, vi p0), (0, vr 0 0)] [vi p0, vr 16 0] C f_q_step_155_1 rfl ?_
            refine m_aald C p0.toNat e_q_step_156 rfl rfl rfl (by decide) (by decide) (by omega) (by show p0 < ((6 : Nat) : Int); omega) (mz _ _) ?_
            refine m_blk 163 [(3, vi 4), (2, vi xs), (1, vi p0), (0, vr 0 0)] [vi 9, vi 0, vi 3, vr 0 0, vi xs, vr 36 p0.toNat] C f_q_step_157_5 rfl ?_
            refine m_callV C Rm Y [vi 3, vi 0, vi 9] [vi xs, vr 36 p0.toNat] (q_takes l D B H0 ad _ hS hT_n512 3 0 9 (by show 1 ≤ 3 ∧ 3 ≤ 4; omega) (by show 0 ≤ 0 ∧ 0 ≤ 2147483647 ∧ -1 ≤ 9 ∧ 9 ≤ 2147483647; omega) (by show A510 0 0 24 ≤ A510 0 0 23 ∧ A510 0 0 23 ≤ A510 0 0 22; omega) pt_n512) cl_Mo_198 rfl (by decide) rfl rfl e_q_step_163 rfl rfl rfl ⟨by show _ ≤ (32 + 4 * d : Nat); omega, by show _ ≤ (630 + 300 * d : Nat); omega⟩ ?_
            rintro v520 A521 ⟨z524, rfl, hT_n523, hE_n523, raw_hz_n523, raw_hb_n523, raw_hn_n523, raw_hw_n523, raw_hm_n523⟩
            have hF_n523 := hF_n512.trans (hE_n523.sub (nm_pm _))
            show JM g D ad w0 A521 166 [(3, vi 4), (2, vi xs), (1, vi p0), (0, vr 0 0)] [vi z524, vi xs, vr 36 p0.toNat]
            have hb_n523 : A521 0 0 24 ≤ A521 0 0 23 ∧ A521 0 0 23 ≤ A521 0 0 22 := raw_hb_n523
            clear raw_hb_n523
            have hm_n523 : A510 0 0 24 ≤ A521 0 0 24 := raw_hm_n523
            clear raw_hm_n523
            have hz_n523 : z524 = 0 ∨ 0 ≤ z524 ∧ z524 ≤ 9 := raw_hz_n523
            clear raw_hz_n523
            have pt_n523 : pT A521 := raw_hn_n523
            clear raw_hn_n523
            have k0_n523 : A521 0 0 0 = A510 0 0 0 := hE_n523 0 0 0 rfl
            have k22_n523 : A521 0 0 22 = A510 0 0 22 := hE_n523 0 0 22 rfl
            have k27_n523 : A521 0 0 27 = A510 0 0 27 := hE_n523 0 0 27 rfl
            have k28_n523 : A521 0 0 28 = A510 0 0 28 := hE_n523 0 0 28 rfl
            have k29_n523 : A521 0 0 29 = A510 0 0 29 := hE_n523 0 0 29 rfl
            have k30_n523 : A521 0 0 30 = A510 0 0 30 := hE_n523 0 0 30 rfl
            have G525 : nG p0.toNat A521 := nG.nm (A := A510) G513 hE_n523
            have Q526 : pQ p0.toNat (A 0 0 28) (A 0 0 29) (A 0 0 30) A A521 := pQ.fam (A2 := A510) Q514 (fam_nm _ hE_n523)
            have r34_n523 : A521 34 p0.toNat xs.toNat = 4 := Eq.trans (hE_n523 34 p0.toNat xs.toNat rfl) r34_n512
            have r35_n523 : A521 35 p0.toNat xs.toNat = (-1) := Eq.trans (hE_n523 35 p0.toNat xs.toNat rfl) r35_n512
            have r36_n523 : A521 36 p0.toNat xs.toNat = (-1) := Eq.trans (hE_n523 36 p0.toNat xs.toNat rfl) r36_n512
            have r39_n523 : A521 39 p0.toNat xs.toNat = (-1) := Eq.trans (hE_n523 39 p0.toNat xs.toNat rfl) r39_n512
            have r40_n523 : A521 40 p0.toNat xs.toNat = x30 := Eq.trans (hE_n523 40 p0.toNat xs.toNat rfl) r40_n512
            rcases (show A521 0 0 31 = 0 ∨ A521 0 0 31 = 1 from by have w9 := hT_n523 0 0 31; have w8 : 0 ≤ A521 0 0 31 ∧ A521 0 0 31 ≤ 1 := w9; omega) with g_n523 | g_n523
            · have u_n523 : A510 0 0 31 = 0 ∧ A510 0 0 24 < A521 0 0 24 ∧ 0 ≤ z524 ∧ z524 ≤ 9 := raw_hw_n523 g_n523
              clear raw_hw_n523
              refine m_iast C e_q_step_166 rfl (by omega) (by decide) (by omega) (by show xs < ((16 : Nat) : Int); omega) ?_
              have t527 : mTy (mu A521 36 p0.toNat xs.toNat z524) := hT_n523.mu (by show (-1) ≤ z524 ∧ z524 ≤ 9; omega)
              have q528 := hF_n523.mu (f := 36) (k := p0.toNat) (j := xs.toNat) (z := z524) (by simp [pm])
              have Q529 : pQ p0.toNat (A 0 0 28) (A 0 0 29) (A 0 0 30) A (mu A521 36 p0.toNat xs.toNat z524) := pQ.mu (A2 := A521) Q526 (by omega) (by omega) (by omega)
              have G530 : nG p0.toNat (mu A521 36 p0.toNat xs.toNat z524) := G525
              refine m_blk 169 [(3, vi 4), (2, vi xs), (1, vi p0), (0, vr 0 0)] [vi 5, vi 4] C f_q_step_167_2 rfl ?_
              refine m_icmp_ne (tgt := 192) C e_q_step_169 (by decide) (by decide) (by decide) (fun c531 => ?_) (fun c531 => (by omega : False).elim)
              refine m_blk 194 [(3, vi 4), (2, vi xs), (1, vi p0), (0, vr 0 0)] [vi 1, vi 4] C f_q_step_192_2 rfl ?_
              refine m_icmp_eq (tgt := 212) C e_q_step_194 (by decide) (by decide) (by decide) (fun c532 => (by omega : False).elim) (fun c532 => ?_)
              refine m_blk 199 [(3, vi 4), (2, vi xs), (1, vi p0), (0, vr 0 0)] [vi 2, vi 4] C f_q_step_197_2 rfl ?_
              refine m_icmp_eq (tgt := 212) C e_q_step_199 (by decide) (by decide) (by decide) (fun c533 => (by omega : False).elim) (fun c533 => ?_)
              refine m_blk 204 [(3, vi 4), (2, vi xs), (1, vi p0), (0, vr 0 0)] [vi 3, vi 4] C f_q_step_202_2 rfl ?_
              refine m_icmp_eq (tgt := 212) C e_q_step_204 (by decide) (by decide) (by decide) (fun c534 => (by omega : False).elim) (fun c534 => ?_)
              refine m_blk 209 [(3, vi 4), (2, vi xs), (1, vi p0), (0, vr 0 0)] [vi 5, vi 4] C f_q_step_207_2 rfl ?_
              refine m_icmp_ne (tgt := 224) C e_q_step_209 (by decide) (by decide) (by decide) (fun c535 => ?_) (fun c535 => (by omega : False).elim)
              refine m_blk 226 [(3, vi 4), (2, vi xs), (1, vi p0), (0, vr 0 0)] [vi 3, vi 4] C f_q_step_224_2 rfl ?_
              refine m_icmp_eq (tgt := 234) C e_q_step_226 (by decide) (by decide) (by decide) (fun c536 => (by omega : False).elim) (fun c536 => ?_)
              refine m_blk 231 [(3, vi 4), (2, vi xs), (1, vi p0), (0, vr 0 0)] [vi 4, vi 4] C f_q_step_229_2 rfl ?_
              refine m_icmp_ne (tgt := 238) C e_q_step_231 (by decide) (by decide) (by decide) (fun c537 => (by omega : False).elim) (fun c537 => ?_)
              refine m_blk 235 [(3, vi 4), (2, vi xs), (1, vi p0), (0, vr 0 0)] [vr 0 0] C f_q_step_234_1 rfl ?_
              refine m_callV C Rm Y [] [] (hq9 l D B H0 ad _ hS t527 p0 (by show A521 0 0 0 = p0 ∧ 0 ≤ p0 ∧ p0 ≤ 5; omega) (by show A521 0 0 24 ≤ A521 0 0 23 ∧ A521 0 0 23 ≤ A521 0 0 22; omega) pt_n523 (fun _ => by show A521 0 0 30 + 3 * A521 0 0 29 ≤ A521 0 0 24; omega) G530 (by show A521 0 0 27 = 4 - (d : Int) ∧ (d : Int) ≤ 4; omega)) cl_Mo_209 rfl (by decide) rfl rfl e_q_step_235 rfl rfl rfl ⟨by show _ ≤ (32 + 4 * d : Nat); omega, by show _ ≤ (630 + 300 * d : Nat); omega⟩ ?_
              rintro v538 A539 ⟨rfl, hT_n541, hE_n541, raw_hb_n541, raw_hn_n541, raw_hw_n541, raw_hm_n541, raw_hG_n541, raw_hQ_n541⟩
              have hF_n541 := q528.trans (hE_n541.sub (fun _ _ _ h => h))
              show JM g D ad w0 A539 238 [(3, vi 4), (2, vi xs), (1, vi p0), (0, vr 0 0)] []
              have hb_n541 : A539 0 0 24 ≤ A539 0 0 23 ∧ A539 0 0 23 ≤ A539 0 0 22 := raw_hb_n541
              clear raw_hb_n541
              have hm_n541 : A521 0 0 24 ≤ A539 0 0 24 ∧ A521 0 0 28 ≤ A539 0 0 28 ∧ A521 0 0 29 ≤ A539 0 0 29 ∧ A521 0 0 30 ≤ A539 0 0 30 ∧ A539 0 0 27 = A521 0 0 27 := raw_hm_n541
              clear raw_hm_n541
              have pt_n541 : pT A539 := raw_hn_n541
              have k0_n541 : A539 0 0 0 = A521 0 0 0 := hE_n541 0 0 0 rfl
              have k22_n541 : A539 0 0 22 = A521 0 0 22 := hE_n541 0 0 22 rfl
              have hG_n541 : nG p0.toNat A539 := raw_hG_n541
              have hV_n541 : pV p0.toNat (4 - (d : Int) + 1) (mu A521 36 p0.toNat xs.toNat z524) A539 := raw_hw_n541
              clear raw_hw_n541
              have hQ_n541 : pQ p0.toNat (A521 0 0 28) (A521 0 0 29) (A521 0 0 30) (mu A521 36 p0.toNat xs.toNat z524) A539 := raw_hQ_n541
              clear raw_hQ_n541
              have Q542 : pQ p0.toNat (A 0 0 28) (A 0 0 29) (A 0 0 30) A A539 := pQ.trans Q529 (pQ.le hQ_n541 (by show A 0 0 28 ≤ A521 0 0 28; omega) (by show A 0 0 29 ≤ A521 0 0 29; omega) (by show A 0 0 30 ≤ A521 0 0 30; omega))
              have r34_n541 : A539 34 p0.toNat xs.toNat = 4 := Eq.trans (hQ_n541.1 34 (by decide) (by decide) xs.toNat (by show ((xs.toNat : Nat) : Int) < A521 0 0 28; omega)) r34_n523
              have r35_n541 : A539 35 p0.toNat xs.toNat = (-1) := Eq.trans (hQ_n541.1 35 (by decide) (by decide) xs.toNat (by show ((xs.toNat : Nat) : Int) < A521 0 0 28; omega)) r35_n523
              have r36_n541 : A539 36 p0.toNat xs.toNat = z524 := Eq.trans (hQ_n541.1 36 (by decide) (by decide) xs.toNat (by show ((xs.toNat : Nat) : Int) < A521 0 0 28; omega)) (mu_at A521 36 p0.toNat xs.toNat z524)
              have r39_n541 : A539 39 p0.toNat xs.toNat = (-1) := Eq.trans (hQ_n541.1 39 (by decide) (by decide) xs.toNat (by show ((xs.toNat : Nat) : Int) < A521 0 0 28; omega)) r39_n523
              have r40_n541 : A539 40 p0.toNat xs.toNat = x30 := Eq.trans (hQ_n541.1 40 (by decide) (by decide) xs.toNat (by show ((xs.toNat : Nat) : Int) < A521 0 0 28; omega)) r40_n523
              rcases (show A539 0 0 31 = 0 ∨ A539 0 0 31 = 1 from by have w9 := hT_n541 0 0 31; have w8 : 0 ≤ A539 0 0 31 ∧ A539 0 0 31 ≤ 1 := w9; omega) with g_n541 | g_n541
              · have u_n541 : A521 0 0 24 - A521 0 0 30 - 3 * A521 0 0 29 ≤ A539 0 0 24 - A539 0 0 30 - 3 * A539 0 0 29 ∧ A521 0 0 28 + 1 ≤ A539 0 0 28 := ⟨(hV_n541 g_n541).2.1, (hV_n541 g_n541).2.2.1⟩
                refine m_blk 239 [(3, vi 4), (2, vi xs), (1, vi p0), (0, vr 0 0)] [vr 0 0] C f_q_step_238_1 rfl ?_
                refine m_getr C e_q_step_239 fg_Mo_33 rfl (by decide) rfl ?_
                refine m_blk 243 [(3, vi 4), (2, vi xs), (1, vi p0), (0, vr 0 0)] [vi p0, vr 18 0] C f_q_step_242_1 rfl ?_
                refine m_aald C p0.toNat e_q_step_243 rfl rfl rfl (by decide) (by decide) (by omega) (by show p0 < ((6 : Nat) : Int); omega) (mz _ _) ?_
                refine m_blk 246 [(3, vi 4), (2, vi xs), (1, vi p0), (0, vr 0 0)] [vr 0 0, vi xs, vr 38 p0.toNat] C f_q_step_244_2 rfl ?_
                obtain ⟨x543, hx543⟩ : ∃ x, A539 0 0 28 = x := ⟨_, rfl⟩
                have rx543 : 0 ≤ x543 ∧ x543 ≤ 16 := mrg hT_n541 hx543 rfl
                refine m_geti C e_q_step_246 fg_Mo_192 rfl (by decide) rfl x543 hx543 ?_
                refine m_iast C e_q_step_249 rfl (by omega) (by decide) (by omega) (by show xs < ((16 : Nat) : Int); omega) ?_
                have t544 : mTy (mu A539 38 p0.toNat xs.toNat x543) := hT_n541.mu (by show 0 ≤ x543 ∧ x543 ≤ 16; omega)
                have q545 := hF_n541.mu (f := 38) (k := p0.toNat) (j := xs.toNat) (z := x543) (by simp [pm])
                have Q546 : pQ p0.toNat (A 0 0 28) (A 0 0 29) (A 0 0 30) A (mu A539 38 p0.toNat xs.toNat x543) := pQ.mu (A2 := A539) Q542 (by omega) (by omega) (by omega)
                have G547 : nG p0.toNat (mu A539 38 p0.toNat xs.toNat x543) := hG_n541
                refine m_blk 252 [(3, vi 4), (2, vi xs), (1, vi p0), (0, vr 0 0)] [vi 3, vi 4] C f_q_step_250_2 rfl ?_
                refine m_icmp_ne (tgt := 259) C e_q_step_252 (by decide) (by decide) (by decide) (fun c548 => ?_) (fun c548 => (by omega : False).elim)
                refine m_blk 260 [(3, vi 4), (2, vi xs), (1, vi p0), (0, vr 0 0)] [vr 0 0] C f_q_step_259_1 rfl ?_
                refine m_getr C e_q_step_260 fg_Mo_30 rfl (by decide) rfl ?_
                refine m_blk 264 [(3, vi 4), (2, vi xs), (1, vi p0), (0, vr 0 0)] [vi p0, vr 17 0] C f_q_step_263_1 rfl ?_
                refine m_aald C p0.toNat e_q_step_264 rfl rfl rfl (by decide) (by decide) (by omega) (by show p0 < ((6 : Nat) : Int); omega) (mz _ _) ?_
                refine m_blk 267 [(3, vi 4), (2, vi xs), (1, vi p0), (0, vr 0 0)] [vr 0 0, vi xs, vr 37 p0.toNat] C f_q_step_265_2 rfl ?_
                refine m_geti C e_q_step_267 fg_Mo_192 rfl (by decide) rfl x543 hx543 ?_
                refine m_iast C e_q_step_270 rfl (by omega) (by decide) (by omega) (by show xs < ((16 : Nat) : Int); omega) ?_
                have t549 : mTy (mu (mu A539 38 p0.toNat xs.toNat x543) 37 p0.toNat xs.toNat x543) := t544.mu (by show 0 ≤ x543 ∧ x543 ≤ 16; omega)
                have q550 := q545.mu (f := 37) (k := p0.toNat) (j := xs.toNat) (z := x543) (by simp [pm])
                have Q551 : pQ p0.toNat (A 0 0 28) (A 0 0 29) (A 0 0 30) A (mu (mu A539 38 p0.toNat xs.toNat x543) 37 p0.toNat xs.toNat x543) := pQ.mu (A2 := (mu A539 38 p0.toNat xs.toNat x543)) Q546 (by omega) (by omega) (by omega)
                have G552 : nG p0.toNat (mu (mu A539 38 p0.toNat xs.toNat x543) 37 p0.toNat xs.toNat x543) := G547
                exact m_vret C Rm E e_q_step_271 ⟨rfl, t549, q550, (by show A539 0 0 24 ≤ A539 0 0 23 ∧ A539 0 0 23 ≤ A539 0 0 22; omega), pt_n541, (pV.mk (a := xs.toNat) g0 (by show A 0 0 24 - A 0 0 30 - 3 * A 0 0 29 ≤ A539 0 0 24 - A539 0 0 30 - 3 * A539 0 0 29; omega) (by omega) (by show A 0 0 28 + 1 ≤ A539 0 0 28; omega) (pV.loop' hV_n541 hx543 g_n541 (by show A521 0 0 28 = _; omega) r34_n541 r39_n541 (by omega) (by omega) (by omega))), (by show A 0 0 24 ≤ A539 0 0 24 ∧ A 0 0 28 ≤ A539 0 0 28 ∧ A 0 0 29 ≤ A539 0 0 29 ∧ A 0 0 30 ≤ A539 0 0 30 ∧ A539 0 0 27 = A 0 0 27; omega), G552, Q551⟩
              · refine m_blk 239 [(3, vi 4), (2, vi xs), (1, vi p0), (0, vr 0 0)] [vr 0 0] C f_q_step_238_1 rfl ?_
                refine m_getr C e_q_step_239 fg_Mo_33 rfl (by decide) rfl ?_
                refine m_blk 243 [(3, vi 4), (2, vi xs), (1, vi p0), (0, vr 0 0)] [vi p0, vr 18 0] C f_q_step_242_1 rfl ?_
                refine m_aald C p0.toNat e_q_step_243 rfl rfl rfl (by decide) (by decide) (by omega) (by show p0 < ((6 : Nat) : Int); omega) (mz _ _) ?_
                refine m_blk 246 [(3, vi 4), (2, vi xs), (1, vi p0), (0, vr 0 0)] [vr 0 0, vi xs, vr 38 p0.toNat] C f_q_step_244_2 rfl ?_
                obtain ⟨x553, hx553⟩ : ∃ x, A539 0 0 28 = x := ⟨_, rfl⟩
                have rx553 : 0 ≤ x553 ∧ x553 ≤ 16 := mrg hT_n541 hx553 rfl
                refine m_geti C e_q_step_246 fg_Mo_192 rfl (by decide) rfl x553 hx553 ?_
                refine m_iast C e_q_step_249 rfl (by omega) (by decide) (by omega) (by show xs < ((16 : Nat) : Int); omega) ?_
                have t554 : mTy (mu A539 38 p0.toNat xs.toNat x553) := hT_n541.mu (by show 0 ≤ x553 ∧ x553 ≤ 16; omega)
                have q555 := hF_n541.mu (f := 38) (k := p0.toNat) (j := xs.toNat) (z := x553) (by simp [pm])
                have Q556 : pQ p0.toNat (A 0 0 28) (A 0 0 29) (A 0 0 30) A (mu A539 38 p0.toNat xs.toNat x553) := pQ.mu (A2 := A539) Q542 (by omega) (by omega) (by omega)
                have G557 : nG p0.toNat (mu A539 38 p0.toNat xs.toNat x553) := hG_n541
                refine m_blk 252 [(3, vi 4), (2, vi xs), (1, vi p0), (0, vr 0 0)] [vi 3, vi 4] C f_q_step_250_2 rfl ?_
                refine m_icmp_ne (tgt := 259) C e_q_step_252 (by decide) (by decide) (by decide) (fun c558 => ?_) (fun c558 => (by omega : False).elim)
                refine m_blk 260 [(3, vi 4), (2, vi xs), (1, vi p0), (0, vr 0 0)] [vr 0 0] C f_q_step_259_1 rfl ?_
                refine m_getr C e_q_step_260 fg_Mo_30 rfl (by decide) rfl ?_
                refine m_blk 264 [(3, vi 4), (2, vi xs), (1, vi p0), (0, vr 0 0)] [vi p0, vr 17 0] C f_q_step_263_1 rfl ?_
                refine m_aald C p0.toNat e_q_step_264 rfl rfl rfl (by decide) (by decide) (by omega) (by show p0 < ((6 : Nat) : Int); omega) (mz _ _) ?_
                refine m_blk 267 [(3, vi 4), (2, vi xs), (1, vi p0), (0, vr 0 0)] [vr 0 0, vi xs, vr 37 p0.toNat] C f_q_step_265_2 rfl ?_
                refine m_geti C e_q_step_267 fg_Mo_192 rfl (by decide) rfl x553 hx553 ?_
                refine m_iast C e_q_step_270 rfl (by omega) (by decide) (by omega) (by show xs < ((16 : Nat) : Int); omega) ?_
                have t559 : mTy (mu (mu A539 38 p0.toNat xs.toNat x553) 37 p0.toNat xs.toNat x553) := t554.mu (by show 0 ≤ x553 ∧ x553 ≤ 16; omega)
                have q560 := q555.mu (f := 37) (k := p0.toNat) (j := xs.toNat) (z := x553) (by simp [pm])
                have Q561 : pQ p0.toNat (A 0 0 28) (A 0 0 29) (A 0 0 30) A (mu (mu A539 38 p0.toNat xs.toNat x553) 37 p0.toNat xs.toNat x553) := pQ.mu (A2 := (mu A539 38 p0.toNat xs.toNat x553)) Q556 (by omega) (by omega) (by omega)
                have G562 : nG p0.toNat (mu (mu A539 38 p0.toNat xs.toNat x553) 37 p0.toNat xs.toNat x553) := G557
                exact m_vret C Rm E e_q_step_271 ⟨rfl, t559, q560, (by show A539 0 0 24 ≤ A539 0 0 23 ∧ A539 0 0 23 ≤ A539 0 0 22; omega), pt_n541, (fun h9 => absurd ((g_n541 : A539 0 0 31 = 1).symm.trans h9) (by decide)), (by show A 0 0 24 ≤ A539 0 0 24 ∧ A 0 0 28 ≤ A539 0 0 28 ∧ A 0 0 29 ≤ A539 0 0 29 ∧ A 0 0 30 ≤ A539 0 0 30 ∧ A539 0 0 27 = A 0 0 27; omega), G562, Q561⟩
            · clear raw_hw_n523
              refine m_iast C e_q_step_166 rfl (by omega) (by decide) (by omega) (by show xs < ((16 : Nat) : Int); omega) ?_
              have t563 : mTy (mu A521 36 p0.toNat xs.toNat z524) := hT_n523.mu (by show (-1) ≤ z524 ∧ z524 ≤ 9; omega)
              have q564 := hF_n523.mu (f := 36) (k := p0.toNat) (j := xs.toNat) (z := z524) (by simp [pm])
              have Q565 : pQ p0.toNat (A 0 0 28) (A 0 0 29) (A 0 0 30) A (mu A521 36 p0.toNat xs.toNat z524) := pQ.mu (A2 := A521) Q526 (by omega) (by omega) (by omega)
              have G566 : nG p0.toNat (mu A521 36 p0.toNat xs.toNat z524) := G525
              refine m_blk 169 [(3, vi 4), (2, vi xs), (1, vi p0), (0, vr 0 0)] [vi 5, vi 4] C f_q_step_167_2 rfl ?_
              refine m_icmp_ne (tgt := 192) C e_q_step_169 (by decide) (by decide) (by decide) (fun c567 => ?_) (fun c567 => (by omega : False).elim)
              refine m_blk 194 [(3, vi 4), (2, vi xs), (1, vi p0), (0, vr 0 0)] [vi 1, vi 4] C f_q_step_192_2 rfl ?_
              refine m_icmp_eq (tgt := 212) C e_q_step_194 (by decide) (by decide) (by decide) (fun c568 => (by omega : False).elim) (fun c568 => ?_)
              refine m_blk 199 [(3, vi 4), (2, vi xs), (1, vi p0), (0, vr 0 0)] [vi 2, vi 4] C f_q_step_197_2 rfl ?_
              refine m_icmp_eq (tgt := 212) C e_q_step_199 (by decide) (by decide) (by decide) (fun c569 => (by omega : False).elim) (fun c569 => ?_)
              refine m_blk 204 [(3, vi 4), (2, vi xs), (1, vi p0), (0, vr 0 0)] [vi 3, vi 4] C f_q_step_202_2 rfl ?_
              refine m_icmp_eq (tgt := 212) C e_q_step_204 (by decide) (by decide) (by decide) (fun c570 => (by omega : False).elim) (fun c570 => ?_)
              refine m_blk 209 [(3, vi 4), (2, vi xs), (1, vi p0), (0, vr 0 0)] [vi 5, vi 4] C f_q_step_207_2 rfl ?_
              refine m_icmp_ne (tgt := 224) C e_q_step_209 (by decide) (by decide) (by decide) (fun c571 => ?_) (fun c571 => (by omega : False).elim)
              refine m_blk 226 [(3, vi 4), (2, vi xs), (1, vi p0), (0, vr 0 0)] [vi 3, vi 4] C f_q_step_224_2 rfl ?_
              refine m_icmp_eq (tgt := 234) C e_q_step_226 (by decide) (by decide) (by decide) (fun c572 => (by omega : False).elim) (fun c572 => ?_)
              refine m_blk 231 [(3, vi 4), (2, vi xs), (1, vi p0), (0, vr 0 0)] [vi 4, vi 4] C f_q_step_229_2 rfl ?_
              refine m_icmp_ne (tgt := 238) C e_q_step_231 (by decide) (by decide) (by decide) (fun c573 => (by omega : False).elim) (fun c573 => ?_)
              refine m_blk 235 [(3, vi 4), (2, vi xs), (1, vi p0), (0, vr 0 0)] [vr 0 0] C f_q_step_234_1 rfl ?_
              refine m_callV C Rm Y [] [] (hq9 l D B H0 ad _ hS t563 p0 (by show A521 0 0 0 = p0 ∧ 0 ≤ p0 ∧ p0 ≤ 5; omega) (by show A521 0 0 24 ≤ A521 0 0 23 ∧ A521 0 0 23 ≤ A521 0 0 22; omega) pt_n523 (fun h9 => absurd ((g_n523 : A521 0 0 31 = 1).symm.trans h9) (by decide)) G566 (by show A521 0 0 27 = 4 - (d : Int) ∧ (d : Int) ≤ 4; omega)) cl_Mo_209 rfl (by decide) rfl rfl e_q_step_235 rfl rfl rfl ⟨by show _ ≤ (32 + 4 * d : Nat); omega, by show _ ≤ (630 + 300 * d : Nat); omega⟩ ?_
              rintro v574 A575 ⟨rfl, hT_n577, hE_n577, raw_hb_n577, raw_hn_n577, raw_hw_n577, raw_hm_n577, raw_hG_n577, raw_hQ_n577⟩
              have hF_n577 := q564.trans (hE_n577.sub (fun _ _ _ h => h))
              show JM g D ad w0 A575 238 [(3, vi 4), (2, vi xs), (1, vi p0), (0, vr 0 0)] []
              have hb_n577 : A575 0 0 24 ≤ A575 0 0 23 ∧ A575 0 0 23 ≤ A575 0 0 22 := raw_hb_n577
              clear raw_hb_n577
              have hm_n577 : A521 0 0 24 ≤ A575 0 0 24 ∧ A521 0 0 28 ≤ A575 0 0 28 ∧ A521 0 0 29 ≤ A575 0 0 29 ∧ A521 0 0 30 ≤ A575 0 0 30 ∧ A575 0 0 27 = A521 0 0 27 := raw_hm_n577
              clear raw_hm_n577
              have pt_n577 : pT A575 := raw_hn_n577
              have k0_n577 : A575 0 0 0 = A521 0 0 0 := hE_n577 0 0 0 rfl
              have k22_n577 : A575 0 0 22 = A521 0 0 22 := hE_n577 0 0 22 rfl
              have hG_n577 : nG p0.toNat A575 := raw_hG_n577
              have hV_n577 : pV p0.toNat (4 - (d : Int) + 1) (mu A521 36 p0.toNat xs.toNat z524) A575 := raw_hw_n577
              clear raw_hw_n577
              have hQ_n577 : pQ p0.toNat (A521 0 0 28) (A521 0 0 29) (A521 0 0 30) (mu A521 36 p0.toNat xs.toNat z524) A575 := raw_hQ_n577
              clear raw_hQ_n577
              have Q578 : pQ p0.toNat (A 0 0 28) (A 0 0 29) (A 0 0 30) A A575 := pQ.trans Q565 (pQ.le hQ_n577 (by show A 0 0 28 ≤ A521 0 0 28; omega) (by show A 0 0 29 ≤ A521 0 0 29; omega) (by show A 0 0 30 ≤ A521 0 0 30; omega))
              have r34_n577 : A575 34 p0.toNat xs.toNat = 4 := Eq.trans (hQ_n577.1 34 (by decide) (by decide) xs.toNat (by show ((xs.toNat : Nat) : Int) < A521 0 0 28; omega)) r34_n523
              have r35_n577 : A575 35 p0.toNat xs.toNat = (-1) := Eq.trans (hQ_n577.1 35 (by decide) (by decide) xs.toNat (by show ((xs.toNat : Nat) : Int) < A521 0 0 28; omega)) r35_n523
              have r36_n577 : A575 36 p0.toNat xs.toNat = z524 := Eq.trans (hQ_n577.1 36 (by decide) (by decide) xs.toNat (by show ((xs.toNat : Nat) : Int) < A521 0 0 28; omega)) (mu_at A521 36 p0.toNat xs.toNat z524)
              have r39_n577 : A575 39 p0.toNat xs.toNat = (-1) := Eq.trans (hQ_n577.1 39 (by decide) (by decide) xs.toNat (by show ((xs.toNat : Nat) : Int) < A521 0 0 28; omega)) r39_n523
              have r40_n577 : A575 40 p0.toNat xs.toNat = x30 := Eq.trans (hQ_n577.1 40 (by decide) (by decide) xs.toNat (by show ((xs.toNat : Nat) : Int) < A521 0 0 28; omega)) r40_n523
              have g_n577 : A575 0 0 31 = 1 := wr_1 (hT_n577 0 0 31) (fun h9 => absurd ((g_n523 : A521 0 0 31 = 1).symm.trans (hV_n577 h9).1) (by decide))
              refine m_blk 239 [(3, vi 4), (2, vi xs), (1, vi p0), (0, vr 0 0)] [vr 0 0] C f_q_step_238_1 rfl ?_
              refine m_getr C e_q_step_239 fg_Mo_33 rfl (by decide) rfl ?_
              refine m_blk 243 [(3, vi 4), (2, vi xs), (1, vi p0), (0, vr 0 0)] [vi p0, vr 18 0] C f_q_step_242_1 rfl ?_
              refine m_aald C p0.toNat e_q_step_243 rfl rfl rfl (by decide) (by decide) (by omega) (by show p0 < ((6 : Nat) : Int); omega) (mz _ _) ?_
              refine m_blk 246 [(3, vi 4), (2, vi xs), (1, vi p0), (0, vr 0 0)] [vr 0 0, vi xs, vr 38 p0.toNat] C f_q_step_244_2 rfl ?_
              obtain ⟨x579, hx579⟩ : ∃ x, A575 0 0 28 = x := ⟨_, rfl⟩
              have rx579 : 0 ≤ x579 ∧ x579 ≤ 16 := mrg hT_n577 hx579 rfl
              refine m_geti C e_q_step_246 fg_Mo_192 rfl (by decide) rfl x579 hx579 ?_
              refine m_iast C e_q_step_249 rfl (by omega) (by decide) (by omega) (by show xs < ((16 : Nat) : Int); omega) ?_
              have t580 : mTy (mu A575 38 p0.toNat xs.toNat x579) := hT_n577.mu (by show 0 ≤ x579 ∧ x579 ≤ 16; omega)
              have q581 := hF_n577.mu (f := 38) (k := p0.toNat) (j := xs.toNat) (z := x579) (by simp [pm])
              have Q582 : pQ p0.toNat (A 0 0 28) (A 0 0 29) (A 0 0 30) A (mu A575 38 p0.toNat xs.toNat x579) := pQ.mu (A2 := A575) Q578 (by omega) (by omega) (by omega)
              have G583 : nG p0.toNat (mu A575 38 p0.toNat xs.toNat x579) := hG_n577
              refine m_blk 252 [(3, vi 4), (2, vi xs), (1, vi p0), (0, vr 0 0)] [vi 3, vi 4] C f_q_step_250_2 rfl ?_
              refine m_icmp_ne (tgt := 259) C e_q_step_252 (by decide) (by decide) (by decide) (fun c584 => ?_) (fun c584 => (by omega : False).elim)
              refine m_blk 260 [(3, vi 4), (2, vi xs), (1, vi p0), (0, vr 0 0)] [vr 0 0] C f_q_step_259_1 rfl ?_
              refine m_getr C e_q_step_260 fg_Mo_30 rfl (by decide) rfl ?_
              refine m_blk 264 [(3, vi 4), (2, vi xs), (1, vi p0), (0, vr 0 0)] [vi p0, vr 17 0] C f_q_step_263_1 rfl ?_
              refine m_aald C p0.toNat e_q_step_264 rfl rfl rfl (by decide) (by decide) (by omega) (by show p0 < ((6 : Nat) : Int); omega) (mz _ _) ?_
              refine m_blk 267 [(3, vi 4), (2, vi xs), (1, vi p0), (0, vr 0 0)] [vr 0 0, vi xs, vr 37 p0.toNat] C f_q_step_265_2 rfl ?_
              refine m_geti C e_q_step_267 fg_Mo_192 rfl (by decide) rfl x579 hx579 ?_
              refine m_iast C e_q_step_270 rfl (by omega) (by decide) (by omega) (by show xs < ((16 : Nat) : Int); omega) ?_
              have t585 : mTy (mu (mu A575 38 p0.toNat xs.toNat x579) 37 p0.toNat xs.toNat x579) := t580.mu (by show 0 ≤ x579 ∧ x579 ≤ 16; omega)
              have q586 := q581.mu (f := 37) (k := p0.toNat) (j := xs.toNat) (z := x579) (by simp [pm])
              have Q587 : pQ p0.toNat (A 0 0 28) (A 0 0 29) (A 0 0 30) A (mu (mu A575 38 p0.toNat xs.toNat x579) 37 p0.toNat xs.toNat x579) := pQ.mu (A2 := (mu A575 38 p0.toNat xs.toNat x579)) Q582 (by omega) (by omega) (by omega)
              have G588 : nG p0.toNat (mu (mu A575 38 p0.toNat xs.toNat x579) 37 p0.toNat xs.toNat x579) := G583
              exact m_vret C Rm E e_q_step_271 ⟨rfl, t585, q586, (by show A575 0 0 24 ≤ A575 0 0 23 ∧ A575 0 0 23 ≤ A575 0 0 22; omega), pt_n577, (fun h9 => absurd ((g_n577 : A575 0 0 31 = 1).symm.trans h9) (by decide)), (by show A 0 0 24 ≤ A575 0 0 24 ∧ A 0 0 28 ≤ A575 0 0 28 ∧ A 0 0 29 ≤ A575 0 0 29 ∧ A 0 0 30 ≤ A575 0 0 30 ∧ A575 0 0 27 = A 0 0 27; omega), G588, Q587⟩
          · refine m_blk 108 [(3, vi 4), (2, vi xs), (1, vi p0), (0, vr 0 0)] [vi 4] C f_q_step_107_1 rfl ?_
            refine m_if_eq (tgt := 121) C e_q_step_108 (by decide) (by decide) (fun c589 => (by omega : False).elim) (fun c589 => ?_)
            refine m_blk 113 [(3, vi 4), (2, vi xs), (1, vi p0), (0, vr 0 0)] [vi 1, vi 4] C f_q_step_111_2 rfl ?_
            refine m_icmp_eq (tgt := 121) C e_q_step_113 (by decide) (by decide) (by decide) (fun c590 => (by omega : False).elim) (fun c590 => ?_)
            refine m_blk 118 [(3, vi 4), (2, vi xs), (1, vi p0), (0, vr 0 0)] [vi 5, vi 4] C f_q_step_116_2 rfl ?_
            refine m_icmp_ne (tgt := 136) C e_q_step_118 (by decide) (by decide) (by decide) (fun c591 => ?_) (fun c591 => (by omega : False).elim)
            refine m_blk 137 [(3, vi 4), (2, vi xs), (1, vi p0), (0, vr 0 0)] [vi 4] C f_q_step_136_1 rfl ?_
            refine m_if_ne (tgt := 146) C e_q_step_137 (by decide) (by decide) (fun c592 => ?_) (fun c592 => (by omega : False).elim)
            refine m_blk 148 [(3, vi 4), (2, vi xs), (1, vi p0), (0, vr 0 0)] [vi 4, vi 4] C f_q_step_146_2 rfl ?_
            refine m_icmp_ne (tgt := 167) C e_q_step_148 (by decide) (by decide) (by decide) (fun c593 => (by omega : False).elim) (fun c593 => ?_)
            refine m_blk 152 [(3, vi 4), (2, vi xs), (1, vi p0), (0, vr 0 0)] [vr 0 0] C f_q_step_151_1 rfl ?_
            refine m_getr C e_q_step_152 fg_Mo_27 rfl (by decide) rfl ?_
            refine m_blk 156 [(3, vi 4), (2, vi xs), (1, vi p0), (0, vr 0 0)] [vi p0, vr 16 0] C f_q_step_155_1 rfl ?_
            refine m_aald C p0.toNat e_q_step_156 rfl rfl rfl (by decide) (by decide) (by omega) (by show p0 < ((6 : Nat) : Int); omega) (mz _ _) ?_
            refine m_blk 163 [(3, vi 4), (2, vi xs), (1, vi p0), (0, vr 0 0)] [vi 9, vi 0, vi 3, vr 0 0, vi xs, vr 36 p0.toNat] C f_q_step_157_5 rfl ?_
            refine m_callV C Rm Y [vi 3, vi 0, vi 9] [vi xs, vr 36 p0.toNat] (q_takes l D B H0 ad _ hS hT_n512 3 0 9 (by show 1 ≤ 3 ∧ 3 ≤ 4; omega) (by show 0 ≤ 0 ∧ 0 ≤ 2147483647 ∧ -1 ≤ 9 ∧ 9 ≤ 2147483647; omega) (by show A510 0 0 24 ≤ A510 0 0 23 ∧ A510 0 0 23 ≤ A510 0 0 22; omega) pt_n512) cl_Mo_198 rfl (by decide) rfl rfl e_q_step_163 rfl rfl rfl ⟨by show _ ≤ (32 + 4 * d : Nat); omega, by show _ ≤ (630 + 300 * d : Nat); omega⟩ ?_
            rintro v594 A595 ⟨z598, rfl, hT_n597, hE_n597, raw_hz_n597, raw_hb_n597, raw_hn_n597, raw_hw_n597, raw_hm_n597⟩
            have hF_n597 := hF_n512.trans (hE_n597.sub (nm_pm _))
            show JM g D ad w0 A595 166 [(3, vi 4), (2, vi xs), (1, vi p0), (0, vr 0 0)] [vi z598, vi xs, vr 36 p0.toNat]
            have hb_n597 : A595 0 0 24 ≤ A595 0 0 23 ∧ A595 0 0 23 ≤ A595 0 0 22 := raw_hb_n597
            clear raw_hb_n597
            have hm_n597 : A510 0 0 24 ≤ A595 0 0 24 := raw_hm_n597
            clear raw_hm_n597
            have hz_n597 : z598 = 0 ∨ 0 ≤ z598 ∧ z598 ≤ 9 := raw_hz_n597
            clear raw_hz_n597
            have pt_n597 : pT A595 := raw_hn_n597
            clear raw_hn_n597
            have k0_n597 : A595 0 0 0 = A510 0 0 0 := hE_n597 0 0 0 rfl
            have k22_n597 : A595 0 0 22 = A510 0 0 22 := hE_n597 0 0 22 rfl
            have k27_n597 : A595 0 0 27 = A510 0 0 27 := hE_n597 0 0 27 rfl
            have k28_n597 : A595 0 0 28 = A510 0 0 28 := hE_n597 0 0 28 rfl
            have k29_n597 : A595 0 0 29 = A510 0 0 29 := hE_n597 0 0 29 rfl
            have k30_n597 : A595 0 0 30 = A510 0 0 30 := hE_n597 0 0 30 rfl
            have G599 : nG p0.toNat A595 := nG.nm (A := A510) G513 hE_n597
            have Q600 : pQ p0.toNat (A 0 0 28) (A 0 0 29) (A 0 0 30) A A595 := pQ.fam (A2 := A510) Q514 (fam_nm _ hE_n597)
            have r34_n597 : A595 34 p0.toNat xs.toNat = 4 := Eq.trans (hE_n597 34 p0.toNat xs.toNat rfl) r34_n512
            have r35_n597 : A595 35 p0.toNat xs.toNat = (-1) := Eq.trans (hE_n597 35 p0.toNat xs.toNat rfl) r35_n512
            have r36_n597 : A595 36 p0.toNat xs.toNat = (-1) := Eq.trans (hE_n597 36 p0.toNat xs.toNat rfl) r36_n512
            have r39_n597 : A595 39 p0.toNat xs.toNat = (-1) := Eq.trans (hE_n597 39 p0.toNat xs.toNat rfl) r39_n512
            have r40_n597 : A595 40 p0.toNat xs.toNat = x30 := Eq.trans (hE_n597 40 p0.toNat xs.toNat rfl) r40_n512
            have g_n597 : A595 0 0 31 = 1 := wr_1 (hT_n597 0 0 31) (fun h9 => absurd ((g_n512 : A510 0 0 31 = 1).symm.trans (raw_hw_n597 h9).1) (by decide))
            clear raw_hw_n597
            refine m_iast C e_q_step_166 rfl (by omega) (by decide) (by omega) (by show xs < ((16 : Nat) : Int); omega) ?_
            have t601 : mTy (mu A595 36 p0.toNat xs.toNat z598) := hT_n597.mu (by show (-1) ≤ z598 ∧ z598 ≤ 9; omega)
            have q602 := hF_n597.mu (f := 36) (k := p0.toNat) (j := xs.toNat) (z := z598) (by simp [pm])
            have Q603 : pQ p0.toNat (A 0 0 28) (A 0 0 29) (A 0 0 30) A (mu A595 36 p0.toNat xs.toNat z598) := pQ.mu (A2 := A595) Q600 (by omega) (by omega) (by omega)
            have G604 : nG p0.toNat (mu A595 36 p0.toNat xs.toNat z598) := G599
            refine m_blk 169 [(3, vi 4), (2, vi xs), (1, vi p0), (0, vr 0 0)] [vi 5, vi 4] C f_q_step_167_2 rfl ?_
            refine m_icmp_ne (tgt := 192) C e_q_step_169 (by decide) (by decide) (by decide) (fun c605 => ?_) (fun c605 => (by omega : False).elim)
            refine m_blk 194 [(3, vi 4), (2, vi xs), (1, vi p0), (0, vr 0 0)] [vi 1, vi 4] C f_q_step_192_2 rfl ?_
            refine m_icmp_eq (tgt := 212) C e_q_step_194 (by decide) (by decide) (by decide) (fun c606 => (by omega : False).elim) (fun c606 => ?_)
            refine m_blk 199 [(3, vi 4), (2, vi xs), (1, vi p0), (0, vr 0 0)] [vi 2, vi 4] C f_q_step_197_2 rfl ?_
            refine m_icmp_eq (tgt := 212) C e_q_step_199 (by decide) (by decide) (by decide) (fun c607 => (by omega : False).elim) (fun c607 => ?_)
            refine m_blk 204 [(3, vi 4), (2, vi xs), (1, vi p0), (0, vr 0 0)] [vi 3, vi 4] C f_q_step_202_2 rfl ?_
            refine m_icmp_eq (tgt := 212) C e_q_step_204 (by decide) (by decide) (by decide) (fun c608 => (by omega : False).elim) (fun c608 => ?_)
            refine m_blk 209 [(3, vi 4), (2, vi xs), (1, vi p0), (0, vr 0 0)] [vi 5, vi 4] C f_q_step_207_2 rfl ?_
            refine m_icmp_ne (tgt := 224) C e_q_step_209 (by decide) (by decide) (by decide) (fun c609 => ?_) (fun c609 => (by omega : False).elim)
            refine m_blk 226 [(3, vi 4), (2, vi xs), (1, vi p0), (0, vr 0 0)] [vi 3, vi 4] C f_q_step_224_2 rfl ?_
            refine m_icmp_eq (tgt := 234) C e_q_step_226 (by decide) (by decide) (by decide) (fun c610 => (by omega : False).elim) (fun c610 => ?_)
            refine m_blk 231 [(3, vi 4), (2, vi xs), (1, vi p0), (0, vr 0 0)] [vi 4, vi 4] C f_q_step_229_2 rfl ?_
            refine m_icmp_ne (tgt := 238) C e_q_step_231 (by decide) (by decide) (by decide) (fun c611 => (by omega : False).elim) (fun c611 => ?_)
            refine m_blk 235 [(3, vi 4), (2, vi xs), (1, vi p0), (0, vr 0 0)] [vr 0 0] C f_q_step_234_1 rfl ?_
            refine m_callV C Rm Y [] [] (hq9 l D B H0 ad _ hS t601 p0 (by show A595 0 0 0 = p0 ∧ 0 ≤ p0 ∧ p0 ≤ 5; omega) (by show A595 0 0 24 ≤ A595 0 0 23 ∧ A595 0 0 23 ≤ A595 0 0 22; omega) pt_n597 (fun h9 => absurd ((g_n597 : A595 0 0 31 = 1).symm.trans h9) (by decide)) G604 (by show A595 0 0 27 = 4 - (d : Int) ∧ (d : Int) ≤ 4; omega)) cl_Mo_209 rfl (by decide) rfl rfl e_q_step_235 rfl rfl rfl ⟨by show _ ≤ (32 + 4 * d : Nat); omega, by show _ ≤ (630 + 300 * d : Nat); omega⟩ ?_
            rintro v612 A613 ⟨rfl, hT_n615, hE_n615, raw_hb_n615, raw_hn_n615, raw_hw_n615, raw_hm_n615, raw_hG_n615, raw_hQ_n615⟩
            have hF_n615 := q602.trans (hE_n615.sub (fun _ _ _ h => h))
            show JM g D ad w0 A613 238 [(3, vi 4), (2, vi xs), (1, vi p0), (0, vr 0 0)] []
            have hb_n615 : A613 0 0 24 ≤ A613 0 0 23 ∧ A613 0 0 23 ≤ A613 0 0 22 := raw_hb_n615
            clear raw_hb_n615
            have hm_n615 : A595 0 0 24 ≤ A613 0 0 24 ∧ A595 0 0 28 ≤ A613 0 0 28 ∧ A595 0 0 29 ≤ A613 0 0 29 ∧ A595 0 0 30 ≤ A613 0 0 30 ∧ A613 0 0 27 = A595 0 0 27 := raw_hm_n615
            clear raw_hm_n615
            have pt_n615 : pT A613 := raw_hn_n615
            have k0_n615 : A613 0 0 0 = A595 0 0 0 := hE_n615 0 0 0 rfl
            have k22_n615 : A613 0 0 22 = A595 0 0 22 := hE_n615 0 0 22 rfl
            have hG_n615 : nG p0.toNat A613 := raw_hG_n615
            have hV_n615 : pV p0.toNat (4 - (d : Int) + 1) (mu A595 36 p0.toNat xs.toNat z598) A613 := raw_hw_n615
            clear raw_hw_n615
            have hQ_n615 : pQ p0.toNat (A595 0 0 28) (A595 0 0 29) (A595 0 0 30) (mu A595 36 p0.toNat xs.toNat z598) A613 := raw_hQ_n615
            clear raw_hQ_n615
            have Q616 : pQ p0.toNat (A 0 0 28) (A 0 0 29) (A 0 0 30) A A613 := pQ.trans Q603 (pQ.le hQ_n615 (by show A 0 0 28 ≤ A595 0 0 28; omega) (by show A 0 0 29 ≤ A595 0 0 29; omega) (by show A 0 0 30 ≤ A595 0 0 30; omega))
            have r34_n615 : A613 34 p0.toNat xs.toNat = 4 := Eq.trans (hQ_n615.1 34 (by decide) (by decide) xs.toNat (by show ((xs.toNat : Nat) : Int) < A595 0 0 28; omega)) r34_n597
            have r35_n615 : A613 35 p0.toNat xs.toNat = (-1) := Eq.trans (hQ_n615.1 35 (by decide) (by decide) xs.toNat (by show ((xs.toNat : Nat) : Int) < A595 0 0 28; omega)) r35_n597
            have r36_n615 : A613 36 p0.toNat xs.toNat = z598 := Eq.trans (hQ_n615.1 36 (by decide) (by decide) xs.toNat (by show ((xs.toNat : Nat) : Int) < A595 0 0 28; omega)) (mu_at A595 36 p0.toNat xs.toNat z598)
            have r39_n615 : A613 39 p0.toNat xs.toNat = (-1) := Eq.trans (hQ_n615.1 39 (by decide) (by decide) xs.toNat (by show ((xs.toNat : Nat) : Int) < A595 0 0 28; omega)) r39_n597
            have r40_n615 : A613 40 p0.toNat xs.toNat = x30 := Eq.trans (hQ_n615.1 40 (by decide) (by decide) xs.toNat (by show ((xs.toNat : Nat) : Int) < A595 0 0 28; omega)) r40_n597
            have g_n615 : A613 0 0 31 = 1 := wr_1 (hT_n615 0 0 31) (fun h9 => absurd ((g_n597 : A595 0 0 31 = 1).symm.trans (hV_n615 h9).1) (by decide))
            refine m_blk 239 [(3, vi 4), (2, vi xs), (1, vi p0), (0, vr 0 0)] [vr 0 0] C f_q_step_238_1 rfl ?_
            refine m_getr C e_q_step_239 fg_Mo_33 rfl (by decide) rfl ?_
            refine m_blk 243 [(3, vi 4), (2, vi xs), (1, vi p0), (0, vr 0 0)] [vi p0, vr 18 0] C f_q_step_242_1 rfl ?_
            refine m_aald C p0.toNat e_q_step_243 rfl rfl rfl (by decide) (by decide) (by omega) (by show p0 < ((6 : Nat) : Int); omega) (mz _ _) ?_
            refine m_blk 246 [(3, vi 4), (2, vi xs), (1, vi p0), (0, vr 0 0)] [vr 0 0, vi xs, vr 38 p0.toNat] C f_q_step_244_2 rfl ?_
            obtain ⟨x617, hx617⟩ : ∃ x, A613 0 0 28 = x := ⟨_, rfl⟩
            have rx617 : 0 ≤ x617 ∧ x617 ≤ 16 := mrg hT_n615 hx617 rfl
            refine m_geti C e_q_step_246 fg_Mo_192 rfl (by decide) rfl x617 hx617 ?_
            refine m_iast C e_q_step_249 rfl (by omega) (by decide) (by omega) (by show xs < ((16 : Nat) : Int); omega) ?_
            have t618 : mTy (mu A613 38 p0.toNat xs.toNat x617) := hT_n615.mu (by show 0 ≤ x617 ∧ x617 ≤ 16; omega)
            have q619 := hF_n615.mu (f := 38) (k := p0.toNat) (j := xs.toNat) (z := x617) (by simp [pm])
            have Q620 : pQ p0.toNat (A 0 0 28) (A 0 0 29) (A 0 0 30) A (mu A613 38 p0.toNat xs.toNat x617) := pQ.mu (A2 := A613) Q616 (by omega) (by omega) (by omega)
            have G621 : nG p0.toNat (mu A613 38 p0.toNat xs.toNat x617) := hG_n615
            refine m_blk 252 [(3, vi 4), (2, vi xs), (1, vi p0), (0, vr 0 0)] [vi 3, vi 4] C f_q_step_250_2 rfl ?_
            refine m_icmp_ne (tgt := 259) C e_q_step_252 (by decide) (by decide) (by decide) (fun c622 => ?_) (fun c622 => (by omega : False).elim)
            refine m_blk 260 [(3, vi 4), (2, vi xs), (1, vi p0), (0, vr 0 0)] [vr 0 0] C f_q_step_259_1 rfl ?_
            refine m_getr C e_q_step_260 fg_Mo_30 rfl (by decide) rfl ?_
            refine m_blk 264 [(3, vi 4), (2, vi xs), (1, vi p0), (0, vr 0 0)] [vi p0, vr 17 0] C f_q_step_263_1 rfl ?_
            refine m_aald C p0.toNat e_q_step_264 rfl rfl rfl (by decide) (by decide) (by omega) (by show p0 < ((6 : Nat) : Int); omega) (mz _ _) ?_
            refine m_blk 267 [(3, vi 4), (2, vi xs), (1, vi p0), (0, vr 0 0)] [vr 0 0, vi xs, vr 37 p0.toNat] C f_q_step_265_2 rfl ?_
            refine m_geti C e_q_step_267 fg_Mo_192 rfl (by decide) rfl x617 hx617 ?_
            refine m_iast C e_q_step_270 rfl (by omega) (by decide) (by omega) (by show xs < ((16 : Nat) : Int); omega) ?_
            have t623 : mTy (mu (mu A613 38 p0.toNat xs.toNat x617) 37 p0.toNat xs.toNat x617) := t618.mu (by show 0 ≤ x617 ∧ x617 ≤ 16; omega)
            have q624 := q619.mu (f := 37) (k := p0.toNat) (j := xs.toNat) (z := x617) (by simp [pm])
            have Q625 : pQ p0.toNat (A 0 0 28) (A 0 0 29) (A 0 0 30) A (mu (mu A613 38 p0.toNat xs.toNat x617) 37 p0.toNat xs.toNat x617) := pQ.mu (A2 := (mu A613 38 p0.toNat xs.toNat x617)) Q620 (by omega) (by omega) (by omega)
            have G626 : nG p0.toNat (mu (mu A613 38 p0.toNat xs.toNat x617) 37 p0.toNat xs.toNat x617) := G621
            exact m_vret C Rm E e_q_step_271 ⟨rfl, t623, q624, (by show A613 0 0 24 ≤ A613 0 0 23 ∧ A613 0 0 23 ≤ A613 0 0 22; omega), pt_n615, (fun h9 => absurd ((g_n615 : A613 0 0 31 = 1).symm.trans h9) (by decide)), (by show A 0 0 24 ≤ A613 0 0 24 ∧ A 0 0 28 ≤ A613 0 0 28 ∧ A 0 0 29 ≤ A613 0 0 29 ∧ A 0 0 30 ≤ A613 0 0 30 ∧ A613 0 0 27 = A 0 0 27; omega), G626, Q625⟩
        · have bt9 : A 0 0 24 < A 0 0 23 := pT_lt hn g0 (by omega)
          refine m_blk 104 [(3, vi 5), (2, vi xs), (1, vi p0), (0, vr 0 0)] [vr 0 0] C f_q_step_103_1 rfl ?_
          refine m_callV C Rm Y [] [] (q_next l D B H0 ad _ hS t31 (by show A 0 0 23 ≤ A 0 0 22; omega)) cl_Mo_176 rfl (by decide) rfl rfl e_q_step_104 rfl rfl rfl ⟨by show _ ≤ (32 + 4 * d : Nat); omega, by show _ ≤ (630 + 300 * d : Nat); omega⟩ ?_
          rintro v627 A628 ⟨rfl, hT_n630, hE_n630, raw_hw_n630, raw_hb_n630⟩
          have hF_n630 := q32.trans (hE_n630.sub (nm_pm _))
          show JM g D ad w0 A628 107 [(3, vi 5), (2, vi xs), (1, vi p0), (0, vr 0 0)] []
          obtain ⟨b1_n630, b2_n630, b3_n630, pt_n630⟩ : A 0 0 23 ≤ A628 0 0 24 ∧ A628 0 0 24 ≤ A628 0 0 23 ∧ A628 0 0 23 ≤ A628 0 0 22 ∧ pT A628 := raw_hb_n630 g0
          clear raw_hb_n630 raw_hw_n630
          have k0_n630 : A628 0 0 0 = A 0 0 0 := hE_n630 0 0 0 rfl
          have k22_n630 : A628 0 0 22 = A 0 0 22 := hE_n630 0 0 22 rfl
          have k27_n630 : A628 0 0 27 = A 0 0 27 := hE_n630 0 0 27 rfl
          have k28_n630 : A628 0 0 28 = (xs + 1) := hE_n630 0 0 28 rfl
          have k29_n630 : A628 0 0 29 = A 0 0 29 := hE_n630 0 0 29 rfl
          have k30_n630 : A628 0 0 30 = A 0 0 30 := hE_n630 0 0 30 rfl
          have G631 : nG p0.toNat A628 := nG.nm (A := (mu (mu (mu (mu (mu (mu A 0 0 28 (xs + 1)) 34 p0.toNat xs.toNat 5) 35 p0.toNat xs.toNat (-1)) 36 p0.toNat xs.toNat (-1)) 39 p0.toNat xs.toNat (-1)) 40 p0.toNat xs.toNat x30)) G34 hE_n630
          have Q632 : pQ p0.toNat (A 0 0 28) (A 0 0 29) (A 0 0 30) A A628 := pQ.fam (A2 := (mu (mu (mu (mu (mu (mu A 0 0 28 (xs + 1)) 34 p0.toNat xs.toNat 5) 35 p0.toNat xs.toNat (-1)) 36 p0.toNat xs.toNat (-1)) 39 p0.toNat xs.toNat (-1)) 40 p0.toNat xs.toNat x30)) Q33 (fam_nm _ hE_n630)
          have r34_n630 : A628 34 p0.toNat xs.toNat = 5 := Eq.trans (hE_n630 34 p0.toNat xs.toNat rfl) (mu_at (mu A 0 0 28 (xs + 1)) 34 p0.toNat xs.toNat 5)
          have r35_n630 : A628 35 p0.toNat xs.toNat = (-1) := Eq.trans (hE_n630 35 p0.toNat xs.toNat rfl) (mu_at (mu (mu A 0 0 28 (xs + 1)) 34 p0.toNat xs.toNat 5) 35 p0.toNat xs.toNat (-1))
          have r36_n630 : A628 36 p0.toNat xs.toNat = (-1) := Eq.trans (hE_n630 36 p0.toNat xs.toNat rfl) (mu_at (mu (mu (mu A 0 0 28 (xs + 1)) 34 p0.toNat xs.toNat 5) 35 p0.toNat xs.toNat (-1)) 36 p0.toNat xs.toNat (-1))
          have r39_n630 : A628 39 p0.toNat xs.toNat = (-1) := Eq.trans (hE_n630 39 p0.toNat xs.toNat rfl) (mu_at (mu (mu (mu (mu A 0 0 28 (xs + 1)) 34 p0.toNat xs.toNat 5) 35 p0.toNat xs.toNat (-1)) 36 p0.toNat xs.toNat (-1)) 39 p0.toNat xs.toNat (-1))
          have r40_n630 : A628 40 p0.toNat xs.toNat = x30 := Eq.trans (hE_n630 40 p0.toNat xs.toNat rfl) (mu_at (mu (mu (mu (mu (mu A 0 0 28 (xs + 1)) 34 p0.toNat xs.toNat 5) 35 p0.toNat xs.toNat (-1)) 36 p0.toNat xs.toNat (-1)) 39 p0.toNat xs.toNat (-1)) 40 p0.toNat xs.toNat x30)
          rcases (show A628 0 0 31 = 0 ∨ A628 0 0 31 = 1 from by have w9 := hT_n630 0 0 31; have w8 : 0 ≤ A628 0 0 31 ∧ A628 0 0 31 ≤ 1 := w9; omega) with g_n630 | g_n630
          · refine m_blk 108 [(3, vi 5), (2, vi xs), (1, vi p0), (0, vr 0 0)] [vi 5] C f_q_step_107_1 rfl ?_
            refine m_if_eq (tgt := 121) C e_q_step_108 (by decide) (by decide) (fun c633 => (by omega : False).elim) (fun c633 => ?_)
            refine m_blk 113 [(3, vi 5), (2, vi xs), (1, vi p0), (0, vr 0 0)] [vi 1, vi 5] C f_q_step_111_2 rfl ?_
            refine m_icmp_eq (tgt := 121) C e_q_step_113 (by decide) (by decide) (by decide) (fun c634 => (by omega : False).elim) (fun c634 => ?_)
            refine m_blk 118 [(3, vi 5), (2, vi xs), (1, vi p0), (0, vr 0 0)] [vi 5, vi 5] C f_q_step_116_2 rfl ?_
            refine m_icmp_ne (tgt := 136) C e_q_step_118 (by decide) (by decide) (by decide) (fun c635 => (by omega : False).elim) (fun c635 => ?_)
            refine m_blk 122 [(3, vi 5), (2, vi xs), (1, vi p0), (0, vr 0 0)] [vr 0 0] C f_q_step_121_1 rfl ?_
            refine m_getr C e_q_step_122 fg_Mo_24 rfl (by decide) rfl ?_
            refine m_blk 126 [(3, vi 5), (2, vi xs), (1, vi p0), (0, vr 0 0)] [vi p0, vr 15 0] C f_q_step_125_1 rfl ?_
            refine m_aald C p0.toNat e_q_step_126 rfl rfl rfl (by decide) (by decide) (by omega) (by show p0 < ((6 : Nat) : Int); omega) (mz _ _) ?_
            refine m_blk 132 [(3, vi 5), (2, vi xs), (1, vi p0), (0, vr 0 0)] [vi 5, vi 0, vi 1, vr 0 0, vi xs, vr 35 p0.toNat] C f_q_step_127_5 rfl ?_
            refine m_callV C Rm Y [vi 1, vi 0, vi 5] [vi xs, vr 35 p0.toNat] (q_takes l D B H0 ad _ hS hT_n630 1 0 5 (by show 1 ≤ 1 ∧ 1 ≤ 4; omega) (by show 0 ≤ 0 ∧ 0 ≤ 2147483647 ∧ -1 ≤ 5 ∧ 5 ≤ 2147483647; omega) (by show A628 0 0 24 ≤ A628 0 0 23 ∧ A628 0 0 23 ≤ A628 0 0 22; omega) pt_n630) cl_Mo_198 rfl (by decide) rfl rfl e_q_step_132 rfl rfl rfl ⟨by show _ ≤ (32 + 4 * d : Nat); omega, by show _ ≤ (630 + 300 * d : Nat); omega⟩ ?_
            rintro v636 A637 ⟨z640, rfl, hT_n639, hE_n639, raw_hz_n639, raw_hb_n639, raw_hn_n639, raw_hw_n639, raw_hm_n639⟩
            have hF_n639 := hF_n630.trans (hE_n639.sub (nm_pm _))
            show JM g D ad w0 A637 135 [(3, vi 5), (2, vi xs), (1, vi p0), (0, vr 0 0)] [vi z640, vi xs, vr 35 p0.toNat]
            have hb_n639 : A637 0 0 24 ≤ A637 0 0 23 ∧ A637 0 0 23 ≤ A637 0 0 22 := raw_hb_n639
            clear raw_hb_n639
            have hm_n639 : A628 0 0 24 ≤ A637 0 0 24 := raw_hm_n639
            clear raw_hm_n639
            have hz_n639 : z640 = 0 ∨ 0 ≤ z640 ∧ z640 ≤ 5 := raw_hz_n639
            clear raw_hz_n639
            have pt_n639 : pT A637 := raw_hn_n639
            clear raw_hn_n639
            have k0_n639 : A637 0 0 0 = A628 0 0 0 := hE_n639 0 0 0 rfl
            have k22_n639 : A637 0 0 22 = A628 0 0 22 := hE_n639 0 0 22 rfl
            have k27_n639 : A637 0 0 27 = A628 0 0 27 := hE_n639 0 0 27 rfl
            have k28_n639 : A637 0 0 28 = A628 0 0 28 := hE_n639 0 0 28 rfl
            have k29_n639 : A637 0 0 29 = A628 0 0 29 := hE_n639 0 0 29 rfl
            have k30_n639 : A637 0 0 30 = A628 0 0 30 := hE_n639 0 0 30 rfl
            have G641 : nG p0.toNat A637 := nG.nm (A := A628) G631 hE_n639
            have Q642 : pQ p0.toNat (A 0 0 28) (A 0 0 29) (A 0 0 30) A A637 := pQ.fam (A2 := A628) Q632 (fam_nm _ hE_n639)
            have r34_n639 : A637 34 p0.toNat xs.toNat = 5 := Eq.trans (hE_n639 34 p0.toNat xs.toNat rfl) r34_n630
            have r35_n639 : A637 35 p0.toNat xs.toNat = (-1) := Eq.trans (hE_n639 35 p0.toNat xs.toNat rfl) r35_n630
            have r36_n639 : A637 36 p0.toNat xs.toNat = (-1) := Eq.trans (hE_n639 36 p0.toNat xs.toNat rfl) r36_n630
            have r39_n639 : A637 39 p0.toNat xs.toNat = (-1) := Eq.trans (hE_n639 39 p0.toNat xs.toNat rfl) r39_n630
            have r40_n639 : A637 40 p0.toNat xs.toNat = x30 := Eq.trans (hE_n639 40 p0.toNat xs.toNat rfl) r40_n630
            rcases (show A637 0 0 31 = 0 ∨ A637 0 0 31 = 1 from by have w9 := hT_n639 0 0 31; have w8 : 0 ≤ A637 0 0 31 ∧ A637 0 0 31 ≤ 1 := w9; omega) with g_n639 | g_n639
            · have u_n639 : A628 0 0 31 = 0 ∧ A628 0 0 24 < A637 0 0 24 ∧ 0 ≤ z640 ∧ z640 ≤ 5 := raw_hw_n639 g_n639
              clear raw_hw_n639
              refine m_iast C e_q_step_135 rfl (by omega) (by decide) (by omega) (by show xs < ((16 : Nat) : Int); omega) ?_
              have t643 : mTy (mu A637 35 p0.toNat xs.toNat z640) := hT_n639.mu (by show (-1) ≤ z640 ∧ z640 ≤ 5; omega)
              have q644 := hF_n639.mu (f := 35) (k := p0.toNat) (j := xs.toNat) (z := z640) (by simp [pm])
              have Q645 : pQ p0.toNat (A 0 0 28) (A 0 0 29) (A 0 0 30) A (mu A637 35 p0.toNat xs.toNat z640) := pQ.mu (A2 := A637) Q642 (by omega) (by omega) (by omega)
              have G646 : nG p0.toNat (mu A637 35 p0.toNat xs.toNat z640) := G641
              refine m_blk 137 [(3, vi 5), (2, vi xs), (1, vi p0), (0, vr 0 0)] [vi 5] C f_q_step_136_1 rfl ?_
              refine m_if_ne (tgt := 146) C e_q_step_137 (by decide) (by decide) (fun c647 => ?_) (fun c647 => (by omega : False).elim)
              refine m_blk 148 [(3, vi 5), (2, vi xs), (1, vi p0), (0, vr 0 0)] [vi 4, vi 5] C f_q_step_146_2 rfl ?_
              refine m_icmp_ne (tgt := 167) C e_q_step_148 (by decide) (by decide) (by decide) (fun c648 => ?_) (fun c648 => (by omega : False).elim)
              refine m_blk 169 [(3, vi 5), (2, vi xs), (1, vi p0), (0, vr 0 0)] [vi 5, vi 5] C f_q_step_167_2 rfl ?_
              refine m_icmp_ne (tgt := 192) C e_q_step_169 (by decide) (by decide) (by decide) (fun c649 => (by omega : False).elim) (fun c649 => ?_)
              refine m_blk 173 [(3, vi 5), (2, vi xs), (1, vi p0), (0, vr 0 0)] [vr 0 0] C f_q_step_172_1 rfl ?_
              refine m_getr C e_q_step_173 fg_Mo_27 rfl (by decide) rfl ?_
              refine m_blk 177 [(3, vi 5), (2, vi xs), (1, vi p0), (0, vr 0 0)] [vi p0, vr 16 0] C f_q_step_176_1 rfl ?_
              refine m_aald C p0.toNat e_q_step_177 rfl rfl rfl (by decide) (by decide) (by omega) (by show p0 < ((6 : Nat) : Int); omega) (mz _ _) ?_
              refine m_blk 183 [(3, vi 5), (2, vi xs), (1, vi p0), (0, vr 0 0)] [vr 0 0, vi 0, vi 3, vr 0 0, vi xs, vr 36 p0.toNat] C f_q_step_178_5 rfl ?_
              obtain ⟨x650, hx650⟩ : ∃ x, A637 0 0 0 = x := ⟨_, rfl⟩
              have rx650 : 0 ≤ x650 ∧ x650 ≤ 6 := mrg hT_n639 hx650 rfl
              refine m_geti C e_q_step_183 fg_Mo_105 rfl (by decide) rfl x650 hx650 ?_
              refine m_blk 188 [(3, vi 5), (2, vi xs), (1, vi p0), (0, vr 0 0)] [vi (x650 - 1), vi 0, vi 3, vr 0 0, vi xs, vr 36 p0.toNat] C f_q_step_186_2 rfl ?_
              refine m_callV C Rm Y [vi 3, vi 0, vi (x650 - 1)] [vi xs, vr 36 p0.toNat] (q_takes l D B H0 ad _ hS t643 3 0 (x650 - 1) (by show 1 ≤ 3 ∧ 3 ≤ 4; omega) (by show 0 ≤ 0 ∧ 0 ≤ 2147483647 ∧ -1 ≤ (x650 - 1) ∧ (x650 - 1) ≤ 2147483647; omega) (by show A637 0 0 24 ≤ A637 0 0 23 ∧ A637 0 0 23 ≤ A637 0 0 22; omega) pt_n639) cl_Mo_198 rfl (by decide) rfl rfl e_q_step_188 rfl rfl rfl ⟨by show _ ≤ (32 + 4 * d : Nat); omega, by show _ ≤ (630 + 300 * d : Nat); omega⟩ ?_
              rintro v651 A652 ⟨z655, rfl, hT_n654, hE_n654, raw_hz_n654, raw_hb_n654, raw_hn_n654, raw_hw_n654, raw_hm_n654⟩
              have hF_n654 := q644.trans (hE_n654.sub (nm_pm _))
              show JM g D ad w0 A652 191 [(3, vi 5), (2, vi xs), (1, vi p0), (0, vr 0 0)] [vi z655, vi xs, vr 36 p0.toNat]
              have hb_n654 : A652 0 0 24 ≤ A652 0 0 23 ∧ A652 0 0 23 ≤ A652 0 0 22 := raw_hb_n654
              clear raw_hb_n654
              have hm_n654 : A637 0 0 24 ≤ A652 0 0 24 := raw_hm_n654
              clear raw_hm_n654
              have hz_n654 : z655 = 0 ∨ 0 ≤ z655 ∧ z655 ≤ (x650 - 1) := raw_hz_n654
              clear raw_hz_n654
              have pt_n654 : pT A652 := raw_hn_n654
              clear raw_hn_n654
              have k0_n654 : A652 0 0 0 = A637 0 0 0 := hE_n654 0 0 0 rfl
              have k22_n654 : A652 0 0 22 = A637 0 0 22 := hE_n654 0 0 22 rfl
              have k27_n654 : A652 0 0 27 = A637 0 0 27 := hE_n654 0 0 27 rfl
              have k28_n654 : A652 0 0 28 = A637 0 0 28 := hE_n654 0 0 28 rfl
              have k29_n654 : A652 0 0 29 = A637 0 0 29 := hE_n654 0 0 29 rfl
              have k30_n654 : A652 0 0 30 = A637 0 0 30 := hE_n654 0 0 30 rfl
              have G656 : nG p0.toNat A652 := nG.nm (A := (mu A637 35 p0.toNat xs.toNat z640)) G646 hE_n654
              have Q657 : pQ p0.toNat (A 0 0 28) (A 0 0 29) (A 0 0 30) A A652 := pQ.fam (A2 := (mu A637 35 p0.toNat xs.toNat z640)) Q645 (fam_nm _ hE_n654)
              have r34_n654 : A652 34 p0.toNat xs.toNat = 5 := Eq.trans (hE_n654 34 p0.toNat xs.toNat rfl) r34_n639
              have r35_n654 : A652 35 p0.toNat xs.toNat = z640 := Eq.trans (hE_n654 35 p0.toNat xs.toNat rfl) (mu_at A637 35 p0.toNat xs.toNat z640)
              have r36_n654 : A652 36 p0.toNat xs.toNat = (-1) := Eq.trans (hE_n654 36 p0.toNat xs.toNat rfl) r36_n639
              have r39_n654 : A652 39 p0.toNat xs.toNat = (-1) := Eq.trans (hE_n654 39 p0.toNat xs.toNat rfl) r39_n639
              have r40_n654 : A652 40 p0.toNat xs.toNat = x30 := Eq.trans (hE_n654 40 p0.toNat xs.toNat rfl) r40_n639
              rcases (show A652 0 0 31 = 0 ∨ A652 0 0 31 = 1 from by have w9 := hT_n654 0 0 31; have w8 : 0 ≤ A652 0 0 31 ∧ A652 0 0 31 ≤ 1 := w9; omega) with g_n654 | g_n654
              · have u_n654 : A637 0 0 31 = 0 ∧ A637 0 0 24 < A652 0 0 24 ∧ 0 ≤ z655 ∧ z655 ≤ (x650 - 1) := raw_hw_n654 g_n654
                clear raw_hw_n654
                refine m_iast C e_q_step_191 rfl (by omega) (by decide) (by omega) (by show xs < ((16 : Nat) : Int); omega) ?_
                have t658 : mTy (mu A652 36 p0.toNat xs.toNat z655) := hT_n654.mu (by show (-1) ≤ z655 ∧ z655 ≤ 9; omega)
                have q659 := hF_n654.mu (f := 36) (k := p0.toNat) (j := xs.toNat) (z := z655) (by simp [pm])
                have Q660 : pQ p0.toNat (A 0 0 28) (A 0 0 29) (A 0 0 30) A (mu A652 36 p0.toNat xs.toNat z655) := pQ.mu (A2 := A652) Q657 (by omega) (by omega) (by omega)
                have G661 : nG p0.toNat (mu A652 36 p0.toNat xs.toNat z655) := G656
                refine m_blk 194 [(3, vi 5), (2, vi xs), (1, vi p0), (0, vr 0 0)] [vi 1, vi 5] C f_q_step_192_2 rfl ?_
                refine m_icmp_eq (tgt := 212) C e_q_step_194 (by decide) (by decide) (by decide) (fun c662 => (by omega : False).elim) (fun c662 => ?_)
                refine m_blk 199 [(3, vi 5), (2, vi xs), (1, vi p0), (0, vr 0 0)] [vi 2, vi 5] C f_q_step_197_2 rfl ?_
                refine m_icmp_eq (tgt := 212) C e_q_step_199 (by decide) (by decide) (by decide) (fun c663 => (by omega : False).elim) (fun c663 => ?_)
                refine m_blk 204 [(3, vi 5), (2, vi xs), (1, vi p0), (0, vr 0 0)] [vi 3, vi 5] C f_q_step_202_2 rfl ?_
                refine m_icmp_eq (tgt := 212) C e_q_step_204 (by decide) (by decide) (by decide) (fun c664 => (by omega : False).elim) (fun c664 => ?_)
                refine m_blk 209 [(3, vi 5), (2, vi xs), (1, vi p0), (0, vr 0 0)] [vi 5, vi 5] C f_q_step_207_2 rfl ?_
                refine m_icmp_ne (tgt := 224) C e_q_step_209 (by decide) (by decide) (by decide) (fun c665 => (by omega : False).elim) (fun c665 => ?_)
                refine m_blk 213 [(3, vi 5), (2, vi xs), (1, vi p0), (0, vr 0 0)] [vr 0 0] C f_q_step_212_1 rfl ?_
                refine m_getr C e_q_step_213 fg_Mo_36 rfl (by decide) rfl ?_
                refine m_blk 217 [(3, vi 5), (2, vi xs), (1, vi p0), (0, vr 0 0)] [vi p0, vr 19 0] C f_q_step_216_1 rfl ?_
                refine m_aald C p0.toNat e_q_step_217 rfl rfl rfl (by decide) (by decide) (by omega) (by show p0 < ((6 : Nat) : Int); omega) (mz _ _) ?_
                refine m_blk 220 [(3, vi 5), (2, vi xs), (1, vi p0), (0, vr 0 0)] [vr 0 0, vi xs, vr 39 p0.toNat] C f_q_step_218_2 rfl ?_
                refine m_callV C Rm Y [] [vi xs, vr 39 p0.toNat] ((q_E d).2 l D B H0 ad _ hS t658 p0 (by show A652 0 0 0 = p0 ∧ 0 ≤ p0 ∧ p0 ≤ 5; omega) (by show A652 0 0 24 ≤ A652 0 0 23 ∧ A652 0 0 23 ≤ A652 0 0 22; omega) pt_n654 (fun _ => by show A652 0 0 30 + 3 * A652 0 0 29 ≤ A652 0 0 24; omega) G661 (by show A652 0 0 27 = 4 - (d : Int) ∧ (d : Int) ≤ 4; omega)) cl_Mo_206 rfl (by decide) rfl rfl e_q_step_220 rfl rfl rfl ⟨by show _ ≤ (32 + 4 * d : Nat); omega, by show _ ≤ (630 + 300 * d : Nat); omega⟩ ?_
                rintro v666 A667 ⟨z670, rfl, hT_n669, hE_n669, raw_hz_n669, raw_hb_n669, raw_hn_n669, raw_hw_n669, raw_hm_n669, raw_hG_n669, raw_hK_n669⟩
                have hF_n669 := q659.trans (hE_n669.sub (em_pm _))
                show JM g D ad w0 A667 223 [(3, vi 5), (2, vi xs), (1, vi p0), (0, vr 0 0)] [vi z670, vi xs, vr 39 p0.toNat]
                have hz_n669 : 0 ≤ z670 ∧ z670 ≤ 119 := raw_hz_n669
                clear raw_hz_n669
                have hb_n669 : A667 0 0 24 ≤ A667 0 0 23 ∧ A667 0 0 23 ≤ A667 0 0 22 := raw_hb_n669
                clear raw_hb_n669
                have hm_n669 : A652 0 0 24 ≤ A667 0 0 24 ∧ A652 0 0 30 ≤ A667 0 0 30 ∧ A667 0 0 27 = A652 0 0 27 := raw_hm_n669
                clear raw_hm_n669
                have pt_n669 : pT A667 := raw_hn_n669
                have k0_n669 : A667 0 0 0 = A652 0 0 0 := hE_n669 0 0 0 rfl
                have k22_n669 : A667 0 0 22 = A652 0 0 22 := hE_n669 0 0 22 rfl
                have k28_n669 : A667 0 0 28 = A652 0 0 28 := hE_n669 0 0 28 rfl
                have k29_n669 : A667 0 0 29 = A652 0 0 29 := hE_n669 0 0 29 rfl
                have hG_n669 : nG p0.toNat A667 := raw_hG_n669
                have hK_n669 : nK p0.toNat (mu A652 36 p0.toNat xs.toNat z655) A667 := raw_hK_n669
                have Q671 : pQ p0.toNat (A 0 0 28) (A 0 0 29) (A 0 0 30) A A667 := pQ.emk (A2 := (mu A652 36 p0.toNat xs.toNat z655)) Q660 hE_n669 hK_n669 (by show A 0 0 30 ≤ A652 0 0 30; omega)
                have r34_n669 : A667 34 p0.toNat xs.toNat = 5 := Eq.trans (hE_n669 34 p0.toNat xs.toNat rfl) r34_n654
                have r35_n669 : A667 35 p0.toNat xs.toNat = z640 := Eq.trans (hE_n669 35 p0.toNat xs.toNat rfl) r35_n654
                have r36_n669 : A667 36 p0.toNat xs.toNat = z655 := Eq.trans (hE_n669 36 p0.toNat xs.toNat rfl) (mu_at A652 36 p0.toNat xs.toNat z655)
                have r39_n669 : A667 39 p0.toNat xs.toNat = (-1) := Eq.trans (hE_n669 39 p0.toNat xs.toNat rfl) r39_n654
                have r40_n669 : A667 40 p0.toNat xs.toNat = x30 := Eq.trans (hE_n669 40 p0.toNat xs.toNat rfl) r40_n654
                rcases (show A667 0 0 31 = 0 ∨ A667 0 0 31 = 1 from by have w9 := hT_n669 0 0 31; have w8 : 0 ≤ A667 0 0 31 ∧ A667 0 0 31 ≤ 1 := w9; omega) with g_n669 | g_n669
                · have u_n669 : z670 < A667 0 0 30 ∧ A652 0 0 24 - A652 0 0 30 ≤ A667 0 0 24 - A667 0 0 30 := (raw_hw_n669 g_n669).2
                  refine m_iast C e_q_step_223 rfl (by omega) (by decide) (by omega) (by show xs < ((16 : Nat) : Int); omega) ?_
                  have t672 : mTy (mu A667 39 p0.toNat xs.toNat z670) := hT_n669.mu (by show (-1) ≤ z670 ∧ z670 ≤ 119; omega)
                  have q673 := hF_n669.mu (f := 39) (k := p0.toNat) (j := xs.toNat) (z := z670) (by simp [pm])
                  have Q674 : pQ p0.toNat (A 0 0 28) (A 0 0 29) (A 0 0 30) A (mu A667 39 p0.toNat xs.toNat z670) := pQ.mu (A2 := A667) Q671 (by omega) (by omega) (by omega)
                  have G675 : nG p0.toNat (mu A667 39 p0.toNat xs.toNat z670) := hG_n669
                  refine m_blk 226 [(3, vi 5), (2, vi xs), (1, vi p0), (0, vr 0 0)] [vi 3, vi 5] C f_q_step_224_2 rfl ?_
                  refine m_icmp_eq (tgt := 234) C e_q_step_226 (by decide) (by decide) (by decide) (fun c676 => (by omega : False).elim) (fun c676 => ?_)
                  refine m_blk 231 [(3, vi 5), (2, vi xs), (1, vi p0), (0, vr 0 0)] [vi 4, vi 5] C f_q_step_229_2 rfl ?_
                  refine m_icmp_ne (tgt := 238) C e_q_step_231 (by decide) (by decide) (by decide) (fun c677 => ?_) (fun c677 => (by omega : False).elim)
                  refine m_blk 239 [(3, vi 5), (2, vi xs), (1, vi p0), (0, vr 0 0)] [vr 0 0] C f_q_step_238_1 rfl ?_
                  refine m_getr C e_q_step_239 fg_Mo_33 rfl (by decide) rfl ?_
                  refine m_blk 243 [(3, vi 5), (2, vi xs), (1, vi p0), (0, vr 0 0)] [vi p0, vr 18 0] C f_q_step_242_1 rfl ?_
                  refine m_aald C p0.toNat e_q_step_243 rfl rfl rfl (by decide) (by decide) (by omega) (by show p0 < ((6 : Nat) : Int); omega) (mz _ _) ?_
                  refine m_blk 246 [(3, vi 5), (2, vi xs), (1, vi p0), (0, vr 0 0)] [vr 0 0, vi xs, vr 38 p0.toNat] C f_q_step_244_2 rfl ?_
                  obtain ⟨x678, hx678⟩ : ∃ x, A667 0 0 28 = x := ⟨_, rfl⟩
                  have rx678 : 0 ≤ x678 ∧ x678 ≤ 16 := mrg hT_n669 hx678 rfl
                  refine m_geti C e_q_step_246 fg_Mo_192 rfl (by decide) rfl x678 hx678 ?_
                  refine m_iast C e_q_step_249 rfl (by omega) (by decide) (by omega) (by show xs < ((16 : Nat) : Int); omega) ?_
                  have t679 : mTy (mu (mu A667 39 p0.toNat xs.toNat z670) 38 p0.toNat xs.toNat x678) := t672.mu (by show 0 ≤ x678 ∧ x678 ≤ 16; omega)
                  have q680 := q673.mu (f := 38) (k := p0.toNat) (j := xs.toNat) (z := x678) (by simp [pm])
                  have Q681 : pQ p0.toNat (A 0 0 28) (A 0 0 29) (A 0 0 30) A (mu (mu A667 39 p0.toNat xs.toNat z670) 38 p0.toNat xs.toNat x678) := pQ.mu (A2 := (mu A667 39 p0.toNat xs.toNat z670)) Q674 (by omega) (by omega) (by omega)
                  have G682 : nG p0.toNat (mu (mu A667 39 p0.toNat xs.toNat z670) 38 p0.toNat xs.toNat x678) := G675
                  refine m_blk 252 [(3, vi 5), (2, vi xs), (1, vi p0), (0, vr 0 0)] [vi 3, vi 5] C f_q_step_250_2 rfl ?_
                  refine m_icmp_ne (tgt := 259) C e_q_step_252 (by decide) (by decide) (by decide) (fun c683 => ?_) (fun c683 => (by omega : False).elim)
                  refine m_blk 260 [(3, vi 5), (2, vi xs), (1, vi p0), (0, vr 0 0)] [vr 0 0] C f_q_step_259_1 rfl ?_
                  refine m_getr C e_q_step_260 fg_Mo_30 rfl (by decide) rfl ?_
                  refine m_blk 264 [(3, vi 5), (2, vi xs), (1, vi p0), (0, vr 0 0)] [vi p0, vr 17 0] C f_q_step_263_1 rfl ?_
                  refine m_aald C p0.toNat e_q_step_264 rfl rfl rfl (by decide) (by decide) (by omega) (by show p0 < ((6 : Nat) : Int); omega) (mz _ _) ?_
                  refine m_blk 267 [(3, vi 5), (2, vi xs), (1, vi p0), (0, vr 0 0)] [vr 0 0, vi xs, vr 37 p0.toNat] C f_q_step_265_2 rfl ?_
                  refine m_geti C e_q_step_267 fg_Mo_192 rfl (by decide) rfl x678 hx678 ?_
                  refine m_iast C e_q_step_270 rfl (by omega) (by decide) (by omega) (by show xs < ((16 : Nat) : Int); omega) ?_
                  have t684 : mTy (mu (mu (mu A667 39 p0.toNat xs.toNat z670) 38 p0.toNat xs.toNat x678) 37 p0.toNat xs.toNat x678) := t679.mu (by show 0 ≤ x678 ∧ x678 ≤ 16; omega)
                  have q685 := q680.mu (f := 37) (k := p0.toNat) (j := xs.toNat) (z := x678) (by simp [pm])
                  have Q686 : pQ p0.toNat (A 0 0 28) (A 0 0 29) (A 0 0 30) A (mu (mu (mu A667 39 p0.toNat xs.toNat z670) 38 p0.toNat xs.toNat x678) 37 p0.toNat xs.toNat x678) := pQ.mu (A2 := (mu (mu A667 39 p0.toNat xs.toNat z670) 38 p0.toNat xs.toNat x678)) Q681 (by omega) (by omega) (by omega)
                  have G687 : nG p0.toNat (mu (mu (mu A667 39 p0.toNat xs.toNat z670) 38 p0.toNat xs.toNat x678) 37 p0.toNat xs.toNat x678) := G682
                  exact m_vret C Rm E e_q_step_271 ⟨rfl, t684, q685, (by show A667 0 0 24 ≤ A667 0 0 23 ∧ A667 0 0 23 ≤ A667 0 0 22; omega), pt_n669, (pV.one' (i := xs.toNat) g0 (by show A 0 0 24 - A 0 0 30 - 3 * A 0 0 29 ≤ A667 0 0 24 - A667 0 0 30 - 3 * A667 0 0 29; omega) (by omega) (by show A667 0 0 28 = A 0 0 28 + 1; omega) (sG.mk r34_n669 r35_n669 r36_n669 (mu_at (mu (mu A667 39 p0.toNat xs.toNat z670) 38 p0.toNat xs.toNat x678) 37 p0.toNat xs.toNat x678) (mu_at (mu A667 39 p0.toNat xs.toNat z670) 38 p0.toNat xs.toNat x678) (mu_at A667 39 p0.toNat xs.toNat z670) r40_n669 (by decide) (by show _ ∧ _ ∧ _ ≤ A667 0 0 28; omega) (by show _ ∧ _ < A667 0 0 30; omega) (by omega) (by omega) (by omega) (by decide) (fun h9 => absurd h9 (by decide)) (by show 0 ≤ (4 - (d : Int)) ∧ (4 - (d : Int)) ≤ 4; omega) (by decide))), (by show A 0 0 24 ≤ A667 0 0 24 ∧ A 0 0 28 ≤ A667 0 0 28 ∧ A 0 0 29 ≤ A667 0 0 29 ∧ A 0 0 30 ≤ A667 0 0 30 ∧ A667 0 0 27 = A 0 0 27; omega), G687, Q686⟩
                · refine m_iast C e_q_step_223 rfl (by omega) (by decide) (by omega) (by show xs < ((16 : Nat) : Int); omega) ?_
                  have t688 : mTy (mu A667 39 p0.toNat xs.toNat z670) := hT_n669.mu (by show (-1) ≤ z670 ∧ z670 ≤ 119; omega)
                  have q689 := hF_n669.mu (f := 39) (k := p0.toNat) (j := xs.toNat) (z := z670) (by simp [pm])
                  have Q690 : pQ p0.toNat (A 0 0 28) (A 0 0 29) (A 0 0 30) A (mu A667 39 p0.toNat xs.toNat z670) := pQ.mu (A2 := A667) Q671 (by omega) (by omega) (by omega)
                  have G691 : nG p0.toNat (mu A667 39 p0.toNat xs.toNat z670) := hG_n669
                  refine m_blk 226 [(3, vi 5), (2, vi xs), (1, vi p0), (0, vr 0 0)] [vi 3, vi 5] C f_q_step_224_2 rfl ?_
                  refine m_icmp_eq (tgt := 234) C e_q_step_226 (by decide) (by decide) (by decide) (fun c692 => (by omega : False).elim) (fun c692 => ?_)
                  refine m_blk 231 [(3, vi 5), (2, vi xs), (1, vi p0), (0, vr 0 0)] [vi 4, vi 5] C f_q_step_229_2 rfl ?_
                  refine m_icmp_ne (tgt := 238) C e_q_step_231 (by decide) (by decide) (by decide) (fun c693 => ?_) (fun c693 => (by omega : False).elim)
                  refine m_blk 239 [(3, vi 5), (2, vi xs), (1, vi p0), (0, vr 0 0)] [vr 0 0] C f_q_step_238_1 rfl ?_
                  refine m_getr C e_q_step_239 fg_Mo_33 rfl (by decide) rfl ?_
                  refine m_blk 243 [(3, vi 5), (2, vi xs), (1, vi p0), (0, vr 0 0)] [vi p0, vr 18 0] C f_q_step_242_1 rfl ?_
                  refine m_aald C p0.toNat e_q_step_243 rfl rfl rfl (by decide) (by decide) (by omega) (by show p0 < ((6 : Nat) : Int); omega) (mz _ _) ?_
                  refine m_blk 246 [(3, vi 5), (2, vi xs), (1, vi p0), (0, vr 0 0)] [vr 0 0, vi xs, vr 38 p0.toNat] C f_q_step_244_2 rfl ?_
                  obtain ⟨x694, hx694⟩ : ∃ x, A667 0 0 28 = x := ⟨_, rfl⟩
                  have rx694 : 0 ≤ x694 ∧ x694 ≤ 16 := mrg hT_n669 hx694 rfl
                  refine m_geti C e_q_step_246 fg_Mo_192 rfl (by decide) rfl x694 hx694 ?_
                  refine m_iast C e_q_step_249 rfl (by omega) (by decide) (by omega) (by show xs < ((16 : Nat) : Int); omega) ?_
                  have t695 : mTy (mu (mu A667 39 p0.toNat xs.toNat z670) 38 p0.toNat xs.toNat x694) := t688.mu (by show 0 ≤ x694 ∧ x694 ≤ 16; omega)
                  have q696 := q689.mu (f := 38) (k := p0.toNat) (j := xs.toNat) (z := x694) (by simp [pm])
                  have Q697 : pQ p0.toNat (A 0 0 28) (A 0 0 29) (A 0 0 30) A (mu (mu A667 39 p0.toNat xs.toNat z670) 38 p0.toNat xs.toNat x694) := pQ.mu (A2 := (mu A667 39 p0.toNat xs.toNat z670)) Q690 (by omega) (by omega) (by omega)
                  have G698 : nG p0.toNat (mu (mu A667 39 p0.toNat xs.toNat z670) 38 p0.toNat xs.toNat x694) := G691
                  refine m_blk 252 [(3, vi 5), (2, vi xs), (1, vi p0), (0, vr 0 0)] [vi 3, vi 5] C f_q_step_250_2 rfl ?_
                  refine m_icmp_ne (tgt := 259) C e_q_step_252 (by decide) (by decide) (by decide) (fun c699 => ?_) (fun c699 => (by omega : False).elim)
                  refine m_blk 260 [(3, vi 5), (2, vi xs), (1, vi p0), (0, vr 0 0)] [vr 0 0] C f_q_step_259_1 rfl ?_
                  refine m_getr C e_q_step_260 fg_Mo_30 rfl (by decide) rfl ?_
                  refine m_blk 264 [(3, vi 5), (2, vi xs), (1, vi p0), (0, vr 0 0)] [vi p0, vr 17 0] C f_q_step_263_1 rfl ?_
                  refine m_aald C p0.toNat e_q_step_264 rfl rfl rfl (by decide) (by decide) (by omega) (by show p0 < ((6 : Nat) : Int); omega) (mz _ _) ?_
                  refine m_blk 267 [(3, vi 5), (2, vi xs), (1, vi p0), (0, vr 0 0)] [vr 0 0, vi xs, vr 37 p0.toNat] C f_q_step_265_2 rfl ?_
                  refine m_geti C e_q_step_267 fg_Mo_192 rfl (by decide) rfl x694 hx694 ?_
                  refine m_iast C e_q_step_270 rfl (by omega) (by decide) (by omega) (by show xs < ((16 : Nat) : Int); omega) ?_
                  have t700 : mTy (mu (mu (mu A667 39 p0.toNat xs.toNat z670) 38 p0.toNat xs.toNat x694) 37 p0.toNat xs.toNat x694) := t695.mu (by show 0 ≤ x694 ∧ x694 ≤ 16; omega)
                  have q701 := q696.mu (f := 37) (k := p0.toNat) (j := xs.toNat) (z := x694) (by simp [pm])
                  have Q702 : pQ p0.toNat (A 0 0 28) (A 0 0 29) (A 0 0 30) A (mu (mu (mu A667 39 p0.toNat xs.toNat z670) 38 p0.toNat xs.toNat x694) 37 p0.toNat xs.toNat x694) := pQ.mu (A2 := (mu (mu A667 39 p0.toNat xs.toNat z670) 38 p0.toNat xs.toNat x694)) Q697 (by omega) (by omega) (by omega)
                  have G703 : nG p0.toNat (mu (mu (mu A667 39 p0.toNat xs.toNat z670) 38 p0.toNat xs.toNat x694) 37 p0.toNat xs.toNat x694) := G698
                  exact m_vret C Rm E e_q_step_271 ⟨rfl, t700, q701, (by show A667 0 0 24 ≤ A667 0 0 23 ∧ A667 0 0 23 ≤ A667 0 0 22; omega), pt_n669, (fun h9 => absurd ((g_n669 : A667 0 0 31 = 1).symm.trans h9) (by decide)), (by show A 0 0 24 ≤ A667 0 0 24 ∧ A 0 0 28 ≤ A667 0 0 28 ∧ A 0 0 29 ≤ A667 0 0 29 ∧ A 0 0 30 ≤ A667 0 0 30 ∧ A667 0 0 27 = A 0 0 27; omega), G703, Q702⟩
              · clear raw_hw_n654
                refine m_iast C e_q_step_191 rfl (by omega) (by decide) (by omega) (by show xs < ((16 : Nat) : Int); omega) ?_
                have t704 : mTy (mu A652 36 p0.toNat xs.toNat z655) := hT_n654.mu (by show (-1) ≤ z655 ∧ z655 ≤ 9; omega)
                have q705 := hF_n654.mu (f := 36) (k := p0.toNat) (j := xs.toNat) (z := z655) (by simp [pm])
                have Q706 : pQ p0.toNat (A 0 0 28) (A 0 0 29) (A 0 0 30) A (mu A652 36 p0.toNat xs.toNat z655) := pQ.mu (A2 := A652) Q657 (by omega) (by omega) (by omega)
                have G707 : nG p0.toNat (mu A652 36 p0.toNat xs.toNat z655) := G656
                refine m_blk 194 [(3, vi 5), (2, vi xs), (1, vi p0), (0, vr 0 0)] [vi 1, vi 5] C f_q_step_192_2 rfl ?_
                refine m_icmp_eq (tgt := 212) C e_q_step_194 (by decide) (by decide) (by decide) (fun c708 => (by omega : False).elim) (fun c708 => ?_)
                refine m_blk 199 [(3, vi 5), (2, vi xs), (1, vi p0), (0, vr 0 0)] [vi 2, vi 5] C f_q_step_197_2 rfl ?_
                refine m_icmp_eq (tgt := 212) C e_q_step_199 (by decide) (by decide) (by decide) (fun c709 => (by omega : False).elim) (fun c709 => ?_)
                refine m_blk 204 [(3, vi 5), (2, vi xs), (1, vi p0), (0, vr 0 0)] [vi 3, vi 5] C f_q_step_202_2 rfl ?_
                refine m_icmp_eq (tgt := 212) C e_q_step_204 (by decide) (by decide) (by decide) (fun c710 => (by omega : False).elim) (fun c710 => ?_)
                refine m_blk 209 [(3, vi 5), (2, vi xs), (1, vi p0), (0, vr 0 0)] [vi 5, vi 5] C f_q_step_207_2 rfl ?_
                refine m_icmp_ne (tgt := 224) C e_q_step_209 (by decide) (by decide) (by decide) (fun c711 => (by omega : False).elim) (fun c711 => ?_)
                refine m_blk 213 [(3, vi 5), (2, vi xs), (1, vi p0), (0, vr 0 0)] [vr 0 0] C f_q_step_212_1 rfl ?_
                refine m_getr C e_q_step_213 fg_Mo_36 rfl (by decide) rfl ?_
                refine m_blk 217 [(3, vi 5), (2, vi xs), (1, vi p0), (0, vr 0 0)] [vi p0, vr 19 0] C f_q_step_216_1 rfl ?_
                refine m_aald C p0.toNat e_q_step_217 rfl rfl rfl (by decide) (by decide) (by omega) (by show p0 < ((6 : Nat) : Int); omega) (mz _ _) ?_
                refine m_blk 220 [(3, vi 5), (2, vi xs), (1, vi p0), (0, vr 0 0)] [vr 0 0, vi xs, vr 39 p0.toNat] C f_q_step_218_2 rfl ?_
                refine m_callV C Rm Y [] [vi xs, vr 39 p0.toNat] ((q_E d).2 l D B H0 ad _ hS t704 p0 (by show A652 0 0 0 = p0 ∧ 0 ≤ p0 ∧ p0 ≤ 5; omega) (by show A652 0 0 24 ≤ A652 0 0 23 ∧ A652 0 0 23 ≤ A652 0 0 22; omega) pt_n654 (fun h9 => absurd ((g_n654 : A652 0 0 31 = 1).symm.trans h9) (by decide)) G707 (by show A652 0 0 27 = 4 - (d : Int) ∧ (d : Int) ≤ 4; omega)) cl_Mo_206 rfl (by decide) rfl rfl e_q_step_220 rfl rfl rfl ⟨by show _ ≤ (32 + 4 * d : Nat); omega, by show _ ≤ (630 + 300 * d : Nat); omega⟩ ?_
                rintro v712 A713 ⟨z716, rfl, hT_n715, hE_n715, raw_hz_n715, raw_hb_n715, raw_hn_n715, raw_hw_n715, raw_hm_n715, raw_hG_n715, raw_hK_n715⟩
                have hF_n715 := q705.trans (hE_n715.sub (em_pm _))
                show JM g D ad w0 A713 223 [(3, vi 5), (2, vi xs), (1, vi p0), (0, vr 0 0)] [vi z716, vi xs, vr 39 p0.toNat]
                have hz_n715 : 0 ≤ z716 ∧ z716 ≤ 119 := raw_hz_n715
                clear raw_hz_n715
                have hb_n715 : A713 0 0 24 ≤ A713 0 0 23 ∧ A713 0 0 23 ≤ A713 0 0 22 := raw_hb_n715
                clear raw_hb_n715
                have hm_n715 : A652 0 0 24 ≤ A713 0 0 24 ∧ A652 0 0 30 ≤ A713 0 0 30 ∧ A713 0 0 27 = A652 0 0 27 := raw_hm_n715
                clear raw_hm_n715
                have pt_n715 : pT A713 := raw_hn_n715
                have k0_n715 : A713 0 0 0 = A652 0 0 0 := hE_n715 0 0 0 rfl
                have k22_n715 : A713 0 0 22 = A652 0 0 22 := hE_n715 0 0 22 rfl
                have k28_n715 : A713 0 0 28 = A652 0 0 28 := hE_n715 0 0 28 rfl
                have k29_n715 : A713 0 0 29 = A652 0 0 29 := hE_n715 0 0 29 rfl
                have hG_n715 : nG p0.toNat A713 := raw_hG_n715
                have hK_n715 : nK p0.toNat (mu A652 36 p0.toNat xs.toNat z655) A713 := raw_hK_n715
                have Q717 : pQ p0.toNat (A 0 0 28) (A 0 0 29) (A 0 0 30) A A713 := pQ.emk (A2 := (mu A652 36 p0.toNat xs.toNat z655)) Q706 hE_n715 hK_n715 (by show A 0 0 30 ≤ A652 0 0 30; omega)
                have r34_n715 : A713 34 p0.toNat xs.toNat = 5 := Eq.trans (hE_n715 34 p0.toNat xs.toNat rfl) r34_n654
                have r35_n715 : A713 35 p0.toNat xs.toNat = z640 := Eq.trans (hE_n715 35 p0.toNat xs.toNat rfl) r35_n654
                have r36_n715 : A713 36 p0.toNat xs.toNat = z655 := Eq.trans (hE_n715 36 p0.toNat xs.toNat rfl) (mu_at A652 36 p0.toNat xs.toNat z655)
                have r39_n715 : A713 39 p0.toNat xs.toNat = (-1) := Eq.trans (hE_n715 39 p0.toNat xs.toNat rfl) r39_n654
                have r40_n715 : A713 40 p0.toNat xs.toNat = x30 := Eq.trans (hE_n715 40 p0.toNat xs.toNat rfl) r40_n654
                have g_n715 : A713 0 0 31 = 1 := wr_1 (hT_n715 0 0 31) (fun h9 => absurd ((g_n654 : A652 0 0 31 = 1).symm.trans (raw_hw_n715 h9).1) (by decide))
                refine m_iast C e_q_step_223 rfl (by omega) (by decide) (by omega) (by show xs < ((16 : Nat) : Int); omega) ?_
                have t718 : mTy (mu A713 39 p0.toNat xs.toNat z716) := hT_n715.mu (by show (-1) ≤ z716 ∧ z716 ≤ 119; omega)
                have q719 := hF_n715.mu (f := 39) (k := p0.toNat) (j := xs.toNat) (z := z716) (by simp [pm])
                have Q720 : pQ p0.toNat (A 0 0 28) (A 0 0 29) (A 0 0 30) A (mu A713 39 p0.toNat xs.toNat z716) := pQ.mu (A2 := A713) Q717 (by omega) (by omega) (by omega)
                have G721 : nG p0.toNat (mu A713 39 p0.toNat xs.toNat z716) := hG_n715
                refine m_blk 226 [(3, vi 5), (2, vi xs), (1, vi p0), (0, vr 0 0)] [vi 3, vi 5] C f_q_step_224_2 rfl ?_
                refine m_icmp_eq (tgt := 234) C e_q_step_226 (by decide) (by decide) (by decide) (fun c722 => (by omega : False).elim) (fun c722 => ?_)
                refine m_blk 231 [(3, vi 5), (2, vi xs), (1, vi p0), (0, vr 0 0)] [vi 4, vi 5] C f_q_step_229_2 rfl ?_
                refine m_icmp_ne (tgt := 238) C e_q_step_231 (by decide) (by decide) (by decide) (fun c723 => ?_) (fun c723 => (by omega : False).elim)
                refine m_blk 239 [(3, vi 5), (2, vi xs), (1, vi p0), (0, vr 0 0)] [vr 0 0] C f_q_step_238_1 rfl ?_
                refine m_getr C e_q_step_239 fg_Mo_33 rfl (by decide) rfl ?_
                refine m_blk 243 [(3, vi 5), (2, vi xs), (1, vi p0), (0, vr 0 0)] [vi p0, vr 18 0] C f_q_step_242_1 rfl ?_
                refine m_aald C p0.toNat e_q_step_243 rfl rfl rfl (by decide) (by decide) (by omega) (by show p0 < ((6 : Nat) : Int); omega) (mz _ _) ?_
                refine m_blk 246 [(3, vi 5), (2, vi xs), (1, vi p0), (0, vr 0 0)] [vr 0 0, vi xs, vr 38 p0.toNat] C f_q_step_244_2 rfl ?_
                obtain ⟨x724, hx724⟩ : ∃ x, A713 0 0 28 = x := ⟨_, rfl⟩
                have rx724 : 0 ≤ x724 ∧ x724 ≤ 16 := mrg hT_n715 hx724 rfl
                refine m_geti C e_q_step_246 fg_Mo_192 rfl (by decide) rfl x724 hx724 ?_
                refine m_iast C e_q_step_249 rfl (by omega) (by decide) (by omega) (by show xs < ((16 : Nat) : Int); omega) ?_
                have t725 : mTy (mu (mu A713 39 p0.toNat xs.toNat z716) 38 p0.toNat xs.toNat x724) := t718.mu (by show 0 ≤ x724 ∧ x724 ≤ 16; omega)
                have q726 := q719.mu (f := 38) (k := p0.toNat) (j := xs.toNat) (z := x724) (by simp [pm])
                have Q727 : pQ p0.toNat (A 0 0 28) (A 0 0 29) (A 0 0 30) A (mu (mu A713 39 p0.toNat xs.toNat z716) 38 p0.toNat xs.toNat x724) := pQ.mu (A2 := (mu A713 39 p0.toNat xs.toNat z716)) Q720 (by omega) (by omega) (by omega)
                have G728 : nG p0.toNat (mu (mu A713 39 p0.toNat xs.toNat z716) 38 p0.toNat xs.toNat x724) := G721
                refine m_blk 252 [(3, vi 5), (2, vi xs), (1, vi p0), (0, vr 0 0)] [vi 3, vi 5] C f_q_step_250_2 rfl ?_
                refine m_icmp_ne (tgt := 259) C e_q_step_252 (by decide) (by decide) (by decide) (fun c729 => ?_) (fun c729 => (by omega : False).elim)
                refine m_blk 260 [(3, vi 5), (2, vi xs), (1, vi p0), (0, vr 0 0)] [vr 0 0] C f_q_step_259_1 rfl ?_
                refine m_getr C e_q_step_260 fg_Mo_30 rfl (by decide) rfl ?_
                refine m_blk 264 [(3, vi 5), (2, vi xs), (1, vi p0), (0, vr 0 0)] [vi p0, vr 17 0] C f_q_step_263_1 rfl ?_
                refine m_aald C p0.toNat e_q_step_264 rfl rfl rfl (by decide) (by decide) (by omega) (by show p0 < ((6 : Nat) : Int); omega) (mz _ _) ?_
                refine m_blk 267 [(3, vi 5), (2, vi xs), (1, vi p0), (0, vr 0 0)] [vr 0 0, vi xs, vr 37 p0.toNat] C f_q_step_265_2 rfl ?_
                refine m_geti C e_q_step_267 fg_Mo_192 rfl (by decide) rfl x724 hx724 ?_
                refine m_iast C e_q_step_270 rfl (by omega) (by decide) (by omega) (by show xs < ((16 : Nat) : Int); omega) ?_
                have t730 : mTy (mu (mu (mu A713 39 p0.toNat xs.toNat z716) 38 p0.toNat xs.toNat x724) 37 p0.toNat xs.toNat x724) := t725.mu (by show 0 ≤ x724 ∧ x724 ≤ 16; omega)
                have q731 := q726.mu (f := 37) (k := p0.toNat) (j := xs.toNat) (z := x724) (by simp [pm])
                have Q732 : pQ p0.toNat (A 0 0 28) (A 0 0 29) (A 0 0 30) A (mu (mu (mu A713 39 p0.toNat xs.toNat z716) 38 p0.toNat xs.toNat x724) 37 p0.toNat xs.toNat x724) := pQ.mu (A2 := (mu (mu A713 39 p0.toNat xs.toNat z716) 38 p0.toNat xs.toNat x724)) Q727 (by omega) (by omega) (by omega)
                have G733 : nG p0.toNat (mu (mu (mu A713 39 p0.toNat xs.toNat z716) 38 p0.toNat xs.toNat x724) 37 p0.toNat xs.toNat x724) := G728
                exact m_vret C Rm E e_q_step_271 ⟨rfl, t730, q731, (by show A713 0 0 24 ≤ A713 0 0 23 ∧ A713 0 0 23 ≤ A713 0 0 22; omega), pt_n715, (fun h9 => absurd ((g_n715 : A713 0 0 31 = 1).symm.trans h9) (by decide)), (by show A 0 0 24 ≤ A713 0 0 24 ∧ A 0 0 28 ≤ A713 0 0 28 ∧ A 0 0 29 ≤ A713 0 0 29 ∧ A 0 0 30 ≤ A713 0 0 30 ∧ A713 0 0 27 = A 0 0 27; omega), G733, Q732⟩
            · clear raw_hw_n639
              refine m_iast C e_q_step_135 rfl (by omega) (by decide) (by omega) (by show xs < ((16 : Nat) : Int); omega) ?_
              have t734 : mTy (mu A637 35 p0.toNat xs.toNat z640) := hT_n639.mu (by show (-1) ≤ z640 ∧ z640 ≤ 5; omega)
              have q735 := hF_n639.mu (f := 35) (k := p0.toNat) (j := xs.toNat) (z := z640) (by simp [pm])
              have Q736 : pQ p0.toNat (A 0 0 28) (A 0 0 29) (A 0 0 30) A (mu A637 35 p0.toNat xs.toNat z640) := pQ.mu (A2 := A637) Q642 (by omega) (by omega) (by omega)
              have G737 : nG p0.toNat (mu A637 35 p0.toNat xs.toNat z640) := G641
              refine m_blk 137 [(3, vi 5), (2, vi xs), (1, vi p0), (0, vr 0 0)] [vi 5] C f_q_step_136_1 rfl ?_
              refine m_if_ne (tgt := 146) C e_q_step_137 (by decide) (by decide) (fun c738 => ?_) (fun c738 => (by omega : False).elim)
              refine m_blk 148 [(3, vi 5), (2, vi xs), (1, vi p0), (0, vr 0 0)] [vi 4, vi 5] C f_q_step_146_2 rfl ?_
              refine m_icmp_ne (tgt := 167) C e_q_step_148 (by decide) (by decide) (by decide) (fun c739 => ?_) (fun c739 => (by omega : False).elim)
              refine m_blk 169 [(3, vi 5), (2, vi xs), (1, vi p0), (0, vr 0 0)] [vi 5, vi 5] C f_q_step_167_2 rfl ?_
              refine m_icmp_ne (tgt := 192) C e_q_step_169 (by decide) (by decide) (by decide) (fun c740 => (by omega : False).elim) (fun c740 => ?_)
              refine m_blk 173 [(3, vi 5), (2, vi xs), (1, vi p0), (0, vr 0 0)] [vr 0 0] C f_q_step_172_1 rfl ?_
              refine m_getr C e_q_step_173 fg_Mo_27 rfl (by decide) rfl ?_
              refine m_blk 177 [(3, vi 5), (2, vi xs), (1, vi p0), (0, vr 0 0)] [vi p0, vr 16 0] C f_q_step_176_1 rfl ?_
              refine m_aald C p0.toNat e_q_step_177 rfl rfl rfl (by decide) (by decide) (by omega) (by show p0 < ((6 : Nat) : Int); omega) (mz _ _) ?_
              refine m_blk 183 [(3, vi 5), (2, vi xs), (1, vi p0), (0, vr 0 0)] [vr 0 0, vi 0, vi 3, vr 0 0, vi xs, vr 36 p0.toNat] C f_q_step_178_5 rfl ?_
              obtain ⟨x741, hx741⟩ : ∃ x, A637 0 0 0 = x := ⟨_, rfl⟩
              have rx741 : 0 ≤ x741 ∧ x741 ≤ 6 := mrg hT_n639 hx741 rfl
              refine m_geti C e_q_step_183 fg_Mo_105 rfl (by decide) rfl x741 hx741 ?_
              refine m_blk 188 [(3, vi 5), (2, vi xs), (1, vi p0), (0, vr 0 0)] [vi (x741 - 1), vi 0, vi 3, vr 0 0, vi xs, vr 36 p0.toNat] C f_q_step_186_2 rfl ?_
              refine m_callV C Rm Y [vi 3, vi 0, vi (x741 - 1)] [vi xs, vr 36 p0.toNat] (q_takes l D B H0 ad _ hS t734 3 0 (x741 - 1) (by show 1 ≤ 3 ∧ 3 ≤ 4; omega) (by show 0 ≤ 0 ∧ 0 ≤ 2147483647 ∧ -1 ≤ (x741 - 1) ∧ (x741 - 1) ≤ 2147483647; omega) (by show A637 0 0 24 ≤ A637 0 0 23 ∧ A637 0 0 23 ≤ A637 0 0 22; omega) pt_n639) cl_Mo_198 rfl (by decide) rfl rfl e_q_step_188 rfl rfl rfl ⟨by show _ ≤ (32 + 4 * d : Nat); omega, by show _ ≤ (630 + 300 * d : Nat); omega⟩ ?_
              rintro v742 A743 ⟨z746, rfl, hT_n745, hE_n745, raw_hz_n745, raw_hb_n745, raw_hn_n745, raw_hw_n745, raw_hm_n745⟩
              have hF_n745 := q735.trans (hE_n745.sub (nm_pm _))
              show JM g D ad w0 A743 191 [(3, vi 5), (2, vi xs), (1, vi p0), (0, vr 0 0)] [vi z746, vi xs, vr 36 p0.toNat]
              have hb_n745 : A743 0 0 24 ≤ A743 0 0 23 ∧ A743 0 0 23 ≤ A743 0 0 22 := raw_hb_n745
              clear raw_hb_n745
              have hm_n745 : A637 0 0 24 ≤ A743 0 0 24 := raw_hm_n745
              clear raw_hm_n745
              have hz_n745 : z746 = 0 ∨ 0 ≤ z746 ∧ z746 ≤ (x741 - 1) := raw_hz_n745
              clear raw_hz_n745
              have pt_n745 : pT A743 := raw_hn_n745
              clear raw_hn_n745
              have k0_n745 : A743 0 0 0 = A637 0 0 0 := hE_n745 0 0 0 rfl
              have k22_n745 : A743 0 0 22 = A637 0 0 22 := hE_n745 0 0 22 rfl
              have k27_n745 : A743 0 0 27 = A637 0 0 27 := hE_n745 0 0 27 rfl
              have k28_n745 : A743 0 0 28 = A637 0 0 28 := hE_n745 0 0 28 rfl
              have k29_n745 : A743 0 0 29 = A637 0 0 29 := hE_n745 0 0 29 rfl
              have k30_n745 : A743 0 0 30 = A637 0 0 30 := hE_n745 0 0 30 rfl
              have G747 : nG p0.toNat A743 := nG.nm (A := (mu A637 35 p0.toNat xs.toNat z640)) G737 hE_n745
              have Q748 : pQ p0.toNat (A 0 0 28) (A 0 0 29) (A 0 0 30) A A743 := pQ.fam (A2 := (mu A637 35 p0.toNat xs.toNat z640)) Q736 (fam_nm _ hE_n745)
              have r34_n745 : A743 34 p0.toNat xs.toNat = 5 := Eq.trans (hE_n745 34 p0.toNat xs.toNat rfl) r34_n639
              have r35_n745 : A743 35 p0.toNat xs.toNat = z640 := Eq.trans (hE_n745 35 p0.toNat xs.toNat rfl) (mu_at A637 35 p0.toNat xs.toNat z640)
              have r36_n745 : A743 36 p0.toNat xs.toNat = (-1) := Eq.trans (hE_n745 36 p0.toNat xs.toNat rfl) r36_n639
              have r39_n745 : A743 39 p0.toNat xs.toNat = (-1) := Eq.trans (hE_n745 39 p0.toNat xs.toNat rfl) r39_n639
              have r40_n745 : A743 40 p0.toNat xs.toNat = x30 := Eq.trans (hE_n745 40 p0.toNat xs.toNat rfl) r40_n639
              have g_n745 : A743 0 0 31 = 1 := wr_1 (hT_n745 0 0 31) (fun h9 => absurd ((g_n639 : A637 0 0 31 = 1).symm.trans (raw_hw_n745 h9).1) (by decide))
              clear raw_hw_n745
              refine m_iast C e_q_step_191 rfl (by omega) (by decide) (by omega) (by show xs < ((16 : Nat) : Int); omega) ?_
              have t749 : mTy (mu A743 36 p0.toNat xs.toNat z746) := hT_n745.mu (by show (-1) ≤ z746 ∧ z746 ≤ 9; omega)
              have q750 := hF_n745.mu (f := 36) (k := p0.toNat) (j := xs.toNat) (z := z746) (by simp [pm])
              have Q751 : pQ p0.toNat (A 0 0 28) (A 0 0 29) (A 0 0 30) A (mu A743 36 p0.toNat xs.toNat z746) := pQ.mu (A2 := A743) Q748 (by omega) (by omega) (by omega)
              have G752 : nG p0.toNat (mu A743 36 p0.toNat xs.toNat z746) := G747
              refine m_blk 194 [(3, vi 5), (2, vi xs), (1, vi p0), (0, vr 0 0)] [vi 1, vi 5] C f_q_step_192_2 rfl ?_
              refine m_icmp_eq (tgt := 212) C e_q_step_194 (by decide) (by decide) (by decide) (fun c753 => (by omega : False).elim) (fun c753 => ?_)
              refine m_blk 199 [(3, vi 5), (2, vi xs), (1, vi p0), (0, vr 0 0)] [vi 2, vi 5] C f_q_step_197_2 rfl ?_
              refine m_icmp_eq (tgt := 212) C e_q_step_199 (by decide) (by decide) (by decide) (fun c754 => (by omega : False).elim) (fun c754 => ?_)
              refine m_blk 204 [(3, vi 5), (2, vi xs), (1, vi p0), (0, vr 0 0)] [vi 3, vi 5] C f_q_step_202_2 rfl ?_
              refine m_icmp_eq (tgt := 212) C e_q_step_204 (by decide) (by decide) (by decide) (fun c755 => (by omega : False).elim) (fun c755 => ?_)
              refine m_blk 209 [(3, vi 5), (2, vi xs), (1, vi p0), (0, vr 0 0)] [vi 5, vi 5] C f_q_step_207_2 rfl ?_
              refine m_icmp_ne (tgt := 224) C e_q_step_209 (by decide) (by decide) (by decide) (fun c756 => (by omega : False).elim) (fun c756 => ?_)
              refine m_blk 213 [(3, vi 5), (2, vi xs), (1, vi p0), (0, vr 0 0)] [vr 0 0] C f_q_step_212_1 rfl ?_
              refine m_getr C e_q_step_213 fg_Mo_36 rfl (by decide) rfl ?_
              refine m_blk 217 [(3, vi 5), (2, vi xs), (1, vi p0), (0, vr 0 0)] [vi p0, vr 19 0] C f_q_step_216_1 rfl ?_
              refine m_aald C p0.toNat e_q_step_217 rfl rfl rfl (by decide) (by decide) (by omega) (by show p0 < ((6 : Nat) : Int); omega) (mz _ _) ?_
              refine m_blk 220 [(3, vi 5), (2, vi xs), (1, vi p0), (0, vr 0 0)] [vr 0 0, vi xs, vr 39 p0.toNat] C f_q_step_218_2 rfl ?_
              refine m_callV C Rm Y [] [vi xs, vr 39 p0.toNat] ((q_E d).2 l D B H0 ad _ hS t749 p0 (by show A743 0 0 0 = p0 ∧ 0 ≤ p0 ∧ p0 ≤ 5; omega) (by show A743 0 0 24 ≤ A743 0 0 23 ∧ A743 0 0 23 ≤ A743 0 0 22; omega) pt_n745 (fun h9 => absurd ((g_n745 : A743 0 0 31 = 1).symm.trans h9) (by decide)) G752 (by show A743 0 0 27 = 4 - (d : Int) ∧ (d : Int) ≤ 4; omega)) cl_Mo_206 rfl (by decide) rfl rfl e_q_step_220 rfl rfl rfl ⟨by show _ ≤ (32 + 4 * d : Nat); omega, by show _ ≤ (630 + 300 * d : Nat); omega⟩ ?_
              rintro v757 A758 ⟨z761, rfl, hT_n760, hE_n760, raw_hz_n760, raw_hb_n760, raw_hn_n760, raw_hw_n760, raw_hm_n760, raw_hG_n760, raw_hK_n760⟩
              have hF_n760 := q750.trans (hE_n760.sub (em_pm _))
              show JM g D ad w0 A758 223 [(3, vi 5), (2, vi xs), (1, vi p0), (0, vr 0 0)] [vi z761, vi xs, vr 39 p0.toNat]
              have hz_n760 : 0 ≤ z761 ∧ z761 ≤ 119 := raw_hz_n760
              clear raw_hz_n760
              have hb_n760 : A758 0 0 24 ≤ A758 0 0 23 ∧ A758 0 0 23 ≤ A758 0 0 22 := raw_hb_n760
              clear raw_hb_n760
              have hm_n760 : A743 0 0 24 ≤ A758 0 0 24 ∧ A743 0 0 30 ≤ A758 0 0 30 ∧ A758 0 0 27 = A743 0 0 27 := raw_hm_n760
              clear raw_hm_n760
              have pt_n760 : pT A758 := raw_hn_n760
              have k0_n760 : A758 0 0 0 = A743 0 0 0 := hE_n760 0 0 0 rfl
              have k22_n760 : A758 0 0 22 = A743 0 0 22 := hE_n760 0 0 22 rfl
              have k28_n760 : A758 0 0 28 = A743 0 0 28 := hE_n760 0 0 28 rfl
              have k29_n760 : A758 0 0 29 = A743 0 0 29 := hE_n760 0 0 29 rfl
              have hG_n760 : nG p0.toNat A758 := raw_hG_n760
              have hK_n760 : nK p0.toNat (mu A743 36 p0.toNat xs.toNat z746) A758 := raw_hK_n760
              have Q762 : pQ p0.toNat (A 0 0 28) (A 0 0 29) (A 0 0 30) A A758 := pQ.emk (A2 := (mu A743 36 p0.toNat xs.toNat z746)) Q751 hE_n760 hK_n760 (by show A 0 0 30 ≤ A743 0 0 30; omega)
              have r34_n760 : A758 34 p0.toNat xs.toNat = 5 := Eq.trans (hE_n760 34 p0.toNat xs.toNat rfl) r34_n745
              have r35_n760 : A758 35 p0.toNat xs.toNat = z640 := Eq.trans (hE_n760 35 p0.toNat xs.toNat rfl) r35_n745
              have r36_n760 : A758 36 p0.toNat xs.toNat = z746 := Eq.trans (hE_n760 36 p0.toNat xs.toNat rfl) (mu_at A743 36 p0.toNat xs.toNat z746)
              have r39_n760 : A758 39 p0.toNat xs.toNat = (-1) := Eq.trans (hE_n760 39 p0.toNat xs.toNat rfl) r39_n745
              have r40_n760 : A758 40 p0.toNat xs.toNat = x30 := Eq.trans (hE_n760 40 p0.toNat xs.toNat rfl) r40_n745
              have g_n760 : A758 0 0 31 = 1 := wr_1 (hT_n760 0 0 31) (fun h9 => absurd ((g_n745 : A743 0 0 31 = 1).symm.trans (raw_hw_n760 h9).1) (by decide))
              refine m_iast C e_q_step_223 rfl (by omega) (by decide) (by omega) (by show xs < ((16 : Nat) : Int); omega) ?_
              have t763 : mTy (mu A758 39 p0.toNat xs.toNat z761) := hT_n760.mu (by show (-1) ≤ z761 ∧ z761 ≤ 119; omega)
              have q764 := hF_n760.mu (f := 39) (k := p0.toNat) (j := xs.toNat) (z := z761) (by simp [pm])
              have Q765 : pQ p0.toNat (A 0 0 28) (A 0 0 29) (A 0 0 30) A (mu A758 39 p0.toNat xs.toNat z761) := pQ.mu (A2 := A758) Q762 (by omega) (by omega) (by omega)
              have G766 : nG p0.toNat (mu A758 39 p0.toNat xs.toNat z761) := hG_n760
              refine m_blk 226 [(3, vi 5), (2, vi xs), (1, vi p0), (0, vr 0 0)] [vi 3, vi 5] C f_q_step_224_2 rfl ?_
              refine m_icmp_eq (tgt := 234) C e_q_step_226 (by decide) (by decide) (by decide) (fun c767 => (by omega : False).elim) (fun c767 => ?_)
              refine m_blk 231 [(3, vi 5), (2, vi xs), (1, vi p0), (0, vr 0 0)] [vi 4, vi 5] C f_q_step_229_2 rfl ?_
              refine m_icmp_ne (tgt := 238) C e_q_step_231 (by decide) (by decide) (by decide) (fun c768 => ?_) (fun c768 => (by omega : False).elim)
              refine m_blk 239 [(3, vi 5), (2, vi xs), (1, vi p0), (0, vr 0 0)] [vr 0 0] C f_q_step_238_1 rfl ?_
              refine m_getr C e_q_step_239 fg_Mo_33 rfl (by decide) rfl ?_
              refine m_blk 243 [(3, vi 5), (2, vi xs), (1, vi p0), (0, vr 0 0)] [vi p0, vr 18 0] C f_q_step_242_1 rfl ?_
              refine m_aald C p0.toNat e_q_step_243 rfl rfl rfl (by decide) (by decide) (by omega) (by show p0 < ((6 : Nat) : Int); omega) (mz _ _) ?_
              refine m_blk 246 [(3, vi 5), (2, vi xs), (1, vi p0), (0, vr 0 0)] [vr 0 0, vi xs, vr 38 p0.toNat] C f_q_step_244_2 rfl ?_
              obtain ⟨x769, hx769⟩ : ∃ x, A758 0 0 28 = x := ⟨_, rfl⟩
              have rx769 : 0 ≤ x769 ∧ x769 ≤ 16 := mrg hT_n760 hx769 rfl
              refine m_geti C e_q_step_246 fg_Mo_192 rfl (by decide) rfl x769 hx769 ?_
              refine m_iast C e_q_step_249 rfl (by omega) (by decide) (by omega) (by show xs < ((16 : Nat) : Int); omega) ?_
              have t770 : mTy (mu (mu A758 39 p0.toNat xs.toNat z761) 38 p0.toNat xs.toNat x769) := t763.mu (by show 0 ≤ x769 ∧ x769 ≤ 16; omega)
              have q771 := q764.mu (f := 38) (k := p0.toNat) (j := xs.toNat) (z := x769) (by simp [pm])
              have Q772 : pQ p0.toNat (A 0 0 28) (A 0 0 29) (A 0 0 30) A (mu (mu A758 39 p0.toNat xs.toNat z761) 38 p0.toNat xs.toNat x769) := pQ.mu (A2 := (mu A758 39 p0.toNat xs.toNat z761)) Q765 (by omega) (by omega) (by omega)
              have G773 : nG p0.toNat (mu (mu A758 39 p0.toNat xs.toNat z761) 38 p0.toNat xs.toNat x769) := G766
              refine m_blk 252 [(3, vi 5), (2, vi xs), (1, vi p0), (0, vr 0 0)] [vi 3, vi 5] C f_q_step_250_2 rfl ?_
              refine m_icmp_ne (tgt := 259) C e_q_step_252 (by decide) (by decide) (by decide) (fun c774 => ?_) (fun c774 => (by omega : False).elim)
              refine m_blk 260 [(3, vi 5), (2, vi xs), (1, vi p0), (0, vr 0 0)] [vr 0 0] C f_q_step_259_1 rfl ?_
              refine m_getr C e_q_step_260 fg_Mo_30 rfl (by decide) rfl ?_
              refine m_blk 264 [(3, vi 5), (2, vi xs), (1, vi p0), (0, vr 0 0)] [vi p0, vr 17 0] C f_q_step_263_1 rfl ?_
              refine m_aald C p0.toNat e_q_step_264 rfl rfl rfl (by decide) (by decide) (by omega) (by show p0 < ((6 : Nat) : Int); omega) (mz _ _) ?_
              refine m_blk 267 [(3, vi 5), (2, vi xs), (1, vi p0), (0, vr 0 0)] [vr 0 0, vi xs, vr 37 p0.toNat] C f_q_step_265_2 rfl ?_
              refine m_geti C e_q_step_267 fg_Mo_192 rfl (by decide) rfl x769 hx769 ?_
              refine m_iast C e_q_step_270 rfl (by omega) (by decide) (by omega) (by show xs < ((16 : Nat) : Int); omega) ?_
              have t775 : mTy (mu (mu (mu A758 39 p0.toNat xs.toNat z761) 38 p0.toNat xs.toNat x769) 37 p0.toNat xs.toNat x769) := t770.mu (by show 0 ≤ x769 ∧ x769 ≤ 16; omega)
              have q776 := q771.mu (f := 37) (k := p0.toNat) (j := xs.toNat) (z := x769) (by simp [pm])
              have Q777 : pQ p0.toNat (A 0 0 28) (A 0 0 29) (A 0 0 30) A (mu (mu (mu A758 39 p0.toNat xs.toNat z761) 38 p0.toNat xs.toNat x769) 37 p0.toNat xs.toNat x769) := pQ.mu (A2 := (mu (mu A758 39 p0.toNat xs.toNat z761) 38 p0.toNat xs.toNat x769)) Q772 (by omega) (by omega) (by omega)
              have G778 : nG p0.toNat (mu (mu (mu A758 39 p0.toNat xs.toNat z761) 38 p0.toNat xs.toNat x769) 37 p0.toNat xs.toNat x769) := G773
              exact m_vret C Rm E e_q_step_271 ⟨rfl, t775, q776, (by show A758 0 0 24 ≤ A758 0 0 23 ∧ A758 0 0 23 ≤ A758 0 0 22; omega), pt_n760, (fun h9 => absurd ((g_n760 : A758 0 0 31 = 1).symm.trans h9) (by decide)), (by show A 0 0 24 ≤ A758 0 0 24 ∧ A 0 0 28 ≤ A758 0 0 28 ∧ A 0 0 29 ≤ A758 0 0 29 ∧ A 0 0 30 ≤ A758 0 0 30 ∧ A758 0 0 27 = A 0 0 27; omega), G778, Q777⟩
          · refine m_blk 108 [(3, vi 5), (2, vi xs), (1, vi p0), (0, vr 0 0)] [vi 5] C f_q_step_107_1 rfl ?_
            refine m_if_eq (tgt := 121) C e_q_step_108 (by decide) (by decide) (fun c779 => (by omega : False).elim) (fun c779 => ?_)
            refine m_blk 113 [(3, vi 5), (2, vi xs), (1, vi p0), (0, vr 0 0)] [vi 1, vi 5] C f_q_step_111_2 rfl ?_
            refine m_icmp_eq (tgt := 121) C e_q_step_113 (by decide) (by decide) (by decide) (fun c780 => (by omega : False).elim) (fun c780 => ?_)
            refine m_blk 118 [(3, vi 5), (2, vi xs), (1, vi p0), (0, vr 0 0)] [vi 5, vi 5] C f_q_step_116_2 rfl ?_
            refine m_icmp_ne (tgt := 136) C e_q_step_118 (by decide) (by decide) (by decide) (fun c781 => (by omega : False).elim) (fun c781 => ?_)
            refine m_blk 122 [(3, vi 5), (2, vi xs), (1, vi p0), (0, vr 0 0)] [vr 0 0] C f_q_step_121_1 rfl ?_
            refine m_getr C e_q_step_122 fg_Mo_24 rfl (by decide) rfl ?_
            refine m_blk 126 [(3, vi 5), (2, vi xs), (1, vi p0), (0, vr 0 0)] [vi p0, vr 15 0] C f_q_step_125_1 rfl ?_
            refine m_aald C p0.toNat e_q_step_126 rfl rfl rfl (by decide) (by decide) (by omega) (by show p0 < ((6 : Nat) : Int); omega) (mz _ _) ?_
            refine m_blk 132 [(3, vi 5), (2, vi xs), (1, vi p0), (0, vr 0 0)] [vi 5, vi 0, vi 1, vr 0 0, vi xs, vr 35 p0.toNat] C f_q_step_127_5 rfl ?_
            refine m_callV C Rm Y [vi 1, vi 0, vi 5] [vi xs, vr 35 p0.toNat] (q_takes l D B H0 ad _ hS hT_n630 1 0 5 (by show 1 ≤ 1 ∧ 1 ≤ 4; omega) (by show 0 ≤ 0 ∧ 0 ≤ 2147483647 ∧ -1 ≤ 5 ∧ 5 ≤ 2147483647; omega) (by show A628 0 0 24 ≤ A628 0 0 23 ∧ A628 0 0 23 ≤ A628 0 0 22; omega) pt_n630) cl_Mo_198 rfl (by decide) rfl rfl e_q_step_132 rfl rfl rfl ⟨by show _ ≤ (32 + 4 * d : Nat); omega, by show _ ≤ (630 + 300 * d : Nat); omega⟩ ?_
            rintro v782 A783 ⟨z786, rfl, hT_n785, hE_n785, raw_hz_n785, raw_hb_n785, raw_hn_n785, raw_hw_n785, raw_hm_n785⟩
            have hF_n785 := hF_n630.trans (hE_n785.sub (nm_pm _))
            show JM g D ad w0 A783 135 [(3, vi 5), (2, vi xs), (1, vi p0), (0, vr 0 0)] [vi z786, vi xs, vr 35 p0.toNat]
            have hb_n785 : A783 0 0 24 ≤ A783 0 0 23 ∧ A783 0 0 23 ≤ A783 0 0 22 := raw_hb_n785
            clear raw_hb_n785
            have hm_n785 : A628 0 0 24 ≤ A783 0 0 24 := raw_hm_n785
            clear raw_hm_n785
            have hz_n785 : z786 = 0 ∨ 0 ≤ z786 ∧ z786 ≤ 5 := raw_hz_n785
            clear raw_hz_n785
            have pt_n785 : pT A783 := raw_hn_n785
            clear raw_hn_n785
            have k0_n785 : A783 0 0 0 = A628 0 0 0 := hE_n785 0 0 0 rfl
            have k22_n785 : A783 0 0 22 = A628 0 0 22 := hE_n785 0 0 22 rfl
            have k27_n785 : A783 0 0 27 = A628 0 0 27 := hE_n785 0 0 27 rfl
            have k28_n785 : A783 0 0 28 = A628 0 0 28 := hE_n785 0 0 28 rfl
            have k29_n785 : A783 0 0 29 = A628 0 0 29 := hE_n785 0 0 29 rfl
            have k30_n785 : A783 0 0 30 = A628 0 0 30 := hE_n785 0 0 30 rfl
            have G787 : nG p0.toNat A783 := nG.nm (A := A628) G631 hE_n785
            have Q788 : pQ p0.toNat (A 0 0 28) (A 0 0 29) (A 0 0 30) A A783 := pQ.fam (A2 := A628) Q632 (fam_nm _ hE_n785)
            have r34_n785 : A783 34 p0.toNat xs.toNat = 5 := Eq.trans (hE_n785 34 p0.toNat xs.toNat rfl) r34_n630
            have r35_n785 : A783 35 p0.toNat xs.toNat = (-1) := Eq.trans (hE_n785 35 p0.toNat xs.toNat rfl) r35_n630
            have r36_n785 : A783 36 p0.toNat xs.toNat = (-1) := Eq.trans (hE_n785 36 p0.toNat xs.toNat rfl) r36_n630
            have r39_n785 : A783 39 p0.toNat xs.toNat = (-1) := Eq.trans (hE_n785 39 p0.toNat xs.toNat rfl) r39_n630
            have r40_n785 : A783 40 p0.toNat xs.toNat = x30 := Eq.trans (hE_n785 40 p0.toNat xs.toNat rfl) r40_n630
            have g_n785 : A783 0 0 31 = 1 := wr_1 (hT_n785 0 0 31) (fun h9 => absurd ((g_n630 : A628 0 0 31 = 1).symm.trans (raw_hw_n785 h9).1) (by decide))
            clear raw_hw_n785
            refine m_iast C e_q_step_135 rfl (by omega) (by decide) (by omega) (by show xs < ((16 : Nat) : Int); omega) ?_
            have t789 : mTy (mu A783 35 p0.toNat xs.toNat z786) := hT_n785.mu (by show (-1) ≤ z786 ∧ z786 ≤ 5; omega)
            have q790 := hF_n785.mu (f := 35) (k := p0.toNat) (j := xs.toNat) (z := z786) (by simp [pm])
            have Q791 : pQ p0.toNat (A 0 0 28) (A 0 0 29) (A 0 0 30) A (mu A783 35 p0.toNat xs.toNat z786) := pQ.mu (A2 := A783) Q788 (by omega) (by omega) (by omega)
            have G792 : nG p0.toNat (mu A783 35 p0.toNat xs.toNat z786) := G787
            refine m_blk 137 [(3, vi 5), (2, vi xs), (1, vi p0), (0, vr 0 0)] [vi 5] C f_q_step_136_1 rfl ?_
            refine m_if_ne (tgt := 146) C e_q_step_137 (by decide) (by decide) (fun c793 => ?_) (fun c793 => (by omega : False).elim)
            refine m_blk 148 [(3, vi 5), (2, vi xs), (1, vi p0), (0, vr 0 0)] [vi 4, vi 5] C f_q_step_146_2 rfl ?_
            refine m_icmp_ne (tgt := 167) C e_q_step_148 (by decide) (by decide) (by decide) (fun c794 => ?_) (fun c794 => (by omega : False).elim)
            refine m_blk 169 [(3, vi 5), (2, vi xs), (1, vi p0), (0, vr 0 0)] [vi 5, vi 5] C f_q_step_167_2 rfl ?_
            refine m_icmp_ne (tgt := 192) C e_q_step_169 (by decide) (by decide) (by decide) (fun c795 => (by omega : False).elim) (fun c795 => ?_)
            refine m_blk 173 [(3, vi 5), (2, vi xs), (1, vi p0), (0, vr 0 0)] [vr 0 0] C f_q_step_172_1 rfl ?_
            refine m_getr C e_q_step_173 fg_Mo_27 rfl (by decide) rfl ?_
            refine m_blk 177 [(3, vi 5), (2, vi xs), (1, vi p0), (0, vr 0 0)] [vi p0, vr 16 0] C f_q_step_176_1 rfl ?_
            refine m_aald C p0.toNat e_q_step_177 rfl rfl rfl (by decide) (by decide) (by omega) (by show p0 < ((6 : Nat) : Int); omega) (mz _ _) ?_
            refine m_blk 183 [(3, vi 5), (2, vi xs), (1, vi p0), (0, vr 0 0)] [vr 0 0, vi 0, vi 3, vr 0 0, vi xs, vr 36 p0.toNat] C f_q_step_178_5 rfl ?_
            obtain ⟨x796, hx796⟩ : ∃ x, A783 0 0 0 = x := ⟨_, rfl⟩
            have rx796 : 0 ≤ x796 ∧ x796 ≤ 6 := mrg hT_n785 hx796 rfl
            refine m_geti C e_q_step_183 fg_Mo_105 rfl (by decide) rfl x796 hx796 ?_
            refine m_blk 188 [(3, vi 5), (2, vi xs), (1, vi p0), (0, vr 0 0)] [vi (x796 - 1), vi 0, vi 3, vr 0 0, vi xs, vr 36 p0.toNat] C f_q_step_186_2 rfl ?_
            refine m_callV C Rm Y [vi 3, vi 0, vi (x796 - 1)] [vi xs, vr 36 p0.toNat] (q_takes l D B H0 ad _ hS t789 3 0 (x796 - 1) (by show 1 ≤ 3 ∧ 3 ≤ 4; omega) (by show 0 ≤ 0 ∧ 0 ≤ 2147483647 ∧ -1 ≤ (x796 - 1) ∧ (x796 - 1) ≤ 2147483647; omega) (by show A783 0 0 24 ≤ A783 0 0 23 ∧ A783 0 0 23 ≤ A783 0 0 22; omega) pt_n785) cl_Mo_198 rfl (by decide) rfl rfl e_q_step_188 rfl rfl rfl ⟨by show _ ≤ (32 + 4 * d : Nat); omega, by show _ ≤ (630 + 300 * d : Nat); omega⟩ ?_
            rintro v797 A798 ⟨z801, rfl, hT_n800, hE_n800, raw_hz_n800, raw_hb_n800, raw_hn_n800, raw_hw_n800, raw_hm_n800⟩
            have hF_n800 := q790.trans (hE_n800.sub (nm_pm _))
            show JM g D ad w0 A798 191 [(3, vi 5), (2, vi xs), (1, vi p0), (0, vr 0 0)] [vi z801, vi xs, vr 36 p0.toNat]
            have hb_n800 : A798 0 0 24 ≤ A798 0 0 23 ∧ A798 0 0 23 ≤ A798 0 0 22 := raw_hb_n800
            clear raw_hb_n800
            have hm_n800 : A783 0 0 24 ≤ A798 0 0 24 := raw_hm_n800
            clear raw_hm_n800
            have hz_n800 : z801 = 0 ∨ 0 ≤ z801 ∧ z801 ≤ (x796 - 1) := raw_hz_n800
            clear raw_hz_n800
            have pt_n800 : pT A798 := raw_hn_n800
            clear raw_hn_n800
            have k0_n800 : A798 0 0 0 = A783 0 0 0 := hE_n800 0 0 0 rfl
            have k22_n800 : A798 0 0 22 = A783 0 0 22 := hE_n800 0 0 22 rfl
            have k27_n800 : A798 0 0 27 = A783 0 0 27 := hE_n800 0 0 27 rfl
            have k28_n800 : A798 0 0 28 = A783 0 0 28 := hE_n800 0 0 28 rfl
            have k29_n800 : A798 0 0 29 = A783 0 0 29 := hE_n800 0 0 29 rfl
            have k30_n800 : A798 0 0 30 = A783 0 0 30 := hE_n800 0 0 30 rfl
            have G802 : nG p0.toNat A798 := nG.nm (A := (mu A783 35 p0.toNat xs.toNat z786)) G792 hE_n800
            have Q803 : pQ p0.toNat (A 0 0 28) (A 0 0 29) (A 0 0 30) A A798 := pQ.fam (A2 := (mu A783 35 p0.toNat xs.toNat z786)) Q791 (fam_nm _ hE_n800)
            have r34_n800 : A798 34 p0.toNat xs.toNat = 5 := Eq.trans (hE_n800 34 p0.toNat xs.toNat rfl) r34_n785
            have r35_n800 : A798 35 p0.toNat xs.toNat = z786 := Eq.trans (hE_n800 35 p0.toNat xs.toNat rfl) (mu_at A783 35 p0.toNat xs.toNat z786)
            have r36_n800 : A798 36 p0.toNat xs.toNat = (-1) := Eq.trans (hE_n800 36 p0.toNat xs.toNat rfl) r36_n785
            have r39_n800 : A798 39 p0.toNat xs.toNat = (-1) := Eq.trans (hE_n800 39 p0.toNat xs.toNat rfl) r39_n785
            have r40_n800 : A798 40 p0.toNat xs.toNat = x30 := Eq.trans (hE_n800 40 p0.toNat xs.toNat rfl) r40_n785
            have g_n800 : A798 0 0 31 = 1 := wr_1 (hT_n800 0 0 31) (fun h9 => absurd ((g_n785 : A783 0 0 31 = 1).symm.trans (raw_hw_n800 h9).1) (by decide))
            clear raw_hw_n800
            refine m_iast C e_q_step_191 rfl (by omega) (by decide) (by omega) (by show xs < ((16 : Nat) : Int); omega) ?_
            have t804 : mTy (mu A798 36 p0.toNat xs.toNat z801) := hT_n800.mu (by show (-1) ≤ z801 ∧ z801 ≤ 9; omega)
            have q805 := hF_n800.mu (f := 36) (k := p0.toNat) (j := xs.toNat) (z := z801) (by simp [pm])
            have Q806 : pQ p0.toNat (A 0 0 28) (A 0 0 29) (A 0 0 30) A (mu A798 36 p0.toNat xs.toNat z801) := pQ.mu (A2 := A798) Q803 (by omega) (by omega) (by omega)
            have G807 : nG p0.toNat (mu A798 36 p0.toNat xs.toNat z801) := G802
            refine m_blk 194 [(3, vi 5), (2, vi xs), (1, vi p0), (0, vr 0 0)] [vi 1, vi 5] C f_q_step_192_2 rfl ?_
            refine m_icmp_eq (tgt := 212) C e_q_step_194 (by decide) (by decide) (by decide) (fun c808 => (by omega : False).elim) (fun c808 => ?_)
            refine m_blk 199 [(3, vi 5), (2, vi xs), (1, vi p0), (0, vr 0 0)] [vi 2, vi 5] C f_q_step_197_2 rfl ?_
            refine m_icmp_eq (tgt := 212) C e_q_step_199 (by decide) (by decide) (by decide) (fun c809 => (by omega : False).elim) (fun c809 => ?_)
            refine m_blk 204 [(3, vi 5), (2, vi xs), (1, vi p0), (0, vr 0 0)] [vi 3, vi 5] C f_q_step_202_2 rfl ?_
            refine m_icmp_eq (tgt := 212) C e_q_step_204 (by decide) (by decide) (by decide) (fun c810 => (by omega : False).elim) (fun c810 => ?_)
            refine m_blk 209 [(3, vi 5), (2, vi xs), (1, vi p0), (0, vr 0 0)] [vi 5, vi 5] C f_q_step_207_2 rfl ?_
            refine m_icmp_ne (tgt := 224) C e_q_step_209 (by decide) (by decide) (by decide) (fun c811 => (by omega : False).elim) (fun c811 => ?_)
            refine m_blk 213 [(3, vi 5), (2, vi xs), (1, vi p0), (0, vr 0 0)] [vr 0 0] C f_q_step_212_1 rfl ?_
            refine m_getr C e_q_step_213 fg_Mo_36 rfl (by decide) rfl ?_
            refine m_blk 217 [(3, vi 5), (2, vi xs), (1, vi p0), (0, vr 0 0)] [vi p0, vr 19 0] C f_q_step_216_1 rfl ?_
            refine m_aald C p0.toNat e_q_step_217 rfl rfl rfl (by decide) (by decide) (by omega) (by show p0 < ((6 : Nat) : Int); omega) (mz _ _) ?_
            refine m_blk 220 [(3, vi 5), (2, vi xs), (1, vi p0), (0, vr 0 0)] [vr 0 0, vi xs, vr 39 p0.toNat] C f_q_step_218_2 rfl ?_
            refine m_callV C Rm Y [] [vi xs, vr 39 p0.toNat] ((q_E d).2 l D B H0 ad _ hS t804 p0 (by show A798 0 0 0 = p0 ∧ 0 ≤ p0 ∧ p0 ≤ 5; omega) (by show A798 0 0 24 ≤ A798 0 0 23 ∧ A798 0 0 23 ≤ A798 0 0 22; omega) pt_n800 (fun h9 => absurd ((g_n800 : A798 0 0 31 = 1).symm.trans h9) (by decide)) G807 (by show A798 0 0 27 = 4 - (d : Int) ∧ (d : Int) ≤ 4; omega)) cl_Mo_206 rfl (by decide) rfl rfl e_q_step_220 rfl rfl rfl ⟨by show _ ≤ (32 + 4 * d : Nat); omega, by show _ ≤ (630 + 300 * d : Nat); omega⟩ ?_
            rintro v812 A813 ⟨z816, rfl, hT_n815, hE_n815, raw_hz_n815, raw_hb_n815, raw_hn_n815, raw_hw_n815, raw_hm_n815, raw_hG_n815, raw_hK_n815⟩
            have hF_n815 := q805.trans (hE_n815.sub (em_pm _))
            show JM g D ad w0 A813 223 [(3, vi 5), (2, vi xs), (1, vi p0), (0, vr 0 0)] [vi z816, vi xs, vr 39 p0.toNat]
            have hz_n815 : 0 ≤ z816 ∧ z816 ≤ 119 := raw_hz_n815
            clear raw_hz_n815
            have hb_n815 : A813 0 0 24 ≤ A813 0 0 23 ∧ A813 0 0 23 ≤ A813 0 0 22 := raw_hb_n815
            clear raw_hb_n815
            have hm_n815 : A798 0 0 24 ≤ A813 0 0 24 ∧ A798 0 0 30 ≤ A813 0 0 30 ∧ A813 0 0 27 = A798 0 0 27 := raw_hm_n815
            clear raw_hm_n815
            have pt_n815 : pT A813 := raw_hn_n815
            have k0_n815 : A813 0 0 0 = A798 0 0 0 := hE_n815 0 0 0 rfl
            have k22_n815 : A813 0 0 22 = A798 0 0 22 := hE_n815 0 0 22 rfl
            have k28_n815 : A813 0 0 28 = A798 0 0 28 := hE_n815 0 0 28 rfl
            have k29_n815 : A813 0 0 29 = A798 0 0 29 := hE_n815 0 0 29 rfl
            have hG_n815 : nG p0.toNat A813 := raw_hG_n815
            have hK_n815 : nK p0.toNat (mu A798 36 p0.toNat xs.toNat z801) A813 := raw_hK_n815
            have Q817 : pQ p0.toNat (A 0 0 28) (A 0 0 29) (A 0 0 30) A A813 := pQ.emk (A2 := (mu A798 36 p0.toNat xs.toNat z801)) Q806 hE_n815 hK_n815 (by show A 0 0 30 ≤ A798 0 0 30; omega)
            have r34_n815 : A813 34 p0.toNat xs.toNat = 5 := Eq.trans (hE_n815 34 p0.toNat xs.toNat rfl) r34_n800
            have r35_n815 : A813 35 p0.toNat xs.toNat = z786 := Eq.trans (hE_n815 35 p0.toNat xs.toNat rfl) r35_n800
            have r36_n815 : A813 36 p0.toNat xs.toNat = z801 := Eq.trans (hE_n815 36 p0.toNat xs.toNat rfl) (mu_at A798 36 p0.toNat xs.toNat z801)
            have r39_n815 : A813 39 p0.toNat xs.toNat = (-1) := Eq.trans (hE_n815 39 p0.toNat xs.toNat rfl) r39_n800
            have r40_n815 : A813 40 p0.toNat xs.toNat = x30 := Eq.trans (hE_n815 40 p0.toNat xs.toNat rfl) r40_n800
            have g_n815 : A813 0 0 31 = 1 := wr_1 (hT_n815 0 0 31) (fun h9 => absurd ((g_n800 : A798 0 0 31 = 1).symm.trans (raw_hw_n815 h9).1) (by decide))
            refine m_iast C e_q_step_223 rfl (by omega) (by decide) (by omega) (by show xs < ((16 : Nat) : Int); omega) ?_
            have t818 : mTy (mu A813 39 p0.toNat xs.toNat z816) := hT_n815.mu (by show (-1) ≤ z816 ∧ z816 ≤ 119; omega)
            have q819 := hF_n815.mu (f := 39) (k := p0.toNat) (j := xs.toNat) (z := z816) (by simp [pm])
            have Q820 : pQ p0.toNat (A 0 0 28) (A 0 0 29) (A 0 0 30) A (mu A813 39 p0.toNat xs.toNat z816) := pQ.mu (A2 := A813) Q817 (by omega) (by omega) (by omega)
            have G821 : nG p0.toNat (mu A813 39 p0.toNat xs.toNat z816) := hG_n815
            refine m_blk 226 [(3, vi 5), (2, vi xs), (1, vi p0), (0, vr 0 0)] [vi 3, vi 5] C f_q_step_224_2 rfl ?_
            refine m_icmp_eq (tgt := 234) C e_q_step_226 (by decide) (by decide) (by decide) (fun c822 => (by omega : False).elim) (fun c822 => ?_)
            refine m_blk 231 [(3, vi 5), (2, vi xs), (1, vi p0), (0, vr 0 0)] [vi 4, vi 5] C f_q_step_229_2 rfl ?_
            refine m_icmp_ne (tgt := 238) C e_q_step_231 (by decide) (by decide) (by decide) (fun c823 => ?_) (fun c823 => (by omega : False).elim)
            refine m_blk 239 [(3, vi 5), (2, vi xs), (1, vi p0), (0, vr 0 0)] [vr 0 0] C f_q_step_238_1 rfl ?_
            refine m_getr C e_q_step_239 fg_Mo_33 rfl (by decide) rfl ?_
            refine m_blk 243 [(3, vi 5), (2, vi xs), (1, vi p0), (0, vr 0 0)] [vi p0, vr 18 0] C f_q_step_242_1 rfl ?_
            refine m_aald C p0.toNat e_q_step_243 rfl rfl rfl (by decide) (by decide) (by omega) (by show p0 < ((6 : Nat) : Int); omega) (mz _ _) ?_
            refine m_blk 246 [(3, vi 5), (2, vi xs), (1, vi p0), (0, vr 0 0)] [vr 0 0, vi xs, vr 38 p0.toNat] C f_q_step_244_2 rfl ?_
            obtain ⟨x824, hx824⟩ : ∃ x, A813 0 0 28 = x := ⟨_, rfl⟩
            have rx824 : 0 ≤ x824 ∧ x824 ≤ 16 := mrg hT_n815 hx824 rfl
            refine m_geti C e_q_step_246 fg_Mo_192 rfl (by decide) rfl x824 hx824 ?_
            refine m_iast C e_q_step_249 rfl (by omega) (by decide) (by omega) (by show xs < ((16 : Nat) : Int); omega) ?_
            have t825 : mTy (mu (mu A813 39 p0.toNat xs.toNat z816) 38 p0.toNat xs.toNat x824) := t818.mu (by show 0 ≤ x824 ∧ x824 ≤ 16; omega)
            have q826 := q819.mu (f := 38) (k := p0.toNat) (j := xs.toNat) (z := x824) (by simp [pm])
            have Q827 : pQ p0.toNat (A 0 0 28) (A 0 0 29) (A 0 0 30) A (mu (mu A813 39 p0.toNat xs.toNat z816) 38 p0.toNat xs.toNat x824) := pQ.mu (A2 := (mu A813 39 p0.toNat xs.toNat z816)) Q820 (by omega) (by omega) (by omega)
            have G828 : nG p0.toNat (mu (mu A813 39 p0.toNat xs.toNat z816) 38 p0.toNat xs.toNat x824) := G821
            refine m_blk 252 [(3, vi 5), (2, vi xs), (1, vi p0), (0, vr 0 0)] [vi 3, vi 5] C f_q_step_250_2 rfl ?_
            refine m_icmp_ne (tgt := 259) C e_q_step_252 (by decide) (by decide) (by decide) (fun c829 => ?_) (fun c829 => (by omega : False).elim)
            refine m_blk 260 [(3, vi 5), (2, vi xs), (1, vi p0), (0, vr 0 0)] [vr 0 0] C f_q_step_259_1 rfl ?_
            refine m_getr C e_q_step_260 fg_Mo_30 rfl (by decide) rfl ?_
            refine m_blk 264 [(3, vi 5), (2, vi xs), (1, vi p0), (0, vr 0 0)] [vi p0, vr 17 0] C f_q_step_263_1 rfl ?_
            refine m_aald C p0.toNat e_q_step_264 rfl rfl rfl (by decide) (by decide) (by omega) (by show p0 < ((6 : Nat) : Int); omega) (mz _ _) ?_
            refine m_blk 267 [(3, vi 5), (2, vi xs), (1, vi p0), (0, vr 0 0)] [vr 0 0, vi xs, vr 37 p0.toNat] C f_q_step_265_2 rfl ?_
            refine m_geti C e_q_step_267 fg_Mo_192 rfl (by decide) rfl x824 hx824 ?_
            refine m_iast C e_q_step_270 rfl (by omega) (by decide) (by omega) (by show xs < ((16 : Nat) : Int); omega) ?_
            have t830 : mTy (mu (mu (mu A813 39 p0.toNat xs.toNat z816) 38 p0.toNat xs.toNat x824) 37 p0.toNat xs.toNat x824) := t825.mu (by show 0 ≤ x824 ∧ x824 ≤ 16; omega)
            have q831 := q826.mu (f := 37) (k := p0.toNat) (j := xs.toNat) (z := x824) (by simp [pm])
            have Q832 : pQ p0.toNat (A 0 0 28) (A 0 0 29) (A 0 0 30) A (mu (mu (mu A813 39 p0.toNat xs.toNat z816) 38 p0.toNat xs.toNat x824) 37 p0.toNat xs.toNat x824) := pQ.mu (A2 := (mu (mu A813 39 p0.toNat xs.toNat z816) 38 p0.toNat xs.toNat x824)) Q827 (by omega) (by omega) (by omega)
            have G833 : nG p0.toNat (mu (mu (mu A813 39 p0.toNat xs.toNat z816) 38 p0.toNat xs.toNat x824) 37 p0.toNat xs.toNat x824) := G828
            exact m_vret C Rm E e_q_step_271 ⟨rfl, t830, q831, (by show A813 0 0 24 ≤ A813 0 0 23 ∧ A813 0 0 23 ≤ A813 0 0 22; omega), pt_n815, (fun h9 => absurd ((g_n815 : A813 0 0 31 = 1).symm.trans h9) (by decide)), (by show A 0 0 24 ≤ A813 0 0 24 ∧ A 0 0 28 ≤ A813 0 0 28 ∧ A 0 0 29 ≤ A813 0 0 29 ∧ A 0 0 30 ≤ A813 0 0 30 ∧ A813 0 0 27 = A 0 0 27; omega), G833, Q832⟩
      · refine m_blk 26 [(0, vr 0 0)] [vi 1, vr 0 0] C f_q_step_24_2 rfl ?_
        refine m_putz C e_q_step_26 fp_Mo_155 rfl (by decide) rfl (Or.inr rfl) ?_
        have t834 : mTy (mu A 0 0 31 1) := hT.mu (by show 0 ≤ 1 ∧ 1 ≤ 1; omega)
        have q835 := hE0.mu (f := 0) (k := 0) (j := 31) (z := 1) (by simp [pm])
        have Q836 : pQ p0.toNat (A 0 0 28) (A 0 0 29) (A 0 0 30) A (mu A 0 0 31 1) := pQ.fam (A2 := A) pQ.rfl' (fam_0 A p0.toNat 31 1)
        have G837 : nG p0.toNat (mu A 0 0 31 1) := hG
        exact m_vret C Rm E e_q_step_29 ⟨rfl, t834, q835, (by show A 0 0 24 ≤ A 0 0 23 ∧ A 0 0 23 ≤ A 0 0 22; omega), (fun h9 => absurd (show (1 : Int) = 0 from h9) (by decide)), (fun h9 => absurd (show (1 : Int) = 0 from h9) (by decide)), (by show A 0 0 24 ≤ A 0 0 24 ∧ A 0 0 28 ≤ A 0 0 28 ∧ A 0 0 29 ≤ A 0 0 29 ∧ A 0 0 30 ≤ A 0 0 30 ∧ A 0 0 27 = A 0 0 27; omega), G837, Q836⟩
  · refine m_blk 1 [(0, vr 0 0)] [vr 0 0] C f_q_step_0_1 rfl ?_
    refine m_geti C e_q_step_1 fg_Mo_155 rfl (by decide) rfl 1 g0 ?_
    refine m_if_ne (tgt := 24) C e_q_step_4 (by decide) (by decide) (fun c838 => ?_) (fun c838 => (by omega : False).elim)
    refine m_blk 26 [(0, vr 0 0)] [vi 1, vr 0 0] C f_q_step_24_2 rfl ?_
    refine m_putz C e_q_step_26 fp_Mo_155 rfl (by decide) rfl (Or.inr rfl) ?_
    have t839 : mTy (mu A 0 0 31 1) := hT.mu (by show 0 ≤ 1 ∧ 1 ≤ 1; omega)
    have q840 := hE0.mu (f := 0) (k := 0) (j := 31) (z := 1) (by simp [pm])
    have Q841 : pQ p0.toNat (A 0 0 28) (A 0 0 29) (A 0 0 30) A (mu A 0 0 31 1) := pQ.fam (A2 := A) pQ.rfl' (fam_0 A p0.toNat 31 1)
    have G842 : nG p0.toNat (mu A 0 0 31 1) := hG
    exact m_vret C Rm E e_q_step_29 ⟨rfl, t839, q840, (by show A 0 0 24 ≤ A 0 0 23 ∧ A 0 0 23 ≤ A 0 0 22; omega), (fun h9 => absurd (show (1 : Int) = 0 from h9) (by decide)), (fun h9 => absurd (show (1 : Int) = 0 from h9) (by decide)), (by show A 0 0 24 ≤ A 0 0 24 ∧ A 0 0 28 ≤ A 0 0 28 ∧ A 0 0 29 ≤ A 0 0 29 ∧ A 0 0 30 ≤ A 0 0 30 ∧ A 0 0 27 = A 0 0 27; omega), G842, Q841⟩

theorem f_q_block_0_1 : mblkB b_Mo_block [(0, .aload_n 0, vi 0)] = true := by decide +kernel
theorem e_q_block_1 : decode b_Mo_block 1 = .ok (.invokevirtual 179, 3) := by decide +kernel
theorem f_q_block_4_2 : mblkB b_Mo_block [(4, .aload_n 0, vi 0), (5, .bipush 59, vi 59)] = true := by decide +kernel
theorem e_q_block_7 : decode b_Mo_block 7 = .ok (.invokevirtual 173, 3) := by decide +kernel
theorem e_q_block_10 : decode b_Mo_block 10 = .ok (.ifCond .eq 14, 3) := by decide +kernel
theorem f_q_block_13_1 : mblkB b_Mo_block [(13, .aload_n 0, vi 0)] = true := by decide +kernel
theorem e_q_block_14 : decode b_Mo_block 14 = .ok (.invokevirtual 176, 3) := by decide +kernel
theorem f_q_block_17_1 : mblkB b_Mo_block [(17, .aload_n 0, vi 0)] = true := by decide +kernel
theorem e_q_block_18 : decode b_Mo_block 18 = .ok (.invokevirtual 179, 3) := by decide +kernel
theorem f_q_block_21_1 : mblkB b_Mo_block [(21, .goto (-17), vi 4)] = true := by decide +kernel
theorem e_q_block_24 : decode b_Mo_block 24 = .ok (.return_, 1) := by decide +kernel
set_option maxHeartbeats 40000000 in
set_option maxRecDepth 100000 in
theorem q_block (d : Nat) (hq9 : S_step d) : S_block d := by
  intro l D B H0 ad A hS hT p0 hp hb hn hl hG ho
  refine m_met (by decide) rfl (fun g w0 C Rm Y E => ?_)
  have hE0 : mEq (pm p0.toNat) A A := mEq.rfl'
  show JM g D ad w0 A 0 [(0, vr 0 0)] []
  obtain ⟨xs, hxs⟩ : ∃ x, A 0 0 28 = x := ⟨_, rfl⟩
  have rxs : 0 ≤ xs ∧ xs ≤ 16 := mrg hT hxs rfl
  have rt : A 0 0 22 ≤ 120 := (hT 0 0 22).2
  have rd9 : 0 ≤ A 0 0 29 ∧ 0 ≤ A 0 0 30 := ⟨(hT 0 0 29).1, (hT 0 0 30).1⟩
  rcases (show A 0 0 31 = 0 ∨ A 0 0 31 = 1 from by have w8 : 0 ≤ A 0 0 31 ∧ A 0 0 31 ≤ 1 := hT 0 0 31; omega) with g0 | g0
  · have hl0 := hl g0
    refine m_blk 1 [(0, vr 0 0)] [vr 0 0] C f_q_block_0_1 rfl ?_
    refine m_callV C Rm Y [] [] (hq9 l D B H0 ad _ hS hT p0 (by show A 0 0 0 = p0 ∧ 0 ≤ p0 ∧ p0 ≤ 5; omega) (by show A 0 0 24 ≤ A 0 0 23 ∧ A 0 0 23 ≤ A 0 0 22; omega) hn (fun _ => by show A 0 0 30 + 3 * A 0 0 29 ≤ A 0 0 24; omega) hG (by show A 0 0 27 = 4 - (d : Int) ∧ (d : Int) ≤ 4; omega)) cl_Mo_179 rfl (by decide) rfl rfl e_q_block_1 rfl rfl rfl ⟨by show _ ≤ (33 + 4 * d : Nat); omega, by show _ ≤ (660 + 300 * d : Nat); omega⟩ ?_
    rintro v1 A2 ⟨rfl, hT_n4, hE_n4, raw_hb_n4, raw_hn_n4, raw_hw_n4, raw_hm_n4, raw_hG_n4, raw_hQ_n4⟩
    have hF_n4 := hE0.trans (hE_n4.sub (fun _ _ _ h => h))
    show JM g D ad w0 A2 4 [(0, vr 0 0)] []
    have hb_n4 : A2 0 0 24 ≤ A2 0 0 23 ∧ A2 0 0 23 ≤ A2 0 0 22 := raw_hb_n4
    clear raw_hb_n4
    have hm_n4 : A 0 0 24 ≤ A2 0 0 24 ∧ A 0 0 28 ≤ A2 0 0 28 ∧ A 0 0 29 ≤ A2 0 0 29 ∧ A 0 0 30 ≤ A2 0 0 30 ∧ A2 0 0 27 = A 0 0 27 := raw_hm_n4
    clear raw_hm_n4
    have pt_n4 : pT A2 := raw_hn_n4
    have k0_n4 : A2 0 0 0 = A 0 0 0 := hE_n4 0 0 0 rfl
    have k22_n4 : A2 0 0 22 = A 0 0 22 := hE_n4 0 0 22 rfl
    have hG_n4 : nG p0.toNat A2 := raw_hG_n4
    have hV_n4 : pV p0.toNat (4 - (d : Int)) A A2 := raw_hw_n4
    clear raw_hw_n4
    have hQ_n4 : pQ p0.toNat (A 0 0 28) (A 0 0 29) (A 0 0 30) A A2 := raw_hQ_n4
    clear raw_hQ_n4
    have Q5 : pQ p0.toNat (A 0 0 28) (A 0 0 29) (A 0 0 30) A A2 := pQ.trans pQ.rfl' (pQ.le hQ_n4 (by show A 0 0 28 ≤ A 0 0 28; omega) (by show A 0 0 29 ≤ A 0 0 29; omega) (by show A 0 0 30 ≤ A 0 0 30; omega))
    rcases (show A2 0 0 31 = 0 ∨ A2 0 0 31 = 1 from by have w9 := hT_n4 0 0 31; have w8 : 0 ≤ A2 0 0 31 ∧ A2 0 0 31 ≤ 1 := w9; omega) with g_n4 | g_n4
    · have u_n4 : A 0 0 24 - A 0 0 30 - 3 * A 0 0 29 ≤ A2 0 0 24 - A2 0 0 30 - 3 * A2 0 0 29 ∧ A 0 0 28 + 1 ≤ A2 0 0 28 := ⟨(hV_n4 g_n4).2.1, (hV_n4 g_n4).2.2.1⟩
      have hd_4 : ∀ (N : Nat) (A2 : mA), mTy A2 → mEq (pm p0.toNat) A A2 → A2 0 0 24 ≤ A2 0 0 23 ∧ A2 0 0 23 ≤ A2 0 0 22 → pT A2 → A 0 0 24 ≤ A2 0 0 24 ∧ A 0 0 28 ≤ A2 0 0 28 ∧ A 0 0 29 ≤ A2 0 0 29 ∧ A 0 0 30 ≤ A2 0 0 30 ∧ A2 0 0 27 = A 0 0 27 ∧ A2 0 0 22 = A 0 0 22 ∧ A2 0 0 0 = p0 → nG p0.toNat A2 → pQ p0.toNat (A 0 0 28) (A 0 0 29) (A 0 0 30) A A2 → pV p0.toNat (4 - (d : Int)) A A2 → (200 - A2 0 0 24) < (N : Int) → JM g D ad w0 A2 4 [(0, vr 0 0)] [] := by
        intro N
        induction N with
        | zero => intro A2 hT2 hE2 ib iT im iG iQ iV hm; exact absurd hm (by omega)
        | succ N ih =>
          intro A2 hT2 hE2 ib iT im iG iQ iV hm
          rcases (show A2 0 0 31 = 0 ∨ A2 0 0 31 = 1 from by have w8 : 0 ≤ A2 0 0 31 ∧ A2 0 0 31 ≤ 1 := hT2 0 0 31; omega) with g2 | g2
          · have u2 : A 0 0 24 - A 0 0 30 - 3 * A 0 0 29 ≤ A2 0 0 24 - A2 0 0 30 - 3 * A2 0 0 29 ∧ A 0 0 28 + 1 ≤ A2 0 0 28 := ⟨(iV g2).2.1, (iV g2).2.2.1⟩
            have g0 : A 0 0 31 = 0 := (iV g2).1
            have hl0 := hl g0
            refine m_blk 7 [(0, vr 0 0)] [vi 59, vr 0 0] C f_q_block_4_2 rfl ?_
            refine m_callV C Rm Y [vi 59] [] (q_isSign l D B H0 ad _ hT2 59 (by show -2147483648 ≤ 59 ∧ 59 ≤ 2147483647; omega)) cl_Mo_173 rfl (by decide) rfl rfl e_q_block_7 rfl rfl rfl ⟨by show _ ≤ (33 + 4 * d : Nat); omega, by show _ ≤ (660 + 300 * d : Nat); omega⟩ ?_
            rintro v6 A7 ⟨z10, rfl, rfl, raw_hz_n9⟩
            show JM g D ad w0 A2 10 [(0, vr 0 0)] [vi z10]
            have hz_n9 : z10 = 1 ∧ A2 0 0 31 = 0 ∧ A2 0 0 25 = 4 ∧ A2 0 0 26 = 59 ∨ z10 = 0 ∧ ¬ (A2 0 0 31 = 0 ∧ A2 0 0 25 = 4 ∧ A2 0 0 26 = 59) := raw_hz_n9
            clear raw_hz_n9
            rcases hz_n9 with ⟨e_n9, hz_n9⟩ | ⟨e_n9, hz_n9⟩
            · subst e_n9
              have bt_n9 : A2 0 0 24 < A2 0 0 23 := pT_lt (A := A2) iT hz_n9.1 (by show ¬ A2 0 0 25 = 0; omega)
              refine m_if_eq (tgt := 24) C e_q_block_10 (by decide) (by decide) (fun c11 => (by omega : False).elim) (fun c11 => ?_)
              refine m_blk 14 [(0, vr 0 0)] [vr 0 0] C f_q_block_13_1 rfl ?_
              refine m_callV C Rm Y [] [] (q_next l D B H0 ad _ hS hT2 (by show A2 0 0 23 ≤ A2 0 0 22; omega)) cl_Mo_176 rfl (by decide) rfl rfl e_q_block_14 rfl rfl rfl ⟨by show _ ≤ (33 + 4 * d : Nat); omega, by show _ ≤ (660 + 300 * d : Nat); omega⟩ ?_
              rintro v12 A13 ⟨rfl, hT_n15, hE_n15, raw_hw_n15, raw_hb_n15⟩
              have hF_n15 := hE2.trans (hE_n15.sub (nm_pm _))
              show JM g D ad w0 A13 17 [(0, vr 0 0)] []
              obtain ⟨b1_n15, b2_n15, b3_n15, pt_n15⟩ : A2 0 0 23 ≤ A13 0 0 24 ∧ A13 0 0 24 ≤ A13 0 0 23 ∧ A13 0 0 23 ≤ A13 0 0 22 ∧ pT A13 := raw_hb_n15 g2
              clear raw_hb_n15 raw_hw_n15
              have k0_n15 : A13 0 0 0 = A2 0 0 0 := hE_n15 0 0 0 rfl
              have k22_n15 : A13 0 0 22 = A2 0 0 22 := hE_n15 0 0 22 rfl
              have k27_n15 : A13 0 0 27 = A2 0 0 27 := hE_n15 0 0 27 rfl
              have k28_n15 : A13 0 0 28 = A2 0 0 28 := hE_n15 0 0 28 rfl
              have k29_n15 : A13 0 0 29 = A2 0 0 29 := hE_n15 0 0 29 rfl
              have k30_n15 : A13 0 0 30 = A2 0 0 30 := hE_n15 0 0 30 rfl
              have G16 : nG p0.toNat A13 := nG.nm (A := A2) iG hE_n15
              have Q17 : pQ p0.toNat (A 0 0 28) (A 0 0 29) (A 0 0 30) A A13 := pQ.fam (A2 := A2) iQ (fam_nm _ hE_n15)
              rcases (show A13 0 0 31 = 0 ∨ A13 0 0 31 = 1 from by have w9 := hT_n15 0 0 31; have w8 : 0 ≤ A13 0 0 31 ∧ A13 0 0 31 ≤ 1 := w9; omega) with g_n15 | g_n15
              · refine m_blk 18 [(0, vr 0 0)] [vr 0 0] C f_q_block_17_1 rfl ?_
                refine m_callV C Rm Y [] [] (hq9 l D B H0 ad _ hS hT_n15 p0 (by show A13 0 0 0 = p0 ∧ 0 ≤ p0 ∧ p0 ≤ 5; omega) (by show A13 0 0 24 ≤ A13 0 0 23 ∧ A13 0 0 23 ≤ A13 0 0 22; omega) pt_n15 (fun _ => by show A13 0 0 30 + 3 * A13 0 0 29 ≤ A13 0 0 24; omega) G16 (by show A13 0 0 27 = 4 - (d : Int) ∧ (d : Int) ≤ 4; omega)) cl_Mo_179 rfl (by decide) rfl rfl e_q_block_18 rfl rfl rfl ⟨by show _ ≤ (33 + 4 * d : Nat); omega, by show _ ≤ (660 + 300 * d : Nat); omega⟩ ?_
                rintro v18 A19 ⟨rfl, hT_n21, hE_n21, raw_hb_n21, raw_hn_n21, raw_hw_n21, raw_hm_n21, raw_hG_n21, raw_hQ_n21⟩
                have hF_n21 := hF_n15.trans (hE_n21.sub (fun _ _ _ h => h))
                show JM g D ad w0 A19 21 [(0, vr 0 0)] []
                have hb_n21 : A19 0 0 24 ≤ A19 0 0 23 ∧ A19 0 0 23 ≤ A19 0 0 22 := raw_hb_n21
                clear raw_hb_n21
                have hm_n21 : A13 0 0 24 ≤ A19 0 0 24 ∧ A13 0 0 28 ≤ A19 0 0 28 ∧ A13 0 0 29 ≤ A19 0 0 29 ∧ A13 0 0 30 ≤ A19 0 0 30 ∧ A19 0 0 27 = A13 0 0 27 := raw_hm_n21
                clear raw_hm_n21
                have pt_n21 : pT A19 := raw_hn_n21
                have k0_n21 : A19 0 0 0 = A13 0 0 0 := hE_n21 0 0 0 rfl
                have k22_n21 : A19 0 0 22 = A13 0 0 22 := hE_n21 0 0 22 rfl
                have hG_n21 : nG p0.toNat A19 := raw_hG_n21
                have hV_n21 : pV p0.toNat (4 - (d : Int)) A13 A19 := raw_hw_n21
                clear raw_hw_n21
                have hQ_n21 : pQ p0.toNat (A13 0 0 28) (A13 0 0 29) (A13 0 0 30) A13 A19 := raw_hQ_n21
                clear raw_hQ_n21
                have Q22 : pQ p0.toNat (A 0 0 28) (A 0 0 29) (A 0 0 30) A A19 := pQ.trans Q17 (pQ.le hQ_n21 (by show A 0 0 28 ≤ A13 0 0 28; omega) (by show A 0 0 29 ≤ A13 0 0 29; omega) (by show A 0 0 30 ≤ A13 0 0 30; omega))
                rcases (show A19 0 0 31 = 0 ∨ A19 0 0 31 = 1 from by have w9 := hT_n21 0 0 31; have w8 : 0 ≤ A19 0 0 31 ∧ A19 0 0 31 ≤ 1 := w9; omega) with g_n21 | g_n21
                · have u_n21 : A13 0 0 24 - A13 0 0 30 - 3 * A13 0 0 29 ≤ A19 0 0 24 - A19 0 0 30 - 3 * A19 0 0 29 ∧ A13 0 0 28 + 1 ≤ A19 0 0 28 := ⟨(hV_n21 g_n21).2.1, (hV_n21 g_n21).2.2.1⟩
                  refine m_blk 4 [(0, vr 0 0)] [] C f_q_block_21_1 rfl ?_
                  refine m_loc [(0, vr 0 0)] ⟨rfl, trivial⟩ ?_
                  exact ih A19 hT_n21 hF_n21 (by show A19 0 0 24 ≤ A19 0 0 23 ∧ A19 0 0 23 ≤ A19 0 0 22; omega) pt_n21 (by show A 0 0 24 ≤ A19 0 0 24 ∧ A 0 0 28 ≤ A19 0 0 28 ∧ A 0 0 29 ≤ A19 0 0 29 ∧ A 0 0 30 ≤ A19 0 0 30 ∧ A19 0 0 27 = A 0 0 27 ∧ A19 0 0 22 = A 0 0 22 ∧ A19 0 0 0 = p0; omega) hG_n21 Q22 (pV.trans (pV.tok iV (fam_nm _ hE_n15) (hE_n15 0 0 28 rfl) (hE_n15 0 0 29 rfl) (hE_n15 0 0 30 rfl) (fun _ => g2) (by show A2 0 0 24 ≤ A13 0 0 24; omega)) hV_n21 hQ_n21 (by omega) (by omega) (by omega)) (by have hm9 := hm; show (200 - A19 0 0 24) < _; omega)
                · refine m_blk 4 [(0, vr 0 0)] [] C f_q_block_21_1 rfl ?_
                  refine m_loc [(0, vr 0 0)] ⟨rfl, trivial⟩ ?_
                  exact ih A19 hT_n21 hF_n21 (by show A19 0 0 24 ≤ A19 0 0 23 ∧ A19 0 0 23 ≤ A19 0 0 22; omega) pt_n21 (by show A 0 0 24 ≤ A19 0 0 24 ∧ A 0 0 28 ≤ A19 0 0 28 ∧ A 0 0 29 ≤ A19 0 0 29 ∧ A 0 0 30 ≤ A19 0 0 30 ∧ A19 0 0 27 = A 0 0 27 ∧ A19 0 0 22 = A 0 0 22 ∧ A19 0 0 0 = p0; omega) hG_n21 Q22 (fun h9 => absurd ((g_n21 : A19 0 0 31 = 1).symm.trans h9) (by decide)) (by have hm9 := hm; show (200 - A19 0 0 24) < _; omega)
              · refine m_blk 18 [(0, vr 0 0)] [vr 0 0] C f_q_block_17_1 rfl ?_
                refine m_callV C Rm Y [] [] (hq9 l D B H0 ad _ hS hT_n15 p0 (by show A13 0 0 0 = p0 ∧ 0 ≤ p0 ∧ p0 ≤ 5; omega) (by show A13 0 0 24 ≤ A13 0 0 23 ∧ A13 0 0 23 ≤ A13 0 0 22; omega) pt_n15 (fun h9 => absurd ((g_n15 : A13 0 0 31 = 1).symm.trans h9) (by decide)) G16 (by show A13 0 0 27 = 4 - (d : Int) ∧ (d : Int) ≤ 4; omega)) cl_Mo_179 rfl (by decide) rfl rfl e_q_block_18 rfl rfl rfl ⟨by show _ ≤ (33 + 4 * d : Nat); omega, by show _ ≤ (660 + 300 * d : Nat); omega⟩ ?_
                rintro v23 A24 ⟨rfl, hT_n26, hE_n26, raw_hb_n26, raw_hn_n26, raw_hw_n26, raw_hm_n26, raw_hG_n26, raw_hQ_n26⟩
                have hF_n26 := hF_n15.trans (hE_n26.sub (fun _ _ _ h => h))
                show JM g D ad w0 A24 21 [(0, vr 0 0)] []
                have hb_n26 : A24 0 0 24 ≤ A24 0 0 23 ∧ A24 0 0 23 ≤ A24 0 0 22 := raw_hb_n26
                clear raw_hb_n26
                have hm_n26 : A13 0 0 24 ≤ A24 0 0 24 ∧ A13 0 0 28 ≤ A24 0 0 28 ∧ A13 0 0 29 ≤ A24 0 0 29 ∧ A13 0 0 30 ≤ A24 0 0 30 ∧ A24 0 0 27 = A13 0 0 27 := raw_hm_n26
                clear raw_hm_n26
                have pt_n26 : pT A24 := raw_hn_n26
                have k0_n26 : A24 0 0 0 = A13 0 0 0 := hE_n26 0 0 0 rfl
                have k22_n26 : A24 0 0 22 = A13 0 0 22 := hE_n26 0 0 22 rfl
                have hG_n26 : nG p0.toNat A24 := raw_hG_n26
                have hV_n26 : pV p0.toNat (4 - (d : Int)) A13 A24 := raw_hw_n26
                clear raw_hw_n26
                have hQ_n26 : pQ p0.toNat (A13 0 0 28) (A13 0 0 29) (A13 0 0 30) A13 A24 := raw_hQ_n26
                clear raw_hQ_n26
                have Q27 : pQ p0.toNat (A 0 0 28) (A 0 0 29) (A 0 0 30) A A24 := pQ.trans Q17 (pQ.le hQ_n26 (by show A 0 0 28 ≤ A13 0 0 28; omega) (by show A 0 0 29 ≤ A13 0 0 29; omega) (by show A 0 0 30 ≤ A13 0 0 30; omega))
                have g_n26 : A24 0 0 31 = 1 := wr_1 (hT_n26 0 0 31) (fun h9 => absurd ((g_n15 : A13 0 0 31 = 1).symm.trans (hV_n26 h9).1) (by decide))
                refine m_blk 4 [(0, vr 0 0)] [] C f_q_block_21_1 rfl ?_
                refine m_loc [(0, vr 0 0)] ⟨rfl, trivial⟩ ?_
                exact ih A24 hT_n26 hF_n26 (by show A24 0 0 24 ≤ A24 0 0 23 ∧ A24 0 0 23 ≤ A24 0 0 22; omega) pt_n26 (by show A 0 0 24 ≤ A24 0 0 24 ∧ A 0 0 28 ≤ A24 0 0 28 ∧ A 0 0 29 ≤ A24 0 0 29 ∧ A 0 0 30 ≤ A24 0 0 30 ∧ A24 0 0 27 = A 0 0 27 ∧ A24 0 0 22 = A 0 0 22 ∧ A24 0 0 0 = p0; omega) hG_n26 Q27 (fun h9 => absurd ((g_n26 : A24 0 0 31 = 1).symm.trans h9) (by decide)) (by have hm9 := hm; show (200 - A24 0 0 24) < _; omega)
            · subst e_n9
              clear hz_n9
              refine m_if_eq (tgt := 24) C e_q_block_10 (by decide) (by decide) (fun c28 => ?_) (fun c28 => (by omega : False).elim)
              exact m_vret C Rm E e_q_block_24 ⟨rfl, hT2, hE2, (by show A2 0 0 24 ≤ A2 0 0 23 ∧ A2 0 0 23 ≤ A2 0 0 22; omega), iT, iV, (by show A 0 0 24 ≤ A2 0 0 24 ∧ A 0 0 28 ≤ A2 0 0 28 ∧ A 0 0 29 ≤ A2 0 0 29 ∧ A 0 0 30 ≤ A2 0 0 30 ∧ A2 0 0 27 = A 0 0 27; omega), iG, iQ⟩
          · refine m_blk 7 [(0, vr 0 0)] [vi 59, vr 0 0] C f_q_block_4_2 rfl ?_
            refine m_callV C Rm Y [vi 59] [] (q_isSign l D B H0 ad _ hT2 59 (by show -2147483648 ≤ 59 ∧ 59 ≤ 2147483647; omega)) cl_Mo_173 rfl (by decide) rfl rfl e_q_block_7 rfl rfl rfl ⟨by show _ ≤ (33 + 4 * d : Nat); omega, by show _ ≤ (660 + 300 * d : Nat); omega⟩ ?_
            rintro v29 A30 ⟨z33, rfl, rfl, raw_hz_n32⟩
            show JM g D ad w0 A2 10 [(0, vr 0 0)] [vi z33]
            have hz_n32 : z33 = 1 ∧ A2 0 0 31 = 0 ∧ A2 0 0 25 = 4 ∧ A2 0 0 26 = 59 ∨ z33 = 0 ∧ ¬ (A2 0 0 31 = 0 ∧ A2 0 0 25 = 4 ∧ A2 0 0 26 = 59) := raw_hz_n32
            clear raw_hz_n32
            rcases hz_n32 with ⟨e_n32, hz_n32⟩ | ⟨e_n32, hz_n32⟩
            · subst e_n32
              exact (by omega : False).elim
            · subst e_n32
              clear hz_n32
              refine m_if_eq (tgt := 24) C e_q_block_10 (by decide) (by decide) (fun c34 => ?_) (fun c34 => (by omega : False).elim)
              exact m_vret C Rm E e_q_block_24 ⟨rfl, hT2, hE2, (by show A2 0 0 24 ≤ A2 0 0 23 ∧ A2 0 0 23 ≤ A2 0 0 22; omega), iT, (fun h9 => absurd ((g2 : A2 0 0 31 = 1).symm.trans h9) (by decide)), (by show A 0 0 24 ≤ A2 0 0 24 ∧ A 0 0 28 ≤ A2 0 0 28 ∧ A 0 0 29 ≤ A2 0 0 29 ∧ A 0 0 30 ≤ A2 0 0 30 ∧ A2 0 0 27 = A 0 0 27; omega), iG, iQ⟩
      refine m_loc [(0, vr 0 0)] ⟨rfl, trivial⟩ ?_
      exact hd_4 (Int.toNat ((200 - A2 0 0 24)) + 1) A2 hT_n4 hF_n4 (by show A2 0 0 24 ≤ A2 0 0 23 ∧ A2 0 0 23 ≤ A2 0 0 22; omega) pt_n4 (by show A 0 0 24 ≤ A2 0 0 24 ∧ A 0 0 28 ≤ A2 0 0 28 ∧ A 0 0 29 ≤ A2 0 0 29 ∧ A 0 0 30 ≤ A2 0 0 30 ∧ A2 0 0 27 = A 0 0 27 ∧ A2 0 0 22 = A 0 0 22 ∧ A2 0 0 0 = p0; omega) hG_n4 Q5 hV_n4 (by show (200 - A2 0 0 24) < _; omega)
    · have hd_4 : ∀ (N : Nat) (A2 : mA), mTy A2 → mEq (pm p0.toNat) A A2 → A2 0 0 24 ≤ A2 0 0 23 ∧ A2 0 0 23 ≤ A2 0 0 22 → pT A2 → A 0 0 24 ≤ A2 0 0 24 ∧ A 0 0 28 ≤ A2 0 0 28 ∧ A 0 0 29 ≤ A2 0 0 29 ∧ A 0 0 30 ≤ A2 0 0 30 ∧ A2 0 0 27 = A 0 0 27 ∧ A2 0 0 22 = A 0 0 22 ∧ A2 0 0 0 = p0 → nG p0.toNat A2 → pQ p0.toNat (A 0 0 28) (A 0 0 29) (A 0 0 30) A A2 → pV p0.toNat (4 - (d : Int)) A A2 → (200 - A2 0 0 24) < (N : Int) → JM g D ad w0 A2 4 [(0, vr 0 0)] [] := by
        intro N
        induction N with
        | zero => intro A2 hT2 hE2 ib iT im iG iQ iV hm; exact absurd hm (by omega)
        | succ N ih =>
          intro A2 hT2 hE2 ib iT im iG iQ iV hm
          rcases (show A2 0 0 31 = 0 ∨ A2 0 0 31 = 1 from by have w8 : 0 ≤ A2 0 0 31 ∧ A2 0 0 31 ≤ 1 := hT2 0 0 31; omega) with g2 | g2
          · have u2 : A 0 0 24 - A 0 0 30 - 3 * A 0 0 29 ≤ A2 0 0 24 - A2 0 0 30 - 3 * A2 0 0 29 ∧ A 0 0 28 + 1 ≤ A2 0 0 28 := ⟨(iV g2).2.1, (iV g2).2.2.1⟩
            have g0 : A 0 0 31 = 0 := (iV g2).1
            have hl0 := hl g0
            refine m_blk 7 [(0, vr 0 0)] [vi 59, vr 0 0] C f_q_block_4_2 rfl ?_
            refine m_callV C Rm Y [vi 59] [] (q_isSign l D B H0 ad _ hT2 59 (by show -2147483648 ≤ 59 ∧ 59 ≤ 2147483647; omega)) cl_Mo_173 rfl (by decide) rfl rfl e_q_block_7 rfl rfl rfl ⟨by show _ ≤ (33 + 4 * d : Nat); omega, by show _ ≤ (660 + 300 * d : Nat); omega⟩ ?_
            rintro v35 A36 ⟨z39, rfl, rfl, raw_hz_n38⟩
            show JM g D ad w0 A2 10 [(0, vr 0 0)] [vi z39]
            have hz_n38 : z39 = 1 ∧ A2 0 0 31 = 0 ∧ A2 0 0 25 = 4 ∧ A2 0 0 26 = 59 ∨ z39 = 0 ∧ ¬ (A2 0 0 31 = 0 ∧ A2 0 0 25 = 4 ∧ A2 0 0 26 = 59) := raw_hz_n38
            clear raw_hz_n38
            rcases hz_n38 with ⟨e_n38, hz_n38⟩ | ⟨e_n38, hz_n38⟩
            · subst e_n38
              have bt_n38 : A2 0 0 24 < A2 0 0 23 := pT_lt (A := A2) iT hz_n38.1 (by show ¬ A2 0 0 25 = 0; omega)
              refine m_if_eq (tgt := 24) C e_q_block_10 (by decide) (by decide) (fun c40 => (by omega : False).elim) (fun c40 => ?_)
              refine m_blk 14 [(0, vr 0 0)] [vr 0 0] C f_q_block_13_1 rfl ?_
              refine m_callV C Rm Y [] [] (q_next l D B H0 ad _ hS hT2 (by show A2 0 0 23 ≤ A2 0 0 22; omega)) cl_Mo_176 rfl (by decide) rfl rfl e_q_block_14 rfl rfl rfl ⟨by show _ ≤ (33 + 4 * d : Nat); omega, by show _ ≤ (660 + 300 * d : Nat); omega⟩ ?_
              rintro v41 A42 ⟨rfl, hT_n44, hE_n44, raw_hw_n44, raw_hb_n44⟩
              have hF_n44 := hE2.trans (hE_n44.sub (nm_pm _))
              show JM g D ad w0 A42 17 [(0, vr 0 0)] []
              obtain ⟨b1_n44, b2_n44, b3_n44, pt_n44⟩ : A2 0 0 23 ≤ A42 0 0 24 ∧ A42 0 0 24 ≤ A42 0 0 23 ∧ A42 0 0 23 ≤ A42 0 0 22 ∧ pT A42 := raw_hb_n44 g2
              clear raw_hb_n44 raw_hw_n44
              have k0_n44 : A42 0 0 0 = A2 0 0 0 := hE_n44 0 0 0 rfl
              have k22_n44 : A42 0 0 22 = A2 0 0 22 := hE_n44 0 0 22 rfl
              have k27_n44 : A42 0 0 27 = A2 0 0 27 := hE_n44 0 0 27 rfl
              have k28_n44 : A42 0 0 28 = A2 0 0 28 := hE_n44 0 0 28 rfl
              have k29_n44 : A42 0 0 29 = A2 0 0 29 := hE_n44 0 0 29 rfl
              have k30_n44 : A42 0 0 30 = A2 0 0 30 := hE_n44 0 0 30 rfl
              have G45 : nG p0.toNat A42 := nG.nm (A := A2) iG hE_n44
              have Q46 : pQ p0.toNat (A 0 0 28) (A 0 0 29) (A 0 0 30) A A42 := pQ.fam (A2 := A2) iQ (fam_nm _ hE_n44)
              rcases (show A42 0 0 31 = 0 ∨ A42 0 0 31 = 1 from by have w9 := hT_n44 0 0 31; have w8 : 0 ≤ A42 0 0 31 ∧ A42 0 0 31 ≤ 1 := w9; omega) with g_n44 | g_n44
              · refine m_blk 18 [(0, vr 0 0)] [vr 0 0] C f_q_block_17_1 rfl ?_
                refine m_callV C Rm Y [] [] (hq9 l D B H0 ad _ hS hT_n44 p0 (by show A42 0 0 0 = p0 ∧ 0 ≤ p0 ∧ p0 ≤ 5; omega) (by show A42 0 0 24 ≤ A42 0 0 23 ∧ A42 0 0 23 ≤ A42 0 0 22; omega) pt_n44 (fun _ => by show A42 0 0 30 + 3 * A42 0 0 29 ≤ A42 0 0 24; omega) G45 (by show A42 0 0 27 = 4 - (d : Int) ∧ (d : Int) ≤ 4; omega)) cl_Mo_179 rfl (by decide) rfl rfl e_q_block_18 rfl rfl rfl ⟨by show _ ≤ (33 + 4 * d : Nat); omega, by show _ ≤ (660 + 300 * d : Nat); omega⟩ ?_
                rintro v47 A48 ⟨rfl, hT_n50, hE_n50, raw_hb_n50, raw_hn_n50, raw_hw_n50, raw_hm_n50, raw_hG_n50, raw_hQ_n50⟩
                have hF_n50 := hF_n44.trans (hE_n50.sub (fun _ _ _ h => h))
                show JM g D ad w0 A48 21 [(0, vr 0 0)] []
                have hb_n50 : A48 0 0 24 ≤ A48 0 0 23 ∧ A48 0 0 23 ≤ A48 0 0 22 := raw_hb_n50
                clear raw_hb_n50
                have hm_n50 : A42 0 0 24 ≤ A48 0 0 24 ∧ A42 0 0 28 ≤ A48 0 0 28 ∧ A42 0 0 29 ≤ A48 0 0 29 ∧ A42 0 0 30 ≤ A48 0 0 30 ∧ A48 0 0 27 = A42 0 0 27 := raw_hm_n50
                clear raw_hm_n50
                have pt_n50 : pT A48 := raw_hn_n50
                have k0_n50 : A48 0 0 0 = A42 0 0 0 := hE_n50 0 0 0 rfl
                have k22_n50 : A48 0 0 22 = A42 0 0 22 := hE_n50 0 0 22 rfl
                have hG_n50 : nG p0.toNat A48 := raw_hG_n50
                have hV_n50 : pV p0.toNat (4 - (d : Int)) A42 A48 := raw_hw_n50
                clear raw_hw_n50
                have hQ_n50 : pQ p0.toNat (A42 0 0 28) (A42 0 0 29) (A42 0 0 30) A42 A48 := raw_hQ_n50
                clear raw_hQ_n50
                have Q51 : pQ p0.toNat (A 0 0 28) (A 0 0 29) (A 0 0 30) A A48 := pQ.trans Q46 (pQ.le hQ_n50 (by show A 0 0 28 ≤ A42 0 0 28; omega) (by show A 0 0 29 ≤ A42 0 0 29; omega) (by show A 0 0 30 ≤ A42 0 0 30; omega))
                rcases (show A48 0 0 31 = 0 ∨ A48 0 0 31 = 1 from by have w9 := hT_n50 0 0 31; have w8 : 0 ≤ A48 0 0 31 ∧ A48 0 0 31 ≤ 1 := w9; omega) with g_n50 | g_n50
                · have u_n50 : A42 0 0 24 - A42 0 0 30 - 3 * A42 0 0 29 ≤ A48 0 0 24 - A48 0 0 30 - 3 * A48 0 0 29 ∧ A42 0 0 28 + 1 ≤ A48 0 0 28 := ⟨(hV_n50 g_n50).2.1, (hV_n50 g_n50).2.2.1⟩
                  refine m_blk 4 [(0, vr 0 0)] [] C f_q_block_21_1 rfl ?_
                  refine m_loc [(0, vr 0 0)] ⟨rfl, trivial⟩ ?_
                  exact ih A48 hT_n50 hF_n50 (by show A48 0 0 24 ≤ A48 0 0 23 ∧ A48 0 0 23 ≤ A48 0 0 22; omega) pt_n50 (by show A 0 0 24 ≤ A48 0 0 24 ∧ A 0 0 28 ≤ A48 0 0 28 ∧ A 0 0 29 ≤ A48 0 0 29 ∧ A 0 0 30 ≤ A48 0 0 30 ∧ A48 0 0 27 = A 0 0 27 ∧ A48 0 0 22 = A 0 0 22 ∧ A48 0 0 0 = p0; omega) hG_n50 Q51 (pV.trans (pV.tok iV (fam_nm _ hE_n44) (hE_n44 0 0 28 rfl) (hE_n44 0 0 29 rfl) (hE_n44 0 0 30 rfl) (fun _ => g2) (by show A2 0 0 24 ≤ A42 0 0 24; omega)) hV_n50 hQ_n50 (by omega) (by omega) (by omega)) (by have hm9 := hm; show (200 - A48 0 0 24) < _; omega)
                · refine m_blk 4 [(0, vr 0 0)] [] C f_q_block_21_1 rfl ?_
                  refine m_loc [(0, vr 0 0)] ⟨rfl, trivial⟩ ?_
                  exact ih A48 hT_n50 hF_n50 (by show A48 0 0 24 ≤ A48 0 0 23 ∧ A48 0 0 23 ≤ A48 0 0 22; omega) pt_n50 (by show A 0 0 24 ≤ A48 0 0 24 ∧ A 0 0 28 ≤ A48 0 0 28 ∧ A 0 0 29 ≤ A48 0 0 29 ∧ A 0 0 30 ≤ A48 0 0 30 ∧ A48 0 0 27 = A 0 0 27 ∧ A48 0 0 22 = A 0 0 22 ∧ A48 0 0 0 = p0; omega) hG_n50 Q51 (fun h9 => absurd ((g_n50 : A48 0 0 31 = 1).symm.trans h9) (by decide)) (by have hm9 := hm; show (200 - A48 0 0 24) < _; omega)
              · refine m_blk 18 [(0, vr 0 0)] [vr 0 0] C f_q_block_17_1 rfl ?_
                refine m_callV C Rm Y [] [] (hq9 l D B H0 ad _ hS hT_n44 p0 (by show A42 0 0 0 = p0 ∧ 0 ≤ p0 ∧ p0 ≤ 5; omega) (by show A42 0 0 24 ≤ A42 0 0 23 ∧ A42 0 0 23 ≤ A42 0 0 22; omega) pt_n44 (fun h9 => absurd ((g_n44 : A42 0 0 31 = 1).symm.trans h9) (by decide)) G45 (by show A42 0 0 27 = 4 - (d : Int) ∧ (d : Int) ≤ 4; omega)) cl_Mo_179 rfl (by decide) rfl rfl e_q_block_18 rfl rfl rfl ⟨by show _ ≤ (33 + 4 * d : Nat); omega, by show _ ≤ (660 + 300 * d : Nat); omega⟩ ?_
                rintro v52 A53 ⟨rfl, hT_n55, hE_n55, raw_hb_n55, raw_hn_n55, raw_hw_n55, raw_hm_n55, raw_hG_n55, raw_hQ_n55⟩
                have hF_n55 := hF_n44.trans (hE_n55.sub (fun _ _ _ h => h))
                show JM g D ad w0 A53 21 [(0, vr 0 0)] []
                have hb_n55 : A53 0 0 24 ≤ A53 0 0 23 ∧ A53 0 0 23 ≤ A53 0 0 22 := raw_hb_n55
                clear raw_hb_n55
                have hm_n55 : A42 0 0 24 ≤ A53 0 0 24 ∧ A42 0 0 28 ≤ A53 0 0 28 ∧ A42 0 0 29 ≤ A53 0 0 29 ∧ A42 0 0 30 ≤ A53 0 0 30 ∧ A53 0 0 27 = A42 0 0 27 := raw_hm_n55
                clear raw_hm_n55
                have pt_n55 : pT A53 := raw_hn_n55
                have k0_n55 : A53 0 0 0 = A42 0 0 0 := hE_n55 0 0 0 rfl
                have k22_n55 : A53 0 0 22 = A42 0 0 22 := hE_n55 0 0 22 rfl
                have hG_n55 : nG p0.toNat A53 := raw_hG_n55
                have hV_n55 : pV p0.toNat (4 - (d : Int)) A42 A53 := raw_hw_n55
                clear raw_hw_n55
                have hQ_n55 : pQ p0.toNat (A42 0 0 28) (A42 0 0 29) (A42 0 0 30) A42 A53 := raw_hQ_n55
                clear raw_hQ_n55
                have Q56 : pQ p0.toNat (A 0 0 28) (A 0 0 29) (A 0 0 30) A A53 := pQ.trans Q46 (pQ.le hQ_n55 (by show A 0 0 28 ≤ A42 0 0 28; omega) (by show A 0 0 29 ≤ A42 0 0 29; omega) (by show A 0 0 30 ≤ A42 0 0 30; omega))
                have g_n55 : A53 0 0 31 = 1 := wr_1 (hT_n55 0 0 31) (fun h9 => absurd ((g_n44 : A42 0 0 31 = 1).symm.trans (hV_n55 h9).1) (by decide))
                refine m_blk 4 [(0, vr 0 0)] [] C f_q_block_21_1 rfl ?_
                refine m_loc [(0, vr 0 0)] ⟨rfl, trivial⟩ ?_
                exact ih A53 hT_n55 hF_n55 (by show A53 0 0 24 ≤ A53 0 0 23 ∧ A53 0 0 23 ≤ A53 0 0 22; omega) pt_n55 (by show A 0 0 24 ≤ A53 0 0 24 ∧ A 0 0 28 ≤ A53 0 0 28 ∧ A 0 0 29 ≤ A53 0 0 29 ∧ A 0 0 30 ≤ A53 0 0 30 ∧ A53 0 0 27 = A 0 0 27 ∧ A53 0 0 22 = A 0 0 22 ∧ A53 0 0 0 = p0; omega) hG_n55 Q56 (fun h9 => absurd ((g_n55 : A53 0 0 31 = 1).symm.trans h9) (by decide)) (by have hm9 := hm; show (200 - A53 0 0 24) < _; omega)
            · subst e_n38
              clear hz_n38
              refine m_if_eq (tgt := 24) C e_q_block_10 (by decide) (by decide) (fun c57 => ?_) (fun c57 => (by omega : False).elim)
              exact m_vret C Rm E e_q_block_24 ⟨rfl, hT2, hE2, (by show A2 0 0 24 ≤ A2 0 0 23 ∧ A2 0 0 23 ≤ A2 0 0 22; omega), iT, iV, (by show A 0 0 24 ≤ A2 0 0 24 ∧ A 0 0 28 ≤ A2 0 0 28 ∧ A 0 0 29 ≤ A2 0 0 29 ∧ A 0 0 30 ≤ A2 0 0 30 ∧ A2 0 0 27 = A 0 0 27; omega), iG, iQ⟩
          · refine m_blk 7 [(0, vr 0 0)] [vi 59, vr 0 0] C f_q_block_4_2 rfl ?_
            refine m_callV C Rm Y [vi 59] [] (q_isSign l D B H0 ad _ hT2 59 (by show -2147483648 ≤ 59 ∧ 59 ≤ 2147483647; omega)) cl_Mo_173 rfl (by decide) rfl rfl e_q_block_7 rfl rfl rfl ⟨by show _ ≤ (33 + 4 * d : Nat); omega, by show _ ≤ (660 + 300 * d : Nat); omega⟩ ?_
            rintro v58 A59 ⟨z62, rfl, rfl, raw_hz_n61⟩
            show JM g D ad w0 A2 10 [(0, vr 0 0)] [vi z62]
            have hz_n61 : z62 = 1 ∧ A2 0 0 31 = 0 ∧ A2 0 0 25 = 4 ∧ A2 0 0 26 = 59 ∨ z62 = 0 ∧ ¬ (A2 0 0 31 = 0 ∧ A2 0 0 25 = 4 ∧ A2 0 0 26 = 59) := raw_hz_n61
            clear raw_hz_n61
            rcases hz_n61 with ⟨e_n61, hz_n61⟩ | ⟨e_n61, hz_n61⟩
            · subst e_n61
              exact (by omega : False).elim
            · subst e_n61
              clear hz_n61
              refine m_if_eq (tgt := 24) C e_q_block_10 (by decide) (by decide) (fun c63 => ?_) (fun c63 => (by omega : False).elim)
              exact m_vret C Rm E e_q_block_24 ⟨rfl, hT2, hE2, (by show A2 0 0 24 ≤ A2 0 0 23 ∧ A2 0 0 23 ≤ A2 0 0 22; omega), iT, (fun h9 => absurd ((g2 : A2 0 0 31 = 1).symm.trans h9) (by decide)), (by show A 0 0 24 ≤ A2 0 0 24 ∧ A 0 0 28 ≤ A2 0 0 28 ∧ A 0 0 29 ≤ A2 0 0 29 ∧ A 0 0 30 ≤ A2 0 0 30 ∧ A2 0 0 27 = A 0 0 27; omega), iG, iQ⟩
      refine m_loc [(0, vr 0 0)] ⟨rfl, trivial⟩ ?_
      exact hd_4 (Int.toNat ((200 - A2 0 0 24)) + 1) A2 hT_n4 hF_n4 (by show A2 0 0 24 ≤ A2 0 0 23 ∧ A2 0 0 23 ≤ A2 0 0 22; omega) pt_n4 (by show A 0 0 24 ≤ A2 0 0 24 ∧ A 0 0 28 ≤ A2 0 0 28 ∧ A 0 0 29 ≤ A2 0 0 29 ∧ A 0 0 30 ≤ A2 0 0 30 ∧ A2 0 0 27 = A 0 0 27 ∧ A2 0 0 22 = A 0 0 22 ∧ A2 0 0 0 = p0; omega) hG_n4 Q5 (fun h9 => absurd ((g_n4 : A2 0 0 31 = 1).symm.trans h9) (by decide)) (by show (200 - A2 0 0 24) < _; omega)
  · refine m_blk 1 [(0, vr 0 0)] [vr 0 0] C f_q_block_0_1 rfl ?_
    refine m_callV C Rm Y [] [] (hq9 l D B H0 ad _ hS hT p0 (by show A 0 0 0 = p0 ∧ 0 ≤ p0 ∧ p0 ≤ 5; omega) (by show A 0 0 24 ≤ A 0 0 23 ∧ A 0 0 23 ≤ A 0 0 22; omega) hn (fun h9 => absurd ((g0 : A 0 0 31 = 1).symm.trans h9) (by decide)) hG (by show A 0 0 27 = 4 - (d : Int) ∧ (d : Int) ≤ 4; omega)) cl_Mo_179 rfl (by decide) rfl rfl e_q_block_1 rfl rfl rfl ⟨by show _ ≤ (33 + 4 * d : Nat); omega, by show _ ≤ (660 + 300 * d : Nat); omega⟩ ?_
    rintro v64 A65 ⟨rfl, hT_n67, hE_n67, raw_hb_n67, raw_hn_n67, raw_hw_n67, raw_hm_n67, raw_hG_n67, raw_hQ_n67⟩
    have hF_n67 := hE0.trans (hE_n67.sub (fun _ _ _ h => h))
    show JM g D ad w0 A65 4 [(0, vr 0 0)] []
    have hb_n67 : A65 0 0 24 ≤ A65 0 0 23 ∧ A65 0 0 23 ≤ A65 0 0 22 := raw_hb_n67
    clear raw_hb_n67
    have hm_n67 : A 0 0 24 ≤ A65 0 0 24 ∧ A 0 0 28 ≤ A65 0 0 28 ∧ A 0 0 29 ≤ A65 0 0 29 ∧ A 0 0 30 ≤ A65 0 0 30 ∧ A65 0 0 27 = A 0 0 27 := raw_hm_n67
    clear raw_hm_n67
    have pt_n67 : pT A65 := raw_hn_n67
    have k0_n67 : A65 0 0 0 = A 0 0 0 := hE_n67 0 0 0 rfl
    have k22_n67 : A65 0 0 22 = A 0 0 22 := hE_n67 0 0 22 rfl
    have hG_n67 : nG p0.toNat A65 := raw_hG_n67
    have hV_n67 : pV p0.toNat (4 - (d : Int)) A A65 := raw_hw_n67
    clear raw_hw_n67
    have hQ_n67 : pQ p0.toNat (A 0 0 28) (A 0 0 29) (A 0 0 30) A A65 := raw_hQ_n67
    clear raw_hQ_n67
    have Q68 : pQ p0.toNat (A 0 0 28) (A 0 0 29) (A 0 0 30) A A65 := pQ.trans pQ.rfl' (pQ.le hQ_n67 (by show A 0 0 28 ≤ A 0 0 28; omega) (by show A 0 0 29 ≤ A 0 0 29; omega) (by show A 0 0 30 ≤ A 0 0 30; omega))
    have g_n67 : A65 0 0 31 = 1 := wr_1 (hT_n67 0 0 31) (fun h9 => absurd ((g0 : A 0 0 31 = 1).symm.trans (hV_n67 h9).1) (by decide))
    have hd_4 : ∀ (N : Nat) (A2 : mA), mTy A2 → mEq (pm p0.toNat) A A2 → A2 0 0 24 ≤ A2 0 0 23 ∧ A2 0 0 23 ≤ A2 0 0 22 → pT A2 → A 0 0 24 ≤ A2 0 0 24 ∧ A 0 0 28 ≤ A2 0 0 28 ∧ A 0 0 29 ≤ A2 0 0 29 ∧ A 0 0 30 ≤ A2 0 0 30 ∧ A2 0 0 27 = A 0 0 27 ∧ A2 0 0 22 = A 0 0 22 ∧ A2 0 0 0 = p0 → nG p0.toNat A2 → pQ p0.toNat (A 0 0 28) (A 0 0 29) (A 0 0 30) A A2 → pV p0.toNat (4 - (d : Int)) A A2 → (200 - A2 0 0 24) < (N : Int) → JM g D ad w0 A2 4 [(0, vr 0 0)] [] := by
      intro N
      induction N with
      | zero => intro A2 hT2 hE2 ib iT im iG iQ iV hm; exact absurd hm (by omega)
      | succ N ih =>
        intro A2 hT2 hE2 ib iT im iG iQ iV hm
        rcases (show A2 0 0 31 = 0 ∨ A2 0 0 31 = 1 from by have w8 : 0 ≤ A2 0 0 31 ∧ A2 0 0 31 ≤ 1 := hT2 0 0 31; omega) with g2 | g2
        · have u2 : A 0 0 24 - A 0 0 30 - 3 * A 0 0 29 ≤ A2 0 0 24 - A2 0 0 30 - 3 * A2 0 0 29 ∧ A 0 0 28 + 1 ≤ A2 0 0 28 := ⟨(iV g2).2.1, (iV g2).2.2.1⟩
          have g0 : A 0 0 31 = 0 := (iV g2).1
          have hl0 := hl g0
          refine m_blk 7 [(0, vr 0 0)] [vi 59, vr 0 0] C f_q_block_4_2 rfl ?_
          refine m_callV C Rm Y [vi 59] [] (q_isSign l D B H0 ad _ hT2 59 (by show -2147483648 ≤ 59 ∧ 59 ≤ 2147483647; omega)) cl_Mo_173 rfl (by decide) rfl rfl e_q_block_7 rfl rfl rfl ⟨by show _ ≤ (33 + 4 * d : Nat); omega, by show _ ≤ (660 + 300 * d : Nat); omega⟩ ?_
          rintro v69 A70 ⟨z73, rfl, rfl, raw_hz_n72⟩
          show JM g D ad w0 A2 10 [(0, vr 0 0)] [vi z73]
          have hz_n72 : z73 = 1 ∧ A2 0 0 31 = 0 ∧ A2 0 0 25 = 4 ∧ A2 0 0 26 = 59 ∨ z73 = 0 ∧ ¬ (A2 0 0 31 = 0 ∧ A2 0 0 25 = 4 ∧ A2 0 0 26 = 59) := raw_hz_n72
          clear raw_hz_n72
          rcases hz_n72 with ⟨e_n72, hz_n72⟩ | ⟨e_n72, hz_n72⟩
          · subst e_n72
            have bt_n72 : A2 0 0 24 < A2 0 0 23 := pT_lt (A := A2) iT hz_n72.1 (by show ¬ A2 0 0 25 = 0; omega)
            refine m_if_eq (tgt := 24) C e_q_block_10 (by decide) (by decide) (fun c74 => (by omega : False).elim) (fun c74 => ?_)
            refine m_blk 14 [(0, vr 0 0)] [vr 0 0] C f_q_block_13_1 rfl ?_
            refine m_callV C Rm Y [] [] (q_next l D B H0 ad _ hS hT2 (by show A2 0 0 23 ≤ A2 0 0 22; omega)) cl_Mo_176 rfl (by decide) rfl rfl e_q_block_14 rfl rfl rfl ⟨by show _ ≤ (33 + 4 * d : Nat); omega, by show _ ≤ (660 + 300 * d : Nat); omega⟩ ?_
            rintro v75 A76 ⟨rfl, hT_n78, hE_n78, raw_hw_n78, raw_hb_n78⟩
            have hF_n78 := hE2.trans (hE_n78.sub (nm_pm _))
            show JM g D ad w0 A76 17 [(0, vr 0 0)] []
            obtain ⟨b1_n78, b2_n78, b3_n78, pt_n78⟩ : A2 0 0 23 ≤ A76 0 0 24 ∧ A76 0 0 24 ≤ A76 0 0 23 ∧ A76 0 0 23 ≤ A76 0 0 22 ∧ pT A76 := raw_hb_n78 g2
            clear raw_hb_n78 raw_hw_n78
            have k0_n78 : A76 0 0 0 = A2 0 0 0 := hE_n78 0 0 0 rfl
            have k22_n78 : A76 0 0 22 = A2 0 0 22 := hE_n78 0 0 22 rfl
            have k27_n78 : A76 0 0 27 = A2 0 0 27 := hE_n78 0 0 27 rfl
            have k28_n78 : A76 0 0 28 = A2 0 0 28 := hE_n78 0 0 28 rfl
            have k29_n78 : A76 0 0 29 = A2 0 0 29 := hE_n78 0 0 29 rfl
            have k30_n78 : A76 0 0 30 = A2 0 0 30 := hE_n78 0 0 30 rfl
            have G79 : nG p0.toNat A76 := nG.nm (A := A2) iG hE_n78
            have Q80 : pQ p0.toNat (A 0 0 28) (A 0 0 29) (A 0 0 30) A A76 := pQ.fam (A2 := A2) iQ (fam_nm _ hE_n78)
            rcases (show A76 0 0 31 = 0 ∨ A76 0 0 31 = 1 from by have w9 := hT_n78 0 0 31; have w8 : 0 ≤ A76 0 0 31 ∧ A76 0 0 31 ≤ 1 := w9; omega) with g_n78 | g_n78
            · refine m_blk 18 [(0, vr 0 0)] [vr 0 0] C f_q_block_17_1 rfl ?_
              refine m_callV C Rm Y [] [] (hq9 l D B H0 ad _ hS hT_n78 p0 (by show A76 0 0 0 = p0 ∧ 0 ≤ p0 ∧ p0 ≤ 5; omega) (by show A76 0 0 24 ≤ A76 0 0 23 ∧ A76 0 0 23 ≤ A76 0 0 22; omega) pt_n78 (fun _ => by show A76 0 0 30 + 3 * A76 0 0 29 ≤ A76 0 0 24; omega) G79 (by show A76 0 0 27 = 4 - (d : Int) ∧ (d : Int) ≤ 4; omega)) cl_Mo_179 rfl (by decide) rfl rfl e_q_block_18 rfl rfl rfl ⟨by show _ ≤ (33 + 4 * d : Nat); omega, by show _ ≤ (660 + 300 * d : Nat); omega⟩ ?_
              rintro v81 A82 ⟨rfl, hT_n84, hE_n84, raw_hb_n84, raw_hn_n84, raw_hw_n84, raw_hm_n84, raw_hG_n84, raw_hQ_n84⟩
              have hF_n84 := hF_n78.trans (hE_n84.sub (fun _ _ _ h => h))
              show JM g D ad w0 A82 21 [(0, vr 0 0)] []
              have hb_n84 : A82 0 0 24 ≤ A82 0 0 23 ∧ A82 0 0 23 ≤ A82 0 0 22 := raw_hb_n84
              clear raw_hb_n84
              have hm_n84 : A76 0 0 24 ≤ A82 0 0 24 ∧ A76 0 0 28 ≤ A82 0 0 28 ∧ A76 0 0 29 ≤ A82 0 0 29 ∧ A76 0 0 30 ≤ A82 0 0 30 ∧ A82 0 0 27 = A76 0 0 27 := raw_hm_n84
              clear raw_hm_n84
              have pt_n84 : pT A82 := raw_hn_n84
              have k0_n84 : A82 0 0 0 = A76 0 0 0 := hE_n84 0 0 0 rfl
              have k22_n84 : A82 0 0 22 = A76 0 0 22 := hE_n84 0 0 22 rfl
              have hG_n84 : nG p0.toNat A82 := raw_hG_n84
              have hV_n84 : pV p0.toNat (4 - (d : Int)) A76 A82 := raw_hw_n84
              clear raw_hw_n84
              have hQ_n84 : pQ p0.toNat (A76 0 0 28) (A76 0 0 29) (A76 0 0 30) A76 A82 := raw_hQ_n84
              clear raw_hQ_n84
              have Q85 : pQ p0.toNat (A 0 0 28) (A 0 0 29) (A 0 0 30) A A82 := pQ.trans Q80 (pQ.le hQ_n84 (by show A 0 0 28 ≤ A76 0 0 28; omega) (by show A 0 0 29 ≤ A76 0 0 29; omega) (by show A 0 0 30 ≤ A76 0 0 30; omega))
              rcases (show A82 0 0 31 = 0 ∨ A82 0 0 31 = 1 from by have w9 := hT_n84 0 0 31; have w8 : 0 ≤ A82 0 0 31 ∧ A82 0 0 31 ≤ 1 := w9; omega) with g_n84 | g_n84
              · have u_n84 : A76 0 0 24 - A76 0 0 30 - 3 * A76 0 0 29 ≤ A82 0 0 24 - A82 0 0 30 - 3 * A82 0 0 29 ∧ A76 0 0 28 + 1 ≤ A82 0 0 28 := ⟨(hV_n84 g_n84).2.1, (hV_n84 g_n84).2.2.1⟩
                refine m_blk 4 [(0, vr 0 0)] [] C f_q_block_21_1 rfl ?_
                refine m_loc [(0, vr 0 0)] ⟨rfl, trivial⟩ ?_
                exact ih A82 hT_n84 hF_n84 (by show A82 0 0 24 ≤ A82 0 0 23 ∧ A82 0 0 23 ≤ A82 0 0 22; omega) pt_n84 (by show A 0 0 24 ≤ A82 0 0 24 ∧ A 0 0 28 ≤ A82 0 0 28 ∧ A 0 0 29 ≤ A82 0 0 29 ∧ A 0 0 30 ≤ A82 0 0 30 ∧ A82 0 0 27 = A 0 0 27 ∧ A82 0 0 22 = A 0 0 22 ∧ A82 0 0 0 = p0; omega) hG_n84 Q85 (pV.trans (pV.tok iV (fam_nm _ hE_n78) (hE_n78 0 0 28 rfl) (hE_n78 0 0 29 rfl) (hE_n78 0 0 30 rfl) (fun _ => g2) (by show A2 0 0 24 ≤ A76 0 0 24; omega)) hV_n84 hQ_n84 (by omega) (by omega) (by omega)) (by have hm9 := hm; show (200 - A82 0 0 24) < _; omega)
              · refine m_blk 4 [(0, vr 0 0)] [] C f_q_block_21_1 rfl ?_
                refine m_loc [(0, vr 0 0)] ⟨rfl, trivial⟩ ?_
                exact ih A82 hT_n84 hF_n84 (by show A82 0 0 24 ≤ A82 0 0 23 ∧ A82 0 0 23 ≤ A82 0 0 22; omega) pt_n84 (by show A 0 0 24 ≤ A82 0 0 24 ∧ A 0 0 28 ≤ A82 0 0 28 ∧ A 0 0 29 ≤ A82 0 0 29 ∧ A 0 0 30 ≤ A82 0 0 30 ∧ A82 0 0 27 = A 0 0 27 ∧ A82 0 0 22 = A 0 0 22 ∧ A82 0 0 0 = p0; omega) hG_n84 Q85 (fun h9 => absurd ((g_n84 : A82 0 0 31 = 1).symm.trans h9) (by decide)) (by have hm9 := hm; show (200 - A82 0 0 24) < _; omega)
            · refine m_blk 18 [(0, vr 0 0)] [vr 0 0] C f_q_block_17_1 rfl ?_
              refine m_callV C Rm Y [] [] (hq9 l D B H0 ad _ hS hT_n78 p0 (by show A76 0 0 0 = p0 ∧ 0 ≤ p0 ∧ p0 ≤ 5; omega) (by show A76 0 0 24 ≤ A76 0 0 23 ∧ A76 0 0 23 ≤ A76 0 0 22; omega) pt_n78 (fun h9 => absurd ((g_n78 : A76 0 0 31 = 1).symm.trans h9) (by decide)) G79 (by show A76 0 0 27 = 4 - (d : Int) ∧ (d : Int) ≤ 4; omega)) cl_Mo_179 rfl (by decide) rfl rfl e_q_block_18 rfl rfl rfl ⟨by show _ ≤ (33 + 4 * d : Nat); omega, by show _ ≤ (660 + 300 * d : Nat); omega⟩ ?_
              rintro v86 A87 ⟨rfl, hT_n89, hE_n89, raw_hb_n89, raw_hn_n89, raw_hw_n89, raw_hm_n89, raw_hG_n89, raw_hQ_n89⟩
              have hF_n89 := hF_n78.trans (hE_n89.sub (fun _ _ _ h => h))
              show JM g D ad w0 A87 21 [(0, vr 0 0)] []
              have hb_n89 : A87 0 0 24 ≤ A87 0 0 23 ∧ A87 0 0 23 ≤ A87 0 0 22 := raw_hb_n89
              clear raw_hb_n89
              have hm_n89 : A76 0 0 24 ≤ A87 0 0 24 ∧ A76 0 0 28 ≤ A87 0 0 28 ∧ A76 0 0 29 ≤ A87 0 0 29 ∧ A76 0 0 30 ≤ A87 0 0 30 ∧ A87 0 0 27 = A76 0 0 27 := raw_hm_n89
              clear raw_hm_n89
              have pt_n89 : pT A87 := raw_hn_n89
              have k0_n89 : A87 0 0 0 = A76 0 0 0 := hE_n89 0 0 0 rfl
              have k22_n89 : A87 0 0 22 = A76 0 0 22 := hE_n89 0 0 22 rfl
              have hG_n89 : nG p0.toNat A87 := raw_hG_n89
              have hV_n89 : pV p0.toNat (4 - (d : Int)) A76 A87 := raw_hw_n89
              clear raw_hw_n89
              have hQ_n89 : pQ p0.toNat (A76 0 0 28) (A76 0 0 29) (A76 0 0 30) A76 A87 := raw_hQ_n89
              clear raw_hQ_n89
              have Q90 : pQ p0.toNat (A 0 0 28) (A 0 0 29) (A 0 0 30) A A87 := pQ.trans Q80 (pQ.le hQ_n89 (by show A 0 0 28 ≤ A76 0 0 28; omega) (by show A 0 0 29 ≤ A76 0 0 29; omega) (by show A 0 0 30 ≤ A76 0 0 30; omega))
              have g_n89 : A87 0 0 31 = 1 := wr_1 (hT_n89 0 0 31) (fun h9 => absurd ((g_n78 : A76 0 0 31 = 1).symm.trans (hV_n89 h9).1) (by decide))
              refine m_blk 4 [(0, vr 0 0)] [] C f_q_block_21_1 rfl ?_
              refine m_loc [(0, vr 0 0)] ⟨rfl, trivial⟩ ?_
              exact ih A87 hT_n89 hF_n89 (by show A87 0 0 24 ≤ A87 0 0 23 ∧ A87 0 0 23 ≤ A87 0 0 22; omega) pt_n89 (by show A 0 0 24 ≤ A87 0 0 24 ∧ A 0 0 28 ≤ A87 0 0 28 ∧ A 0 0 29 ≤ A87 0 0 29 ∧ A 0 0 30 ≤ A87 0 0 30 ∧ A87 0 0 27 = A 0 0 27 ∧ A87 0 0 22 = A 0 0 22 ∧ A87 0 0 0 = p0; omega) hG_n89 Q90 (fun h9 => absurd ((g_n89 : A87 0 0 31 = 1).symm.trans h9) (by decide)) (by have hm9 := hm; show (200 - A87 0 0 24) < _; omega)
          · subst e_n72
            clear hz_n72
            refine m_if_eq (tgt := 24) C e_q_block_10 (by decide) (by decide) (fun c91 => ?_) (fun c91 => (by omega : False).elim)
            exact m_vret C Rm E e_q_block_24 ⟨rfl, hT2, hE2, (by show A2 0 0 24 ≤ A2 0 0 23 ∧ A2 0 0 23 ≤ A2 0 0 22; omega), iT, iV, (by show A 0 0 24 ≤ A2 0 0 24 ∧ A 0 0 28 ≤ A2 0 0 28 ∧ A 0 0 29 ≤ A2 0 0 29 ∧ A 0 0 30 ≤ A2 0 0 30 ∧ A2 0 0 27 = A 0 0 27; omega), iG, iQ⟩
        · refine m_blk 7 [(0, vr 0 0)] [vi 59, vr 0 0] C f_q_block_4_2 rfl ?_
          refine m_callV C Rm Y [vi 59] [] (q_isSign l D B H0 ad _ hT2 59 (by show -2147483648 ≤ 59 ∧ 59 ≤ 2147483647; omega)) cl_Mo_173 rfl (by decide) rfl rfl e_q_block_7 rfl rfl rfl ⟨by show _ ≤ (33 + 4 * d : Nat); omega, by show _ ≤ (660 + 300 * d : Nat); omega⟩ ?_
          rintro v92 A93 ⟨z96, rfl, rfl, raw_hz_n95⟩
          show JM g D ad w0 A2 10 [(0, vr 0 0)] [vi z96]
          have hz_n95 : z96 = 1 ∧ A2 0 0 31 = 0 ∧ A2 0 0 25 = 4 ∧ A2 0 0 26 = 59 ∨ z96 = 0 ∧ ¬ (A2 0 0 31 = 0 ∧ A2 0 0 25 = 4 ∧ A2 0 0 26 = 59) := raw_hz_n95
          clear raw_hz_n95
          rcases hz_n95 with ⟨e_n95, hz_n95⟩ | ⟨e_n95, hz_n95⟩
          · subst e_n95
            exact (by omega : False).elim
          · subst e_n95
            clear hz_n95
            refine m_if_eq (tgt := 24) C e_q_block_10 (by decide) (by decide) (fun c97 => ?_) (fun c97 => (by omega : False).elim)
            exact m_vret C Rm E e_q_block_24 ⟨rfl, hT2, hE2, (by show A2 0 0 24 ≤ A2 0 0 23 ∧ A2 0 0 23 ≤ A2 0 0 22; omega), iT, (fun h9 => absurd ((g2 : A2 0 0 31 = 1).symm.trans h9) (by decide)), (by show A 0 0 24 ≤ A2 0 0 24 ∧ A 0 0 28 ≤ A2 0 0 28 ∧ A 0 0 29 ≤ A2 0 0 29 ∧ A 0 0 30 ≤ A2 0 0 30 ∧ A2 0 0 27 = A 0 0 27; omega), iG, iQ⟩
    refine m_loc [(0, vr 0 0)] ⟨rfl, trivial⟩ ?_
    exact hd_4 (Int.toNat ((200 - A65 0 0 24)) + 1) A65 hT_n67 hF_n67 (by show A65 0 0 24 ≤ A65 0 0 23 ∧ A65 0 0 23 ≤ A65 0 0 22; omega) pt_n67 (by show A 0 0 24 ≤ A65 0 0 24 ∧ A 0 0 28 ≤ A65 0 0 28 ∧ A 0 0 29 ≤ A65 0 0 29 ∧ A 0 0 30 ≤ A65 0 0 30 ∧ A65 0 0 27 = A 0 0 27 ∧ A65 0 0 22 = A 0 0 22 ∧ A65 0 0 0 = p0; omega) hG_n67 Q68 (fun h9 => absurd ((g_n67 : A65 0 0 31 = 1).symm.trans h9) (by decide)) (by show (200 - A65 0 0 24) < _; omega)

theorem q_B : ∀ d : Nat, S_block d := fun d => by
  induction d with
  | zero => exact q_block 0 (q_step 0 (q_inBraces 0 (fun d1 h => absurd h (by omega))))
  | succ d ih => exact q_block (d + 1) (q_step (d + 1) (q_inBraces (d + 1) (fun d1 h => by
      have : d1 = d := by omega
      rw [this]
      exact ih)))
