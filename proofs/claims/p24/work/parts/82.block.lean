/-! the reference: steps and blocks (own work, by program) -/
theorem pV.one' {P i : Nat} {d : Int} {A A9 : mA} (g0 : A 0 0 31 = 0) (hs : A 0 0 24 - A 0 0 30 - 3 * A 0 0 29 ≤ A9 0 0 24 - A9 0 0 30 - 3 * A9 0 0 29) (hi : A 0 0 28 = (i : Int)) (hN : A9 0 0 28 = A 0 0 28 + 1) (h : sG P A9 (A9 0 0 28) (A9 0 0 30) (A9 0 0 29) (fun _ => d) i) : pV P d A A9 := fun _ => ⟨g0, hs, by omega, fun _ => d, fun j h1 h2 => by
  have : j = i := by omega
  subst this
  exact ⟨h, Int.le_refl _⟩⟩
theorem pV.mk {P a : Nat} {d : Int} {A A9 : mA} (g0 : A 0 0 31 = 0) (hs : A 0 0 24 - A 0 0 30 - 3 * A 0 0 29 ≤ A9 0 0 24 - A9 0 0 30 - 3 * A9 0 0 29) (ha : A 0 0 28 = (a : Int)) (hN : A 0 0 28 + 1 ≤ A9 0 0 28) (h : ∃ dep : Nat → Int, sB P A9 (a : Int) dep d) : pV P d A A9 := fun _ => ⟨g0, hs, hN, by rw [ha]; exact h⟩
theorem pV.loop' {P a : Nat} {d x : Int} {A1 A2 : mA} (hV : pV P (d + 1) A1 A2) (hx : A2 0 0 28 = x) (g : A2 0 0 31 = 0) (e1 : A1 0 0 28 = (a : Int) + 1) (h34 : A2 34 P a = 4) (h39 : A2 39 P a = -1) (h36 : 0 ≤ A2 36 P a) (hd : 0 ≤ d ∧ d ≤ 4) (h30 : 0 ≤ A2 0 0 30) : ∃ dep : Nat → Int, sB P (mu (mu A2 38 P a x) 37 P a x) (a : Int) dep d := by
  subst hx
  exact pV.loop hV g e1 h34 h39 h36 hd h30
theorem pV.cond' {P a : Nat} {d x y : Int} {A1 A2 A4 : mA} (hV1 : pV P (d + 1) A1 A2) (hx : A2 0 0 28 = x) (hV2 : pV P (d + 1) (mu A2 38 P a x) A4) (q : pQ P (A2 0 0 28) (A2 0 0 29) (A2 0 0 30) (mu A2 38 P a x) A4) (hy : A4 0 0 28 = y) (m2 : A2 0 0 29 ≤ A4 0 0 29) (m3 : A2 0 0 30 ≤ A4 0 0 30) (g : A4 0 0 31 = 0) (e1 : A1 0 0 28 = (a : Int) + 1) (h34 : A4 34 P a = 3) (h39 : 0 ≤ A4 39 P a ∧ A4 39 P a < A4 0 0 30) (hd : 0 ≤ d ∧ d ≤ 4) : ∃ dep : Nat → Int, sB P (mu A4 37 P a y) (a : Int) dep d := by
  subst hx
  subst hy
  exact pV.cond hV1 hV2 q m2 m3 g e1 h34 h39 hd
theorem sG.mk {P i : Nat} {A : mA} {N M Ln kd na nu en ot tp fl : Int} {dep : Nat → Int} (h34 : A 34 P i = kd) (h35 : A 35 P i = na) (h36 : A 36 P i = nu) (h37 : A 37 P i = en) (h38 : A 38 P i = ot) (h39 : A 39 P i = tp) (h40 : A 40 P i = fl) (c1 : 0 ≤ kd ∧ kd ≤ 5) (c2 : (i : Int) + 1 ≤ ot ∧ ot ≤ en ∧ en ≤ N) (c3 : -1 ≤ tp ∧ tp < M) (c4 : kd = 1 ∨ kd = 2 ∨ kd = 3 ∨ kd = 5 → 0 ≤ tp) (c5 : kd = 0 ∨ kd = 1 ∨ kd = 5 → 0 ≤ na) (c6 : kd = 5 → 0 ≤ nu ∧ nu < P) (c7 : kd = 4 → False) (c8 : kd = 0 → 0 ≤ fl ∧ 1 ≤ nu ∧ fl + nu ≤ Ln ∧ 1 ≤ ws (A 42 P) fl.toNat nu.toNat) (c9 : 0 ≤ dep i ∧ dep i ≤ 4) (c10 : kd = 3 → False) : sG P A N M Ln dep i := by
  unfold sG
  rw [h34, h35, h36, h37, h38, h39, h40]
  exact ⟨c1, c2, c3, c4, c5, c6, fun k => (c7 k).elim, c8, c9, fun k => by rcases k with k | k; exact (c10 k).elim; exact (c7 k).elim⟩
theorem pQ.lots {P i : Nat} {s t t2 n : Int} {A A2 A9 : mA} (h : pQ P s t n A A2) (k : mEq (lo P) A2 A9) (q : lQ P t2 A2 A9) (ht : t ≤ t2) (r : lNm P i A2 A9) (hi : s ≤ (i : Int)) : pQ P s t n A A9 := by
  have key : ∀ f, 34 ≤ f → f ≠ 36 → f ≠ 41 → f ≠ 42 → ∀ j, A9 f P j = A2 f P j := fun f h1 h2 h3 h4 j => k f P j (by
    unfold lo
    have a1 : (f == 0) = false := by simp; omega
    have a2 : (f == 36) = false := by simp; omega
    have a3 : (f == 41) = false := by simp; omega
    have a4 : (f == 42) = false := by simp; omega
    rw [a1, a2, a3, a4]; simp)
  refine ⟨fun f a b j hj => Eq.trans ?_ (h.1 f a b j hj), fun f a b j hj => Eq.trans ?_ (h.2.1 f a b j hj), fun f a b j hj => (key f (by omega) (by omega) (by omega) (by omega) j).trans (h.2.2 f a b j hj)⟩
  · by_cases c : f = 36
    · subst c; exact r j (by omega)
    · exact key f a c (by omega) (by omega) j
  · have c : f = 41 ∨ f = 42 := by omega
    rcases c with rfl | rfl
    · exact (q j (by omega)).1
    · exact (q j (by omega)).2
theorem pm_pm (P : Nat) : ∀ f k j, pm P f k j = false → pm P f k j = false := fun _ _ _ h => h
theorem nG.fam {P : Nat} {A A9 : mA} (h : nG P A) (k : ∀ f, 43 ≤ f → f ≤ 46 → A9 f P = A f P) (e : A9 0 0 30 = A 0 0 30) : nG P A9 := fun j hj => by
  rw [k 43 (by omega) (by omega), k 45 (by omega) (by omega), k 46 (by omega) (by omega)]
  rw [e] at hj
  exact h j hj
theorem nG.lots {P : Nat} {A A9 : mA} (h : nG P A) (k : mEq (lo P) A A9) (e : A9 0 0 30 = A 0 0 30) : nG P A9 := nG.fam h (fun f h1 h2 => funext fun j => k f P j (by
    unfold lo
    have a1 : (f == 0) = false := by simp; omega
    have a2 : (f == 36) = false := by simp; omega
    have a3 : (f == 41) = false := by simp; omega
    have a4 : (f == 42) = false := by simp; omega
    rw [a1, a2, a3, a4]; simp)) e
def S_inBraces (d : Nat) : Prop := ∀ (l : Launch) (D : va_G) (B : Nat) (H0 : Heap) (ad : mAd) (A : mA) (hS : mStr D ad) (hT : mTy A) (p0 : Int) (hp : A 0 0 0 = p0 ∧ 0 ≤ p0 ∧ p0 ≤ 5) (hb : A 0 0 24 ≤ A 0 0 23 ∧ A 0 0 23 ≤ A 0 0 22) (hn : pT A) (hl : pL A) (hG : nG p0.toNat A) (ho : A 0 0 27 = 4 - (d : Int) ∧ (d : Int) ≤ 4) , mMet l D B H0 ad y_Mo_inBraces b_Mo_inBraces 1 none (31 + 4 * d) (600 + 300 * d) [vr 0 0] A (fun v9 A9 => v9 = none ∧ mTy A9 ∧ mEq (pm p0.toNat) A A9 ∧ (A9 0 0 24 ≤ A9 0 0 23 ∧ A9 0 0 23 ≤ A9 0 0 22) ∧ (pT A9) ∧ (pV p0.toNat (4 - (d : Int) + 1) A A9) ∧ (A 0 0 24 ≤ A9 0 0 24 ∧ A 0 0 28 ≤ A9 0 0 28 ∧ A 0 0 29 ≤ A9 0 0 29 ∧ A 0 0 30 ≤ A9 0 0 30 ∧ A9 0 0 27 = A 0 0 27) ∧ (nG p0.toNat A9) ∧ (pQ p0.toNat (A 0 0 28) (A 0 0 29) (A 0 0 30) A A9))
def S_step (d : Nat) : Prop := ∀ (l : Launch) (D : va_G) (B : Nat) (H0 : Heap) (ad : mAd) (A : mA) (hS : mStr D ad) (hT : mTy A) (p0 : Int) (hp : A 0 0 0 = p0 ∧ 0 ≤ p0 ∧ p0 ≤ 5) (hb : A 0 0 24 ≤ A 0 0 23 ∧ A 0 0 23 ≤ A 0 0 22) (hn : pT A) (hl : pL A) (hG : nG p0.toNat A) (ho : A 0 0 27 = 4 - (d : Int) ∧ (d : Int) ≤ 4) , mMet l D B H0 ad y_Mo_step_0 b_Mo_step_0 4 none (32 + 4 * d) (630 + 300 * d) [vr 0 0] A (fun v9 A9 => v9 = none ∧ mTy A9 ∧ mEq (pm p0.toNat) A A9 ∧ (A9 0 0 24 ≤ A9 0 0 23 ∧ A9 0 0 23 ≤ A9 0 0 22) ∧ (pT A9) ∧ (pV p0.toNat (4 - (d : Int)) A A9) ∧ (A 0 0 24 ≤ A9 0 0 24 ∧ A 0 0 28 ≤ A9 0 0 28 ∧ A 0 0 29 ≤ A9 0 0 29 ∧ A 0 0 30 ≤ A9 0 0 30 ∧ A9 0 0 27 = A 0 0 27) ∧ (nG p0.toNat A9) ∧ (pQ p0.toNat (A 0 0 28) (A 0 0 29) (A 0 0 30) A A9))
def S_block (d : Nat) : Prop := ∀ (l : Launch) (D : va_G) (B : Nat) (H0 : Heap) (ad : mAd) (A : mA) (hS : mStr D ad) (hT : mTy A) (p0 : Int) (hp : A 0 0 0 = p0 ∧ 0 ≤ p0 ∧ p0 ≤ 5) (hb : A 0 0 24 ≤ A 0 0 23 ∧ A 0 0 23 ≤ A 0 0 22) (hn : pT A) (hl : pL A) (hG : nG p0.toNat A) (ho : A 0 0 27 = 4 - (d : Int) ∧ (d : Int) ≤ 4) , mMet l D B H0 ad y_Mo_block b_Mo_block 1 none (33 + 4 * d) (660 + 300 * d) [vr 0 0] A (fun v9 A9 => v9 = none ∧ mTy A9 ∧ mEq (pm p0.toNat) A A9 ∧ (A9 0 0 24 ≤ A9 0 0 23 ∧ A9 0 0 23 ≤ A9 0 0 22) ∧ (pT A9) ∧ (pV p0.toNat (4 - (d : Int)) A A9) ∧ (A 0 0 24 ≤ A9 0 0 24 ∧ A 0 0 28 ≤ A9 0 0 28 ∧ A 0 0 29 ≤ A9 0 0 29 ∧ A 0 0 30 ≤ A9 0 0 30 ∧ A9 0 0 27 = A 0 0 27) ∧ (nG p0.toNat A9) ∧ (pQ p0.toNat (A 0 0 28) (A 0 0 29) (A 0 0 30) A A9))
theorem f_q_inBraces_0_2 : mblkB b_Mo_inBraces [(0, .aload_n 0, vi 0), (1, .bipush 123, vi 123)] = true := by decide +kernel
theorem e_q_inBraces_3 : decode b_Mo_inBraces 3 = .ok (.invokevirtual 173, 3) := by decide +kernel
theorem e_q_inBraces_6 : decode b_Mo_inBraces 6 = .ok (.ifCond .eq 11, 3) := by decide +kernel
theorem f_q_inBraces_9_1 : mblkB b_Mo_inBraces [(9, .aload_n 0, vi 0)] = true := by decide +kernel
theorem e_q_inBraces_10 : decode b_Mo_inBraces 10 = .ok (.getfield 182, 3) := by decide +kernel
theorem f_q_inBraces_13_1 : mblkB b_Mo_inBraces [(13, .iconst 4, vi 4)] = true := by decide +kernel
theorem e_q_inBraces_14 : decode b_Mo_inBraces 14 = .ok (.if_icmp .ne 9, 3) := by decide +kernel
theorem f_q_inBraces_23_2 : mblkB b_Mo_inBraces [(23, .aload_n 0, vi 0), (24, .dup, vi 0)] = true := by decide +kernel
theorem e_q_inBraces_25 : decode b_Mo_inBraces 25 = .ok (.getfield 182, 3) := by decide +kernel
theorem f_q_inBraces_28_2 : mblkB b_Mo_inBraces [(28, .iconst 1, vi 1), (29, .iadd, vi 0)] = true := by decide +kernel
theorem e_q_inBraces_30 : decode b_Mo_inBraces 30 = .ok (.putfield 182, 3) := by decide +kernel
theorem f_q_inBraces_33_1 : mblkB b_Mo_inBraces [(33, .aload_n 0, vi 0)] = true := by decide +kernel
theorem e_q_inBraces_34 : decode b_Mo_inBraces 34 = .ok (.invokevirtual 176, 3) := by decide +kernel
theorem f_q_inBraces_37_1 : mblkB b_Mo_inBraces [(37, .aload_n 0, vi 0)] = true := by decide +kernel
theorem e_q_inBraces_38 : decode b_Mo_inBraces 38 = .ok (.invokevirtual 185, 3) := by decide +kernel
theorem f_q_inBraces_41_2 : mblkB b_Mo_inBraces [(41, .aload_n 0, vi 0), (42, .dup, vi 0)] = true := by decide +kernel
theorem e_q_inBraces_43 : decode b_Mo_inBraces 43 = .ok (.getfield 182, 3) := by decide +kernel
theorem f_q_inBraces_46_2 : mblkB b_Mo_inBraces [(46, .iconst 1, vi 1), (47, .isub, vi 0)] = true := by decide +kernel
theorem e_q_inBraces_48 : decode b_Mo_inBraces 48 = .ok (.putfield 182, 3) := by decide +kernel
theorem f_q_inBraces_51_2 : mblkB b_Mo_inBraces [(51, .aload_n 0, vi 0), (52, .bipush 125, vi 125)] = true := by decide +kernel
theorem e_q_inBraces_54 : decode b_Mo_inBraces 54 = .ok (.invokevirtual 188, 3) := by decide +kernel
theorem e_q_inBraces_57 : decode b_Mo_inBraces 57 = .ok (.return_, 1) := by decide +kernel
theorem f_q_inBraces_17_2 : mblkB b_Mo_inBraces [(17, .aload_n 0, vi 0), (18, .iconst 1, vi 1)] = true := by decide +kernel
theorem e_q_inBraces_19 : decode b_Mo_inBraces 19 = .ok (.putfield 155, 3) := by decide +kernel
theorem e_q_inBraces_22 : decode b_Mo_inBraces 22 = .ok (.return_, 1) := by decide +kernel
set_option maxHeartbeats 40000000 in
set_option maxRecDepth 100000 in
theorem q_inBraces (d : Nat) (hrec : ∀ d1 : Nat, d = d1 + 1 → S_block d1) : S_inBraces d := by
  intro l D B H0 ad A hS hT p0 hp hb hn hl hG ho
  refine m_met (by decide) rfl (fun g w0 C Rm Y E => ?_)
  have hE0 : mEq (pm p0.toNat) A A := mEq.rfl'
  show JM g D ad w0 A 0 [(0, vr 0 0)] []
  obtain ⟨xs, hxs⟩ : ∃ x, A 0 0 28 = x := ⟨_, rfl⟩
  have rxs : 0 ≤ xs ∧ xs ≤ 16 := mrg hT hxs rfl
  have rt : A 0 0 22 ≤ 120 := (hT 0 0 22).2
  have rd9 : 0 ≤ A 0 0 29 ∧ 0 ≤ A 0 0 30 := ⟨(hT 0 0 29).1, (hT 0 0 30).1⟩
  rcases (show A 0 0 31 = 0 ∨ A 0 0 31 = 1 from by have w8 : 0 ≤ A 0 0 31 ∧ A 0 0 31 ≤ 1 := hT 0 0 31; omega) with g0 | g0
  · have hl0 := hl g0
    refine m_blk 3 [(0, vr 0 0)] [vi 123, vr 0 0] C f_q_inBraces_0_2 rfl ?_
    refine m_callV C Rm Y [vi 123] [] (q_isSign l D B H0 ad _ hT 123 (by show -2147483648 ≤ 123 ∧ 123 ≤ 2147483647; omega)) cl_Mo_173 rfl (by decide) rfl rfl e_q_inBraces_3 rfl rfl rfl ⟨by show _ ≤ (31 + 4 * d : Nat); omega, by show _ ≤ (600 + 300 * d : Nat); omega⟩ ?_
    rintro v1 A2 ⟨z5, rfl, rfl, raw_hz_n4⟩
    show JM g D ad w0 A 6 [(0, vr 0 0)] [vi z5]
    have hz_n4 : z5 = 1 ∧ A 0 0 31 = 0 ∧ A 0 0 25 = 4 ∧ A 0 0 26 = 123 ∨ z5 = 0 ∧ ¬ (A 0 0 31 = 0 ∧ A 0 0 25 = 4 ∧ A 0 0 26 = 123) := raw_hz_n4
    clear raw_hz_n4
    rcases hz_n4 with ⟨e_n4, hz_n4⟩ | ⟨e_n4, hz_n4⟩
    · subst e_n4
      have bt_n4 : A 0 0 24 < A 0 0 23 := pT_lt (A := A) hn hz_n4.1 (by show ¬ A 0 0 25 = 0; omega)
      refine m_if_eq (tgt := 17) C e_q_inBraces_6 (by decide) (by decide) (fun c6 => (by omega : False).elim) (fun c6 => ?_)
      refine m_blk 10 [(0, vr 0 0)] [vr 0 0] C f_q_inBraces_9_1 rfl ?_
      obtain ⟨x7, hx7⟩ : ∃ x, A 0 0 27 = x := ⟨_, rfl⟩
      have rx7 : 0 ≤ x7 ∧ x7 ≤ 4 := mrg hT hx7 rfl
      refine m_geti C e_q_inBraces_10 fg_Mo_182 rfl (by decide) rfl x7 hx7 ?_
      refine m_blk 14 [(0, vr 0 0)] [vi 4, vi x7] C f_q_inBraces_13_1 rfl ?_
      refine m_icmp_ne (tgt := 23) C e_q_inBraces_14 (by decide) (by omega) (by decide) (fun c8 => ?_) (fun c8 => ?_)
      · obtain ⟨d1, hd1⟩ : ∃ d1, d = d1 + 1 := ⟨d - 1, by omega⟩
        have ed1 : (4 - (d1 : Int)) = 4 - (d : Int) + 1 := by omega
        refine m_blk 25 [(0, vr 0 0)] [vr 0 0, vr 0 0] C f_q_inBraces_23_2 rfl ?_
        refine m_geti C e_q_inBraces_25 fg_Mo_182 rfl (by decide) rfl x7 hx7 ?_
        refine m_blk 30 [(0, vr 0 0)] [vi (x7 + 1), vr 0 0] C f_q_inBraces_28_2 rfl ?_
        refine m_puti C e_q_inBraces_30 fp_Mo_182 rfl (by decide) rfl ?_
        have t9 : mTy (mu A 0 0 27 (x7 + 1)) := hT.mu (by show 0 ≤ (x7 + 1) ∧ (x7 + 1) ≤ 4; omega)
        have q10 := hE0.mu (f := 0) (k := 0) (j := 27) (z := (x7 + 1)) (by simp [pm])
        refine m_blk 34 [(0, vr 0 0)] [vr 0 0] C f_q_inBraces_33_1 rfl ?_
        refine m_callV C Rm Y [] [] (q_next l D B H0 ad _ hS t9 (by show A 0 0 23 ≤ A 0 0 22; omega)) cl_Mo_176 rfl (by decide) rfl rfl e_q_inBraces_34 rfl rfl rfl ⟨by show _ ≤ (31 + 4 * d : Nat); omega, by show _ ≤ (600 + 300 * d : Nat); omega⟩ ?_
        rintro v11 A12 ⟨rfl, hT_n14, hE_n14, raw_hw_n14, raw_hb_n14⟩
        have hF_n14 := q10.trans (hE_n14.sub (nm_pm _))
        show JM g D ad w0 A12 37 [(0, vr 0 0)] []
        obtain ⟨b1_n14, b2_n14, b3_n14, pt_n14⟩ : A 0 0 23 ≤ A12 0 0 24 ∧ A12 0 0 24 ≤ A12 0 0 23 ∧ A12 0 0 23 ≤ A12 0 0 22 ∧ pT A12 := raw_hb_n14 g0
        clear raw_hb_n14 raw_hw_n14
        have k0_n14 : A12 0 0 0 = A 0 0 0 := hE_n14 0 0 0 rfl
        have k22_n14 : A12 0 0 22 = A 0 0 22 := hE_n14 0 0 22 rfl
        have k27_n14 : A12 0 0 27 = (x7 + 1) := hE_n14 0 0 27 rfl
        have k28_n14 : A12 0 0 28 = A 0 0 28 := hE_n14 0 0 28 rfl
        have k29_n14 : A12 0 0 29 = A 0 0 29 := hE_n14 0 0 29 rfl
        have k30_n14 : A12 0 0 30 = A 0 0 30 := hE_n14 0 0 30 rfl
        rcases (show A12 0 0 31 = 0 ∨ A12 0 0 31 = 1 from by have w9 := hT_n14 0 0 31; have w8 : 0 ≤ A12 0 0 31 ∧ A12 0 0 31 ≤ 1 := w9; omega) with g_n14 | g_n14
        · refine m_blk 38 [(0, vr 0 0)] [vr 0 0] C f_q_inBraces_37_1 rfl ?_
          refine m_callV C Rm Y [] [] ((hrec d1 hd1) l D B H0 ad _ hS hT_n14 p0 (by show A12 0 0 0 = p0 ∧ 0 ≤ p0 ∧ p0 ≤ 5; omega) (by show A12 0 0 24 ≤ A12 0 0 23 ∧ A12 0 0 23 ≤ A12 0 0 22; omega) pt_n14 (fun _ => by show A12 0 0 30 + 3 * A12 0 0 29 ≤ A12 0 0 24; omega) (nG.nm (A := (mu A 0 0 27 (x7 + 1))) hG hE_n14) (by show A12 0 0 27 = 4 - (d1 : Int) ∧ (d1 : Int) ≤ 4; omega)) cl_Mo_185 rfl (by decide) rfl rfl e_q_inBraces_38 rfl rfl rfl ⟨by show _ ≤ (31 + 4 * d : Nat); omega, by show _ ≤ (600 + 300 * d : Nat); omega⟩ ?_
          rintro v15 A16 ⟨rfl, hT_n18, hE_n18, raw_hb_n18, raw_hn_n18, raw_hw_n18, raw_hm_n18, raw_hG_n18, raw_hQ_n18⟩
          have hF_n18 := hF_n14.trans (hE_n18.sub (fun _ _ _ h => h))
          show JM g D ad w0 A16 41 [(0, vr 0 0)] []
          have hb_n18 : A16 0 0 24 ≤ A16 0 0 23 ∧ A16 0 0 23 ≤ A16 0 0 22 := raw_hb_n18
          clear raw_hb_n18
          have hm_n18 : A12 0 0 24 ≤ A16 0 0 24 ∧ A12 0 0 28 ≤ A16 0 0 28 ∧ A12 0 0 29 ≤ A16 0 0 29 ∧ A12 0 0 30 ≤ A16 0 0 30 ∧ A16 0 0 27 = A12 0 0 27 := raw_hm_n18
          clear raw_hm_n18
          have pt_n18 : pT A16 := raw_hn_n18
          have k0_n18 : A16 0 0 0 = A12 0 0 0 := hE_n18 0 0 0 rfl
          have k22_n18 : A16 0 0 22 = A12 0 0 22 := hE_n18 0 0 22 rfl
          have hG_n18 : nG p0.toNat A16 := raw_hG_n18
          have hV_n18 : pV p0.toNat (4 - (d1 : Int)) A12 A16 := raw_hw_n18
          clear raw_hw_n18
          have hQ_n18 : pQ p0.toNat (A12 0 0 28) (A12 0 0 29) (A12 0 0 30) A12 A16 := raw_hQ_n18
          clear raw_hQ_n18
          rcases (show A16 0 0 31 = 0 ∨ A16 0 0 31 = 1 from by have w9 := hT_n18 0 0 31; have w8 : 0 ≤ A16 0 0 31 ∧ A16 0 0 31 ≤ 1 := w9; omega) with g_n18 | g_n18
          · have u_n18 : A12 0 0 24 - A12 0 0 30 - 3 * A12 0 0 29 ≤ A16 0 0 24 - A16 0 0 30 - 3 * A16 0 0 29 ∧ A12 0 0 28 + 1 ≤ A16 0 0 28 := ⟨(hV_n18 g_n18).2.1, (hV_n18 g_n18).2.2.1⟩
            refine m_blk 43 [(0, vr 0 0)] [vr 0 0, vr 0 0] C f_q_inBraces_41_2 rfl ?_
            obtain ⟨x19, hx19⟩ : ∃ x, A16 0 0 27 = x := ⟨_, rfl⟩
            have rx19 : 0 ≤ x19 ∧ x19 ≤ 4 := mrg hT_n18 hx19 rfl
            refine m_geti C e_q_inBraces_43 fg_Mo_182 rfl (by decide) rfl x19 hx19 ?_
            refine m_blk 48 [(0, vr 0 0)] [vi (x19 - 1), vr 0 0] C f_q_inBraces_46_2 rfl ?_
            refine m_puti C e_q_inBraces_48 fp_Mo_182 rfl (by decide) rfl ?_
            have t20 : mTy (mu A16 0 0 27 (x19 - 1)) := hT_n18.mu (by show 0 ≤ (x19 - 1) ∧ (x19 - 1) ≤ 4; omega)
            have q21 := hF_n18.mu (f := 0) (k := 0) (j := 27) (z := (x19 - 1)) (by simp [pm])
            refine m_blk 54 [(0, vr 0 0)] [vi 125, vr 0 0] C f_q_inBraces_51_2 rfl ?_
            refine m_callV C Rm Y [vi 125] [] (q_need l D B H0 ad _ hS t20 125 (by show -2147483648 ≤ 125 ∧ 125 ≤ 2147483647; omega) (by show A16 0 0 24 ≤ A16 0 0 23 ∧ A16 0 0 23 ≤ A16 0 0 22; omega) pt_n18) cl_Mo_188 rfl (by decide) rfl rfl e_q_inBraces_54 rfl rfl rfl ⟨by show _ ≤ (31 + 4 * d : Nat); omega, by show _ ≤ (600 + 300 * d : Nat); omega⟩ ?_
            rintro v22 A23 ⟨rfl, hT_n25, hE_n25, raw_hb_n25, raw_hn_n25, raw_hw_n25, raw_hm_n25⟩
            have hF_n25 := q21.trans (hE_n25.sub (nm_pm _))
            show JM g D ad w0 A23 57 [(0, vr 0 0)] []
            have hb_n25 : A23 0 0 24 ≤ A23 0 0 23 ∧ A23 0 0 23 ≤ A23 0 0 22 := raw_hb_n25
            clear raw_hb_n25
            have hm_n25 : A16 0 0 24 ≤ A23 0 0 24 := raw_hm_n25
            clear raw_hm_n25
            have pt_n25 : pT A23 := raw_hn_n25
            clear raw_hn_n25
            have k0_n25 : A23 0 0 0 = A16 0 0 0 := hE_n25 0 0 0 rfl
            have k22_n25 : A23 0 0 22 = A16 0 0 22 := hE_n25 0 0 22 rfl
            have k27_n25 : A23 0 0 27 = (x19 - 1) := hE_n25 0 0 27 rfl
            have k28_n25 : A23 0 0 28 = A16 0 0 28 := hE_n25 0 0 28 rfl
            have k29_n25 : A23 0 0 29 = A16 0 0 29 := hE_n25 0 0 29 rfl
            have k30_n25 : A23 0 0 30 = A16 0 0 30 := hE_n25 0 0 30 rfl
            rcases (show A23 0 0 31 = 0 ∨ A23 0 0 31 = 1 from by have w9 := hT_n25 0 0 31; have w8 : 0 ≤ A23 0 0 31 ∧ A23 0 0 31 ≤ 1 := w9; omega) with g_n25 | g_n25
            · have u_n25 : A16 0 0 31 = 0 ∧ A16 0 0 24 < A23 0 0 24 := raw_hw_n25 g_n25
              clear raw_hw_n25
              exact m_vret C Rm E e_q_inBraces_57 ⟨rfl, hT_n25, hF_n25, (by show A23 0 0 24 ≤ A23 0 0 23 ∧ A23 0 0 23 ≤ A23 0 0 22; omega), pt_n25, (pV.tok (A2 := mu A16 0 0 27 (x19 - 1)) (pV.tok (pV.ahead (ed1 ▸ hV_n18) (by show A12 0 0 28 = A 0 0 28; omega) (by show A12 0 0 29 = A 0 0 29; omega) (by show A12 0 0 30 = A 0 0 30; omega) (fun _ => g0) (by show A 0 0 24 ≤ A12 0 0 24; omega)) (fam_0 _ _ _ _) rfl rfl rfl (fun h9 => h9) (Int.le_refl _)) (fam_nm _ hE_n25) (hE_n25 0 0 28 rfl) (hE_n25 0 0 29 rfl) (hE_n25 0 0 30 rfl) (fun _ => g_n18) hm_n25), (by show A 0 0 24 ≤ A23 0 0 24 ∧ A 0 0 28 ≤ A23 0 0 28 ∧ A 0 0 29 ≤ A23 0 0 29 ∧ A 0 0 30 ≤ A23 0 0 30 ∧ A23 0 0 27 = A 0 0 27; omega), (nG.nm (A := (mu A16 0 0 27 (x19 - 1))) hG_n18 hE_n25), (pQ.fam (pQ.trans (pQ.fam pQ.rfl' (fam_nm _ hE_n14)) (pQ.le hQ_n18 (by show A 0 0 28 ≤ A12 0 0 28; omega) (by show A 0 0 29 ≤ A12 0 0 29; omega) (by show A 0 0 30 ≤ A12 0 0 30; omega))) (fam_nm _ hE_n25))⟩
            · clear raw_hw_n25
              exact m_vret C Rm E e_q_inBraces_57 ⟨rfl, hT_n25, hF_n25, (by show A23 0 0 24 ≤ A23 0 0 23 ∧ A23 0 0 23 ≤ A23 0 0 22; omega), pt_n25, (fun h9 => absurd ((g_n25 : A23 0 0 31 = 1).symm.trans h9) (by decide)), (by show A 0 0 24 ≤ A23 0 0 24 ∧ A 0 0 28 ≤ A23 0 0 28 ∧ A 0 0 29 ≤ A23 0 0 29 ∧ A 0 0 30 ≤ A23 0 0 30 ∧ A23 0 0 27 = A 0 0 27; omega), (nG.nm (A := (mu A16 0 0 27 (x19 - 1))) hG_n18 hE_n25), (pQ.fam (pQ.trans (pQ.fam pQ.rfl' (fam_nm _ hE_n14)) (pQ.le hQ_n18 (by show A 0 0 28 ≤ A12 0 0 28; omega) (by show A 0 0 29 ≤ A12 0 0 29; omega) (by show A 0 0 30 ≤ A12 0 0 30; omega))) (fam_nm _ hE_n25))⟩
          · refine m_blk 43 [(0, vr 0 0)] [vr 0 0, vr 0 0] C f_q_inBraces_41_2 rfl ?_
            obtain ⟨x26, hx26⟩ : ∃ x, A16 0 0 27 = x := ⟨_, rfl⟩
            have rx26 : 0 ≤ x26 ∧ x26 ≤ 4 := mrg hT_n18 hx26 rfl
            refine m_geti C e_q_inBraces_43 fg_Mo_182 rfl (by decide) rfl x26 hx26 ?_
            refine m_blk 48 [(0, vr 0 0)] [vi (x26 - 1), vr 0 0] C f_q_inBraces_46_2 rfl ?_
            refine m_puti C e_q_inBraces_48 fp_Mo_182 rfl (by decide) rfl ?_
            have t27 : mTy (mu A16 0 0 27 (x26 - 1)) := hT_n18.mu (by show 0 ≤ (x26 - 1) ∧ (x26 - 1) ≤ 4; omega)
            have q28 := hF_n18.mu (f := 0) (k := 0) (j := 27) (z := (x26 - 1)) (by simp [pm])
            refine m_blk 54 [(0, vr 0 0)] [vi 125, vr 0 0] C f_q_inBraces_51_2 rfl ?_
            refine m_callV C Rm Y [vi 125] [] (q_need l D B H0 ad _ hS t27 125 (by show -2147483648 ≤ 125 ∧ 125 ≤ 2147483647; omega) (by show A16 0 0 24 ≤ A16 0 0 23 ∧ A16 0 0 23 ≤ A16 0 0 22; omega) pt_n18) cl_Mo_188 rfl (by decide) rfl rfl e_q_inBraces_54 rfl rfl rfl ⟨by show _ ≤ (31 + 4 * d : Nat); omega, by show _ ≤ (600 + 300 * d : Nat); omega⟩ ?_
            rintro v29 A30 ⟨rfl, hT_n32, hE_n32, raw_hb_n32, raw_hn_n32, raw_hw_n32, raw_hm_n32⟩
            have hF_n32 := q28.trans (hE_n32.sub (nm_pm _))
            show JM g D ad w0 A30 57 [(0, vr 0 0)] []
            have hb_n32 : A30 0 0 24 ≤ A30 0 0 23 ∧ A30 0 0 23 ≤ A30 0 0 22 := raw_hb_n32
            clear raw_hb_n32
            have hm_n32 : A16 0 0 24 ≤ A30 0 0 24 := raw_hm_n32
            clear raw_hm_n32
            have pt_n32 : pT A30 := raw_hn_n32
            clear raw_hn_n32
            have k0_n32 : A30 0 0 0 = A16 0 0 0 := hE_n32 0 0 0 rfl
            have k22_n32 : A30 0 0 22 = A16 0 0 22 := hE_n32 0 0 22 rfl
            have k27_n32 : A30 0 0 27 = (x26 - 1) := hE_n32 0 0 27 rfl
            have k28_n32 : A30 0 0 28 = A16 0 0 28 := hE_n32 0 0 28 rfl
            have k29_n32 : A30 0 0 29 = A16 0 0 29 := hE_n32 0 0 29 rfl
            have k30_n32 : A30 0 0 30 = A16 0 0 30 := hE_n32 0 0 30 rfl
            have g_n32 : A30 0 0 31 = 1 := wr_1 (hT_n32 0 0 31) (fun h9 => absurd ((g_n18 : A16 0 0 31 = 1).symm.trans (raw_hw_n32 h9).1) (by decide))
            clear raw_hw_n32
            exact m_vret C Rm E e_q_inBraces_57 ⟨rfl, hT_n32, hF_n32, (by show A30 0 0 24 ≤ A30 0 0 23 ∧ A30 0 0 23 ≤ A30 0 0 22; omega), pt_n32, (fun h9 => absurd ((g_n32 : A30 0 0 31 = 1).symm.trans h9) (by decide)), (by show A 0 0 24 ≤ A30 0 0 24 ∧ A 0 0 28 ≤ A30 0 0 28 ∧ A 0 0 29 ≤ A30 0 0 29 ∧ A 0 0 30 ≤ A30 0 0 30 ∧ A30 0 0 27 = A 0 0 27; omega), (nG.nm (A := (mu A16 0 0 27 (x26 - 1))) hG_n18 hE_n32), (pQ.fam (pQ.trans (pQ.fam pQ.rfl' (fam_nm _ hE_n14)) (pQ.le hQ_n18 (by show A 0 0 28 ≤ A12 0 0 28; omega) (by show A 0 0 29 ≤ A12 0 0 29; omega) (by show A 0 0 30 ≤ A12 0 0 30; omega))) (fam_nm _ hE_n32))⟩
        · refine m_blk 38 [(0, vr 0 0)] [vr 0 0] C f_q_inBraces_37_1 rfl ?_
          refine m_callV C Rm Y [] [] ((hrec d1 hd1) l D B H0 ad _ hS hT_n14 p0 (by show A12 0 0 0 = p0 ∧ 0 ≤ p0 ∧ p0 ≤ 5; omega) (by show A12 0 0 24 ≤ A12 0 0 23 ∧ A12 0 0 23 ≤ A12 0 0 22; omega) pt_n14 (fun h9 => absurd ((g_n14 : A12 0 0 31 = 1).symm.trans h9) (by decide)) (nG.nm (A := (mu A 0 0 27 (x7 + 1))) hG hE_n14) (by show A12 0 0 27 = 4 - (d1 : Int) ∧ (d1 : Int) ≤ 4; omega)) cl_Mo_185 rfl (by decide) rfl rfl e_q_inBraces_38 rfl rfl rfl ⟨by show _ ≤ (31 + 4 * d : Nat); omega, by show _ ≤ (600 + 300 * d : Nat); omega⟩ ?_
          rintro v33 A34 ⟨rfl, hT_n36, hE_n36, raw_hb_n36, raw_hn_n36, raw_hw_n36, raw_hm_n36, raw_hG_n36, raw_hQ_n36⟩
          have hF_n36 := hF_n14.trans (hE_n36.sub (fun _ _ _ h => h))
          show JM g D ad w0 A34 41 [(0, vr 0 0)] []
          have hb_n36 : A34 0 0 24 ≤ A34 0 0 23 ∧ A34 0 0 23 ≤ A34 0 0 22 := raw_hb_n36
          clear raw_hb_n36
          have hm_n36 : A12 0 0 24 ≤ A34 0 0 24 ∧ A12 0 0 28 ≤ A34 0 0 28 ∧ A12 0 0 29 ≤ A34 0 0 29 ∧ A12 0 0 30 ≤ A34 0 0 30 ∧ A34 0 0 27 = A12 0 0 27 := raw_hm_n36
          clear raw_hm_n36
          have pt_n36 : pT A34 := raw_hn_n36
          have k0_n36 : A34 0 0 0 = A12 0 0 0 := hE_n36 0 0 0 rfl
          have k22_n36 : A34 0 0 22 = A12 0 0 22 := hE_n36 0 0 22 rfl
          have hG_n36 : nG p0.toNat A34 := raw_hG_n36
          have hV_n36 : pV p0.toNat (4 - (d1 : Int)) A12 A34 := raw_hw_n36
          clear raw_hw_n36
          have hQ_n36 : pQ p0.toNat (A12 0 0 28) (A12 0 0 29) (A12 0 0 30) A12 A34 := raw_hQ_n36
          clear raw_hQ_n36
          have g_n36 : A34 0 0 31 = 1 := wr_1 (hT_n36 0 0 31) (fun h9 => absurd ((g_n14 : A12 0 0 31 = 1).symm.trans (hV_n36 h9).1) (by decide))
          refine m_blk 43 [(0, vr 0 0)] [vr 0 0, vr 0 0] C f_q_inBraces_41_2 rfl ?_
          obtain ⟨x37, hx37⟩ : ∃ x, A34 0 0 27 = x := ⟨_, rfl⟩
          have rx37 : 0 ≤ x37 ∧ x37 ≤ 4 := mrg hT_n36 hx37 rfl
          refine m_geti C e_q_inBraces_43 fg_Mo_182 rfl (by decide) rfl x37 hx37 ?_
          refine m_blk 48 [(0, vr 0 0)] [vi (x37 - 1), vr 0 0] C f_q_inBraces_46_2 rfl ?_
          refine m_puti C e_q_inBraces_48 fp_Mo_182 rfl (by decide) rfl ?_
          have t38 : mTy (mu A34 0 0 27 (x37 - 1)) := hT_n36.mu (by show 0 ≤ (x37 - 1) ∧ (x37 - 1) ≤ 4; omega)
          have q39 := hF_n36.mu (f := 0) (k := 0) (j := 27) (z := (x37 - 1)) (by simp [pm])
          refine m_blk 54 [(0, vr 0 0)] [vi 125, vr 0 0] C f_q_inBraces_51_2 rfl ?_
          refine m_callV C Rm Y [vi 125] [] (q_need l D B H0 ad _ hS t38 125 (by show -2147483648 ≤ 125 ∧ 125 ≤ 2147483647; omega) (by show A34 0 0 24 ≤ A34 0 0 23 ∧ A34 0 0 23 ≤ A34 0 0 22; omega) pt_n36) cl_Mo_188 rfl (by decide) rfl rfl e_q_inBraces_54 rfl rfl rfl ⟨by show _ ≤ (31 + 4 * d : Nat); omega, by show _ ≤ (600 + 300 * d : Nat); omega⟩ ?_
          rintro v40 A41 ⟨rfl, hT_n43, hE_n43, raw_hb_n43, raw_hn_n43, raw_hw_n43, raw_hm_n43⟩
          have hF_n43 := q39.trans (hE_n43.sub (nm_pm _))
          show JM g D ad w0 A41 57 [(0, vr 0 0)] []
          have hb_n43 : A41 0 0 24 ≤ A41 0 0 23 ∧ A41 0 0 23 ≤ A41 0 0 22 := raw_hb_n43
          clear raw_hb_n43
          have hm_n43 : A34 0 0 24 ≤ A41 0 0 24 := raw_hm_n43
          clear raw_hm_n43
          have pt_n43 : pT A41 := raw_hn_n43
          clear raw_hn_n43
          have k0_n43 : A41 0 0 0 = A34 0 0 0 := hE_n43 0 0 0 rfl
          have k22_n43 : A41 0 0 22 = A34 0 0 22 := hE_n43 0 0 22 rfl
          have k27_n43 : A41 0 0 27 = (x37 - 1) := hE_n43 0 0 27 rfl
          have k28_n43 : A41 0 0 28 = A34 0 0 28 := hE_n43 0 0 28 rfl
          have k29_n43 : A41 0 0 29 = A34 0 0 29 := hE_n43 0 0 29 rfl
          have k30_n43 : A41 0 0 30 = A34 0 0 30 := hE_n43 0 0 30 rfl
          have g_n43 : A41 0 0 31 = 1 := wr_1 (hT_n43 0 0 31) (fun h9 => absurd ((g_n36 : A34 0 0 31 = 1).symm.trans (raw_hw_n43 h9).1) (by decide))
          clear raw_hw_n43
          exact m_vret C Rm E e_q_inBraces_57 ⟨rfl, hT_n43, hF_n43, (by show A41 0 0 24 ≤ A41 0 0 23 ∧ A41 0 0 23 ≤ A41 0 0 22; omega), pt_n43, (fun h9 => absurd ((g_n43 : A41 0 0 31 = 1).symm.trans h9) (by decide)), (by show A 0 0 24 ≤ A41 0 0 24 ∧ A 0 0 28 ≤ A41 0 0 28 ∧ A 0 0 29 ≤ A41 0 0 29 ∧ A 0 0 30 ≤ A41 0 0 30 ∧ A41 0 0 27 = A 0 0 27; omega), (nG.nm (A := (mu A34 0 0 27 (x37 - 1))) hG_n36 hE_n43), (pQ.fam (pQ.trans (pQ.fam pQ.rfl' (fam_nm _ hE_n14)) (pQ.le hQ_n36 (by show A 0 0 28 ≤ A12 0 0 28; omega) (by show A 0 0 29 ≤ A12 0 0 29; omega) (by show A 0 0 30 ≤ A12 0 0 30; omega))) (fam_nm _ hE_n43))⟩
      · refine m_blk 19 [(0, vr 0 0)] [vi 1, vr 0 0] C f_q_inBraces_17_2 rfl ?_
        refine m_putz C e_q_inBraces_19 fp_Mo_155 rfl (by decide) rfl (Or.inr rfl) ?_
        have t44 : mTy (mu A 0 0 31 1) := hT.mu (by show 0 ≤ 1 ∧ 1 ≤ 1; omega)
        have q45 := hE0.mu (f := 0) (k := 0) (j := 31) (z := 1) (by simp [pm])
        exact m_vret C Rm E e_q_inBraces_22 ⟨rfl, t44, q45, (by show A 0 0 24 ≤ A 0 0 23 ∧ A 0 0 23 ≤ A 0 0 22; omega), (fun h9 => absurd (show (1 : Int) = 0 from h9) (by decide)), (fun h9 => absurd (show (1 : Int) = 0 from h9) (by decide)), (by show A 0 0 24 ≤ A 0 0 24 ∧ A 0 0 28 ≤ A 0 0 28 ∧ A 0 0 29 ≤ A 0 0 29 ∧ A 0 0 30 ≤ A 0 0 30 ∧ A 0 0 27 = A 0 0 27; omega), hG, pQ.rfl'⟩
    · subst e_n4
      clear hz_n4
      refine m_if_eq (tgt := 17) C e_q_inBraces_6 (by decide) (by decide) (fun c46 => ?_) (fun c46 => (by omega : False).elim)
      refine m_blk 19 [(0, vr 0 0)] [vi 1, vr 0 0] C f_q_inBraces_17_2 rfl ?_
      refine m_putz C e_q_inBraces_19 fp_Mo_155 rfl (by decide) rfl (Or.inr rfl) ?_
      have t47 : mTy (mu A 0 0 31 1) := hT.mu (by show 0 ≤ 1 ∧ 1 ≤ 1; omega)
      have q48 := hE0.mu (f := 0) (k := 0) (j := 31) (z := 1) (by simp [pm])
      exact m_vret C Rm E e_q_inBraces_22 ⟨rfl, t47, q48, (by show A 0 0 24 ≤ A 0 0 23 ∧ A 0 0 23 ≤ A 0 0 22; omega), (fun h9 => absurd (show (1 : Int) = 0 from h9) (by decide)), (fun h9 => absurd (show (1 : Int) = 0 from h9) (by decide)), (by show A 0 0 24 ≤ A 0 0 24 ∧ A 0 0 28 ≤ A 0 0 28 ∧ A 0 0 29 ≤ A 0 0 29 ∧ A 0 0 30 ≤ A 0 0 30 ∧ A 0 0 27 = A 0 0 27; omega), hG, pQ.rfl'⟩
  · refine m_blk 3 [(0, vr 0 0)] [vi 123, vr 0 0] C f_q_inBraces_0_2 rfl ?_
    refine m_callV C Rm Y [vi 123] [] (q_isSign l D B H0 ad _ hT 123 (by show -2147483648 ≤ 123 ∧ 123 ≤ 2147483647; omega)) cl_Mo_173 rfl (by decide) rfl rfl e_q_inBraces_3 rfl rfl rfl ⟨by show _ ≤ (31 + 4 * d : Nat); omega, by show _ ≤ (600 + 300 * d : Nat); omega⟩ ?_
    rintro v49 A50 ⟨z53, rfl, rfl, raw_hz_n52⟩
    show JM g D ad w0 A 6 [(0, vr 0 0)] [vi z53]
    have hz_n52 : z53 = 1 ∧ A 0 0 31 = 0 ∧ A 0 0 25 = 4 ∧ A 0 0 26 = 123 ∨ z53 = 0 ∧ ¬ (A 0 0 31 = 0 ∧ A 0 0 25 = 4 ∧ A 0 0 26 = 123) := raw_hz_n52
    clear raw_hz_n52
    rcases hz_n52 with ⟨e_n52, hz_n52⟩ | ⟨e_n52, hz_n52⟩
    · subst e_n52
      exact (by omega : False).elim
    · subst e_n52
      clear hz_n52
      refine m_if_eq (tgt := 17) C e_q_inBraces_6 (by decide) (by decide) (fun c54 => ?_) (fun c54 => (by omega : False).elim)
      refine m_blk 19 [(0, vr 0 0)] [vi 1, vr 0 0] C f_q_inBraces_17_2 rfl ?_
      refine m_putz C e_q_inBraces_19 fp_Mo_155 rfl (by decide) rfl (Or.inr rfl) ?_
      have t55 : mTy (mu A 0 0 31 1) := hT.mu (by show 0 ≤ 1 ∧ 1 ≤ 1; omega)
      have q56 := hE0.mu (f := 0) (k := 0) (j := 31) (z := 1) (by simp [pm])
      exact m_vret C Rm E e_q_inBraces_22 ⟨rfl, t55, q56, (by show A 0 0 24 ≤ A 0 0 23 ∧ A 0 0 23 ≤ A 0 0 22; omega), (fun h9 => absurd (show (1 : Int) = 0 from h9) (by decide)), (fun h9 => absurd (show (1 : Int) = 0 from h9) (by decide)), (by show A 0 0 24 ≤ A 0 0 24 ∧ A 0 0 28 ≤ A 0 0 28 ∧ A 0 0 29 ≤ A 0 0 29 ∧ A 0 0 30 ≤ A 0 0 30 ∧ A 0 0 27 = A 0 0 27; omega), hG, pQ.rfl'⟩

theorem f_q_step_0_1 : mblkB b_Mo_step_0 [(0, .aload_n 0, vi 0)] = true := by decide +kernel
theorem e_q_step_1 : decode b_Mo_step_0 1 = .ok (.getfield 155, 3) := by decide +kernel
theorem e_q_step_4 : decode b_Mo_step_0 4 = .ok (.ifCond .ne 20, 3) := by decide +kernel
theorem f_q_step_7_1 : mblkB b_Mo_step_0 [(7, .aload_n 0, vi 0)] = true := by decide +kernel
theorem e_q_step_8 : decode b_Mo_step_0 8 = .ok (.getfield 159, 3) := by decide +kernel
theorem f_q_step_11_1 : mblkB b_Mo_step_0 [(11, .iconst 2, vi 2)] = true := by decide +kernel
theorem e_q_step_12 : decode b_Mo_step_0 12 = .ok (.if_icmp .ne 12, 3) := by decide +kernel
theorem f_q_step_24_2 : mblkB b_Mo_step_0 [(24, .aload_n 0, vi 0), (25, .iconst 1, vi 1)] = true := by decide +kernel
theorem e_q_step_26 : decode b_Mo_step_0 26 = .ok (.putfield 155, 3) := by decide +kernel
theorem e_q_step_29 : decode b_Mo_step_0 29 = .ok (.return_, 1) := by decide +kernel
theorem f_q_step_15_1 : mblkB b_Mo_step_0 [(15, .aload_n 0, vi 0)] = true := by decide +kernel
theorem e_q_step_16 : decode b_Mo_step_0 16 = .ok (.getfield 192, 3) := by decide +kernel
theorem f_q_step_19_1 : mblkB b_Mo_step_0 [(19, .bipush 16, vi 16)] = true := by decide +kernel
theorem e_q_step_21 : decode b_Mo_step_0 21 = .ok (.if_icmp .ne 9, 3) := by decide +kernel
theorem f_q_step_30_1 : mblkB b_Mo_step_0 [(30, .aload_n 0, vi 0)] = true := by decide +kernel
theorem e_q_step_31 : decode b_Mo_step_0 31 = .ok (.getfield 105, 3) := by decide +kernel
theorem f_q_step_34_2 : mblkB b_Mo_step_0 [(34, .istore_n 1, vi 0), (35, .aload_n 0, vi 0)] = true := by decide +kernel
theorem e_q_step_36 : decode b_Mo_step_0 36 = .ok (.getfield 192, 3) := by decide +kernel
theorem f_q_step_39_2 : mblkB b_Mo_step_0 [(39, .istore_n 2, vi 0), (40, .aload_n 0, vi 0)] = true := by decide +kernel
theorem e_q_step_41 : decode b_Mo_step_0 41 = .ok (.getfield 165, 3) := by decide +kernel
theorem f_q_step_44_3 : mblkB b_Mo_step_0 [(44, .istore_n 3, vi 0), (45, .aload_n 0, vi 0), (46, .dup, vi 0)] = true := by decide +kernel
theorem e_q_step_47 : decode b_Mo_step_0 47 = .ok (.getfield 192, 3) := by decide +kernel
theorem f_q_step_50_2 : mblkB b_Mo_step_0 [(50, .iconst 1, vi 1), (51, .iadd, vi 0)] = true := by decide +kernel
theorem e_q_step_52 : decode b_Mo_step_0 52 = .ok (.putfield 192, 3) := by decide +kernel
theorem f_q_step_55_1 : mblkB b_Mo_step_0 [(55, .aload_n 0, vi 0)] = true := by decide +kernel
theorem e_q_step_56 : decode b_Mo_step_0 56 = .ok (.getfield 21, 3) := by decide +kernel
theorem f_q_step_59_1 : mblkB b_Mo_step_0 [(59, .iload_n 1, vi 0)] = true := by decide +kernel
theorem e_q_step_60 : decode b_Mo_step_0 60 = .ok (.aaload, 1) := by decide +kernel
theorem f_q_step_61_2 : mblkB b_Mo_step_0 [(61, .iload_n 2, vi 0), (62, .iload_n 3, vi 0)] = true := by decide +kernel
theorem e_q_step_63 : decode b_Mo_step_0 63 = .ok (.iastore, 1) := by decide +kernel
theorem f_q_step_64_1 : mblkB b_Mo_step_0 [(64, .aload_n 0, vi 0)] = true := by decide +kernel
theorem e_q_step_65 : decode b_Mo_step_0 65 = .ok (.getfield 24, 3) := by decide +kernel
theorem f_q_step_68_1 : mblkB b_Mo_step_0 [(68, .iload_n 1, vi 0)] = true := by decide +kernel
theorem e_q_step_69 : decode b_Mo_step_0 69 = .ok (.aaload, 1) := by decide +kernel
theorem f_q_step_70_2 : mblkB b_Mo_step_0 [(70, .iload_n 2, vi 0), (71, .iconst (-1), vi (-1))] = true := by decide +kernel
theorem e_q_step_72 : decode b_Mo_step_0 72 = .ok (.iastore, 1) := by decide +kernel
theorem f_q_step_73_1 : mblkB b_Mo_step_0 [(73, .aload_n 0, vi 0)] = true := by decide +kernel
theorem e_q_step_74 : decode b_Mo_step_0 74 = .ok (.getfield 27, 3) := by decide +kernel
theorem f_q_step_77_1 : mblkB b_Mo_step_0 [(77, .iload_n 1, vi 0)] = true := by decide +kernel
theorem e_q_step_78 : decode b_Mo_step_0 78 = .ok (.aaload, 1) := by decide +kernel
theorem f_q_step_79_2 : mblkB b_Mo_step_0 [(79, .iload_n 2, vi 0), (80, .iconst (-1), vi (-1))] = true := by decide +kernel
theorem e_q_step_81 : decode b_Mo_step_0 81 = .ok (.iastore, 1) := by decide +kernel
theorem f_q_step_82_1 : mblkB b_Mo_step_0 [(82, .aload_n 0, vi 0)] = true := by decide +kernel
theorem e_q_step_83 : decode b_Mo_step_0 83 = .ok (.getfield 36, 3) := by decide +kernel
theorem f_q_step_86_1 : mblkB b_Mo_step_0 [(86, .iload_n 1, vi 0)] = true := by decide +kernel
theorem e_q_step_87 : decode b_Mo_step_0 87 = .ok (.aaload, 1) := by decide +kernel
theorem f_q_step_88_2 : mblkB b_Mo_step_0 [(88, .iload_n 2, vi 0), (89, .iconst (-1), vi (-1))] = true := by decide +kernel
theorem e_q_step_90 : decode b_Mo_step_0 90 = .ok (.iastore, 1) := by decide +kernel
theorem f_q_step_91_1 : mblkB b_Mo_step_0 [(91, .aload_n 0, vi 0)] = true := by decide +kernel
theorem e_q_step_92 : decode b_Mo_step_0 92 = .ok (.getfield 39, 3) := by decide +kernel
theorem f_q_step_95_1 : mblkB b_Mo_step_0 [(95, .iload_n 1, vi 0)] = true := by decide +kernel
theorem e_q_step_96 : decode b_Mo_step_0 96 = .ok (.aaload, 1) := by decide +kernel
theorem f_q_step_97_2 : mblkB b_Mo_step_0 [(97, .iload_n 2, vi 0), (98, .aload_n 0, vi 0)] = true := by decide +kernel
theorem e_q_step_99 : decode b_Mo_step_0 99 = .ok (.getfield 195, 3) := by decide +kernel
theorem e_q_step_102 : decode b_Mo_step_0 102 = .ok (.iastore, 1) := by decide +kernel
theorem f_q_step_103_1 : mblkB b_Mo_step_0 [(103, .aload_n 0, vi 0)] = true := by decide +kernel
theorem e_q_step_104 : decode b_Mo_step_0 104 = .ok (.invokevirtual 176, 3) := by decide +kernel
theorem f_q_step_107_1 : mblkB b_Mo_step_0 [(107, .iload_n 3, vi 0)] = true := by decide +kernel
theorem e_q_step_108 : decode b_Mo_step_0 108 = .ok (.ifCond .eq 13, 3) := by decide +kernel
theorem f_q_step_121_1 : mblkB b_Mo_step_0 [(121, .aload_n 0, vi 0)] = true := by decide +kernel
theorem e_q_step_122 : decode b_Mo_step_0 122 = .ok (.getfield 24, 3) := by decide +kernel
theorem f_q_step_125_1 : mblkB b_Mo_step_0 [(125, .iload_n 1, vi 0)] = true := by decide +kernel
theorem e_q_step_126 : decode b_Mo_step_0 126 = .ok (.aaload, 1) := by decide +kernel
theorem f_q_step_127_5 : mblkB b_Mo_step_0 [(127, .iload_n 2, vi 0), (128, .aload_n 0, vi 0), (129, .iconst 1, vi 1), (130, .iconst 0, vi 0), (131, .iconst 5, vi 5)] = true := by decide +kernel
theorem e_q_step_132 : decode b_Mo_step_0 132 = .ok (.invokevirtual 198, 3) := by decide +kernel
theorem e_q_step_135 : decode b_Mo_step_0 135 = .ok (.iastore, 1) := by decide +kernel
theorem f_q_step_136_1 : mblkB b_Mo_step_0 [(136, .iload_n 3, vi 0)] = true := by decide +kernel
theorem e_q_step_137 : decode b_Mo_step_0 137 = .ok (.ifCond .ne 9, 3) := by decide +kernel
theorem f_q_step_140_3 : mblkB b_Mo_step_0 [(140, .aload_n 0, vi 0), (141, .iload_n 1, vi 0), (142, .iload_n 2, vi 0)] = true := by decide +kernel
theorem e_q_step_143 : decode b_Mo_step_0 143 = .ok (.invokevirtual 202, 3) := by decide +kernel
theorem f_q_step_146_2 : mblkB b_Mo_step_0 [(146, .iload_n 3, vi 0), (147, .iconst 4, vi 4)] = true := by decide +kernel
theorem e_q_step_148 : decode b_Mo_step_0 148 = .ok (.if_icmp .ne 19, 3) := by decide +kernel
theorem f_q_step_167_2 : mblkB b_Mo_step_0 [(167, .iload_n 3, vi 0), (168, .iconst 5, vi 5)] = true := by decide +kernel
theorem e_q_step_169 : decode b_Mo_step_0 169 = .ok (.if_icmp .ne 23, 3) := by decide +kernel
theorem f_q_step_192_2 : mblkB b_Mo_step_0 [(192, .iload_n 3, vi 0), (193, .iconst 1, vi 1)] = true := by decide +kernel
theorem e_q_step_194 : decode b_Mo_step_0 194 = .ok (.if_icmp .eq 18, 3) := by decide +kernel
theorem f_q_step_197_2 : mblkB b_Mo_step_0 [(197, .iload_n 3, vi 0), (198, .iconst 2, vi 2)] = true := by decide +kernel
theorem e_q_step_199 : decode b_Mo_step_0 199 = .ok (.if_icmp .eq 13, 3) := by decide +kernel
theorem f_q_step_202_2 : mblkB b_Mo_step_0 [(202, .iload_n 3, vi 0), (203, .iconst 3, vi 3)] = true := by decide +kernel
theorem e_q_step_204 : decode b_Mo_step_0 204 = .ok (.if_icmp .eq 8, 3) := by decide +kernel
theorem f_q_step_207_2 : mblkB b_Mo_step_0 [(207, .iload_n 3, vi 0), (208, .iconst 5, vi 5)] = true := by decide +kernel
theorem e_q_step_209 : decode b_Mo_step_0 209 = .ok (.if_icmp .ne 15, 3) := by decide +kernel
theorem f_q_step_224_2 : mblkB b_Mo_step_0 [(224, .iload_n 3, vi 0), (225, .iconst 3, vi 3)] = true := by decide +kernel
theorem e_q_step_226 : decode b_Mo_step_0 226 = .ok (.if_icmp .eq 8, 3) := by decide +kernel
theorem f_q_step_229_2 : mblkB b_Mo_step_0 [(229, .iload_n 3, vi 0), (230, .iconst 4, vi 4)] = true := by decide +kernel
theorem e_q_step_231 : decode b_Mo_step_0 231 = .ok (.if_icmp .ne 7, 3) := by decide +kernel
theorem f_q_step_238_1 : mblkB b_Mo_step_0 [(238, .aload_n 0, vi 0)] = true := by decide +kernel
theorem e_q_step_239 : decode b_Mo_step_0 239 = .ok (.getfield 33, 3) := by decide +kernel
theorem f_q_step_242_1 : mblkB b_Mo_step_0 [(242, .iload_n 1, vi 0)] = true := by decide +kernel
theorem e_q_step_243 : decode b_Mo_step_0 243 = .ok (.aaload, 1) := by decide +kernel
theorem f_q_step_244_2 : mblkB b_Mo_step_0 [(244, .iload_n 2, vi 0), (245, .aload_n 0, vi 0)] = true := by decide +kernel
theorem e_q_step_246 : decode b_Mo_step_0 246 = .ok (.getfield 192, 3) := by decide +kernel
theorem e_q_step_249 : decode b_Mo_step_0 249 = .ok (.iastore, 1) := by decide +kernel
theorem f_q_step_250_2 : mblkB b_Mo_step_0 [(250, .iload_n 3, vi 0), (251, .iconst 3, vi 3)] = true := by decide +kernel
theorem e_q_step_252 : decode b_Mo_step_0 252 = .ok (.if_icmp .ne 7, 3) := by decide +kernel
theorem f_q_step_259_1 : mblkB b_Mo_step_0 [(259, .aload_n 0, vi 0)] = true := by decide +kernel
theorem e_q_step_260 : decode b_Mo_step_0 260 = .ok (.getfield 30, 3) := by decide +kernel
theorem f_q_step_263_1 : mblkB b_Mo_step_0 [(263, .iload_n 1, vi 0)] = true := by decide +kernel
theorem e_q_step_264 : decode b_Mo_step_0 264 = .ok (.aaload, 1) := by decide +kernel
theorem f_q_step_265_2 : mblkB b_Mo_step_0 [(265, .iload_n 2, vi 0), (266, .aload_n 0, vi 0)] = true := by decide +kernel
theorem e_q_step_267 : decode b_Mo_step_0 267 = .ok (.getfield 192, 3) := by decide +kernel
theorem e_q_step_270 : decode b_Mo_step_0 270 = .ok (.iastore, 1) := by decide +kernel
theorem e_q_step_271 : decode b_Mo_step_0 271 = .ok (.return_, 1) := by decide +kernel
theorem f_q_step_111_2 : mblkB b_Mo_step_0 [(111, .iload_n 3, vi 0), (112, .iconst 1, vi 1)] = true := by decide +kernel
theorem e_q_step_113 : decode b_Mo_step_0 113 = .ok (.if_icmp .eq 8, 3) := by decide +kernel
theorem f_q_step_212_1 : mblkB b_Mo_step_0 [(212, .aload_n 0, vi 0)] = true := by decide +kernel
theorem e_q_step_213 : decode b_Mo_step_0 213 = .ok (.getfield 36, 3) := by decide +kernel
theorem f_q_step_216_1 : mblkB b_Mo_step_0 [(216, .iload_n 1, vi 0)] = true := by decide +kernel
theorem e_q_step_217 : decode b_Mo_step_0 217 = .ok (.aaload, 1) := by decide +kernel
theorem f_q_step_218_2 : mblkB b_Mo_step_0 [(218, .iload_n 2, vi 0), (219, .aload_n 0, vi 0)] = true := by decide +kernel
theorem e_q_step_220 : decode b_Mo_step_0 220 = .ok (.invokevirtual 206, 3) := by decide +kernel
theorem e_q_step_223 : decode b_Mo_step_0 223 = .ok (.iastore, 1) := by decide +kernel
theorem f_q_step_116_2 : mblkB b_Mo_step_0 [(116, .iload_n 3, vi 0), (117, .iconst 5, vi 5)] = true := by decide +kernel
theorem e_q_step_118 : decode b_Mo_step_0 118 = .ok (.if_icmp .ne 18, 3) := by decide +kernel
theorem f_q_step_234_1 : mblkB b_Mo_step_0 [(234, .aload_n 0, vi 0)] = true := by decide +kernel
theorem e_q_step_235 : decode b_Mo_step_0 235 = .ok (.invokevirtual 209, 3) := by decide +kernel
theorem f_q_step_255_1 : mblkB b_Mo_step_0 [(255, .aload_n 0, vi 0)] = true := by decide +kernel
theorem e_q_step_256 : decode b_Mo_step_0 256 = .ok (.invokevirtual 209, 3) := by decide +kernel
theorem f_q_step_151_1 : mblkB b_Mo_step_0 [(151, .aload_n 0, vi 0)] = true := by decide +kernel
theorem e_q_step_152 : decode b_Mo_step_0 152 = .ok (.getfield 27, 3) := by decide +kernel
theorem f_q_step_155_1 : mblkB b_Mo_step_0 [(155, .iload_n 1, vi 0)] = true := by decide +kernel
theorem e_q_step_156 : decode b_Mo_step_0 156 = .ok (.aaload, 1) := by decide +kernel
theorem f_q_step_157_5 : mblkB b_Mo_step_0 [(157, .iload_n 2, vi 0), (158, .aload_n 0, vi 0), (159, .iconst 3, vi 3), (160, .iconst 0, vi 0), (161, .bipush 9, vi 9)] = true := by decide +kernel
theorem e_q_step_163 : decode b_Mo_step_0 163 = .ok (.invokevirtual 198, 3) := by decide +kernel
theorem e_q_step_166 : decode b_Mo_step_0 166 = .ok (.iastore, 1) := by decide +kernel
theorem f_q_step_172_1 : mblkB b_Mo_step_0 [(172, .aload_n 0, vi 0)] = true := by decide +kernel
theorem e_q_step_173 : decode b_Mo_step_0 173 = .ok (.getfield 27, 3) := by decide +kernel
theorem f_q_step_176_1 : mblkB b_Mo_step_0 [(176, .iload_n 1, vi 0)] = true := by decide +kernel
theorem e_q_step_177 : decode b_Mo_step_0 177 = .ok (.aaload, 1) := by decide +kernel
theorem f_q_step_178_5 : mblkB b_Mo_step_0 [(178, .iload_n 2, vi 0), (179, .aload_n 0, vi 0), (180, .iconst 3, vi 3), (181, .iconst 0, vi 0), (182, .aload_n 0, vi 0)] = true := by decide +kernel
theorem e_q_step_183 : decode b_Mo_step_0 183 = .ok (.getfield 105, 3) := by decide +kernel
theorem f_q_step_186_2 : mblkB b_Mo_step_0 [(186, .iconst 1, vi 1), (187, .isub, vi 0)] = true := by decide +kernel
theorem e_q_step_188 : decode b_Mo_step_0 188 = .ok (.invokevirtual 198, 3) := by decide +kernel
theorem e_q_step_191 : decode b_Mo_step_0 191 = .ok (.iastore, 1) := by decide +kernel
set_option maxHeartbeats 40000000 in
set_option maxRecDepth 100000 in
theorem q_step (d : Nat) (hq9 : S_inBraces d) : S_step d := by
  intro l D B H0 ad A hS hT p0 hp hb hn hl hG ho
  refine m_met (by decide) rfl (fun g w0 C Rm Y E => ?_)
  have hE0 : mEq (pm p0.toNat) A A := mEq.rfl'
  show JM g D ad w0 A 0 [(0, vr 0 0)] []
  obtain ⟨xs, hxs⟩ : ∃ x, A 0 0 28 = x := ⟨_, rfl⟩
  have rxs : 0 ≤ xs ∧ xs ≤ 16 := mrg hT hxs rfl
  have rt : A 0 0 22 ≤ 120 := (hT 0 0 22).2
  have rd9 : 0 ≤ A 0 0 29 ∧ 0 ≤ A 0 0 30 := ⟨(hT 0 0 29).1, (hT 0 0 30).1⟩
  rcases (show A 0 0 31 = 0 ∨ A 0 0 31 = 1 from by have w8 : 0 ≤ A 0 0 31 ∧ A 0 0 31 ≤ 1 := hT 0 0 31; omega) with g0 | g0
  · have hl0 := hl g0
    refine m_blk 1 [(0, vr 0 0)] [vr 0 0] C f_q_step_0_1 rfl ?_
    refine m_geti C e_q_step_1 fg_Mo_155 rfl (by decide) rfl 0 g0 ?_
    refine m_if_ne (tgt := 24) C e_q_step_4 (by decide) (by decide) (fun c1 => (by omega : False).elim) (fun c1 => ?_)
    refine m_blk 8 [(0, vr 0 0)] [vr 0 0] C f_q_step_7_1 rfl ?_
    obtain ⟨x2, hx2⟩ : ∃ x, A 0 0 25 = x := ⟨_, rfl⟩
    have rx2 : 0 ≤ x2 ∧ x2 ≤ 4 := mrg hT hx2 rfl
    refine m_geti C e_q_step_8 fg_Mo_159 rfl (by decide) rfl x2 hx2 ?_
    refine m_blk 12 [(0, vr 0 0)] [vi 2, vi x2] C f_q_step_11_1 rfl ?_
    refine m_icmp_ne (tgt := 24) C e_q_step_12 (by decide) (by omega) (by decide) (fun c3 => ?_) (fun c3 => ?_)
    · refine m_blk 26 [(0, vr 0 0)] [vi 1, vr 0 0] C f_q_step_24_2 rfl ?_
      refine m_putz C e_q_step_26 fp_Mo_155 rfl (by decide) rfl (Or.inr rfl) ?_
      have t4 : mTy (mu A 0 0 31 1) := hT.mu (by show 0 ≤ 1 ∧ 1 ≤ 1; omega)
      have q5 := hE0.mu (f := 0) (k := 0) (j := 31) (z := 1) (by simp [pm])
      exact m_vret C Rm E e_q_step_29 ⟨rfl, t4, q5, (by show A 0 0 24 ≤ A 0 0 23 ∧ A 0 0 23 ≤ A 0 0 22; omega), (fun h9 => absurd (show (1 : Int) = 0 from h9) (by decide)), (fun h9 => absurd (show (1 : Int) = 0 from h9) (by decide)), (by show A 0 0 24 ≤ A 0 0 24 ∧ A 0 0 28 ≤ A 0 0 28 ∧ A 0 0 29 ≤ A 0 0 29 ∧ A 0 0 30 ≤ A 0 0 30 ∧ A 0 0 27 = A 0 0 27; omega), hG, pQ.rfl'⟩
    · refine m_blk 16 [(0, vr 0 0)] [vr 0 0] C f_q_step_15_1 rfl ?_
      refine m_geti C e_q_step_16 fg_Mo_192 rfl (by decide) rfl xs hxs ?_
      refine m_blk 21 [(0, vr 0 0)] [vi 16, vi xs] C f_q_step_19_1 rfl ?_
      refine m_icmp_ne (tgt := 30) C e_q_step_21 (by decide) (by omega) (by decide) (fun c6 => ?_) (fun c6 => ?_)
      · refine m_blk 31 [(0, vr 0 0)] [vr 0 0] C f_q_step_30_1 rfl ?_
        refine m_geti C e_q_step_31 fg_Mo_105 rfl (by decide) rfl p0 hp.1 ?_
        refine m_blk 36 [(1, vi p0), (0, vr 0 0)] [vr 0 0] C f_q_step_34_2 rfl ?_
        refine m_geti C e_q_step_36 fg_Mo_192 rfl (by decide) rfl xs hxs ?_
        refine m_blk 41 [(2, vi xs), (1, vi p0), (0, vr 0 0)] [vr 0 0] C f_q_step_39_2 rfl ?_
        obtain ⟨x7, hx7⟩ : ∃ x, A 0 0 26 = x := ⟨_, rfl⟩
        have rx7 : (-1) ≤ x7 ∧ x7 ≤ 255 := mrg hT hx7 rfl
        refine m_geti C e_q_step_41 fg_Mo_165 rfl (by decide) rfl x7 hx7 ?_
        refine m_blk 47 [(3, vi x7), (2, vi xs), (1, vi p0), (0, vr 0 0)] [vr 0 0, vr 0 0] C f_q_step_44_3 rfl ?_
        refine m_geti C e_q_step_47 fg_Mo_192 rfl (by decide) rfl xs hxs ?_
        refine m_blk 52 [(3, vi x7), (2, vi xs), (1, vi p0), (0, vr 0 0)] [vi (xs + 1), vr 0 0] C f_q_step_50_2 rfl ?_
        refine m_puti C e_q_step_52 fp_Mo_192 rfl (by decide) rfl ?_
        have t8 : mTy (mu A 0 0 28 (xs + 1)) := hT.mu (by show 0 ≤ (xs + 1) ∧ (xs + 1) ≤ 16; omega)
        have q9 := hE0.mu (f := 0) (k := 0) (j := 28) (z := (xs + 1)) (by simp [pm])
        refine m_blk 56 [(3, vi x7), (2, vi xs), (1, vi p0), (0, vr 0 0)] [vr 0 0] C f_q_step_55_1 rfl ?_
        refine m_getr C e_q_step_56 fg_Mo_21 rfl (by decide) rfl ?_
        refine m_blk 60 [(3, vi x7), (2, vi xs), (1, vi p0), (0, vr 0 0)] [vi p0, vr 14 0] C f_q_step_59_1 rfl ?_
        refine m_aald C p0.toNat e_q_step_60 rfl rfl rfl (by decide) (by decide) (by omega) (by show p0 < ((6 : Nat) : Int); omega) (mz _ _) ?_
        refine m_blk 63 [(3, vi x7), (2, vi xs), (1, vi p0), (0, vr 0 0)] [vi x7, vi xs, vr 34 p0.toNat] C f_q_step_61_2 rfl ?_
        refine m_iast C e_q_step_63 rfl (by omega) (by decide) (by omega) (by show xs < ((16 : Nat) : Int); omega) ?_
        have t10 : mTy (mu (mu A 0 0 28 (xs + 1)) 34 p0.toNat xs.toNat x7) := t8.mu (by show (-1) ≤ x7 ∧ x7 ≤ 255; omega)
        have q11 := q9.mu (f := 34) (k := p0.toNat) (j := xs.toNat) (z := x7) (by simp [pm])
        refine m_blk 65 [(3, vi x7), (2, vi xs), (1, vi p0), (0, vr 0 0)] [vr 0 0] C f_q_step_64_1 rfl ?_
        refine m_getr C e_q_step_65 fg_Mo_24 rfl (by decide) rfl ?_
        refine m_blk 69 [(3, vi x7), (2, vi xs), (1, vi p0), (0, vr 0 0)] [vi p0, vr 15 0] C f_q_step_68_1 rfl ?_
        refine m_aald C p0.toNat e_q_step_69 rfl rfl rfl (by decide) (by decide) (by omega) (by show p0 < ((6 : Nat) : Int); omega) (mz _ _) ?_
        refine m_blk 72 [(3, vi x7), (2, vi xs), (1, vi p0), (0, vr 0 0)] [vi (-1), vi xs, vr 35 p0.toNat] C f_q_step_70_2 rfl ?_
        refine m_iast C e_q_step_72 rfl (by omega) (by decide) (by omega) (by show xs < ((16 : Nat) : Int); omega) ?_
        have t12 : mTy (mu (mu (mu A 0 0 28 (xs + 1)) 34 p0.toNat xs.toNat x7) 35 p0.toNat xs.toNat (-1)) := t10.mu (by show (-1) ≤ (-1) ∧ (-1) ≤ 5; omega)
        have q13 := q11.mu (f := 35) (k := p0.toNat) (j := xs.toNat) (z := (-1)) (by simp [pm])
        refine m_blk 74 [(3, vi x7), (2, vi xs), (1, vi p0), (0, vr 0 0)] [vr 0 0] C f_q_step_73_1 rfl ?_
        refine m_getr C e_q_step_74 fg_Mo_27 rfl (by decide) rfl ?_
        refine m_blk 78 [(3, vi x7), (2, vi xs), (1, vi p0), (0, vr 0 0)] [vi p0, vr 16 0] C f_q_step_77_1 rfl ?_
        refine m_aald C p0.toNat e_q_step_78 rfl rfl rfl (by decide) (by decide) (by omega) (by show p0 < ((6 : Nat) : Int); omega) (mz _ _) ?_
        refine m_blk 81 [(3, vi x7), (2, vi xs), (1, vi p0), (0, vr 0 0)] [vi (-1), vi xs, vr 36 p0.toNat] C f_q_step_79_2 rfl ?_
        refine m_iast C e_q_step_81 rfl (by omega) (by decide) (by omega) (by show xs < ((16 : Nat) : Int); omega) ?_
        have t14 : mTy (mu (mu (mu (mu A 0 0 28 (xs + 1)) 34 p0.toNat xs.toNat x7) 35 p0.toNat xs.toNat (-1)) 36 p0.toNat xs.toNat (-1)) := t12.mu (by show (-1) ≤ (-1) ∧ (-1) ≤ 9; omega)
        have q15 := q13.mu (f := 36) (k := p0.toNat) (j := xs.toNat) (z := (-1)) (by simp [pm])
        refine m_blk 83 [(3, vi x7), (2, vi xs), (1, vi p0), (0, vr 0 0)] [vr 0 0] C f_q_step_82_1 rfl ?_
        refine m_getr C e_q_step_83 fg_Mo_36 rfl (by decide) rfl ?_
        refine m_blk 87 [(3, vi x7), (2, vi xs), (1, vi p0), (0, vr 0 0)] [vi p0, vr 19 0] C f_q_step_86_1 rfl ?_
        refine m_aald C p0.toNat e_q_step_87 rfl rfl rfl (by decide) (by decide) (by omega) (by show p0 < ((6 : Nat) : Int); omega) (mz _ _) ?_
        refine m_blk 90 [(3, vi x7), (2, vi xs), (1, vi p0), (0, vr 0 0)] [vi (-1), vi xs, vr 39 p0.toNat] C f_q_step_88_2 rfl ?_
        refine m_iast C e_q_step_90 rfl (by omega) (by decide) (by omega) (by show xs < ((16 : Nat) : Int); omega) ?_
        have t16 : mTy (mu (mu (mu (mu (mu A 0 0 28 (xs + 1)) 34 p0.toNat xs.toNat x7) 35 p0.toNat xs.toNat (-1)) 36 p0.toNat xs.toNat (-1)) 39 p0.toNat xs.toNat (-1)) := t14.mu (by show (-1) ≤ (-1) ∧ (-1) ≤ 119; omega)
        have q17 := q15.mu (f := 39) (k := p0.toNat) (j := xs.toNat) (z := (-1)) (by simp [pm])
        refine m_blk 92 [(3, vi x7), (2, vi xs), (1, vi p0), (0, vr 0 0)] [vr 0 0] C f_q_step_91_1 rfl ?_
        refine m_getr C e_q_step_92 fg_Mo_39 rfl (by decide) rfl ?_
        refine m_blk 96 [(3, vi x7), (2, vi xs), (1, vi p0), (0, vr 0 0)] [vi p0, vr 20 0] C f_q_step_95_1 rfl ?_
        refine m_aald C p0.toNat e_q_step_96 rfl rfl rfl (by decide) (by decide) (by omega) (by show p0 < ((6 : Nat) : Int); omega) (mz _ _) ?_
        refine m_blk 99 [(3, vi x7), (2, vi xs), (1, vi p0), (0, vr 0 0)] [vr 0 0, vi xs, vr 40 p0.toNat] C f_q_step_97_2 rfl ?_
        obtain ⟨x18, hx18⟩ : ∃ x, A 0 0 29 = x := ⟨_, rfl⟩
        have rx18 : 0 ≤ x18 ∧ x18 ≤ 40 := mrg hT hx18 rfl
        refine m_geti C e_q_step_99 fg_Mo_195 rfl (by decide) rfl x18 hx18 ?_
        refine m_iast C e_q_step_102 rfl (by omega) (by decide) (by omega) (by show xs < ((16 : Nat) : Int); omega) ?_
        have t19 : mTy (mu (mu (mu (mu (mu (mu A 0 0 28 (xs + 1)) 34 p0.toNat xs.toNat x7) 35 p0.toNat xs.toNat (-1)) 36 p0.toNat xs.toNat (-1)) 39 p0.toNat xs.toNat (-1)) 40 p0.toNat xs.toNat x18) := t16.mu (by show 0 ≤ x18 ∧ x18 ≤ 40; omega)
        have q20 := q17.mu (f := 40) (k := p0.toNat) (j := xs.toNat) (z := x18) (by simp [pm])
        have kk9 : 0 ≤ x7 ∧ x7 ≤ 5 := hx7 ▸ pT_kind hn g0 (by omega)
        rcases (show x7 = 0 ∨ x7 = 1 ∨ x7 = 2 ∨ x7 = 3 ∨ x7 = 4 ∨ x7 = 5 from by omega) with rfl | rfl | rfl | rfl | rfl | rfl
        · have bt9 : A 0 0 24 < A 0 0 23 := pT_lt hn g0 (by omega)
          refine m_blk 104 [(3, vi 0), (2, vi xs), (1, vi p0), (0, vr 0 0)] [vr 0 0] C f_q_step_103_1 rfl ?_
          refine m_callV C Rm Y [] [] (q_next l D B H0 ad _ hS t19 (by show A 0 0 23 ≤ A 0 0 22; omega)) cl_Mo_176 rfl (by decide) rfl rfl e_q_step_104 rfl rfl rfl ⟨by show _ ≤ (32 + 4 * d : Nat); omega, by show _ ≤ (630 + 300 * d : Nat); omega⟩ ?_
          rintro v21 A22 ⟨rfl, hT_n24, hE_n24, raw_hw_n24, raw_hb_n24⟩
          have hF_n24 := q20.trans (hE_n24.sub (nm_pm _))
          show JM g D ad w0 A22 107 [(3, vi 0), (2, vi xs), (1, vi p0), (0, vr 0 0)] []
          obtain ⟨b1_n24, b2_n24, b3_n24, pt_n24⟩ : A 0 0 23 ≤ A22 0 0 24 ∧ A22 0 0 24 ≤ A22 0 0 23 ∧ A22 0 0 23 ≤ A22 0 0 22 ∧ pT A22 := raw_hb_n24 g0
          clear raw_hb_n24 raw_hw_n24
          have k0_n24 : A22 0 0 0 = A 0 0 0 := hE_n24 0 0 0 rfl
          have k22_n24 : A22 0 0 22 = A 0 0 22 := hE_n24 0 0 22 rfl
          have k27_n24 : A22 0 0 27 = A 0 0 27 := hE_n24 0 0 27 rfl
          have k28_n24 : A22 0 0 28 = (xs + 1) := hE_n24 0 0 28 rfl
          have k29_n24 : A22 0 0 29 = A 0 0 29 := hE_n24 0 0 29 rfl
          have k30_n24 : A22 0 0 30 = A 0 0 30 := hE_n24 0 0 30 rfl
          have r34_n24 : A22 34 p0.toNat xs.toNat = 0 := Eq.trans (hE_n24 34 p0.toNat xs.toNat rfl) (mu_at (mu A 0 0 28 (xs + 1)) 34 p0.toNat xs.toNat 0)
          have r35_n24 : A22 35 p0.toNat xs.toNat = (-1) := Eq.trans (hE_n24 35 p0.toNat xs.toNat rfl) (mu_at (mu (mu A 0 0 28 (xs + 1)) 34 p0.toNat xs.toNat 0) 35 p0.toNat xs.toNat (-1))
          have r36_n24 : A22 36 p0.toNat xs.toNat = (-1) := Eq.trans (hE_n24 36 p0.toNat xs.toNat rfl) (mu_at (mu (mu (mu A 0 0 28 (xs + 1)) 34 p0.toNat xs.toNat 0) 35 p0.toNat xs.toNat (-1)) 36 p0.toNat xs.toNat (-1))
          have r39_n24 : A22 39 p0.toNat xs.toNat = (-1) := Eq.trans (hE_n24 39 p0.toNat xs.toNat rfl) (mu_at (mu (mu (mu (mu A 0 0 28 (xs + 1)) 34 p0.toNat xs.toNat 0) 35 p0.toNat xs.toNat (-1)) 36 p0.toNat xs.toNat (-1)) 39 p0.toNat xs.toNat (-1))
          have r40_n24 : A22 40 p0.toNat xs.toNat = x18 := Eq.trans (hE_n24 40 p0.toNat xs.toNat rfl) (mu_at (mu (mu (mu (mu (mu A 0 0 28 (xs + 1)) 34 p0.toNat xs.toNat 0) 35 p0.toNat xs.toNat (-1)) 36 p0.toNat xs.toNat (-1)) 39 p0.toNat xs.toNat (-1)) 40 p0.toNat xs.toNat x18)
          rcases (show A22 0 0 31 = 0 ∨ A22 0 0 31 = 1 from by have w9 := hT_n24 0 0 31; have w8 : 0 ≤ A22 0 0 31 ∧ A22 0 0 31 ≤ 1 := w9; omega) with g_n24 | g_n24
          · refine m_blk 108 [(3, vi 0), (2, vi xs), (1, vi p0), (0, vr 0 0)] [vi 0] C f_q_step_107_1 rfl ?_
            refine m_if_eq (tgt := 121) C e_q_step_108 (by decide) (by decide) (fun c25 => ?_) (fun c25 => (by omega : False).elim)
            refine m_blk 122 [(3, vi 0), (2, vi xs), (1, vi p0), (0, vr 0 0)] [vr 0 0] C f_q_step_121_1 rfl ?_
            refine m_getr C e_q_step_122 fg_Mo_24 rfl (by decide) rfl ?_
            refine m_blk 126 [(3, vi 0), (2, vi xs), (1, vi p0), (0, vr 0 0)] [vi p0, vr 15 0] C f_q_step_125_1 rfl ?_
            refine m_aald C p0.toNat e_q_step_126 rfl rfl rfl (by decide) (by decide) (by omega) (by show p0 < ((6 : Nat) : Int); omega) (mz _ _) ?_
            refine m_blk 132 [(3, vi 0), (2, vi xs), (1, vi p0), (0, vr 0 0)] [vi 5, vi 0, vi 1, vr 0 0, vi xs, vr 35 p0.toNat] C f_q_step_127_5 rfl ?_
            refine m_callV C Rm Y [vi 1, vi 0, vi 5] [vi xs, vr 35 p0.toNat] (q_takes l D B H0 ad _ hS hT_n24 1 0 5 (by show 1 ≤ 1 ∧ 1 ≤ 4; omega) (by show 0 ≤ 0 ∧ 0 ≤ 2147483647 ∧ -1 ≤ 5 ∧ 5 ≤ 2147483647; omega) (by show A22 0 0 24 ≤ A22 0 0 23 ∧ A22 0 0 23 ≤ A22 0 0 22; omega) pt_n24) cl_Mo_198 rfl (by decide) rfl rfl e_q_step_132 rfl rfl rfl ⟨by show _ ≤ (32 + 4 * d : Nat); omega, by show _ ≤ (630 + 300 * d : Nat); omega⟩ ?_
            rintro v26 A27 ⟨z30, rfl, hT_n29, hE_n29, raw_hz_n29, raw_hb_n29, raw_hn_n29, raw_hw_n29, raw_hm_n29⟩
            have hF_n29 := hF_n24.trans (hE_n29.sub (nm_pm _))
            show JM g D ad w0 A27 135 [(3, vi 0), (2, vi xs), (1, vi p0), (0, vr 0 0)] [vi z30, vi xs, vr 35 p0.toNat]
            have hb_n29 : A27 0 0 24 ≤ A27 0 0 23 ∧ A27 0 0 23 ≤ A27 0 0 22 := raw_hb_n29
            clear raw_hb_n29
            have hm_n29 : A22 0 0 24 ≤ A27 0 0 24 := raw_hm_n29
            clear raw_hm_n29
            have hz_n29 : z30 = 0 ∨ 0 ≤ z30 ∧ z30 ≤ 5 := raw_hz_n29
            clear raw_hz_n29
            have pt_n29 : pT A27 := raw_hn_n29
            clear raw_hn_n29
            have k0_n29 : A27 0 0 0 = A22 0 0 0 := hE_n29 0 0 0 rfl
            have k22_n29 : A27 0 0 22 = A22 0 0 22 := hE_n29 0 0 22 rfl
            have k27_n29 : A27 0 0 27 = A22 0 0 27 := hE_n29 0 0 27 rfl
            have k28_n29 : A27 0 0 28 = A22 0 0 28 := hE_n29 0 0 28 rfl
            have k29_n29 : A27 0 0 29 = A22 0 0 29 := hE_n29 0 0 29 rfl
            have k30_n29 : A27 0 0 30 = A22 0 0 30 := hE_n29 0 0 30 rfl
            have r34_n29 : A27 34 p0.toNat xs.toNat = 0 := Eq.trans (hE_n29 34 p0.toNat xs.toNat rfl) r34_n24
            have r35_n29 : A27 35 p0.toNat xs.toNat = (-1) := Eq.trans (hE_n29 35 p0.toNat xs.toNat rfl) r35_n24
            have r36_n29 : A27 36 p0.toNat xs.toNat = (-1) := Eq.trans (hE_n29 36 p0.toNat xs.toNat rfl) r36_n24
            have r39_n29 : A27 39 p0.toNat xs.toNat = (-1) := Eq.trans (hE_n29 39 p0.toNat xs.toNat rfl) r39_n24
            have r40_n29 : A27 40 p0.toNat xs.toNat = x18 := Eq.trans (hE_n29 40 p0.toNat xs.toNat rfl) r40_n24
            rcases (show A27 0 0 31 = 0 ∨ A27 0 0 31 = 1 from by have w9 := hT_n29 0 0 31; have w8 : 0 ≤ A27 0 0 31 ∧ A27 0 0 31 ≤ 1 := w9; omega) with g_n29 | g_n29
            · have u_n29 : A22 0 0 31 = 0 ∧ A22 0 0 24 < A27 0 0 24 ∧ 0 ≤ z30 ∧ z30 ≤ 5 := raw_hw_n29 g_n29
              clear raw_hw_n29
              refine m_iast C e_q_step_135 rfl (by omega) (by decide) (by omega) (by show xs < ((16 : Nat) : Int); omega) ?_
              have t31 : mTy (mu A27 35 p0.toNat xs.toNat z30) := hT_n29.mu (by show (-1) ≤ z30 ∧ z30 ≤ 5; omega)
              have q32 := hF_n29.mu (f := 35) (k := p0.toNat) (j := xs.toNat) (z := z30) (by simp [pm])
              refine m_blk 137 [(3, vi 0), (2, vi xs), (1, vi p0), (0, vr 0 0)] [vi 0] C f_q_step_136_1 rfl ?_
              refine m_if_ne (tgt := 146) C e_q_step_137 (by decide) (by decide) (fun c33 => (by omega : False).elim) (fun c33 => ?_)
              refine m_blk 143 [(3, vi 0), (2, vi xs), (1, vi p0), (0, vr 0 0)] [vi xs, vi p0, vr 0 0] C f_q_step_140_3 rfl ?_
              refine m_callV C Rm Y [vi p0, vi xs] [] (q_lotsOf l D B H0 ad _ hS t31 p0 xs (by show A27 0 0 0 = p0 ∧ 0 ≤ p0 ∧ p0 ≤ 5; omega) (by show 0 ≤ xs ∧ xs ≤ 15; omega) (by show A27 0 0 24 ≤ A27 0 0 23 ∧ A27 0 0 23 ≤ A27 0 0 22; omega) pt_n29 (fun _ => by show A27 0 0 30 + 3 * A27 0 0 29 ≤ A27 0 0 24; omega)) cl_Mo_202 rfl (by decide) rfl rfl e_q_step_143 rfl rfl rfl ⟨by show _ ≤ (32 + 4 * d : Nat); omega, by show _ ≤ (630 + 300 * d : Nat); omega⟩ ?_
              rintro v34 A35 ⟨rfl, hT_n37, hE_n37, raw_hb_n37, raw_hn_n37, raw_hm_n37, raw_hw_n37, raw_hQ_n37, raw_hN_n37⟩
              have hF_n37 := q32.trans (hE_n37.sub (lo_pm _))
              show JM g D ad w0 A35 146 [(3, vi 0), (2, vi xs), (1, vi p0), (0, vr 0 0)] []
              have hb_n37 : A35 0 0 24 ≤ A35 0 0 23 ∧ A35 0 0 23 ≤ A35 0 0 22 := raw_hb_n37
              clear raw_hb_n37
              have hm_n37 : A27 0 0 24 ≤ A35 0 0 24 ∧ A27 0 0 29 ≤ A35 0 0 29 := raw_hm_n37
              clear raw_hm_n37
              have pt_n37 : pT A35 := raw_hn_n37
              have k0_n37 : A35 0 0 0 = A27 0 0 0 := hE_n37 0 0 0 rfl
              have k22_n37 : A35 0 0 22 = A27 0 0 22 := hE_n37 0 0 22 rfl
              have k27_n37 : A35 0 0 27 = A27 0 0 27 := hE_n37 0 0 27 rfl
              have k28_n37 : A35 0 0 28 = A27 0 0 28 := hE_n37 0 0 28 rfl
              have k30_n37 : A35 0 0 30 = A27 0 0 30 := hE_n37 0 0 30 rfl
              have hL_n37 : lQ p0.toNat (A27 0 0 29) (mu A27 35 p0.toNat xs.toNat z30) A35 := raw_hQ_n37
              have hM_n37 : lNm p0.toNat xs.toNat (mu A27 35 p0.toNat xs.toNat z30) A35 := raw_hN_n37
              have r34_n37 : A35 34 p0.toNat xs.toNat = 0 := Eq.trans (hE_n37 34 p0.toNat xs.toNat (by simp [lo])) r34_n29
              have r35_n37 : A35 35 p0.toNat xs.toNat = z30 := Eq.trans (hE_n37 35 p0.toNat xs.toNat (by simp [lo])) (mu_at A27 35 p0.toNat xs.toNat z30)
              have r39_n37 : A35 39 p0.toNat xs.toNat = (-1) := Eq.trans (hE_n37 39 p0.toNat xs.toNat (by simp [lo])) r39_n29
              have r40_n37 : A35 40 p0.toNat xs.toNat = x18 := Eq.trans (hE_n37 40 p0.toNat xs.toNat (by simp [lo])) r40_n29
              obtain ⟨nu_n37, hnu_n37⟩ : ∃ x, A35 36 p0.toNat xs.toNat = x := ⟨_, rfl⟩
              rcases (show A35 0 0 31 = 0 ∨ A35 0 0 31 = 1 from by have w9 := hT_n37 0 0 31; have w8 : 0 ≤ A35 0 0 31 ∧ A35 0 0 31 ≤ 1 := w9; omega) with g_n37 | g_n37
              · have ul_n37 : A27 0 0 24 - 3 * A27 0 0 29 ≤ A35 0 0 24 - 3 * A35 0 0 29 := (raw_hw_n37 g_n37).2.1
                have un_n37 : 1 ≤ nu_n37 ∧ A27 0 0 29 + nu_n37 ≤ A35 0 0 29 := hnu_n37 ▸ ⟨(raw_hw_n37 g_n37).2.2.1, (raw_hw_n37 g_n37).2.2.2.1⟩
                have uw_n37 : 1 ≤ ws (A35 42 p0.toNat) (Int.toNat (A27 0 0 29)) nu_n37.toNat := hnu_n37 ▸ (raw_hw_n37 g_n37).2.2.2.2
                clear raw_hw_n37
                refine m_blk 148 [(3, vi 0), (2, vi xs), (1, vi p0), (0, vr 0 0)] [vi 4, vi 0] C f_q_step_146_2 rfl ?_
                refine m_icmp_ne (tgt := 167) C e_q_step_148 (by decide) (by decide) (by decide) (fun c38 => ?_) (fun c38 => (by omega : False).elim)
                refine m_blk 169 [(3, vi 0), (2, vi xs), (1, vi p0), (0, vr 0 0)] [vi 5, vi 0] C f_q_step_167_2 rfl ?_
                refine m_icmp_ne (tgt := 192) C e_q_step_169 (by decide) (by decide) (by decide) (fun c39 => ?_) (fun c39 => (by omega : False).elim)
                refine m_blk 194 [(3, vi 0), (2, vi xs), (1, vi p0), (0, vr 0 0)] [vi 1, vi 0] C f_q_step_192_2 rfl ?_
                refine m_icmp_eq (tgt := 212) C e_q_step_194 (by decide) (by decide) (by decide) (fun c40 => (by omega : False).elim) (fun c40 => ?_)
                refine m_blk 199 [(3, vi 0), (2, vi xs), (1, vi p0), (0, vr 0 0)] [vi 2, vi 0] C f_q_step_197_2 rfl ?_
                refine m_icmp_eq (tgt := 212) C e_q_step_199 (by decide) (by decide) (by decide) (fun c41 => (by omega : False).elim) (fun c41 => ?_)
                refine m_blk 204 [(3, vi 0), (2, vi xs), (1, vi p0), (0, vr 0 0)] [vi 3, vi 0] C f_q_step_202_2 rfl ?_
                refine m_icmp_eq (tgt := 212) C e_q_step_204 (by decide) (by decide) (by decide) (fun c42 => (by omega : False).elim) (fun c42 => ?_)
                refine m_blk 209 [(3, vi 0), (2, vi xs), (1, vi p0), (0, vr 0 0)] [vi 5, vi 0] C f_q_step_207_2 rfl ?_
                refine m_icmp_ne (tgt := 224) C e_q_step_209 (by decide) (by decide) (by decide) (fun c43 => ?_) (fun c43 => (by omega : False).elim)
                refine m_blk 226 [(3, vi 0), (2, vi xs), (1, vi p0), (0, vr 0 0)] [vi 3, vi 0] C f_q_step_224_2 rfl ?_
                refine m_icmp_eq (tgt := 234) C e_q_step_226 (by decide) (by decide) (by decide) (fun c44 => (by omega : False).elim) (fun c44 => ?_)
                refine m_blk 231 [(3, vi 0), (2, vi xs), (1, vi p0), (0, vr 0 0)] [vi 4, vi 0] C f_q_step_229_2 rfl ?_
                refine m_icmp_ne (tgt := 238) C e_q_step_231 (by decide) (by decide) (by decide) (fun c45 => ?_) (fun c45 => (by omega : False).elim)
                refine m_blk 239 [(3, vi 0), (2, vi xs), (1, vi p0), (0, vr 0 0)] [vr 0 0] C f_q_step_238_1 rfl ?_
                refine m_getr C e_q_step_239 fg_Mo_33 rfl (by decide) rfl ?_
                refine m_blk 243 [(3, vi 0), (2, vi xs), (1, vi p0), (0, vr 0 0)] [vi p0, vr 18 0] C f_q_step_242_1 rfl ?_
                refine m_aald C p0.toNat e_q_step_243 rfl rfl rfl (by decide) (by decide) (by omega) (by show p0 < ((6 : Nat) : Int); omega) (mz _ _) ?_
                refine m_blk 246 [(3, vi 0), (2, vi xs), (1, vi p0), (0, vr 0 0)] [vr 0 0, vi xs, vr 38 p0.toNat] C f_q_step_244_2 rfl ?_
                obtain ⟨x46, hx46⟩ : ∃ x, A35 0 0 28 = x := ⟨_, rfl⟩
                have rx46 : 0 ≤ x46 ∧ x46 ≤ 16 := mrg hT_n37 hx46 rfl
                refine m_geti C e_q_step_246 fg_Mo_192 rfl (by decide) rfl x46 hx46 ?_
                refine m_iast C e_q_step_249 rfl (by omega) (by decide) (by omega) (by show xs < ((16 : Nat) : Int); omega) ?_
                have t47 : mTy (mu A35 38 p0.toNat xs.toNat x46) := hT_n37.mu (by show 0 ≤ x46 ∧ x46 ≤ 16; omega)
                have q48 := hF_n37.mu (f := 38) (k := p0.toNat) (j := xs.toNat) (z := x46) (by simp [pm])
                refine m_blk 252 [(3, vi 0), (2, vi xs), (1, vi p0), (0, vr 0 0)] [vi 3, vi 0] C f_q_step_250_2 rfl ?_
                refine m_icmp_ne (tgt := 259) C e_q_step_252 (by decide) (by decide) (by decide) (fun c49 => ?_) (fun c49 => (by omega : False).elim)
                refine m_blk 260 [(3, vi 0), (2, vi xs), (1, vi p0), (0, vr 0 0)] [vr 0 0] C f_q_step_259_1 rfl ?_
                refine m_getr C e_q_step_260 fg_Mo_30 rfl (by decide) rfl ?_
                refine m_blk 264 [(3, vi 0), (2, vi xs), (1, vi p0), (0, vr 0 0)] [vi p0, vr 17 0] C f_q_step_263_1 rfl ?_
                refine m_aald C p0.toNat e_q_step_264 rfl rfl rfl (by decide) (by decide) (by omega) (by show p0 < ((6 : Nat) : Int); omega) (mz _ _) ?_
                refine m_blk 267 [(3, vi 0), (2, vi xs), (1, vi p0), (0, vr 0 0)] [vr 0 0, vi xs, vr 37 p0.toNat] C f_q_step_265_2 rfl ?_
                refine m_geti C e_q_step_267 fg_Mo_192 rfl (by decide) rfl x46 hx46 ?_
                refine m_iast C e_q_step_270 rfl (by omega) (by decide) (by omega) (by show xs < ((16 : Nat) : Int); omega) ?_
                have t50 : mTy (mu (mu A35 38 p0.toNat xs.toNat x46) 37 p0.toNat xs.toNat x46) := t47.mu (by show 0 ≤ x46 ∧ x46 ≤ 16; omega)
                have q51 := q48.mu (f := 37) (k := p0.toNat) (j := xs.toNat) (z := x46) (by simp [pm])
                exact m_vret C Rm E e_q_step_271 ⟨rfl, t50, q51, (by show A35 0 0 24 ≤ A35 0 0 23 ∧ A35 0 0 23 ≤ A35 0 0 22; omega), pt_n37, (pV.one' (i := xs.toNat) g0 (by show A 0 0 24 - A 0 0 30 - 3 * A 0 0 29 ≤ A35 0 0 24 - A35 0 0 30 - 3 * A35 0 0 29; omega) (by omega) (by show A35 0 0 28 = A 0 0 28 + 1; omega) (sG.mk r34_n37 r35_n37 hnu_n37 (mu_at (mu A35 38 p0.toNat xs.toNat x46) 37 p0.toNat xs.toNat x46) (mu_at A35 38 p0.toNat xs.toNat x46) r39_n37 r40_n37 (by decide) (by show _ ∧ _ ∧ _ ≤ A35 0 0 28; omega) (by show _ ∧ _ < A35 0 0 30; omega) (by omega) (by omega) (by omega) (by decide) (fun _ => ⟨by omega, by omega, by show _ ≤ A35 0 0 29; omega, uw_n37⟩) (by show 0 ≤ (4 - (d : Int)) ∧ (4 - (d : Int)) ≤ 4; omega) (by decide))), (by show A 0 0 24 ≤ A35 0 0 24 ∧ A 0 0 28 ≤ A35 0 0 28 ∧ A 0 0 29 ≤ A35 0 0 29 ∧ A 0 0 30 ≤ A35 0 0 30 ∧ A35 0 0 27 = A 0 0 27; omega), (nG.lots (A := (mu A27 35 p0.toNat xs.toNat z30)) (nG.nm (A := A22) (nG.nm (A := (mu (mu (mu (mu (mu (mu A 0 0 28 (xs + 1)) 34 p0.toNat xs.toNat 0) 35 p0.toNat xs.toNat (-1)) 36 p0.toNat xs.toNat (-1)) 39 p0.toNat xs.toNat (-1)) 40 p0.toNat xs.toNat x18)) hG hE_n24) hE_n29) hE_n37 (hE_n37 0 0 30 rfl)), (pQ.mu (pQ.mu (pQ.lots (A2 := (mu A27 35 p0.toNat xs.toNat z30)) (pQ.mu (pQ.fam (pQ.fam (pQ.mu (pQ.mu (pQ.mu (pQ.mu (pQ.mu pQ.rfl' (by omega) (by omega) (by omega)) (by omega) (by omega) (by omega)) (by omega) (by omega) (by omega)) (by omega) (by omega) (by omega)) (by omega) (by omega) (by omega)) (fam_nm _ hE_n24)) (fam_nm _ hE_n29)) (by omega) (by omega) (by omega)) hE_n37 hL_n37 (by show A 0 0 29 ≤ A27 0 0 29; omega) hM_n37 (by omega)) (by omega) (by omega) (by omega)) (by omega) (by omega) (by omega))⟩
              · clear raw_hw_n37
                refine m_blk 148 [(3, vi 0), (2, vi xs), (1, vi p0), (0, vr 0 0)] [vi 4, vi 0] C f_q_step_146_2 rfl ?_
                refine m_icmp_ne (tgt := 167) C e_q_step_148 (by decide) (by decide) (by decide) (fun c52 => ?_) (fun c52 => (by omega : False).elim)
                refine m_blk 169 [(3, vi 0), (2, vi xs), (1, vi p0), (0, vr 0 0)] [vi 5, vi 0] C f_q_step_167_2 rfl ?_
                refine m_icmp_ne (tgt := 192) C e_q_step_169 (by decide) (by decide) (by decide) (fun c53 => ?_) (fun c53 => (by omega : False).elim)
                refine m_blk 194 [(3, vi 0), (2, vi xs), (1, vi p0), (0, vr 0 0)] [vi 1, vi 0] C f_q_step_192_2 rfl ?_
                refine m_icmp_eq (tgt := 212) C e_q_step_194 (by decide) (by decide) (by decide) (fun c54 => (by omega : False).elim) (fun c54 => ?_)
                refine m_blk 199 [(3, vi 0), (2, vi xs), (1, vi p0), (0, vr 0 0)] [vi 2, vi 0] C f_q_step_197_2 rfl ?_
                refine m_icmp_eq (tgt := 212) C e_q_step_199 (by decide) (by decide) (by decide) (fun c55 => (by omega : False).elim) (fun c55 => ?_)
                refine m_blk 204 [(3, vi 0), (2, vi xs), (1, vi p0), (0, vr 0 0)] [vi 3, vi 0] C f_q_step_202_2 rfl ?_
                refine m_icmp_eq (tgt := 212) C e_q_step_204 (by decide) (by decide) (by decide) (fun c56 => (by omega : False).elim) (fun c56 => ?_)
                refine m_blk 209 [(3, vi 0), (2, vi xs), (1, vi p0), (0, vr 0 0)] [vi 5, vi 0] C f_q_step_207_2 rfl ?_
                refine m_icmp_ne (tgt := 224) C e_q_step_209 (by decide) (by decide) (by decide) (fun c57 => ?_) (fun c57 => (by omega : False).elim)
                refine m_blk 226 [(3, vi 0), (2, vi xs), (1, vi p0), (0, vr 0 0)] [vi 3, vi 0] C f_q_step_224_2 rfl ?_
                refine m_icmp_eq (tgt := 234) C e_q_step_226 (by decide) (by decide) (by decide) (fun c58 => (by omega : False).elim) (fun c58 => ?_)
                refine m_blk 231 [(3, vi 0), (2, vi xs), (1, vi p0), (0, vr 0 0)] [vi 4, vi 0] C f_q_step_229_2 rfl ?_
                refine m_icmp_ne (tgt := 238) C e_q_step_231 (by decide) (by decide) (by decide) (fun c59 => ?_) (fun c59 => (by omega : False).elim)
                refine m_blk 239 [(3, vi 0), (2, vi xs), (1, vi p0), (0, vr 0 0)] [vr 0 0] C f_q_step_238_1 rfl ?_
                refine m_getr C e_q_step_239 fg_Mo_33 rfl (by decide) rfl ?_
                refine m_blk 243 [(3, vi 0), (2, vi xs), (1, vi p0), (0, vr 0 0)] [vi p0, vr 18 0] C f_q_step_242_1 rfl ?_
                refine m_aald C p0.toNat e_q_step_243 rfl rfl rfl (by decide) (by decide) (by omega) (by show p0 < ((6 : Nat) : Int); omega) (mz _ _) ?_
                refine m_blk 246 [(3, vi 0), (2, vi xs), (1, vi p0), (0, vr 0 0)] [vr 0 0, vi xs, vr 38 p0.toNat] C f_q_step_244_2 rfl ?_
                obtain ⟨x60, hx60⟩ : ∃ x, A35 0 0 28 = x := ⟨_, rfl⟩
                have rx60 : 0 ≤ x60 ∧ x60 ≤ 16 := mrg hT_n37 hx60 rfl
                refine m_geti C e_q_step_246 fg_Mo_192 rfl (by decide) rfl x60 hx60 ?_
                refine m_iast C e_q_step_249 rfl (by omega) (by decide) (by omega) (by show xs < ((16 : Nat) : Int); omega) ?_
                have t61 : mTy (mu A35 38 p0.toNat xs.toNat x60) := hT_n37.mu (by show 0 ≤ x60 ∧ x60 ≤ 16; omega)
                have q62 := hF_n37.mu (f := 38) (k := p0.toNat) (j := xs.toNat) (z := x60) (by simp [pm])
                refine m_blk 252 [(3, vi 0), (2, vi xs), (1, vi p0), (0, vr 0 0)] [vi 3, vi 0] C f_q_step_250_2 rfl ?_
                refine m_icmp_ne (tgt := 259) C e_q_step_252 (by decide) (by decide) (by decide) (fun c63 => ?_) (fun c63 => (by omega : False).elim)
                refine m_blk 260 [(3, vi 0), (2, vi xs), (1, vi p0), (0, vr 0 0)] [vr 0 0] C f_q_step_259_1 rfl ?_
                refine m_getr C e_q_step_260 fg_Mo_30 rfl (by decide) rfl ?_
                refine m_blk 264 [(3, vi 0), (2, vi xs), (1, vi p0), (0, vr 0 0)] [vi p0, vr 17 0] C f_q_step_263_1 rfl ?_
                refine m_aald C p0.toNat e_q_step_264 rfl rfl rfl (by decide) (by decide) (by omega) (by show p0 < ((6 : Nat) : Int); omega) (mz _ _) ?_
                refine m_blk 267 [(3, vi 0), (2, vi xs), (1, vi p0), (0, vr 0 0)] [vr 0 0, vi xs, vr 37 p0.toNat] C f_q_step_265_2 rfl ?_
                refine m_geti C e_q_step_267 fg_Mo_192 rfl (by decide) rfl x60 hx60 ?_
                refine m_iast C e_q_step_270 rfl (by omega) (by decide) (by omega) (by show xs < ((16 : Nat) : Int); omega) ?_
                have t64 : mTy (mu (mu A35 38 p0.toNat xs.toNat x60) 37 p0.toNat xs.toNat x60) := t61.mu (by show 0 ≤ x60 ∧ x60 ≤ 16; omega)
                have q65 := q62.mu (f := 37) (k := p0.toNat) (j := xs.toNat) (z := x60) (by simp [pm])
                exact m_vret C Rm E e_q_step_271 ⟨rfl, t64, q65, (by show A35 0 0 24 ≤ A35 0 0 23 ∧ A35 0 0 23 ≤ A35 0 0 22; omega), pt_n37, (fun h9 => absurd ((g_n37 : A35 0 0 31 = 1).symm.trans h9) (by decide)), (by show A 0 0 24 ≤ A35 0 0 24 ∧ A 0 0 28 ≤ A35 0 0 28 ∧ A 0 0 29 ≤ A35 0 0 29 ∧ A 0 0 30 ≤ A35 0 0 30 ∧ A35 0 0 27 = A 0 0 27; omega), (nG.lots (A := (mu A27 35 p0.toNat xs.toNat z30)) (nG.nm (A := A22) (nG.nm (A := (mu (mu (mu (mu (mu (mu A 0 0 28 (xs + 1)) 34 p0.toNat xs.toNat 0) 35 p0.toNat xs.toNat (-1)) 36 p0.toNat xs.toNat (-1)) 39 p0.toNat xs.toNat (-1)) 40 p0.toNat xs.toNat x18)) hG hE_n24) hE_n29) hE_n37 (hE_n37 0 0 30 rfl)), (pQ.mu (pQ.mu (pQ.lots (A2 := (mu A27 35 p0.toNat xs.toNat z30)) (pQ.mu (pQ.fam (pQ.fam (pQ.mu (pQ.mu (pQ.mu (pQ.mu (pQ.mu pQ.rfl' (by omega) (by omega) (by omega)) (by omega) (by omega) (by omega)) (by omega) (by omega) (by omega)) (by omega) (by omega) (by omega)) (by omega) (by omega) (by omega)) (fam_nm _ hE_n24)) (fam_nm _ hE_n29)) (by omega) (by omega) (by omega)) hE_n37 hL_n37 (by show A 0 0 29 ≤ A27 0 0 29; omega) hM_n37 (by omega)) (by omega) (by omega) (by omega)) (by omega) (by omega) (by omega))⟩
            · clear raw_hw_n29
              refine m_iast C e_q_step_135 rfl (by omega) (by decide) (by omega) (by show xs < ((16 : Nat) : Int); omega) ?_
              have t66 : mTy (mu A27 35 p0.toNat xs.toNat z30) := hT_n29.mu (by show (-1) ≤ z30 ∧ z30 ≤ 5; omega)
              have q67 := hF_n29.mu (f := 35) (k := p0.toNat) (j := xs.toNat) (z := z30) (by simp [pm])
              refine m_blk 137 [(3, vi 0), (2, vi xs), (1, vi p0), (0, vr 0 0)] [vi 0] C f_q_step_136_1 rfl ?_
              refine m_if_ne (tgt := 146) C e_q_step_137 (by decide) (by decide) (fun c68 => (by omega : False).elim) (fun c68 => ?_)
              refine m_blk 143 [(3, vi 0), (2, vi xs), (1, vi p0), (0, vr 0 0)] [vi xs, vi p0, vr 0 0] C f_q_step_140_3 rfl ?_
              refine m_callV C Rm Y [vi p0, vi xs] [] (q_lotsOf l D B H0 ad _ hS t66 p0 xs (by show A27 0 0 0 = p0 ∧ 0 ≤ p0 ∧ p0 ≤ 5; omega) (by show 0 ≤ xs ∧ xs ≤ 15; omega) (by show A27 0 0 24 ≤ A27 0 0 23 ∧ A27 0 0 23 ≤ A27 0 0 22; omega) pt_n29 (fun h9 => absurd ((g_n29 : A27 0 0 31 = 1).symm.trans h9) (by decide))) cl_Mo_202 rfl (by decide) rfl rfl e_q_step_143 rfl rfl rfl ⟨by show _ ≤ (32 + 4 * d : Nat); omega, by show _ ≤ (630 + 300 * d : Nat); omega⟩ ?_
              rintro v69 A70 ⟨rfl, hT_n72, hE_n72, raw_hb_n72, raw_hn_n72, raw_hm_n72, raw_hw_n72, raw_hQ_n72, raw_hN_n72⟩
              have hF_n72 := q67.trans (hE_n72.sub (lo_pm _))
              show JM g D ad w0 A70 146 [(3, vi 0), (2, vi xs), (1, vi p0), (0, vr 0 0)] []
              have hb_n72 : A70 0 0 24 ≤ A70 0 0 23 ∧ A70 0 0 23 ≤ A70 0 0 22 := raw_hb_n72
              clear raw_hb_n72
              have hm_n72 : A27 0 0 24 ≤ A70 0 0 24 ∧ A27 0 0 29 ≤ A70 0 0 29 := raw_hm_n72
              clear raw_hm_n72
              have pt_n72 : pT A70 := raw_hn_n72
              have k0_n72 : A70 0 0 0 = A27 0 0 0 := hE_n72 0 0 0 rfl
              have k22_n72 : A70 0 0 22 = A27 0 0 22 := hE_n72 0 0 22 rfl
              have k27_n72 : A70 0 0 27 = A27 0 0 27 := hE_n72 0 0 27 rfl
              have k28_n72 : A70 0 0 28 = A27 0 0 28 := hE_n72 0 0 28 rfl
              have k30_n72 : A70 0 0 30 = A27 0 0 30 := hE_n72 0 0 30 rfl
              have hL_n72 : lQ p0.toNat (A27 0 0 29) (mu A27 35 p0.toNat xs.toNat z30) A70 := raw_hQ_n72
              have hM_n72 : lNm p0.toNat xs.toNat (mu A27 35 p0.toNat xs.toNat z30) A70 := raw_hN_n72
              have r34_n72 : A70 34 p0.toNat xs.toNat = 0 := Eq.trans (hE_n72 34 p0.toNat xs.toNat (by simp [lo])) r34_n29
              have r35_n72 : A70 35 p0.toNat xs.toNat = z30 := Eq.trans (hE_n72 35 p0.toNat xs.toNat (by simp [lo])) (mu_at A27 35 p0.toNat xs.toNat z30)
              have r39_n72 : A70 39 p0.toNat xs.toNat = (-1) := Eq.trans (hE_n72 39 p0.toNat xs.toNat (by simp [lo])) r39_n29
              have r40_n72 : A70 40 p0.toNat xs.toNat = x18 := Eq.trans (hE_n72 40 p0.toNat xs.toNat (by simp [lo])) r40_n29
              obtain ⟨nu_n72, hnu_n72⟩ : ∃ x, A70 36 p0.toNat xs.toNat = x := ⟨_, rfl⟩
              have g_n72 : A70 0 0 31 = 1 := wr_1 (hT_n72 0 0 31) (fun h9 => absurd ((g_n29 : A27 0 0 31 = 1).symm.trans (raw_hw_n72 h9).1) (by decide))
              clear raw_hw_n72
              refine m_blk 148 [(3, vi 0), (2, vi xs), (1, vi p0), (0, vr 0 0)] [vi 4, vi 0] C f_q_step_146_2 rfl ?_
              refine m_icmp_ne (tgt := 167) C e_q_step_148 (by decide) (by decide) (by decide) (fun c73 => ?_) (fun c73 => (by omega : False).elim)
              refine m_blk 169 [(3, vi 0), (2, vi xs), (1, vi p0), (0, vr 0 0)] [vi 5, vi 0] C f_q_step_167_2 rfl ?_
              refine m_icmp_ne (tgt := 192) C e_q_step_169 (by decide) (by decide) (by decide) (fun c74 => ?_) (fun c74 => (by omega : False).elim)
              refine m_blk 194 [(3, vi 0), (2, vi xs), (1, vi p0), (0, vr 0 0)] [vi 1, vi 0] C f_q_step_192_2 rfl ?_
              refine m_icmp_eq (tgt := 212) C e_q_step_194 (by decide) (by decide) (by decide) (fun c75 => (by omega : False).elim) (fun c75 => ?_)
              refine m_blk 199 [(3, vi 0), (2, vi xs), (1, vi p0), (0, vr 0 0)] [vi 2, vi 0] C f_q_step_197_2 rfl ?_
              refine m_icmp_eq (tgt := 212) C e_q_step_199 (by decide) (by decide) (by decide) (fun c76 => (by omega : False).elim) (fun c76 => ?_)
              refine m_blk 204 [(3, vi 0), (2, vi xs), (1, vi p0), (0, vr 0 0)] [vi 3, vi 0] C f_q_step_202_2 rfl ?_
              refine m_icmp_eq (tgt := 212) C e_q_step_204 (by decide) (by decide) (by decide) (fun c77 => (by omega : False).elim) (fun c77 => ?_)
              refine m_blk 209 [(3, vi 0), (2, vi xs), (1, vi p0), (0, vr 0 0)] [vi 5, vi 0] C f_q_step_207_2 rfl ?_
              refine m_icmp_ne (tgt := 224) C e_q_step_209 (by decide) (by decide) (by decide) (fun c78 => ?_) (fun c78 => (by omega : False).elim)
              refine m_blk 226 [(3, vi 0), (2, vi xs), (1, vi p0), (0, vr 0 0)] [vi 3, vi 0] C f_q_step_224_2 rfl ?_
              refine m_icmp_eq (tgt := 234) C e_q_step_226 (by decide) (by decide) (by decide) (fun c79 => (by omega : False).elim) (fun c79 => ?_)
              refine m_blk 231 [(3, vi 0), (2, vi xs), (1, vi p0), (0, vr 0 0)] [vi 4, vi 0] C f_q_step_229_2 rfl ?_
              refine m_icmp_ne (tgt := 238) C e_q_step_231 (by decide) (by decide) (by decide) (fun c80 => ?_) (fun c80 => (by omega : False).elim)
              refine m_blk 239 [(3, vi 0), (2, vi xs), (1, vi p0), (0, vr 0 0)] [vr 0 0] C f_q_step_238_1 rfl ?_
              refine m_getr C e_q_step_239 fg_Mo_33 rfl (by decide) rfl ?_
              refine m_blk 243 [(3, vi 0), (2, vi xs), (1, vi p0), (0, vr 0 0)] [vi p0, vr 18 0] C f_q_step_242_1 rfl ?_
              refine m_aald C p0.toNat e_q_step_243 rfl rfl rfl (by decide) (by decide) (by omega) (by show p0 < ((6 : Nat) : Int); omega) (mz _ _) ?_
              refine m_blk 246 [(3, vi 0), (2, vi xs), (1, vi p0), (0, vr 0 0)] [vr 0 0, vi xs, vr 38 p0.toNat] C f_q_step_244_2 rfl ?_
              obtain ⟨x81, hx81⟩ : ∃ x, A70 0 0 28 = x := ⟨_, rfl⟩
              have rx81 : 0 ≤ x81 ∧ x81 ≤ 16 := mrg hT_n72 hx81 rfl
              refine m_geti C e_q_step_246 fg_Mo_192 rfl (by decide) rfl x81 hx81 ?_
              refine m_iast C e_q_step_249 rfl (by omega) (by decide) (by omega) (by show xs < ((16 : Nat) : Int); omega) ?_
              have t82 : mTy (mu A70 38 p0.toNat xs.toNat x81) := hT_n72.mu (by show 0 ≤ x81 ∧ x81 ≤ 16; omega)
              have q83 := hF_n72.mu (f := 38) (k := p0.toNat) (j := xs.toNat) (z := x81) (by simp [pm])
              refine m_blk 252 [(3, vi 0), (2, vi xs), (1, vi p0), (0, vr 0 0)] [vi 3, vi 0] C f_q_step_250_2 rfl ?_
              refine m_icmp_ne (tgt := 259) C e_q_step_252 (by decide) (by decide) (by decide) (fun c84 => ?_) (fun c84 => (by omega : False).elim)
              refine m_blk 260 [(3, vi 0), (2, vi xs), (1, vi p0), (0, vr 0 0)] [vr 0 0] C f_q_step_259_1 rfl ?_
              refine m_getr C e_q_step_260 fg_Mo_30 rfl (by decide) rfl ?_
              refine m_blk 264 [(3, vi 0), (2, vi xs), (1, vi p0), (0, vr 0 0)] [vi p0, vr 17 0] C f_q_step_263_1 rfl ?_
              refine m_aald C p0.toNat e_q_step_264 rfl rfl rfl (by decide) (by decide) (by omega) (by show p0 < ((6 : Nat) : Int); omega) (mz _ _) ?_
              refine m_blk 267 [(3, vi 0), (2, vi xs), (1, vi p0), (0, vr 0 0)] [vr 0 0, vi xs, vr 37 p0.toNat] C f_q_step_265_2 rfl ?_
              refine m_geti C e_q_step_267 fg_Mo_192 rfl (by decide) rfl x81 hx81 ?_
              refine m_iast C e_q_step_270 rfl (by omega) (by decide) (by omega) (by show xs < ((16 : Nat) : Int); omega) ?_
              have t85 : mTy (mu (mu A70 38 p0.toNat xs.toNat x81) 37 p0.toNat xs.toNat x81) := t82.mu (by show 0 ≤ x81 ∧ x81 ≤ 16; omega)
              have q86 := q83.mu (f := 37) (k := p0.toNat) (j := xs.toNat) (z := x81) (by simp [pm])
              exact m_vret C Rm E e_q_step_271 ⟨rfl, t85, q86, (by show A70 0 0 24 ≤ A70 0 0 23 ∧ A70 0 0 23 ≤ A70 0 0 22; omega), pt_n72, (fun h9 => absurd ((g_n72 : A70 0 0 31 = 1).symm.trans h9) (by decide)), (by show A 0 0 24 ≤ A70 0 0 24 ∧ A 0 0 28 ≤ A70 0 0 28 ∧ A 0 0 29 ≤ A70 0 0 29 ∧ A 0 0 30 ≤ A70 0 0 30 ∧ A70 0 0 27 = A 0 0 27; omega), (nG.lots (A := (mu A27 35 p0.toNat xs.toNat z30)) (nG.nm (A := A22) (nG.nm (A := (mu (mu (mu (mu (mu (mu A 0 0 28 (xs + 1)) 34 p0.toNat xs.toNat 0) 35 p0.toNat xs.toNat (-1)) 36 p0.toNat xs.toNat (-1)) 39 p0.toNat xs.toNat (-1)) 40 p0.toNat xs.toNat x18)) hG hE_n24) hE_n29) hE_n72 (hE_n72 0 0 30 rfl)), (pQ.mu (pQ.mu (pQ.lots (A2 := (mu A27 35 p0.toNat xs.toNat z30)) (pQ.mu (pQ.fam (pQ.fam (pQ.mu (pQ.mu (pQ.mu (pQ.mu (pQ.mu pQ.rfl' (by omega) (by omega) (by omega)) (by omega) (by omega) (by omega)) (by omega) (by omega) (by omega)) (by omega) (by omega) (by omega)) (by omega) (by omega) (by omega)) (fam_nm _ hE_n24)) (fam_nm _ hE_n29)) (by omega) (by omega) (by omega)) hE_n72 hL_n72 (by show A 0 0 29 ≤ A27 0 0 29; omega) hM_n72 (by omega)) (by omega) (by omega) (by omega)) (by omega) (by omega) (by omega))⟩
          · refine m_blk 108 [(3, vi 0), (2, vi xs), (1, vi p0), (0, vr 0 0)] [vi 0] C f_q_step_107_1 rfl ?_
            refine m_if_eq (tgt := 121) C e_q_step_108 (by decide) (by decide) (fun c87 => ?_) (fun c87 => (by omega : False).elim)
            refine m_blk 122 [(3, vi 0), (2, vi xs), (1, vi p0), (0, vr 0 0)] [vr 0 0] C f_q_step_121_1 rfl ?_
            refine m_getr C e_q_step_122 fg_Mo_24 rfl (by decide) rfl ?_
            refine m_blk 126 [(3, vi 0), (2, vi xs), (1, vi p0), (0, vr 0 0)] [vi p0, vr 15 0] C f_q_step_125_1 rfl ?_
            refine m_aald C p0.toNat e_q_step_126 rfl rfl rfl (by decide) (by decide) (by omega) (by show p0 < ((6 : Nat) : Int); omega) (mz _ _) ?_
            refine m_blk 132 [(3, vi 0), (2, vi xs), (1, vi p0), (0, vr 0 0)] [vi 5, vi 0, vi 1, vr 0 0, vi xs, vr 35 p0.toNat] C f_q_step_127_5 rfl ?_
            refine m_callV C Rm Y [vi 1, vi 0, vi 5] [vi xs, vr 35 p0.toNat] (q_takes l D B H0 ad _ hS hT_n24 1 0 5 (by show 1 ≤ 1 ∧ 1 ≤ 4; omega) (by show 0 ≤ 0 ∧ 0 ≤ 2147483647 ∧ -1 ≤ 5 ∧ 5 ≤ 2147483647; omega) (by show A22 0 0 24 ≤ A22 0 0 23 ∧ A22 0 0 23 ≤ A22 0 0 22; omega) pt_n24) cl_Mo_198 rfl (by decide) rfl rfl e_q_step_132 rfl rfl rfl ⟨by show _ ≤ (32 + 4 * d : Nat); omega, by show _ ≤ (630 + 300 * d : Nat); omega⟩ ?_
            rintro v88 A89 ⟨z92, rfl, hT_n91, hE_n91, raw_hz_n91, raw_hb_n91, raw_hn_n91, raw_hw_n91, raw_hm_n91⟩
            have hF_n91 := hF_n24.trans (hE_n91.sub (nm_pm _))
            show JM g D ad w0 A89 135 [(3, vi 0), (2, vi xs), (1, vi p0), (0, vr 0 0)] [vi z92, vi xs, vr 35 p0.toNat]
            have hb_n91 : A89 0 0 24 ≤ A89 0 0 23 ∧ A89 0 0 23 ≤ A89 0 0 22 := raw_hb_n91
            clear raw_hb_n91
            have hm_n91 : A22 0 0 24 ≤ A89 0 0 24 := raw_hm_n91
            clear raw_hm_n91
            have hz_n91 : z92 = 0 ∨ 0 ≤ z92 ∧ z92 ≤ 5 := raw_hz_n91
            clear raw_hz_n91
            have pt_n91 : pT A89 := raw_hn_n91
            clear raw_hn_n91
            have k0_n91 : A89 0 0 0 = A22 0 0 0 := hE_n91 0 0 0 rfl
            have k22_n91 : A89 0 0 22 = A22 0 0 22 := hE_n91 0 0 22 rfl
            have k27_n91 : A89 0 0 27 = A22 0 0 27 := hE_n91 0 0 27 rfl
            have k28_n91 : A89 0 0 28 = A22 0 0 28 := hE_n91 0 0 28 rfl
            have k29_n91 : A89 0 0 29 = A22 0 0 29 := hE_n91 0 0 29 rfl
            have k30_n91 : A89 0 0 30 = A22 0 0 30 := hE_n91 0 0 30 rfl
            have r34_n91 : A89 34 p0.toNat xs.toNat = 0 := Eq.trans (hE_n91 34 p0.toNat xs.toNat rfl) r34_n24
            have r35_n91 : A89 35 p0.toNat xs.toNat = (-1) := Eq.trans (hE_n91 35 p0.toNat xs.toNat rfl) r35_n24
            have r36_n91 : A89 36 p0.toNat xs.toNat = (-1) := Eq.trans (hE_n91 36 p0.toNat xs.toNat rfl) r36_n24
            have r39_n91 : A89 39 p0.toNat xs.toNat = (-1) := Eq.trans (hE_n91 39 p0.toNat xs.toNat rfl) r39_n24
            have r40_n91 : A89 40 p0.toNat xs.toNat = x18 := Eq.trans (hE_n91 40 p0.toNat xs.toNat rfl) r40_n24
            have g_n91 : A89 0 0 31 = 1 := wr_1 (hT_n91 0 0 31) (fun h9 => absurd ((g_n24 : A22 0 0 31 = 1).symm.trans (raw_hw_n91 h9).1) (by decide))
            clear raw_hw_n91
            refine m_iast C e_q_step_135 rfl (by omega) (by decide) (by omega) (by show xs < ((16 : Nat) : Int); omega) ?_
            have t93 : mTy (mu A89 35 p0.toNat xs.toNat z92) := hT_n91.mu (by show (-1) ≤ z92 ∧ z92 ≤ 5; omega)
            have q94 := hF_n91.mu (f := 35) (k := p0.toNat) (j := xs.toNat) (z := z92) (by simp [pm])
            refine m_blk 137 [(3, vi 0), (2, vi xs), (1, vi p0), (0, vr 0 0)] [vi 0] C f_q_step_136_1 rfl ?_
            refine m_if_ne (tgt := 146) C e_q_step_137 (by decide) (by decide) (fun c95 => (by omega : False).elim) (fun c95 => ?_)
            refine m_blk 143 [(3, vi 0), (2, vi xs), (1, vi p0), (0, vr 0 0)] [vi xs, vi p0, vr 0 0] C f_q_step_140_3 rfl ?_
            refine m_callV C Rm Y [vi p0, vi xs] [] (q_lotsOf l D B H0 ad _ hS t93 p0 xs (by show A89 0 0 0 = p0 ∧ 0 ≤ p0 ∧ p0 ≤ 5; omega) (by show 0 ≤ xs ∧ xs ≤ 15; omega) (by show A89 0 0 24 ≤ A89 0 0 23 ∧ A89 0 0 23 ≤ A89 0 0 22; omega) pt_n91 (fun h9 => absurd ((g_n91 : A89 0 0 31 = 1).symm.trans h9) (by decide))) cl_Mo_202 rfl (by decide) rfl rfl e_q_step_143 rfl rfl rfl ⟨by show _ ≤ (32 + 4 * d : Nat); omega, by show _ ≤ (630 + 300 * d : Nat); omega⟩ ?_
            rintro v96 A97 ⟨rfl, hT_n99, hE_n99, raw_hb_n99, raw_hn_n99, raw_hm_n99, raw_hw_n99, raw_hQ_n99, raw_hN_n99⟩
            have hF_n99 := q94.trans (hE_n99.sub (lo_pm _))
            show JM g D ad w0 A97 146 [(3, vi 0), (2, vi xs), (1, vi p0), (0, vr 0 0)] []
            have hb_n99 : A97 0 0 24 ≤ A97 0 0 23 ∧ A97 0 0 23 ≤ A97 0 0 22 := raw_hb_n99
            clear raw_hb_n99
            have hm_n99 : A89 0 0 24 ≤ A97 0 0 24 ∧ A89 0 0 29 ≤ A97 0 0 29 := raw_hm_n99
            clear raw_hm_n99
            have pt_n99 : pT A97 := raw_hn_n99
            have k0_n99 : A97 0 0 0 = A89 0 0 0 := hE_n99 0 0 0 rfl
            have k22_n99 : A97 0 0 22 = A89 0 0 22 := hE_n99 0 0 22 rfl
            have k27_n99 : A97 0 0 27 = A89 0 0 27 := hE_n99 0 0 27 rfl
            have k28_n99 : A97 0 0 28 = A89 0 0 28 := hE_n99 0 0 28 rfl
            have k30_n99 : A97 0 0 30 = A89 0 0 30 := hE_n99 0 0 30 rfl
            have hL_n99 : lQ p0.toNat (A89 0 0 29) (mu A89 35 p0.toNat xs.toNat z92) A97 := raw_hQ_n99
            have hM_n99 : lNm p0.toNat xs.toNat (mu A89 35 p0.toNat xs.toNat z92) A97 := raw_hN_n99
            have r34_n99 : A97 34 p0.toNat xs.toNat = 0 := Eq.trans (hE_n99 34 p0.toNat xs.toNat (by simp [lo])) r34_n91
            have r35_n99 : A97 35 p0.toNat xs.toNat = z92 := Eq.trans (hE_n99 35 p0.toNat xs.toNat (by simp [lo])) (mu_at A89 35 p0.toNat xs.toNat z92)
            have r39_n99 : A97 39 p0.toNat xs.toNat = (-1) := Eq.trans (hE_n99 39 p0.toNat xs.toNat (by simp [lo])) r39_n91
            have r40_n99 : A97 40 p0.toNat xs.toNat = x18 := Eq.trans (hE_n99 40 p0.toNat xs.toNat (by simp [lo])) r40_n91
            obtain ⟨nu_n99, hnu_n99⟩ : ∃ x, A97 36 p0.toNat xs.toNat = x := ⟨_, rfl⟩
            have g_n99 : A97 0 0 31 = 1 := wr_1 (hT_n99 0 0 31) (fun h9 => absurd ((g_n91 : A89 0 0 31 = 1).symm.trans (raw_hw_n99 h9).1) (by decide))
            clear raw_hw_n99
            refine m_blk 148 [(3, vi 0), (2, vi xs), (1, vi p0), (0, vr 0 0)] [vi 4, vi 0] C f_q_step_146_2 rfl ?_
            refine m_icmp_ne (tgt := 167) C e_q_step_148 (by decide) (by decide) (by decide) (fun c100 => ?_) (fun c100 => (by omega : False).elim)
            refine m_blk 169 [(3, vi 0), (2, vi xs), (1, vi p0), (0, vr 0 0)] [vi 5, vi 0] C f_q_step_167_2 rfl ?_
            refine m_icmp_ne (tgt := 192) C e_q_step_169 (by decide) (by decide) (by decide) (fun c101 => ?_) (fun c101 => (by omega : False).elim)
            refine m_blk 194 [(3, vi 0), (2, vi xs), (1, vi p0), (0, vr 0 0)] [vi 1, vi 0] C f_q_step_192_2 rfl ?_
            refine m_icmp_eq (tgt := 212) C e_q_step_194 (by decide) (by decide) (by decide) (fun c102 => (by omega : False).elim) (fun c102 => ?_)
            refine m_blk 199 [(3, vi 0), (2, vi xs), (1, vi p0), (0, vr 0 0)] [vi 2, vi 0] C f_q_step_197_2 rfl ?_
            refine m_icmp_eq (tgt := 212) C e_q_step_199 (by decide) (by decide) (by decide) (fun c103 => (by omega : False).elim) (fun c103 => ?_)
            refine m_blk 204 [(3, vi 0), (2, vi xs), (1, vi p0), (0, vr 0 0)] [vi 3, vi 0] C f_q_step_202_2 rfl ?_
            refine m_icmp_eq (tgt := 212) C e_q_step_204 (by decide) (by decide) (by decide) (fun c104 => (by omega : False).elim) (fun c104 => ?_)
            refine m_blk 209 [(3, vi 0), (2, vi xs), (1, vi p0), (0, vr 0 0)] [vi 5, vi 0] C f_q_step_207_2 rfl ?_
            refine m_icmp_ne (tgt := 224) C e_q_step_209 (by decide) (by decide) (by decide) (fun c105 => ?_) (fun c105 => (by omega : False).elim)
            refine m_blk 226 [(3, vi 0), (2, vi xs), (1, vi p0), (0, vr 0 0)] [vi 3, vi 0] C f_q_step_224_2 rfl ?_
            refine m_icmp_eq (tgt := 234) C e_q_step_226 (by decide) (by decide) (by decide) (fun c106 => (by omega : False).elim) (fun c106 => ?_)
            refine m_blk 231 [(3, vi 0), (2, vi xs), (1, vi p0), (0, vr 0 0)] [vi 4, vi 0] C f_q_step_229_2 rfl ?_
            refine m_icmp_ne (tgt := 238) C e_q_step_231 (by decide) (by decide) (by decide) (fun c107 => ?_) (fun c107 => (by omega : False).elim)
            refine m_blk 239 [(3, vi 0), (2, vi xs), (1, vi p0), (0, vr 0 0)] [vr 0 0] C f_q_step_238_1 rfl ?_
            refine m_getr C e_q_step_239 fg_Mo_33 rfl (by decide) rfl ?_
            refine m_blk 243 [(3, vi 0), (2, vi xs), (1, vi p0), (0, vr 0 0)] [vi p0, vr 18 0] C f_q_step_242_1 rfl ?_
            refine m_aald C p0.toNat e_q_step_243 rfl rfl rfl (by decide) (by decide) (by omega) (by show p0 < ((6 : Nat) : Int); omega) (mz _ _) ?_
            refine m_blk 246 [(3, vi 0), (2, vi xs), (1, vi p0), (0, vr 0 0)] [vr 0 0, vi xs, vr 38 p0.toNat] C f_q_step_244_2 rfl ?_
            obtain ⟨x108, hx108⟩ : ∃ x, A97 0 0 28 = x := ⟨_, rfl⟩
            have rx108 : 0 ≤ x108 ∧ x108 ≤ 16 := mrg hT_n99 hx108 rfl
            refine m_geti C e_q_step_246 fg_Mo_192 rfl (by decide) rfl x108 hx108 ?_
            refine m_iast C e_q_step_249 rfl (by omega) (by decide) (by omega) (by show xs < ((16 : Nat) : Int); omega) ?_
            have t109 : mTy (mu A97 38 p0.toNat xs.toNat x108) := hT_n99.mu (by show 0 ≤ x108 ∧ x108 ≤ 16; omega)
            have q110 := hF_n99.mu (f := 38) (k := p0.toNat) (j := xs.toNat) (z := x108) (by simp [pm])
            refine m_blk 252 [(3, vi 0), (2, vi xs), (1, vi p0), (0, vr 0 0)] [vi 3, vi 0] C f_q_step_250_2 rfl ?_
            refine m_icmp_ne (tgt := 259) C e_q_step_252 (by decide) (by decide) (by decide) (fun c111 => ?_) (fun c111 => (by omega : False).elim)
            refine m_blk 260 [(3, vi 0), (2, vi xs), (1, vi p0), (0, vr 0 0)] [vr 0 0] C f_q_step_259_1 rfl ?_
            refine m_getr C e_q_step_260 fg_Mo_30 rfl (by decide) rfl ?_
            refine m_blk 264 [(3, vi 0), (2, vi xs), (1, vi p0), (0, vr 0 0)] [vi p0, vr 17 0] C f_q_step_263_1 rfl ?_
            refine m_aald C p0.toNat e_q_step_264 rfl rfl rfl (by decide) (by decide) (by omega) (by show p0 < ((6 : Nat) : Int); omega) (mz _ _) ?_
            refine m_blk 267 [(3, vi 0), (2, vi xs), (1, vi p0), (0, vr 0 0)] [vr 0 0, vi xs, vr 37 p0.toNat] C f_q_step_265_2 rfl ?_
            refine m_geti C e_q_step_267 fg_Mo_192 rfl (by decide) rfl x108 hx108 ?_
            refine m_iast C e_q_step_270 rfl (by omega) (by decide) (by omega) (by show xs < ((16 : Nat) : Int); omega) ?_
            have t112 : mTy (mu (mu A97 38 p0.toNat xs.toNat x108) 37 p0.toNat xs.toNat x108) := t109.mu (by show 0 ≤ x108 ∧ x108 ≤ 16; omega)
            have q113 := q110.mu (f := 37) (k := p0.toNat) (j := xs.toNat) (z := x108) (by simp [pm])
            exact m_vret C Rm E e_q_step_271 ⟨rfl, t112, q113, (by show A97 0 0 24 ≤ A97 0 0 23 ∧ A97 0 0 23 ≤ A97 0 0 22; omega), pt_n99, (fun h9 => absurd ((g_n99 : A97 0 0 31 = 1).symm.trans h9) (by decide)), (by show A 0 0 24 ≤ A97 0 0 24 ∧ A 0 0 28 ≤ A97 0 0 28 ∧ A 0 0 29 ≤ A97 0 0 29 ∧ A 0 0 30 ≤ A97 0 0 30 ∧ A97 0 0 27 = A 0 0 27; omega), (nG.lots (A := (mu A89 35 p0.toNat xs.toNat z92)) (nG.nm (A := A22) (nG.nm (A := (mu (mu (mu (mu (mu (mu A 0 0 28 (xs + 1)) 34 p0.toNat xs.toNat 0) 35 p0.toNat xs.toNat (-1)) 36 p0.toNat xs.toNat (-1)) 39 p0.toNat xs.toNat (-1)) 40 p0.toNat xs.toNat x18)) hG hE_n24) hE_n91) hE_n99 (hE_n99 0 0 30 rfl)), (pQ.mu (pQ.mu (pQ.lots (A2 := (mu A89 35 p0.toNat xs.toNat z92)) (pQ.mu (pQ.fam (pQ.fam (pQ.mu (pQ.mu (pQ.mu (pQ.mu (pQ.mu pQ.rfl' (by omega) (by omega) (by omega)) (by omega) (by omega) (by omega)) (by omega) (by omega) (by omega)) (by omega) (by omega) (by omega)) (by omega) (by omega) (by omega)) (fam_nm _ hE_n24)) (fam_nm _ hE_n91)) (by omega) (by omega) (by omega)) hE_n99 hL_n99 (by show A 0 0 29 ≤ A89 0 0 29; omega) hM_n99 (by omega)) (by omega) (by omega) (by omega)) (by omega) (by omega) (by omega))⟩
        · have bt9 : A 0 0 24 < A 0 0 23 := pT_lt hn g0 (by omega)
          refine m_blk 104 [(3, vi 1), (2, vi xs), (1, vi p0), (0, vr 0 0)] [vr 0 0] C f_q_step_103_1 rfl ?_
          refine m_callV C Rm Y [] [] (q_next l D B H0 ad _ hS t19 (by show A 0 0 23 ≤ A 0 0 22; omega)) cl_Mo_176 rfl (by decide) rfl rfl e_q_step_104 rfl rfl rfl ⟨by show _ ≤ (32 + 4 * d : Nat); omega, by show _ ≤ (630 + 300 * d : Nat); omega⟩ ?_
          rintro v114 A115 ⟨rfl, hT_n117, hE_n117, raw_hw_n117, raw_hb_n117⟩
          have hF_n117 := q20.trans (hE_n117.sub (nm_pm _))
          show JM g D ad w0 A115 107 [(3, vi 1), (2, vi xs), (1, vi p0), (0, vr 0 0)] []
          obtain ⟨b1_n117, b2_n117, b3_n117, pt_n117⟩ : A 0 0 23 ≤ A115 0 0 24 ∧ A115 0 0 24 ≤ A115 0 0 23 ∧ A115 0 0 23 ≤ A115 0 0 22 ∧ pT A115 := raw_hb_n117 g0
          clear raw_hb_n117 raw_hw_n117
          have k0_n117 : A115 0 0 0 = A 0 0 0 := hE_n117 0 0 0 rfl
          have k22_n117 : A115 0 0 22 = A 0 0 22 := hE_n117 0 0 22 rfl
          have k27_n117 : A115 0 0 27 = A 0 0 27 := hE_n117 0 0 27 rfl
          have k28_n117 : A115 0 0 28 = (xs + 1) := hE_n117 0 0 28 rfl
          have k29_n117 : A115 0 0 29 = A 0 0 29 := hE_n117 0 0 29 rfl
          have k30_n117 : A115 0 0 30 = A 0 0 30 := hE_n117 0 0 30 rfl
          have r34_n117 : A115 34 p0.toNat xs.toNat = 1 := Eq.trans (hE_n117 34 p0.toNat xs.toNat rfl) (mu_at (mu A 0 0 28 (xs + 1)) 34 p0.toNat xs.toNat 1)
          have r35_n117 : A115 35 p0.toNat xs.toNat = (-1) := Eq.trans (hE_n117 35 p0.toNat xs.toNat rfl) (mu_at (mu (mu A 0 0 28 (xs + 1)) 34 p0.toNat xs.toNat 1) 35 p0.toNat xs.toNat (-1))
          have r36_n117 : A115 36 p0.toNat xs.toNat = (-1) := Eq.trans (hE_n117 36 p0.toNat xs.toNat rfl) (mu_at (mu (mu (mu A 0 0 28 (xs + 1)) 34 p0.toNat xs.toNat 1) 35 p0.toNat xs.toNat (-1)) 36 p0.toNat xs.toNat (-1))
          have r39_n117 : A115 39 p0.toNat xs.toNat = (-1) := Eq.trans (hE_n117 39 p0.toNat xs.toNat rfl) (mu_at (mu (mu (mu (mu A 0 0 28 (xs + 1)) 34 p0.toNat xs.toNat 1) 35 p0.toNat xs.toNat (-1)) 36 p0.toNat xs.toNat (-1)) 39 p0.toNat xs.toNat (-1))
          have r40_n117 : A115 40 p0.toNat xs.toNat = x18 := Eq.trans (hE_n117 40 p0.toNat xs.toNat rfl) (mu_at (mu (mu (mu (mu (mu A 0 0 28 (xs + 1)) 34 p0.toNat xs.toNat 1) 35 p0.toNat xs.toNat (-1)) 36 p0.toNat xs.toNat (-1)) 39 p0.toNat xs.toNat (-1)) 40 p0.toNat xs.toNat x18)
          rcases (show A115 0 0 31 = 0 ∨ A115 0 0 31 = 1 from by have w9 := hT_n117 0 0 31; have w8 : 0 ≤ A115 0 0 31 ∧ A115 0 0 31 ≤ 1 := w9; omega) with g_n117 | g_n117
          · refine m_blk 108 [(3, vi 1), (2, vi xs), (1, vi p0), (0, vr 0 0)] [vi 1] C f_q_step_107_1 rfl ?_
            refine m_if_eq (tgt := 121) C e_q_step_108 (by decide) (by decide) (fun c118 => (by omega : False).elim) (fun c118 => ?_)
            refine m_blk 113 [(3, vi 1), (2, vi xs), (1, vi p0), (0, vr 0 0)] [vi 1, vi 1] C f_q_step_111_2 rfl ?_
            refine m_icmp_eq (tgt := 121) C e_q_step_113 (by decide) (by decide) (by decide) (fun c119 => ?_) (fun c119 => (by omega : False).elim)
            refine m_blk 122 [(3, vi 1), (2, vi xs), (1, vi p0), (0, vr 0 0)] [vr 0 0] C f_q_step_121_1 rfl ?_
            refine m_getr C e_q_step_122 fg_Mo_24 rfl (by decide) rfl ?_
            refine m_blk 126 [(3, vi 1), (2, vi xs), (1, vi p0), (0, vr 0 0)] [vi p0, vr 15 0] C f_q_step_125_1 rfl ?_
            refine m_aald C p0.toNat e_q_step_126 rfl rfl rfl (by decide) (by decide) (by omega) (by show p0 < ((6 : Nat) : Int); omega) (mz _ _) ?_
            refine m_blk 132 [(3, vi 1), (2, vi xs), (1, vi p0), (0, vr 0 0)] [vi 5, vi 0, vi 1, vr 0 0, vi xs, vr 35 p0.toNat] C f_q_step_127_5 rfl ?_
            refine m_callV C Rm Y [vi 1, vi 0, vi 5] [vi xs, vr 35 p0.toNat] (q_takes l D B H0 ad _ hS hT_n117 1 0 5 (by show 1 ≤ 1 ∧ 1 ≤ 4; omega) (by show 0 ≤ 0 ∧ 0 ≤ 2147483647 ∧ -1 ≤ 5 ∧ 5 ≤ 2147483647; omega) (by show A115 0 0 24 ≤ A115 0 0 23 ∧ A115 0 0 23 ≤ A115 0 0 22; omega) pt_n117) cl_Mo_198 rfl (by decide) rfl rfl e_q_step_132 rfl rfl rfl ⟨by show _ ≤ (32 + 4 * d : Nat); omega, by show _ ≤ (630 + 300 * d : Nat); omega⟩ ?_
            rintro v120 A121 ⟨z124, rfl, hT_n123, hE_n123, raw_hz_n123, raw_hb_n123, raw_hn_n123, raw_hw_n123, raw_hm_n123⟩
            have hF_n123 := hF_n117.trans (hE_n123.sub (nm_pm _))
            show JM g D ad w0 A121 135 [(3, vi 1), (2, vi xs), (1, vi p0), (0, vr 0 0)] [vi z124, vi xs, vr 35 p0.toNat]
            have hb_n123 : A121 0 0 24 ≤ A121 0 0 23 ∧ A121 0 0 23 ≤ A121 0 0 22 := raw_hb_n123
            clear raw_hb_n123
            have hm_n123 : A115 0 0 24 ≤ A121 0 0 24 := raw_hm_n123
            clear raw_hm_n123
            have hz_n123 : z124 = 0 ∨ 0 ≤ z124 ∧ z124 ≤ 5 := raw_hz_n123
            clear raw_hz_n123
            have pt_n123 : pT A121 := raw_hn_n123
            clear raw_hn_n123
            have k0_n123 : A121 0 0 0 = A115 0 0 0 := hE_n123 0 0 0 rfl
            have k22_n123 : A121 0 0 22 = A115 0 0 22 := hE_n123 0 0 22 rfl
            have k27_n123 : A121 0 0 27 = A115 0 0 27 := hE_n123 0 0 27 rfl
            have k28_n123 : A121 0 0 28 = A115 0 0 28 := hE_n123 0 0 28 rfl
            have k29_n123 : A121 0 0 29 = A115 0 0 29 := hE_n123 0 0 29 rfl
            have k30_n123 : A121 0 0 30 = A115 0 0 30 := hE_n123 0 0 30 rfl
            have r34_n123 : A121 34 p0.toNat xs.toNat = 1 := Eq.trans (hE_n123 34 p0.toNat xs.toNat rfl) r34_n117
            have r35_n123 : A121 35 p0.toNat xs.toNat = (-1) := Eq.trans (hE_n123 35 p0.toNat xs.toNat rfl) r35_n117
            have r36_n123 : A121 36 p0.toNat xs.toNat = (-1) := Eq.trans (hE_n123 36 p0.toNat xs.toNat rfl) r36_n117
            have r39_n123 : A121 39 p0.toNat xs.toNat = (-1) := Eq.trans (hE_n123 39 p0.toNat xs.toNat rfl) r39_n117
            have r40_n123 : A121 40 p0.toNat xs.toNat = x18 := Eq.trans (hE_n123 40 p0.toNat xs.toNat rfl) r40_n117
            rcases (show A121 0 0 31 = 0 ∨ A121 0 0 31 = 1 from by have w9 := hT_n123 0 0 31; have w8 : 0 ≤ A121 0 0 31 ∧ A121 0 0 31 ≤ 1 := w9; omega) with g_n123 | g_n123
            · have u_n123 : A115 0 0 31 = 0 ∧ A115 0 0 24 < A121 0 0 24 ∧ 0 ≤ z124 ∧ z124 ≤ 5 := raw_hw_n123 g_n123
              clear raw_hw_n123
              refine m_iast C e_q_step_135 rfl (by omega) (by decide) (by omega) (by show xs < ((16 : Nat) : Int); omega) ?_
              have t125 : mTy (mu A121 35 p0.toNat xs.toNat z124) := hT_n123.mu (by show (-1) ≤ z124 ∧ z124 ≤ 5; omega)
              have q126 := hF_n123.mu (f := 35) (k := p0.toNat) (j := xs.toNat) (z := z124) (by simp [pm])
              refine m_blk 137 [(3, vi 1), (2, vi xs), (1, vi p0), (0, vr 0 0)] [vi 1] C f_q_step_136_1 rfl ?_
              refine m_if_ne (tgt := 146) C e_q_step_137 (by decide) (by decide) (fun c127 => ?_) (fun c127 => (by omega : False).elim)
              refine m_blk 148 [(3, vi 1), (2, vi xs), (1, vi p0), (0, vr 0 0)] [vi 4, vi 1] C f_q_step_146_2 rfl ?_
              refine m_icmp_ne (tgt := 167) C e_q_step_148 (by decide) (by decide) (by decide) (fun c128 => ?_) (fun c128 => (by omega : False).elim)
              refine m_blk 169 [(3, vi 1), (2, vi xs), (1, vi p0), (0, vr 0 0)] [vi 5, vi 1] C f_q_step_167_2 rfl ?_
              refine m_icmp_ne (tgt := 192) C e_q_step_169 (by decide) (by decide) (by decide) (fun c129 => ?_) (fun c129 => (by omega : False).elim)
              refine m_blk 194 [(3, vi 1), (2, vi xs), (1, vi p0), (0, vr 0 0)] [vi 1, vi 1] C f_q_step_192_2 rfl ?_
              refine m_icmp_eq (tgt := 212) C e_q_step_194 (by decide) (by decide) (by decide) (fun c130 => ?_) (fun c130 => (by omega : False).elim)
              refine m_blk 213 [(3, vi 1), (2, vi xs), (1, vi p0), (0, vr 0 0)] [vr 0 0] C f_q_step_212_1 rfl ?_
              refine m_getr C e_q_step_213 fg_Mo_36 rfl (by decide) rfl ?_
              refine m_blk 217 [(3, vi 1), (2, vi xs), (1, vi p0), (0, vr 0 0)] [vi p0, vr 19 0] C f_q_step_216_1 rfl ?_
              refine m_aald C p0.toNat e_q_step_217 rfl rfl rfl (by decide) (by decide) (by omega) (by show p0 < ((6 : Nat) : Int); omega) (mz _ _) ?_
              refine m_blk 220 [(3, vi 1), (2, vi xs), (1, vi p0), (0, vr 0 0)] [vr 0 0, vi xs, vr 39 p0.toNat] C f_q_step_218_2 rfl ?_
              refine m_callV C Rm Y [] [vi xs, vr 39 p0.toNat] ((q_E d).2 l D B H0 ad _ hS t125 p0 (by show A121 0 0 0 = p0 ∧ 0 ≤ p0 ∧ p0 ≤ 5; omega) (by show A121 0 0 24 ≤ A121 0 0 23 ∧ A121 0 0 23 ≤ A121 0 0 22; omega) pt_n123 (fun _ => by show A121 0 0 30 + 3 * A121 0 0 29 ≤ A121 0 0 24; omega) (nG.nm (A := A115) (nG.nm (A := (mu (mu (mu (mu (mu (mu A 0 0 28 (xs + 1)) 34 p0.toNat xs.toNat 1) 35 p0.toNat xs.toNat (-1)) 36 p0.toNat xs.toNat (-1)) 39 p0.toNat xs.toNat (-1)) 40 p0.toNat xs.toNat x18)) hG hE_n117) hE_n123) (by show A121 0 0 27 = 4 - (d : Int) ∧ (d : Int) ≤ 4; omega)) cl_Mo_206 rfl (by decide) rfl rfl e_q_step_220 rfl rfl rfl ⟨by show _ ≤ (32 + 4 * d : Nat); omega, by show _ ≤ (630 + 300 * d : Nat); omega⟩ ?_
              rintro v131 A132 ⟨z135, rfl, hT_n134, hE_n134, raw_hz_n134, raw_hb_n134, raw_hn_n134, raw_hw_n134, raw_hm_n134, raw_hG_n134, raw_hK_n134⟩
              have hF_n134 := q126.trans (hE_n134.sub (em_pm _))
              show JM g D ad w0 A132 223 [(3, vi 1), (2, vi xs), (1, vi p0), (0, vr 0 0)] [vi z135, vi xs, vr 39 p0.toNat]
              have hz_n134 : 0 ≤ z135 ∧ z135 ≤ 119 := raw_hz_n134
              clear raw_hz_n134
              have hb_n134 : A132 0 0 24 ≤ A132 0 0 23 ∧ A132 0 0 23 ≤ A132 0 0 22 := raw_hb_n134
              clear raw_hb_n134
              have hm_n134 : A121 0 0 24 ≤ A132 0 0 24 ∧ A121 0 0 30 ≤ A132 0 0 30 ∧ A132 0 0 27 = A121 0 0 27 := raw_hm_n134
              clear raw_hm_n134
              have pt_n134 : pT A132 := raw_hn_n134
              have k0_n134 : A132 0 0 0 = A121 0 0 0 := hE_n134 0 0 0 rfl
              have k22_n134 : A132 0 0 22 = A121 0 0 22 := hE_n134 0 0 22 rfl
              have k28_n134 : A132 0 0 28 = A121 0 0 28 := hE_n134 0 0 28 rfl
              have k29_n134 : A132 0 0 29 = A121 0 0 29 := hE_n134 0 0 29 rfl
              have hG_n134 : nG p0.toNat A132 := raw_hG_n134
              have hK_n134 : nK p0.toNat (mu A121 35 p0.toNat xs.toNat z124) A132 := raw_hK_n134
              have r34_n134 : A132 34 p0.toNat xs.toNat = 1 := Eq.trans (hE_n134 34 p0.toNat xs.toNat rfl) r34_n123
              have r35_n134 : A132 35 p0.toNat xs.toNat = z124 := Eq.trans (hE_n134 35 p0.toNat xs.toNat rfl) (mu_at A121 35 p0.toNat xs.toNat z124)
              have r36_n134 : A132 36 p0.toNat xs.toNat = (-1) := Eq.trans (hE_n134 36 p0.toNat xs.toNat rfl) r36_n123
              have r39_n134 : A132 39 p0.toNat xs.toNat = (-1) := Eq.trans (hE_n134 39 p0.toNat xs.toNat rfl) r39_n123
              have r40_n134 : A132 40 p0.toNat xs.toNat = x18 := Eq.trans (hE_n134 40 p0.toNat xs.toNat rfl) r40_n123
              rcases (show A132 0 0 31 = 0 ∨ A132 0 0 31 = 1 from by have w9 := hT_n134 0 0 31; have w8 : 0 ≤ A132 0 0 31 ∧ A132 0 0 31 ≤ 1 := w9; omega) with g_n134 | g_n134
              · have u_n134 : z135 < A132 0 0 30 ∧ A121 0 0 24 - A121 0 0 30 ≤ A132 0 0 24 - A132 0 0 30 := (raw_hw_n134 g_n134).2
                refine m_iast C e_q_step_223 rfl (by omega) (by decide) (by omega) (by show xs < ((16 : Nat) : Int); omega) ?_
                have t136 : mTy (mu A132 39 p0.toNat xs.toNat z135) := hT_n134.mu (by show (-1) ≤ z135 ∧ z135 ≤ 119; omega)
                have q137 := hF_n134.mu (f := 39) (k := p0.toNat) (j := xs.toNat) (z := z135) (by simp [pm])
                refine m_blk 226 [(3, vi 1), (2, vi xs), (1, vi p0), (0, vr 0 0)] [vi 3, vi 1] C f_q_step_224_2 rfl ?_
                refine m_icmp_eq (tgt := 234) C e_q_step_226 (by decide) (by decide) (by decide) (fun c138 => (by omega : False).elim) (fun c138 => ?_)
                refine m_blk 231 [(3, vi 1), (2, vi xs), (1, vi p0), (0, vr 0 0)] [vi 4, vi 1] C f_q_step_229_2 rfl ?_
                refine m_icmp_ne (tgt := 238) C e_q_step_231 (by decide) (by decide) (by decide) (fun c139 => ?_) (fun c139 => (by omega : False).elim)
                refine m_blk 239 [(3, vi 1), (2, vi xs), (1, vi p0), (0, vr 0 0)] [vr 0 0] C f_q_step_238_1 rfl ?_
                refine m_getr C e_q_step_239 fg_Mo_33 rfl (by decide) rfl ?_
                refine m_blk 243 [(3, vi 1), (2, vi xs), (1, vi p0), (0, vr 0 0)] [vi p0, vr 18 0] C f_q_step_242_1 rfl ?_
                refine m_aald C p0.toNat e_q_step_243 rfl rfl rfl (by decide) (by decide) (by omega) (by show p0 < ((6 : Nat) : Int); omega) (mz _ _) ?_
                refine m_blk 246 [(3, vi 1), (2, vi xs), (1, vi p0), (0, vr 0 0)] [vr 0 0, vi xs, vr 38 p0.toNat] C f_q_step_244_2 rfl ?_
                obtain ⟨x140, hx140⟩ : ∃ x, A132 0 0 28 = x := ⟨_, rfl⟩
                have rx140 : 0 ≤ x140 ∧ x140 ≤ 16 := mrg hT_n134 hx140 rfl
                refine m_geti C e_q_step_246 fg_Mo_192 rfl (by decide) rfl x140 hx140 ?_
                refine m_iast C e_q_step_249 rfl (by omega) (by decide) (by omega) (by show xs < ((16 : Nat) : Int); omega) ?_
                have t141 : mTy (mu (mu A132 39 p0.toNat xs.toNat z135) 38 p0.toNat xs.toNat x140) := t136.mu (by show 0 ≤ x140 ∧ x140 ≤ 16; omega)
                have q142 := q137.mu (f := 38) (k := p0.toNat) (j := xs.toNat) (z := x140) (by simp [pm])
                refine m_blk 252 [(3, vi 1), (2, vi xs), (1, vi p0), (0, vr 0 0)] [vi 3, vi 1] C f_q_step_250_2 rfl ?_
                refine m_icmp_ne (tgt := 259) C e_q_step_252 (by decide) (by decide) (by decide) (fun c143 => ?_) (fun c143 => (by omega : False).elim)
                refine m_blk 260 [(3, vi 1), (2, vi xs), (1, vi p0), (0, vr 0 0)] [vr 0 0] C f_q_step_259_1 rfl ?_
                refine m_getr C e_q_step_260 fg_Mo_30 rfl (by decide) rfl ?_
                refine m_blk 264 [(3, vi 1), (2, vi xs), (1, vi p0), (0, vr 0 0)] [vi p0, vr 17 0] C f_q_step_263_1 rfl ?_
                refine m_aald C p0.toNat e_q_step_264 rfl rfl rfl (by decide) (by decide) (by omega) (by show p0 < ((6 : Nat) : Int); omega) (mz _ _) ?_
                refine m_blk 267 [(3, vi 1), (2, vi xs), (1, vi p0), (0, vr 0 0)] [vr 0 0, vi xs, vr 37 p0.toNat] C f_q_step_265_2 rfl ?_
                refine m_geti C e_q_step_267 fg_Mo_192 rfl (by decide) rfl x140 hx140 ?_
                refine m_iast C e_q_step_270 rfl (by omega) (by decide) (by omega) (by show xs < ((16 : Nat) : Int); omega) ?_
                have t144 : mTy (mu (mu (mu A132 39 p0.toNat xs.toNat z135) 38 p0.toNat xs.toNat x140) 37 p0.toNat xs.toNat x140) := t141.mu (by show 0 ≤ x140 ∧ x140 ≤ 16; omega)
                have q145 := q142.mu (f := 37) (k := p0.toNat) (j := xs.toNat) (z := x140) (by simp [pm])
                exact m_vret C Rm E e_q_step_271 ⟨rfl, t144, q145, (by show A132 0 0 24 ≤ A132 0 0 23 ∧ A132 0 0 23 ≤ A132 0 0 22; omega), pt_n134, (pV.one' (i := xs.toNat) g0 (by show A 0 0 24 - A 0 0 30 - 3 * A 0 0 29 ≤ A132 0 0 24 - A132 0 0 30 - 3 * A132 0 0 29; omega) (by omega) (by show A132 0 0 28 = A 0 0 28 + 1; omega) (sG.mk r34_n134 r35_n134 r36_n134 (mu_at (mu (mu A132 39 p0.toNat xs.toNat z135) 38 p0.toNat xs.toNat x140) 37 p0.toNat xs.toNat x140) (mu_at (mu A132 39 p0.toNat xs.toNat z135) 38 p0.toNat xs.toNat x140) (mu_at A132 39 p0.toNat xs.toNat z135) r40_n134 (by decide) (by show _ ∧ _ ∧ _ ≤ A132 0 0 28; omega) (by show _ ∧ _ < A132 0 0 30; omega) (by omega) (by omega) (by omega) (by decide) (fun h9 => absurd h9 (by decide)) (by show 0 ≤ (4 - (d : Int)) ∧ (4 - (d : Int)) ≤ 4; omega) (by decide))), (by show A 0 0 24 ≤ A132 0 0 24 ∧ A 0 0 28 ≤ A132 0 0 28 ∧ A 0 0 29 ≤ A132 0 0 29 ∧ A 0 0 30 ≤ A132 0 0 30 ∧ A132 0 0 27 = A 0 0 27; omega), hG_n134, (pQ.mu (pQ.mu (pQ.mu (pQ.emk (A2 := (mu A121 35 p0.toNat xs.toNat z124)) (pQ.mu (pQ.fam (pQ.fam (pQ.mu (pQ.mu (pQ.mu (pQ.mu (pQ.mu pQ.rfl' (by omega) (by omega) (by omega)) (by omega) (by omega) (by omega)) (by omega) (by omega) (by omega)) (by omega) (by omega) (by omega)) (by omega) (by omega) (by omega)) (fam_nm _ hE_n117)) (fam_nm _ hE_n123)) (by omega) (by omega) (by omega)) hE_n134 hK_n134 (by show A 0 0 30 ≤ A121 0 0 30; omega)) (by omega) (by omega) (by omega)) (by omega) (by omega) (by omega)) (by omega) (by omega) (by omega))⟩
              · refine m_iast C e_q_step_223 rfl (by omega) (by decide) (by omega) (by show xs < ((16 : Nat) : Int); omega) ?_
                have t146 : mTy (mu A132 39 p0.toNat xs.toNat z135) := hT_n134.mu (by show (-1) ≤ z135 ∧ z135 ≤ 119; omega)
                have q147 := hF_n134.mu (f := 39) (k := p0.toNat) (j := xs.toNat) (z := z135) (by simp [pm])
                refine m_blk 226 [(3, vi 1), (2, vi xs), (1, vi p0), (0, vr 0 0)] [vi 3, vi 1] C f_q_step_224_2 rfl ?_
                refine m_icmp_eq (tgt := 234) C e_q_step_226 (by decide) (by decide) (by decide) (fun c148 => (by omega : False).elim) (fun c148 => ?_)
                refine m_blk 231 [(3, vi 1), (2, vi xs), (1, vi p0), (0, vr 0 0)] [vi 4, vi 1] C f_q_step_229_2 rfl ?_
                refine m_icmp_ne (tgt := 238) C e_q_step_231 (by decide) (by decide) (by decide) (fun c149 => ?_) (fun c149 => (by omega : False).elim)
                refine m_blk 239 [(3, vi 1), (2, vi xs), (1, vi p0), (0, vr 0 0)] [vr 0 0] C f_q_step_238_1 rfl ?_
                refine m_getr C e_q_step_239 fg_Mo_33 rfl (by decide) rfl ?_
                refine m_blk 243 [(3, vi 1), (2, vi xs), (1, vi p0), (0, vr 0 0)] [vi p0, vr 18 0] C f_q_step_242_1 rfl ?_
                refine m_aald C p0.toNat e_q_step_243 rfl rfl rfl (by decide) (by decide) (by omega) (by show p0 < ((6 : Nat) : Int); omega) (mz _ _) ?_
                refine m_blk 246 [(3, vi 1), (2, vi xs), (1, vi p0), (0, vr 0 0)] [vr 0 0, vi xs, vr 38 p0.toNat] C f_q_step_244_2 rfl ?_
                obtain ⟨x150, hx150⟩ : ∃ x, A132 0 0 28 = x := ⟨_, rfl⟩
                have rx150 : 0 ≤ x150 ∧ x150 ≤ 16 := mrg hT_n134 hx150 rfl
                refine m_geti C e_q_step_246 fg_Mo_192 rfl (by decide) rfl x150 hx150 ?_
                refine m_iast C e_q_step_249 rfl (by omega) (by decide) (by omega) (by show xs < ((16 : Nat) : Int); omega) ?_
                have t151 : mTy (mu (mu A132 39 p0.toNat xs.toNat z135) 38 p0.toNat xs.toNat x150) := t146.mu (by show 0 ≤ x150 ∧ x150 ≤ 16; omega)
                have q152 := q147.mu (f := 38) (k := p0.toNat) (j := xs.toNat) (z := x150) (by simp [pm])
                refine m_blk 252 [(3, vi 1), (2, vi xs), (1, vi p0), (0, vr 0 0)] [vi 3, vi 1] C f_q_step_250_2 rfl ?_
                refine m_icmp_ne (tgt := 259) C e_q_step_252 (by decide) (by decide) (by decide) (fun c153 => ?_) (fun c153 => (by omega : False).elim)
                refine m_blk 260 [(3, vi 1), (2, vi xs), (1, vi p0), (0, vr 0 0)] [vr 0 0] C f_q_step_259_1 rfl ?_
                refine m_getr C e_q_step_260 fg_Mo_30 rfl (by decide) rfl ?_
                refine m_blk 264 [(3, vi 1), (2, vi xs), (1, vi p0), (0, vr 0 0)] [vi p0, vr 17 0] C f_q_step_263_1 rfl ?_
                refine m_aald C p0.toNat e_q_step_264 rfl rfl rfl (by decide) (by decide) (by omega) (by show p0 < ((6 : Nat) : Int); omega) (mz _ _) ?_
                refine m_blk 267 [(3, vi 1), (2, vi xs), (1, vi p0), (0, vr 0 0)] [vr 0 0, vi xs, vr 37 p0.toNat] C f_q_step_265_2 rfl ?_
                refine m_geti C e_q_step_267 fg_Mo_192 rfl (by decide) rfl x150 hx150 ?_
                refine m_iast C e_q_step_270 rfl (by omega) (by decide) (by omega) (by show xs < ((16 : Nat) : Int); omega) ?_
                have t154 : mTy (mu (mu (mu A132 39 p0.toNat xs.toNat z135) 38 p0.toNat xs.toNat x150) 37 p0.toNat xs.toNat x150) := t151.mu (by show 0 ≤ x150 ∧ x150 ≤ 16; omega)
                have q155 := q152.mu (f := 37) (k := p0.toNat) (j := xs.toNat) (z := x150) (by simp [pm])
                exact m_vret C Rm E e_q_step_271 ⟨rfl, t154, q155, (by show A132 0 0 24 ≤ A132 0 0 23 ∧ A132 0 0 23 ≤ A132 0 0 22; omega), pt_n134, (fun h9 => absurd ((g_n134 : A132 0 0 31 = 1).symm.trans h9) (by decide)), (by show A 0 0 24 ≤ A132 0 0 24 ∧ A 0 0 28 ≤ A132 0 0 28 ∧ A 0 0 29 ≤ A132 0 0 29 ∧ A 0 0 30 ≤ A132 0 0 30 ∧ A132 0 0 27 = A 0 0 27; omega), hG_n134, (pQ.mu (pQ.mu (pQ.mu (pQ.emk (A2 := (mu A121 35 p0.toNat xs.toNat z124)) (pQ.mu (pQ.fam (pQ.fam (pQ.mu (pQ.mu (pQ.mu (pQ.mu (pQ.mu pQ.rfl' (by omega) (by omega) (by omega)) (by omega) (by omega) (by omega)) (by omega) (by omega) (by omega)) (by omega) (by omega) (by omega)) (by omega) (by omega) (by omega)) (fam_nm _ hE_n117)) (fam_nm _ hE_n123)) (by omega) (by omega) (by omega)) hE_n134 hK_n134 (by show A 0 0 30 ≤ A121 0 0 30; omega)) (by omega) (by omega) (by omega)) (by omega) (by omega) (by omega)) (by omega) (by omega) (by omega))⟩
            · clear raw_hw_n123
              refine m_iast C e_q_step_135 rfl (by omega) (by decide) (by omega) (by show xs < ((16 : Nat) : Int); omega) ?_
              have t156 : mTy (mu A121 35 p0.toNat xs.toNat z124) := hT_n123.mu (by show (-1) ≤ z124 ∧ z124 ≤ 5; omega)
              have q157 := hF_n123.mu (f := 35) (k := p0.toNat) (j := xs.toNat) (z := z124) (by simp [pm])
              refine m_blk 137 [(3, vi 1), (2, vi xs), (1, vi p0), (0, vr 0 0)] [vi 1] C f_q_step_136_1 rfl ?_
              refine m_if_ne (tgt := 146) C e_q_step_137 (by decide) (by decide) (fun c158 => ?_) (fun c158 => (by omega : False).elim)
              refine m_blk 148 [(3, vi 1), (2, vi xs), (1, vi p0), (0, vr 0 0)] [vi 4, vi 1] C f_q_step_146_2 rfl ?_
              refine m_icmp_ne (tgt := 167) C e_q_step_148 (by decide) (by decide) (by decide) (fun c159 => ?_) (fun c159 => (by omega : False).elim)
              refine m_blk 169 [(3, vi 1), (2, vi xs), (1, vi p0), (0, vr 0 0)] [vi 5, vi 1] C f_q_step_167_2 rfl ?_
              refine m_icmp_ne (tgt := 192) C e_q_step_169 (by decide) (by decide) (by decide) (fun c160 => ?_) (fun c160 => (by omega : False).elim)
              refine m_blk 194 [(3, vi 1), (2, vi xs), (1, vi p0), (0, vr 0 0)] [vi 1, vi 1] C f_q_step_192_2 rfl ?_
              refine m_icmp_eq (tgt := 212) C e_q_step_194 (by decide) (by decide) (by decide) (fun c161 => ?_) (fun c161 => (by omega : False).elim)
              refine m_blk 213 [(3, vi 1), (2, vi xs), (1, vi p0), (0, vr 0 0)] [vr 0 0] C f_q_step_212_1 rfl ?_
              refine m_getr C e_q_step_213 fg_Mo_36 rfl (by decide) rfl ?_
              refine m_blk 217 [(3, vi 1), (2, vi xs), (1, vi p0), (0, vr 0 0)] [vi p0, vr 19 0] C f_q_step_216_1 rfl ?_
              refine m_aald C p0.toNat e_q_step_217 rfl rfl rfl (by decide) (by decide) (by omega) (by show p0 < ((6 : Nat) : Int); omega) (mz _ _) ?_
              refine m_blk 220 [(3, vi 1), (2, vi xs), (1, vi p0), (0, vr 0 0)] [vr 0 0, vi xs, vr 39 p0.toNat] C f_q_step_218_2 rfl ?_
              refine m_callV C Rm Y [] [vi xs, vr 39 p0.toNat] ((q_E d).2 l D B H0 ad _ hS t156 p0 (by show A121 0 0 0 = p0 ∧ 0 ≤ p0 ∧ p0 ≤ 5; omega) (by show A121 0 0 24 ≤ A121 0 0 23 ∧ A121 0 0 23 ≤ A121 0 0 22; omega) pt_n123 (fun h9 => absurd ((g_n123 : A121 0 0 31 = 1).symm.trans h9) (by decide)) (nG.nm (A := A115) (nG.nm (A := (mu (mu (mu (mu (mu (mu A 0 0 28 (xs + 1)) 34 p0.toNat xs.toNat 1) 35 p0.toNat xs.toNat (-1)) 36 p0.toNat xs.toNat (-1)) 39 p0.toNat xs.toNat (-1)) 40 p0.toNat xs.toNat x18)) hG hE_n117) hE_n123) (by show A121 0 0 27 = 4 - (d : Int) ∧ (d : Int) ≤ 4; omega)) cl_Mo_206 rfl (by decide) rfl rfl e_q_step_220 rfl rfl rfl ⟨by show _ ≤ (32 + 4 * d : Nat); omega, by show _ ≤ (630 + 300 * d : Nat); omega⟩ ?_
              rintro v162 A163 ⟨z166, rfl, hT_n165, hE_n165, raw_hz_n165, raw_hb_n165, raw_hn_n165, raw_hw_n165, raw_hm_n165, raw_hG_n165, raw_hK_n165⟩
              have hF_n165 := q157.trans (hE_n165.sub (em_pm _))
              show JM g D ad w0 A163 223 [(3, vi 1), (2, vi xs), (1, vi p0), (0, vr 0 0)] [vi z166, vi xs, vr 39 p0.toNat]
              have hz_n165 : 0 ≤ z166 ∧ z166 ≤ 119 := raw_hz_n165
              clear raw_hz_n165
              have hb_n165 : A163 0 0 24 ≤ A163 0 0 23 ∧ A163 0 0 23 ≤ A163 0 0 22 := raw_hb_n165
              clear raw_hb_n165
              have hm_n165 : A121 0 0 24 ≤ A163 0 0 24 ∧ A121 0 0 30 ≤ A163 0 0 30 ∧ A163 0 0 27 = A121 0 0 27 := raw_hm_n165
              clear raw_hm_n165
              have pt_n165 : pT A163 := raw_hn_n165
              have k0_n165 : A163 0 0 0 = A121 0 0 0 := hE_n165 0 0 0 rfl
              have k22_n165 : A163 0 0 22 = A121 0 0 22 := hE_n165 0 0 22 rfl
              have k28_n165 : A163 0 0 28 = A121 0 0 28 := hE_n165 0 0 28 rfl
              have k29_n165 : A163 0 0 29 = A121 0 0 29 := hE_n165 0 0 29 rfl
              have hG_n165 : nG p0.toNat A163 := raw_hG_n165
              have hK_n165 : nK p0.toNat (mu A121 35 p0.toNat xs.toNat z124) A163 := raw_hK_n165
              have r34_n165 : A163 34 p0.toNat xs.toNat = 1 := Eq.trans (hE_n165 34 p0.toNat xs.toNat rfl) r34_n123
              have r35_n165 : A163 35 p0.toNat xs.toNat = z124 := Eq.trans (hE_n165 35 p0.toNat xs.toNat rfl) (mu_at A121 35 p0.toNat xs.toNat z124)
              have r36_n165 : A163 36 p0.toNat xs.toNat = (-1) := Eq.trans (hE_n165 36 p0.toNat xs.toNat rfl) r36_n123
              have r39_n165 : A163 39 p0.toNat xs.toNat = (-1) := Eq.trans (hE_n165 39 p0.toNat xs.toNat rfl) r39_n123
              have r40_n165 : A163 40 p0.toNat xs.toNat = x18 := Eq.trans (hE_n165 40 p0.toNat xs.toNat rfl) r40_n123
              have g_n165 : A163 0 0 31 = 1 := wr_1 (hT_n165 0 0 31) (fun h9 => absurd ((g_n123 : A121 0 0 31 = 1).symm.trans (raw_hw_n165 h9).1) (by decide))
              refine m_iast C e_q_step_223 rfl (by omega) (by decide) (by omega) (by show xs < ((16 : Nat) : Int); omega) ?_
              have t167 : mTy (mu A163 39 p0.toNat xs.toNat z166) := hT_n165.mu (by show (-1) ≤ z166 ∧ z166 ≤ 119; omega)
              have q168 := hF_n165.mu (f := 39) (k := p0.toNat) (j := xs.toNat) (z := z166) (by simp [pm])
              refine m_blk 226 [(3, vi 1), (2, vi xs), (1, vi p0), (0, vr 0 0)] [vi 3, vi 1] C f_q_step_224_2 rfl ?_
              refine m_icmp_eq (tgt := 234) C e_q_step_226 (by decide) (by decide) (by decide) (fun c169 => (by omega : False).elim) (fun c169 => ?_)
              refine m_blk 231 [(3, vi 1), (2, vi xs), (1, vi p0), (0, vr 0 0)] [vi 4, vi 1] C f_q_step_229_2 rfl ?_
              refine m_icmp_ne (tgt := 238) C e_q_step_231 (by decide) (by decide) (by decide) (fun c170 => ?_) (fun c170 => (by omega : False).elim)
              refine m_blk 239 [(3, vi 1), (2, vi xs), (1, vi p0), (0, vr 0 0)] [vr 0 0] C f_q_step_238_1 rfl ?_
              refine m_getr C e_q_step_239 fg_Mo_33 rfl (by decide) rfl ?_
              refine m_blk 243 [(3, vi 1), (2, vi xs), (1, vi p0), (0, vr 0 0)] [vi p0, vr 18 0] C f_q_step_242_1 rfl ?_
              refine m_aald C p0.toNat e_q_step_243 rfl rfl rfl (by decide) (by decide) (by omega) (by show p0 < ((6 : Nat) : Int); omega) (mz _ _) ?_
              refine m_blk 246 [(3, vi 1), (2, vi xs), (1, vi p0), (0, vr 0 0)] [vr 0 0, vi xs, vr 38 p0.toNat] C f_q_step_244_2 rfl ?_
              obtain ⟨x171, hx171⟩ : ∃ x, A163 0 0 28 = x := ⟨_, rfl⟩
              have rx171 : 0 ≤ x171 ∧ x171 ≤ 16 := mrg hT_n165 hx171 rfl
              refine m_geti C e_q_step_246 fg_Mo_192 rfl (by decide) rfl x171 hx171 ?_
              refine m_iast C e_q_step_249 rfl (by omega) (by decide) (by omega) (by show xs < ((16 : Nat) : Int); omega) ?_
              have t172 : mTy (mu (mu A163 39 p0.toNat xs.toNat z166) 38 p0.toNat xs.toNat x171) := t167.mu (by show 0 ≤ x171 ∧ x171 ≤ 16; omega)
              have q173 := q168.mu (f := 38) (k := p0.toNat) (j := xs.toNat) (z := x171) (by simp [pm])
              refine m_blk 252 [(3, vi 1), (2, vi xs), (1, vi p0), (0, vr 0 0)] [vi 3, vi 1] C f_q_step_250_2 rfl ?_
              refine m_icmp_ne (tgt := 259) C e_q_step_252 (by decide) (by decide) (by decide) (fun c174 => ?_) (fun c174 => (by omega : False).elim)
              refine m_blk 260 [(3, vi 1), (2, vi xs), (1, vi p0), (0, vr 0 0)] [vr 0 0] C f_q_step_259_1 rfl ?_
              refine m_getr C e_q_step_260 fg_Mo_30 rfl (by decide) rfl ?_
              refine m_blk 264 [(3, vi 1), (2, vi xs), (1, vi p0), (0, vr 0 0)] [vi p0, vr 17 0] C f_q_step_263_1 rfl ?_
              refine m_aald C p0.toNat e_q_step_264 rfl rfl rfl (by decide) (by decide) (by omega) (by show p0 < ((6 : Nat) : Int); omega) (mz _ _) ?_
              refine m_blk 267 [(3, vi 1), (2, vi xs), (1, vi p0), (0, vr 0 0)] [vr 0 0, vi xs, vr 37 p0.toNat] C f_q_step_265_2 rfl ?_
              refine m_geti C e_q_step_267 fg_Mo_192 rfl (by decide) rfl x171 hx171 ?_
              refine m_iast C e_q_step_270 rfl (by omega) (by decide) (by omega) (by show xs < ((16 : Nat) : Int); omega) ?_
              have t175 : mTy (mu (mu (mu A163 39 p0.toNat xs.toNat z166) 38 p0.toNat xs.toNat x171) 37 p0.toNat xs.toNat x171) := t172.mu (by show 0 ≤ x171 ∧ x171 ≤ 16; omega)
              have q176 := q173.mu (f := 37) (k := p0.toNat) (j := xs.toNat) (z := x171) (by simp [pm])
              exact m_vret C Rm E e_q_step_271 ⟨rfl, t175, q176, (by show A163 0 0 24 ≤ A163 0 0 23 ∧ A163 0 0 23 ≤ A163 0 0 22; omega), pt_n165, (fun h9 => absurd ((g_n165 : A163 0 0 31 = 1).symm.trans h9) (by decide)), (by show A 0 0 24 ≤ A163 0 0 24 ∧ A 0 0 28 ≤ A163 0 0 28 ∧ A 0 0 29 ≤ A163 0 0 29 ∧ A 0 0 30 ≤ A163 0 0 30 ∧ A163 0 0 27 = A 0 0 27; omega), hG_n165, (pQ.mu (pQ.mu (pQ.mu (pQ.emk (A2 := (mu A121 35 p0.toNat xs.toNat z124)) (pQ.mu (pQ.fam (pQ.fam (pQ.mu (pQ.mu (pQ.mu (pQ.mu (pQ.mu pQ.rfl' (by omega) (by omega) (by omega)) (by omega) (by omega) (by omega)) (by omega) (by omega) (by omega)) (by omega) (by omega) (by omega)) (by omega) (by omega) (by omega)) (fam_nm _ hE_n117)) (fam_nm _ hE_n123)) (by omega) (by omega) (by omega)) hE_n165 hK_n165 (by show A 0 0 30 ≤ A121 0 0 30; omega)) (by omega) (by omega) (by omega)) (by omega) (by omega) (by omega)) (by omega) (by omega) (by omega))⟩
          · refine m_blk 108 [(3, vi 1), (2, vi xs), (1, vi p0), (0, vr 0 0)] [vi 1] C f_q_step_107_1 rfl ?_
            refine m_if_eq (tgt := 121) C e_q_step_108 (by decide) (by decide) (fun c177 => (by omega : False).elim) (fun c177 => ?_)
            refine m_blk 113 [(3, vi 1), (2, vi xs), (1, vi p0), (0, vr 0 0)] [vi 1, vi 1] C f_q_step_111_2 rfl ?_
            refine m_icmp_eq (tgt := 121) C e_q_step_113 (by decide) (by decide) (by decide) (fun c178 => ?_) (fun c178 => (by omega : False).elim)
            refine m_blk 122 [(3, vi 1), (2, vi xs), (1, vi p0), (0, vr 0 0)] [vr 0 0] C f_q_step_121_1 rfl ?_
            refine m_getr C e_q_step_122 fg_Mo_24 rfl (by decide) rfl ?_
            refine m_blk 126 [(3, vi 1), (2, vi xs), (1, vi p0), (0, vr 0 0)] [vi p0, vr 15 0] C f_q_step_125_1 rfl ?_
            refine m_aald C p0.toNat e_q_step_126 rfl rfl rfl (by decide) (by decide) (by omega) (by show p0 < ((6 : Nat) : Int); omega) (mz _ _) ?_
            refine m_blk 132 [(3, vi 1), (2, vi xs), (1, vi p0), (0, vr 0 0)] [vi 5, vi 0, vi 1, vr 0 0, vi xs, vr 35 p0.toNat] C f_q_step_127_5 rfl ?_
            refine m_callV C Rm Y [vi 1, vi 0, vi 5] [vi xs, vr 35 p0.toNat] (q_takes l D B H0 ad _ hS hT_n117 1 0 5 (by show 1 ≤ 1 ∧ 1 ≤ 4; omega) (by show 0 ≤ 0 ∧ 0 ≤ 2147483647 ∧ -1 ≤ 5 ∧ 5 ≤ 2147483647; omega) (by show A115 0 0 24 ≤ A115 0 0 23 ∧ A115 0 0 23 ≤ A115 0 0 22; omega) pt_n117) cl_Mo_198 rfl (by decide) rfl rfl e_q_step_132 rfl rfl rfl ⟨by show _ ≤ (32 + 4 * d : Nat); omega, by show _ ≤ (630 + 300 * d : Nat); omega⟩ ?_
            rintro v179 A180 ⟨z183, rfl, hT_n182, hE_n182, raw_hz_n182, raw_hb_n182, raw_hn_n182, raw_hw_n182, raw_hm_n182⟩
            have hF_n182 := hF_n117.trans (hE_n182.sub (nm_pm _))
            show JM g D ad w0 A180 135 [(3, vi 1), (2, vi xs), (1, vi p0), (0, vr 0 0)] [vi z183, vi xs, vr 35 p0.toNat]
            have hb_n182 : A180 0 0 24 ≤ A180 0 0 23 ∧ A180 0 0 23 ≤ A180 0 0 22 := raw_hb_n182
            clear raw_hb_n182
            have hm_n182 : A115 0 0 24 ≤ A180 0 0 24 := raw_hm_n182
            clear raw_hm_n182
            have hz_n182 : z183 = 0 ∨ 0 ≤ z183 ∧ z183 ≤ 5 := raw_hz_n182
            clear raw_hz_n182
            have pt_n182 : pT A180 := raw_hn_n182
            clear raw_hn_n182
            have k0_n182 : A180 0 0 0 = A115 0 0 0 := hE_n182 0 0 0 rfl
            have k22_n182 : A180 0 0 22 = A115 0 0 22 := hE_n182 0 0 22 rfl
            have k27_n182 : A180 0 0 27 = A115 0 0 27 := hE_n182 0 0 27 rfl
            have k28_n182 : A180 0 0 28 = A115 0 0 28 := hE_n182 0 0 28 rfl
            have k29_n182 : A180 0 0 29 = A115 0 0 29 := hE_n182 0 0 29 rfl
            have k30_n182 : A180 0 0 30 = A115 0 0 30 := hE_n182 0 0 30 rfl
            have r34_n182 : A180 34 p0.toNat xs.toNat = 1 := Eq.trans (hE_n182 34 p0.toNat xs.toNat rfl) r34_n117
            have r35_n182 : A180 35 p0.toNat xs.toNat = (-1) := Eq.trans (hE_n182 35 p0.toNat xs.toNat rfl) r35_n117
            have r36_n182 : A180 36 p0.toNat xs.toNat = (-1) := Eq.trans (hE_n182 36 p0.toNat xs.toNat rfl) r36_n117
            have r39_n182 : A180 39 p0.toNat xs.toNat = (-1) := Eq.trans (hE_n182 39 p0.toNat xs.toNat rfl) r39_n117
            have r40_n182 : A180 40 p0.toNat xs.toNat = x18 := Eq.trans (hE_n182 40 p0.toNat xs.toNat rfl) r40_n117
            have g_n182 : A180 0 0 31 = 1 := wr_1 (hT_n182 0 0 31) (fun h9 => absurd ((g_n117 : A115 0 0 31 = 1).symm.trans (raw_hw_n182 h9).1) (by decide))
            clear raw_hw_n182
            refine m_iast C e_q_step_135 rfl (by omega) (by decide) (by omega) (by show xs < ((16 : Nat) : Int); omega) ?_
            have t184 : mTy (mu A180 35 p0.toNat xs.toNat z183) := hT_n182.mu (by show (-1) ≤ z183 ∧ z183 ≤ 5; omega)
            have q185 := hF_n182.mu (f := 35) (k := p0.toNat) (j := xs.toNat) (z := z183) (by simp [pm])
            refine m_blk 137 [(3, vi 1), (2, vi xs), (1, vi p0), (0, vr 0 0)] [vi 1] C f_q_step_136_1 rfl ?_
            refine m_if_ne (tgt := 146) C e_q_step_137 (by decide) (by decide) (fun c186 => ?_) (fun c186 => (by omega : False).elim)
            refine m_blk 148 [(3, vi 1), (2, vi xs), (1, vi p0), (0, vr 0 0)] [vi 4, vi 1] C f_q_step_146_2 rfl ?_
            refine m_icmp_ne (tgt := 167) C e_q_step_148 (by decide) (by decide) (by decide) (fun c187 => ?_) (fun c187 => (by omega : False).elim)
            refine m_blk 169 [(3, vi 1), (2, vi xs), (1, vi p0), (0, vr 0 0)] [vi 5, vi 1] C f_q_step_167_2 rfl ?_
            refine m_icmp_ne (tgt := 192) C e_q_step_169 (by decide) (by decide) (by decide) (fun c188 => ?_) (fun c188 => (by omega : False).elim)
            refine m_blk 194 [(3, vi 1), (2, vi xs), (1, vi p0), (0, vr 0 0)] [vi 1, vi 1] C f_q_step_192_2 rfl ?_
            refine m_icmp_eq (tgt := 212) C e_q_step_194 (by decide) (by decide) (by decide) (fun c189 => ?_) (fun c189 => (by omega : False).elim)
            refine m_blk 213 [(3, vi 1), (2, vi xs), (1, vi p0), (0, vr 0 0)] [vr 0 0] C f_q_step_212_1 rfl ?_
            refine m_getr C e_q_step_213 fg_Mo_36 rfl (by decide) rfl ?_
            refine m_blk 217 [(3, vi 1), (2, vi xs), (1, vi p0), (0, vr 0 0)] [vi p0, vr 19 0] C f_q_step_216_1 rfl ?_
            refine m_aald C p0.toNat e_q_step_217 rfl rfl rfl (by decide) (by decide) (by omega) (by show p0 < ((6 : Nat) : Int); omega) (mz _ _) ?_
            refine m_blk 220 [(3, vi 1), (2, vi xs), (1, vi p0), (0, vr 0 0)] [vr 0 0, vi xs, vr 39 p0.toNat] C f_q_step_218_2 rfl ?_
            refine m_callV C Rm Y [] [vi xs, vr 39 p0.toNat] ((q_E d).2 l D B H0 ad _ hS t184 p0 (by show A180 0 0 0 = p0 ∧ 0 ≤ p0 ∧ p0 ≤ 5; omega) (by show A180 0 0 24 ≤ A180 0 0 23 ∧ A180 0 0 23 ≤ A180 0 0 22; omega) pt_n182 (fun h9 => absurd ((g_n182 : A180 0 0 31 = 1).symm.trans h9) (by decide)) (nG.nm (A := A115) (nG.nm (A := (mu (mu (mu (mu (mu (mu A 0 0 28 (xs + 1)) 34 p0.toNat xs.toNat 1) 35 p0.toNat xs.toNat (-1)) 36 p0.toNat xs.toNat (-1)) 39 p0.toNat xs.toNat (-1)) 40 p0.toNat xs.toNat x18)) hG hE_n117) hE_n182) (by show A180 0 0 27 = 4 - (d : Int) ∧ (d : Int) ≤ 4; omega)) cl_Mo_206 rfl (by decide) rfl rfl e_q_step_220 rfl rfl rfl ⟨by show _ ≤ (32 + 4 * d : Nat); omega, by show _ ≤ (630 + 300 * d : Nat); omega⟩ ?_
            rintro v190 A191 ⟨z194, rfl, hT_n193, hE_n193, raw_hz_n193, raw_hb_n193, raw_hn_n193, raw_hw_n193, raw_hm_n193, raw_hG_n193, raw_hK_n193⟩
            have hF_n193 := q185.trans (hE_n193.sub (em_pm _))
            show JM g D ad w0 A191 223 [(3, vi 1), (2, vi xs), (1, vi p0), (0, vr 0 0)] [vi z194, vi xs, vr 39 p0.toNat]
            have hz_n193 : 0 ≤ z194 ∧ z194 ≤ 119 := raw_hz_n193
            clear raw_hz_n193
            have hb_n193 : A191 0 0 24 ≤ A191 0 0 23 ∧ A191 0 0 23 ≤ A191 0 0 22 := raw_hb_n193
            clear raw_hb_n193
            have hm_n193 : A180 0 0 24 ≤ A191 0 0 24 ∧ A180 0 0 30 ≤ A191 0 0 30 ∧ A191 0 0 27 = A180 0 0 27 := raw_hm_n193
            clear raw_hm_n193
            have pt_n193 : pT A191 := raw_hn_n193
            have k0_n193 : A191 0 0 0 = A180 0 0 0 := hE_n193 0 0 0 rfl
            have k22_n193 : A191 0 0 22 = A180 0 0 22 := hE_n193 0 0 22 rfl
            have k28_n193 : A191 0 0 28 = A180 0 0 28 := hE_n193 0 0 28 rfl
            have k29_n193 : A191 0 0 29 = A180 0 0 29 := hE_n193 0 0 29 rfl
            have hG_n193 : nG p0.toNat A191 := raw_hG_n193
            have hK_n193 : nK p0.toNat (mu A180 35 p0.toNat xs.toNat z183) A191 := raw_hK_n193
            have r34_n193 : A191 34 p0.toNat xs.toNat = 1 := Eq.trans (hE_n193 34 p0.toNat xs.toNat rfl) r34_n182
            have r35_n193 : A191 35 p0.toNat xs.toNat = z183 := Eq.trans (hE_n193 35 p0.toNat xs.toNat rfl) (mu_at A180 35 p0.toNat xs.toNat z183)
            have r36_n193 : A191 36 p0.toNat xs.toNat = (-1) := Eq.trans (hE_n193 36 p0.toNat xs.toNat rfl) r36_n182
            have r39_n193 : A191 39 p0.toNat xs.toNat = (-1) := Eq.trans (hE_n193 39 p0.toNat xs.toNat rfl) r39_n182
            have r40_n193 : A191 40 p0.toNat xs.toNat = x18 := Eq.trans (hE_n193 40 p0.toNat xs.toNat rfl) r40_n182
            have g_n193 : A191 0 0 31 = 1 := wr_1 (hT_n193 0 0 31) (fun h9 => absurd ((g_n182 : A180 0 0 31 = 1).symm.trans (raw_hw_n193 h9).1) (by decide))
            refine m_iast C e_q_step_223 rfl (by omega) (by decide) (by omega) (by show xs < ((16 : Nat) : Int); omega) ?_
            have t195 : mTy (mu A191 39 p0.toNat xs.toNat z194) := hT_n193.mu (by show (-1) ≤ z194 ∧ z194 ≤ 119; omega)
            have q196 := hF_n193.mu (f := 39) (k := p0.toNat) (j := xs.toNat) (z := z194) (by simp [pm])
            refine m_blk 226 [(3, vi 1), (2, vi xs), (1, vi p0), (0, vr 0 0)] [vi 3, vi 1] C f_q_step_224_2 rfl ?_
            refine m_icmp_eq (tgt := 234) C e_q_step_226 (by decide) (by decide) (by decide) (fun c197 => (by omega : False).elim) (fun c197 => ?_)
            refine m_blk 231 [(3, vi 1), (2, vi xs), (1, vi p0), (0, vr 0 0)] [vi 4, vi 1] C f_q_step_229_2 rfl ?_
            refine m_icmp_ne (tgt := 238) C e_q_step_231 (by decide) (by decide) (by decide) (fun c198 => ?_) (fun c198 => (by omega : False).elim)
            refine m_blk 239 [(3, vi 1), (2, vi xs), (1, vi p0), (0, vr 0 0)] [vr 0 0] C f_q_step_238_1 rfl ?_
            refine m_getr C e_q_step_239 fg_Mo_33 rfl (by decide) rfl ?_
            refine m_blk 243 [(3, vi 1), (2, vi xs), (1, vi p0), (0, vr 0 0)] [vi p0, vr 18 0] C f_q_step_242_1 rfl ?_
            refine m_aald C p0.toNat e_q_step_243 rfl rfl rfl (by decide) (by decide) (by omega) (by show p0 < ((6 : Nat) : Int); omega) (mz _ _) ?_
            refine m_blk 246 [(3, vi 1), (2, vi xs), (1, vi p0), (0, vr 0 0)] [vr 0 0, vi xs, vr 38 p0.toNat] C f_q_step_244_2 rfl ?_
            obtain ⟨x199, hx199⟩ : ∃ x, A191 0 0 28 = x := ⟨_, rfl⟩
            have rx199 : 0 ≤ x199 ∧ x199 ≤ 16 := mrg hT_n193 hx199 rfl
            refine m_geti C e_q_step_246 fg_Mo_192 rfl (by decide) rfl x199 hx199 ?_
            refine m_iast C e_q_step_249 rfl (by omega) (by decide) (by omega) (by show xs < ((16 : Nat) : Int); omega) ?_
            have t200 : mTy (mu (mu A191 39 p0.toNat xs.toNat z194) 38 p0.toNat xs.toNat x199) := t195.mu (by show 0 ≤ x199 ∧ x199 ≤ 16; omega)
            have q201 := q196.mu (f := 38) (k := p0.toNat) (j := xs.toNat) (z := x199) (by simp [pm])
            refine m_blk 252 [(3, vi 1), (2, vi xs), (1, vi p0), (0, vr 0 0)] [vi 3, vi 1] C f_q_step_250_2 rfl ?_
            refine m_icmp_ne (tgt := 259) C e_q_step_252 (by decide) (by decide) (by decide) (fun c202 => ?_) (fun c202 => (by omega : False).elim)
            refine m_blk 260 [(3, vi 1), (2, vi xs), (1, vi p0), (0, vr 0 0)] [vr 0 0] C f_q_step_259_1 rfl ?_
            refine m_getr C e_q_step_260 fg_Mo_30 rfl (by decide) rfl ?_
            refine m_blk 264 [(3, vi 1), (2, vi xs), (1, vi p0), (0, vr 0 0)] [vi p0, vr 17 0] C f_q_step_263_1 rfl ?_
            refine m_aald C p0.toNat e_q_step_264 rfl rfl rfl (by decide) (by decide) (by omega) (by show p0 < ((6 : Nat) : Int); omega) (mz _ _) ?_
            refine m_blk 267 [(3, vi 1), (2, vi xs), (1, vi p0), (0, vr 0 0)] [vr 0 0, vi xs, vr 37 p0.toNat] C f_q_step_265_2 rfl ?_
            refine m_geti C e_q_step_267 fg_Mo_192 rfl (by decide) rfl x199 hx199 ?_
            refine m_iast C e_q_step_270 rfl (by omega) (by decide) (by omega) (by show xs < ((16 : Nat) : Int); omega) ?_
            have t203 : mTy (mu (mu (mu A191 39 p0.toNat xs.toNat z194) 38 p0.toNat xs.toNat x199) 37 p0.toNat xs.toNat x199) := t200.mu (by show 0 ≤ x199 ∧ x199 ≤ 16; omega)
            have q204 := q201.mu (f := 37) (k := p0.toNat) (j := xs.toNat) (z := x199) (by simp [pm])
            exact m_vret C Rm E e_q_step_271 ⟨rfl, t203, q204, (by show A191 0 0 24 ≤ A191 0 0 23 ∧ A191 0 0 23 ≤ A191 0 0 22; omega), pt_n193, (fun h9 => absurd ((g_n193 : A191 0 0 31 = 1).symm.trans h9) (by decide)), (by show A 0 0 24 ≤ A191 0 0 24 ∧ A 0 0 28 ≤ A191 0 0 28 ∧ A 0 0 29 ≤ A191 0 0 29 ∧ A 0 0 30 ≤ A191 0 0 30 ∧ A191 0 0 27 = A 0 0 27; omega), hG_n193, (pQ.mu (pQ.mu (pQ.mu (pQ.emk (A2 := (mu A180 35 p0.toNat xs.toNat z183)) (pQ.mu (pQ.fam (pQ.fam (pQ.mu (pQ.mu (pQ.mu (pQ.mu (pQ.mu pQ.rfl' (by omega) (by omega) (by omega)) (by omega) (by omega) (by omega)) (by omega) (by omega) (by omega)) (by omega) (by omega) (by omega)) (by omega) (by omega) (by omega)) (fam_nm _ hE_n117)) (fam_nm _ hE_n182)) (by omega) (by omega) (by omega)) hE_n193 hK_n193 (by show A 0 0 30 ≤ A180 0 0 30; omega)) (by omega) (by omega) (by omega)) (by omega) (by omega) (by omega)) (by omega) (by omega) (by omega))⟩
        · have bt9 : A 0 0 24 < A 0 0 23 := pT_lt hn g0 (by omega)
          refine m_blk 104 [(3, vi 2), (2, vi xs), (1, vi p0), (0, vr 0 0)] [vr 0 0] C f_q_step_103_1 rfl ?_
          refine m_callV C Rm Y [] [] (q_next l D B H0 ad _ hS t19 (by show A 0 0 23 ≤ A 0 0 22; omega)) cl_Mo_176 rfl (by decide) rfl rfl e_q_step_104 rfl rfl rfl ⟨by show _ ≤ (32 + 4 * d : Nat); omega, by show _ ≤ (630 + 300 * d : Nat); omega⟩ ?_
          rintro v205 A206 ⟨rfl, hT_n208, hE_n208, raw_hw_n208, raw_hb_n208⟩
          have hF_n208 := q20.trans (hE_n208.sub (nm_pm _))
          show JM g D ad w0 A206 107 [(3, vi 2), (2, vi xs), (1, vi p0), (0, vr 0 0)] []
          obtain ⟨b1_n208, b2_n208, b3_n208, pt_n208⟩ : A 0 0 23 ≤ A206 0 0 24 ∧ A206 0 0 24 ≤ A206 0 0 23 ∧ A206 0 0 23 ≤ A206 0 0 22 ∧ pT A206 := raw_hb_n208 g0
          clear raw_hb_n208 raw_hw_n208
          have k0_n208 : A206 0 0 0 = A 0 0 0 := hE_n208 0 0 0 rfl
          have k22_n208 : A206 0 0 22 = A 0 0 22 := hE_n208 0 0 22 rfl
          have k27_n208 : A206 0 0 27 = A 0 0 27 := hE_n208 0 0 27 rfl
          have k28_n208 : A206 0 0 28 = (xs + 1) := hE_n208 0 0 28 rfl
          have k29_n208 : A206 0 0 29 = A 0 0 29 := hE_n208 0 0 29 rfl
          have k30_n208 : A206 0 0 30 = A 0 0 30 := hE_n208 0 0 30 rfl
          have r34_n208 : A206 34 p0.toNat xs.toNat = 2 := Eq.trans (hE_n208 34 p0.toNat xs.toNat rfl) (mu_at (mu A 0 0 28 (xs + 1)) 34 p0.toNat xs.toNat 2)
          have r35_n208 : A206 35 p0.toNat xs.toNat = (-1) := Eq.trans (hE_n208 35 p0.toNat xs.toNat rfl) (mu_at (mu (mu A 0 0 28 (xs + 1)) 34 p0.toNat xs.toNat 2) 35 p0.toNat xs.toNat (-1))
          have r36_n208 : A206 36 p0.toNat xs.toNat = (-1) := Eq.trans (hE_n208 36 p0.toNat xs.toNat rfl) (mu_at (mu (mu (mu A 0 0 28 (xs + 1)) 34 p0.toNat xs.toNat 2) 35 p0.toNat xs.toNat (-1)) 36 p0.toNat xs.toNat (-1))
          have r39_n208 : A206 39 p0.toNat xs.toNat = (-1) := Eq.trans (hE_n208 39 p0.toNat xs.toNat rfl) (mu_at (mu (mu (mu (mu A 0 0 28 (xs + 1)) 34 p0.toNat xs.toNat 2) 35 p0.toNat xs.toNat (-1)) 36 p0.toNat xs.toNat (-1)) 39 p0.toNat xs.toNat (-1))
          have r40_n208 : A206 40 p0.toNat xs.toNat = x18 := Eq.trans (hE_n208 40 p0.toNat xs.toNat rfl) (mu_at (mu (mu (mu (mu (mu A 0 0 28 (xs + 1)) 34 p0.toNat xs.toNat 2) 35 p0.toNat xs.toNat (-1)) 36 p0.toNat xs.toNat (-1)) 39 p0.toNat xs.toNat (-1)) 40 p0.toNat xs.toNat x18)
          rcases (show A206 0 0 31 = 0 ∨ A206 0 0 31 = 1 from by have w9 := hT_n208 0 0 31; have w8 : 0 ≤ A206 0 0 31 ∧ A206 0 0 31 ≤ 1 := w9; omega) with g_n208 | g_n208
          · refine m_blk 108 [(3, vi 2), (2, vi xs), (1, vi p0), (0, vr 0 0)] [vi 2] C f_q_step_107_1 rfl ?_
            refine m_if_eq (tgt := 121) C e_q_step_108 (by decide) (by decide) (fun c209 => (by omega : False).elim) (fun c209 => ?_)
            refine m_blk 113 [(3, vi 2), (2, vi xs), (1, vi p0), (0, vr 0 0)] [vi 1, vi 2] C f_q_step_111_2 rfl ?_
            refine m_icmp_eq (tgt := 121) C e_q_step_113 (by decide) (by decide) (by decide) (fun c210 => (by omega : False).elim) (fun c210 => ?_)
            refine m_blk 118 [(3, vi 2), (2, vi xs), (1, vi p0), (0, vr 0 0)] [vi 5, vi 2] C f_q_step_116_2 rfl ?_
            refine m_icmp_ne (tgt := 136) C e_q_step_118 (by decide) (by decide) (by decide) (fun c211 => ?_) (fun c211 => (by omega : False).elim)
            refine m_blk 137 [(3, vi 2), (2, vi xs), (1, vi p0), (0, vr 0 0)] [vi 2] C f_q_step_136_1 rfl ?_
            refine m_if_ne (tgt := 146) C e_q_step_137 (by decide) (by decide) (fun c212 => ?_) (fun c212 => (by omega : False).elim)
            refine m_blk 148 [(3, vi 2), (2, vi xs), (1, vi p0), (0, vr 0 0)] [vi 4, vi 2] C f_q_step_146_2 rfl ?_
            refine m_icmp_ne (tgt := 167) C e_q_step_148 (by decide) (by decide) (by decide) (fun c213 => ?_) (fun c213 => (by omega : False).elim)
            refine m_blk 169 [(3, vi 2), (2, vi xs), (1, vi p0), (0, vr 0 0)] [vi 5, vi 2] C f_q_step_167_2 rfl ?_
            refine m_icmp_ne (tgt := 192) C e_q_step_169 (by decide) (by decide) (by decide) (fun c214 => ?_) (fun c214 => (by omega : False).elim)
            refine m_blk 194 [(3, vi 2), (2, vi xs), (1, vi p0), (0, vr 0 0)] [vi 1, vi 2] C f_q_step_192_2 rfl ?_
            refine m_icmp_eq (tgt := 212) C e_q_step_194 (by decide) (by decide) (by decide) (fun c215 => (by omega : False).elim) (fun c215 => ?_)
            refine m_blk 199 [(3, vi 2), (2, vi xs), (1, vi p0), (0, vr 0 0)] [vi 2, vi 2] C f_q_step_197_2 rfl ?_
            refine m_icmp_eq (tgt := 212) C e_q_step_199 (by decide) (by decide) (by decide) (fun c216 => ?_) (fun c216 => (by omega : False).elim)
            refine m_blk 213 [(3, vi 2), (2, vi xs), (1, vi p0), (0, vr 0 0)] [vr 0 0] C f_q_step_212_1 rfl ?_
            refine m_getr C e_q_step_213 fg_Mo_36 rfl (by decide) rfl ?_
            refine m_blk 217 [(3, vi 2), (2, vi xs), (1, vi p0), (0, vr 0 0)] [vi p0, vr 19 0] C f_q_step_216_1 rfl ?_
            refine m_aald C p0.toNat e_q_step_217 rfl rfl rfl (by decide) (by decide) (by omega) (by show p0 < ((6 : Nat) : Int); omega) (mz _ _) ?_
            refine m_blk 220 [(3, vi 2), (2, vi xs), (1, vi p0), (0, vr 0 0)] [vr 0 0, vi xs, vr 39 p0.toNat] C f_q_step_218_2 rfl ?_
            refine m_callV C Rm Y [] [vi xs, vr 39 p0.toNat] ((q_E d).2 l D B H0 ad _ hS hT_n208 p0 (by show A206 0 0 0 = p0 ∧ 0 ≤ p0 ∧ p0 ≤ 5; omega) (by show A206 0 0 24 ≤ A206 0 0 23 ∧ A206 0 0 23 ≤ A206 0 0 22; omega) pt_n208 (fun _ => by show A206 0 0 30 + 3 * A206 0 0 29 ≤ A206 0 0 24; omega) (nG.nm (A := (mu (mu (mu (mu (mu (mu A 0 0 28 (xs + 1)) 34 p0.toNat xs.toNat 2) 35 p0.toNat xs.toNat (-1)) 36 p0.toNat xs.toNat (-1)) 39 p0.toNat xs.toNat (-1)) 40 p0.toNat xs.toNat x18)) hG hE_n208) (by show A206 0 0 27 = 4 - (d : Int) ∧ (d : Int) ≤ 4; omega)) cl_Mo_206 rfl (by decide) rfl rfl e_q_step_220 rfl rfl rfl ⟨by show _ ≤ (32 + 4 * d : Nat); omega, by show _ ≤ (630 + 300 * d : Nat); omega⟩ ?_
            rintro v217 A218 ⟨z221, rfl, hT_n220, hE_n220, raw_hz_n220, raw_hb_n220, raw_hn_n220, raw_hw_n220, raw_hm_n220, raw_hG_n220, raw_hK_n220⟩
            have hF_n220 := hF_n208.trans (hE_n220.sub (em_pm _))
            show JM g D ad w0 A218 223 [(3, vi 2), (2, vi xs), (1, vi p0), (0, vr 0 0)] [vi z221, vi xs, vr 39 p0.toNat]
            have hz_n220 : 0 ≤ z221 ∧ z221 ≤ 119 := raw_hz_n220
            clear raw_hz_n220
            have hb_n220 : A218 0 0 24 ≤ A218 0 0 23 ∧ A218 0 0 23 ≤ A218 0 0 22 := raw_hb_n220
            clear raw_hb_n220
            have hm_n220 : A206 0 0 24 ≤ A218 0 0 24 ∧ A206 0 0 30 ≤ A218 0 0 30 ∧ A218 0 0 27 = A206 0 0 27 := raw_hm_n220
            clear raw_hm_n220
            have pt_n220 : pT A218 := raw_hn_n220
            have k0_n220 : A218 0 0 0 = A206 0 0 0 := hE_n220 0 0 0 rfl
            have k22_n220 : A218 0 0 22 = A206 0 0 22 := hE_n220 0 0 22 rfl
            have k28_n220 : A218 0 0 28 = A206 0 0 28 := hE_n220 0 0 28 rfl
            have k29_n220 : A218 0 0 29 = A206 0 0 29 := hE_n220 0 0 29 rfl
            have hG_n220 : nG p0.toNat A218 := raw_hG_n220
            have hK_n220 : nK p0.toNat A206 A218 := raw_hK_n220
            have r34_n220 : A218 34 p0.toNat xs.toNat = 2 := Eq.trans (hE_n220 34 p0.toNat xs.toNat rfl) r34_n208
            have r35_n220 : A218 35 p0.toNat xs.toNat = (-1) := Eq.trans (hE_n220 35 p0.toNat xs.toNat rfl) r35_n208
            have r36_n220 : A218 36 p0.toNat xs.toNat = (-1) := Eq.trans (hE_n220 36 p0.toNat xs.toNat rfl) r36_n208
            have r39_n220 : A218 39 p0.toNat xs.toNat = (-1) := Eq.trans (hE_n220 39 p0.toNat xs.toNat rfl) r39_n208
            have r40_n220 : A218 40 p0.toNat xs.toNat = x18 := Eq.trans (hE_n220 40 p0.toNat xs.toNat rfl) r40_n208
            rcases (show A218 0 0 31 = 0 ∨ A218 0 0 31 = 1 from by have w9 := hT_n220 0 0 31; have w8 : 0 ≤ A218 0 0 31 ∧ A218 0 0 31 ≤ 1 := w9; omega) with g_n220 | g_n220
            · have u_n220 : z221 < A218 0 0 30 ∧ A206 0 0 24 - A206 0 0 30 ≤ A218 0 0 24 - A218 0 0 30 := (raw_hw_n220 g_n220).2
              refine m_iast C e_q_step_223 rfl (by omega) (by decide) (by omega) (by show xs < ((16 : Nat) : Int); omega) ?_
              have t222 : mTy (mu A218 39 p0.toNat xs.toNat z221) := hT_n220.mu (by show (-1) ≤ z221 ∧ z221 ≤ 119; omega)
              have q223 := hF_n220.mu (f := 39) (k := p0.toNat) (j := xs.toNat) (z := z221) (by simp [pm])
              refine m_blk 226 [(3, vi 2), (2, vi xs), (1, vi p0), (0, vr 0 0)] [vi 3, vi 2] C f_q_step_224_2 rfl ?_
              refine m_icmp_eq (tgt := 234) C e_q_step_226 (by decide) (by decide) (by decide) (fun c224 => (by omega : False).elim) (fun c224 => ?_)
              refine m_blk 231 [(3, vi 2), (2, vi xs), (1, vi p0), (0, vr 0 0)] [vi 4, vi 2] C f_q_step_229_2 rfl ?_
              refine m_icmp_ne (tgt := 238) C e_q_step_231 (by decide) (by decide) (by decide) (fun c225 => ?_) (fun c225 => (by omega : False).elim)
              refine m_blk 239 [(3, vi 2), (2, vi xs), (1, vi p0), (0, vr 0 0)] [vr 0 0] C f_q_step_238_1 rfl ?_
              refine m_getr C e_q_step_239 fg_Mo_33 rfl (by decide) rfl ?_
              refine m_blk 243 [(3, vi 2), (2, vi xs), (1, vi p0), (0, vr 0 0)] [vi p0, vr 18 0] C f_q_step_242_1 rfl ?_
              refine m_aald C p0.toNat e_q_step_243 rfl rfl rfl (by decide) (by decide) (by omega) (by show p0 < ((6 : Nat) : Int); omega) (mz _ _) ?_
              refine m_blk 246 [(3, vi 2), (2, vi xs), (1, vi p0), (0, vr 0 0)] [vr 0 0, vi xs, vr 38 p0.toNat] C f_q_step_244_2 rfl ?_
              obtain ⟨x226, hx226⟩ : ∃ x, A218 0 0 28 = x := ⟨_, rfl⟩
              have rx226 : 0 ≤ x226 ∧ x226 ≤ 16 := mrg hT_n220 hx226 rfl
              refine m_geti C e_q_step_246 fg_Mo_192 rfl (by decide) rfl x226 hx226 ?_
              refine m_iast C e_q_step_249 rfl (by omega) (by decide) (by omega) (by show xs < ((16 : Nat) : Int); omega) ?_
              have t227 : mTy (mu (mu A218 39 p0.toNat xs.toNat z221) 38 p0.toNat xs.toNat x226) := t222.mu (by show 0 ≤ x226 ∧ x226 ≤ 16; omega)
              have q228 := q223.mu (f := 38) (k := p0.toNat) (j := xs.toNat) (z := x226) (by simp [pm])
              refine m_blk 252 [(3, vi 2), (2, vi xs), (1, vi p0), (0, vr 0 0)] [vi 3, vi 2] C f_q_step_250_2 rfl ?_
              refine m_icmp_ne (tgt := 259) C e_q_step_252 (by decide) (by decide) (by decide) (fun c229 => ?_) (fun c229 => (by omega : False).elim)
              refine m_blk 260 [(3, vi 2), (2, vi xs), (1, vi p0), (0, vr 0 0)] [vr 0 0] C f_q_step_259_1 rfl ?_
              refine m_getr C e_q_step_260 fg_Mo_30 rfl (by decide) rfl ?_
              refine m_blk 264 [(3, vi 2), (2, vi xs), (1, vi p0), (0, vr 0 0)] [vi p0, vr 17 0] C f_q_step_263_1 rfl ?_
              refine m_aald C p0.toNat e_q_step_264 rfl rfl rfl (by decide) (by decide) (by omega) (by show p0 < ((6 : Nat) : Int); omega) (mz _ _) ?_
              refine m_blk 267 [(3, vi 2), (2, vi xs), (1, vi p0), (0, vr 0 0)] [vr 0 0, vi xs, vr 37 p0.toNat] C f_q_step_265_2 rfl ?_
              refine m_geti C e_q_step_267 fg_Mo_192 rfl (by decide) rfl x226 hx226 ?_
              refine m_iast C e_q_step_270 rfl (by omega) (by decide) (by omega) (by show xs < ((16 : Nat) : Int); omega) ?_
              have t230 : mTy (mu (mu (mu A218 39 p0.toNat xs.toNat z221) 38 p0.toNat xs.toNat x226) 37 p0.toNat xs.toNat x226) := t227.mu (by show 0 ≤ x226 ∧ x226 ≤ 16; omega)
              have q231 := q228.mu (f := 37) (k := p0.toNat) (j := xs.toNat) (z := x226) (by simp [pm])
              exact m_vret C Rm E e_q_step_271 ⟨rfl, t230, q231, (by show A218 0 0 24 ≤ A218 0 0 23 ∧ A218 0 0 23 ≤ A218 0 0 22; omega), pt_n220, (pV.one' (i := xs.toNat) g0 (by show A 0 0 24 - A 0 0 30 - 3 * A 0 0 29 ≤ A218 0 0 24 - A218 0 0 30 - 3 * A218 0 0 29; omega) (by omega) (by show A218 0 0 28 = A 0 0 28 + 1; omega) (sG.mk r34_n220 r35_n220 r36_n220 (mu_at (mu (mu A218 39 p0.toNat xs.toNat z221) 38 p0.toNat xs.toNat x226) 37 p0.toNat xs.toNat x226) (mu_at (mu A218 39 p0.toNat xs.toNat z221) 38 p0.toNat xs.toNat x226) (mu_at A218 39 p0.toNat xs.toNat z221) r40_n220 (by decide) (by show _ ∧ _ ∧ _ ≤ A218 0 0 28; omega) (by show _ ∧ _ < A218 0 0 30; omega) (by omega) (by omega) (by omega) (by decide) (fun h9 => absurd h9 (by decide)) (by show 0 ≤ (4 - (d : Int)) ∧ (4 - (d : Int)) ≤ 4; omega) (by decide))), (by show A 0 0 24 ≤ A218 0 0 24 ∧ A 0 0 28 ≤ A218 0 0 28 ∧ A 0 0 29 ≤ A218 0 0 29 ∧ A 0 0 30 ≤ A218 0 0 30 ∧ A218 0 0 27 = A 0 0 27; omega), hG_n220, (pQ.mu (pQ.mu (pQ.mu (pQ.emk (A2 := A206) (pQ.fam (pQ.mu (pQ.mu (pQ.mu (pQ.mu (pQ.mu pQ.rfl' (by omega) (by omega) (by omega)) (by omega) (by omega) (by omega)) (by omega) (by omega) (by omega)) (by omega) (by omega) (by omega)) (by omega) (by omega) (by omega)) (fam_nm _ hE_n208)) hE_n220 hK_n220 (by show A 0 0 30 ≤ A206 0 0 30; omega)) (by omega) (by omega) (by omega)) (by omega) (by omega) (by omega)) (by omega) (by omega) (by omega))⟩
            · refine m_iast C e_q_step_223 rfl (by omega) (by decide) (by omega) (by show xs < ((16 : Nat) : Int); omega) ?_
              have t232 : mTy (mu A218 39 p0.toNat xs.toNat z221) := hT_n220.mu (by show (-1) ≤ z221 ∧ z221 ≤ 119; omega)
              have q233 := hF_n220.mu (f := 39) (k := p0.toNat) (j := xs.toNat) (z := z221) (by simp [pm])
              refine m_blk 226 [(3, vi 2), (2, vi xs), (1, vi p0), (0, vr 0 0)] [vi 3, vi 2] C f_q_step_224_2 rfl ?_
              refine m_icmp_eq (tgt := 234) C e_q_step_226 (by decide) (by decide) (by decide) (fun c234 => (by omega : False).elim) (fun c234 => ?_)
              refine m_blk 231 [(3, vi 2), (2, vi xs), (1, vi p0), (0, vr 0 0)] [vi 4, vi 2] C f_q_step_229_2 rfl ?_
              refine m_icmp_ne (tgt := 238) C e_q_step_231 (by decide) (by decide) (by decide) (fun c235 => ?_) (fun c235 => (by omega : False).elim)
              refine m_blk 239 [(3, vi 2), (2, vi xs), (1, vi p0), (0, vr 0 0)] [vr 0 0] C f_q_step_238_1 rfl ?_
              refine m_getr C e_q_step_239 fg_Mo_33 rfl (by decide) rfl ?_
              refine m_blk 243 [(3, vi 2), (2, vi xs), (1, vi p0), (0, vr 0 0)] [vi p0, vr 18 0] C f_q_step_242_1 rfl ?_
              refine m_aald C p0.toNat e_q_step_243 rfl rfl rfl (by decide) (by decide) (by omega) (by show p0 < ((6 : Nat) : Int); omega) (mz _ _) ?_
              refine m_blk 246 [(3, vi 2), (2, vi xs), (1, vi p0), (0, vr 0 0)] [vr 0 0, vi xs, vr 38 p0.toNat] C f_q_step_244_2 rfl ?_
              obtain ⟨x236, hx236⟩ : ∃ x, A218 0 0 28 = x := ⟨_, rfl⟩
              have rx236 : 0 ≤ x236 ∧ x236 ≤ 16 := mrg hT_n220 hx236 rfl
              refine m_geti C e_q_step_246 fg_Mo_192 rfl (by decide) rfl x236 hx236 ?_
              refine m_iast C e_q_step_249 rfl (by omega) (by decide) (by omega) (by show xs < ((16 : Nat) : Int); omega) ?_
              have t237 : mTy (mu (mu A218 39 p0.toNat xs.toNat z221) 38 p0.toNat xs.toNat x236) := t232.mu (by show 0 ≤ x236 ∧ x236 ≤ 16; omega)
              have q238 := q233.mu (f := 38) (k := p0.toNat) (j := xs.toNat) (z := x236) (by simp [pm])
              refine m_blk 252 [(3, vi 2), (2, vi xs), (1, vi p0), (0, vr 0 0)] [vi 3, vi 2] C f_q_step_250_2 rfl ?_
              refine m_icmp_ne (tgt := 259) C e_q_step_252 (by decide) (by decide) (by decide) (fun c239 => ?_) (fun c239 => (by omega : False).elim)
              refine m_blk 260 [(3, vi 2), (2, vi xs), (1, vi p0), (0, vr 0 0)] [vr 0 0] C f_q_step_259_1 rfl ?_
              refine m_getr C e_q_step_260 fg_Mo_30 rfl (by decide) rfl ?_
              refine m_blk 264 [(3, vi 2), (2, vi xs), (1, vi p0), (0, vr 0 0)] [vi p0, vr 17 0] C f_q_step_263_1 rfl ?_
              refine m_aald C p0.toNat e_q_step_264 rfl rfl rfl (by decide) (by decide) (by omega) (by show p0 < ((6 : Nat) : Int); omega) (mz _ _) ?_
              refine m_blk 267 [(3, vi 2), (2, vi xs), (1, vi p0), (0, vr 0 0)] [vr 0 0, vi xs, vr 37 p0.toNat] C f_q_step_265_2 rfl ?_
              refine m_geti C e_q_step_267 fg_Mo_192 rfl (by decide) rfl x236 hx236 ?_
              refine m_iast C e_q_step_270 rfl (by omega) (by decide) (by omega) (by show xs < ((16 : Nat) : Int); omega) ?_
              have t240 : mTy (mu (mu (mu A218 39 p0.toNat xs.toNat z221) 38 p0.toNat xs.toNat x236) 37 p0.toNat xs.toNat x236) := t237.mu (by show 0 ≤ x236 ∧ x236 ≤ 16; omega)
              have q241 := q238.mu (f := 37) (k := p0.toNat) (j := xs.toNat) (z := x236) (by simp [pm])
              exact m_vret C Rm E e_q_step_271 ⟨rfl, t240, q241, (by show A218 0 0 24 ≤ A218 0 0 23 ∧ A218 0 0 23 ≤ A218 0 0 22; omega), pt_n220, (fun h9 => absurd ((g_n220 : A218 0 0 31 = 1).symm.trans h9) (by decide)), (by show A 0 0 24 ≤ A218 0 0 24 ∧ A 0 0 28 ≤ A218 0 0 28 ∧ A 0 0 29 ≤ A218 0 0 29 ∧ A 0 0 30 ≤ A218 0 0 30 ∧ A218 0 0 27 = A 0 0 27; omega), hG_n220, (pQ.mu (pQ.mu (pQ.mu (pQ.emk (A2 := A206) (pQ.fam (pQ.mu (pQ.mu (pQ.mu (pQ.mu (pQ.mu pQ.rfl' (by omega) (by omega) (by omega)) (by omega) (by omega) (by omega)) (by omega) (by omega) (by omega)) (by omega) (by omega) (by omega)) (by omega) (by omega) (by omega)) (fam_nm _ hE_n208)) hE_n220 hK_n220 (by show A 0 0 30 ≤ A206 0 0 30; omega)) (by omega) (by omega) (by omega)) (by omega) (by omega) (by omega)) (by omega) (by omega) (by omega))⟩
          · refine m_blk 108 [(3, vi 2), (2, vi xs), (1, vi p0), (0, vr 0 0)] [vi 2] C f_q_step_107_1 rfl ?_
            refine m_if_eq (tgt := 121) C e_q_step_108 (by decide) (by decide) (fun c242 => (by omega : False).elim) (fun c242 => ?_)
            refine m_blk 113 [(3, vi 2), (2, vi xs), (1, vi p0), (0, vr 0 0)] [vi 1, vi 2] C f_q_step_111_2 rfl ?_
            refine m_icmp_eq (tgt := 121) C e_q_step_113 (by decide) (by decide) (by decide) (fun c243 => (by omega : False).elim) (fun c243 => ?_)
            refine m_blk 118 [(3, vi 2), (2, vi xs), (1, vi p0), (0, vr 0 0)] [vi 5, vi 2] C f_q_step_116_2 rfl ?_
            refine m_icmp_ne (tgt := 136) C e_q_step_118 (by decide) (by decide) (by decide) (fun c244 => ?_) (fun c244 => (by omega : False).elim)
            refine m_blk 137 [(3, vi 2), (2, vi xs), (1, vi p0), (0, vr 0 0)] [vi 2] C f_q_step_136_1 rfl ?_
            refine m_if_ne (tgt := 146) C e_q_step_137 (by decide) (by decide) (fun c245 => ?_) (fun c245 => (by omega : False).elim)
            refine m_blk 148 [(3, vi 2), (2, vi xs), (1, vi p0), (0, vr 0 0)] [vi 4, vi 2] C f_q_step_146_2 rfl ?_
            refine m_icmp_ne (tgt := 167) C e_q_step_148 (by decide) (by decide) (by decide) (fun c246 => ?_) (fun c246 => (by omega : False).elim)
            refine m_blk 169 [(3, vi 2), (2, vi xs), (1, vi p0), (0, vr 0 0)] [vi 5, vi 2] C f_q_step_167_2 rfl ?_
            refine m_icmp_ne (tgt := 192) C e_q_step_169 (by decide) (by decide) (by decide) (fun c247 => ?_) (fun c247 => (by omega : False).elim)
            refine m_blk 194 [(3, vi 2), (2, vi xs), (1, vi p0), (0, vr 0 0)] [vi 1, vi 2] C f_q_step_192_2 rfl ?_
            refine m_icmp_eq (tgt := 212) C e_q_step_194 (by decide) (by decide) (by decide) (fun c248 => (by omega : False).elim) (fun c248 => ?_)
            refine m_blk 199 [(3, vi 2), (2, vi xs), (1, vi p0), (0, vr 0 0)] [vi 2, vi 2] C f_q_step_197_2 rfl ?_
            refine m_icmp_eq (tgt := 212) C e_q_step_199 (by decide) (by decide) (by decide) (fun c249 => ?_) (fun c249 => (by omega : False).elim)
            refine m_blk 213 [(3, vi 2), (2, vi xs), (1, vi p0), (0, vr 0 0)] [vr 0 0] C f_q_step_212_1 rfl ?_
            refine m_getr C e_q_step_213 fg_Mo_36 rfl (by decide) rfl ?_
            refine m_blk 217 [(3, vi 2), (2, vi xs), (1, vi p0), (0, vr 0 0)] [vi p0, vr 19 0] C f_q_step_216_1 rfl ?_
            refine m_aald C p0.toNat e_q_step_217 rfl rfl rfl (by decide) (by decide) (by omega) (by show p0 < ((6 : Nat) : Int); omega) (mz _ _) ?_
            refine m_blk 220 [(3, vi 2), (2, vi xs), (1, vi p0), (0, vr 0 0)] [vr 0 0, vi xs, vr 39 p0.toNat] C f_q_step_218_2 rfl ?_
            refine m_callV C Rm Y [] [vi xs, vr 39 p0.toNat] ((q_E d).2 l D B H0 ad _ hS hT_n208 p0 (by show A206 0 0 0 = p0 ∧ 0 ≤ p0 ∧ p0 ≤ 5; omega) (by show A206 0 0 24 ≤ A206 0 0 23 ∧ A206 0 0 23 ≤ A206 0 0 22; omega) pt_n208 (fun h9 => absurd ((g_n208 : A206 0 0 31 = 1).symm.trans h9) (by decide)) (nG.nm (A := (mu (mu (mu (mu (mu (mu A 0 0 28 (xs + 1)) 34 p0.toNat xs.toNat 2) 35 p0.toNat xs.toNat (-1)) 36 p0.toNat xs.toNat (-1)) 39 p0.toNat xs.toNat (-1)) 40 p0.toNat xs.toNat x18)) hG hE_n208) (by show A206 0 0 27 = 4 - (d : Int) ∧ (d : Int) ≤ 4; omega)) cl_Mo_206 rfl (by decide) rfl rfl e_q_step_220 rfl rfl rfl ⟨by show _ ≤ (32 + 4 * d : Nat); omega, by show _ ≤ (630 + 300 * d : Nat); omega⟩ ?_
            rintro v250 A251 ⟨z254, rfl, hT_n253, hE_n253, raw_hz_n253, raw_hb_n253, raw_hn_n253, raw_hw_n253, raw_hm_n253, raw_hG_n253, raw_hK_n253⟩
            have hF_n253 := hF_n208.trans (hE_n253.sub (em_pm _))
            show JM g D ad w0 A251 223 [(3, vi 2), (2, vi xs), (1, vi p0), (0, vr 0 0)] [vi z254, vi xs, vr 39 p0.toNat]
            have hz_n253 : 0 ≤ z254 ∧ z254 ≤ 119 := raw_hz_n253
            clear raw_hz_n253
            have hb_n253 : A251 0 0 24 ≤ A251 0 0 23 ∧ A251 0 0 23 ≤ A251 0 0 22 := raw_hb_n253
            clear raw_hb_n253
            have hm_n253 : A206 0 0 24 ≤ A251 0 0 24 ∧ A206 0 0 30 ≤ A251 0 0 30 ∧ A251 0 0 27 = A206 0 0 27 := raw_hm_n253
            clear raw_hm_n253
            have pt_n253 : pT A251 := raw_hn_n253
            have k0_n253 : A251 0 0 0 = A206 0 0 0 := hE_n253 0 0 0 rfl
            have k22_n253 : A251 0 0 22 = A206 0 0 22 := hE_n253 0 0 22 rfl
            have k28_n253 : A251 0 0 28 = A206 0 0 28 := hE_n253 0 0 28 rfl
            have k29_n253 : A251 0 0 29 = A206 0 0 29 := hE_n253 0 0 29 rfl
            have hG_n253 : nG p0.toNat A251 := raw_hG_n253
            have hK_n253 : nK p0.toNat A206 A251 := raw_hK_n253
            have r34_n253 : A251 34 p0.toNat xs.toNat = 2 := Eq.trans (hE_n253 34 p0.toNat xs.toNat rfl) r34_n208
            have r35_n253 : A251 35 p0.toNat xs.toNat = (-1) := Eq.trans (hE_n253 35 p0.toNat xs.toNat rfl) r35_n208
            have r36_n253 : A251 36 p0.toNat xs.toNat = (-1) := Eq.trans (hE_n253 36 p0.toNat xs.toNat rfl) r36_n208
            have r39_n253 : A251 39 p0.toNat xs.toNat = (-1) := Eq.trans (hE_n253 39 p0.toNat xs.toNat rfl) r39_n208
            have r40_n253 : A251 40 p0.toNat xs.toNat = x18 := Eq.trans (hE_n253 40 p0.toNat xs.toNat rfl) r40_n208
            have g_n253 : A251 0 0 31 = 1 := wr_1 (hT_n253 0 0 31) (fun h9 => absurd ((g_n208 : A206 0 0 31 = 1).symm.trans (raw_hw_n253 h9).1) (by decide))
            refine m_iast C e_q_step_223 rfl (by omega) (by decide) (by omega) (by show xs < ((16 : Nat) : Int); omega) ?_
            have t255 : mTy (mu A251 39 p0.toNat xs.toNat z254) := hT_n253.mu (by show (-1) ≤ z254 ∧ z254 ≤ 119; omega)
            have q256 := hF_n253.mu (f := 39) (k := p0.toNat) (j := xs.toNat) (z := z254) (by simp [pm])
            refine m_blk 226 [(3, vi 2), (2, vi xs), (1, vi p0), (0, vr 0 0)] [vi 3, vi 2] C f_q_step_224_2 rfl ?_
            refine m_icmp_eq (tgt := 234) C e_q_step_226 (by decide) (by decide) (by decide) (fun c257 => (by omega : False).elim) (fun c257 => ?_)
            refine m_blk 231 [(3, vi 2), (2, vi xs), (1, vi p0), (0, vr 0 0)] [vi 4, vi 2] C f_q_step_229_2 rfl ?_
            refine m_icmp_ne (tgt := 238) C e_q_step_231 (by decide) (by decide) (by decide) (fun c258 => ?_) (fun c258 => (by omega : False).elim)
            refine m_blk 239 [(3, vi 2), (2, vi xs), (1, vi p0), (0, vr 0 0)] [vr 0 0] C f_q_step_238_1 rfl ?_
            refine m_getr C e_q_step_239 fg_Mo_33 rfl (by decide) rfl ?_
            refine m_blk 243 [(3, vi 2), (2, vi xs), (1, vi p0), (0, vr 0 0)] [vi p0, vr 18 0] C f_q_step_242_1 rfl ?_
            refine m_aald C p0.toNat e_q_step_243 rfl rfl rfl (by decide) (by decide) (by omega) (by show p0 < ((6 : Nat) : Int); omega) (mz _ _) ?_
            refine m_blk 246 [(3, vi 2), (2, vi xs), (1, vi p0), (0, vr 0 0)] [vr 0 0, vi xs, vr 38 p0.toNat] C f_q_step_244_2 rfl ?_
            obtain ⟨x259, hx259⟩ : ∃ x, A251 0 0 28 = x := ⟨_, rfl⟩
            have rx259 : 0 ≤ x259 ∧ x259 ≤ 16 := mrg hT_n253 hx259 rfl
            refine m_geti C e_q_step_246 fg_Mo_192 rfl (by decide) rfl x259 hx259 ?_
            refine m_iast C e_q_step_249 rfl (by omega) (by decide) (by omega) (by show xs < ((16 : Nat) : Int); omega) ?_
            have t260 : mTy (mu (mu A251 39 p0.toNat xs.toNat z254) 38 p0.toNat xs.toNat x259) := t255.mu (by show 0 ≤ x259 ∧ x259 ≤ 16; omega)
            have q261 := q256.mu (f := 38) (k := p0.toNat) (j := xs.toNat) (z := x259) (by simp [pm])
            refine m_blk 252 [(3, vi 2), (2, vi xs), (1, vi p0), (0, vr 0 0)] [vi 3, vi 2] C f_q_step_250_2 rfl ?_
            refine m_icmp_ne (tgt := 259) C e_q_step_252 (by decide) (by decide) (by decide) (fun c262 => ?_) (fun c262 => (by omega : False).elim)
            refine m_blk 260 [(3, vi 2), (2, vi xs), (1, vi p0), (0, vr 0 0)] [vr 0 0] C f_q_step_259_1 rfl ?_
            refine m_getr C e_q_step_260 fg_Mo_30 rfl (by decide) rfl ?_
            refine m_blk 264 [(3, vi 2), (2, vi xs), (1, vi p0), (0, vr 0 0)] [vi p0, vr 17 0] C f_q_step_263_1 rfl ?_
            refine m_aald C p0.toNat e_q_step_264 rfl rfl rfl (by decide) (by decide) (by omega) (by show p0 < ((6 : Nat) : Int); omega) (mz _ _) ?_
            refine m_blk 267 [(3, vi 2), (2, vi xs), (1, vi p0), (0, vr 0 0)] [vr 0 0, vi xs, vr 37 p0.toNat] C f_q_step_265_2 rfl ?_
            refine m_geti C e_q_step_267 fg_Mo_192 rfl (by decide) rfl x259 hx259 ?_
            refine m_iast C e_q_step_270 rfl (by omega) (by decide) (by omega) (by show xs < ((16 : Nat) : Int); omega) ?_
            have t263 : mTy (mu (mu (mu A251 39 p0.toNat xs.toNat z254) 38 p0.toNat xs.toNat x259) 37 p0.toNat xs.toNat x259) := t260.mu (by show 0 ≤ x259 ∧ x259 ≤ 16; omega)
            have q264 := q261.mu (f := 37) (k := p0.toNat) (j := xs.toNat) (z := x259) (by simp [pm])
            exact m_vret C Rm E e_q_step_271 ⟨rfl, t263, q264, (by show A251 0 0 24 ≤ A251 0 0 23 ∧ A251 0 0 23 ≤ A251 0 0 22; omega), pt_n253, (fun h9 => absurd ((g_n253 : A251 0 0 31 = 1).symm.trans h9) (by decide)), (by show A 0 0 24 ≤ A251 0 0 24 ∧ A 0 0 28 ≤ A251 0 0 28 ∧ A 0 0 29 ≤ A251 0 0 29 ∧ A 0 0 30 ≤ A251 0 0 30 ∧ A251 0 0 27 = A 0 0 27; omega), hG_n253, (pQ.mu (pQ.mu (pQ.mu (pQ.emk (A2 := A206) (pQ.fam (pQ.mu (pQ.mu (pQ.mu (pQ.mu (pQ.mu pQ.rfl' (by omega) (by omega) (by omega)) (by omega) (by omega) (by omega)) (by omega) (by omega) (by omega)) (by omega) (by omega) (by omega)) (by omega) (by omega) (by omega)) (fam_nm _ hE_n208)) hE_n253 hK_n253 (by show A 0 0 30 ≤ A206 0 0 30; omega)) (by omega) (by omega) (by omega)) (by omega) (by omega) (by omega)) (by omega) (by omega) (by omega))⟩
        · have bt9 : A 0 0 24 < A 0 0 23 := pT_lt hn g0 (by omega)
          refine m_blk 104 [(3, vi 3), (2, vi xs), (1, vi p0), (0, vr 0 0)] [vr 0 0] C f_q_step_103_1 rfl ?_
          refine m_callV C Rm Y [] [] (q_next l D B H0 ad _ hS t19 (by show A 0 0 23 ≤ A 0 0 22; omega)) cl_Mo_176 rfl (by decide) rfl rfl e_q_step_104 rfl rfl rfl ⟨by show _ ≤ (32 + 4 * d : Nat); omega, by show _ ≤ (630 + 300 * d : Nat); omega⟩ ?_
          rintro v265 A266 ⟨rfl, hT_n268, hE_n268, raw_hw_n268, raw_hb_n268⟩
          have hF_n268 := q20.trans (hE_n268.sub (nm_pm _))
          show JM g D ad w0 A266 107 [(3, vi 3), (2, vi xs), (1, vi p0), (0, vr 0 0)] []
          obtain ⟨b1_n268, b2_n268, b3_n268, pt_n268⟩ : A 0 0 23 ≤ A266 0 0 24 ∧ A266 0 0 24 ≤ A266 0 0 23 ∧ A266 0 0 23 ≤ A266 0 0 22 ∧ pT A266 := raw_hb_n268 g0
          clear raw_hb_n268 raw_hw_n268
          have k0_n268 : A266 0 0 0 = A 0 0 0 := hE_n268 0 0 0 rfl
          have k22_n268 : A266 0 0 22 = A 0 0 22 := hE_n268 0 0 22 rfl
          have k27_n268 : A266 0 0 27 = A 0 0 27 := hE_n268 0 0 27 rfl
          have k28_n268 : A266 0 0 28 = (xs + 1) := hE_n268 0 0 28 rfl
          have k29_n268 : A266 0 0 29 = A 0 0 29 := hE_n268 0 0 29 rfl
          have k30_n268 : A266 0 0 30 = A 0 0 30 := hE_n268 0 0 30 rfl
          have r34_n268 : A266 34 p0.toNat xs.toNat = 3 := Eq.trans (hE_n268 34 p0.toNat xs.toNat rfl) (mu_at (mu A 0 0 28 (xs + 1)) 34 p0.toNat xs.toNat 3)
          have r35_n268 : A266 35 p0.toNat xs.toNat = (-1) := Eq.trans (hE_n268 35 p0.toNat xs.toNat rfl) (mu_at (mu (mu A 0 0 28 (xs + 1)) 34 p0.toNat xs.toNat 3) 35 p0.toNat xs.toNat (-1))
          have r36_n268 : A266 36 p0.toNat xs.toNat = (-1) := Eq.trans (hE_n268 36 p0.toNat xs.toNat rfl) (mu_at (mu (mu (mu A 0 0 28 (xs + 1)) 34 p0.toNat xs.toNat 3) 35 p0.toNat xs.toNat (-1)) 36 p0.toNat xs.toNat (-1))
          have r39_n268 : A266 39 p0.toNat xs.toNat = (-1) := Eq.trans (hE_n268 39 p0.toNat xs.toNat rfl) (mu_at (mu (mu (mu (mu A 0 0 28 (xs + 1)) 34 p0.toNat xs.toNat 3) 35 p0.toNat xs.toNat (-1)) 36 p0.toNat xs.toNat (-1)) 39 p0.toNat xs.toNat (-1))
          have r40_n268 : A266 40 p0.toNat xs.toNat = x18 := Eq.trans (hE_n268 40 p0.toNat xs.toNat rfl) (mu_at (mu (mu (mu (mu (mu A 0 0 28 (xs + 1)) 34 p0.toNat xs.toNat 3) 35 p0.toNat xs.toNat (-1)) 36 p0.toNat xs.toNat (-1)) 39 p0.toNat xs.toNat (-1)) 40 p0.toNat xs.toNat x18)
          rcases (show A266 0 0 31 = 0 ∨ A266 0 0 31 = 1 from by have w9 := hT_n268 0 0 31; have w8 : 0 ≤ A266 0 0 31 ∧ A266 0 0 31 ≤ 1 := w9; omega) with g_n268 | g_n268
          · refine m_blk 108 [(3, vi 3), (2, vi xs), (1, vi p0), (0, vr 0 0)] [vi 3] C f_q_step_107_1 rfl ?_
            refine m_if_eq (tgt := 121) C e_q_step_108 (by decide) (by decide) (fun c269 => (by omega : False).elim) (fun c269 => ?_)
            refine m_blk 113 [(3, vi 3), (2, vi xs), (1, vi p0), (0, vr 0 0)] [vi 1, vi 3] C f_q_step_111_2 rfl ?_
            refine m_icmp_eq (tgt := 121) C e_q_step_113 (by decide) (by decide) (by decide) (fun c270 => (by omega : False).elim) (fun c270 => ?_)
            refine m_blk 118 [(3, vi 3), (2, vi xs), (1, vi p0), (0, vr 0 0)] [vi 5, vi 3] C f_q_step_116_2 rfl ?_
            refine m_icmp_ne (tgt := 136) C e_q_step_118 (by decide) (by decide) (by decide) (fun c271 => ?_) (fun c271 => (by omega : False).elim)
            refine m_blk 137 [(3, vi 3), (2, vi xs), (1, vi p0), (0, vr 0 0)] [vi 3] C f_q_step_136_1 rfl ?_
            refine m_if_ne (tgt := 146) C e_q_step_137 (by decide) (by decide) (fun c272 => ?_) (fun c272 => (by omega : False).elim)
            refine m_blk 148 [(3, vi 3), (2, vi xs), (1, vi p0), (0, vr 0 0)] [vi 4, vi 3] C f_q_step_146_2 rfl ?_
            refine m_icmp_ne (tgt := 167) C e_q_step_148 (by decide) (by decide) (by decide) (fun c273 => ?_) (fun c273 => (by omega : False).elim)
            refine m_blk 169 [(3, vi 3), (2, vi xs), (1, vi p0), (0, vr 0 0)] [vi 5, vi 3] C f_q_step_167_2 rfl ?_
            refine m_icmp_ne (tgt := 192) C e_q_step_169 (by decide) (by decide) (by decide) (fun c274 => ?_) (fun c274 => (by omega : False).elim)
            refine m_blk 194 [(3, vi 3), (2, vi xs), (1, vi p0), (0, vr 0 0)] [vi 1, vi 3] C f_q_step_192_2 rfl ?_
            refine m_icmp_eq (tgt := 212) C e_q_step_194 (by decide) (by decide) (by decide) (fun c275 => (by omega : False).elim) (fun c275 => ?_)
            refine m_blk 199 [(3, vi 3), (2, vi xs), (1, vi p0), (0, vr 0 0)] [vi 2, vi 3] C f_q_step_197_2 rfl ?_
            refine m_icmp_eq (tgt := 212) C e_q_step_199 (by decide) (by decide) (by decide) (fun c276 => (by omega : False).elim) (fun c276 => ?_)
            refine m_blk 204 [(3, vi 3), (2, vi xs), (1, vi p0), (0, vr 0 0)] [vi 3, vi 3] C f_q_step_202_2 rfl ?_
            refine m_icmp_eq (tgt := 212) C e_q_step_204 (by decide) (by decide) (by decide) (fun c277 => ?_) (fun c277 => (by omega : False).elim)
            refine m_blk 213 [(3, vi 3), (2, vi xs), (1, vi p0), (0, vr 0 0)] [vr 0 0] C f_q_step_212_1 rfl ?_
            refine m_getr C e_q_step_213 fg_Mo_36 rfl (by decide) rfl ?_
            refine m_blk 217 [(3, vi 3), (2, vi xs), (1, vi p0), (0, vr 0 0)] [vi p0, vr 19 0] C f_q_step_216_1 rfl ?_
            refine m_aald C p0.toNat e_q_step_217 rfl rfl rfl (by decide) (by decide) (by omega) (by show p0 < ((6 : Nat) : Int); omega) (mz _ _) ?_
            refine m_blk 220 [(3, vi 3), (2, vi xs), (1, vi p0), (0, vr 0 0)] [vr 0 0, vi xs, vr 39 p0.toNat] C f_q_step_218_2 rfl ?_
            refine m_callV C Rm Y [] [vi xs, vr 39 p0.toNat] ((q_E d).2 l D B H0 ad _ hS hT_n268 p0 (by show A266 0 0 0 = p0 ∧ 0 ≤ p0 ∧ p0 ≤ 5; omega) (by show A266 0 0 24 ≤ A266 0 0 23 ∧ A266 0 0 23 ≤ A266 0 0 22; omega) pt_n268 (fun _ => by show A266 0 0 30 + 3 * A266 0 0 29 ≤ A266 0 0 24; omega) (nG.nm (A := (mu (mu (mu (mu (mu (mu A 0 0 28 (xs + 1)) 34 p0.toNat xs.toNat 3) 35 p0.toNat xs.toNat (-1)) 36 p0.toNat xs.toNat (-1)) 39 p0.toNat xs.toNat (-1)) 40 p0.toNat xs.toNat x18)) hG hE_n268) (by show A266 0 0 27 = 4 - (d : Int) ∧ (d : Int) ≤ 4; omega)) cl_Mo_206 rfl (by decide) rfl rfl e_q_step_220 rfl rfl rfl ⟨by show _ ≤ (32 + 4 * d : Nat); omega, by show _ ≤ (630 + 300 * d : Nat); omega⟩ ?_
            rintro v278 A279 ⟨z282, rfl, hT_n281, hE_n281, raw_hz_n281, raw_hb_n281, raw_hn_n281, raw_hw_n281, raw_hm_n281, raw_hG_n281, raw_hK_n281⟩
            have hF_n281 := hF_n268.trans (hE_n281.sub (em_pm _))
            show JM g D ad w0 A279 223 [(3, vi 3), (2, vi xs), (1, vi p0), (0, vr 0 0)] [vi z282, vi xs, vr 39 p0.toNat]
            have hz_n281 : 0 ≤ z282 ∧ z282 ≤ 119 := raw_hz_n281
            clear raw_hz_n281
            have hb_n281 : A279 0 0 24 ≤ A279 0 0 23 ∧ A279 0 0 23 ≤ A279 0 0 22 := raw_hb_n281
            clear raw_hb_n281
            have hm_n281 : A266 0 0 24 ≤ A279 0 0 24 ∧ A266 0 0 30 ≤ A279 0 0 30 ∧ A279 0 0 27 = A266 0 0 27 := raw_hm_n281
            clear raw_hm_n281
            have pt_n281 : pT A279 := raw_hn_n281
            have k0_n281 : A279 0 0 0 = A266 0 0 0 := hE_n281 0 0 0 rfl
            have k22_n281 : A279 0 0 22 = A266 0 0 22 := hE_n281 0 0 22 rfl
            have k28_n281 : A279 0 0 28 = A266 0 0 28 := hE_n281 0 0 28 rfl
            have k29_n281 : A279 0 0 29 = A266 0 0 29 := hE_n281 0 0 29 rfl
            have hG_n281 : nG p0.toNat A279 := raw_hG_n281
            have hK_n281 : nK p0.toNat A266 A279 := raw_hK_n281
            have r34_n281 : A279 34 p0.toNat xs.toNat = 3 := Eq.trans (hE_n281 34 p0.toNat xs.toNat rfl) r34_n268
            have r35_n281 : A279 35 p0.toNat xs.toNat = (-1) := Eq.trans (hE_n281 35 p0.toNat xs.toNat rfl) r35_n268
            have r36_n281 : A279 36 p0.toNat xs.toNat = (-1) := Eq.trans (hE_n281 36 p0.toNat xs.toNat rfl) r36_n268
            have r39_n281 : A279 39 p0.toNat xs.toNat = (-1) := Eq.trans (hE_n281 39 p0.toNat xs.toNat rfl) r39_n268
            have r40_n281 : A279 40 p0.toNat xs.toNat = x18 := Eq.trans (hE_n281 40 p0.toNat xs.toNat rfl) r40_n268
            rcases (show A279 0 0 31 = 0 ∨ A279 0 0 31 = 1 from by have w9 := hT_n281 0 0 31; have w8 : 0 ≤ A279 0 0 31 ∧ A279 0 0 31 ≤ 1 := w9; omega) with g_n281 | g_n281
            · have u_n281 : z282 < A279 0 0 30 ∧ A266 0 0 24 - A266 0 0 30 ≤ A279 0 0 24 - A279 0 0 30 := (raw_hw_n281 g_n281).2
              refine m_iast C e_q_step_223 rfl (by omega) (by decide) (by omega) (by show xs < ((16 : Nat) : Int); omega) ?_
              have t283 : mTy (mu A279 39 p0.toNat xs.toNat z282) := hT_n281.mu (by show (-1) ≤ z282 ∧ z282 ≤ 119; omega)
              have q284 := hF_n281.mu (f := 39) (k := p0.toNat) (j := xs.toNat) (z := z282) (by simp [pm])
              refine m_blk 226 [(3, vi 3), (2, vi xs), (1, vi p0), (0, vr 0 0)] [vi 3, vi 3] C f_q_step_224_2 rfl ?_
              refine m_icmp_eq (tgt := 234) C e_q_step_226 (by decide) (by decide) (by decide) (fun c285 => ?_) (fun c285 => (by omega : False).elim)
              refine m_blk 235 [(3, vi 3), (2, vi xs), (1, vi p0), (0, vr 0 0)] [vr 0 0] C f_q_step_234_1 rfl ?_
              refine m_callV C Rm Y [] [] (hq9 l D B H0 ad _ hS t283 p0 (by show A279 0 0 0 = p0 ∧ 0 ≤ p0 ∧ p0 ≤ 5; omega) (by show A279 0 0 24 ≤ A279 0 0 23 ∧ A279 0 0 23 ≤ A279 0 0 22; omega) pt_n281 (fun _ => by show A279 0 0 30 + 3 * A279 0 0 29 ≤ A279 0 0 24; omega) hG_n281 (by show A279 0 0 27 = 4 - (d : Int) ∧ (d : Int) ≤ 4; omega)) cl_Mo_209 rfl (by decide) rfl rfl e_q_step_235 rfl rfl rfl ⟨by show _ ≤ (32 + 4 * d : Nat); omega, by show _ ≤ (630 + 300 * d : Nat); omega⟩ ?_
              rintro v286 A287 ⟨rfl, hT_n289, hE_n289, raw_hb_n289, raw_hn_n289, raw_hw_n289, raw_hm_n289, raw_hG_n289, raw_hQ_n289⟩
              have hF_n289 := q284.trans (hE_n289.sub (fun _ _ _ h => h))
              show JM g D ad w0 A287 238 [(3, vi 3), (2, vi xs), (1, vi p0), (0, vr 0 0)] []
              have hb_n289 : A287 0 0 24 ≤ A287 0 0 23 ∧ A287 0 0 23 ≤ A287 0 0 22 := raw_hb_n289
              clear raw_hb_n289
              have hm_n289 : A279 0 0 24 ≤ A287 0 0 24 ∧ A279 0 0 28 ≤ A287 0 0 28 ∧ A279 0 0 29 ≤ A287 0 0 29 ∧ A279 0 0 30 ≤ A287 0 0 30 ∧ A287 0 0 27 = A279 0 0 27 := raw_hm_n289
              clear raw_hm_n289
              have pt_n289 : pT A287 := raw_hn_n289
              have k0_n289 : A287 0 0 0 = A279 0 0 0 := hE_n289 0 0 0 rfl
              have k22_n289 : A287 0 0 22 = A279 0 0 22 := hE_n289 0 0 22 rfl
              have hG_n289 : nG p0.toNat A287 := raw_hG_n289
              have hV_n289 : pV p0.toNat (4 - (d : Int) + 1) (mu A279 39 p0.toNat xs.toNat z282) A287 := raw_hw_n289
              clear raw_hw_n289
              have hQ_n289 : pQ p0.toNat (A279 0 0 28) (A279 0 0 29) (A279 0 0 30) (mu A279 39 p0.toNat xs.toNat z282) A287 := raw_hQ_n289
              clear raw_hQ_n289
              have r34_n289 : A287 34 p0.toNat xs.toNat = 3 := Eq.trans (hQ_n289.1 34 (by decide) (by decide) xs.toNat (by show ((xs.toNat : Nat) : Int) < A279 0 0 28; omega)) r34_n281
              have r35_n289 : A287 35 p0.toNat xs.toNat = (-1) := Eq.trans (hQ_n289.1 35 (by decide) (by decide) xs.toNat (by show ((xs.toNat : Nat) : Int) < A279 0 0 28; omega)) r35_n281
              have r36_n289 : A287 36 p0.toNat xs.toNat = (-1) := Eq.trans (hQ_n289.1 36 (by decide) (by decide) xs.toNat (by show ((xs.toNat : Nat) : Int) < A279 0 0 28; omega)) r36_n281
              have r39_n289 : A287 39 p0.toNat xs.toNat = z282 := Eq.trans (hQ_n289.1 39 (by decide) (by decide) xs.toNat (by show ((xs.toNat : Nat) : Int) < A279 0 0 28; omega)) (mu_at A279 39 p0.toNat xs.toNat z282)
              have r40_n289 : A287 40 p0.toNat xs.toNat = x18 := Eq.trans (hQ_n289.1 40 (by decide) (by decide) xs.toNat (by show ((xs.toNat : Nat) : Int) < A279 0 0 28; omega)) r40_n281
              rcases (show A287 0 0 31 = 0 ∨ A287 0 0 31 = 1 from by have w9 := hT_n289 0 0 31; have w8 : 0 ≤ A287 0 0 31 ∧ A287 0 0 31 ≤ 1 := w9; omega) with g_n289 | g_n289
              · have u_n289 : A279 0 0 24 - A279 0 0 30 - 3 * A279 0 0 29 ≤ A287 0 0 24 - A287 0 0 30 - 3 * A287 0 0 29 ∧ A279 0 0 28 + 1 ≤ A287 0 0 28 := ⟨(hV_n289 g_n289).2.1, (hV_n289 g_n289).2.2.1⟩
                refine m_blk 239 [(3, vi 3), (2, vi xs), (1, vi p0), (0, vr 0 0)] [vr 0 0] C f_q_step_238_1 rfl ?_
                refine m_getr C e_q_step_239 fg_Mo_33 rfl (by decide) rfl ?_
                refine m_blk 243 [(3, vi 3), (2, vi xs), (1, vi p0), (0, vr 0 0)] [vi p0, vr 18 0] C f_q_step_242_1 rfl ?_
                refine m_aald C p0.toNat e_q_step_243 rfl rfl rfl (by decide) (by decide) (by omega) (by show p0 < ((6 : Nat) : Int); omega) (mz _ _) ?_
                refine m_blk 246 [(3, vi 3), (2, vi xs), (1, vi p0), (0, vr 0 0)] [vr 0 0, vi xs, vr 38 p0.toNat] C f_q_step_244_2 rfl ?_
                obtain ⟨x290, hx290⟩ : ∃ x, A287 0 0 28 = x := ⟨_, rfl⟩
                have rx290 : 0 ≤ x290 ∧ x290 ≤ 16 := mrg hT_n289 hx290 rfl
                refine m_geti C e_q_step_246 fg_Mo_192 rfl (by decide) rfl x290 hx290 ?_
                refine m_iast C e_q_step_249 rfl (by omega) (by decide) (by omega) (by show xs < ((16 : Nat) : Int); omega) ?_
                have t291 : mTy (mu A287 38 p0.toNat xs.toNat x290) := hT_n289.mu (by show 0 ≤ x290 ∧ x290 ≤ 16; omega)
                have q292 := hF_n289.mu (f := 38) (k := p0.toNat) (j := xs.toNat) (z := x290) (by simp [pm])
                refine m_blk 252 [(3, vi 3), (2, vi xs), (1, vi p0), (0, vr 0 0)] [vi 3, vi 3] C f_q_step_250_2 rfl ?_
                refine m_icmp_ne (tgt := 259) C e_q_step_252 (by decide) (by decide) (by decide) (fun c293 => (by omega : False).elim) (fun c293 => ?_)
                refine m_blk 256 [(3, vi 3), (2, vi xs), (1, vi p0), (0, vr 0 0)] [vr 0 0] C f_q_step_255_1 rfl ?_
                refine m_callV C Rm Y [] [] (hq9 l D B H0 ad _ hS t291 p0 (by show A287 0 0 0 = p0 ∧ 0 ≤ p0 ∧ p0 ≤ 5; omega) (by show A287 0 0 24 ≤ A287 0 0 23 ∧ A287 0 0 23 ≤ A287 0 0 22; omega) pt_n289 (fun _ => by show A287 0 0 30 + 3 * A287 0 0 29 ≤ A287 0 0 24; omega) hG_n289 (by show A287 0 0 27 = 4 - (d : Int) ∧ (d : Int) ≤ 4; omega)) cl_Mo_209 rfl (by decide) rfl rfl e_q_step_256 rfl rfl rfl ⟨by show _ ≤ (32 + 4 * d : Nat); omega, by show _ ≤ (630 + 300 * d : Nat); omega⟩ ?_
                rintro v294 A295 ⟨rfl, hT_n297, hE_n297, raw_hb_n297, raw_hn_n297, raw_hw_n297, raw_hm_n297, raw_hG_n297, raw_hQ_n297⟩
                have hF_n297 := q292.trans (hE_n297.sub (fun _ _ _ h => h))
                show JM g D ad w0 A295 259 [(3, vi 3), (2, vi xs), (1, vi p0), (0, vr 0 0)] []
                have hb_n297 : A295 0 0 24 ≤ A295 0 0 23 ∧ A295 0 0 23 ≤ A295 0 0 22 := raw_hb_n297
                clear raw_hb_n297
                have hm_n297 : A287 0 0 24 ≤ A295 0 0 24 ∧ A287 0 0 28 ≤ A295 0 0 28 ∧ A287 0 0 29 ≤ A295 0 0 29 ∧ A287 0 0 30 ≤ A295 0 0 30 ∧ A295 0 0 27 = A287 0 0 27 := raw_hm_n297
                clear raw_hm_n297
                have pt_n297 : pT A295 := raw_hn_n297
                have k0_n297 : A295 0 0 0 = A287 0 0 0 := hE_n297 0 0 0 rfl
                have k22_n297 : A295 0 0 22 = A287 0 0 22 := hE_n297 0 0 22 rfl
                have hG_n297 : nG p0.toNat A295 := raw_hG_n297
                have hV_n297 : pV p0.toNat (4 - (d : Int) + 1) (mu A287 38 p0.toNat xs.toNat x290) A295 := raw_hw_n297
                clear raw_hw_n297
                have hQ_n297 : pQ p0.toNat (A287 0 0 28) (A287 0 0 29) (A287 0 0 30) (mu A287 38 p0.toNat xs.toNat x290) A295 := raw_hQ_n297
                clear raw_hQ_n297
                have r34_n297 : A295 34 p0.toNat xs.toNat = 3 := Eq.trans (hQ_n297.1 34 (by decide) (by decide) xs.toNat (by show ((xs.toNat : Nat) : Int) < A287 0 0 28; omega)) r34_n289
                have r35_n297 : A295 35 p0.toNat xs.toNat = (-1) := Eq.trans (hQ_n297.1 35 (by decide) (by decide) xs.toNat (by show ((xs.toNat : Nat) : Int) < A287 0 0 28; omega)) r35_n289
                have r36_n297 : A295 36 p0.toNat xs.toNat = (-1) := Eq.trans (hQ_n297.1 36 (by decide) (by decide) xs.toNat (by show ((xs.toNat : Nat) : Int) < A287 0 0 28; omega)) r36_n289
                have r38_n297 : A295 38 p0.toNat xs.toNat = x290 := Eq.trans (hQ_n297.1 38 (by decide) (by decide) xs.toNat (by show ((xs.toNat : Nat) : Int) < A287 0 0 28; omega)) (mu_at A287 38 p0.toNat xs.toNat x290)
                have r39_n297 : A295 39 p0.toNat xs.toNat = z282 := Eq.trans (hQ_n297.1 39 (by decide) (by decide) xs.toNat (by show ((xs.toNat : Nat) : Int) < A287 0 0 28; omega)) r39_n289
                have r40_n297 : A295 40 p0.toNat xs.toNat = x18 := Eq.trans (hQ_n297.1 40 (by decide) (by decide) xs.toNat (by show ((xs.toNat : Nat) : Int) < A287 0 0 28; omega)) r40_n289
                rcases (show A295 0 0 31 = 0 ∨ A295 0 0 31 = 1 from by have w9 := hT_n297 0 0 31; have w8 : 0 ≤ A295 0 0 31 ∧ A295 0 0 31 ≤ 1 := w9; omega) with g_n297 | g_n297
                · have u_n297 : A287 0 0 24 - A287 0 0 30 - 3 * A287 0 0 29 ≤ A295 0 0 24 - A295 0 0 30 - 3 * A295 0 0 29 ∧ A287 0 0 28 + 1 ≤ A295 0 0 28 := ⟨(hV_n297 g_n297).2.1, (hV_n297 g_n297).2.2.1⟩
                  refine m_blk 260 [(3, vi 3), (2, vi xs), (1, vi p0), (0, vr 0 0)] [vr 0 0] C f_q_step_259_1 rfl ?_
                  refine m_getr C e_q_step_260 fg_Mo_30 rfl (by decide) rfl ?_
                  refine m_blk 264 [(3, vi 3), (2, vi xs), (1, vi p0), (0, vr 0 0)] [vi p0, vr 17 0] C f_q_step_263_1 rfl ?_
                  refine m_aald C p0.toNat e_q_step_264 rfl rfl rfl (by decide) (by decide) (by omega) (by show p0 < ((6 : Nat) : Int); omega) (mz _ _) ?_
                  refine m_blk 267 [(3, vi 3), (2, vi xs), (1, vi p0), (0, vr 0 0)] [vr 0 0, vi xs, vr 37 p0.toNat] C f_q_step_265_2 rfl ?_
                  obtain ⟨x298, hx298⟩ : ∃ x, A295 0 0 28 = x := ⟨_, rfl⟩
                  have rx298 : 0 ≤ x298 ∧ x298 ≤ 16 := mrg hT_n297 hx298 rfl
                  refine m_geti C e_q_step_267 fg_Mo_192 rfl (by decide) rfl x298 hx298 ?_
                  refine m_iast C e_q_step_270 rfl (by omega) (by decide) (by omega) (by show xs < ((16 : Nat) : Int); omega) ?_
                  have t299 : mTy (mu A295 37 p0.toNat xs.toNat x298) := hT_n297.mu (by show 0 ≤ x298 ∧ x298 ≤ 16; omega)
                  have q300 := hF_n297.mu (f := 37) (k := p0.toNat) (j := xs.toNat) (z := x298) (by simp [pm])
                  exact m_vret C Rm E e_q_step_271 ⟨rfl, t299, q300, (by show A295 0 0 24 ≤ A295 0 0 23 ∧ A295 0 0 23 ≤ A295 0 0 22; omega), pt_n297, (pV.mk (a := xs.toNat) g0 (by show A 0 0 24 - A 0 0 30 - 3 * A 0 0 29 ≤ A295 0 0 24 - A295 0 0 30 - 3 * A295 0 0 29; omega) (by omega) (by show A 0 0 28 + 1 ≤ A295 0 0 28; omega) (pV.cond' hV_n289 hx290 hV_n297 (hx290 ▸ hQ_n297) hx298 (by omega) (by omega) g_n297 (by show A279 0 0 28 = _; omega) r34_n297 (by omega) (by omega))), (by show A 0 0 24 ≤ A295 0 0 24 ∧ A 0 0 28 ≤ A295 0 0 28 ∧ A 0 0 29 ≤ A295 0 0 29 ∧ A 0 0 30 ≤ A295 0 0 30 ∧ A295 0 0 27 = A 0 0 27; omega), hG_n297, (pQ.mu (pQ.trans (pQ.mu (pQ.trans (pQ.mu (pQ.emk (A2 := A266) (pQ.fam (pQ.mu (pQ.mu (pQ.mu (pQ.mu (pQ.mu pQ.rfl' (by omega) (by omega) (by omega)) (by omega) (by omega) (by omega)) (by omega) (by omega) (by omega)) (by omega) (by omega) (by omega)) (by omega) (by omega) (by omega)) (fam_nm _ hE_n268)) hE_n281 hK_n281 (by show A 0 0 30 ≤ A266 0 0 30; omega)) (by omega) (by omega) (by omega)) (pQ.le hQ_n289 (by show A 0 0 28 ≤ A279 0 0 28; omega) (by show A 0 0 29 ≤ A279 0 0 29; omega) (by show A 0 0 30 ≤ A279 0 0 30; omega))) (by omega) (by omega) (by omega)) (pQ.le hQ_n297 (by show A 0 0 28 ≤ A287 0 0 28; omega) (by show A 0 0 29 ≤ A287 0 0 29; omega) (by show A 0 0 30 ≤ A287 0 0 30; omega))) (by omega) (by omega) (by omega))⟩
                · refine m_blk 260 [(3, vi 3), (2, vi xs), (1, vi p0), (0, vr 0 0)] [vr 0 0] C f_q_step_259_1 rfl ?_
                  refine m_getr C e_q_step_260 fg_Mo_30 rfl (by decide) rfl ?_
                  refine m_blk 264 [(3, vi 3), (2, vi xs), (1, vi p0), (0, vr 0 0)] [vi p0, vr 17 0] C f_q_step_263_1 rfl ?_
                  refine m_aald C p0.toNat e_q_step_264 rfl rfl rfl (by decide) (by decide) (by omega) (by show p0 < ((6 : Nat) : Int); omega) (mz _ _) ?_
                  refine m_blk 267 [(3, vi 3), (2, vi xs), (1, vi p0), (0, vr 0 0)] [vr 0 0, vi xs, vr 37 p0.toNat] C f_q_step_265_2 rfl ?_
                  obtain ⟨x301, hx301⟩ : ∃ x, A295 0 0 28 = x := ⟨_, rfl⟩
                  have rx301 : 0 ≤ x301 ∧ x301 ≤ 16 := mrg hT_n297 hx301 rfl
                  refine m_geti C e_q_step_267 fg_Mo_192 rfl (by decide) rfl x301 hx301 ?_
                  refine m_iast C e_q_step_270 rfl (by omega) (by decide) (by omega) (by show xs < ((16 : Nat) : Int); omega) ?_
                  have t302 : mTy (mu A295 37 p0.toNat xs.toNat x301) := hT_n297.mu (by show 0 ≤ x301 ∧ x301 ≤ 16; omega)
                  have q303 := hF_n297.mu (f := 37) (k := p0.toNat) (j := xs.toNat) (z := x301) (by simp [pm])
                  exact m_vret C Rm E e_q_step_271 ⟨rfl, t302, q303, (by show A295 0 0 24 ≤ A295 0 0 23 ∧ A295 0 0 23 ≤ A295 0 0 22; omega), pt_n297, (fun h9 => absurd ((g_n297 : A295 0 0 31 = 1).symm.trans h9) (by decide)), (by show A 0 0 24 ≤ A295 0 0 24 ∧ A 0 0 28 ≤ A295 0 0 28 ∧ A 0 0 29 ≤ A295 0 0 29 ∧ A 0 0 30 ≤ A295 0 0 30 ∧ A295 0 0 27 = A 0 0 27; omega), hG_n297, (pQ.mu (pQ.trans (pQ.mu (pQ.trans (pQ.mu (pQ.emk (A2 := A266) (pQ.fam (pQ.mu (pQ.mu (pQ.mu (pQ.mu (pQ.mu pQ.rfl' (by omega) (by omega) (by omega)) (by omega) (by omega) (by omega)) (by omega) (by omega) (by omega)) (by omega) (by omega) (by omega)) (by omega) (by omega) (by omega)) (fam_nm _ hE_n268)) hE_n281 hK_n281 (by show A 0 0 30 ≤ A266 0 0 30; omega)) (by omega) (by omega) (by omega)) (pQ.le hQ_n289 (by show A 0 0 28 ≤ A279 0 0 28; omega) (by show A 0 0 29 ≤ A279 0 0 29; omega) (by show A 0 0 30 ≤ A279 0 0 30; omega))) (by omega) (by omega) (by omega)) (pQ.le hQ_n297 (by show A 0 0 28 ≤ A287 0 0 28; omega) (by show A 0 0 29 ≤ A287 0 0 29; omega) (by show A 0 0 30 ≤ A287 0 0 30; omega))) (by omega) (by omega) (by omega))⟩
              · refine m_blk 239 [(3, vi 3), (2, vi xs), (1, vi p0), (0, vr 0 0)] [vr 0 0] C f_q_step_238_1 rfl ?_
                refine m_getr C e_q_step_239 fg_Mo_33 rfl (by decide) rfl ?_
                refine m_blk 243 [(3, vi 3), (2, vi xs), (1, vi p0), (0, vr 0 0)] [vi p0, vr 18 0] C f_q_step_242_1 rfl ?_
                refine m_aald C p0.toNat e_q_step_243 rfl rfl rfl (by decide) (by decide) (by omega) (by show p0 < ((6 : Nat) : Int); omega) (mz _ _) ?_
                refine m_blk 246 [(3, vi 3), (2, vi xs), (1, vi p0), (0, vr 0 0)] [vr 0 0, vi xs, vr 38 p0.toNat] C f_q_step_244_2 rfl ?_
                obtain ⟨x304, hx304⟩ : ∃ x, A287 0 0 28 = x := ⟨_, rfl⟩
                have rx304 : 0 ≤ x304 ∧ x304 ≤ 16 := mrg hT_n289 hx304 rfl
                refine m_geti C e_q_step_246 fg_Mo_192 rfl (by decide) rfl x304 hx304 ?_
                refine m_iast C e_q_step_249 rfl (by omega) (by decide) (by omega) (by show xs < ((16 : Nat) : Int); omega) ?_
                have t305 : mTy (mu A287 38 p0.toNat xs.toNat x304) := hT_n289.mu (by show 0 ≤ x304 ∧ x304 ≤ 16; omega)
                have q306 := hF_n289.mu (f := 38) (k := p0.toNat) (j := xs.toNat) (z := x304) (by simp [pm])
                refine m_blk 252 [(3, vi 3), (2, vi xs), (1, vi p0), (0, vr 0 0)] [vi 3, vi 3] C f_q_step_250_2 rfl ?_
                refine m_icmp_ne (tgt := 259) C e_q_step_252 (by decide) (by decide) (by decide) (fun c307 => (by omega : False).elim) (fun c307 => ?_)
                refine m_blk 256 [(3, vi 3), (2, vi xs), (1, vi p0), (0, vr 0 0)] [vr 0 0] C f_q_step_255_1 rfl ?_
                refine m_callV C Rm Y [] [] (hq9 l D B H0 ad _ hS t305 p0 (by show A287 0 0 0 = p0 ∧ 0 ≤ p0 ∧ p0 ≤ 5; omega) (by show A287 0 0 24 ≤ A287 0 0 23 ∧ A287 0 0 23 ≤ A287 0 0 22; omega) pt_n289 (fun h9 => absurd ((g_n289 : A287 0 0 31 = 1).symm.trans h9) (by decide)) hG_n289 (by show A287 0 0 27 = 4 - (d : Int) ∧ (d : Int) ≤ 4; omega)) cl_Mo_209 rfl (by decide) rfl rfl e_q_step_256 rfl rfl rfl ⟨by show _ ≤ (32 + 4 * d : Nat); omega, by show _ ≤ (630 + 300 * d : Nat); omega⟩ ?_
                rintro v308 A309 ⟨rfl, hT_n311, hE_n311, raw_hb_n311, raw_hn_n311, raw_hw_n311, raw_hm_n311, raw_hG_n311, raw_hQ_n311⟩
                have hF_n311 := q306.trans (hE_n311.sub (fun _ _ _ h => h))
                show JM g D ad w0 A309 259 [(3, vi 3), (2, vi xs), (1, vi p0), (0, vr 0 0)] []
                have hb_n311 : A309 0 0 24 ≤ A309 0 0 23 ∧ A309 0 0 23 ≤ A309 0 0 22 := raw_hb_n311
                clear raw_hb_n311
                have hm_n311 : A287 0 0 24 ≤ A309 0 0 24 ∧ A287 0 0 28 ≤ A309 0 0 28 ∧ A287 0 0 29 ≤ A309 0 0 29 ∧ A287 0 0 30 ≤ A309 0 0 30 ∧ A309 0 0 27 = A287 0 0 27 := raw_hm_n311
                clear raw_hm_n311
                have pt_n311 : pT A309 := raw_hn_n311
                have k0_n311 : A309 0 0 0 = A287 0 0 0 := hE_n311 0 0 0 rfl
                have k22_n311 : A309 0 0 22 = A287 0 0 22 := hE_n311 0 0 22 rfl
                have hG_n311 : nG p0.toNat A309 := raw_hG_n311
                have hV_n311 : pV p0.toNat (4 - (d : Int) + 1) (mu A287 38 p0.toNat xs.toNat x304) A309 := raw_hw_n311
                clear raw_hw_n311
                have hQ_n311 : pQ p0.toNat (A287 0 0 28) (A287 0 0 29) (A287 0 0 30) (mu A287 38 p0.toNat xs.toNat x304) A309 := raw_hQ_n311
                clear raw_hQ_n311
                have r34_n311 : A309 34 p0.toNat xs.toNat = 3 := Eq.trans (hQ_n311.1 34 (by decide) (by decide) xs.toNat (by show ((xs.toNat : Nat) : Int) < A287 0 0 28; omega)) r34_n289
                have r35_n311 : A309 35 p0.toNat xs.toNat = (-1) := Eq.trans (hQ_n311.1 35 (by decide) (by decide) xs.toNat (by show ((xs.toNat : Nat) : Int) < A287 0 0 28; omega)) r35_n289
                have r36_n311 : A309 36 p0.toNat xs.toNat = (-1) := Eq.trans (hQ_n311.1 36 (by decide) (by decide) xs.toNat (by show ((xs.toNat : Nat) : Int) < A287 0 0 28; omega)) r36_n289
                have r38_n311 : A309 38 p0.toNat xs.toNat = x304 := Eq.trans (hQ_n311.1 38 (by decide) (by decide) xs.toNat (by show ((xs.toNat : Nat) : Int) < A287 0 0 28; omega)) (mu_at A287 38 p0.toNat xs.toNat x304)
                have r39_n311 : A309 39 p0.toNat xs.toNat = z282 := Eq.trans (hQ_n311.1 39 (by decide) (by decide) xs.toNat (by show ((xs.toNat : Nat) : Int) < A287 0 0 28; omega)) r39_n289
                have r40_n311 : A309 40 p0.toNat xs.toNat = x18 := Eq.trans (hQ_n311.1 40 (by decide) (by decide) xs.toNat (by show ((xs.toNat : Nat) : Int) < A287 0 0 28; omega)) r40_n289
                have g_n311 : A309 0 0 31 = 1 := wr_1 (hT_n311 0 0 31) (fun h9 => absurd ((g_n289 : A287 0 0 31 = 1).symm.trans (hV_n311 h9).1) (by decide))
                refine m_blk 260 [(3, vi 3), (2, vi xs), (1, vi p0), (0, vr 0 0)] [vr 0 0] C f_q_step_259_1 rfl ?_
                refine m_getr C e_q_step_260 fg_Mo_30 rfl (by decide) rfl ?_
                refine m_blk 264 [(3, vi 3), (2, vi xs), (1, vi p0), (0, vr 0 0)] [vi p0, vr 17 0] C f_q_step_263_1 rfl ?_
                refine m_aald C p0.toNat e_q_step_264 rfl rfl rfl (by decide) (by decide) (by omega) (by show p0 < ((6 : Nat) : Int); omega) (mz _ _) ?_
                refine m_blk 267 [(3, vi 3), (2, vi xs), (1, vi p0), (0, vr 0 0)] [vr 0 0, vi xs, vr 37 p0.toNat] C f_q_step_265_2 rfl ?_
                obtain ⟨x312, hx312⟩ : ∃ x, A309 0 0 28 = x := ⟨_, rfl⟩
                have rx312 : 0 ≤ x312 ∧ x312 ≤ 16 := mrg hT_n311 hx312 rfl
                refine m_geti C e_q_step_267 fg_Mo_192 rfl (by decide) rfl x312 hx312 ?_
                refine m_iast C e_q_step_270 rfl (by omega) (by decide) (by omega) (by show xs < ((16 : Nat) : Int); omega) ?_
                have t313 : mTy (mu A309 37 p0.toNat xs.toNat x312) := hT_n311.mu (by show 0 ≤ x312 ∧ x312 ≤ 16; omega)
                have q314 := hF_n311.mu (f := 37) (k := p0.toNat) (j := xs.toNat) (z := x312) (by simp [pm])
                exact m_vret C Rm E e_q_step_271 ⟨rfl, t313, q314, (by show A309 0 0 24 ≤ A309 0 0 23 ∧ A309 0 0 23 ≤ A309 0 0 22; omega), pt_n311, (fun h9 => absurd ((g_n311 : A309 0 0 31 = 1).symm.trans h9) (by decide)), (by show A 0 0 24 ≤ A309 0 0 24 ∧ A 0 0 28 ≤ A309 0 0 28 ∧ A 0 0 29 ≤ A309 0 0 29 ∧ A 0 0 30 ≤ A309 0 0 30 ∧ A309 0 0 27 = A 0 0 27; omega), hG_n311, (pQ.mu (pQ.trans (pQ.mu (pQ.trans (pQ.mu (pQ.emk (A2 := A266) (pQ.fam (pQ.mu (pQ.mu (pQ.mu (pQ.mu (pQ.mu pQ.rfl' (by omega) (by omega) (by omega)) (by omega) (by omega) (by omega)) (by omega) (by omega) (by omega)) (by omega) (by omega) (by omega)) (by omega) (by omega) (by omega)) (fam_nm _ hE_n268)) hE_n281 hK_n281 (by show A 0 0 30 ≤ A266 0 0 30; omega)) (by omega) (by omega) (by omega)) (pQ.le hQ_n289 (by show A 0 0 28 ≤ A279 0 0 28; omega) (by show A 0 0 29 ≤ A279 0 0 29; omega) (by show A 0 0 30 ≤ A279 0 0 30; omega))) (by omega) (by omega) (by omega)) (pQ.le hQ_n311 (by show A 0 0 28 ≤ A287 0 0 28; omega) (by show A 0 0 29 ≤ A287 0 0 29; omega) (by show A 0 0 30 ≤ A287 0 0 30; omega))) (by omega) (by omega) (by omega))⟩
            · refine m_iast C e_q_step_223 rfl (by omega) (by decide) (by omega) (by show xs < ((16 : Nat) : Int); omega) ?_
              have t315 : mTy (mu A279 39 p0.toNat xs.toNat z282) := hT_n281.mu (by show (-1) ≤ z282 ∧ z282 ≤ 119; omega)
              have q316 := hF_n281.mu (f := 39) (k := p0.toNat) (j := xs.toNat) (z := z282) (by simp [pm])
              refine m_blk 226 [(3, vi 3), (2, vi xs), (1, vi p0), (0, vr 0 0)] [vi 3, vi 3] C f_q_step_224_2 rfl ?_
              refine m_icmp_eq (tgt := 234) C e_q_step_226 (by decide) (by decide) (by decide) (fun c317 => ?_) (fun c317 => (by omega : False).elim)
              refine m_blk 235 [(3, vi 3), (2, vi xs), (1, vi p0), (0, vr 0 0)] [vr 0 0] C f_q_step_234_1 rfl ?_
              refine m_callV C Rm Y [] [] (hq9 l D B H0 ad _ hS t315 p0 (by show A279 0 0 0 = p0 ∧ 0 ≤ p0 ∧ p0 ≤ 5; omega) (by show A279 0 0 24 ≤ A279 0 0 23 ∧ A279 0 0 23 ≤ A279 0 0 22; omega) pt_n281 (fun h9 => absurd ((g_n281 : A279 0 0 31 = 1).symm.trans h9) (by decide)) hG_n281 (by show A279 0 0 27 = 4 - (d : Int) ∧ (d : Int) ≤ 4; omega)) cl_Mo_209 rfl (by decide) rfl rfl e_q_step_235 rfl rfl rfl ⟨by show _ ≤ (32 + 4 * d : Nat); omega, by show _ ≤ (630 + 300 * d : Nat); omega⟩ ?_
              rintro v318 A319 ⟨rfl, hT_n321, hE_n321, raw_hb_n321, raw_hn_n321, raw_hw_n321, raw_hm_n321, raw_hG_n321, raw_hQ_n321⟩
              have hF_n321 := q316.trans (hE_n321.sub (fun _ _ _ h => h))
              show JM g D ad w0 A319 238 [(3, vi 3), (2, vi xs), (1, vi p0), (0, vr 0 0)] []
              have hb_n321 : A319 0 0 24 ≤ A319 0 0 23 ∧ A319 0 0 23 ≤ A319 0 0 22 := raw_hb_n321
              clear raw_hb_n321
              have hm_n321 : A279 0 0 24 ≤ A319 0 0 24 ∧ A279 0 0 28 ≤ A319 0 0 28 ∧ A279 0 0 29 ≤ A319 0 0 29 ∧ A279 0 0 30 ≤ A319 0 0 30 ∧ A319 0 0 27 = A279 0 0 27 := raw_hm_n321
              clear raw_hm_n321
              have pt_n321 : pT A319 := raw_hn_n321
              have k0_n321 : A319 0 0 0 = A279 0 0 0 := hE_n321 0 0 0 rfl
              have k22_n321 : A319 0 0 22 = A279 0 0 22 := hE_n321 0 0 22 rfl
              have hG_n321 : nG p0.toNat A319 := raw_hG_n321
              have hV_n321 : pV p0.toNat (4 - (d : Int) + 1) (mu A279 39 p0.toNat xs.toNat z282) A319 := raw_hw_n321
              clear raw_hw_n321
              have hQ_n321 : pQ p0.toNat (A279 0 0 28) (A279 0 0 29) (A279 0 0 30) (mu A279 39 p0.toNat xs.toNat z282) A319 := raw_hQ_n321
              clear raw_hQ_n321
              have r34_n321 : A319 34 p0.toNat xs.toNat = 3 := Eq.trans (hQ_n321.1 34 (by decide) (by decide) xs.toNat (by show ((xs.toNat : Nat) : Int) < A279 0 0 28; omega)) r34_n281
              have r35_n321 : A319 35 p0.toNat xs.toNat = (-1) := Eq.trans (hQ_n321.1 35 (by decide) (by decide) xs.toNat (by show ((xs.toNat : Nat) : Int) < A279 0 0 28; omega)) r35_n281
              have r36_n321 : A319 36 p0.toNat xs.toNat = (-1) := Eq.trans (hQ_n321.1 36 (by decide) (by decide) xs.toNat (by show ((xs.toNat : Nat) : Int) < A279 0 0 28; omega)) r36_n281
              have r39_n321 : A319 39 p0.toNat xs.toNat = z282 := Eq.trans (hQ_n321.1 39 (by decide) (by decide) xs.toNat (by show ((xs.toNat : Nat) : Int) < A279 0 0 28; omega)) (mu_at A279 39 p0.toNat xs.toNat z282)
              have r40_n321 : A319 40 p0.toNat xs.toNat = x18 := Eq.trans (hQ_n321.1 40 (by decide) (by decide) xs.toNat (by show ((xs.toNat : Nat) : Int) < A279 0 0 28; omega)) r40_n281
              have g_n321 : A319 0 0 31 = 1 := wr_1 (hT_n321 0 0 31) (fun h9 => absurd ((g_n281 : A279 0 0 31 = 1).symm.trans (hV_n321 h9).1) (by decide))
              refine m_blk 239 [(3, vi 3), (2, vi xs), (1, vi p0), (0, vr 0 0)] [vr 0 0] C f_q_step_238_1 rfl ?_
              refine m_getr C e_q_step_239 fg_Mo_33 rfl (by decide) rfl ?_
              refine m_blk 243 [(3, vi 3), (2, vi xs), (1, vi p0), (0, vr 0 0)] [vi p0, vr 18 0] C f_q_step_242_1 rfl ?_
              refine m_aald C p0.toNat e_q_step_243 rfl rfl rfl (by decide) (by decide) (by omega) (by show p0 < ((6 : Nat) : Int); omega) (mz _ _) ?_
              refine m_blk 246 [(3, vi 3), (2, vi xs), (1, vi p0), (0, vr 0 0)] [vr 0 0, vi xs, vr 38 p0.toNat] C f_q_step_244_2 rfl ?_
              obtain ⟨x322, hx322⟩ : ∃ x, A319 0 0 28 = x := ⟨_, rfl⟩
              have rx322 : 0 ≤ x322 ∧ x322 ≤ 16 := mrg hT_n321 hx322 rfl
              refine m_geti C e_q_step_246 fg_Mo_192 rfl (by decide) rfl x322 hx322 ?_
              refine m_iast C e_q_step_249 rfl (by omega) (by decide) (by omega) (by show xs < ((16 : Nat) : Int); omega) ?_
              have t323 : mTy (mu A319 38 p0.toNat xs.toNat x322) := hT_n321.mu (by show 0 ≤ x322 ∧ x322 ≤ 16; omega)
              have q324 := hF_n321.mu (f := 38) (k := p0.toNat) (j := xs.toNat) (z := x322) (by simp [pm])
              refine m_blk 252 [(3, vi 3), (2, vi xs), (1, vi p0), (0, vr 0 0)] [vi 3, vi 3] C f_q_step_250_2 rfl ?_
              refine m_icmp_ne (tgt := 259) C e_q_step_252 (by decide) (by decide) (by decide) (fun c325 => (by omega : False).elim) (fun c325 => ?_)
              refine m_blk 256 [(3, vi 3), (2, vi xs), (1, vi p0), (0, vr 0 0)] [vr 0 0] C f_q_step_255_1 rfl ?_
              refine m_callV C Rm Y [] [] (hq9 l D B H0 ad _ hS t323 p0 (by show A319 0 0 0 = p0 ∧ 0 ≤ p0 ∧ p0 ≤ 5; omega) (by show A319 0 0 24 ≤ A319 0 0 23 ∧ A319 0 0 23 ≤ A319 0 0 22; omega) pt_n321 (fun h9 => absurd ((g_n321 : A319 0 0 31 = 1).symm.trans h9) (by decide)) hG_n321 (by show A319 0 0 27 = 4 - (d : Int) ∧ (d : Int) ≤ 4; omega)) cl_Mo_209 rfl (by decide) rfl rfl e_q_step_256 rfl rfl rfl ⟨by show _ ≤ (32 + 4 * d : Nat); omega, by show _ ≤ (630 + 300 * d : Nat); omega⟩ ?_
              rintro v326 A327 ⟨rfl, hT_n329, hE_n329, raw_hb_n329, raw_hn_n329, raw_hw_n329, raw_hm_n329, raw_hG_n329, raw_hQ_n329⟩
              have hF_n329 := q324.trans (hE_n329.sub (fun _ _ _ h => h))
              show JM g D ad w0 A327 259 [(3, vi 3), (2, vi xs), (1, vi p0), (0, vr 0 0)] []
              have hb_n329 : A327 0 0 24 ≤ A327 0 0 23 ∧ A327 0 0 23 ≤ A327 0 0 22 := raw_hb_n329
              clear raw_hb_n329
              have hm_n329 : A319 0 0 24 ≤ A327 0 0 24 ∧ A319 0 0 28 ≤ A327 0 0 28 ∧ A319 0 0 29 ≤ A327 0 0 29 ∧ A319 0 0 30 ≤ A327 0 0 30 ∧ A327 0 0 27 = A319 0 0 27 := raw_hm_n329
              clear raw_hm_n329
              have pt_n329 : pT A327 := raw_hn_n329
              have k0_n329 : A327 0 0 0 = A319 0 0 0 := hE_n329 0 0 0 rfl
              have k22_n329 : A327 0 0 22 = A319 0 0 22 := hE_n329 0 0 22 rfl
              have hG_n329 : nG p0.toNat A327 := raw_hG_n329
              have hV_n329 : pV p0.toNat (4 - (d : Int) + 1) (mu A319 38 p0.toNat xs.toNat x322) A327 := raw_hw_n329
              clear raw_hw_n329
              have hQ_n329 : pQ p0.toNat (A319 0 0 28) (A319 0 0 29) (A319 0 0 30) (mu A319 38 p0.toNat xs.toNat x322) A327 := raw_hQ_n329
              clear raw_hQ_n329
              have r34_n329 : A327 34 p0.toNat xs.toNat = 3 := Eq.trans (hQ_n329.1 34 (by decide) (by decide) xs.toNat (by show ((xs.toNat : Nat) : Int) < A319 0 0 28; omega)) r34_n321
              have r35_n329 : A327 35 p0.toNat xs.toNat = (-1) := Eq.trans (hQ_n329.1 35 (by decide) (by decide) xs.toNat (by show ((xs.toNat : Nat) : Int) < A319 0 0 28; omega)) r35_n321
              have r36_n329 : A327 36 p0.toNat xs.toNat = (-1) := Eq.trans (hQ_n329.1 36 (by decide) (by decide) xs.toNat (by show ((xs.toNat : Nat) : Int) < A319 0 0 28; omega)) r36_n321
              have r38_n329 : A327 38 p0.toNat xs.toNat = x322 := Eq.trans (hQ_n329.1 38 (by decide) (by decide) xs.toNat (by show ((xs.toNat : Nat) : Int) < A319 0 0 28; omega)) (mu_at A319 38 p0.toNat xs.toNat x322)
              have r39_n329 : A327 39 p0.toNat xs.toNat = z282 := Eq.trans (hQ_n329.1 39 (by decide) (by decide) xs.toNat (by show ((xs.toNat : Nat) : Int) < A319 0 0 28; omega)) r39_n321
              have r40_n329 : A327 40 p0.toNat xs.toNat = x18 := Eq.trans (hQ_n329.1 40 (by decide) (by decide) xs.toNat (by show ((xs.toNat : Nat) : Int) < A319 0 0 28; omega)) r40_n321
              have g_n329 : A327 0 0 31 = 1 := wr_1 (hT_n329 0 0 31) (fun h9 => absurd ((g_n321 : A319 0 0 31 = 1).symm.trans (hV_n329 h9).1) (by decide))
              refine m_blk 260 [(3, vi 3), (2, vi xs), (1, vi p0), (0, vr 0 0)] [vr 0 0] C f_q_step_259_1 rfl ?_
              refine m_getr C e_q_step_260 fg_Mo_30 rfl (by decide) rfl ?_
              refine m_blk 264 [(3, vi 3), (2, vi xs), (1, vi p0), (0, vr 0 0)] [vi p0, vr 17 0] C f_q_step_263_1 rfl ?_
              refine m_aald C p0.toNat e_q_step_264 rfl rfl rfl (by decide) (by decide) (by omega) (by show p0 < ((6 : Nat) : Int); omega) (mz _ _) ?_
              refine m_blk 267 [(3, vi 3), (2, vi xs), (1, vi p0), (0, vr 0 0)] [vr 0 0, vi xs, vr 37 p0.toNat] C f_q_step_265_2 rfl ?_
              obtain ⟨x330, hx330⟩ : ∃ x, A327 0 0 28 = x := ⟨_, rfl⟩
              have rx330 : 0 ≤ x330 ∧ x330 ≤ 16 := mrg hT_n329 hx330 rfl
              refine m_geti C e_q_step_267 fg_Mo_192 rfl (by decide) rfl x330 hx330 ?_
              refine m_iast C e_q_step_270 rfl (by omega) (by decide) (by omega) (by show xs < ((16 : Nat) : Int); omega) ?_
              have t331 : mTy (mu A327 37 p0.toNat xs.toNat x330) := hT_n329.mu (by show 0 ≤ x330 ∧ x330 ≤ 16; omega)
              have q332 := hF_n329.mu (f := 37) (k := p0.toNat) (j := xs.toNat) (z := x330) (by simp [pm])
              exact m_vret C Rm E e_q_step_271 ⟨rfl, t331, q332, (by show A327 0 0 24 ≤ A327 0 0 23 ∧ A327 0 0 23 ≤ A327 0 0 22; omega), pt_n329, (fun h9 => absurd ((g_n329 : A327 0 0 31 = 1).symm.trans h9) (by decide)), (by show A 0 0 24 ≤ A327 0 0 24 ∧ A 0 0 28 ≤ A327 0 0 28 ∧ A 0 0 29 ≤ A327 0 0 29 ∧ A 0 0 30 ≤ A327 0 0 30 ∧ A327 0 0 27 = A 0 0 27; omega), hG_n329, (pQ.mu (pQ.trans (pQ.mu (pQ.trans (pQ.mu (pQ.emk (A2 := A266) (pQ.fam (pQ.mu (pQ.mu (pQ.mu (pQ.mu (pQ.mu pQ.rfl' (by omega) (by omega) (by omega)) (by omega) (by omega) (by omega)) (by omega) (by omega) (by omega)) (by omega) (by omega) (by omega)) (by omega) (by omega) (by omega)) (fam_nm _ hE_n268)) hE_n281 hK_n281 (by show A 0 0 30 ≤ A266 0 0 30; omega)) (by omega) (by omega) (by omega)) (pQ.le hQ_n321 (by show A 0 0 28 ≤ A279 0 0 28; omega) (by show A 0 0 29 ≤ A279 0 0 29; omega) (by show A 0 0 30 ≤ A279 0 0 30; omega))) (by omega) (by omega) (by omega)) (pQ.le hQ_n329 (by show A 0 0 28 ≤ A319 0 0 28; omega) (by show A 0 0 29 ≤ A319 0 0 29; omega) (by show A 0 0 30 ≤ A319 0 0 30; omega))) (by omega) (by omega) (by omega))⟩
          · refine m_blk 108 [(3, vi 3), (2, vi xs), (1, vi p0), (0, vr 0 0)] [vi 3] C f_q_step_107_1 rfl ?_
            refine m_if_eq (tgt := 121) C e_q_step_108 (by decide) (by decide) (fun c333 => (by omega : False).elim) (fun c333 => ?_)
            refine m_blk 113 [(3, vi 3), (2, vi xs), (1, vi p0), (0, vr 0 0)] [vi 1, vi 3] C f_q_step_111_2 rfl ?_
            refine m_icmp_eq (tgt := 121) C e_q_step_113 (by decide) (by decide) (by decide) (fun c334 => (by omega : False).elim) (fun c334 => ?_)
            refine m_blk 118 [(3, vi 3), (2, vi xs), (1, vi p0), (0, vr 0 0)] [vi 5, vi 3] C f_q_step_116_2 rfl ?_
            refine m_icmp_ne (tgt := 136) C e_q_step_118 (by decide) (by decide) (by decide) (fun c335 => ?_) (fun c335 => (by omega : False).elim)
            refine m_blk 137 [(3, vi 3), (2, vi xs), (1, vi p0), (0, vr 0 0)] [vi 3] C f_q_step_136_1 rfl ?_
            refine m_if_ne (tgt := 146) C e_q_step_137 (by decide) (by decide) (fun c336 => ?_) (fun c336 => (by omega : False).elim)
            refine m_blk 148 [(3, vi 3), (2, vi xs), (1, vi p0), (0, vr 0 0)] [vi 4, vi 3] C f_q_step_146_2 rfl ?_
            refine m_icmp_ne (tgt := 167) C e_q_step_148 (by decide) (by decide) (by decide) (fun c337 => ?_) (fun c337 => (by omega : False).elim)
            refine m_blk 169 [(3, vi 3), (2, vi xs), (1, vi p0), (0, vr 0 0)] [vi 5, vi 3] C f_q_step_167_2 rfl ?_
            refine m_icmp_ne (tgt := 192) C e_q_step_169 (by decide) (by decide) (by decide) (fun c338 => ?_) (fun c338 => (by omega : False).elim)
            refine m_blk 194 [(3, vi 3), (2, vi xs), (1, vi p0), (0, vr 0 0)] [vi 1, vi 3] C f_q_step_192_2 rfl ?_
            refine m_icmp_eq (tgt := 212) C e_q_step_194 (by decide) (by decide) (by decide) (fun c339 => (by omega : False).elim) (fun c339 => ?_)
            refine m_blk 199 [(3, vi 3), (2, vi xs), (1, vi p0), (0, vr 0 0)] [vi 2, vi 3] C f_q_step_197_2 rfl ?_
            refine m_icmp_eq (tgt := 212) C e_q_step_199 (by decide) (by decide) (by decide) (fun c340 => (by omega : False).elim) (fun c340 => ?_)
            refine m_blk 204 [(3, vi 3), (2, vi xs), (1, vi p0), (0, vr 0 0)] [vi 3, vi 3] C f_q_step_202_2 rfl ?_
            refine m_icmp_eq (tgt := 212) C e_q_step_204 (by decide) (by decide) (by decide) (fun c341 => ?_) (fun c341 => (by omega : False).elim)
            refine m_blk 213 [(3, vi 3), (2, vi xs), (1, vi p0), (0, vr 0 0)] [vr 0 0] C f_q_step_212_1 rfl ?_
            refine m_getr C e_q_step_213 fg_Mo_36 rfl (by decide) rfl ?_
            refine m_blk 217 [(3, vi 3), (2, vi xs), (1, vi p0), (0, vr 0 0)] [vi p0, vr 19 0] C f_q_step_216_1 rfl ?_
            refine m_aald C p0.toNat e_q_step_217 rfl rfl rfl (by decide) (by decide) (by omega) (by show p0 < ((6 : Nat) : Int); omega) (mz _ _) ?_
            refine m_blk 220 [(3, vi 3), (2, vi xs), (1, vi p0), (0, vr 0 0)] [vr 0 0, vi xs, vr 39 p0.toNat] C f_q_step_218_2 rfl ?_
            refine m_callV C Rm Y [] [vi xs, vr 39 p0.toNat] ((q_E d).2 l D B H0 ad _ hS hT_n268 p0 (by show A266 0 0 0 = p0 ∧ 0 ≤ p0 ∧ p0 ≤ 5; omega) (by show A266 0 0 24 ≤ A266 0 0 23 ∧ A266 0 0 23 ≤ A266 0 0 22; omega) pt_n268 (fun h9 => absurd ((g_n268 : A266 0 0 31 = 1).symm.trans h9) (by decide)) (nG.nm (A := (mu (mu (mu (mu (mu (mu A 0 0 28 (xs + 1)) 34 p0.toNat xs.toNat 3) 35 p0.toNat xs.toNat (-1)) 36 p0.toNat xs.toNat (-1)) 39 p0.toNat xs.toNat (-1)) 40 p0.toNat xs.toNat x18)) hG hE_n268) (by show A266 0 0 27 = 4 - (d : Int) ∧ (d : Int) ≤ 4; omega)) cl_Mo_206 rfl (by decide) rfl rfl e_q_step_220 rfl rfl rfl ⟨by show _ ≤ (32 + 4 * d : Nat); omega, by show _ ≤ (630 + 300 * d : Nat); omega⟩ ?_
            rintro v342 A343 ⟨z346, rfl, hT_n345, hE_n345, raw_hz_n345, raw_hb_n345, raw_hn_n345, raw_hw_n345, raw_hm_n345, raw_hG_n345, raw_hK_n345⟩
            have hF_n345 := hF_n268.trans (hE_n345.sub (em_pm _))
            show JM g D ad w0 A343 223 [(3, vi 3), (2, vi xs), (1, vi p0), (0, vr 0 0)] [vi z346, vi xs, vr 39 p0.toNat]
            have hz_n345 : 0 ≤ z346 ∧ z346 ≤ 119 := raw_hz_n345
            clear raw_hz_n345
            have hb_n345 : A343 0 0 24 ≤ A343 0 0 23 ∧ A343 0 0 23 ≤ A343 0 0 22 := raw_hb_n345
            clear raw_hb_n345
            have hm_n345 : A266 0 0 24 ≤ A343 0 0 24 ∧ A266 0 0 30 ≤ A343 0 0 30 ∧ A343 0 0 27 = A266 0 0 27 := raw_hm_n345
            clear raw_hm_n345
            have pt_n345 : pT A343 := raw_hn_n345
            have k0_n345 : A343 0 0 0 = A266 0 0 0 := hE_n345 0 0 0 rfl
            have k22_n345 : A343 0 0 22 = A266 0 0 22 := hE_n345 0 0 22 rfl
            have k28_n345 : A343 0 0 28 = A266 0 0 28 := hE_n345 0 0 28 rfl
            have k29_n345 : A343 0 0 29 = A266 0 0 29 := hE_n345 0 0 29 rfl
            have hG_n345 : nG p0.toNat A343 := raw_hG_n345
            have hK_n345 : nK p0.toNat A266 A343 := raw_hK_n345
            have r34_n345 : A343 34 p0.toNat xs.toNat = 3 := Eq.trans (hE_n345 34 p0.toNat xs.toNat rfl) r34_n268
            have r35_n345 : A343 35 p0.toNat xs.toNat = (-1) := Eq.trans (hE_n345 35 p0.toNat xs.toNat rfl) r35_n268
            have r36_n345 : A343 36 p0.toNat xs.toNat = (-1) := Eq.trans (hE_n345 36 p0.toNat xs.toNat rfl) r36_n268
            have r39_n345 : A343 39 p0.toNat xs.toNat = (-1) := Eq.trans (hE_n345 39 p0.toNat xs.toNat rfl) r39_n268
            have r40_n345 : A343 40 p0.toNat xs.toNat = x18 := Eq.trans (hE_n345 40 p0.toNat xs.toNat rfl) r40_n268
            have g_n345 : A343 0 0 31 = 1 := wr_1 (hT_n345 0 0 31) (fun h9 => absurd ((g_n268 : A266 0 0 31 = 1).symm.trans (raw_hw_n345 h9).1) (by decide))
            refine m_iast C e_q_step_223 rfl (by omega) (by decide) (by omega) (by show xs < ((16 : Nat) : Int); omega) ?_
            have t347 : mTy (mu A343 39 p0.toNat xs.toNat z346) := hT_n345.mu (by show (-1) ≤ z346 ∧ z346 ≤ 119; omega)
            have q348 := hF_n345.mu (f := 39) (k := p0.toNat) (j := xs.toNat) (z := z346) (by simp [pm])
            refine m_blk 226 [(3, vi 3), (2, vi xs), (1, vi p0), (0, vr 0 0)] [vi 3, vi 3] C f_q_step_224_2 rfl ?_
            refine m_icmp_eq (tgt := 234) C e_q_step_226 (by decide) (by decide) (by decide) (fun c349 => ?_) (fun c349 => (by omega : False).elim)
            refine m_blk 235 [(3, vi 3), (2, vi xs), (1, vi p0), (0, vr 0 0)] [vr 0 0] C f_q_step_234_1 rfl ?_
            refine m_callV C Rm Y [] [] (hq9 l D B H0 ad _ hS t347 p0 (by show A343 0 0 0 = p0 ∧ 0 ≤ p0 ∧ p0 ≤ 5; omega) (by show A343 0 0 24 ≤ A343 0 0 23 ∧ A343 0 0 23 ≤ A343 0 0 22; omega) pt_n345 (fun h9 => absurd ((g_n345 : A343 0 0 31 = 1).symm.trans h9) (by decide)) hG_n345 (by show A343 0 0 27 = 4 - (d : Int) ∧ (d : Int) ≤ 4; omega)) cl_Mo_209 rfl (by decide) rfl rfl e_q_step_235 rfl rfl rfl ⟨by show _ ≤ (32 + 4 * d : Nat); omega, by show _ ≤ (630 + 300 * d : Nat); omega⟩ ?_
            rintro v350 A351 ⟨rfl, hT_n353, hE_n353, raw_hb_n353, raw_hn_n353, raw_hw_n353, raw_hm_n353, raw_hG_n353, raw_hQ_n353⟩
            have hF_n353 := q348.trans (hE_n353.sub (fun _ _ _ h => h))
            show JM g D ad w0 A351 238 [(3, vi 3), (2, vi xs), (1, vi p0), (0, vr 0 0)] []
            have hb_n353 : A351 0 0 24 ≤ A351 0 0 23 ∧ A351 0 0 23 ≤ A351 0 0 22 := raw_hb_n353
            clear raw_hb_n353
            have hm_n353 : A343 0 0 24 ≤ A351 0 0 24 ∧ A343 0 0 28 ≤ A351 0 0 28 ∧ A343 0 0 29 ≤ A351 0 0 29 ∧ A343 0 0 30 ≤ A351 0 0 30 ∧ A351 0 0 27 = A343 0 0 27 := raw_hm_n353
            clear raw_hm_n353
            have pt_n353 : pT A351 := raw_hn_n353
            have k0_n353 : A351 0 0 0 = A343 0 0 0 := hE_n353 0 0 0 rfl
            have k22_n353 : A351 0 0 22 = A343 0 0 22 := hE_n353 0 0 22 rfl
            have hG_n353 : nG p0.toNat A351 := raw_hG_n353
            have hV_n353 : pV p0.toNat (4 - (d : Int) + 1) (mu A343 39 p0.toNat xs.toNat z346) A351 := raw_hw_n353
            clear raw_hw_n353
            have hQ_n353 : pQ p0.toNat (A343 0 0 28) (A343 0 0 29) (A343 0 0 30) (mu A343 39 p0.toNat xs.toNat z346) A351 := raw_hQ_n353
            clear raw_hQ_n353
            have r34_n353 : A351 34 p0.toNat xs.toNat = 3 := Eq.trans (hQ_n353.1 34 (by decide) (by decide) xs.toNat (by show ((xs.toNat : Nat) : Int) < A343 0 0 28; omega)) r34_n345
            have r35_n353 : A351 35 p0.toNat xs.toNat = (-1) := Eq.trans (hQ_n353.1 35 (by decide) (by decide) xs.toNat (by show ((xs.toNat : Nat) : Int) < A343 0 0 28; omega)) r35_n345
            have r36_n353 : A351 36 p0.toNat xs.toNat = (-1) := Eq.trans (hQ_n353.1 36 (by decide) (by decide) xs.toNat (by show ((xs.toNat : Nat) : Int) < A343 0 0 28; omega)) r36_n345
            have r39_n353 : A351 39 p0.toNat xs.toNat = z346 := Eq.trans (hQ_n353.1 39 (by decide) (by decide) xs.toNat (by show ((xs.toNat : Nat) : Int) < A343 0 0 28; omega)) (mu_at A343 39 p0.toNat xs.toNat z346)
            have r40_n353 : A351 40 p0.toNat xs.toNat = x18 := Eq.trans (hQ_n353.1 40 (by decide) (by decide) xs.toNat (by show ((xs.toNat : Nat) : Int) < A343 0 0 28; omega)) r40_n345
            have g_n353 : A351 0 0 31 = 1 := wr_1 (hT_n353 0 0 31) (fun h9 => absurd ((g_n345 : A343 0 0 31 = 1).symm.trans (hV_n353 h9).1) (by decide))
            refine m_blk 239 [(3, vi 3), (2, vi xs), (1, vi p0), (0, vr 0 0)] [vr 0 0] C f_q_step_238_1 rfl ?_
            refine m_getr C e_q_step_239 fg_Mo_33 rfl (by decide) rfl ?_
            refine m_blk 243 [(3, vi 3), (2, vi xs), (1, vi p0), (0, vr 0 0)] [vi p0, vr 18 0] C f_q_step_242_1 rfl ?_
            refine m_aald C p0.toNat e_q_step_243 rfl rfl rfl (by decide) (by decide) (by omega) (by show p0 < ((6 : Nat) : Int); omega) (mz _ _) ?_
            refine m_blk 246 [(3, vi 3), (2, vi xs), (1, vi p0), (0, vr 0 0)] [vr 0 0, vi xs, vr 38 p0.toNat] C f_q_step_244_2 rfl ?_
            obtain ⟨x354, hx354⟩ : ∃ x, A351 0 0 28 = x := ⟨_, rfl⟩
            have rx354 : 0 ≤ x354 ∧ x354 ≤ 16 := mrg hT_n353 hx354 rfl
            refine m_geti C e_q_step_246 fg_Mo_192 rfl (by decide) rfl x354 hx354 ?_
            refine m_iast C e_q_step_249 rfl (by omega) (by decide) (by omega) (by show xs < ((16 : Nat) : Int); omega) ?_
            have t355 : mTy (mu A351 38 p0.toNat xs.toNat x354) := hT_n353.mu (by show 0 ≤ x354 ∧ x354 ≤ 16; omega)
            have q356 := hF_n353.mu (f := 38) (k := p0.toNat) (j := xs.toNat) (z := x354) (by simp [pm])
            refine m_blk 252 [(3, vi 3), (2, vi xs), (1, vi p0), (0, vr 0 0)] [vi 3, vi 3] C f_q_step_250_2 rfl ?_
            refine m_icmp_ne (tgt := 259) C e_q_step_252 (by decide) (by decide) (by decide) (fun c357 => (by omega : False).elim) (fun c357 => ?_)
            refine m_blk 256 [(3, vi 3), (2, vi xs), (1, vi p0), (0, vr 0 0)] [vr 0 0] C f_q_step_255_1 rfl ?_
            refine m_callV C Rm Y [] [] (hq9 l D B H0 ad _ hS t355 p0 (by show A351 0 0 0 = p0 ∧ 0 ≤ p0 ∧ p0 ≤ 5; omega) (by show A351 0 0 24 ≤ A351 0 0 23 ∧ A351 0 0 23 ≤ A351 0 0 22; omega) pt_n353 (fun h9 => absurd ((g_n353 : A351 0 0 31 = 1).symm.trans h9) (by decide)) hG_n353 (by show A351 0 0 27 = 4 - (d : Int) ∧ (d : Int) ≤ 4; omega)) cl_Mo_209 rfl (by decide) rfl rfl e_q_step_256 rfl rfl rfl ⟨by show _ ≤ (32 + 4 * d : Nat); omega, by show _ ≤ (630 + 300 * d : Nat); omega⟩ ?_
            rintro v358 A359 ⟨rfl, hT_n361, hE_n361, raw_hb_n361, raw_hn_n361, raw_hw_n361, raw_hm_n361, raw_hG_n361, raw_hQ_n361⟩
            have hF_n361 := q356.trans (hE_n361.sub (fun _ _ _ h => h))
            show JM g D ad w0 A359 259 [(3, vi 3), (2, vi xs), (1, vi p0), (0, vr 0 0)] []
            have hb_n361 : A359 0 0 24 ≤ A359 0 0 23 ∧ A359 0 0 23 ≤ A359 0 0 22 := raw_hb_n361
            clear raw_hb_n361
            have hm_n361 : A351 0 0 24 ≤ A359 0 0 24 ∧ A351 0 0 28 ≤ A359 0 0 28 ∧ A351 0 0 29 ≤ A359 0 0 29 ∧ A351 0 0 30 ≤ A359 0 0 30 ∧ A359 0 0 27 = A351 0 0 27 := raw_hm_n361
            clear raw_hm_n361
            have pt_n361 : pT A359 := raw_hn_n361
            have k0_n361 : A359 0 0 0 = A351 0 0 0 := hE_n361 0 0 0 rfl
            have k22_n361 : A359 0 0 22 = A351 0 0 22 := hE_n361 0 0 22 rfl
            have hG_n361 : nG p0.toNat A359 := raw_hG_n361
            have hV_n361 : pV p0.toNat (4 - (d : Int) + 1) (mu A351 38 p0.toNat xs.toNat x354) A359 := raw_hw_n361
            clear raw_hw_n361
            have hQ_n361 : pQ p0.toNat (A351 0 0 28) (A351 0 0 29) (A351 0 0 30) (mu A351 38 p0.toNat xs.toNat x354) A359 := raw_hQ_n361
            clear raw_hQ_n361
            have r34_n361 : A359 34 p0.toNat xs.toNat = 3 := Eq.trans (hQ_n361.1 34 (by decide) (by decide) xs.toNat (by show ((xs.toNat : Nat) : Int) < A351 0 0 28; omega)) r34_n353
            have r35_n361 : A359 35 p0.toNat xs.toNat = (-1) := Eq.trans (hQ_n361.1 35 (by decide) (by decide) xs.toNat (by show ((xs.toNat : Nat) : Int) < A351 0 0 28; omega)) r35_n353
            have r36_n361 : A359 36 p0.toNat xs.toNat = (-1) := Eq.trans (hQ_n361.1 36 (by decide) (by decide) xs.toNat (by show ((xs.toNat : Nat) : Int) < A351 0 0 28; omega)) r36_n353
            have r38_n361 : A359 38 p0.toNat xs.toNat = x354 := Eq.trans (hQ_n361.1 38 (by decide) (by decide) xs.toNat (by show ((xs.toNat : Nat) : Int) < A351 0 0 28; omega)) (mu_at A351 38 p0.toNat xs.toNat x354)
            have r39_n361 : A359 39 p0.toNat xs.toNat = z346 := Eq.trans (hQ_n361.1 39 (by decide) (by decide) xs.toNat (by show ((xs.toNat : Nat) : Int) < A351 0 0 28; omega)) r39_n353
            have r40_n361 : A359 40 p0.toNat xs.toNat = x18 := Eq.trans (hQ_n361.1 40 (by decide) (by decide) xs.toNat (by show ((xs.toNat : Nat) : Int) < A351 0 0 28; omega)) r40_n353
            have g_n361 : A359 0 0 31 = 1 := wr_1 (hT_n361 0 0 31) (fun h9 => absurd ((g_n353 : A351 0 0 31 = 1).symm.trans (hV_n361 h9).1) (by decide))
            refine m_blk 260 [(3, vi 3), (2, vi xs), (1, vi p0), (0, vr 0 0)] [vr 0 0] C f_q_step_259_1 rfl ?_
            refine m_getr C e_q_step_260 fg_Mo_30 rfl (by decide) rfl ?_
            refine m_blk 264 [(3, vi 3), (2, vi xs), (1, vi p0), (0, vr 0 0)] [vi p0, vr 17 0] C f_q_step_263_1 rfl ?_
            refine m_aald C p0.toNat e_q_step_264 rfl rfl rfl (by decide) (by decide) (by omega) (by show p0 < ((6 : Nat) : Int); omega) (mz _ _) ?_
            refine m_blk 267 [(3, vi 3), (2, vi xs), (1, vi p0), (0, vr 0 0)] [vr 0 0, vi xs, vr 37 p0.toNat] C f_q_step_265_2 rfl ?_
            obtain ⟨x362, hx362⟩ : ∃ x, A359 0 0 28 = x := ⟨_, rfl⟩
            have rx362 : 0 ≤ x362 ∧ x362 ≤ 16 := mrg hT_n361 hx362 rfl
            refine m_geti C e_q_step_267 fg_Mo_192 rfl (by decide) rfl x362 hx362 ?_
            refine m_iast C e_q_step_270 rfl (by omega) (by decide) (by omega) (by show xs < ((16 : Nat) : Int); omega) ?_
            have t363 : mTy (mu A359 37 p0.toNat xs.toNat x362) := hT_n361.mu (by show 0 ≤ x362 ∧ x362 ≤ 16; omega)
            have q364 := hF_n361.mu (f := 37) (k := p0.toNat) (j := xs.toNat) (z := x362) (by simp [pm])
            exact m_vret C Rm E e_q_step_271 ⟨rfl, t363, q364, (by show A359 0 0 24 ≤ A359 0 0 23 ∧ A359 0 0 23 ≤ A359 0 0 22; omega), pt_n361, (fun h9 => absurd ((g_n361 : A359 0 0 31 = 1).symm.trans h9) (by decide)), (by show A 0 0 24 ≤ A359 0 0 24 ∧ A 0 0 28 ≤ A359 0 0 28 ∧ A 0 0 29 ≤ A359 0 0 29 ∧ A 0 0 30 ≤ A359 0 0 30 ∧ A359 0 0 27 = A 0 0 27; omega), hG_n361, (pQ.mu (pQ.trans (pQ.mu (pQ.trans (pQ.mu (pQ.emk (A2 := A266) (pQ.fam (pQ.mu (pQ.mu (pQ.mu (pQ.mu (pQ.mu pQ.rfl' (by omega) (by omega) (by omega)) (by omega) (by omega) (by omega)) (by omega) (by omega) (by omega)) (by omega) (by omega) (by omega)) (by omega) (by omega) (by omega)) (fam_nm _ hE_n268)) hE_n345 hK_n345 (by show A 0 0 30 ≤ A266 0 0 30; omega)) (by omega) (by omega) (by omega)) (pQ.le hQ_n353 (by show A 0 0 28 ≤ A343 0 0 28; omega) (by show A 0 0 29 ≤ A343 0 0 29; omega) (by show A 0 0 30 ≤ A343 0 0 30; omega))) (by omega) (by omega) (by omega)) (pQ.le hQ_n361 (by show A 0 0 28 ≤ A351 0 0 28; omega) (by show A 0 0 29 ≤ A351 0 0 29; omega) (by show A 0 0 30 ≤ A351 0 0 30; omega))) (by omega) (by omega) (by omega))⟩
        · have bt9 : A 0 0 24 < A 0 0 23 := pT_lt hn g0 (by omega)
          refine m_blk 104 [(3, vi 4), (2, vi xs), (1, vi p0), (0, vr 0 0)] [vr 0 0] C f_q_step_103_1 rfl ?_
          refine m_callV C Rm Y [] [] (q_next l D B H0 ad _ hS t19 (by show A 0 0 23 ≤ A 0 0 22; omega)) cl_Mo_176 rfl (by decide) rfl rfl e_q_step_104 rfl rfl rfl ⟨by show _ ≤ (32 + 4 * d : Nat); omega, by show _ ≤ (630 + 300 * d : Nat); omega⟩ ?_
          rintro v365 A366 ⟨rfl, hT_n368, hE_n368, raw_hw_n368, raw_hb_n368⟩
          have hF_n368 := q20.trans (hE_n368.sub (nm_pm _))
          show JM g D ad w0 A366 107 [(3, vi 4), (2, vi xs), (1, vi p0), (0, vr 0 0)] []
          obtain ⟨b1_n368, b2_n368, b3_n368, pt_n368⟩ : A 0 0 23 ≤ A366 0 0 24 ∧ A366 0 0 24 ≤ A366 0 0 23 ∧ A366 0 0 23 ≤ A366 0 0 22 ∧ pT A366 := raw_hb_n368 g0
          clear raw_hb_n368 raw_hw_n368
          have k0_n368 : A366 0 0 0 = A 0 0 0 := hE_n368 0 0 0 rfl
          have k22_n368 : A366 0 0 22 = A 0 0 22 := hE_n368 0 0 22 rfl
          have k27_n368 : A366 0 0 27 = A 0 0 27 := hE_n368 0 0 27 rfl
          have k28_n368 : A366 0 0 28 = (xs + 1) := hE_n368 0 0 28 rfl
          have k29_n368 : A366 0 0 29 = A 0 0 29 := hE_n368 0 0 29 rfl
          have k30_n368 : A366 0 0 30 = A 0 0 30 := hE_n368 0 0 30 rfl
          have r34_n368 : A366 34 p0.toNat xs.toNat = 4 := Eq.trans (hE_n368 34 p0.toNat xs.toNat rfl) (mu_at (mu A 0 0 28 (xs + 1)) 34 p0.toNat xs.toNat 4)
          have r35_n368 : A366 35 p0.toNat xs.toNat = (-1) := Eq.trans (hE_n368 35 p0.toNat xs.toNat rfl) (mu_at (mu (mu A 0 0 28 (xs + 1)) 34 p0.toNat xs.toNat 4) 35 p0.toNat xs.toNat (-1))
          have r36_n368 : A366 36 p0.toNat xs.toNat = (-1) := Eq.trans (hE_n368 36 p0.toNat xs.toNat rfl) (mu_at (mu (mu (mu A 0 0 28 (xs + 1)) 34 p0.toNat xs.toNat 4) 35 p0.toNat xs.toNat (-1)) 36 p0.toNat xs.toNat (-1))
          have r39_n368 : A366 39 p0.toNat xs.toNat = (-1) := Eq.trans (hE_n368 39 p0.toNat xs.toNat rfl) (mu_at (mu (mu (mu (mu A 0 0 28 (xs + 1)) 34 p0.toNat xs.toNat 4) 35 p0.toNat xs.toNat (-1)) 36 p0.toNat xs.toNat (-1)) 39 p0.toNat xs.toNat (-1))
          have r40_n368 : A366 40 p0.toNat xs.toNat = x18 := Eq.trans (hE_n368 40 p0.toNat xs.toNat rfl) (mu_at (mu (mu (mu (mu (mu A 0 0 28 (xs + 1)) 34 p0.toNat xs.toNat 4) 35 p0.toNat xs.toNat (-1)) 36 p0.toNat xs.toNat (-1)) 39 p0.toNat xs.toNat (-1)) 40 p0.toNat xs.toNat x18)
          rcases (show A366 0 0 31 = 0 ∨ A366 0 0 31 = 1 from by have w9 := hT_n368 0 0 31; have w8 : 0 ≤ A366 0 0 31 ∧ A366 0 0 31 ≤ 1 := w9; omega) with g_n368 | g_n368
          · refine m_blk 108 [(3, vi 4), (2, vi xs), (1, vi p0), (0, vr 0 0)] [vi 4] C f_q_step_107_1 rfl ?_
            refine m_if_eq (tgt := 121) C e_q_step_108 (by decide) (by decide) (fun c369 => (by omega : False).elim) (fun c369 => ?_)
            refine m_blk 113 [(3, vi 4), (2, vi xs), (1, vi p0), (0, vr 0 0)] [vi 1, vi 4] C f_q_step_111_2 rfl ?_
            refine m_icmp_eq (tgt := 121) C e_q_step_113 (by decide) (by decide) (by decide) (fun c370 => (by omega : False).elim) (fun c370 => ?_)
            refine m_blk 118 [(3, vi 4), (2, vi xs), (1, vi p0), (0, vr 0 0)] [vi 5, vi 4] C f_q_step_116_2 rfl ?_
            refine m_icmp_ne (tgt := 136) C e_q_step_118 (by decide) (by decide) (by decide) (fun c371 => ?_) (fun c371 => (by omega : False).elim)
            refine m_blk 137 [(3, vi 4), (2, vi xs), (1, vi p0), (0, vr 0 0)] [vi 4] C f_q_step_136_1 rfl ?_
            refine m_if_ne (tgt := 146) C e_q_step_137 (by decide) (by decide) (fun c372 => ?_) (fun c372 => (by omega : False).elim)
            refine m_blk 148 [(3, vi 4), (2, vi xs), (1, vi p0), (0, vr 0 0)] [vi 4, vi 4] C f_q_step_146_2 rfl ?_
            refine m_icmp_ne (tgt := 167) C e_q_step_148 (by decide) (by decide) (by decide) (fun c373 => (by omega : False).elim) (fun c373 => ?_)
            refine m_blk 152 [(3, vi 4), (2, vi xs), (1, vi p0), (0, vr 0 0)] [vr 0 0] C f_q_step_151_1 rfl ?_
            refine m_getr C e_q_step_152 fg_Mo_27 rfl (by decide) rfl ?_
            refine m_blk 156 [(3, vi 4), (2, vi xs), (1, vi p0), (0, vr 0 0)] [vi p0, vr 16 0] C f_q_step_155_1 rfl ?_
            refine m_aald C p0.toNat e_q_step_156 rfl rfl rfl (by decide) (by decide) (by omega) (by show p0 < ((6 : Nat) : Int); omega) (mz _ _) ?_
            refine m_blk 163 [(3, vi 4), (2, vi xs), (1, vi p0), (0, vr 0 0)] [vi 9, vi 0, vi 3, vr 0 0, vi xs, vr 36 p0.toNat] C f_q_step_157_5 rfl ?_
            refine m_callV C Rm Y [vi 3, vi 0, vi 9] [vi xs, vr 36 p0.toNat] (q_takes l D B H0 ad _ hS hT_n368 3 0 9 (by show 1 ≤ 3 ∧ 3 ≤ 4; omega) (by show 0 ≤ 0 ∧ 0 ≤ 2147483647 ∧ -1 ≤ 9 ∧ 9 ≤ 2147483647; omega) (by show A366 0 0 24 ≤ A366 0 0 23 ∧ A366 0 0 23 ≤ A366 0 0 22; omega) pt_n368) cl_Mo_198 rfl (by decide) rfl rfl e_q_step_163 rfl rfl rfl ⟨by show _ ≤ (32 + 4 * d : Nat); omega, by show _ ≤ (630 + 300 * d : Nat); omega⟩ ?_
            rintro v374 A375 ⟨z378, rfl, hT_n377, hE_n377, raw_hz_n377, raw_hb_n377, raw_hn_n377, raw_hw_n377, raw_hm_n377⟩
            have hF_n377 := hF_n368.trans (hE_n377.sub (nm_pm _))
            show JM g D ad w0 A375 166 [(3, vi 4), (2, vi xs), (1, vi p0), (0, vr 0 0)] [vi z378, vi xs, vr 36 p0.toNat]
            have hb_n377 : A375 0 0 24 ≤ A375 0 0 23 ∧ A375 0 0 23 ≤ A375 0 0 22 := raw_hb_n377
            clear raw_hb_n377
            have hm_n377 : A366 0 0 24 ≤ A375 0 0 24 := raw_hm_n377
            clear raw_hm_n377
            have hz_n377 : z378 = 0 ∨ 0 ≤ z378 ∧ z378 ≤ 9 := raw_hz_n377
            clear raw_hz_n377
            have pt_n377 : pT A375 := raw_hn_n377
            clear raw_hn_n377
            have k0_n377 : A375 0 0 0 = A366 0 0 0 := hE_n377 0 0 0 rfl
            have k22_n377 : A375 0 0 22 = A366 0 0 22 := hE_n377 0 0 22 rfl
            have k27_n377 : A375 0 0 27 = A366 0 0 27 := hE_n377 0 0 27 rfl
            have k28_n377 : A375 0 0 28 = A366 0 0 28 := hE_n377 0 0 28 rfl
            have k29_n377 : A375 0 0 29 = A366 0 0 29 := hE_n377 0 0 29 rfl
            have k30_n377 : A375 0 0 30 = A366 0 0 30 := hE_n377 0 0 30 rfl
            have r34_n377 : A375 34 p0.toNat xs.toNat = 4 := Eq.trans (hE_n377 34 p0.toNat xs.toNat rfl) r34_n368
            have r35_n377 : A375 35 p0.toNat xs.toNat = (-1) := Eq.trans (hE_n377 35 p0.toNat xs.toNat rfl) r35_n368
            have r36_n377 : A375 36 p0.toNat xs.toNat = (-1) := Eq.trans (hE_n377 36 p0.toNat xs.toNat rfl) r36_n368
            have r39_n377 : A375 39 p0.toNat xs.toNat = (-1) := Eq.trans (hE_n377 39 p0.toNat xs.toNat rfl) r39_n368
            have r40_n377 : A375 40 p0.toNat xs.toNat = x18 := Eq.trans (hE_n377 40 p0.toNat xs.toNat rfl) r40_n368
            rcases (show A375 0 0 31 = 0 ∨ A375 0 0 31 = 1 from by have w9 := hT_n377 0 0 31; have w8 : 0 ≤ A375 0 0 31 ∧ A375 0 0 31 ≤ 1 := w9; omega) with g_n377 | g_n377
            · have u_n377 : A366 0 0 31 = 0 ∧ A366 0 0 24 < A375 0 0 24 ∧ 0 ≤ z378 ∧ z378 ≤ 9 := raw_hw_n377 g_n377
              clear raw_hw_n377
              refine m_iast C e_q_step_166 rfl (by omega) (by decide) (by omega) (by show xs < ((16 : Nat) : Int); omega) ?_
              have t379 : mTy (mu A375 36 p0.toNat xs.toNat z378) := hT_n377.mu (by show (-1) ≤ z378 ∧ z378 ≤ 9; omega)
              have q380 := hF_n377.mu (f := 36) (k := p0.toNat) (j := xs.toNat) (z := z378) (by simp [pm])
              refine m_blk 169 [(3, vi 4), (2, vi xs), (1, vi p0), (0, vr 0 0)] [vi 5, vi 4] C f_q_step_167_2 rfl ?_
              refine m_icmp_ne (tgt := 192) C e_q_step_169 (by decide) (by decide) (by decide) (fun c381 => ?_) (fun c381 => (by omega : False).elim)
              refine m_blk 194 [(3, vi 4), (2, vi xs), (1, vi p0), (0, vr 0 0)] [vi 1, vi 4] C f_q_step_192_2 rfl ?_
              refine m_icmp_eq (tgt := 212) C e_q_step_194 (by decide) (by decide) (by decide) (fun c382 => (by omega : False).elim) (fun c382 => ?_)
              refine m_blk 199 [(3, vi 4), (2, vi xs), (1, vi p0), (0, vr 0 0)] [vi 2, vi 4] C f_q_step_197_2 rfl ?_
              refine m_icmp_eq (tgt := 212) C e_q_step_199 (by decide) (by decide) (by decide) (fun c383 => (by omega : False).elim) (fun c383 => ?_)
              refine m_blk 204 [(3, vi 4), (2, vi xs), (1, vi p0), (0, vr 0 0)] [vi 3, vi 4] C f_q_step_202_2 rfl ?_
              refine m_icmp_eq (tgt := 212) C e_q_step_204 (by decide) (by decide) (by decide) (fun c384 => (by omega : False).elim) (fun c384 => ?_)
              refine m_blk 209 [(3, vi 4), (2, vi xs), (1, vi p0), (0, vr 0 0)] [vi 5, vi 4] C f_q_step_207_2 rfl ?_
              refine m_icmp_ne (tgt := 224) C e_q_step_209 (by decide) (by decide) (by decide) (fun c385 => ?_) (fun c385 => (by omega : False).elim)
              refine m_blk 226 [(3, vi 4), (2, vi xs), (1, vi p0), (0, vr 0 0)] [vi 3, vi 4] C f_q_step_224_2 rfl ?_
              refine m_icmp_eq (tgt := 234) C e_q_step_226 (by decide) (by decide) (by decide) (fun c386 => (by omega : False).elim) (fun c386 => ?_)
              refine m_blk 231 [(3, vi 4), (2, vi xs), (1, vi p0), (0, vr 0 0)] [vi 4, vi 4] C f_q_step_229_2 rfl ?_
              refine m_icmp_ne (tgt := 238) C e_q_step_231 (by decide) (by decide) (by decide) (fun c387 => (by omega : False).elim) (fun c387 => ?_)
              refine m_blk 235 [(3, vi 4), (2, vi xs), (1, vi p0), (0, vr 0 0)] [vr 0 0] C f_q_step_234_1 rfl ?_
              refine m_callV C Rm Y [] [] (hq9 l D B H0 ad _ hS t379 p0 (by show A375 0 0 0 = p0 ∧ 0 ≤ p0 ∧ p0 ≤ 5; omega) (by show A375 0 0 24 ≤ A375 0 0 23 ∧ A375 0 0 23 ≤ A375 0 0 22; omega) pt_n377 (fun _ => by show A375 0 0 30 + 3 * A375 0 0 29 ≤ A375 0 0 24; omega) (nG.nm (A := A366) (nG.nm (A := (mu (mu (mu (mu (mu (mu A 0 0 28 (xs + 1)) 34 p0.toNat xs.toNat 4) 35 p0.toNat xs.toNat (-1)) 36 p0.toNat xs.toNat (-1)) 39 p0.toNat xs.toNat (-1)) 40 p0.toNat xs.toNat x18)) hG hE_n368) hE_n377) (by show A375 0 0 27 = 4 - (d : Int) ∧ (d : Int) ≤ 4; omega)) cl_Mo_209 rfl (by decide) rfl rfl e_q_step_235 rfl rfl rfl ⟨by show _ ≤ (32 + 4 * d : Nat); omega, by show _ ≤ (630 + 300 * d : Nat); omega⟩ ?_
              rintro v388 A389 ⟨rfl, hT_n391, hE_n391, raw_hb_n391, raw_hn_n391, raw_hw_n391, raw_hm_n391, raw_hG_n391, raw_hQ_n391⟩
              have hF_n391 := q380.trans (hE_n391.sub (fun _ _ _ h => h))
              show JM g D ad w0 A389 238 [(3, vi 4), (2, vi xs), (1, vi p0), (0, vr 0 0)] []
              have hb_n391 : A389 0 0 24 ≤ A389 0 0 23 ∧ A389 0 0 23 ≤ A389 0 0 22 := raw_hb_n391
              clear raw_hb_n391
              have hm_n391 : A375 0 0 24 ≤ A389 0 0 24 ∧ A375 0 0 28 ≤ A389 0 0 28 ∧ A375 0 0 29 ≤ A389 0 0 29 ∧ A375 0 0 30 ≤ A389 0 0 30 ∧ A389 0 0 27 = A375 0 0 27 := raw_hm_n391
              clear raw_hm_n391
              have pt_n391 : pT A389 := raw_hn_n391
              have k0_n391 : A389 0 0 0 = A375 0 0 0 := hE_n391 0 0 0 rfl
              have k22_n391 : A389 0 0 22 = A375 0 0 22 := hE_n391 0 0 22 rfl
              have hG_n391 : nG p0.toNat A389 := raw_hG_n391
              have hV_n391 : pV p0.toNat (4 - (d : Int) + 1) (mu A375 36 p0.toNat xs.toNat z378) A389 := raw_hw_n391
              clear raw_hw_n391
              have hQ_n391 : pQ p0.toNat (A375 0 0 28) (A375 0 0 29) (A375 0 0 30) (mu A375 36 p0.toNat xs.toNat z378) A389 := raw_hQ_n391
              clear raw_hQ_n391
              have r34_n391 : A389 34 p0.toNat xs.toNat = 4 := Eq.trans (hQ_n391.1 34 (by decide) (by decide) xs.toNat (by show ((xs.toNat : Nat) : Int) < A375 0 0 28; omega)) r34_n377
              have r35_n391 : A389 35 p0.toNat xs.toNat = (-1) := Eq.trans (hQ_n391.1 35 (by decide) (by decide) xs.toNat (by show ((xs.toNat : Nat) : Int) < A375 0 0 28; omega)) r35_n377
              have r36_n391 : A389 36 p0.toNat xs.toNat = z378 := Eq.trans (hQ_n391.1 36 (by decide) (by decide) xs.toNat (by show ((xs.toNat : Nat) : Int) < A375 0 0 28; omega)) (mu_at A375 36 p0.toNat xs.toNat z378)
              have r39_n391 : A389 39 p0.toNat xs.toNat = (-1) := Eq.trans (hQ_n391.1 39 (by decide) (by decide) xs.toNat (by show ((xs.toNat : Nat) : Int) < A375 0 0 28; omega)) r39_n377
              have r40_n391 : A389 40 p0.toNat xs.toNat = x18 := Eq.trans (hQ_n391.1 40 (by decide) (by decide) xs.toNat (by show ((xs.toNat : Nat) : Int) < A375 0 0 28; omega)) r40_n377
              rcases (show A389 0 0 31 = 0 ∨ A389 0 0 31 = 1 from by have w9 := hT_n391 0 0 31; have w8 : 0 ≤ A389 0 0 31 ∧ A389 0 0 31 ≤ 1 := w9; omega) with g_n391 | g_n391
              · have u_n391 : A375 0 0 24 - A375 0 0 30 - 3 * A375 0 0 29 ≤ A389 0 0 24 - A389 0 0 30 - 3 * A389 0 0 29 ∧ A375 0 0 28 + 1 ≤ A389 0 0 28 := ⟨(hV_n391 g_n391).2.1, (hV_n391 g_n391).2.2.1⟩
                refine m_blk 239 [(3, vi 4), (2, vi xs), (1, vi p0), (0, vr 0 0)] [vr 0 0] C f_q_step_238_1 rfl ?_
                refine m_getr C e_q_step_239 fg_Mo_33 rfl (by decide) rfl ?_
                refine m_blk 243 [(3, vi 4), (2, vi xs), (1, vi p0), (0, vr 0 0)] [vi p0, vr 18 0] C f_q_step_242_1 rfl ?_
                refine m_aald C p0.toNat e_q_step_243 rfl rfl rfl (by decide) (by decide) (by omega) (by show p0 < ((6 : Nat) : Int); omega) (mz _ _) ?_
                refine m_blk 246 [(3, vi 4), (2, vi xs), (1, vi p0), (0, vr 0 0)] [vr 0 0, vi xs, vr 38 p0.toNat] C f_q_step_244_2 rfl ?_
                obtain ⟨x392, hx392⟩ : ∃ x, A389 0 0 28 = x := ⟨_, rfl⟩
                have rx392 : 0 ≤ x392 ∧ x392 ≤ 16 := mrg hT_n391 hx392 rfl
                refine m_geti C e_q_step_246 fg_Mo_192 rfl (by decide) rfl x392 hx392 ?_
                refine m_iast C e_q_step_249 rfl (by omega) (by decide) (by omega) (by show xs < ((16 : Nat) : Int); omega) ?_
                have t393 : mTy (mu A389 38 p0.toNat xs.toNat x392) := hT_n391.mu (by show 0 ≤ x392 ∧ x392 ≤ 16; omega)
                have q394 := hF_n391.mu (f := 38) (k := p0.toNat) (j := xs.toNat) (z := x392) (by simp [pm])
                refine m_blk 252 [(3, vi 4), (2, vi xs), (1, vi p0), (0, vr 0 0)] [vi 3, vi 4] C f_q_step_250_2 rfl ?_
                refine m_icmp_ne (tgt := 259) C e_q_step_252 (by decide) (by decide) (by decide) (fun c395 => ?_) (fun c395 => (by omega : False).elim)
                refine m_blk 260 [(3, vi 4), (2, vi xs), (1, vi p0), (0, vr 0 0)] [vr 0 0] C f_q_step_259_1 rfl ?_
                refine m_getr C e_q_step_260 fg_Mo_30 rfl (by decide) rfl ?_
                refine m_blk 264 [(3, vi 4), (2, vi xs), (1, vi p0), (0, vr 0 0)] [vi p0, vr 17 0] C f_q_step_263_1 rfl ?_
                refine m_aald C p0.toNat e_q_step_264 rfl rfl rfl (by decide) (by decide) (by omega) (by show p0 < ((6 : Nat) : Int); omega) (mz _ _) ?_
                refine m_blk 267 [(3, vi 4), (2, vi xs), (1, vi p0), (0, vr 0 0)] [vr 0 0, vi xs, vr 37 p0.toNat] C f_q_step_265_2 rfl ?_
                refine m_geti C e_q_step_267 fg_Mo_192 rfl (by decide) rfl x392 hx392 ?_
                refine m_iast C e_q_step_270 rfl (by omega) (by decide) (by omega) (by show xs < ((16 : Nat) : Int); omega) ?_
                have t396 : mTy (mu (mu A389 38 p0.toNat xs.toNat x392) 37 p0.toNat xs.toNat x392) := t393.mu (by show 0 ≤ x392 ∧ x392 ≤ 16; omega)
                have q397 := q394.mu (f := 37) (k := p0.toNat) (j := xs.toNat) (z := x392) (by simp [pm])
                exact m_vret C Rm E e_q_step_271 ⟨rfl, t396, q397, (by show A389 0 0 24 ≤ A389 0 0 23 ∧ A389 0 0 23 ≤ A389 0 0 22; omega), pt_n391, (pV.mk (a := xs.toNat) g0 (by show A 0 0 24 - A 0 0 30 - 3 * A 0 0 29 ≤ A389 0 0 24 - A389 0 0 30 - 3 * A389 0 0 29; omega) (by omega) (by show A 0 0 28 + 1 ≤ A389 0 0 28; omega) (pV.loop' hV_n391 hx392 g_n391 (by show A375 0 0 28 = _; omega) r34_n391 r39_n391 (by omega) (by omega) (by omega))), (by show A 0 0 24 ≤ A389 0 0 24 ∧ A 0 0 28 ≤ A389 0 0 28 ∧ A 0 0 29 ≤ A389 0 0 29 ∧ A 0 0 30 ≤ A389 0 0 30 ∧ A389 0 0 27 = A 0 0 27; omega), hG_n391, (pQ.mu (pQ.mu (pQ.trans (pQ.mu (pQ.fam (pQ.fam (pQ.mu (pQ.mu (pQ.mu (pQ.mu (pQ.mu pQ.rfl' (by omega) (by omega) (by omega)) (by omega) (by omega) (by omega)) (by omega) (by omega) (by omega)) (by omega) (by omega) (by omega)) (by omega) (by omega) (by omega)) (fam_nm _ hE_n368)) (fam_nm _ hE_n377)) (by omega) (by omega) (by omega)) (pQ.le hQ_n391 (by show A 0 0 28 ≤ A375 0 0 28; omega) (by show A 0 0 29 ≤ A375 0 0 29; omega) (by show A 0 0 30 ≤ A375 0 0 30; omega))) (by omega) (by omega) (by omega)) (by omega) (by omega) (by omega))⟩
              · refine m_blk 239 [(3, vi 4), (2, vi xs), (1, vi p0), (0, vr 0 0)] [vr 0 0] C f_q_step_238_1 rfl ?_
                refine m_getr C e_q_step_239 fg_Mo_33 rfl (by decide) rfl ?_
                refine m_blk 243 [(3, vi 4), (2, vi xs), (1, vi p0), (0, vr 0 0)] [vi p0, vr 18 0] C f_q_step_242_1 rfl ?_
                refine m_aald C p0.toNat e_q_step_243 rfl rfl rfl (by decide) (by decide) (by omega) (by show p0 < ((6 : Nat) : Int); omega) (mz _ _) ?_
                refine m_blk 246 [(3, vi 4), (2, vi xs), (1, vi p0), (0, vr 0 0)] [vr 0 0, vi xs, vr 38 p0.toNat] C f_q_step_244_2 rfl ?_
                obtain ⟨x398, hx398⟩ : ∃ x, A389 0 0 28 = x := ⟨_, rfl⟩
                have rx398 : 0 ≤ x398 ∧ x398 ≤ 16 := mrg hT_n391 hx398 rfl
                refine m_geti C e_q_step_246 fg_Mo_192 rfl (by decide) rfl x398 hx398 ?_
                refine m_iast C e_q_step_249 rfl (by omega) (by decide) (by omega) (by show xs < ((16 : Nat) : Int); omega) ?_
                have t399 : mTy (mu A389 38 p0.toNat xs.toNat x398) := hT_n391.mu (by show 0 ≤ x398 ∧ x398 ≤ 16; omega)
                have q400 := hF_n391.mu (f := 38) (k := p0.toNat) (j := xs.toNat) (z := x398) (by simp [pm])
                refine m_blk 252 [(3, vi 4), (2, vi xs), (1, vi p0), (0, vr 0 0)] [vi 3, vi 4] C f_q_step_250_2 rfl ?_
                refine m_icmp_ne (tgt := 259) C e_q_step_252 (by decide) (by decide) (by decide) (fun c401 => ?_) (fun c401 => (by omega : False).elim)
                refine m_blk 260 [(3, vi 4), (2, vi xs), (1, vi p0), (0, vr 0 0)] [vr 0 0] C f_q_step_259_1 rfl ?_
                refine m_getr C e_q_step_260 fg_Mo_30 rfl (by decide) rfl ?_
                refine m_blk 264 [(3, vi 4), (2, vi xs), (1, vi p0), (0, vr 0 0)] [vi p0, vr 17 0] C f_q_step_263_1 rfl ?_
                refine m_aald C p0.toNat e_q_step_264 rfl rfl rfl (by decide) (by decide) (by omega) (by show p0 < ((6 : Nat) : Int); omega) (mz _ _) ?_
                refine m_blk 267 [(3, vi 4), (2, vi xs), (1, vi p0), (0, vr 0 0)] [vr 0 0, vi xs, vr 37 p0.toNat] C f_q_step_265_2 rfl ?_
                refine m_geti C e_q_step_267 fg_Mo_192 rfl (by decide) rfl x398 hx398 ?_
                refine m_iast C e_q_step_270 rfl (by omega) (by decide) (by omega) (by show xs < ((16 : Nat) : Int); omega) ?_
                have t402 : mTy (mu (mu A389 38 p0.toNat xs.toNat x398) 37 p0.toNat xs.toNat x398) := t399.mu (by show 0 ≤ x398 ∧ x398 ≤ 16; omega)
                have q403 := q400.mu (f := 37) (k := p0.toNat) (j := xs.toNat) (z := x398) (by simp [pm])
                exact m_vret C Rm E e_q_step_271 ⟨rfl, t402, q403, (by show A389 0 0 24 ≤ A389 0 0 23 ∧ A389 0 0 23 ≤ A389 0 0 22; omega), pt_n391, (fun h9 => absurd ((g_n391 : A389 0 0 31 = 1).symm.trans h9) (by decide)), (by show A 0 0 24 ≤ A389 0 0 24 ∧ A 0 0 28 ≤ A389 0 0 28 ∧ A 0 0 29 ≤ A389 0 0 29 ∧ A 0 0 30 ≤ A389 0 0 30 ∧ A389 0 0 27 = A 0 0 27; omega), hG_n391, (pQ.mu (pQ.mu (pQ.trans (pQ.mu (pQ.fam (pQ.fam (pQ.mu (pQ.mu (pQ.mu (pQ.mu (pQ.mu pQ.rfl' (by omega) (by omega) (by omega)) (by omega) (by omega) (by omega)) (by omega) (by omega) (by omega)) (by omega) (by omega) (by omega)) (by omega) (by omega) (by omega)) (fam_nm _ hE_n368)) (fam_nm _ hE_n377)) (by omega) (by omega) (by omega)) (pQ.le hQ_n391 (by show A 0 0 28 ≤ A375 0 0 28; omega) (by show A 0 0 29 ≤ A375 0 0 29; omega) (by show A 0 0 30 ≤ A375 0 0 30; omega))) (by omega) (by omega) (by omega)) (by omega) (by omega) (by omega))⟩
            · clear raw_hw_n377
              refine m_iast C e_q_step_166 rfl (by omega) (by decide) (by omega) (by show xs < ((16 : Nat) : Int); omega) ?_
              have t404 : mTy (mu A375 36 p0.toNat xs.toNat z378) := hT_n377.mu (by show (-1) ≤ z378 ∧ z378 ≤ 9; omega)
              have q405 := hF_n377.mu (f := 36) (k := p0.toNat) (j := xs.toNat) (z := z378) (by simp [pm])
              refine m_blk 169 [(3, vi 4), (2, vi xs), (1, vi p0), (0, vr 0 0)] [vi 5, vi 4] C f_q_step_167_2 rfl ?_
              refine m_icmp_ne (tgt := 192) C e_q_step_169 (by decide) (by decide) (by decide) (fun c406 => ?_) (fun c406 => (by omega : False).elim)
              refine m_blk 194 [(3, vi 4), (2, vi xs), (1, vi p0), (0, vr 0 0)] [vi 1, vi 4] C f_q_step_192_2 rfl ?_
              refine m_icmp_eq (tgt := 212) C e_q_step_194 (by decide) (by decide) (by decide) (fun c407 => (by omega : False).elim) (fun c407 => ?_)
              refine m_blk 199 [(3, vi 4), (2, vi xs), (1, vi p0), (0, vr 0 0)] [vi 2, vi 4] C f_q_step_197_2 rfl ?_
              refine m_icmp_eq (tgt := 212) C e_q_step_199 (by decide) (by decide) (by decide) (fun c408 => (by omega : False).elim) (fun c408 => ?_)
              refine m_blk 204 [(3, vi 4), (2, vi xs), (1, vi p0), (0, vr 0 0)] [vi 3, vi 4] C f_q_step_202_2 rfl ?_
              refine m_icmp_eq (tgt := 212) C e_q_step_204 (by decide) (by decide) (by decide) (fun c409 => (by omega : False).elim) (fun c409 => ?_)
              refine m_blk 209 [(3, vi 4), (2, vi xs), (1, vi p0), (0, vr 0 0)] [vi 5, vi 4] C f_q_step_207_2 rfl ?_
              refine m_icmp_ne (tgt := 224) C e_q_step_209 (by decide) (by decide) (by decide) (fun c410 => ?_) (fun c410 => (by omega : False).elim)
              refine m_blk 226 [(3, vi 4), (2, vi xs), (1, vi p0), (0, vr 0 0)] [vi 3, vi 4] C f_q_step_224_2 rfl ?_
              refine m_icmp_eq (tgt := 234) C e_q_step_226 (by decide) (by decide) (by decide) (fun c411 => (by omega : False).elim) (fun c411 => ?_)
              refine m_blk 231 [(3, vi 4), (2, vi xs), (1, vi p0), (0, vr 0 0)] [vi 4, vi 4] C f_q_step_229_2 rfl ?_
              refine m_icmp_ne (tgt := 238) C e_q_step_231 (by decide) (by decide) (by decide) (fun c412 => (by omega : False).elim) (fun c412 => ?_)
              refine m_blk 235 [(3, vi 4), (2, vi xs), (1, vi p0), (0, vr 0 0)] [vr 0 0] C f_q_step_234_1 rfl ?_
              refine m_callV C Rm Y [] [] (hq9 l D B H0 ad _ hS t404 p0 (by show A375 0 0 0 = p0 ∧ 0 ≤ p0 ∧ p0 ≤ 5; omega) (by show A375 0 0 24 ≤ A375 0 0 23 ∧ A375 0 0 23 ≤ A375 0 0 22; omega) pt_n377 (fun h9 => absurd ((g_n377 : A375 0 0 31 = 1).symm.trans h9) (by decide)) (nG.nm (A := A366) (nG.nm (A := (mu (mu (mu (mu (mu (mu A 0 0 28 (xs + 1)) 34 p0.toNat xs.toNat 4) 35 p0.toNat xs.toNat (-1)) 36 p0.toNat xs.toNat (-1)) 39 p0.toNat xs.toNat (-1)) 40 p0.toNat xs.toNat x18)) hG hE_n368) hE_n377) (by show A375 0 0 27 = 4 - (d : Int) ∧ (d : Int) ≤ 4; omega)) cl_Mo_209 rfl (by decide) rfl rfl e_q_step_235 rfl rfl rfl ⟨by show _ ≤ (32 + 4 * d : Nat); omega, by show _ ≤ (630 + 300 * d : Nat); omega⟩ ?_
              rintro v413 A414 ⟨rfl, hT_n416, hE_n416, raw_hb_n416, raw_hn_n416, raw_hw_n416, raw_hm_n416, raw_hG_n416, raw_hQ_n416⟩
              have hF_n416 := q405.trans (hE_n416.sub (fun _ _ _ h => h))
              show JM g D ad w0 A414 238 [(3, vi 4), (2, vi xs), (1, vi p0), (0, vr 0 0)] []
              have hb_n416 : A414 0 0 24 ≤ A414 0 0 23 ∧ A414 0 0 23 ≤ A414 0 0 22 := raw_hb_n416
              clear raw_hb_n416
              have hm_n416 : A375 0 0 24 ≤ A414 0 0 24 ∧ A375 0 0 28 ≤ A414 0 0 28 ∧ A375 0 0 29 ≤ A414 0 0 29 ∧ A375 0 0 30 ≤ A414 0 0 30 ∧ A414 0 0 27 = A375 0 0 27 := raw_hm_n416
              clear raw_hm_n416
              have pt_n416 : pT A414 := raw_hn_n416
              have k0_n416 : A414 0 0 0 = A375 0 0 0 := hE_n416 0 0 0 rfl
              have k22_n416 : A414 0 0 22 = A375 0 0 22 := hE_n416 0 0 22 rfl
              have hG_n416 : nG p0.toNat A414 := raw_hG_n416
              have hV_n416 : pV p0.toNat (4 - (d : Int) + 1) (mu A375 36 p0.toNat xs.toNat z378) A414 := raw_hw_n416
              clear raw_hw_n416
              have hQ_n416 : pQ p0.toNat (A375 0 0 28) (A375 0 0 29) (A375 0 0 30) (mu A375 36 p0.toNat xs.toNat z378) A414 := raw_hQ_n416
              clear raw_hQ_n416
              have r34_n416 : A414 34 p0.toNat xs.toNat = 4 := Eq.trans (hQ_n416.1 34 (by decide) (by decide) xs.toNat (by show ((xs.toNat : Nat) : Int) < A375 0 0 28; omega)) r34_n377
              have r35_n416 : A414 35 p0.toNat xs.toNat = (-1) := Eq.trans (hQ_n416.1 35 (by decide) (by decide) xs.toNat (by show ((xs.toNat : Nat) : Int) < A375 0 0 28; omega)) r35_n377
              have r36_n416 : A414 36 p0.toNat xs.toNat = z378 := Eq.trans (hQ_n416.1 36 (by decide) (by decide) xs.toNat (by show ((xs.toNat : Nat) : Int) < A375 0 0 28; omega)) (mu_at A375 36 p0.toNat xs.toNat z378)
              have r39_n416 : A414 39 p0.toNat xs.toNat = (-1) := Eq.trans (hQ_n416.1 39 (by decide) (by decide) xs.toNat (by show ((xs.toNat : Nat) : Int) < A375 0 0 28; omega)) r39_n377
              have r40_n416 : A414 40 p0.toNat xs.toNat = x18 := Eq.trans (hQ_n416.1 40 (by decide) (by decide) xs.toNat (by show ((xs.toNat : Nat) : Int) < A375 0 0 28; omega)) r40_n377
              have g_n416 : A414 0 0 31 = 1 := wr_1 (hT_n416 0 0 31) (fun h9 => absurd ((g_n377 : A375 0 0 31 = 1).symm.trans (hV_n416 h9).1) (by decide))
              refine m_blk 239 [(3, vi 4), (2, vi xs), (1, vi p0), (0, vr 0 0)] [vr 0 0] C f_q_step_238_1 rfl ?_
              refine m_getr C e_q_step_239 fg_Mo_33 rfl (by decide) rfl ?_
              refine m_blk 243 [(3, vi 4), (2, vi xs), (1, vi p0), (0, vr 0 0)] [vi p0, vr 18 0] C f_q_step_242_1 rfl ?_
              refine m_aald C p0.toNat e_q_step_243 rfl rfl rfl (by decide) (by decide) (by omega) (by show p0 < ((6 : Nat) : Int); omega) (mz _ _) ?_
              refine m_blk 246 [(3, vi 4), (2, vi xs), (1, vi p0), (0, vr 0 0)] [vr 0 0, vi xs, vr 38 p0.toNat] C f_q_step_244_2 rfl ?_
              obtain ⟨x417, hx417⟩ : ∃ x, A414 0 0 28 = x := ⟨_, rfl⟩
              have rx417 : 0 ≤ x417 ∧ x417 ≤ 16 := mrg hT_n416 hx417 rfl
              refine m_geti C e_q_step_246 fg_Mo_192 rfl (by decide) rfl x417 hx417 ?_
              refine m_iast C e_q_step_249 rfl (by omega) (by decide) (by omega) (by show xs < ((16 : Nat) : Int); omega) ?_
              have t418 : mTy (mu A414 38 p0.toNat xs.toNat x417) := hT_n416.mu (by show 0 ≤ x417 ∧ x417 ≤ 16; omega)
              have q419 := hF_n416.mu (f := 38) (k := p0.toNat) (j := xs.toNat) (z := x417) (by simp [pm])
              refine m_blk 252 [(3, vi 4), (2, vi xs), (1, vi p0), (0, vr 0 0)] [vi 3, vi 4] C f_q_step_250_2 rfl ?_
              refine m_icmp_ne (tgt := 259) C e_q_step_252 (by decide) (by decide) (by decide) (fun c420 => ?_) (fun c420 => (by omega : False).elim)
              refine m_blk 260 [(3, vi 4), (2, vi xs), (1, vi p0), (0, vr 0 0)] [vr 0 0] C f_q_step_259_1 rfl ?_
              refine m_getr C e_q_step_260 fg_Mo_30 rfl (by decide) rfl ?_
              refine m_blk 264 [(3, vi 4), (2, vi xs), (1, vi p0), (0, vr 0 0)] [vi p0, vr 17 0] C f_q_step_263_1 rfl ?_
              refine m_aald C p0.toNat e_q_step_264 rfl rfl rfl (by decide) (by decide) (by omega) (by show p0 < ((6 : Nat) : Int); omega) (mz _ _) ?_
              refine m_blk 267 [(3, vi 4), (2, vi xs), (1, vi p0), (0, vr 0 0)] [vr 0 0, vi xs, vr 37 p0.toNat] C f_q_step_265_2 rfl ?_
              refine m_geti C e_q_step_267 fg_Mo_192 rfl (by decide) rfl x417 hx417 ?_
              refine m_iast C e_q_step_270 rfl (by omega) (by decide) (by omega) (by show xs < ((16 : Nat) : Int); omega) ?_
              have t421 : mTy (mu (mu A414 38 p0.toNat xs.toNat x417) 37 p0.toNat xs.toNat x417) := t418.mu (by show 0 ≤ x417 ∧ x417 ≤ 16; omega)
              have q422 := q419.mu (f := 37) (k := p0.toNat) (j := xs.toNat) (z := x417) (by simp [pm])
              exact m_vret C Rm E e_q_step_271 ⟨rfl, t421, q422, (by show A414 0 0 24 ≤ A414 0 0 23 ∧ A414 0 0 23 ≤ A414 0 0 22; omega), pt_n416, (fun h9 => absurd ((g_n416 : A414 0 0 31 = 1).symm.trans h9) (by decide)), (by show A 0 0 24 ≤ A414 0 0 24 ∧ A 0 0 28 ≤ A414 0 0 28 ∧ A 0 0 29 ≤ A414 0 0 29 ∧ A 0 0 30 ≤ A414 0 0 30 ∧ A414 0 0 27 = A 0 0 27; omega), hG_n416, (pQ.mu (pQ.mu (pQ.trans (pQ.mu (pQ.fam (pQ.fam (pQ.mu (pQ.mu (pQ.mu (pQ.mu (pQ.mu pQ.rfl' (by omega) (by omega) (by omega)) (by omega) (by omega) (by omega)) (by omega) (by omega) (by omega)) (by omega) (by omega) (by omega)) (by omega) (by omega) (by omega)) (fam_nm _ hE_n368)) (fam_nm _ hE_n377)) (by omega) (by omega) (by omega)) (pQ.le hQ_n416 (by show A 0 0 28 ≤ A375 0 0 28; omega) (by show A 0 0 29 ≤ A375 0 0 29; omega) (by show A 0 0 30 ≤ A375 0 0 30; omega))) (by omega) (by omega) (by omega)) (by omega) (by omega) (by omega))⟩
          · refine m_blk 108 [(3, vi 4), (2, vi xs), (1, vi p0), (0, vr 0 0)] [vi 4] C f_q_step_107_1 rfl ?_
            refine m_if_eq (tgt := 121) C e_q_step_108 (by decide) (by decide) (fun c423 => (by omega : False).elim) (fun c423 => ?_)
            refine m_blk 113 [(3, vi 4), (2, vi xs), (1, vi p0), (0, vr 0 0)] [vi 1, vi 4] C f_q_step_111_2 rfl ?_
            refine m_icmp_eq (tgt := 121) C e_q_step_113 (by decide) (by decide) (by decide) (fun c424 => (by omega : False).elim) (fun c424 => ?_)
            refine m_blk 118 [(3, vi 4), (2, vi xs), (1, vi p0), (0, vr 0 0)] [vi 5, vi 4] C f_q_step_116_2 rfl ?_
            refine m_icmp_ne (tgt := 136) C e_q_step_118 (by decide) (by decide) (by decide) (fun c425 => ?_) (fun c425 => (by omega : False).elim)
            refine m_blk 137 [(3, vi 4), (2, vi xs), (1, vi p0), (0, vr 0 0)] [vi 4] C f_q_step_136_1 rfl ?_
            refine m_if_ne (tgt := 146) C e_q_step_137 (by decide) (by decide) (fun c426 => ?_) (fun c426 => (by omega : False).elim)
            refine m_blk 148 [(3, vi 4), (2, vi xs), (1, vi p0), (0, vr 0 0)] [vi 4, vi 4] C f_q_step_146_2 rfl ?_
            refine m_icmp_ne (tgt := 167) C e_q_step_148 (by decide) (by decide) (by decide) (fun c427 => (by omega : False).elim) (fun c427 => ?_)
            refine m_blk 152 [(3, vi 4), (2, vi xs), (1, vi p0), (0, vr 0 0)] [vr 0 0] C f_q_step_151_1 rfl ?_
            refine m_getr C e_q_step_152 fg_Mo_27 rfl (by decide) rfl ?_
            refine m_blk 156 [(3, vi 4), (2, vi xs), (1, vi p0), (0, vr 0 0)] [vi p0, vr 16 0] C f_q_step_155_1 rfl ?_
            refine m_aald C p0.toNat e_q_step_156 rfl rfl rfl (by decide) (by decide) (by omega) (by show p0 < ((6 : Nat) : Int); omega) (mz _ _) ?_
            refine m_blk 163 [(3, vi 4), (2, vi xs), (1, vi p0), (0, vr 0 0)] [vi 9, vi 0, vi 3, vr 0 0, vi xs, vr 36 p0.toNat] C f_q_step_157_5 rfl ?_
            refine m_callV C Rm Y [vi 3, vi 0, vi 9] [vi xs, vr 36 p0.toNat] (q_takes l D B H0 ad _ hS hT_n368 3 0 9 (by show 1 ≤ 3 ∧ 3 ≤ 4; omega) (by show 0 ≤ 0 ∧ 0 ≤ 2147483647 ∧ -1 ≤ 9 ∧ 9 ≤ 2147483647; omega) (by show A366 0 0 24 ≤ A366 0 0 23 ∧ A366 0 0 23 ≤ A366 0 0 22; omega) pt_n368) cl_Mo_198 rfl (by decide) rfl rfl e_q_step_163 rfl rfl rfl ⟨by show _ ≤ (32 + 4 * d : Nat); omega, by show _ ≤ (630 + 300 * d : Nat); omega⟩ ?_
            rintro v428 A429 ⟨z432, rfl, hT_n431, hE_n431, raw_hz_n431, raw_hb_n431, raw_hn_n431, raw_hw_n431, raw_hm_n431⟩
            have hF_n431 := hF_n368.trans (hE_n431.sub (nm_pm _))
            show JM g D ad w0 A429 166 [(3, vi 4), (2, vi xs), (1, vi p0), (0, vr 0 0)] [vi z432, vi xs, vr 36 p0.toNat]
            have hb_n431 : A429 0 0 24 ≤ A429 0 0 23 ∧ A429 0 0 23 ≤ A429 0 0 22 := raw_hb_n431
            clear raw_hb_n431
            have hm_n431 : A366 0 0 24 ≤ A429 0 0 24 := raw_hm_n431
            clear raw_hm_n431
            have hz_n431 : z432 = 0 ∨ 0 ≤ z432 ∧ z432 ≤ 9 := raw_hz_n431
            clear raw_hz_n431
            have pt_n431 : pT A429 := raw_hn_n431
            clear raw_hn_n431
            have k0_n431 : A429 0 0 0 = A366 0 0 0 := hE_n431 0 0 0 rfl
            have k22_n431 : A429 0 0 22 = A366 0 0 22 := hE_n431 0 0 22 rfl
            have k27_n431 : A429 0 0 27 = A366 0 0 27 := hE_n431 0 0 27 rfl
            have k28_n431 : A429 0 0 28 = A366 0 0 28 := hE_n431 0 0 28 rfl
            have k29_n431 : A429 0 0 29 = A366 0 0 29 := hE_n431 0 0 29 rfl
            have k30_n431 : A429 0 0 30 = A366 0 0 30 := hE_n431 0 0 30 rfl
            have r34_n431 : A429 34 p0.toNat xs.toNat = 4 := Eq.trans (hE_n431 34 p0.toNat xs.toNat rfl) r34_n368
            have r35_n431 : A429 35 p0.toNat xs.toNat = (-1) := Eq.trans (hE_n431 35 p0.toNat xs.toNat rfl) r35_n368
            have r36_n431 : A429 36 p0.toNat xs.toNat = (-1) := Eq.trans (hE_n431 36 p0.toNat xs.toNat rfl) r36_n368
            have r39_n431 : A429 39 p0.toNat xs.toNat = (-1) := Eq.trans (hE_n431 39 p0.toNat xs.toNat rfl) r39_n368
            have r40_n431 : A429 40 p0.toNat xs.toNat = x18 := Eq.trans (hE_n431 40 p0.toNat xs.toNat rfl) r40_n368
            have g_n431 : A429 0 0 31 = 1 := wr_1 (hT_n431 0 0 31) (fun h9 => absurd ((g_n368 : A366 0 0 31 = 1).symm.trans (raw_hw_n431 h9).1) (by decide))
            clear raw_hw_n431
            refine m_iast C e_q_step_166 rfl (by omega) (by decide) (by omega) (by show xs < ((16 : Nat) : Int); omega) ?_
            have t433 : mTy (mu A429 36 p0.toNat xs.toNat z432) := hT_n431.mu (by show (-1) ≤ z432 ∧ z432 ≤ 9; omega)
            have q434 := hF_n431.mu (f := 36) (k := p0.toNat) (j := xs.toNat) (z := z432) (by simp [pm])
            refine m_blk 169 [(3, vi 4), (2, vi xs), (1, vi p0), (0, vr 0 0)] [vi 5, vi 4] C f_q_step_167_2 rfl ?_
            refine m_icmp_ne (tgt := 192) C e_q_step_169 (by decide) (by decide) (by decide) (fun c435 => ?_) (fun c435 => (by omega : False).elim)
            refine m_blk 194 [(3, vi 4), (2, vi xs), (1, vi p0), (0, vr 0 0)] [vi 1, vi 4] C f_q_step_192_2 rfl ?_
            refine m_icmp_eq (tgt := 212) C e_q_step_194 (by decide) (by decide) (by decide) (fun c436 => (by omega : False).elim) (fun c436 => ?_)
            refine m_blk 199 [(3, vi 4), (2, vi xs), (1, vi p0), (0, vr 0 0)] [vi 2, vi 4] C f_q_step_197_2 rfl ?_
            refine m_icmp_eq (tgt := 212) C e_q_step_199 (by decide) (by decide) (by decide) (fun c437 => (by omega : False).elim) (fun c437 => ?_)
            refine m_blk 204 [(3, vi 4), (2, vi xs), (1, vi p0), (0, vr 0 0)] [vi 3, vi 4] C f_q_step_202_2 rfl ?_
            refine m_icmp_eq (tgt := 212) C e_q_step_204 (by decide) (by decide) (by decide) (fun c438 => (by omega : False).elim) (fun c438 => ?_)
            refine m_blk 209 [(3, vi 4), (2, vi xs), (1, vi p0), (0, vr 0 0)] [vi 5, vi 4] C f_q_step_207_2 rfl ?_
            refine m_icmp_ne (tgt := 224) C e_q_step_209 (by decide) (by decide) (by decide) (fun c439 => ?_) (fun c439 => (by omega : False).elim)
            refine m_blk 226 [(3, vi 4), (2, vi xs), (1, vi p0), (0, vr 0 0)] [vi 3, vi 4] C f_q_step_224_2 rfl ?_
            refine m_icmp_eq (tgt := 234) C e_q_step_226 (by decide) (by decide) (by decide) (fun c440 => (by omega : False).elim) (fun c440 => ?_)
            refine m_blk 231 [(3, vi 4), (2, vi xs), (1, vi p0), (0, vr 0 0)] [vi 4, vi 4] C f_q_step_229_2 rfl ?_
            refine m_icmp_ne (tgt := 238) C e_q_step_231 (by decide) (by decide) (by decide) (fun c441 => (by omega : False).elim) (fun c441 => ?_)
            refine m_blk 235 [(3, vi 4), (2, vi xs), (1, vi p0), (0, vr 0 0)] [vr 0 0] C f_q_step_234_1 rfl ?_
            refine m_callV C Rm Y [] [] (hq9 l D B H0 ad _ hS t433 p0 (by show A429 0 0 0 = p0 ∧ 0 ≤ p0 ∧ p0 ≤ 5; omega) (by show A429 0 0 24 ≤ A429 0 0 23 ∧ A429 0 0 23 ≤ A429 0 0 22; omega) pt_n431 (fun h9 => absurd ((g_n431 : A429 0 0 31 = 1).symm.trans h9) (by decide)) (nG.nm (A := A366) (nG.nm (A := (mu (mu (mu (mu (mu (mu A 0 0 28 (xs + 1)) 34 p0.toNat xs.toNat 4) 35 p0.toNat xs.toNat (-1)) 36 p0.toNat xs.toNat (-1)) 39 p0.toNat xs.toNat (-1)) 40 p0.toNat xs.toNat x18)) hG hE_n368) hE_n431) (by show A429 0 0 27 = 4 - (d : Int) ∧ (d : Int) ≤ 4; omega)) cl_Mo_209 rfl (by decide) rfl rfl e_q_step_235 rfl rfl rfl ⟨by show _ ≤ (32 + 4 * d : Nat); omega, by show _ ≤ (630 + 300 * d : Nat); omega⟩ ?_
            rintro v442 A443 ⟨rfl, hT_n445, hE_n445, raw_hb_n445, raw_hn_n445, raw_hw_n445, raw_hm_n445, raw_hG_n445, raw_hQ_n445⟩
            have hF_n445 := q434.trans (hE_n445.sub (fun _ _ _ h => h))
            show JM g D ad w0 A443 238 [(3, vi 4), (2, vi xs), (1, vi p0), (0, vr 0 0)] []
            have hb_n445 : A443 0 0 24 ≤ A443 0 0 23 ∧ A443 0 0 23 ≤ A443 0 0 22 := raw_hb_n445
            clear raw_hb_n445
            have hm_n445 : A429 0 0 24 ≤ A443 0 0 24 ∧ A429 0 0 28 ≤ A443 0 0 28 ∧ A429 0 0 29 ≤ A443 0 0 29 ∧ A429 0 0 30 ≤ A443 0 0 30 ∧ A443 0 0 27 = A429 0 0 27 := raw_hm_n445
            clear raw_hm_n445
            have pt_n445 : pT A443 := raw_hn_n445
            have k0_n445 : A443 0 0 0 = A429 0 0 0 := hE_n445 0 0 0 rfl
            have k22_n445 : A443 0 0 22 = A429 0 0 22 := hE_n445 0 0 22 rfl
            have hG_n445 : nG p0.toNat A443 := raw_hG_n445
            have hV_n445 : pV p0.toNat (4 - (d : Int) + 1) (mu A429 36 p0.toNat xs.toNat z432) A443 := raw_hw_n445
            clear raw_hw_n445
            have hQ_n445 : pQ p0.toNat (A429 0 0 28) (A429 0 0 29) (A429 0 0 30) (mu A429 36 p0.toNat xs.toNat z432) A443 := raw_hQ_n445
            clear raw_hQ_n445
            have r34_n445 : A443 34 p0.toNat xs.toNat = 4 := Eq.trans (hQ_n445.1 34 (by decide) (by decide) xs.toNat (by show ((xs.toNat : Nat) : Int) < A429 0 0 28; omega)) r34_n431
            have r35_n445 : A443 35 p0.toNat xs.toNat = (-1) := Eq.trans (hQ_n445.1 35 (by decide) (by decide) xs.toNat (by show ((xs.toNat : Nat) : Int) < A429 0 0 28; omega)) r35_n431
            have r36_n445 : A443 36 p0.toNat xs.toNat = z432 := Eq.trans (hQ_n445.1 36 (by decide) (by decide) xs.toNat (by show ((xs.toNat : Nat) : Int) < A429 0 0 28; omega)) (mu_at A429 36 p0.toNat xs.toNat z432)
            have r39_n445 : A443 39 p0.toNat xs.toNat = (-1) := Eq.trans (hQ_n445.1 39 (by decide) (by decide) xs.toNat (by show ((xs.toNat : Nat) : Int) < A429 0 0 28; omega)) r39_n431
            have r40_n445 : A443 40 p0.toNat xs.toNat = x18 := Eq.trans (hQ_n445.1 40 (by decide) (by decide) xs.toNat (by show ((xs.toNat : Nat) : Int) < A429 0 0 28; omega)) r40_n431
            have g_n445 : A443 0 0 31 = 1 := wr_1 (hT_n445 0 0 31) (fun h9 => absurd ((g_n431 : A429 0 0 31 = 1).symm.trans (hV_n445 h9).1) (by decide))
            refine m_blk 239 [(3, vi 4), (2, vi xs), (1, vi p0), (0, vr 0 0)] [vr 0 0] C f_q_step_238_1 rfl ?_
            refine m_getr C e_q_step_239 fg_Mo_33 rfl (by decide) rfl ?_
            refine m_blk 243 [(3, vi 4), (2, vi xs), (1, vi p0), (0, vr 0 0)] [vi p0, vr 18 0] C f_q_step_242_1 rfl ?_
            refine m_aald C p0.toNat e_q_step_243 rfl rfl rfl (by decide) (by decide) (by omega) (by show p0 < ((6 : Nat) : Int); omega) (mz _ _) ?_
            refine m_blk 246 [(3, vi 4), (2, vi xs), (1, vi p0), (0, vr 0 0)] [vr 0 0, vi xs, vr 38 p0.toNat] C f_q_step_244_2 rfl ?_
            obtain ⟨x446, hx446⟩ : ∃ x, A443 0 0 28 = x := ⟨_, rfl⟩
            have rx446 : 0 ≤ x446 ∧ x446 ≤ 16 := mrg hT_n445 hx446 rfl
            refine m_geti C e_q_step_246 fg_Mo_192 rfl (by decide) rfl x446 hx446 ?_
            refine m_iast C e_q_step_249 rfl (by omega) (by decide) (by omega) (by show xs < ((16 : Nat) : Int); omega) ?_
            have t447 : mTy (mu A443 38 p0.toNat xs.toNat x446) := hT_n445.mu (by show 0 ≤ x446 ∧ x446 ≤ 16; omega)
            have q448 := hF_n445.mu (f := 38) (k := p0.toNat) (j := xs.toNat) (z := x446) (by simp [pm])
            refine m_blk 252 [(3, vi 4), (2, vi xs), (1, vi p0), (0, vr 0 0)] [vi 3, vi 4] C f_q_step_250_2 rfl ?_
            refine m_icmp_ne (tgt := 259) C e_q_step_252 (by decide) (by decide) (by decide) (fun c449 => ?_) (fun c449 => (by omega : False).elim)
            refine m_blk 260 [(3, vi 4), (2, vi xs), (1, vi p0), (0, vr 0 0)] [vr 0 0] C f_q_step_259_1 rfl ?_
            refine m_getr C e_q_step_260 fg_Mo_30 rfl (by decide) rfl ?_
            refine m_blk 264 [(3, vi 4), (2, vi xs), (1, vi p0), (0, vr 0 0)] [vi p0, vr 17 0] C f_q_step_263_1 rfl ?_
            refine m_aald C p0.toNat e_q_step_264 rfl rfl rfl (by decide) (by decide) (by omega) (by show p0 < ((6 : Nat) : Int); omega) (mz _ _) ?_
            refine m_blk 267 [(3, vi 4), (2, vi xs), (1, vi p0), (0, vr 0 0)] [vr 0 0, vi xs, vr 37 p0.toNat] C f_q_step_265_2 rfl ?_
            refine m_geti C e_q_step_267 fg_Mo_192 rfl (by decide) rfl x446 hx446 ?_
            refine m_iast C e_q_step_270 rfl (by omega) (by decide) (by omega) (by show xs < ((16 : Nat) : Int); omega) ?_
            have t450 : mTy (mu (mu A443 38 p0.toNat xs.toNat x446) 37 p0.toNat xs.toNat x446) := t447.mu (by show 0 ≤ x446 ∧ x446 ≤ 16; omega)
            have q451 := q448.mu (f := 37) (k := p0.toNat) (j := xs.toNat) (z := x446) (by simp [pm])
            exact m_vret C Rm E e_q_step_271 ⟨rfl, t450, q451, (by show A443 0 0 24 ≤ A443 0 0 23 ∧ A443 0 0 23 ≤ A443 0 0 22; omega), pt_n445, (fun h9 => absurd ((g_n445 : A443 0 0 31 = 1).symm.trans h9) (by decide)), (by show A 0 0 24 ≤ A443 0 0 24 ∧ A 0 0 28 ≤ A443 0 0 28 ∧ A 0 0 29 ≤ A443 0 0 29 ∧ A 0 0 30 ≤ A443 0 0 30 ∧ A443 0 0 27 = A 0 0 27; omega), hG_n445, (pQ.mu (pQ.mu (pQ.trans (pQ.mu (pQ.fam (pQ.fam (pQ.mu (pQ.mu (pQ.mu (pQ.mu (pQ.mu pQ.rfl' (by omega) (by omega) (by omega)) (by omega) (by omega) (by omega)) (by omega) (by omega) (by omega)) (by omega) (by omega) (by omega)) (by omega) (by omega) (by omega)) (fam_nm _ hE_n368)) (fam_nm _ hE_n431)) (by omega) (by omega) (by omega)) (pQ.le hQ_n445 (by show A 0 0 28 ≤ A429 0 0 28; omega) (by show A 0 0 29 ≤ A429 0 0 29; omega) (by show A 0 0 30 ≤ A429 0 0 30; omega))) (by omega) (by omega) (by omega)) (by omega) (by omega) (by omega))⟩
        · have bt9 : A 0 0 24 < A 0 0 23 := pT_lt hn g0 (by omega)
          refine m_blk 104 [(3, vi 5), (2, vi xs), (1, vi p0), (0, vr 0 0)] [vr 0 0] C f_q_step_103_1 rfl ?_
          refine m_callV C Rm Y [] [] (q_next l D B H0 ad _ hS t19 (by show A 0 0 23 ≤ A 0 0 22; omega)) cl_Mo_176 rfl (by decide) rfl rfl e_q_step_104 rfl rfl rfl ⟨by show _ ≤ (32 + 4 * d : Nat); omega, by show _ ≤ (630 + 300 * d : Nat); omega⟩ ?_
          rintro v452 A453 ⟨rfl, hT_n455, hE_n455, raw_hw_n455, raw_hb_n455⟩
          have hF_n455 := q20.trans (hE_n455.sub (nm_pm _))
          show JM g D ad w0 A453 107 [(3, vi 5), (2, vi xs), (1, vi p0), (0, vr 0 0)] []
          obtain ⟨b1_n455, b2_n455, b3_n455, pt_n455⟩ : A 0 0 23 ≤ A453 0 0 24 ∧ A453 0 0 24 ≤ A453 0 0 23 ∧ A453 0 0 23 ≤ A453 0 0 22 ∧ pT A453 := raw_hb_n455 g0
          clear raw_hb_n455 raw_hw_n455
          have k0_n455 : A453 0 0 0 = A 0 0 0 := hE_n455 0 0 0 rfl
          have k22_n455 : A453 0 0 22 = A 0 0 22 := hE_n455 0 0 22 rfl
          have k27_n455 : A453 0 0 27 = A 0 0 27 := hE_n455 0 0 27 rfl
          have k28_n455 : A453 0 0 28 = (xs + 1) := hE_n455 0 0 28 rfl
          have k29_n455 : A453 0 0 29 = A 0 0 29 := hE_n455 0 0 29 rfl
          have k30_n455 : A453 0 0 30 = A 0 0 30 := hE_n455 0 0 30 rfl
          have r34_n455 : A453 34 p0.toNat xs.toNat = 5 := Eq.trans (hE_n455 34 p0.toNat xs.toNat rfl) (mu_at (mu A 0 0 28 (xs + 1)) 34 p0.toNat xs.toNat 5)
          have r35_n455 : A453 35 p0.toNat xs.toNat = (-1) := Eq.trans (hE_n455 35 p0.toNat xs.toNat rfl) (mu_at (mu (mu A 0 0 28 (xs + 1)) 34 p0.toNat xs.toNat 5) 35 p0.toNat xs.toNat (-1))
          have r36_n455 : A453 36 p0.toNat xs.toNat = (-1) := Eq.trans (hE_n455 36 p0.toNat xs.toNat rfl) (mu_at (mu (mu (mu A 0 0 28 (xs + 1)) 34 p0.toNat xs.toNat 5) 35 p0.toNat xs.toNat (-1)) 36 p0.toNat xs.toNat (-1))
          have r39_n455 : A453 39 p0.toNat xs.toNat = (-1) := Eq.trans (hE_n455 39 p0.toNat xs.toNat rfl) (mu_at (mu (mu (mu (mu A 0 0 28 (xs + 1)) 34 p0.toNat xs.toNat 5) 35 p0.toNat xs.toNat (-1)) 36 p0.toNat xs.toNat (-1)) 39 p0.toNat xs.toNat (-1))
          have r40_n455 : A453 40 p0.toNat xs.toNat = x18 := Eq.trans (hE_n455 40 p0.toNat xs.toNat rfl) (mu_at (mu (mu (mu (mu (mu A 0 0 28 (xs + 1)) 34 p0.toNat xs.toNat 5) 35 p0.toNat xs.toNat (-1)) 36 p0.toNat xs.toNat (-1)) 39 p0.toNat xs.toNat (-1)) 40 p0.toNat xs.toNat x18)
          rcases (show A453 0 0 31 = 0 ∨ A453 0 0 31 = 1 from by have w9 := hT_n455 0 0 31; have w8 : 0 ≤ A453 0 0 31 ∧ A453 0 0 31 ≤ 1 := w9; omega) with g_n455 | g_n455
          · refine m_blk 108 [(3, vi 5), (2, vi xs), (1, vi p0), (0, vr 0 0)] [vi 5] C f_q_step_107_1 rfl ?_
            refine m_if_eq (tgt := 121) C e_q_step_108 (by decide) (by decide) (fun c456 => (by omega : False).elim) (fun c456 => ?_)
            refine m_blk 113 [(3, vi 5), (2, vi xs), (1, vi p0), (0, vr 0 0)] [vi 1, vi 5] C f_q_step_111_2 rfl ?_
            refine m_icmp_eq (tgt := 121) C e_q_step_113 (by decide) (by decide) (by decide) (fun c457 => (by omega : False).elim) (fun c457 => ?_)
            refine m_blk 118 [(3, vi 5), (2, vi xs), (1, vi p0), (0, vr 0 0)] [vi 5, vi 5] C f_q_step_116_2 rfl ?_
            refine m_icmp_ne (tgt := 136) C e_q_step_118 (by decide) (by decide) (by decide) (fun c458 => (by omega : False).elim) (fun c458 => ?_)
            refine m_blk 122 [(3, vi 5), (2, vi xs), (1, vi p0), (0, vr 0 0)] [vr 0 0] C f_q_step_121_1 rfl ?_
            refine m_getr C e_q_step_122 fg_Mo_24 rfl (by decide) rfl ?_
            refine m_blk 126 [(3, vi 5), (2, vi xs), (1, vi p0), (0, vr 0 0)] [vi p0, vr 15 0] C f_q_step_125_1 rfl ?_
            refine m_aald C p0.toNat e_q_step_126 rfl rfl rfl (by decide) (by decide) (by omega) (by show p0 < ((6 : Nat) : Int); omega) (mz _ _) ?_
            refine m_blk 132 [(3, vi 5), (2, vi xs), (1, vi p0), (0, vr 0 0)] [vi 5, vi 0, vi 1, vr 0 0, vi xs, vr 35 p0.toNat] C f_q_step_127_5 rfl ?_
            refine m_callV C Rm Y [vi 1, vi 0, vi 5] [vi xs, vr 35 p0.toNat] (q_takes l D B H0 ad _ hS hT_n455 1 0 5 (by show 1 ≤ 1 ∧ 1 ≤ 4; omega) (by show 0 ≤ 0 ∧ 0 ≤ 2147483647 ∧ -1 ≤ 5 ∧ 5 ≤ 2147483647; omega) (by show A453 0 0 24 ≤ A453 0 0 23 ∧ A453 0 0 23 ≤ A453 0 0 22; omega) pt_n455) cl_Mo_198 rfl (by decide) rfl rfl e_q_step_132 rfl rfl rfl ⟨by show _ ≤ (32 + 4 * d : Nat); omega, by show _ ≤ (630 + 300 * d : Nat); omega⟩ ?_
            rintro v459 A460 ⟨z463, rfl, hT_n462, hE_n462, raw_hz_n462, raw_hb_n462, raw_hn_n462, raw_hw_n462, raw_hm_n462⟩
            have hF_n462 := hF_n455.trans (hE_n462.sub (nm_pm _))
            show JM g D ad w0 A460 135 [(3, vi 5), (2, vi xs), (1, vi p0), (0, vr 0 0)] [vi z463, vi xs, vr 35 p0.toNat]
            have hb_n462 : A460 0 0 24 ≤ A460 0 0 23 ∧ A460 0 0 23 ≤ A460 0 0 22 := raw_hb_n462
            clear raw_hb_n462
            have hm_n462 : A453 0 0 24 ≤ A460 0 0 24 := raw_hm_n462
            clear raw_hm_n462
            have hz_n462 : z463 = 0 ∨ 0 ≤ z463 ∧ z463 ≤ 5 := raw_hz_n462
            clear raw_hz_n462
            have pt_n462 : pT A460 := raw_hn_n462
            clear raw_hn_n462
            have k0_n462 : A460 0 0 0 = A453 0 0 0 := hE_n462 0 0 0 rfl
            have k22_n462 : A460 0 0 22 = A453 0 0 22 := hE_n462 0 0 22 rfl
            have k27_n462 : A460 0 0 27 = A453 0 0 27 := hE_n462 0 0 27 rfl
            have k28_n462 : A460 0 0 28 = A453 0 0 28 := hE_n462 0 0 28 rfl
            have k29_n462 : A460 0 0 29 = A453 0 0 29 := hE_n462 0 0 29 rfl
            have k30_n462 : A460 0 0 30 = A453 0 0 30 := hE_n462 0 0 30 rfl
            have r34_n462 : A460 34 p0.toNat xs.toNat = 5 := Eq.trans (hE_n462 34 p0.toNat xs.toNat rfl) r34_n455
            have r35_n462 : A460 35 p0.toNat xs.toNat = (-1) := Eq.trans (hE_n462 35 p0.toNat xs.toNat rfl) r35_n455
            have r36_n462 : A460 36 p0.toNat xs.toNat = (-1) := Eq.trans (hE_n462 36 p0.toNat xs.toNat rfl) r36_n455
            have r39_n462 : A460 39 p0.toNat xs.toNat = (-1) := Eq.trans (hE_n462 39 p0.toNat xs.toNat rfl) r39_n455
            have r40_n462 : A460 40 p0.toNat xs.toNat = x18 := Eq.trans (hE_n462 40 p0.toNat xs.toNat rfl) r40_n455
            rcases (show A460 0 0 31 = 0 ∨ A460 0 0 31 = 1 from by have w9 := hT_n462 0 0 31; have w8 : 0 ≤ A460 0 0 31 ∧ A460 0 0 31 ≤ 1 := w9; omega) with g_n462 | g_n462
            · have u_n462 : A453 0 0 31 = 0 ∧ A453 0 0 24 < A460 0 0 24 ∧ 0 ≤ z463 ∧ z463 ≤ 5 := raw_hw_n462 g_n462
              clear raw_hw_n462
              refine m_iast C e_q_step_135 rfl (by omega) (by decide) (by omega) (by show xs < ((16 : Nat) : Int); omega) ?_
              have t464 : mTy (mu A460 35 p0.toNat xs.toNat z463) := hT_n462.mu (by show (-1) ≤ z463 ∧ z463 ≤ 5; omega)
              have q465 := hF_n462.mu (f := 35) (k := p0.toNat) (j := xs.toNat) (z := z463) (by simp [pm])
              refine m_blk 137 [(3, vi 5), (2, vi xs), (1, vi p0), (0, vr 0 0)] [vi 5] C f_q_step_136_1 rfl ?_
              refine m_if_ne (tgt := 146) C e_q_step_137 (by decide) (by decide) (fun c466 => ?_) (fun c466 => (by omega : False).elim)
              refine m_blk 148 [(3, vi 5), (2, vi xs), (1, vi p0), (0, vr 0 0)] [vi 4, vi 5] C f_q_step_146_2 rfl ?_
              refine m_icmp_ne (tgt := 167) C e_q_step_148 (by decide) (by decide) (by decide) (fun c467 => ?_) (fun c467 => (by omega : False).elim)
              refine m_blk 169 [(3, vi 5), (2, vi xs), (1, vi p0), (0, vr 0 0)] [vi 5, vi 5] C f_q_step_167_2 rfl ?_
              refine m_icmp_ne (tgt := 192) C e_q_step_169 (by decide) (by decide) (by decide) (fun c468 => (by omega : False).elim) (fun c468 => ?_)
              refine m_blk 173 [(3, vi 5), (2, vi xs), (1, vi p0), (0, vr 0 0)] [vr 0 0] C f_q_step_172_1 rfl ?_
              refine m_getr C e_q_step_173 fg_Mo_27 rfl (by decide) rfl ?_
              refine m_blk 177 [(3, vi 5), (2, vi xs), (1, vi p0), (0, vr 0 0)] [vi p0, vr 16 0] C f_q_step_176_1 rfl ?_
              refine m_aald C p0.toNat e_q_step_177 rfl rfl rfl (by decide) (by decide) (by omega) (by show p0 < ((6 : Nat) : Int); omega) (mz _ _) ?_
              refine m_blk 183 [(3, vi 5), (2, vi xs), (1, vi p0), (0, vr 0 0)] [vr 0 0, vi 0, vi 3, vr 0 0, vi xs, vr 36 p0.toNat] C f_q_step_178_5 rfl ?_
              obtain ⟨x469, hx469⟩ : ∃ x, A460 0 0 0 = x := ⟨_, rfl⟩
              have rx469 : 0 ≤ x469 ∧ x469 ≤ 6 := mrg hT_n462 hx469 rfl
              refine m_geti C e_q_step_183 fg_Mo_105 rfl (by decide) rfl x469 hx469 ?_
              refine m_blk 188 [(3, vi 5), (2, vi xs), (1, vi p0), (0, vr 0 0)] [vi (x469 - 1), vi 0, vi 3, vr 0 0, vi xs, vr 36 p0.toNat] C f_q_step_186_2 rfl ?_
              refine m_callV C Rm Y [vi 3, vi 0, vi (x469 - 1)] [vi xs, vr 36 p0.toNat] (q_takes l D B H0 ad _ hS t464 3 0 (x469 - 1) (by show 1 ≤ 3 ∧ 3 ≤ 4; omega) (by show 0 ≤ 0 ∧ 0 ≤ 2147483647 ∧ -1 ≤ (x469 - 1) ∧ (x469 - 1) ≤ 2147483647; omega) (by show A460 0 0 24 ≤ A460 0 0 23 ∧ A460 0 0 23 ≤ A460 0 0 22; omega) pt_n462) cl_Mo_198 rfl (by decide) rfl rfl e_q_step_188 rfl rfl rfl ⟨by show _ ≤ (32 + 4 * d : Nat); omega, by show _ ≤ (630 + 300 * d : Nat); omega⟩ ?_
              rintro v470 A471 ⟨z474, rfl, hT_n473, hE_n473, raw_hz_n473, raw_hb_n473, raw_hn_n473, raw_hw_n473, raw_hm_n473⟩
              have hF_n473 := q465.trans (hE_n473.sub (nm_pm _))
              show JM g D ad w0 A471 191 [(3, vi 5), (2, vi xs), (1, vi p0), (0, vr 0 0)] [vi z474, vi xs, vr 36 p0.toNat]
              have hb_n473 : A471 0 0 24 ≤ A471 0 0 23 ∧ A471 0 0 23 ≤ A471 0 0 22 := raw_hb_n473
              clear raw_hb_n473
              have hm_n473 : A460 0 0 24 ≤ A471 0 0 24 := raw_hm_n473
              clear raw_hm_n473
              have hz_n473 : z474 = 0 ∨ 0 ≤ z474 ∧ z474 ≤ (x469 - 1) := raw_hz_n473
              clear raw_hz_n473
              have pt_n473 : pT A471 := raw_hn_n473
              clear raw_hn_n473
              have k0_n473 : A471 0 0 0 = A460 0 0 0 := hE_n473 0 0 0 rfl
              have k22_n473 : A471 0 0 22 = A460 0 0 22 := hE_n473 0 0 22 rfl
              have k27_n473 : A471 0 0 27 = A460 0 0 27 := hE_n473 0 0 27 rfl
              have k28_n473 : A471 0 0 28 = A460 0 0 28 := hE_n473 0 0 28 rfl
              have k29_n473 : A471 0 0 29 = A460 0 0 29 := hE_n473 0 0 29 rfl
              have k30_n473 : A471 0 0 30 = A460 0 0 30 := hE_n473 0 0 30 rfl
              have r34_n473 : A471 34 p0.toNat xs.toNat = 5 := Eq.trans (hE_n473 34 p0.toNat xs.toNat rfl) r34_n462
              have r35_n473 : A471 35 p0.toNat xs.toNat = z463 := Eq.trans (hE_n473 35 p0.toNat xs.toNat rfl) (mu_at A460 35 p0.toNat xs.toNat z463)
              have r36_n473 : A471 36 p0.toNat xs.toNat = (-1) := Eq.trans (hE_n473 36 p0.toNat xs.toNat rfl) r36_n462
              have r39_n473 : A471 39 p0.toNat xs.toNat = (-1) := Eq.trans (hE_n473 39 p0.toNat xs.toNat rfl) r39_n462
              have r40_n473 : A471 40 p0.toNat xs.toNat = x18 := Eq.trans (hE_n473 40 p0.toNat xs.toNat rfl) r40_n462
              rcases (show A471 0 0 31 = 0 ∨ A471 0 0 31 = 1 from by have w9 := hT_n473 0 0 31; have w8 : 0 ≤ A471 0 0 31 ∧ A471 0 0 31 ≤ 1 := w9; omega) with g_n473 | g_n473
              · have u_n473 : A460 0 0 31 = 0 ∧ A460 0 0 24 < A471 0 0 24 ∧ 0 ≤ z474 ∧ z474 ≤ (x469 - 1) := raw_hw_n473 g_n473
                clear raw_hw_n473
                refine m_iast C e_q_step_191 rfl (by omega) (by decide) (by omega) (by show xs < ((16 : Nat) : Int); omega) ?_
                have t475 : mTy (mu A471 36 p0.toNat xs.toNat z474) := hT_n473.mu (by show (-1) ≤ z474 ∧ z474 ≤ 9; omega)
                have q476 := hF_n473.mu (f := 36) (k := p0.toNat) (j := xs.toNat) (z := z474) (by simp [pm])
                refine m_blk 194 [(3, vi 5), (2, vi xs), (1, vi p0), (0, vr 0 0)] [vi 1, vi 5] C f_q_step_192_2 rfl ?_
                refine m_icmp_eq (tgt := 212) C e_q_step_194 (by decide) (by decide) (by decide) (fun c477 => (by omega : False).elim) (fun c477 => ?_)
                refine m_blk 199 [(3, vi 5), (2, vi xs), (1, vi p0), (0, vr 0 0)] [vi 2, vi 5] C f_q_step_197_2 rfl ?_
                refine m_icmp_eq (tgt := 212) C e_q_step_199 (by decide) (by decide) (by decide) (fun c478 => (by omega : False).elim) (fun c478 => ?_)
                refine m_blk 204 [(3, vi 5), (2, vi xs), (1, vi p0), (0, vr 0 0)] [vi 3, vi 5] C f_q_step_202_2 rfl ?_
                refine m_icmp_eq (tgt := 212) C e_q_step_204 (by decide) (by decide) (by decide) (fun c479 => (by omega : False).elim) (fun c479 => ?_)
                refine m_blk 209 [(3, vi 5), (2, vi xs), (1, vi p0), (0, vr 0 0)] [vi 5, vi 5] C f_q_step_207_2 rfl ?_
                refine m_icmp_ne (tgt := 224) C e_q_step_209 (by decide) (by decide) (by decide) (fun c480 => (by omega : False).elim) (fun c480 => ?_)
                refine m_blk 213 [(3, vi 5), (2, vi xs), (1, vi p0), (0, vr 0 0)] [vr 0 0] C f_q_step_212_1 rfl ?_
                refine m_getr C e_q_step_213 fg_Mo_36 rfl (by decide) rfl ?_
                refine m_blk 217 [(3, vi 5), (2, vi xs), (1, vi p0), (0, vr 0 0)] [vi p0, vr 19 0] C f_q_step_216_1 rfl ?_
                refine m_aald C p0.toNat e_q_step_217 rfl rfl rfl (by decide) (by decide) (by omega) (by show p0 < ((6 : Nat) : Int); omega) (mz _ _) ?_
                refine m_blk 220 [(3, vi 5), (2, vi xs), (1, vi p0), (0, vr 0 0)] [vr 0 0, vi xs, vr 39 p0.toNat] C f_q_step_218_2 rfl ?_
                refine m_callV C Rm Y [] [vi xs, vr 39 p0.toNat] ((q_E d).2 l D B H0 ad _ hS t475 p0 (by show A471 0 0 0 = p0 ∧ 0 ≤ p0 ∧ p0 ≤ 5; omega) (by show A471 0 0 24 ≤ A471 0 0 23 ∧ A471 0 0 23 ≤ A471 0 0 22; omega) pt_n473 (fun _ => by show A471 0 0 30 + 3 * A471 0 0 29 ≤ A471 0 0 24; omega) (nG.nm (A := (mu A460 35 p0.toNat xs.toNat z463)) (nG.nm (A := A453) (nG.nm (A := (mu (mu (mu (mu (mu (mu A 0 0 28 (xs + 1)) 34 p0.toNat xs.toNat 5) 35 p0.toNat xs.toNat (-1)) 36 p0.toNat xs.toNat (-1)) 39 p0.toNat xs.toNat (-1)) 40 p0.toNat xs.toNat x18)) hG hE_n455) hE_n462) hE_n473) (by show A471 0 0 27 = 4 - (d : Int) ∧ (d : Int) ≤ 4; omega)) cl_Mo_206 rfl (by decide) rfl rfl e_q_step_220 rfl rfl rfl ⟨by show _ ≤ (32 + 4 * d : Nat); omega, by show _ ≤ (630 + 300 * d : Nat); omega⟩ ?_
                rintro v481 A482 ⟨z485, rfl, hT_n484, hE_n484, raw_hz_n484, raw_hb_n484, raw_hn_n484, raw_hw_n484, raw_hm_n484, raw_hG_n484, raw_hK_n484⟩
                have hF_n484 := q476.trans (hE_n484.sub (em_pm _))
                show JM g D ad w0 A482 223 [(3, vi 5), (2, vi xs), (1, vi p0), (0, vr 0 0)] [vi z485, vi xs, vr 39 p0.toNat]
                have hz_n484 : 0 ≤ z485 ∧ z485 ≤ 119 := raw_hz_n484
                clear raw_hz_n484
                have hb_n484 : A482 0 0 24 ≤ A482 0 0 23 ∧ A482 0 0 23 ≤ A482 0 0 22 := raw_hb_n484
                clear raw_hb_n484
                have hm_n484 : A471 0 0 24 ≤ A482 0 0 24 ∧ A471 0 0 30 ≤ A482 0 0 30 ∧ A482 0 0 27 = A471 0 0 27 := raw_hm_n484
                clear raw_hm_n484
                have pt_n484 : pT A482 := raw_hn_n484
                have k0_n484 : A482 0 0 0 = A471 0 0 0 := hE_n484 0 0 0 rfl
                have k22_n484 : A482 0 0 22 = A471 0 0 22 := hE_n484 0 0 22 rfl
                have k28_n484 : A482 0 0 28 = A471 0 0 28 := hE_n484 0 0 28 rfl
                have k29_n484 : A482 0 0 29 = A471 0 0 29 := hE_n484 0 0 29 rfl
                have hG_n484 : nG p0.toNat A482 := raw_hG_n484
                have hK_n484 : nK p0.toNat (mu A471 36 p0.toNat xs.toNat z474) A482 := raw_hK_n484
                have r34_n484 : A482 34 p0.toNat xs.toNat = 5 := Eq.trans (hE_n484 34 p0.toNat xs.toNat rfl) r34_n473
                have r35_n484 : A482 35 p0.toNat xs.toNat = z463 := Eq.trans (hE_n484 35 p0.toNat xs.toNat rfl) r35_n473
                have r36_n484 : A482 36 p0.toNat xs.toNat = z474 := Eq.trans (hE_n484 36 p0.toNat xs.toNat rfl) (mu_at A471 36 p0.toNat xs.toNat z474)
                have r39_n484 : A482 39 p0.toNat xs.toNat = (-1) := Eq.trans (hE_n484 39 p0.toNat xs.toNat rfl) r39_n473
                have r40_n484 : A482 40 p0.toNat xs.toNat = x18 := Eq.trans (hE_n484 40 p0.toNat xs.toNat rfl) r40_n473
                rcases (show A482 0 0 31 = 0 ∨ A482 0 0 31 = 1 from by have w9 := hT_n484 0 0 31; have w8 : 0 ≤ A482 0 0 31 ∧ A482 0 0 31 ≤ 1 := w9; omega) with g_n484 | g_n484
                · have u_n484 : z485 < A482 0 0 30 ∧ A471 0 0 24 - A471 0 0 30 ≤ A482 0 0 24 - A482 0 0 30 := (raw_hw_n484 g_n484).2
                  refine m_iast C e_q_step_223 rfl (by omega) (by decide) (by omega) (by show xs < ((16 : Nat) : Int); omega) ?_
                  have t486 : mTy (mu A482 39 p0.toNat xs.toNat z485) := hT_n484.mu (by show (-1) ≤ z485 ∧ z485 ≤ 119; omega)
                  have q487 := hF_n484.mu (f := 39) (k := p0.toNat) (j := xs.toNat) (z := z485) (by simp [pm])
                  refine m_blk 226 [(3, vi 5), (2, vi xs), (1, vi p0), (0, vr 0 0)] [vi 3, vi 5] C f_q_step_224_2 rfl ?_
                  refine m_icmp_eq (tgt := 234) C e_q_step_226 (by decide) (by decide) (by decide) (fun c488 => (by omega : False).elim) (fun c488 => ?_)
                  refine m_blk 231 [(3, vi 5), (2, vi xs), (1, vi p0), (0, vr 0 0)] [vi 4, vi 5] C f_q_step_229_2 rfl ?_
                  refine m_icmp_ne (tgt := 238) C e_q_step_231 (by decide) (by decide) (by decide) (fun c489 => ?_) (fun c489 => (by omega : False).elim)
                  refine m_blk 239 [(3, vi 5), (2, vi xs), (1, vi p0), (0, vr 0 0)] [vr 0 0] C f_q_step_238_1 rfl ?_
                  refine m_getr C e_q_step_239 fg_Mo_33 rfl (by decide) rfl ?_
                  refine m_blk 243 [(3, vi 5), (2, vi xs), (1, vi p0), (0, vr 0 0)] [vi p0, vr 18 0] C f_q_step_242_1 rfl ?_
                  refine m_aald C p0.toNat e_q_step_243 rfl rfl rfl (by decide) (by decide) (by omega) (by show p0 < ((6 : Nat) : Int); omega) (mz _ _) ?_
                  refine m_blk 246 [(3, vi 5), (2, vi xs), (1, vi p0), (0, vr 0 0)] [vr 0 0, vi xs, vr 38 p0.toNat] C f_q_step_244_2 rfl ?_
                  obtain ⟨x490, hx490⟩ : ∃ x, A482 0 0 28 = x := ⟨_, rfl⟩
                  have rx490 : 0 ≤ x490 ∧ x490 ≤ 16 := mrg hT_n484 hx490 rfl
                  refine m_geti C e_q_step_246 fg_Mo_192 rfl (by decide) rfl x490 hx490 ?_
                  refine m_iast C e_q_step_249 rfl (by omega) (by decide) (by omega) (by show xs < ((16 : Nat) : Int); omega) ?_
                  have t491 : mTy (mu (mu A482 39 p0.toNat xs.toNat z485) 38 p0.toNat xs.toNat x490) := t486.mu (by show 0 ≤ x490 ∧ x490 ≤ 16; omega)
                  have q492 := q487.mu (f := 38) (k := p0.toNat) (j := xs.toNat) (z := x490) (by simp [pm])
                  refine m_blk 252 [(3, vi 5), (2, vi xs), (1, vi p0), (0, vr 0 0)] [vi 3, vi 5] C f_q_step_250_2 rfl ?_
                  refine m_icmp_ne (tgt := 259) C e_q_step_252 (by decide) (by decide) (by decide) (fun c493 => ?_) (fun c493 => (by omega : False).elim)
                  refine m_blk 260 [(3, vi 5), (2, vi xs), (1, vi p0), (0, vr 0 0)] [vr 0 0] C f_q_step_259_1 rfl ?_
                  refine m_getr C e_q_step_260 fg_Mo_30 rfl (by decide) rfl ?_
                  refine m_blk 264 [(3, vi 5), (2, vi xs), (1, vi p0), (0, vr 0 0)] [vi p0, vr 17 0] C f_q_step_263_1 rfl ?_
                  refine m_aald C p0.toNat e_q_step_264 rfl rfl rfl (by decide) (by decide) (by omega) (by show p0 < ((6 : Nat) : Int); omega) (mz _ _) ?_
                  refine m_blk 267 [(3, vi 5), (2, vi xs), (1, vi p0), (0, vr 0 0)] [vr 0 0, vi xs, vr 37 p0.toNat] C f_q_step_265_2 rfl ?_
                  refine m_geti C e_q_step_267 fg_Mo_192 rfl (by decide) rfl x490 hx490 ?_
                  refine m_iast C e_q_step_270 rfl (by omega) (by decide) (by omega) (by show xs < ((16 : Nat) : Int); omega) ?_
                  have t494 : mTy (mu (mu (mu A482 39 p0.toNat xs.toNat z485) 38 p0.toNat xs.toNat x490) 37 p0.toNat xs.toNat x490) := t491.mu (by show 0 ≤ x490 ∧ x490 ≤ 16; omega)
                  have q495 := q492.mu (f := 37) (k := p0.toNat) (j := xs.toNat) (z := x490) (by simp [pm])
                  exact m_vret C Rm E e_q_step_271 ⟨rfl, t494, q495, (by show A482 0 0 24 ≤ A482 0 0 23 ∧ A482 0 0 23 ≤ A482 0 0 22; omega), pt_n484, (pV.one' (i := xs.toNat) g0 (by show A 0 0 24 - A 0 0 30 - 3 * A 0 0 29 ≤ A482 0 0 24 - A482 0 0 30 - 3 * A482 0 0 29; omega) (by omega) (by show A482 0 0 28 = A 0 0 28 + 1; omega) (sG.mk r34_n484 r35_n484 r36_n484 (mu_at (mu (mu A482 39 p0.toNat xs.toNat z485) 38 p0.toNat xs.toNat x490) 37 p0.toNat xs.toNat x490) (mu_at (mu A482 39 p0.toNat xs.toNat z485) 38 p0.toNat xs.toNat x490) (mu_at A482 39 p0.toNat xs.toNat z485) r40_n484 (by decide) (by show _ ∧ _ ∧ _ ≤ A482 0 0 28; omega) (by show _ ∧ _ < A482 0 0 30; omega) (by omega) (by omega) (by omega) (by decide) (fun h9 => absurd h9 (by decide)) (by show 0 ≤ (4 - (d : Int)) ∧ (4 - (d : Int)) ≤ 4; omega) (by decide))), (by show A 0 0 24 ≤ A482 0 0 24 ∧ A 0 0 28 ≤ A482 0 0 28 ∧ A 0 0 29 ≤ A482 0 0 29 ∧ A 0 0 30 ≤ A482 0 0 30 ∧ A482 0 0 27 = A 0 0 27; omega), hG_n484, (pQ.mu (pQ.mu (pQ.mu (pQ.emk (A2 := (mu A471 36 p0.toNat xs.toNat z474)) (pQ.mu (pQ.fam (pQ.mu (pQ.fam (pQ.fam (pQ.mu (pQ.mu (pQ.mu (pQ.mu (pQ.mu pQ.rfl' (by omega) (by omega) (by omega)) (by omega) (by omega) (by omega)) (by omega) (by omega) (by omega)) (by omega) (by omega) (by omega)) (by omega) (by omega) (by omega)) (fam_nm _ hE_n455)) (fam_nm _ hE_n462)) (by omega) (by omega) (by omega)) (fam_nm _ hE_n473)) (by omega) (by omega) (by omega)) hE_n484 hK_n484 (by show A 0 0 30 ≤ A471 0 0 30; omega)) (by omega) (by omega) (by omega)) (by omega) (by omega) (by omega)) (by omega) (by omega) (by omega))⟩
                · refine m_iast C e_q_step_223 rfl (by omega) (by decide) (by omega) (by show xs < ((16 : Nat) : Int); omega) ?_
                  have t496 : mTy (mu A482 39 p0.toNat xs.toNat z485) := hT_n484.mu (by show (-1) ≤ z485 ∧ z485 ≤ 119; omega)
                  have q497 := hF_n484.mu (f := 39) (k := p0.toNat) (j := xs.toNat) (z := z485) (by simp [pm])
                  refine m_blk 226 [(3, vi 5), (2, vi xs), (1, vi p0), (0, vr 0 0)] [vi 3, vi 5] C f_q_step_224_2 rfl ?_
                  refine m_icmp_eq (tgt := 234) C e_q_step_226 (by decide) (by decide) (by decide) (fun c498 => (by omega : False).elim) (fun c498 => ?_)
                  refine m_blk 231 [(3, vi 5), (2, vi xs), (1, vi p0), (0, vr 0 0)] [vi 4, vi 5] C f_q_step_229_2 rfl ?_
                  refine m_icmp_ne (tgt := 238) C e_q_step_231 (by decide) (by decide) (by decide) (fun c499 => ?_) (fun c499 => (by omega : False).elim)
                  refine m_blk 239 [(3, vi 5), (2, vi xs), (1, vi p0), (0, vr 0 0)] [vr 0 0] C f_q_step_238_1 rfl ?_
                  refine m_getr C e_q_step_239 fg_Mo_33 rfl (by decide) rfl ?_
                  refine m_blk 243 [(3, vi 5), (2, vi xs), (1, vi p0), (0, vr 0 0)] [vi p0, vr 18 0] C f_q_step_242_1 rfl ?_
                  refine m_aald C p0.toNat e_q_step_243 rfl rfl rfl (by decide) (by decide) (by omega) (by show p0 < ((6 : Nat) : Int); omega) (mz _ _) ?_
                  refine m_blk 246 [(3, vi 5), (2, vi xs), (1, vi p0), (0, vr 0 0)] [vr 0 0, vi xs, vr 38 p0.toNat] C f_q_step_244_2 rfl ?_
                  obtain ⟨x500, hx500⟩ : ∃ x, A482 0 0 28 = x := ⟨_, rfl⟩
                  have rx500 : 0 ≤ x500 ∧ x500 ≤ 16 := mrg hT_n484 hx500 rfl
                  refine m_geti C e_q_step_246 fg_Mo_192 rfl (by decide) rfl x500 hx500 ?_
                  refine m_iast C e_q_step_249 rfl (by omega) (by decide) (by omega) (by show xs < ((16 : Nat) : Int); omega) ?_
                  have t501 : mTy (mu (mu A482 39 p0.toNat xs.toNat z485) 38 p0.toNat xs.toNat x500) := t496.mu (by show 0 ≤ x500 ∧ x500 ≤ 16; omega)
                  have q502 := q497.mu (f := 38) (k := p0.toNat) (j := xs.toNat) (z := x500) (by simp [pm])
                  refine m_blk 252 [(3, vi 5), (2, vi xs), (1, vi p0), (0, vr 0 0)] [vi 3, vi 5] C f_q_step_250_2 rfl ?_
                  refine m_icmp_ne (tgt := 259) C e_q_step_252 (by decide) (by decide) (by decide) (fun c503 => ?_) (fun c503 => (by omega : False).elim)
                  refine m_blk 260 [(3, vi 5), (2, vi xs), (1, vi p0), (0, vr 0 0)] [vr 0 0] C f_q_step_259_1 rfl ?_
                  refine m_getr C e_q_step_260 fg_Mo_30 rfl (by decide) rfl ?_
                  refine m_blk 264 [(3, vi 5), (2, vi xs), (1, vi p0), (0, vr 0 0)] [vi p0, vr 17 0] C f_q_step_263_1 rfl ?_
                  refine m_aald C p0.toNat e_q_step_264 rfl rfl rfl (by decide) (by decide) (by omega) (by show p0 < ((6 : Nat) : Int); omega) (mz _ _) ?_
                  refine m_blk 267 [(3, vi 5), (2, vi xs), (1, vi p0), (0, vr 0 0)] [vr 0 0, vi xs, vr 37 p0.toNat] C f_q_step_265_2 rfl ?_
                  refine m_geti C e_q_step_267 fg_Mo_192 rfl (by decide) rfl x500 hx500 ?_
                  refine m_iast C e_q_step_270 rfl (by omega) (by decide) (by omega) (by show xs < ((16 : Nat) : Int); omega) ?_
                  have t504 : mTy (mu (mu (mu A482 39 p0.toNat xs.toNat z485) 38 p0.toNat xs.toNat x500) 37 p0.toNat xs.toNat x500) := t501.mu (by show 0 ≤ x500 ∧ x500 ≤ 16; omega)
                  have q505 := q502.mu (f := 37) (k := p0.toNat) (j := xs.toNat) (z := x500) (by simp [pm])
                  exact m_vret C Rm E e_q_step_271 ⟨rfl, t504, q505, (by show A482 0 0 24 ≤ A482 0 0 23 ∧ A482 0 0 23 ≤ A482 0 0 22; omega), pt_n484, (fun h9 => absurd ((g_n484 : A482 0 0 31 = 1).symm.trans h9) (by decide)), (by show A 0 0 24 ≤ A482 0 0 24 ∧ A 0 0 28 ≤ A482 0 0 28 ∧ A 0 0 29 ≤ A482 0 0 29 ∧ A 0 0 30 ≤ A482 0 0 30 ∧ A482 0 0 27 = A 0 0 27; omega), hG_n484, (pQ.mu (pQ.mu (pQ.mu (pQ.emk (A2 := (mu A471 36 p0.toNat xs.toNat z474)) (pQ.mu (pQ.fam (pQ.mu (pQ.fam (pQ.fam (pQ.mu (pQ.mu (pQ.mu (pQ.mu (pQ.mu pQ.rfl' (by omega) (by omega) (by omega)) (by omega) (by omega) (by omega)) (by omega) (by omega) (by omega)) (by omega) (by omega) (by omega)) (by omega) (by omega) (by omega)) (fam_nm _ hE_n455)) (fam_nm _ hE_n462)) (by omega) (by omega) (by omega)) (fam_nm _ hE_n473)) (by omega) (by omega) (by omega)) hE_n484 hK_n484 (by show A 0 0 30 ≤ A471 0 0 30; omega)) (by omega) (by omega) (by omega)) (by omega) (by omega) (by omega)) (by omega) (by omega) (by omega))⟩
              · clear raw_hw_n473
                refine m_iast C e_q_step_191 rfl (by omega) (by decide) (by omega) (by show xs < ((16 : Nat) : Int); omega) ?_
                have t506 : mTy (mu A471 36 p0.toNat xs.toNat z474) := hT_n473.mu (by show (-1) ≤ z474 ∧ z474 ≤ 9; omega)
                have q507 := hF_n473.mu (f := 36) (k := p0.toNat) (j := xs.toNat) (z := z474) (by simp [pm])
                refine m_blk 194 [(3, vi 5), (2, vi xs), (1, vi p0), (0, vr 0 0)] [vi 1, vi 5] C f_q_step_192_2 rfl ?_
                refine m_icmp_eq (tgt := 212) C e_q_step_194 (by decide) (by decide) (by decide) (fun c508 => (by omega : False).elim) (fun c508 => ?_)
                refine m_blk 199 [(3, vi 5), (2, vi xs), (1, vi p0), (0, vr 0 0)] [vi 2, vi 5] C f_q_step_197_2 rfl ?_
                refine m_icmp_eq (tgt := 212) C e_q_step_199 (by decide) (by decide) (by decide) (fun c509 => (by omega : False).elim) (fun c509 => ?_)
                refine m_blk 204 [(3, vi 5), (2, vi xs), (1, vi p0), (0, vr 0 0)] [vi 3, vi 5] C f_q_step_202_2 rfl ?_
                refine m_icmp_eq (tgt := 212) C e_q_step_204 (by decide) (by decide) (by decide) (fun c510 => (by omega : False).elim) (fun c510 => ?_)
                refine m_blk 209 [(3, vi 5), (2, vi xs), (1, vi p0), (0, vr 0 0)] [vi 5, vi 5] C f_q_step_207_2 rfl ?_
                refine m_icmp_ne (tgt := 224) C e_q_step_209 (by decide) (by decide) (by decide) (fun c511 => (by omega : False).elim) (fun c511 => ?_)
                refine m_blk 213 [(3, vi 5), (2, vi xs), (1, vi p0), (0, vr 0 0)] [vr 0 0] C f_q_step_212_1 rfl ?_
                refine m_getr C e_q_step_213 fg_Mo_36 rfl (by decide) rfl ?_
                refine m_blk 217 [(3, vi 5), (2, vi xs), (1, vi p0), (0, vr 0 0)] [vi p0, vr 19 0] C f_q_step_216_1 rfl ?_
                refine m_aald C p0.toNat e_q_step_217 rfl rfl rfl (by decide) (by decide) (by omega) (by show p0 < ((6 : Nat) : Int); omega) (mz _ _) ?_
                refine m_blk 220 [(3, vi 5), (2, vi xs), (1, vi p0), (0, vr 0 0)] [vr 0 0, vi xs, vr 39 p0.toNat] C f_q_step_218_2 rfl ?_
                refine m_callV C Rm Y [] [vi xs, vr 39 p0.toNat] ((q_E d).2 l D B H0 ad _ hS t506 p0 (by show A471 0 0 0 = p0 ∧ 0 ≤ p0 ∧ p0 ≤ 5; omega) (by show A471 0 0 24 ≤ A471 0 0 23 ∧ A471 0 0 23 ≤ A471 0 0 22; omega) pt_n473 (fun h9 => absurd ((g_n473 : A471 0 0 31 = 1).symm.trans h9) (by decide)) (nG.nm (A := (mu A460 35 p0.toNat xs.toNat z463)) (nG.nm (A := A453) (nG.nm (A := (mu (mu (mu (mu (mu (mu A 0 0 28 (xs + 1)) 34 p0.toNat xs.toNat 5) 35 p0.toNat xs.toNat (-1)) 36 p0.toNat xs.toNat (-1)) 39 p0.toNat xs.toNat (-1)) 40 p0.toNat xs.toNat x18)) hG hE_n455) hE_n462) hE_n473) (by show A471 0 0 27 = 4 - (d : Int) ∧ (d : Int) ≤ 4; omega)) cl_Mo_206 rfl (by decide) rfl rfl e_q_step_220 rfl rfl rfl ⟨by show _ ≤ (32 + 4 * d : Nat); omega, by show _ ≤ (630 + 300 * d : Nat); omega⟩ ?_
                rintro v512 A513 ⟨z516, rfl, hT_n515, hE_n515, raw_hz_n515, raw_hb_n515, raw_hn_n515, raw_hw_n515, raw_hm_n515, raw_hG_n515, raw_hK_n515⟩
                have hF_n515 := q507.trans (hE_n515.sub (em_pm _))
                show JM g D ad w0 A513 223 [(3, vi 5), (2, vi xs), (1, vi p0), (0, vr 0 0)] [vi z516, vi xs, vr 39 p0.toNat]
                have hz_n515 : 0 ≤ z516 ∧ z516 ≤ 119 := raw_hz_n515
                clear raw_hz_n515
                have hb_n515 : A513 0 0 24 ≤ A513 0 0 23 ∧ A513 0 0 23 ≤ A513 0 0 22 := raw_hb_n515
                clear raw_hb_n515
                have hm_n515 : A471 0 0 24 ≤ A513 0 0 24 ∧ A471 0 0 30 ≤ A513 0 0 30 ∧ A513 0 0 27 = A471 0 0 27 := raw_hm_n515
                clear raw_hm_n515
                have pt_n515 : pT A513 := raw_hn_n515
                have k0_n515 : A513 0 0 0 = A471 0 0 0 := hE_n515 0 0 0 rfl
                have k22_n515 : A513 0 0 22 = A471 0 0 22 := hE_n515 0 0 22 rfl
                have k28_n515 : A513 0 0 28 = A471 0 0 28 := hE_n515 0 0 28 rfl
                have k29_n515 : A513 0 0 29 = A471 0 0 29 := hE_n515 0 0 29 rfl
                have hG_n515 : nG p0.toNat A513 := raw_hG_n515
                have hK_n515 : nK p0.toNat (mu A471 36 p0.toNat xs.toNat z474) A513 := raw_hK_n515
                have r34_n515 : A513 34 p0.toNat xs.toNat = 5 := Eq.trans (hE_n515 34 p0.toNat xs.toNat rfl) r34_n473
                have r35_n515 : A513 35 p0.toNat xs.toNat = z463 := Eq.trans (hE_n515 35 p0.toNat xs.toNat rfl) r35_n473
                have r36_n515 : A513 36 p0.toNat xs.toNat = z474 := Eq.trans (hE_n515 36 p0.toNat xs.toNat rfl) (mu_at A471 36 p0.toNat xs.toNat z474)
                have r39_n515 : A513 39 p0.toNat xs.toNat = (-1) := Eq.trans (hE_n515 39 p0.toNat xs.toNat rfl) r39_n473
                have r40_n515 : A513 40 p0.toNat xs.toNat = x18 := Eq.trans (hE_n515 40 p0.toNat xs.toNat rfl) r40_n473
                have g_n515 : A513 0 0 31 = 1 := wr_1 (hT_n515 0 0 31) (fun h9 => absurd ((g_n473 : A471 0 0 31 = 1).symm.trans (raw_hw_n515 h9).1) (by decide))
                refine m_iast C e_q_step_223 rfl (by omega) (by decide) (by omega) (by show xs < ((16 : Nat) : Int); omega) ?_
                have t517 : mTy (mu A513 39 p0.toNat xs.toNat z516) := hT_n515.mu (by show (-1) ≤ z516 ∧ z516 ≤ 119; omega)
                have q518 := hF_n515.mu (f := 39) (k := p0.toNat) (j := xs.toNat) (z := z516) (by simp [pm])
                refine m_blk 226 [(3, vi 5), (2, vi xs), (1, vi p0), (0, vr 0 0)] [vi 3, vi 5] C f_q_step_224_2 rfl ?_
                refine m_icmp_eq (tgt := 234) C e_q_step_226 (by decide) (by decide) (by decide) (fun c519 => (by omega : False).elim) (fun c519 => ?_)
                refine m_blk 231 [(3, vi 5), (2, vi xs), (1, vi p0), (0, vr 0 0)] [vi 4, vi 5] C f_q_step_229_2 rfl ?_
                refine m_icmp_ne (tgt := 238) C e_q_step_231 (by decide) (by decide) (by decide) (fun c520 => ?_) (fun c520 => (by omega : False).elim)
                refine m_blk 239 [(3, vi 5), (2, vi xs), (1, vi p0), (0, vr 0 0)] [vr 0 0] C f_q_step_238_1 rfl ?_
                refine m_getr C e_q_step_239 fg_Mo_33 rfl (by decide) rfl ?_
                refine m_blk 243 [(3, vi 5), (2, vi xs), (1, vi p0), (0, vr 0 0)] [vi p0, vr 18 0] C f_q_step_242_1 rfl ?_
                refine m_aald C p0.toNat e_q_step_243 rfl rfl rfl (by decide) (by decide) (by omega) (by show p0 < ((6 : Nat) : Int); omega) (mz _ _) ?_
                refine m_blk 246 [(3, vi 5), (2, vi xs), (1, vi p0), (0, vr 0 0)] [vr 0 0, vi xs, vr 38 p0.toNat] C f_q_step_244_2 rfl ?_
                obtain ⟨x521, hx521⟩ : ∃ x, A513 0 0 28 = x := ⟨_, rfl⟩
                have rx521 : 0 ≤ x521 ∧ x521 ≤ 16 := mrg hT_n515 hx521 rfl
                refine m_geti C e_q_step_246 fg_Mo_192 rfl (by decide) rfl x521 hx521 ?_
                refine m_iast C e_q_step_249 rfl (by omega) (by decide) (by omega) (by show xs < ((16 : Nat) : Int); omega) ?_
                have t522 : mTy (mu (mu A513 39 p0.toNat xs.toNat z516) 38 p0.toNat xs.toNat x521) := t517.mu (by show 0 ≤ x521 ∧ x521 ≤ 16; omega)
                have q523 := q518.mu (f := 38) (k := p0.toNat) (j := xs.toNat) (z := x521) (by simp [pm])
                refine m_blk 252 [(3, vi 5), (2, vi xs), (1, vi p0), (0, vr 0 0)] [vi 3, vi 5] C f_q_step_250_2 rfl ?_
                refine m_icmp_ne (tgt := 259) C e_q_step_252 (by decide) (by decide) (by decide) (fun c524 => ?_) (fun c524 => (by omega : False).elim)
                refine m_blk 260 [(3, vi 5), (2, vi xs), (1, vi p0), (0, vr 0 0)] [vr 0 0] C f_q_step_259_1 rfl ?_
                refine m_getr C e_q_step_260 fg_Mo_30 rfl (by decide) rfl ?_
                refine m_blk 264 [(3, vi 5), (2, vi xs), (1, vi p0), (0, vr 0 0)] [vi p0, vr 17 0] C f_q_step_263_1 rfl ?_
                refine m_aald C p0.toNat e_q_step_264 rfl rfl rfl (by decide) (by decide) (by omega) (by show p0 < ((6 : Nat) : Int); omega) (mz _ _) ?_
                refine m_blk 267 [(3, vi 5), (2, vi xs), (1, vi p0), (0, vr 0 0)] [vr 0 0, vi xs, vr 37 p0.toNat] C f_q_step_265_2 rfl ?_
                refine m_geti C e_q_step_267 fg_Mo_192 rfl (by decide) rfl x521 hx521 ?_
                refine m_iast C e_q_step_270 rfl (by omega) (by decide) (by omega) (by show xs < ((16 : Nat) : Int); omega) ?_
                have t525 : mTy (mu (mu (mu A513 39 p0.toNat xs.toNat z516) 38 p0.toNat xs.toNat x521) 37 p0.toNat xs.toNat x521) := t522.mu (by show 0 ≤ x521 ∧ x521 ≤ 16; omega)
                have q526 := q523.mu (f := 37) (k := p0.toNat) (j := xs.toNat) (z := x521) (by simp [pm])
                exact m_vret C Rm E e_q_step_271 ⟨rfl, t525, q526, (by show A513 0 0 24 ≤ A513 0 0 23 ∧ A513 0 0 23 ≤ A513 0 0 22; omega), pt_n515, (fun h9 => absurd ((g_n515 : A513 0 0 31 = 1).symm.trans h9) (by decide)), (by show A 0 0 24 ≤ A513 0 0 24 ∧ A 0 0 28 ≤ A513 0 0 28 ∧ A 0 0 29 ≤ A513 0 0 29 ∧ A 0 0 30 ≤ A513 0 0 30 ∧ A513 0 0 27 = A 0 0 27; omega), hG_n515, (pQ.mu (pQ.mu (pQ.mu (pQ.emk (A2 := (mu A471 36 p0.toNat xs.toNat z474)) (pQ.mu (pQ.fam (pQ.mu (pQ.fam (pQ.fam (pQ.mu (pQ.mu (pQ.mu (pQ.mu (pQ.mu pQ.rfl' (by omega) (by omega) (by omega)) (by omega) (by omega) (by omega)) (by omega) (by omega) (by omega)) (by omega) (by omega) (by omega)) (by omega) (by omega) (by omega)) (fam_nm _ hE_n455)) (fam_nm _ hE_n462)) (by omega) (by omega) (by omega)) (fam_nm _ hE_n473)) (by omega) (by omega) (by omega)) hE_n515 hK_n515 (by show A 0 0 30 ≤ A471 0 0 30; omega)) (by omega) (by omega) (by omega)) (by omega) (by omega) (by omega)) (by omega) (by omega) (by omega))⟩
            · clear raw_hw_n462
              refine m_iast C e_q_step_135 rfl (by omega) (by decide) (by omega) (by show xs < ((16 : Nat) : Int); omega) ?_
              have t527 : mTy (mu A460 35 p0.toNat xs.toNat z463) := hT_n462.mu (by show (-1) ≤ z463 ∧ z463 ≤ 5; omega)
              have q528 := hF_n462.mu (f := 35) (k := p0.toNat) (j := xs.toNat) (z := z463) (by simp [pm])
              refine m_blk 137 [(3, vi 5), (2, vi xs), (1, vi p0), (0, vr 0 0)] [vi 5] C f_q_step_136_1 rfl ?_
              refine m_if_ne (tgt := 146) C e_q_step_137 (by decide) (by decide) (fun c529 => ?_) (fun c529 => (by omega : False).elim)
              refine m_blk 148 [(3, vi 5), (2, vi xs), (1, vi p0), (0, vr 0 0)] [vi 4, vi 5] C f_q_step_146_2 rfl ?_
              refine m_icmp_ne (tgt := 167) C e_q_step_148 (by decide) (by decide) (by decide) (fun c530 => ?_) (fun c530 => (by omega : False).elim)
              refine m_blk 169 [(3, vi 5), (2, vi xs), (1, vi p0), (0, vr 0 0)] [vi 5, vi 5] C f_q_step_167_2 rfl ?_
              refine m_icmp_ne (tgt := 192) C e_q_step_169 (by decide) (by decide) (by decide) (fun c531 => (by omega : False).elim) (fun c531 => ?_)
              refine m_blk 173 [(3, vi 5), (2, vi xs), (1, vi p0), (0, vr 0 0)] [vr 0 0] C f_q_step_172_1 rfl ?_
              refine m_getr C e_q_step_173 fg_Mo_27 rfl (by decide) rfl ?_
              refine m_blk 177 [(3, vi 5), (2, vi xs), (1, vi p0), (0, vr 0 0)] [vi p0, vr 16 0] C f_q_step_176_1 rfl ?_
              refine m_aald C p0.toNat e_q_step_177 rfl rfl rfl (by decide) (by decide) (by omega) (by show p0 < ((6 : Nat) : Int); omega) (mz _ _) ?_
              refine m_blk 183 [(3, vi 5), (2, vi xs), (1, vi p0), (0, vr 0 0)] [vr 0 0, vi 0, vi 3, vr 0 0, vi xs, vr 36 p0.toNat] C f_q_step_178_5 rfl ?_
              obtain ⟨x532, hx532⟩ : ∃ x, A460 0 0 0 = x := ⟨_, rfl⟩
              have rx532 : 0 ≤ x532 ∧ x532 ≤ 6 := mrg hT_n462 hx532 rfl
              refine m_geti C e_q_step_183 fg_Mo_105 rfl (by decide) rfl x532 hx532 ?_
              refine m_blk 188 [(3, vi 5), (2, vi xs), (1, vi p0), (0, vr 0 0)] [vi (x532 - 1), vi 0, vi 3, vr 0 0, vi xs, vr 36 p0.toNat] C f_q_step_186_2 rfl ?_
              refine m_callV C Rm Y [vi 3, vi 0, vi (x532 - 1)] [vi xs, vr 36 p0.toNat] (q_takes l D B H0 ad _ hS t527 3 0 (x532 - 1) (by show 1 ≤ 3 ∧ 3 ≤ 4; omega) (by show 0 ≤ 0 ∧ 0 ≤ 2147483647 ∧ -1 ≤ (x532 - 1) ∧ (x532 - 1) ≤ 2147483647; omega) (by show A460 0 0 24 ≤ A460 0 0 23 ∧ A460 0 0 23 ≤ A460 0 0 22; omega) pt_n462) cl_Mo_198 rfl (by decide) rfl rfl e_q_step_188 rfl rfl rfl ⟨by show _ ≤ (32 + 4 * d : Nat); omega, by show _ ≤ (630 + 300 * d : Nat); omega⟩ ?_
              rintro v533 A534 ⟨z537, rfl, hT_n536, hE_n536, raw_hz_n536, raw_hb_n536, raw_hn_n536, raw_hw_n536, raw_hm_n536⟩
              have hF_n536 := q528.trans (hE_n536.sub (nm_pm _))
              show JM g D ad w0 A534 191 [(3, vi 5), (2, vi xs), (1, vi p0), (0, vr 0 0)] [vi z537, vi xs, vr 36 p0.toNat]
              have hb_n536 : A534 0 0 24 ≤ A534 0 0 23 ∧ A534 0 0 23 ≤ A534 0 0 22 := raw_hb_n536
              clear raw_hb_n536
              have hm_n536 : A460 0 0 24 ≤ A534 0 0 24 := raw_hm_n536
              clear raw_hm_n536
              have hz_n536 : z537 = 0 ∨ 0 ≤ z537 ∧ z537 ≤ (x532 - 1) := raw_hz_n536
              clear raw_hz_n536
              have pt_n536 : pT A534 := raw_hn_n536
              clear raw_hn_n536
              have k0_n536 : A534 0 0 0 = A460 0 0 0 := hE_n536 0 0 0 rfl
              have k22_n536 : A534 0 0 22 = A460 0 0 22 := hE_n536 0 0 22 rfl
              have k27_n536 : A534 0 0 27 = A460 0 0 27 := hE_n536 0 0 27 rfl
              have k28_n536 : A534 0 0 28 = A460 0 0 28 := hE_n536 0 0 28 rfl
              have k29_n536 : A534 0 0 29 = A460 0 0 29 := hE_n536 0 0 29 rfl
              have k30_n536 : A534 0 0 30 = A460 0 0 30 := hE_n536 0 0 30 rfl
              have r34_n536 : A534 34 p0.toNat xs.toNat = 5 := Eq.trans (hE_n536 34 p0.toNat xs.toNat rfl) r34_n462
              have r35_n536 : A534 35 p0.toNat xs.toNat = z463 := Eq.trans (hE_n536 35 p0.toNat xs.toNat rfl) (mu_at A460 35 p0.toNat xs.toNat z463)
              have r36_n536 : A534 36 p0.toNat xs.toNat = (-1) := Eq.trans (hE_n536 36 p0.toNat xs.toNat rfl) r36_n462
              have r39_n536 : A534 39 p0.toNat xs.toNat = (-1) := Eq.trans (hE_n536 39 p0.toNat xs.toNat rfl) r39_n462
              have r40_n536 : A534 40 p0.toNat xs.toNat = x18 := Eq.trans (hE_n536 40 p0.toNat xs.toNat rfl) r40_n462
              have g_n536 : A534 0 0 31 = 1 := wr_1 (hT_n536 0 0 31) (fun h9 => absurd ((g_n462 : A460 0 0 31 = 1).symm.trans (raw_hw_n536 h9).1) (by decide))
              clear raw_hw_n536
              refine m_iast C e_q_step_191 rfl (by omega) (by decide) (by omega) (by show xs < ((16 : Nat) : Int); omega) ?_
              have t538 : mTy (mu A534 36 p0.toNat xs.toNat z537) := hT_n536.mu (by show (-1) ≤ z537 ∧ z537 ≤ 9; omega)
              have q539 := hF_n536.mu (f := 36) (k := p0.toNat) (j := xs.toNat) (z := z537) (by simp [pm])
              refine m_blk 194 [(3, vi 5), (2, vi xs), (1, vi p0), (0, vr 0 0)] [vi 1, vi 5] C f_q_step_192_2 rfl ?_
              refine m_icmp_eq (tgt := 212) C e_q_step_194 (by decide) (by decide) (by decide) (fun c540 => (by omega : False).elim) (fun c540 => ?_)
              refine m_blk 199 [(3, vi 5), (2, vi xs), (1, vi p0), (0, vr 0 0)] [vi 2, vi 5] C f_q_step_197_2 rfl ?_
              refine m_icmp_eq (tgt := 212) C e_q_step_199 (by decide) (by decide) (by decide) (fun c541 => (by omega : False).elim) (fun c541 => ?_)
              refine m_blk 204 [(3, vi 5), (2, vi xs), (1, vi p0), (0, vr 0 0)] [vi 3, vi 5] C f_q_step_202_2 rfl ?_
              refine m_icmp_eq (tgt := 212) C e_q_step_204 (by decide) (by decide) (by decide) (fun c542 => (by omega : False).elim) (fun c542 => ?_)
              refine m_blk 209 [(3, vi 5), (2, vi xs), (1, vi p0), (0, vr 0 0)] [vi 5, vi 5] C f_q_step_207_2 rfl ?_
              refine m_icmp_ne (tgt := 224) C e_q_step_209 (by decide) (by decide) (by decide) (fun c543 => (by omega : False).elim) (fun c543 => ?_)
              refine m_blk 213 [(3, vi 5), (2, vi xs), (1, vi p0), (0, vr 0 0)] [vr 0 0] C f_q_step_212_1 rfl ?_
              refine m_getr C e_q_step_213 fg_Mo_36 rfl (by decide) rfl ?_
              refine m_blk 217 [(3, vi 5), (2, vi xs), (1, vi p0), (0, vr 0 0)] [vi p0, vr 19 0] C f_q_step_216_1 rfl ?_
              refine m_aald C p0.toNat e_q_step_217 rfl rfl rfl (by decide) (by decide) (by omega) (by show p0 < ((6 : Nat) : Int); omega) (mz _ _) ?_
              refine m_blk 220 [(3, vi 5), (2, vi xs), (1, vi p0), (0, vr 0 0)] [vr 0 0, vi xs, vr 39 p0.toNat] C f_q_step_218_2 rfl ?_
              refine m_callV C Rm Y [] [vi xs, vr 39 p0.toNat] ((q_E d).2 l D B H0 ad _ hS t538 p0 (by show A534 0 0 0 = p0 ∧ 0 ≤ p0 ∧ p0 ≤ 5; omega) (by show A534 0 0 24 ≤ A534 0 0 23 ∧ A534 0 0 23 ≤ A534 0 0 22; omega) pt_n536 (fun h9 => absurd ((g_n536 : A534 0 0 31 = 1).symm.trans h9) (by decide)) (nG.nm (A := (mu A460 35 p0.toNat xs.toNat z463)) (nG.nm (A := A453) (nG.nm (A := (mu (mu (mu (mu (mu (mu A 0 0 28 (xs + 1)) 34 p0.toNat xs.toNat 5) 35 p0.toNat xs.toNat (-1)) 36 p0.toNat xs.toNat (-1)) 39 p0.toNat xs.toNat (-1)) 40 p0.toNat xs.toNat x18)) hG hE_n455) hE_n462) hE_n536) (by show A534 0 0 27 = 4 - (d : Int) ∧ (d : Int) ≤ 4; omega)) cl_Mo_206 rfl (by decide) rfl rfl e_q_step_220 rfl rfl rfl ⟨by show _ ≤ (32 + 4 * d : Nat); omega, by show _ ≤ (630 + 300 * d : Nat); omega⟩ ?_
              rintro v544 A545 ⟨z548, rfl, hT_n547, hE_n547, raw_hz_n547, raw_hb_n547, raw_hn_n547, raw_hw_n547, raw_hm_n547, raw_hG_n547, raw_hK_n547⟩
              have hF_n547 := q539.trans (hE_n547.sub (em_pm _))
              show JM g D ad w0 A545 223 [(3, vi 5), (2, vi xs), (1, vi p0), (0, vr 0 0)] [vi z548, vi xs, vr 39 p0.toNat]
              have hz_n547 : 0 ≤ z548 ∧ z548 ≤ 119 := raw_hz_n547
              clear raw_hz_n547
              have hb_n547 : A545 0 0 24 ≤ A545 0 0 23 ∧ A545 0 0 23 ≤ A545 0 0 22 := raw_hb_n547
              clear raw_hb_n547
              have hm_n547 : A534 0 0 24 ≤ A545 0 0 24 ∧ A534 0 0 30 ≤ A545 0 0 30 ∧ A545 0 0 27 = A534 0 0 27 := raw_hm_n547
              clear raw_hm_n547
              have pt_n547 : pT A545 := raw_hn_n547
              have k0_n547 : A545 0 0 0 = A534 0 0 0 := hE_n547 0 0 0 rfl
              have k22_n547 : A545 0 0 22 = A534 0 0 22 := hE_n547 0 0 22 rfl
              have k28_n547 : A545 0 0 28 = A534 0 0 28 := hE_n547 0 0 28 rfl
              have k29_n547 : A545 0 0 29 = A534 0 0 29 := hE_n547 0 0 29 rfl
              have hG_n547 : nG p0.toNat A545 := raw_hG_n547
              have hK_n547 : nK p0.toNat (mu A534 36 p0.toNat xs.toNat z537) A545 := raw_hK_n547
              have r34_n547 : A545 34 p0.toNat xs.toNat = 5 := Eq.trans (hE_n547 34 p0.toNat xs.toNat rfl) r34_n536
              have r35_n547 : A545 35 p0.toNat xs.toNat = z463 := Eq.trans (hE_n547 35 p0.toNat xs.toNat rfl) r35_n536
              have r36_n547 : A545 36 p0.toNat xs.toNat = z537 := Eq.trans (hE_n547 36 p0.toNat xs.toNat rfl) (mu_at A534 36 p0.toNat xs.toNat z537)
              have r39_n547 : A545 39 p0.toNat xs.toNat = (-1) := Eq.trans (hE_n547 39 p0.toNat xs.toNat rfl) r39_n536
              have r40_n547 : A545 40 p0.toNat xs.toNat = x18 := Eq.trans (hE_n547 40 p0.toNat xs.toNat rfl) r40_n536
              have g_n547 : A545 0 0 31 = 1 := wr_1 (hT_n547 0 0 31) (fun h9 => absurd ((g_n536 : A534 0 0 31 = 1).symm.trans (raw_hw_n547 h9).1) (by decide))
              refine m_iast C e_q_step_223 rfl (by omega) (by decide) (by omega) (by show xs < ((16 : Nat) : Int); omega) ?_
              have t549 : mTy (mu A545 39 p0.toNat xs.toNat z548) := hT_n547.mu (by show (-1) ≤ z548 ∧ z548 ≤ 119; omega)
              have q550 := hF_n547.mu (f := 39) (k := p0.toNat) (j := xs.toNat) (z := z548) (by simp [pm])
              refine m_blk 226 [(3, vi 5), (2, vi xs), (1, vi p0), (0, vr 0 0)] [vi 3, vi 5] C f_q_step_224_2 rfl ?_
              refine m_icmp_eq (tgt := 234) C e_q_step_226 (by decide) (by decide) (by decide) (fun c551 => (by omega : False).elim) (fun c551 => ?_)
              refine m_blk 231 [(3, vi 5), (2, vi xs), (1, vi p0), (0, vr 0 0)] [vi 4, vi 5] C f_q_step_229_2 rfl ?_
              refine m_icmp_ne (tgt := 238) C e_q_step_231 (by decide) (by decide) (by decide) (fun c552 => ?_) (fun c552 => (by omega : False).elim)
              refine m_blk 239 [(3, vi 5), (2, vi xs), (1, vi p0), (0, vr 0 0)] [vr 0 0] C f_q_step_238_1 rfl ?_
              refine m_getr C e_q_step_239 fg_Mo_33 rfl (by decide) rfl ?_
              refine m_blk 243 [(3, vi 5), (2, vi xs), (1, vi p0), (0, vr 0 0)] [vi p0, vr 18 0] C f_q_step_242_1 rfl ?_
              refine m_aald C p0.toNat e_q_step_243 rfl rfl rfl (by decide) (by decide) (by omega) (by show p0 < ((6 : Nat) : Int); omega) (mz _ _) ?_
              refine m_blk 246 [(3, vi 5), (2, vi xs), (1, vi p0), (0, vr 0 0)] [vr 0 0, vi xs, vr 38 p0.toNat] C f_q_step_244_2 rfl ?_
              obtain ⟨x553, hx553⟩ : ∃ x, A545 0 0 28 = x := ⟨_, rfl⟩
              have rx553 : 0 ≤ x553 ∧ x553 ≤ 16 := mrg hT_n547 hx553 rfl
              refine m_geti C e_q_step_246 fg_Mo_192 rfl (by decide) rfl x553 hx553 ?_
              refine m_iast C e_q_step_249 rfl (by omega) (by decide) (by omega) (by show xs < ((16 : Nat) : Int); omega) ?_
              have t554 : mTy (mu (mu A545 39 p0.toNat xs.toNat z548) 38 p0.toNat xs.toNat x553) := t549.mu (by show 0 ≤ x553 ∧ x553 ≤ 16; omega)
              have q555 := q550.mu (f := 38) (k := p0.toNat) (j := xs.toNat) (z := x553) (by simp [pm])
              refine m_blk 252 [(3, vi 5), (2, vi xs), (1, vi p0), (0, vr 0 0)] [vi 3, vi 5] C f_q_step_250_2 rfl ?_
              refine m_icmp_ne (tgt := 259) C e_q_step_252 (by decide) (by decide) (by decide) (fun c556 => ?_) (fun c556 => (by omega : False).elim)
              refine m_blk 260 [(3, vi 5), (2, vi xs), (1, vi p0), (0, vr 0 0)] [vr 0 0] C f_q_step_259_1 rfl ?_
              refine m_getr C e_q_step_260 fg_Mo_30 rfl (by decide) rfl ?_
              refine m_blk 264 [(3, vi 5), (2, vi xs), (1, vi p0), (0, vr 0 0)] [vi p0, vr 17 0] C f_q_step_263_1 rfl ?_
              refine m_aald C p0.toNat e_q_step_264 rfl rfl rfl (by decide) (by decide) (by omega) (by show p0 < ((6 : Nat) : Int); omega) (mz _ _) ?_
              refine m_blk 267 [(3, vi 5), (2, vi xs), (1, vi p0), (0, vr 0 0)] [vr 0 0, vi xs, vr 37 p0.toNat] C f_q_step_265_2 rfl ?_
              refine m_geti C e_q_step_267 fg_Mo_192 rfl (by decide) rfl x553 hx553 ?_
              refine m_iast C e_q_step_270 rfl (by omega) (by decide) (by omega) (by show xs < ((16 : Nat) : Int); omega) ?_
              have t557 : mTy (mu (mu (mu A545 39 p0.toNat xs.toNat z548) 38 p0.toNat xs.toNat x553) 37 p0.toNat xs.toNat x553) := t554.mu (by show 0 ≤ x553 ∧ x553 ≤ 16; omega)
              have q558 := q555.mu (f := 37) (k := p0.toNat) (j := xs.toNat) (z := x553) (by simp [pm])
              exact m_vret C Rm E e_q_step_271 ⟨rfl, t557, q558, (by show A545 0 0 24 ≤ A545 0 0 23 ∧ A545 0 0 23 ≤ A545 0 0 22; omega), pt_n547, (fun h9 => absurd ((g_n547 : A545 0 0 31 = 1).symm.trans h9) (by decide)), (by show A 0 0 24 ≤ A545 0 0 24 ∧ A 0 0 28 ≤ A545 0 0 28 ∧ A 0 0 29 ≤ A545 0 0 29 ∧ A 0 0 30 ≤ A545 0 0 30 ∧ A545 0 0 27 = A 0 0 27; omega), hG_n547, (pQ.mu (pQ.mu (pQ.mu (pQ.emk (A2 := (mu A534 36 p0.toNat xs.toNat z537)) (pQ.mu (pQ.fam (pQ.mu (pQ.fam (pQ.fam (pQ.mu (pQ.mu (pQ.mu (pQ.mu (pQ.mu pQ.rfl' (by omega) (by omega) (by omega)) (by omega) (by omega) (by omega)) (by omega) (by omega) (by omega)) (by omega) (by omega) (by omega)) (by omega) (by omega) (by omega)) (fam_nm _ hE_n455)) (fam_nm _ hE_n462)) (by omega) (by omega) (by omega)) (fam_nm _ hE_n536)) (by omega) (by omega) (by omega)) hE_n547 hK_n547 (by show A 0 0 30 ≤ A534 0 0 30; omega)) (by omega) (by omega) (by omega)) (by omega) (by omega) (by omega)) (by omega) (by omega) (by omega))⟩
          · refine m_blk 108 [(3, vi 5), (2, vi xs), (1, vi p0), (0, vr 0 0)] [vi 5] C f_q_step_107_1 rfl ?_
            refine m_if_eq (tgt := 121) C e_q_step_108 (by decide) (by decide) (fun c559 => (by omega : False).elim) (fun c559 => ?_)
            refine m_blk 113 [(3, vi 5), (2, vi xs), (1, vi p0), (0, vr 0 0)] [vi 1, vi 5] C f_q_step_111_2 rfl ?_
            refine m_icmp_eq (tgt := 121) C e_q_step_113 (by decide) (by decide) (by decide) (fun c560 => (by omega : False).elim) (fun c560 => ?_)
            refine m_blk 118 [(3, vi 5), (2, vi xs), (1, vi p0), (0, vr 0 0)] [vi 5, vi 5] C f_q_step_116_2 rfl ?_
            refine m_icmp_ne (tgt := 136) C e_q_step_118 (by decide) (by decide) (by decide) (fun c561 => (by omega : False).elim) (fun c561 => ?_)
            refine m_blk 122 [(3, vi 5), (2, vi xs), (1, vi p0), (0, vr 0 0)] [vr 0 0] C f_q_step_121_1 rfl ?_
            refine m_getr C e_q_step_122 fg_Mo_24 rfl (by decide) rfl ?_
            refine m_blk 126 [(3, vi 5), (2, vi xs), (1, vi p0), (0, vr 0 0)] [vi p0, vr 15 0] C f_q_step_125_1 rfl ?_
            refine m_aald C p0.toNat e_q_step_126 rfl rfl rfl (by decide) (by decide) (by omega) (by show p0 < ((6 : Nat) : Int); omega) (mz _ _) ?_
            refine m_blk 132 [(3, vi 5), (2, vi xs), (1, vi p0), (0, vr 0 0)] [vi 5, vi 0, vi 1, vr 0 0, vi xs, vr 35 p0.toNat] C f_q_step_127_5 rfl ?_
            refine m_callV C Rm Y [vi 1, vi 0, vi 5] [vi xs, vr 35 p0.toNat] (q_takes l D B H0 ad _ hS hT_n455 1 0 5 (by show 1 ≤ 1 ∧ 1 ≤ 4; omega) (by show 0 ≤ 0 ∧ 0 ≤ 2147483647 ∧ -1 ≤ 5 ∧ 5 ≤ 2147483647; omega) (by show A453 0 0 24 ≤ A453 0 0 23 ∧ A453 0 0 23 ≤ A453 0 0 22; omega) pt_n455) cl_Mo_198 rfl (by decide) rfl rfl e_q_step_132 rfl rfl rfl ⟨by show _ ≤ (32 + 4 * d : Nat); omega, by show _ ≤ (630 + 300 * d : Nat); omega⟩ ?_
            rintro v562 A563 ⟨z566, rfl, hT_n565, hE_n565, raw_hz_n565, raw_hb_n565, raw_hn_n565, raw_hw_n565, raw_hm_n565⟩
            have hF_n565 := hF_n455.trans (hE_n565.sub (nm_pm _))
            show JM g D ad w0 A563 135 [(3, vi 5), (2, vi xs), (1, vi p0), (0, vr 0 0)] [vi z566, vi xs, vr 35 p0.toNat]
            have hb_n565 : A563 0 0 24 ≤ A563 0 0 23 ∧ A563 0 0 23 ≤ A563 0 0 22 := raw_hb_n565
            clear raw_hb_n565
            have hm_n565 : A453 0 0 24 ≤ A563 0 0 24 := raw_hm_n565
            clear raw_hm_n565
            have hz_n565 : z566 = 0 ∨ 0 ≤ z566 ∧ z566 ≤ 5 := raw_hz_n565
            clear raw_hz_n565
            have pt_n565 : pT A563 := raw_hn_n565
            clear raw_hn_n565
            have k0_n565 : A563 0 0 0 = A453 0 0 0 := hE_n565 0 0 0 rfl
            have k22_n565 : A563 0 0 22 = A453 0 0 22 := hE_n565 0 0 22 rfl
            have k27_n565 : A563 0 0 27 = A453 0 0 27 := hE_n565 0 0 27 rfl
            have k28_n565 : A563 0 0 28 = A453 0 0 28 := hE_n565 0 0 28 rfl
            have k29_n565 : A563 0 0 29 = A453 0 0 29 := hE_n565 0 0 29 rfl
            have k30_n565 : A563 0 0 30 = A453 0 0 30 := hE_n565 0 0 30 rfl
            have r34_n565 : A563 34 p0.toNat xs.toNat = 5 := Eq.trans (hE_n565 34 p0.toNat xs.toNat rfl) r34_n455
            have r35_n565 : A563 35 p0.toNat xs.toNat = (-1) := Eq.trans (hE_n565 35 p0.toNat xs.toNat rfl) r35_n455
            have r36_n565 : A563 36 p0.toNat xs.toNat = (-1) := Eq.trans (hE_n565 36 p0.toNat xs.toNat rfl) r36_n455
            have r39_n565 : A563 39 p0.toNat xs.toNat = (-1) := Eq.trans (hE_n565 39 p0.toNat xs.toNat rfl) r39_n455
            have r40_n565 : A563 40 p0.toNat xs.toNat = x18 := Eq.trans (hE_n565 40 p0.toNat xs.toNat rfl) r40_n455
            have g_n565 : A563 0 0 31 = 1 := wr_1 (hT_n565 0 0 31) (fun h9 => absurd ((g_n455 : A453 0 0 31 = 1).symm.trans (raw_hw_n565 h9).1) (by decide))
            clear raw_hw_n565
            refine m_iast C e_q_step_135 rfl (by omega) (by decide) (by omega) (by show xs < ((16 : Nat) : Int); omega) ?_
            have t567 : mTy (mu A563 35 p0.toNat xs.toNat z566) := hT_n565.mu (by show (-1) ≤ z566 ∧ z566 ≤ 5; omega)
            have q568 := hF_n565.mu (f := 35) (k := p0.toNat) (j := xs.toNat) (z := z566) (by simp [pm])
            refine m_blk 137 [(3, vi 5), (2, vi xs), (1, vi p0), (0, vr 0 0)] [vi 5] C f_q_step_136_1 rfl ?_
            refine m_if_ne (tgt := 146) C e_q_step_137 (by decide) (by decide) (fun c569 => ?_) (fun c569 => (by omega : False).elim)
            refine m_blk 148 [(3, vi 5), (2, vi xs), (1, vi p0), (0, vr 0 0)] [vi 4, vi 5] C f_q_step_146_2 rfl ?_
            refine m_icmp_ne (tgt := 167) C e_q_step_148 (by decide) (by decide) (by decide) (fun c570 => ?_) (fun c570 => (by omega : False).elim)
            refine m_blk 169 [(3, vi 5), (2, vi xs), (1, vi p0), (0, vr 0 0)] [vi 5, vi 5] C f_q_step_167_2 rfl ?_
            refine m_icmp_ne (tgt := 192) C e_q_step_169 (by decide) (by decide) (by decide) (fun c571 => (by omega : False).elim) (fun c571 => ?_)
            refine m_blk 173 [(3, vi 5), (2, vi xs), (1, vi p0), (0, vr 0 0)] [vr 0 0] C f_q_step_172_1 rfl ?_
            refine m_getr C e_q_step_173 fg_Mo_27 rfl (by decide) rfl ?_
            refine m_blk 177 [(3, vi 5), (2, vi xs), (1, vi p0), (0, vr 0 0)] [vi p0, vr 16 0] C f_q_step_176_1 rfl ?_
            refine m_aald C p0.toNat e_q_step_177 rfl rfl rfl (by decide) (by decide) (by omega) (by show p0 < ((6 : Nat) : Int); omega) (mz _ _) ?_
            refine m_blk 183 [(3, vi 5), (2, vi xs), (1, vi p0), (0, vr 0 0)] [vr 0 0, vi 0, vi 3, vr 0 0, vi xs, vr 36 p0.toNat] C f_q_step_178_5 rfl ?_
            obtain ⟨x572, hx572⟩ : ∃ x, A563 0 0 0 = x := ⟨_, rfl⟩
            have rx572 : 0 ≤ x572 ∧ x572 ≤ 6 := mrg hT_n565 hx572 rfl
            refine m_geti C e_q_step_183 fg_Mo_105 rfl (by decide) rfl x572 hx572 ?_
            refine m_blk 188 [(3, vi 5), (2, vi xs), (1, vi p0), (0, vr 0 0)] [vi (x572 - 1), vi 0, vi 3, vr 0 0, vi xs, vr 36 p0.toNat] C f_q_step_186_2 rfl ?_
            refine m_callV C Rm Y [vi 3, vi 0, vi (x572 - 1)] [vi xs, vr 36 p0.toNat] (q_takes l D B H0 ad _ hS t567 3 0 (x572 - 1) (by show 1 ≤ 3 ∧ 3 ≤ 4; omega) (by show 0 ≤ 0 ∧ 0 ≤ 2147483647 ∧ -1 ≤ (x572 - 1) ∧ (x572 - 1) ≤ 2147483647; omega) (by show A563 0 0 24 ≤ A563 0 0 23 ∧ A563 0 0 23 ≤ A563 0 0 22; omega) pt_n565) cl_Mo_198 rfl (by decide) rfl rfl e_q_step_188 rfl rfl rfl ⟨by show _ ≤ (32 + 4 * d : Nat); omega, by show _ ≤ (630 + 300 * d : Nat); omega⟩ ?_
            rintro v573 A574 ⟨z577, rfl, hT_n576, hE_n576, raw_hz_n576, raw_hb_n576, raw_hn_n576, raw_hw_n576, raw_hm_n576⟩
            have hF_n576 := q568.trans (hE_n576.sub (nm_pm _))
            show JM g D ad w0 A574 191 [(3, vi 5), (2, vi xs), (1, vi p0), (0, vr 0 0)] [vi z577, vi xs, vr 36 p0.toNat]
            have hb_n576 : A574 0 0 24 ≤ A574 0 0 23 ∧ A574 0 0 23 ≤ A574 0 0 22 := raw_hb_n576
            clear raw_hb_n576
            have hm_n576 : A563 0 0 24 ≤ A574 0 0 24 := raw_hm_n576
            clear raw_hm_n576
            have hz_n576 : z577 = 0 ∨ 0 ≤ z577 ∧ z577 ≤ (x572 - 1) := raw_hz_n576
            clear raw_hz_n576
            have pt_n576 : pT A574 := raw_hn_n576
            clear raw_hn_n576
            have k0_n576 : A574 0 0 0 = A563 0 0 0 := hE_n576 0 0 0 rfl
            have k22_n576 : A574 0 0 22 = A563 0 0 22 := hE_n576 0 0 22 rfl
            have k27_n576 : A574 0 0 27 = A563 0 0 27 := hE_n576 0 0 27 rfl
            have k28_n576 : A574 0 0 28 = A563 0 0 28 := hE_n576 0 0 28 rfl
            have k29_n576 : A574 0 0 29 = A563 0 0 29 := hE_n576 0 0 29 rfl
            have k30_n576 : A574 0 0 30 = A563 0 0 30 := hE_n576 0 0 30 rfl
            have r34_n576 : A574 34 p0.toNat xs.toNat = 5 := Eq.trans (hE_n576 34 p0.toNat xs.toNat rfl) r34_n565
            have r35_n576 : A574 35 p0.toNat xs.toNat = z566 := Eq.trans (hE_n576 35 p0.toNat xs.toNat rfl) (mu_at A563 35 p0.toNat xs.toNat z566)
            have r36_n576 : A574 36 p0.toNat xs.toNat = (-1) := Eq.trans (hE_n576 36 p0.toNat xs.toNat rfl) r36_n565
            have r39_n576 : A574 39 p0.toNat xs.toNat = (-1) := Eq.trans (hE_n576 39 p0.toNat xs.toNat rfl) r39_n565
            have r40_n576 : A574 40 p0.toNat xs.toNat = x18 := Eq.trans (hE_n576 40 p0.toNat xs.toNat rfl) r40_n565
            have g_n576 : A574 0 0 31 = 1 := wr_1 (hT_n576 0 0 31) (fun h9 => absurd ((g_n565 : A563 0 0 31 = 1).symm.trans (raw_hw_n576 h9).1) (by decide))
            clear raw_hw_n576
            refine m_iast C e_q_step_191 rfl (by omega) (by decide) (by omega) (by show xs < ((16 : Nat) : Int); omega) ?_
            have t578 : mTy (mu A574 36 p0.toNat xs.toNat z577) := hT_n576.mu (by show (-1) ≤ z577 ∧ z577 ≤ 9; omega)
            have q579 := hF_n576.mu (f := 36) (k := p0.toNat) (j := xs.toNat) (z := z577) (by simp [pm])
            refine m_blk 194 [(3, vi 5), (2, vi xs), (1, vi p0), (0, vr 0 0)] [vi 1, vi 5] C f_q_step_192_2 rfl ?_
            refine m_icmp_eq (tgt := 212) C e_q_step_194 (by decide) (by decide) (by decide) (fun c580 => (by omega : False).elim) (fun c580 => ?_)
            refine m_blk 199 [(3, vi 5), (2, vi xs), (1, vi p0), (0, vr 0 0)] [vi 2, vi 5] C f_q_step_197_2 rfl ?_
            refine m_icmp_eq (tgt := 212) C e_q_step_199 (by decide) (by decide) (by decide) (fun c581 => (by omega : False).elim) (fun c581 => ?_)
            refine m_blk 204 [(3, vi 5), (2, vi xs), (1, vi p0), (0, vr 0 0)] [vi 3, vi 5] C f_q_step_202_2 rfl ?_
            refine m_icmp_eq (tgt := 212) C e_q_step_204 (by decide) (by decide) (by decide) (fun c582 => (by omega : False).elim) (fun c582 => ?_)
            refine m_blk 209 [(3, vi 5), (2, vi xs), (1, vi p0), (0, vr 0 0)] [vi 5, vi 5] C f_q_step_207_2 rfl ?_
            refine m_icmp_ne (tgt := 224) C e_q_step_209 (by decide) (by decide) (by decide) (fun c583 => (by omega : False).elim) (fun c583 => ?_)
            refine m_blk 213 [(3, vi 5), (2, vi xs), (1, vi p0), (0, vr 0 0)] [vr 0 0] C f_q_step_212_1 rfl ?_
            refine m_getr C e_q_step_213 fg_Mo_36 rfl (by decide) rfl ?_
            refine m_blk 217 [(3, vi 5), (2, vi xs), (1, vi p0), (0, vr 0 0)] [vi p0, vr 19 0] C f_q_step_216_1 rfl ?_
            refine m_aald C p0.toNat e_q_step_217 rfl rfl rfl (by decide) (by decide) (by omega) (by show p0 < ((6 : Nat) : Int); omega) (mz _ _) ?_
            refine m_blk 220 [(3, vi 5), (2, vi xs), (1, vi p0), (0, vr 0 0)] [vr 0 0, vi xs, vr 39 p0.toNat] C f_q_step_218_2 rfl ?_
            refine m_callV C Rm Y [] [vi xs, vr 39 p0.toNat] ((q_E d).2 l D B H0 ad _ hS t578 p0 (by show A574 0 0 0 = p0 ∧ 0 ≤ p0 ∧ p0 ≤ 5; omega) (by show A574 0 0 24 ≤ A574 0 0 23 ∧ A574 0 0 23 ≤ A574 0 0 22; omega) pt_n576 (fun h9 => absurd ((g_n576 : A574 0 0 31 = 1).symm.trans h9) (by decide)) (nG.nm (A := (mu A563 35 p0.toNat xs.toNat z566)) (nG.nm (A := A453) (nG.nm (A := (mu (mu (mu (mu (mu (mu A 0 0 28 (xs + 1)) 34 p0.toNat xs.toNat 5) 35 p0.toNat xs.toNat (-1)) 36 p0.toNat xs.toNat (-1)) 39 p0.toNat xs.toNat (-1)) 40 p0.toNat xs.toNat x18)) hG hE_n455) hE_n565) hE_n576) (by show A574 0 0 27 = 4 - (d : Int) ∧ (d : Int) ≤ 4; omega)) cl_Mo_206 rfl (by decide) rfl rfl e_q_step_220 rfl rfl rfl ⟨by show _ ≤ (32 + 4 * d : Nat); omega, by show _ ≤ (630 + 300 * d : Nat); omega⟩ ?_
            rintro v584 A585 ⟨z588, rfl, hT_n587, hE_n587, raw_hz_n587, raw_hb_n587, raw_hn_n587, raw_hw_n587, raw_hm_n587, raw_hG_n587, raw_hK_n587⟩
            have hF_n587 := q579.trans (hE_n587.sub (em_pm _))
            show JM g D ad w0 A585 223 [(3, vi 5), (2, vi xs), (1, vi p0), (0, vr 0 0)] [vi z588, vi xs, vr 39 p0.toNat]
            have hz_n587 : 0 ≤ z588 ∧ z588 ≤ 119 := raw_hz_n587
            clear raw_hz_n587
            have hb_n587 : A585 0 0 24 ≤ A585 0 0 23 ∧ A585 0 0 23 ≤ A585 0 0 22 := raw_hb_n587
            clear raw_hb_n587
            have hm_n587 : A574 0 0 24 ≤ A585 0 0 24 ∧ A574 0 0 30 ≤ A585 0 0 30 ∧ A585 0 0 27 = A574 0 0 27 := raw_hm_n587
            clear raw_hm_n587
            have pt_n587 : pT A585 := raw_hn_n587
            have k0_n587 : A585 0 0 0 = A574 0 0 0 := hE_n587 0 0 0 rfl
            have k22_n587 : A585 0 0 22 = A574 0 0 22 := hE_n587 0 0 22 rfl
            have k28_n587 : A585 0 0 28 = A574 0 0 28 := hE_n587 0 0 28 rfl
            have k29_n587 : A585 0 0 29 = A574 0 0 29 := hE_n587 0 0 29 rfl
            have hG_n587 : nG p0.toNat A585 := raw_hG_n587
            have hK_n587 : nK p0.toNat (mu A574 36 p0.toNat xs.toNat z577) A585 := raw_hK_n587
            have r34_n587 : A585 34 p0.toNat xs.toNat = 5 := Eq.trans (hE_n587 34 p0.toNat xs.toNat rfl) r34_n576
            have r35_n587 : A585 35 p0.toNat xs.toNat = z566 := Eq.trans (hE_n587 35 p0.toNat xs.toNat rfl) r35_n576
            have r36_n587 : A585 36 p0.toNat xs.toNat = z577 := Eq.trans (hE_n587 36 p0.toNat xs.toNat rfl) (mu_at A574 36 p0.toNat xs.toNat z577)
            have r39_n587 : A585 39 p0.toNat xs.toNat = (-1) := Eq.trans (hE_n587 39 p0.toNat xs.toNat rfl) r39_n576
            have r40_n587 : A585 40 p0.toNat xs.toNat = x18 := Eq.trans (hE_n587 40 p0.toNat xs.toNat rfl) r40_n576
            have g_n587 : A585 0 0 31 = 1 := wr_1 (hT_n587 0 0 31) (fun h9 => absurd ((g_n576 : A574 0 0 31 = 1).symm.trans (raw_hw_n587 h9).1) (by decide))
            refine m_iast C e_q_step_223 rfl (by omega) (by decide) (by omega) (by show xs < ((16 : Nat) : Int); omega) ?_
            have t589 : mTy (mu A585 39 p0.toNat xs.toNat z588) := hT_n587.mu (by show (-1) ≤ z588 ∧ z588 ≤ 119; omega)
            have q590 := hF_n587.mu (f := 39) (k := p0.toNat) (j := xs.toNat) (z := z588) (by simp [pm])
            refine m_blk 226 [(3, vi 5), (2, vi xs), (1, vi p0), (0, vr 0 0)] [vi 3, vi 5] C f_q_step_224_2 rfl ?_
            refine m_icmp_eq (tgt := 234) C e_q_step_226 (by decide) (by decide) (by decide) (fun c591 => (by omega : False).elim) (fun c591 => ?_)
            refine m_blk 231 [(3, vi 5), (2, vi xs), (1, vi p0), (0, vr 0 0)] [vi 4, vi 5] C f_q_step_229_2 rfl ?_
            refine m_icmp_ne (tgt := 238) C e_q_step_231 (by decide) (by decide) (by decide) (fun c592 => ?_) (fun c592 => (by omega : False).elim)
            refine m_blk 239 [(3, vi 5), (2, vi xs), (1, vi p0), (0, vr 0 0)] [vr 0 0] C f_q_step_238_1 rfl ?_
            refine m_getr C e_q_step_239 fg_Mo_33 rfl (by decide) rfl ?_
            refine m_blk 243 [(3, vi 5), (2, vi xs), (1, vi p0), (0, vr 0 0)] [vi p0, vr 18 0] C f_q_step_242_1 rfl ?_
            refine m_aald C p0.toNat e_q_step_243 rfl rfl rfl (by decide) (by decide) (by omega) (by show p0 < ((6 : Nat) : Int); omega) (mz _ _) ?_
            refine m_blk 246 [(3, vi 5), (2, vi xs), (1, vi p0), (0, vr 0 0)] [vr 0 0, vi xs, vr 38 p0.toNat] C f_q_step_244_2 rfl ?_
            obtain ⟨x593, hx593⟩ : ∃ x, A585 0 0 28 = x := ⟨_, rfl⟩
            have rx593 : 0 ≤ x593 ∧ x593 ≤ 16 := mrg hT_n587 hx593 rfl
            refine m_geti C e_q_step_246 fg_Mo_192 rfl (by decide) rfl x593 hx593 ?_
            refine m_iast C e_q_step_249 rfl (by omega) (by decide) (by omega) (by show xs < ((16 : Nat) : Int); omega) ?_
            have t594 : mTy (mu (mu A585 39 p0.toNat xs.toNat z588) 38 p0.toNat xs.toNat x593) := t589.mu (by show 0 ≤ x593 ∧ x593 ≤ 16; omega)
            have q595 := q590.mu (f := 38) (k := p0.toNat) (j := xs.toNat) (z := x593) (by simp [pm])
            refine m_blk 252 [(3, vi 5), (2, vi xs), (1, vi p0), (0, vr 0 0)] [vi 3, vi 5] C f_q_step_250_2 rfl ?_
            refine m_icmp_ne (tgt := 259) C e_q_step_252 (by decide) (by decide) (by decide) (fun c596 => ?_) (fun c596 => (by omega : False).elim)
            refine m_blk 260 [(3, vi 5), (2, vi xs), (1, vi p0), (0, vr 0 0)] [vr 0 0] C f_q_step_259_1 rfl ?_
            refine m_getr C e_q_step_260 fg_Mo_30 rfl (by decide) rfl ?_
            refine m_blk 264 [(3, vi 5), (2, vi xs), (1, vi p0), (0, vr 0 0)] [vi p0, vr 17 0] C f_q_step_263_1 rfl ?_
            refine m_aald C p0.toNat e_q_step_264 rfl rfl rfl (by decide) (by decide) (by omega) (by show p0 < ((6 : Nat) : Int); omega) (mz _ _) ?_
            refine m_blk 267 [(3, vi 5), (2, vi xs), (1, vi p0), (0, vr 0 0)] [vr 0 0, vi xs, vr 37 p0.toNat] C f_q_step_265_2 rfl ?_
            refine m_geti C e_q_step_267 fg_Mo_192 rfl (by decide) rfl x593 hx593 ?_
            refine m_iast C e_q_step_270 rfl (by omega) (by decide) (by omega) (by show xs < ((16 : Nat) : Int); omega) ?_
            have t597 : mTy (mu (mu (mu A585 39 p0.toNat xs.toNat z588) 38 p0.toNat xs.toNat x593) 37 p0.toNat xs.toNat x593) := t594.mu (by show 0 ≤ x593 ∧ x593 ≤ 16; omega)
            have q598 := q595.mu (f := 37) (k := p0.toNat) (j := xs.toNat) (z := x593) (by simp [pm])
            exact m_vret C Rm E e_q_step_271 ⟨rfl, t597, q598, (by show A585 0 0 24 ≤ A585 0 0 23 ∧ A585 0 0 23 ≤ A585 0 0 22; omega), pt_n587, (fun h9 => absurd ((g_n587 : A585 0 0 31 = 1).symm.trans h9) (by decide)), (by show A 0 0 24 ≤ A585 0 0 24 ∧ A 0 0 28 ≤ A585 0 0 28 ∧ A 0 0 29 ≤ A585 0 0 29 ∧ A 0 0 30 ≤ A585 0 0 30 ∧ A585 0 0 27 = A 0 0 27; omega), hG_n587, (pQ.mu (pQ.mu (pQ.mu (pQ.emk (A2 := (mu A574 36 p0.toNat xs.toNat z577)) (pQ.mu (pQ.fam (pQ.mu (pQ.fam (pQ.fam (pQ.mu (pQ.mu (pQ.mu (pQ.mu (pQ.mu pQ.rfl' (by omega) (by omega) (by omega)) (by omega) (by omega) (by omega)) (by omega) (by omega) (by omega)) (by omega) (by omega) (by omega)) (by omega) (by omega) (by omega)) (fam_nm _ hE_n455)) (fam_nm _ hE_n565)) (by omega) (by omega) (by omega)) (fam_nm _ hE_n576)) (by omega) (by omega) (by omega)) hE_n587 hK_n587 (by show A 0 0 30 ≤ A574 0 0 30; omega)) (by omega) (by omega) (by omega)) (by omega) (by omega) (by omega)) (by omega) (by omega) (by omega))⟩
      · refine m_blk 26 [(0, vr 0 0)] [vi 1, vr 0 0] C f_q_step_24_2 rfl ?_
        refine m_putz C e_q_step_26 fp_Mo_155 rfl (by decide) rfl (Or.inr rfl) ?_
        have t599 : mTy (mu A 0 0 31 1) := hT.mu (by show 0 ≤ 1 ∧ 1 ≤ 1; omega)
        have q600 := hE0.mu (f := 0) (k := 0) (j := 31) (z := 1) (by simp [pm])
        exact m_vret C Rm E e_q_step_29 ⟨rfl, t599, q600, (by show A 0 0 24 ≤ A 0 0 23 ∧ A 0 0 23 ≤ A 0 0 22; omega), (fun h9 => absurd (show (1 : Int) = 0 from h9) (by decide)), (fun h9 => absurd (show (1 : Int) = 0 from h9) (by decide)), (by show A 0 0 24 ≤ A 0 0 24 ∧ A 0 0 28 ≤ A 0 0 28 ∧ A 0 0 29 ≤ A 0 0 29 ∧ A 0 0 30 ≤ A 0 0 30 ∧ A 0 0 27 = A 0 0 27; omega), hG, pQ.rfl'⟩
  · refine m_blk 1 [(0, vr 0 0)] [vr 0 0] C f_q_step_0_1 rfl ?_
    refine m_geti C e_q_step_1 fg_Mo_155 rfl (by decide) rfl 1 g0 ?_
    refine m_if_ne (tgt := 24) C e_q_step_4 (by decide) (by decide) (fun c601 => ?_) (fun c601 => (by omega : False).elim)
    refine m_blk 26 [(0, vr 0 0)] [vi 1, vr 0 0] C f_q_step_24_2 rfl ?_
    refine m_putz C e_q_step_26 fp_Mo_155 rfl (by decide) rfl (Or.inr rfl) ?_
    have t602 : mTy (mu A 0 0 31 1) := hT.mu (by show 0 ≤ 1 ∧ 1 ≤ 1; omega)
    have q603 := hE0.mu (f := 0) (k := 0) (j := 31) (z := 1) (by simp [pm])
    exact m_vret C Rm E e_q_step_29 ⟨rfl, t602, q603, (by show A 0 0 24 ≤ A 0 0 23 ∧ A 0 0 23 ≤ A 0 0 22; omega), (fun h9 => absurd (show (1 : Int) = 0 from h9) (by decide)), (fun h9 => absurd (show (1 : Int) = 0 from h9) (by decide)), (by show A 0 0 24 ≤ A 0 0 24 ∧ A 0 0 28 ≤ A 0 0 28 ∧ A 0 0 29 ≤ A 0 0 29 ∧ A 0 0 30 ≤ A 0 0 30 ∧ A 0 0 27 = A 0 0 27; omega), hG, pQ.rfl'⟩

theorem f_q_block_0_1 : mblkB b_Mo_block [(0, .aload_n 0, vi 0)] = true := by decide +kernel
theorem e_q_block_1 : decode b_Mo_block 1 = .ok (.invokevirtual 179, 3) := by decide +kernel
theorem f_q_block_4_2 : mblkB b_Mo_block [(4, .aload_n 0, vi 0), (5, .bipush 59, vi 59)] = true := by decide +kernel
theorem e_q_block_7 : decode b_Mo_block 7 = .ok (.invokevirtual 173, 3) := by decide +kernel
theorem e_q_block_10 : decode b_Mo_block 10 = .ok (.ifCond .eq 14, 3) := by decide +kernel
theorem f_q_block_13_1 : mblkB b_Mo_block [(13, .aload_n 0, vi 0)] = true := by decide +kernel
theorem e_q_block_14 : decode b_Mo_block 14 = .ok (.invokevirtual 176, 3) := by decide +kernel
theorem f_q_block_17_1 : mblkB b_Mo_block [(17, .aload_n 0, vi 0)] = true := by decide +kernel
theorem e_q_block_18 : decode b_Mo_block 18 = .ok (.invokevirtual 179, 3) := by decide +kernel
theorem f_q_block_21_1 : mblkB b_Mo_block [(21, .goto (-17), vi 4)] = true := by decide +kernel
theorem e_q_block_24 : decode b_Mo_block 24 = .ok (.return_, 1) := by decide +kernel
set_option maxHeartbeats 40000000 in
set_option maxRecDepth 100000 in
theorem q_block (d : Nat) (hq9 : S_step d) : S_block d := by
  intro l D B H0 ad A hS hT p0 hp hb hn hl hG ho
  refine m_met (by decide) rfl (fun g w0 C Rm Y E => ?_)
  have hE0 : mEq (pm p0.toNat) A A := mEq.rfl'
  show JM g D ad w0 A 0 [(0, vr 0 0)] []
  obtain ⟨xs, hxs⟩ : ∃ x, A 0 0 28 = x := ⟨_, rfl⟩
  have rxs : 0 ≤ xs ∧ xs ≤ 16 := mrg hT hxs rfl
  have rt : A 0 0 22 ≤ 120 := (hT 0 0 22).2
  have rd9 : 0 ≤ A 0 0 29 ∧ 0 ≤ A 0 0 30 := ⟨(hT 0 0 29).1, (hT 0 0 30).1⟩
  rcases (show A 0 0 31 = 0 ∨ A 0 0 31 = 1 from by have w8 : 0 ≤ A 0 0 31 ∧ A 0 0 31 ≤ 1 := hT 0 0 31; omega) with g0 | g0
  · have hl0 := hl g0
    refine m_blk 1 [(0, vr 0 0)] [vr 0 0] C f_q_block_0_1 rfl ?_
    refine m_callV C Rm Y [] [] (hq9 l D B H0 ad _ hS hT p0 (by show A 0 0 0 = p0 ∧ 0 ≤ p0 ∧ p0 ≤ 5; omega) (by show A 0 0 24 ≤ A 0 0 23 ∧ A 0 0 23 ≤ A 0 0 22; omega) hn (fun _ => by show A 0 0 30 + 3 * A 0 0 29 ≤ A 0 0 24; omega) hG (by show A 0 0 27 = 4 - (d : Int) ∧ (d : Int) ≤ 4; omega)) cl_Mo_179 rfl (by decide) rfl rfl e_q_block_1 rfl rfl rfl ⟨by show _ ≤ (33 + 4 * d : Nat); omega, by show _ ≤ (660 + 300 * d : Nat); omega⟩ ?_
    rintro v1 A2 ⟨rfl, hT_n4, hE_n4, raw_hb_n4, raw_hn_n4, raw_hw_n4, raw_hm_n4, raw_hG_n4, raw_hQ_n4⟩
    have hF_n4 := hE0.trans (hE_n4.sub (fun _ _ _ h => h))
    show JM g D ad w0 A2 4 [(0, vr 0 0)] []
    have hb_n4 : A2 0 0 24 ≤ A2 0 0 23 ∧ A2 0 0 23 ≤ A2 0 0 22 := raw_hb_n4
    clear raw_hb_n4
    have hm_n4 : A 0 0 24 ≤ A2 0 0 24 ∧ A 0 0 28 ≤ A2 0 0 28 ∧ A 0 0 29 ≤ A2 0 0 29 ∧ A 0 0 30 ≤ A2 0 0 30 ∧ A2 0 0 27 = A 0 0 27 := raw_hm_n4
    clear raw_hm_n4
    have pt_n4 : pT A2 := raw_hn_n4
    have k0_n4 : A2 0 0 0 = A 0 0 0 := hE_n4 0 0 0 rfl
    have k22_n4 : A2 0 0 22 = A 0 0 22 := hE_n4 0 0 22 rfl
    have hG_n4 : nG p0.toNat A2 := raw_hG_n4
    have hV_n4 : pV p0.toNat (4 - (d : Int)) A A2 := raw_hw_n4
    clear raw_hw_n4
    have hQ_n4 : pQ p0.toNat (A 0 0 28) (A 0 0 29) (A 0 0 30) A A2 := raw_hQ_n4
    clear raw_hQ_n4
    rcases (show A2 0 0 31 = 0 ∨ A2 0 0 31 = 1 from by have w9 := hT_n4 0 0 31; have w8 : 0 ≤ A2 0 0 31 ∧ A2 0 0 31 ≤ 1 := w9; omega) with g_n4 | g_n4
    · have u_n4 : A 0 0 24 - A 0 0 30 - 3 * A 0 0 29 ≤ A2 0 0 24 - A2 0 0 30 - 3 * A2 0 0 29 ∧ A 0 0 28 + 1 ≤ A2 0 0 28 := ⟨(hV_n4 g_n4).2.1, (hV_n4 g_n4).2.2.1⟩
      have hd_4 : ∀ (N : Nat) (A2 : mA), mTy A2 → mEq (pm p0.toNat) A A2 → A2 0 0 24 ≤ A2 0 0 23 ∧ A2 0 0 23 ≤ A2 0 0 22 → pT A2 → A 0 0 24 ≤ A2 0 0 24 ∧ A 0 0 28 ≤ A2 0 0 28 ∧ A 0 0 29 ≤ A2 0 0 29 ∧ A 0 0 30 ≤ A2 0 0 30 ∧ A2 0 0 27 = A 0 0 27 ∧ A2 0 0 22 = A 0 0 22 ∧ A2 0 0 0 = p0 → nG p0.toNat A2 → pQ p0.toNat (A 0 0 28) (A 0 0 29) (A 0 0 30) A A2 → pV p0.toNat (4 - (d : Int)) A A2 → (200 - A2 0 0 24) < (N : Int) → JM g D ad w0 A2 4 [(0, vr 0 0)] [] := by
        intro N
        induction N with
        | zero => intro A2 hT2 hE2 ib iT im iG iQ iV hm; exact absurd hm (by omega)
        | succ N ih =>
          intro A2 hT2 hE2 ib iT im iG iQ iV hm
          rcases (show A2 0 0 31 = 0 ∨ A2 0 0 31 = 1 from by have w8 : 0 ≤ A2 0 0 31 ∧ A2 0 0 31 ≤ 1 := hT2 0 0 31; omega) with g2 | g2
          · have u2 : A 0 0 24 - A 0 0 30 - 3 * A 0 0 29 ≤ A2 0 0 24 - A2 0 0 30 - 3 * A2 0 0 29 ∧ A 0 0 28 + 1 ≤ A2 0 0 28 := ⟨(iV g2).2.1, (iV g2).2.2.1⟩
            have g0 : A 0 0 31 = 0 := (iV g2).1
            have hl0 := hl g0
            refine m_blk 7 [(0, vr 0 0)] [vi 59, vr 0 0] C f_q_block_4_2 rfl ?_
            refine m_callV C Rm Y [vi 59] [] (q_isSign l D B H0 ad _ hT2 59 (by show -2147483648 ≤ 59 ∧ 59 ≤ 2147483647; omega)) cl_Mo_173 rfl (by decide) rfl rfl e_q_block_7 rfl rfl rfl ⟨by show _ ≤ (33 + 4 * d : Nat); omega, by show _ ≤ (660 + 300 * d : Nat); omega⟩ ?_
            rintro v5 A6 ⟨z9, rfl, rfl, raw_hz_n8⟩
            show JM g D ad w0 A2 10 [(0, vr 0 0)] [vi z9]
            have hz_n8 : z9 = 1 ∧ A2 0 0 31 = 0 ∧ A2 0 0 25 = 4 ∧ A2 0 0 26 = 59 ∨ z9 = 0 ∧ ¬ (A2 0 0 31 = 0 ∧ A2 0 0 25 = 4 ∧ A2 0 0 26 = 59) := raw_hz_n8
            clear raw_hz_n8
            rcases hz_n8 with ⟨e_n8, hz_n8⟩ | ⟨e_n8, hz_n8⟩
            · subst e_n8
              have bt_n8 : A2 0 0 24 < A2 0 0 23 := pT_lt (A := A2) iT hz_n8.1 (by show ¬ A2 0 0 25 = 0; omega)
              refine m_if_eq (tgt := 24) C e_q_block_10 (by decide) (by decide) (fun c10 => (by omega : False).elim) (fun c10 => ?_)
              refine m_blk 14 [(0, vr 0 0)] [vr 0 0] C f_q_block_13_1 rfl ?_
              refine m_callV C Rm Y [] [] (q_next l D B H0 ad _ hS hT2 (by show A2 0 0 23 ≤ A2 0 0 22; omega)) cl_Mo_176 rfl (by decide) rfl rfl e_q_block_14 rfl rfl rfl ⟨by show _ ≤ (33 + 4 * d : Nat); omega, by show _ ≤ (660 + 300 * d : Nat); omega⟩ ?_
              rintro v11 A12 ⟨rfl, hT_n14, hE_n14, raw_hw_n14, raw_hb_n14⟩
              have hF_n14 := hE2.trans (hE_n14.sub (nm_pm _))
              show JM g D ad w0 A12 17 [(0, vr 0 0)] []
              obtain ⟨b1_n14, b2_n14, b3_n14, pt_n14⟩ : A2 0 0 23 ≤ A12 0 0 24 ∧ A12 0 0 24 ≤ A12 0 0 23 ∧ A12 0 0 23 ≤ A12 0 0 22 ∧ pT A12 := raw_hb_n14 g2
              clear raw_hb_n14 raw_hw_n14
              have k0_n14 : A12 0 0 0 = A2 0 0 0 := hE_n14 0 0 0 rfl
              have k22_n14 : A12 0 0 22 = A2 0 0 22 := hE_n14 0 0 22 rfl
              have k27_n14 : A12 0 0 27 = A2 0 0 27 := hE_n14 0 0 27 rfl
              have k28_n14 : A12 0 0 28 = A2 0 0 28 := hE_n14 0 0 28 rfl
              have k29_n14 : A12 0 0 29 = A2 0 0 29 := hE_n14 0 0 29 rfl
              have k30_n14 : A12 0 0 30 = A2 0 0 30 := hE_n14 0 0 30 rfl
              rcases (show A12 0 0 31 = 0 ∨ A12 0 0 31 = 1 from by have w9 := hT_n14 0 0 31; have w8 : 0 ≤ A12 0 0 31 ∧ A12 0 0 31 ≤ 1 := w9; omega) with g_n14 | g_n14
              · refine m_blk 18 [(0, vr 0 0)] [vr 0 0] C f_q_block_17_1 rfl ?_
                refine m_callV C Rm Y [] [] (hq9 l D B H0 ad _ hS hT_n14 p0 (by show A12 0 0 0 = p0 ∧ 0 ≤ p0 ∧ p0 ≤ 5; omega) (by show A12 0 0 24 ≤ A12 0 0 23 ∧ A12 0 0 23 ≤ A12 0 0 22; omega) pt_n14 (fun _ => by show A12 0 0 30 + 3 * A12 0 0 29 ≤ A12 0 0 24; omega) (nG.nm (A := A2) iG hE_n14) (by show A12 0 0 27 = 4 - (d : Int) ∧ (d : Int) ≤ 4; omega)) cl_Mo_179 rfl (by decide) rfl rfl e_q_block_18 rfl rfl rfl ⟨by show _ ≤ (33 + 4 * d : Nat); omega, by show _ ≤ (660 + 300 * d : Nat); omega⟩ ?_
                rintro v15 A16 ⟨rfl, hT_n18, hE_n18, raw_hb_n18, raw_hn_n18, raw_hw_n18, raw_hm_n18, raw_hG_n18, raw_hQ_n18⟩
                have hF_n18 := hF_n14.trans (hE_n18.sub (fun _ _ _ h => h))
                show JM g D ad w0 A16 21 [(0, vr 0 0)] []
                have hb_n18 : A16 0 0 24 ≤ A16 0 0 23 ∧ A16 0 0 23 ≤ A16 0 0 22 := raw_hb_n18
                clear raw_hb_n18
                have hm_n18 : A12 0 0 24 ≤ A16 0 0 24 ∧ A12 0 0 28 ≤ A16 0 0 28 ∧ A12 0 0 29 ≤ A16 0 0 29 ∧ A12 0 0 30 ≤ A16 0 0 30 ∧ A16 0 0 27 = A12 0 0 27 := raw_hm_n18
                clear raw_hm_n18
                have pt_n18 : pT A16 := raw_hn_n18
                have k0_n18 : A16 0 0 0 = A12 0 0 0 := hE_n18 0 0 0 rfl
                have k22_n18 : A16 0 0 22 = A12 0 0 22 := hE_n18 0 0 22 rfl
                have hG_n18 : nG p0.toNat A16 := raw_hG_n18
                have hV_n18 : pV p0.toNat (4 - (d : Int)) A12 A16 := raw_hw_n18
                clear raw_hw_n18
                have hQ_n18 : pQ p0.toNat (A12 0 0 28) (A12 0 0 29) (A12 0 0 30) A12 A16 := raw_hQ_n18
                clear raw_hQ_n18
                rcases (show A16 0 0 31 = 0 ∨ A16 0 0 31 = 1 from by have w9 := hT_n18 0 0 31; have w8 : 0 ≤ A16 0 0 31 ∧ A16 0 0 31 ≤ 1 := w9; omega) with g_n18 | g_n18
                · have u_n18 : A12 0 0 24 - A12 0 0 30 - 3 * A12 0 0 29 ≤ A16 0 0 24 - A16 0 0 30 - 3 * A16 0 0 29 ∧ A12 0 0 28 + 1 ≤ A16 0 0 28 := ⟨(hV_n18 g_n18).2.1, (hV_n18 g_n18).2.2.1⟩
                  refine m_blk 4 [(0, vr 0 0)] [] C f_q_block_21_1 rfl ?_
                  refine m_loc [(0, vr 0 0)] ⟨rfl, trivial⟩ ?_
                  exact ih A16 hT_n18 hF_n18 (by show A16 0 0 24 ≤ A16 0 0 23 ∧ A16 0 0 23 ≤ A16 0 0 22; omega) pt_n18 (by show A 0 0 24 ≤ A16 0 0 24 ∧ A 0 0 28 ≤ A16 0 0 28 ∧ A 0 0 29 ≤ A16 0 0 29 ∧ A 0 0 30 ≤ A16 0 0 30 ∧ A16 0 0 27 = A 0 0 27 ∧ A16 0 0 22 = A 0 0 22 ∧ A16 0 0 0 = p0; omega) hG_n18 (pQ.trans (pQ.fam iQ (fam_nm _ hE_n14)) (pQ.le hQ_n18 (by show A 0 0 28 ≤ A12 0 0 28; omega) (by show A 0 0 29 ≤ A12 0 0 29; omega) (by show A 0 0 30 ≤ A12 0 0 30; omega))) (pV.trans (pV.tok iV (fam_nm _ hE_n14) (hE_n14 0 0 28 rfl) (hE_n14 0 0 29 rfl) (hE_n14 0 0 30 rfl) (fun _ => g2) (by show A2 0 0 24 ≤ A12 0 0 24; omega)) hV_n18 hQ_n18 (by omega) (by omega) (by omega)) (by have hm9 := hm; show (200 - A16 0 0 24) < _; omega)
                · refine m_blk 4 [(0, vr 0 0)] [] C f_q_block_21_1 rfl ?_
                  refine m_loc [(0, vr 0 0)] ⟨rfl, trivial⟩ ?_
                  exact ih A16 hT_n18 hF_n18 (by show A16 0 0 24 ≤ A16 0 0 23 ∧ A16 0 0 23 ≤ A16 0 0 22; omega) pt_n18 (by show A 0 0 24 ≤ A16 0 0 24 ∧ A 0 0 28 ≤ A16 0 0 28 ∧ A 0 0 29 ≤ A16 0 0 29 ∧ A 0 0 30 ≤ A16 0 0 30 ∧ A16 0 0 27 = A 0 0 27 ∧ A16 0 0 22 = A 0 0 22 ∧ A16 0 0 0 = p0; omega) hG_n18 (pQ.trans (pQ.fam iQ (fam_nm _ hE_n14)) (pQ.le hQ_n18 (by show A 0 0 28 ≤ A12 0 0 28; omega) (by show A 0 0 29 ≤ A12 0 0 29; omega) (by show A 0 0 30 ≤ A12 0 0 30; omega))) (fun h9 => absurd ((g_n18 : A16 0 0 31 = 1).symm.trans h9) (by decide)) (by have hm9 := hm; show (200 - A16 0 0 24) < _; omega)
              · refine m_blk 18 [(0, vr 0 0)] [vr 0 0] C f_q_block_17_1 rfl ?_
                refine m_callV C Rm Y [] [] (hq9 l D B H0 ad _ hS hT_n14 p0 (by show A12 0 0 0 = p0 ∧ 0 ≤ p0 ∧ p0 ≤ 5; omega) (by show A12 0 0 24 ≤ A12 0 0 23 ∧ A12 0 0 23 ≤ A12 0 0 22; omega) pt_n14 (fun h9 => absurd ((g_n14 : A12 0 0 31 = 1).symm.trans h9) (by decide)) (nG.nm (A := A2) iG hE_n14) (by show A12 0 0 27 = 4 - (d : Int) ∧ (d : Int) ≤ 4; omega)) cl_Mo_179 rfl (by decide) rfl rfl e_q_block_18 rfl rfl rfl ⟨by show _ ≤ (33 + 4 * d : Nat); omega, by show _ ≤ (660 + 300 * d : Nat); omega⟩ ?_
                rintro v19 A20 ⟨rfl, hT_n22, hE_n22, raw_hb_n22, raw_hn_n22, raw_hw_n22, raw_hm_n22, raw_hG_n22, raw_hQ_n22⟩
                have hF_n22 := hF_n14.trans (hE_n22.sub (fun _ _ _ h => h))
                show JM g D ad w0 A20 21 [(0, vr 0 0)] []
                have hb_n22 : A20 0 0 24 ≤ A20 0 0 23 ∧ A20 0 0 23 ≤ A20 0 0 22 := raw_hb_n22
                clear raw_hb_n22
                have hm_n22 : A12 0 0 24 ≤ A20 0 0 24 ∧ A12 0 0 28 ≤ A20 0 0 28 ∧ A12 0 0 29 ≤ A20 0 0 29 ∧ A12 0 0 30 ≤ A20 0 0 30 ∧ A20 0 0 27 = A12 0 0 27 := raw_hm_n22
                clear raw_hm_n22
                have pt_n22 : pT A20 := raw_hn_n22
                have k0_n22 : A20 0 0 0 = A12 0 0 0 := hE_n22 0 0 0 rfl
                have k22_n22 : A20 0 0 22 = A12 0 0 22 := hE_n22 0 0 22 rfl
                have hG_n22 : nG p0.toNat A20 := raw_hG_n22
                have hV_n22 : pV p0.toNat (4 - (d : Int)) A12 A20 := raw_hw_n22
                clear raw_hw_n22
                have hQ_n22 : pQ p0.toNat (A12 0 0 28) (A12 0 0 29) (A12 0 0 30) A12 A20 := raw_hQ_n22
                clear raw_hQ_n22
                have g_n22 : A20 0 0 31 = 1 := wr_1 (hT_n22 0 0 31) (fun h9 => absurd ((g_n14 : A12 0 0 31 = 1).symm.trans (hV_n22 h9).1) (by decide))
                refine m_blk 4 [(0, vr 0 0)] [] C f_q_block_21_1 rfl ?_
                refine m_loc [(0, vr 0 0)] ⟨rfl, trivial⟩ ?_
                exact ih A20 hT_n22 hF_n22 (by show A20 0 0 24 ≤ A20 0 0 23 ∧ A20 0 0 23 ≤ A20 0 0 22; omega) pt_n22 (by show A 0 0 24 ≤ A20 0 0 24 ∧ A 0 0 28 ≤ A20 0 0 28 ∧ A 0 0 29 ≤ A20 0 0 29 ∧ A 0 0 30 ≤ A20 0 0 30 ∧ A20 0 0 27 = A 0 0 27 ∧ A20 0 0 22 = A 0 0 22 ∧ A20 0 0 0 = p0; omega) hG_n22 (pQ.trans (pQ.fam iQ (fam_nm _ hE_n14)) (pQ.le hQ_n22 (by show A 0 0 28 ≤ A12 0 0 28; omega) (by show A 0 0 29 ≤ A12 0 0 29; omega) (by show A 0 0 30 ≤ A12 0 0 30; omega))) (fun h9 => absurd ((g_n22 : A20 0 0 31 = 1).symm.trans h9) (by decide)) (by have hm9 := hm; show (200 - A20 0 0 24) < _; omega)
            · subst e_n8
              clear hz_n8
              refine m_if_eq (tgt := 24) C e_q_block_10 (by decide) (by decide) (fun c23 => ?_) (fun c23 => (by omega : False).elim)
              exact m_vret C Rm E e_q_block_24 ⟨rfl, hT2, hE2, (by show A2 0 0 24 ≤ A2 0 0 23 ∧ A2 0 0 23 ≤ A2 0 0 22; omega), iT, iV, (by show A 0 0 24 ≤ A2 0 0 24 ∧ A 0 0 28 ≤ A2 0 0 28 ∧ A 0 0 29 ≤ A2 0 0 29 ∧ A 0 0 30 ≤ A2 0 0 30 ∧ A2 0 0 27 = A 0 0 27; omega), iG, iQ⟩
          · refine m_blk 7 [(0, vr 0 0)] [vi 59, vr 0 0] C f_q_block_4_2 rfl ?_
            refine m_callV C Rm Y [vi 59] [] (q_isSign l D B H0 ad _ hT2 59 (by show -2147483648 ≤ 59 ∧ 59 ≤ 2147483647; omega)) cl_Mo_173 rfl (by decide) rfl rfl e_q_block_7 rfl rfl rfl ⟨by show _ ≤ (33 + 4 * d : Nat); omega, by show _ ≤ (660 + 300 * d : Nat); omega⟩ ?_
            rintro v24 A25 ⟨z28, rfl, rfl, raw_hz_n27⟩
            show JM g D ad w0 A2 10 [(0, vr 0 0)] [vi z28]
            have hz_n27 : z28 = 1 ∧ A2 0 0 31 = 0 ∧ A2 0 0 25 = 4 ∧ A2 0 0 26 = 59 ∨ z28 = 0 ∧ ¬ (A2 0 0 31 = 0 ∧ A2 0 0 25 = 4 ∧ A2 0 0 26 = 59) := raw_hz_n27
            clear raw_hz_n27
            rcases hz_n27 with ⟨e_n27, hz_n27⟩ | ⟨e_n27, hz_n27⟩
            · subst e_n27
              exact (by omega : False).elim
            · subst e_n27
              clear hz_n27
              refine m_if_eq (tgt := 24) C e_q_block_10 (by decide) (by decide) (fun c29 => ?_) (fun c29 => (by omega : False).elim)
              exact m_vret C Rm E e_q_block_24 ⟨rfl, hT2, hE2, (by show A2 0 0 24 ≤ A2 0 0 23 ∧ A2 0 0 23 ≤ A2 0 0 22; omega), iT, (fun h9 => absurd ((g2 : A2 0 0 31 = 1).symm.trans h9) (by decide)), (by show A 0 0 24 ≤ A2 0 0 24 ∧ A 0 0 28 ≤ A2 0 0 28 ∧ A 0 0 29 ≤ A2 0 0 29 ∧ A 0 0 30 ≤ A2 0 0 30 ∧ A2 0 0 27 = A 0 0 27; omega), iG, iQ⟩
      refine m_loc [(0, vr 0 0)] ⟨rfl, trivial⟩ ?_
      exact hd_4 (Int.toNat ((200 - A2 0 0 24)) + 1) A2 hT_n4 hF_n4 (by show A2 0 0 24 ≤ A2 0 0 23 ∧ A2 0 0 23 ≤ A2 0 0 22; omega) pt_n4 (by show A 0 0 24 ≤ A2 0 0 24 ∧ A 0 0 28 ≤ A2 0 0 28 ∧ A 0 0 29 ≤ A2 0 0 29 ∧ A 0 0 30 ≤ A2 0 0 30 ∧ A2 0 0 27 = A 0 0 27 ∧ A2 0 0 22 = A 0 0 22 ∧ A2 0 0 0 = p0; omega) hG_n4 (pQ.trans pQ.rfl' (pQ.le hQ_n4 (by show A 0 0 28 ≤ A 0 0 28; omega) (by show A 0 0 29 ≤ A 0 0 29; omega) (by show A 0 0 30 ≤ A 0 0 30; omega))) hV_n4 (by show (200 - A2 0 0 24) < _; omega)
    · have hd_4 : ∀ (N : Nat) (A2 : mA), mTy A2 → mEq (pm p0.toNat) A A2 → A2 0 0 24 ≤ A2 0 0 23 ∧ A2 0 0 23 ≤ A2 0 0 22 → pT A2 → A 0 0 24 ≤ A2 0 0 24 ∧ A 0 0 28 ≤ A2 0 0 28 ∧ A 0 0 29 ≤ A2 0 0 29 ∧ A 0 0 30 ≤ A2 0 0 30 ∧ A2 0 0 27 = A 0 0 27 ∧ A2 0 0 22 = A 0 0 22 ∧ A2 0 0 0 = p0 → nG p0.toNat A2 → pQ p0.toNat (A 0 0 28) (A 0 0 29) (A 0 0 30) A A2 → pV p0.toNat (4 - (d : Int)) A A2 → (200 - A2 0 0 24) < (N : Int) → JM g D ad w0 A2 4 [(0, vr 0 0)] [] := by
        intro N
        induction N with
        | zero => intro A2 hT2 hE2 ib iT im iG iQ iV hm; exact absurd hm (by omega)
        | succ N ih =>
          intro A2 hT2 hE2 ib iT im iG iQ iV hm
          rcases (show A2 0 0 31 = 0 ∨ A2 0 0 31 = 1 from by have w8 : 0 ≤ A2 0 0 31 ∧ A2 0 0 31 ≤ 1 := hT2 0 0 31; omega) with g2 | g2
          · have u2 : A 0 0 24 - A 0 0 30 - 3 * A 0 0 29 ≤ A2 0 0 24 - A2 0 0 30 - 3 * A2 0 0 29 ∧ A 0 0 28 + 1 ≤ A2 0 0 28 := ⟨(iV g2).2.1, (iV g2).2.2.1⟩
            have g0 : A 0 0 31 = 0 := (iV g2).1
            have hl0 := hl g0
            refine m_blk 7 [(0, vr 0 0)] [vi 59, vr 0 0] C f_q_block_4_2 rfl ?_
            refine m_callV C Rm Y [vi 59] [] (q_isSign l D B H0 ad _ hT2 59 (by show -2147483648 ≤ 59 ∧ 59 ≤ 2147483647; omega)) cl_Mo_173 rfl (by decide) rfl rfl e_q_block_7 rfl rfl rfl ⟨by show _ ≤ (33 + 4 * d : Nat); omega, by show _ ≤ (660 + 300 * d : Nat); omega⟩ ?_
            rintro v30 A31 ⟨z34, rfl, rfl, raw_hz_n33⟩
            show JM g D ad w0 A2 10 [(0, vr 0 0)] [vi z34]
            have hz_n33 : z34 = 1 ∧ A2 0 0 31 = 0 ∧ A2 0 0 25 = 4 ∧ A2 0 0 26 = 59 ∨ z34 = 0 ∧ ¬ (A2 0 0 31 = 0 ∧ A2 0 0 25 = 4 ∧ A2 0 0 26 = 59) := raw_hz_n33
            clear raw_hz_n33
            rcases hz_n33 with ⟨e_n33, hz_n33⟩ | ⟨e_n33, hz_n33⟩
            · subst e_n33
              have bt_n33 : A2 0 0 24 < A2 0 0 23 := pT_lt (A := A2) iT hz_n33.1 (by show ¬ A2 0 0 25 = 0; omega)
              refine m_if_eq (tgt := 24) C e_q_block_10 (by decide) (by decide) (fun c35 => (by omega : False).elim) (fun c35 => ?_)
              refine m_blk 14 [(0, vr 0 0)] [vr 0 0] C f_q_block_13_1 rfl ?_
              refine m_callV C Rm Y [] [] (q_next l D B H0 ad _ hS hT2 (by show A2 0 0 23 ≤ A2 0 0 22; omega)) cl_Mo_176 rfl (by decide) rfl rfl e_q_block_14 rfl rfl rfl ⟨by show _ ≤ (33 + 4 * d : Nat); omega, by show _ ≤ (660 + 300 * d : Nat); omega⟩ ?_
              rintro v36 A37 ⟨rfl, hT_n39, hE_n39, raw_hw_n39, raw_hb_n39⟩
              have hF_n39 := hE2.trans (hE_n39.sub (nm_pm _))
              show JM g D ad w0 A37 17 [(0, vr 0 0)] []
              obtain ⟨b1_n39, b2_n39, b3_n39, pt_n39⟩ : A2 0 0 23 ≤ A37 0 0 24 ∧ A37 0 0 24 ≤ A37 0 0 23 ∧ A37 0 0 23 ≤ A37 0 0 22 ∧ pT A37 := raw_hb_n39 g2
              clear raw_hb_n39 raw_hw_n39
              have k0_n39 : A37 0 0 0 = A2 0 0 0 := hE_n39 0 0 0 rfl
              have k22_n39 : A37 0 0 22 = A2 0 0 22 := hE_n39 0 0 22 rfl
              have k27_n39 : A37 0 0 27 = A2 0 0 27 := hE_n39 0 0 27 rfl
              have k28_n39 : A37 0 0 28 = A2 0 0 28 := hE_n39 0 0 28 rfl
              have k29_n39 : A37 0 0 29 = A2 0 0 29 := hE_n39 0 0 29 rfl
              have k30_n39 : A37 0 0 30 = A2 0 0 30 := hE_n39 0 0 30 rfl
              rcases (show A37 0 0 31 = 0 ∨ A37 0 0 31 = 1 from by have w9 := hT_n39 0 0 31; have w8 : 0 ≤ A37 0 0 31 ∧ A37 0 0 31 ≤ 1 := w9; omega) with g_n39 | g_n39
              · refine m_blk 18 [(0, vr 0 0)] [vr 0 0] C f_q_block_17_1 rfl ?_
                refine m_callV C Rm Y [] [] (hq9 l D B H0 ad _ hS hT_n39 p0 (by show A37 0 0 0 = p0 ∧ 0 ≤ p0 ∧ p0 ≤ 5; omega) (by show A37 0 0 24 ≤ A37 0 0 23 ∧ A37 0 0 23 ≤ A37 0 0 22; omega) pt_n39 (fun _ => by show A37 0 0 30 + 3 * A37 0 0 29 ≤ A37 0 0 24; omega) (nG.nm (A := A2) iG hE_n39) (by show A37 0 0 27 = 4 - (d : Int) ∧ (d : Int) ≤ 4; omega)) cl_Mo_179 rfl (by decide) rfl rfl e_q_block_18 rfl rfl rfl ⟨by show _ ≤ (33 + 4 * d : Nat); omega, by show _ ≤ (660 + 300 * d : Nat); omega⟩ ?_
                rintro v40 A41 ⟨rfl, hT_n43, hE_n43, raw_hb_n43, raw_hn_n43, raw_hw_n43, raw_hm_n43, raw_hG_n43, raw_hQ_n43⟩
                have hF_n43 := hF_n39.trans (hE_n43.sub (fun _ _ _ h => h))
                show JM g D ad w0 A41 21 [(0, vr 0 0)] []
                have hb_n43 : A41 0 0 24 ≤ A41 0 0 23 ∧ A41 0 0 23 ≤ A41 0 0 22 := raw_hb_n43
                clear raw_hb_n43
                have hm_n43 : A37 0 0 24 ≤ A41 0 0 24 ∧ A37 0 0 28 ≤ A41 0 0 28 ∧ A37 0 0 29 ≤ A41 0 0 29 ∧ A37 0 0 30 ≤ A41 0 0 30 ∧ A41 0 0 27 = A37 0 0 27 := raw_hm_n43
                clear raw_hm_n43
                have pt_n43 : pT A41 := raw_hn_n43
                have k0_n43 : A41 0 0 0 = A37 0 0 0 := hE_n43 0 0 0 rfl
                have k22_n43 : A41 0 0 22 = A37 0 0 22 := hE_n43 0 0 22 rfl
                have hG_n43 : nG p0.toNat A41 := raw_hG_n43
                have hV_n43 : pV p0.toNat (4 - (d : Int)) A37 A41 := raw_hw_n43
                clear raw_hw_n43
                have hQ_n43 : pQ p0.toNat (A37 0 0 28) (A37 0 0 29) (A37 0 0 30) A37 A41 := raw_hQ_n43
                clear raw_hQ_n43
                rcases (show A41 0 0 31 = 0 ∨ A41 0 0 31 = 1 from by have w9 := hT_n43 0 0 31; have w8 : 0 ≤ A41 0 0 31 ∧ A41 0 0 31 ≤ 1 := w9; omega) with g_n43 | g_n43
                · have u_n43 : A37 0 0 24 - A37 0 0 30 - 3 * A37 0 0 29 ≤ A41 0 0 24 - A41 0 0 30 - 3 * A41 0 0 29 ∧ A37 0 0 28 + 1 ≤ A41 0 0 28 := ⟨(hV_n43 g_n43).2.1, (hV_n43 g_n43).2.2.1⟩
                  refine m_blk 4 [(0, vr 0 0)] [] C f_q_block_21_1 rfl ?_
                  refine m_loc [(0, vr 0 0)] ⟨rfl, trivial⟩ ?_
                  exact ih A41 hT_n43 hF_n43 (by show A41 0 0 24 ≤ A41 0 0 23 ∧ A41 0 0 23 ≤ A41 0 0 22; omega) pt_n43 (by show A 0 0 24 ≤ A41 0 0 24 ∧ A 0 0 28 ≤ A41 0 0 28 ∧ A 0 0 29 ≤ A41 0 0 29 ∧ A 0 0 30 ≤ A41 0 0 30 ∧ A41 0 0 27 = A 0 0 27 ∧ A41 0 0 22 = A 0 0 22 ∧ A41 0 0 0 = p0; omega) hG_n43 (pQ.trans (pQ.fam iQ (fam_nm _ hE_n39)) (pQ.le hQ_n43 (by show A 0 0 28 ≤ A37 0 0 28; omega) (by show A 0 0 29 ≤ A37 0 0 29; omega) (by show A 0 0 30 ≤ A37 0 0 30; omega))) (pV.trans (pV.tok iV (fam_nm _ hE_n39) (hE_n39 0 0 28 rfl) (hE_n39 0 0 29 rfl) (hE_n39 0 0 30 rfl) (fun _ => g2) (by show A2 0 0 24 ≤ A37 0 0 24; omega)) hV_n43 hQ_n43 (by omega) (by omega) (by omega)) (by have hm9 := hm; show (200 - A41 0 0 24) < _; omega)
                · refine m_blk 4 [(0, vr 0 0)] [] C f_q_block_21_1 rfl ?_
                  refine m_loc [(0, vr 0 0)] ⟨rfl, trivial⟩ ?_
                  exact ih A41 hT_n43 hF_n43 (by show A41 0 0 24 ≤ A41 0 0 23 ∧ A41 0 0 23 ≤ A41 0 0 22; omega) pt_n43 (by show A 0 0 24 ≤ A41 0 0 24 ∧ A 0 0 28 ≤ A41 0 0 28 ∧ A 0 0 29 ≤ A41 0 0 29 ∧ A 0 0 30 ≤ A41 0 0 30 ∧ A41 0 0 27 = A 0 0 27 ∧ A41 0 0 22 = A 0 0 22 ∧ A41 0 0 0 = p0; omega) hG_n43 (pQ.trans (pQ.fam iQ (fam_nm _ hE_n39)) (pQ.le hQ_n43 (by show A 0 0 28 ≤ A37 0 0 28; omega) (by show A 0 0 29 ≤ A37 0 0 29; omega) (by show A 0 0 30 ≤ A37 0 0 30; omega))) (fun h9 => absurd ((g_n43 : A41 0 0 31 = 1).symm.trans h9) (by decide)) (by have hm9 := hm; show (200 - A41 0 0 24) < _; omega)
              · refine m_blk 18 [(0, vr 0 0)] [vr 0 0] C f_q_block_17_1 rfl ?_
                refine m_callV C Rm Y [] [] (hq9 l D B H0 ad _ hS hT_n39 p0 (by show A37 0 0 0 = p0 ∧ 0 ≤ p0 ∧ p0 ≤ 5; omega) (by show A37 0 0 24 ≤ A37 0 0 23 ∧ A37 0 0 23 ≤ A37 0 0 22; omega) pt_n39 (fun h9 => absurd ((g_n39 : A37 0 0 31 = 1).symm.trans h9) (by decide)) (nG.nm (A := A2) iG hE_n39) (by show A37 0 0 27 = 4 - (d : Int) ∧ (d : Int) ≤ 4; omega)) cl_Mo_179 rfl (by decide) rfl rfl e_q_block_18 rfl rfl rfl ⟨by show _ ≤ (33 + 4 * d : Nat); omega, by show _ ≤ (660 + 300 * d : Nat); omega⟩ ?_
                rintro v44 A45 ⟨rfl, hT_n47, hE_n47, raw_hb_n47, raw_hn_n47, raw_hw_n47, raw_hm_n47, raw_hG_n47, raw_hQ_n47⟩
                have hF_n47 := hF_n39.trans (hE_n47.sub (fun _ _ _ h => h))
                show JM g D ad w0 A45 21 [(0, vr 0 0)] []
                have hb_n47 : A45 0 0 24 ≤ A45 0 0 23 ∧ A45 0 0 23 ≤ A45 0 0 22 := raw_hb_n47
                clear raw_hb_n47
                have hm_n47 : A37 0 0 24 ≤ A45 0 0 24 ∧ A37 0 0 28 ≤ A45 0 0 28 ∧ A37 0 0 29 ≤ A45 0 0 29 ∧ A37 0 0 30 ≤ A45 0 0 30 ∧ A45 0 0 27 = A37 0 0 27 := raw_hm_n47
                clear raw_hm_n47
                have pt_n47 : pT A45 := raw_hn_n47
                have k0_n47 : A45 0 0 0 = A37 0 0 0 := hE_n47 0 0 0 rfl
                have k22_n47 : A45 0 0 22 = A37 0 0 22 := hE_n47 0 0 22 rfl
                have hG_n47 : nG p0.toNat A45 := raw_hG_n47
                have hV_n47 : pV p0.toNat (4 - (d : Int)) A37 A45 := raw_hw_n47
                clear raw_hw_n47
                have hQ_n47 : pQ p0.toNat (A37 0 0 28) (A37 0 0 29) (A37 0 0 30) A37 A45 := raw_hQ_n47
                clear raw_hQ_n47
                have g_n47 : A45 0 0 31 = 1 := wr_1 (hT_n47 0 0 31) (fun h9 => absurd ((g_n39 : A37 0 0 31 = 1).symm.trans (hV_n47 h9).1) (by decide))
                refine m_blk 4 [(0, vr 0 0)] [] C f_q_block_21_1 rfl ?_
                refine m_loc [(0, vr 0 0)] ⟨rfl, trivial⟩ ?_
                exact ih A45 hT_n47 hF_n47 (by show A45 0 0 24 ≤ A45 0 0 23 ∧ A45 0 0 23 ≤ A45 0 0 22; omega) pt_n47 (by show A 0 0 24 ≤ A45 0 0 24 ∧ A 0 0 28 ≤ A45 0 0 28 ∧ A 0 0 29 ≤ A45 0 0 29 ∧ A 0 0 30 ≤ A45 0 0 30 ∧ A45 0 0 27 = A 0 0 27 ∧ A45 0 0 22 = A 0 0 22 ∧ A45 0 0 0 = p0; omega) hG_n47 (pQ.trans (pQ.fam iQ (fam_nm _ hE_n39)) (pQ.le hQ_n47 (by show A 0 0 28 ≤ A37 0 0 28; omega) (by show A 0 0 29 ≤ A37 0 0 29; omega) (by show A 0 0 30 ≤ A37 0 0 30; omega))) (fun h9 => absurd ((g_n47 : A45 0 0 31 = 1).symm.trans h9) (by decide)) (by have hm9 := hm; show (200 - A45 0 0 24) < _; omega)
            · subst e_n33
              clear hz_n33
              refine m_if_eq (tgt := 24) C e_q_block_10 (by decide) (by decide) (fun c48 => ?_) (fun c48 => (by omega : False).elim)
              exact m_vret C Rm E e_q_block_24 ⟨rfl, hT2, hE2, (by show A2 0 0 24 ≤ A2 0 0 23 ∧ A2 0 0 23 ≤ A2 0 0 22; omega), iT, iV, (by show A 0 0 24 ≤ A2 0 0 24 ∧ A 0 0 28 ≤ A2 0 0 28 ∧ A 0 0 29 ≤ A2 0 0 29 ∧ A 0 0 30 ≤ A2 0 0 30 ∧ A2 0 0 27 = A 0 0 27; omega), iG, iQ⟩
          · refine m_blk 7 [(0, vr 0 0)] [vi 59, vr 0 0] C f_q_block_4_2 rfl ?_
            refine m_callV C Rm Y [vi 59] [] (q_isSign l D B H0 ad _ hT2 59 (by show -2147483648 ≤ 59 ∧ 59 ≤ 2147483647; omega)) cl_Mo_173 rfl (by decide) rfl rfl e_q_block_7 rfl rfl rfl ⟨by show _ ≤ (33 + 4 * d : Nat); omega, by show _ ≤ (660 + 300 * d : Nat); omega⟩ ?_
            rintro v49 A50 ⟨z53, rfl, rfl, raw_hz_n52⟩
            show JM g D ad w0 A2 10 [(0, vr 0 0)] [vi z53]
            have hz_n52 : z53 = 1 ∧ A2 0 0 31 = 0 ∧ A2 0 0 25 = 4 ∧ A2 0 0 26 = 59 ∨ z53 = 0 ∧ ¬ (A2 0 0 31 = 0 ∧ A2 0 0 25 = 4 ∧ A2 0 0 26 = 59) := raw_hz_n52
            clear raw_hz_n52
            rcases hz_n52 with ⟨e_n52, hz_n52⟩ | ⟨e_n52, hz_n52⟩
            · subst e_n52
              exact (by omega : False).elim
            · subst e_n52
              clear hz_n52
              refine m_if_eq (tgt := 24) C e_q_block_10 (by decide) (by decide) (fun c54 => ?_) (fun c54 => (by omega : False).elim)
              exact m_vret C Rm E e_q_block_24 ⟨rfl, hT2, hE2, (by show A2 0 0 24 ≤ A2 0 0 23 ∧ A2 0 0 23 ≤ A2 0 0 22; omega), iT, (fun h9 => absurd ((g2 : A2 0 0 31 = 1).symm.trans h9) (by decide)), (by show A 0 0 24 ≤ A2 0 0 24 ∧ A 0 0 28 ≤ A2 0 0 28 ∧ A 0 0 29 ≤ A2 0 0 29 ∧ A 0 0 30 ≤ A2 0 0 30 ∧ A2 0 0 27 = A 0 0 27; omega), iG, iQ⟩
      refine m_loc [(0, vr 0 0)] ⟨rfl, trivial⟩ ?_
      exact hd_4 (Int.toNat ((200 - A2 0 0 24)) + 1) A2 hT_n4 hF_n4 (by show A2 0 0 24 ≤ A2 0 0 23 ∧ A2 0 0 23 ≤ A2 0 0 22; omega) pt_n4 (by show A 0 0 24 ≤ A2 0 0 24 ∧ A 0 0 28 ≤ A2 0 0 28 ∧ A 0 0 29 ≤ A2 0 0 29 ∧ A 0 0 30 ≤ A2 0 0 30 ∧ A2 0 0 27 = A 0 0 27 ∧ A2 0 0 22 = A 0 0 22 ∧ A2 0 0 0 = p0; omega) hG_n4 (pQ.trans pQ.rfl' (pQ.le hQ_n4 (by show A 0 0 28 ≤ A 0 0 28; omega) (by show A 0 0 29 ≤ A 0 0 29; omega) (by show A 0 0 30 ≤ A 0 0 30; omega))) (fun h9 => absurd ((g_n4 : A2 0 0 31 = 1).symm.trans h9) (by decide)) (by show (200 - A2 0 0 24) < _; omega)
  · refine m_blk 1 [(0, vr 0 0)] [vr 0 0] C f_q_block_0_1 rfl ?_
    refine m_callV C Rm Y [] [] (hq9 l D B H0 ad _ hS hT p0 (by show A 0 0 0 = p0 ∧ 0 ≤ p0 ∧ p0 ≤ 5; omega) (by show A 0 0 24 ≤ A 0 0 23 ∧ A 0 0 23 ≤ A 0 0 22; omega) hn (fun h9 => absurd ((g0 : A 0 0 31 = 1).symm.trans h9) (by decide)) hG (by show A 0 0 27 = 4 - (d : Int) ∧ (d : Int) ≤ 4; omega)) cl_Mo_179 rfl (by decide) rfl rfl e_q_block_1 rfl rfl rfl ⟨by show _ ≤ (33 + 4 * d : Nat); omega, by show _ ≤ (660 + 300 * d : Nat); omega⟩ ?_
    rintro v55 A56 ⟨rfl, hT_n58, hE_n58, raw_hb_n58, raw_hn_n58, raw_hw_n58, raw_hm_n58, raw_hG_n58, raw_hQ_n58⟩
    have hF_n58 := hE0.trans (hE_n58.sub (fun _ _ _ h => h))
    show JM g D ad w0 A56 4 [(0, vr 0 0)] []
    have hb_n58 : A56 0 0 24 ≤ A56 0 0 23 ∧ A56 0 0 23 ≤ A56 0 0 22 := raw_hb_n58
    clear raw_hb_n58
    have hm_n58 : A 0 0 24 ≤ A56 0 0 24 ∧ A 0 0 28 ≤ A56 0 0 28 ∧ A 0 0 29 ≤ A56 0 0 29 ∧ A 0 0 30 ≤ A56 0 0 30 ∧ A56 0 0 27 = A 0 0 27 := raw_hm_n58
    clear raw_hm_n58
    have pt_n58 : pT A56 := raw_hn_n58
    have k0_n58 : A56 0 0 0 = A 0 0 0 := hE_n58 0 0 0 rfl
    have k22_n58 : A56 0 0 22 = A 0 0 22 := hE_n58 0 0 22 rfl
    have hG_n58 : nG p0.toNat A56 := raw_hG_n58
    have hV_n58 : pV p0.toNat (4 - (d : Int)) A A56 := raw_hw_n58
    clear raw_hw_n58
    have hQ_n58 : pQ p0.toNat (A 0 0 28) (A 0 0 29) (A 0 0 30) A A56 := raw_hQ_n58
    clear raw_hQ_n58
    have g_n58 : A56 0 0 31 = 1 := wr_1 (hT_n58 0 0 31) (fun h9 => absurd ((g0 : A 0 0 31 = 1).symm.trans (hV_n58 h9).1) (by decide))
    have hd_4 : ∀ (N : Nat) (A2 : mA), mTy A2 → mEq (pm p0.toNat) A A2 → A2 0 0 24 ≤ A2 0 0 23 ∧ A2 0 0 23 ≤ A2 0 0 22 → pT A2 → A 0 0 24 ≤ A2 0 0 24 ∧ A 0 0 28 ≤ A2 0 0 28 ∧ A 0 0 29 ≤ A2 0 0 29 ∧ A 0 0 30 ≤ A2 0 0 30 ∧ A2 0 0 27 = A 0 0 27 ∧ A2 0 0 22 = A 0 0 22 ∧ A2 0 0 0 = p0 → nG p0.toNat A2 → pQ p0.toNat (A 0 0 28) (A 0 0 29) (A 0 0 30) A A2 → pV p0.toNat (4 - (d : Int)) A A2 → (200 - A2 0 0 24) < (N : Int) → JM g D ad w0 A2 4 [(0, vr 0 0)] [] := by
      intro N
      induction N with
      | zero => intro A2 hT2 hE2 ib iT im iG iQ iV hm; exact absurd hm (by omega)
      | succ N ih =>
        intro A2 hT2 hE2 ib iT im iG iQ iV hm
        rcases (show A2 0 0 31 = 0 ∨ A2 0 0 31 = 1 from by have w8 : 0 ≤ A2 0 0 31 ∧ A2 0 0 31 ≤ 1 := hT2 0 0 31; omega) with g2 | g2
        · have u2 : A 0 0 24 - A 0 0 30 - 3 * A 0 0 29 ≤ A2 0 0 24 - A2 0 0 30 - 3 * A2 0 0 29 ∧ A 0 0 28 + 1 ≤ A2 0 0 28 := ⟨(iV g2).2.1, (iV g2).2.2.1⟩
          have g0 : A 0 0 31 = 0 := (iV g2).1
          have hl0 := hl g0
          refine m_blk 7 [(0, vr 0 0)] [vi 59, vr 0 0] C f_q_block_4_2 rfl ?_
          refine m_callV C Rm Y [vi 59] [] (q_isSign l D B H0 ad _ hT2 59 (by show -2147483648 ≤ 59 ∧ 59 ≤ 2147483647; omega)) cl_Mo_173 rfl (by decide) rfl rfl e_q_block_7 rfl rfl rfl ⟨by show _ ≤ (33 + 4 * d : Nat); omega, by show _ ≤ (660 + 300 * d : Nat); omega⟩ ?_
          rintro v59 A60 ⟨z63, rfl, rfl, raw_hz_n62⟩
          show JM g D ad w0 A2 10 [(0, vr 0 0)] [vi z63]
          have hz_n62 : z63 = 1 ∧ A2 0 0 31 = 0 ∧ A2 0 0 25 = 4 ∧ A2 0 0 26 = 59 ∨ z63 = 0 ∧ ¬ (A2 0 0 31 = 0 ∧ A2 0 0 25 = 4 ∧ A2 0 0 26 = 59) := raw_hz_n62
          clear raw_hz_n62
          rcases hz_n62 with ⟨e_n62, hz_n62⟩ | ⟨e_n62, hz_n62⟩
          · subst e_n62
            have bt_n62 : A2 0 0 24 < A2 0 0 23 := pT_lt (A := A2) iT hz_n62.1 (by show ¬ A2 0 0 25 = 0; omega)
            refine m_if_eq (tgt := 24) C e_q_block_10 (by decide) (by decide) (fun c64 => (by omega : False).elim) (fun c64 => ?_)
            refine m_blk 14 [(0, vr 0 0)] [vr 0 0] C f_q_block_13_1 rfl ?_
            refine m_callV C Rm Y [] [] (q_next l D B H0 ad _ hS hT2 (by show A2 0 0 23 ≤ A2 0 0 22; omega)) cl_Mo_176 rfl (by decide) rfl rfl e_q_block_14 rfl rfl rfl ⟨by show _ ≤ (33 + 4 * d : Nat); omega, by show _ ≤ (660 + 300 * d : Nat); omega⟩ ?_
            rintro v65 A66 ⟨rfl, hT_n68, hE_n68, raw_hw_n68, raw_hb_n68⟩
            have hF_n68 := hE2.trans (hE_n68.sub (nm_pm _))
            show JM g D ad w0 A66 17 [(0, vr 0 0)] []
            obtain ⟨b1_n68, b2_n68, b3_n68, pt_n68⟩ : A2 0 0 23 ≤ A66 0 0 24 ∧ A66 0 0 24 ≤ A66 0 0 23 ∧ A66 0 0 23 ≤ A66 0 0 22 ∧ pT A66 := raw_hb_n68 g2
            clear raw_hb_n68 raw_hw_n68
            have k0_n68 : A66 0 0 0 = A2 0 0 0 := hE_n68 0 0 0 rfl
            have k22_n68 : A66 0 0 22 = A2 0 0 22 := hE_n68 0 0 22 rfl
            have k27_n68 : A66 0 0 27 = A2 0 0 27 := hE_n68 0 0 27 rfl
            have k28_n68 : A66 0 0 28 = A2 0 0 28 := hE_n68 0 0 28 rfl
            have k29_n68 : A66 0 0 29 = A2 0 0 29 := hE_n68 0 0 29 rfl
            have k30_n68 : A66 0 0 30 = A2 0 0 30 := hE_n68 0 0 30 rfl
            rcases (show A66 0 0 31 = 0 ∨ A66 0 0 31 = 1 from by have w9 := hT_n68 0 0 31; have w8 : 0 ≤ A66 0 0 31 ∧ A66 0 0 31 ≤ 1 := w9; omega) with g_n68 | g_n68
            · refine m_blk 18 [(0, vr 0 0)] [vr 0 0] C f_q_block_17_1 rfl ?_
              refine m_callV C Rm Y [] [] (hq9 l D B H0 ad _ hS hT_n68 p0 (by show A66 0 0 0 = p0 ∧ 0 ≤ p0 ∧ p0 ≤ 5; omega) (by show A66 0 0 24 ≤ A66 0 0 23 ∧ A66 0 0 23 ≤ A66 0 0 22; omega) pt_n68 (fun _ => by show A66 0 0 30 + 3 * A66 0 0 29 ≤ A66 0 0 24; omega) (nG.nm (A := A2) iG hE_n68) (by show A66 0 0 27 = 4 - (d : Int) ∧ (d : Int) ≤ 4; omega)) cl_Mo_179 rfl (by decide) rfl rfl e_q_block_18 rfl rfl rfl ⟨by show _ ≤ (33 + 4 * d : Nat); omega, by show _ ≤ (660 + 300 * d : Nat); omega⟩ ?_
              rintro v69 A70 ⟨rfl, hT_n72, hE_n72, raw_hb_n72, raw_hn_n72, raw_hw_n72, raw_hm_n72, raw_hG_n72, raw_hQ_n72⟩
              have hF_n72 := hF_n68.trans (hE_n72.sub (fun _ _ _ h => h))
              show JM g D ad w0 A70 21 [(0, vr 0 0)] []
              have hb_n72 : A70 0 0 24 ≤ A70 0 0 23 ∧ A70 0 0 23 ≤ A70 0 0 22 := raw_hb_n72
              clear raw_hb_n72
              have hm_n72 : A66 0 0 24 ≤ A70 0 0 24 ∧ A66 0 0 28 ≤ A70 0 0 28 ∧ A66 0 0 29 ≤ A70 0 0 29 ∧ A66 0 0 30 ≤ A70 0 0 30 ∧ A70 0 0 27 = A66 0 0 27 := raw_hm_n72
              clear raw_hm_n72
              have pt_n72 : pT A70 := raw_hn_n72
              have k0_n72 : A70 0 0 0 = A66 0 0 0 := hE_n72 0 0 0 rfl
              have k22_n72 : A70 0 0 22 = A66 0 0 22 := hE_n72 0 0 22 rfl
              have hG_n72 : nG p0.toNat A70 := raw_hG_n72
              have hV_n72 : pV p0.toNat (4 - (d : Int)) A66 A70 := raw_hw_n72
              clear raw_hw_n72
              have hQ_n72 : pQ p0.toNat (A66 0 0 28) (A66 0 0 29) (A66 0 0 30) A66 A70 := raw_hQ_n72
              clear raw_hQ_n72
              rcases (show A70 0 0 31 = 0 ∨ A70 0 0 31 = 1 from by have w9 := hT_n72 0 0 31; have w8 : 0 ≤ A70 0 0 31 ∧ A70 0 0 31 ≤ 1 := w9; omega) with g_n72 | g_n72
              · have u_n72 : A66 0 0 24 - A66 0 0 30 - 3 * A66 0 0 29 ≤ A70 0 0 24 - A70 0 0 30 - 3 * A70 0 0 29 ∧ A66 0 0 28 + 1 ≤ A70 0 0 28 := ⟨(hV_n72 g_n72).2.1, (hV_n72 g_n72).2.2.1⟩
                refine m_blk 4 [(0, vr 0 0)] [] C f_q_block_21_1 rfl ?_
                refine m_loc [(0, vr 0 0)] ⟨rfl, trivial⟩ ?_
                exact ih A70 hT_n72 hF_n72 (by show A70 0 0 24 ≤ A70 0 0 23 ∧ A70 0 0 23 ≤ A70 0 0 22; omega) pt_n72 (by show A 0 0 24 ≤ A70 0 0 24 ∧ A 0 0 28 ≤ A70 0 0 28 ∧ A 0 0 29 ≤ A70 0 0 29 ∧ A 0 0 30 ≤ A70 0 0 30 ∧ A70 0 0 27 = A 0 0 27 ∧ A70 0 0 22 = A 0 0 22 ∧ A70 0 0 0 = p0; omega) hG_n72 (pQ.trans (pQ.fam iQ (fam_nm _ hE_n68)) (pQ.le hQ_n72 (by show A 0 0 28 ≤ A66 0 0 28; omega) (by show A 0 0 29 ≤ A66 0 0 29; omega) (by show A 0 0 30 ≤ A66 0 0 30; omega))) (pV.trans (pV.tok iV (fam_nm _ hE_n68) (hE_n68 0 0 28 rfl) (hE_n68 0 0 29 rfl) (hE_n68 0 0 30 rfl) (fun _ => g2) (by show A2 0 0 24 ≤ A66 0 0 24; omega)) hV_n72 hQ_n72 (by omega) (by omega) (by omega)) (by have hm9 := hm; show (200 - A70 0 0 24) < _; omega)
              · refine m_blk 4 [(0, vr 0 0)] [] C f_q_block_21_1 rfl ?_
                refine m_loc [(0, vr 0 0)] ⟨rfl, trivial⟩ ?_
                exact ih A70 hT_n72 hF_n72 (by show A70 0 0 24 ≤ A70 0 0 23 ∧ A70 0 0 23 ≤ A70 0 0 22; omega) pt_n72 (by show A 0 0 24 ≤ A70 0 0 24 ∧ A 0 0 28 ≤ A70 0 0 28 ∧ A 0 0 29 ≤ A70 0 0 29 ∧ A 0 0 30 ≤ A70 0 0 30 ∧ A70 0 0 27 = A 0 0 27 ∧ A70 0 0 22 = A 0 0 22 ∧ A70 0 0 0 = p0; omega) hG_n72 (pQ.trans (pQ.fam iQ (fam_nm _ hE_n68)) (pQ.le hQ_n72 (by show A 0 0 28 ≤ A66 0 0 28; omega) (by show A 0 0 29 ≤ A66 0 0 29; omega) (by show A 0 0 30 ≤ A66 0 0 30; omega))) (fun h9 => absurd ((g_n72 : A70 0 0 31 = 1).symm.trans h9) (by decide)) (by have hm9 := hm; show (200 - A70 0 0 24) < _; omega)
            · refine m_blk 18 [(0, vr 0 0)] [vr 0 0] C f_q_block_17_1 rfl ?_
              refine m_callV C Rm Y [] [] (hq9 l D B H0 ad _ hS hT_n68 p0 (by show A66 0 0 0 = p0 ∧ 0 ≤ p0 ∧ p0 ≤ 5; omega) (by show A66 0 0 24 ≤ A66 0 0 23 ∧ A66 0 0 23 ≤ A66 0 0 22; omega) pt_n68 (fun h9 => absurd ((g_n68 : A66 0 0 31 = 1).symm.trans h9) (by decide)) (nG.nm (A := A2) iG hE_n68) (by show A66 0 0 27 = 4 - (d : Int) ∧ (d : Int) ≤ 4; omega)) cl_Mo_179 rfl (by decide) rfl rfl e_q_block_18 rfl rfl rfl ⟨by show _ ≤ (33 + 4 * d : Nat); omega, by show _ ≤ (660 + 300 * d : Nat); omega⟩ ?_
              rintro v73 A74 ⟨rfl, hT_n76, hE_n76, raw_hb_n76, raw_hn_n76, raw_hw_n76, raw_hm_n76, raw_hG_n76, raw_hQ_n76⟩
              have hF_n76 := hF_n68.trans (hE_n76.sub (fun _ _ _ h => h))
              show JM g D ad w0 A74 21 [(0, vr 0 0)] []
              have hb_n76 : A74 0 0 24 ≤ A74 0 0 23 ∧ A74 0 0 23 ≤ A74 0 0 22 := raw_hb_n76
              clear raw_hb_n76
              have hm_n76 : A66 0 0 24 ≤ A74 0 0 24 ∧ A66 0 0 28 ≤ A74 0 0 28 ∧ A66 0 0 29 ≤ A74 0 0 29 ∧ A66 0 0 30 ≤ A74 0 0 30 ∧ A74 0 0 27 = A66 0 0 27 := raw_hm_n76
              clear raw_hm_n76
              have pt_n76 : pT A74 := raw_hn_n76
              have k0_n76 : A74 0 0 0 = A66 0 0 0 := hE_n76 0 0 0 rfl
              have k22_n76 : A74 0 0 22 = A66 0 0 22 := hE_n76 0 0 22 rfl
              have hG_n76 : nG p0.toNat A74 := raw_hG_n76
              have hV_n76 : pV p0.toNat (4 - (d : Int)) A66 A74 := raw_hw_n76
              clear raw_hw_n76
              have hQ_n76 : pQ p0.toNat (A66 0 0 28) (A66 0 0 29) (A66 0 0 30) A66 A74 := raw_hQ_n76
              clear raw_hQ_n76
              have g_n76 : A74 0 0 31 = 1 := wr_1 (hT_n76 0 0 31) (fun h9 => absurd ((g_n68 : A66 0 0 31 = 1).symm.trans (hV_n76 h9).1) (by decide))
              refine m_blk 4 [(0, vr 0 0)] [] C f_q_block_21_1 rfl ?_
              refine m_loc [(0, vr 0 0)] ⟨rfl, trivial⟩ ?_
              exact ih A74 hT_n76 hF_n76 (by show A74 0 0 24 ≤ A74 0 0 23 ∧ A74 0 0 23 ≤ A74 0 0 22; omega) pt_n76 (by show A 0 0 24 ≤ A74 0 0 24 ∧ A 0 0 28 ≤ A74 0 0 28 ∧ A 0 0 29 ≤ A74 0 0 29 ∧ A 0 0 30 ≤ A74 0 0 30 ∧ A74 0 0 27 = A 0 0 27 ∧ A74 0 0 22 = A 0 0 22 ∧ A74 0 0 0 = p0; omega) hG_n76 (pQ.trans (pQ.fam iQ (fam_nm _ hE_n68)) (pQ.le hQ_n76 (by show A 0 0 28 ≤ A66 0 0 28; omega) (by show A 0 0 29 ≤ A66 0 0 29; omega) (by show A 0 0 30 ≤ A66 0 0 30; omega))) (fun h9 => absurd ((g_n76 : A74 0 0 31 = 1).symm.trans h9) (by decide)) (by have hm9 := hm; show (200 - A74 0 0 24) < _; omega)
          · subst e_n62
            clear hz_n62
            refine m_if_eq (tgt := 24) C e_q_block_10 (by decide) (by decide) (fun c77 => ?_) (fun c77 => (by omega : False).elim)
            exact m_vret C Rm E e_q_block_24 ⟨rfl, hT2, hE2, (by show A2 0 0 24 ≤ A2 0 0 23 ∧ A2 0 0 23 ≤ A2 0 0 22; omega), iT, iV, (by show A 0 0 24 ≤ A2 0 0 24 ∧ A 0 0 28 ≤ A2 0 0 28 ∧ A 0 0 29 ≤ A2 0 0 29 ∧ A 0 0 30 ≤ A2 0 0 30 ∧ A2 0 0 27 = A 0 0 27; omega), iG, iQ⟩
        · refine m_blk 7 [(0, vr 0 0)] [vi 59, vr 0 0] C f_q_block_4_2 rfl ?_
          refine m_callV C Rm Y [vi 59] [] (q_isSign l D B H0 ad _ hT2 59 (by show -2147483648 ≤ 59 ∧ 59 ≤ 2147483647; omega)) cl_Mo_173 rfl (by decide) rfl rfl e_q_block_7 rfl rfl rfl ⟨by show _ ≤ (33 + 4 * d : Nat); omega, by show _ ≤ (660 + 300 * d : Nat); omega⟩ ?_
          rintro v78 A79 ⟨z82, rfl, rfl, raw_hz_n81⟩
          show JM g D ad w0 A2 10 [(0, vr 0 0)] [vi z82]
          have hz_n81 : z82 = 1 ∧ A2 0 0 31 = 0 ∧ A2 0 0 25 = 4 ∧ A2 0 0 26 = 59 ∨ z82 = 0 ∧ ¬ (A2 0 0 31 = 0 ∧ A2 0 0 25 = 4 ∧ A2 0 0 26 = 59) := raw_hz_n81
          clear raw_hz_n81
          rcases hz_n81 with ⟨e_n81, hz_n81⟩ | ⟨e_n81, hz_n81⟩
          · subst e_n81
            exact (by omega : False).elim
          · subst e_n81
            clear hz_n81
            refine m_if_eq (tgt := 24) C e_q_block_10 (by decide) (by decide) (fun c83 => ?_) (fun c83 => (by omega : False).elim)
            exact m_vret C Rm E e_q_block_24 ⟨rfl, hT2, hE2, (by show A2 0 0 24 ≤ A2 0 0 23 ∧ A2 0 0 23 ≤ A2 0 0 22; omega), iT, (fun h9 => absurd ((g2 : A2 0 0 31 = 1).symm.trans h9) (by decide)), (by show A 0 0 24 ≤ A2 0 0 24 ∧ A 0 0 28 ≤ A2 0 0 28 ∧ A 0 0 29 ≤ A2 0 0 29 ∧ A 0 0 30 ≤ A2 0 0 30 ∧ A2 0 0 27 = A 0 0 27; omega), iG, iQ⟩
    refine m_loc [(0, vr 0 0)] ⟨rfl, trivial⟩ ?_
    exact hd_4 (Int.toNat ((200 - A56 0 0 24)) + 1) A56 hT_n58 hF_n58 (by show A56 0 0 24 ≤ A56 0 0 23 ∧ A56 0 0 23 ≤ A56 0 0 22; omega) pt_n58 (by show A 0 0 24 ≤ A56 0 0 24 ∧ A 0 0 28 ≤ A56 0 0 28 ∧ A 0 0 29 ≤ A56 0 0 29 ∧ A 0 0 30 ≤ A56 0 0 30 ∧ A56 0 0 27 = A 0 0 27 ∧ A56 0 0 22 = A 0 0 22 ∧ A56 0 0 0 = p0; omega) hG_n58 (pQ.trans pQ.rfl' (pQ.le hQ_n58 (by show A 0 0 28 ≤ A 0 0 28; omega) (by show A 0 0 29 ≤ A 0 0 29; omega) (by show A 0 0 30 ≤ A 0 0 30; omega))) (fun h9 => absurd ((g_n58 : A56 0 0 31 = 1).symm.trans h9) (by decide)) (by show (200 - A56 0 0 24) < _; omega)

theorem q_B : ∀ d : Nat, S_block d := fun d => by
  induction d with
  | zero => exact q_block 0 (q_step 0 (q_inBraces 0 (fun d1 h => absurd h (by omega))))
  | succ d ih => exact q_block (d + 1) (q_step (d + 1) (q_inBraces (d + 1) (fun d1 h => by
      have : d1 = d := by omega
      rw [this]
      exact ih)))
