/-! THE CLASS BY THE T LAYER (own work, by program): tables, links, methods -/
def y_Math_floorMod : MethodName := ⟨"java/lang/Math", "floorMod", "(II)I"⟩
abbrev b_Math_floorMod : ByteArray := prog_16_method_50_code
theorem jb_Math_floorMod : jcB y_Math_floorMod b_Math_floorMod 3 (some .int) 2 := ⟨jmem 113 (by decide +kernel) rfl, jmem 811 (by decide +kernel) rfl, ⟨by decide +kernel, by decide +kernel⟩, by decide +kernel⟩
theorem cl_Prog_153 : jcS "ChanceSteps$Program" 153 y_Math_floorMod b_Math_floorMod 3 (some .int) 2 := ⟨jb_Math_floorMod, jmem 810 (by decide +kernel) rfl, jmem 809 (by decide +kernel) rfl⟩
theorem tik_ok {cc : ByteArray} {ik : List tE} (h : ik.all (fun q => decide (decode cc q.1 = .ok (q.2.1, q.2.2.1))) = true) : ∀ q ∈ ik, decode cc q.1 = .ok (q.2.1, q.2.2.1) := fun q hq => of_decide_eq_true (List.all_eq_true.mp h q hq)

/-- contracts proved by hand -/
def I_Walk_lend : tI := (y_Walk_lend, b_Walk_lend, 1, (some (.object "ChanceSteps$Crowd")), 3, 120, false, ((2, 13) :: (3, 0) :: (3, 1) :: (3, 2) :: (3, 3) :: (3, 4) :: (3, 5) :: (8, 1) :: (8, 3) :: (8, 4) :: (8, 5) :: (8, 6) :: (8, 7) :: []), ([], [0], [(4, 7, 0)], []), [([], [1], [(4, 7, 0), (5, 0, 0), (0, 1, 40)], [(0, 0, 2, 2, 0)])])
def lk_Walk : tLK := (((12, 7, 0, false) :: (20, 7, 1, false) :: (24, 2, 13, false) :: (31, 2, 14, false) :: (39, 2, 1, false) :: (46, 2, 15, false) :: (54, 0, 3, false) :: (72, 7, 2, false) :: (92, 6, 0, false) :: (120, 0, 2, false) :: (121, 6, 2, false) :: (124, 0, 0, false) :: (128, 6, 1, false) :: (138, 0, 1, false) :: (145, 6, 7, false) :: (166, 6, 5, false) :: (183, 6, 12, false) :: (186, 6, 13, false) :: (194, 2, 8, false) :: (195, 2, 12, false) :: (220, 7, 3, false) :: []), [(24, 2, 13, (.object "ChanceSteps$Crowd"), false), (31, 2, 14, .int, false), (46, 2, 15, .boolean, false), (54, 0, 3, .int, false), (72, 7, 2, .int, false), (120, 0, 2, .int, false), (220, 7, 3, .int, false)], [(242, 1103515245)], [], [(75, true)])
theorem lkok_Walk : lkOK "ChanceSteps$Walker" lk_Walk := ⟨(List.forall_mem_cons.mpr ⟨fg_Walk_12, (List.forall_mem_cons.mpr ⟨fg_Walk_20, (List.forall_mem_cons.mpr ⟨fg_Walk_24, (List.forall_mem_cons.mpr ⟨fg_Walk_31, (List.forall_mem_cons.mpr ⟨fg_Walk_39, (List.forall_mem_cons.mpr ⟨fg_Walk_46, (List.forall_mem_cons.mpr ⟨fg_Walk_54, (List.forall_mem_cons.mpr ⟨fg_Walk_72, (List.forall_mem_cons.mpr ⟨fg_Walk_92, (List.forall_mem_cons.mpr ⟨fg_Walk_120, (List.forall_mem_cons.mpr ⟨fg_Walk_121, (List.forall_mem_cons.mpr ⟨fg_Walk_124, (List.forall_mem_cons.mpr ⟨fg_Walk_128, (List.forall_mem_cons.mpr ⟨fg_Walk_138, (List.forall_mem_cons.mpr ⟨fg_Walk_145, (List.forall_mem_cons.mpr ⟨fg_Walk_166, (List.forall_mem_cons.mpr ⟨fg_Walk_183, (List.forall_mem_cons.mpr ⟨fg_Walk_186, (List.forall_mem_cons.mpr ⟨fg_Walk_194, (List.forall_mem_cons.mpr ⟨fg_Walk_195, (List.forall_mem_cons.mpr ⟨fg_Walk_220, (fun _ h => absurd h List.not_mem_nil)⟩)⟩)⟩)⟩)⟩)⟩)⟩)⟩)⟩)⟩)⟩)⟩)⟩)⟩)⟩)⟩)⟩)⟩)⟩)⟩)⟩), (List.forall_mem_cons.mpr ⟨fp_Walk_24, (List.forall_mem_cons.mpr ⟨fp_Walk_31, (List.forall_mem_cons.mpr ⟨fp_Walk_46, (List.forall_mem_cons.mpr ⟨fp_Walk_54, (List.forall_mem_cons.mpr ⟨fp_Walk_72, (List.forall_mem_cons.mpr ⟨fp_Walk_120, (List.forall_mem_cons.mpr ⟨fp_Walk_220, (fun _ h => absurd h List.not_mem_nil)⟩)⟩)⟩)⟩)⟩)⟩)⟩), (List.forall_mem_cons.mpr ⟨ld_Walk_242, (fun _ h => absurd h List.not_mem_nil)⟩), (fun _ h => absurd h List.not_mem_nil), (List.forall_mem_cons.mpr ⟨cl_Walk_75, (fun _ h => absurd h List.not_mem_nil)⟩)⟩
def ik_Walk_lend : List tE := (0, .aload_n 0, 1, .null) :: (1, .getfield 72, 3, .null) :: (4, .ifCond .lt 15, 3, .null) :: (7, .aload_n 0, 1, .null) :: (8, .getfield 72, 3, .null) :: (11, .aload_n 0, 1, .null) :: (12, .getfield 20, 3, .null) :: (15, .arraylength, 1, .null) :: (16, .if_icmp .lt 5, 3, .null) :: (19, .aconst_null, 1, .null) :: (20, .areturn, 1, .null) :: (21, .aload_n 0, 1, .null) :: (22, .getfield 20, 3, .null) :: (25, .aload_n 0, 1, .null) :: (26, .getfield 72, 3, .null) :: (29, .aaload, 1, .null) :: (30, .ifnonnull 19, 3, .null) :: (33, .aload_n 0, 1, .null) :: (34, .getfield 20, 3, .null) :: (37, .aload_n 0, 1, .null) :: (38, .getfield 72, 3, .null) :: (41, .new 18, 3, .null) :: (44, .dup, 1, .null) :: (45, .invokespecial 30, 3, .null) :: (48, .aastore, 1, .null) :: (49, .aload_n 0, 1, .null) :: (50, .dup, 1, .null) :: (51, .getfield 72, 3, .null) :: (54, .iconst 1, 1, .int 1) :: (55, .iadd, 1, .null) :: (56, .putfield 72, 3, .null) :: (59, .aload_n 0, 1, .null) :: (60, .getfield 20, 3, .null) :: (63, .aload_n 0, 1, .null) :: (64, .getfield 72, 3, .null) :: (67, .iconst 1, 1, .int 1) :: (68, .isub, 1, .null) :: (69, .aaload, 1, .null) :: (70, .areturn, 1, .null) :: []
theorem ikd_Walk_lend : ∀ q ∈ ik_Walk_lend, decode b_Walk_lend q.1 = .ok (q.2.1, q.2.2.1) := tik_ok (by decide +kernel)
def md_Walk_lend : tMD := (ik_Walk_lend, lk_Walk, [], [(41, ([(0, 0)], [1, 2], [(4, 7, 0), (0, 0, 39), (4, 35, 0), (6, 0, 0)], [(0, 0, 1, 2, 0), (0, 0, 2, 1, 0), (1, 2, 1, 3, 0)]), [(0, 2, 0)]), (49, ([(0, 0)], [], [(4, 7, 0), (4, 35, 0), (0, 0, 39), (4, 0, 0)], [(0, 0, 1, 1, 0), (0, 0, 2, 2, 0), (1, 1, 2, 3, 0)]), [(0, 1, 0)])])
theorem dx_lend_41 : decode b_Walk_lend 41 = .ok (.new 18, 3) := by decide +kernel
theorem kx_lend_44 : sblk b_Walk_lend [(44, .dup, .null)] := sblk_of (by decide +kernel)
theorem dx_lend_45 : decode b_Walk_lend 45 = .ok (.invokespecial 30, 3) := by decide +kernel
theorem dx_lend_48 : decode b_Walk_lend 48 = .ok (.aastore, 1) := by decide +kernel
def xs_lend : tS := ([(0, 0)], [], [(4, 7, 0), (0, 0, 39), (4, 35, 0), (6, 0, 0), (4, 0, 0)], [(1, 2, 1, 4, 0), (0, 0, 1, 2, 0), (0, 0, 2, 1, 0)])
theorem x_Walk_lend (l : Launch) (D : va_G) (B : Nat) (H0 : Heap) : ∀ hd ∈ md_Walk_lend.2.2.2, hd.1 ∈ [41] → tHX l D B H0 I_Walk_lend md_Walk_lend hd := by
  intro hd hm hx g G0 w0 ρ0 C Rm Y hle G w ρ hP hS ha hH
  rcases List.mem_cons.mp hm with rfl | hm
  rotate_left
  · rcases List.mem_cons.mp hm with rfl | hm
    · exact absurd hx (by decide)
    · cases hm
  have h49 := hH _ (List.mem_cons_of_mem _ List.mem_cons_self)
  obtain ⟨s1, s2, s3, s4, s5⟩ := hS
  obtain ⟨x, hx0, gx⟩ := s4 0 (4, 7, 0) rfl
  obtain ⟨i, hi, i0, i1⟩ := s4 1 (0, 0, 39) rfl
  obtain ⟨sp, hsp, gsp⟩ := s4 2 (4, 35, 0) rfl
  have hnul : ρ 3 = .null := s4 3 (6, 0, 0) rfl
  have f1 := s5 (0, 0, 1, 2, 0) (List.elem_iff.mp rfl)
  have f2 := s5 (0, 0, 2, 1, 0) (List.elem_iff.mp rfl)
  obtain ⟨a', t', n', f', i', g1, g2, g3, g4⟩ := s5 (1, 2, 1, 3, 0) (List.elem_iff.mp rfl)
  obtain ⟨f, hcell, hel⟩ := (tcell_R (τ := 35) rfl rfl).mp (hP.1.1 sp 35 gsp)
  have g1 : ρ 2 = .ref a' := g1
  have g2 : ρ 1 = .int i' := g2
  have g4 : va_rf (f' i'.toNatClampNeg) = ρ 3 := g4
  have ea : sp = a' := by rw [hsp] at g1; cases g1; rfl
  have ei : i = i' := by rw [hi] at g2; cases g2; rfl
  rw [← ea, hcell] at g3
  have ef : f = f' := x_arrf g3
  rw [← ei, ← ef, hnul] at g4
  have hf0 := x_null g4
  have hin : vp_in i 40 := jin i0 (by have := i1; dsimp only at this; omega)
  have hlt : i.toNatClampNeg < 40 := Nat.not_le.mp fun q => hin (Or.inr q)
  have hone := fun q => nulls_one (q := q) hlt hf0
  have hpos : 0 < pu (some 35) (w.1 sp) := by
    rw [hcell]
    show 0 < nulls 40 f
    rw [hone 0]
    omega
  show JJ g w 41 [(0, ρ 0)] [ρ 1, ρ 2]
  rw [hi, hsp]
  refine x_crowd C Rm Y dx_lend_41 nw_Walk_18 kx_lend_44 dx_lend_45 cl_Walk_30 (by show 1 + (1 + 0) ≤ 7; decide) ⟨rfl, rfl, hle.1, hle.2, (by show 2 ≤ Ifr I_Walk_lend; decide), (by show 60 ≤ Ilo I_Walk_lend; decide)⟩ (hP.1.2.1.room gsp hpos) (fun q c1 c2 w2 V9 hq h1 h2 h3 hold mo e0 e1 e2 e3 m1 m2 k1 k2 => ?_)
  refine j_aast (ci := 0) C dx_lend_48 rfl rfl (hold _ _ hcell) mo hin ?_
  obtain ⟨n1, n2, n3⟩ := xN_ok (G := G) h1 h2 h3
  obtain ⟨p1, p2, p3, p4⟩ := xN_cells (D := D) (G := G) h1 h2 h3 mo e0 e1 e2 e3 m1 m2
  have hfr := xN_fresh hq h1 h2
  have hgo := x_mono hP.1.1 hfr
  have hPW := hP.1.alloc (c9 := aR D 7 40 (va_up f i.toNatClampNeg (some q))) (xN q c1 c2) [] hold hfr p1 p2 gsp hcell ((tcell_R (τ := 35) rfl rfl).mpr ⟨_, rfl, fun j hj => by
    by_cases e : j = i.toNatClampNeg
    · rw [e, va_up_self]; exact Or.inr ⟨q, rfl, n1⟩
    · rw [va_up_ne _ _ e]; exact vok_mono hgo (hel j hj)⟩) (fun _ => up_mono hf0) (fun o V V' ho => by cases ho) (by rw [← hcell]; exact hpos) List.nodup_nil (fun b hb => by cases hb) (fun p hp _ => p3 p hp) p4
    (by show w2.2.1 + 3 * (nulls 40 (va_up f i.toNatClampNeg (some q)) + 0) + 26 * 0 ≤ w.2.1 + 3 * nulls 40 f + 26 * 0; rw [hone q]; omega)
    (by show w2.2.2 + 604 * (nulls 40 (va_up f i.toNatClampNeg (some q)) + 0) + 739 * 0 ≤ w.2.2 + 604 * nulls 40 f + 739 * 0; rw [hone q]; omega)
  have hTk : TRk (IK I_Walk_lend) G0 w0 (va_up w2.1 sp (some (aR D 7 40 (va_up f i.toNatClampNeg (some q)))), w2.2) := TRk.alloc hP.2.1 hP.1.2.2 hP.1.1 hold gsp hcell (fun c fs V V' ho => by cases ho)
  have hS2 : tSat D (gext (xN q c1 c2) G) (va_up w2.1 sp (some (aR D 7 40 (va_up f i.toNatClampNeg (some q)))), w2.2) (rset ρ 4 (.ref q)) xs_lend := by
    refine ⟨by decide, by decide, by decide, fun j t hj => ?_, fun p hp => ?_⟩
    · match j, hj with
      | 0, hj => cases hj; exact vok_mono hgo (s4 0 _ rfl)
      | 1, hj => cases hj; exact vok_mono hgo (s4 1 _ rfl)
      | 2, hj => cases hj; exact vok_mono hgo (s4 2 _ rfl)
      | 3, hj => cases hj; exact vok_mono hgo (s4 3 _ rfl)
      | 4, hj => cases hj; exact ⟨q, rfl, n1⟩
      | j + 5, hj => cases hj
    · have hob : ∀ {k v : Nat}, fok D w ρ (0, 0, k, v, 0) → v < 4 → fok D (va_up w2.1 sp (some (aR D 7 40 (va_up f i.toNatClampNeg (some q)))), w2.2) (rset ρ 4 (.ref q)) (0, 0, k, v, 0) := by
        intro k v hf hv
        obtain ⟨a, ci, V, y1, y2, y3⟩ := hf
        have hne : a ≠ sp := fun e => by rw [e, hcell] at y2; cases y2
        exact ⟨a, ci, V, y1, (va_up_ne _ _ hne).trans (hold a _ y2), y3.trans (rset_ne hv).symm⟩
      rcases List.mem_cons.mp hp with rfl | hp
      · exact ⟨sp, 7, 40, _, i, hsp, hi, va_up_self _ _ _, by rw [va_up_self]; rfl⟩
      · rcases List.mem_cons.mp hp with rfl | hp
        · exact hob f1 (by decide)
        · rcases List.mem_cons.mp hp with rfl | hp
          · exact hob f2 (by decide)
          · cases hp
  have kk := tedge_ok (I := I_Walk_lend) (M := [(0, 2, 0)]) (ρ := rset ρ 4 (.ref q)) (ρ0 := ρ0) (s := xs_lend) (by rfl) (by decide) h49 ⟨hPW, hTk, fun e => by cases e⟩ hS2 (fun j hj => by
    have hj : j < 1 := hj
    rw [rset_ne (by omega)]; exact ha j hj) (by decide +kernel)
  have e9 : cL (rset ρ 4 (.ref q)) xs_lend = [(0, ρ 0)] := rfl
  rw [e9] at kk
  exact kk
theorem tc_Walk_lend (l : Launch) (D : va_G) (B : Nat) (H0 : Heap) : tCon l D B H0 I_Walk_lend := tmet_okX [41] (x_Walk_lend l D B H0) (Is := []) (md := md_Walk_lend) (fuel := 44) (fun _ h => absurd h List.not_mem_nil) ikd_Walk_lend lkok_Walk (fun _ h => absurd h List.not_mem_nil) (by decide +kernel) (by decide +kernel)
