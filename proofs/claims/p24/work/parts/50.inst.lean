/-! heads by hand alone -/
def y_Math_floorMod : MethodName := ⟨"java/lang/Math", "floorMod", "(II)I"⟩
abbrev b_Math_floorMod : ByteArray := prog_16_method_50_code
theorem jb_Math_floorMod : jcB y_Math_floorMod b_Math_floorMod 3 (some .int) 2 := ⟨jmem 113 (by decide +kernel) rfl, jmem 811 (by decide +kernel) rfl, ⟨by decide +kernel, by decide +kernel⟩, by decide +kernel⟩
theorem cl_Prog_153 : jcS "ChanceSteps$Program" 153 y_Math_floorMod b_Math_floorMod 3 (some .int) 2 := ⟨jb_Math_floorMod, jmem 810 (by decide +kernel) rfl, jmem 809 (by decide +kernel) rfl⟩
theorem tik_ok {cc : ByteArray} {ik : List tE} (h : ik.all (fun q => decide (decode cc q.1 = .ok (q.2.1, q.2.2.1))) = true) : ∀ q ∈ ik, decode cc q.1 = .ok (q.2.1, q.2.2.1) := fun q hq => of_decide_eq_true (List.all_eq_true.mp h q hq)

def I_CS_program : tI := (y_CS_program, b_CS_program, 3, (some .int), 420, 31000, false, [(2, 13), (8, 4), (8, 5), (8, 6), (8, 7)], ([], [0], [(4, 8, 0)], []), [([], [1], [(4, 8, 0), (0, (-220), 5)], [])])
def lk_CS : tLK := (((9, 8, 0, false) :: (15, 8, 2, false) :: (21, 8, 8, false) :: (28, 8, 9, false) :: (35, 8, 10, false) :: (39, 8, 11, false) :: (43, 8, 12, false) :: (51, 8, 1, false) :: (59, 8, 3, false) :: (71, 2, 8, false) :: (74, 2, 9, false) :: (83, 8, 4, false) :: (97, 2, 1, false) :: (100, 2, 11, false) :: (104, 2, 10, false) :: (111, 0, 2, false) :: (118, 6, 0, false) :: (123, 6, 1, false) :: (126, 6, 3, false) :: (129, 6, 7, false) :: (130, 6, 6, false) :: (133, 6, 2, false) :: (203, 5, 1, false) :: (206, 5, 2, false) :: (234, 8, 5, false) :: (237, 8, 6, false) :: (240, 8, 7, false) :: (246, 5, 0, false) :: []), [(51, 8, 1, .int, false), (59, 8, 3, .int, false), (83, 8, 4, .int, false), (234, 8, 5, .boolean, false), (237, 8, 6, .int, false), (240, 8, 7, .int, false)], [(159, 1000000)], [(143, (-4611686018427387904)), (149, 1125899906842624), (267, 100)], [])
theorem lkok_CS : lkOK "ChanceSteps" lk_CS := ⟨(List.forall_mem_cons.mpr ⟨fg_CS_9, (List.forall_mem_cons.mpr ⟨fg_CS_15, (List.forall_mem_cons.mpr ⟨fg_CS_21, (List.forall_mem_cons.mpr ⟨fg_CS_28, (List.forall_mem_cons.mpr ⟨fg_CS_35, (List.forall_mem_cons.mpr ⟨fg_CS_39, (List.forall_mem_cons.mpr ⟨fg_CS_43, (List.forall_mem_cons.mpr ⟨fg_CS_51, (List.forall_mem_cons.mpr ⟨fg_CS_59, (List.forall_mem_cons.mpr ⟨fg_CS_71, (List.forall_mem_cons.mpr ⟨fg_CS_74, (List.forall_mem_cons.mpr ⟨fg_CS_83, (List.forall_mem_cons.mpr ⟨fg_CS_97, (List.forall_mem_cons.mpr ⟨fg_CS_100, (List.forall_mem_cons.mpr ⟨fg_CS_104, (List.forall_mem_cons.mpr ⟨fg_CS_111, (List.forall_mem_cons.mpr ⟨fg_CS_118, (List.forall_mem_cons.mpr ⟨fg_CS_123, (List.forall_mem_cons.mpr ⟨fg_CS_126, (List.forall_mem_cons.mpr ⟨fg_CS_129, (List.forall_mem_cons.mpr ⟨fg_CS_130, (List.forall_mem_cons.mpr ⟨fg_CS_133, (List.forall_mem_cons.mpr ⟨fg_CS_203, (List.forall_mem_cons.mpr ⟨fg_CS_206, (List.forall_mem_cons.mpr ⟨fg_CS_234, (List.forall_mem_cons.mpr ⟨fg_CS_237, (List.forall_mem_cons.mpr ⟨fg_CS_240, (List.forall_mem_cons.mpr ⟨fg_CS_246, (fun _ h => absurd h List.not_mem_nil)⟩)⟩)⟩)⟩)⟩)⟩)⟩)⟩)⟩)⟩)⟩)⟩)⟩)⟩)⟩)⟩)⟩)⟩)⟩)⟩)⟩)⟩)⟩)⟩)⟩)⟩)⟩)⟩), (List.forall_mem_cons.mpr ⟨fp_CS_51, (List.forall_mem_cons.mpr ⟨fp_CS_59, (List.forall_mem_cons.mpr ⟨fp_CS_83, (List.forall_mem_cons.mpr ⟨fp_CS_234, (List.forall_mem_cons.mpr ⟨fp_CS_237, (List.forall_mem_cons.mpr ⟨fp_CS_240, (fun _ h => absurd h List.not_mem_nil)⟩)⟩)⟩)⟩)⟩)⟩), (List.forall_mem_cons.mpr ⟨ld_CS_159, (fun _ h => absurd h List.not_mem_nil)⟩), (List.forall_mem_cons.mpr ⟨ld_CS_143, (List.forall_mem_cons.mpr ⟨ld_CS_149, (List.forall_mem_cons.mpr ⟨ld_CS_267, (fun _ h => absurd h List.not_mem_nil)⟩)⟩)⟩), (fun _ h => absurd h List.not_mem_nil)⟩
def ik_CS_program : List tE := (0, .aload_n 0, 1, .null) :: (1, .getfield 59, 3, .null) :: (4, .bipush 6, 2, .int 6) :: (6, .if_icmp .lt 6, 3, .null) :: (9, .bipush (-4), 2, .int (-4)) :: (11, .ireturn, 1, .null) :: (12, .aload_n 0, 1, .null) :: (13, .getfield 15, 3, .null) :: (16, .aload_n 0, 1, .null) :: (17, .getfield 59, 3, .null) :: (20, .aaload, 1, .null) :: (21, .astore_n 1, 1, .null) :: (22, .aload_n 1, 1, .null) :: (23, .ifnonnull 21, 3, .null) :: (26, .new 13, 3, .null) :: (29, .dup, 1, .null) :: (30, .invokespecial 62, 3, .null) :: (33, .astore_n 1, 1, .null) :: (34, .aload_n 0, 1, .null) :: (35, .getfield 15, 3, .null) :: (38, .aload_n 0, 1, .null) :: (39, .getfield 59, 3, .null) :: (42, .aload_n 1, 1, .null) :: (43, .aastore, 1, .null) :: (44, .aload_n 0, 1, .null) :: (45, .getfield 28, 3, .null) :: (48, .aload_n 0, 1, .null) :: (49, .getfield 9, 3, .null) :: (52, .aload_n 0, 1, .null) :: (53, .getfield 51, 3, .null) :: (56, .aload_n 1, 1, .null) :: (57, .aload_n 0, 1, .null) :: (58, .getfield 59, 3, .null) :: (61, .invokevirtual 63, 3, .null) :: (64, .istore_n 2, 1, .null) :: (65, .aload_n 0, 1, .null) :: (66, .iconst 0, 1, .int 0) :: (67, .putfield 51, 3, .null) :: (70, .iload_n 2, 1, .null) :: (71, .iconst (-1), 1, .int (-1)) :: (72, .if_icmp .eq 8, 3, .null) :: (75, .bipush (-100), 2, .int (-100)) :: (77, .iload_n 2, 1, .null) :: (78, .isub, 1, .null) :: (79, .ireturn, 1, .null) :: (80, .aload_n 1, 1, .null) :: (81, .aload_n 0, 1, .null) :: (82, .getfield 15, 3, .null) :: (85, .invokevirtual 67, 3, .null) :: (88, .aload_n 1, 1, .null) :: (89, .getfield 71, 3, .null) :: (92, .bipush 50, 2, .int 50) :: (94, .if_icmp .gt 12, 3, .null) :: (97, .aload_n 1, 1, .null) :: (98, .getfield 74, 3, .null) :: (101, .bipush 60, 2, .int 60) :: (103, .if_icmp .le 6, 3, .null) :: (106, .bipush (-4), 2, .int (-4)) :: (108, .ireturn, 1, .null) :: (109, .aload_n 0, 1, .null) :: (110, .dup, 1, .null) :: (111, .getfield 59, 3, .null) :: (114, .iconst 1, 1, .int 1) :: (115, .iadd, 1, .null) :: (116, .putfield 59, 3, .null) :: (119, .aload_n 0, 1, .null) :: (120, .getfield 59, 3, .null) :: (123, .iconst 1, 1, .int 1) :: (124, .isub, 1, .null) :: (125, .ireturn, 1, .null) :: []
theorem ikd_CS_program : ∀ q ∈ ik_CS_program, decode b_CS_program q.1 = .ok (q.2.1, q.2.2.1) := tik_ok (by decide +kernel)
def md_CS_program : tMD := (ik_CS_program, lk_CS, [(63, 0, 0, 3), (67, 0, 1, 2)], [(26, ([(0, 0)], [], [(4, 8, 0), (4, 21, 0), (0, 0, 5), (6, 0, 0)], [(0, 0, 2, 1, 0), (0, 0, 3, 2, 0), (1, 1, 2, 3, 0)]), [(0, 2, 0)]), (44, ([(0, 0), (1, 1)], [], [(4, 8, 0), (4, 2, 0), (4, 21, 0), (0, 0, 5)], [(0, 0, 2, 2, 0), (0, 0, 3, 3, 0), (1, 2, 3, 1, 0)]), [(0, 1, 0)])])
theorem dx_prog_26 : decode b_CS_program 26 = .ok (.new 13, 3) := by decide +kernel
theorem kx_prog_29 : sblk b_CS_program [(29, .dup, .null)] := sblk_of (by decide +kernel)
theorem dx_prog_30 : decode b_CS_program 30 = .ok (.invokespecial 62, 3) := by decide +kernel
theorem kx_prog_33 : sblk b_CS_program [(33, .astore_n 1, .null), (34, .aload_n 0, .null)] := sblk_of (by decide +kernel)
theorem dx_prog_35 : decode b_CS_program 35 = .ok (.getfield 15, 3) := by decide +kernel
theorem kx_prog_38 : sblk b_CS_program [(38, .aload_n 0, .null)] := sblk_of (by decide +kernel)
theorem dx_prog_39 : decode b_CS_program 39 = .ok (.getfield 59, 3) := by decide +kernel
theorem kx_prog_42 : sblk b_CS_program [(42, .aload_n 1, .null)] := sblk_of (by decide +kernel)
theorem dx_prog_43 : decode b_CS_program 43 = .ok (.aastore, 1) := by decide +kernel
def xs_prog : tS := ([(1, 4), (0, 0)], [], [(4, 8, 0), (4, 21, 0), (0, 0, 5), (6, 0, 0), (4, 2, 0)], [(1, 1, 2, 4, 0), (0, 0, 2, 1, 0), (0, 0, 3, 2, 0)])
theorem x_CS_program (l : Launch) (D : va_G) (B : Nat) (H0 : Heap) : ∀ hd ∈ md_CS_program.2.2.2, hd.1 ∈ [26] → tHX l D B H0 I_CS_program md_CS_program hd := by
  intro hd hm hx g G0 w0 ρ0 C Rm Y hle G w ρ hP hS ha hH
  rcases List.mem_cons.mp hm with rfl | hm
  rotate_left
  · rcases List.mem_cons.mp hm with rfl | hm
    · exact absurd hx (by decide)
    · cases hm
  have h44 := hH _ (List.mem_cons_of_mem _ List.mem_cons_self)
  obtain ⟨s1, s2, s3, s4, s5⟩ := hS
  obtain ⟨x, hx0, gx⟩ := s4 0 (4, 8, 0) rfl
  obtain ⟨sp, hsp, gsp⟩ := s4 1 (4, 21, 0) rfl
  obtain ⟨i, hi, i0, i1⟩ := s4 2 (0, 0, 5) rfl
  have hnul : ρ 3 = .null := s4 3 (6, 0, 0) rfl
  have gx : G x = some 8 := gx
  have gsp : G sp = some 21 := gsp
  have f1 := s5 (0, 0, 2, 1, 0) (List.elem_iff.mp rfl)
  have f2 := s5 (0, 0, 3, 2, 0) (List.elem_iff.mp rfl)
  obtain ⟨a', t', n', f', i', g1, g2, g3, g4⟩ := s5 (1, 1, 2, 3, 0) (List.elem_iff.mp rfl)
  obtain ⟨Vx, hxc, -⟩ := (tcell_O (τ := 8) rfl).mp (hP.1.1 x 8 gx)
  have hxc : w.1 x = some (.inr (8, Vx)) := hxc
  have ff : ∀ {k v : Nat}, fok D w ρ (0, 0, k, v, 0) → Vx k = ρ v := by
    intro k v hf
    obtain ⟨a, ci, V, y1, y2, y3⟩ := hf
    have y1 : ρ 0 = .ref a := y1
    have e1 : x = a := by rw [hx0] at y1; cases y1; rfl
    rw [← e1, hxc] at y2
    have e2 : Vx = V := congrArg Prod.snd (Sum.inr.inj (Option.some.inj y2))
    rw [e2]; exact y3
  have v2 := ff f1
  have v3 := ff f2
  obtain ⟨f, hcell, hel⟩ := (tcell_R (τ := 21) (t := 5) rfl rfl).mp (hP.1.1 sp 21 gsp)
  have g1 : ρ 1 = .ref a' := g1
  have g2 : ρ 2 = .int i' := g2
  have g4 : va_rf (f' i'.toNatClampNeg) = ρ 3 := g4
  have ea : sp = a' := by rw [hsp] at g1; cases g1; rfl
  have ei : i = i' := by rw [hi] at g2; cases g2; rfl
  rw [← ea, hcell] at g3
  have ef : f = f' := x_arrf g3
  rw [← ei, ← ef, hnul] at g4
  have hf0 := x_null g4
  have hin : vp_in i 6 := jin i0 (by have := i1; dsimp only at this; omega)
  have hlt : i.toNatClampNeg < 6 := Nat.not_le.mp fun q => hin (Or.inr q)
  have hone := fun q => nulls_one (q := q) hlt hf0
  have hpos : 0 < pu (some 21) (w.1 sp) := by
    rw [hcell]
    show 0 < nulls 6 f
    rw [hone 0]
    omega
  have hposq : 0 < qu (some 21) (w.1 sp) := by
    rw [hcell]
    show 0 < nulls 6 f
    rw [hone 0]
    omega
  obtain ⟨room1, room2⟩ := hP.1.2.1.room2 gsp hposq
  have hkc : w0.2.1 ≤ KC ∧ w0.2.2 ≤ KS := hle
  have ec : w0.2.1 + (KC - w0.2.1) = KC := by omega
  have es : w0.2.2 + (KS - w0.2.2) = KS := by omega
  show JJ g w 26 [(0, ρ 0)] []
  rw [hx0]
  refine j_new C Rm dx_prog_26 nw_CS_13 (by show w.2.1 + 1 ≤ w0.2.1 + (KC - w0.2.1); omega) (by show w.2.2 + 16 ≤ w0.2.2 + (KS - w0.2.2); omega) (fun q hq => ?_)
  refine jnv (fun w1 e1 => ?_)
  have hmq : w1.1 q = some (.inr (2, v0_2)) := jus e1
  have hk1 : w1.2.1 = w.2.1 + 1 ∧ w1.2.2 = w.2.2 + 16 := by rw [e1]; exact ⟨rfl, rfl⟩
  refine j_blk 30 [(0, .ref x)] [.ref q, .ref q] C kx_prog_29 rfl ?_
  refine j_callI C Rm Y [] [.ref q] (c_Prog_init l D B H0 w1 q v0_2 hmq) cl_CS_62 dx_prog_30 rfl rfl (by show 1 + 0 ≤ 8; decide) ⟨(by show 2 + 1 ≤ Ifr I_CS_program; decide), (by show 8 + (2 + 11) + 80 ≤ Ilo I_CS_program; decide)⟩ ⟨(by show w1.2.1 + 25 ≤ w0.2.1 + (KC - w0.2.1); omega), (by show w1.2.2 + 723 ≤ w0.2.2 + (KS - w0.2.2); omega)⟩ (fun v w2 p => ?_)
  obtain ⟨rfl, hc2, G2, V9, xp, cd, lv, lw, sk, ru, r1, r2, r3, Vr, F, l1, l2, l3, l4, l5, l6, l7, l8, l9, mo, h0, h1, h2, h3, h4, h5, h6, h7, h8, h9, h10, h11, h12, h13, h14, h15, mr, u0, u1, u2, m1, m2, m3, m4, m5, m6, m7, m8, hjel⟩ := p
  obtain ⟨N, hold, hfr, hN, hcl, ⟨hqN, hq1, Vq, mq⟩, hpu, hqu, k1, k2⟩ := xPn_ok (D := D) hq e1 hc2 G2 l1 l2 l3 l4 l5 l6 l7 l8 l9 mo h0 h1 h2 h3 h4 h5 h6 h7 h8 h9 h10 h11 h12 h13 h14 h15 mr u0 u1 u2 m1 m2 m3 m4 m5 m6 m7 m8 hjel
  have hgq : gext N G q = some 2 := hN G _ hqN
  show JJ g w2 33 [(0, .ref x)] [.ref q]
  refine j_blk 35 [(1, .ref q), (0, .ref x)] [.ref x] C kx_prog_33 rfl ?_
  refine j_get C dx_prog_35 fg_CS_15 (hold _ _ hxc) (v2.trans hsp) ?_
  refine j_blk 39 [(1, .ref q), (0, .ref x)] [.ref x, .ref sp] C kx_prog_38 rfl ?_
  refine j_get C dx_prog_39 fg_CS_59 (hold _ _ hxc) (v3.trans hi) ?_
  refine j_blk 43 [(1, .ref q), (0, .ref x)] [.ref q, .int i, .ref sp] C kx_prog_42 rfl ?_
  refine j_aast (ci := 2) C dx_prog_43 rfl rfl (hold _ _ hcell) mq hin ?_
  have hgo := x_mono hP.1.1 hfr
  have hPW := hP.1.alloc (c9 := aR D 8 6 (va_up f i.toNatClampNeg (some q))) N [q] hold hfr (hN G) (hcl G) gsp hcell ((tcell_R (τ := 21) (t := 5) rfl rfl).mpr ⟨_, rfl, fun j hj => by
    by_cases e : j = i.toNatClampNeg
    · rw [e, va_up_self]; exact Or.inr ⟨q, rfl, hgq⟩
    · rw [va_up_ne _ _ e]; exact vok_mono hgo (hel j hj)⟩) (fun _ => up_mono hf0) (fun o V V' ho => by cases ho) (by rw [← hcell]; exact hpos) (List.nodup_cons.mpr ⟨List.not_mem_nil, List.nodup_nil⟩) (fun b hb => by
      rcases List.mem_cons.mp hb with rfl | hb
      · exact ⟨_, hqN, rfl⟩
      · cases hb) hpu hqu
    (by
      show w2.2.1 + 3 * (nulls 6 (va_up f i.toNatClampNeg (some q)) + (pu (gext N G q) (w2.1 q) + 0)) + 26 * nulls 6 (va_up f i.toNatClampNeg (some q)) ≤ w.2.1 + 3 * nulls 6 f + 26 * nulls 6 f
      rw [hgq, hq1, hone q]; omega)
    (by
      show w2.2.2 + 604 * (nulls 6 (va_up f i.toNatClampNeg (some q)) + (pu (gext N G q) (w2.1 q) + 0)) + 739 * nulls 6 (va_up f i.toNatClampNeg (some q)) ≤ w.2.2 + 604 * nulls 6 f + 739 * nulls 6 f
      rw [hgq, hq1, hone q]; omega)
  have hTk : TRk (IK I_CS_program) G0 w0 (va_up w2.1 sp (some (aR D 8 6 (va_up f i.toNatClampNeg (some q)))), w2.2) := TRk.alloc hP.2.1 hP.1.2.2 hP.1.1 hold gsp hcell (fun c fs V V' ho => by cases ho)
  have hS2 : tSat D (gext N G) (va_up w2.1 sp (some (aR D 8 6 (va_up f i.toNatClampNeg (some q)))), w2.2) (rset ρ 4 (.ref q)) xs_prog := by
    refine ⟨by decide, by decide, by decide, fun j t hj => ?_, fun p hp => ?_⟩
    · match j, hj with
      | 0, hj => cases hj; exact vok_mono hgo (s4 0 _ rfl)
      | 1, hj => cases hj; exact vok_mono hgo (s4 1 _ rfl)
      | 2, hj => cases hj; exact vok_mono hgo (s4 2 _ rfl)
      | 3, hj => cases hj; exact vok_mono hgo (s4 3 _ rfl)
      | 4, hj => cases hj; exact ⟨q, rfl, hgq⟩
      | j + 5, hj => cases hj
    · have hob : ∀ {k v : Nat}, fok D w ρ (0, 0, k, v, 0) → v < 4 → fok D (va_up w2.1 sp (some (aR D 8 6 (va_up f i.toNatClampNeg (some q)))), w2.2) (rset ρ 4 (.ref q)) (0, 0, k, v, 0) := by
        intro k v hf hv
        obtain ⟨a, ci, V, y1, y2, y3⟩ := hf
        have hne : a ≠ sp := fun e => by rw [e, hcell] at y2; cases y2
        exact ⟨a, ci, V, y1, (va_up_ne _ _ hne).trans (hold a _ y2), y3.trans (rset_ne hv).symm⟩
      rcases List.mem_cons.mp hp with rfl | hp
      · exact ⟨sp, 8, 6, _, i, hsp, hi, va_up_self _ _ _, by rw [va_up_self]; rfl⟩
      · rcases List.mem_cons.mp hp with rfl | hp
        · exact hob f1 (by decide)
        · rcases List.mem_cons.mp hp with rfl | hp
          · exact hob f2 (by decide)
          · cases hp
  have kk := tedge_ok (I := I_CS_program) (M := [(0, 2, 0)]) (ρ := rset ρ 4 (.ref q)) (ρ0 := ρ0) (s := xs_prog) (by rfl) (by decide) h44 ⟨hPW, hTk, fun e => by cases e⟩ hS2 (fun j hj => by
    have hj : j < 1 := hj
    rw [rset_ne (by omega)]; exact ha j hj) (by decide +kernel)
  have e9 : cL (rset ρ 4 (.ref q)) xs_prog = [(1, .ref q), (0, .ref x)] := by
    show [(1, .ref q), (0, ρ 0)] = _
    rw [hx0]
  rw [e9] at kk
  exact kk
