/-! heads by hand alone -/
def y_Math_floorMod : MethodName := ⟨"java/lang/Math", "floorMod", "(II)I"⟩
abbrev b_Math_floorMod : ByteArray := prog_16_method_50_code
theorem jb_Math_floorMod : jcB y_Math_floorMod b_Math_floorMod 3 (some .int) 2 := ⟨jmem 113 (by decide +kernel) rfl, jmem 811 (by decide +kernel) rfl, ⟨by decide +kernel, by decide +kernel⟩, by decide +kernel⟩
theorem cl_Prog_153 : jcS "ChanceSteps$Program" 153 y_Math_floorMod b_Math_floorMod 3 (some .int) 2 := ⟨jb_Math_floorMod, jmem 810 (by decide +kernel) rfl, jmem 809 (by decide +kernel) rfl⟩
theorem tik_ok {cc : ByteArray} {ik : List tE} (h : ik.all (fun q => decide (decode cc q.1 = .ok (q.2.1, q.2.2.1))) = true) : ∀ q ∈ ik, decode cc q.1 = .ok (q.2.1, q.2.2.1) := fun q hq => of_decide_eq_true (List.all_eq_true.mp h q hq)

def I_Walk_endFrom : tI := (y_Walk_endFrom, b_Walk_endFrom, 3, (some (.object "ChanceSteps$Crowd")), 219, 6268, false, [(3, 0), (3, 1), (3, 2), (3, 3), (3, 4), (3, 5), (8, 1), (8, 3), (8, 4), (8, 5), (8, 6), (8, 7)], ([], [2, 1, 0], [(4, 7, 0), (4, 2, 0), (0, (-2147483648), 2147483647)], []), [([], [3], [(4, 7, 0), (4, 2, 0), (0, (-2147483648), 2147483647), (5, 0, 0), (4, 0, 0)], [(0, 1, 13, 4, 0)])])
def lk_Walk : tLK := (((12, 7, 0, false) :: (20, 7, 1, false) :: (24, 2, 13, false) :: (31, 2, 14, false) :: (39, 2, 1, false) :: (46, 2, 15, false) :: (54, 0, 3, false) :: (72, 7, 2, false) :: (92, 6, 0, false) :: (120, 0, 2, false) :: (121, 6, 2, false) :: (124, 0, 0, false) :: (128, 6, 1, false) :: (138, 0, 1, false) :: (145, 6, 7, false) :: (166, 6, 5, false) :: (183, 6, 12, false) :: (186, 6, 13, false) :: (194, 2, 8, false) :: (195, 2, 12, false) :: (220, 7, 3, false) :: []), [(24, 2, 13, (.object "ChanceSteps$Crowd"), false), (31, 2, 14, .int, false), (46, 2, 15, .boolean, false), (54, 0, 3, .int, false), (72, 7, 2, .int, false), (120, 0, 2, .int, false), (220, 7, 3, .int, false)], [(242, 1103515245)], [], [(75, true)])
theorem lkok_Walk : lkOK "ChanceSteps$Walker" lk_Walk := ⟨(List.forall_mem_cons.mpr ⟨fg_Walk_12, (List.forall_mem_cons.mpr ⟨fg_Walk_20, (List.forall_mem_cons.mpr ⟨fg_Walk_24, (List.forall_mem_cons.mpr ⟨fg_Walk_31, (List.forall_mem_cons.mpr ⟨fg_Walk_39, (List.forall_mem_cons.mpr ⟨fg_Walk_46, (List.forall_mem_cons.mpr ⟨fg_Walk_54, (List.forall_mem_cons.mpr ⟨fg_Walk_72, (List.forall_mem_cons.mpr ⟨fg_Walk_92, (List.forall_mem_cons.mpr ⟨fg_Walk_120, (List.forall_mem_cons.mpr ⟨fg_Walk_121, (List.forall_mem_cons.mpr ⟨fg_Walk_124, (List.forall_mem_cons.mpr ⟨fg_Walk_128, (List.forall_mem_cons.mpr ⟨fg_Walk_138, (List.forall_mem_cons.mpr ⟨fg_Walk_145, (List.forall_mem_cons.mpr ⟨fg_Walk_166, (List.forall_mem_cons.mpr ⟨fg_Walk_183, (List.forall_mem_cons.mpr ⟨fg_Walk_186, (List.forall_mem_cons.mpr ⟨fg_Walk_194, (List.forall_mem_cons.mpr ⟨fg_Walk_195, (List.forall_mem_cons.mpr ⟨fg_Walk_220, (fun _ h => absurd h List.not_mem_nil)⟩)⟩)⟩)⟩)⟩)⟩)⟩)⟩)⟩)⟩)⟩)⟩)⟩)⟩)⟩)⟩)⟩)⟩)⟩)⟩)⟩), (List.forall_mem_cons.mpr ⟨fp_Walk_24, (List.forall_mem_cons.mpr ⟨fp_Walk_31, (List.forall_mem_cons.mpr ⟨fp_Walk_46, (List.forall_mem_cons.mpr ⟨fp_Walk_54, (List.forall_mem_cons.mpr ⟨fp_Walk_72, (List.forall_mem_cons.mpr ⟨fp_Walk_120, (List.forall_mem_cons.mpr ⟨fp_Walk_220, (fun _ h => absurd h List.not_mem_nil)⟩)⟩)⟩)⟩)⟩)⟩)⟩), (List.forall_mem_cons.mpr ⟨ld_Walk_242, (fun _ h => absurd h List.not_mem_nil)⟩), (fun _ h => absurd h List.not_mem_nil), (List.forall_mem_cons.mpr ⟨cl_Walk_75, (fun _ h => absurd h List.not_mem_nil)⟩)⟩
def ik_Walk_endFrom : List tE := (0, .aload_n 1, 1, .null) :: (1, .getfield 24, 3, .null) :: (4, .ifnonnull 14, 3, .null) :: (7, .aload_n 1, 1, .null) :: (8, .new 18, 3, .null) :: (11, .dup, 1, .null) :: (12, .invokespecial 30, 3, .null) :: (15, .putfield 24, 3, .null) :: (18, .aload_n 1, 1, .null) :: (19, .getfield 31, 3, .null) :: (22, .iload_n 2, 1, .null) :: (23, .if_icmp .eq 36, 3, .null) :: (26, .aload_n 1, 1, .null) :: (27, .iload_n 2, 1, .null) :: (28, .putfield 31, 3, .null) :: (31, .aload_n 1, 1, .null) :: (32, .getfield 24, 3, .null) :: (35, .iload_n 2, 1, .null) :: (36, .invokevirtual 35, 3, .null) :: (39, .aload_n 1, 1, .null) :: (40, .aload_n 0, 1, .null) :: (41, .aload_n 1, 1, .null) :: (42, .iconst 0, 1, .int 0) :: (43, .aload_n 1, 1, .null) :: (44, .getfield 39, 3, .null) :: (47, .aload_n 1, 1, .null) :: (48, .getfield 24, 3, .null) :: (51, .iconst (-1), 1, .int (-1)) :: (52, .iconst 0, 1, .int 0) :: (53, .invokevirtual 42, 3, .null) :: (56, .putfield 46, 3, .null) :: (59, .aload_n 1, 1, .null) :: (60, .getfield 46, 3, .null) :: (63, .ifCond .eq 10, 3, .null) :: (66, .aload_n 1, 1, .null) :: (67, .getfield 24, 3, .null) :: (70, .goto 4, 3, .retAddr 74) :: (73, .aconst_null, 1, .null) :: (74, .areturn, 1, .null) :: []
theorem ikd_Walk_endFrom : ∀ q ∈ ik_Walk_endFrom, decode b_Walk_endFrom q.1 = .ok (q.2.1, q.2.2.1) := tik_ok (by decide +kernel)
def md_Walk_endFrom : tMD := (ik_Walk_endFrom, lk_Walk, [(35, 0, 0, 0), (42, 0, 1, 7)], [(8, ([(0, 0), (1, 1), (2, 2)], [1], [(4, 7, 0), (4, 2, 0), (0, (-2147483648), 2147483647), (6, 0, 0)], [(0, 1, 13, 3, 0)]), [(0, 2, 0)]), (18, ([(0, 0), (1, 1), (2, 2)], [], [(4, 7, 0), (4, 2, 0), (0, (-2147483648), 2147483647), (4, 0, 0)], [(0, 1, 13, 3, 0)]), [(0, 1, 0)])])
theorem dx_endf_8 : decode b_Walk_endFrom 8 = .ok (.new 18, 3) := by decide +kernel
theorem kx_endf_11 : sblk b_Walk_endFrom [(11, .dup, .null)] := sblk_of (by decide +kernel)
theorem dx_endf_12 : decode b_Walk_endFrom 12 = .ok (.invokespecial 30, 3) := by decide +kernel
theorem dx_endf_15 : decode b_Walk_endFrom 15 = .ok (.putfield 24, 3) := by decide +kernel
def xs_endf : tS := ([(0, 0), (1, 1), (2, 2)], [], [(4, 7, 0), (4, 2, 0), (0, (-2147483648), 2147483647), (6, 0, 0), (4, 0, 0)], [(0, 1, 13, 4, 0)])
theorem x_Walk_endFrom (l : Launch) (D : va_G) (B : Nat) (H0 : Heap) : ∀ hd ∈ md_Walk_endFrom.2.2.2, hd.1 ∈ [8] → tHX l D B H0 I_Walk_endFrom md_Walk_endFrom hd := by
  intro hd hm hx g G0 w0 ρ0 C Rm Y hle G w ρ hP hS ha hH
  rcases List.mem_cons.mp hm with rfl | hm
  rotate_left
  · rcases List.mem_cons.mp hm with rfl | hm
    · exact absurd hx (by decide)
    · cases hm
  have h18 := hH _ (List.mem_cons_of_mem _ List.mem_cons_self)
  obtain ⟨s1, s2, s3, s4, s5⟩ := hS
  obtain ⟨sp, hsp, gsp⟩ := s4 1 (4, 2, 0) rfl
  have gsp : G sp = some 2 := gsp
  have hnul : ρ 3 = .null := s4 3 (6, 0, 0) rfl
  obtain ⟨a', ci', V, g1, g3, g4⟩ := s5 (0, 1, 13, 3, 0) (List.elem_iff.mp rfl)
  have g1 : ρ 1 = .ref a' := g1
  have g4 : V 13 = ρ 3 := g4
  have ea : sp = a' := by rw [hsp] at g1; cases g1; rfl
  rw [hnul] at g4
  obtain ⟨V', hcell, hel⟩ := (tcell_O (τ := 2) rfl).mp (hP.1.1 sp 2 gsp)
  rw [← ea, hcell] at g3
  have eV : V' = V := congrArg Prod.snd (Sum.inr.inj (Option.some.inj g3))
  subst eV
  have hcell : w.1 sp = some (.inr (2, V')) := hcell
  have hone : pu (some 2) (some (.inr (2, V'))) = 1 := by
    show (match V' 13 with | .null => 1 | _ => 0) = 1
    rw [g4]
  have hpos : 0 < pu (some 2) (w.1 sp) := by
    rw [hcell, hone]; omega
  have htw : ∀ q, pu (some 2) (some (.inr (2, updV V' 13 (.ref q)))) = 0 := fun q => by
    show (match updV V' 13 (.ref q) 13 with | .null => 1 | _ => 0) = 0
    simp [updV]
  show JJ g w 8 [(0, ρ 0), (1, ρ 1), (2, ρ 2)] [ρ 1]
  rw [hsp]
  refine x_crowd C Rm Y dx_endf_8 nw_Walk_18 kx_endf_11 dx_endf_12 cl_Walk_30 (by show 1 + 0 ≤ 7; decide) ⟨rfl, rfl, hle.1, hle.2, (by show 2 ≤ Ifr I_Walk_endFrom; decide), (by show 60 ≤ Ilo I_Walk_endFrom; decide)⟩ (hP.1.2.1.room gsp hpos) (fun q c1 c2 w2 V9 hq h1 h2 h3 hold mo e0 e1 e2 e3 m1 m2 k1 k2 => ?_)
  refine j_put C dx_endf_15 fp_Walk_24 (hold _ _ hcell) rfl rfl ?_
  obtain ⟨n1, n2, n3⟩ := xN_ok (G := G) h1 h2 h3
  obtain ⟨p1, p2, p3, p4⟩ := xN_cells (D := D) (G := G) h1 h2 h3 mo e0 e1 e2 e3 m1 m2
  have hfr := xN_fresh hq h1 h2
  have hgo := x_mono hP.1.1 hfr
  have hPW := hP.1.alloc (c9 := .inr (2, updV V' 13 (.ref q))) (xN q c1 c2) [] hold hfr p1 p2 gsp hcell ((tcell_O (τ := 2) rfl).mpr ⟨_, rfl, fun k t hk => by
    by_cases e : k = 13
    · rw [e] at hk ⊢
      cases hk
      exact Or.inr ⟨q, rfl, n1⟩
    · have : updV V' 13 (.ref q) k = V' k := by simp [updV, e]
      rw [this]; exact vok_mono hgo (hel k t hk)⟩) (fun e => by cases e) (fun o V V2 ho ec ec2 k hk => by
    cases ho
    cases ec
    cases ec2
    by_cases e : k = 13
    · rw [e] at hk; cases hk
    · simp [updV, e]) (by rw [hone]; decide) List.nodup_nil (fun b hb => by cases hb) (fun p hp _ => p3 p hp) p4
    (by rw [htw q, hone]; show w2.2.1 + 3 * (0 + 0) + 26 * 0 ≤ w.2.1 + 3 * 1 + 26 * 0; omega)
    (by rw [htw q, hone]; show w2.2.2 + 604 * (0 + 0) + 739 * 0 ≤ w.2.2 + 604 * 1 + 739 * 0; omega)
  have hTk : TRk (IK I_Walk_endFrom) G0 w0 (va_up w2.1 sp (some (.inr (2, updV V' 13 (.ref q)))), w2.2) := TRk.alloc hP.2.1 hP.1.2.2 hP.1.1 hold gsp hcell (fun c fs V V2 ho ec ec2 k hk => by
    cases ho
    cases ec
    cases ec2
    by_cases e : k = 13
    · rw [e] at hk; cases hk
    · simp [updV, e])
  have hS2 : tSat D (gext (xN q c1 c2) G) (va_up w2.1 sp (some (.inr (2, updV V' 13 (.ref q)))), w2.2) (rset ρ 4 (.ref q)) xs_endf := by
    refine ⟨by decide, by decide, by decide, fun j t hj => ?_, fun p hp => ?_⟩
    · match j, hj with
      | 0, hj => cases hj; exact vok_mono hgo (s4 0 _ rfl)
      | 1, hj => cases hj; exact vok_mono hgo (s4 1 _ rfl)
      | 2, hj => cases hj; exact vok_mono hgo (s4 2 _ rfl)
      | 3, hj => cases hj; exact vok_mono hgo (s4 3 _ rfl)
      | 4, hj => cases hj; exact ⟨q, rfl, n1⟩
      | j + 5, hj => cases hj
    · rcases List.mem_cons.mp hp with rfl | hp
      · exact ⟨sp, 2, _, hsp, va_up_self _ _ _, rfl⟩
      · cases hp
  have kk := tedge_ok (I := I_Walk_endFrom) (M := [(0, 2, 0)]) (ρ := rset ρ 4 (.ref q)) (ρ0 := ρ0) (s := xs_endf) (by rfl) (by decide) h18 ⟨hPW, hTk, fun e => by cases e⟩ hS2 (fun j hj => by
    have hj : j < 3 := hj
    rw [rset_ne (by omega)]; exact ha j hj) (by decide +kernel)
  have e9 : cL (rset ρ 4 (.ref q)) xs_endf = [(0, ρ 0), (1, .ref sp), (2, ρ 2)] := by
    show [(0, ρ 0), (1, ρ 1), (2, ρ 2)] = _
    rw [hsp]
  rw [e9] at kk
  exact kk
