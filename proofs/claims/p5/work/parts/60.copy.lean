/-! copy (own work, by program) -/
def I_CS_copy : tI := (y_CS_copy, b_CS_copy, 8, (some .int), 4, 200, false, ((2, 1) :: (2, 3) :: (2, 6) :: (2, 8) :: (2, 9) :: (2, 10) :: (2, 11) :: (2, 13) :: (3, 0) :: (3, 1) :: (3, 2) :: (3, 3) :: (3, 4) :: (3, 5) :: (5, 1) :: (5, 2) :: (6, 0) :: (6, 1) :: (6, 2) :: (6, 3) :: (6, 4) :: (6, 5) :: (6, 6) :: (6, 7) :: (6, 8) :: (6, 9) :: (6, 10) :: (6, 11) :: (6, 12) :: (6, 13) :: (8, 1) :: (8, 3) :: (8, 4) :: (8, 5) :: (8, 6) :: (8, 7) :: (1020, 0) :: (1021, 0) :: (1022, 0) :: (1027, 0) :: (1036, 0) :: []), ([], [5, 4, 3, 2, 1, 0], [(4, 8, 0), (0, (-2147483648), 2147483647), (0, (-2147483648), 2147483647), (0, (-2147483648), 2147483647), (0, (-2147483648), 2147483647), (0, (-2147483648), 2147483647)], []), [([], [6], [(4, 8, 0), (0, (-2147483648), 2147483647), (0, (-2147483648), 2147483647), (0, (-2147483648), 2147483647), (0, (-2147483648), 2147483647), (0, (-2147483648), 2147483647), (0, (-2147483648), 2147483647)], [])])
def ik_CS_copy : List tE := (0, .iload_n 1, 1, .null) :: (1, .invokestatic 200, 3, .null) :: (4, .ifCond .eq 10, 3, .null) :: (7, .iload_n 3, 1, .null) :: (8, .invokestatic 200, 3, .null) :: (11, .ifCond .ne 6, 3, .null) :: (14, .bipush (-2), 2, .int (-2)) :: (16, .ireturn, 1, .null) :: (17, .aload_n 0, 1, .null) :: (18, .getfield 21, 3, .null) :: (21, .iload_n 1, 1, .null) :: (22, .aaload, 1, .null) :: (23, .astore 6, 2, .null) :: (25, .aload_n 0, 1, .null) :: (26, .getfield 21, 3, .null) :: (29, .iload_n 3, 1, .null) :: (30, .aaload, 1, .null) :: (31, .astore 7, 2, .null) :: (33, .aload 6, 2, .null) :: (35, .getfield 203, 3, .null) :: (38, .iconst (-1), 1, .int (-1)) :: (39, .if_icmp .eq 12, 3, .null) :: (42, .aload 7, 2, .null) :: (44, .getfield 203, 3, .null) :: (47, .iconst (-1), 1, .int (-1)) :: (48, .if_icmp .ne 6, 3, .null) :: (51, .bipush (-11), 2, .int (-11)) :: (53, .ireturn, 1, .null) :: (54, .aload 6, 2, .null) :: (56, .getfield 203, 3, .null) :: (59, .aload 7, 2, .null) :: (61, .getfield 203, 3, .null) :: (64, .if_icmp .eq 6, 3, .null) :: (67, .bipush (-13), 2, .int (-13)) :: (69, .ireturn, 1, .null) :: (70, .aload 6, 2, .null) :: (72, .iload_n 2, 1, .null) :: (73, .iload 5, 2, .null) :: (75, .invokevirtual 243, 3, .null) :: (78, .ifCond .eq 15, 3, .null) :: (81, .aload 7, 2, .null) :: (83, .iload 4, 2, .null) :: (85, .iload 5, 2, .null) :: (87, .invokevirtual 243, 3, .null) :: (90, .ifCond .ne 6, 3, .null) :: (93, .bipush (-12), 2, .int (-12)) :: (95, .ireturn, 1, .null) :: (96, .aload 6, 2, .null) :: (98, .getfield 246, 3, .null) :: (101, .iload_n 2, 1, .null) :: (102, .aload 7, 2, .null) :: (104, .getfield 246, 3, .null) :: (107, .iload 4, 2, .null) :: (109, .iload 5, 2, .null) :: (111, .invokestatic 249, 3, .null) :: (114, .iload 5, 2, .null) :: (116, .ireturn, 1, .null) :: []
theorem ikd_CS_copy : ∀ q ∈ ik_CS_copy, decode b_CS_copy q.1 = .ok (q.2.1, q.2.2.1) := tik_ok (by decide +kernel)
def md_CS_copy : tMD := (ik_CS_copy, lk_CS, [(200, 1, 0, 0)], [(72, ([(2, 2), (4, 4), (5, 5), (6, 6), (7, 7)], [6], [(4, 8, 0), (0, 0, 3), (0, (-2147483648), 2147483647), (0, 0, 3), (0, (-2147483648), 2147483647), (0, (-2147483648), 2147483647), (4, 5, 0), (4, 5, 0), (4, 22, 0), (0, (-2147483648), 2147483647), (0, (-2147483648), 2147483647)], [(0, 0, 8, 8, 0), (0, 6, 1, 9, 0), (0, 7, 1, 10, 0), (1, 8, 3, 7, 0), (1, 8, 1, 6, 0)]), [(0, 3, 0)]), (93, ([], [], [(4, 8, 0), (0, 0, 3), (0, (-2147483648), 2147483647), (0, 0, 3), (0, (-2147483648), 2147483647), (0, (-2147483648), 2147483647), (4, 22, 0), (4, 5, 0), (4, 5, 0), (0, (-2147483648), 2147483647), (0, (-2147483648), 2147483647)], [(0, 0, 8, 6, 0), (1, 6, 3, 7, 0), (1, 6, 1, 8, 0), (0, 7, 1, 9, 0), (0, 8, 1, 10, 0)]), [(0, 2, 0)]), (114, ([(5, 5)], [], [(4, 8, 0), (0, 0, 3), (0, (-2147483648), 2147483647), (0, 0, 3), (0, (-2147483648), 2147483647), (0, (-2147483648), 2147483647), (4, 22, 0), (4, 5, 0), (4, 5, 0), (0, (-2147483648), 2147483647), (0, (-2147483648), 2147483647)], [(0, 0, 8, 6, 0), (1, 6, 3, 7, 0), (1, 6, 1, 8, 0), (0, 7, 1, 9, 0), (0, 8, 1, 10, 0)]), [(0, 1, 0)])])
theorem c_Sheet_hasRoom (l : Launch) (D : va_G) (B : Nat) (H0 : Heap) (w : jW) (s : Nat) (V : Nat → Value) (fr many len : Int32) (hs : w.1 s = some (.inr (5, V))) (v2 : V 2 = .int len) : jMet l D B H0 y_Sheet_hasRoom b_Sheet_hasRoom 3 (some .boolean) 0 0 0 0 [.ref s, .int fr, .int many] w (fun v w9 => ((v = some (.int 1) ∧ ¬ many < 0 ∧ ¬ len < many ∧ ¬ fr < 0 ∧ ¬ (len - many) < fr) ∨ v = some (.int 0)) ∧ w9 = w) := by
  refine j_met (by decide) (Nat.le_of_ble_eq_true rfl) (fun g C Rm Y E => ?_)
  show JJ g w 0 [(0, .ref s), (1, .int fr), (2, .int many)] []
  have no : JJ g w 30 [(0, .ref s), (1, .int fr), (2, .int many)] [] := by
    refine j_blk (b := [(30, .iconst 0, .int 0)]) 31 [(0, .ref s), (1, .int fr), (2, .int many)] [.int 0] C (sblk_of (by decide +kernel)) rfl ?_
    exact j_zret C Rm E rfl (by decide +kernel) ⟨Or.inr rfl, rfl⟩ (Nat.le_refl _) (Nat.le_refl _)
  refine j_blk (b := [(0, .iload_n 2, .null)]) 1 [(0, .ref s), (1, .int fr), (2, .int many)] [.int many] C (sblk_of (by decide +kernel)) rfl ?_
  refine j_if_lt (off := 29) (tgt := 30) C (by decide +kernel) (by decide) (fun _ => no) (fun c1 => ?_)
  refine j_blk (b := [(4, .iload_n 2, .null), (5, .aload_n 0, .null)]) 6 [(0, .ref s), (1, .int fr), (2, .int many)] [.ref s, .int many] C (sblk_of (by decide +kernel)) rfl ?_
  refine j_get (idx := 19) C (by decide +kernel) fg_Sheet_19 hs v2 ?_
  refine j_icmp_gt (off := 21) (tgt := 30) C (by decide +kernel) (by decide) (fun _ => no) (fun c2 => ?_)
  refine j_blk (b := [(12, .iload_n 1, .null)]) 13 [(0, .ref s), (1, .int fr), (2, .int many)] [.int fr] C (sblk_of (by decide +kernel)) rfl ?_
  refine j_if_lt (off := 17) (tgt := 30) C (by decide +kernel) (by decide) (fun _ => no) (fun c3 => ?_)
  refine j_blk (b := [(16, .iload_n 1, .null), (17, .aload_n 0, .null)]) 18 [(0, .ref s), (1, .int fr), (2, .int many)] [.ref s, .int fr] C (sblk_of (by decide +kernel)) rfl ?_
  refine j_get (idx := 19) C (by decide +kernel) fg_Sheet_19 hs v2 ?_
  refine j_blk (b := [(21, .iload_n 2, .null), (22, .isub, .null)]) 23 [(0, .ref s), (1, .int fr), (2, .int many)] [.int (len - many), .int fr] C (sblk_of (by decide +kernel)) rfl ?_
  refine j_icmp_gt (off := 7) (tgt := 30) C (by decide +kernel) (by decide) (fun _ => no) (fun c4 => ?_)
  refine j_blk (b := [(26, .iconst 1, .int 1), (27, .goto 4, .retAddr 31)]) 31 [(0, .ref s), (1, .int fr), (2, .int many)] [.int 1] C (sblk_of (by decide +kernel)) rfl ?_
  exact j_zret C Rm E rfl (by decide +kernel) ⟨Or.inl ⟨rfl, c1, c2, c3, c4⟩, rfl⟩ (Nat.le_refl _) (Nat.le_refl _)
theorem room_fits {fr many len : Int32} (hl : 0 ≤ len.toInt ∧ len.toInt ≤ 40) (h1 : ¬ many < 0) (h2 : ¬ len < many) (h3 : ¬ fr < 0) (h4 : ¬ (len - many) < fr) : fr.toNatClampNeg + many.toNatClampNeg ≤ 40 := by
  have e1 := jclN h1
  have e3 := jclN h3
  have e2 : many.toInt ≤ len.toInt := by
    have := Int32.le_iff_toInt_le.mp (Int32.not_lt.mp h2)
    exact this
  have e4 : fr.toInt ≤ (len - many).toInt := Int32.le_iff_toInt_le.mp (Int32.not_lt.mp h4)
  rw [t_sub (by omega) (by omega)] at e4
  omega
def xs_copy : tS := ([(2, 2), (4, 4), (5, 5), (6, 6), (7, 7)], [], [(4, 8, 0), (0, 0, 3), (0, (-2147483648), 2147483647), (0, 0, 3), (0, (-2147483648), 2147483647), (0, (-2147483648), 2147483647), (4, 5, 0), (4, 5, 0), (4, 22, 0), (0, (-2147483648), 2147483647), (0, (-2147483648), 2147483647)], [(0, 0, 8, 8, 0), (0, 6, 1, 9, 0), (0, 7, 1, 10, 0), (1, 8, 3, 7, 0), (1, 8, 1, 6, 0)])
theorem x_CS_copy (l : Launch) (D : va_G) (B : Nat) (H0 : Heap) : ∀ hd ∈ md_CS_copy.2.2.2, hd.1 ∈ [72] → tHX l D B H0 I_CS_copy md_CS_copy hd := by
  intro hd hm hx g G0 w0 ρ0 C Rm Y hle G w ρ hP hS ha hH
  have h93 := hH _ (List.mem_cons_of_mem _ List.mem_cons_self)
  have h114 := hH _ (List.mem_cons_of_mem _ (List.mem_cons_of_mem _ List.mem_cons_self))
  rcases List.mem_cons.mp hm with rfl | hm
  rotate_left
  · rcases List.mem_cons.mp hm with rfl | hm
    · exact absurd hx (by decide)
    · rcases List.mem_cons.mp hm with rfl | hm
      · exact absurd hx (by decide)
      · cases hm
  have hS0 := hS
  obtain ⟨s1, s2, s3, s4, s5⟩ := hS
  obtain ⟨f0, hf0, -⟩ := s4 2 (0, (-2147483648), 2147483647) rfl
  obtain ⟨d0, hd0, -⟩ := s4 4 (0, (-2147483648), 2147483647) rfl
  obtain ⟨m, hm0, -⟩ := s4 5 (0, (-2147483648), 2147483647) rfl
  obtain ⟨x, hx0, gx⟩ := s4 6 (4, 5, 0) rfl
  obtain ⟨y, hy0, gy⟩ := s4 7 (4, 5, 0) rfl
  have gx : G x = some 5 := gx
  have gy : G y = some 5 := gy
  obtain ⟨V, hxc, hxf⟩ := (tcell_O (τ := 5) rfl).mp (hP.1.1 x 5 gx)
  obtain ⟨U, hyc, hyf⟩ := (tcell_O (τ := 5) rfl).mp (hP.1.1 y 5 gy)
  have hxc : w.1 x = some (.inr (5, V)) := hxc
  have hyc : w.1 y = some (.inr (5, U)) := hyc
  obtain ⟨c1, hc1, gc1⟩ := hxf 0 (4, 24, 0) rfl
  obtain ⟨c2, hc2, gc2⟩ := hyf 0 (4, 24, 0) rfl
  obtain ⟨n1, hn1, n10, n11⟩ := hxf 2 (0, 0, 40) rfl
  obtain ⟨n2, hn2, n20, n21⟩ := hyf 2 (0, 0, 40) rfl
  dsimp only at n10 n11 n20 n21
  have gc1 : G c1 = some 24 := gc1
  have gc2 : G c2 = some 24 := gc2
  obtain ⟨f1, hf1, -⟩ := (tcell_I (τ := 24) rfl rfl).mp (hP.1.1 c1 24 gc1)
  obtain ⟨f2, hf2, -⟩ := (tcell_I (τ := 24) rfl rfl).mp (hP.1.1 c2 24 gc2)
  obtain ⟨room1, room2⟩ := hP.1.2.1.le
  have hroom : w.2.1 + 0 ≤ w0.2.1 + (KC - w0.2.1) ∧ w.2.2 + 0 ≤ w0.2.2 + (KS - w0.2.2) := by
    have hkc : w0.2.1 ≤ KC ∧ w0.2.2 ≤ KS := hle
    omega
  have hL : ∀ ρ' : Nat → Value, cL ρ' xs_copy = [(2, ρ' 2), (4, ρ' 4), (5, ρ' 5), (6, ρ' 6), (7, ρ' 7)] := fun _ => rfl
  have no : JJ g w 93 [(2, .int f0), (4, .int d0), (5, .int m), (6, .ref x), (7, .ref y)] [] := by
    have kk := tedge_ok (I := I_CS_copy) (M := [(0, 3, 0)]) (ρ := ρ) (ρ0 := ρ0) (s := xs_copy) (by rfl) (by decide) h93 hP ⟨s1, by decide, s3, s4, s5⟩ ha (by decide +kernel)
    rw [hL, hf0, hd0, hm0, hx0, hy0] at kk
    exact kk
  show JJ g w 72 [(2, ρ 2), (4, ρ 4), (5, ρ 5), (6, ρ 6), (7, ρ 7)] [ρ 6]
  rw [hf0, hd0, hm0, hx0, hy0]
  refine j_blk (b := [(72, .iload_n 2, .null), (73, .iload 5, .null)]) 75 [(2, .int f0), (4, .int d0), (5, .int m), (6, .ref x), (7, .ref y)] [.int m, .int f0, .ref x] C (sblk_of (by decide +kernel)) rfl ?_
  refine j_callV (idx := 243) (ci := 5) C Rm Y [.int f0, .int m] [] (c_Sheet_hasRoom l D B H0 w x V f0 m n1 hxc hn1) cl_CS_243 rfl rfl hxc (by decide +kernel) rfl rfl (by decide) ⟨(by show 0 + 1 ≤ Ifr I_CS_copy; decide), (by show 8 + (3 + 11) + 0 ≤ Ilo I_CS_copy; decide)⟩ hroom (fun v w1 p => ?_)
  obtain ⟨hb, rfl⟩ := p
  rcases hb with ⟨rfl, q1, q2, q3, q4⟩ | rfl
  rotate_left
  · show JJ g w1 78 [(2, .int f0), (4, .int d0), (5, .int m), (6, .ref x), (7, .ref y)] [.int 0]
    exact j_if_eq (off := 15) (tgt := 93) C (by decide +kernel) (by decide) (fun _ => no) (fun h => absurd rfl h)
  show JJ g w1 78 [(2, .int f0), (4, .int d0), (5, .int m), (6, .ref x), (7, .ref y)] [.int 1]
  refine j_if_eq (off := 15) (tgt := 93) C (by decide +kernel) (by decide) (fun _ => no) (fun _ => ?_)
  refine j_blk (b := [(81, .aload 7, .null), (83, .iload 4, .null), (85, .iload 5, .null)]) 87 [(2, .int f0), (4, .int d0), (5, .int m), (6, .ref x), (7, .ref y)] [.int m, .int d0, .ref y] C (sblk_of (by decide +kernel)) rfl ?_
  refine j_callV (idx := 243) (ci := 5) C Rm Y [.int d0, .int m] [] (c_Sheet_hasRoom l D B H0 w1 y U d0 m n2 hyc hn2) cl_CS_243 rfl rfl hyc (by decide +kernel) rfl rfl (by decide) ⟨(by show 0 + 1 ≤ Ifr I_CS_copy; decide), (by show 8 + (3 + 11) + 0 ≤ Ilo I_CS_copy; decide)⟩ hroom (fun v w2 p => ?_)
  obtain ⟨hb, rfl⟩ := p
  rcases hb with ⟨rfl, r1, r2, r3, r4⟩ | rfl
  rotate_left
  · show JJ g w2 90 [(2, .int f0), (4, .int d0), (5, .int m), (6, .ref x), (7, .ref y)] [.int 0]
    exact j_if_ne (off := 6) (tgt := 96) C (by decide +kernel) (by decide) (fun h => absurd rfl h) (fun _ => no)
  show JJ g w2 90 [(2, .int f0), (4, .int d0), (5, .int m), (6, .ref x), (7, .ref y)] [.int 1]
  refine j_if_ne (off := 6) (tgt := 96) C (by decide +kernel) (by decide) (fun _ => ?_) (fun h => absurd h (by decide))
  refine j_blk (b := [(96, .aload 6, .null)]) 98 [(2, .int f0), (4, .int d0), (5, .int m), (6, .ref x), (7, .ref y)] [.ref x] C (sblk_of (by decide +kernel)) rfl ?_
  refine j_get (idx := 246) C (by decide +kernel) fg_CS_246 hxc hc1 ?_
  refine j_blk (b := [(101, .iload_n 2, .null), (102, .aload 7, .null)]) 104 [(2, .int f0), (4, .int d0), (5, .int m), (6, .ref x), (7, .ref y)] [.ref y, .int f0, .ref c1] C (sblk_of (by decide +kernel)) rfl ?_
  refine j_get (idx := 246) C (by decide +kernel) fg_CS_246 hyc hc2 ?_
  refine j_blk (b := [(107, .iload 4, .null), (109, .iload 5, .null)]) 111 [(2, .int f0), (4, .int d0), (5, .int m), (6, .ref x), (7, .ref y)] [.int m, .int d0, .ref c2, .int f0, .ref c1] C (sblk_of (by decide +kernel)) rfl ?_
  refine j_copyi (idx := 249) C Rm cl_CS_249 (by decide +kernel) hf1 hf2 q3 r3 q1 (room_fits ⟨n10, n11⟩ q1 q2 q3 q4) (room_fits ⟨n20, n21⟩ r1 r2 r3 r4) (by show 1 ≤ Ifr I_CS_copy; decide) (by show 0 + (nativeFrameWords "java/lang/System" "arraycopy" 5 + 11) ≤ Ilo I_CS_copy; decide +kernel) ?_
  have hPW := hP.1.arr (c1 := aI D 40 (va_cpy f1 f2 f0.toNatClampNeg d0.toNatClampNeg m.toNatClampNeg)) gc2 rfl (kd := 0) rfl (by decide) hf2 ((tcell_I (τ := 24) rfl rfl).mpr ⟨_, rfl, fun j hj => ⟨_, rfl, Int32.le_toInt _, by have := Int32.toInt_lt (va_cpy f1 f2 f0.toNatClampNeg d0.toNatClampNeg m.toNatClampNeg j); show _ ≤ (2147483647 : Int); omega⟩⟩) ⟨rfl, rfl⟩
  have hTk := TRk.arr (c1 := aI D 40 (va_cpy f1 f2 f0.toNatClampNeg d0.toNatClampNeg m.toNatClampNeg)) hP.2.1 hP.1.2.2 gc2 rfl (by decide +kernel)
  have hS2 : tSat D G (va_up w2.1 c2 (some (aI D 40 (va_cpy f1 f2 f0.toNatClampNeg d0.toNatClampNeg m.toNatClampNeg))), w2.2) ρ xs_copy := by
    refine ⟨s1, by decide, s3, s4, fun p hp => ?_⟩
    have hob : ∀ {r k v : Nat}, fok D w2 ρ (0, r, k, v, 0) → fok D (va_up w2.1 c2 (some (aI D 40 (va_cpy f1 f2 f0.toNatClampNeg d0.toNatClampNeg m.toNatClampNeg))), w2.2) ρ (0, r, k, v, 0) := by
      intro r k v hf
      obtain ⟨a, ci, W, y1, y2, y3⟩ := hf
      have hne : a ≠ c2 := fun e => by rw [e, hf2] at y2; cases y2
      exact ⟨a, ci, W, y1, (va_up_ne _ _ hne).trans y2, y3⟩
    have hel : ∀ {r k v : Nat}, fok D w2 ρ (1, r, k, v, 0) → fok D (va_up w2.1 c2 (some (aI D 40 (va_cpy f1 f2 f0.toNatClampNeg d0.toNatClampNeg m.toNatClampNeg))), w2.2) ρ (1, r, k, v, 0) := by
      intro r k v hf
      obtain ⟨a, t, n, f, i, y1, y2, y3, y4⟩ := hf
      have hne : a ≠ c2 := fun e => by
        rw [e, hf2] at y3
        have := (Prod.mk.inj (Prod.mk.inj (Sum.inl.inj (Option.some.inj y3))).2).2
        cases this
      exact ⟨a, t, n, f, i, y1, y2, (va_up_ne _ _ hne).trans y3, y4⟩
    rcases List.mem_cons.mp hp with rfl | hp
    · exact hob (s5 _ (List.elem_iff.mp rfl))
    rcases List.mem_cons.mp hp with rfl | hp
    · exact hob (s5 _ (List.elem_iff.mp rfl))
    rcases List.mem_cons.mp hp with rfl | hp
    · exact hob (s5 _ (List.elem_iff.mp rfl))
    rcases List.mem_cons.mp hp with rfl | hp
    · exact hel (s5 _ (List.elem_iff.mp rfl))
    rcases List.mem_cons.mp hp with rfl | hp
    · exact hel (s5 _ (List.elem_iff.mp rfl))
    cases hp
  have kk := tedge_ok (I := I_CS_copy) (M := [(0, 3, 0)]) (ρ := ρ) (ρ0 := ρ0) (s := xs_copy) (by rfl) (by decide) h114 ⟨hPW, hTk, fun e => by cases e⟩ hS2 ha (by decide +kernel)
  rw [hL, hf0, hd0, hm0, hx0, hy0] at kk
  exact kk
theorem tc_CS_copy (l : Launch) (D : va_G) (B : Nat) (H0 : Heap) : tCon l D B H0 I_CS_copy := tmet_okX [72] (x_CS_copy l D B H0) (Is := [I_CS_isSheet]) (md := md_CS_copy) (fuel := 62) (List.forall_mem_cons.mpr ⟨(tc_CS_isSheet l D B H0), (fun _ h => absurd h List.not_mem_nil)⟩) ikd_CS_copy lkok_CS (List.forall_mem_cons.mpr ⟨fun J hJ => by have e : I_CS_isSheet = J := Option.some.inj hJ; rw [← e]; exact cl_CS_200, (fun _ h => absurd h List.not_mem_nil)⟩) (by decide +kernel) (by decide +kernel)
