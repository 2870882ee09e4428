/-! heads by hand alone -/
def y_Math_floorMod : MethodName := ⟨"java/lang/Math", "floorMod", "(II)I"⟩
abbrev b_Math_floorMod : ByteArray := prog_16_method_50_code
theorem jb_Math_floorMod : jcB y_Math_floorMod b_Math_floorMod 3 (some .int) 2 := ⟨jmem 113 (by decide +kernel) rfl, jmem 811 (by decide +kernel) rfl, ⟨by decide +kernel, by decide +kernel⟩, by decide +kernel⟩
theorem cl_Prog_153 : jcS "ChanceSteps$Program" 153 y_Math_floorMod b_Math_floorMod 3 (some .int) 2 := ⟨jb_Math_floorMod, jmem 810 (by decide +kernel) rfl, jmem 809 (by decide +kernel) rfl⟩
theorem tik_ok {cc : ByteArray} {ik : List tE} (h : ik.all (fun q => decide (decode cc q.1 = .ok (q.2.1, q.2.2.1))) = true) : ∀ q ∈ ik, decode cc q.1 = .ok (q.2.1, q.2.2.1) := fun q hq => of_decide_eq_true (List.all_eq_true.mp h q hq)

def I_Read_takeWord : tI := (y_Read_takeWord, b_Read_takeWord, 2, none, 8, 600, false, [(2, 13), (3, 0), (3, 1), (3, 2), (3, 3), (3, 5), (8, 1), (8, 3), (8, 4), (8, 5), (8, 6), (8, 7)], ([], [0], [(4, 3, 0), (4, 20, 0), (4, 2, 0)], [(0, 0, 0, 1, 0), (0, 0, 2, 2, 0)]), [([], [], [(4, 3, 0), (0, 1, 5), (4, 20, 0), (4, 2, 0)], [(0, 0, 7, 1, 0), (0, 0, 0, 2, 0), (0, 0, 2, 3, 0)])])
def lk_Read : tLK := (((9, 3, 0, false) :: (21, 3, 1, false) :: (25, 3, 2, false) :: (34, 3, 3, false) :: (37, 3, 4, false) :: (40, 3, 5, false) :: (50, 3, 7, false) :: (53, 3, 6, false) :: (63, 2, 1, false) :: (64, 3, 8, false) :: (80, 6, 0, false) :: (111, 2, 6, false) :: (121, 6, 7, false) :: (128, 2, 3, false) :: (153, 6, 6, false) :: []), ((9, 3, 0, (.array .int), false) :: (21, 3, 1, .int, false) :: (25, 3, 2, (.object "ChanceSteps$Program"), false) :: (34, 3, 3, .int, false) :: (37, 3, 4, .int, false) :: (40, 3, 5, .int, false) :: (50, 3, 7, .int, false) :: (53, 3, 6, .int, false) :: (64, 3, 8, .int, false) :: (75, 6, 3, .int, false) :: (102, 6, 1, .int, false) :: (105, 6, 2, .int, false) :: (108, 6, 5, .int, false) :: (114, 6, 11, .int, false) :: (121, 6, 7, .int, false) :: (131, 6, 9, .int, false) :: (137, 6, 10, .int, false) :: (153, 6, 6, .int, false) :: []), [], [], [(15, false)])
theorem lkok_Read : lkOK "ChanceSteps$Reader" lk_Read := ⟨(List.forall_mem_cons.mpr ⟨fg_Read_9, (List.forall_mem_cons.mpr ⟨fg_Read_21, (List.forall_mem_cons.mpr ⟨fg_Read_25, (List.forall_mem_cons.mpr ⟨fg_Read_34, (List.forall_mem_cons.mpr ⟨fg_Read_37, (List.forall_mem_cons.mpr ⟨fg_Read_40, (List.forall_mem_cons.mpr ⟨fg_Read_50, (List.forall_mem_cons.mpr ⟨fg_Read_53, (List.forall_mem_cons.mpr ⟨fg_Read_63, (List.forall_mem_cons.mpr ⟨fg_Read_64, (List.forall_mem_cons.mpr ⟨fg_Read_80, (List.forall_mem_cons.mpr ⟨fg_Read_111, (List.forall_mem_cons.mpr ⟨fg_Read_121, (List.forall_mem_cons.mpr ⟨fg_Read_128, (List.forall_mem_cons.mpr ⟨fg_Read_153, (fun _ h => absurd h List.not_mem_nil)⟩)⟩)⟩)⟩)⟩)⟩)⟩)⟩)⟩)⟩)⟩)⟩)⟩)⟩)⟩), (List.forall_mem_cons.mpr ⟨fp_Read_9, (List.forall_mem_cons.mpr ⟨fp_Read_21, (List.forall_mem_cons.mpr ⟨fp_Read_25, (List.forall_mem_cons.mpr ⟨fp_Read_34, (List.forall_mem_cons.mpr ⟨fp_Read_37, (List.forall_mem_cons.mpr ⟨fp_Read_40, (List.forall_mem_cons.mpr ⟨fp_Read_50, (List.forall_mem_cons.mpr ⟨fp_Read_53, (List.forall_mem_cons.mpr ⟨fp_Read_64, (List.forall_mem_cons.mpr ⟨fp_Read_75, (List.forall_mem_cons.mpr ⟨fp_Read_102, (List.forall_mem_cons.mpr ⟨fp_Read_105, (List.forall_mem_cons.mpr ⟨fp_Read_108, (List.forall_mem_cons.mpr ⟨fp_Read_114, (List.forall_mem_cons.mpr ⟨fp_Read_121, (List.forall_mem_cons.mpr ⟨fp_Read_131, (List.forall_mem_cons.mpr ⟨fp_Read_137, (List.forall_mem_cons.mpr ⟨fp_Read_153, (fun _ h => absurd h List.not_mem_nil)⟩)⟩)⟩)⟩)⟩)⟩)⟩)⟩)⟩)⟩)⟩)⟩)⟩)⟩)⟩)⟩)⟩)⟩), (fun _ h => absurd h List.not_mem_nil), (fun _ h => absurd h List.not_mem_nil), (List.forall_mem_cons.mpr ⟨cl_Read_15, (fun _ h => absurd h List.not_mem_nil)⟩)⟩
def ik_Read_takeWord : List tE := (0, .aload_n 0, 1, .null) :: (1, .getfield 37, 3, .null) :: (4, .aload_n 0, 1, .null) :: (5, .getfield 21, 3, .null) :: (8, .if_icmp .ge 30, 3, .null) :: (11, .aload_n 0, 1, .null) :: (12, .aload_n 0, 1, .null) :: (13, .getfield 37, 3, .null) :: (16, .invokevirtual 156, 3, .null) :: (19, .invokestatic 160, 3, .null) :: (22, .ifCond .eq 16, 3, .null) :: (25, .aload_n 0, 1, .null) :: (26, .dup, 1, .null) :: (27, .getfield 37, 3, .null) :: (30, .iconst 1, 1, .int 1) :: (31, .iadd, 1, .null) :: (32, .putfield 37, 3, .null) :: (35, .goto (-35), 3, .retAddr 0) :: (38, .aload_n 0, 1, .null) :: (39, .iconst 5, 1, .int 5) :: (40, .putfield 50, 3, .null) :: (43, .aload_n 0, 1, .null) :: (44, .getfield 37, 3, .null) :: (47, .aload_n 0, 1, .null) :: (48, .getfield 53, 3, .null) :: (51, .isub, 1, .null) :: (52, .iconst 1, 1, .int 1) :: (53, .if_icmp .ne 36, 3, .null) :: (56, .aload_n 0, 1, .null) :: (57, .aload_n 0, 1, .null) :: (58, .getfield 53, 3, .null) :: (61, .invokevirtual 156, 3, .null) :: (64, .bipush 102, 2, .int 102) :: (66, .if_icmp .gt 23, 3, .null) :: (69, .aload_n 0, 1, .null) :: (70, .iconst 1, 1, .int 1) :: (71, .putfield 50, 3, .null) :: (74, .aload_n 0, 1, .null) :: (75, .aload_n 0, 1, .null) :: (76, .aload_n 0, 1, .null) :: (77, .getfield 53, 3, .null) :: (80, .invokevirtual 156, 3, .null) :: (83, .bipush 97, 2, .int 97) :: (85, .isub, 1, .null) :: (86, .putfield 64, 3, .null) :: (89, .iconst 0, 1, .int 0) :: (90, .istore_n 1, 1, .null) :: (91, .iload_n 1, 1, .null) :: (92, .iconst 5, 1, .int 5) :: (93, .if_icmp .gt 30, 3, .null) :: (96, .aload_n 0, 1, .null) :: (97, .iload_n 1, 1, .null) :: (98, .invokestatic 175, 3, .null) :: (101, .invokevirtual 179, 3, .null) :: (104, .ifCond .eq 13, 3, .null) :: (107, .aload_n 0, 1, .null) :: (108, .iconst 2, 1, .int 2) :: (109, .putfield 50, 3, .null) :: (112, .aload_n 0, 1, .null) :: (113, .iload_n 1, 1, .null) :: (114, .putfield 64, 3, .null) :: (117, .iinc 1 1, 3, .int 1) :: (120, .goto (-29), 3, .retAddr 91) :: (123, .return_, 1, .null) :: []
theorem ikd_Read_takeWord : ∀ q ∈ ik_Read_takeWord, decode b_Read_takeWord q.1 = .ok (q.2.1, q.2.2.1) := tik_ok (by decide +kernel)
def md_Read_takeWord : tMD := (ik_Read_takeWord, lk_Read, [(156, 0, 0, 3), (160, 1, 1, 0)], [(0, ([(0, 0)], [], [(4, 3, 0), (0, 0, 120), (4, 20, 0), (4, 2, 0)], [(0, 0, 4, 1, 0), (0, 0, 0, 2, 0), (0, 0, 2, 3, 0)]), [(0, 2, 0), (1, 1, 120), (0, 1, 0)]), (91, ([(0, 0), (1, 1)], [], [(4, 3, 0), (0, 0, 6), (0, 0, 120), (0, 1, 5), (0, 0, 120), (0, 0, 120), (4, 20, 0), (4, 2, 0)], [(0, 0, 6, 2, 0), (0, 0, 7, 3, 0), (0, 0, 1, 4, 0), (0, 0, 4, 5, 0), (0, 0, 0, 6, 0), (0, 0, 2, 7, 0)]), [(0, 1, 0), (1, 1, 6), (0, 3, 0)]), (98, ([(0, 0), (1, 1)], [1, 0], [(4, 3, 0), (0, 0, 5), (0, 0, 120), (0, 1, 5), (0, 0, 120), (0, 0, 120), (4, 20, 0), (4, 2, 0)], [(0, 0, 6, 2, 0), (0, 0, 7, 3, 0), (0, 0, 1, 4, 0), (0, 0, 4, 5, 0), (0, 0, 0, 6, 0), (0, 0, 2, 7, 0)]), [(0, 1, 0), (1, 1, 6), (0, 2, 0)]), (104, ([(0, 0), (1, 1)], [2], [(4, 3, 0), (0, 0, 5), (0, 0, 1), (0, 0, 120), (0, 1, 5), (0, 0, 120), (0, 0, 120), (4, 20, 0), (4, 2, 0)], [(0, 0, 6, 3, 0), (0, 0, 7, 4, 0), (0, 0, 1, 5, 0), (0, 0, 4, 6, 0), (0, 0, 0, 7, 0), (0, 0, 2, 8, 0)]), [(0, 1, 0), (1, 1, 6), (0, 1, 0)])])
theorem dx_word_98 : decode b_Read_takeWord 98 = .ok (.invokestatic 175, 3) := by decide +kernel
theorem dx_word_101 : decode b_Read_takeWord 101 = .ok (.invokevirtual 179, 3) := by decide +kernel
def xs_word : tS := ([(0, 0), (1, 1)], [8], [(4, 3, 0), (0, 0, 5), (0, 0, 120), (0, 1, 5), (0, 0, 120), (0, 0, 120), (4, 20, 0), (4, 2, 0), (0, 0, 1)], [(0, 0, 6, 2, 0), (0, 0, 7, 3, 0), (0, 0, 1, 4, 0), (0, 0, 4, 5, 0), (0, 0, 0, 6, 0), (0, 0, 2, 7, 0)])
theorem x_Read_takeWord (l : Launch) (D : va_G) (B : Nat) (H0 : Heap) : ∀ hd ∈ md_Read_takeWord.2.2.2, hd.1 ∈ [98] → tHX l D B H0 I_Read_takeWord md_Read_takeWord hd := by
  intro hd hm hx g G0 w0 ρ0 C Rm Y hle G w ρ hP hS ha hH
  have h104 := hH _ (List.mem_cons_of_mem _ (List.mem_cons_of_mem _ (List.mem_cons_of_mem _ List.mem_cons_self)))
  rcases List.mem_cons.mp hm with rfl | hm
  · exact absurd hx (by decide)
  rcases List.mem_cons.mp hm with rfl | hm
  · exact absurd hx (by decide)
  rcases List.mem_cons.mp hm with rfl | hm
  rotate_left
  · rcases List.mem_cons.mp hm with rfl | hm
    · exact absurd hx (by decide)
    · cases hm
  obtain ⟨s1, s2, s3, s4, s5⟩ := hS
  obtain ⟨x, hx0, gx⟩ := s4 0 (4, 3, 0) rfl
  obtain ⟨k, hk, k0, k1⟩ := s4 1 (0, 0, 5) rfl
  obtain ⟨s, hs, hs0, hs1⟩ := s4 2 (0, 0, 120) rfl
  obtain ⟨n, hn, n0, n1⟩ := s4 4 (0, 0, 120) rfl
  obtain ⟨a, haa, a0, a1⟩ := s4 5 (0, 0, 120) rfl
  obtain ⟨t, ht0, gt⟩ := s4 6 (4, 20, 0) rfl
  dsimp only at k0 k1 hs0 hs1 n0 n1 a0 a1
  have gx : G x = some 3 := gx
  have gt : G t = some 20 := gt
  obtain ⟨V, hxc, -⟩ := (tcell_O (τ := 3) rfl).mp (hP.1.1 x 3 gx)
  have hxc : w.1 x = some (.inr (3, V)) := hxc
  have ff : ∀ {j v : Nat}, fok D w ρ (0, 0, j, v, 0) → V j = ρ v := by
    intro j v hf
    obtain ⟨a', ci, V', y1, y2, y3⟩ := hf
    have y1 : ρ 0 = .ref a' := y1
    have e1 : x = a' := by rw [hx0] at y1; cases y1; rfl
    rw [← e1, hxc] at y2
    have e2 : V = V' := congrArg Prod.snd (Sum.inr.inj (Option.some.inj y2))
    rw [e2]; exact y3
  have v6 := ff (s5 (0, 0, 6, 2, 0) (List.elem_iff.mp rfl))
  have v1 := ff (s5 (0, 0, 1, 4, 0) (List.elem_iff.mp rfl))
  have v4 := ff (s5 (0, 0, 4, 5, 0) (List.elem_iff.mp rfl))
  have v0 := ff (s5 (0, 0, 0, 6, 0) (List.elem_iff.mp rfl))
  rw [hs] at v6
  rw [hn] at v1
  rw [haa] at v4
  rw [ht0] at v0
  obtain ⟨f, htc, -⟩ := (tcell_I (τ := 20) rfl rfl).mp (hP.1.1 t 20 gt)
  have hkn : k = nI k.toInt.toNat := Int32.toInt_inj.mp (by rw [nI_toInt (by omega)]; omega)
  have hk6 : k.toInt.toNat < 6 := by omega
  obtain ⟨room1, room2⟩ := hP.1.2.1.le
  have hkc : w0.2.1 ≤ KC ∧ w0.2.2 ≤ KS := hle
  have hroom : w.2.1 + 0 ≤ w0.2.1 + (KC - w0.2.1) ∧ w.2.2 + 0 ≤ w0.2.2 + (KS - w0.2.2) := by
    have : w.2.1 ≤ KC := room1
    have : w.2.2 ≤ KS := room2
    omega
  show JJ g w 98 [(0, ρ 0), (1, ρ 1)] [ρ 1, ρ 0]
  have hk2 : ρ 1 = .int (nI k.toInt.toNat) := by rw [hk, ← hkn]
  rw [hx0, hk2]
  refine j_callS (idx := 175) C Rm Y (As := [.int (nI k.toInt.toNat)]) [.ref x] (c_Read_wordOf l D B H0 w _ hk6) cl_Read_175 dx_word_98 rfl rfl (by show 1 + 0 ≤ 8; decide) ⟨(by show 0 + 1 ≤ Ifr I_Read_takeWord; decide), (by show 8 + (1 + 11) + 0 ≤ Ilo I_Read_takeWord; decide)⟩ hroom (fun v w1 p => ?_)
  obtain ⟨rfl, rfl⟩ := p
  show JJ g w1 101 [(0, .ref x), (1, .int (nI k.toInt.toNat))] [.ref (jsK D k.toInt.toNat), .ref x]
  refine j_callV (idx := 179) (ci := 3) C Rm Y [.ref (jsK D k.toInt.toNat)] [] (c_Read_isSpelt l D B H0 w1 x t _ V f s a n (by omega) hxc v0 v6 v4 v1 htc ⟨hs0, hs1⟩ ⟨a0, a1⟩ n1) cl_Read_179 rfl rfl hxc dx_word_101 rfl rfl (by decide) ⟨(by show 4 + 1 ≤ Ifr I_Read_takeWord; decide), (by show 8 + (4 + 11) + 160 ≤ Ilo I_Read_takeWord; decide)⟩ hroom (fun v w2 p => ?_)
  obtain ⟨hb, rfl⟩ := p
  have hv : ∃ so : Int32, v = some (.int so) ∧ 0 ≤ so.toInt ∧ so.toInt ≤ 1 := by
    rcases hb with ⟨rfl, -⟩ | ⟨rfl, -⟩
    · exact ⟨1, rfl, by decide, by decide⟩
    · exact ⟨0, rfl, by decide, by decide⟩
  obtain ⟨so, rfl, so0, so1⟩ := hv
  show JJ g w2 104 [(0, .ref x), (1, .int (nI k.toInt.toNat))] [.int so]
  have hS2 : tSat D G w2 (rset ρ 8 (.int so)) xs_word := by
    refine ⟨by decide, by decide, by decide, fun j t hj => ?_, fun p hp => ?_⟩
    · match j, hj with
      | 0, hj => cases hj; exact s4 0 _ rfl
      | 1, hj => cases hj; exact s4 1 _ rfl
      | 2, hj => cases hj; exact s4 2 _ rfl
      | 3, hj => cases hj; exact s4 3 _ rfl
      | 4, hj => cases hj; exact s4 4 _ rfl
      | 5, hj => cases hj; exact s4 5 _ rfl
      | 6, hj => cases hj; exact s4 6 _ rfl
      | 7, hj => cases hj; exact s4 7 _ rfl
      | 8, hj => cases hj; exact ⟨so, rfl, so0, so1⟩
      | j + 9, hj => cases hj
    · exact fok_agree (ρ := ρ) (fun i hi => rset_ne (s3 p hp i hi)) (s5 p hp)
  have kk := tedge_ok (I := I_Read_takeWord) (M := [(0, 1, 0), (1, 1, 6), (0, 2, 0)]) (ρ := rset ρ 8 (.int so)) (ρ0 := ρ0) (s := xs_word) (by rfl) (by decide) h104 hP hS2 (fun j hj => by
    have hj : j < 1 := hj
    rw [rset_ne (by omega)]; exact ha j hj) (by decide +kernel)
  have e9 : cL (rset ρ 8 (.int so)) xs_word = [(0, .ref x), (1, .int (nI k.toInt.toNat))] := by
    show [(0, ρ 0), (1, ρ 1)] = _
    rw [hx0, hk2]
  rw [e9] at kk
  exact kk
