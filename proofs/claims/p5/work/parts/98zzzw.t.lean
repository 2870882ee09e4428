/-! odds of the reference as functions (own work, by program) -/
theorem finR9 {x r : Int} {m A : mA} (h : some (x, m) = some (r, A)) : x = r ∧ m = A := by cases h; exact ⟨rfl, rfl⟩
theorem m_aret9 {g : jG} {D : va_G} {ad : mAd} {w0 : jW} {A A9 : mA} {cc : ByteArray} {nL pc : Nat} {own : String} {L : List (Nat × mV)} {rm : Room} (C : jX g cc nL own D) (Rm : jRm g w0.2.1 w0.2.2 rm) {Cn : String} {k : Nat} {r : Int} (E : jEnd g (mPost D ad w0 (fun v A' => v = some (vr 1 r.toNat) ∧ A' = A9 ∧ r.toNat < 200)) 0 0 (some (.object Cn))) (hd : decode cc pc = .ok (.areturn, 1)) (hp : ((k : Nat) : Int) = r ∧ A = A9) (hk : k < 200) : JM g D ad w0 A pc L [vr 1 k] := by
  obtain ⟨rfl, rfl⟩ := hp
  exact m_aret C Rm E hd ⟨rfl, rfl, hk⟩
def lUsh (x y : Int) : Int := ((Int64.ofInt x).toUInt64 >>> ((Int32.ofInt y).toInt64.toUInt64 &&& Int64.toUInt64 63)).toInt64.toInt
theorem m_lushr2 {g : jG} {D : va_G} {ad : mAd} {w0 : jW} {A : mA} {cc : ByteArray} {nL pc : Nat} {own : String} {L : List (Nat × mV)} {st : List mV} (C : jX g cc nL own D) {x y : Int} (hd : decode cc pc = .ok (.lushr, 1)) (kk : JM g D ad w0 A (pc + 1) L (vl (lUsh x y) :: st)) : JM g D ad w0 A pc L (vi y :: vl x :: st) := fun w hw hr => by
  have k := kk w hw hr
  have e : mc ad (vl (lUsh x y)) = .long ((Int64.ofInt x).toUInt64 >>> ((Int32.ofInt y).toInt64.toUInt64 &&& Int64.toUInt64 63)).toInt64 := congrArg Value.long (Int64.ofInt_toInt _)
  rw [mSt, List.map_cons, e] at k
  obtain ⟨⟨hx, hb, -⟩, rfl, -⟩ := C
  exact fun H locs ls h1 h2 h3 h4 h5 => lv_lushr hx hb hd rfl (k H locs ls h1 h2 h3 h4 h5)
def f_Odds_becomes (A : mA) (o : Nat) (a0 : Nat) : Option (Int × mA) := (if ((0 : Int) ≤ 0 ∧ (0 : Int) ≤ 0 ∧ (0 : Int) ≤ (A 1 a0 2) ∧ (0 : Int) + (A 1 a0 2) ≤ 301 ∧ (0 : Int) + (A 1 a0 2) ≤ 301) then (if ((0 : Int) ≤ 0 ∧ (0 : Int) ≤ 0 ∧ (0 : Int) ≤ ((mcp (mu A 1 o 2 (A 1 a0 2)) 3 a0 0 3 o 0 ((A 1 a0 2).toNat)) 1 o 2) ∧ (0 : Int) + ((mcp (mu A 1 o 2 (A 1 a0 2)) 3 a0 0 3 o 0 ((A 1 a0 2).toNat)) 1 o 2) ≤ 301 ∧ (0 : Int) + ((mcp (mu A 1 o 2 (A 1 a0 2)) 3 a0 0 3 o 0 ((A 1 a0 2).toNat)) 1 o 2) ≤ 301) then (some (0, (mcp (mcp (mu A 1 o 2 (A 1 a0 2)) 3 a0 0 3 o 0 ((A 1 a0 2).toNat)) 4 a0 0 4 o 0 (((mcp (mu A 1 o 2 (A 1 a0 2)) 3 a0 0 3 o 0 ((A 1 a0 2).toNat)) 1 o 2).toNat)))) else none) else none)
theorem f_x_Odds_becomes_0_2 : mblkB b_Odds_becomes [(0, .aload_n 0, vi 0), (1, .aload_n 1, vi 0)] = true := by decide +kernel
theorem e_x_Odds_becomes_2 : decode b_Odds_becomes 2 = .ok (.getfield 19, 3) := by decide +kernel
theorem e_x_Odds_becomes_5 : decode b_Odds_becomes 5 = .ok (.putfield 19, 3) := by decide +kernel
theorem f_x_Odds_becomes_8_1 : mblkB b_Odds_becomes [(8, .aload_n 1, vi 0)] = true := by decide +kernel
theorem e_x_Odds_becomes_9 : decode b_Odds_becomes 9 = .ok (.getfield 9, 3) := by decide +kernel
theorem f_x_Odds_becomes_12_2 : mblkB b_Odds_becomes [(12, .iconst 0, vi 0), (13, .aload_n 0, vi 0)] = true := by decide +kernel
theorem e_x_Odds_becomes_14 : decode b_Odds_becomes 14 = .ok (.getfield 9, 3) := by decide +kernel
theorem f_x_Odds_becomes_17_2 : mblkB b_Odds_becomes [(17, .iconst 0, vi 0), (18, .aload_n 0, vi 0)] = true := by decide +kernel
theorem e_x_Odds_becomes_19 : decode b_Odds_becomes 19 = .ok (.getfield 19, 3) := by decide +kernel
theorem e_x_Odds_becomes_22 : decode b_Odds_becomes 22 = .ok (.invokestatic 23, 3) := by decide +kernel
theorem f_x_Odds_becomes_25_1 : mblkB b_Odds_becomes [(25, .aload_n 1, vi 0)] = true := by decide +kernel
theorem e_x_Odds_becomes_26 : decode b_Odds_becomes 26 = .ok (.getfield 15, 3) := by decide +kernel
theorem f_x_Odds_becomes_29_2 : mblkB b_Odds_becomes [(29, .iconst 0, vi 0), (30, .aload_n 0, vi 0)] = true := by decide +kernel
theorem e_x_Odds_becomes_31 : decode b_Odds_becomes 31 = .ok (.getfield 15, 3) := by decide +kernel
theorem f_x_Odds_becomes_34_2 : mblkB b_Odds_becomes [(34, .iconst 0, vi 0), (35, .aload_n 0, vi 0)] = true := by decide +kernel
theorem e_x_Odds_becomes_36 : decode b_Odds_becomes 36 = .ok (.getfield 19, 3) := by decide +kernel
theorem e_x_Odds_becomes_39 : decode b_Odds_becomes 39 = .ok (.invokestatic 23, 3) := by decide +kernel
theorem e_x_Odds_becomes_42 : decode b_Odds_becomes 42 = .ok (.return_, 1) := by decide +kernel
set_option maxHeartbeats 4000000 in
set_option maxRecDepth 20000 in
theorem x_Odds_becomes  : ∀ (l : Launch) (D : va_G) (B : Nat) (H0 : Heap) (ad : mAd) (A : mA) (o : Nat) (a0 : Nat) (h_o : o < 200) (h_a0 : a0 < 200) (hS : mStr D ad) (r9 : Int) (A9 : mA), f_Odds_becomes  A o a0 = some (r9, A9) → mMet l D B H0 ad y_Odds_becomes b_Odds_becomes 2 none 1 40 [vr 1 o, vr 1 a0] A (fun v A' => v = none ∧ A' = A9) := by
  intro l D B H0 ad A o a0 h_o h_a0 hS r9 A9 h
  refine m_met (by decide) rfl (fun g w0 C Rm Y E => ?_)
  show JM g D ad w0 A 0 [(0, vr 1 o), (1, vr 1 a0)] []
  unfold f_Odds_becomes at h
  refine m_blk 2 [(0, vr 1 o), (1, vr 1 a0)] [vr 1 a0, vr 1 o] C f_x_Odds_becomes_0_2 rfl ?_
  refine m_geti C e_x_Odds_becomes_2 fg_Odds_19 rfl (h_a0) rfl (A 1 a0 2) rfl ?_
  refine m_puti C e_x_Odds_becomes_5 fp_Odds_19 rfl (h_o) rfl ?_
  refine m_blk 9 [(0, vr 1 o), (1, vr 1 a0)] [vr 1 a0] C f_x_Odds_becomes_8_1 rfl ?_
  refine m_getr C e_x_Odds_becomes_9 fg_Odds_9 rfl (h_a0) rfl ?_
  refine m_blk 14 [(0, vr 1 o), (1, vr 1 a0)] [vr 1 o, vi 0, vr 3 a0] C f_x_Odds_becomes_12_2 rfl ?_
  refine m_getr C e_x_Odds_becomes_14 fg_Odds_9 rfl (h_o) rfl ?_
  refine m_blk 19 [(0, vr 1 o), (1, vr 1 a0)] [vr 1 o, vi 0, vr 3 o, vi 0, vr 3 a0] C f_x_Odds_becomes_17_2 rfl ?_
  refine m_geti C e_x_Odds_becomes_19 fg_Odds_19 rfl (h_o) rfl (A 1 a0 2) (mu_at A 1 o 2 (A 1 a0 2)) ?_
  obtain ⟨c1, h⟩ := igd h
  refine m_copyi C Rm cl_Odds_23 e_x_Odds_becomes_22 rfl (h_a0) rfl (h_o) (by decide) c1.1 c1.2.1 c1.2.2.1 (by show _ ≤ ((301 : Nat) : Int); exact c1.2.2.2.1) (by show _ ≤ ((301 : Nat) : Int); exact c1.2.2.2.2) (by decide) (Nat.le_of_ble_eq_true rfl) ?_
  refine m_blk 26 [(0, vr 1 o), (1, vr 1 a0)] [vr 1 a0] C f_x_Odds_becomes_25_1 rfl ?_
  refine m_getr C e_x_Odds_becomes_26 fg_Odds_15 rfl (h_a0) rfl ?_
  refine m_blk 31 [(0, vr 1 o), (1, vr 1 a0)] [vr 1 o, vi 0, vr 4 a0] C f_x_Odds_becomes_29_2 rfl ?_
  refine m_getr C e_x_Odds_becomes_31 fg_Odds_15 rfl (h_o) rfl ?_
  refine m_blk 36 [(0, vr 1 o), (1, vr 1 a0)] [vr 1 o, vi 0, vr 4 o, vi 0, vr 4 a0] C f_x_Odds_becomes_34_2 rfl ?_
  refine m_geti C e_x_Odds_becomes_36 fg_Odds_19 rfl (h_o) rfl ((mcp (mu A 1 o 2 (A 1 a0 2)) 3 a0 0 3 o 0 ((A 1 a0 2).toNat)) 1 o 2) rfl ?_
  obtain ⟨c2, h⟩ := igd h
  refine m_copyl C Rm cl_Odds_23 e_x_Odds_becomes_39 rfl (h_a0) rfl (h_o) (by decide) c2.1 c2.2.1 c2.2.2.1 (by show _ ≤ ((301 : Nat) : Int); exact c2.2.2.2.1) (by show _ ≤ ((301 : Nat) : Int); exact c2.2.2.2.2) (by decide) (Nat.le_of_ble_eq_true rfl) ?_
  exact m_vret C Rm E e_x_Odds_becomes_42 (fin0 h)

def f_Odds_come_16 : Nat → mA → Nat → Int → Int → Int → Int → Option (Int × mA)
  | 0, _, _, _, _, _, _ => none
  | n + 1, A, b0, b1, b2, b4, b5 => (if g32 b4 then if g32 b5 then (if b5 ≤ b4 then (if g32 (A 1 b0 2) then (if (A 1 b0 2) ≤ b4 then (if (A 1 b0 2) ≤ 300 then (if ((0 : Int) ≤ b4 ∧ (0 : Int) ≤ (b4 + 1) ∧ (0 : Int) ≤ ((A 1 b0 2) - b4) ∧ (b4 : Int) + ((A 1 b0 2) - b4) ≤ 301 ∧ ((b4 + 1) : Int) + ((A 1 b0 2) - b4) ≤ 301) then (if ((0 : Int) ≤ b4 ∧ (0 : Int) ≤ (b4 + 1) ∧ (0 : Int) ≤ (((mcp A 3 b0 b4.toNat 3 b0 ((b4 + 1).toNat) (((A 1 b0 2) - b4).toNat)) 1 b0 2) - b4) ∧ (b4 : Int) + (((mcp A 3 b0 b4.toNat 3 b0 ((b4 + 1).toNat) (((A 1 b0 2) - b4).toNat)) 1 b0 2) - b4) ≤ 301 ∧ ((b4 + 1) : Int) + (((mcp A 3 b0 b4.toNat 3 b0 ((b4 + 1).toNat) (((A 1 b0 2) - b4).toNat)) 1 b0 2) - b4) ≤ 301) then (if (0 ≤ b4 ∧ b4 < ((301 : Nat) : Int)) then (some (0, (mu (mu (mu (mcp (mcp A 3 b0 b4.toNat 3 b0 ((b4 + 1).toNat) (((A 1 b0 2) - b4).toNat)) 4 b0 b4.toNat 4 b0 ((b4 + 1).toNat) ((((mcp A 3 b0 b4.toNat 3 b0 ((b4 + 1).toNat) (((A 1 b0 2) - b4).toNat)) 1 b0 2) - b4).toNat)) 3 b0 b4.toNat b1) 4 b0 b4.toNat b2) 1 b0 2 (((mcp (mcp A 3 b0 b4.toNat 3 b0 ((b4 + 1).toNat) (((A 1 b0 2) - b4).toNat)) 4 b0 b4.toNat 4 b0 ((b4 + 1).toNat) ((((mcp A 3 b0 b4.toNat 3 b0 ((b4 + 1).toNat) (((A 1 b0 2) - b4).toNat)) 1 b0 2) - b4).toNat)) 1 b0 2) + 1)))) else none) else none) else none) else (some (0, A))) else (if (0 ≤ b4 ∧ b4 < ((301 : Nat) : Int)) then (if g32 (A 3 b0 b4.toNat) then if g32 b1 then (if (A 3 b0 b4.toNat) = b1 then (some (0, (mu A 4 b0 b4.toNat ((A 4 b0 b4.toNat) + b2)))) else (if (A 1 b0 2) ≤ 300 then (if ((0 : Int) ≤ b4 ∧ (0 : Int) ≤ (b4 + 1) ∧ (0 : Int) ≤ ((A 1 b0 2) - b4) ∧ (b4 : Int) + ((A 1 b0 2) - b4) ≤ 301 ∧ ((b4 + 1) : Int) + ((A 1 b0 2) - b4) ≤ 301) then (if ((0 : Int) ≤ b4 ∧ (0 : Int) ≤ (b4 + 1) ∧ (0 : Int) ≤ (((mcp A 3 b0 b4.toNat 3 b0 ((b4 + 1).toNat) (((A 1 b0 2) - b4).toNat)) 1 b0 2) - b4) ∧ (b4 : Int) + (((mcp A 3 b0 b4.toNat 3 b0 ((b4 + 1).toNat) (((A 1 b0 2) - b4).toNat)) 1 b0 2) - b4) ≤ 301 ∧ ((b4 + 1) : Int) + (((mcp A 3 b0 b4.toNat 3 b0 ((b4 + 1).toNat) (((A 1 b0 2) - b4).toNat)) 1 b0 2) - b4) ≤ 301) then (some (0, (mu (mu (mu (mcp (mcp A 3 b0 b4.toNat 3 b0 ((b4 + 1).toNat) (((A 1 b0 2) - b4).toNat)) 4 b0 b4.toNat 4 b0 ((b4 + 1).toNat) ((((mcp A 3 b0 b4.toNat 3 b0 ((b4 + 1).toNat) (((A 1 b0 2) - b4).toNat)) 1 b0 2) - b4).toNat)) 3 b0 b4.toNat b1) 4 b0 b4.toNat b2) 1 b0 2 (((mcp (mcp A 3 b0 b4.toNat 3 b0 ((b4 + 1).toNat) (((A 1 b0 2) - b4).toNat)) 4 b0 b4.toNat 4 b0 ((b4 + 1).toNat) ((((mcp A 3 b0 b4.toNat 3 b0 ((b4 + 1).toNat) (((A 1 b0 2) - b4).toNat)) 1 b0 2) - b4).toNat)) 1 b0 2) + 1)))) else none) else none) else (some (0, A)))) else none else none) else none)) else none) else (if g32 (b4 + b5) then (if (0 ≤ (Int.tdiv (b4 + b5) 2) ∧ (Int.tdiv (b4 + b5) 2) < ((301 : Nat) : Int)) then (if g32 (A 3 b0 ((Int.tdiv (b4 + b5) 2).toNat)) then if g32 b1 then (if b1 ≤ (A 3 b0 ((Int.tdiv (b4 + b5) 2).toNat)) then (f_Odds_come_16  n A b0 b1 b2 b4 (Int.tdiv (b4 + b5) 2)) else (f_Odds_come_16  n A b0 b1 b2 ((Int.tdiv (b4 + b5) 2) + 1) b5)) else none else none) else none) else none)) else none else none)
def f_Odds_come (A : mA) (o : Nat) (a0 : Int) (a1 : Int) : Option (Int × mA) := (if g64 a1 then (if (lc a1 0) = 0 then (some (0, A)) else (f_Odds_come_16  20 A o a0 a1 0 (A 1 o 2))) else none)
theorem f_x_Odds_come_0_2 : mblkB b_Odds_come [(0, .lload_n 2, vi 0), (1, .lconst 0, vl 0)] = true := by decide +kernel
theorem e_x_Odds_come_2 : decode b_Odds_come 2 = .ok (.lcmp, 1) := by decide +kernel
theorem e_x_Odds_come_3 : decode b_Odds_come 3 = .ok (.ifCond .ne 4, 3) := by decide +kernel
theorem f_x_Odds_come_7_3 : mblkB b_Odds_come [(7, .iconst 0, vi 0), (8, .istore 4, vi 0), (10, .aload_n 0, vi 0)] = true := by decide +kernel
theorem e_x_Odds_come_11 : decode b_Odds_come 11 = .ok (.getfield 19, 3) := by decide +kernel
theorem f_x_Odds_come_14_1 : mblkB b_Odds_come [(14, .istore 5, vi 0)] = true := by decide +kernel
theorem e_x_Odds_come_6 : decode b_Odds_come 6 = .ok (.return_, 1) := by decide +kernel
theorem f_x_Odds_come_16_2 : mblkB b_Odds_come [(16, .iload 4, vi 0), (18, .iload 5, vi 0)] = true := by decide +kernel
theorem e_x_Odds_come_20 : decode b_Odds_come 20 = .ok (.if_icmp .ge 39, 3) := by decide +kernel
theorem f_x_Odds_come_59_2 : mblkB b_Odds_come [(59, .iload 4, vi 0), (61, .aload_n 0, vi 0)] = true := by decide +kernel
theorem e_x_Odds_come_62 : decode b_Odds_come 62 = .ok (.getfield 19, 3) := by decide +kernel
theorem e_x_Odds_come_65 : decode b_Odds_come 65 = .ok (.if_icmp .ge 26, 3) := by decide +kernel
theorem f_x_Odds_come_91_1 : mblkB b_Odds_come [(91, .aload_n 0, vi 0)] = true := by decide +kernel
theorem e_x_Odds_come_92 : decode b_Odds_come 92 = .ok (.getfield 19, 3) := by decide +kernel
theorem f_x_Odds_come_95_1 : mblkB b_Odds_come [(95, .sipush 300, vi 300)] = true := by decide +kernel
theorem e_x_Odds_come_98 : decode b_Odds_come 98 = .ok (.if_icmp .le 4, 3) := by decide +kernel
theorem f_x_Odds_come_102_1 : mblkB b_Odds_come [(102, .aload_n 0, vi 0)] = true := by decide +kernel
theorem e_x_Odds_come_103 : decode b_Odds_come 103 = .ok (.getfield 9, 3) := by decide +kernel
theorem f_x_Odds_come_106_2 : mblkB b_Odds_come [(106, .iload 4, vi 0), (108, .aload_n 0, vi 0)] = true := by decide +kernel
theorem e_x_Odds_come_109 : decode b_Odds_come 109 = .ok (.getfield 9, 3) := by decide +kernel
theorem f_x_Odds_come_112_4 : mblkB b_Odds_come [(112, .iload 4, vi 0), (114, .iconst 1, vi 1), (115, .iadd, vi 0), (116, .aload_n 0, vi 0)] = true := by decide +kernel
theorem e_x_Odds_come_117 : decode b_Odds_come 117 = .ok (.getfield 19, 3) := by decide +kernel
theorem f_x_Odds_come_120_2 : mblkB b_Odds_come [(120, .iload 4, vi 0), (122, .isub, vi 0)] = true := by decide +kernel
theorem e_x_Odds_come_123 : decode b_Odds_come 123 = .ok (.invokestatic 23, 3) := by decide +kernel
theorem f_x_Odds_come_126_1 : mblkB b_Odds_come [(126, .aload_n 0, vi 0)] = true := by decide +kernel
theorem e_x_Odds_come_127 : decode b_Odds_come 127 = .ok (.getfield 15, 3) := by decide +kernel
theorem f_x_Odds_come_130_2 : mblkB b_Odds_come [(130, .iload 4, vi 0), (132, .aload_n 0, vi 0)] = true := by decide +kernel
theorem e_x_Odds_come_133 : decode b_Odds_come 133 = .ok (.getfield 15, 3) := by decide +kernel
theorem f_x_Odds_come_136_4 : mblkB b_Odds_come [(136, .iload 4, vi 0), (138, .iconst 1, vi 1), (139, .iadd, vi 0), (140, .aload_n 0, vi 0)] = true := by decide +kernel
theorem e_x_Odds_come_141 : decode b_Odds_come 141 = .ok (.getfield 19, 3) := by decide +kernel
theorem f_x_Odds_come_144_2 : mblkB b_Odds_come [(144, .iload 4, vi 0), (146, .isub, vi 0)] = true := by decide +kernel
theorem e_x_Odds_come_147 : decode b_Odds_come 147 = .ok (.invokestatic 23, 3) := by decide +kernel
theorem f_x_Odds_come_150_1 : mblkB b_Odds_come [(150, .aload_n 0, vi 0)] = true := by decide +kernel
theorem e_x_Odds_come_151 : decode b_Odds_come 151 = .ok (.getfield 9, 3) := by decide +kernel
theorem f_x_Odds_come_154_2 : mblkB b_Odds_come [(154, .iload 4, vi 0), (156, .iload_n 1, vi 0)] = true := by decide +kernel
theorem e_x_Odds_come_157 : decode b_Odds_come 157 = .ok (.iastore, 1) := by decide +kernel
theorem f_x_Odds_come_158_1 : mblkB b_Odds_come [(158, .aload_n 0, vi 0)] = true := by decide +kernel
theorem e_x_Odds_come_159 : decode b_Odds_come 159 = .ok (.getfield 15, 3) := by decide +kernel
theorem f_x_Odds_come_162_2 : mblkB b_Odds_come [(162, .iload 4, vi 0), (164, .lload_n 2, vi 0)] = true := by decide +kernel
theorem e_x_Odds_come_165 : decode b_Odds_come 165 = .ok (.lastore, 1) := by decide +kernel
theorem f_x_Odds_come_166_2 : mblkB b_Odds_come [(166, .aload_n 0, vi 0), (167, .dup, vi 0)] = true := by decide +kernel
theorem e_x_Odds_come_168 : decode b_Odds_come 168 = .ok (.getfield 19, 3) := by decide +kernel
theorem f_x_Odds_come_171_2 : mblkB b_Odds_come [(171, .iconst 1, vi 1), (172, .iadd, vi 0)] = true := by decide +kernel
theorem e_x_Odds_come_173 : decode b_Odds_come 173 = .ok (.putfield 19, 3) := by decide +kernel
theorem e_x_Odds_come_176 : decode b_Odds_come 176 = .ok (.return_, 1) := by decide +kernel
theorem e_x_Odds_come_101 : decode b_Odds_come 101 = .ok (.return_, 1) := by decide +kernel
theorem f_x_Odds_come_68_1 : mblkB b_Odds_come [(68, .aload_n 0, vi 0)] = true := by decide +kernel
theorem e_x_Odds_come_69 : decode b_Odds_come 69 = .ok (.getfield 9, 3) := by decide +kernel
theorem f_x_Odds_come_72_1 : mblkB b_Odds_come [(72, .iload 4, vi 0)] = true := by decide +kernel
theorem e_x_Odds_come_74 : decode b_Odds_come 74 = .ok (.iaload, 1) := by decide +kernel
theorem f_x_Odds_come_75_1 : mblkB b_Odds_come [(75, .iload_n 1, vi 0)] = true := by decide +kernel
theorem e_x_Odds_come_76 : decode b_Odds_come 76 = .ok (.if_icmp .ne 15, 3) := by decide +kernel
theorem f_x_Odds_come_79_1 : mblkB b_Odds_come [(79, .aload_n 0, vi 0)] = true := by decide +kernel
theorem e_x_Odds_come_80 : decode b_Odds_come 80 = .ok (.getfield 15, 3) := by decide +kernel
theorem f_x_Odds_come_83_2 : mblkB b_Odds_come [(83, .iload 4, vi 0), (85, .dup2, vi 0)] = true := by decide +kernel
theorem e_x_Odds_come_86 : decode b_Odds_come 86 = .ok (.laload, 1) := by decide +kernel
theorem f_x_Odds_come_87_2 : mblkB b_Odds_come [(87, .lload_n 2, vi 0), (88, .ladd, vi 0)] = true := by decide +kernel
theorem e_x_Odds_come_89 : decode b_Odds_come 89 = .ok (.lastore, 1) := by decide +kernel
theorem e_x_Odds_come_90 : decode b_Odds_come 90 = .ok (.return_, 1) := by decide +kernel
theorem f_x_Odds_come_23_4 : mblkB b_Odds_come [(23, .iload 4, vi 0), (25, .iload 5, vi 0), (27, .iadd, vi 0), (28, .iconst 2, vi 2)] = true := by decide +kernel
theorem e_x_Odds_come_29 : decode b_Odds_come 29 = .ok (.idiv, 1) := by decide +kernel
theorem f_x_Odds_come_30_2 : mblkB b_Odds_come [(30, .istore 6, vi 0), (32, .aload_n 0, vi 0)] = true := by decide +kernel
theorem e_x_Odds_come_33 : decode b_Odds_come 33 = .ok (.getfield 9, 3) := by decide +kernel
theorem f_x_Odds_come_36_1 : mblkB b_Odds_come [(36, .iload 6, vi 0)] = true := by decide +kernel
theorem e_x_Odds_come_38 : decode b_Odds_come 38 = .ok (.iaload, 1) := by decide +kernel
theorem f_x_Odds_come_39_1 : mblkB b_Odds_come [(39, .iload_n 1, vi 0)] = true := by decide +kernel
theorem e_x_Odds_come_40 : decode b_Odds_come 40 = .ok (.if_icmp .ge 12, 3) := by decide +kernel
theorem f_x_Odds_come_52_3 : mblkB b_Odds_come [(52, .iload 6, vi 0), (54, .istore 5, vi 0), (56, .goto (-40), vi 16)] = true := by decide +kernel
theorem f_x_Odds_come_43_5 : mblkB b_Odds_come [(43, .iload 6, vi 0), (45, .iconst 1, vi 1), (46, .iadd, vi 0), (47, .istore 4, vi 0), (49, .goto 7, vi 56)] = true := by decide +kernel
theorem f_x_Odds_come_56_1 : mblkB b_Odds_come [(56, .goto (-40), vi 16)] = true := by decide +kernel
set_option maxHeartbeats 4000000 in
set_option maxRecDepth 20000 in
theorem x_Odds_come  : ∀ (l : Launch) (D : va_G) (B : Nat) (H0 : Heap) (ad : mAd) (A : mA) (o : Nat) (a0 : Int) (a1 : Int) (h_o : o < 200) (hS : mStr D ad) (r9 : Int) (A9 : mA), f_Odds_come  A o a0 a1 = some (r9, A9) → mMet l D B H0 ad y_Odds_come b_Odds_come 7 none 1 40 [vr 1 o, vi a0, vl a1] A (fun v A' => v = none ∧ A' = A9) := by
  intro l D B H0 ad A o a0 a1 h_o hS r9 A9 h
  refine m_met (by decide) rfl (fun g w0 C Rm Y E => ?_)
  have hd_16 : ∀ (n : Nat) (A : mA) (b0 : Nat) (b1 : Int) (b2 : Int) (b4 : Int) (b5 : Int) , b0 < 200 → f_Odds_come_16  n A b0 b1 b2 b4 b5 = some (r9, A9) → JM g D ad w0 A 16 [(0, vr 1 b0), (1, vi b1), (2, vl b2), (4, vi b4), (5, vi b5)] [] := by
    intro n
    induction n with
    | zero => intro A b0 b1 b2 b4 b5 h_b0 h; cases h
    | succ n ih =>
      intro A b0 b1 b2 b4 b5 h_b0 h
      unfold f_Odds_come_16 at h
      refine m_blk 20 [(0, vr 1 b0), (1, vi b1), (2, vl b2), (4, vi b4), (5, vi b5)] [vi b5, vi b4] C f_x_Odds_come_16_2 rfl ?_
      obtain ⟨c1, h⟩ := igd h
      obtain ⟨c2, h⟩ := igd h
      refine m_icmp_ge (tgt := 59) C e_x_Odds_come_20 (by decide) c1 c2 (fun c3 => ?_) (fun c3 => ?_)
      · have h := ifp c3 h
        refine m_blk 62 [(0, vr 1 b0), (1, vi b1), (2, vl b2), (4, vi b4), (5, vi b5)] [vr 1 b0, vi b4] C f_x_Odds_come_59_2 rfl ?_
        refine m_geti C e_x_Odds_come_62 fg_Odds_19 rfl (h_b0) rfl (A 1 b0 2) rfl ?_
        obtain ⟨c4, h⟩ := igd h
        refine m_icmp_ge (tgt := 91) C e_x_Odds_come_65 (by decide) c1 c4 (fun c5 => ?_) (fun c5 => ?_)
        · have h := ifp c5 h
          refine m_blk 92 [(0, vr 1 b0), (1, vi b1), (2, vl b2), (4, vi b4), (5, vi b5)] [vr 1 b0] C f_x_Odds_come_91_1 rfl ?_
          refine m_geti C e_x_Odds_come_92 fg_Odds_19 rfl (h_b0) rfl (A 1 b0 2) rfl ?_
          refine m_blk 98 [(0, vr 1 b0), (1, vi b1), (2, vl b2), (4, vi b4), (5, vi b5)] [vi 300, vi (A 1 b0 2)] C f_x_Odds_come_95_1 rfl ?_
          refine m_icmp_le (tgt := 102) C e_x_Odds_come_98 (by decide) c4 (by decide) (fun c6 => ?_) (fun c6 => ?_)
          · have h := ifp c6 h
            refine m_blk 103 [(0, vr 1 b0), (1, vi b1), (2, vl b2), (4, vi b4), (5, vi b5)] [vr 1 b0] C f_x_Odds_come_102_1 rfl ?_
            refine m_getr C e_x_Odds_come_103 fg_Odds_9 rfl (h_b0) rfl ?_
            refine m_blk 109 [(0, vr 1 b0), (1, vi b1), (2, vl b2), (4, vi b4), (5, vi b5)] [vr 1 b0, vi b4, vr 3 b0] C f_x_Odds_come_106_2 rfl ?_
            refine m_getr C e_x_Odds_come_109 fg_Odds_9 rfl (h_b0) rfl ?_
            refine m_blk 117 [(0, vr 1 b0), (1, vi b1), (2, vl b2), (4, vi b4), (5, vi b5)] [vr 1 b0, vi (b4 + 1), vr 3 b0, vi b4, vr 3 b0] C f_x_Odds_come_112_4 rfl ?_
            refine m_geti C e_x_Odds_come_117 fg_Odds_19 rfl (h_b0) rfl (A 1 b0 2) rfl ?_
            refine m_blk 123 [(0, vr 1 b0), (1, vi b1), (2, vl b2), (4, vi b4), (5, vi b5)] [vi ((A 1 b0 2) - b4), vi (b4 + 1), vr 3 b0, vi b4, vr 3 b0] C f_x_Odds_come_120_2 rfl ?_
            obtain ⟨c7, h⟩ := igd h
            refine m_copyi C Rm cl_Odds_23 e_x_Odds_come_123 rfl (h_b0) rfl (h_b0) (by decide) c7.1 c7.2.1 c7.2.2.1 (by show _ ≤ ((301 : Nat) : Int); exact c7.2.2.2.1) (by show _ ≤ ((301 : Nat) : Int); exact c7.2.2.2.2) (by decide) (Nat.le_of_ble_eq_true rfl) ?_
            refine m_blk 127 [(0, vr 1 b0), (1, vi b1), (2, vl b2), (4, vi b4), (5, vi b5)] [vr 1 b0] C f_x_Odds_come_126_1 rfl ?_
            refine m_getr C e_x_Odds_come_127 fg_Odds_15 rfl (h_b0) rfl ?_
            refine m_blk 133 [(0, vr 1 b0), (1, vi b1), (2, vl b2), (4, vi b4), (5, vi b5)] [vr 1 b0, vi b4, vr 4 b0] C f_x_Odds_come_130_2 rfl ?_
            refine m_getr C e_x_Odds_come_133 fg_Odds_15 rfl (h_b0) rfl ?_
            refine m_blk 141 [(0, vr 1 b0), (1, vi b1), (2, vl b2), (4, vi b4), (5, vi b5)] [vr 1 b0, vi (b4 + 1), vr 4 b0, vi b4, vr 4 b0] C f_x_Odds_come_136_4 rfl ?_
            refine m_geti C e_x_Odds_come_141 fg_Odds_19 rfl (h_b0) rfl ((mcp A 3 b0 b4.toNat 3 b0 ((b4 + 1).toNat) (((A 1 b0 2) - b4).toNat)) 1 b0 2) rfl ?_
            refine m_blk 147 [(0, vr 1 b0), (1, vi b1), (2, vl b2), (4, vi b4), (5, vi b5)] [vi (((mcp A 3 b0 b4.toNat 3 b0 ((b4 + 1).toNat) (((A 1 b0 2) - b4).toNat)) 1 b0 2) - b4), vi (b4 + 1), vr 4 b0, vi b4, vr 4 b0] C f_x_Odds_come_144_2 rfl ?_
            obtain ⟨c8, h⟩ := igd h
            refine m_copyl C Rm cl_Odds_23 e_x_Odds_come_147 rfl (h_b0) rfl (h_b0) (by decide) c8.1 c8.2.1 c8.2.2.1 (by show _ ≤ ((301 : Nat) : Int); exact c8.2.2.2.1) (by show _ ≤ ((301 : Nat) : Int); exact c8.2.2.2.2) (by decide) (Nat.le_of_ble_eq_true rfl) ?_
            refine m_blk 151 [(0, vr 1 b0), (1, vi b1), (2, vl b2), (4, vi b4), (5, vi b5)] [vr 1 b0] C f_x_Odds_come_150_1 rfl ?_
            refine m_getr C e_x_Odds_come_151 fg_Odds_9 rfl (h_b0) rfl ?_
            refine m_blk 157 [(0, vr 1 b0), (1, vi b1), (2, vl b2), (4, vi b4), (5, vi b5)] [vi b1, vi b4, vr 3 b0] C f_x_Odds_come_154_2 rfl ?_
            obtain ⟨c9, h⟩ := igd h
            refine m_iast C e_x_Odds_come_157 rfl (h_b0) (by decide) c9.1 c9.2 ?_
            refine m_blk 159 [(0, vr 1 b0), (1, vi b1), (2, vl b2), (4, vi b4), (5, vi b5)] [vr 1 b0] C f_x_Odds_come_158_1 rfl ?_
            refine m_getr C e_x_Odds_come_159 fg_Odds_15 rfl (h_b0) rfl ?_
            refine m_blk 165 [(0, vr 1 b0), (1, vi b1), (2, vl b2), (4, vi b4), (5, vi b5)] [vl b2, vi b4, vr 4 b0] C f_x_Odds_come_162_2 rfl ?_
            refine m_last C e_x_Odds_come_165 rfl (h_b0) (by decide) c9.1 c9.2 ?_
            refine m_blk 168 [(0, vr 1 b0), (1, vi b1), (2, vl b2), (4, vi b4), (5, vi b5)] [vr 1 b0, vr 1 b0] C f_x_Odds_come_166_2 rfl ?_
            refine m_geti C e_x_Odds_come_168 fg_Odds_19 rfl (h_b0) rfl ((mcp (mcp A 3 b0 b4.toNat 3 b0 ((b4 + 1).toNat) (((A 1 b0 2) - b4).toNat)) 4 b0 b4.toNat 4 b0 ((b4 + 1).toNat) ((((mcp A 3 b0 b4.toNat 3 b0 ((b4 + 1).toNat) (((A 1 b0 2) - b4).toNat)) 1 b0 2) - b4).toNat)) 1 b0 2) rfl ?_
            refine m_blk 173 [(0, vr 1 b0), (1, vi b1), (2, vl b2), (4, vi b4), (5, vi b5)] [vi (((mcp (mcp A 3 b0 b4.toNat 3 b0 ((b4 + 1).toNat) (((A 1 b0 2) - b4).toNat)) 4 b0 b4.toNat 4 b0 ((b4 + 1).toNat) ((((mcp A 3 b0 b4.toNat 3 b0 ((b4 + 1).toNat) (((A 1 b0 2) - b4).toNat)) 1 b0 2) - b4).toNat)) 1 b0 2) + 1), vr 1 b0] C f_x_Odds_come_171_2 rfl ?_
            refine m_puti C e_x_Odds_come_173 fp_Odds_19 rfl (h_b0) rfl ?_
            exact m_vret C Rm E e_x_Odds_come_176 (fin0 h)
          · have h := ifn c6 h
            exact m_vret C Rm E e_x_Odds_come_101 (fin0 h)
        · have h := ifn c5 h
          refine m_blk 69 [(0, vr 1 b0), (1, vi b1), (2, vl b2), (4, vi b4), (5, vi b5)] [vr 1 b0] C f_x_Odds_come_68_1 rfl ?_
          refine m_getr C e_x_Odds_come_69 fg_Odds_9 rfl (h_b0) rfl ?_
          refine m_blk 74 [(0, vr 1 b0), (1, vi b1), (2, vl b2), (4, vi b4), (5, vi b5)] [vi b4, vr 3 b0] C f_x_Odds_come_72_1 rfl ?_
          obtain ⟨c10, h⟩ := igd h
          refine m_iald C e_x_Odds_come_74 rfl (h_b0) (by decide) c10.1 c10.2 (A 3 b0 b4.toNat) rfl ?_
          refine m_blk 76 [(0, vr 1 b0), (1, vi b1), (2, vl b2), (4, vi b4), (5, vi b5)] [vi b1, vi (A 3 b0 b4.toNat)] C f_x_Odds_come_75_1 rfl ?_
          obtain ⟨c11, h⟩ := igd h
          obtain ⟨c12, h⟩ := igd h
          refine m_icmp_ne (tgt := 91) C e_x_Odds_come_76 (by decide) c11 c12 (fun c13 => ?_) (fun c13 => ?_)
          · have h := ifn c13 h
            refine m_blk 92 [(0, vr 1 b0), (1, vi b1), (2, vl b2), (4, vi b4), (5, vi b5)] [vr 1 b0] C f_x_Odds_come_91_1 rfl ?_
            refine m_geti C e_x_Odds_come_92 fg_Odds_19 rfl (h_b0) rfl (A 1 b0 2) rfl ?_
            refine m_blk 98 [(0, vr 1 b0), (1, vi b1), (2, vl b2), (4, vi b4), (5, vi b5)] [vi 300, vi (A 1 b0 2)] C f_x_Odds_come_95_1 rfl ?_
            refine m_icmp_le (tgt := 102) C e_x_Odds_come_98 (by decide) c4 (by decide) (fun c14 => ?_) (fun c14 => ?_)
            · have h := ifp c14 h
              refine m_blk 103 [(0, vr 1 b0), (1, vi b1), (2, vl b2), (4, vi b4), (5, vi b5)] [vr 1 b0] C f_x_Odds_come_102_1 rfl ?_
              refine m_getr C e_x_Odds_come_103 fg_Odds_9 rfl (h_b0) rfl ?_
              refine m_blk 109 [(0, vr 1 b0), (1, vi b1), (2, vl b2), (4, vi b4), (5, vi b5)] [vr 1 b0, vi b4, vr 3 b0] C f_x_Odds_come_106_2 rfl ?_
              refine m_getr C e_x_Odds_come_109 fg_Odds_9 rfl (h_b0) rfl ?_
              refine m_blk 117 [(0, vr 1 b0), (1, vi b1), (2, vl b2), (4, vi b4), (5, vi b5)] [vr 1 b0, vi (b4 + 1), vr 3 b0, vi b4, vr 3 b0] C f_x_Odds_come_112_4 rfl ?_
              refine m_geti C e_x_Odds_come_117 fg_Odds_19 rfl (h_b0) rfl (A 1 b0 2) rfl ?_
              refine m_blk 123 [(0, vr 1 b0), (1, vi b1), (2, vl b2), (4, vi b4), (5, vi b5)] [vi ((A 1 b0 2) - b4), vi (b4 + 1), vr 3 b0, vi b4, vr 3 b0] C f_x_Odds_come_120_2 rfl ?_
              obtain ⟨c15, h⟩ := igd h
              refine m_copyi C Rm cl_Odds_23 e_x_Odds_come_123 rfl (h_b0) rfl (h_b0) (by decide) c15.1 c15.2.1 c15.2.2.1 (by show _ ≤ ((301 : Nat) : Int); exact c15.2.2.2.1) (by show _ ≤ ((301 : Nat) : Int); exact c15.2.2.2.2) (by decide) (Nat.le_of_ble_eq_true rfl) ?_
              refine m_blk 127 [(0, vr 1 b0), (1, vi b1), (2, vl b2), (4, vi b4), (5, vi b5)] [vr 1 b0] C f_x_Odds_come_126_1 rfl ?_
              refine m_getr C e_x_Odds_come_127 fg_Odds_15 rfl (h_b0) rfl ?_
              refine m_blk 133 [(0, vr 1 b0), (1, vi b1), (2, vl b2), (4, vi b4), (5, vi b5)] [vr 1 b0, vi b4, vr 4 b0] C f_x_Odds_come_130_2 rfl ?_
              refine m_getr C e_x_Odds_come_133 fg_Odds_15 rfl (h_b0) rfl ?_
              refine m_blk 141 [(0, vr 1 b0), (1, vi b1), (2, vl b2), (4, vi b4), (5, vi b5)] [vr 1 b0, vi (b4 + 1), vr 4 b0, vi b4, vr 4 b0] C f_x_Odds_come_136_4 rfl ?_
              refine m_geti C e_x_Odds_come_141 fg_Odds_19 rfl (h_b0) rfl ((mcp A 3 b0 b4.toNat 3 b0 ((b4 + 1).toNat) (((A 1 b0 2) - b4).toNat)) 1 b0 2) rfl ?_
              refine m_blk 147 [(0, vr 1 b0), (1, vi b1), (2, vl b2), (4, vi b4), (5, vi b5)] [vi (((mcp A 3 b0 b4.toNat 3 b0 ((b4 + 1).toNat) (((A 1 b0 2) - b4).toNat)) 1 b0 2) - b4), vi (b4 + 1), vr 4 b0, vi b4, vr 4 b0] C f_x_Odds_come_144_2 rfl ?_
              obtain ⟨c16, h⟩ := igd h
              refine m_copyl C Rm cl_Odds_23 e_x_Odds_come_147 rfl (h_b0) rfl (h_b0) (by decide) c16.1 c16.2.1 c16.2.2.1 (by show _ ≤ ((301 : Nat) : Int); exact c16.2.2.2.1) (by show _ ≤ ((301 : Nat) : Int); exact c16.2.2.2.2) (by decide) (Nat.le_of_ble_eq_true rfl) ?_
              refine m_blk 151 [(0, vr 1 b0), (1, vi b1), (2, vl b2), (4, vi b4), (5, vi b5)] [vr 1 b0] C f_x_Odds_come_150_1 rfl ?_
              refine m_getr C e_x_Odds_come_151 fg_Odds_9 rfl (h_b0) rfl ?_
              refine m_blk 157 [(0, vr 1 b0), (1, vi b1), (2, vl b2), (4, vi b4), (5, vi b5)] [vi b1, vi b4, vr 3 b0] C f_x_Odds_come_154_2 rfl ?_
              refine m_iast C e_x_Odds_come_157 rfl (h_b0) (by decide) c10.1 c10.2 ?_
              refine m_blk 159 [(0, vr 1 b0), (1, vi b1), (2, vl b2), (4, vi b4), (5, vi b5)] [vr 1 b0] C f_x_Odds_come_158_1 rfl ?_
              refine m_getr C e_x_Odds_come_159 fg_Odds_15 rfl (h_b0) rfl ?_
              refine m_blk 165 [(0, vr 1 b0), (1, vi b1), (2, vl b2), (4, vi b4), (5, vi b5)] [vl b2, vi b4, vr 4 b0] C f_x_Odds_come_162_2 rfl ?_
              refine m_last C e_x_Odds_come_165 rfl (h_b0) (by decide) c10.1 c10.2 ?_
              refine m_blk 168 [(0, vr 1 b0), (1, vi b1), (2, vl b2), (4, vi b4), (5, vi b5)] [vr 1 b0, vr 1 b0] C f_x_Odds_come_166_2 rfl ?_
              refine m_geti C e_x_Odds_come_168 fg_Odds_19 rfl (h_b0) rfl ((mcp (mcp A 3 b0 b4.toNat 3 b0 ((b4 + 1).toNat) (((A 1 b0 2) - b4).toNat)) 4 b0 b4.toNat 4 b0 ((b4 + 1).toNat) ((((mcp A 3 b0 b4.toNat 3 b0 ((b4 + 1).toNat) (((A 1 b0 2) - b4).toNat)) 1 b0 2) - b4).toNat)) 1 b0 2) rfl ?_
              refine m_blk 173 [(0, vr 1 b0), (1, vi b1), (2, vl b2), (4, vi b4), (5, vi b5)] [vi (((mcp (mcp A 3 b0 b4.toNat 3 b0 ((b4 + 1).toNat) (((A 1 b0 2) - b4).toNat)) 4 b0 b4.toNat 4 b0 ((b4 + 1).toNat) ((((mcp A 3 b0 b4.toNat 3 b0 ((b4 + 1).toNat) (((A 1 b0 2) - b4).toNat)) 1 b0 2) - b4).toNat)) 1 b0 2) + 1), vr 1 b0] C f_x_Odds_come_171_2 rfl ?_
              refine m_puti C e_x_Odds_come_173 fp_Odds_19 rfl (h_b0) rfl ?_
              exact m_vret C Rm E e_x_Odds_come_176 (fin0 h)
            · have h := ifn c14 h
              exact m_vret C Rm E e_x_Odds_come_101 (fin0 h)
          · have h := ifp c13 h
            refine m_blk 80 [(0, vr 1 b0), (1, vi b1), (2, vl b2), (4, vi b4), (5, vi b5)] [vr 1 b0] C f_x_Odds_come_79_1 rfl ?_
            refine m_getr C e_x_Odds_come_80 fg_Odds_15 rfl (h_b0) rfl ?_
            refine m_blk 86 [(0, vr 1 b0), (1, vi b1), (2, vl b2), (4, vi b4), (5, vi b5)] [vi b4, vr 4 b0, vi b4, vr 4 b0] C f_x_Odds_come_83_2 rfl ?_
            refine m_lald C e_x_Odds_come_86 rfl (h_b0) (by decide) c10.1 c10.2 (A 4 b0 b4.toNat) rfl ?_
            refine m_blk 89 [(0, vr 1 b0), (1, vi b1), (2, vl b2), (4, vi b4), (5, vi b5)] [vl ((A 4 b0 b4.toNat) + b2), vi b4, vr 4 b0] C f_x_Odds_come_87_2 rfl ?_
            refine m_last C e_x_Odds_come_89 rfl (h_b0) (by decide) c10.1 c10.2 ?_
            exact m_vret C Rm E e_x_Odds_come_90 (fin0 h)
      · have h := ifn c3 h
        refine m_blk 29 [(0, vr 1 b0), (1, vi b1), (2, vl b2), (4, vi b4), (5, vi b5)] [vi 2, vi (b4 + b5)] C f_x_Odds_come_23_4 rfl ?_
        obtain ⟨c17, h⟩ := igd h
        refine m_idiv C e_x_Odds_come_29 c17 (by decide) (by decide) ?_
        refine m_blk 33 [(6, vi (Int.tdiv (b4 + b5) 2)), (0, vr 1 b0), (1, vi b1), (2, vl b2), (4, vi b4), (5, vi b5)] [vr 1 b0] C f_x_Odds_come_30_2 rfl ?_
        refine m_getr C e_x_Odds_come_33 fg_Odds_9 rfl (h_b0) rfl ?_
        refine m_blk 38 [(6, vi (Int.tdiv (b4 + b5) 2)), (0, vr 1 b0), (1, vi b1), (2, vl b2), (4, vi b4), (5, vi b5)] [vi (Int.tdiv (b4 + b5) 2), vr 3 b0] C f_x_Odds_come_36_1 rfl ?_
        obtain ⟨c18, h⟩ := igd h
        refine m_iald C e_x_Odds_come_38 rfl (h_b0) (by decide) c18.1 c18.2 (A 3 b0 ((Int.tdiv (b4 + b5) 2).toNat)) rfl ?_
        refine m_blk 40 [(6, vi (Int.tdiv (b4 + b5) 2)), (0, vr 1 b0), (1, vi b1), (2, vl b2), (4, vi b4), (5, vi b5)] [vi b1, vi (A 3 b0 ((Int.tdiv (b4 + b5) 2).toNat))] C f_x_Odds_come_39_1 rfl ?_
        obtain ⟨c19, h⟩ := igd h
        obtain ⟨c20, h⟩ := igd h
        refine m_icmp_ge (tgt := 52) C e_x_Odds_come_40 (by decide) c19 c20 (fun c21 => ?_) (fun c21 => ?_)
        · have h := ifp c21 h
          refine m_blk 16 [(5, vi (Int.tdiv (b4 + b5) 2)), (6, vi (Int.tdiv (b4 + b5) 2)), (0, vr 1 b0), (1, vi b1), (2, vl b2), (4, vi b4)] [] C f_x_Odds_come_52_3 rfl ?_
          refine m_loc [(0, vr 1 b0), (1, vi b1), (2, vl b2), (4, vi b4), (5, vi (Int.tdiv (b4 + b5) 2))] ⟨rfl, rfl, rfl, rfl, rfl, trivial⟩ ?_
          exact ih A b0 b1 b2 b4 (Int.tdiv (b4 + b5) 2) (h_b0) h
        · have h := ifn c21 h
          refine m_blk 56 [(4, vi ((Int.tdiv (b4 + b5) 2) + 1)), (6, vi (Int.tdiv (b4 + b5) 2)), (0, vr 1 b0), (1, vi b1), (2, vl b2), (5, vi b5)] [] C f_x_Odds_come_43_5 rfl ?_
          refine m_blk 16 [(4, vi ((Int.tdiv (b4 + b5) 2) + 1)), (6, vi (Int.tdiv (b4 + b5) 2)), (0, vr 1 b0), (1, vi b1), (2, vl b2), (5, vi b5)] [] C f_x_Odds_come_56_1 rfl ?_
          refine m_loc [(0, vr 1 b0), (1, vi b1), (2, vl b2), (4, vi ((Int.tdiv (b4 + b5) 2) + 1)), (5, vi b5)] ⟨rfl, rfl, rfl, rfl, rfl, trivial⟩ ?_
          exact ih A b0 b1 b2 ((Int.tdiv (b4 + b5) 2) + 1) b5 (h_b0) h
  show JM g D ad w0 A 0 [(0, vr 1 o), (1, vi a0), (2, vl a1)] []
  unfold f_Odds_come at h
  refine m_blk 2 [(0, vr 1 o), (1, vi a0), (2, vl a1)] [vl 0, vl a1] C f_x_Odds_come_0_2 rfl ?_
  obtain ⟨c22, h⟩ := igd h
  refine m_lcmp C e_x_Odds_come_2 c22 (by decide) (fun z23 hz23 => ?_)
  obtain rfl : z23 = lc a1 0 := lc_of hz23
  refine m_if_ne (tgt := 7) C e_x_Odds_come_3 (by decide) lc_r (fun c24 => ?_) (fun c24 => ?_)
  · have h := ifn c24 h
    refine m_blk 11 [(4, vi 0), (0, vr 1 o), (1, vi a0), (2, vl a1)] [vr 1 o] C f_x_Odds_come_7_3 rfl ?_
    refine m_geti C e_x_Odds_come_11 fg_Odds_19 rfl (h_o) rfl (A 1 o 2) rfl ?_
    refine m_blk 16 [(5, vi (A 1 o 2)), (4, vi 0), (0, vr 1 o), (1, vi a0), (2, vl a1)] [] C f_x_Odds_come_14_1 rfl ?_
    refine m_loc [(0, vr 1 o), (1, vi a0), (2, vl a1), (4, vi 0), (5, vi (A 1 o 2))] ⟨rfl, rfl, rfl, rfl, rfl, trivial⟩ ?_
    exact hd_16 _ A o a0 a1 0 (A 1 o 2) (h_o) h
  · have h := ifp c24 h
    exact m_vret C Rm E e_x_Odds_come_6 (fin0 h)

def f_Odds_all_4 : Nat → mA → Nat → Int → Int → Option (Int × mA)
  | 0, _, _, _, _ => none
  | n + 1, A, b0, b1, b3 => (if g32 b3 then if g32 (A 1 b0 2) then (if (A 1 b0 2) ≤ b3 then (some (b1, A)) else (if (0 ≤ b3 ∧ b3 < ((301 : Nat) : Int)) then (f_Odds_all_4  n A b0 (b1 + (A 4 b0 b3.toNat)) (b3 + 1)) else none)) else none else none)
def f_Odds_all (A : mA) (o : Nat) : Option (Int × mA) := (f_Odds_all_4  310 A o 0 0)
theorem f_x_Odds_all_0_4 : mblkB b_Odds_all [(0, .lconst 0, vl 0), (1, .lstore_n 1, vi 0), (2, .iconst 0, vi 0), (3, .istore_n 3, vi 0)] = true := by decide +kernel
theorem f_x_Odds_all_4_2 : mblkB b_Odds_all [(4, .iload_n 3, vi 0), (5, .aload_n 0, vi 0)] = true := by decide +kernel
theorem e_x_Odds_all_6 : decode b_Odds_all 6 = .ok (.getfield 19, 3) := by decide +kernel
theorem e_x_Odds_all_9 : decode b_Odds_all 9 = .ok (.if_icmp .ge 18, 3) := by decide +kernel
theorem f_x_Odds_all_27_1 : mblkB b_Odds_all [(27, .lload_n 1, vi 0)] = true := by decide +kernel
theorem e_x_Odds_all_28 : decode b_Odds_all 28 = .ok (.lreturn, 1) := by decide +kernel
theorem f_x_Odds_all_12_2 : mblkB b_Odds_all [(12, .lload_n 1, vi 0), (13, .aload_n 0, vi 0)] = true := by decide +kernel
theorem e_x_Odds_all_14 : decode b_Odds_all 14 = .ok (.getfield 15, 3) := by decide +kernel
theorem f_x_Odds_all_17_1 : mblkB b_Odds_all [(17, .iload_n 3, vi 0)] = true := by decide +kernel
theorem e_x_Odds_all_18 : decode b_Odds_all 18 = .ok (.laload, 1) := by decide +kernel
theorem f_x_Odds_all_19_4 : mblkB b_Odds_all [(19, .ladd, vi 0), (20, .lstore_n 1, vi 0), (21, .iinc 3 1, vi 1), (24, .goto (-20), vi 4)] = true := by decide +kernel
set_option maxHeartbeats 4000000 in
set_option maxRecDepth 20000 in
theorem x_Odds_all  : ∀ (l : Launch) (D : va_G) (B : Nat) (H0 : Heap) (ad : mAd) (A : mA) (o : Nat) (h_o : o < 200) (hS : mStr D ad) (r9 : Int) (A9 : mA), f_Odds_all  A o = some (r9, A9) → mMet l D B H0 ad y_Odds_all b_Odds_all 4 (some .long) 0 0 [vr 1 o] A (fun v A' => v = some (vl r9) ∧ A' = A9) := by
  intro l D B H0 ad A o h_o hS r9 A9 h
  refine m_met (by decide) rfl (fun g w0 C Rm Y E => ?_)
  have hd_4 : ∀ (n : Nat) (A : mA) (b0 : Nat) (b1 : Int) (b3 : Int) , b0 < 200 → f_Odds_all_4  n A b0 b1 b3 = some (r9, A9) → JM g D ad w0 A 4 [(0, vr 1 b0), (1, vl b1), (3, vi b3)] [] := by
    intro n
    induction n with
    | zero => intro A b0 b1 b3 h_b0 h; cases h
    | succ n ih =>
      intro A b0 b1 b3 h_b0 h
      unfold f_Odds_all_4 at h
      refine m_blk 6 [(0, vr 1 b0), (1, vl b1), (3, vi b3)] [vr 1 b0, vi b3] C f_x_Odds_all_4_2 rfl ?_
      refine m_geti C e_x_Odds_all_6 fg_Odds_19 rfl (h_b0) rfl (A 1 b0 2) rfl ?_
      obtain ⟨c1, h⟩ := igd h
      obtain ⟨c2, h⟩ := igd h
      refine m_icmp_ge (tgt := 27) C e_x_Odds_all_9 (by decide) c1 c2 (fun c3 => ?_) (fun c3 => ?_)
      · have h := ifp c3 h
        refine m_blk 28 [(0, vr 1 b0), (1, vl b1), (3, vi b3)] [vl b1] C f_x_Odds_all_27_1 rfl ?_
        exact m_lret C Rm E e_x_Odds_all_28 (finL h)
      · have h := ifn c3 h
        refine m_blk 14 [(0, vr 1 b0), (1, vl b1), (3, vi b3)] [vr 1 b0, vl b1] C f_x_Odds_all_12_2 rfl ?_
        refine m_getr C e_x_Odds_all_14 fg_Odds_15 rfl (h_b0) rfl ?_
        refine m_blk 18 [(0, vr 1 b0), (1, vl b1), (3, vi b3)] [vi b3, vr 4 b0, vl b1] C f_x_Odds_all_17_1 rfl ?_
        obtain ⟨c4, h⟩ := igd h
        refine m_lald C e_x_Odds_all_18 rfl (h_b0) (by decide) c4.1 c4.2 (A 4 b0 b3.toNat) rfl ?_
        refine m_blk 4 [(3, vi (b3 + 1)), (1, vl (b1 + (A 4 b0 b3.toNat))), (0, vr 1 b0)] [] C f_x_Odds_all_19_4 rfl ?_
        refine m_loc [(0, vr 1 b0), (1, vl (b1 + (A 4 b0 b3.toNat))), (3, vi (b3 + 1))] ⟨rfl, rfl, rfl, trivial⟩ ?_
        exact ih A b0 (b1 + (A 4 b0 b3.toNat)) (b3 + 1) (h_b0) h
  show JM g D ad w0 A 0 [(0, vr 1 o)] []
  unfold f_Odds_all at h
  refine m_blk 4 [(3, vi 0), (1, vl 0), (0, vr 1 o)] [] C f_x_Odds_all_0_4 rfl ?_
  refine m_loc [(0, vr 1 o), (1, vl 0), (3, vi 0)] ⟨rfl, rfl, rfl, trivial⟩ ?_
  exact hd_4 _ A o 0 0 (h_o) h

def f_Mo_takenO (A : mA)  : Option (Int × mA) := (if (0 ≤ (A 0 0 33) ∧ (A 0 0 33) < ((200 : Nat) : Int)) then (some ((((A 0 0 33).toNat : Nat) : Int), (mu (mu A 0 0 33 ((A 0 0 33) + 1)) 1 ((A 0 0 33).toNat) 2 0))) else none)
theorem f_x_Mo_takenO_0_1 : mblkB b_Mo_taken_0 [(0, .aload_n 0, vi 0)] = true := by decide +kernel
theorem e_x_Mo_takenO_1 : decode b_Mo_taken_0 1 = .ok (.getfield 81, 3) := by decide +kernel
theorem f_x_Mo_takenO_4_1 : mblkB b_Mo_taken_0 [(4, .aload_n 0, vi 0)] = true := by decide +kernel
theorem e_x_Mo_takenO_5 : decode b_Mo_taken_0 5 = .ok (.getfield 269, 3) := by decide +kernel
theorem e_x_Mo_takenO_8 : decode b_Mo_taken_0 8 = .ok (.aaload, 1) := by decide +kernel
theorem f_x_Mo_takenO_9_3 : mblkB b_Mo_taken_0 [(9, .astore_n 1, vi 0), (10, .aload_n 0, vi 0), (11, .dup, vi 0)] = true := by decide +kernel
theorem e_x_Mo_takenO_12 : decode b_Mo_taken_0 12 = .ok (.getfield 269, 3) := by decide +kernel
theorem f_x_Mo_takenO_15_2 : mblkB b_Mo_taken_0 [(15, .iconst 1, vi 1), (16, .iadd, vi 0)] = true := by decide +kernel
theorem e_x_Mo_takenO_17 : decode b_Mo_taken_0 17 = .ok (.putfield 269, 3) := by decide +kernel
theorem f_x_Mo_takenO_20_2 : mblkB b_Mo_taken_0 [(20, .aload_n 1, vi 0), (21, .iconst 0, vi 0)] = true := by decide +kernel
theorem e_x_Mo_takenO_22 : decode b_Mo_taken_0 22 = .ok (.putfield 272, 3) := by decide +kernel
theorem f_x_Mo_takenO_25_1 : mblkB b_Mo_taken_0 [(25, .aload_n 1, vi 0)] = true := by decide +kernel
theorem e_x_Mo_takenO_26 : decode b_Mo_taken_0 26 = .ok (.areturn, 1) := by decide +kernel
set_option maxHeartbeats 4000000 in
set_option maxRecDepth 20000 in
theorem x_Mo_takenO  : ∀ (l : Launch) (D : va_G) (B : Nat) (H0 : Heap) (ad : mAd) (A : mA)  (hS : mStr D ad) (r9 : Int) (A9 : mA), f_Mo_takenO  A  = some (r9, A9) → mMet l D B H0 ad y_Mo_taken_0 b_Mo_taken_0 2 (some (.object "ChanceStepsModel$Odds")) 0 0 [vr 0 0] A (fun v A' => v = some (vr 1 r9.toNat) ∧ A' = A9 ∧ r9.toNat < 200) := by
  intro l D B H0 ad A   hS r9 A9 h
  refine m_met (by decide) rfl (fun g w0 C Rm Y E => ?_)
  show JM g D ad w0 A 0 [(0, vr 0 0)] []
  unfold f_Mo_takenO at h
  refine m_blk 1 [(0, vr 0 0)] [vr 0 0] C f_x_Mo_takenO_0_1 rfl ?_
  refine m_getr C e_x_Mo_takenO_1 fg_Mo_81 rfl (by decide) rfl ?_
  refine m_blk 5 [(0, vr 0 0)] [vr 0 0, vr 2 0] C f_x_Mo_takenO_4_1 rfl ?_
  refine m_geti C e_x_Mo_takenO_5 fg_Mo_269 rfl (by decide) rfl (A 0 0 33) rfl ?_
  obtain ⟨c1, h⟩ := igd h
  have k2 : (A 0 0 33).toNat < 200 := by omega
  refine m_aald C ((A 0 0 33).toNat) e_x_Mo_takenO_8 rfl rfl rfl (by decide) (by decide) c1.1 c1.2 (mz _ _) ?_
  refine m_blk 12 [(1, vr 1 ((A 0 0 33).toNat)), (0, vr 0 0)] [vr 0 0, vr 0 0] C f_x_Mo_takenO_9_3 rfl ?_
  refine m_geti C e_x_Mo_takenO_12 fg_Mo_269 rfl (by decide) rfl (A 0 0 33) rfl ?_
  refine m_blk 17 [(1, vr 1 ((A 0 0 33).toNat)), (0, vr 0 0)] [vi ((A 0 0 33) + 1), vr 0 0] C f_x_Mo_takenO_15_2 rfl ?_
  refine m_puti C e_x_Mo_takenO_17 fp_Mo_269 rfl (by decide) rfl ?_
  refine m_blk 22 [(1, vr 1 ((A 0 0 33).toNat)), (0, vr 0 0)] [vi 0, vr 1 ((A 0 0 33).toNat)] C f_x_Mo_takenO_20_2 rfl ?_
  refine m_putiN C e_x_Mo_takenO_22 fp_Mo_272 rfl (k2) rfl ?_
  refine m_blk 26 [(1, vr 1 ((A 0 0 33).toNat)), (0, vr 0 0)] [vr 1 ((A 0 0 33).toNat)] C f_x_Mo_takenO_25_1 rfl ?_
  exact m_aret9 C Rm E e_x_Mo_takenO_26 (finR9 h) (k2)

def f_Mo_forget_29 (c_8 : mA → Nat → Int → Nat → Int → Option (Int × mA)) : Nat → mA → Nat → Int → Nat → Int → Int → Int → Option (Int × mA)
  | 0, _, _, _, _, _, _, _ => none
  | n + 1, A, b1, b2, b3, b4, b5, b6 => (if g32 b6 then (if 6 ≤ b6 then (if (0 ≤ b4 ∧ b4 < ((301 : Nat) : Int)) then (Option.bind (f_Odds_come A b3 b5 (A 4 b1 b4.toNat)) (fun q4 => (c_8 q4.2 b1 b2 b3 (b4 + 1)))) else none) else (if (iAnd (iShr b2 b6) 1) = 0 then (Option.bind (f_Mo_with A b5 b6 0) (fun q7 => (f_Mo_forget_29  c_8 n q7.2 b1 b2 b3 b4 q7.1 (b6 + 1)))) else (f_Mo_forget_29  c_8 n A b1 b2 b3 b4 b5 (b6 + 1)))) else none)
def f_Mo_forget_8 : Nat → mA → Nat → Int → Nat → Int → Option (Int × mA)
  | 0, _, _, _, _, _ => none
  | n + 1, A, b1, b2, b3, b4 => (if g32 b4 then if g32 (A 1 b1 2) then (if (A 1 b1 2) ≤ b4 then (some (((b3 : Nat) : Int), A)) else (if (0 ≤ b4 ∧ b4 < ((301 : Nat) : Int)) then (f_Mo_forget_29  (f_Mo_forget_8   n) 310 A b1 b2 b3 b4 (A 3 b1 b4.toNat) 0) else none)) else none else none)
def f_Mo_forget (A : mA) (a0 : Nat) (a1 : Int) : Option (Int × mA) := (Option.bind (f_Mo_takenO A ) (fun q13 => (f_Mo_forget_8  310 q13.2 a0 a1 q13.1.toNat 0)))
theorem f_x_Mo_forget_0_1 : mblkB b_Mo_forget [(0, .aload_n 0, vi 0)] = true := by decide +kernel
theorem e_x_Mo_forget_1 : decode b_Mo_forget 1 = .ok (.invokevirtual 275, 3) := by decide +kernel
theorem f_x_Mo_forget_4_3 : mblkB b_Mo_forget [(4, .astore_n 3, vi 0), (5, .iconst 0, vi 0), (6, .istore 4, vi 0)] = true := by decide +kernel
theorem f_x_Mo_forget_8_2 : mblkB b_Mo_forget [(8, .iload 4, vi 0), (10, .aload_n 1, vi 0)] = true := by decide +kernel
theorem e_x_Mo_forget_11 : decode b_Mo_forget 11 = .ok (.getfield 272, 3) := by decide +kernel
theorem e_x_Mo_forget_14 : decode b_Mo_forget 14 = .ok (.if_icmp .ge 66, 3) := by decide +kernel
theorem f_x_Mo_forget_80_1 : mblkB b_Mo_forget [(80, .aload_n 3, vi 0)] = true := by decide +kernel
theorem e_x_Mo_forget_81 : decode b_Mo_forget 81 = .ok (.areturn, 1) := by decide +kernel
theorem f_x_Mo_forget_17_1 : mblkB b_Mo_forget [(17, .aload_n 1, vi 0)] = true := by decide +kernel
theorem e_x_Mo_forget_18 : decode b_Mo_forget 18 = .ok (.getfield 279, 3) := by decide +kernel
theorem f_x_Mo_forget_21_1 : mblkB b_Mo_forget [(21, .iload 4, vi 0)] = true := by decide +kernel
theorem e_x_Mo_forget_23 : decode b_Mo_forget 23 = .ok (.iaload, 1) := by decide +kernel
theorem f_x_Mo_forget_24_3 : mblkB b_Mo_forget [(24, .istore 5, vi 0), (26, .iconst 0, vi 0), (27, .istore 6, vi 0)] = true := by decide +kernel
theorem f_x_Mo_forget_29_2 : mblkB b_Mo_forget [(29, .iload 6, vi 0), (31, .bipush 6, vi 6)] = true := by decide +kernel
theorem e_x_Mo_forget_33 : decode b_Mo_forget 33 = .ok (.if_icmp .ge 28, 3) := by decide +kernel
theorem f_x_Mo_forget_61_3 : mblkB b_Mo_forget [(61, .aload_n 3, vi 0), (62, .iload 5, vi 0), (64, .aload_n 1, vi 0)] = true := by decide +kernel
theorem e_x_Mo_forget_65 : decode b_Mo_forget 65 = .ok (.getfield 285, 3) := by decide +kernel
theorem f_x_Mo_forget_68_1 : mblkB b_Mo_forget [(68, .iload 4, vi 0)] = true := by decide +kernel
theorem e_x_Mo_forget_70 : decode b_Mo_forget 70 = .ok (.laload, 1) := by decide +kernel
theorem e_x_Mo_forget_71 : decode b_Mo_forget 71 = .ok (.invokevirtual 289, 3) := by decide +kernel
theorem f_x_Mo_forget_74_2 : mblkB b_Mo_forget [(74, .iinc 4 1, vi 1), (77, .goto (-69), vi 8)] = true := by decide +kernel
theorem f_x_Mo_forget_36_5 : mblkB b_Mo_forget [(36, .iload_n 2, vi 0), (37, .iload 6, vi 0), (39, .ishr, vi 0), (40, .iconst 1, vi 1), (41, .iand, vi 0)] = true := by decide +kernel
theorem e_x_Mo_forget_42 : decode b_Mo_forget 42 = .ok (.ifCond .ne 13, 3) := by decide +kernel
theorem f_x_Mo_forget_55_2 : mblkB b_Mo_forget [(55, .iinc 6 1, vi 1), (58, .goto (-29), vi 29)] = true := by decide +kernel
theorem f_x_Mo_forget_45_3 : mblkB b_Mo_forget [(45, .iload 5, vi 0), (47, .iload 6, vi 0), (49, .iconst 0, vi 0)] = true := by decide +kernel
theorem e_x_Mo_forget_50 : decode b_Mo_forget 50 = .ok (.invokestatic 282, 3) := by decide +kernel
theorem f_x_Mo_forget_53_3 : mblkB b_Mo_forget [(53, .istore 5, vi 0), (55, .iinc 6 1, vi 1), (58, .goto (-29), vi 29)] = true := by decide +kernel
set_option maxHeartbeats 4000000 in
set_option maxRecDepth 20000 in
theorem x_Mo_forget  : ∀ (l : Launch) (D : va_G) (B : Nat) (H0 : Heap) (ad : mAd) (A : mA) (a0 : Nat) (a1 : Int) (h_a0 : a0 < 200) (hS : mStr D ad) (r9 : Int) (A9 : mA), f_Mo_forget  A a0 a1 = some (r9, A9) → mMet l D B H0 ad y_Mo_forget b_Mo_forget 7 (some (.object "ChanceStepsModel$Odds")) 3 66 [vr 0 0, vr 1 a0, vi a1] A (fun v A' => v = some (vr 1 r9.toNat) ∧ A' = A9 ∧ r9.toNat < 200) := by
  intro l D B H0 ad A a0 a1 h_a0 hS r9 A9 h
  refine m_met (by decide) rfl (fun g w0 C Rm Y E => ?_)
  have hd_29 : ∀ (c_8 : mA → Nat → Int → Nat → Int → Option (Int × mA)) (hc_8 : ∀ (A : mA) (b1 : Nat) (b2 : Int) (b3 : Nat) (b4 : Int) , b1 < 200 → b3 < 200 → c_8 A b1 b2 b3 b4 = some (r9, A9) → JM g D ad w0 A 8 [(1, vr 1 b1), (2, vi b2), (3, vr 1 b3), (4, vi b4)] []) (n : Nat) (A : mA) (b1 : Nat) (b2 : Int) (b3 : Nat) (b4 : Int) (b5 : Int) (b6 : Int) , b1 < 200 → b3 < 200 → f_Mo_forget_29  c_8 n A b1 b2 b3 b4 b5 b6 = some (r9, A9) → JM g D ad w0 A 29 [(1, vr 1 b1), (2, vi b2), (3, vr 1 b3), (4, vi b4), (5, vi b5), (6, vi b6)] [] := by
    intro c_8 hc_8 n
    induction n with
    | zero => intro A b1 b2 b3 b4 b5 b6 h_b1 h_b3 h; cases h
    | succ n ih =>
      intro A b1 b2 b3 b4 b5 b6 h_b1 h_b3 h
      unfold f_Mo_forget_29 at h
      refine m_blk 33 [(1, vr 1 b1), (2, vi b2), (3, vr 1 b3), (4, vi b4), (5, vi b5), (6, vi b6)] [vi 6, vi b6] C f_x_Mo_forget_29_2 rfl ?_
      obtain ⟨c1, h⟩ := igd h
      refine m_icmp_ge (tgt := 61) C e_x_Mo_forget_33 (by decide) c1 (by decide) (fun c2 => ?_) (fun c2 => ?_)
      · have h := ifp c2 h
        refine m_blk 65 [(1, vr 1 b1), (2, vi b2), (3, vr 1 b3), (4, vi b4), (5, vi b5), (6, vi b6)] [vr 1 b1, vi b5, vr 1 b3] C f_x_Mo_forget_61_3 rfl ?_
        refine m_getrN C e_x_Mo_forget_65 fg_Mo_285 rfl (h_b1) rfl ?_
        refine m_blk 70 [(1, vr 1 b1), (2, vi b2), (3, vr 1 b3), (4, vi b4), (5, vi b5), (6, vi b6)] [vi b4, vr 4 b1, vi b5, vr 1 b3] C f_x_Mo_forget_68_1 rfl ?_
        obtain ⟨c3, h⟩ := igd h
        refine m_lald C e_x_Mo_forget_70 rfl (h_b1) (by decide) c3.1 c3.2 (A 4 b1 b4.toNat) rfl ?_
        obtain ⟨q4, e5, h⟩ := obd h
        refine m_callV C Rm Y [vi b5, vl (A 4 b1 b4.toNat)] [] (x_Odds_come l D B H0 ad _ b3 b5 (A 4 b1 b4.toNat) (h_b3) hS _ _ e5) cl_Mo_289 rfl (h_b3) rfl rfl e_x_Mo_forget_71 rfl rfl rfl ⟨by decide, by decide⟩ ?_
        rintro _ _ ⟨rfl, rfl⟩
        show JM g D ad w0 q4.2 74 [(1, vr 1 b1), (2, vi b2), (3, vr 1 b3), (4, vi b4), (5, vi b5), (6, vi b6)] []
        refine m_blk 8 [(4, vi (b4 + 1)), (1, vr 1 b1), (2, vi b2), (3, vr 1 b3), (5, vi b5), (6, vi b6)] [] C f_x_Mo_forget_74_2 rfl ?_
        refine m_loc [(1, vr 1 b1), (2, vi b2), (3, vr 1 b3), (4, vi (b4 + 1))] ⟨rfl, rfl, rfl, rfl, trivial⟩ ?_
        exact hc_8 q4.2 b1 b2 b3 (b4 + 1) (h_b1) (h_b3) h
      · have h := ifn c2 h
        refine m_blk 42 [(1, vr 1 b1), (2, vi b2), (3, vr 1 b3), (4, vi b4), (5, vi b5), (6, vi b6)] [vi (iAnd (iShr b2 b6) 1)] C f_x_Mo_forget_36_5 rfl ?_
        refine m_if_ne (tgt := 55) C e_x_Mo_forget_42 (by decide) (iAnd_r _ _) (fun c6 => ?_) (fun c6 => ?_)
        · have h := ifn c6 h
          refine m_blk 29 [(6, vi (b6 + 1)), (1, vr 1 b1), (2, vi b2), (3, vr 1 b3), (4, vi b4), (5, vi b5)] [] C f_x_Mo_forget_55_2 rfl ?_
          refine m_loc [(1, vr 1 b1), (2, vi b2), (3, vr 1 b3), (4, vi b4), (5, vi b5), (6, vi (b6 + 1))] ⟨rfl, rfl, rfl, rfl, rfl, rfl, trivial⟩ ?_
          exact ih A b1 b2 b3 b4 b5 (b6 + 1) (h_b1) (h_b3) h
        · have h := ifp c6 h
          refine m_blk 50 [(1, vr 1 b1), (2, vi b2), (3, vr 1 b3), (4, vi b4), (5, vi b5), (6, vi b6)] [vi 0, vi b6, vi b5] C f_x_Mo_forget_45_3 rfl ?_
          obtain ⟨q7, e8, h⟩ := obd h
          refine m_callS C Rm Y [vi b5, vi b6, vi 0] [] (x_Mo_with l D B H0 ad _ b5 b6 0 hS _ _ e8) cl_Mo_282 e_x_Mo_forget_50 rfl rfl rfl ⟨by decide, by decide⟩ ?_
          rintro _ _ ⟨rfl, rfl⟩
          show JM g D ad w0 q7.2 53 [(1, vr 1 b1), (2, vi b2), (3, vr 1 b3), (4, vi b4), (5, vi b5), (6, vi b6)] [vi q7.1]
          refine m_blk 29 [(6, vi (b6 + 1)), (5, vi q7.1), (1, vr 1 b1), (2, vi b2), (3, vr 1 b3), (4, vi b4)] [] C f_x_Mo_forget_53_3 rfl ?_
          refine m_loc [(1, vr 1 b1), (2, vi b2), (3, vr 1 b3), (4, vi b4), (5, vi q7.1), (6, vi (b6 + 1))] ⟨rfl, rfl, rfl, rfl, rfl, rfl, trivial⟩ ?_
          exact ih q7.2 b1 b2 b3 b4 q7.1 (b6 + 1) (h_b1) (h_b3) h
  have hd_8 : ∀ (n : Nat) (A : mA) (b1 : Nat) (b2 : Int) (b3 : Nat) (b4 : Int) , b1 < 200 → b3 < 200 → f_Mo_forget_8   n A b1 b2 b3 b4 = some (r9, A9) → JM g D ad w0 A 8 [(1, vr 1 b1), (2, vi b2), (3, vr 1 b3), (4, vi b4)] [] := by
    intro  n
    induction n with
    | zero => intro A b1 b2 b3 b4 h_b1 h_b3 h; cases h
    | succ n ih =>
      intro A b1 b2 b3 b4 h_b1 h_b3 h
      unfold f_Mo_forget_8 at h
      refine m_blk 11 [(1, vr 1 b1), (2, vi b2), (3, vr 1 b3), (4, vi b4)] [vr 1 b1, vi b4] C f_x_Mo_forget_8_2 rfl ?_
      refine m_getiN C e_x_Mo_forget_11 fg_Mo_272 rfl (h_b1) rfl (A 1 b1 2) rfl ?_
      obtain ⟨c9, h⟩ := igd h
      obtain ⟨c10, h⟩ := igd h
      refine m_icmp_ge (tgt := 80) C e_x_Mo_forget_14 (by decide) c9 c10 (fun c11 => ?_) (fun c11 => ?_)
      · have h := ifp c11 h
        refine m_blk 81 [(1, vr 1 b1), (2, vi b2), (3, vr 1 b3), (4, vi b4)] [vr 1 b3] C f_x_Mo_forget_80_1 rfl ?_
        exact m_aret9 C Rm E e_x_Mo_forget_81 (finR9 h) (h_b3)
      · have h := ifn c11 h
        refine m_blk 18 [(1, vr 1 b1), (2, vi b2), (3, vr 1 b3), (4, vi b4)] [vr 1 b1] C f_x_Mo_forget_17_1 rfl ?_
        refine m_getrN C e_x_Mo_forget_18 fg_Mo_279 rfl (h_b1) rfl ?_
        refine m_blk 23 [(1, vr 1 b1), (2, vi b2), (3, vr 1 b3), (4, vi b4)] [vi b4, vr 3 b1] C f_x_Mo_forget_21_1 rfl ?_
        obtain ⟨c12, h⟩ := igd h
        refine m_iald C e_x_Mo_forget_23 rfl (h_b1) (by decide) c12.1 c12.2 (A 3 b1 b4.toNat) rfl ?_
        refine m_blk 29 [(6, vi 0), (5, vi (A 3 b1 b4.toNat)), (1, vr 1 b1), (2, vi b2), (3, vr 1 b3), (4, vi b4)] [] C f_x_Mo_forget_24_3 rfl ?_
        refine m_loc [(1, vr 1 b1), (2, vi b2), (3, vr 1 b3), (4, vi b4), (5, vi (A 3 b1 b4.toNat)), (6, vi 0)] ⟨rfl, rfl, rfl, rfl, rfl, rfl, trivial⟩ ?_
        exact hd_29 (f_Mo_forget_8   n) ih _ A b1 b2 b3 b4 (A 3 b1 b4.toNat) 0 (h_b1) (h_b3) h
  show JM g D ad w0 A 0 [(0, vr 0 0), (1, vr 1 a0), (2, vi a1)] []
  unfold f_Mo_forget at h
  refine m_blk 1 [(0, vr 0 0), (1, vr 1 a0), (2, vi a1)] [vr 0 0] C f_x_Mo_forget_0_1 rfl ?_
  obtain ⟨q13, e14, h⟩ := obd h
  refine m_callV C Rm Y [] [] (x_Mo_takenO l D B H0 ad _  hS _ _ e14) cl_Mo_275 rfl (by decide) rfl rfl e_x_Mo_forget_1 rfl rfl rfl ⟨by decide, by decide⟩ ?_
  rintro _ _ ⟨rfl, rfl, g15⟩
  show JM g D ad w0 q13.2 4 [(0, vr 0 0), (1, vr 1 a0), (2, vi a1)] [vr 1 q13.1.toNat]
  refine m_blk 8 [(4, vi 0), (3, vr 1 q13.1.toNat), (0, vr 0 0), (1, vr 1 a0), (2, vi a1)] [] C f_x_Mo_forget_4_3 rfl ?_
  refine m_loc [(1, vr 1 a0), (2, vi a1), (3, vr 1 q13.1.toNat), (4, vi 0)] ⟨rfl, rfl, rfl, rfl, trivial⟩ ?_
  exact hd_8 _ q13.2 a0 a1 q13.1.toNat 0 (h_a0) (g15) h

def f_Mo_draw_36 (c_17 : mA → Int → Int → Nat → Nat → Int → Int → Option (Int × mA)) : Nat → mA → Int → Int → Nat → Nat → Int → Int → Int → Option (Int × mA)
  | 0, _, _, _, _, _, _, _, _ => none
  | n + 1, A, b1, b2, b3, b4, b5, b6, b7 => (if (0 ≤ b1 ∧ b1 < ((6 : Nat) : Int)) then (if (0 ≤ b2 ∧ b2 < ((16 : Nat) : Int)) then (if g32 b7 then if g32 ((A 40 b1.toNat b2.toNat) + (A 36 b1.toNat b2.toNat)) then (if ((A 40 b1.toNat b2.toNat) + (A 36 b1.toNat b2.toNat)) ≤ b7 then (c_17 A b1 b2 b3 b4 b5 (b6 + 1)) else (if (0 ≤ b6 ∧ b6 < ((301 : Nat) : Int)) then (if (0 ≤ b7 ∧ b7 < ((120 : Nat) : Int)) then (Option.bind (f_Mo_with A (A 3 b3 b6.toNat) (A 35 b1.toNat b2.toNat) (A 41 b1.toNat b7.toNat)) (fun q12 => (if g32 b5 then (if g64 (q12.2 4 b3 b6.toNat) then (if g64 b5 then (if b5 ≠ 0 then (if g32 (q12.2 42 b1.toNat b7.toNat) then (Option.bind (f_Odds_come q12.2 b4 q12.1 ((Int.tdiv (q12.2 4 b3 b6.toNat) b5) * (q12.2 42 b1.toNat b7.toNat))) (fun q20 => (f_Mo_draw_36  c_17 n q20.2 b1 b2 b3 b4 b5 b6 (b7 + 1)))) else none) else none) else none) else none) else none))) else none) else none)) else none else none) else none) else none)
def f_Mo_draw_17 : Nat → mA → Int → Int → Nat → Nat → Int → Int → Option (Int × mA)
  | 0, _, _, _, _, _, _, _ => none
  | n + 1, A, b1, b2, b3, b4, b5, b6 => (if g32 b6 then if g32 (A 1 b3 2) then (if (A 1 b3 2) ≤ b6 then (some (((b4 : Nat) : Int), A)) else (if (0 ≤ b1 ∧ b1 < ((6 : Nat) : Int)) then (if (0 ≤ b2 ∧ b2 < ((16 : Nat) : Int)) then (f_Mo_draw_36  (f_Mo_draw_17   n) 310 A b1 b2 b3 b4 b5 b6 (A 40 b1.toNat b2.toNat)) else none) else none)) else none else none)
def f_Mo_draw (A : mA) (a0 : Int) (a1 : Int) (a2 : Nat) : Option (Int × mA) := (Option.bind (f_Mo_takenO A ) (fun q28 => (Option.bind (f_Mo_lotsAll q28.2 a0 a1) (fun q31 => (f_Mo_draw_17  310 q31.2 a0 a1 a2 q28.1.toNat q31.1 0)))))
theorem f_x_Mo_draw_0_1 : mblkB b_Mo_draw [(0, .aload_n 0, vi 0)] = true := by decide +kernel
theorem e_x_Mo_draw_1 : decode b_Mo_draw 1 = .ok (.invokevirtual 275, 3) := by decide +kernel
theorem f_x_Mo_draw_4_4 : mblkB b_Mo_draw [(4, .astore 4, vi 0), (6, .aload_n 0, vi 0), (7, .iload_n 1, vi 0), (8, .iload_n 2, vi 0)] = true := by decide +kernel
theorem e_x_Mo_draw_9 : decode b_Mo_draw 9 = .ok (.invokevirtual 232, 3) := by decide +kernel
theorem f_x_Mo_draw_12_3 : mblkB b_Mo_draw [(12, .istore 5, vi 0), (14, .iconst 0, vi 0), (15, .istore 6, vi 0)] = true := by decide +kernel
theorem f_x_Mo_draw_17_2 : mblkB b_Mo_draw [(17, .iload 6, vi 0), (19, .aload_n 3, vi 0)] = true := by decide +kernel
theorem e_x_Mo_draw_20 : decode b_Mo_draw 20 = .ok (.getfield 272, 3) := by decide +kernel
theorem e_x_Mo_draw_23 : decode b_Mo_draw 23 = .ok (.if_icmp .ge 101, 3) := by decide +kernel
theorem f_x_Mo_draw_124_1 : mblkB b_Mo_draw [(124, .aload 4, vi 0)] = true := by decide +kernel
theorem e_x_Mo_draw_126 : decode b_Mo_draw 126 = .ok (.areturn, 1) := by decide +kernel
theorem f_x_Mo_draw_26_1 : mblkB b_Mo_draw [(26, .aload_n 0, vi 0)] = true := by decide +kernel
theorem e_x_Mo_draw_27 : decode b_Mo_draw 27 = .ok (.getfield 39, 3) := by decide +kernel
theorem f_x_Mo_draw_30_1 : mblkB b_Mo_draw [(30, .iload_n 1, vi 0)] = true := by decide +kernel
theorem e_x_Mo_draw_31 : decode b_Mo_draw 31 = .ok (.aaload, 1) := by decide +kernel
theorem f_x_Mo_draw_32_1 : mblkB b_Mo_draw [(32, .iload_n 2, vi 0)] = true := by decide +kernel
theorem e_x_Mo_draw_33 : decode b_Mo_draw 33 = .ok (.iaload, 1) := by decide +kernel
theorem f_x_Mo_draw_34_1 : mblkB b_Mo_draw [(34, .istore 7, vi 0)] = true := by decide +kernel
theorem f_x_Mo_draw_36_2 : mblkB b_Mo_draw [(36, .iload 7, vi 0), (38, .aload_n 0, vi 0)] = true := by decide +kernel
theorem e_x_Mo_draw_39 : decode b_Mo_draw 39 = .ok (.getfield 39, 3) := by decide +kernel
theorem f_x_Mo_draw_42_1 : mblkB b_Mo_draw [(42, .iload_n 1, vi 0)] = true := by decide +kernel
theorem e_x_Mo_draw_43 : decode b_Mo_draw 43 = .ok (.aaload, 1) := by decide +kernel
theorem f_x_Mo_draw_44_1 : mblkB b_Mo_draw [(44, .iload_n 2, vi 0)] = true := by decide +kernel
theorem e_x_Mo_draw_45 : decode b_Mo_draw 45 = .ok (.iaload, 1) := by decide +kernel
theorem f_x_Mo_draw_46_1 : mblkB b_Mo_draw [(46, .aload_n 0, vi 0)] = true := by decide +kernel
theorem e_x_Mo_draw_47 : decode b_Mo_draw 47 = .ok (.getfield 27, 3) := by decide +kernel
theorem f_x_Mo_draw_50_1 : mblkB b_Mo_draw [(50, .iload_n 1, vi 0)] = true := by decide +kernel
theorem e_x_Mo_draw_51 : decode b_Mo_draw 51 = .ok (.aaload, 1) := by decide +kernel
theorem f_x_Mo_draw_52_1 : mblkB b_Mo_draw [(52, .iload_n 2, vi 0)] = true := by decide +kernel
theorem e_x_Mo_draw_53 : decode b_Mo_draw 53 = .ok (.iaload, 1) := by decide +kernel
theorem f_x_Mo_draw_54_1 : mblkB b_Mo_draw [(54, .iadd, vi 0)] = true := by decide +kernel
theorem e_x_Mo_draw_55 : decode b_Mo_draw 55 = .ok (.if_icmp .ge 63, 3) := by decide +kernel
theorem f_x_Mo_draw_118_2 : mblkB b_Mo_draw [(118, .iinc 6 1, vi 1), (121, .goto (-104), vi 17)] = true := by decide +kernel
theorem f_x_Mo_draw_58_2 : mblkB b_Mo_draw [(58, .aload 4, vi 0), (60, .aload_n 3, vi 0)] = true := by decide +kernel
theorem e_x_Mo_draw_61 : decode b_Mo_draw 61 = .ok (.getfield 279, 3) := by decide +kernel
theorem f_x_Mo_draw_64_1 : mblkB b_Mo_draw [(64, .iload 6, vi 0)] = true := by decide +kernel
theorem e_x_Mo_draw_66 : decode b_Mo_draw 66 = .ok (.iaload, 1) := by decide +kernel
theorem f_x_Mo_draw_67_1 : mblkB b_Mo_draw [(67, .aload_n 0, vi 0)] = true := by decide +kernel
theorem e_x_Mo_draw_68 : decode b_Mo_draw 68 = .ok (.getfield 24, 3) := by decide +kernel
theorem f_x_Mo_draw_71_1 : mblkB b_Mo_draw [(71, .iload_n 1, vi 0)] = true := by decide +kernel
theorem e_x_Mo_draw_72 : decode b_Mo_draw 72 = .ok (.aaload, 1) := by decide +kernel
theorem f_x_Mo_draw_73_1 : mblkB b_Mo_draw [(73, .iload_n 2, vi 0)] = true := by decide +kernel
theorem e_x_Mo_draw_74 : decode b_Mo_draw 74 = .ok (.iaload, 1) := by decide +kernel
theorem f_x_Mo_draw_75_1 : mblkB b_Mo_draw [(75, .aload_n 0, vi 0)] = true := by decide +kernel
theorem e_x_Mo_draw_76 : decode b_Mo_draw 76 = .ok (.getfield 42, 3) := by decide +kernel
theorem f_x_Mo_draw_79_1 : mblkB b_Mo_draw [(79, .iload_n 1, vi 0)] = true := by decide +kernel
theorem e_x_Mo_draw_80 : decode b_Mo_draw 80 = .ok (.aaload, 1) := by decide +kernel
theorem f_x_Mo_draw_81_1 : mblkB b_Mo_draw [(81, .iload 7, vi 0)] = true := by decide +kernel
theorem e_x_Mo_draw_83 : decode b_Mo_draw 83 = .ok (.iaload, 1) := by decide +kernel
theorem e_x_Mo_draw_84 : decode b_Mo_draw 84 = .ok (.invokestatic 282, 3) := by decide +kernel
theorem f_x_Mo_draw_87_1 : mblkB b_Mo_draw [(87, .aload_n 3, vi 0)] = true := by decide +kernel
theorem e_x_Mo_draw_88 : decode b_Mo_draw 88 = .ok (.getfield 285, 3) := by decide +kernel
theorem f_x_Mo_draw_91_1 : mblkB b_Mo_draw [(91, .iload 6, vi 0)] = true := by decide +kernel
theorem e_x_Mo_draw_93 : decode b_Mo_draw 93 = .ok (.laload, 1) := by decide +kernel
theorem f_x_Mo_draw_94_1 : mblkB b_Mo_draw [(94, .iload 5, vi 0)] = true := by decide +kernel
theorem e_x_Mo_draw_96 : decode b_Mo_draw 96 = .ok (.i2l, 1) := by decide +kernel
theorem e_x_Mo_draw_97 : decode b_Mo_draw 97 = .ok (.ldiv, 1) := by decide +kernel
theorem f_x_Mo_draw_98_1 : mblkB b_Mo_draw [(98, .aload_n 0, vi 0)] = true := by decide +kernel
theorem e_x_Mo_draw_99 : decode b_Mo_draw 99 = .ok (.getfield 45, 3) := by decide +kernel
theorem f_x_Mo_draw_102_1 : mblkB b_Mo_draw [(102, .iload_n 1, vi 0)] = true := by decide +kernel
theorem e_x_Mo_draw_103 : decode b_Mo_draw 103 = .ok (.aaload, 1) := by decide +kernel
theorem f_x_Mo_draw_104_1 : mblkB b_Mo_draw [(104, .iload 7, vi 0)] = true := by decide +kernel
theorem e_x_Mo_draw_106 : decode b_Mo_draw 106 = .ok (.iaload, 1) := by decide +kernel
theorem e_x_Mo_draw_107 : decode b_Mo_draw 107 = .ok (.i2l, 1) := by decide +kernel
theorem f_x_Mo_draw_108_1 : mblkB b_Mo_draw [(108, .lmul, vi 0)] = true := by decide +kernel
theorem e_x_Mo_draw_109 : decode b_Mo_draw 109 = .ok (.invokevirtual 289, 3) := by decide +kernel
theorem f_x_Mo_draw_112_2 : mblkB b_Mo_draw [(112, .iinc 7 1, vi 1), (115, .goto (-79), vi 36)] = true := by decide +kernel
set_option maxHeartbeats 4000000 in
set_option maxRecDepth 20000 in
theorem x_Mo_draw  : ∀ (l : Launch) (D : va_G) (B : Nat) (H0 : Heap) (ad : mAd) (A : mA) (a0 : Int) (a1 : Int) (a2 : Nat) (h_a2 : a2 < 200) (hS : mStr D ad) (r9 : Int) (A9 : mA), f_Mo_draw  A a0 a1 a2 = some (r9, A9) → mMet l D B H0 ad y_Mo_draw b_Mo_draw 8 (some (.object "ChanceStepsModel$Odds")) 3 66 [vr 0 0, vi a0, vi a1, vr 1 a2] A (fun v A' => v = some (vr 1 r9.toNat) ∧ A' = A9 ∧ r9.toNat < 200) := by
  intro l D B H0 ad A a0 a1 a2 h_a2 hS r9 A9 h
  refine m_met (by decide) rfl (fun g w0 C Rm Y E => ?_)
  have hd_36 : ∀ (c_17 : mA → Int → Int → Nat → Nat → Int → Int → Option (Int × mA)) (hc_17 : ∀ (A : mA) (b1 : Int) (b2 : Int) (b3 : Nat) (b4 : Nat) (b5 : Int) (b6 : Int) , b3 < 200 → b4 < 200 → c_17 A b1 b2 b3 b4 b5 b6 = some (r9, A9) → JM g D ad w0 A 17 [(0, vr 0 0), (1, vi b1), (2, vi b2), (3, vr 1 b3), (4, vr 1 b4), (5, vi b5), (6, vi b6)] []) (n : Nat) (A : mA) (b1 : Int) (b2 : Int) (b3 : Nat) (b4 : Nat) (b5 : Int) (b6 : Int) (b7 : Int) , b3 < 200 → b4 < 200 → f_Mo_draw_36  c_17 n A b1 b2 b3 b4 b5 b6 b7 = some (r9, A9) → JM g D ad w0 A 36 [(0, vr 0 0), (1, vi b1), (2, vi b2), (3, vr 1 b3), (4, vr 1 b4), (5, vi b5), (6, vi b6), (7, vi b7)] [] := by
    intro c_17 hc_17 n
    induction n with
    | zero => intro A b1 b2 b3 b4 b5 b6 b7 h_b3 h_b4 h; cases h
    | succ n ih =>
      intro A b1 b2 b3 b4 b5 b6 b7 h_b3 h_b4 h
      unfold f_Mo_draw_36 at h
      refine m_blk 39 [(0, vr 0 0), (1, vi b1), (2, vi b2), (3, vr 1 b3), (4, vr 1 b4), (5, vi b5), (6, vi b6), (7, vi b7)] [vr 0 0, vi b7] C f_x_Mo_draw_36_2 rfl ?_
      refine m_getr C e_x_Mo_draw_39 fg_Mo_39 rfl (by decide) rfl ?_
      refine m_blk 43 [(0, vr 0 0), (1, vi b1), (2, vi b2), (3, vr 1 b3), (4, vr 1 b4), (5, vi b5), (6, vi b6), (7, vi b7)] [vi b1, vr 20 0, vi b7] C f_x_Mo_draw_42_1 rfl ?_
      obtain ⟨c1, h⟩ := igd h
      have k2 : b1.toNat < 6 := by omega
      refine m_aald C b1.toNat e_x_Mo_draw_43 rfl rfl rfl (by decide) (by decide) c1.1 c1.2 (mz _ _) ?_
      refine m_blk 45 [(0, vr 0 0), (1, vi b1), (2, vi b2), (3, vr 1 b3), (4, vr 1 b4), (5, vi b5), (6, vi b6), (7, vi b7)] [vi b2, vr 40 b1.toNat, vi b7] C f_x_Mo_draw_44_1 rfl ?_
      obtain ⟨c3, h⟩ := igd h
      refine m_iald C e_x_Mo_draw_45 rfl (k2) (by decide) c3.1 c3.2 (A 40 b1.toNat b2.toNat) rfl ?_
      refine m_blk 47 [(0, vr 0 0), (1, vi b1), (2, vi b2), (3, vr 1 b3), (4, vr 1 b4), (5, vi b5), (6, vi b6), (7, vi b7)] [vr 0 0, vi (A 40 b1.toNat b2.toNat), vi b7] C f_x_Mo_draw_46_1 rfl ?_
      refine m_getr C e_x_Mo_draw_47 fg_Mo_27 rfl (by decide) rfl ?_
      refine m_blk 51 [(0, vr 0 0), (1, vi b1), (2, vi b2), (3, vr 1 b3), (4, vr 1 b4), (5, vi b5), (6, vi b6), (7, vi b7)] [vi b1, vr 16 0, vi (A 40 b1.toNat b2.toNat), vi b7] C f_x_Mo_draw_50_1 rfl ?_
      have k4 : b1.toNat < 6 := by omega
      refine m_aald C b1.toNat e_x_Mo_draw_51 rfl rfl rfl (by decide) (by decide) c1.1 c1.2 (mz _ _) ?_
      refine m_blk 53 [(0, vr 0 0), (1, vi b1), (2, vi b2), (3, vr 1 b3), (4, vr 1 b4), (5, vi b5), (6, vi b6), (7, vi b7)] [vi b2, vr 36 b1.toNat, vi (A 40 b1.toNat b2.toNat), vi b7] C f_x_Mo_draw_52_1 rfl ?_
      refine m_iald C e_x_Mo_draw_53 rfl (k4) (by decide) c3.1 c3.2 (A 36 b1.toNat b2.toNat) rfl ?_
      refine m_blk 55 [(0, vr 0 0), (1, vi b1), (2, vi b2), (3, vr 1 b3), (4, vr 1 b4), (5, vi b5), (6, vi b6), (7, vi b7)] [vi ((A 40 b1.toNat b2.toNat) + (A 36 b1.toNat b2.toNat)), vi b7] C f_x_Mo_draw_54_1 rfl ?_
      obtain ⟨c5, h⟩ := igd h
      obtain ⟨c6, h⟩ := igd h
      refine m_icmp_ge (tgt := 118) C e_x_Mo_draw_55 (by decide) c5 c6 (fun c7 => ?_) (fun c7 => ?_)
      · have h := ifp c7 h
        refine m_blk 17 [(6, vi (b6 + 1)), (0, vr 0 0), (1, vi b1), (2, vi b2), (3, vr 1 b3), (4, vr 1 b4), (5, vi b5), (7, vi b7)] [] C f_x_Mo_draw_118_2 rfl ?_
        refine m_loc [(0, vr 0 0), (1, vi b1), (2, vi b2), (3, vr 1 b3), (4, vr 1 b4), (5, vi b5), (6, vi (b6 + 1))] ⟨rfl, rfl, rfl, rfl, rfl, rfl, rfl, trivial⟩ ?_
        exact hc_17 A b1 b2 b3 b4 b5 (b6 + 1) (h_b3) (h_b4) h
      · have h := ifn c7 h
        refine m_blk 61 [(0, vr 0 0), (1, vi b1), (2, vi b2), (3, vr 1 b3), (4, vr 1 b4), (5, vi b5), (6, vi b6), (7, vi b7)] [vr 1 b3, vr 1 b4] C f_x_Mo_draw_58_2 rfl ?_
        refine m_getrN C e_x_Mo_draw_61 fg_Mo_279 rfl (h_b3) rfl ?_
        refine m_blk 66 [(0, vr 0 0), (1, vi b1), (2, vi b2), (3, vr 1 b3), (4, vr 1 b4), (5, vi b5), (6, vi b6), (7, vi b7)] [vi b6, vr 3 b3, vr 1 b4] C f_x_Mo_draw_64_1 rfl ?_
        obtain ⟨c8, h⟩ := igd h
        refine m_iald C e_x_Mo_draw_66 rfl (h_b3) (by decide) c8.1 c8.2 (A 3 b3 b6.toNat) rfl ?_
        refine m_blk 68 [(0, vr 0 0), (1, vi b1), (2, vi b2), (3, vr 1 b3), (4, vr 1 b4), (5, vi b5), (6, vi b6), (7, vi b7)] [vr 0 0, vi (A 3 b3 b6.toNat), vr 1 b4] C f_x_Mo_draw_67_1 rfl ?_
        refine m_getr C e_x_Mo_draw_68 fg_Mo_24 rfl (by decide) rfl ?_
        refine m_blk 72 [(0, vr 0 0), (1, vi b1), (2, vi b2), (3, vr 1 b3), (4, vr 1 b4), (5, vi b5), (6, vi b6), (7, vi b7)] [vi b1, vr 15 0, vi (A 3 b3 b6.toNat), vr 1 b4] C f_x_Mo_draw_71_1 rfl ?_
        have k9 : b1.toNat < 6 := by omega
        refine m_aald C b1.toNat e_x_Mo_draw_72 rfl rfl rfl (by decide) (by decide) c1.1 c1.2 (mz _ _) ?_
        refine m_blk 74 [(0, vr 0 0), (1, vi b1), (2, vi b2), (3, vr 1 b3), (4, vr 1 b4), (5, vi b5), (6, vi b6), (7, vi b7)] [vi b2, vr 35 b1.toNat, vi (A 3 b3 b6.toNat), vr 1 b4] C f_x_Mo_draw_73_1 rfl ?_
        refine m_iald C e_x_Mo_draw_74 rfl (k9) (by decide) c3.1 c3.2 (A 35 b1.toNat b2.toNat) rfl ?_
        refine m_blk 76 [(0, vr 0 0), (1, vi b1), (2, vi b2), (3, vr 1 b3), (4, vr 1 b4), (5, vi b5), (6, vi b6), (7, vi b7)] [vr 0 0, vi (A 35 b1.toNat b2.toNat), vi (A 3 b3 b6.toNat), vr 1 b4] C f_x_Mo_draw_75_1 rfl ?_
        refine m_getr C e_x_Mo_draw_76 fg_Mo_42 rfl (by decide) rfl ?_
        refine m_blk 80 [(0, vr 0 0), (1, vi b1), (2, vi b2), (3, vr 1 b3), (4, vr 1 b4), (5, vi b5), (6, vi b6), (7, vi b7)] [vi b1, vr 21 0, vi (A 35 b1.toNat b2.toNat), vi (A 3 b3 b6.toNat), vr 1 b4] C f_x_Mo_draw_79_1 rfl ?_
        have k10 : b1.toNat < 6 := by omega
        refine m_aald C b1.toNat e_x_Mo_draw_80 rfl rfl rfl (by decide) (by decide) c1.1 c1.2 (mz _ _) ?_
        refine m_blk 83 [(0, vr 0 0), (1, vi b1), (2, vi b2), (3, vr 1 b3), (4, vr 1 b4), (5, vi b5), (6, vi b6), (7, vi b7)] [vi b7, vr 41 b1.toNat, vi (A 35 b1.toNat b2.toNat), vi (A 3 b3 b6.toNat), vr 1 b4] C f_x_Mo_draw_81_1 rfl ?_
        obtain ⟨c11, h⟩ := igd h
        refine m_iald C e_x_Mo_draw_83 rfl (k10) (by decide) c11.1 c11.2 (A 41 b1.toNat b7.toNat) rfl ?_
        obtain ⟨q12, e13, h⟩ := obd h
        refine m_callS C Rm Y [vi (A 3 b3 b6.toNat), vi (A 35 b1.toNat b2.toNat), vi (A 41 b1.toNat b7.toNat)] [vr 1 b4] (x_Mo_with l D B H0 ad _ (A 3 b3 b6.toNat) (A 35 b1.toNat b2.toNat) (A 41 b1.toNat b7.toNat) hS _ _ e13) cl_Mo_282 e_x_Mo_draw_84 rfl rfl rfl ⟨by decide, by decide⟩ ?_
        rintro _ _ ⟨rfl, rfl⟩
        show JM g D ad w0 q12.2 87 [(0, vr 0 0), (1, vi b1), (2, vi b2), (3, vr 1 b3), (4, vr 1 b4), (5, vi b5), (6, vi b6), (7, vi b7)] [vi q12.1, vr 1 b4]
        refine m_blk 88 [(0, vr 0 0), (1, vi b1), (2, vi b2), (3, vr 1 b3), (4, vr 1 b4), (5, vi b5), (6, vi b6), (7, vi b7)] [vr 1 b3, vi q12.1, vr 1 b4] C f_x_Mo_draw_87_1 rfl ?_
        refine m_getrN C e_x_Mo_draw_88 fg_Mo_285 rfl (h_b3) rfl ?_
        refine m_blk 93 [(0, vr 0 0), (1, vi b1), (2, vi b2), (3, vr 1 b3), (4, vr 1 b4), (5, vi b5), (6, vi b6), (7, vi b7)] [vi b6, vr 4 b3, vi q12.1, vr 1 b4] C f_x_Mo_draw_91_1 rfl ?_
        refine m_lald C e_x_Mo_draw_93 rfl (h_b3) (by decide) c8.1 c8.2 (q12.2 4 b3 b6.toNat) rfl ?_
        refine m_blk 96 [(0, vr 0 0), (1, vi b1), (2, vi b2), (3, vr 1 b3), (4, vr 1 b4), (5, vi b5), (6, vi b6), (7, vi b7)] [vi b5, vl (q12.2 4 b3 b6.toNat), vi q12.1, vr 1 b4] C f_x_Mo_draw_94_1 rfl ?_
        obtain ⟨c14, h⟩ := igd h
        refine m_i2l C e_x_Mo_draw_96 c14 ?_
        obtain ⟨c15, h⟩ := igd h
        obtain ⟨c16, h⟩ := igd h
        obtain ⟨c17, h⟩ := igd h
        refine m_ldiv C e_x_Mo_draw_97 c15 c16 c17 ?_
        refine m_blk 99 [(0, vr 0 0), (1, vi b1), (2, vi b2), (3, vr 1 b3), (4, vr 1 b4), (5, vi b5), (6, vi b6), (7, vi b7)] [vr 0 0, vl (Int.tdiv (q12.2 4 b3 b6.toNat) b5), vi q12.1, vr 1 b4] C f_x_Mo_draw_98_1 rfl ?_
        refine m_getr C e_x_Mo_draw_99 fg_Mo_45 rfl (by decide) rfl ?_
        refine m_blk 103 [(0, vr 0 0), (1, vi b1), (2, vi b2), (3, vr 1 b3), (4, vr 1 b4), (5, vi b5), (6, vi b6), (7, vi b7)] [vi b1, vr 22 0, vl (Int.tdiv (q12.2 4 b3 b6.toNat) b5), vi q12.1, vr 1 b4] C f_x_Mo_draw_102_1 rfl ?_
        have k18 : b1.toNat < 6 := by omega
        refine m_aald C b1.toNat e_x_Mo_draw_103 rfl rfl rfl (by decide) (by decide) c1.1 c1.2 (mz _ _) ?_
        refine m_blk 106 [(0, vr 0 0), (1, vi b1), (2, vi b2), (3, vr 1 b3), (4, vr 1 b4), (5, vi b5), (6, vi b6), (7, vi b7)] [vi b7, vr 42 b1.toNat, vl (Int.tdiv (q12.2 4 b3 b6.toNat) b5), vi q12.1, vr 1 b4] C f_x_Mo_draw_104_1 rfl ?_
        refine m_iald C e_x_Mo_draw_106 rfl (k18) (by decide) c11.1 c11.2 (q12.2 42 b1.toNat b7.toNat) rfl ?_
        obtain ⟨c19, h⟩ := igd h
        refine m_i2l C e_x_Mo_draw_107 c19 ?_
        refine m_blk 109 [(0, vr 0 0), (1, vi b1), (2, vi b2), (3, vr 1 b3), (4, vr 1 b4), (5, vi b5), (6, vi b6), (7, vi b7)] [vl ((Int.tdiv (q12.2 4 b3 b6.toNat) b5) * (q12.2 42 b1.toNat b7.toNat)), vi q12.1, vr 1 b4] C f_x_Mo_draw_108_1 rfl ?_
        obtain ⟨q20, e21, h⟩ := obd h
        refine m_callV C Rm Y [vi q12.1, vl ((Int.tdiv (q12.2 4 b3 b6.toNat) b5) * (q12.2 42 b1.toNat b7.toNat))] [] (x_Odds_come l D B H0 ad _ b4 q12.1 ((Int.tdiv (q12.2 4 b3 b6.toNat) b5) * (q12.2 42 b1.toNat b7.toNat)) (h_b4) hS _ _ e21) cl_Mo_289 rfl (h_b4) rfl rfl e_x_Mo_draw_109 rfl rfl rfl ⟨by decide, by decide⟩ ?_
        rintro _ _ ⟨rfl, rfl⟩
        show JM g D ad w0 q20.2 112 [(0, vr 0 0), (1, vi b1), (2, vi b2), (3, vr 1 b3), (4, vr 1 b4), (5, vi b5), (6, vi b6), (7, vi b7)] []
        refine m_blk 36 [(7, vi (b7 + 1)), (0, vr 0 0), (1, vi b1), (2, vi b2), (3, vr 1 b3), (4, vr 1 b4), (5, vi b5), (6, vi b6)] [] C f_x_Mo_draw_112_2 rfl ?_
        refine m_loc [(0, vr 0 0), (1, vi b1), (2, vi b2), (3, vr 1 b3), (4, vr 1 b4), (5, vi b5), (6, vi b6), (7, vi (b7 + 1))] ⟨rfl, rfl, rfl, rfl, rfl, rfl, rfl, rfl, trivial⟩ ?_
        exact ih q20.2 b1 b2 b3 b4 b5 b6 (b7 + 1) (h_b3) (h_b4) h
  have hd_17 : ∀ (n : Nat) (A : mA) (b1 : Int) (b2 : Int) (b3 : Nat) (b4 : Nat) (b5 : Int) (b6 : Int) , b3 < 200 → b4 < 200 → f_Mo_draw_17   n A b1 b2 b3 b4 b5 b6 = some (r9, A9) → JM g D ad w0 A 17 [(0, vr 0 0), (1, vi b1), (2, vi b2), (3, vr 1 b3), (4, vr 1 b4), (5, vi b5), (6, vi b6)] [] := by
    intro  n
    induction n with
    | zero => intro A b1 b2 b3 b4 b5 b6 h_b3 h_b4 h; cases h
    | succ n ih =>
      intro A b1 b2 b3 b4 b5 b6 h_b3 h_b4 h
      unfold f_Mo_draw_17 at h
      refine m_blk 20 [(0, vr 0 0), (1, vi b1), (2, vi b2), (3, vr 1 b3), (4, vr 1 b4), (5, vi b5), (6, vi b6)] [vr 1 b3, vi b6] C f_x_Mo_draw_17_2 rfl ?_
      refine m_getiN C e_x_Mo_draw_20 fg_Mo_272 rfl (h_b3) rfl (A 1 b3 2) rfl ?_
      obtain ⟨c22, h⟩ := igd h
      obtain ⟨c23, h⟩ := igd h
      refine m_icmp_ge (tgt := 124) C e_x_Mo_draw_23 (by decide) c22 c23 (fun c24 => ?_) (fun c24 => ?_)
      · have h := ifp c24 h
        refine m_blk 126 [(0, vr 0 0), (1, vi b1), (2, vi b2), (3, vr 1 b3), (4, vr 1 b4), (5, vi b5), (6, vi b6)] [vr 1 b4] C f_x_Mo_draw_124_1 rfl ?_
        exact m_aret9 C Rm E e_x_Mo_draw_126 (finR9 h) (h_b4)
      · have h := ifn c24 h
        refine m_blk 27 [(0, vr 0 0), (1, vi b1), (2, vi b2), (3, vr 1 b3), (4, vr 1 b4), (5, vi b5), (6, vi b6)] [vr 0 0] C f_x_Mo_draw_26_1 rfl ?_
        refine m_getr C e_x_Mo_draw_27 fg_Mo_39 rfl (by decide) rfl ?_
        refine m_blk 31 [(0, vr 0 0), (1, vi b1), (2, vi b2), (3, vr 1 b3), (4, vr 1 b4), (5, vi b5), (6, vi b6)] [vi b1, vr 20 0] C f_x_Mo_draw_30_1 rfl ?_
        obtain ⟨c25, h⟩ := igd h
        have k26 : b1.toNat < 6 := by omega
        refine m_aald C b1.toNat e_x_Mo_draw_31 rfl rfl rfl (by decide) (by decide) c25.1 c25.2 (mz _ _) ?_
        refine m_blk 33 [(0, vr 0 0), (1, vi b1), (2, vi b2), (3, vr 1 b3), (4, vr 1 b4), (5, vi b5), (6, vi b6)] [vi b2, vr 40 b1.toNat] C f_x_Mo_draw_32_1 rfl ?_
        obtain ⟨c27, h⟩ := igd h
        refine m_iald C e_x_Mo_draw_33 rfl (k26) (by decide) c27.1 c27.2 (A 40 b1.toNat b2.toNat) rfl ?_
        refine m_blk 36 [(7, vi (A 40 b1.toNat b2.toNat)), (0, vr 0 0), (1, vi b1), (2, vi b2), (3, vr 1 b3), (4, vr 1 b4), (5, vi b5), (6, vi b6)] [] C f_x_Mo_draw_34_1 rfl ?_
        refine m_loc [(0, vr 0 0), (1, vi b1), (2, vi b2), (3, vr 1 b3), (4, vr 1 b4), (5, vi b5), (6, vi b6), (7, vi (A 40 b1.toNat b2.toNat))] ⟨rfl, rfl, rfl, rfl, rfl, rfl, rfl, rfl, trivial⟩ ?_
        exact hd_36 (f_Mo_draw_17   n) ih _ A b1 b2 b3 b4 b5 b6 (A 40 b1.toNat b2.toNat) (h_b3) (h_b4) h
  show JM g D ad w0 A 0 [(0, vr 0 0), (1, vi a0), (2, vi a1), (3, vr 1 a2)] []
  unfold f_Mo_draw at h
  refine m_blk 1 [(0, vr 0 0), (1, vi a0), (2, vi a1), (3, vr 1 a2)] [vr 0 0] C f_x_Mo_draw_0_1 rfl ?_
  obtain ⟨q28, e29, h⟩ := obd h
  refine m_callV C Rm Y [] [] (x_Mo_takenO l D B H0 ad _  hS _ _ e29) cl_Mo_275 rfl (by decide) rfl rfl e_x_Mo_draw_1 rfl rfl rfl ⟨by decide, by decide⟩ ?_
  rintro _ _ ⟨rfl, rfl, g30⟩
  show JM g D ad w0 q28.2 4 [(0, vr 0 0), (1, vi a0), (2, vi a1), (3, vr 1 a2)] [vr 1 q28.1.toNat]
  refine m_blk 9 [(4, vr 1 q28.1.toNat), (0, vr 0 0), (1, vi a0), (2, vi a1), (3, vr 1 a2)] [vi a1, vi a0, vr 0 0] C f_x_Mo_draw_4_4 rfl ?_
  obtain ⟨q31, e32, h⟩ := obd h
  refine m_callV C Rm Y [vi a0, vi a1] [] (x_Mo_lotsAll l D B H0 ad _ a0 a1 hS _ _ e32) cl_Mo_232 rfl (by decide) rfl rfl e_x_Mo_draw_9 rfl rfl rfl ⟨by decide, by decide⟩ ?_
  rintro _ _ ⟨rfl, rfl⟩
  show JM g D ad w0 q31.2 12 [(4, vr 1 q28.1.toNat), (0, vr 0 0), (1, vi a0), (2, vi a1), (3, vr 1 a2)] [vi q31.1]
  refine m_blk 17 [(6, vi 0), (5, vi q31.1), (4, vr 1 q28.1.toNat), (0, vr 0 0), (1, vi a0), (2, vi a1), (3, vr 1 a2)] [] C f_x_Mo_draw_12_3 rfl ?_
  refine m_loc [(0, vr 0 0), (1, vi a0), (2, vi a1), (3, vr 1 a2), (4, vr 1 q28.1.toNat), (5, vi q31.1), (6, vi 0)] ⟨rfl, rfl, rfl, rfl, rfl, rfl, rfl, trivial⟩ ?_
  exact hd_17 _ q31.2 a0 a1 a2 q28.1.toNat q31.1 0 (h_a2) (g30) h

def f_Mo_letO_9 : Nat → mA → Int → Int → Nat → Nat → Int → Option (Int × mA)
  | 0, _, _, _, _, _, _ => none
  | n + 1, A, b1, b2, b3, b4, b5 => (if g32 b5 then if g32 (A 1 b3 2) then (if (A 1 b3 2) ≤ b5 then (some (((b4 : Nat) : Int), A)) else (if (0 ≤ b5 ∧ b5 < ((301 : Nat) : Int)) then (if (0 ≤ b1 ∧ b1 < ((6 : Nat) : Int)) then (if (0 ≤ b2 ∧ b2 < ((16 : Nat) : Int)) then (Option.bind (f_Mo_worthN 121 A b1 (A 39 b1.toNat b2.toNat) (A 3 b3 b5.toNat)) (fun q9 => (Option.bind (f_Mo_digit q9.2 q9.1) (fun q11 => (Option.bind (f_Mo_with q11.2 (A 3 b3 b5.toNat) (A 35 b1.toNat b2.toNat) q11.1) (fun q13 => (Option.bind (f_Odds_come q13.2 b4 q13.1 (q13.2 4 b3 b5.toNat)) (fun q15 => (f_Mo_letO_9  n q15.2 b1 b2 b3 b4 (b5 + 1)))))))))) else none) else none) else none)) else none else none)
def f_Mo_letO (A : mA) (a0 : Int) (a1 : Int) (a2 : Nat) : Option (Int × mA) := (Option.bind (f_Mo_takenO A ) (fun q17 => (f_Mo_letO_9  310 q17.2 a0 a1 a2 q17.1.toNat 0)))
theorem f_x_Mo_letO_0_1 : mblkB b_Mo_let_1 [(0, .aload_n 0, vi 0)] = true := by decide +kernel
theorem e_x_Mo_letO_1 : decode b_Mo_let_1 1 = .ok (.invokevirtual 275, 3) := by decide +kernel
theorem f_x_Mo_letO_4_3 : mblkB b_Mo_let_1 [(4, .astore 4, vi 0), (6, .iconst 0, vi 0), (7, .istore 5, vi 0)] = true := by decide +kernel
theorem f_x_Mo_letO_9_2 : mblkB b_Mo_let_1 [(9, .iload 5, vi 0), (11, .aload_n 3, vi 0)] = true := by decide +kernel
theorem e_x_Mo_letO_12 : decode b_Mo_let_1 12 = .ok (.getfield 272, 3) := by decide +kernel
theorem e_x_Mo_letO_15 : decode b_Mo_let_1 15 = .ok (.if_icmp .ge 62, 3) := by decide +kernel
theorem f_x_Mo_letO_77_1 : mblkB b_Mo_let_1 [(77, .aload 4, vi 0)] = true := by decide +kernel
theorem e_x_Mo_letO_79 : decode b_Mo_let_1 79 = .ok (.areturn, 1) := by decide +kernel
theorem f_x_Mo_letO_18_2 : mblkB b_Mo_let_1 [(18, .aload 4, vi 0), (20, .aload_n 3, vi 0)] = true := by decide +kernel
theorem e_x_Mo_letO_21 : decode b_Mo_let_1 21 = .ok (.getfield 279, 3) := by decide +kernel
theorem f_x_Mo_letO_24_1 : mblkB b_Mo_let_1 [(24, .iload 5, vi 0)] = true := by decide +kernel
theorem e_x_Mo_letO_26 : decode b_Mo_let_1 26 = .ok (.iaload, 1) := by decide +kernel
theorem f_x_Mo_letO_27_1 : mblkB b_Mo_let_1 [(27, .aload_n 0, vi 0)] = true := by decide +kernel
theorem e_x_Mo_letO_28 : decode b_Mo_let_1 28 = .ok (.getfield 24, 3) := by decide +kernel
theorem f_x_Mo_letO_31_1 : mblkB b_Mo_let_1 [(31, .iload_n 1, vi 0)] = true := by decide +kernel
theorem e_x_Mo_letO_32 : decode b_Mo_let_1 32 = .ok (.aaload, 1) := by decide +kernel
theorem f_x_Mo_letO_33_1 : mblkB b_Mo_let_1 [(33, .iload_n 2, vi 0)] = true := by decide +kernel
theorem e_x_Mo_letO_34 : decode b_Mo_let_1 34 = .ok (.iaload, 1) := by decide +kernel
theorem f_x_Mo_letO_35_3 : mblkB b_Mo_let_1 [(35, .aload_n 0, vi 0), (36, .iload_n 1, vi 0), (37, .aload_n 0, vi 0)] = true := by decide +kernel
theorem e_x_Mo_letO_38 : decode b_Mo_let_1 38 = .ok (.getfield 36, 3) := by decide +kernel
theorem f_x_Mo_letO_41_1 : mblkB b_Mo_let_1 [(41, .iload_n 1, vi 0)] = true := by decide +kernel
theorem e_x_Mo_letO_42 : decode b_Mo_let_1 42 = .ok (.aaload, 1) := by decide +kernel
theorem f_x_Mo_letO_43_1 : mblkB b_Mo_let_1 [(43, .iload_n 2, vi 0)] = true := by decide +kernel
theorem e_x_Mo_letO_44 : decode b_Mo_let_1 44 = .ok (.iaload, 1) := by decide +kernel
theorem f_x_Mo_letO_45_1 : mblkB b_Mo_let_1 [(45, .aload_n 3, vi 0)] = true := by decide +kernel
theorem e_x_Mo_letO_46 : decode b_Mo_let_1 46 = .ok (.getfield 279, 3) := by decide +kernel
theorem f_x_Mo_letO_49_1 : mblkB b_Mo_let_1 [(49, .iload 5, vi 0)] = true := by decide +kernel
theorem e_x_Mo_letO_51 : decode b_Mo_let_1 51 = .ok (.iaload, 1) := by decide +kernel
theorem e_x_Mo_letO_52 : decode b_Mo_let_1 52 = .ok (.invokevirtual 263, 3) := by decide +kernel
theorem e_x_Mo_letO_55 : decode b_Mo_let_1 55 = .ok (.invokestatic 333, 3) := by decide +kernel
theorem e_x_Mo_letO_58 : decode b_Mo_let_1 58 = .ok (.invokestatic 282, 3) := by decide +kernel
theorem f_x_Mo_letO_61_1 : mblkB b_Mo_let_1 [(61, .aload_n 3, vi 0)] = true := by decide +kernel
theorem e_x_Mo_letO_62 : decode b_Mo_let_1 62 = .ok (.getfield 285, 3) := by decide +kernel
theorem f_x_Mo_letO_65_1 : mblkB b_Mo_let_1 [(65, .iload 5, vi 0)] = true := by decide +kernel
theorem e_x_Mo_letO_67 : decode b_Mo_let_1 67 = .ok (.laload, 1) := by decide +kernel
theorem e_x_Mo_letO_68 : decode b_Mo_let_1 68 = .ok (.invokevirtual 289, 3) := by decide +kernel
theorem f_x_Mo_letO_71_2 : mblkB b_Mo_let_1 [(71, .iinc 5 1, vi 1), (74, .goto (-65), vi 9)] = true := by decide +kernel
set_option maxHeartbeats 4000000 in
set_option maxRecDepth 20000 in
theorem x_Mo_letO  : ∀ (l : Launch) (D : va_G) (B : Nat) (H0 : Heap) (ad : mAd) (A : mA) (a0 : Int) (a1 : Int) (a2 : Nat) (h_a2 : a2 < 200) (hS : mStr D ad) (r9 : Int) (A9 : mA), f_Mo_letO  A a0 a1 a2 = some (r9, A9) → mMet l D B H0 ad y_Mo_let_1 b_Mo_let_1 6 (some (.object "ChanceStepsModel$Odds")) 727 24226 [vr 0 0, vi a0, vi a1, vr 1 a2] A (fun v A' => v = some (vr 1 r9.toNat) ∧ A' = A9 ∧ r9.toNat < 200) := by
  intro l D B H0 ad A a0 a1 a2 h_a2 hS r9 A9 h
  refine m_met (by decide) rfl (fun g w0 C Rm Y E => ?_)
  have hd_9 : ∀ (n : Nat) (A : mA) (b1 : Int) (b2 : Int) (b3 : Nat) (b4 : Nat) (b5 : Int) , b3 < 200 → b4 < 200 → f_Mo_letO_9  n A b1 b2 b3 b4 b5 = some (r9, A9) → JM g D ad w0 A 9 [(0, vr 0 0), (1, vi b1), (2, vi b2), (3, vr 1 b3), (4, vr 1 b4), (5, vi b5)] [] := by
    intro n
    induction n with
    | zero => intro A b1 b2 b3 b4 b5 h_b3 h_b4 h; cases h
    | succ n ih =>
      intro A b1 b2 b3 b4 b5 h_b3 h_b4 h
      unfold f_Mo_letO_9 at h
      refine m_blk 12 [(0, vr 0 0), (1, vi b1), (2, vi b2), (3, vr 1 b3), (4, vr 1 b4), (5, vi b5)] [vr 1 b3, vi b5] C f_x_Mo_letO_9_2 rfl ?_
      refine m_getiN C e_x_Mo_letO_12 fg_Mo_272 rfl (h_b3) rfl (A 1 b3 2) rfl ?_
      obtain ⟨c1, h⟩ := igd h
      obtain ⟨c2, h⟩ := igd h
      refine m_icmp_ge (tgt := 77) C e_x_Mo_letO_15 (by decide) c1 c2 (fun c3 => ?_) (fun c3 => ?_)
      · have h := ifp c3 h
        refine m_blk 79 [(0, vr 0 0), (1, vi b1), (2, vi b2), (3, vr 1 b3), (4, vr 1 b4), (5, vi b5)] [vr 1 b4] C f_x_Mo_letO_77_1 rfl ?_
        exact m_aret9 C Rm E e_x_Mo_letO_79 (finR9 h) (h_b4)
      · have h := ifn c3 h
        refine m_blk 21 [(0, vr 0 0), (1, vi b1), (2, vi b2), (3, vr 1 b3), (4, vr 1 b4), (5, vi b5)] [vr 1 b3, vr 1 b4] C f_x_Mo_letO_18_2 rfl ?_
        refine m_getrN C e_x_Mo_letO_21 fg_Mo_279 rfl (h_b3) rfl ?_
        refine m_blk 26 [(0, vr 0 0), (1, vi b1), (2, vi b2), (3, vr 1 b3), (4, vr 1 b4), (5, vi b5)] [vi b5, vr 3 b3, vr 1 b4] C f_x_Mo_letO_24_1 rfl ?_
        obtain ⟨c4, h⟩ := igd h
        refine m_iald C e_x_Mo_letO_26 rfl (h_b3) (by decide) c4.1 c4.2 (A 3 b3 b5.toNat) rfl ?_
        refine m_blk 28 [(0, vr 0 0), (1, vi b1), (2, vi b2), (3, vr 1 b3), (4, vr 1 b4), (5, vi b5)] [vr 0 0, vi (A 3 b3 b5.toNat), vr 1 b4] C f_x_Mo_letO_27_1 rfl ?_
        refine m_getr C e_x_Mo_letO_28 fg_Mo_24 rfl (by decide) rfl ?_
        refine m_blk 32 [(0, vr 0 0), (1, vi b1), (2, vi b2), (3, vr 1 b3), (4, vr 1 b4), (5, vi b5)] [vi b1, vr 15 0, vi (A 3 b3 b5.toNat), vr 1 b4] C f_x_Mo_letO_31_1 rfl ?_
        obtain ⟨c5, h⟩ := igd h
        have k6 : b1.toNat < 6 := by omega
        refine m_aald C b1.toNat e_x_Mo_letO_32 rfl rfl rfl (by decide) (by decide) c5.1 c5.2 (mz _ _) ?_
        refine m_blk 34 [(0, vr 0 0), (1, vi b1), (2, vi b2), (3, vr 1 b3), (4, vr 1 b4), (5, vi b5)] [vi b2, vr 35 b1.toNat, vi (A 3 b3 b5.toNat), vr 1 b4] C f_x_Mo_letO_33_1 rfl ?_
        obtain ⟨c7, h⟩ := igd h
        refine m_iald C e_x_Mo_letO_34 rfl (k6) (by decide) c7.1 c7.2 (A 35 b1.toNat b2.toNat) rfl ?_
        refine m_blk 38 [(0, vr 0 0), (1, vi b1), (2, vi b2), (3, vr 1 b3), (4, vr 1 b4), (5, vi b5)] [vr 0 0, vi b1, vr 0 0, vi (A 35 b1.toNat b2.toNat), vi (A 3 b3 b5.toNat), vr 1 b4] C f_x_Mo_letO_35_3 rfl ?_
        refine m_getr C e_x_Mo_letO_38 fg_Mo_36 rfl (by decide) rfl ?_
        refine m_blk 42 [(0, vr 0 0), (1, vi b1), (2, vi b2), (3, vr 1 b3), (4, vr 1 b4), (5, vi b5)] [vi b1, vr 19 0, vi b1, vr 0 0, vi (A 35 b1.toNat b2.toNat), vi (A 3 b3 b5.toNat), vr 1 b4] C f_x_Mo_letO_41_1 rfl ?_
        have k8 : b1.toNat < 6 := by omega
        refine m_aald C b1.toNat e_x_Mo_letO_42 rfl rfl rfl (by decide) (by decide) c5.1 c5.2 (mz _ _) ?_
        refine m_blk 44 [(0, vr 0 0), (1, vi b1), (2, vi b2), (3, vr 1 b3), (4, vr 1 b4), (5, vi b5)] [vi b2, vr 39 b1.toNat, vi b1, vr 0 0, vi (A 35 b1.toNat b2.toNat), vi (A 3 b3 b5.toNat), vr 1 b4] C f_x_Mo_letO_43_1 rfl ?_
        refine m_iald C e_x_Mo_letO_44 rfl (k8) (by decide) c7.1 c7.2 (A 39 b1.toNat b2.toNat) rfl ?_
        refine m_blk 46 [(0, vr 0 0), (1, vi b1), (2, vi b2), (3, vr 1 b3), (4, vr 1 b4), (5, vi b5)] [vr 1 b3, vi (A 39 b1.toNat b2.toNat), vi b1, vr 0 0, vi (A 35 b1.toNat b2.toNat), vi (A 3 b3 b5.toNat), vr 1 b4] C f_x_Mo_letO_45_1 rfl ?_
        refine m_getrN C e_x_Mo_letO_46 fg_Mo_279 rfl (h_b3) rfl ?_
        refine m_blk 51 [(0, vr 0 0), (1, vi b1), (2, vi b2), (3, vr 1 b3), (4, vr 1 b4), (5, vi b5)] [vi b5, vr 3 b3, vi (A 39 b1.toNat b2.toNat), vi b1, vr 0 0, vi (A 35 b1.toNat b2.toNat), vi (A 3 b3 b5.toNat), vr 1 b4] C f_x_Mo_letO_49_1 rfl ?_
        refine m_iald C e_x_Mo_letO_51 rfl (h_b3) (by decide) c4.1 c4.2 (A 3 b3 b5.toNat) rfl ?_
        obtain ⟨q9, e10, h⟩ := obd h
        refine m_callV C Rm Y [vi b1, vi (A 39 b1.toNat b2.toNat), vi (A 3 b3 b5.toNat)] [vi (A 35 b1.toNat b2.toNat), vi (A 3 b3 b5.toNat), vr 1 b4] (x_Mo_worthN 121 l D B H0 ad _ b1 (A 39 b1.toNat b2.toNat) (A 3 b3 b5.toNat) hS _ _ e10) cl_Mo_263 rfl (by decide) rfl rfl e_x_Mo_letO_52 rfl rfl rfl ⟨by decide, by decide⟩ ?_
        rintro _ _ ⟨rfl, rfl⟩
        show JM g D ad w0 q9.2 55 [(0, vr 0 0), (1, vi b1), (2, vi b2), (3, vr 1 b3), (4, vr 1 b4), (5, vi b5)] [vi q9.1, vi (A 35 b1.toNat b2.toNat), vi (A 3 b3 b5.toNat), vr 1 b4]
        obtain ⟨q11, e12, h⟩ := obd h
        refine m_callS C Rm Y [vi q9.1] [vi (A 35 b1.toNat b2.toNat), vi (A 3 b3 b5.toNat), vr 1 b4] (x_Mo_digit l D B H0 ad _ q9.1 hS _ _ e12) cl_Mo_333 e_x_Mo_letO_55 rfl rfl rfl ⟨by decide, by decide⟩ ?_
        rintro _ _ ⟨rfl, rfl⟩
        show JM g D ad w0 q11.2 58 [(0, vr 0 0), (1, vi b1), (2, vi b2), (3, vr 1 b3), (4, vr 1 b4), (5, vi b5)] [vi q11.1, vi (A 35 b1.toNat b2.toNat), vi (A 3 b3 b5.toNat), vr 1 b4]
        obtain ⟨q13, e14, h⟩ := obd h
        refine m_callS C Rm Y [vi (A 3 b3 b5.toNat), vi (A 35 b1.toNat b2.toNat), vi q11.1] [vr 1 b4] (x_Mo_with l D B H0 ad _ (A 3 b3 b5.toNat) (A 35 b1.toNat b2.toNat) q11.1 hS _ _ e14) cl_Mo_282 e_x_Mo_letO_58 rfl rfl rfl ⟨by decide, by decide⟩ ?_
        rintro _ _ ⟨rfl, rfl⟩
        show JM g D ad w0 q13.2 61 [(0, vr 0 0), (1, vi b1), (2, vi b2), (3, vr 1 b3), (4, vr 1 b4), (5, vi b5)] [vi q13.1, vr 1 b4]
        refine m_blk 62 [(0, vr 0 0), (1, vi b1), (2, vi b2), (3, vr 1 b3), (4, vr 1 b4), (5, vi b5)] [vr 1 b3, vi q13.1, vr 1 b4] C f_x_Mo_letO_61_1 rfl ?_
        refine m_getrN C e_x_Mo_letO_62 fg_Mo_285 rfl (h_b3) rfl ?_
        refine m_blk 67 [(0, vr 0 0), (1, vi b1), (2, vi b2), (3, vr 1 b3), (4, vr 1 b4), (5, vi b5)] [vi b5, vr 4 b3, vi q13.1, vr 1 b4] C f_x_Mo_letO_65_1 rfl ?_
        refine m_lald C e_x_Mo_letO_67 rfl (h_b3) (by decide) c4.1 c4.2 (q13.2 4 b3 b5.toNat) rfl ?_
        obtain ⟨q15, e16, h⟩ := obd h
        refine m_callV C Rm Y [vi q13.1, vl (q13.2 4 b3 b5.toNat)] [] (x_Odds_come l D B H0 ad _ b4 q13.1 (q13.2 4 b3 b5.toNat) (h_b4) hS _ _ e16) cl_Mo_289 rfl (h_b4) rfl rfl e_x_Mo_letO_68 rfl rfl rfl ⟨by decide, by decide⟩ ?_
        rintro _ _ ⟨rfl, rfl⟩
        show JM g D ad w0 q15.2 71 [(0, vr 0 0), (1, vi b1), (2, vi b2), (3, vr 1 b3), (4, vr 1 b4), (5, vi b5)] []
        refine m_blk 9 [(5, vi (b5 + 1)), (0, vr 0 0), (1, vi b1), (2, vi b2), (3, vr 1 b3), (4, vr 1 b4)] [] C f_x_Mo_letO_71_2 rfl ?_
        refine m_loc [(0, vr 0 0), (1, vi b1), (2, vi b2), (3, vr 1 b3), (4, vr 1 b4), (5, vi (b5 + 1))] ⟨rfl, rfl, rfl, rfl, rfl, rfl, trivial⟩ ?_
        exact ih q15.2 b1 b2 b3 b4 (b5 + 1) (h_b3) (h_b4) h
  show JM g D ad w0 A 0 [(0, vr 0 0), (1, vi a0), (2, vi a1), (3, vr 1 a2)] []
  unfold f_Mo_letO at h
  refine m_blk 1 [(0, vr 0 0), (1, vi a0), (2, vi a1), (3, vr 1 a2)] [vr 0 0] C f_x_Mo_letO_0_1 rfl ?_
  obtain ⟨q17, e18, h⟩ := obd h
  refine m_callV C Rm Y [] [] (x_Mo_takenO l D B H0 ad _  hS _ _ e18) cl_Mo_275 rfl (by decide) rfl rfl e_x_Mo_letO_1 rfl rfl rfl ⟨by decide, by decide⟩ ?_
  rintro _ _ ⟨rfl, rfl, g19⟩
  show JM g D ad w0 q17.2 4 [(0, vr 0 0), (1, vi a0), (2, vi a1), (3, vr 1 a2)] [vr 1 q17.1.toNat]
  refine m_blk 9 [(5, vi 0), (4, vr 1 q17.1.toNat), (0, vr 0 0), (1, vi a0), (2, vi a1), (3, vr 1 a2)] [] C f_x_Mo_letO_4_3 rfl ?_
  refine m_loc [(0, vr 0 0), (1, vi a0), (2, vi a1), (3, vr 1 a2), (4, vr 1 q17.1.toNat), (5, vi 0)] ⟨rfl, rfl, rfl, rfl, rfl, rfl, trivial⟩ ?_
  exact hd_9 _ q17.2 a0 a1 a2 q17.1.toNat 0 (h_a2) (g19) h

def f_Mo_split_9 : Nat → mA → Int → Int → Nat → Int → Nat → Int → Option (Int × mA)
  | 0, _, _, _, _, _, _, _ => none
  | n + 1, A, b1, b2, b3, b4, b5, b6 => (if g32 b6 then if g32 (A 1 b3 2) then (if (A 1 b3 2) ≤ b6 then (some (((b5 : Nat) : Int), A)) else (if (0 ≤ b1 ∧ b1 < ((6 : Nat) : Int)) then (if (0 ≤ b2 ∧ b2 < ((16 : Nat) : Int)) then (if (0 ≤ b6 ∧ b6 < ((301 : Nat) : Int)) then (Option.bind (f_Mo_worthN 121 A b1 (A 39 b1.toNat b2.toNat) (A 3 b3 b6.toNat)) (fun q8 => (if g32 q8.1 then (if q8.1 = 0 then (if g32 b4 then (if 0 = b4 then (Option.bind (f_Odds_come q8.2 b5 (q8.2 3 b3 b6.toNat) (q8.2 4 b3 b6.toNat)) (fun q14 => (f_Mo_split_9  n q14.2 b1 b2 b3 b4 b5 (b6 + 1)))) else (f_Mo_split_9  n q8.2 b1 b2 b3 b4 b5 (b6 + 1))) else none) else (if g32 b4 then (if 1 = b4 then (Option.bind (f_Odds_come q8.2 b5 (q8.2 3 b3 b6.toNat) (q8.2 4 b3 b6.toNat)) (fun q18 => (f_Mo_split_9  n q18.2 b1 b2 b3 b4 b5 (b6 + 1)))) else (f_Mo_split_9  n q8.2 b1 b2 b3 b4 b5 (b6 + 1))) else none)) else none))) else none) else none) else none)) else none else none)
def f_Mo_split (A : mA) (a0 : Int) (a1 : Int) (a2 : Nat) (a3 : Int) : Option (Int × mA) := (Option.bind (f_Mo_takenO A ) (fun q20 => (f_Mo_split_9  310 q20.2 a0 a1 a2 a3 q20.1.toNat 0)))
theorem f_x_Mo_split_0_1 : mblkB b_Mo_split [(0, .aload_n 0, vi 0)] = true := by decide +kernel
theorem e_x_Mo_split_1 : decode b_Mo_split 1 = .ok (.invokevirtual 275, 3) := by decide +kernel
theorem f_x_Mo_split_4_3 : mblkB b_Mo_split [(4, .astore 5, vi 0), (6, .iconst 0, vi 0), (7, .istore 6, vi 0)] = true := by decide +kernel
theorem f_x_Mo_split_9_2 : mblkB b_Mo_split [(9, .iload 6, vi 0), (11, .aload_n 3, vi 0)] = true := by decide +kernel
theorem e_x_Mo_split_12 : decode b_Mo_split 12 = .ok (.getfield 272, 3) := by decide +kernel
theorem e_x_Mo_split_15 : decode b_Mo_split 15 = .ok (.if_icmp .ge 61, 3) := by decide +kernel
theorem f_x_Mo_split_76_1 : mblkB b_Mo_split [(76, .aload 5, vi 0)] = true := by decide +kernel
theorem e_x_Mo_split_78 : decode b_Mo_split 78 = .ok (.areturn, 1) := by decide +kernel
theorem f_x_Mo_split_18_3 : mblkB b_Mo_split [(18, .aload_n 0, vi 0), (19, .iload_n 1, vi 0), (20, .aload_n 0, vi 0)] = true := by decide +kernel
theorem e_x_Mo_split_21 : decode b_Mo_split 21 = .ok (.getfield 36, 3) := by decide +kernel
theorem f_x_Mo_split_24_1 : mblkB b_Mo_split [(24, .iload_n 1, vi 0)] = true := by decide +kernel
theorem e_x_Mo_split_25 : decode b_Mo_split 25 = .ok (.aaload, 1) := by decide +kernel
theorem f_x_Mo_split_26_1 : mblkB b_Mo_split [(26, .iload_n 2, vi 0)] = true := by decide +kernel
theorem e_x_Mo_split_27 : decode b_Mo_split 27 = .ok (.iaload, 1) := by decide +kernel
theorem f_x_Mo_split_28_1 : mblkB b_Mo_split [(28, .aload_n 3, vi 0)] = true := by decide +kernel
theorem e_x_Mo_split_29 : decode b_Mo_split 29 = .ok (.getfield 279, 3) := by decide +kernel
theorem f_x_Mo_split_32_1 : mblkB b_Mo_split [(32, .iload 6, vi 0)] = true := by decide +kernel
theorem e_x_Mo_split_34 : decode b_Mo_split 34 = .ok (.iaload, 1) := by decide +kernel
theorem e_x_Mo_split_35 : decode b_Mo_split 35 = .ok (.invokevirtual 263, 3) := by decide +kernel
theorem e_x_Mo_split_38 : decode b_Mo_split 38 = .ok (.ifCond .eq 7, 3) := by decide +kernel
theorem f_x_Mo_split_45_2 : mblkB b_Mo_split [(45, .iconst 0, vi 0), (46, .iload 4, vi 0)] = true := by decide +kernel
theorem e_x_Mo_split_48 : decode b_Mo_split 48 = .ok (.if_icmp .ne 22, 3) := by decide +kernel
theorem f_x_Mo_split_70_2 : mblkB b_Mo_split [(70, .iinc 6 1, vi 1), (73, .goto (-64), vi 9)] = true := by decide +kernel
theorem f_x_Mo_split_51_2 : mblkB b_Mo_split [(51, .aload 5, vi 0), (53, .aload_n 3, vi 0)] = true := by decide +kernel
theorem e_x_Mo_split_54 : decode b_Mo_split 54 = .ok (.getfield 279, 3) := by decide +kernel
theorem f_x_Mo_split_57_1 : mblkB b_Mo_split [(57, .iload 6, vi 0)] = true := by decide +kernel
theorem e_x_Mo_split_59 : decode b_Mo_split 59 = .ok (.iaload, 1) := by decide +kernel
theorem f_x_Mo_split_60_1 : mblkB b_Mo_split [(60, .aload_n 3, vi 0)] = true := by decide +kernel
theorem e_x_Mo_split_61 : decode b_Mo_split 61 = .ok (.getfield 285, 3) := by decide +kernel
theorem f_x_Mo_split_64_1 : mblkB b_Mo_split [(64, .iload 6, vi 0)] = true := by decide +kernel
theorem e_x_Mo_split_66 : decode b_Mo_split 66 = .ok (.laload, 1) := by decide +kernel
theorem e_x_Mo_split_67 : decode b_Mo_split 67 = .ok (.invokevirtual 289, 3) := by decide +kernel
theorem f_x_Mo_split_41_2 : mblkB b_Mo_split [(41, .iconst 1, vi 1), (42, .goto 4, vi 46)] = true := by decide +kernel
theorem f_x_Mo_split_46_1 : mblkB b_Mo_split [(46, .iload 4, vi 0)] = true := by decide +kernel
set_option maxHeartbeats 4000000 in
set_option maxRecDepth 20000 in
theorem x_Mo_split  : ∀ (l : Launch) (D : va_G) (B : Nat) (H0 : Heap) (ad : mAd) (A : mA) (a0 : Int) (a1 : Int) (a2 : Nat) (a3 : Int) (h_a2 : a2 < 200) (hS : mStr D ad) (r9 : Int) (A9 : mA), f_Mo_split  A a0 a1 a2 a3 = some (r9, A9) → mMet l D B H0 ad y_Mo_split b_Mo_split 7 (some (.object "ChanceStepsModel$Odds")) 727 24226 [vr 0 0, vi a0, vi a1, vr 1 a2, vi a3] A (fun v A' => v = some (vr 1 r9.toNat) ∧ A' = A9 ∧ r9.toNat < 200) := by
  intro l D B H0 ad A a0 a1 a2 a3 h_a2 hS r9 A9 h
  refine m_met (by decide) rfl (fun g w0 C Rm Y E => ?_)
  have hd_9 : ∀ (n : Nat) (A : mA) (b1 : Int) (b2 : Int) (b3 : Nat) (b4 : Int) (b5 : Nat) (b6 : Int) , b3 < 200 → b5 < 200 → f_Mo_split_9  n A b1 b2 b3 b4 b5 b6 = some (r9, A9) → JM g D ad w0 A 9 [(0, vr 0 0), (1, vi b1), (2, vi b2), (3, vr 1 b3), (4, vi b4), (5, vr 1 b5), (6, vi b6)] [] := by
    intro n
    induction n with
    | zero => intro A b1 b2 b3 b4 b5 b6 h_b3 h_b5 h; cases h
    | succ n ih =>
      intro A b1 b2 b3 b4 b5 b6 h_b3 h_b5 h
      unfold f_Mo_split_9 at h
      refine m_blk 12 [(0, vr 0 0), (1, vi b1), (2, vi b2), (3, vr 1 b3), (4, vi b4), (5, vr 1 b5), (6, vi b6)] [vr 1 b3, vi b6] C f_x_Mo_split_9_2 rfl ?_
      refine m_getiN C e_x_Mo_split_12 fg_Mo_272 rfl (h_b3) rfl (A 1 b3 2) rfl ?_
      obtain ⟨c1, h⟩ := igd h
      obtain ⟨c2, h⟩ := igd h
      refine m_icmp_ge (tgt := 76) C e_x_Mo_split_15 (by decide) c1 c2 (fun c3 => ?_) (fun c3 => ?_)
      · have h := ifp c3 h
        refine m_blk 78 [(0, vr 0 0), (1, vi b1), (2, vi b2), (3, vr 1 b3), (4, vi b4), (5, vr 1 b5), (6, vi b6)] [vr 1 b5] C f_x_Mo_split_76_1 rfl ?_
        exact m_aret9 C Rm E e_x_Mo_split_78 (finR9 h) (h_b5)
      · have h := ifn c3 h
        refine m_blk 21 [(0, vr 0 0), (1, vi b1), (2, vi b2), (3, vr 1 b3), (4, vi b4), (5, vr 1 b5), (6, vi b6)] [vr 0 0, vi b1, vr 0 0] C f_x_Mo_split_18_3 rfl ?_
        refine m_getr C e_x_Mo_split_21 fg_Mo_36 rfl (by decide) rfl ?_
        refine m_blk 25 [(0, vr 0 0), (1, vi b1), (2, vi b2), (3, vr 1 b3), (4, vi b4), (5, vr 1 b5), (6, vi b6)] [vi b1, vr 19 0, vi b1, vr 0 0] C f_x_Mo_split_24_1 rfl ?_
        obtain ⟨c4, h⟩ := igd h
        have k5 : b1.toNat < 6 := by omega
        refine m_aald C b1.toNat e_x_Mo_split_25 rfl rfl rfl (by decide) (by decide) c4.1 c4.2 (mz _ _) ?_
        refine m_blk 27 [(0, vr 0 0), (1, vi b1), (2, vi b2), (3, vr 1 b3), (4, vi b4), (5, vr 1 b5), (6, vi b6)] [vi b2, vr 39 b1.toNat, vi b1, vr 0 0] C f_x_Mo_split_26_1 rfl ?_
        obtain ⟨c6, h⟩ := igd h
        refine m_iald C e_x_Mo_split_27 rfl (k5) (by decide) c6.1 c6.2 (A 39 b1.toNat b2.toNat) rfl ?_
        refine m_blk 29 [(0, vr 0 0), (1, vi b1), (2, vi b2), (3, vr 1 b3), (4, vi b4), (5, vr 1 b5), (6, vi b6)] [vr 1 b3, vi (A 39 b1.toNat b2.toNat), vi b1, vr 0 0] C f_x_Mo_split_28_1 rfl ?_
        refine m_getrN C e_x_Mo_split_29 fg_Mo_279 rfl (h_b3) rfl ?_
        refine m_blk 34 [(0, vr 0 0), (1, vi b1), (2, vi b2), (3, vr 1 b3), (4, vi b4), (5, vr 1 b5), (6, vi b6)] [vi b6, vr 3 b3, vi (A 39 b1.toNat b2.toNat), vi b1, vr 0 0] C f_x_Mo_split_32_1 rfl ?_
        obtain ⟨c7, h⟩ := igd h
        refine m_iald C e_x_Mo_split_34 rfl (h_b3) (by decide) c7.1 c7.2 (A 3 b3 b6.toNat) rfl ?_
        obtain ⟨q8, e9, h⟩ := obd h
        refine m_callV C Rm Y [vi b1, vi (A 39 b1.toNat b2.toNat), vi (A 3 b3 b6.toNat)] [] (x_Mo_worthN 121 l D B H0 ad _ b1 (A 39 b1.toNat b2.toNat) (A 3 b3 b6.toNat) hS _ _ e9) cl_Mo_263 rfl (by decide) rfl rfl e_x_Mo_split_35 rfl rfl rfl ⟨by decide, by decide⟩ ?_
        rintro _ _ ⟨rfl, rfl⟩
        show JM g D ad w0 q8.2 38 [(0, vr 0 0), (1, vi b1), (2, vi b2), (3, vr 1 b3), (4, vi b4), (5, vr 1 b5), (6, vi b6)] [vi q8.1]
        obtain ⟨c10, h⟩ := igd h
        refine m_if_eq (tgt := 45) C e_x_Mo_split_38 (by decide) c10 (fun c11 => ?_) (fun c11 => ?_)
        · have h := ifp c11 h
          refine m_blk 48 [(0, vr 0 0), (1, vi b1), (2, vi b2), (3, vr 1 b3), (4, vi b4), (5, vr 1 b5), (6, vi b6)] [vi b4, vi 0] C f_x_Mo_split_45_2 rfl ?_
          obtain ⟨c12, h⟩ := igd h
          refine m_icmp_ne (tgt := 70) C e_x_Mo_split_48 (by decide) (by decide) c12 (fun c13 => ?_) (fun c13 => ?_)
          · have h := ifn c13 h
            refine m_blk 9 [(6, vi (b6 + 1)), (0, vr 0 0), (1, vi b1), (2, vi b2), (3, vr 1 b3), (4, vi b4), (5, vr 1 b5)] [] C f_x_Mo_split_70_2 rfl ?_
            refine m_loc [(0, vr 0 0), (1, vi b1), (2, vi b2), (3, vr 1 b3), (4, vi b4), (5, vr 1 b5), (6, vi (b6 + 1))] ⟨rfl, rfl, rfl, rfl, rfl, rfl, rfl, trivial⟩ ?_
            exact ih q8.2 b1 b2 b3 b4 b5 (b6 + 1) (h_b3) (h_b5) h
          · have h := ifp c13 h
            refine m_blk 54 [(0, vr 0 0), (1, vi b1), (2, vi b2), (3, vr 1 b3), (4, vi b4), (5, vr 1 b5), (6, vi b6)] [vr 1 b3, vr 1 b5] C f_x_Mo_split_51_2 rfl ?_
            refine m_getrN C e_x_Mo_split_54 fg_Mo_279 rfl (h_b3) rfl ?_
            refine m_blk 59 [(0, vr 0 0), (1, vi b1), (2, vi b2), (3, vr 1 b3), (4, vi b4), (5, vr 1 b5), (6, vi b6)] [vi b6, vr 3 b3, vr 1 b5] C f_x_Mo_split_57_1 rfl ?_
            refine m_iald C e_x_Mo_split_59 rfl (h_b3) (by decide) c7.1 c7.2 (q8.2 3 b3 b6.toNat) rfl ?_
            refine m_blk 61 [(0, vr 0 0), (1, vi b1), (2, vi b2), (3, vr 1 b3), (4, vi b4), (5, vr 1 b5), (6, vi b6)] [vr 1 b3, vi (q8.2 3 b3 b6.toNat), vr 1 b5] C f_x_Mo_split_60_1 rfl ?_
            refine m_getrN C e_x_Mo_split_61 fg_Mo_285 rfl (h_b3) rfl ?_
            refine m_blk 66 [(0, vr 0 0), (1, vi b1), (2, vi b2), (3, vr 1 b3), (4, vi b4), (5, vr 1 b5), (6, vi b6)] [vi b6, vr 4 b3, vi (q8.2 3 b3 b6.toNat), vr 1 b5] C f_x_Mo_split_64_1 rfl ?_
            refine m_lald C e_x_Mo_split_66 rfl (h_b3) (by decide) c7.1 c7.2 (q8.2 4 b3 b6.toNat) rfl ?_
            obtain ⟨q14, e15, h⟩ := obd h
            refine m_callV C Rm Y [vi (q8.2 3 b3 b6.toNat), vl (q8.2 4 b3 b6.toNat)] [] (x_Odds_come l D B H0 ad _ b5 (q8.2 3 b3 b6.toNat) (q8.2 4 b3 b6.toNat) (h_b5) hS _ _ e15) cl_Mo_289 rfl (h_b5) rfl rfl e_x_Mo_split_67 rfl rfl rfl ⟨by decide, by decide⟩ ?_
            rintro _ _ ⟨rfl, rfl⟩
            show JM g D ad w0 q14.2 70 [(0, vr 0 0), (1, vi b1), (2, vi b2), (3, vr 1 b3), (4, vi b4), (5, vr 1 b5), (6, vi b6)] []
            refine m_blk 9 [(6, vi (b6 + 1)), (0, vr 0 0), (1, vi b1), (2, vi b2), (3, vr 1 b3), (4, vi b4), (5, vr 1 b5)] [] C f_x_Mo_split_70_2 rfl ?_
            refine m_loc [(0, vr 0 0), (1, vi b1), (2, vi b2), (3, vr 1 b3), (4, vi b4), (5, vr 1 b5), (6, vi (b6 + 1))] ⟨rfl, rfl, rfl, rfl, rfl, rfl, rfl, trivial⟩ ?_
            exact ih q14.2 b1 b2 b3 b4 b5 (b6 + 1) (h_b3) (h_b5) h
        · have h := ifn c11 h
          refine m_blk 46 [(0, vr 0 0), (1, vi b1), (2, vi b2), (3, vr 1 b3), (4, vi b4), (5, vr 1 b5), (6, vi b6)] [vi 1] C f_x_Mo_split_41_2 rfl ?_
          refine m_blk 48 [(0, vr 0 0), (1, vi b1), (2, vi b2), (3, vr 1 b3), (4, vi b4), (5, vr 1 b5), (6, vi b6)] [vi b4, vi 1] C f_x_Mo_split_46_1 rfl ?_
          obtain ⟨c16, h⟩ := igd h
          refine m_icmp_ne (tgt := 70) C e_x_Mo_split_48 (by decide) (by decide) c16 (fun c17 => ?_) (fun c17 => ?_)
          · have h := ifn c17 h
            refine m_blk 9 [(6, vi (b6 + 1)), (0, vr 0 0), (1, vi b1), (2, vi b2), (3, vr 1 b3), (4, vi b4), (5, vr 1 b5)] [] C f_x_Mo_split_70_2 rfl ?_
            refine m_loc [(0, vr 0 0), (1, vi b1), (2, vi b2), (3, vr 1 b3), (4, vi b4), (5, vr 1 b5), (6, vi (b6 + 1))] ⟨rfl, rfl, rfl, rfl, rfl, rfl, rfl, trivial⟩ ?_
            exact ih q8.2 b1 b2 b3 b4 b5 (b6 + 1) (h_b3) (h_b5) h
          · have h := ifp c17 h
            refine m_blk 54 [(0, vr 0 0), (1, vi b1), (2, vi b2), (3, vr 1 b3), (4, vi b4), (5, vr 1 b5), (6, vi b6)] [vr 1 b3, vr 1 b5] C f_x_Mo_split_51_2 rfl ?_
            refine m_getrN C e_x_Mo_split_54 fg_Mo_279 rfl (h_b3) rfl ?_
            refine m_blk 59 [(0, vr 0 0), (1, vi b1), (2, vi b2), (3, vr 1 b3), (4, vi b4), (5, vr 1 b5), (6, vi b6)] [vi b6, vr 3 b3, vr 1 b5] C f_x_Mo_split_57_1 rfl ?_
            refine m_iald C e_x_Mo_split_59 rfl (h_b3) (by decide) c7.1 c7.2 (q8.2 3 b3 b6.toNat) rfl ?_
            refine m_blk 61 [(0, vr 0 0), (1, vi b1), (2, vi b2), (3, vr 1 b3), (4, vi b4), (5, vr 1 b5), (6, vi b6)] [vr 1 b3, vi (q8.2 3 b3 b6.toNat), vr 1 b5] C f_x_Mo_split_60_1 rfl ?_
            refine m_getrN C e_x_Mo_split_61 fg_Mo_285 rfl (h_b3) rfl ?_
            refine m_blk 66 [(0, vr 0 0), (1, vi b1), (2, vi b2), (3, vr 1 b3), (4, vi b4), (5, vr 1 b5), (6, vi b6)] [vi b6, vr 4 b3, vi (q8.2 3 b3 b6.toNat), vr 1 b5] C f_x_Mo_split_64_1 rfl ?_
            refine m_lald C e_x_Mo_split_66 rfl (h_b3) (by decide) c7.1 c7.2 (q8.2 4 b3 b6.toNat) rfl ?_
            obtain ⟨q18, e19, h⟩ := obd h
            refine m_callV C Rm Y [vi (q8.2 3 b3 b6.toNat), vl (q8.2 4 b3 b6.toNat)] [] (x_Odds_come l D B H0 ad _ b5 (q8.2 3 b3 b6.toNat) (q8.2 4 b3 b6.toNat) (h_b5) hS _ _ e19) cl_Mo_289 rfl (h_b5) rfl rfl e_x_Mo_split_67 rfl rfl rfl ⟨by decide, by decide⟩ ?_
            rintro _ _ ⟨rfl, rfl⟩
            show JM g D ad w0 q18.2 70 [(0, vr 0 0), (1, vi b1), (2, vi b2), (3, vr 1 b3), (4, vi b4), (5, vr 1 b5), (6, vi b6)] []
            refine m_blk 9 [(6, vi (b6 + 1)), (0, vr 0 0), (1, vi b1), (2, vi b2), (3, vr 1 b3), (4, vi b4), (5, vr 1 b5)] [] C f_x_Mo_split_70_2 rfl ?_
            refine m_loc [(0, vr 0 0), (1, vi b1), (2, vi b2), (3, vr 1 b3), (4, vi b4), (5, vr 1 b5), (6, vi (b6 + 1))] ⟨rfl, rfl, rfl, rfl, rfl, rfl, rfl, trivial⟩ ?_
            exact ih q18.2 b1 b2 b3 b4 b5 (b6 + 1) (h_b3) (h_b5) h
  show JM g D ad w0 A 0 [(0, vr 0 0), (1, vi a0), (2, vi a1), (3, vr 1 a2), (4, vi a3)] []
  unfold f_Mo_split at h
  refine m_blk 1 [(0, vr 0 0), (1, vi a0), (2, vi a1), (3, vr 1 a2), (4, vi a3)] [vr 0 0] C f_x_Mo_split_0_1 rfl ?_
  obtain ⟨q20, e21, h⟩ := obd h
  refine m_callV C Rm Y [] [] (x_Mo_takenO l D B H0 ad _  hS _ _ e21) cl_Mo_275 rfl (by decide) rfl rfl e_x_Mo_split_1 rfl rfl rfl ⟨by decide, by decide⟩ ?_
  rintro _ _ ⟨rfl, rfl, g22⟩
  show JM g D ad w0 q20.2 4 [(0, vr 0 0), (1, vi a0), (2, vi a1), (3, vr 1 a2), (4, vi a3)] [vr 1 q20.1.toNat]
  refine m_blk 9 [(6, vi 0), (5, vr 1 q20.1.toNat), (0, vr 0 0), (1, vi a0), (2, vi a1), (3, vr 1 a2), (4, vi a3)] [] C f_x_Mo_split_4_3 rfl ?_
  refine m_loc [(0, vr 0 0), (1, vi a0), (2, vi a1), (3, vr 1 a2), (4, vi a3), (5, vr 1 q20.1.toNat), (6, vi 0)] ⟨rfl, rfl, rfl, rfl, rfl, rfl, rfl, trivial⟩ ?_
  exact hd_9 _ q20.2 a0 a1 a2 a3 q20.1.toNat 0 (h_a2) (g22) h

def f_JL_ntz (A : mA) (a0 : Int) : Option (Int × mA) := (if (nm32 a0) = 0 then (Option.bind (f_JI_ntz A (nm32 (lUsh a0 32))) (fun q4 => (some ((nm32 (32 + q4.1)), q4.2)))) else (Option.bind (f_JI_ntz A (nm32 a0)) (fun q2 => (some (q2.1, q2.2)))))
theorem f_x_JL_ntz_0_1 : mblkB b_JL_numberOfTrailingZeros [(0, .lload_n 0, vi 0)] = true := by decide +kernel
theorem f_x_JL_ntz_1_1 : mblkB b_JL_numberOfTrailingZeros [(1, .l2i, vi 0)] = true := by decide +kernel
theorem f_x_JL_ntz_2_2 : mblkB b_JL_numberOfTrailingZeros [(2, .istore_n 2, vi 0), (3, .iload_n 2, vi 0)] = true := by decide +kernel
theorem e_x_JL_ntz_4 : decode b_JL_numberOfTrailingZeros 4 = .ok (.ifCond .ne 17, 3) := by decide +kernel
theorem f_x_JL_ntz_21_1 : mblkB b_JL_numberOfTrailingZeros [(21, .iload_n 2, vi 0)] = true := by decide +kernel
theorem e_x_JL_ntz_22 : decode b_JL_numberOfTrailingZeros 22 = .ok (.invokestatic 311, 3) := by decide +kernel
theorem e_x_JL_ntz_25 : decode b_JL_numberOfTrailingZeros 25 = .ok (.ireturn, 1) := by decide +kernel
theorem f_x_JL_ntz_7_3 : mblkB b_JL_numberOfTrailingZeros [(7, .bipush 32, vi 32), (9, .lload_n 0, vi 0), (10, .bipush 32, vi 32)] = true := by decide +kernel
theorem e_x_JL_ntz_12 : decode b_JL_numberOfTrailingZeros 12 = .ok (.lushr, 1) := by decide +kernel
theorem f_x_JL_ntz_13_1 : mblkB b_JL_numberOfTrailingZeros [(13, .l2i, vi 0)] = true := by decide +kernel
theorem e_x_JL_ntz_14 : decode b_JL_numberOfTrailingZeros 14 = .ok (.invokestatic 311, 3) := by decide +kernel
theorem f_x_JL_ntz_17_2 : mblkB b_JL_numberOfTrailingZeros [(17, .iadd, vi 0), (18, .goto 7, vi 25)] = true := by decide +kernel
set_option maxHeartbeats 4000000 in
set_option maxRecDepth 20000 in
theorem x_JL_ntz  : ∀ (l : Launch) (D : va_G) (B : Nat) (H0 : Heap) (ad : mAd) (A : mA) (a0 : Int) (hS : mStr D ad) (r9 : Int) (A9 : mA), f_JL_ntz  A a0 = some (r9, A9) → mMet l D B H0 ad y_JL_numberOfTrailingZeros b_JL_numberOfTrailingZeros 3 (some .int) 1 21 [vl a0] A (fun v A' => v = some (vi r9) ∧ A' = A9) := by
  intro l D B H0 ad A a0  hS r9 A9 h
  refine m_met (by decide) rfl (fun g w0 C Rm Y E => ?_)
  show JM g D ad w0 A 0 [(0, vl a0)] []
  unfold f_JL_ntz at h
  refine m_blk 1 [(0, vl a0)] [vl a0] C f_x_JL_ntz_0_1 rfl ?_
  refine m_blk 2 [(0, vl a0)] [vi a0] C f_x_JL_ntz_1_1 rfl ?_
  refine m_nm ?_
  refine m_blk 4 [(2, vi (nm32 a0)), (0, vl a0)] [vi (nm32 a0)] C f_x_JL_ntz_2_2 rfl ?_
  refine m_if_ne (tgt := 21) C e_x_JL_ntz_4 (by decide) (nm32_r _) (fun c1 => ?_) (fun c1 => ?_)
  · have h := ifn c1 h
    refine m_blk 22 [(2, vi (nm32 a0)), (0, vl a0)] [vi (nm32 a0)] C f_x_JL_ntz_21_1 rfl ?_
    obtain ⟨q2, e3, h⟩ := obd h
    refine m_callS C Rm Y [vi (nm32 a0)] [] (x_JI_ntz l D B H0 ad _ (nm32 a0) hS _ _ e3) cl_JL_311 e_x_JL_ntz_22 rfl rfl rfl ⟨by decide, by decide⟩ ?_
    rintro _ _ ⟨rfl, rfl⟩
    show JM g D ad w0 q2.2 25 [(2, vi (nm32 a0)), (0, vl a0)] [vi q2.1]
    exact m_iret C Rm E e_x_JL_ntz_25 (fin1 h)
  · have h := ifp c1 h
    refine m_blk 12 [(2, vi (nm32 a0)), (0, vl a0)] [vi 32, vl a0, vi 32] C f_x_JL_ntz_7_3 rfl ?_
    refine m_lushr2 C e_x_JL_ntz_12 ?_
    refine m_blk 14 [(2, vi (nm32 a0)), (0, vl a0)] [vi (lUsh a0 32), vi 32] C f_x_JL_ntz_13_1 rfl ?_
    refine m_nm ?_
    obtain ⟨q4, e5, h⟩ := obd h
    refine m_callS C Rm Y [vi (nm32 (lUsh a0 32))] [vi 32] (x_JI_ntz l D B H0 ad _ (nm32 (lUsh a0 32)) hS _ _ e5) cl_JL_311 e_x_JL_ntz_14 rfl rfl rfl ⟨by decide, by decide⟩ ?_
    rintro _ _ ⟨rfl, rfl⟩
    show JM g D ad w0 q4.2 17 [(2, vi (nm32 a0)), (0, vl a0)] [vi q4.1, vi 32]
    refine m_blk 25 [(2, vi (nm32 a0)), (0, vl a0)] [vi (32 + q4.1)] C f_x_JL_ntz_17_2 rfl ?_
    refine m_nm ?_
    exact m_iret C Rm E e_x_JL_ntz_25 (fin1 h)

def f_Mo_times (A : mA) (a0 : Int) (a1 : Int) : Option (Int × mA) := (if g64 a1 then (if (lc a1 0) = 0 then (some (0, A)) else (Option.bind (f_JL_ntz A a1) (fun q4 => (some (((lShr a0 (50 - q4.1)) * (lShr a1 q4.1)), q4.2))))) else none)
theorem f_x_Mo_times_0_2 : mblkB b_Mo_times [(0, .lload_n 2, vi 0), (1, .lconst 0, vl 0)] = true := by decide +kernel
theorem e_x_Mo_times_2 : decode b_Mo_times 2 = .ok (.lcmp, 1) := by decide +kernel
theorem e_x_Mo_times_3 : decode b_Mo_times 3 = .ok (.ifCond .ne 5, 3) := by decide +kernel
theorem f_x_Mo_times_8_1 : mblkB b_Mo_times [(8, .lload_n 2, vi 0)] = true := by decide +kernel
theorem e_x_Mo_times_9 : decode b_Mo_times 9 = .ok (.invokestatic 342, 3) := by decide +kernel
theorem f_x_Mo_times_12_10 : mblkB b_Mo_times [(12, .istore 4, vi 0), (14, .lload_n 0, vi 0), (15, .bipush 50, vi 50), (17, .iload 4, vi 0), (19, .isub, vi 0), (20, .lshr, vi 0), (21, .lload_n 2, vi 0), (22, .iload 4, vi 0), (24, .lshr, vi 0), (25, .lmul, vi 0)] = true := by decide +kernel
theorem e_x_Mo_times_26 : decode b_Mo_times 26 = .ok (.lreturn, 1) := by decide +kernel
theorem f_x_Mo_times_6_1 : mblkB b_Mo_times [(6, .lconst 0, vl 0)] = true := by decide +kernel
theorem e_x_Mo_times_7 : decode b_Mo_times 7 = .ok (.lreturn, 1) := by decide +kernel
set_option maxHeartbeats 4000000 in
set_option maxRecDepth 20000 in
theorem x_Mo_times  : ∀ (l : Launch) (D : va_G) (B : Nat) (H0 : Heap) (ad : mAd) (A : mA) (a0 : Int) (a1 : Int) (hS : mStr D ad) (r9 : Int) (A9 : mA), f_Mo_times  A a0 a1 = some (r9, A9) → mMet l D B H0 ad y_Mo_times b_Mo_times 5 (some .long) 2 43 [vl a0, vl a1] A (fun v A' => v = some (vl r9) ∧ A' = A9) := by
  intro l D B H0 ad A a0 a1  hS r9 A9 h
  refine m_met (by decide) rfl (fun g w0 C Rm Y E => ?_)
  show JM g D ad w0 A 0 [(0, vl a0), (2, vl a1)] []
  unfold f_Mo_times at h
  refine m_blk 2 [(0, vl a0), (2, vl a1)] [vl 0, vl a1] C f_x_Mo_times_0_2 rfl ?_
  obtain ⟨c1, h⟩ := igd h
  refine m_lcmp C e_x_Mo_times_2 c1 (by decide) (fun z2 hz2 => ?_)
  obtain rfl : z2 = lc a1 0 := lc_of hz2
  refine m_if_ne (tgt := 8) C e_x_Mo_times_3 (by decide) lc_r (fun c3 => ?_) (fun c3 => ?_)
  · have h := ifn c3 h
    refine m_blk 9 [(0, vl a0), (2, vl a1)] [vl a1] C f_x_Mo_times_8_1 rfl ?_
    obtain ⟨q4, e5, h⟩ := obd h
    refine m_callS C Rm Y [vl a1] [] (x_JL_ntz l D B H0 ad _ a1 hS _ _ e5) cl_Mo_342 e_x_Mo_times_9 rfl rfl rfl ⟨by decide, by decide⟩ ?_
    rintro _ _ ⟨rfl, rfl⟩
    show JM g D ad w0 q4.2 12 [(0, vl a0), (2, vl a1)] [vi q4.1]
    refine m_blk 26 [(4, vi q4.1), (0, vl a0), (2, vl a1)] [vl ((lShr a0 (50 - q4.1)) * (lShr a1 q4.1))] C f_x_Mo_times_12_10 rfl ?_
    exact m_lret C Rm E e_x_Mo_times_26 (finL h)
  · have h := ifp c3 h
    refine m_blk 7 [(0, vl a0), (2, vl a1)] [vl 0] C f_x_Mo_times_6_1 rfl ?_
    exact m_lret C Rm E e_x_Mo_times_7 (finL h)

def f_Mo_choose_130 (mk : mA → Int → Int → Int → Nat → Int → Option (Int × mA)) : Nat → mA → Nat → Nat → Int → Option (Int × mA)
  | 0, _, _, _, _ => none
  | n + 1, A, b6, b7, b8 => (if g32 b8 then if g32 (A 1 b6 2) then (if (A 1 b6 2) ≤ b8 then (some (((b7 : Nat) : Int), A)) else (if (0 ≤ b8 ∧ b8 < ((301 : Nat) : Int)) then (Option.bind (f_Odds_come A b7 (A 3 b6 b8.toNat) (A 4 b6 b8.toNat)) (fun q5 => (f_Mo_choose_130 mk n q5.2 b6 b7 (b8 + 1)))) else none)) else none else none)
def f_Mo_choose_90 (mk : mA → Int → Int → Int → Nat → Int → Option (Int × mA)) : Nat → mA → Nat → Nat → Nat → Int → Option (Int × mA)
  | 0, _, _, _, _, _ => none
  | n + 1, A, b5, b6, b7, b8 => (if g32 b8 then if g32 (A 1 b5 2) then (if (A 1 b5 2) ≤ b8 then (f_Mo_choose_130 mk 310 A b6 b7 0) else (if (0 ≤ b8 ∧ b8 < ((301 : Nat) : Int)) then (Option.bind (f_Odds_come A b7 (A 3 b5 b8.toNat) (A 4 b5 b8.toNat)) (fun q11 => (f_Mo_choose_90 mk n q11.2 b5 b6 b7 (b8 + 1)))) else none)) else none else none)
def f_Mo_choose (mk : mA → Int → Int → Int → Nat → Int → Option (Int × mA)) (A : mA) (a0 : Int) (a1 : Int) (a2 : Nat) (a3 : Int) : Option (Int × mA) := (if (0 ≤ a0 ∧ a0 < ((6 : Nat) : Int)) then (if (0 ≤ a1 ∧ a1 < ((16 : Nat) : Int)) then (Option.bind (f_Mo_split A a0 a1 a2 1) (fun q16 => (Option.bind (mk q16.2 a0 (a1 + 1) (A 38 a0.toNat a1.toNat) q16.1.toNat a3) (fun q19 => (if g32 (q19.2 0 0 34) then (if (q19.2 0 0 34) = 0 then (Option.bind (f_Mo_split q19.2 a0 a1 a2 0) (fun q26 => (Option.bind (mk q26.2 a0 (q19.2 38 a0.toNat a1.toNat) (q19.2 37 a0.toNat a1.toNat) q26.1.toNat a3) (fun q29 => (if g32 (q29.2 0 0 34) then (if (q29.2 0 0 34) = 0 then (Option.bind (f_Mo_takenO q29.2 ) (fun q34 => (f_Mo_choose_90 mk 310 q34.2 q19.1.toNat q29.1.toNat q34.1.toNat 0))) else (some (((q29.1.toNat : Nat) : Int), q29.2))) else none))))) else (some (((q19.1.toNat : Nat) : Int), q19.2))) else none))))) else none) else none)
theorem f_x_Mo_choose_0_6 : mblkB b_Mo_choose [(0, .aload_n 0, vi 0), (1, .iload_n 1, vi 0), (2, .iload_n 2, vi 0), (3, .iconst 1, vi 1), (4, .iadd, vi 0), (5, .aload_n 0, vi 0)] = true := by decide +kernel
theorem e_x_Mo_choose_6 : decode b_Mo_choose 6 = .ok (.getfield 33, 3) := by decide +kernel
theorem f_x_Mo_choose_9_1 : mblkB b_Mo_choose [(9, .iload_n 1, vi 0)] = true := by decide +kernel
theorem e_x_Mo_choose_10 : decode b_Mo_choose 10 = .ok (.aaload, 1) := by decide +kernel
theorem f_x_Mo_choose_11_1 : mblkB b_Mo_choose [(11, .iload_n 2, vi 0)] = true := by decide +kernel
theorem e_x_Mo_choose_12 : decode b_Mo_choose 12 = .ok (.iaload, 1) := by decide +kernel
theorem f_x_Mo_choose_13_5 : mblkB b_Mo_choose [(13, .aload_n 0, vi 0), (14, .iload_n 1, vi 0), (15, .iload_n 2, vi 0), (16, .aload_n 3, vi 0), (17, .iconst 1, vi 1)] = true := by decide +kernel
theorem e_x_Mo_choose_18 : decode b_Mo_choose 18 = .ok (.invokevirtual 322, 3) := by decide +kernel
theorem f_x_Mo_choose_21_1 : mblkB b_Mo_choose [(21, .iload 4, vi 0)] = true := by decide +kernel
theorem e_x_Mo_choose_23 : decode b_Mo_choose 23 = .ok (.invokevirtual 336, 3) := by decide +kernel
theorem f_x_Mo_choose_26_2 : mblkB b_Mo_choose [(26, .astore 5, vi 0), (28, .aload_n 0, vi 0)] = true := by decide +kernel
theorem e_x_Mo_choose_29 : decode b_Mo_choose 29 = .ok (.getfield 297, 3) := by decide +kernel
theorem e_x_Mo_choose_32 : decode b_Mo_choose 32 = .ok (.ifCond .eq 6, 3) := by decide +kernel
theorem f_x_Mo_choose_38_3 : mblkB b_Mo_choose [(38, .aload_n 0, vi 0), (39, .iload_n 1, vi 0), (40, .aload_n 0, vi 0)] = true := by decide +kernel
theorem e_x_Mo_choose_41 : decode b_Mo_choose 41 = .ok (.getfield 33, 3) := by decide +kernel
theorem f_x_Mo_choose_44_1 : mblkB b_Mo_choose [(44, .iload_n 1, vi 0)] = true := by decide +kernel
theorem e_x_Mo_choose_45 : decode b_Mo_choose 45 = .ok (.aaload, 1) := by decide +kernel
theorem f_x_Mo_choose_46_1 : mblkB b_Mo_choose [(46, .iload_n 2, vi 0)] = true := by decide +kernel
theorem e_x_Mo_choose_47 : decode b_Mo_choose 47 = .ok (.iaload, 1) := by decide +kernel
theorem f_x_Mo_choose_48_1 : mblkB b_Mo_choose [(48, .aload_n 0, vi 0)] = true := by decide +kernel
theorem e_x_Mo_choose_49 : decode b_Mo_choose 49 = .ok (.getfield 30, 3) := by decide +kernel
theorem f_x_Mo_choose_52_1 : mblkB b_Mo_choose [(52, .iload_n 1, vi 0)] = true := by decide +kernel
theorem e_x_Mo_choose_53 : decode b_Mo_choose 53 = .ok (.aaload, 1) := by decide +kernel
theorem f_x_Mo_choose_54_1 : mblkB b_Mo_choose [(54, .iload_n 2, vi 0)] = true := by decide +kernel
theorem e_x_Mo_choose_55 : decode b_Mo_choose 55 = .ok (.iaload, 1) := by decide +kernel
theorem f_x_Mo_choose_56_5 : mblkB b_Mo_choose [(56, .aload_n 0, vi 0), (57, .iload_n 1, vi 0), (58, .iload_n 2, vi 0), (59, .aload_n 3, vi 0), (60, .iconst 0, vi 0)] = true := by decide +kernel
theorem e_x_Mo_choose_61 : decode b_Mo_choose 61 = .ok (.invokevirtual 322, 3) := by decide +kernel
theorem f_x_Mo_choose_64_1 : mblkB b_Mo_choose [(64, .iload 4, vi 0)] = true := by decide +kernel
theorem e_x_Mo_choose_66 : decode b_Mo_choose 66 = .ok (.invokevirtual 336, 3) := by decide +kernel
theorem f_x_Mo_choose_69_2 : mblkB b_Mo_choose [(69, .astore 6, vi 0), (71, .aload_n 0, vi 0)] = true := by decide +kernel
theorem e_x_Mo_choose_72 : decode b_Mo_choose 72 = .ok (.getfield 297, 3) := by decide +kernel
theorem e_x_Mo_choose_75 : decode b_Mo_choose 75 = .ok (.ifCond .eq 6, 3) := by decide +kernel
theorem f_x_Mo_choose_81_1 : mblkB b_Mo_choose [(81, .aload_n 0, vi 0)] = true := by decide +kernel
theorem e_x_Mo_choose_82 : decode b_Mo_choose 82 = .ok (.invokevirtual 275, 3) := by decide +kernel
theorem f_x_Mo_choose_85_3 : mblkB b_Mo_choose [(85, .astore 7, vi 0), (87, .iconst 0, vi 0), (88, .istore 8, vi 0)] = true := by decide +kernel
theorem f_x_Mo_choose_78_1 : mblkB b_Mo_choose [(78, .aload 6, vi 0)] = true := by decide +kernel
theorem e_x_Mo_choose_80 : decode b_Mo_choose 80 = .ok (.areturn, 1) := by decide +kernel
theorem f_x_Mo_choose_35_1 : mblkB b_Mo_choose [(35, .aload 5, vi 0)] = true := by decide +kernel
theorem e_x_Mo_choose_37 : decode b_Mo_choose 37 = .ok (.areturn, 1) := by decide +kernel
theorem f_x_Mo_choose_90_2 : mblkB b_Mo_choose [(90, .iload 8, vi 0), (92, .aload 5, vi 0)] = true := by decide +kernel
theorem e_x_Mo_choose_94 : decode b_Mo_choose 94 = .ok (.getfield 272, 3) := by decide +kernel
theorem e_x_Mo_choose_97 : decode b_Mo_choose 97 = .ok (.if_icmp .ge 30, 3) := by decide +kernel
theorem f_x_Mo_choose_127_2 : mblkB b_Mo_choose [(127, .iconst 0, vi 0), (128, .istore 8, vi 0)] = true := by decide +kernel
theorem f_x_Mo_choose_100_2 : mblkB b_Mo_choose [(100, .aload 7, vi 0), (102, .aload 5, vi 0)] = true := by decide +kernel
theorem e_x_Mo_choose_104 : decode b_Mo_choose 104 = .ok (.getfield 279, 3) := by decide +kernel
theorem f_x_Mo_choose_107_1 : mblkB b_Mo_choose [(107, .iload 8, vi 0)] = true := by decide +kernel
theorem e_x_Mo_choose_109 : decode b_Mo_choose 109 = .ok (.iaload, 1) := by decide +kernel
theorem f_x_Mo_choose_110_1 : mblkB b_Mo_choose [(110, .aload 5, vi 0)] = true := by decide +kernel
theorem e_x_Mo_choose_112 : decode b_Mo_choose 112 = .ok (.getfield 285, 3) := by decide +kernel
theorem f_x_Mo_choose_115_1 : mblkB b_Mo_choose [(115, .iload 8, vi 0)] = true := by decide +kernel
theorem e_x_Mo_choose_117 : decode b_Mo_choose 117 = .ok (.laload, 1) := by decide +kernel
theorem e_x_Mo_choose_118 : decode b_Mo_choose 118 = .ok (.invokevirtual 289, 3) := by decide +kernel
theorem f_x_Mo_choose_121_2 : mblkB b_Mo_choose [(121, .iinc 8 1, vi 1), (124, .goto (-34), vi 90)] = true := by decide +kernel
theorem f_x_Mo_choose_130_2 : mblkB b_Mo_choose [(130, .iload 8, vi 0), (132, .aload 6, vi 0)] = true := by decide +kernel
theorem e_x_Mo_choose_134 : decode b_Mo_choose 134 = .ok (.getfield 272, 3) := by decide +kernel
theorem e_x_Mo_choose_137 : decode b_Mo_choose 137 = .ok (.if_icmp .ge 30, 3) := by decide +kernel
theorem f_x_Mo_choose_167_1 : mblkB b_Mo_choose [(167, .aload 7, vi 0)] = true := by decide +kernel
theorem e_x_Mo_choose_169 : decode b_Mo_choose 169 = .ok (.areturn, 1) := by decide +kernel
theorem f_x_Mo_choose_140_2 : mblkB b_Mo_choose [(140, .aload 7, vi 0), (142, .aload 6, vi 0)] = true := by decide +kernel
theorem e_x_Mo_choose_144 : decode b_Mo_choose 144 = .ok (.getfield 279, 3) := by decide +kernel
theorem f_x_Mo_choose_147_1 : mblkB b_Mo_choose [(147, .iload 8, vi 0)] = true := by decide +kernel
theorem e_x_Mo_choose_149 : decode b_Mo_choose 149 = .ok (.iaload, 1) := by decide +kernel
theorem f_x_Mo_choose_150_1 : mblkB b_Mo_choose [(150, .aload 6, vi 0)] = true := by decide +kernel
theorem e_x_Mo_choose_152 : decode b_Mo_choose 152 = .ok (.getfield 285, 3) := by decide +kernel
theorem f_x_Mo_choose_155_1 : mblkB b_Mo_choose [(155, .iload 8, vi 0)] = true := by decide +kernel
theorem e_x_Mo_choose_157 : decode b_Mo_choose 157 = .ok (.laload, 1) := by decide +kernel
theorem e_x_Mo_choose_158 : decode b_Mo_choose 158 = .ok (.invokevirtual 289, 3) := by decide +kernel
theorem f_x_Mo_choose_161_2 : mblkB b_Mo_choose [(161, .iinc 8 1, vi 1), (164, .goto (-34), vi 130)] = true := by decide +kernel
set_option maxHeartbeats 4000000 in
set_option maxRecDepth 20000 in
theorem x_Mo_choose {mk : mA → Int → Int → Int → Nat → Int → Option (Int × mA)} {fr lo : Nat} (hmk : ∀ (l : Launch) (D : va_G) (B : Nat) (H0 : Heap) (ad : mAd) (A : mA) (a0 : Int) (a1 : Int) (a2 : Int) (a3 : Nat) (a4 : Int) (h_a3 : a3 < 200) (hS : mStr D ad) (r9 : Int) (A9 : mA), mk A a0 a1 a2 a3 a4 = some (r9, A9) → mMet l D B H0 ad y_Mo_make b_Mo_make 11 (some (.object "ChanceStepsModel$Odds")) (fr + 760) (lo + 26000) [vr 0 0, vi a0, vi a1, vi a2, vr 1 a3, vi a4] A (fun v A' => v = some (vr 1 r9.toNat) ∧ A' = A9 ∧ r9.toNat < 200)) : ∀ (l : Launch) (D : va_G) (B : Nat) (H0 : Heap) (ad : mAd) (A : mA) (a0 : Int) (a1 : Int) (a2 : Nat) (a3 : Int) (h_a2 : a2 < 200) (hS : mStr D ad) (r9 : Int) (A9 : mA), f_Mo_choose mk A a0 a1 a2 a3 = some (r9, A9) → mMet l D B H0 ad y_Mo_choose b_Mo_choose 9 (some (.object "ChanceStepsModel$Odds")) (fr + 762) (lo + 26060) [vr 0 0, vi a0, vi a1, vr 1 a2, vi a3] A (fun v A' => v = some (vr 1 r9.toNat) ∧ A' = A9 ∧ r9.toNat < 200) := by
  intro l D B H0 ad A a0 a1 a2 a3 h_a2 hS r9 A9 h
  refine m_met (by decide) rfl (fun g w0 C Rm Y E => ?_)
  have hd_130 : ∀ (n : Nat) (A : mA) (b6 : Nat) (b7 : Nat) (b8 : Int) , b6 < 200 → b7 < 200 → f_Mo_choose_130 mk n A b6 b7 b8 = some (r9, A9) → JM g D ad w0 A 130 [(6, vr 1 b6), (7, vr 1 b7), (8, vi b8)] [] := by
    intro n
    induction n with
    | zero => intro A b6 b7 b8 h_b6 h_b7 h; cases h
    | succ n ih =>
      intro A b6 b7 b8 h_b6 h_b7 h
      unfold f_Mo_choose_130 at h
      refine m_blk 134 [(6, vr 1 b6), (7, vr 1 b7), (8, vi b8)] [vr 1 b6, vi b8] C f_x_Mo_choose_130_2 rfl ?_
      refine m_getiN C e_x_Mo_choose_134 fg_Mo_272 rfl (h_b6) rfl (A 1 b6 2) rfl ?_
      obtain ⟨c1, h⟩ := igd h
      obtain ⟨c2, h⟩ := igd h
      refine m_icmp_ge (tgt := 167) C e_x_Mo_choose_137 (by decide) c1 c2 (fun c3 => ?_) (fun c3 => ?_)
      · have h := ifp c3 h
        refine m_blk 169 [(6, vr 1 b6), (7, vr 1 b7), (8, vi b8)] [vr 1 b7] C f_x_Mo_choose_167_1 rfl ?_
        exact m_aret9 C Rm E e_x_Mo_choose_169 (finR9 h) (h_b7)
      · have h := ifn c3 h
        refine m_blk 144 [(6, vr 1 b6), (7, vr 1 b7), (8, vi b8)] [vr 1 b6, vr 1 b7] C f_x_Mo_choose_140_2 rfl ?_
        refine m_getrN C e_x_Mo_choose_144 fg_Mo_279 rfl (h_b6) rfl ?_
        refine m_blk 149 [(6, vr 1 b6), (7, vr 1 b7), (8, vi b8)] [vi b8, vr 3 b6, vr 1 b7] C f_x_Mo_choose_147_1 rfl ?_
        obtain ⟨c4, h⟩ := igd h
        refine m_iald C e_x_Mo_choose_149 rfl (h_b6) (by decide) c4.1 c4.2 (A 3 b6 b8.toNat) rfl ?_
        refine m_blk 152 [(6, vr 1 b6), (7, vr 1 b7), (8, vi b8)] [vr 1 b6, vi (A 3 b6 b8.toNat), vr 1 b7] C f_x_Mo_choose_150_1 rfl ?_
        refine m_getrN C e_x_Mo_choose_152 fg_Mo_285 rfl (h_b6) rfl ?_
        refine m_blk 157 [(6, vr 1 b6), (7, vr 1 b7), (8, vi b8)] [vi b8, vr 4 b6, vi (A 3 b6 b8.toNat), vr 1 b7] C f_x_Mo_choose_155_1 rfl ?_
        refine m_lald C e_x_Mo_choose_157 rfl (h_b6) (by decide) c4.1 c4.2 (A 4 b6 b8.toNat) rfl ?_
        obtain ⟨q5, e6, h⟩ := obd h
        refine m_callV C Rm Y [vi (A 3 b6 b8.toNat), vl (A 4 b6 b8.toNat)] [] (x_Odds_come l D B H0 ad _ b7 (A 3 b6 b8.toNat) (A 4 b6 b8.toNat) (h_b7) hS _ _ e6) cl_Mo_289 rfl (h_b7) rfl rfl e_x_Mo_choose_158 rfl rfl rfl ⟨by show _ ≤ ((fr + 762) : Nat); omega, by show _ ≤ ((lo + 26060) : Nat); omega⟩ ?_
        rintro _ _ ⟨rfl, rfl⟩
        show JM g D ad w0 q5.2 161 [(6, vr 1 b6), (7, vr 1 b7), (8, vi b8)] []
        refine m_blk 130 [(8, vi (b8 + 1)), (6, vr 1 b6), (7, vr 1 b7)] [] C f_x_Mo_choose_161_2 rfl ?_
        refine m_loc [(6, vr 1 b6), (7, vr 1 b7), (8, vi (b8 + 1))] ⟨rfl, rfl, rfl, trivial⟩ ?_
        exact ih q5.2 b6 b7 (b8 + 1) (h_b6) (h_b7) h
  have hd_90 : ∀ (n : Nat) (A : mA) (b5 : Nat) (b6 : Nat) (b7 : Nat) (b8 : Int) , b5 < 200 → b6 < 200 → b7 < 200 → f_Mo_choose_90 mk n A b5 b6 b7 b8 = some (r9, A9) → JM g D ad w0 A 90 [(5, vr 1 b5), (6, vr 1 b6), (7, vr 1 b7), (8, vi b8)] [] := by
    intro n
    induction n with
    | zero => intro A b5 b6 b7 b8 h_b5 h_b6 h_b7 h; cases h
    | succ n ih =>
      intro A b5 b6 b7 b8 h_b5 h_b6 h_b7 h
      unfold f_Mo_choose_90 at h
      refine m_blk 94 [(5, vr 1 b5), (6, vr 1 b6), (7, vr 1 b7), (8, vi b8)] [vr 1 b5, vi b8] C f_x_Mo_choose_90_2 rfl ?_
      refine m_getiN C e_x_Mo_choose_94 fg_Mo_272 rfl (h_b5) rfl (A 1 b5 2) rfl ?_
      obtain ⟨c7, h⟩ := igd h
      obtain ⟨c8, h⟩ := igd h
      refine m_icmp_ge (tgt := 127) C e_x_Mo_choose_97 (by decide) c7 c8 (fun c9 => ?_) (fun c9 => ?_)
      · have h := ifp c9 h
        refine m_blk 130 [(8, vi 0), (5, vr 1 b5), (6, vr 1 b6), (7, vr 1 b7)] [] C f_x_Mo_choose_127_2 rfl ?_
        refine m_loc [(6, vr 1 b6), (7, vr 1 b7), (8, vi 0)] ⟨rfl, rfl, rfl, trivial⟩ ?_
        exact hd_130 _ A b6 b7 0 (h_b6) (h_b7) h
      · have h := ifn c9 h
        refine m_blk 104 [(5, vr 1 b5), (6, vr 1 b6), (7, vr 1 b7), (8, vi b8)] [vr 1 b5, vr 1 b7] C f_x_Mo_choose_100_2 rfl ?_
        refine m_getrN C e_x_Mo_choose_104 fg_Mo_279 rfl (h_b5) rfl ?_
        refine m_blk 109 [(5, vr 1 b5), (6, vr 1 b6), (7, vr 1 b7), (8, vi b8)] [vi b8, vr 3 b5, vr 1 b7] C f_x_Mo_choose_107_1 rfl ?_
        obtain ⟨c10, h⟩ := igd h
        refine m_iald C e_x_Mo_choose_109 rfl (h_b5) (by decide) c10.1 c10.2 (A 3 b5 b8.toNat) rfl ?_
        refine m_blk 112 [(5, vr 1 b5), (6, vr 1 b6), (7, vr 1 b7), (8, vi b8)] [vr 1 b5, vi (A 3 b5 b8.toNat), vr 1 b7] C f_x_Mo_choose_110_1 rfl ?_
        refine m_getrN C e_x_Mo_choose_112 fg_Mo_285 rfl (h_b5) rfl ?_
        refine m_blk 117 [(5, vr 1 b5), (6, vr 1 b6), (7, vr 1 b7), (8, vi b8)] [vi b8, vr 4 b5, vi (A 3 b5 b8.toNat), vr 1 b7] C f_x_Mo_choose_115_1 rfl ?_
        refine m_lald C e_x_Mo_choose_117 rfl (h_b5) (by decide) c10.1 c10.2 (A 4 b5 b8.toNat) rfl ?_
        obtain ⟨q11, e12, h⟩ := obd h
        refine m_callV C Rm Y [vi (A 3 b5 b8.toNat), vl (A 4 b5 b8.toNat)] [] (x_Odds_come l D B H0 ad _ b7 (A 3 b5 b8.toNat) (A 4 b5 b8.toNat) (h_b7) hS _ _ e12) cl_Mo_289 rfl (h_b7) rfl rfl e_x_Mo_choose_118 rfl rfl rfl ⟨by show _ ≤ ((fr + 762) : Nat); omega, by show _ ≤ ((lo + 26060) : Nat); omega⟩ ?_
        rintro _ _ ⟨rfl, rfl⟩
        show JM g D ad w0 q11.2 121 [(5, vr 1 b5), (6, vr 1 b6), (7, vr 1 b7), (8, vi b8)] []
        refine m_blk 90 [(8, vi (b8 + 1)), (5, vr 1 b5), (6, vr 1 b6), (7, vr 1 b7)] [] C f_x_Mo_choose_121_2 rfl ?_
        refine m_loc [(5, vr 1 b5), (6, vr 1 b6), (7, vr 1 b7), (8, vi (b8 + 1))] ⟨rfl, rfl, rfl, rfl, trivial⟩ ?_
        exact ih q11.2 b5 b6 b7 (b8 + 1) (h_b5) (h_b6) (h_b7) h
  show JM g D ad w0 A 0 [(0, vr 0 0), (1, vi a0), (2, vi a1), (3, vr 1 a2), (4, vi a3)] []
  unfold f_Mo_choose at h
  refine m_blk 6 [(0, vr 0 0), (1, vi a0), (2, vi a1), (3, vr 1 a2), (4, vi a3)] [vr 0 0, vi (a1 + 1), vi a0, vr 0 0] C f_x_Mo_choose_0_6 rfl ?_
  refine m_getr C e_x_Mo_choose_6 fg_Mo_33 rfl (by decide) rfl ?_
  refine m_blk 10 [(0, vr 0 0), (1, vi a0), (2, vi a1), (3, vr 1 a2), (4, vi a3)] [vi a0, vr 18 0, vi (a1 + 1), vi a0, vr 0 0] C f_x_Mo_choose_9_1 rfl ?_
  obtain ⟨c13, h⟩ := igd h
  have k14 : a0.toNat < 6 := by omega
  refine m_aald C a0.toNat e_x_Mo_choose_10 rfl rfl rfl (by decide) (by decide) c13.1 c13.2 (mz _ _) ?_
  refine m_blk 12 [(0, vr 0 0), (1, vi a0), (2, vi a1), (3, vr 1 a2), (4, vi a3)] [vi a1, vr 38 a0.toNat, vi (a1 + 1), vi a0, vr 0 0] C f_x_Mo_choose_11_1 rfl ?_
  obtain ⟨c15, h⟩ := igd h
  refine m_iald C e_x_Mo_choose_12 rfl (k14) (by decide) c15.1 c15.2 (A 38 a0.toNat a1.toNat) rfl ?_
  refine m_blk 18 [(0, vr 0 0), (1, vi a0), (2, vi a1), (3, vr 1 a2), (4, vi a3)] [vi 1, vr 1 a2, vi a1, vi a0, vr 0 0, vi (A 38 a0.toNat a1.toNat), vi (a1 + 1), vi a0, vr 0 0] C f_x_Mo_choose_13_5 rfl ?_
  obtain ⟨q16, e17, h⟩ := obd h
  refine m_callV C Rm Y [vi a0, vi a1, vr 1 a2, vi 1] [vi (A 38 a0.toNat a1.toNat), vi (a1 + 1), vi a0, vr 0 0] (x_Mo_split l D B H0 ad _ a0 a1 a2 1 (h_a2) hS _ _ e17) cl_Mo_322 rfl (by decide) rfl rfl e_x_Mo_choose_18 rfl rfl rfl ⟨by show _ ≤ ((fr + 762) : Nat); omega, by show _ ≤ ((lo + 26060) : Nat); omega⟩ ?_
  rintro _ _ ⟨rfl, rfl, g18⟩
  show JM g D ad w0 q16.2 21 [(0, vr 0 0), (1, vi a0), (2, vi a1), (3, vr 1 a2), (4, vi a3)] [vr 1 q16.1.toNat, vi (A 38 a0.toNat a1.toNat), vi (a1 + 1), vi a0, vr 0 0]
  refine m_blk 23 [(0, vr 0 0), (1, vi a0), (2, vi a1), (3, vr 1 a2), (4, vi a3)] [vi a3, vr 1 q16.1.toNat, vi (A 38 a0.toNat a1.toNat), vi (a1 + 1), vi a0, vr 0 0] C f_x_Mo_choose_21_1 rfl ?_
  obtain ⟨q19, e20, h⟩ := obd h
  refine m_callV C Rm Y [vi a0, vi (a1 + 1), vi (A 38 a0.toNat a1.toNat), vr 1 q16.1.toNat, vi a3] [] (hmk l D B H0 ad _ a0 (a1 + 1) (A 38 a0.toNat a1.toNat) q16.1.toNat a3 (g18) hS _ _ e20) cl_Mo_336 rfl (by decide) rfl rfl e_x_Mo_choose_23 rfl rfl rfl ⟨by show _ ≤ ((fr + 762) : Nat); omega, by show _ ≤ ((lo + 26060) : Nat); omega⟩ ?_
  rintro _ _ ⟨rfl, rfl, g21⟩
  show JM g D ad w0 q19.2 26 [(0, vr 0 0), (1, vi a0), (2, vi a1), (3, vr 1 a2), (4, vi a3)] [vr 1 q19.1.toNat]
  refine m_blk 29 [(5, vr 1 q19.1.toNat), (0, vr 0 0), (1, vi a0), (2, vi a1), (3, vr 1 a2), (4, vi a3)] [vr 0 0] C f_x_Mo_choose_26_2 rfl ?_
  refine m_geti C e_x_Mo_choose_29 fg_Mo_297 rfl (by decide) rfl (q19.2 0 0 34) rfl ?_
  obtain ⟨c22, h⟩ := igd h
  refine m_if_eq (tgt := 38) C e_x_Mo_choose_32 (by decide) c22 (fun c23 => ?_) (fun c23 => ?_)
  · have h := ifp c23 h
    refine m_blk 41 [(5, vr 1 q19.1.toNat), (0, vr 0 0), (1, vi a0), (2, vi a1), (3, vr 1 a2), (4, vi a3)] [vr 0 0, vi a0, vr 0 0] C f_x_Mo_choose_38_3 rfl ?_
    refine m_getr C e_x_Mo_choose_41 fg_Mo_33 rfl (by decide) rfl ?_
    refine m_blk 45 [(5, vr 1 q19.1.toNat), (0, vr 0 0), (1, vi a0), (2, vi a1), (3, vr 1 a2), (4, vi a3)] [vi a0, vr 18 0, vi a0, vr 0 0] C f_x_Mo_choose_44_1 rfl ?_
    have k24 : a0.toNat < 6 := by omega
    refine m_aald C a0.toNat e_x_Mo_choose_45 rfl rfl rfl (by decide) (by decide) c13.1 c13.2 (mz _ _) ?_
    refine m_blk 47 [(5, vr 1 q19.1.toNat), (0, vr 0 0), (1, vi a0), (2, vi a1), (3, vr 1 a2), (4, vi a3)] [vi a1, vr 38 a0.toNat, vi a0, vr 0 0] C f_x_Mo_choose_46_1 rfl ?_
    refine m_iald C e_x_Mo_choose_47 rfl (k24) (by decide) c15.1 c15.2 (q19.2 38 a0.toNat a1.toNat) rfl ?_
    refine m_blk 49 [(5, vr 1 q19.1.toNat), (0, vr 0 0), (1, vi a0), (2, vi a1), (3, vr 1 a2), (4, vi a3)] [vr 0 0, vi (q19.2 38 a0.toNat a1.toNat), vi a0, vr 0 0] C f_x_Mo_choose_48_1 rfl ?_
    refine m_getr C e_x_Mo_choose_49 fg_Mo_30 rfl (by decide) rfl ?_
    refine m_blk 53 [(5, vr 1 q19.1.toNat), (0, vr 0 0), (1, vi a0), (2, vi a1), (3, vr 1 a2), (4, vi a3)] [vi a0, vr 17 0, vi (q19.2 38 a0.toNat a1.toNat), vi a0, vr 0 0] C f_x_Mo_choose_52_1 rfl ?_
    have k25 : a0.toNat < 6 := by omega
    refine m_aald C a0.toNat e_x_Mo_choose_53 rfl rfl rfl (by decide) (by decide) c13.1 c13.2 (mz _ _) ?_
    refine m_blk 55 [(5, vr 1 q19.1.toNat), (0, vr 0 0), (1, vi a0), (2, vi a1), (3, vr 1 a2), (4, vi a3)] [vi a1, vr 37 a0.toNat, vi (q19.2 38 a0.toNat a1.toNat), vi a0, vr 0 0] C f_x_Mo_choose_54_1 rfl ?_
    refine m_iald C e_x_Mo_choose_55 rfl (k25) (by decide) c15.1 c15.2 (q19.2 37 a0.toNat a1.toNat) rfl ?_
    refine m_blk 61 [(5, vr 1 q19.1.toNat), (0, vr 0 0), (1, vi a0), (2, vi a1), (3, vr 1 a2), (4, vi a3)] [vi 0, vr 1 a2, vi a1, vi a0, vr 0 0, vi (q19.2 37 a0.toNat a1.toNat), vi (q19.2 38 a0.toNat a1.toNat), vi a0, vr 0 0] C f_x_Mo_choose_56_5 rfl ?_
    obtain ⟨q26, e27, h⟩ := obd h
    refine m_callV C Rm Y [vi a0, vi a1, vr 1 a2, vi 0] [vi (q19.2 37 a0.toNat a1.toNat), vi (q19.2 38 a0.toNat a1.toNat), vi a0, vr 0 0] (x_Mo_split l D B H0 ad _ a0 a1 a2 0 (h_a2) hS _ _ e27) cl_Mo_322 rfl (by decide) rfl rfl e_x_Mo_choose_61 rfl rfl rfl ⟨by show _ ≤ ((fr + 762) : Nat); omega, by show _ ≤ ((lo + 26060) : Nat); omega⟩ ?_
    rintro _ _ ⟨rfl, rfl, g28⟩
    show JM g D ad w0 q26.2 64 [(5, vr 1 q19.1.toNat), (0, vr 0 0), (1, vi a0), (2, vi a1), (3, vr 1 a2), (4, vi a3)] [vr 1 q26.1.toNat, vi (q19.2 37 a0.toNat a1.toNat), vi (q19.2 38 a0.toNat a1.toNat), vi a0, vr 0 0]
    refine m_blk 66 [(5, vr 1 q19.1.toNat), (0, vr 0 0), (1, vi a0), (2, vi a1), (3, vr 1 a2), (4, vi a3)] [vi a3, vr 1 q26.1.toNat, vi (q19.2 37 a0.toNat a1.toNat), vi (q19.2 38 a0.toNat a1.toNat), vi a0, vr 0 0] C f_x_Mo_choose_64_1 rfl ?_
    obtain ⟨q29, e30, h⟩ := obd h
    refine m_callV C Rm Y [vi a0, vi (q19.2 38 a0.toNat a1.toNat), vi (q19.2 37 a0.toNat a1.toNat), vr 1 q26.1.toNat, vi a3] [] (hmk l D B H0 ad _ a0 (q19.2 38 a0.toNat a1.toNat) (q19.2 37 a0.toNat a1.toNat) q26.1.toNat a3 (g28) hS _ _ e30) cl_Mo_336 rfl (by decide) rfl rfl e_x_Mo_choose_66 rfl rfl rfl ⟨by show _ ≤ ((fr + 762) : Nat); omega, by show _ ≤ ((lo + 26060) : Nat); omega⟩ ?_
    rintro _ _ ⟨rfl, rfl, g31⟩
    show JM g D ad w0 q29.2 69 [(5, vr 1 q19.1.toNat), (0, vr 0 0), (1, vi a0), (2, vi a1), (3, vr 1 a2), (4, vi a3)] [vr 1 q29.1.toNat]
    refine m_blk 72 [(6, vr 1 q29.1.toNat), (5, vr 1 q19.1.toNat), (0, vr 0 0), (1, vi a0), (2, vi a1), (3, vr 1 a2), (4, vi a3)] [vr 0 0] C f_x_Mo_choose_69_2 rfl ?_
    refine m_geti C e_x_Mo_choose_72 fg_Mo_297 rfl (by decide) rfl (q29.2 0 0 34) rfl ?_
    obtain ⟨c32, h⟩ := igd h
    refine m_if_eq (tgt := 81) C e_x_Mo_choose_75 (by decide) c32 (fun c33 => ?_) (fun c33 => ?_)
    · have h := ifp c33 h
      refine m_blk 82 [(6, vr 1 q29.1.toNat), (5, vr 1 q19.1.toNat), (0, vr 0 0), (1, vi a0), (2, vi a1), (3, vr 1 a2), (4, vi a3)] [vr 0 0] C f_x_Mo_choose_81_1 rfl ?_
      obtain ⟨q34, e35, h⟩ := obd h
      refine m_callV C Rm Y [] [] (x_Mo_takenO l D B H0 ad _  hS _ _ e35) cl_Mo_275 rfl (by decide) rfl rfl e_x_Mo_choose_82 rfl rfl rfl ⟨by show _ ≤ ((fr + 762) : Nat); omega, by show _ ≤ ((lo + 26060) : Nat); omega⟩ ?_
      rintro _ _ ⟨rfl, rfl, g36⟩
      show JM g D ad w0 q34.2 85 [(6, vr 1 q29.1.toNat), (5, vr 1 q19.1.toNat), (0, vr 0 0), (1, vi a0), (2, vi a1), (3, vr 1 a2), (4, vi a3)] [vr 1 q34.1.toNat]
      refine m_blk 90 [(8, vi 0), (7, vr 1 q34.1.toNat), (6, vr 1 q29.1.toNat), (5, vr 1 q19.1.toNat), (0, vr 0 0), (1, vi a0), (2, vi a1), (3, vr 1 a2), (4, vi a3)] [] C f_x_Mo_choose_85_3 rfl ?_
      refine m_loc [(5, vr 1 q19.1.toNat), (6, vr 1 q29.1.toNat), (7, vr 1 q34.1.toNat), (8, vi 0)] ⟨rfl, rfl, rfl, rfl, trivial⟩ ?_
      exact hd_90 _ q34.2 q19.1.toNat q29.1.toNat q34.1.toNat 0 (g21) (g31) (g36) h
    · have h := ifn c33 h
      refine m_blk 80 [(6, vr 1 q29.1.toNat), (5, vr 1 q19.1.toNat), (0, vr 0 0), (1, vi a0), (2, vi a1), (3, vr 1 a2), (4, vi a3)] [vr 1 q29.1.toNat] C f_x_Mo_choose_78_1 rfl ?_
      exact m_aret9 C Rm E e_x_Mo_choose_80 (finR9 h) (g31)
  · have h := ifn c23 h
    refine m_blk 37 [(5, vr 1 q19.1.toNat), (0, vr 0 0), (1, vi a0), (2, vi a1), (3, vr 1 a2), (4, vi a3)] [vr 1 q19.1.toNat] C f_x_Mo_choose_35_1 rfl ?_
    exact m_aret9 C Rm E e_x_Mo_choose_37 (finR9 h) (g21)

def f_Mo_loop_55 (mk : mA → Int → Int → Int → Nat → Int → Option (Int × mA)) (c_31 : mA → Int → Int → Int → Nat → Int → Int → Int → Option (Int × mA)) : Nat → mA → Int → Int → Int → Nat → Int → Int → Int → Int → Int → Option (Int × mA)
  | 0, _, _, _, _, _, _, _, _, _, _ => none
  | n + 1, A, b1, b2, b4, b5, b6, b7, b8, b9, b10 => (if g32 b10 then if g32 b7 then (if b7 ≤ b10 then (if (0 ≤ b1 ∧ b1 < ((6 : Nat) : Int)) then (if (0 ≤ b2 ∧ b2 < ((16 : Nat) : Int)) then (Option.bind (mk A b1 (b2 + 1) (A 37 b1.toNat b2.toNat) b5 b9) (fun q7 => (Option.bind (f_Odds_becomes q7.2 b5 q7.1.toNat) (fun q10 => (c_31 (mu q10.2 0 0 33 b6) b1 b2 b4 b5 b6 b7 (b8 + 1)))))) else none) else none) else (if g32 b4 then (if b4 = (-1) then (if (0 ≤ b1 ∧ b1 < ((6 : Nat) : Int)) then (if (0 ≤ b2 ∧ b2 < ((16 : Nat) : Int)) then (Option.bind (mk A b1 (b2 + 1) (A 37 b1.toNat b2.toNat) b5 b9) (fun q17 => (Option.bind (f_Odds_becomes q17.2 b5 q17.1.toNat) (fun q20 => (c_31 (mu q20.2 0 0 33 b6) b1 b2 b4 b5 b6 b7 (b8 + 1)))))) else none) else none) else (if (0 ≤ b1 ∧ b1 < ((6 : Nat) : Int)) then (if (0 ≤ b2 ∧ b2 < ((16 : Nat) : Int)) then (Option.bind (f_Mo_neededFromN 18 A b1 (b2 + 1) (A 37 b1.toNat b2.toNat) b9) (fun q25 => (f_Mo_loop_55 mk c_31 n q25.2 b1 b2 b4 b5 b6 b7 b8 q25.1 (b10 + 1)))) else none) else none)) else none)) else none else none)
def f_Mo_loop_31 (mk : mA → Int → Int → Int → Nat → Int → Option (Int × mA)) : Nat → mA → Int → Int → Int → Nat → Int → Int → Int → Option (Int × mA)
  | 0, _, _, _, _, _, _, _, _ => none
  | n + 1, A, b1, b2, b4, b5, b6, b7, b8 => (if g32 b8 then if g32 b7 then (if b7 ≤ b8 then (some (((b5 : Nat) : Int), A)) else (if g32 (A 0 0 34) then (if (A 0 0 34) = 0 then (f_Mo_loop_55 mk (f_Mo_loop_31 mk  n) 20 A b1 b2 b4 b5 b6 b7 b8 b4 (b8 + 1)) else (some (((b5 : Nat) : Int), A))) else none)) else none else none)
def f_Mo_loop (mk : mA → Int → Int → Int → Nat → Int → Option (Int × mA)) (A : mA) (a0 : Int) (a1 : Int) (a2 : Nat) (a3 : Int) : Option (Int × mA) := (Option.bind (f_Mo_takenO A ) (fun q32 => (Option.bind (f_Odds_becomes q32.2 q32.1.toNat a2) (fun q35 => (if (0 ≤ a0 ∧ a0 < ((6 : Nat) : Int)) then (if (0 ≤ a1 ∧ a1 < ((16 : Nat) : Int)) then (f_Mo_loop_31 mk 20 q35.2 a0 a1 a3 q32.1.toNat (q35.2 0 0 33) (q35.2 36 a0.toNat a1.toNat) 0) else none) else none)))))
theorem f_x_Mo_loop_0_1 : mblkB b_Mo_loop [(0, .aload_n 0, vi 0)] = true := by decide +kernel
theorem e_x_Mo_loop_1 : decode b_Mo_loop 1 = .ok (.invokevirtual 275, 3) := by decide +kernel
theorem f_x_Mo_loop_4_3 : mblkB b_Mo_loop [(4, .astore 5, vi 0), (6, .aload 5, vi 0), (8, .aload_n 3, vi 0)] = true := by decide +kernel
theorem e_x_Mo_loop_9 : decode b_Mo_loop 9 = .ok (.invokevirtual 293, 3) := by decide +kernel
theorem f_x_Mo_loop_12_1 : mblkB b_Mo_loop [(12, .aload_n 0, vi 0)] = true := by decide +kernel
theorem e_x_Mo_loop_13 : decode b_Mo_loop 13 = .ok (.getfield 269, 3) := by decide +kernel
theorem f_x_Mo_loop_16_2 : mblkB b_Mo_loop [(16, .istore 6, vi 0), (18, .aload_n 0, vi 0)] = true := by decide +kernel
theorem e_x_Mo_loop_19 : decode b_Mo_loop 19 = .ok (.getfield 27, 3) := by decide +kernel
theorem f_x_Mo_loop_22_1 : mblkB b_Mo_loop [(22, .iload_n 1, vi 0)] = true := by decide +kernel
theorem e_x_Mo_loop_23 : decode b_Mo_loop 23 = .ok (.aaload, 1) := by decide +kernel
theorem f_x_Mo_loop_24_1 : mblkB b_Mo_loop [(24, .iload_n 2, vi 0)] = true := by decide +kernel
theorem e_x_Mo_loop_25 : decode b_Mo_loop 25 = .ok (.iaload, 1) := by decide +kernel
theorem f_x_Mo_loop_26_3 : mblkB b_Mo_loop [(26, .istore 7, vi 0), (28, .iconst 0, vi 0), (29, .istore 8, vi 0)] = true := by decide +kernel
theorem f_x_Mo_loop_31_2 : mblkB b_Mo_loop [(31, .iload 8, vi 0), (33, .iload 7, vi 0)] = true := by decide +kernel
theorem e_x_Mo_loop_35 : decode b_Mo_loop 35 = .ok (.if_icmp .ge 96, 3) := by decide +kernel
theorem f_x_Mo_loop_131_1 : mblkB b_Mo_loop [(131, .aload 5, vi 0)] = true := by decide +kernel
theorem e_x_Mo_loop_133 : decode b_Mo_loop 133 = .ok (.areturn, 1) := by decide +kernel
theorem f_x_Mo_loop_38_1 : mblkB b_Mo_loop [(38, .aload_n 0, vi 0)] = true := by decide +kernel
theorem e_x_Mo_loop_39 : decode b_Mo_loop 39 = .ok (.getfield 297, 3) := by decide +kernel
theorem e_x_Mo_loop_42 : decode b_Mo_loop 42 = .ok (.ifCond .ne 89, 3) := by decide +kernel
theorem f_x_Mo_loop_45_6 : mblkB b_Mo_loop [(45, .iload 4, vi 0), (47, .istore 9, vi 0), (49, .iload 8, vi 0), (51, .iconst 1, vi 1), (52, .iadd, vi 0), (53, .istore 10, vi 0)] = true := by decide +kernel
theorem f_x_Mo_loop_55_2 : mblkB b_Mo_loop [(55, .iload 10, vi 0), (57, .iload 7, vi 0)] = true := by decide +kernel
theorem e_x_Mo_loop_59 : decode b_Mo_loop 59 = .ok (.if_icmp .ge 35, 3) := by decide +kernel
theorem f_x_Mo_loop_94_7 : mblkB b_Mo_loop [(94, .aload 5, vi 0), (96, .aload_n 0, vi 0), (97, .iload_n 1, vi 0), (98, .iload_n 2, vi 0), (99, .iconst 1, vi 1), (100, .iadd, vi 0), (101, .aload_n 0, vi 0)] = true := by decide +kernel
theorem e_x_Mo_loop_102 : decode b_Mo_loop 102 = .ok (.getfield 30, 3) := by decide +kernel
theorem f_x_Mo_loop_105_1 : mblkB b_Mo_loop [(105, .iload_n 1, vi 0)] = true := by decide +kernel
theorem e_x_Mo_loop_106 : decode b_Mo_loop 106 = .ok (.aaload, 1) := by decide +kernel
theorem f_x_Mo_loop_107_1 : mblkB b_Mo_loop [(107, .iload_n 2, vi 0)] = true := by decide +kernel
theorem e_x_Mo_loop_108 : decode b_Mo_loop 108 = .ok (.iaload, 1) := by decide +kernel
theorem f_x_Mo_loop_109_2 : mblkB b_Mo_loop [(109, .aload 5, vi 0), (111, .iload 9, vi 0)] = true := by decide +kernel
theorem e_x_Mo_loop_113 : decode b_Mo_loop 113 = .ok (.invokevirtual 336, 3) := by decide +kernel
theorem e_x_Mo_loop_116 : decode b_Mo_loop 116 = .ok (.invokevirtual 293, 3) := by decide +kernel
theorem f_x_Mo_loop_119_2 : mblkB b_Mo_loop [(119, .aload_n 0, vi 0), (120, .iload 6, vi 0)] = true := by decide +kernel
theorem e_x_Mo_loop_122 : decode b_Mo_loop 122 = .ok (.putfield 269, 3) := by decide +kernel
theorem f_x_Mo_loop_125_2 : mblkB b_Mo_loop [(125, .iinc 8 1, vi 1), (128, .goto (-97), vi 31)] = true := by decide +kernel
theorem f_x_Mo_loop_62_2 : mblkB b_Mo_loop [(62, .iload 4, vi 0), (64, .iconst (-1), vi (-1))] = true := by decide +kernel
theorem e_x_Mo_loop_65 : decode b_Mo_loop 65 = .ok (.if_icmp .eq 29, 3) := by decide +kernel
theorem f_x_Mo_loop_68_6 : mblkB b_Mo_loop [(68, .aload_n 0, vi 0), (69, .iload_n 1, vi 0), (70, .iload_n 2, vi 0), (71, .iconst 1, vi 1), (72, .iadd, vi 0), (73, .aload_n 0, vi 0)] = true := by decide +kernel
theorem e_x_Mo_loop_74 : decode b_Mo_loop 74 = .ok (.getfield 30, 3) := by decide +kernel
theorem f_x_Mo_loop_77_1 : mblkB b_Mo_loop [(77, .iload_n 1, vi 0)] = true := by decide +kernel
theorem e_x_Mo_loop_78 : decode b_Mo_loop 78 = .ok (.aaload, 1) := by decide +kernel
theorem f_x_Mo_loop_79_1 : mblkB b_Mo_loop [(79, .iload_n 2, vi 0)] = true := by decide +kernel
theorem e_x_Mo_loop_80 : decode b_Mo_loop 80 = .ok (.iaload, 1) := by decide +kernel
theorem f_x_Mo_loop_81_1 : mblkB b_Mo_loop [(81, .iload 9, vi 0)] = true := by decide +kernel
theorem e_x_Mo_loop_83 : decode b_Mo_loop 83 = .ok (.invokevirtual 300, 3) := by decide +kernel
theorem f_x_Mo_loop_86_3 : mblkB b_Mo_loop [(86, .istore 9, vi 0), (88, .iinc 10 1, vi 1), (91, .goto (-36), vi 55)] = true := by decide +kernel
set_option maxHeartbeats 4000000 in
set_option maxRecDepth 20000 in
theorem x_Mo_loop {mk : mA → Int → Int → Int → Nat → Int → Option (Int × mA)} {fr lo : Nat} (hmk : ∀ (l : Launch) (D : va_G) (B : Nat) (H0 : Heap) (ad : mAd) (A : mA) (a0 : Int) (a1 : Int) (a2 : Int) (a3 : Nat) (a4 : Int) (h_a3 : a3 < 200) (hS : mStr D ad) (r9 : Int) (A9 : mA), mk A a0 a1 a2 a3 a4 = some (r9, A9) → mMet l D B H0 ad y_Mo_make b_Mo_make 11 (some (.object "ChanceStepsModel$Odds")) (fr + 760) (lo + 26000) [vr 0 0, vi a0, vi a1, vi a2, vr 1 a3, vi a4] A (fun v A' => v = some (vr 1 r9.toNat) ∧ A' = A9 ∧ r9.toNat < 200)) : ∀ (l : Launch) (D : va_G) (B : Nat) (H0 : Heap) (ad : mAd) (A : mA) (a0 : Int) (a1 : Int) (a2 : Nat) (a3 : Int) (h_a2 : a2 < 200) (hS : mStr D ad) (r9 : Int) (A9 : mA), f_Mo_loop mk A a0 a1 a2 a3 = some (r9, A9) → mMet l D B H0 ad y_Mo_loop b_Mo_loop 11 (some (.object "ChanceStepsModel$Odds")) (fr + 762) (lo + 26060) [vr 0 0, vi a0, vi a1, vr 1 a2, vi a3] A (fun v A' => v = some (vr 1 r9.toNat) ∧ A' = A9 ∧ r9.toNat < 200) := by
  intro l D B H0 ad A a0 a1 a2 a3 h_a2 hS r9 A9 h
  refine m_met (by decide) rfl (fun g w0 C Rm Y E => ?_)
  have hd_55 : ∀ (c_31 : mA → Int → Int → Int → Nat → Int → Int → Int → Option (Int × mA)) (hc_31 : ∀ (A : mA) (b1 : Int) (b2 : Int) (b4 : Int) (b5 : Nat) (b6 : Int) (b7 : Int) (b8 : Int) , b5 < 200 → c_31 A b1 b2 b4 b5 b6 b7 b8 = some (r9, A9) → JM g D ad w0 A 31 [(0, vr 0 0), (1, vi b1), (2, vi b2), (4, vi b4), (5, vr 1 b5), (6, vi b6), (7, vi b7), (8, vi b8)] []) (n : Nat) (A : mA) (b1 : Int) (b2 : Int) (b4 : Int) (b5 : Nat) (b6 : Int) (b7 : Int) (b8 : Int) (b9 : Int) (b10 : Int) , b5 < 200 → f_Mo_loop_55 mk c_31 n A b1 b2 b4 b5 b6 b7 b8 b9 b10 = some (r9, A9) → JM g D ad w0 A 55 [(0, vr 0 0), (1, vi b1), (2, vi b2), (4, vi b4), (5, vr 1 b5), (6, vi b6), (7, vi b7), (8, vi b8), (9, vi b9), (10, vi b10)] [] := by
    intro c_31 hc_31 n
    induction n with
    | zero => intro A b1 b2 b4 b5 b6 b7 b8 b9 b10 h_b5 h; cases h
    | succ n ih =>
      intro A b1 b2 b4 b5 b6 b7 b8 b9 b10 h_b5 h
      unfold f_Mo_loop_55 at h
      refine m_blk 59 [(0, vr 0 0), (1, vi b1), (2, vi b2), (4, vi b4), (5, vr 1 b5), (6, vi b6), (7, vi b7), (8, vi b8), (9, vi b9), (10, vi b10)] [vi b7, vi b10] C f_x_Mo_loop_55_2 rfl ?_
      obtain ⟨c1, h⟩ := igd h
      obtain ⟨c2, h⟩ := igd h
      refine m_icmp_ge (tgt := 94) C e_x_Mo_loop_59 (by decide) c1 c2 (fun c3 => ?_) (fun c3 => ?_)
      · have h := ifp c3 h
        refine m_blk 102 [(0, vr 0 0), (1, vi b1), (2, vi b2), (4, vi b4), (5, vr 1 b5), (6, vi b6), (7, vi b7), (8, vi b8), (9, vi b9), (10, vi b10)] [vr 0 0, vi (b2 + 1), vi b1, vr 0 0, vr 1 b5] C f_x_Mo_loop_94_7 rfl ?_
        refine m_getr C e_x_Mo_loop_102 fg_Mo_30 rfl (by decide) rfl ?_
        refine m_blk 106 [(0, vr 0 0), (1, vi b1), (2, vi b2), (4, vi b4), (5, vr 1 b5), (6, vi b6), (7, vi b7), (8, vi b8), (9, vi b9), (10, vi b10)] [vi b1, vr 17 0, vi (b2 + 1), vi b1, vr 0 0, vr 1 b5] C f_x_Mo_loop_105_1 rfl ?_
        obtain ⟨c4, h⟩ := igd h
        have k5 : b1.toNat < 6 := by omega
        refine m_aald C b1.toNat e_x_Mo_loop_106 rfl rfl rfl (by decide) (by decide) c4.1 c4.2 (mz _ _) ?_
        refine m_blk 108 [(0, vr 0 0), (1, vi b1), (2, vi b2), (4, vi b4), (5, vr 1 b5), (6, vi b6), (7, vi b7), (8, vi b8), (9, vi b9), (10, vi b10)] [vi b2, vr 37 b1.toNat, vi (b2 + 1), vi b1, vr 0 0, vr 1 b5] C f_x_Mo_loop_107_1 rfl ?_
        obtain ⟨c6, h⟩ := igd h
        refine m_iald C e_x_Mo_loop_108 rfl (k5) (by decide) c6.1 c6.2 (A 37 b1.toNat b2.toNat) rfl ?_
        refine m_blk 113 [(0, vr 0 0), (1, vi b1), (2, vi b2), (4, vi b4), (5, vr 1 b5), (6, vi b6), (7, vi b7), (8, vi b8), (9, vi b9), (10, vi b10)] [vi b9, vr 1 b5, vi (A 37 b1.toNat b2.toNat), vi (b2 + 1), vi b1, vr 0 0, vr 1 b5] C f_x_Mo_loop_109_2 rfl ?_
        obtain ⟨q7, e8, h⟩ := obd h
        refine m_callV C Rm Y [vi b1, vi (b2 + 1), vi (A 37 b1.toNat b2.toNat), vr 1 b5, vi b9] [vr 1 b5] (hmk l D B H0 ad _ b1 (b2 + 1) (A 37 b1.toNat b2.toNat) b5 b9 (h_b5) hS _ _ e8) cl_Mo_336 rfl (by decide) rfl rfl e_x_Mo_loop_113 rfl rfl rfl ⟨by show _ ≤ ((fr + 762) : Nat); omega, by show _ ≤ ((lo + 26060) : Nat); omega⟩ ?_
        rintro _ _ ⟨rfl, rfl, g9⟩
        show JM g D ad w0 q7.2 116 [(0, vr 0 0), (1, vi b1), (2, vi b2), (4, vi b4), (5, vr 1 b5), (6, vi b6), (7, vi b7), (8, vi b8), (9, vi b9), (10, vi b10)] [vr 1 q7.1.toNat, vr 1 b5]
        obtain ⟨q10, e11, h⟩ := obd h
        refine m_callV C Rm Y [vr 1 q7.1.toNat] [] (x_Odds_becomes l D B H0 ad _ b5 q7.1.toNat (h_b5) (g9) hS _ _ e11) cl_Mo_293 rfl (h_b5) rfl rfl e_x_Mo_loop_116 rfl rfl rfl ⟨by show _ ≤ ((fr + 762) : Nat); omega, by show _ ≤ ((lo + 26060) : Nat); omega⟩ ?_
        rintro _ _ ⟨rfl, rfl⟩
        show JM g D ad w0 q10.2 119 [(0, vr 0 0), (1, vi b1), (2, vi b2), (4, vi b4), (5, vr 1 b5), (6, vi b6), (7, vi b7), (8, vi b8), (9, vi b9), (10, vi b10)] []
        refine m_blk 122 [(0, vr 0 0), (1, vi b1), (2, vi b2), (4, vi b4), (5, vr 1 b5), (6, vi b6), (7, vi b7), (8, vi b8), (9, vi b9), (10, vi b10)] [vi b6, vr 0 0] C f_x_Mo_loop_119_2 rfl ?_
        refine m_puti C e_x_Mo_loop_122 fp_Mo_269 rfl (by decide) rfl ?_
        refine m_blk 31 [(8, vi (b8 + 1)), (0, vr 0 0), (1, vi b1), (2, vi b2), (4, vi b4), (5, vr 1 b5), (6, vi b6), (7, vi b7), (9, vi b9), (10, vi b10)] [] C f_x_Mo_loop_125_2 rfl ?_
        refine m_loc [(0, vr 0 0), (1, vi b1), (2, vi b2), (4, vi b4), (5, vr 1 b5), (6, vi b6), (7, vi b7), (8, vi (b8 + 1))] ⟨rfl, rfl, rfl, rfl, rfl, rfl, rfl, rfl, trivial⟩ ?_
        exact hc_31 (mu q10.2 0 0 33 b6) b1 b2 b4 b5 b6 b7 (b8 + 1) (h_b5) h
      · have h := ifn c3 h
        refine m_blk 65 [(0, vr 0 0), (1, vi b1), (2, vi b2), (4, vi b4), (5, vr 1 b5), (6, vi b6), (7, vi b7), (8, vi b8), (9, vi b9), (10, vi b10)] [vi (-1), vi b4] C f_x_Mo_loop_62_2 rfl ?_
        obtain ⟨c12, h⟩ := igd h
        refine m_icmp_eq (tgt := 94) C e_x_Mo_loop_65 (by decide) c12 (by decide) (fun c13 => ?_) (fun c13 => ?_)
        · have h := ifp c13 h
          refine m_blk 102 [(0, vr 0 0), (1, vi b1), (2, vi b2), (4, vi b4), (5, vr 1 b5), (6, vi b6), (7, vi b7), (8, vi b8), (9, vi b9), (10, vi b10)] [vr 0 0, vi (b2 + 1), vi b1, vr 0 0, vr 1 b5] C f_x_Mo_loop_94_7 rfl ?_
          refine m_getr C e_x_Mo_loop_102 fg_Mo_30 rfl (by decide) rfl ?_
          refine m_blk 106 [(0, vr 0 0), (1, vi b1), (2, vi b2), (4, vi b4), (5, vr 1 b5), (6, vi b6), (7, vi b7), (8, vi b8), (9, vi b9), (10, vi b10)] [vi b1, vr 17 0, vi (b2 + 1), vi b1, vr 0 0, vr 1 b5] C f_x_Mo_loop_105_1 rfl ?_
          obtain ⟨c14, h⟩ := igd h
          have k15 : b1.toNat < 6 := by omega
          refine m_aald C b1.toNat e_x_Mo_loop_106 rfl rfl rfl (by decide) (by decide) c14.1 c14.2 (mz _ _) ?_
          refine m_blk 108 [(0, vr 0 0), (1, vi b1), (2, vi b2), (4, vi b4), (5, vr 1 b5), (6, vi b6), (7, vi b7), (8, vi b8), (9, vi b9), (10, vi b10)] [vi b2, vr 37 b1.toNat, vi (b2 + 1), vi b1, vr 0 0, vr 1 b5] C f_x_Mo_loop_107_1 rfl ?_
          obtain ⟨c16, h⟩ := igd h
          refine m_iald C e_x_Mo_loop_108 rfl (k15) (by decide) c16.1 c16.2 (A 37 b1.toNat b2.toNat) rfl ?_
          refine m_blk 113 [(0, vr 0 0), (1, vi b1), (2, vi b2), (4, vi b4), (5, vr 1 b5), (6, vi b6), (7, vi b7), (8, vi b8), (9, vi b9), (10, vi b10)] [vi b9, vr 1 b5, vi (A 37 b1.toNat b2.toNat), vi (b2 + 1), vi b1, vr 0 0, vr 1 b5] C f_x_Mo_loop_109_2 rfl ?_
          obtain ⟨q17, e18, h⟩ := obd h
          refine m_callV C Rm Y [vi b1, vi (b2 + 1), vi (A 37 b1.toNat b2.toNat), vr 1 b5, vi b9] [vr 1 b5] (hmk l D B H0 ad _ b1 (b2 + 1) (A 37 b1.toNat b2.toNat) b5 b9 (h_b5) hS _ _ e18) cl_Mo_336 rfl (by decide) rfl rfl e_x_Mo_loop_113 rfl rfl rfl ⟨by show _ ≤ ((fr + 762) : Nat); omega, by show _ ≤ ((lo + 26060) : Nat); omega⟩ ?_
          rintro _ _ ⟨rfl, rfl, g19⟩
          show JM g D ad w0 q17.2 116 [(0, vr 0 0), (1, vi b1), (2, vi b2), (4, vi b4), (5, vr 1 b5), (6, vi b6), (7, vi b7), (8, vi b8), (9, vi b9), (10, vi b10)] [vr 1 q17.1.toNat, vr 1 b5]
          obtain ⟨q20, e21, h⟩ := obd h
          refine m_callV C Rm Y [vr 1 q17.1.toNat] [] (x_Odds_becomes l D B H0 ad _ b5 q17.1.toNat (h_b5) (g19) hS _ _ e21) cl_Mo_293 rfl (h_b5) rfl rfl e_x_Mo_loop_116 rfl rfl rfl ⟨by show _ ≤ ((fr + 762) : Nat); omega, by show _ ≤ ((lo + 26060) : Nat); omega⟩ ?_
          rintro _ _ ⟨rfl, rfl⟩
          show JM g D ad w0 q20.2 119 [(0, vr 0 0), (1, vi b1), (2, vi b2), (4, vi b4), (5, vr 1 b5), (6, vi b6), (7, vi b7), (8, vi b8), (9, vi b9), (10, vi b10)] []
          refine m_blk 122 [(0, vr 0 0), (1, vi b1), (2, vi b2), (4, vi b4), (5, vr 1 b5), (6, vi b6), (7, vi b7), (8, vi b8), (9, vi b9), (10, vi b10)] [vi b6, vr 0 0] C f_x_Mo_loop_119_2 rfl ?_
          refine m_puti C e_x_Mo_loop_122 fp_Mo_269 rfl (by decide) rfl ?_
          refine m_blk 31 [(8, vi (b8 + 1)), (0, vr 0 0), (1, vi b1), (2, vi b2), (4, vi b4), (5, vr 1 b5), (6, vi b6), (7, vi b7), (9, vi b9), (10, vi b10)] [] C f_x_Mo_loop_125_2 rfl ?_
          refine m_loc [(0, vr 0 0), (1, vi b1), (2, vi b2), (4, vi b4), (5, vr 1 b5), (6, vi b6), (7, vi b7), (8, vi (b8 + 1))] ⟨rfl, rfl, rfl, rfl, rfl, rfl, rfl, rfl, trivial⟩ ?_
          exact hc_31 (mu q20.2 0 0 33 b6) b1 b2 b4 b5 b6 b7 (b8 + 1) (h_b5) h
        · have h := ifn c13 h
          refine m_blk 74 [(0, vr 0 0), (1, vi b1), (2, vi b2), (4, vi b4), (5, vr 1 b5), (6, vi b6), (7, vi b7), (8, vi b8), (9, vi b9), (10, vi b10)] [vr 0 0, vi (b2 + 1), vi b1, vr 0 0] C f_x_Mo_loop_68_6 rfl ?_
          refine m_getr C e_x_Mo_loop_74 fg_Mo_30 rfl (by decide) rfl ?_
          refine m_blk 78 [(0, vr 0 0), (1, vi b1), (2, vi b2), (4, vi b4), (5, vr 1 b5), (6, vi b6), (7, vi b7), (8, vi b8), (9, vi b9), (10, vi b10)] [vi b1, vr 17 0, vi (b2 + 1), vi b1, vr 0 0] C f_x_Mo_loop_77_1 rfl ?_
          obtain ⟨c22, h⟩ := igd h
          have k23 : b1.toNat < 6 := by omega
          refine m_aald C b1.toNat e_x_Mo_loop_78 rfl rfl rfl (by decide) (by decide) c22.1 c22.2 (mz _ _) ?_
          refine m_blk 80 [(0, vr 0 0), (1, vi b1), (2, vi b2), (4, vi b4), (5, vr 1 b5), (6, vi b6), (7, vi b7), (8, vi b8), (9, vi b9), (10, vi b10)] [vi b2, vr 37 b1.toNat, vi (b2 + 1), vi b1, vr 0 0] C f_x_Mo_loop_79_1 rfl ?_
          obtain ⟨c24, h⟩ := igd h
          refine m_iald C e_x_Mo_loop_80 rfl (k23) (by decide) c24.1 c24.2 (A 37 b1.toNat b2.toNat) rfl ?_
          refine m_blk 83 [(0, vr 0 0), (1, vi b1), (2, vi b2), (4, vi b4), (5, vr 1 b5), (6, vi b6), (7, vi b7), (8, vi b8), (9, vi b9), (10, vi b10)] [vi b9, vi (A 37 b1.toNat b2.toNat), vi (b2 + 1), vi b1, vr 0 0] C f_x_Mo_loop_81_1 rfl ?_
          obtain ⟨q25, e26, h⟩ := obd h
          refine m_callV C Rm Y [vi b1, vi (b2 + 1), vi (A 37 b1.toNat b2.toNat), vi b9] [] (x_Mo_neededFromN 18 l D B H0 ad _ b1 (b2 + 1) (A 37 b1.toNat b2.toNat) b9 hS _ _ e26) cl_Mo_300 rfl (by decide) rfl rfl e_x_Mo_loop_83 rfl rfl rfl ⟨by show _ ≤ ((fr + 762) : Nat); omega, by show _ ≤ ((lo + 26060) : Nat); omega⟩ ?_
          rintro _ _ ⟨rfl, rfl⟩
          show JM g D ad w0 q25.2 86 [(0, vr 0 0), (1, vi b1), (2, vi b2), (4, vi b4), (5, vr 1 b5), (6, vi b6), (7, vi b7), (8, vi b8), (9, vi b9), (10, vi b10)] [vi q25.1]
          refine m_blk 55 [(10, vi (b10 + 1)), (9, vi q25.1), (0, vr 0 0), (1, vi b1), (2, vi b2), (4, vi b4), (5, vr 1 b5), (6, vi b6), (7, vi b7), (8, vi b8)] [] C f_x_Mo_loop_86_3 rfl ?_
          refine m_loc [(0, vr 0 0), (1, vi b1), (2, vi b2), (4, vi b4), (5, vr 1 b5), (6, vi b6), (7, vi b7), (8, vi b8), (9, vi q25.1), (10, vi (b10 + 1))] ⟨rfl, rfl, rfl, rfl, rfl, rfl, rfl, rfl, rfl, rfl, trivial⟩ ?_
          exact ih q25.2 b1 b2 b4 b5 b6 b7 b8 q25.1 (b10 + 1) (h_b5) h
  have hd_31 : ∀ (n : Nat) (A : mA) (b1 : Int) (b2 : Int) (b4 : Int) (b5 : Nat) (b6 : Int) (b7 : Int) (b8 : Int) , b5 < 200 → f_Mo_loop_31 mk  n A b1 b2 b4 b5 b6 b7 b8 = some (r9, A9) → JM g D ad w0 A 31 [(0, vr 0 0), (1, vi b1), (2, vi b2), (4, vi b4), (5, vr 1 b5), (6, vi b6), (7, vi b7), (8, vi b8)] [] := by
    intro  n
    induction n with
    | zero => intro A b1 b2 b4 b5 b6 b7 b8 h_b5 h; cases h
    | succ n ih =>
      intro A b1 b2 b4 b5 b6 b7 b8 h_b5 h
      unfold f_Mo_loop_31 at h
      refine m_blk 35 [(0, vr 0 0), (1, vi b1), (2, vi b2), (4, vi b4), (5, vr 1 b5), (6, vi b6), (7, vi b7), (8, vi b8)] [vi b7, vi b8] C f_x_Mo_loop_31_2 rfl ?_
      obtain ⟨c27, h⟩ := igd h
      obtain ⟨c28, h⟩ := igd h
      refine m_icmp_ge (tgt := 131) C e_x_Mo_loop_35 (by decide) c27 c28 (fun c29 => ?_) (fun c29 => ?_)
      · have h := ifp c29 h
        refine m_blk 133 [(0, vr 0 0), (1, vi b1), (2, vi b2), (4, vi b4), (5, vr 1 b5), (6, vi b6), (7, vi b7), (8, vi b8)] [vr 1 b5] C f_x_Mo_loop_131_1 rfl ?_
        exact m_aret9 C Rm E e_x_Mo_loop_133 (finR9 h) (h_b5)
      · have h := ifn c29 h
        refine m_blk 39 [(0, vr 0 0), (1, vi b1), (2, vi b2), (4, vi b4), (5, vr 1 b5), (6, vi b6), (7, vi b7), (8, vi b8)] [vr 0 0] C f_x_Mo_loop_38_1 rfl ?_
        refine m_geti C e_x_Mo_loop_39 fg_Mo_297 rfl (by decide) rfl (A 0 0 34) rfl ?_
        obtain ⟨c30, h⟩ := igd h
        refine m_if_ne (tgt := 131) C e_x_Mo_loop_42 (by decide) c30 (fun c31 => ?_) (fun c31 => ?_)
        · have h := ifn c31 h
          refine m_blk 133 [(0, vr 0 0), (1, vi b1), (2, vi b2), (4, vi b4), (5, vr 1 b5), (6, vi b6), (7, vi b7), (8, vi b8)] [vr 1 b5] C f_x_Mo_loop_131_1 rfl ?_
          exact m_aret9 C Rm E e_x_Mo_loop_133 (finR9 h) (h_b5)
        · have h := ifp c31 h
          refine m_blk 55 [(10, vi (b8 + 1)), (9, vi b4), (0, vr 0 0), (1, vi b1), (2, vi b2), (4, vi b4), (5, vr 1 b5), (6, vi b6), (7, vi b7), (8, vi b8)] [] C f_x_Mo_loop_45_6 rfl ?_
          refine m_loc [(0, vr 0 0), (1, vi b1), (2, vi b2), (4, vi b4), (5, vr 1 b5), (6, vi b6), (7, vi b7), (8, vi b8), (9, vi b4), (10, vi (b8 + 1))] ⟨rfl, rfl, rfl, rfl, rfl, rfl, rfl, rfl, rfl, rfl, trivial⟩ ?_
          exact hd_55 (f_Mo_loop_31 mk  n) ih _ A b1 b2 b4 b5 b6 b7 b8 b4 (b8 + 1) (h_b5) h
  show JM g D ad w0 A 0 [(0, vr 0 0), (1, vi a0), (2, vi a1), (3, vr 1 a2), (4, vi a3)] []
  unfold f_Mo_loop at h
  refine m_blk 1 [(0, vr 0 0), (1, vi a0), (2, vi a1), (3, vr 1 a2), (4, vi a3)] [vr 0 0] C f_x_Mo_loop_0_1 rfl ?_
  obtain ⟨q32, e33, h⟩ := obd h
  refine m_callV C Rm Y [] [] (x_Mo_takenO l D B H0 ad _  hS _ _ e33) cl_Mo_275 rfl (by decide) rfl rfl e_x_Mo_loop_1 rfl rfl rfl ⟨by show _ ≤ ((fr + 762) : Nat); omega, by show _ ≤ ((lo + 26060) : Nat); omega⟩ ?_
  rintro _ _ ⟨rfl, rfl, g34⟩
  show JM g D ad w0 q32.2 4 [(0, vr 0 0), (1, vi a0), (2, vi a1), (3, vr 1 a2), (4, vi a3)] [vr 1 q32.1.toNat]
  refine m_blk 9 [(5, vr 1 q32.1.toNat), (0, vr 0 0), (1, vi a0), (2, vi a1), (3, vr 1 a2), (4, vi a3)] [vr 1 a2, vr 1 q32.1.toNat] C f_x_Mo_loop_4_3 rfl ?_
  obtain ⟨q35, e36, h⟩ := obd h
  refine m_callV C Rm Y [vr 1 a2] [] (x_Odds_becomes l D B H0 ad _ q32.1.toNat a2 (g34) (h_a2) hS _ _ e36) cl_Mo_293 rfl (g34) rfl rfl e_x_Mo_loop_9 rfl rfl rfl ⟨by show _ ≤ ((fr + 762) : Nat); omega, by show _ ≤ ((lo + 26060) : Nat); omega⟩ ?_
  rintro _ _ ⟨rfl, rfl⟩
  show JM g D ad w0 q35.2 12 [(5, vr 1 q32.1.toNat), (0, vr 0 0), (1, vi a0), (2, vi a1), (3, vr 1 a2), (4, vi a3)] []
  refine m_blk 13 [(5, vr 1 q32.1.toNat), (0, vr 0 0), (1, vi a0), (2, vi a1), (3, vr 1 a2), (4, vi a3)] [vr 0 0] C f_x_Mo_loop_12_1 rfl ?_
  refine m_geti C e_x_Mo_loop_13 fg_Mo_269 rfl (by decide) rfl (q35.2 0 0 33) rfl ?_
  refine m_blk 19 [(6, vi (q35.2 0 0 33)), (5, vr 1 q32.1.toNat), (0, vr 0 0), (1, vi a0), (2, vi a1), (3, vr 1 a2), (4, vi a3)] [vr 0 0] C f_x_Mo_loop_16_2 rfl ?_
  refine m_getr C e_x_Mo_loop_19 fg_Mo_27 rfl (by decide) rfl ?_
  refine m_blk 23 [(6, vi (q35.2 0 0 33)), (5, vr 1 q32.1.toNat), (0, vr 0 0), (1, vi a0), (2, vi a1), (3, vr 1 a2), (4, vi a3)] [vi a0, vr 16 0] C f_x_Mo_loop_22_1 rfl ?_
  obtain ⟨c37, h⟩ := igd h
  have k38 : a0.toNat < 6 := by omega
  refine m_aald C a0.toNat e_x_Mo_loop_23 rfl rfl rfl (by decide) (by decide) c37.1 c37.2 (mz _ _) ?_
  refine m_blk 25 [(6, vi (q35.2 0 0 33)), (5, vr 1 q32.1.toNat), (0, vr 0 0), (1, vi a0), (2, vi a1), (3, vr 1 a2), (4, vi a3)] [vi a1, vr 36 a0.toNat] C f_x_Mo_loop_24_1 rfl ?_
  obtain ⟨c39, h⟩ := igd h
  refine m_iald C e_x_Mo_loop_25 rfl (k38) (by decide) c39.1 c39.2 (q35.2 36 a0.toNat a1.toNat) rfl ?_
  refine m_blk 31 [(8, vi 0), (7, vi (q35.2 36 a0.toNat a1.toNat)), (6, vi (q35.2 0 0 33)), (5, vr 1 q32.1.toNat), (0, vr 0 0), (1, vi a0), (2, vi a1), (3, vr 1 a2), (4, vi a3)] [] C f_x_Mo_loop_26_3 rfl ?_
  refine m_loc [(0, vr 0 0), (1, vi a0), (2, vi a1), (4, vi a3), (5, vr 1 q32.1.toNat), (6, vi (q35.2 0 0 33)), (7, vi (q35.2 36 a0.toNat a1.toNat)), (8, vi 0)] ⟨rfl, rfl, rfl, rfl, rfl, rfl, rfl, rfl, trivial⟩ ?_
  exact hd_31 _ q35.2 a0 a1 a3 q32.1.toNat (q35.2 0 0 33) (q35.2 36 a0.toNat a1.toNat) 0 (g34) h

def f_Mo_tell_102 (mk : mA → Int → Int → Int → Nat → Int → Option (Int × mA)) : Nat → mA → Int → Int → Int → Int → Int → Nat → Int → Option (Int × mA)
  | 0, _, _, _, _, _, _, _, _ => none
  | n + 1, A, b1, b2, b3, b4, b5, b7, b8 => (if g32 b8 then if g32 (A 1 b7 2) then (if (A 1 b7 2) ≤ b8 then (if (0 ≤ b1 ∧ b1 < ((6 : Nat) : Int)) then (if (0 ≤ b2 ∧ b2 < ((10 : Nat) : Int)) then (if ((A 0 0 34) = 0 ∨ (A 0 0 34) = 1) then (if (b4 = 0 ∨ b4 = 1) then (some (0, (mu (mu (mu (mu (mu A 48 b1.toNat b2.toNat (A 0 0 34)) 47 b1.toNat b2.toNat 1) 0 0 33 b5) 0 0 34 b4) 0 0 35 b3))) else none) else none) else none) else none) else (if g32 (A 0 0 34) then (if (A 0 0 34) = 0 then (if (0 ≤ b1 ∧ b1 < ((6 : Nat) : Int)) then (if (0 ≤ b2 ∧ b2 < ((10 : Nat) : Int)) then (if (0 ≤ b8 ∧ b8 < ((301 : Nat) : Int)) then (Option.bind (f_Mo_valueOf A (A 3 b7 b8.toNat) 0) (fun q23 => (if (0 ≤ q23.1 ∧ q23.1 < ((10 : Nat) : Int)) then (f_Mo_tell_102 mk n (mu q23.2 51 (b1.toNat * 10 + b2.toNat) q23.1.toNat ((q23.2 51 (b1.toNat * 10 + b2.toNat) q23.1.toNat) + (q23.2 4 b7 b8.toNat))) b1 b2 b3 b4 b5 b7 (b8 + 1)) else none))) else none) else none) else none) else (if (0 ≤ b1 ∧ b1 < ((6 : Nat) : Int)) then (if (0 ≤ b2 ∧ b2 < ((10 : Nat) : Int)) then (if ((A 0 0 34) = 0 ∨ (A 0 0 34) = 1) then (if (b4 = 0 ∨ b4 = 1) then (some (0, (mu (mu (mu (mu (mu A 48 b1.toNat b2.toNat (A 0 0 34)) 47 b1.toNat b2.toNat 1) 0 0 33 b5) 0 0 34 b4) 0 0 35 b3))) else none) else none) else none) else none)) else none)) else none else none)
def f_Mo_tell_74 (mk : mA → Int → Int → Int → Nat → Int → Option (Int × mA)) : Nat → mA → Int → Int → Int → Int → Int → Nat → Int → Option (Int × mA)
  | 0, _, _, _, _, _, _, _, _ => none
  | n + 1, A, b1, b2, b3, b4, b5, b7, b8 => (if g32 b8 then (if 10 ≤ b8 then (f_Mo_tell_102 mk 310 A b1 b2 b3 b4 b5 b7 0) else (if (0 ≤ b1 ∧ b1 < ((6 : Nat) : Int)) then (if (0 ≤ b2 ∧ b2 < ((10 : Nat) : Int)) then (if (0 ≤ b8 ∧ b8 < ((10 : Nat) : Int)) then (f_Mo_tell_74 mk n (mu A 51 (b1.toNat * 10 + b2.toNat) b8.toNat 0) b1 b2 b3 b4 b5 b7 (b8 + 1)) else none) else none) else none)) else none)
def f_Mo_tell (mk : mA → Int → Int → Int → Nat → Int → Option (Int × mA)) (A : mA) (a0 : Int) (a1 : Int) : Option (Int × mA) := (if (0 ≤ a0 ∧ a0 < ((6 : Nat) : Int)) then (if (0 ≤ a1 ∧ a1 < ((10 : Nat) : Int)) then (if g32 (A 47 a0.toNat a1.toNat) then (if (A 47 a0.toNat a1.toNat) = 0 then (Option.bind (f_Mo_takenO (mu A 0 0 34 0) ) (fun q38 => (Option.bind (f_Mo_with q38.2 0 0 a1) (fun q41 => (Option.bind (f_Odds_come q41.2 q38.1.toNat q41.1 1125899906842624) (fun q43 => (Option.bind (mk q43.2 a0 0 (q43.2 5 0 a0.toNat) q38.1.toNat (-1)) (fun q45 => (f_Mo_tell_74 mk 310 q45.2 a0 a1 (A 0 0 35) (A 0 0 34) (A 0 0 33) q45.1.toNat 0))))))))) else (some (0, A))) else none) else none) else none)
theorem f_x_Mo_tell_0_1 : mblkB b_Mo_tell [(0, .aload_n 0, vi 0)] = true := by decide +kernel
theorem e_x_Mo_tell_1 : decode b_Mo_tell 1 = .ok (.getfield 65, 3) := by decide +kernel
theorem f_x_Mo_tell_4_1 : mblkB b_Mo_tell [(4, .iload_n 1, vi 0)] = true := by decide +kernel
theorem e_x_Mo_tell_5 : decode b_Mo_tell 5 = .ok (.aaload, 1) := by decide +kernel
theorem f_x_Mo_tell_6_1 : mblkB b_Mo_tell [(6, .iload_n 2, vi 0)] = true := by decide +kernel
theorem e_x_Mo_tell_7 : decode b_Mo_tell 7 = .ok (.baload, 1) := by decide +kernel
theorem e_x_Mo_tell_8 : decode b_Mo_tell 8 = .ok (.ifCond .eq 4, 3) := by decide +kernel
theorem f_x_Mo_tell_12_1 : mblkB b_Mo_tell [(12, .aload_n 0, vi 0)] = true := by decide +kernel
theorem e_x_Mo_tell_13 : decode b_Mo_tell 13 = .ok (.getfield 314, 3) := by decide +kernel
theorem f_x_Mo_tell_16_2 : mblkB b_Mo_tell [(16, .istore_n 3, vi 0), (17, .aload_n 0, vi 0)] = true := by decide +kernel
theorem e_x_Mo_tell_18 : decode b_Mo_tell 18 = .ok (.getfield 297, 3) := by decide +kernel
theorem f_x_Mo_tell_21_3 : mblkB b_Mo_tell [(21, .istore 4, vi 0), (23, .aload_n 0, vi 0), (24, .iconst 0, vi 0)] = true := by decide +kernel
theorem e_x_Mo_tell_25 : decode b_Mo_tell 25 = .ok (.putfield 297, 3) := by decide +kernel
theorem f_x_Mo_tell_28_1 : mblkB b_Mo_tell [(28, .aload_n 0, vi 0)] = true := by decide +kernel
theorem e_x_Mo_tell_29 : decode b_Mo_tell 29 = .ok (.getfield 269, 3) := by decide +kernel
theorem f_x_Mo_tell_32_2 : mblkB b_Mo_tell [(32, .istore 5, vi 0), (34, .aload_n 0, vi 0)] = true := by decide +kernel
theorem e_x_Mo_tell_35 : decode b_Mo_tell 35 = .ok (.invokevirtual 275, 3) := by decide +kernel
theorem f_x_Mo_tell_38_5 : mblkB b_Mo_tell [(38, .astore 6, vi 0), (40, .aload 6, vi 0), (42, .iconst 0, vi 0), (43, .iconst 0, vi 0), (44, .iload_n 2, vi 0)] = true := by decide +kernel
theorem e_x_Mo_tell_45 : decode b_Mo_tell 45 = .ok (.invokestatic 282, 3) := by decide +kernel
theorem e_x_Mo_tell_48 : decode b_Mo_tell 48 = .ok (.ldc2_w 340, 3) := by decide +kernel
theorem e_x_Mo_tell_51 : decode b_Mo_tell 51 = .ok (.invokevirtual 289, 3) := by decide +kernel
theorem f_x_Mo_tell_54_4 : mblkB b_Mo_tell [(54, .aload_n 0, vi 0), (55, .iload_n 1, vi 0), (56, .iconst 0, vi 0), (57, .aload_n 0, vi 0)] = true := by decide +kernel
theorem e_x_Mo_tell_58 : decode b_Mo_tell 58 = .ok (.getfield 9, 3) := by decide +kernel
theorem f_x_Mo_tell_61_1 : mblkB b_Mo_tell [(61, .iload_n 1, vi 0)] = true := by decide +kernel
theorem e_x_Mo_tell_62 : decode b_Mo_tell 62 = .ok (.iaload, 1) := by decide +kernel
theorem f_x_Mo_tell_63_2 : mblkB b_Mo_tell [(63, .aload 6, vi 0), (65, .iconst (-1), vi (-1))] = true := by decide +kernel
theorem e_x_Mo_tell_66 : decode b_Mo_tell 66 = .ok (.invokevirtual 336, 3) := by decide +kernel
theorem f_x_Mo_tell_69_3 : mblkB b_Mo_tell [(69, .astore 7, vi 0), (71, .iconst 0, vi 0), (72, .istore 8, vi 0)] = true := by decide +kernel
theorem e_x_Mo_tell_11 : decode b_Mo_tell 11 = .ok (.return_, 1) := by decide +kernel
theorem f_x_Mo_tell_74_2 : mblkB b_Mo_tell [(74, .iload 8, vi 0), (76, .bipush 10, vi 10)] = true := by decide +kernel
theorem e_x_Mo_tell_78 : decode b_Mo_tell 78 = .ok (.if_icmp .ge 21, 3) := by decide +kernel
theorem f_x_Mo_tell_99_2 : mblkB b_Mo_tell [(99, .iconst 0, vi 0), (100, .istore 8, vi 0)] = true := by decide +kernel
theorem f_x_Mo_tell_81_1 : mblkB b_Mo_tell [(81, .aload_n 0, vi 0)] = true := by decide +kernel
theorem e_x_Mo_tell_82 : decode b_Mo_tell 82 = .ok (.getfield 73, 3) := by decide +kernel
theorem f_x_Mo_tell_85_1 : mblkB b_Mo_tell [(85, .iload_n 1, vi 0)] = true := by decide +kernel
theorem e_x_Mo_tell_86 : decode b_Mo_tell 86 = .ok (.aaload, 1) := by decide +kernel
theorem f_x_Mo_tell_87_1 : mblkB b_Mo_tell [(87, .iload_n 2, vi 0)] = true := by decide +kernel
theorem e_x_Mo_tell_88 : decode b_Mo_tell 88 = .ok (.aaload, 1) := by decide +kernel
theorem f_x_Mo_tell_89_2 : mblkB b_Mo_tell [(89, .iload 8, vi 0), (91, .lconst 0, vl 0)] = true := by decide +kernel
theorem e_x_Mo_tell_92 : decode b_Mo_tell 92 = .ok (.lastore, 1) := by decide +kernel
theorem f_x_Mo_tell_93_2 : mblkB b_Mo_tell [(93, .iinc 8 1, vi 1), (96, .goto (-22), vi 74)] = true := by decide +kernel
theorem f_x_Mo_tell_102_2 : mblkB b_Mo_tell [(102, .iload 8, vi 0), (104, .aload 7, vi 0)] = true := by decide +kernel
theorem e_x_Mo_tell_106 : decode b_Mo_tell 106 = .ok (.getfield 272, 3) := by decide +kernel
theorem e_x_Mo_tell_109 : decode b_Mo_tell 109 = .ok (.if_icmp .ge 48, 3) := by decide +kernel
theorem f_x_Mo_tell_157_1 : mblkB b_Mo_tell [(157, .aload_n 0, vi 0)] = true := by decide +kernel
theorem e_x_Mo_tell_158 : decode b_Mo_tell 158 = .ok (.getfield 68, 3) := by decide +kernel
theorem f_x_Mo_tell_161_1 : mblkB b_Mo_tell [(161, .iload_n 1, vi 0)] = true := by decide +kernel
theorem e_x_Mo_tell_162 : decode b_Mo_tell 162 = .ok (.aaload, 1) := by decide +kernel
theorem f_x_Mo_tell_163_2 : mblkB b_Mo_tell [(163, .iload_n 2, vi 0), (164, .aload_n 0, vi 0)] = true := by decide +kernel
theorem e_x_Mo_tell_165 : decode b_Mo_tell 165 = .ok (.getfield 297, 3) := by decide +kernel
theorem e_x_Mo_tell_168 : decode b_Mo_tell 168 = .ok (.bastore, 1) := by decide +kernel
theorem f_x_Mo_tell_169_1 : mblkB b_Mo_tell [(169, .aload_n 0, vi 0)] = true := by decide +kernel
theorem e_x_Mo_tell_170 : decode b_Mo_tell 170 = .ok (.getfield 65, 3) := by decide +kernel
theorem f_x_Mo_tell_173_1 : mblkB b_Mo_tell [(173, .iload_n 1, vi 0)] = true := by decide +kernel
theorem e_x_Mo_tell_174 : decode b_Mo_tell 174 = .ok (.aaload, 1) := by decide +kernel
theorem f_x_Mo_tell_175_2 : mblkB b_Mo_tell [(175, .iload_n 2, vi 0), (176, .iconst 1, vi 1)] = true := by decide +kernel
theorem e_x_Mo_tell_177 : decode b_Mo_tell 177 = .ok (.bastore, 1) := by decide +kernel
theorem f_x_Mo_tell_178_2 : mblkB b_Mo_tell [(178, .aload_n 0, vi 0), (179, .iload 5, vi 0)] = true := by decide +kernel
theorem e_x_Mo_tell_181 : decode b_Mo_tell 181 = .ok (.putfield 269, 3) := by decide +kernel
theorem f_x_Mo_tell_184_2 : mblkB b_Mo_tell [(184, .aload_n 0, vi 0), (185, .iload 4, vi 0)] = true := by decide +kernel
theorem e_x_Mo_tell_187 : decode b_Mo_tell 187 = .ok (.putfield 297, 3) := by decide +kernel
theorem f_x_Mo_tell_190_2 : mblkB b_Mo_tell [(190, .aload_n 0, vi 0), (191, .iload_n 3, vi 0)] = true := by decide +kernel
theorem e_x_Mo_tell_192 : decode b_Mo_tell 192 = .ok (.putfield 314, 3) := by decide +kernel
theorem e_x_Mo_tell_195 : decode b_Mo_tell 195 = .ok (.return_, 1) := by decide +kernel
theorem f_x_Mo_tell_112_1 : mblkB b_Mo_tell [(112, .aload_n 0, vi 0)] = true := by decide +kernel
theorem e_x_Mo_tell_113 : decode b_Mo_tell 113 = .ok (.getfield 297, 3) := by decide +kernel
theorem e_x_Mo_tell_116 : decode b_Mo_tell 116 = .ok (.ifCond .ne 41, 3) := by decide +kernel
theorem f_x_Mo_tell_119_1 : mblkB b_Mo_tell [(119, .aload_n 0, vi 0)] = true := by decide +kernel
theorem e_x_Mo_tell_120 : decode b_Mo_tell 120 = .ok (.getfield 73, 3) := by decide +kernel
theorem f_x_Mo_tell_123_1 : mblkB b_Mo_tell [(123, .iload_n 1, vi 0)] = true := by decide +kernel
theorem e_x_Mo_tell_124 : decode b_Mo_tell 124 = .ok (.aaload, 1) := by decide +kernel
theorem f_x_Mo_tell_125_1 : mblkB b_Mo_tell [(125, .iload_n 2, vi 0)] = true := by decide +kernel
theorem e_x_Mo_tell_126 : decode b_Mo_tell 126 = .ok (.aaload, 1) := by decide +kernel
theorem f_x_Mo_tell_127_1 : mblkB b_Mo_tell [(127, .aload 7, vi 0)] = true := by decide +kernel
theorem e_x_Mo_tell_129 : decode b_Mo_tell 129 = .ok (.getfield 279, 3) := by decide +kernel
theorem f_x_Mo_tell_132_1 : mblkB b_Mo_tell [(132, .iload 8, vi 0)] = true := by decide +kernel
theorem e_x_Mo_tell_134 : decode b_Mo_tell 134 = .ok (.iaload, 1) := by decide +kernel
theorem f_x_Mo_tell_135_1 : mblkB b_Mo_tell [(135, .iconst 0, vi 0)] = true := by decide +kernel
theorem e_x_Mo_tell_136 : decode b_Mo_tell 136 = .ok (.invokestatic 260, 3) := by decide +kernel
theorem f_x_Mo_tell_139_1 : mblkB b_Mo_tell [(139, .dup2, vi 0)] = true := by decide +kernel
theorem e_x_Mo_tell_140 : decode b_Mo_tell 140 = .ok (.laload, 1) := by decide +kernel
theorem f_x_Mo_tell_141_1 : mblkB b_Mo_tell [(141, .aload 7, vi 0)] = true := by decide +kernel
theorem e_x_Mo_tell_143 : decode b_Mo_tell 143 = .ok (.getfield 285, 3) := by decide +kernel
theorem f_x_Mo_tell_146_1 : mblkB b_Mo_tell [(146, .iload 8, vi 0)] = true := by decide +kernel
theorem e_x_Mo_tell_148 : decode b_Mo_tell 148 = .ok (.laload, 1) := by decide +kernel
theorem f_x_Mo_tell_149_1 : mblkB b_Mo_tell [(149, .ladd, vi 0)] = true := by decide +kernel
theorem e_x_Mo_tell_150 : decode b_Mo_tell 150 = .ok (.lastore, 1) := by decide +kernel
theorem f_x_Mo_tell_151_2 : mblkB b_Mo_tell [(151, .iinc 8 1, vi 1), (154, .goto (-52), vi 102)] = true := by decide +kernel
set_option maxHeartbeats 4000000 in
set_option maxRecDepth 20000 in
theorem x_Mo_tell {mk : mA → Int → Int → Int → Nat → Int → Option (Int × mA)} {fr lo : Nat} (hmk : ∀ (l : Launch) (D : va_G) (B : Nat) (H0 : Heap) (ad : mAd) (A : mA) (a0 : Int) (a1 : Int) (a2 : Int) (a3 : Nat) (a4 : Int) (h_a3 : a3 < 200) (hS : mStr D ad) (r9 : Int) (A9 : mA), mk A a0 a1 a2 a3 a4 = some (r9, A9) → mMet l D B H0 ad y_Mo_make b_Mo_make 11 (some (.object "ChanceStepsModel$Odds")) (fr + 760) (lo + 26000) [vr 0 0, vi a0, vi a1, vi a2, vr 1 a3, vi a4] A (fun v A' => v = some (vr 1 r9.toNat) ∧ A' = A9 ∧ r9.toNat < 200)) : ∀ (l : Launch) (D : va_G) (B : Nat) (H0 : Heap) (ad : mAd) (A : mA) (a0 : Int) (a1 : Int) (hS : mStr D ad) (r9 : Int) (A9 : mA), f_Mo_tell mk A a0 a1 = some (r9, A9) → mMet l D B H0 ad y_Mo_tell b_Mo_tell 9 none (fr + 762) (lo + 26060) [vr 0 0, vi a0, vi a1] A (fun v A' => v = none ∧ A' = A9) := by
  intro l D B H0 ad A a0 a1  hS r9 A9 h
  refine m_met (by decide) rfl (fun g w0 C Rm Y E => ?_)
  have hd_102 : ∀ (n : Nat) (A : mA) (b1 : Int) (b2 : Int) (b3 : Int) (b4 : Int) (b5 : Int) (b7 : Nat) (b8 : Int) , b7 < 200 → f_Mo_tell_102 mk n A b1 b2 b3 b4 b5 b7 b8 = some (r9, A9) → JM g D ad w0 A 102 [(0, vr 0 0), (1, vi b1), (2, vi b2), (3, vi b3), (4, vi b4), (5, vi b5), (7, vr 1 b7), (8, vi b8)] [] := by
    intro n
    induction n with
    | zero => intro A b1 b2 b3 b4 b5 b7 b8 h_b7 h; cases h
    | succ n ih =>
      intro A b1 b2 b3 b4 b5 b7 b8 h_b7 h
      unfold f_Mo_tell_102 at h
      refine m_blk 106 [(0, vr 0 0), (1, vi b1), (2, vi b2), (3, vi b3), (4, vi b4), (5, vi b5), (7, vr 1 b7), (8, vi b8)] [vr 1 b7, vi b8] C f_x_Mo_tell_102_2 rfl ?_
      refine m_getiN C e_x_Mo_tell_106 fg_Mo_272 rfl (h_b7) rfl (A 1 b7 2) rfl ?_
      obtain ⟨c1, h⟩ := igd h
      obtain ⟨c2, h⟩ := igd h
      refine m_icmp_ge (tgt := 157) C e_x_Mo_tell_109 (by decide) c1 c2 (fun c3 => ?_) (fun c3 => ?_)
      · have h := ifp c3 h
        refine m_blk 158 [(0, vr 0 0), (1, vi b1), (2, vi b2), (3, vi b3), (4, vi b4), (5, vi b5), (7, vr 1 b7), (8, vi b8)] [vr 0 0] C f_x_Mo_tell_157_1 rfl ?_
        refine m_getr C e_x_Mo_tell_158 fg_Mo_68 rfl (by decide) rfl ?_
        refine m_blk 162 [(0, vr 0 0), (1, vi b1), (2, vi b2), (3, vi b3), (4, vi b4), (5, vi b5), (7, vr 1 b7), (8, vi b8)] [vi b1, vr 28 0] C f_x_Mo_tell_161_1 rfl ?_
        obtain ⟨c4, h⟩ := igd h
        have k5 : b1.toNat < 6 := by omega
        refine m_aald C b1.toNat e_x_Mo_tell_162 rfl rfl rfl (by decide) (by decide) c4.1 c4.2 (mz _ _) ?_
        refine m_blk 165 [(0, vr 0 0), (1, vi b1), (2, vi b2), (3, vi b3), (4, vi b4), (5, vi b5), (7, vr 1 b7), (8, vi b8)] [vr 0 0, vi b2, vr 48 b1.toNat] C f_x_Mo_tell_163_2 rfl ?_
        refine m_geti C e_x_Mo_tell_165 fg_Mo_297 rfl (by decide) rfl (A 0 0 34) rfl ?_
        obtain ⟨c6, h⟩ := igd h
        obtain ⟨c7, h⟩ := igd h
        refine m_zast C e_x_Mo_tell_168 rfl (k5) (by decide) c6.1 c6.2 c7 ?_
        refine m_blk 170 [(0, vr 0 0), (1, vi b1), (2, vi b2), (3, vi b3), (4, vi b4), (5, vi b5), (7, vr 1 b7), (8, vi b8)] [vr 0 0] C f_x_Mo_tell_169_1 rfl ?_
        refine m_getr C e_x_Mo_tell_170 fg_Mo_65 rfl (by decide) rfl ?_
        refine m_blk 174 [(0, vr 0 0), (1, vi b1), (2, vi b2), (3, vi b3), (4, vi b4), (5, vi b5), (7, vr 1 b7), (8, vi b8)] [vi b1, vr 27 0] C f_x_Mo_tell_173_1 rfl ?_
        have k8 : b1.toNat < 6 := by omega
        refine m_aald C b1.toNat e_x_Mo_tell_174 rfl rfl rfl (by decide) (by decide) c4.1 c4.2 (mz _ _) ?_
        refine m_blk 177 [(0, vr 0 0), (1, vi b1), (2, vi b2), (3, vi b3), (4, vi b4), (5, vi b5), (7, vr 1 b7), (8, vi b8)] [vi 1, vi b2, vr 47 b1.toNat] C f_x_Mo_tell_175_2 rfl ?_
        refine m_zast C e_x_Mo_tell_177 rfl (k8) (by decide) c6.1 c6.2 (Or.inr rfl) ?_
        refine m_blk 181 [(0, vr 0 0), (1, vi b1), (2, vi b2), (3, vi b3), (4, vi b4), (5, vi b5), (7, vr 1 b7), (8, vi b8)] [vi b5, vr 0 0] C f_x_Mo_tell_178_2 rfl ?_
        refine m_puti C e_x_Mo_tell_181 fp_Mo_269 rfl (by decide) rfl ?_
        refine m_blk 187 [(0, vr 0 0), (1, vi b1), (2, vi b2), (3, vi b3), (4, vi b4), (5, vi b5), (7, vr 1 b7), (8, vi b8)] [vi b4, vr 0 0] C f_x_Mo_tell_184_2 rfl ?_
        obtain ⟨c9, h⟩ := igd h
        refine m_putz C e_x_Mo_tell_187 fp_Mo_297 rfl (by decide) rfl c9 ?_
        refine m_blk 192 [(0, vr 0 0), (1, vi b1), (2, vi b2), (3, vi b3), (4, vi b4), (5, vi b5), (7, vr 1 b7), (8, vi b8)] [vi b3, vr 0 0] C f_x_Mo_tell_190_2 rfl ?_
        refine m_puti C e_x_Mo_tell_192 fp_Mo_314 rfl (by decide) rfl ?_
        exact m_vret C Rm E e_x_Mo_tell_195 (fin0 h)
      · have h := ifn c3 h
        refine m_blk 113 [(0, vr 0 0), (1, vi b1), (2, vi b2), (3, vi b3), (4, vi b4), (5, vi b5), (7, vr 1 b7), (8, vi b8)] [vr 0 0] C f_x_Mo_tell_112_1 rfl ?_
        refine m_geti C e_x_Mo_tell_113 fg_Mo_297 rfl (by decide) rfl (A 0 0 34) rfl ?_
        obtain ⟨c10, h⟩ := igd h
        refine m_if_ne (tgt := 157) C e_x_Mo_tell_116 (by decide) c10 (fun c11 => ?_) (fun c11 => ?_)
        · have h := ifn c11 h
          refine m_blk 158 [(0, vr 0 0), (1, vi b1), (2, vi b2), (3, vi b3), (4, vi b4), (5, vi b5), (7, vr 1 b7), (8, vi b8)] [vr 0 0] C f_x_Mo_tell_157_1 rfl ?_
          refine m_getr C e_x_Mo_tell_158 fg_Mo_68 rfl (by decide) rfl ?_
          refine m_blk 162 [(0, vr 0 0), (1, vi b1), (2, vi b2), (3, vi b3), (4, vi b4), (5, vi b5), (7, vr 1 b7), (8, vi b8)] [vi b1, vr 28 0] C f_x_Mo_tell_161_1 rfl ?_
          obtain ⟨c12, h⟩ := igd h
          have k13 : b1.toNat < 6 := by omega
          refine m_aald C b1.toNat e_x_Mo_tell_162 rfl rfl rfl (by decide) (by decide) c12.1 c12.2 (mz _ _) ?_
          refine m_blk 165 [(0, vr 0 0), (1, vi b1), (2, vi b2), (3, vi b3), (4, vi b4), (5, vi b5), (7, vr 1 b7), (8, vi b8)] [vr 0 0, vi b2, vr 48 b1.toNat] C f_x_Mo_tell_163_2 rfl ?_
          refine m_geti C e_x_Mo_tell_165 fg_Mo_297 rfl (by decide) rfl (A 0 0 34) rfl ?_
          obtain ⟨c14, h⟩ := igd h
          obtain ⟨c15, h⟩ := igd h
          refine m_zast C e_x_Mo_tell_168 rfl (k13) (by decide) c14.1 c14.2 c15 ?_
          refine m_blk 170 [(0, vr 0 0), (1, vi b1), (2, vi b2), (3, vi b3), (4, vi b4), (5, vi b5), (7, vr 1 b7), (8, vi b8)] [vr 0 0] C f_x_Mo_tell_169_1 rfl ?_
          refine m_getr C e_x_Mo_tell_170 fg_Mo_65 rfl (by decide) rfl ?_
          refine m_blk 174 [(0, vr 0 0), (1, vi b1), (2, vi b2), (3, vi b3), (4, vi b4), (5, vi b5), (7, vr 1 b7), (8, vi b8)] [vi b1, vr 27 0] C f_x_Mo_tell_173_1 rfl ?_
          have k16 : b1.toNat < 6 := by omega
          refine m_aald C b1.toNat e_x_Mo_tell_174 rfl rfl rfl (by decide) (by decide) c12.1 c12.2 (mz _ _) ?_
          refine m_blk 177 [(0, vr 0 0), (1, vi b1), (2, vi b2), (3, vi b3), (4, vi b4), (5, vi b5), (7, vr 1 b7), (8, vi b8)] [vi 1, vi b2, vr 47 b1.toNat] C f_x_Mo_tell_175_2 rfl ?_
          refine m_zast C e_x_Mo_tell_177 rfl (k16) (by decide) c14.1 c14.2 (Or.inr rfl) ?_
          refine m_blk 181 [(0, vr 0 0), (1, vi b1), (2, vi b2), (3, vi b3), (4, vi b4), (5, vi b5), (7, vr 1 b7), (8, vi b8)] [vi b5, vr 0 0] C f_x_Mo_tell_178_2 rfl ?_
          refine m_puti C e_x_Mo_tell_181 fp_Mo_269 rfl (by decide) rfl ?_
          refine m_blk 187 [(0, vr 0 0), (1, vi b1), (2, vi b2), (3, vi b3), (4, vi b4), (5, vi b5), (7, vr 1 b7), (8, vi b8)] [vi b4, vr 0 0] C f_x_Mo_tell_184_2 rfl ?_
          obtain ⟨c17, h⟩ := igd h
          refine m_putz C e_x_Mo_tell_187 fp_Mo_297 rfl (by decide) rfl c17 ?_
          refine m_blk 192 [(0, vr 0 0), (1, vi b1), (2, vi b2), (3, vi b3), (4, vi b4), (5, vi b5), (7, vr 1 b7), (8, vi b8)] [vi b3, vr 0 0] C f_x_Mo_tell_190_2 rfl ?_
          refine m_puti C e_x_Mo_tell_192 fp_Mo_314 rfl (by decide) rfl ?_
          exact m_vret C Rm E e_x_Mo_tell_195 (fin0 h)
        · have h := ifp c11 h
          refine m_blk 120 [(0, vr 0 0), (1, vi b1), (2, vi b2), (3, vi b3), (4, vi b4), (5, vi b5), (7, vr 1 b7), (8, vi b8)] [vr 0 0] C f_x_Mo_tell_119_1 rfl ?_
          refine m_getr C e_x_Mo_tell_120 fg_Mo_73 rfl (by decide) rfl ?_
          refine m_blk 124 [(0, vr 0 0), (1, vi b1), (2, vi b2), (3, vi b3), (4, vi b4), (5, vi b5), (7, vr 1 b7), (8, vi b8)] [vi b1, vr 30 0] C f_x_Mo_tell_123_1 rfl ?_
          obtain ⟨c18, h⟩ := igd h
          have k19 : b1.toNat < 6 := by omega
          refine m_aald C b1.toNat e_x_Mo_tell_124 rfl rfl rfl (by decide) (by decide) c18.1 c18.2 (mz _ _) ?_
          refine m_blk 126 [(0, vr 0 0), (1, vi b1), (2, vi b2), (3, vi b3), (4, vi b4), (5, vi b5), (7, vr 1 b7), (8, vi b8)] [vi b2, vr 50 b1.toNat] C f_x_Mo_tell_125_1 rfl ?_
          obtain ⟨c20, h⟩ := igd h
          have k21 : (b1.toNat * 10 + b2.toNat) < 60 := by omega
          refine m_aald C (b1.toNat * 10 + b2.toNat) e_x_Mo_tell_126 rfl rfl rfl (k19) (by decide) c20.1 c20.2 rfl ?_
          refine m_blk 129 [(0, vr 0 0), (1, vi b1), (2, vi b2), (3, vi b3), (4, vi b4), (5, vi b5), (7, vr 1 b7), (8, vi b8)] [vr 1 b7, vr 51 (b1.toNat * 10 + b2.toNat)] C f_x_Mo_tell_127_1 rfl ?_
          refine m_getrN C e_x_Mo_tell_129 fg_Mo_279 rfl (h_b7) rfl ?_
          refine m_blk 134 [(0, vr 0 0), (1, vi b1), (2, vi b2), (3, vi b3), (4, vi b4), (5, vi b5), (7, vr 1 b7), (8, vi b8)] [vi b8, vr 3 b7, vr 51 (b1.toNat * 10 + b2.toNat)] C f_x_Mo_tell_132_1 rfl ?_
          obtain ⟨c22, h⟩ := igd h
          refine m_iald C e_x_Mo_tell_134 rfl (h_b7) (by decide) c22.1 c22.2 (A 3 b7 b8.toNat) rfl ?_
          refine m_blk 136 [(0, vr 0 0), (1, vi b1), (2, vi b2), (3, vi b3), (4, vi b4), (5, vi b5), (7, vr 1 b7), (8, vi b8)] [vi 0, vi (A 3 b7 b8.toNat), vr 51 (b1.toNat * 10 + b2.toNat)] C f_x_Mo_tell_135_1 rfl ?_
          obtain ⟨q23, e24, h⟩ := obd h
          refine m_callS C Rm Y [vi (A 3 b7 b8.toNat), vi 0] [vr 51 (b1.toNat * 10 + b2.toNat)] (x_Mo_valueOf l D B H0 ad _ (A 3 b7 b8.toNat) 0 hS _ _ e24) cl_Mo_260 e_x_Mo_tell_136 rfl rfl rfl ⟨by show _ ≤ ((fr + 762) : Nat); omega, by show _ ≤ ((lo + 26060) : Nat); omega⟩ ?_
          rintro _ _ ⟨rfl, rfl⟩
          show JM g D ad w0 q23.2 139 [(0, vr 0 0), (1, vi b1), (2, vi b2), (3, vi b3), (4, vi b4), (5, vi b5), (7, vr 1 b7), (8, vi b8)] [vi q23.1, vr 51 (b1.toNat * 10 + b2.toNat)]
          refine m_blk 140 [(0, vr 0 0), (1, vi b1), (2, vi b2), (3, vi b3), (4, vi b4), (5, vi b5), (7, vr 1 b7), (8, vi b8)] [vi q23.1, vr 51 (b1.toNat * 10 + b2.toNat), vi q23.1, vr 51 (b1.toNat * 10 + b2.toNat)] C f_x_Mo_tell_139_1 rfl ?_
          obtain ⟨c25, h⟩ := igd h
          refine m_lald C e_x_Mo_tell_140 rfl (k21) (by decide) c25.1 c25.2 (q23.2 51 (b1.toNat * 10 + b2.toNat) q23.1.toNat) rfl ?_
          refine m_blk 143 [(0, vr 0 0), (1, vi b1), (2, vi b2), (3, vi b3), (4, vi b4), (5, vi b5), (7, vr 1 b7), (8, vi b8)] [vr 1 b7, vl (q23.2 51 (b1.toNat * 10 + b2.toNat) q23.1.toNat), vi q23.1, vr 51 (b1.toNat * 10 + b2.toNat)] C f_x_Mo_tell_141_1 rfl ?_
          refine m_getrN C e_x_Mo_tell_143 fg_Mo_285 rfl (h_b7) rfl ?_
          refine m_blk 148 [(0, vr 0 0), (1, vi b1), (2, vi b2), (3, vi b3), (4, vi b4), (5, vi b5), (7, vr 1 b7), (8, vi b8)] [vi b8, vr 4 b7, vl (q23.2 51 (b1.toNat * 10 + b2.toNat) q23.1.toNat), vi q23.1, vr 51 (b1.toNat * 10 + b2.toNat)] C f_x_Mo_tell_146_1 rfl ?_
          refine m_lald C e_x_Mo_tell_148 rfl (h_b7) (by decide) c22.1 c22.2 (q23.2 4 b7 b8.toNat) rfl ?_
          refine m_blk 150 [(0, vr 0 0), (1, vi b1), (2, vi b2), (3, vi b3), (4, vi b4), (5, vi b5), (7, vr 1 b7), (8, vi b8)] [vl ((q23.2 51 (b1.toNat * 10 + b2.toNat) q23.1.toNat) + (q23.2 4 b7 b8.toNat)), vi q23.1, vr 51 (b1.toNat * 10 + b2.toNat)] C f_x_Mo_tell_149_1 rfl ?_
          refine m_last C e_x_Mo_tell_150 rfl (k21) (by decide) c25.1 c25.2 ?_
          refine m_blk 102 [(8, vi (b8 + 1)), (0, vr 0 0), (1, vi b1), (2, vi b2), (3, vi b3), (4, vi b4), (5, vi b5), (7, vr 1 b7)] [] C f_x_Mo_tell_151_2 rfl ?_
          refine m_loc [(0, vr 0 0), (1, vi b1), (2, vi b2), (3, vi b3), (4, vi b4), (5, vi b5), (7, vr 1 b7), (8, vi (b8 + 1))] ⟨rfl, rfl, rfl, rfl, rfl, rfl, rfl, rfl, trivial⟩ ?_
          exact ih (mu q23.2 51 (b1.toNat * 10 + b2.toNat) q23.1.toNat ((q23.2 51 (b1.toNat * 10 + b2.toNat) q23.1.toNat) + (q23.2 4 b7 b8.toNat))) b1 b2 b3 b4 b5 b7 (b8 + 1) (h_b7) h
  have hd_74 : ∀ (n : Nat) (A : mA) (b1 : Int) (b2 : Int) (b3 : Int) (b4 : Int) (b5 : Int) (b7 : Nat) (b8 : Int) , b7 < 200 → f_Mo_tell_74 mk n A b1 b2 b3 b4 b5 b7 b8 = some (r9, A9) → JM g D ad w0 A 74 [(0, vr 0 0), (1, vi b1), (2, vi b2), (3, vi b3), (4, vi b4), (5, vi b5), (7, vr 1 b7), (8, vi b8)] [] := by
    intro n
    induction n with
    | zero => intro A b1 b2 b3 b4 b5 b7 b8 h_b7 h; cases h
    | succ n ih =>
      intro A b1 b2 b3 b4 b5 b7 b8 h_b7 h
      unfold f_Mo_tell_74 at h
      refine m_blk 78 [(0, vr 0 0), (1, vi b1), (2, vi b2), (3, vi b3), (4, vi b4), (5, vi b5), (7, vr 1 b7), (8, vi b8)] [vi 10, vi b8] C f_x_Mo_tell_74_2 rfl ?_
      obtain ⟨c26, h⟩ := igd h
      refine m_icmp_ge (tgt := 99) C e_x_Mo_tell_78 (by decide) c26 (by decide) (fun c27 => ?_) (fun c27 => ?_)
      · have h := ifp c27 h
        refine m_blk 102 [(8, vi 0), (0, vr 0 0), (1, vi b1), (2, vi b2), (3, vi b3), (4, vi b4), (5, vi b5), (7, vr 1 b7)] [] C f_x_Mo_tell_99_2 rfl ?_
        refine m_loc [(0, vr 0 0), (1, vi b1), (2, vi b2), (3, vi b3), (4, vi b4), (5, vi b5), (7, vr 1 b7), (8, vi 0)] ⟨rfl, rfl, rfl, rfl, rfl, rfl, rfl, rfl, trivial⟩ ?_
        exact hd_102 _ A b1 b2 b3 b4 b5 b7 0 (h_b7) h
      · have h := ifn c27 h
        refine m_blk 82 [(0, vr 0 0), (1, vi b1), (2, vi b2), (3, vi b3), (4, vi b4), (5, vi b5), (7, vr 1 b7), (8, vi b8)] [vr 0 0] C f_x_Mo_tell_81_1 rfl ?_
        refine m_getr C e_x_Mo_tell_82 fg_Mo_73 rfl (by decide) rfl ?_
        refine m_blk 86 [(0, vr 0 0), (1, vi b1), (2, vi b2), (3, vi b3), (4, vi b4), (5, vi b5), (7, vr 1 b7), (8, vi b8)] [vi b1, vr 30 0] C f_x_Mo_tell_85_1 rfl ?_
        obtain ⟨c28, h⟩ := igd h
        have k29 : b1.toNat < 6 := by omega
        refine m_aald C b1.toNat e_x_Mo_tell_86 rfl rfl rfl (by decide) (by decide) c28.1 c28.2 (mz _ _) ?_
        refine m_blk 88 [(0, vr 0 0), (1, vi b1), (2, vi b2), (3, vi b3), (4, vi b4), (5, vi b5), (7, vr 1 b7), (8, vi b8)] [vi b2, vr 50 b1.toNat] C f_x_Mo_tell_87_1 rfl ?_
        obtain ⟨c30, h⟩ := igd h
        have k31 : (b1.toNat * 10 + b2.toNat) < 60 := by omega
        refine m_aald C (b1.toNat * 10 + b2.toNat) e_x_Mo_tell_88 rfl rfl rfl (k29) (by decide) c30.1 c30.2 rfl ?_
        refine m_blk 92 [(0, vr 0 0), (1, vi b1), (2, vi b2), (3, vi b3), (4, vi b4), (5, vi b5), (7, vr 1 b7), (8, vi b8)] [vl 0, vi b8, vr 51 (b1.toNat * 10 + b2.toNat)] C f_x_Mo_tell_89_2 rfl ?_
        obtain ⟨c32, h⟩ := igd h
        refine m_last C e_x_Mo_tell_92 rfl (k31) (by decide) c32.1 c32.2 ?_
        refine m_blk 74 [(8, vi (b8 + 1)), (0, vr 0 0), (1, vi b1), (2, vi b2), (3, vi b3), (4, vi b4), (5, vi b5), (7, vr 1 b7)] [] C f_x_Mo_tell_93_2 rfl ?_
        refine m_loc [(0, vr 0 0), (1, vi b1), (2, vi b2), (3, vi b3), (4, vi b4), (5, vi b5), (7, vr 1 b7), (8, vi (b8 + 1))] ⟨rfl, rfl, rfl, rfl, rfl, rfl, rfl, rfl, trivial⟩ ?_
        exact ih (mu A 51 (b1.toNat * 10 + b2.toNat) b8.toNat 0) b1 b2 b3 b4 b5 b7 (b8 + 1) (h_b7) h
  show JM g D ad w0 A 0 [(0, vr 0 0), (1, vi a0), (2, vi a1)] []
  unfold f_Mo_tell at h
  refine m_blk 1 [(0, vr 0 0), (1, vi a0), (2, vi a1)] [vr 0 0] C f_x_Mo_tell_0_1 rfl ?_
  refine m_getr C e_x_Mo_tell_1 fg_Mo_65 rfl (by decide) rfl ?_
  refine m_blk 5 [(0, vr 0 0), (1, vi a0), (2, vi a1)] [vi a0, vr 27 0] C f_x_Mo_tell_4_1 rfl ?_
  obtain ⟨c33, h⟩ := igd h
  have k34 : a0.toNat < 6 := by omega
  refine m_aald C a0.toNat e_x_Mo_tell_5 rfl rfl rfl (by decide) (by decide) c33.1 c33.2 (mz _ _) ?_
  refine m_blk 7 [(0, vr 0 0), (1, vi a0), (2, vi a1)] [vi a1, vr 47 a0.toNat] C f_x_Mo_tell_6_1 rfl ?_
  obtain ⟨c35, h⟩ := igd h
  refine m_zald C e_x_Mo_tell_7 rfl (k34) (by decide) c35.1 c35.2 (A 47 a0.toNat a1.toNat) rfl ?_
  obtain ⟨c36, h⟩ := igd h
  refine m_if_eq (tgt := 12) C e_x_Mo_tell_8 (by decide) c36 (fun c37 => ?_) (fun c37 => ?_)
  · have h := ifp c37 h
    refine m_blk 13 [(0, vr 0 0), (1, vi a0), (2, vi a1)] [vr 0 0] C f_x_Mo_tell_12_1 rfl ?_
    refine m_geti C e_x_Mo_tell_13 fg_Mo_314 rfl (by decide) rfl (A 0 0 35) rfl ?_
    refine m_blk 18 [(3, vi (A 0 0 35)), (0, vr 0 0), (1, vi a0), (2, vi a1)] [vr 0 0] C f_x_Mo_tell_16_2 rfl ?_
    refine m_geti C e_x_Mo_tell_18 fg_Mo_297 rfl (by decide) rfl (A 0 0 34) rfl ?_
    refine m_blk 25 [(4, vi (A 0 0 34)), (3, vi (A 0 0 35)), (0, vr 0 0), (1, vi a0), (2, vi a1)] [vi 0, vr 0 0] C f_x_Mo_tell_21_3 rfl ?_
    refine m_putz C e_x_Mo_tell_25 fp_Mo_297 rfl (by decide) rfl (Or.inl rfl) ?_
    refine m_blk 29 [(4, vi (A 0 0 34)), (3, vi (A 0 0 35)), (0, vr 0 0), (1, vi a0), (2, vi a1)] [vr 0 0] C f_x_Mo_tell_28_1 rfl ?_
    refine m_geti C e_x_Mo_tell_29 fg_Mo_269 rfl (by decide) rfl (A 0 0 33) rfl ?_
    refine m_blk 35 [(5, vi (A 0 0 33)), (4, vi (A 0 0 34)), (3, vi (A 0 0 35)), (0, vr 0 0), (1, vi a0), (2, vi a1)] [vr 0 0] C f_x_Mo_tell_32_2 rfl ?_
    obtain ⟨q38, e39, h⟩ := obd h
    refine m_callV C Rm Y [] [] (x_Mo_takenO l D B H0 ad _  hS _ _ e39) cl_Mo_275 rfl (by decide) rfl rfl e_x_Mo_tell_35 rfl rfl rfl ⟨by show _ ≤ ((fr + 762) : Nat); omega, by show _ ≤ ((lo + 26060) : Nat); omega⟩ ?_
    rintro _ _ ⟨rfl, rfl, g40⟩
    show JM g D ad w0 q38.2 38 [(5, vi (A 0 0 33)), (4, vi (A 0 0 34)), (3, vi (A 0 0 35)), (0, vr 0 0), (1, vi a0), (2, vi a1)] [vr 1 q38.1.toNat]
    refine m_blk 45 [(6, vr 1 q38.1.toNat), (5, vi (A 0 0 33)), (4, vi (A 0 0 34)), (3, vi (A 0 0 35)), (0, vr 0 0), (1, vi a0), (2, vi a1)] [vi a1, vi 0, vi 0, vr 1 q38.1.toNat] C f_x_Mo_tell_38_5 rfl ?_
    obtain ⟨q41, e42, h⟩ := obd h
    refine m_callS C Rm Y [vi 0, vi 0, vi a1] [vr 1 q38.1.toNat] (x_Mo_with l D B H0 ad _ 0 0 a1 hS _ _ e42) cl_Mo_282 e_x_Mo_tell_45 rfl rfl rfl ⟨by show _ ≤ ((fr + 762) : Nat); omega, by show _ ≤ ((lo + 26060) : Nat); omega⟩ ?_
    rintro _ _ ⟨rfl, rfl⟩
    show JM g D ad w0 q41.2 48 [(6, vr 1 q38.1.toNat), (5, vi (A 0 0 33)), (4, vi (A 0 0 34)), (3, vi (A 0 0 35)), (0, vr 0 0), (1, vi a0), (2, vi a1)] [vi q41.1, vr 1 q38.1.toNat]
    refine m_ldc2 C 1125899906842624 e_x_Mo_tell_48 ld_Mo_340 (by decide) ?_
    obtain ⟨q43, e44, h⟩ := obd h
    refine m_callV C Rm Y [vi q41.1, vl 1125899906842624] [] (x_Odds_come l D B H0 ad _ q38.1.toNat q41.1 1125899906842624 (g40) hS _ _ e44) cl_Mo_289 rfl (g40) rfl rfl e_x_Mo_tell_51 rfl rfl rfl ⟨by show _ ≤ ((fr + 762) : Nat); omega, by show _ ≤ ((lo + 26060) : Nat); omega⟩ ?_
    rintro _ _ ⟨rfl, rfl⟩
    show JM g D ad w0 q43.2 54 [(6, vr 1 q38.1.toNat), (5, vi (A 0 0 33)), (4, vi (A 0 0 34)), (3, vi (A 0 0 35)), (0, vr 0 0), (1, vi a0), (2, vi a1)] []
    refine m_blk 58 [(6, vr 1 q38.1.toNat), (5, vi (A 0 0 33)), (4, vi (A 0 0 34)), (3, vi (A 0 0 35)), (0, vr 0 0), (1, vi a0), (2, vi a1)] [vr 0 0, vi 0, vi a0, vr 0 0] C f_x_Mo_tell_54_4 rfl ?_
    refine m_getr C e_x_Mo_tell_58 fg_Mo_9 rfl (by decide) rfl ?_
    refine m_blk 62 [(6, vr 1 q38.1.toNat), (5, vi (A 0 0 33)), (4, vi (A 0 0 34)), (3, vi (A 0 0 35)), (0, vr 0 0), (1, vi a0), (2, vi a1)] [vi a0, vr 5 0, vi 0, vi a0, vr 0 0] C f_x_Mo_tell_61_1 rfl ?_
    refine m_iald C e_x_Mo_tell_62 rfl (by decide) (by decide) c33.1 c33.2 (q43.2 5 0 a0.toNat) rfl ?_
    refine m_blk 66 [(6, vr 1 q38.1.toNat), (5, vi (A 0 0 33)), (4, vi (A 0 0 34)), (3, vi (A 0 0 35)), (0, vr 0 0), (1, vi a0), (2, vi a1)] [vi (-1), vr 1 q38.1.toNat, vi (q43.2 5 0 a0.toNat), vi 0, vi a0, vr 0 0] C f_x_Mo_tell_63_2 rfl ?_
    obtain ⟨q45, e46, h⟩ := obd h
    refine m_callV C Rm Y [vi a0, vi 0, vi (q43.2 5 0 a0.toNat), vr 1 q38.1.toNat, vi (-1)] [] (hmk l D B H0 ad _ a0 0 (q43.2 5 0 a0.toNat) q38.1.toNat (-1) (g40) hS _ _ e46) cl_Mo_336 rfl (by decide) rfl rfl e_x_Mo_tell_66 rfl rfl rfl ⟨by show _ ≤ ((fr + 762) : Nat); omega, by show _ ≤ ((lo + 26060) : Nat); omega⟩ ?_
    rintro _ _ ⟨rfl, rfl, g47⟩
    show JM g D ad w0 q45.2 69 [(6, vr 1 q38.1.toNat), (5, vi (A 0 0 33)), (4, vi (A 0 0 34)), (3, vi (A 0 0 35)), (0, vr 0 0), (1, vi a0), (2, vi a1)] [vr 1 q45.1.toNat]
    refine m_blk 74 [(8, vi 0), (7, vr 1 q45.1.toNat), (6, vr 1 q38.1.toNat), (5, vi (A 0 0 33)), (4, vi (A 0 0 34)), (3, vi (A 0 0 35)), (0, vr 0 0), (1, vi a0), (2, vi a1)] [] C f_x_Mo_tell_69_3 rfl ?_
    refine m_loc [(0, vr 0 0), (1, vi a0), (2, vi a1), (3, vi (A 0 0 35)), (4, vi (A 0 0 34)), (5, vi (A 0 0 33)), (7, vr 1 q45.1.toNat), (8, vi 0)] ⟨rfl, rfl, rfl, rfl, rfl, rfl, rfl, rfl, trivial⟩ ?_
    exact hd_74 _ q45.2 a0 a1 (A 0 0 35) (A 0 0 34) (A 0 0 33) q45.1.toNat 0 (g47) h
  · have h := ifn c37 h
    exact m_vret C Rm E e_x_Mo_tell_11 (fin0 h)

def f_Mo_run_83 (mk : mA → Int → Int → Int → Nat → Int → Option (Int × mA)) (c_19 : mA → Int → Int → Nat → Nat → Int → Int → Option (Int × mA)) : Nat → mA → Int → Int → Nat → Nat → Int → Int → Int → Int → Option (Int × mA)
  | 0, _, _, _, _, _, _, _, _, _ => none
  | n + 1, A, b1, b2, b3, b4, b5, b6, b7, b8 => (if g32 b8 then (if 10 ≤ b8 then (c_19 A b1 b2 b3 b4 b5 (b6 + 1)) else (if (0 ≤ b6 ∧ b6 < ((301 : Nat) : Int)) then (if (0 ≤ b1 ∧ b1 < ((6 : Nat) : Int)) then (if (0 ≤ b2 ∧ b2 < ((16 : Nat) : Int)) then (Option.bind (f_Mo_with A (A 3 b3 b6.toNat) (A 35 b1.toNat b2.toNat) b8) (fun q7 => (if (0 ≤ b5 ∧ b5 < ((6 : Nat) : Int)) then (if (0 ≤ b7 ∧ b7 < ((10 : Nat) : Int)) then (if (0 ≤ b8 ∧ b8 < ((10 : Nat) : Int)) then (Option.bind (f_Mo_times q7.2 (q7.2 4 b3 b6.toNat) (q7.2 51 (b5.toNat * 10 + b7.toNat) b8.toNat)) (fun q14 => (Option.bind (f_Odds_come q14.2 b4 q7.1 q14.1) (fun q16 => (f_Mo_run_83 mk c_19 n q16.2 b1 b2 b3 b4 b5 b6 b7 (b8 + 1)))))) else none) else none) else none))) else none) else none) else none)) else none)
def f_Mo_run_19 (mk : mA → Int → Int → Int → Nat → Int → Option (Int × mA)) : Nat → mA → Int → Int → Nat → Nat → Int → Int → Option (Int × mA)
  | 0, _, _, _, _, _, _, _ => none
  | n + 1, A, b1, b2, b3, b4, b5, b6 => (if g32 b6 then if g32 (A 1 b3 2) then (if (A 1 b3 2) ≤ b6 then (some (((b4 : Nat) : Int), A)) else (if (0 ≤ b1 ∧ b1 < ((6 : Nat) : Int)) then (if (0 ≤ b2 ∧ b2 < ((16 : Nat) : Int)) then (if (0 ≤ b6 ∧ b6 < ((301 : Nat) : Int)) then (Option.bind (f_Mo_worthN 121 A b1 (A 39 b1.toNat b2.toNat) (A 3 b3 b6.toNat)) (fun q25 => (Option.bind (f_Mo_digit q25.2 q25.1) (fun q27 => (Option.bind (f_Mo_tell mk q27.2 b5 q27.1) (fun q29 => (if (0 ≤ b5 ∧ b5 < ((6 : Nat) : Int)) then (if (0 ≤ q27.1 ∧ q27.1 < ((10 : Nat) : Int)) then (if ((iOr (q29.2 0 0 34) (q29.2 48 b5.toNat q27.1.toNat)) = 0 ∨ (iOr (q29.2 0 0 34) (q29.2 48 b5.toNat q27.1.toNat)) = 1) then (f_Mo_run_83 mk (f_Mo_run_19 mk  n) 310 (mu q29.2 0 0 34 (iOr (q29.2 0 0 34) (q29.2 48 b5.toNat q27.1.toNat))) b1 b2 b3 b4 b5 b6 q27.1 0) else none) else none) else none))))))) else none) else none) else none)) else none else none)
def f_Mo_run (mk : mA → Int → Int → Int → Nat → Int → Option (Int × mA)) (A : mA) (a0 : Int) (a1 : Int) (a2 : Nat) : Option (Int × mA) := (Option.bind (f_Mo_takenO A ) (fun q35 => (if (0 ≤ a0 ∧ a0 < ((6 : Nat) : Int)) then (if (0 ≤ a1 ∧ a1 < ((16 : Nat) : Int)) then (f_Mo_run_19 mk 310 q35.2 a0 a1 a2 q35.1.toNat (q35.2 36 a0.toNat a1.toNat) 0) else none) else none)))
theorem f_x_Mo_run_0_1 : mblkB b_Mo_run [(0, .aload_n 0, vi 0)] = true := by decide +kernel
theorem e_x_Mo_run_1 : decode b_Mo_run 1 = .ok (.invokevirtual 275, 3) := by decide +kernel
theorem f_x_Mo_run_4_2 : mblkB b_Mo_run [(4, .astore 4, vi 0), (6, .aload_n 0, vi 0)] = true := by decide +kernel
theorem e_x_Mo_run_7 : decode b_Mo_run 7 = .ok (.getfield 27, 3) := by decide +kernel
theorem f_x_Mo_run_10_1 : mblkB b_Mo_run [(10, .iload_n 1, vi 0)] = true := by decide +kernel
theorem e_x_Mo_run_11 : decode b_Mo_run 11 = .ok (.aaload, 1) := by decide +kernel
theorem f_x_Mo_run_12_1 : mblkB b_Mo_run [(12, .iload_n 2, vi 0)] = true := by decide +kernel
theorem e_x_Mo_run_13 : decode b_Mo_run 13 = .ok (.iaload, 1) := by decide +kernel
theorem f_x_Mo_run_14_3 : mblkB b_Mo_run [(14, .istore 5, vi 0), (16, .iconst 0, vi 0), (17, .istore 6, vi 0)] = true := by decide +kernel
theorem f_x_Mo_run_19_2 : mblkB b_Mo_run [(19, .iload 6, vi 0), (21, .aload_n 3, vi 0)] = true := by decide +kernel
theorem e_x_Mo_run_22 : decode b_Mo_run 22 = .ok (.getfield 272, 3) := by decide +kernel
theorem e_x_Mo_run_25 : decode b_Mo_run 25 = .ok (.if_icmp .ge 125, 3) := by decide +kernel
theorem f_x_Mo_run_150_1 : mblkB b_Mo_run [(150, .aload 4, vi 0)] = true := by decide +kernel
theorem e_x_Mo_run_152 : decode b_Mo_run 152 = .ok (.areturn, 1) := by decide +kernel
theorem f_x_Mo_run_28_3 : mblkB b_Mo_run [(28, .aload_n 0, vi 0), (29, .iload_n 1, vi 0), (30, .aload_n 0, vi 0)] = true := by decide +kernel
theorem e_x_Mo_run_31 : decode b_Mo_run 31 = .ok (.getfield 36, 3) := by decide +kernel
theorem f_x_Mo_run_34_1 : mblkB b_Mo_run [(34, .iload_n 1, vi 0)] = true := by decide +kernel
theorem e_x_Mo_run_35 : decode b_Mo_run 35 = .ok (.aaload, 1) := by decide +kernel
theorem f_x_Mo_run_36_1 : mblkB b_Mo_run [(36, .iload_n 2, vi 0)] = true := by decide +kernel
theorem e_x_Mo_run_37 : decode b_Mo_run 37 = .ok (.iaload, 1) := by decide +kernel
theorem f_x_Mo_run_38_1 : mblkB b_Mo_run [(38, .aload_n 3, vi 0)] = true := by decide +kernel
theorem e_x_Mo_run_39 : decode b_Mo_run 39 = .ok (.getfield 279, 3) := by decide +kernel
theorem f_x_Mo_run_42_1 : mblkB b_Mo_run [(42, .iload 6, vi 0)] = true := by decide +kernel
theorem e_x_Mo_run_44 : decode b_Mo_run 44 = .ok (.iaload, 1) := by decide +kernel
theorem e_x_Mo_run_45 : decode b_Mo_run 45 = .ok (.invokevirtual 263, 3) := by decide +kernel
theorem e_x_Mo_run_48 : decode b_Mo_run 48 = .ok (.invokestatic 333, 3) := by decide +kernel
theorem f_x_Mo_run_51_4 : mblkB b_Mo_run [(51, .istore 7, vi 0), (53, .aload_n 0, vi 0), (54, .iload 5, vi 0), (56, .iload 7, vi 0)] = true := by decide +kernel
theorem e_x_Mo_run_58 : decode b_Mo_run 58 = .ok (.invokevirtual 347, 3) := by decide +kernel
theorem f_x_Mo_run_61_2 : mblkB b_Mo_run [(61, .aload_n 0, vi 0), (62, .dup, vi 0)] = true := by decide +kernel
theorem e_x_Mo_run_63 : decode b_Mo_run 63 = .ok (.getfield 297, 3) := by decide +kernel
theorem f_x_Mo_run_66_1 : mblkB b_Mo_run [(66, .aload_n 0, vi 0)] = true := by decide +kernel
theorem e_x_Mo_run_67 : decode b_Mo_run 67 = .ok (.getfield 68, 3) := by decide +kernel
theorem f_x_Mo_run_70_1 : mblkB b_Mo_run [(70, .iload 5, vi 0)] = true := by decide +kernel
theorem e_x_Mo_run_72 : decode b_Mo_run 72 = .ok (.aaload, 1) := by decide +kernel
theorem f_x_Mo_run_73_1 : mblkB b_Mo_run [(73, .iload 7, vi 0)] = true := by decide +kernel
theorem e_x_Mo_run_75 : decode b_Mo_run 75 = .ok (.baload, 1) := by decide +kernel
theorem f_x_Mo_run_76_1 : mblkB b_Mo_run [(76, .ior, vi 0)] = true := by decide +kernel
theorem e_x_Mo_run_77 : decode b_Mo_run 77 = .ok (.putfield 297, 3) := by decide +kernel
theorem f_x_Mo_run_80_2 : mblkB b_Mo_run [(80, .iconst 0, vi 0), (81, .istore 8, vi 0)] = true := by decide +kernel
theorem f_x_Mo_run_83_2 : mblkB b_Mo_run [(83, .iload 8, vi 0), (85, .bipush 10, vi 10)] = true := by decide +kernel
theorem e_x_Mo_run_87 : decode b_Mo_run 87 = .ok (.if_icmp .ge 57, 3) := by decide +kernel
theorem f_x_Mo_run_144_2 : mblkB b_Mo_run [(144, .iinc 6 1, vi 1), (147, .goto (-128), vi 19)] = true := by decide +kernel
theorem f_x_Mo_run_90_2 : mblkB b_Mo_run [(90, .aload 4, vi 0), (92, .aload_n 3, vi 0)] = true := by decide +kernel
theorem e_x_Mo_run_93 : decode b_Mo_run 93 = .ok (.getfield 279, 3) := by decide +kernel
theorem f_x_Mo_run_96_1 : mblkB b_Mo_run [(96, .iload 6, vi 0)] = true := by decide +kernel
theorem e_x_Mo_run_98 : decode b_Mo_run 98 = .ok (.iaload, 1) := by decide +kernel
theorem f_x_Mo_run_99_1 : mblkB b_Mo_run [(99, .aload_n 0, vi 0)] = true := by decide +kernel
theorem e_x_Mo_run_100 : decode b_Mo_run 100 = .ok (.getfield 24, 3) := by decide +kernel
theorem f_x_Mo_run_103_1 : mblkB b_Mo_run [(103, .iload_n 1, vi 0)] = true := by decide +kernel
theorem e_x_Mo_run_104 : decode b_Mo_run 104 = .ok (.aaload, 1) := by decide +kernel
theorem f_x_Mo_run_105_1 : mblkB b_Mo_run [(105, .iload_n 2, vi 0)] = true := by decide +kernel
theorem e_x_Mo_run_106 : decode b_Mo_run 106 = .ok (.iaload, 1) := by decide +kernel
theorem f_x_Mo_run_107_1 : mblkB b_Mo_run [(107, .iload 8, vi 0)] = true := by decide +kernel
theorem e_x_Mo_run_109 : decode b_Mo_run 109 = .ok (.invokestatic 282, 3) := by decide +kernel
theorem f_x_Mo_run_112_1 : mblkB b_Mo_run [(112, .aload_n 3, vi 0)] = true := by decide +kernel
theorem e_x_Mo_run_113 : decode b_Mo_run 113 = .ok (.getfield 285, 3) := by decide +kernel
theorem f_x_Mo_run_116_1 : mblkB b_Mo_run [(116, .iload 6, vi 0)] = true := by decide +kernel
theorem e_x_Mo_run_118 : decode b_Mo_run 118 = .ok (.laload, 1) := by decide +kernel
theorem f_x_Mo_run_119_1 : mblkB b_Mo_run [(119, .aload_n 0, vi 0)] = true := by decide +kernel
theorem e_x_Mo_run_120 : decode b_Mo_run 120 = .ok (.getfield 73, 3) := by decide +kernel
theorem f_x_Mo_run_123_1 : mblkB b_Mo_run [(123, .iload 5, vi 0)] = true := by decide +kernel
theorem e_x_Mo_run_125 : decode b_Mo_run 125 = .ok (.aaload, 1) := by decide +kernel
theorem f_x_Mo_run_126_1 : mblkB b_Mo_run [(126, .iload 7, vi 0)] = true := by decide +kernel
theorem e_x_Mo_run_128 : decode b_Mo_run 128 = .ok (.aaload, 1) := by decide +kernel
theorem f_x_Mo_run_129_1 : mblkB b_Mo_run [(129, .iload 8, vi 0)] = true := by decide +kernel
theorem e_x_Mo_run_131 : decode b_Mo_run 131 = .ok (.laload, 1) := by decide +kernel
theorem e_x_Mo_run_132 : decode b_Mo_run 132 = .ok (.invokestatic 350, 3) := by decide +kernel
theorem e_x_Mo_run_135 : decode b_Mo_run 135 = .ok (.invokevirtual 289, 3) := by decide +kernel
theorem f_x_Mo_run_138_2 : mblkB b_Mo_run [(138, .iinc 8 1, vi 1), (141, .goto (-58), vi 83)] = true := by decide +kernel
set_option maxHeartbeats 4000000 in
set_option maxRecDepth 20000 in
theorem x_Mo_run {mk : mA → Int → Int → Int → Nat → Int → Option (Int × mA)} {fr lo : Nat} (hmk : ∀ (l : Launch) (D : va_G) (B : Nat) (H0 : Heap) (ad : mAd) (A : mA) (a0 : Int) (a1 : Int) (a2 : Int) (a3 : Nat) (a4 : Int) (h_a3 : a3 < 200) (hS : mStr D ad) (r9 : Int) (A9 : mA), mk A a0 a1 a2 a3 a4 = some (r9, A9) → mMet l D B H0 ad y_Mo_make b_Mo_make 11 (some (.object "ChanceStepsModel$Odds")) (fr + 760) (lo + 26000) [vr 0 0, vi a0, vi a1, vi a2, vr 1 a3, vi a4] A (fun v A' => v = some (vr 1 r9.toNat) ∧ A' = A9 ∧ r9.toNat < 200)) : ∀ (l : Launch) (D : va_G) (B : Nat) (H0 : Heap) (ad : mAd) (A : mA) (a0 : Int) (a1 : Int) (a2 : Nat) (h_a2 : a2 < 200) (hS : mStr D ad) (r9 : Int) (A9 : mA), f_Mo_run mk A a0 a1 a2 = some (r9, A9) → mMet l D B H0 ad y_Mo_run b_Mo_run 9 (some (.object "ChanceStepsModel$Odds")) (fr + 764) (lo + 26120) [vr 0 0, vi a0, vi a1, vr 1 a2] A (fun v A' => v = some (vr 1 r9.toNat) ∧ A' = A9 ∧ r9.toNat < 200) := by
  intro l D B H0 ad A a0 a1 a2 h_a2 hS r9 A9 h
  refine m_met (by decide) rfl (fun g w0 C Rm Y E => ?_)
  have hd_83 : ∀ (c_19 : mA → Int → Int → Nat → Nat → Int → Int → Option (Int × mA)) (hc_19 : ∀ (A : mA) (b1 : Int) (b2 : Int) (b3 : Nat) (b4 : Nat) (b5 : Int) (b6 : Int) , b3 < 200 → b4 < 200 → c_19 A b1 b2 b3 b4 b5 b6 = some (r9, A9) → JM g D ad w0 A 19 [(0, vr 0 0), (1, vi b1), (2, vi b2), (3, vr 1 b3), (4, vr 1 b4), (5, vi b5), (6, vi b6)] []) (n : Nat) (A : mA) (b1 : Int) (b2 : Int) (b3 : Nat) (b4 : Nat) (b5 : Int) (b6 : Int) (b7 : Int) (b8 : Int) , b3 < 200 → b4 < 200 → f_Mo_run_83 mk c_19 n A b1 b2 b3 b4 b5 b6 b7 b8 = some (r9, A9) → JM g D ad w0 A 83 [(0, vr 0 0), (1, vi b1), (2, vi b2), (3, vr 1 b3), (4, vr 1 b4), (5, vi b5), (6, vi b6), (7, vi b7), (8, vi b8)] [] := by
    intro c_19 hc_19 n
    induction n with
    | zero => intro A b1 b2 b3 b4 b5 b6 b7 b8 h_b3 h_b4 h; cases h
    | succ n ih =>
      intro A b1 b2 b3 b4 b5 b6 b7 b8 h_b3 h_b4 h
      unfold f_Mo_run_83 at h
      refine m_blk 87 [(0, vr 0 0), (1, vi b1), (2, vi b2), (3, vr 1 b3), (4, vr 1 b4), (5, vi b5), (6, vi b6), (7, vi b7), (8, vi b8)] [vi 10, vi b8] C f_x_Mo_run_83_2 rfl ?_
      obtain ⟨c1, h⟩ := igd h
      refine m_icmp_ge (tgt := 144) C e_x_Mo_run_87 (by decide) c1 (by decide) (fun c2 => ?_) (fun c2 => ?_)
      · have h := ifp c2 h
        refine m_blk 19 [(6, vi (b6 + 1)), (0, vr 0 0), (1, vi b1), (2, vi b2), (3, vr 1 b3), (4, vr 1 b4), (5, vi b5), (7, vi b7), (8, vi b8)] [] C f_x_Mo_run_144_2 rfl ?_
        refine m_loc [(0, vr 0 0), (1, vi b1), (2, vi b2), (3, vr 1 b3), (4, vr 1 b4), (5, vi b5), (6, vi (b6 + 1))] ⟨rfl, rfl, rfl, rfl, rfl, rfl, rfl, trivial⟩ ?_
        exact hc_19 A b1 b2 b3 b4 b5 (b6 + 1) (h_b3) (h_b4) h
      · have h := ifn c2 h
        refine m_blk 93 [(0, vr 0 0), (1, vi b1), (2, vi b2), (3, vr 1 b3), (4, vr 1 b4), (5, vi b5), (6, vi b6), (7, vi b7), (8, vi b8)] [vr 1 b3, vr 1 b4] C f_x_Mo_run_90_2 rfl ?_
        refine m_getrN C e_x_Mo_run_93 fg_Mo_279 rfl (h_b3) rfl ?_
        refine m_blk 98 [(0, vr 0 0), (1, vi b1), (2, vi b2), (3, vr 1 b3), (4, vr 1 b4), (5, vi b5), (6, vi b6), (7, vi b7), (8, vi b8)] [vi b6, vr 3 b3, vr 1 b4] C f_x_Mo_run_96_1 rfl ?_
        obtain ⟨c3, h⟩ := igd h
        refine m_iald C e_x_Mo_run_98 rfl (h_b3) (by decide) c3.1 c3.2 (A 3 b3 b6.toNat) rfl ?_
        refine m_blk 100 [(0, vr 0 0), (1, vi b1), (2, vi b2), (3, vr 1 b3), (4, vr 1 b4), (5, vi b5), (6, vi b6), (7, vi b7), (8, vi b8)] [vr 0 0, vi (A 3 b3 b6.toNat), vr 1 b4] C f_x_Mo_run_99_1 rfl ?_
        refine m_getr C e_x_Mo_run_100 fg_Mo_24 rfl (by decide) rfl ?_
        refine m_blk 104 [(0, vr 0 0), (1, vi b1), (2, vi b2), (3, vr 1 b3), (4, vr 1 b4), (5, vi b5), (6, vi b6), (7, vi b7), (8, vi b8)] [vi b1, vr 15 0, vi (A 3 b3 b6.toNat), vr 1 b4] C f_x_Mo_run_103_1 rfl ?_
        obtain ⟨c4, h⟩ := igd h
        have k5 : b1.toNat < 6 := by omega
        refine m_aald C b1.toNat e_x_Mo_run_104 rfl rfl rfl (by decide) (by decide) c4.1 c4.2 (mz _ _) ?_
        refine m_blk 106 [(0, vr 0 0), (1, vi b1), (2, vi b2), (3, vr 1 b3), (4, vr 1 b4), (5, vi b5), (6, vi b6), (7, vi b7), (8, vi b8)] [vi b2, vr 35 b1.toNat, vi (A 3 b3 b6.toNat), vr 1 b4] C f_x_Mo_run_105_1 rfl ?_
        obtain ⟨c6, h⟩ := igd h
        refine m_iald C e_x_Mo_run_106 rfl (k5) (by decide) c6.1 c6.2 (A 35 b1.toNat b2.toNat) rfl ?_
        refine m_blk 109 [(0, vr 0 0), (1, vi b1), (2, vi b2), (3, vr 1 b3), (4, vr 1 b4), (5, vi b5), (6, vi b6), (7, vi b7), (8, vi b8)] [vi b8, vi (A 35 b1.toNat b2.toNat), vi (A 3 b3 b6.toNat), vr 1 b4] C f_x_Mo_run_107_1 rfl ?_
        obtain ⟨q7, e8, h⟩ := obd h
        refine m_callS C Rm Y [vi (A 3 b3 b6.toNat), vi (A 35 b1.toNat b2.toNat), vi b8] [vr 1 b4] (x_Mo_with l D B H0 ad _ (A 3 b3 b6.toNat) (A 35 b1.toNat b2.toNat) b8 hS _ _ e8) cl_Mo_282 e_x_Mo_run_109 rfl rfl rfl ⟨by show _ ≤ ((fr + 764) : Nat); omega, by show _ ≤ ((lo + 26120) : Nat); omega⟩ ?_
        rintro _ _ ⟨rfl, rfl⟩
        show JM g D ad w0 q7.2 112 [(0, vr 0 0), (1, vi b1), (2, vi b2), (3, vr 1 b3), (4, vr 1 b4), (5, vi b5), (6, vi b6), (7, vi b7), (8, vi b8)] [vi q7.1, vr 1 b4]
        refine m_blk 113 [(0, vr 0 0), (1, vi b1), (2, vi b2), (3, vr 1 b3), (4, vr 1 b4), (5, vi b5), (6, vi b6), (7, vi b7), (8, vi b8)] [vr 1 b3, vi q7.1, vr 1 b4] C f_x_Mo_run_112_1 rfl ?_
        refine m_getrN C e_x_Mo_run_113 fg_Mo_285 rfl (h_b3) rfl ?_
        refine m_blk 118 [(0, vr 0 0), (1, vi b1), (2, vi b2), (3, vr 1 b3), (4, vr 1 b4), (5, vi b5), (6, vi b6), (7, vi b7), (8, vi b8)] [vi b6, vr 4 b3, vi q7.1, vr 1 b4] C f_x_Mo_run_116_1 rfl ?_
        refine m_lald C e_x_Mo_run_118 rfl (h_b3) (by decide) c3.1 c3.2 (q7.2 4 b3 b6.toNat) rfl ?_
        refine m_blk 120 [(0, vr 0 0), (1, vi b1), (2, vi b2), (3, vr 1 b3), (4, vr 1 b4), (5, vi b5), (6, vi b6), (7, vi b7), (8, vi b8)] [vr 0 0, vl (q7.2 4 b3 b6.toNat), vi q7.1, vr 1 b4] C f_x_Mo_run_119_1 rfl ?_
        refine m_getr C e_x_Mo_run_120 fg_Mo_73 rfl (by decide) rfl ?_
        refine m_blk 125 [(0, vr 0 0), (1, vi b1), (2, vi b2), (3, vr 1 b3), (4, vr 1 b4), (5, vi b5), (6, vi b6), (7, vi b7), (8, vi b8)] [vi b5, vr 30 0, vl (q7.2 4 b3 b6.toNat), vi q7.1, vr 1 b4] C f_x_Mo_run_123_1 rfl ?_
        obtain ⟨c9, h⟩ := igd h
        have k10 : b5.toNat < 6 := by omega
        refine m_aald C b5.toNat e_x_Mo_run_125 rfl rfl rfl (by decide) (by decide) c9.1 c9.2 (mz _ _) ?_
        refine m_blk 128 [(0, vr 0 0), (1, vi b1), (2, vi b2), (3, vr 1 b3), (4, vr 1 b4), (5, vi b5), (6, vi b6), (7, vi b7), (8, vi b8)] [vi b7, vr 50 b5.toNat, vl (q7.2 4 b3 b6.toNat), vi q7.1, vr 1 b4] C f_x_Mo_run_126_1 rfl ?_
        obtain ⟨c11, h⟩ := igd h
        have k12 : (b5.toNat * 10 + b7.toNat) < 60 := by omega
        refine m_aald C (b5.toNat * 10 + b7.toNat) e_x_Mo_run_128 rfl rfl rfl (k10) (by decide) c11.1 c11.2 rfl ?_
        refine m_blk 131 [(0, vr 0 0), (1, vi b1), (2, vi b2), (3, vr 1 b3), (4, vr 1 b4), (5, vi b5), (6, vi b6), (7, vi b7), (8, vi b8)] [vi b8, vr 51 (b5.toNat * 10 + b7.toNat), vl (q7.2 4 b3 b6.toNat), vi q7.1, vr 1 b4] C f_x_Mo_run_129_1 rfl ?_
        obtain ⟨c13, h⟩ := igd h
        refine m_lald C e_x_Mo_run_131 rfl (k12) (by decide) c13.1 c13.2 (q7.2 51 (b5.toNat * 10 + b7.toNat) b8.toNat) rfl ?_
        obtain ⟨q14, e15, h⟩ := obd h
        refine m_callS C Rm Y [vl (q7.2 4 b3 b6.toNat), vl (q7.2 51 (b5.toNat * 10 + b7.toNat) b8.toNat)] [vi q7.1, vr 1 b4] (x_Mo_times l D B H0 ad _ (q7.2 4 b3 b6.toNat) (q7.2 51 (b5.toNat * 10 + b7.toNat) b8.toNat) hS _ _ e15) cl_Mo_350 e_x_Mo_run_132 rfl rfl rfl ⟨by show _ ≤ ((fr + 764) : Nat); omega, by show _ ≤ ((lo + 26120) : Nat); omega⟩ ?_
        rintro _ _ ⟨rfl, rfl⟩
        show JM g D ad w0 q14.2 135 [(0, vr 0 0), (1, vi b1), (2, vi b2), (3, vr 1 b3), (4, vr 1 b4), (5, vi b5), (6, vi b6), (7, vi b7), (8, vi b8)] [vl q14.1, vi q7.1, vr 1 b4]
        obtain ⟨q16, e17, h⟩ := obd h
        refine m_callV C Rm Y [vi q7.1, vl q14.1] [] (x_Odds_come l D B H0 ad _ b4 q7.1 q14.1 (h_b4) hS _ _ e17) cl_Mo_289 rfl (h_b4) rfl rfl e_x_Mo_run_135 rfl rfl rfl ⟨by show _ ≤ ((fr + 764) : Nat); omega, by show _ ≤ ((lo + 26120) : Nat); omega⟩ ?_
        rintro _ _ ⟨rfl, rfl⟩
        show JM g D ad w0 q16.2 138 [(0, vr 0 0), (1, vi b1), (2, vi b2), (3, vr 1 b3), (4, vr 1 b4), (5, vi b5), (6, vi b6), (7, vi b7), (8, vi b8)] []
        refine m_blk 83 [(8, vi (b8 + 1)), (0, vr 0 0), (1, vi b1), (2, vi b2), (3, vr 1 b3), (4, vr 1 b4), (5, vi b5), (6, vi b6), (7, vi b7)] [] C f_x_Mo_run_138_2 rfl ?_
        refine m_loc [(0, vr 0 0), (1, vi b1), (2, vi b2), (3, vr 1 b3), (4, vr 1 b4), (5, vi b5), (6, vi b6), (7, vi b7), (8, vi (b8 + 1))] ⟨rfl, rfl, rfl, rfl, rfl, rfl, rfl, rfl, rfl, trivial⟩ ?_
        exact ih q16.2 b1 b2 b3 b4 b5 b6 b7 (b8 + 1) (h_b3) (h_b4) h
  have hd_19 : ∀ (n : Nat) (A : mA) (b1 : Int) (b2 : Int) (b3 : Nat) (b4 : Nat) (b5 : Int) (b6 : Int) , b3 < 200 → b4 < 200 → f_Mo_run_19 mk  n A b1 b2 b3 b4 b5 b6 = some (r9, A9) → JM g D ad w0 A 19 [(0, vr 0 0), (1, vi b1), (2, vi b2), (3, vr 1 b3), (4, vr 1 b4), (5, vi b5), (6, vi b6)] [] := by
    intro  n
    induction n with
    | zero => intro A b1 b2 b3 b4 b5 b6 h_b3 h_b4 h; cases h
    | succ n ih =>
      intro A b1 b2 b3 b4 b5 b6 h_b3 h_b4 h
      unfold f_Mo_run_19 at h
      refine m_blk 22 [(0, vr 0 0), (1, vi b1), (2, vi b2), (3, vr 1 b3), (4, vr 1 b4), (5, vi b5), (6, vi b6)] [vr 1 b3, vi b6] C f_x_Mo_run_19_2 rfl ?_
      refine m_getiN C e_x_Mo_run_22 fg_Mo_272 rfl (h_b3) rfl (A 1 b3 2) rfl ?_
      obtain ⟨c18, h⟩ := igd h
      obtain ⟨c19, h⟩ := igd h
      refine m_icmp_ge (tgt := 150) C e_x_Mo_run_25 (by decide) c18 c19 (fun c20 => ?_) (fun c20 => ?_)
      · have h := ifp c20 h
        refine m_blk 152 [(0, vr 0 0), (1, vi b1), (2, vi b2), (3, vr 1 b3), (4, vr 1 b4), (5, vi b5), (6, vi b6)] [vr 1 b4] C f_x_Mo_run_150_1 rfl ?_
        exact m_aret9 C Rm E e_x_Mo_run_152 (finR9 h) (h_b4)
      · have h := ifn c20 h
        refine m_blk 31 [(0, vr 0 0), (1, vi b1), (2, vi b2), (3, vr 1 b3), (4, vr 1 b4), (5, vi b5), (6, vi b6)] [vr 0 0, vi b1, vr 0 0] C f_x_Mo_run_28_3 rfl ?_
        refine m_getr C e_x_Mo_run_31 fg_Mo_36 rfl (by decide) rfl ?_
        refine m_blk 35 [(0, vr 0 0), (1, vi b1), (2, vi b2), (3, vr 1 b3), (4, vr 1 b4), (5, vi b5), (6, vi b6)] [vi b1, vr 19 0, vi b1, vr 0 0] C f_x_Mo_run_34_1 rfl ?_
        obtain ⟨c21, h⟩ := igd h
        have k22 : b1.toNat < 6 := by omega
        refine m_aald C b1.toNat e_x_Mo_run_35 rfl rfl rfl (by decide) (by decide) c21.1 c21.2 (mz _ _) ?_
        refine m_blk 37 [(0, vr 0 0), (1, vi b1), (2, vi b2), (3, vr 1 b3), (4, vr 1 b4), (5, vi b5), (6, vi b6)] [vi b2, vr 39 b1.toNat, vi b1, vr 0 0] C f_x_Mo_run_36_1 rfl ?_
        obtain ⟨c23, h⟩ := igd h
        refine m_iald C e_x_Mo_run_37 rfl (k22) (by decide) c23.1 c23.2 (A 39 b1.toNat b2.toNat) rfl ?_
        refine m_blk 39 [(0, vr 0 0), (1, vi b1), (2, vi b2), (3, vr 1 b3), (4, vr 1 b4), (5, vi b5), (6, vi b6)] [vr 1 b3, vi (A 39 b1.toNat b2.toNat), vi b1, vr 0 0] C f_x_Mo_run_38_1 rfl ?_
        refine m_getrN C e_x_Mo_run_39 fg_Mo_279 rfl (h_b3) rfl ?_
        refine m_blk 44 [(0, vr 0 0), (1, vi b1), (2, vi b2), (3, vr 1 b3), (4, vr 1 b4), (5, vi b5), (6, vi b6)] [vi b6, vr 3 b3, vi (A 39 b1.toNat b2.toNat), vi b1, vr 0 0] C f_x_Mo_run_42_1 rfl ?_
        obtain ⟨c24, h⟩ := igd h
        refine m_iald C e_x_Mo_run_44 rfl (h_b3) (by decide) c24.1 c24.2 (A 3 b3 b6.toNat) rfl ?_
        obtain ⟨q25, e26, h⟩ := obd h
        refine m_callV C Rm Y [vi b1, vi (A 39 b1.toNat b2.toNat), vi (A 3 b3 b6.toNat)] [] (x_Mo_worthN 121 l D B H0 ad _ b1 (A 39 b1.toNat b2.toNat) (A 3 b3 b6.toNat) hS _ _ e26) cl_Mo_263 rfl (by decide) rfl rfl e_x_Mo_run_45 rfl rfl rfl ⟨by show _ ≤ ((fr + 764) : Nat); omega, by show _ ≤ ((lo + 26120) : Nat); omega⟩ ?_
        rintro _ _ ⟨rfl, rfl⟩
        show JM g D ad w0 q25.2 48 [(0, vr 0 0), (1, vi b1), (2, vi b2), (3, vr 1 b3), (4, vr 1 b4), (5, vi b5), (6, vi b6)] [vi q25.1]
        obtain ⟨q27, e28, h⟩ := obd h
        refine m_callS C Rm Y [vi q25.1] [] (x_Mo_digit l D B H0 ad _ q25.1 hS _ _ e28) cl_Mo_333 e_x_Mo_run_48 rfl rfl rfl ⟨by show _ ≤ ((fr + 764) : Nat); omega, by show _ ≤ ((lo + 26120) : Nat); omega⟩ ?_
        rintro _ _ ⟨rfl, rfl⟩
        show JM g D ad w0 q27.2 51 [(0, vr 0 0), (1, vi b1), (2, vi b2), (3, vr 1 b3), (4, vr 1 b4), (5, vi b5), (6, vi b6)] [vi q27.1]
        refine m_blk 58 [(7, vi q27.1), (0, vr 0 0), (1, vi b1), (2, vi b2), (3, vr 1 b3), (4, vr 1 b4), (5, vi b5), (6, vi b6)] [vi q27.1, vi b5, vr 0 0] C f_x_Mo_run_51_4 rfl ?_
        obtain ⟨q29, e30, h⟩ := obd h
        refine m_callV C Rm Y [vi b5, vi q27.1] [] (x_Mo_tell hmk l D B H0 ad _ b5 q27.1 hS _ _ e30) cl_Mo_347 rfl (by decide) rfl rfl e_x_Mo_run_58 rfl rfl rfl ⟨by show _ ≤ ((fr + 764) : Nat); omega, by show _ ≤ ((lo + 26120) : Nat); omega⟩ ?_
        rintro _ _ ⟨rfl, rfl⟩
        show JM g D ad w0 q29.2 61 [(7, vi q27.1), (0, vr 0 0), (1, vi b1), (2, vi b2), (3, vr 1 b3), (4, vr 1 b4), (5, vi b5), (6, vi b6)] []
        refine m_blk 63 [(7, vi q27.1), (0, vr 0 0), (1, vi b1), (2, vi b2), (3, vr 1 b3), (4, vr 1 b4), (5, vi b5), (6, vi b6)] [vr 0 0, vr 0 0] C f_x_Mo_run_61_2 rfl ?_
        refine m_geti C e_x_Mo_run_63 fg_Mo_297 rfl (by decide) rfl (q29.2 0 0 34) rfl ?_
        refine m_blk 67 [(7, vi q27.1), (0, vr 0 0), (1, vi b1), (2, vi b2), (3, vr 1 b3), (4, vr 1 b4), (5, vi b5), (6, vi b6)] [vr 0 0, vi (q29.2 0 0 34), vr 0 0] C f_x_Mo_run_66_1 rfl ?_
        refine m_getr C e_x_Mo_run_67 fg_Mo_68 rfl (by decide) rfl ?_
        refine m_blk 72 [(7, vi q27.1), (0, vr 0 0), (1, vi b1), (2, vi b2), (3, vr 1 b3), (4, vr 1 b4), (5, vi b5), (6, vi b6)] [vi b5, vr 28 0, vi (q29.2 0 0 34), vr 0 0] C f_x_Mo_run_70_1 rfl ?_
        obtain ⟨c31, h⟩ := igd h
        have k32 : b5.toNat < 6 := by omega
        refine m_aald C b5.toNat e_x_Mo_run_72 rfl rfl rfl (by decide) (by decide) c31.1 c31.2 (mz _ _) ?_
        refine m_blk 75 [(7, vi q27.1), (0, vr 0 0), (1, vi b1), (2, vi b2), (3, vr 1 b3), (4, vr 1 b4), (5, vi b5), (6, vi b6)] [vi q27.1, vr 48 b5.toNat, vi (q29.2 0 0 34), vr 0 0] C f_x_Mo_run_73_1 rfl ?_
        obtain ⟨c33, h⟩ := igd h
        refine m_zald C e_x_Mo_run_75 rfl (k32) (by decide) c33.1 c33.2 (q29.2 48 b5.toNat q27.1.toNat) rfl ?_
        refine m_blk 77 [(7, vi q27.1), (0, vr 0 0), (1, vi b1), (2, vi b2), (3, vr 1 b3), (4, vr 1 b4), (5, vi b5), (6, vi b6)] [vi (iOr (q29.2 0 0 34) (q29.2 48 b5.toNat q27.1.toNat)), vr 0 0] C f_x_Mo_run_76_1 rfl ?_
        obtain ⟨c34, h⟩ := igd h
        refine m_putz C e_x_Mo_run_77 fp_Mo_297 rfl (by decide) rfl c34 ?_
        refine m_blk 83 [(8, vi 0), (7, vi q27.1), (0, vr 0 0), (1, vi b1), (2, vi b2), (3, vr 1 b3), (4, vr 1 b4), (5, vi b5), (6, vi b6)] [] C f_x_Mo_run_80_2 rfl ?_
        refine m_loc [(0, vr 0 0), (1, vi b1), (2, vi b2), (3, vr 1 b3), (4, vr 1 b4), (5, vi b5), (6, vi b6), (7, vi q27.1), (8, vi 0)] ⟨rfl, rfl, rfl, rfl, rfl, rfl, rfl, rfl, rfl, trivial⟩ ?_
        exact hd_83 (f_Mo_run_19 mk  n) ih _ (mu q29.2 0 0 34 (iOr (q29.2 0 0 34) (q29.2 48 b5.toNat q27.1.toNat))) b1 b2 b3 b4 b5 b6 q27.1 0 (h_b3) (h_b4) h
  show JM g D ad w0 A 0 [(0, vr 0 0), (1, vi a0), (2, vi a1), (3, vr 1 a2)] []
  unfold f_Mo_run at h
  refine m_blk 1 [(0, vr 0 0), (1, vi a0), (2, vi a1), (3, vr 1 a2)] [vr 0 0] C f_x_Mo_run_0_1 rfl ?_
  obtain ⟨q35, e36, h⟩ := obd h
  refine m_callV C Rm Y [] [] (x_Mo_takenO l D B H0 ad _  hS _ _ e36) cl_Mo_275 rfl (by decide) rfl rfl e_x_Mo_run_1 rfl rfl rfl ⟨by show _ ≤ ((fr + 764) : Nat); omega, by show _ ≤ ((lo + 26120) : Nat); omega⟩ ?_
  rintro _ _ ⟨rfl, rfl, g37⟩
  show JM g D ad w0 q35.2 4 [(0, vr 0 0), (1, vi a0), (2, vi a1), (3, vr 1 a2)] [vr 1 q35.1.toNat]
  refine m_blk 7 [(4, vr 1 q35.1.toNat), (0, vr 0 0), (1, vi a0), (2, vi a1), (3, vr 1 a2)] [vr 0 0] C f_x_Mo_run_4_2 rfl ?_
  refine m_getr C e_x_Mo_run_7 fg_Mo_27 rfl (by decide) rfl ?_
  refine m_blk 11 [(4, vr 1 q35.1.toNat), (0, vr 0 0), (1, vi a0), (2, vi a1), (3, vr 1 a2)] [vi a0, vr 16 0] C f_x_Mo_run_10_1 rfl ?_
  obtain ⟨c38, h⟩ := igd h
  have k39 : a0.toNat < 6 := by omega
  refine m_aald C a0.toNat e_x_Mo_run_11 rfl rfl rfl (by decide) (by decide) c38.1 c38.2 (mz _ _) ?_
  refine m_blk 13 [(4, vr 1 q35.1.toNat), (0, vr 0 0), (1, vi a0), (2, vi a1), (3, vr 1 a2)] [vi a1, vr 36 a0.toNat] C f_x_Mo_run_12_1 rfl ?_
  obtain ⟨c40, h⟩ := igd h
  refine m_iald C e_x_Mo_run_13 rfl (k39) (by decide) c40.1 c40.2 (q35.2 36 a0.toNat a1.toNat) rfl ?_
  refine m_blk 19 [(6, vi 0), (5, vi (q35.2 36 a0.toNat a1.toNat)), (4, vr 1 q35.1.toNat), (0, vr 0 0), (1, vi a0), (2, vi a1), (3, vr 1 a2)] [] C f_x_Mo_run_14_3 rfl ?_
  refine m_loc [(0, vr 0 0), (1, vi a0), (2, vi a1), (3, vr 1 a2), (4, vr 1 q35.1.toNat), (5, vi (q35.2 36 a0.toNat a1.toNat)), (6, vi 0)] ⟨rfl, rfl, rfl, rfl, rfl, rfl, rfl, trivial⟩ ?_
  exact hd_19 _ q35.2 a0 a1 a2 q35.1.toNat (q35.2 36 a0.toNat a1.toNat) 0 (h_a2) (g37) h

def f_Mo_makeStep (mk : mA → Int → Int → Int → Nat → Int → Option (Int × mA)) (A : mA) (a0 : Int) (a1 : Int) (a2 : Nat) (a3 : Int) : Option (Int × mA) := (if (0 ≤ a0 ∧ a0 < ((6 : Nat) : Int)) then (if (0 ≤ a1 ∧ a1 < ((16 : Nat) : Int)) then (if g32 (A 34 a0.toNat a1.toNat) then (if (A 34 a0.toNat a1.toNat) = 0 then (Option.bind (f_Mo_draw A a0 a1 a2) (fun q6 => (some (((q6.1.toNat : Nat) : Int), q6.2)))) else if (A 34 a0.toNat a1.toNat) = 1 then (Option.bind (f_Mo_letO A a0 a1 a2) (fun q10 => (some (((q10.1.toNat : Nat) : Int), q10.2)))) else if (A 34 a0.toNat a1.toNat) = 2 then (Option.bind (f_Mo_split A a0 a1 a2 1) (fun q14 => (some (((q14.1.toNat : Nat) : Int), q14.2)))) else if (A 34 a0.toNat a1.toNat) = 3 then (Option.bind (f_Mo_choose mk A a0 a1 a2 a3) (fun q18 => (some (((q18.1.toNat : Nat) : Int), q18.2)))) else if (A 34 a0.toNat a1.toNat) = 4 then (Option.bind (f_Mo_loop mk A a0 a1 a2 a3) (fun q22 => (some (((q22.1.toNat : Nat) : Int), q22.2)))) else (Option.bind (f_Mo_run mk A a0 a1 a2) (fun q25 => (some (((q25.1.toNat : Nat) : Int), q25.2))))) else none) else none) else none)
theorem f_x_Mo_makeStep_0_1 : mblkB b_Mo_makeStep [(0, .aload_n 0, vi 0)] = true := by decide +kernel
theorem e_x_Mo_makeStep_1 : decode b_Mo_makeStep 1 = .ok (.getfield 21, 3) := by decide +kernel
theorem f_x_Mo_makeStep_4_1 : mblkB b_Mo_makeStep [(4, .iload_n 1, vi 0)] = true := by decide +kernel
theorem e_x_Mo_makeStep_5 : decode b_Mo_makeStep 5 = .ok (.aaload, 1) := by decide +kernel
theorem f_x_Mo_makeStep_6_1 : mblkB b_Mo_makeStep [(6, .iload_n 2, vi 0)] = true := by decide +kernel
theorem e_x_Mo_makeStep_7 : decode b_Mo_makeStep 7 = .ok (.iaload, 1) := by decide +kernel
theorem e_x_Mo_makeStep_8 : decode b_Mo_makeStep 8 = .ok (.tableswitch 81 0 4 #[36, 44, 52, 61, 71], 36) := by decide +kernel
theorem f_x_Mo_makeStep_44_4 : mblkB b_Mo_makeStep [(44, .aload_n 0, vi 0), (45, .iload_n 1, vi 0), (46, .iload_n 2, vi 0), (47, .aload_n 3, vi 0)] = true := by decide +kernel
theorem e_x_Mo_makeStep_48 : decode b_Mo_makeStep 48 = .ok (.invokevirtual 317, 3) := by decide +kernel
theorem e_x_Mo_makeStep_51 : decode b_Mo_makeStep 51 = .ok (.areturn, 1) := by decide +kernel
theorem f_x_Mo_makeStep_52_4 : mblkB b_Mo_makeStep [(52, .aload_n 0, vi 0), (53, .iload_n 1, vi 0), (54, .iload_n 2, vi 0), (55, .aload_n 3, vi 0)] = true := by decide +kernel
theorem e_x_Mo_makeStep_56 : decode b_Mo_makeStep 56 = .ok (.invokevirtual 320, 3) := by decide +kernel
theorem e_x_Mo_makeStep_59 : decode b_Mo_makeStep 59 = .ok (.areturn, 1) := by decide +kernel
theorem f_x_Mo_makeStep_60_5 : mblkB b_Mo_makeStep [(60, .aload_n 0, vi 0), (61, .iload_n 1, vi 0), (62, .iload_n 2, vi 0), (63, .aload_n 3, vi 0), (64, .iconst 1, vi 1)] = true := by decide +kernel
theorem e_x_Mo_makeStep_65 : decode b_Mo_makeStep 65 = .ok (.invokevirtual 322, 3) := by decide +kernel
theorem e_x_Mo_makeStep_68 : decode b_Mo_makeStep 68 = .ok (.areturn, 1) := by decide +kernel
theorem f_x_Mo_makeStep_69_5 : mblkB b_Mo_makeStep [(69, .aload_n 0, vi 0), (70, .iload_n 1, vi 0), (71, .iload_n 2, vi 0), (72, .aload_n 3, vi 0), (73, .iload 4, vi 0)] = true := by decide +kernel
theorem e_x_Mo_makeStep_75 : decode b_Mo_makeStep 75 = .ok (.invokevirtual 326, 3) := by decide +kernel
theorem e_x_Mo_makeStep_78 : decode b_Mo_makeStep 78 = .ok (.areturn, 1) := by decide +kernel
theorem f_x_Mo_makeStep_79_5 : mblkB b_Mo_makeStep [(79, .aload_n 0, vi 0), (80, .iload_n 1, vi 0), (81, .iload_n 2, vi 0), (82, .aload_n 3, vi 0), (83, .iload 4, vi 0)] = true := by decide +kernel
theorem e_x_Mo_makeStep_85 : decode b_Mo_makeStep 85 = .ok (.invokevirtual 329, 3) := by decide +kernel
theorem e_x_Mo_makeStep_88 : decode b_Mo_makeStep 88 = .ok (.areturn, 1) := by decide +kernel
theorem f_x_Mo_makeStep_89_4 : mblkB b_Mo_makeStep [(89, .aload_n 0, vi 0), (90, .iload_n 1, vi 0), (91, .iload_n 2, vi 0), (92, .aload_n 3, vi 0)] = true := by decide +kernel
theorem e_x_Mo_makeStep_93 : decode b_Mo_makeStep 93 = .ok (.invokevirtual 331, 3) := by decide +kernel
theorem e_x_Mo_makeStep_96 : decode b_Mo_makeStep 96 = .ok (.areturn, 1) := by decide +kernel
set_option maxHeartbeats 4000000 in
set_option maxRecDepth 20000 in
theorem x_Mo_makeStep {mk : mA → Int → Int → Int → Nat → Int → Option (Int × mA)} {fr lo : Nat} (hmk : ∀ (l : Launch) (D : va_G) (B : Nat) (H0 : Heap) (ad : mAd) (A : mA) (a0 : Int) (a1 : Int) (a2 : Int) (a3 : Nat) (a4 : Int) (h_a3 : a3 < 200) (hS : mStr D ad) (r9 : Int) (A9 : mA), mk A a0 a1 a2 a3 a4 = some (r9, A9) → mMet l D B H0 ad y_Mo_make b_Mo_make 11 (some (.object "ChanceStepsModel$Odds")) (fr + 760) (lo + 26000) [vr 0 0, vi a0, vi a1, vi a2, vr 1 a3, vi a4] A (fun v A' => v = some (vr 1 r9.toNat) ∧ A' = A9 ∧ r9.toNat < 200)) : ∀ (l : Launch) (D : va_G) (B : Nat) (H0 : Heap) (ad : mAd) (A : mA) (a0 : Int) (a1 : Int) (a2 : Nat) (a3 : Int) (h_a2 : a2 < 200) (hS : mStr D ad) (r9 : Int) (A9 : mA), f_Mo_makeStep mk A a0 a1 a2 a3 = some (r9, A9) → mMet l D B H0 ad y_Mo_makeStep b_Mo_makeStep 5 (some (.object "ChanceStepsModel$Odds")) (fr + 766) (lo + 26180) [vr 0 0, vi a0, vi a1, vr 1 a2, vi a3] A (fun v A' => v = some (vr 1 r9.toNat) ∧ A' = A9 ∧ r9.toNat < 200) := by
  intro l D B H0 ad A a0 a1 a2 a3 h_a2 hS r9 A9 h
  refine m_met (by decide) rfl (fun g w0 C Rm Y E => ?_)
  show JM g D ad w0 A 0 [(0, vr 0 0), (1, vi a0), (2, vi a1), (3, vr 1 a2), (4, vi a3)] []
  unfold f_Mo_makeStep at h
  refine m_blk 1 [(0, vr 0 0), (1, vi a0), (2, vi a1), (3, vr 1 a2), (4, vi a3)] [vr 0 0] C f_x_Mo_makeStep_0_1 rfl ?_
  refine m_getr C e_x_Mo_makeStep_1 fg_Mo_21 rfl (by decide) rfl ?_
  refine m_blk 5 [(0, vr 0 0), (1, vi a0), (2, vi a1), (3, vr 1 a2), (4, vi a3)] [vi a0, vr 14 0] C f_x_Mo_makeStep_4_1 rfl ?_
  obtain ⟨c1, h⟩ := igd h
  have k2 : a0.toNat < 6 := by omega
  refine m_aald C a0.toNat e_x_Mo_makeStep_5 rfl rfl rfl (by decide) (by decide) c1.1 c1.2 (mz _ _) ?_
  refine m_blk 7 [(0, vr 0 0), (1, vi a0), (2, vi a1), (3, vr 1 a2), (4, vi a3)] [vi a1, vr 34 a0.toNat] C f_x_Mo_makeStep_6_1 rfl ?_
  obtain ⟨c3, h⟩ := igd h
  refine m_iald C e_x_Mo_makeStep_7 rfl (k2) (by decide) c3.1 c3.2 (A 34 a0.toNat a1.toNat) rfl ?_
  obtain ⟨c4, h⟩ := igd h
  by_cases c5 : (A 34 a0.toNat a1.toNat) = 0
  · have h := ifp c5 h
    refine m_tabIn (tgt := 44) C e_x_Mo_makeStep_8 c4 (by omega) (by omega) (by rw [c5]; rfl) (by decide) ?_
    refine m_blk 48 [(0, vr 0 0), (1, vi a0), (2, vi a1), (3, vr 1 a2), (4, vi a3)] [vr 1 a2, vi a1, vi a0, vr 0 0] C f_x_Mo_makeStep_44_4 rfl ?_
    obtain ⟨q6, e7, h⟩ := obd h
    refine m_callV C Rm Y [vi a0, vi a1, vr 1 a2] [] (x_Mo_draw l D B H0 ad _ a0 a1 a2 (h_a2) hS _ _ e7) cl_Mo_317 rfl (by decide) rfl rfl e_x_Mo_makeStep_48 rfl rfl rfl ⟨by show _ ≤ ((fr + 766) : Nat); omega, by show _ ≤ ((lo + 26180) : Nat); omega⟩ ?_
    rintro _ _ ⟨rfl, rfl, g8⟩
    show JM g D ad w0 q6.2 51 [(0, vr 0 0), (1, vi a0), (2, vi a1), (3, vr 1 a2), (4, vi a3)] [vr 1 q6.1.toNat]
    exact m_aret9 C Rm E e_x_Mo_makeStep_51 (finR9 h) (g8)
  have h := ifn c5 h
  by_cases c9 : (A 34 a0.toNat a1.toNat) = 1
  · have h := ifp c9 h
    refine m_tabIn (tgt := 52) C e_x_Mo_makeStep_8 c4 (by omega) (by omega) (by rw [c9]; rfl) (by decide) ?_
    refine m_blk 56 [(0, vr 0 0), (1, vi a0), (2, vi a1), (3, vr 1 a2), (4, vi a3)] [vr 1 a2, vi a1, vi a0, vr 0 0] C f_x_Mo_makeStep_52_4 rfl ?_
    obtain ⟨q10, e11, h⟩ := obd h
    refine m_callV C Rm Y [vi a0, vi a1, vr 1 a2] [] (x_Mo_letO l D B H0 ad _ a0 a1 a2 (h_a2) hS _ _ e11) cl_Mo_320 rfl (by decide) rfl rfl e_x_Mo_makeStep_56 rfl rfl rfl ⟨by show _ ≤ ((fr + 766) : Nat); omega, by show _ ≤ ((lo + 26180) : Nat); omega⟩ ?_
    rintro _ _ ⟨rfl, rfl, g12⟩
    show JM g D ad w0 q10.2 59 [(0, vr 0 0), (1, vi a0), (2, vi a1), (3, vr 1 a2), (4, vi a3)] [vr 1 q10.1.toNat]
    exact m_aret9 C Rm E e_x_Mo_makeStep_59 (finR9 h) (g12)
  have h := ifn c9 h
  by_cases c13 : (A 34 a0.toNat a1.toNat) = 2
  · have h := ifp c13 h
    refine m_tabIn (tgt := 60) C e_x_Mo_makeStep_8 c4 (by omega) (by omega) (by rw [c13]; rfl) (by decide) ?_
    refine m_blk 65 [(0, vr 0 0), (1, vi a0), (2, vi a1), (3, vr 1 a2), (4, vi a3)] [vi 1, vr 1 a2, vi a1, vi a0, vr 0 0] C f_x_Mo_makeStep_60_5 rfl ?_
    obtain ⟨q14, e15, h⟩ := obd h
    refine m_callV C Rm Y [vi a0, vi a1, vr 1 a2, vi 1] [] (x_Mo_split l D B H0 ad _ a0 a1 a2 1 (h_a2) hS _ _ e15) cl_Mo_322 rfl (by decide) rfl rfl e_x_Mo_makeStep_65 rfl rfl rfl ⟨by show _ ≤ ((fr + 766) : Nat); omega, by show _ ≤ ((lo + 26180) : Nat); omega⟩ ?_
    rintro _ _ ⟨rfl, rfl, g16⟩
    show JM g D ad w0 q14.2 68 [(0, vr 0 0), (1, vi a0), (2, vi a1), (3, vr 1 a2), (4, vi a3)] [vr 1 q14.1.toNat]
    exact m_aret9 C Rm E e_x_Mo_makeStep_68 (finR9 h) (g16)
  have h := ifn c13 h
  by_cases c17 : (A 34 a0.toNat a1.toNat) = 3
  · have h := ifp c17 h
    refine m_tabIn (tgt := 69) C e_x_Mo_makeStep_8 c4 (by omega) (by omega) (by rw [c17]; rfl) (by decide) ?_
    refine m_blk 75 [(0, vr 0 0), (1, vi a0), (2, vi a1), (3, vr 1 a2), (4, vi a3)] [vi a3, vr 1 a2, vi a1, vi a0, vr 0 0] C f_x_Mo_makeStep_69_5 rfl ?_
    obtain ⟨q18, e19, h⟩ := obd h
    refine m_callV C Rm Y [vi a0, vi a1, vr 1 a2, vi a3] [] (x_Mo_choose hmk l D B H0 ad _ a0 a1 a2 a3 (h_a2) hS _ _ e19) cl_Mo_326 rfl (by decide) rfl rfl e_x_Mo_makeStep_75 rfl rfl rfl ⟨by show _ ≤ ((fr + 766) : Nat); omega, by show _ ≤ ((lo + 26180) : Nat); omega⟩ ?_
    rintro _ _ ⟨rfl, rfl, g20⟩
    show JM g D ad w0 q18.2 78 [(0, vr 0 0), (1, vi a0), (2, vi a1), (3, vr 1 a2), (4, vi a3)] [vr 1 q18.1.toNat]
    exact m_aret9 C Rm E e_x_Mo_makeStep_78 (finR9 h) (g20)
  have h := ifn c17 h
  by_cases c21 : (A 34 a0.toNat a1.toNat) = 4
  · have h := ifp c21 h
    refine m_tabIn (tgt := 79) C e_x_Mo_makeStep_8 c4 (by omega) (by omega) (by rw [c21]; rfl) (by decide) ?_
    refine m_blk 85 [(0, vr 0 0), (1, vi a0), (2, vi a1), (3, vr 1 a2), (4, vi a3)] [vi a3, vr 1 a2, vi a1, vi a0, vr 0 0] C f_x_Mo_makeStep_79_5 rfl ?_
    obtain ⟨q22, e23, h⟩ := obd h
    refine m_callV C Rm Y [vi a0, vi a1, vr 1 a2, vi a3] [] (x_Mo_loop hmk l D B H0 ad _ a0 a1 a2 a3 (h_a2) hS _ _ e23) cl_Mo_329 rfl (by decide) rfl rfl e_x_Mo_makeStep_85 rfl rfl rfl ⟨by show _ ≤ ((fr + 766) : Nat); omega, by show _ ≤ ((lo + 26180) : Nat); omega⟩ ?_
    rintro _ _ ⟨rfl, rfl, g24⟩
    show JM g D ad w0 q22.2 88 [(0, vr 0 0), (1, vi a0), (2, vi a1), (3, vr 1 a2), (4, vi a3)] [vr 1 q22.1.toNat]
    exact m_aret9 C Rm E e_x_Mo_makeStep_88 (finR9 h) (g24)
  have h := ifn c21 h
  refine m_tabOut (tgt := 89) C e_x_Mo_makeStep_8 c4 (by omega) (by decide) ?_
  refine m_blk 93 [(0, vr 0 0), (1, vi a0), (2, vi a1), (3, vr 1 a2), (4, vi a3)] [vr 1 a2, vi a1, vi a0, vr 0 0] C f_x_Mo_makeStep_89_4 rfl ?_
  obtain ⟨q25, e26, h⟩ := obd h
  refine m_callV C Rm Y [vi a0, vi a1, vr 1 a2] [] (x_Mo_run hmk l D B H0 ad _ a0 a1 a2 (h_a2) hS _ _ e26) cl_Mo_331 rfl (by decide) rfl rfl e_x_Mo_makeStep_93 rfl rfl rfl ⟨by show _ ≤ ((fr + 766) : Nat); omega, by show _ ≤ ((lo + 26180) : Nat); omega⟩ ?_
  rintro _ _ ⟨rfl, rfl, g27⟩
  show JM g D ad w0 q25.2 96 [(0, vr 0 0), (1, vi a0), (2, vi a1), (3, vr 1 a2), (4, vi a3)] [vr 1 q25.1.toNat]
  exact m_aret9 C Rm E e_x_Mo_makeStep_96 (finR9 h) (g27)

def f_Mo_makeT_22 (mk : mA → Int → Int → Int → Nat → Int → Option (Int × mA)) : Nat → mA → Int → Int → Int → Nat → Int → Int → Option (Int × mA)
  | 0, _, _, _, _, _, _, _ => none
  | n + 1, A, b1, b3, b5, b6, b7, b8 => (if g32 b8 then if g32 b3 then (if b3 ≤ b8 then (some (((b6 : Nat) : Int), A)) else (if g32 (A 0 0 34) then (if (A 0 0 34) = 0 then (if g32 b5 then (if b5 = (-1) then (Option.bind (f_Mo_makeStep mk A b1 b8 b6 (-1)) (fun q101 => (Option.bind (f_Odds_becomes q101.2 b6 q101.1.toNat) (fun q104 => (if g32 (q104.2 0 0 34) then (if (q104.2 0 0 34) = 0 then (if g32 (q104.2 0 0 35) then (if g32 (q104.2 1 b6 2) then (if (q104.2 1 b6 2) ≤ 300 then (if (0 ≤ b1 ∧ b1 < ((6 : Nat) : Int)) then (if (0 ≤ b8 ∧ b8 < ((16 : Nat) : Int)) then (f_Mo_makeT_22 mk n (mu (mu (mu q104.2 0 0 33 b7) 0 0 35 (max (q104.2 0 0 35) (q104.2 1 b6 2))) 0 0 34 0) b1 b3 b5 b6 b7 (q104.2 37 b1.toNat b8.toNat)) else none) else none) else (if (0 ≤ b1 ∧ b1 < ((6 : Nat) : Int)) then (if (0 ≤ b8 ∧ b8 < ((16 : Nat) : Int)) then (f_Mo_makeT_22 mk n (mu (mu (mu q104.2 0 0 33 b7) 0 0 35 (max (q104.2 0 0 35) (q104.2 1 b6 2))) 0 0 34 1) b1 b3 b5 b6 b7 (q104.2 37 b1.toNat b8.toNat)) else none) else none)) else none) else none) else (some (((b6 : Nat) : Int), q104.2))) else none))))) else (if (0 ≤ b1 ∧ b1 < ((6 : Nat) : Int)) then (if (0 ≤ b8 ∧ b8 < ((16 : Nat) : Int)) then (Option.bind (f_Mo_neededFromN 18 A b1 (A 37 b1.toNat b8.toNat) b3 b5) (fun q11 => (if g32 (q11.2 34 b1.toNat b8.toNat) then (if (q11.2 34 b1.toNat b8.toNat) = 5 then (if (iAnd (iShr q11.1 (q11.2 35 b1.toNat b8.toNat)) 1) = 0 then (Option.bind (f_Mo_seesN 7 q11.2 (q11.2 36 b1.toNat b8.toNat)) (fun q60 => (if g32 q60.1 then (if q60.1 = 0 then (if g32 (q60.2 0 0 34) then (if (q60.2 0 0 34) = 0 then (Option.bind (f_Mo_forget q60.2 b6 q11.1) (fun q88 => (Option.bind (f_Odds_becomes q88.2 b6 q88.1.toNat) (fun q91 => (if g32 (q91.2 0 0 35) then (if g32 (q91.2 1 b6 2) then (if (q91.2 1 b6 2) ≤ 300 then (f_Mo_makeT_22 mk n (mu (mu (mu q91.2 0 0 33 b7) 0 0 35 (max (q91.2 0 0 35) (q91.2 1 b6 2))) 0 0 34 0) b1 b3 b5 b6 b7 (q91.2 37 b1.toNat b8.toNat)) else (f_Mo_makeT_22 mk n (mu (mu (mu q91.2 0 0 33 b7) 0 0 35 (max (q91.2 0 0 35) (q91.2 1 b6 2))) 0 0 34 1) b1 b3 b5 b6 b7 (q91.2 37 b1.toNat b8.toNat))) else none) else none))))) else (some (((b6 : Nat) : Int), q60.2))) else none) else (Option.bind (f_Mo_makeStep mk q60.2 b1 b8 b6 q11.1) (fun q65 => (Option.bind (f_Odds_becomes q65.2 b6 q65.1.toNat) (fun q68 => (if g32 (q68.2 0 0 34) then (if (q68.2 0 0 34) = 0 then (Option.bind (f_Mo_forget q68.2 b6 q11.1) (fun q73 => (Option.bind (f_Odds_becomes q73.2 b6 q73.1.toNat) (fun q76 => (if g32 (q76.2 0 0 35) then (if g32 (q76.2 1 b6 2) then (if (q76.2 1 b6 2) ≤ 300 then (f_Mo_makeT_22 mk n (mu (mu (mu q76.2 0 0 33 b7) 0 0 35 (max (q76.2 0 0 35) (q76.2 1 b6 2))) 0 0 34 0) b1 b3 b5 b6 b7 (q76.2 37 b1.toNat b8.toNat)) else (f_Mo_makeT_22 mk n (mu (mu (mu q76.2 0 0 33 b7) 0 0 35 (max (q76.2 0 0 35) (q76.2 1 b6 2))) 0 0 34 1) b1 b3 b5 b6 b7 (q76.2 37 b1.toNat b8.toNat))) else none) else none))))) else (some (((b6 : Nat) : Int), q68.2))) else none)))))) else none))) else (Option.bind (f_Mo_makeStep mk q11.2 b1 b8 b6 q11.1) (fun q40 => (Option.bind (f_Odds_becomes q40.2 b6 q40.1.toNat) (fun q43 => (if g32 (q43.2 0 0 34) then (if (q43.2 0 0 34) = 0 then (Option.bind (f_Mo_forget q43.2 b6 q11.1) (fun q48 => (Option.bind (f_Odds_becomes q48.2 b6 q48.1.toNat) (fun q51 => (if g32 (q51.2 0 0 35) then (if g32 (q51.2 1 b6 2) then (if (q51.2 1 b6 2) ≤ 300 then (f_Mo_makeT_22 mk n (mu (mu (mu q51.2 0 0 33 b7) 0 0 35 (max (q51.2 0 0 35) (q51.2 1 b6 2))) 0 0 34 0) b1 b3 b5 b6 b7 (q51.2 37 b1.toNat b8.toNat)) else (f_Mo_makeT_22 mk n (mu (mu (mu q51.2 0 0 33 b7) 0 0 35 (max (q51.2 0 0 35) (q51.2 1 b6 2))) 0 0 34 1) b1 b3 b5 b6 b7 (q51.2 37 b1.toNat b8.toNat))) else none) else none))))) else (some (((b6 : Nat) : Int), q43.2))) else none)))))) else (Option.bind (f_Mo_makeStep mk q11.2 b1 b8 b6 q11.1) (fun q18 => (Option.bind (f_Odds_becomes q18.2 b6 q18.1.toNat) (fun q21 => (if g32 (q21.2 0 0 34) then (if (q21.2 0 0 34) = 0 then (Option.bind (f_Mo_forget q21.2 b6 q11.1) (fun q26 => (Option.bind (f_Odds_becomes q26.2 b6 q26.1.toNat) (fun q29 => (if g32 (q29.2 0 0 35) then (if g32 (q29.2 1 b6 2) then (if (q29.2 1 b6 2) ≤ 300 then (f_Mo_makeT_22 mk n (mu (mu (mu q29.2 0 0 33 b7) 0 0 35 (max (q29.2 0 0 35) (q29.2 1 b6 2))) 0 0 34 0) b1 b3 b5 b6 b7 (q29.2 37 b1.toNat b8.toNat)) else (f_Mo_makeT_22 mk n (mu (mu (mu q29.2 0 0 33 b7) 0 0 35 (max (q29.2 0 0 35) (q29.2 1 b6 2))) 0 0 34 1) b1 b3 b5 b6 b7 (q29.2 37 b1.toNat b8.toNat))) else none) else none))))) else (some (((b6 : Nat) : Int), q21.2))) else none)))))) else none))) else none) else none)) else none) else (some (((b6 : Nat) : Int), A))) else none)) else none else none)
def f_Mo_makeT (mk : mA → Int → Int → Int → Nat → Int → Option (Int × mA)) (A : mA) (a0 : Int) (a1 : Int) (a2 : Int) (a3 : Nat) (a4 : Int) : Option (Int × mA) := (Option.bind (f_Mo_takenO A ) (fun q119 => (Option.bind (f_Odds_becomes q119.2 q119.1.toNat a3) (fun q122 => (f_Mo_makeT_22 mk 20 q122.2 a0 a2 a4 q119.1.toNat (q122.2 0 0 33) a1)))))
theorem f_x_Mo_makeT_0_1 : mblkB b_Mo_make [(0, .aload_n 0, vi 0)] = true := by decide +kernel
theorem e_x_Mo_makeT_1 : decode b_Mo_make 1 = .ok (.invokevirtual 275, 3) := by decide +kernel
theorem f_x_Mo_makeT_4_3 : mblkB b_Mo_make [(4, .astore 6, vi 0), (6, .aload 6, vi 0), (8, .aload 4, vi 0)] = true := by decide +kernel
theorem e_x_Mo_makeT_10 : decode b_Mo_make 10 = .ok (.invokevirtual 293, 3) := by decide +kernel
theorem f_x_Mo_makeT_13_1 : mblkB b_Mo_make [(13, .aload_n 0, vi 0)] = true := by decide +kernel
theorem e_x_Mo_makeT_14 : decode b_Mo_make 14 = .ok (.getfield 269, 3) := by decide +kernel
theorem f_x_Mo_makeT_17_3 : mblkB b_Mo_make [(17, .istore 7, vi 0), (19, .iload_n 2, vi 0), (20, .istore 8, vi 0)] = true := by decide +kernel
theorem f_x_Mo_makeT_22_2 : mblkB b_Mo_make [(22, .iload 8, vi 0), (24, .iload_n 3, vi 0)] = true := by decide +kernel
theorem e_x_Mo_makeT_25 : decode b_Mo_make 25 = .ok (.if_icmp .ge 204, 3) := by decide +kernel
theorem f_x_Mo_makeT_229_1 : mblkB b_Mo_make [(229, .aload 6, vi 0)] = true := by decide +kernel
theorem e_x_Mo_makeT_231 : decode b_Mo_make 231 = .ok (.areturn, 1) := by decide +kernel
theorem f_x_Mo_makeT_28_1 : mblkB b_Mo_make [(28, .aload_n 0, vi 0)] = true := by decide +kernel
theorem e_x_Mo_makeT_29 : decode b_Mo_make 29 = .ok (.getfield 297, 3) := by decide +kernel
theorem e_x_Mo_makeT_32 : decode b_Mo_make 32 = .ok (.ifCond .ne 197, 3) := by decide +kernel
theorem f_x_Mo_makeT_35_2 : mblkB b_Mo_make [(35, .iload 5, vi 0), (37, .iconst (-1), vi (-1))] = true := by decide +kernel
theorem e_x_Mo_makeT_38 : decode b_Mo_make 38 = .ok (.if_icmp .ne 7, 3) := by decide +kernel
theorem f_x_Mo_makeT_45_3 : mblkB b_Mo_make [(45, .aload_n 0, vi 0), (46, .iload_n 1, vi 0), (47, .aload_n 0, vi 0)] = true := by decide +kernel
theorem e_x_Mo_makeT_48 : decode b_Mo_make 48 = .ok (.getfield 30, 3) := by decide +kernel
theorem f_x_Mo_makeT_51_1 : mblkB b_Mo_make [(51, .iload_n 1, vi 0)] = true := by decide +kernel
theorem e_x_Mo_makeT_52 : decode b_Mo_make 52 = .ok (.aaload, 1) := by decide +kernel
theorem f_x_Mo_makeT_53_1 : mblkB b_Mo_make [(53, .iload 8, vi 0)] = true := by decide +kernel
theorem e_x_Mo_makeT_55 : decode b_Mo_make 55 = .ok (.iaload, 1) := by decide +kernel
theorem f_x_Mo_makeT_56_2 : mblkB b_Mo_make [(56, .iload_n 3, vi 0), (57, .iload 5, vi 0)] = true := by decide +kernel
theorem e_x_Mo_makeT_59 : decode b_Mo_make 59 = .ok (.invokevirtual 300, 3) := by decide +kernel
theorem f_x_Mo_makeT_62_3 : mblkB b_Mo_make [(62, .istore 9, vi 0), (64, .iload 5, vi 0), (66, .iconst (-1), vi (-1))] = true := by decide +kernel
theorem e_x_Mo_makeT_67 : decode b_Mo_make 67 = .ok (.if_icmp .eq 53, 3) := by decide +kernel
theorem f_x_Mo_makeT_70_1 : mblkB b_Mo_make [(70, .aload_n 0, vi 0)] = true := by decide +kernel
theorem e_x_Mo_makeT_71 : decode b_Mo_make 71 = .ok (.getfield 21, 3) := by decide +kernel
theorem f_x_Mo_makeT_74_1 : mblkB b_Mo_make [(74, .iload_n 1, vi 0)] = true := by decide +kernel
theorem e_x_Mo_makeT_75 : decode b_Mo_make 75 = .ok (.aaload, 1) := by decide +kernel
theorem f_x_Mo_makeT_76_1 : mblkB b_Mo_make [(76, .iload 8, vi 0)] = true := by decide +kernel
theorem e_x_Mo_makeT_78 : decode b_Mo_make 78 = .ok (.iaload, 1) := by decide +kernel
theorem f_x_Mo_makeT_79_1 : mblkB b_Mo_make [(79, .iconst 5, vi 5)] = true := by decide +kernel
theorem e_x_Mo_makeT_80 : decode b_Mo_make 80 = .ok (.if_icmp .ne 40, 3) := by decide +kernel
theorem f_x_Mo_makeT_120_3 : mblkB b_Mo_make [(120, .iconst 0, vi 0), (121, .istore 10, vi 0), (123, .iload 10, vi 0)] = true := by decide +kernel
theorem e_x_Mo_makeT_125 : decode b_Mo_make 125 = .ok (.ifCond .ne 19, 3) := by decide +kernel
theorem f_x_Mo_makeT_128_6 : mblkB b_Mo_make [(128, .aload 6, vi 0), (130, .aload_n 0, vi 0), (131, .iload_n 1, vi 0), (132, .iload 8, vi 0), (134, .aload 6, vi 0), (136, .iload 9, vi 0)] = true := by decide +kernel
theorem e_x_Mo_makeT_138 : decode b_Mo_make 138 = .ok (.invokevirtual 306, 3) := by decide +kernel
theorem e_x_Mo_makeT_141 : decode b_Mo_make 141 = .ok (.invokevirtual 293, 3) := by decide +kernel
theorem f_x_Mo_makeT_144_1 : mblkB b_Mo_make [(144, .aload_n 0, vi 0)] = true := by decide +kernel
theorem e_x_Mo_makeT_145 : decode b_Mo_make 145 = .ok (.getfield 297, 3) := by decide +kernel
theorem e_x_Mo_makeT_148 : decode b_Mo_make 148 = .ok (.ifCond .eq 6, 3) := by decide +kernel
theorem f_x_Mo_makeT_154_2 : mblkB b_Mo_make [(154, .iload 5, vi 0), (156, .iconst (-1), vi (-1))] = true := by decide +kernel
theorem e_x_Mo_makeT_157 : decode b_Mo_make 157 = .ok (.if_icmp .eq 16, 3) := by decide +kernel
theorem f_x_Mo_makeT_160_4 : mblkB b_Mo_make [(160, .aload 6, vi 0), (162, .aload_n 0, vi 0), (163, .aload 6, vi 0), (165, .iload 9, vi 0)] = true := by decide +kernel
theorem e_x_Mo_makeT_167 : decode b_Mo_make 167 = .ok (.invokevirtual 310, 3) := by decide +kernel
theorem e_x_Mo_makeT_170 : decode b_Mo_make 170 = .ok (.invokevirtual 293, 3) := by decide +kernel
theorem f_x_Mo_makeT_173_2 : mblkB b_Mo_make [(173, .aload_n 0, vi 0), (174, .iload 7, vi 0)] = true := by decide +kernel
theorem e_x_Mo_makeT_176 : decode b_Mo_make 176 = .ok (.putfield 269, 3) := by decide +kernel
theorem f_x_Mo_makeT_179_2 : mblkB b_Mo_make [(179, .aload_n 0, vi 0), (180, .aload_n 0, vi 0)] = true := by decide +kernel
theorem e_x_Mo_makeT_181 : decode b_Mo_make 181 = .ok (.getfield 314, 3) := by decide +kernel
theorem f_x_Mo_makeT_184_1 : mblkB b_Mo_make [(184, .aload 6, vi 0)] = true := by decide +kernel
theorem e_x_Mo_makeT_186 : decode b_Mo_make 186 = .ok (.getfield 272, 3) := by decide +kernel
theorem e_x_Mo_makeT_189 : decode b_Mo_make 189 = .ok (.invokestatic 243, 3) := by decide +kernel
theorem e_x_Mo_makeT_192 : decode b_Mo_make 192 = .ok (.putfield 314, 3) := by decide +kernel
theorem f_x_Mo_makeT_195_2 : mblkB b_Mo_make [(195, .aload_n 0, vi 0), (196, .aload 6, vi 0)] = true := by decide +kernel
theorem e_x_Mo_makeT_198 : decode b_Mo_make 198 = .ok (.getfield 272, 3) := by decide +kernel
theorem f_x_Mo_makeT_201_1 : mblkB b_Mo_make [(201, .sipush 300, vi 300)] = true := by decide +kernel
theorem e_x_Mo_makeT_204 : decode b_Mo_make 204 = .ok (.if_icmp .le 7, 3) := by decide +kernel
theorem f_x_Mo_makeT_211_1 : mblkB b_Mo_make [(211, .iconst 0, vi 0)] = true := by decide +kernel
theorem e_x_Mo_makeT_212 : decode b_Mo_make 212 = .ok (.putfield 297, 3) := by decide +kernel
theorem f_x_Mo_makeT_215_1 : mblkB b_Mo_make [(215, .aload_n 0, vi 0)] = true := by decide +kernel
theorem e_x_Mo_makeT_216 : decode b_Mo_make 216 = .ok (.getfield 30, 3) := by decide +kernel
theorem f_x_Mo_makeT_219_1 : mblkB b_Mo_make [(219, .iload_n 1, vi 0)] = true := by decide +kernel
theorem e_x_Mo_makeT_220 : decode b_Mo_make 220 = .ok (.aaload, 1) := by decide +kernel
theorem f_x_Mo_makeT_221_1 : mblkB b_Mo_make [(221, .iload 8, vi 0)] = true := by decide +kernel
theorem e_x_Mo_makeT_223 : decode b_Mo_make 223 = .ok (.iaload, 1) := by decide +kernel
theorem f_x_Mo_makeT_224_2 : mblkB b_Mo_make [(224, .istore 8, vi 0), (226, .goto (-204), vi 22)] = true := by decide +kernel
theorem f_x_Mo_makeT_207_2 : mblkB b_Mo_make [(207, .iconst 1, vi 1), (208, .goto 4, vi 212)] = true := by decide +kernel
theorem f_x_Mo_makeT_151_1 : mblkB b_Mo_make [(151, .aload 6, vi 0)] = true := by decide +kernel
theorem e_x_Mo_makeT_153 : decode b_Mo_make 153 = .ok (.areturn, 1) := by decide +kernel
theorem f_x_Mo_makeT_83_2 : mblkB b_Mo_make [(83, .iload 9, vi 0), (85, .aload_n 0, vi 0)] = true := by decide +kernel
theorem e_x_Mo_makeT_86 : decode b_Mo_make 86 = .ok (.getfield 24, 3) := by decide +kernel
theorem f_x_Mo_makeT_89_1 : mblkB b_Mo_make [(89, .iload_n 1, vi 0)] = true := by decide +kernel
theorem e_x_Mo_makeT_90 : decode b_Mo_make 90 = .ok (.aaload, 1) := by decide +kernel
theorem f_x_Mo_makeT_91_1 : mblkB b_Mo_make [(91, .iload 8, vi 0)] = true := by decide +kernel
theorem e_x_Mo_makeT_93 : decode b_Mo_make 93 = .ok (.iaload, 1) := by decide +kernel
theorem f_x_Mo_makeT_94_3 : mblkB b_Mo_make [(94, .ishr, vi 0), (95, .iconst 1, vi 1), (96, .iand, vi 0)] = true := by decide +kernel
theorem e_x_Mo_makeT_97 : decode b_Mo_make 97 = .ok (.ifCond .ne 23, 3) := by decide +kernel
theorem f_x_Mo_makeT_100_2 : mblkB b_Mo_make [(100, .aload_n 0, vi 0), (101, .aload_n 0, vi 0)] = true := by decide +kernel
theorem e_x_Mo_makeT_102 : decode b_Mo_make 102 = .ok (.getfield 27, 3) := by decide +kernel
theorem f_x_Mo_makeT_105_1 : mblkB b_Mo_make [(105, .iload_n 1, vi 0)] = true := by decide +kernel
theorem e_x_Mo_makeT_106 : decode b_Mo_make 106 = .ok (.aaload, 1) := by decide +kernel
theorem f_x_Mo_makeT_107_1 : mblkB b_Mo_make [(107, .iload 8, vi 0)] = true := by decide +kernel
theorem e_x_Mo_makeT_109 : decode b_Mo_make 109 = .ok (.iaload, 1) := by decide +kernel
theorem e_x_Mo_makeT_110 : decode b_Mo_make 110 = .ok (.invokevirtual 303, 3) := by decide +kernel
theorem e_x_Mo_makeT_113 : decode b_Mo_make 113 = .ok (.ifCond .ne 7, 3) := by decide +kernel
theorem f_x_Mo_makeT_116_2 : mblkB b_Mo_make [(116, .iconst 1, vi 1), (117, .goto 4, vi 121)] = true := by decide +kernel
theorem f_x_Mo_makeT_121_2 : mblkB b_Mo_make [(121, .istore 10, vi 0), (123, .iload 10, vi 0)] = true := by decide +kernel
theorem f_x_Mo_makeT_41_2 : mblkB b_Mo_make [(41, .iconst (-1), vi (-1)), (42, .goto 20, vi 62)] = true := by decide +kernel
set_option maxHeartbeats 4000000 in
set_option maxRecDepth 20000 in
theorem x_Mo_makeT {mk : mA → Int → Int → Int → Nat → Int → Option (Int × mA)} {fr lo : Nat} (hmk : ∀ (l : Launch) (D : va_G) (B : Nat) (H0 : Heap) (ad : mAd) (A : mA) (a0 : Int) (a1 : Int) (a2 : Int) (a3 : Nat) (a4 : Int) (h_a3 : a3 < 200) (hS : mStr D ad) (r9 : Int) (A9 : mA), mk A a0 a1 a2 a3 a4 = some (r9, A9) → mMet l D B H0 ad y_Mo_make b_Mo_make 11 (some (.object "ChanceStepsModel$Odds")) (fr + 760) (lo + 26000) [vr 0 0, vi a0, vi a1, vi a2, vr 1 a3, vi a4] A (fun v A' => v = some (vr 1 r9.toNat) ∧ A' = A9 ∧ r9.toNat < 200)) : ∀ (l : Launch) (D : va_G) (B : Nat) (H0 : Heap) (ad : mAd) (A : mA) (a0 : Int) (a1 : Int) (a2 : Int) (a3 : Nat) (a4 : Int) (h_a3 : a3 < 200) (hS : mStr D ad) (r9 : Int) (A9 : mA), f_Mo_makeT mk A a0 a1 a2 a3 a4 = some (r9, A9) → mMet l D B H0 ad y_Mo_make b_Mo_make 11 (some (.object "ChanceStepsModel$Odds")) (fr + 768) (lo + 26240) [vr 0 0, vi a0, vi a1, vi a2, vr 1 a3, vi a4] A (fun v A' => v = some (vr 1 r9.toNat) ∧ A' = A9 ∧ r9.toNat < 200) := by
  intro l D B H0 ad A a0 a1 a2 a3 a4 h_a3 hS r9 A9 h
  refine m_met (by decide) rfl (fun g w0 C Rm Y E => ?_)
  have hd_22 : ∀ (n : Nat) (A : mA) (b1 : Int) (b3 : Int) (b5 : Int) (b6 : Nat) (b7 : Int) (b8 : Int) , b6 < 200 → f_Mo_makeT_22 mk n A b1 b3 b5 b6 b7 b8 = some (r9, A9) → JM g D ad w0 A 22 [(0, vr 0 0), (1, vi b1), (3, vi b3), (5, vi b5), (6, vr 1 b6), (7, vi b7), (8, vi b8)] [] := by
    intro n
    induction n with
    | zero => intro A b1 b3 b5 b6 b7 b8 h_b6 h; cases h
    | succ n ih =>
      intro A b1 b3 b5 b6 b7 b8 h_b6 h
      unfold f_Mo_makeT_22 at h
      refine m_blk 25 [(0, vr 0 0), (1, vi b1), (3, vi b3), (5, vi b5), (6, vr 1 b6), (7, vi b7), (8, vi b8)] [vi b3, vi b8] C f_x_Mo_makeT_22_2 rfl ?_
      obtain ⟨c1, h⟩ := igd h
      obtain ⟨c2, h⟩ := igd h
      refine m_icmp_ge (tgt := 229) C e_x_Mo_makeT_25 (by decide) c1 c2 (fun c3 => ?_) (fun c3 => ?_)
      · have h := ifp c3 h
        refine m_blk 231 [(0, vr 0 0), (1, vi b1), (3, vi b3), (5, vi b5), (6, vr 1 b6), (7, vi b7), (8, vi b8)] [vr 1 b6] C f_x_Mo_makeT_229_1 rfl ?_
        exact m_aret9 C Rm E e_x_Mo_makeT_231 (finR9 h) (h_b6)
      · have h := ifn c3 h
        refine m_blk 29 [(0, vr 0 0), (1, vi b1), (3, vi b3), (5, vi b5), (6, vr 1 b6), (7, vi b7), (8, vi b8)] [vr 0 0] C f_x_Mo_makeT_28_1 rfl ?_
        refine m_geti C e_x_Mo_makeT_29 fg_Mo_297 rfl (by decide) rfl (A 0 0 34) rfl ?_
        obtain ⟨c4, h⟩ := igd h
        refine m_if_ne (tgt := 229) C e_x_Mo_makeT_32 (by decide) c4 (fun c5 => ?_) (fun c5 => ?_)
        · have h := ifn c5 h
          refine m_blk 231 [(0, vr 0 0), (1, vi b1), (3, vi b3), (5, vi b5), (6, vr 1 b6), (7, vi b7), (8, vi b8)] [vr 1 b6] C f_x_Mo_makeT_229_1 rfl ?_
          exact m_aret9 C Rm E e_x_Mo_makeT_231 (finR9 h) (h_b6)
        · have h := ifp c5 h
          refine m_blk 38 [(0, vr 0 0), (1, vi b1), (3, vi b3), (5, vi b5), (6, vr 1 b6), (7, vi b7), (8, vi b8)] [vi (-1), vi b5] C f_x_Mo_makeT_35_2 rfl ?_
          obtain ⟨c6, h⟩ := igd h
          refine m_icmp_ne (tgt := 45) C e_x_Mo_makeT_38 (by decide) c6 (by decide) (fun c7 => ?_) (fun c7 => ?_)
          · have h := ifn c7 h
            refine m_blk 48 [(0, vr 0 0), (1, vi b1), (3, vi b3), (5, vi b5), (6, vr 1 b6), (7, vi b7), (8, vi b8)] [vr 0 0, vi b1, vr 0 0] C f_x_Mo_makeT_45_3 rfl ?_
            refine m_getr C e_x_Mo_makeT_48 fg_Mo_30 rfl (by decide) rfl ?_
            refine m_blk 52 [(0, vr 0 0), (1, vi b1), (3, vi b3), (5, vi b5), (6, vr 1 b6), (7, vi b7), (8, vi b8)] [vi b1, vr 17 0, vi b1, vr 0 0] C f_x_Mo_makeT_51_1 rfl ?_
            obtain ⟨c8, h⟩ := igd h
            have k9 : b1.toNat < 6 := by omega
            refine m_aald C b1.toNat e_x_Mo_makeT_52 rfl rfl rfl (by decide) (by decide) c8.1 c8.2 (mz _ _) ?_
            refine m_blk 55 [(0, vr 0 0), (1, vi b1), (3, vi b3), (5, vi b5), (6, vr 1 b6), (7, vi b7), (8, vi b8)] [vi b8, vr 37 b1.toNat, vi b1, vr 0 0] C f_x_Mo_makeT_53_1 rfl ?_
            obtain ⟨c10, h⟩ := igd h
            refine m_iald C e_x_Mo_makeT_55 rfl (k9) (by decide) c10.1 c10.2 (A 37 b1.toNat b8.toNat) rfl ?_
            refine m_blk 59 [(0, vr 0 0), (1, vi b1), (3, vi b3), (5, vi b5), (6, vr 1 b6), (7, vi b7), (8, vi b8)] [vi b5, vi b3, vi (A 37 b1.toNat b8.toNat), vi b1, vr 0 0] C f_x_Mo_makeT_56_2 rfl ?_
            obtain ⟨q11, e12, h⟩ := obd h
            refine m_callV C Rm Y [vi b1, vi (A 37 b1.toNat b8.toNat), vi b3, vi b5] [] (x_Mo_neededFromN 18 l D B H0 ad _ b1 (A 37 b1.toNat b8.toNat) b3 b5 hS _ _ e12) cl_Mo_300 rfl (by decide) rfl rfl e_x_Mo_makeT_59 rfl rfl rfl ⟨by show _ ≤ ((fr + 768) : Nat); omega, by show _ ≤ ((lo + 26240) : Nat); omega⟩ ?_
            rintro _ _ ⟨rfl, rfl⟩
            show JM g D ad w0 q11.2 62 [(0, vr 0 0), (1, vi b1), (3, vi b3), (5, vi b5), (6, vr 1 b6), (7, vi b7), (8, vi b8)] [vi q11.1]
            refine m_blk 67 [(9, vi q11.1), (0, vr 0 0), (1, vi b1), (3, vi b3), (5, vi b5), (6, vr 1 b6), (7, vi b7), (8, vi b8)] [vi (-1), vi b5] C f_x_Mo_makeT_62_3 rfl ?_
            refine m_icmp_eq (tgt := 120) C e_x_Mo_makeT_67 (by decide) c6 (by decide) (fun c13 => (by omega : False).elim) (fun c13 => ?_)
            refine m_blk 71 [(9, vi q11.1), (0, vr 0 0), (1, vi b1), (3, vi b3), (5, vi b5), (6, vr 1 b6), (7, vi b7), (8, vi b8)] [vr 0 0] C f_x_Mo_makeT_70_1 rfl ?_
            refine m_getr C e_x_Mo_makeT_71 fg_Mo_21 rfl (by decide) rfl ?_
            refine m_blk 75 [(9, vi q11.1), (0, vr 0 0), (1, vi b1), (3, vi b3), (5, vi b5), (6, vr 1 b6), (7, vi b7), (8, vi b8)] [vi b1, vr 14 0] C f_x_Mo_makeT_74_1 rfl ?_
            have k14 : b1.toNat < 6 := by omega
            refine m_aald C b1.toNat e_x_Mo_makeT_75 rfl rfl rfl (by decide) (by decide) c8.1 c8.2 (mz _ _) ?_
            refine m_blk 78 [(9, vi q11.1), (0, vr 0 0), (1, vi b1), (3, vi b3), (5, vi b5), (6, vr 1 b6), (7, vi b7), (8, vi b8)] [vi b8, vr 34 b1.toNat] C f_x_Mo_makeT_76_1 rfl ?_
            refine m_iald C e_x_Mo_makeT_78 rfl (k14) (by decide) c10.1 c10.2 (q11.2 34 b1.toNat b8.toNat) rfl ?_
            refine m_blk 80 [(9, vi q11.1), (0, vr 0 0), (1, vi b1), (3, vi b3), (5, vi b5), (6, vr 1 b6), (7, vi b7), (8, vi b8)] [vi 5, vi (q11.2 34 b1.toNat b8.toNat)] C f_x_Mo_makeT_79_1 rfl ?_
            obtain ⟨c15, h⟩ := igd h
            refine m_icmp_ne (tgt := 120) C e_x_Mo_makeT_80 (by decide) c15 (by decide) (fun c16 => ?_) (fun c16 => ?_)
            · have h := ifn c16 h
              refine m_blk 125 [(10, vi 0), (9, vi q11.1), (0, vr 0 0), (1, vi b1), (3, vi b3), (5, vi b5), (6, vr 1 b6), (7, vi b7), (8, vi b8)] [vi 0] C f_x_Mo_makeT_120_3 rfl ?_
              refine m_if_ne (tgt := 144) C e_x_Mo_makeT_125 (by decide) (by decide) (fun c17 => (by omega : False).elim) (fun c17 => ?_)
              refine m_blk 138 [(10, vi 0), (9, vi q11.1), (0, vr 0 0), (1, vi b1), (3, vi b3), (5, vi b5), (6, vr 1 b6), (7, vi b7), (8, vi b8)] [vi q11.1, vr 1 b6, vi b8, vi b1, vr 0 0, vr 1 b6] C f_x_Mo_makeT_128_6 rfl ?_
              obtain ⟨q18, e19, h⟩ := obd h
              refine m_callV C Rm Y [vi b1, vi b8, vr 1 b6, vi q11.1] [vr 1 b6] (x_Mo_makeStep hmk l D B H0 ad _ b1 b8 b6 q11.1 (h_b6) hS _ _ e19) cl_Mo_306 rfl (by decide) rfl rfl e_x_Mo_makeT_138 rfl rfl rfl ⟨by show _ ≤ ((fr + 768) : Nat); omega, by show _ ≤ ((lo + 26240) : Nat); omega⟩ ?_
              rintro _ _ ⟨rfl, rfl, g20⟩
              show JM g D ad w0 q18.2 141 [(10, vi 0), (9, vi q11.1), (0, vr 0 0), (1, vi b1), (3, vi b3), (5, vi b5), (6, vr 1 b6), (7, vi b7), (8, vi b8)] [vr 1 q18.1.toNat, vr 1 b6]
              obtain ⟨q21, e22, h⟩ := obd h
              refine m_callV C Rm Y [vr 1 q18.1.toNat] [] (x_Odds_becomes l D B H0 ad _ b6 q18.1.toNat (h_b6) (g20) hS _ _ e22) cl_Mo_293 rfl (h_b6) rfl rfl e_x_Mo_makeT_141 rfl rfl rfl ⟨by show _ ≤ ((fr + 768) : Nat); omega, by show _ ≤ ((lo + 26240) : Nat); omega⟩ ?_
              rintro _ _ ⟨rfl, rfl⟩
              show JM g D ad w0 q21.2 144 [(10, vi 0), (9, vi q11.1), (0, vr 0 0), (1, vi b1), (3, vi b3), (5, vi b5), (6, vr 1 b6), (7, vi b7), (8, vi b8)] []
              refine m_blk 145 [(10, vi 0), (9, vi q11.1), (0, vr 0 0), (1, vi b1), (3, vi b3), (5, vi b5), (6, vr 1 b6), (7, vi b7), (8, vi b8)] [vr 0 0] C f_x_Mo_makeT_144_1 rfl ?_
              refine m_geti C e_x_Mo_makeT_145 fg_Mo_297 rfl (by decide) rfl (q21.2 0 0 34) rfl ?_
              obtain ⟨c23, h⟩ := igd h
              refine m_if_eq (tgt := 154) C e_x_Mo_makeT_148 (by decide) c23 (fun c24 => ?_) (fun c24 => ?_)
              · have h := ifp c24 h
                refine m_blk 157 [(10, vi 0), (9, vi q11.1), (0, vr 0 0), (1, vi b1), (3, vi b3), (5, vi b5), (6, vr 1 b6), (7, vi b7), (8, vi b8)] [vi (-1), vi b5] C f_x_Mo_makeT_154_2 rfl ?_
                refine m_icmp_eq (tgt := 173) C e_x_Mo_makeT_157 (by decide) c6 (by decide) (fun c25 => (by omega : False).elim) (fun c25 => ?_)
                refine m_blk 167 [(10, vi 0), (9, vi q11.1), (0, vr 0 0), (1, vi b1), (3, vi b3), (5, vi b5), (6, vr 1 b6), (7, vi b7), (8, vi b8)] [vi q11.1, vr 1 b6, vr 0 0, vr 1 b6] C f_x_Mo_makeT_160_4 rfl ?_
                obtain ⟨q26, e27, h⟩ := obd h
                refine m_callV C Rm Y [vr 1 b6, vi q11.1] [vr 1 b6] (x_Mo_forget l D B H0 ad _ b6 q11.1 (h_b6) hS _ _ e27) cl_Mo_310 rfl (by decide) rfl rfl e_x_Mo_makeT_167 rfl rfl rfl ⟨by show _ ≤ ((fr + 768) : Nat); omega, by show _ ≤ ((lo + 26240) : Nat); omega⟩ ?_
                rintro _ _ ⟨rfl, rfl, g28⟩
                show JM g D ad w0 q26.2 170 [(10, vi 0), (9, vi q11.1), (0, vr 0 0), (1, vi b1), (3, vi b3), (5, vi b5), (6, vr 1 b6), (7, vi b7), (8, vi b8)] [vr 1 q26.1.toNat, vr 1 b6]
                obtain ⟨q29, e30, h⟩ := obd h
                refine m_callV C Rm Y [vr 1 q26.1.toNat] [] (x_Odds_becomes l D B H0 ad _ b6 q26.1.toNat (h_b6) (g28) hS _ _ e30) cl_Mo_293 rfl (h_b6) rfl rfl e_x_Mo_makeT_170 rfl rfl rfl ⟨by show _ ≤ ((fr + 768) : Nat); omega, by show _ ≤ ((lo + 26240) : Nat); omega⟩ ?_
                rintro _ _ ⟨rfl, rfl⟩
                show JM g D ad w0 q29.2 173 [(10, vi 0), (9, vi q11.1), (0, vr 0 0), (1, vi b1), (3, vi b3), (5, vi b5), (6, vr 1 b6), (7, vi b7), (8, vi b8)] []
                refine m_blk 176 [(10, vi 0), (9, vi q11.1), (0, vr 0 0), (1, vi b1), (3, vi b3), (5, vi b5), (6, vr 1 b6), (7, vi b7), (8, vi b8)] [vi b7, vr 0 0] C f_x_Mo_makeT_173_2 rfl ?_
                refine m_puti C e_x_Mo_makeT_176 fp_Mo_269 rfl (by decide) rfl ?_
                refine m_blk 181 [(10, vi 0), (9, vi q11.1), (0, vr 0 0), (1, vi b1), (3, vi b3), (5, vi b5), (6, vr 1 b6), (7, vi b7), (8, vi b8)] [vr 0 0, vr 0 0] C f_x_Mo_makeT_179_2 rfl ?_
                refine m_geti C e_x_Mo_makeT_181 fg_Mo_314 rfl (by decide) rfl (q29.2 0 0 35) rfl ?_
                refine m_blk 186 [(10, vi 0), (9, vi q11.1), (0, vr 0 0), (1, vi b1), (3, vi b3), (5, vi b5), (6, vr 1 b6), (7, vi b7), (8, vi b8)] [vr 1 b6, vi (q29.2 0 0 35), vr 0 0] C f_x_Mo_makeT_184_1 rfl ?_
                refine m_getiN C e_x_Mo_makeT_186 fg_Mo_272 rfl (h_b6) rfl (q29.2 1 b6 2) rfl ?_
                obtain ⟨c31, h⟩ := igd h
                obtain ⟨c32, h⟩ := igd h
                refine m_mmax C Rm cl_Mo_243 e_x_Mo_makeT_189 (by show 1 ≤ ((fr + 768) : Nat); omega) (by show 1 + 13 ≤ ((lo + 26240) : Nat); omega) c31 c32 (fun z33 hz33 => ?_)
                obtain rfl : z33 = max (q29.2 0 0 35) (q29.2 1 b6 2) := by omega
                refine m_puti C e_x_Mo_makeT_192 fp_Mo_314 rfl (by decide) rfl ?_
                refine m_blk 198 [(10, vi 0), (9, vi q11.1), (0, vr 0 0), (1, vi b1), (3, vi b3), (5, vi b5), (6, vr 1 b6), (7, vi b7), (8, vi b8)] [vr 1 b6, vr 0 0] C f_x_Mo_makeT_195_2 rfl ?_
                refine m_getiN C e_x_Mo_makeT_198 fg_Mo_272 rfl (h_b6) rfl (q29.2 1 b6 2) rfl ?_
                refine m_blk 204 [(10, vi 0), (9, vi q11.1), (0, vr 0 0), (1, vi b1), (3, vi b3), (5, vi b5), (6, vr 1 b6), (7, vi b7), (8, vi b8)] [vi 300, vi (q29.2 1 b6 2), vr 0 0] C f_x_Mo_makeT_201_1 rfl ?_
                refine m_icmp_le (tgt := 211) C e_x_Mo_makeT_204 (by decide) c32 (by decide) (fun c34 => ?_) (fun c34 => ?_)
                · have h := ifp c34 h
                  refine m_blk 212 [(10, vi 0), (9, vi q11.1), (0, vr 0 0), (1, vi b1), (3, vi b3), (5, vi b5), (6, vr 1 b6), (7, vi b7), (8, vi b8)] [vi 0, vr 0 0] C f_x_Mo_makeT_211_1 rfl ?_
                  refine m_putz C e_x_Mo_makeT_212 fp_Mo_297 rfl (by decide) rfl (Or.inl rfl) ?_
                  refine m_blk 216 [(10, vi 0), (9, vi q11.1), (0, vr 0 0), (1, vi b1), (3, vi b3), (5, vi b5), (6, vr 1 b6), (7, vi b7), (8, vi b8)] [vr 0 0] C f_x_Mo_makeT_215_1 rfl ?_
                  refine m_getr C e_x_Mo_makeT_216 fg_Mo_30 rfl (by decide) rfl ?_
                  refine m_blk 220 [(10, vi 0), (9, vi q11.1), (0, vr 0 0), (1, vi b1), (3, vi b3), (5, vi b5), (6, vr 1 b6), (7, vi b7), (8, vi b8)] [vi b1, vr 17 0] C f_x_Mo_makeT_219_1 rfl ?_
                  have k35 : b1.toNat < 6 := by omega
                  refine m_aald C b1.toNat e_x_Mo_makeT_220 rfl rfl rfl (by decide) (by decide) c8.1 c8.2 (mz _ _) ?_
                  refine m_blk 223 [(10, vi 0), (9, vi q11.1), (0, vr 0 0), (1, vi b1), (3, vi b3), (5, vi b5), (6, vr 1 b6), (7, vi b7), (8, vi b8)] [vi b8, vr 37 b1.toNat] C f_x_Mo_makeT_221_1 rfl ?_
                  refine m_iald C e_x_Mo_makeT_223 rfl (k35) (by decide) c10.1 c10.2 (q29.2 37 b1.toNat b8.toNat) rfl ?_
                  refine m_blk 22 [(8, vi (q29.2 37 b1.toNat b8.toNat)), (10, vi 0), (9, vi q11.1), (0, vr 0 0), (1, vi b1), (3, vi b3), (5, vi b5), (6, vr 1 b6), (7, vi b7)] [] C f_x_Mo_makeT_224_2 rfl ?_
                  refine m_loc [(0, vr 0 0), (1, vi b1), (3, vi b3), (5, vi b5), (6, vr 1 b6), (7, vi b7), (8, vi (q29.2 37 b1.toNat b8.toNat))] ⟨rfl, rfl, rfl, rfl, rfl, rfl, rfl, trivial⟩ ?_
                  exact ih (mu (mu (mu q29.2 0 0 33 b7) 0 0 35 (max (q29.2 0 0 35) (q29.2 1 b6 2))) 0 0 34 0) b1 b3 b5 b6 b7 (q29.2 37 b1.toNat b8.toNat) (h_b6) h
                · have h := ifn c34 h
                  refine m_blk 212 [(10, vi 0), (9, vi q11.1), (0, vr 0 0), (1, vi b1), (3, vi b3), (5, vi b5), (6, vr 1 b6), (7, vi b7), (8, vi b8)] [vi 1, vr 0 0] C f_x_Mo_makeT_207_2 rfl ?_
                  refine m_putz C e_x_Mo_makeT_212 fp_Mo_297 rfl (by decide) rfl (Or.inr rfl) ?_
                  refine m_blk 216 [(10, vi 0), (9, vi q11.1), (0, vr 0 0), (1, vi b1), (3, vi b3), (5, vi b5), (6, vr 1 b6), (7, vi b7), (8, vi b8)] [vr 0 0] C f_x_Mo_makeT_215_1 rfl ?_
                  refine m_getr C e_x_Mo_makeT_216 fg_Mo_30 rfl (by decide) rfl ?_
                  refine m_blk 220 [(10, vi 0), (9, vi q11.1), (0, vr 0 0), (1, vi b1), (3, vi b3), (5, vi b5), (6, vr 1 b6), (7, vi b7), (8, vi b8)] [vi b1, vr 17 0] C f_x_Mo_makeT_219_1 rfl ?_
                  have k36 : b1.toNat < 6 := by omega
                  refine m_aald C b1.toNat e_x_Mo_makeT_220 rfl rfl rfl (by decide) (by decide) c8.1 c8.2 (mz _ _) ?_
                  refine m_blk 223 [(10, vi 0), (9, vi q11.1), (0, vr 0 0), (1, vi b1), (3, vi b3), (5, vi b5), (6, vr 1 b6), (7, vi b7), (8, vi b8)] [vi b8, vr 37 b1.toNat] C f_x_Mo_makeT_221_1 rfl ?_
                  refine m_iald C e_x_Mo_makeT_223 rfl (k36) (by decide) c10.1 c10.2 (q29.2 37 b1.toNat b8.toNat) rfl ?_
                  refine m_blk 22 [(8, vi (q29.2 37 b1.toNat b8.toNat)), (10, vi 0), (9, vi q11.1), (0, vr 0 0), (1, vi b1), (3, vi b3), (5, vi b5), (6, vr 1 b6), (7, vi b7)] [] C f_x_Mo_makeT_224_2 rfl ?_
                  refine m_loc [(0, vr 0 0), (1, vi b1), (3, vi b3), (5, vi b5), (6, vr 1 b6), (7, vi b7), (8, vi (q29.2 37 b1.toNat b8.toNat))] ⟨rfl, rfl, rfl, rfl, rfl, rfl, rfl, trivial⟩ ?_
                  exact ih (mu (mu (mu q29.2 0 0 33 b7) 0 0 35 (max (q29.2 0 0 35) (q29.2 1 b6 2))) 0 0 34 1) b1 b3 b5 b6 b7 (q29.2 37 b1.toNat b8.toNat) (h_b6) h
              · have h := ifn c24 h
                refine m_blk 153 [(10, vi 0), (9, vi q11.1), (0, vr 0 0), (1, vi b1), (3, vi b3), (5, vi b5), (6, vr 1 b6), (7, vi b7), (8, vi b8)] [vr 1 b6] C f_x_Mo_makeT_151_1 rfl ?_
                exact m_aret9 C Rm E e_x_Mo_makeT_153 (finR9 h) (h_b6)
            · have h := ifp c16 h
              refine m_blk 86 [(9, vi q11.1), (0, vr 0 0), (1, vi b1), (3, vi b3), (5, vi b5), (6, vr 1 b6), (7, vi b7), (8, vi b8)] [vr 0 0, vi q11.1] C f_x_Mo_makeT_83_2 rfl ?_
              refine m_getr C e_x_Mo_makeT_86 fg_Mo_24 rfl (by decide) rfl ?_
              refine m_blk 90 [(9, vi q11.1), (0, vr 0 0), (1, vi b1), (3, vi b3), (5, vi b5), (6, vr 1 b6), (7, vi b7), (8, vi b8)] [vi b1, vr 15 0, vi q11.1] C f_x_Mo_makeT_89_1 rfl ?_
              have k37 : b1.toNat < 6 := by omega
              refine m_aald C b1.toNat e_x_Mo_makeT_90 rfl rfl rfl (by decide) (by decide) c8.1 c8.2 (mz _ _) ?_
              refine m_blk 93 [(9, vi q11.1), (0, vr 0 0), (1, vi b1), (3, vi b3), (5, vi b5), (6, vr 1 b6), (7, vi b7), (8, vi b8)] [vi b8, vr 35 b1.toNat, vi q11.1] C f_x_Mo_makeT_91_1 rfl ?_
              refine m_iald C e_x_Mo_makeT_93 rfl (k37) (by decide) c10.1 c10.2 (q11.2 35 b1.toNat b8.toNat) rfl ?_
              refine m_blk 97 [(9, vi q11.1), (0, vr 0 0), (1, vi b1), (3, vi b3), (5, vi b5), (6, vr 1 b6), (7, vi b7), (8, vi b8)] [vi (iAnd (iShr q11.1 (q11.2 35 b1.toNat b8.toNat)) 1)] C f_x_Mo_makeT_94_3 rfl ?_
              refine m_if_ne (tgt := 120) C e_x_Mo_makeT_97 (by decide) (iAnd_r _ _) (fun c38 => ?_) (fun c38 => ?_)
              · have h := ifn c38 h
                refine m_blk 125 [(10, vi 0), (9, vi q11.1), (0, vr 0 0), (1, vi b1), (3, vi b3), (5, vi b5), (6, vr 1 b6), (7, vi b7), (8, vi b8)] [vi 0] C f_x_Mo_makeT_120_3 rfl ?_
                refine m_if_ne (tgt := 144) C e_x_Mo_makeT_125 (by decide) (by decide) (fun c39 => (by omega : False).elim) (fun c39 => ?_)
                refine m_blk 138 [(10, vi 0), (9, vi q11.1), (0, vr 0 0), (1, vi b1), (3, vi b3), (5, vi b5), (6, vr 1 b6), (7, vi b7), (8, vi b8)] [vi q11.1, vr 1 b6, vi b8, vi b1, vr 0 0, vr 1 b6] C f_x_Mo_makeT_128_6 rfl ?_
                obtain ⟨q40, e41, h⟩ := obd h
                refine m_callV C Rm Y [vi b1, vi b8, vr 1 b6, vi q11.1] [vr 1 b6] (x_Mo_makeStep hmk l D B H0 ad _ b1 b8 b6 q11.1 (h_b6) hS _ _ e41) cl_Mo_306 rfl (by decide) rfl rfl e_x_Mo_makeT_138 rfl rfl rfl ⟨by show _ ≤ ((fr + 768) : Nat); omega, by show _ ≤ ((lo + 26240) : Nat); omega⟩ ?_
                rintro _ _ ⟨rfl, rfl, g42⟩
                show JM g D ad w0 q40.2 141 [(10, vi 0), (9, vi q11.1), (0, vr 0 0), (1, vi b1), (3, vi b3), (5, vi b5), (6, vr 1 b6), (7, vi b7), (8, vi b8)] [vr 1 q40.1.toNat, vr 1 b6]
                obtain ⟨q43, e44, h⟩ := obd h
                refine m_callV C Rm Y [vr 1 q40.1.toNat] [] (x_Odds_becomes l D B H0 ad _ b6 q40.1.toNat (h_b6) (g42) hS _ _ e44) cl_Mo_293 rfl (h_b6) rfl rfl e_x_Mo_makeT_141 rfl rfl rfl ⟨by show _ ≤ ((fr + 768) : Nat); omega, by show _ ≤ ((lo + 26240) : Nat); omega⟩ ?_
                rintro _ _ ⟨rfl, rfl⟩
                show JM g D ad w0 q43.2 144 [(10, vi 0), (9, vi q11.1), (0, vr 0 0), (1, vi b1), (3, vi b3), (5, vi b5), (6, vr 1 b6), (7, vi b7), (8, vi b8)] []
                refine m_blk 145 [(10, vi 0), (9, vi q11.1), (0, vr 0 0), (1, vi b1), (3, vi b3), (5, vi b5), (6, vr 1 b6), (7, vi b7), (8, vi b8)] [vr 0 0] C f_x_Mo_makeT_144_1 rfl ?_
                refine m_geti C e_x_Mo_makeT_145 fg_Mo_297 rfl (by decide) rfl (q43.2 0 0 34) rfl ?_
                obtain ⟨c45, h⟩ := igd h
                refine m_if_eq (tgt := 154) C e_x_Mo_makeT_148 (by decide) c45 (fun c46 => ?_) (fun c46 => ?_)
                · have h := ifp c46 h
                  refine m_blk 157 [(10, vi 0), (9, vi q11.1), (0, vr 0 0), (1, vi b1), (3, vi b3), (5, vi b5), (6, vr 1 b6), (7, vi b7), (8, vi b8)] [vi (-1), vi b5] C f_x_Mo_makeT_154_2 rfl ?_
                  refine m_icmp_eq (tgt := 173) C e_x_Mo_makeT_157 (by decide) c6 (by decide) (fun c47 => (by omega : False).elim) (fun c47 => ?_)
                  refine m_blk 167 [(10, vi 0), (9, vi q11.1), (0, vr 0 0), (1, vi b1), (3, vi b3), (5, vi b5), (6, vr 1 b6), (7, vi b7), (8, vi b8)] [vi q11.1, vr 1 b6, vr 0 0, vr 1 b6] C f_x_Mo_makeT_160_4 rfl ?_
                  obtain ⟨q48, e49, h⟩ := obd h
                  refine m_callV C Rm Y [vr 1 b6, vi q11.1] [vr 1 b6] (x_Mo_forget l D B H0 ad _ b6 q11.1 (h_b6) hS _ _ e49) cl_Mo_310 rfl (by decide) rfl rfl e_x_Mo_makeT_167 rfl rfl rfl ⟨by show _ ≤ ((fr + 768) : Nat); omega, by show _ ≤ ((lo + 26240) : Nat); omega⟩ ?_
                  rintro _ _ ⟨rfl, rfl, g50⟩
                  show JM g D ad w0 q48.2 170 [(10, vi 0), (9, vi q11.1), (0, vr 0 0), (1, vi b1), (3, vi b3), (5, vi b5), (6, vr 1 b6), (7, vi b7), (8, vi b8)] [vr 1 q48.1.toNat, vr 1 b6]
                  obtain ⟨q51, e52, h⟩ := obd h
                  refine m_callV C Rm Y [vr 1 q48.1.toNat] [] (x_Odds_becomes l D B H0 ad _ b6 q48.1.toNat (h_b6) (g50) hS _ _ e52) cl_Mo_293 rfl (h_b6) rfl rfl e_x_Mo_makeT_170 rfl rfl rfl ⟨by show _ ≤ ((fr + 768) : Nat); omega, by show _ ≤ ((lo + 26240) : Nat); omega⟩ ?_
                  rintro _ _ ⟨rfl, rfl⟩
                  show JM g D ad w0 q51.2 173 [(10, vi 0), (9, vi q11.1), (0, vr 0 0), (1, vi b1), (3, vi b3), (5, vi b5), (6, vr 1 b6), (7, vi b7), (8, vi b8)] []
                  refine m_blk 176 [(10, vi 0), (9, vi q11.1), (0, vr 0 0), (1, vi b1), (3, vi b3), (5, vi b5), (6, vr 1 b6), (7, vi b7), (8, vi b8)] [vi b7, vr 0 0] C f_x_Mo_makeT_173_2 rfl ?_
                  refine m_puti C e_x_Mo_makeT_176 fp_Mo_269 rfl (by decide) rfl ?_
                  refine m_blk 181 [(10, vi 0), (9, vi q11.1), (0, vr 0 0), (1, vi b1), (3, vi b3), (5, vi b5), (6, vr 1 b6), (7, vi b7), (8, vi b8)] [vr 0 0, vr 0 0] C f_x_Mo_makeT_179_2 rfl ?_
                  refine m_geti C e_x_Mo_makeT_181 fg_Mo_314 rfl (by decide) rfl (q51.2 0 0 35) rfl ?_
                  refine m_blk 186 [(10, vi 0), (9, vi q11.1), (0, vr 0 0), (1, vi b1), (3, vi b3), (5, vi b5), (6, vr 1 b6), (7, vi b7), (8, vi b8)] [vr 1 b6, vi (q51.2 0 0 35), vr 0 0] C f_x_Mo_makeT_184_1 rfl ?_
                  refine m_getiN C e_x_Mo_makeT_186 fg_Mo_272 rfl (h_b6) rfl (q51.2 1 b6 2) rfl ?_
                  obtain ⟨c53, h⟩ := igd h
                  obtain ⟨c54, h⟩ := igd h
                  refine m_mmax C Rm cl_Mo_243 e_x_Mo_makeT_189 (by show 1 ≤ ((fr + 768) : Nat); omega) (by show 1 + 13 ≤ ((lo + 26240) : Nat); omega) c53 c54 (fun z55 hz55 => ?_)
                  obtain rfl : z55 = max (q51.2 0 0 35) (q51.2 1 b6 2) := by omega
                  refine m_puti C e_x_Mo_makeT_192 fp_Mo_314 rfl (by decide) rfl ?_
                  refine m_blk 198 [(10, vi 0), (9, vi q11.1), (0, vr 0 0), (1, vi b1), (3, vi b3), (5, vi b5), (6, vr 1 b6), (7, vi b7), (8, vi b8)] [vr 1 b6, vr 0 0] C f_x_Mo_makeT_195_2 rfl ?_
                  refine m_getiN C e_x_Mo_makeT_198 fg_Mo_272 rfl (h_b6) rfl (q51.2 1 b6 2) rfl ?_
                  refine m_blk 204 [(10, vi 0), (9, vi q11.1), (0, vr 0 0), (1, vi b1), (3, vi b3), (5, vi b5), (6, vr 1 b6), (7, vi b7), (8, vi b8)] [vi 300, vi (q51.2 1 b6 2), vr 0 0] C f_x_Mo_makeT_201_1 rfl ?_
                  refine m_icmp_le (tgt := 211) C e_x_Mo_makeT_204 (by decide) c54 (by decide) (fun c56 => ?_) (fun c56 => ?_)
                  · have h := ifp c56 h
                    refine m_blk 212 [(10, vi 0), (9, vi q11.1), (0, vr 0 0), (1, vi b1), (3, vi b3), (5, vi b5), (6, vr 1 b6), (7, vi b7), (8, vi b8)] [vi 0, vr 0 0] C f_x_Mo_makeT_211_1 rfl ?_
                    refine m_putz C e_x_Mo_makeT_212 fp_Mo_297 rfl (by decide) rfl (Or.inl rfl) ?_
                    refine m_blk 216 [(10, vi 0), (9, vi q11.1), (0, vr 0 0), (1, vi b1), (3, vi b3), (5, vi b5), (6, vr 1 b6), (7, vi b7), (8, vi b8)] [vr 0 0] C f_x_Mo_makeT_215_1 rfl ?_
                    refine m_getr C e_x_Mo_makeT_216 fg_Mo_30 rfl (by decide) rfl ?_
                    refine m_blk 220 [(10, vi 0), (9, vi q11.1), (0, vr 0 0), (1, vi b1), (3, vi b3), (5, vi b5), (6, vr 1 b6), (7, vi b7), (8, vi b8)] [vi b1, vr 17 0] C f_x_Mo_makeT_219_1 rfl ?_
                    have k57 : b1.toNat < 6 := by omega
                    refine m_aald C b1.toNat e_x_Mo_makeT_220 rfl rfl rfl (by decide) (by decide) c8.1 c8.2 (mz _ _) ?_
                    refine m_blk 223 [(10, vi 0), (9, vi q11.1), (0, vr 0 0), (1, vi b1), (3, vi b3), (5, vi b5), (6, vr 1 b6), (7, vi b7), (8, vi b8)] [vi b8, vr 37 b1.toNat] C f_x_Mo_makeT_221_1 rfl ?_
                    refine m_iald C e_x_Mo_makeT_223 rfl (k57) (by decide) c10.1 c10.2 (q51.2 37 b1.toNat b8.toNat) rfl ?_
                    refine m_blk 22 [(8, vi (q51.2 37 b1.toNat b8.toNat)), (10, vi 0), (9, vi q11.1), (0, vr 0 0), (1, vi b1), (3, vi b3), (5, vi b5), (6, vr 1 b6), (7, vi b7)] [] C f_x_Mo_makeT_224_2 rfl ?_
                    refine m_loc [(0, vr 0 0), (1, vi b1), (3, vi b3), (5, vi b5), (6, vr 1 b6), (7, vi b7), (8, vi (q51.2 37 b1.toNat b8.toNat))] ⟨rfl, rfl, rfl, rfl, rfl, rfl, rfl, trivial⟩ ?_
                    exact ih (mu (mu (mu q51.2 0 0 33 b7) 0 0 35 (max (q51.2 0 0 35) (q51.2 1 b6 2))) 0 0 34 0) b1 b3 b5 b6 b7 (q51.2 37 b1.toNat b8.toNat) (h_b6) h
                  · have h := ifn c56 h
                    refine m_blk 212 [(10, vi 0), (9, vi q11.1), (0, vr 0 0), (1, vi b1), (3, vi b3), (5, vi b5), (6, vr 1 b6), (7, vi b7), (8, vi b8)] [vi 1, vr 0 0] C f_x_Mo_makeT_207_2 rfl ?_
                    refine m_putz C e_x_Mo_makeT_212 fp_Mo_297 rfl (by decide) rfl (Or.inr rfl) ?_
                    refine m_blk 216 [(10, vi 0), (9, vi q11.1), (0, vr 0 0), (1, vi b1), (3, vi b3), (5, vi b5), (6, vr 1 b6), (7, vi b7), (8, vi b8)] [vr 0 0] C f_x_Mo_makeT_215_1 rfl ?_
                    refine m_getr C e_x_Mo_makeT_216 fg_Mo_30 rfl (by decide) rfl ?_
                    refine m_blk 220 [(10, vi 0), (9, vi q11.1), (0, vr 0 0), (1, vi b1), (3, vi b3), (5, vi b5), (6, vr 1 b6), (7, vi b7), (8, vi b8)] [vi b1, vr 17 0] C f_x_Mo_makeT_219_1 rfl ?_
                    have k58 : b1.toNat < 6 := by omega
                    refine m_aald C b1.toNat e_x_Mo_makeT_220 rfl rfl rfl (by decide) (by decide) c8.1 c8.2 (mz _ _) ?_
                    refine m_blk 223 [(10, vi 0), (9, vi q11.1), (0, vr 0 0), (1, vi b1), (3, vi b3), (5, vi b5), (6, vr 1 b6), (7, vi b7), (8, vi b8)] [vi b8, vr 37 b1.toNat] C f_x_Mo_makeT_221_1 rfl ?_
                    refine m_iald C e_x_Mo_makeT_223 rfl (k58) (by decide) c10.1 c10.2 (q51.2 37 b1.toNat b8.toNat) rfl ?_
                    refine m_blk 22 [(8, vi (q51.2 37 b1.toNat b8.toNat)), (10, vi 0), (9, vi q11.1), (0, vr 0 0), (1, vi b1), (3, vi b3), (5, vi b5), (6, vr 1 b6), (7, vi b7)] [] C f_x_Mo_makeT_224_2 rfl ?_
                    refine m_loc [(0, vr 0 0), (1, vi b1), (3, vi b3), (5, vi b5), (6, vr 1 b6), (7, vi b7), (8, vi (q51.2 37 b1.toNat b8.toNat))] ⟨rfl, rfl, rfl, rfl, rfl, rfl, rfl, trivial⟩ ?_
                    exact ih (mu (mu (mu q51.2 0 0 33 b7) 0 0 35 (max (q51.2 0 0 35) (q51.2 1 b6 2))) 0 0 34 1) b1 b3 b5 b6 b7 (q51.2 37 b1.toNat b8.toNat) (h_b6) h
                · have h := ifn c46 h
                  refine m_blk 153 [(10, vi 0), (9, vi q11.1), (0, vr 0 0), (1, vi b1), (3, vi b3), (5, vi b5), (6, vr 1 b6), (7, vi b7), (8, vi b8)] [vr 1 b6] C f_x_Mo_makeT_151_1 rfl ?_
                  exact m_aret9 C Rm E e_x_Mo_makeT_153 (finR9 h) (h_b6)
              · have h := ifp c38 h
                refine m_blk 102 [(9, vi q11.1), (0, vr 0 0), (1, vi b1), (3, vi b3), (5, vi b5), (6, vr 1 b6), (7, vi b7), (8, vi b8)] [vr 0 0, vr 0 0] C f_x_Mo_makeT_100_2 rfl ?_
                refine m_getr C e_x_Mo_makeT_102 fg_Mo_27 rfl (by decide) rfl ?_
                refine m_blk 106 [(9, vi q11.1), (0, vr 0 0), (1, vi b1), (3, vi b3), (5, vi b5), (6, vr 1 b6), (7, vi b7), (8, vi b8)] [vi b1, vr 16 0, vr 0 0] C f_x_Mo_makeT_105_1 rfl ?_
                have k59 : b1.toNat < 6 := by omega
                refine m_aald C b1.toNat e_x_Mo_makeT_106 rfl rfl rfl (by decide) (by decide) c8.1 c8.2 (mz _ _) ?_
                refine m_blk 109 [(9, vi q11.1), (0, vr 0 0), (1, vi b1), (3, vi b3), (5, vi b5), (6, vr 1 b6), (7, vi b7), (8, vi b8)] [vi b8, vr 36 b1.toNat, vr 0 0] C f_x_Mo_makeT_107_1 rfl ?_
                refine m_iald C e_x_Mo_makeT_109 rfl (k59) (by decide) c10.1 c10.2 (q11.2 36 b1.toNat b8.toNat) rfl ?_
                obtain ⟨q60, e61, h⟩ := obd h
                refine m_callV C Rm Y [vi (q11.2 36 b1.toNat b8.toNat)] [] (x_Mo_seesN 7 l D B H0 ad _ (q11.2 36 b1.toNat b8.toNat) hS _ _ e61) cl_Mo_303 rfl (by decide) rfl rfl e_x_Mo_makeT_110 rfl rfl rfl ⟨by show _ ≤ ((fr + 768) : Nat); omega, by show _ ≤ ((lo + 26240) : Nat); omega⟩ ?_
                rintro _ _ ⟨rfl, rfl⟩
                show JM g D ad w0 q60.2 113 [(9, vi q11.1), (0, vr 0 0), (1, vi b1), (3, vi b3), (5, vi b5), (6, vr 1 b6), (7, vi b7), (8, vi b8)] [vi q60.1]
                obtain ⟨c62, h⟩ := igd h
                refine m_if_ne (tgt := 120) C e_x_Mo_makeT_113 (by decide) c62 (fun c63 => ?_) (fun c63 => ?_)
                · have h := ifn c63 h
                  refine m_blk 125 [(10, vi 0), (9, vi q11.1), (0, vr 0 0), (1, vi b1), (3, vi b3), (5, vi b5), (6, vr 1 b6), (7, vi b7), (8, vi b8)] [vi 0] C f_x_Mo_makeT_120_3 rfl ?_
                  refine m_if_ne (tgt := 144) C e_x_Mo_makeT_125 (by decide) (by decide) (fun c64 => (by omega : False).elim) (fun c64 => ?_)
                  refine m_blk 138 [(10, vi 0), (9, vi q11.1), (0, vr 0 0), (1, vi b1), (3, vi b3), (5, vi b5), (6, vr 1 b6), (7, vi b7), (8, vi b8)] [vi q11.1, vr 1 b6, vi b8, vi b1, vr 0 0, vr 1 b6] C f_x_Mo_makeT_128_6 rfl ?_
                  obtain ⟨q65, e66, h⟩ := obd h
                  refine m_callV C Rm Y [vi b1, vi b8, vr 1 b6, vi q11.1] [vr 1 b6] (x_Mo_makeStep hmk l D B H0 ad _ b1 b8 b6 q11.1 (h_b6) hS _ _ e66) cl_Mo_306 rfl (by decide) rfl rfl e_x_Mo_makeT_138 rfl rfl rfl ⟨by show _ ≤ ((fr + 768) : Nat); omega, by show _ ≤ ((lo + 26240) : Nat); omega⟩ ?_
                  rintro _ _ ⟨rfl, rfl, g67⟩
                  show JM g D ad w0 q65.2 141 [(10, vi 0), (9, vi q11.1), (0, vr 0 0), (1, vi b1), (3, vi b3), (5, vi b5), (6, vr 1 b6), (7, vi b7), (8, vi b8)] [vr 1 q65.1.toNat, vr 1 b6]
                  obtain ⟨q68, e69, h⟩ := obd h
                  refine m_callV C Rm Y [vr 1 q65.1.toNat] [] (x_Odds_becomes l D B H0 ad _ b6 q65.1.toNat (h_b6) (g67) hS _ _ e69) cl_Mo_293 rfl (h_b6) rfl rfl e_x_Mo_makeT_141 rfl rfl rfl ⟨by show _ ≤ ((fr + 768) : Nat); omega, by show _ ≤ ((lo + 26240) : Nat); omega⟩ ?_
                  rintro _ _ ⟨rfl, rfl⟩
                  show JM g D ad w0 q68.2 144 [(10, vi 0), (9, vi q11.1), (0, vr 0 0), (1, vi b1), (3, vi b3), (5, vi b5), (6, vr 1 b6), (7, vi b7), (8, vi b8)] []
                  refine m_blk 145 [(10, vi 0), (9, vi q11.1), (0, vr 0 0), (1, vi b1), (3, vi b3), (5, vi b5), (6, vr 1 b6), (7, vi b7), (8, vi b8)] [vr 0 0] C f_x_Mo_makeT_144_1 rfl ?_
                  refine m_geti C e_x_Mo_makeT_145 fg_Mo_297 rfl (by decide) rfl (q68.2 0 0 34) rfl ?_
                  obtain ⟨c70, h⟩ := igd h
                  refine m_if_eq (tgt := 154) C e_x_Mo_makeT_148 (by decide) c70 (fun c71 => ?_) (fun c71 => ?_)
                  · have h := ifp c71 h
                    refine m_blk 157 [(10, vi 0), (9, vi q11.1), (0, vr 0 0), (1, vi b1), (3, vi b3), (5, vi b5), (6, vr 1 b6), (7, vi b7), (8, vi b8)] [vi (-1), vi b5] C f_x_Mo_makeT_154_2 rfl ?_
                    refine m_icmp_eq (tgt := 173) C e_x_Mo_makeT_157 (by decide) c6 (by decide) (fun c72 => (by omega : False).elim) (fun c72 => ?_)
                    refine m_blk 167 [(10, vi 0), (9, vi q11.1), (0, vr 0 0), (1, vi b1), (3, vi b3), (5, vi b5), (6, vr 1 b6), (7, vi b7), (8, vi b8)] [vi q11.1, vr 1 b6, vr 0 0, vr 1 b6] C f_x_Mo_makeT_160_4 rfl ?_
                    obtain ⟨q73, e74, h⟩ := obd h
                    refine m_callV C Rm Y [vr 1 b6, vi q11.1] [vr 1 b6] (x_Mo_forget l D B H0 ad _ b6 q11.1 (h_b6) hS _ _ e74) cl_Mo_310 rfl (by decide) rfl rfl e_x_Mo_makeT_167 rfl rfl rfl ⟨by show _ ≤ ((fr + 768) : Nat); omega, by show _ ≤ ((lo + 26240) : Nat); omega⟩ ?_
                    rintro _ _ ⟨rfl, rfl, g75⟩
                    show JM g D ad w0 q73.2 170 [(10, vi 0), (9, vi q11.1), (0, vr 0 0), (1, vi b1), (3, vi b3), (5, vi b5), (6, vr 1 b6), (7, vi b7), (8, vi b8)] [vr 1 q73.1.toNat, vr 1 b6]
                    obtain ⟨q76, e77, h⟩ := obd h
                    refine m_callV C Rm Y [vr 1 q73.1.toNat] [] (x_Odds_becomes l D B H0 ad _ b6 q73.1.toNat (h_b6) (g75) hS _ _ e77) cl_Mo_293 rfl (h_b6) rfl rfl e_x_Mo_makeT_170 rfl rfl rfl ⟨by show _ ≤ ((fr + 768) : Nat); omega, by show _ ≤ ((lo + 26240) : Nat); omega⟩ ?_
                    rintro _ _ ⟨rfl, rfl⟩
                    show JM g D ad w0 q76.2 173 [(10, vi 0), (9, vi q11.1), (0, vr 0 0), (1, vi b1), (3, vi b3), (5, vi b5), (6, vr 1 b6), (7, vi b7), (8, vi b8)] []
                    refine m_blk 176 [(10, vi 0), (9, vi q11.1), (0, vr 0 0), (1, vi b1), (3, vi b3), (5, vi b5), (6, vr 1 b6), (7, vi b7), (8, vi b8)] [vi b7, vr 0 0] C f_x_Mo_makeT_173_2 rfl ?_
                    refine m_puti C e_x_Mo_makeT_176 fp_Mo_269 rfl (by decide) rfl ?_
                    refine m_blk 181 [(10, vi 0), (9, vi q11.1), (0, vr 0 0), (1, vi b1), (3, vi b3), (5, vi b5), (6, vr 1 b6), (7, vi b7), (8, vi b8)] [vr 0 0, vr 0 0] C f_x_Mo_makeT_179_2 rfl ?_
                    refine m_geti C e_x_Mo_makeT_181 fg_Mo_314 rfl (by decide) rfl (q76.2 0 0 35) rfl ?_
                    refine m_blk 186 [(10, vi 0), (9, vi q11.1), (0, vr 0 0), (1, vi b1), (3, vi b3), (5, vi b5), (6, vr 1 b6), (7, vi b7), (8, vi b8)] [vr 1 b6, vi (q76.2 0 0 35), vr 0 0] C f_x_Mo_makeT_184_1 rfl ?_
                    refine m_getiN C e_x_Mo_makeT_186 fg_Mo_272 rfl (h_b6) rfl (q76.2 1 b6 2) rfl ?_
                    obtain ⟨c78, h⟩ := igd h
                    obtain ⟨c79, h⟩ := igd h
                    refine m_mmax C Rm cl_Mo_243 e_x_Mo_makeT_189 (by show 1 ≤ ((fr + 768) : Nat); omega) (by show 1 + 13 ≤ ((lo + 26240) : Nat); omega) c78 c79 (fun z80 hz80 => ?_)
                    obtain rfl : z80 = max (q76.2 0 0 35) (q76.2 1 b6 2) := by omega
                    refine m_puti C e_x_Mo_makeT_192 fp_Mo_314 rfl (by decide) rfl ?_
                    refine m_blk 198 [(10, vi 0), (9, vi q11.1), (0, vr 0 0), (1, vi b1), (3, vi b3), (5, vi b5), (6, vr 1 b6), (7, vi b7), (8, vi b8)] [vr 1 b6, vr 0 0] C f_x_Mo_makeT_195_2 rfl ?_
                    refine m_getiN C e_x_Mo_makeT_198 fg_Mo_272 rfl (h_b6) rfl (q76.2 1 b6 2) rfl ?_
                    refine m_blk 204 [(10, vi 0), (9, vi q11.1), (0, vr 0 0), (1, vi b1), (3, vi b3), (5, vi b5), (6, vr 1 b6), (7, vi b7), (8, vi b8)] [vi 300, vi (q76.2 1 b6 2), vr 0 0] C f_x_Mo_makeT_201_1 rfl ?_
                    refine m_icmp_le (tgt := 211) C e_x_Mo_makeT_204 (by decide) c79 (by decide) (fun c81 => ?_) (fun c81 => ?_)
                    · have h := ifp c81 h
                      refine m_blk 212 [(10, vi 0), (9, vi q11.1), (0, vr 0 0), (1, vi b1), (3, vi b3), (5, vi b5), (6, vr 1 b6), (7, vi b7), (8, vi b8)] [vi 0, vr 0 0] C f_x_Mo_makeT_211_1 rfl ?_
                      refine m_putz C e_x_Mo_makeT_212 fp_Mo_297 rfl (by decide) rfl (Or.inl rfl) ?_
                      refine m_blk 216 [(10, vi 0), (9, vi q11.1), (0, vr 0 0), (1, vi b1), (3, vi b3), (5, vi b5), (6, vr 1 b6), (7, vi b7), (8, vi b8)] [vr 0 0] C f_x_Mo_makeT_215_1 rfl ?_
                      refine m_getr C e_x_Mo_makeT_216 fg_Mo_30 rfl (by decide) rfl ?_
                      refine m_blk 220 [(10, vi 0), (9, vi q11.1), (0, vr 0 0), (1, vi b1), (3, vi b3), (5, vi b5), (6, vr 1 b6), (7, vi b7), (8, vi b8)] [vi b1, vr 17 0] C f_x_Mo_makeT_219_1 rfl ?_
                      have k82 : b1.toNat < 6 := by omega
                      refine m_aald C b1.toNat e_x_Mo_makeT_220 rfl rfl rfl (by decide) (by decide) c8.1 c8.2 (mz _ _) ?_
                      refine m_blk 223 [(10, vi 0), (9, vi q11.1), (0, vr 0 0), (1, vi b1), (3, vi b3), (5, vi b5), (6, vr 1 b6), (7, vi b7), (8, vi b8)] [vi b8, vr 37 b1.toNat] C f_x_Mo_makeT_221_1 rfl ?_
                      refine m_iald C e_x_Mo_makeT_223 rfl (k82) (by decide) c10.1 c10.2 (q76.2 37 b1.toNat b8.toNat) rfl ?_
                      refine m_blk 22 [(8, vi (q76.2 37 b1.toNat b8.toNat)), (10, vi 0), (9, vi q11.1), (0, vr 0 0), (1, vi b1), (3, vi b3), (5, vi b5), (6, vr 1 b6), (7, vi b7)] [] C f_x_Mo_makeT_224_2 rfl ?_
                      refine m_loc [(0, vr 0 0), (1, vi b1), (3, vi b3), (5, vi b5), (6, vr 1 b6), (7, vi b7), (8, vi (q76.2 37 b1.toNat b8.toNat))] ⟨rfl, rfl, rfl, rfl, rfl, rfl, rfl, trivial⟩ ?_
                      exact ih (mu (mu (mu q76.2 0 0 33 b7) 0 0 35 (max (q76.2 0 0 35) (q76.2 1 b6 2))) 0 0 34 0) b1 b3 b5 b6 b7 (q76.2 37 b1.toNat b8.toNat) (h_b6) h
                    · have h := ifn c81 h
                      refine m_blk 212 [(10, vi 0), (9, vi q11.1), (0, vr 0 0), (1, vi b1), (3, vi b3), (5, vi b5), (6, vr 1 b6), (7, vi b7), (8, vi b8)] [vi 1, vr 0 0] C f_x_Mo_makeT_207_2 rfl ?_
                      refine m_putz C e_x_Mo_makeT_212 fp_Mo_297 rfl (by decide) rfl (Or.inr rfl) ?_
                      refine m_blk 216 [(10, vi 0), (9, vi q11.1), (0, vr 0 0), (1, vi b1), (3, vi b3), (5, vi b5), (6, vr 1 b6), (7, vi b7), (8, vi b8)] [vr 0 0] C f_x_Mo_makeT_215_1 rfl ?_
                      refine m_getr C e_x_Mo_makeT_216 fg_Mo_30 rfl (by decide) rfl ?_
                      refine m_blk 220 [(10, vi 0), (9, vi q11.1), (0, vr 0 0), (1, vi b1), (3, vi b3), (5, vi b5), (6, vr 1 b6), (7, vi b7), (8, vi b8)] [vi b1, vr 17 0] C f_x_Mo_makeT_219_1 rfl ?_
                      have k83 : b1.toNat < 6 := by omega
                      refine m_aald C b1.toNat e_x_Mo_makeT_220 rfl rfl rfl (by decide) (by decide) c8.1 c8.2 (mz _ _) ?_
                      refine m_blk 223 [(10, vi 0), (9, vi q11.1), (0, vr 0 0), (1, vi b1), (3, vi b3), (5, vi b5), (6, vr 1 b6), (7, vi b7), (8, vi b8)] [vi b8, vr 37 b1.toNat] C f_x_Mo_makeT_221_1 rfl ?_
                      refine m_iald C e_x_Mo_makeT_223 rfl (k83) (by decide) c10.1 c10.2 (q76.2 37 b1.toNat b8.toNat) rfl ?_
                      refine m_blk 22 [(8, vi (q76.2 37 b1.toNat b8.toNat)), (10, vi 0), (9, vi q11.1), (0, vr 0 0), (1, vi b1), (3, vi b3), (5, vi b5), (6, vr 1 b6), (7, vi b7)] [] C f_x_Mo_makeT_224_2 rfl ?_
                      refine m_loc [(0, vr 0 0), (1, vi b1), (3, vi b3), (5, vi b5), (6, vr 1 b6), (7, vi b7), (8, vi (q76.2 37 b1.toNat b8.toNat))] ⟨rfl, rfl, rfl, rfl, rfl, rfl, rfl, trivial⟩ ?_
                      exact ih (mu (mu (mu q76.2 0 0 33 b7) 0 0 35 (max (q76.2 0 0 35) (q76.2 1 b6 2))) 0 0 34 1) b1 b3 b5 b6 b7 (q76.2 37 b1.toNat b8.toNat) (h_b6) h
                  · have h := ifn c71 h
                    refine m_blk 153 [(10, vi 0), (9, vi q11.1), (0, vr 0 0), (1, vi b1), (3, vi b3), (5, vi b5), (6, vr 1 b6), (7, vi b7), (8, vi b8)] [vr 1 b6] C f_x_Mo_makeT_151_1 rfl ?_
                    exact m_aret9 C Rm E e_x_Mo_makeT_153 (finR9 h) (h_b6)
                · have h := ifp c63 h
                  refine m_blk 121 [(9, vi q11.1), (0, vr 0 0), (1, vi b1), (3, vi b3), (5, vi b5), (6, vr 1 b6), (7, vi b7), (8, vi b8)] [vi 1] C f_x_Mo_makeT_116_2 rfl ?_
                  refine m_blk 125 [(10, vi 1), (9, vi q11.1), (0, vr 0 0), (1, vi b1), (3, vi b3), (5, vi b5), (6, vr 1 b6), (7, vi b7), (8, vi b8)] [vi 1] C f_x_Mo_makeT_121_2 rfl ?_
                  refine m_if_ne (tgt := 144) C e_x_Mo_makeT_125 (by decide) (by decide) (fun c84 => ?_) (fun c84 => (by omega : False).elim)
                  refine m_blk 145 [(10, vi 1), (9, vi q11.1), (0, vr 0 0), (1, vi b1), (3, vi b3), (5, vi b5), (6, vr 1 b6), (7, vi b7), (8, vi b8)] [vr 0 0] C f_x_Mo_makeT_144_1 rfl ?_
                  refine m_geti C e_x_Mo_makeT_145 fg_Mo_297 rfl (by decide) rfl (q60.2 0 0 34) rfl ?_
                  obtain ⟨c85, h⟩ := igd h
                  refine m_if_eq (tgt := 154) C e_x_Mo_makeT_148 (by decide) c85 (fun c86 => ?_) (fun c86 => ?_)
                  · have h := ifp c86 h
                    refine m_blk 157 [(10, vi 1), (9, vi q11.1), (0, vr 0 0), (1, vi b1), (3, vi b3), (5, vi b5), (6, vr 1 b6), (7, vi b7), (8, vi b8)] [vi (-1), vi b5] C f_x_Mo_makeT_154_2 rfl ?_
                    refine m_icmp_eq (tgt := 173) C e_x_Mo_makeT_157 (by decide) c6 (by decide) (fun c87 => (by omega : False).elim) (fun c87 => ?_)
                    refine m_blk 167 [(10, vi 1), (9, vi q11.1), (0, vr 0 0), (1, vi b1), (3, vi b3), (5, vi b5), (6, vr 1 b6), (7, vi b7), (8, vi b8)] [vi q11.1, vr 1 b6, vr 0 0, vr 1 b6] C f_x_Mo_makeT_160_4 rfl ?_
                    obtain ⟨q88, e89, h⟩ := obd h
                    refine m_callV C Rm Y [vr 1 b6, vi q11.1] [vr 1 b6] (x_Mo_forget l D B H0 ad _ b6 q11.1 (h_b6) hS _ _ e89) cl_Mo_310 rfl (by decide) rfl rfl e_x_Mo_makeT_167 rfl rfl rfl ⟨by show _ ≤ ((fr + 768) : Nat); omega, by show _ ≤ ((lo + 26240) : Nat); omega⟩ ?_
                    rintro _ _ ⟨rfl, rfl, g90⟩
                    show JM g D ad w0 q88.2 170 [(10, vi 1), (9, vi q11.1), (0, vr 0 0), (1, vi b1), (3, vi b3), (5, vi b5), (6, vr 1 b6), (7, vi b7), (8, vi b8)] [vr 1 q88.1.toNat, vr 1 b6]
                    obtain ⟨q91, e92, h⟩ := obd h
                    refine m_callV C Rm Y [vr 1 q88.1.toNat] [] (x_Odds_becomes l D B H0 ad _ b6 q88.1.toNat (h_b6) (g90) hS _ _ e92) cl_Mo_293 rfl (h_b6) rfl rfl e_x_Mo_makeT_170 rfl rfl rfl ⟨by show _ ≤ ((fr + 768) : Nat); omega, by show _ ≤ ((lo + 26240) : Nat); omega⟩ ?_
                    rintro _ _ ⟨rfl, rfl⟩
                    show JM g D ad w0 q91.2 173 [(10, vi 1), (9, vi q11.1), (0, vr 0 0), (1, vi b1), (3, vi b3), (5, vi b5), (6, vr 1 b6), (7, vi b7), (8, vi b8)] []
                    refine m_blk 176 [(10, vi 1), (9, vi q11.1), (0, vr 0 0), (1, vi b1), (3, vi b3), (5, vi b5), (6, vr 1 b6), (7, vi b7), (8, vi b8)] [vi b7, vr 0 0] C f_x_Mo_makeT_173_2 rfl ?_
                    refine m_puti C e_x_Mo_makeT_176 fp_Mo_269 rfl (by decide) rfl ?_
                    refine m_blk 181 [(10, vi 1), (9, vi q11.1), (0, vr 0 0), (1, vi b1), (3, vi b3), (5, vi b5), (6, vr 1 b6), (7, vi b7), (8, vi b8)] [vr 0 0, vr 0 0] C f_x_Mo_makeT_179_2 rfl ?_
                    refine m_geti C e_x_Mo_makeT_181 fg_Mo_314 rfl (by decide) rfl (q91.2 0 0 35) rfl ?_
                    refine m_blk 186 [(10, vi 1), (9, vi q11.1), (0, vr 0 0), (1, vi b1), (3, vi b3), (5, vi b5), (6, vr 1 b6), (7, vi b7), (8, vi b8)] [vr 1 b6, vi (q91.2 0 0 35), vr 0 0] C f_x_Mo_makeT_184_1 rfl ?_
                    refine m_getiN C e_x_Mo_makeT_186 fg_Mo_272 rfl (h_b6) rfl (q91.2 1 b6 2) rfl ?_
                    obtain ⟨c93, h⟩ := igd h
                    obtain ⟨c94, h⟩ := igd h
                    refine m_mmax C Rm cl_Mo_243 e_x_Mo_makeT_189 (by show 1 ≤ ((fr + 768) : Nat); omega) (by show 1 + 13 ≤ ((lo + 26240) : Nat); omega) c93 c94 (fun z95 hz95 => ?_)
                    obtain rfl : z95 = max (q91.2 0 0 35) (q91.2 1 b6 2) := by omega
                    refine m_puti C e_x_Mo_makeT_192 fp_Mo_314 rfl (by decide) rfl ?_
                    refine m_blk 198 [(10, vi 1), (9, vi q11.1), (0, vr 0 0), (1, vi b1), (3, vi b3), (5, vi b5), (6, vr 1 b6), (7, vi b7), (8, vi b8)] [vr 1 b6, vr 0 0] C f_x_Mo_makeT_195_2 rfl ?_
                    refine m_getiN C e_x_Mo_makeT_198 fg_Mo_272 rfl (h_b6) rfl (q91.2 1 b6 2) rfl ?_
                    refine m_blk 204 [(10, vi 1), (9, vi q11.1), (0, vr 0 0), (1, vi b1), (3, vi b3), (5, vi b5), (6, vr 1 b6), (7, vi b7), (8, vi b8)] [vi 300, vi (q91.2 1 b6 2), vr 0 0] C f_x_Mo_makeT_201_1 rfl ?_
                    refine m_icmp_le (tgt := 211) C e_x_Mo_makeT_204 (by decide) c94 (by decide) (fun c96 => ?_) (fun c96 => ?_)
                    · have h := ifp c96 h
                      refine m_blk 212 [(10, vi 1), (9, vi q11.1), (0, vr 0 0), (1, vi b1), (3, vi b3), (5, vi b5), (6, vr 1 b6), (7, vi b7), (8, vi b8)] [vi 0, vr 0 0] C f_x_Mo_makeT_211_1 rfl ?_
                      refine m_putz C e_x_Mo_makeT_212 fp_Mo_297 rfl (by decide) rfl (Or.inl rfl) ?_
                      refine m_blk 216 [(10, vi 1), (9, vi q11.1), (0, vr 0 0), (1, vi b1), (3, vi b3), (5, vi b5), (6, vr 1 b6), (7, vi b7), (8, vi b8)] [vr 0 0] C f_x_Mo_makeT_215_1 rfl ?_
                      refine m_getr C e_x_Mo_makeT_216 fg_Mo_30 rfl (by decide) rfl ?_
                      refine m_blk 220 [(10, vi 1), (9, vi q11.1), (0, vr 0 0), (1, vi b1), (3, vi b3), (5, vi b5), (6, vr 1 b6), (7, vi b7), (8, vi b8)] [vi b1, vr 17 0] C f_x_Mo_makeT_219_1 rfl ?_
                      have k97 : b1.toNat < 6 := by omega
                      refine m_aald C b1.toNat e_x_Mo_makeT_220 rfl rfl rfl (by decide) (by decide) c8.1 c8.2 (mz _ _) ?_
                      refine m_blk 223 [(10, vi 1), (9, vi q11.1), (0, vr 0 0), (1, vi b1), (3, vi b3), (5, vi b5), (6, vr 1 b6), (7, vi b7), (8, vi b8)] [vi b8, vr 37 b1.toNat] C f_x_Mo_makeT_221_1 rfl ?_
                      refine m_iald C e_x_Mo_makeT_223 rfl (k97) (by decide) c10.1 c10.2 (q91.2 37 b1.toNat b8.toNat) rfl ?_
                      refine m_blk 22 [(8, vi (q91.2 37 b1.toNat b8.toNat)), (10, vi 1), (9, vi q11.1), (0, vr 0 0), (1, vi b1), (3, vi b3), (5, vi b5), (6, vr 1 b6), (7, vi b7)] [] C f_x_Mo_makeT_224_2 rfl ?_
                      refine m_loc [(0, vr 0 0), (1, vi b1), (3, vi b3), (5, vi b5), (6, vr 1 b6), (7, vi b7), (8, vi (q91.2 37 b1.toNat b8.toNat))] ⟨rfl, rfl, rfl, rfl, rfl, rfl, rfl, trivial⟩ ?_
                      exact ih (mu (mu (mu q91.2 0 0 33 b7) 0 0 35 (max (q91.2 0 0 35) (q91.2 1 b6 2))) 0 0 34 0) b1 b3 b5 b6 b7 (q91.2 37 b1.toNat b8.toNat) (h_b6) h
                    · have h := ifn c96 h
                      refine m_blk 212 [(10, vi 1), (9, vi q11.1), (0, vr 0 0), (1, vi b1), (3, vi b3), (5, vi b5), (6, vr 1 b6), (7, vi b7), (8, vi b8)] [vi 1, vr 0 0] C f_x_Mo_makeT_207_2 rfl ?_
                      refine m_putz C e_x_Mo_makeT_212 fp_Mo_297 rfl (by decide) rfl (Or.inr rfl) ?_
                      refine m_blk 216 [(10, vi 1), (9, vi q11.1), (0, vr 0 0), (1, vi b1), (3, vi b3), (5, vi b5), (6, vr 1 b6), (7, vi b7), (8, vi b8)] [vr 0 0] C f_x_Mo_makeT_215_1 rfl ?_
                      refine m_getr C e_x_Mo_makeT_216 fg_Mo_30 rfl (by decide) rfl ?_
                      refine m_blk 220 [(10, vi 1), (9, vi q11.1), (0, vr 0 0), (1, vi b1), (3, vi b3), (5, vi b5), (6, vr 1 b6), (7, vi b7), (8, vi b8)] [vi b1, vr 17 0] C f_x_Mo_makeT_219_1 rfl ?_
                      have k98 : b1.toNat < 6 := by omega
                      refine m_aald C b1.toNat e_x_Mo_makeT_220 rfl rfl rfl (by decide) (by decide) c8.1 c8.2 (mz _ _) ?_
                      refine m_blk 223 [(10, vi 1), (9, vi q11.1), (0, vr 0 0), (1, vi b1), (3, vi b3), (5, vi b5), (6, vr 1 b6), (7, vi b7), (8, vi b8)] [vi b8, vr 37 b1.toNat] C f_x_Mo_makeT_221_1 rfl ?_
                      refine m_iald C e_x_Mo_makeT_223 rfl (k98) (by decide) c10.1 c10.2 (q91.2 37 b1.toNat b8.toNat) rfl ?_
                      refine m_blk 22 [(8, vi (q91.2 37 b1.toNat b8.toNat)), (10, vi 1), (9, vi q11.1), (0, vr 0 0), (1, vi b1), (3, vi b3), (5, vi b5), (6, vr 1 b6), (7, vi b7)] [] C f_x_Mo_makeT_224_2 rfl ?_
                      refine m_loc [(0, vr 0 0), (1, vi b1), (3, vi b3), (5, vi b5), (6, vr 1 b6), (7, vi b7), (8, vi (q91.2 37 b1.toNat b8.toNat))] ⟨rfl, rfl, rfl, rfl, rfl, rfl, rfl, trivial⟩ ?_
                      exact ih (mu (mu (mu q91.2 0 0 33 b7) 0 0 35 (max (q91.2 0 0 35) (q91.2 1 b6 2))) 0 0 34 1) b1 b3 b5 b6 b7 (q91.2 37 b1.toNat b8.toNat) (h_b6) h
                  · have h := ifn c86 h
                    refine m_blk 153 [(10, vi 1), (9, vi q11.1), (0, vr 0 0), (1, vi b1), (3, vi b3), (5, vi b5), (6, vr 1 b6), (7, vi b7), (8, vi b8)] [vr 1 b6] C f_x_Mo_makeT_151_1 rfl ?_
                    exact m_aret9 C Rm E e_x_Mo_makeT_153 (finR9 h) (h_b6)
          · have h := ifp c7 h
            refine m_blk 62 [(0, vr 0 0), (1, vi b1), (3, vi b3), (5, vi b5), (6, vr 1 b6), (7, vi b7), (8, vi b8)] [vi (-1)] C f_x_Mo_makeT_41_2 rfl ?_
            refine m_blk 67 [(9, vi (-1)), (0, vr 0 0), (1, vi b1), (3, vi b3), (5, vi b5), (6, vr 1 b6), (7, vi b7), (8, vi b8)] [vi (-1), vi b5] C f_x_Mo_makeT_62_3 rfl ?_
            refine m_icmp_eq (tgt := 120) C e_x_Mo_makeT_67 (by decide) c6 (by decide) (fun c99 => ?_) (fun c99 => (by omega : False).elim)
            refine m_blk 125 [(10, vi 0), (9, vi (-1)), (0, vr 0 0), (1, vi b1), (3, vi b3), (5, vi b5), (6, vr 1 b6), (7, vi b7), (8, vi b8)] [vi 0] C f_x_Mo_makeT_120_3 rfl ?_
            refine m_if_ne (tgt := 144) C e_x_Mo_makeT_125 (by decide) (by decide) (fun c100 => (by omega : False).elim) (fun c100 => ?_)
            refine m_blk 138 [(10, vi 0), (9, vi (-1)), (0, vr 0 0), (1, vi b1), (3, vi b3), (5, vi b5), (6, vr 1 b6), (7, vi b7), (8, vi b8)] [vi (-1), vr 1 b6, vi b8, vi b1, vr 0 0, vr 1 b6] C f_x_Mo_makeT_128_6 rfl ?_
            obtain ⟨q101, e102, h⟩ := obd h
            refine m_callV C Rm Y [vi b1, vi b8, vr 1 b6, vi (-1)] [vr 1 b6] (x_Mo_makeStep hmk l D B H0 ad _ b1 b8 b6 (-1) (h_b6) hS _ _ e102) cl_Mo_306 rfl (by decide) rfl rfl e_x_Mo_makeT_138 rfl rfl rfl ⟨by show _ ≤ ((fr + 768) : Nat); omega, by show _ ≤ ((lo + 26240) : Nat); omega⟩ ?_
            rintro _ _ ⟨rfl, rfl, g103⟩
            show JM g D ad w0 q101.2 141 [(10, vi 0), (9, vi (-1)), (0, vr 0 0), (1, vi b1), (3, vi b3), (5, vi b5), (6, vr 1 b6), (7, vi b7), (8, vi b8)] [vr 1 q101.1.toNat, vr 1 b6]
            obtain ⟨q104, e105, h⟩ := obd h
            refine m_callV C Rm Y [vr 1 q101.1.toNat] [] (x_Odds_becomes l D B H0 ad _ b6 q101.1.toNat (h_b6) (g103) hS _ _ e105) cl_Mo_293 rfl (h_b6) rfl rfl e_x_Mo_makeT_141 rfl rfl rfl ⟨by show _ ≤ ((fr + 768) : Nat); omega, by show _ ≤ ((lo + 26240) : Nat); omega⟩ ?_
            rintro _ _ ⟨rfl, rfl⟩
            show JM g D ad w0 q104.2 144 [(10, vi 0), (9, vi (-1)), (0, vr 0 0), (1, vi b1), (3, vi b3), (5, vi b5), (6, vr 1 b6), (7, vi b7), (8, vi b8)] []
            refine m_blk 145 [(10, vi 0), (9, vi (-1)), (0, vr 0 0), (1, vi b1), (3, vi b3), (5, vi b5), (6, vr 1 b6), (7, vi b7), (8, vi b8)] [vr 0 0] C f_x_Mo_makeT_144_1 rfl ?_
            refine m_geti C e_x_Mo_makeT_145 fg_Mo_297 rfl (by decide) rfl (q104.2 0 0 34) rfl ?_
            obtain ⟨c106, h⟩ := igd h
            refine m_if_eq (tgt := 154) C e_x_Mo_makeT_148 (by decide) c106 (fun c107 => ?_) (fun c107 => ?_)
            · have h := ifp c107 h
              refine m_blk 157 [(10, vi 0), (9, vi (-1)), (0, vr 0 0), (1, vi b1), (3, vi b3), (5, vi b5), (6, vr 1 b6), (7, vi b7), (8, vi b8)] [vi (-1), vi b5] C f_x_Mo_makeT_154_2 rfl ?_
              refine m_icmp_eq (tgt := 173) C e_x_Mo_makeT_157 (by decide) c6 (by decide) (fun c108 => ?_) (fun c108 => (by omega : False).elim)
              refine m_blk 176 [(10, vi 0), (9, vi (-1)), (0, vr 0 0), (1, vi b1), (3, vi b3), (5, vi b5), (6, vr 1 b6), (7, vi b7), (8, vi b8)] [vi b7, vr 0 0] C f_x_Mo_makeT_173_2 rfl ?_
              refine m_puti C e_x_Mo_makeT_176 fp_Mo_269 rfl (by decide) rfl ?_
              refine m_blk 181 [(10, vi 0), (9, vi (-1)), (0, vr 0 0), (1, vi b1), (3, vi b3), (5, vi b5), (6, vr 1 b6), (7, vi b7), (8, vi b8)] [vr 0 0, vr 0 0] C f_x_Mo_makeT_179_2 rfl ?_
              refine m_geti C e_x_Mo_makeT_181 fg_Mo_314 rfl (by decide) rfl (q104.2 0 0 35) rfl ?_
              refine m_blk 186 [(10, vi 0), (9, vi (-1)), (0, vr 0 0), (1, vi b1), (3, vi b3), (5, vi b5), (6, vr 1 b6), (7, vi b7), (8, vi b8)] [vr 1 b6, vi (q104.2 0 0 35), vr 0 0] C f_x_Mo_makeT_184_1 rfl ?_
              refine m_getiN C e_x_Mo_makeT_186 fg_Mo_272 rfl (h_b6) rfl (q104.2 1 b6 2) rfl ?_
              obtain ⟨c109, h⟩ := igd h
              obtain ⟨c110, h⟩ := igd h
              refine m_mmax C Rm cl_Mo_243 e_x_Mo_makeT_189 (by show 1 ≤ ((fr + 768) : Nat); omega) (by show 1 + 13 ≤ ((lo + 26240) : Nat); omega) c109 c110 (fun z111 hz111 => ?_)
              obtain rfl : z111 = max (q104.2 0 0 35) (q104.2 1 b6 2) := by omega
              refine m_puti C e_x_Mo_makeT_192 fp_Mo_314 rfl (by decide) rfl ?_
              refine m_blk 198 [(10, vi 0), (9, vi (-1)), (0, vr 0 0), (1, vi b1), (3, vi b3), (5, vi b5), (6, vr 1 b6), (7, vi b7), (8, vi b8)] [vr 1 b6, vr 0 0] C f_x_Mo_makeT_195_2 rfl ?_
              refine m_getiN C e_x_Mo_makeT_198 fg_Mo_272 rfl (h_b6) rfl (q104.2 1 b6 2) rfl ?_
              refine m_blk 204 [(10, vi 0), (9, vi (-1)), (0, vr 0 0), (1, vi b1), (3, vi b3), (5, vi b5), (6, vr 1 b6), (7, vi b7), (8, vi b8)] [vi 300, vi (q104.2 1 b6 2), vr 0 0] C f_x_Mo_makeT_201_1 rfl ?_
              refine m_icmp_le (tgt := 211) C e_x_Mo_makeT_204 (by decide) c110 (by decide) (fun c112 => ?_) (fun c112 => ?_)
              · have h := ifp c112 h
                refine m_blk 212 [(10, vi 0), (9, vi (-1)), (0, vr 0 0), (1, vi b1), (3, vi b3), (5, vi b5), (6, vr 1 b6), (7, vi b7), (8, vi b8)] [vi 0, vr 0 0] C f_x_Mo_makeT_211_1 rfl ?_
                refine m_putz C e_x_Mo_makeT_212 fp_Mo_297 rfl (by decide) rfl (Or.inl rfl) ?_
                refine m_blk 216 [(10, vi 0), (9, vi (-1)), (0, vr 0 0), (1, vi b1), (3, vi b3), (5, vi b5), (6, vr 1 b6), (7, vi b7), (8, vi b8)] [vr 0 0] C f_x_Mo_makeT_215_1 rfl ?_
                refine m_getr C e_x_Mo_makeT_216 fg_Mo_30 rfl (by decide) rfl ?_
                refine m_blk 220 [(10, vi 0), (9, vi (-1)), (0, vr 0 0), (1, vi b1), (3, vi b3), (5, vi b5), (6, vr 1 b6), (7, vi b7), (8, vi b8)] [vi b1, vr 17 0] C f_x_Mo_makeT_219_1 rfl ?_
                obtain ⟨c113, h⟩ := igd h
                have k114 : b1.toNat < 6 := by omega
                refine m_aald C b1.toNat e_x_Mo_makeT_220 rfl rfl rfl (by decide) (by decide) c113.1 c113.2 (mz _ _) ?_
                refine m_blk 223 [(10, vi 0), (9, vi (-1)), (0, vr 0 0), (1, vi b1), (3, vi b3), (5, vi b5), (6, vr 1 b6), (7, vi b7), (8, vi b8)] [vi b8, vr 37 b1.toNat] C f_x_Mo_makeT_221_1 rfl ?_
                obtain ⟨c115, h⟩ := igd h
                refine m_iald C e_x_Mo_makeT_223 rfl (k114) (by decide) c115.1 c115.2 (q104.2 37 b1.toNat b8.toNat) rfl ?_
                refine m_blk 22 [(8, vi (q104.2 37 b1.toNat b8.toNat)), (10, vi 0), (9, vi (-1)), (0, vr 0 0), (1, vi b1), (3, vi b3), (5, vi b5), (6, vr 1 b6), (7, vi b7)] [] C f_x_Mo_makeT_224_2 rfl ?_
                refine m_loc [(0, vr 0 0), (1, vi b1), (3, vi b3), (5, vi b5), (6, vr 1 b6), (7, vi b7), (8, vi (q104.2 37 b1.toNat b8.toNat))] ⟨rfl, rfl, rfl, rfl, rfl, rfl, rfl, trivial⟩ ?_
                exact ih (mu (mu (mu q104.2 0 0 33 b7) 0 0 35 (max (q104.2 0 0 35) (q104.2 1 b6 2))) 0 0 34 0) b1 b3 b5 b6 b7 (q104.2 37 b1.toNat b8.toNat) (h_b6) h
              · have h := ifn c112 h
                refine m_blk 212 [(10, vi 0), (9, vi (-1)), (0, vr 0 0), (1, vi b1), (3, vi b3), (5, vi b5), (6, vr 1 b6), (7, vi b7), (8, vi b8)] [vi 1, vr 0 0] C f_x_Mo_makeT_207_2 rfl ?_
                refine m_putz C e_x_Mo_makeT_212 fp_Mo_297 rfl (by decide) rfl (Or.inr rfl) ?_
                refine m_blk 216 [(10, vi 0), (9, vi (-1)), (0, vr 0 0), (1, vi b1), (3, vi b3), (5, vi b5), (6, vr 1 b6), (7, vi b7), (8, vi b8)] [vr 0 0] C f_x_Mo_makeT_215_1 rfl ?_
                refine m_getr C e_x_Mo_makeT_216 fg_Mo_30 rfl (by decide) rfl ?_
                refine m_blk 220 [(10, vi 0), (9, vi (-1)), (0, vr 0 0), (1, vi b1), (3, vi b3), (5, vi b5), (6, vr 1 b6), (7, vi b7), (8, vi b8)] [vi b1, vr 17 0] C f_x_Mo_makeT_219_1 rfl ?_
                obtain ⟨c116, h⟩ := igd h
                have k117 : b1.toNat < 6 := by omega
                refine m_aald C b1.toNat e_x_Mo_makeT_220 rfl rfl rfl (by decide) (by decide) c116.1 c116.2 (mz _ _) ?_
                refine m_blk 223 [(10, vi 0), (9, vi (-1)), (0, vr 0 0), (1, vi b1), (3, vi b3), (5, vi b5), (6, vr 1 b6), (7, vi b7), (8, vi b8)] [vi b8, vr 37 b1.toNat] C f_x_Mo_makeT_221_1 rfl ?_
                obtain ⟨c118, h⟩ := igd h
                refine m_iald C e_x_Mo_makeT_223 rfl (k117) (by decide) c118.1 c118.2 (q104.2 37 b1.toNat b8.toNat) rfl ?_
                refine m_blk 22 [(8, vi (q104.2 37 b1.toNat b8.toNat)), (10, vi 0), (9, vi (-1)), (0, vr 0 0), (1, vi b1), (3, vi b3), (5, vi b5), (6, vr 1 b6), (7, vi b7)] [] C f_x_Mo_makeT_224_2 rfl ?_
                refine m_loc [(0, vr 0 0), (1, vi b1), (3, vi b3), (5, vi b5), (6, vr 1 b6), (7, vi b7), (8, vi (q104.2 37 b1.toNat b8.toNat))] ⟨rfl, rfl, rfl, rfl, rfl, rfl, rfl, trivial⟩ ?_
                exact ih (mu (mu (mu q104.2 0 0 33 b7) 0 0 35 (max (q104.2 0 0 35) (q104.2 1 b6 2))) 0 0 34 1) b1 b3 b5 b6 b7 (q104.2 37 b1.toNat b8.toNat) (h_b6) h
            · have h := ifn c107 h
              refine m_blk 153 [(10, vi 0), (9, vi (-1)), (0, vr 0 0), (1, vi b1), (3, vi b3), (5, vi b5), (6, vr 1 b6), (7, vi b7), (8, vi b8)] [vr 1 b6] C f_x_Mo_makeT_151_1 rfl ?_
              exact m_aret9 C Rm E e_x_Mo_makeT_153 (finR9 h) (h_b6)
  show JM g D ad w0 A 0 [(0, vr 0 0), (1, vi a0), (2, vi a1), (3, vi a2), (4, vr 1 a3), (5, vi a4)] []
  unfold f_Mo_makeT at h
  refine m_blk 1 [(0, vr 0 0), (1, vi a0), (2, vi a1), (3, vi a2), (4, vr 1 a3), (5, vi a4)] [vr 0 0] C f_x_Mo_makeT_0_1 rfl ?_
  obtain ⟨q119, e120, h⟩ := obd h
  refine m_callV C Rm Y [] [] (x_Mo_takenO l D B H0 ad _  hS _ _ e120) cl_Mo_275 rfl (by decide) rfl rfl e_x_Mo_makeT_1 rfl rfl rfl ⟨by show _ ≤ ((fr + 768) : Nat); omega, by show _ ≤ ((lo + 26240) : Nat); omega⟩ ?_
  rintro _ _ ⟨rfl, rfl, g121⟩
  show JM g D ad w0 q119.2 4 [(0, vr 0 0), (1, vi a0), (2, vi a1), (3, vi a2), (4, vr 1 a3), (5, vi a4)] [vr 1 q119.1.toNat]
  refine m_blk 10 [(6, vr 1 q119.1.toNat), (0, vr 0 0), (1, vi a0), (2, vi a1), (3, vi a2), (4, vr 1 a3), (5, vi a4)] [vr 1 a3, vr 1 q119.1.toNat] C f_x_Mo_makeT_4_3 rfl ?_
  obtain ⟨q122, e123, h⟩ := obd h
  refine m_callV C Rm Y [vr 1 a3] [] (x_Odds_becomes l D B H0 ad _ q119.1.toNat a3 (g121) (h_a3) hS _ _ e123) cl_Mo_293 rfl (g121) rfl rfl e_x_Mo_makeT_10 rfl rfl rfl ⟨by show _ ≤ ((fr + 768) : Nat); omega, by show _ ≤ ((lo + 26240) : Nat); omega⟩ ?_
  rintro _ _ ⟨rfl, rfl⟩
  show JM g D ad w0 q122.2 13 [(6, vr 1 q119.1.toNat), (0, vr 0 0), (1, vi a0), (2, vi a1), (3, vi a2), (4, vr 1 a3), (5, vi a4)] []
  refine m_blk 14 [(6, vr 1 q119.1.toNat), (0, vr 0 0), (1, vi a0), (2, vi a1), (3, vi a2), (4, vr 1 a3), (5, vi a4)] [vr 0 0] C f_x_Mo_makeT_13_1 rfl ?_
  refine m_geti C e_x_Mo_makeT_14 fg_Mo_269 rfl (by decide) rfl (q122.2 0 0 33) rfl ?_
  refine m_blk 22 [(8, vi a1), (7, vi (q122.2 0 0 33)), (6, vr 1 q119.1.toNat), (0, vr 0 0), (1, vi a0), (2, vi a1), (3, vi a2), (4, vr 1 a3), (5, vi a4)] [] C f_x_Mo_makeT_17_3 rfl ?_
  refine m_loc [(0, vr 0 0), (1, vi a0), (3, vi a2), (5, vi a4), (6, vr 1 q119.1.toNat), (7, vi (q122.2 0 0 33)), (8, vi a1)] ⟨rfl, rfl, rfl, rfl, rfl, rfl, rfl, trivial⟩ ?_
  exact hd_22 _ q122.2 a0 a2 a4 q119.1.toNat (q122.2 0 0 33) a1 (g121) h

def f_Mo_makeN : Nat → mA → Int → Int → Int → Nat → Int → Option (Int × mA)
  | 0, _, _, _, _, _, _ => none
  | n + 1, A, a0, a1, a2, a3, a4 => f_Mo_makeT (f_Mo_makeN n) A a0 a1 a2 a3 a4
theorem x_Mo_makeN : ∀ n : Nat, ∀ (l : Launch) (D : va_G) (B : Nat) (H0 : Heap) (ad : mAd) (A : mA) (a0 : Int) (a1 : Int) (a2 : Int) (a3 : Nat) (a4 : Int) (h_a3 : a3 < 200) (hS : mStr D ad) (r9 : Int) (A9 : mA), f_Mo_makeN n A a0 a1 a2 a3 a4 = some (r9, A9) → mMet l D B H0 ad y_Mo_make b_Mo_make 11 (some (.object "ChanceStepsModel$Odds")) (8 * n + 760) (240 * n + 26000) [vr 0 0, vi a0, vi a1, vi a2, vr 1 a3, vi a4] A (fun v A' => v = some (vr 1 r9.toNat) ∧ A' = A9 ∧ r9.toNat < 200) := by
  intro n
  induction n with
  | zero => intro l D B H0 ad A a0 a1 a2 a3 a4 h_a3 hS r9 A9 h; cases h
  | succ n ih =>
    intro l D B H0 ad A a0 a1 a2 a3 a4 h_a3 hS r9 A9 h
    have k := x_Mo_makeT ih l D B H0 ad A a0 a1 a2 a3 a4 h_a3 hS r9 A9 h
    have e1 : 8 * (n + 1) + 760 = 8 * n + 768 := by omega
    have e2 : 240 * (n + 1) + 26000 = 240 * n + 26240 := by omega
    rw [e1, e2]
    exact k
def f_Mo_oddsBeside (A : mA) (a0 : Int) (a1 : Int) : Option (Int × mA) := (Option.bind (f_Mo_takenO (mu (mu A 0 0 34 0) 0 0 35 1) ) (fun q1 => (Option.bind (f_Mo_startState q1.2 ) (fun q4 => (Option.bind (f_Odds_come q4.2 q1.1.toNat q4.1 1125899906842624) (fun q6 => (if g32 a1 then (if a1 = (-1) then (if (0 ≤ a0 ∧ a0 < ((6 : Nat) : Int)) then (Option.bind (f_Mo_makeN 40 q6.2 a0 0 (q6.2 5 0 a0.toNat) q1.1.toNat a1) (fun q11 => (some (((q11.1.toNat : Nat) : Int), q11.2)))) else none) else (if (0 ≤ a0 ∧ a0 < ((6 : Nat) : Int)) then (Option.bind (f_Mo_neededFromN 18 q6.2 a0 0 (q6.2 5 0 a0.toNat) a1) (fun q15 => (Option.bind (f_Mo_forget q15.2 q1.1.toNat q15.1) (fun q17 => (Option.bind (f_Mo_makeN 40 q17.2 a0 0 (q17.2 5 0 a0.toNat) q17.1.toNat a1) (fun q20 => (some (((q20.1.toNat : Nat) : Int), q20.2)))))))) else none)) else none)))))))
theorem f_x_Mo_oddsBeside_0_2 : mblkB b_Mo_oddsBeside [(0, .aload_n 0, vi 0), (1, .iconst 0, vi 0)] = true := by decide +kernel
theorem e_x_Mo_oddsBeside_2 : decode b_Mo_oddsBeside 2 = .ok (.putfield 297, 3) := by decide +kernel
theorem f_x_Mo_oddsBeside_5_2 : mblkB b_Mo_oddsBeside [(5, .aload_n 0, vi 0), (6, .iconst 1, vi 1)] = true := by decide +kernel
theorem e_x_Mo_oddsBeside_7 : decode b_Mo_oddsBeside 7 = .ok (.putfield 314, 3) := by decide +kernel
theorem f_x_Mo_oddsBeside_10_1 : mblkB b_Mo_oddsBeside [(10, .aload_n 0, vi 0)] = true := by decide +kernel
theorem e_x_Mo_oddsBeside_11 : decode b_Mo_oddsBeside 11 = .ok (.invokevirtual 275, 3) := by decide +kernel
theorem f_x_Mo_oddsBeside_14_3 : mblkB b_Mo_oddsBeside [(14, .astore_n 3, vi 0), (15, .aload_n 3, vi 0), (16, .aload_n 0, vi 0)] = true := by decide +kernel
theorem e_x_Mo_oddsBeside_17 : decode b_Mo_oddsBeside 17 = .ok (.invokevirtual 358, 3) := by decide +kernel
theorem e_x_Mo_oddsBeside_20 : decode b_Mo_oddsBeside 20 = .ok (.ldc2_w 340, 3) := by decide +kernel
theorem e_x_Mo_oddsBeside_23 : decode b_Mo_oddsBeside 23 = .ok (.invokevirtual 289, 3) := by decide +kernel
theorem f_x_Mo_oddsBeside_26_2 : mblkB b_Mo_oddsBeside [(26, .iload_n 2, vi 0), (27, .iconst (-1), vi (-1))] = true := by decide +kernel
theorem e_x_Mo_oddsBeside_28 : decode b_Mo_oddsBeside 28 = .ok (.if_icmp .eq 22, 3) := by decide +kernel
theorem f_x_Mo_oddsBeside_50_4 : mblkB b_Mo_oddsBeside [(50, .aload_n 0, vi 0), (51, .iload_n 1, vi 0), (52, .iconst 0, vi 0), (53, .aload_n 0, vi 0)] = true := by decide +kernel
theorem e_x_Mo_oddsBeside_54 : decode b_Mo_oddsBeside 54 = .ok (.getfield 9, 3) := by decide +kernel
theorem f_x_Mo_oddsBeside_57_1 : mblkB b_Mo_oddsBeside [(57, .iload_n 1, vi 0)] = true := by decide +kernel
theorem e_x_Mo_oddsBeside_58 : decode b_Mo_oddsBeside 58 = .ok (.iaload, 1) := by decide +kernel
theorem f_x_Mo_oddsBeside_59_2 : mblkB b_Mo_oddsBeside [(59, .aload_n 3, vi 0), (60, .iload_n 2, vi 0)] = true := by decide +kernel
theorem e_x_Mo_oddsBeside_61 : decode b_Mo_oddsBeside 61 = .ok (.invokevirtual 336, 3) := by decide +kernel
theorem e_x_Mo_oddsBeside_64 : decode b_Mo_oddsBeside 64 = .ok (.areturn, 1) := by decide +kernel
theorem f_x_Mo_oddsBeside_31_6 : mblkB b_Mo_oddsBeside [(31, .aload_n 0, vi 0), (32, .aload_n 3, vi 0), (33, .aload_n 0, vi 0), (34, .iload_n 1, vi 0), (35, .iconst 0, vi 0), (36, .aload_n 0, vi 0)] = true := by decide +kernel
theorem e_x_Mo_oddsBeside_37 : decode b_Mo_oddsBeside 37 = .ok (.getfield 9, 3) := by decide +kernel
theorem f_x_Mo_oddsBeside_40_1 : mblkB b_Mo_oddsBeside [(40, .iload_n 1, vi 0)] = true := by decide +kernel
theorem e_x_Mo_oddsBeside_41 : decode b_Mo_oddsBeside 41 = .ok (.iaload, 1) := by decide +kernel
theorem f_x_Mo_oddsBeside_42_1 : mblkB b_Mo_oddsBeside [(42, .iload_n 2, vi 0)] = true := by decide +kernel
theorem e_x_Mo_oddsBeside_43 : decode b_Mo_oddsBeside 43 = .ok (.invokevirtual 300, 3) := by decide +kernel
theorem e_x_Mo_oddsBeside_46 : decode b_Mo_oddsBeside 46 = .ok (.invokevirtual 310, 3) := by decide +kernel
theorem f_x_Mo_oddsBeside_49_5 : mblkB b_Mo_oddsBeside [(49, .astore_n 3, vi 0), (50, .aload_n 0, vi 0), (51, .iload_n 1, vi 0), (52, .iconst 0, vi 0), (53, .aload_n 0, vi 0)] = true := by decide +kernel
set_option maxHeartbeats 4000000 in
set_option maxRecDepth 20000 in
theorem x_Mo_oddsBeside  : ∀ (l : Launch) (D : va_G) (B : Nat) (H0 : Heap) (ad : mAd) (A : mA) (a0 : Int) (a1 : Int) (hS : mStr D ad) (r9 : Int) (A9 : mA), f_Mo_oddsBeside  A a0 a1 = some (r9, A9) → mMet l D B H0 ad y_Mo_oddsBeside b_Mo_oddsBeside 4 (some (.object "ChanceStepsModel$Odds")) 1081 35630 [vr 0 0, vi a0, vi a1] A (fun v A' => v = some (vr 1 r9.toNat) ∧ A' = A9 ∧ r9.toNat < 200) := by
  intro l D B H0 ad A a0 a1  hS r9 A9 h
  refine m_met (by decide) rfl (fun g w0 C Rm Y E => ?_)
  show JM g D ad w0 A 0 [(0, vr 0 0), (1, vi a0), (2, vi a1)] []
  unfold f_Mo_oddsBeside at h
  refine m_blk 2 [(0, vr 0 0), (1, vi a0), (2, vi a1)] [vi 0, vr 0 0] C f_x_Mo_oddsBeside_0_2 rfl ?_
  refine m_putz C e_x_Mo_oddsBeside_2 fp_Mo_297 rfl (by decide) rfl (Or.inl rfl) ?_
  refine m_blk 7 [(0, vr 0 0), (1, vi a0), (2, vi a1)] [vi 1, vr 0 0] C f_x_Mo_oddsBeside_5_2 rfl ?_
  refine m_puti C e_x_Mo_oddsBeside_7 fp_Mo_314 rfl (by decide) rfl ?_
  refine m_blk 11 [(0, vr 0 0), (1, vi a0), (2, vi a1)] [vr 0 0] C f_x_Mo_oddsBeside_10_1 rfl ?_
  obtain ⟨q1, e2, h⟩ := obd h
  refine m_callV C Rm Y [] [] (x_Mo_takenO l D B H0 ad _  hS _ _ e2) cl_Mo_275 rfl (by decide) rfl rfl e_x_Mo_oddsBeside_11 rfl rfl rfl ⟨by decide, by decide⟩ ?_
  rintro _ _ ⟨rfl, rfl, g3⟩
  show JM g D ad w0 q1.2 14 [(0, vr 0 0), (1, vi a0), (2, vi a1)] [vr 1 q1.1.toNat]
  refine m_blk 17 [(3, vr 1 q1.1.toNat), (0, vr 0 0), (1, vi a0), (2, vi a1)] [vr 0 0, vr 1 q1.1.toNat] C f_x_Mo_oddsBeside_14_3 rfl ?_
  obtain ⟨q4, e5, h⟩ := obd h
  refine m_callV C Rm Y [] [vr 1 q1.1.toNat] (x_Mo_startState l D B H0 ad _  hS _ _ e5) cl_Mo_358 rfl (by decide) rfl rfl e_x_Mo_oddsBeside_17 rfl rfl rfl ⟨by decide, by decide⟩ ?_
  rintro _ _ ⟨rfl, rfl⟩
  show JM g D ad w0 q4.2 20 [(3, vr 1 q1.1.toNat), (0, vr 0 0), (1, vi a0), (2, vi a1)] [vi q4.1, vr 1 q1.1.toNat]
  refine m_ldc2 C 1125899906842624 e_x_Mo_oddsBeside_20 ld_Mo_340 (by decide) ?_
  obtain ⟨q6, e7, h⟩ := obd h
  refine m_callV C Rm Y [vi q4.1, vl 1125899906842624] [] (x_Odds_come l D B H0 ad _ q1.1.toNat q4.1 1125899906842624 (g3) hS _ _ e7) cl_Mo_289 rfl (g3) rfl rfl e_x_Mo_oddsBeside_23 rfl rfl rfl ⟨by decide, by decide⟩ ?_
  rintro _ _ ⟨rfl, rfl⟩
  show JM g D ad w0 q6.2 26 [(3, vr 1 q1.1.toNat), (0, vr 0 0), (1, vi a0), (2, vi a1)] []
  refine m_blk 28 [(3, vr 1 q1.1.toNat), (0, vr 0 0), (1, vi a0), (2, vi a1)] [vi (-1), vi a1] C f_x_Mo_oddsBeside_26_2 rfl ?_
  obtain ⟨c8, h⟩ := igd h
  refine m_icmp_eq (tgt := 50) C e_x_Mo_oddsBeside_28 (by decide) c8 (by decide) (fun c9 => ?_) (fun c9 => ?_)
  · have h := ifp c9 h
    refine m_blk 54 [(3, vr 1 q1.1.toNat), (0, vr 0 0), (1, vi a0), (2, vi a1)] [vr 0 0, vi 0, vi a0, vr 0 0] C f_x_Mo_oddsBeside_50_4 rfl ?_
    refine m_getr C e_x_Mo_oddsBeside_54 fg_Mo_9 rfl (by decide) rfl ?_
    refine m_blk 58 [(3, vr 1 q1.1.toNat), (0, vr 0 0), (1, vi a0), (2, vi a1)] [vi a0, vr 5 0, vi 0, vi a0, vr 0 0] C f_x_Mo_oddsBeside_57_1 rfl ?_
    obtain ⟨c10, h⟩ := igd h
    refine m_iald C e_x_Mo_oddsBeside_58 rfl (by decide) (by decide) c10.1 c10.2 (q6.2 5 0 a0.toNat) rfl ?_
    refine m_blk 61 [(3, vr 1 q1.1.toNat), (0, vr 0 0), (1, vi a0), (2, vi a1)] [vi a1, vr 1 q1.1.toNat, vi (q6.2 5 0 a0.toNat), vi 0, vi a0, vr 0 0] C f_x_Mo_oddsBeside_59_2 rfl ?_
    obtain ⟨q11, e12, h⟩ := obd h
    refine m_callV C Rm Y [vi a0, vi 0, vi (q6.2 5 0 a0.toNat), vr 1 q1.1.toNat, vi a1] [] (x_Mo_makeN 40 l D B H0 ad _ a0 0 (q6.2 5 0 a0.toNat) q1.1.toNat a1 (g3) hS _ _ e12) cl_Mo_336 rfl (by decide) rfl rfl e_x_Mo_oddsBeside_61 rfl rfl rfl ⟨by decide, by decide⟩ ?_
    rintro _ _ ⟨rfl, rfl, g13⟩
    show JM g D ad w0 q11.2 64 [(3, vr 1 q1.1.toNat), (0, vr 0 0), (1, vi a0), (2, vi a1)] [vr 1 q11.1.toNat]
    exact m_aret9 C Rm E e_x_Mo_oddsBeside_64 (finR9 h) (g13)
  · have h := ifn c9 h
    refine m_blk 37 [(3, vr 1 q1.1.toNat), (0, vr 0 0), (1, vi a0), (2, vi a1)] [vr 0 0, vi 0, vi a0, vr 0 0, vr 1 q1.1.toNat, vr 0 0] C f_x_Mo_oddsBeside_31_6 rfl ?_
    refine m_getr C e_x_Mo_oddsBeside_37 fg_Mo_9 rfl (by decide) rfl ?_
    refine m_blk 41 [(3, vr 1 q1.1.toNat), (0, vr 0 0), (1, vi a0), (2, vi a1)] [vi a0, vr 5 0, vi 0, vi a0, vr 0 0, vr 1 q1.1.toNat, vr 0 0] C f_x_Mo_oddsBeside_40_1 rfl ?_
    obtain ⟨c14, h⟩ := igd h
    refine m_iald C e_x_Mo_oddsBeside_41 rfl (by decide) (by decide) c14.1 c14.2 (q6.2 5 0 a0.toNat) rfl ?_
    refine m_blk 43 [(3, vr 1 q1.1.toNat), (0, vr 0 0), (1, vi a0), (2, vi a1)] [vi a1, vi (q6.2 5 0 a0.toNat), vi 0, vi a0, vr 0 0, vr 1 q1.1.toNat, vr 0 0] C f_x_Mo_oddsBeside_42_1 rfl ?_
    obtain ⟨q15, e16, h⟩ := obd h
    refine m_callV C Rm Y [vi a0, vi 0, vi (q6.2 5 0 a0.toNat), vi a1] [vr 1 q1.1.toNat, vr 0 0] (x_Mo_neededFromN 18 l D B H0 ad _ a0 0 (q6.2 5 0 a0.toNat) a1 hS _ _ e16) cl_Mo_300 rfl (by decide) rfl rfl e_x_Mo_oddsBeside_43 rfl rfl rfl ⟨by decide, by decide⟩ ?_
    rintro _ _ ⟨rfl, rfl⟩
    show JM g D ad w0 q15.2 46 [(3, vr 1 q1.1.toNat), (0, vr 0 0), (1, vi a0), (2, vi a1)] [vi q15.1, vr 1 q1.1.toNat, vr 0 0]
    obtain ⟨q17, e18, h⟩ := obd h
    refine m_callV C Rm Y [vr 1 q1.1.toNat, vi q15.1] [] (x_Mo_forget l D B H0 ad _ q1.1.toNat q15.1 (g3) hS _ _ e18) cl_Mo_310 rfl (by decide) rfl rfl e_x_Mo_oddsBeside_46 rfl rfl rfl ⟨by decide, by decide⟩ ?_
    rintro _ _ ⟨rfl, rfl, g19⟩
    show JM g D ad w0 q17.2 49 [(3, vr 1 q1.1.toNat), (0, vr 0 0), (1, vi a0), (2, vi a1)] [vr 1 q17.1.toNat]
    refine m_blk 54 [(3, vr 1 q17.1.toNat), (0, vr 0 0), (1, vi a0), (2, vi a1)] [vr 0 0, vi 0, vi a0, vr 0 0] C f_x_Mo_oddsBeside_49_5 rfl ?_
    refine m_getr C e_x_Mo_oddsBeside_54 fg_Mo_9 rfl (by decide) rfl ?_
    refine m_blk 58 [(3, vr 1 q17.1.toNat), (0, vr 0 0), (1, vi a0), (2, vi a1)] [vi a0, vr 5 0, vi 0, vi a0, vr 0 0] C f_x_Mo_oddsBeside_57_1 rfl ?_
    refine m_iald C e_x_Mo_oddsBeside_58 rfl (by decide) (by decide) c14.1 c14.2 (q17.2 5 0 a0.toNat) rfl ?_
    refine m_blk 61 [(3, vr 1 q17.1.toNat), (0, vr 0 0), (1, vi a0), (2, vi a1)] [vi a1, vr 1 q17.1.toNat, vi (q17.2 5 0 a0.toNat), vi 0, vi a0, vr 0 0] C f_x_Mo_oddsBeside_59_2 rfl ?_
    obtain ⟨q20, e21, h⟩ := obd h
    refine m_callV C Rm Y [vi a0, vi 0, vi (q17.2 5 0 a0.toNat), vr 1 q17.1.toNat, vi a1] [] (x_Mo_makeN 40 l D B H0 ad _ a0 0 (q17.2 5 0 a0.toNat) q17.1.toNat a1 (g19) hS _ _ e21) cl_Mo_336 rfl (by decide) rfl rfl e_x_Mo_oddsBeside_61 rfl rfl rfl ⟨by decide, by decide⟩ ?_
    rintro _ _ ⟨rfl, rfl, g22⟩
    show JM g D ad w0 q20.2 64 [(3, vr 1 q17.1.toNat), (0, vr 0 0), (1, vi a0), (2, vi a1)] [vr 1 q20.1.toNat]
    exact m_aret9 C Rm E e_x_Mo_oddsBeside_64 (finR9 h) (g22)

def f_Mo_oddsO (A : mA) (a0 : Int) (a1 : Int) : Option (Int × mA) := (Option.bind (f_Mo_oddsBeside (mu A 0 0 33 0) a0 a1) (fun q1 => (some (((q1.1.toNat : Nat) : Int), q1.2))))
theorem f_x_Mo_oddsO_0_2 : mblkB b_Mo_odds_0 [(0, .aload_n 0, vi 0), (1, .iconst 0, vi 0)] = true := by decide +kernel
theorem e_x_Mo_oddsO_2 : decode b_Mo_odds_0 2 = .ok (.putfield 269, 3) := by decide +kernel
theorem f_x_Mo_oddsO_5_3 : mblkB b_Mo_odds_0 [(5, .aload_n 0, vi 0), (6, .iload_n 1, vi 0), (7, .iload_n 2, vi 0)] = true := by decide +kernel
theorem e_x_Mo_oddsO_8 : decode b_Mo_odds_0 8 = .ok (.invokevirtual 354, 3) := by decide +kernel
theorem e_x_Mo_oddsO_11 : decode b_Mo_odds_0 11 = .ok (.areturn, 1) := by decide +kernel
set_option maxHeartbeats 4000000 in
set_option maxRecDepth 20000 in
theorem x_Mo_oddsO  : ∀ (l : Launch) (D : va_G) (B : Nat) (H0 : Heap) (ad : mAd) (A : mA) (a0 : Int) (a1 : Int) (hS : mStr D ad) (r9 : Int) (A9 : mA), f_Mo_oddsO  A a0 a1 = some (r9, A9) → mMet l D B H0 ad y_Mo_odds_0 b_Mo_odds_0 3 (some (.object "ChanceStepsModel$Odds")) 1082 35653 [vr 0 0, vi a0, vi a1] A (fun v A' => v = some (vr 1 r9.toNat) ∧ A' = A9 ∧ r9.toNat < 200) := by
  intro l D B H0 ad A a0 a1  hS r9 A9 h
  refine m_met (by decide) rfl (fun g w0 C Rm Y E => ?_)
  show JM g D ad w0 A 0 [(0, vr 0 0), (1, vi a0), (2, vi a1)] []
  unfold f_Mo_oddsO at h
  refine m_blk 2 [(0, vr 0 0), (1, vi a0), (2, vi a1)] [vi 0, vr 0 0] C f_x_Mo_oddsO_0_2 rfl ?_
  refine m_puti C e_x_Mo_oddsO_2 fp_Mo_269 rfl (by decide) rfl ?_
  refine m_blk 8 [(0, vr 0 0), (1, vi a0), (2, vi a1)] [vi a1, vi a0, vr 0 0] C f_x_Mo_oddsO_5_3 rfl ?_
  obtain ⟨q1, e2, h⟩ := obd h
  refine m_callV C Rm Y [vi a0, vi a1] [] (x_Mo_oddsBeside l D B H0 ad _ a0 a1 hS _ _ e2) cl_Mo_354 rfl (by decide) rfl rfl e_x_Mo_oddsO_8 rfl rfl rfl ⟨by decide, by decide⟩ ?_
  rintro _ _ ⟨rfl, rfl, g3⟩
  show JM g D ad w0 q1.2 11 [(0, vr 0 0), (1, vi a0), (2, vi a1)] [vr 1 q1.1.toNat]
  exact m_aret9 C Rm E e_x_Mo_oddsO_11 (finR9 h) (g3)

