/-! the reference: formulas' worths exactly (own work, by program) -/
def nrm (z : Int) : Int := (Int32.ofInt z).toInt
theorem m_nrm2 {g : jG} {D : va_G} {ad : mAd} {w0 : jW} {A : mA} {pc : Nat} {L : List (Nat × mV)} {st : List mV} {z : Int} (kk : ∀ z' : Int, (-2147483648 ≤ z' ∧ z' ≤ 2147483647) → z' = nrm z → JM g D ad w0 A pc L (vi z' :: st)) : JM g D ad w0 A pc L (vi z :: st) := fun w hw hr => by
  have k := kk (nrm z) ⟨jlo _, by have := jhi (Int32.ofInt z); unfold nrm; omega⟩ rfl w hw hr
  have e : mc ad (vi (nrm z)) = mc ad (vi z) := congrArg Value.int (Int32.ofInt_toInt _)
  rw [mSt, List.map_cons, e] at k
  exact k
/-- what node e of row P comes to, at a state -/
def wv (A : mA) (P : Nat) (s : Int) : Nat → Nat → Int
  | 0, _ => 0
  | n + 1, e =>
    if A 43 P e = 0 then A 44 P e
    else if A 43 P e = 1 then dg s (A 44 P e)
    else if A 43 P e = 2 then nrm (-(wv A P s n (A 45 P e).toNat))
    else if A 43 P e = 43 then nrm (wv A P s n (A 45 P e).toNat + wv A P s n (A 46 P e).toNat)
    else if A 43 P e = 45 then nrm (wv A P s n (A 45 P e).toNat - wv A P s n (A 46 P e).toNat)
    else if A 43 P e = 42 then nrm (wv A P s n (A 45 P e).toNat * wv A P s n (A 46 P e).toNat)
    else if A 43 P e = 37 then (if wv A P s n (A 46 P e).toNat = 0 then 0 else nrm (Int.tmod (wv A P s n (A 45 P e).toNat) (wv A P s n (A 46 P e).toNat)))
    else if A 43 P e = 60 then (if wv A P s n (A 45 P e).toNat < wv A P s n (A 46 P e).toNat then 1 else 0)
    else (if wv A P s n (A 45 P e).toNat = wv A P s n (A 46 P e).toNat then 1 else 0)
theorem wv_fam {A A9 : mA} {P : Nat} (k : ∀ f, 43 ≤ f → f ≤ 46 → A9 f P = A f P) (s : Int) : ∀ n e : Nat, wv A9 P s n e = wv A P s n e
  | 0, _ => rfl
  | n + 1, e => by
    unfold wv
    rw [k 43 (by omega) (by omega), k 44 (by omega) (by omega), k 45 (by omega) (by omega), k 46 (by omega) (by omega), wv_fam k s n, wv_fam k s n]
theorem wv_of {A : mA} {P n1 : Nat} {s : Int} {e : Nat} {act fig a b x y : Int} (h43 : A 43 P e = act) (hx : x = wv A P s n1 (A 45 P e).toNat) (hy : y = wv A P s n1 (A 46 P e).toNat) (h0 : ¬ act = 0) (h1 : ¬ act = 1) : wv A P s (n1 + 1) e = if act = 2 then nrm (-x) else if act = 43 then nrm (x + y) else if act = 45 then nrm (x - y) else if act = 42 then nrm (x * y) else if act = 37 then (if y = 0 then 0 else nrm (Int.tmod x y)) else if act = 60 then (if x < y then 1 else 0) else (if x = y then 1 else 0) := by
  show (if A 43 P e = 0 then _ else _) = _
  rw [h43, if_neg h0, if_neg h1, ← hx, ← hy]
/-- a sum over those that are so -/
def sw1 (A : mA) (P e k : Nat) (so : Int) (v : Nat) : Int := if (wv A P (A 3 k v) 120 e = 0) = (so = 0) then A 4 k v else 0
theorem ws_add (f g h : Nat → Int) (k : ∀ v, f v + g v = h v) (fl : Nat) : ∀ n, ws f fl n + ws g fl n = ws h fl n
  | 0 => rfl
  | n + 1 => by
    have := ws_add f g h k fl n
    have h2 := k (fl + n)
    show ws f fl n + f (fl + n) + (ws g fl n + g (fl + n)) = ws h fl n + h (fl + n)
    omega
theorem sw_both (A : mA) (P e k n : Nat) : ws (sw1 A P e k 1) 0 n + ws (sw1 A P e k 0) 0 n = ws (A 4 k) 0 n := ws_add _ _ _ (fun v => by
  unfold sw1
  by_cases h : wv A P (A 3 k v) 120 e = 0
  · have h1 : ¬ ((wv A P (A 3 k v) 120 e = 0) = ((1 : Int) = 0)) := fun q => by
      have : (1 : Int) = 0 := q ▸ h
      exact absurd this (by decide)
    have h2 : (wv A P (A 3 k v) 120 e = 0) = ((0 : Int) = 0) := by simp [h]
    rw [if_neg h1, if_pos h2, Int.zero_add]
  · have h1 : (wv A P (A 3 k v) 120 e = 0) = ((1 : Int) = 0) := by simp [h]
    have h2 : ¬ ((wv A P (A 3 k v) 120 e = 0) = ((0 : Int) = 0)) := fun q => h (q.symm ▸ rfl)
    rw [if_pos h1, if_neg h2, Int.add_zero]) 0 n
theorem sw1_pos {A : mA} {P e k v : Nat} {so x z : Int} (hz : z = wv A P (A 3 k v) 120 e) (hx : A 4 k v = x) (h : (z = 0) = (so = 0)) : sw1 A P e k so v = x := by
  unfold sw1
  rw [← hz, if_pos h, hx]
theorem sw1_neg {A : mA} {P e k v : Nat} {so z : Int} (hz : z = wv A P (A 3 k v) 120 e) (h : ¬ ((z = 0) = (so = 0))) : sw1 A P e k so v = 0 := by
  unfold sw1
  rw [← hz, if_neg h]
theorem ws1 (w : Nat → Int) {j : Int} (hj : 0 ≤ j) : ws w 0 (j + 1).toNat = ws w 0 j.toNat + w j.toNat := by
  have e : (j + 1).toNat = j.toNat + 1 := by omega
  rw [e]
  show _ + w (0 + j.toNat) = _
  rw [Nat.zero_add]
theorem sw_rng {A : mA} {P e k : Nat} {so : Int} : ∀ {n : Nat}, (∀ v, v < n → 0 ≤ A 4 k v) → 0 ≤ ws (sw1 A P e k so) 0 n ∧ ws (sw1 A P e k so) 0 n ≤ ws (A 4 k) 0 n
  | 0, _ => ⟨Int.le_refl _, Int.le_refl _⟩
  | n + 1, h => by
    have ih := sw_rng (A := A) (P := P) (e := e) (k := k) (so := so) (n := n) (fun v hv => h v (by omega))
    have hn := h n (by omega)
    have h1 : 0 ≤ sw1 A P e k so n ∧ sw1 A P e k so n ≤ A 4 k n := by
      unfold sw1
      split
      · exact ⟨hn, Int.le_refl _⟩
      · exact ⟨Int.le_refl _, hn⟩
    show 0 ≤ ws (sw1 A P e k so) 0 n + sw1 A P e k so (0 + n) ∧ ws (sw1 A P e k so) 0 n + sw1 A P e k so (0 + n) ≤ ws (A 4 k) 0 n + A 4 k (0 + n)
    rw [Nat.zero_add]
    omega
def S_worthX (n : Nat) : Prop := ∀ (l : Launch) (D : va_G) (B : Nat) (H0 : Heap) (ad : mAd) (A : mA) (hT : mTy A) (M : Int) (p : Int) (e : Int) (s : Int) (hN : nH p.toNat A M) (hM : 0 ≤ p ∧ p ≤ 5 ∧ M ≤ 120) (he : 0 ≤ e ∧ e < M ∧ e < (n : Int)) (hs : 0 ≤ s ∧ s ≤ 9999999) , mMet l D B H0 ad y_Mo_worth b_Mo_worth 7 (some .int) (3 + n) (80 + 30 * n) [vr 0 0, vi p, vi e, vi s] A (fun v9 A9 => ∃ z : Int, v9 = some (vi z) ∧ A = A9 ∧ (-2147483648 ≤ z ∧ z ≤ 2147483647) ∧ (z = wv A p.toNat s n e.toNat))
theorem f_q_worthX_0_1 : mblkB b_Mo_worth [(0, .aload_n 0, vi 0)] = true := by decide +kernel
theorem e_q_worthX_1 : decode b_Mo_worth 1 = .ok (.getfield 48, 3) := by decide +kernel
theorem f_q_worthX_4_1 : mblkB b_Mo_worth [(4, .iload_n 1, vi 0)] = true := by decide +kernel
theorem e_q_worthX_5 : decode b_Mo_worth 5 = .ok (.aaload, 1) := by decide +kernel
theorem f_q_worthX_6_1 : mblkB b_Mo_worth [(6, .iload_n 2, vi 0)] = true := by decide +kernel
theorem e_q_worthX_7 : decode b_Mo_worth 7 = .ok (.iaload, 1) := by decide +kernel
theorem f_q_worthX_8_2 : mblkB b_Mo_worth [(8, .istore 4, vi 0), (10, .iload 4, vi 0)] = true := by decide +kernel
theorem e_q_worthX_12 : decode b_Mo_worth 12 = .ok (.ifCond .ne 12, 3) := by decide +kernel
theorem f_q_worthX_24_2 : mblkB b_Mo_worth [(24, .iload 4, vi 0), (26, .iconst 1, vi 1)] = true := by decide +kernel
theorem e_q_worthX_27 : decode b_Mo_worth 27 = .ok (.if_icmp .ne 16, 3) := by decide +kernel
theorem f_q_worthX_43_3 : mblkB b_Mo_worth [(43, .aload_n 0, vi 0), (44, .iload_n 1, vi 0), (45, .aload_n 0, vi 0)] = true := by decide +kernel
theorem e_q_worthX_46 : decode b_Mo_worth 46 = .ok (.getfield 54, 3) := by decide +kernel
theorem f_q_worthX_49_1 : mblkB b_Mo_worth [(49, .iload_n 1, vi 0)] = true := by decide +kernel
theorem e_q_worthX_50 : decode b_Mo_worth 50 = .ok (.aaload, 1) := by decide +kernel
theorem f_q_worthX_51_1 : mblkB b_Mo_worth [(51, .iload_n 2, vi 0)] = true := by decide +kernel
theorem e_q_worthX_52 : decode b_Mo_worth 52 = .ok (.iaload, 1) := by decide +kernel
theorem f_q_worthX_53_1 : mblkB b_Mo_worth [(53, .iload_n 3, vi 0)] = true := by decide +kernel
theorem e_q_worthX_54 : decode b_Mo_worth 54 = .ok (.invokevirtual 263, 3) := by decide +kernel
theorem f_q_worthX_57_3 : mblkB b_Mo_worth [(57, .istore 5, vi 0), (59, .iload 4, vi 0), (61, .iconst 2, vi 2)] = true := by decide +kernel
theorem e_q_worthX_62 : decode b_Mo_worth 62 = .ok (.if_icmp .ne 7, 3) := by decide +kernel
theorem f_q_worthX_69_3 : mblkB b_Mo_worth [(69, .aload_n 0, vi 0), (70, .iload_n 1, vi 0), (71, .aload_n 0, vi 0)] = true := by decide +kernel
theorem e_q_worthX_72 : decode b_Mo_worth 72 = .ok (.getfield 57, 3) := by decide +kernel
theorem f_q_worthX_75_1 : mblkB b_Mo_worth [(75, .iload_n 1, vi 0)] = true := by decide +kernel
theorem e_q_worthX_76 : decode b_Mo_worth 76 = .ok (.aaload, 1) := by decide +kernel
theorem f_q_worthX_77_1 : mblkB b_Mo_worth [(77, .iload_n 2, vi 0)] = true := by decide +kernel
theorem e_q_worthX_78 : decode b_Mo_worth 78 = .ok (.iaload, 1) := by decide +kernel
theorem f_q_worthX_79_1 : mblkB b_Mo_worth [(79, .iload_n 3, vi 0)] = true := by decide +kernel
theorem e_q_worthX_80 : decode b_Mo_worth 80 = .ok (.invokevirtual 263, 3) := by decide +kernel
theorem f_q_worthX_83_3 : mblkB b_Mo_worth [(83, .istore 6, vi 0), (85, .iload 4, vi 0), (87, .bipush 43, vi 43)] = true := by decide +kernel
theorem e_q_worthX_89 : decode b_Mo_worth 89 = .ok (.if_icmp .ne 9, 3) := by decide +kernel
theorem f_q_worthX_98_2 : mblkB b_Mo_worth [(98, .iload 4, vi 0), (100, .bipush 45, vi 45)] = true := by decide +kernel
theorem e_q_worthX_102 : decode b_Mo_worth 102 = .ok (.if_icmp .ne 9, 3) := by decide +kernel
theorem f_q_worthX_111_2 : mblkB b_Mo_worth [(111, .iload 4, vi 0), (113, .bipush 42, vi 42)] = true := by decide +kernel
theorem e_q_worthX_115 : decode b_Mo_worth 115 = .ok (.if_icmp .ne 9, 3) := by decide +kernel
theorem f_q_worthX_124_2 : mblkB b_Mo_worth [(124, .iload 4, vi 0), (126, .bipush 37, vi 37)] = true := by decide +kernel
theorem e_q_worthX_128 : decode b_Mo_worth 128 = .ok (.if_icmp .ne 18, 3) := by decide +kernel
theorem f_q_worthX_146_2 : mblkB b_Mo_worth [(146, .iload 4, vi 0), (148, .bipush 60, vi 60)] = true := by decide +kernel
theorem e_q_worthX_150 : decode b_Mo_worth 150 = .ok (.if_icmp .ne 18, 3) := by decide +kernel
theorem f_q_worthX_168_2 : mblkB b_Mo_worth [(168, .iload 5, vi 0), (170, .iload 6, vi 0)] = true := by decide +kernel
theorem e_q_worthX_172 : decode b_Mo_worth 172 = .ok (.if_icmp .ne 7, 3) := by decide +kernel
theorem f_q_worthX_179_1 : mblkB b_Mo_worth [(179, .iconst 0, vi 0)] = true := by decide +kernel
theorem e_q_worthX_180 : decode b_Mo_worth 180 = .ok (.ireturn, 1) := by decide +kernel
theorem f_q_worthX_175_2 : mblkB b_Mo_worth [(175, .iconst 1, vi 1), (176, .goto 4, vi 180)] = true := by decide +kernel
theorem f_q_worthX_153_2 : mblkB b_Mo_worth [(153, .iload 5, vi 0), (155, .iload 6, vi 0)] = true := by decide +kernel
theorem e_q_worthX_157 : decode b_Mo_worth 157 = .ok (.if_icmp .ge 7, 3) := by decide +kernel
theorem f_q_worthX_164_2 : mblkB b_Mo_worth [(164, .iconst 0, vi 0), (165, .goto 15, vi 180)] = true := by decide +kernel
theorem f_q_worthX_160_2 : mblkB b_Mo_worth [(160, .iconst 1, vi 1), (161, .goto 19, vi 180)] = true := by decide +kernel
theorem f_q_worthX_131_1 : mblkB b_Mo_worth [(131, .iload 6, vi 0)] = true := by decide +kernel
theorem e_q_worthX_133 : decode b_Mo_worth 133 = .ok (.ifCond .ne 7, 3) := by decide +kernel
theorem f_q_worthX_140_2 : mblkB b_Mo_worth [(140, .iload 5, vi 0), (142, .iload 6, vi 0)] = true := by decide +kernel
theorem e_q_worthX_144 : decode b_Mo_worth 144 = .ok (.irem, 1) := by decide +kernel
theorem e_q_worthX_145 : decode b_Mo_worth 145 = .ok (.ireturn, 1) := by decide +kernel
theorem f_q_worthX_136_2 : mblkB b_Mo_worth [(136, .iconst 0, vi 0), (137, .goto 8, vi 145)] = true := by decide +kernel
theorem f_q_worthX_118_3 : mblkB b_Mo_worth [(118, .iload 5, vi 0), (120, .iload 6, vi 0), (122, .imul, vi 0)] = true := by decide +kernel
theorem e_q_worthX_123 : decode b_Mo_worth 123 = .ok (.ireturn, 1) := by decide +kernel
theorem f_q_worthX_105_3 : mblkB b_Mo_worth [(105, .iload 5, vi 0), (107, .iload 6, vi 0), (109, .isub, vi 0)] = true := by decide +kernel
theorem e_q_worthX_110 : decode b_Mo_worth 110 = .ok (.ireturn, 1) := by decide +kernel
theorem f_q_worthX_92_3 : mblkB b_Mo_worth [(92, .iload 5, vi 0), (94, .iload 6, vi 0), (96, .iadd, vi 0)] = true := by decide +kernel
theorem e_q_worthX_97 : decode b_Mo_worth 97 = .ok (.ireturn, 1) := by decide +kernel
theorem f_q_worthX_65_2 : mblkB b_Mo_worth [(65, .iload 5, vi 0), (67, .ineg, vi 0)] = true := by decide +kernel
theorem e_q_worthX_68 : decode b_Mo_worth 68 = .ok (.ireturn, 1) := by decide +kernel
theorem f_q_worthX_30_2 : mblkB b_Mo_worth [(30, .iload_n 3, vi 0), (31, .aload_n 0, vi 0)] = true := by decide +kernel
theorem e_q_worthX_32 : decode b_Mo_worth 32 = .ok (.getfield 51, 3) := by decide +kernel
theorem f_q_worthX_35_1 : mblkB b_Mo_worth [(35, .iload_n 1, vi 0)] = true := by decide +kernel
theorem e_q_worthX_36 : decode b_Mo_worth 36 = .ok (.aaload, 1) := by decide +kernel
theorem f_q_worthX_37_1 : mblkB b_Mo_worth [(37, .iload_n 2, vi 0)] = true := by decide +kernel
theorem e_q_worthX_38 : decode b_Mo_worth 38 = .ok (.iaload, 1) := by decide +kernel
theorem e_q_worthX_39 : decode b_Mo_worth 39 = .ok (.invokestatic 260, 3) := by decide +kernel
theorem e_q_worthX_42 : decode b_Mo_worth 42 = .ok (.ireturn, 1) := by decide +kernel
theorem f_q_worthX_15_1 : mblkB b_Mo_worth [(15, .aload_n 0, vi 0)] = true := by decide +kernel
theorem e_q_worthX_16 : decode b_Mo_worth 16 = .ok (.getfield 51, 3) := by decide +kernel
theorem f_q_worthX_19_1 : mblkB b_Mo_worth [(19, .iload_n 1, vi 0)] = true := by decide +kernel
theorem e_q_worthX_20 : decode b_Mo_worth 20 = .ok (.aaload, 1) := by decide +kernel
theorem f_q_worthX_21_1 : mblkB b_Mo_worth [(21, .iload_n 2, vi 0)] = true := by decide +kernel
theorem e_q_worthX_22 : decode b_Mo_worth 22 = .ok (.iaload, 1) := by decide +kernel
theorem e_q_worthX_23 : decode b_Mo_worth 23 = .ok (.ireturn, 1) := by decide +kernel
set_option maxHeartbeats 40000000 in
set_option maxRecDepth 100000 in
theorem q_worthX (n : Nat) (hrec : ∀ n1 : Nat, n = n1 + 1 → S_worthX n1) : S_worthX n := by
  intro l D B H0 ad A hT M p e s hN hM he hs
  refine m_met (by decide) rfl (fun g w0 C Rm Y E => ?_)
  show JM g D ad w0 A 0 [(0, vr 0 0), (1, vi p), (2, vi e), (3, vi s)] []
  obtain ⟨n1, hn1⟩ : ∃ n1, n = n1 + 1 := ⟨n - 1, by omega⟩
  refine m_blk 1 [(0, vr 0 0), (1, vi p), (2, vi e), (3, vi s)] [vr 0 0] C f_q_worthX_0_1 rfl ?_
  refine m_getr C e_q_worthX_1 fg_Mo_48 rfl (by decide) rfl ?_
  refine m_blk 5 [(0, vr 0 0), (1, vi p), (2, vi e), (3, vi s)] [vi p, vr 23 0] C f_q_worthX_4_1 rfl ?_
  refine m_aald C p.toNat e_q_worthX_5 rfl rfl rfl (by decide) (by decide) (by omega) (by show p < ((6 : Nat) : Int); omega) (mz _ _) ?_
  refine m_blk 7 [(0, vr 0 0), (1, vi p), (2, vi e), (3, vi s)] [vi e, vr 43 p.toNat] C f_q_worthX_6_1 rfl ?_
  obtain ⟨x1, hx1⟩ : ∃ x, A 43 p.toNat e.toNat = x := ⟨_, rfl⟩
  have rx1 : (-1) ≤ x1 ∧ x1 ≤ 255 := mrg hT hx1 rfl
  refine m_iald C e_q_worthX_7 rfl (by omega) (by decide) (by omega) (by show e < ((120 : Nat) : Int); omega) x1 hx1 ?_
  refine m_blk 12 [(4, vi x1), (0, vr 0 0), (1, vi p), (2, vi e), (3, vi s)] [vi x1] C f_q_worthX_8_2 rfl ?_
  refine m_if_ne (tgt := 24) C e_q_worthX_12 (by decide) (by omega) (fun c2 => ?_) (fun c2 => ?_)
  · refine m_blk 27 [(4, vi x1), (0, vr 0 0), (1, vi p), (2, vi e), (3, vi s)] [vi 1, vi x1] C f_q_worthX_24_2 rfl ?_
    refine m_icmp_ne (tgt := 43) C e_q_worthX_27 (by decide) (by omega) (by decide) (fun c3 => ?_) (fun c3 => ?_)
    · have h1 := hN.at (e := e) (by omega) (by omega)
      have h2 := hN.one (e := e) (by omega) (by omega) (by omega) (by omega)
      refine m_blk 46 [(4, vi x1), (0, vr 0 0), (1, vi p), (2, vi e), (3, vi s)] [vr 0 0, vi p, vr 0 0] C f_q_worthX_43_3 rfl ?_
      refine m_getr C e_q_worthX_46 fg_Mo_54 rfl (by decide) rfl ?_
      refine m_blk 50 [(4, vi x1), (0, vr 0 0), (1, vi p), (2, vi e), (3, vi s)] [vi p, vr 25 0, vi p, vr 0 0] C f_q_worthX_49_1 rfl ?_
      refine m_aald C p.toNat e_q_worthX_50 rfl rfl rfl (by decide) (by decide) (by omega) (by show p < ((6 : Nat) : Int); omega) (mz _ _) ?_
      refine m_blk 52 [(4, vi x1), (0, vr 0 0), (1, vi p), (2, vi e), (3, vi s)] [vi e, vr 45 p.toNat, vi p, vr 0 0] C f_q_worthX_51_1 rfl ?_
      obtain ⟨x4, hx4⟩ : ∃ x, A 45 p.toNat e.toNat = x := ⟨_, rfl⟩
      have rx4 : (-1) ≤ x4 ∧ x4 ≤ 119 := mrg hT hx4 rfl
      refine m_iald C e_q_worthX_52 rfl (by omega) (by decide) (by omega) (by show e < ((120 : Nat) : Int); omega) x4 hx4 ?_
      refine m_blk 54 [(4, vi x1), (0, vr 0 0), (1, vi p), (2, vi e), (3, vi s)] [vi s, vi x4, vi p, vr 0 0] C f_q_worthX_53_1 rfl ?_
      refine m_callV C Rm Y [vi p, vi x4, vi s] [] ((hrec n1 hn1) l D B H0 ad _ hT M p x4 s hN (by show 0 ≤ p ∧ p ≤ 5 ∧ M ≤ 120; omega) (by show 0 ≤ x4 ∧ x4 < M ∧ x4 < (n1 : Int); omega) (by show 0 ≤ s ∧ s ≤ 9999999; omega)) cl_Mo_263 rfl (by decide) rfl rfl e_q_worthX_54 rfl rfl rfl ⟨by show _ ≤ (3 + n : Nat); omega, by show _ ≤ (80 + 30 * n : Nat); omega⟩ ?_
      rintro v5 A6 ⟨z9, rfl, rfl, raw_hz_n8, raw_hv_n8⟩
      have hz_n8 : -2147483648 ≤ z9 ∧ z9 ≤ 2147483647 := raw_hz_n8
      clear raw_hz_n8
      have hv_n8 : z9 = wv A p.toNat s n1 x4.toNat := raw_hv_n8
      clear raw_hv_n8
      show JM g D ad w0 A 57 [(4, vi x1), (0, vr 0 0), (1, vi p), (2, vi e), (3, vi s)] [vi z9]
      refine m_blk 62 [(5, vi z9), (4, vi x1), (0, vr 0 0), (1, vi p), (2, vi e), (3, vi s)] [vi 2, vi x1] C f_q_worthX_57_3 rfl ?_
      refine m_icmp_ne (tgt := 69) C e_q_worthX_62 (by decide) (by omega) (by decide) (fun c10 => ?_) (fun c10 => ?_)
      · have h3 := hN.two (e := e) (by omega) (by omega) (by omega) (by omega) (by omega)
        refine m_blk 72 [(5, vi z9), (4, vi x1), (0, vr 0 0), (1, vi p), (2, vi e), (3, vi s)] [vr 0 0, vi p, vr 0 0] C f_q_worthX_69_3 rfl ?_
        refine m_getr C e_q_worthX_72 fg_Mo_57 rfl (by decide) rfl ?_
        refine m_blk 76 [(5, vi z9), (4, vi x1), (0, vr 0 0), (1, vi p), (2, vi e), (3, vi s)] [vi p, vr 26 0, vi p, vr 0 0] C f_q_worthX_75_1 rfl ?_
        refine m_aald C p.toNat e_q_worthX_76 rfl rfl rfl (by decide) (by decide) (by omega) (by show p < ((6 : Nat) : Int); omega) (mz _ _) ?_
        refine m_blk 78 [(5, vi z9), (4, vi x1), (0, vr 0 0), (1, vi p), (2, vi e), (3, vi s)] [vi e, vr 46 p.toNat, vi p, vr 0 0] C f_q_worthX_77_1 rfl ?_
        obtain ⟨x11, hx11⟩ : ∃ x, A 46 p.toNat e.toNat = x := ⟨_, rfl⟩
        have rx11 : (-1) ≤ x11 ∧ x11 ≤ 119 := mrg hT hx11 rfl
        refine m_iald C e_q_worthX_78 rfl (by omega) (by decide) (by omega) (by show e < ((120 : Nat) : Int); omega) x11 hx11 ?_
        refine m_blk 80 [(5, vi z9), (4, vi x1), (0, vr 0 0), (1, vi p), (2, vi e), (3, vi s)] [vi s, vi x11, vi p, vr 0 0] C f_q_worthX_79_1 rfl ?_
        refine m_callV C Rm Y [vi p, vi x11, vi s] [] ((hrec n1 hn1) l D B H0 ad _ hT M p x11 s hN (by show 0 ≤ p ∧ p ≤ 5 ∧ M ≤ 120; omega) (by show 0 ≤ x11 ∧ x11 < M ∧ x11 < (n1 : Int); omega) (by show 0 ≤ s ∧ s ≤ 9999999; omega)) cl_Mo_263 rfl (by decide) rfl rfl e_q_worthX_80 rfl rfl rfl ⟨by show _ ≤ (3 + n : Nat); omega, by show _ ≤ (80 + 30 * n : Nat); omega⟩ ?_
        rintro v12 A13 ⟨z16, rfl, rfl, raw_hz_n15, raw_hv_n15⟩
        have hz_n15 : -2147483648 ≤ z16 ∧ z16 ≤ 2147483647 := raw_hz_n15
        clear raw_hz_n15
        have hv_n15 : z16 = wv A p.toNat s n1 x11.toNat := raw_hv_n15
        clear raw_hv_n15
        show JM g D ad w0 A 83 [(5, vi z9), (4, vi x1), (0, vr 0 0), (1, vi p), (2, vi e), (3, vi s)] [vi z16]
        refine m_blk 89 [(6, vi z16), (5, vi z9), (4, vi x1), (0, vr 0 0), (1, vi p), (2, vi e), (3, vi s)] [vi 43, vi x1] C f_q_worthX_83_3 rfl ?_
        refine m_icmp_ne (tgt := 98) C e_q_worthX_89 (by decide) (by omega) (by decide) (fun c17 => ?_) (fun c17 => ?_)
        · refine m_blk 102 [(6, vi z16), (5, vi z9), (4, vi x1), (0, vr 0 0), (1, vi p), (2, vi e), (3, vi s)] [vi 45, vi x1] C f_q_worthX_98_2 rfl ?_
          refine m_icmp_ne (tgt := 111) C e_q_worthX_102 (by decide) (by omega) (by decide) (fun c18 => ?_) (fun c18 => ?_)
          · refine m_blk 115 [(6, vi z16), (5, vi z9), (4, vi x1), (0, vr 0 0), (1, vi p), (2, vi e), (3, vi s)] [vi 42, vi x1] C f_q_worthX_111_2 rfl ?_
            refine m_icmp_ne (tgt := 124) C e_q_worthX_115 (by decide) (by omega) (by decide) (fun c19 => ?_) (fun c19 => ?_)
            · refine m_blk 128 [(6, vi z16), (5, vi z9), (4, vi x1), (0, vr 0 0), (1, vi p), (2, vi e), (3, vi s)] [vi 37, vi x1] C f_q_worthX_124_2 rfl ?_
              refine m_icmp_ne (tgt := 146) C e_q_worthX_128 (by decide) (by omega) (by decide) (fun c20 => ?_) (fun c20 => ?_)
              · refine m_blk 150 [(6, vi z16), (5, vi z9), (4, vi x1), (0, vr 0 0), (1, vi p), (2, vi e), (3, vi s)] [vi 60, vi x1] C f_q_worthX_146_2 rfl ?_
                refine m_icmp_ne (tgt := 168) C e_q_worthX_150 (by decide) (by omega) (by decide) (fun c21 => ?_) (fun c21 => ?_)
                · refine m_blk 172 [(6, vi z16), (5, vi z9), (4, vi x1), (0, vr 0 0), (1, vi p), (2, vi e), (3, vi s)] [vi z16, vi z9] C f_q_worthX_168_2 rfl ?_
                  refine m_icmp_ne (tgt := 179) C e_q_worthX_172 (by decide) (by omega) (by omega) (fun c22 => ?_) (fun c22 => ?_)
                  · refine m_blk 180 [(6, vi z16), (5, vi z9), (4, vi x1), (0, vr 0 0), (1, vi p), (2, vi e), (3, vi s)] [vi 0] C f_q_worthX_179_1 rfl ?_
                    exact m_iret C Rm E e_q_worthX_180 ⟨0, rfl, rfl, (by show -2147483648 ≤ 0 ∧ 0 ≤ 2147483647; omega), (by rw [hn1]; rw [wv_of (a := 0) (b := 0) (fig := 0) (x := z9) (y := z16) hx1 (by rw [hx4]; exact hv_n8) (by rw [hx11]; exact hv_n15) (by omega) (by omega)]; rw [if_neg (by omega), if_neg (by omega), if_neg (by omega), if_neg (by omega), if_neg (by omega), if_neg (by omega)]; rw [if_neg (by omega)])⟩
                  · refine m_blk 180 [(6, vi z16), (5, vi z9), (4, vi x1), (0, vr 0 0), (1, vi p), (2, vi e), (3, vi s)] [vi 1] C f_q_worthX_175_2 rfl ?_
                    exact m_iret C Rm E e_q_worthX_180 ⟨1, rfl, rfl, (by show -2147483648 ≤ 1 ∧ 1 ≤ 2147483647; omega), (by rw [hn1]; rw [wv_of (a := 0) (b := 0) (fig := 0) (x := z9) (y := z16) hx1 (by rw [hx4]; exact hv_n8) (by rw [hx11]; exact hv_n15) (by omega) (by omega)]; rw [if_neg (by omega), if_neg (by omega), if_neg (by omega), if_neg (by omega), if_neg (by omega), if_neg (by omega)]; rw [if_pos (by omega)])⟩
                · refine m_blk 157 [(6, vi z16), (5, vi z9), (4, vi x1), (0, vr 0 0), (1, vi p), (2, vi e), (3, vi s)] [vi z16, vi z9] C f_q_worthX_153_2 rfl ?_
                  refine m_icmp_ge (tgt := 164) C e_q_worthX_157 (by decide) (by omega) (by omega) (fun c23 => ?_) (fun c23 => ?_)
                  · refine m_blk 180 [(6, vi z16), (5, vi z9), (4, vi x1), (0, vr 0 0), (1, vi p), (2, vi e), (3, vi s)] [vi 0] C f_q_worthX_164_2 rfl ?_
                    exact m_iret C Rm E e_q_worthX_180 ⟨0, rfl, rfl, (by show -2147483648 ≤ 0 ∧ 0 ≤ 2147483647; omega), (by rw [hn1]; rw [wv_of (a := 0) (b := 0) (fig := 0) (x := z9) (y := z16) hx1 (by rw [hx4]; exact hv_n8) (by rw [hx11]; exact hv_n15) (by omega) (by omega)]; rw [if_neg (by omega), if_neg (by omega), if_neg (by omega), if_neg (by omega), if_neg (by omega), if_pos (by omega)]; rw [if_neg (by omega)])⟩
                  · refine m_blk 180 [(6, vi z16), (5, vi z9), (4, vi x1), (0, vr 0 0), (1, vi p), (2, vi e), (3, vi s)] [vi 1] C f_q_worthX_160_2 rfl ?_
                    exact m_iret C Rm E e_q_worthX_180 ⟨1, rfl, rfl, (by show -2147483648 ≤ 1 ∧ 1 ≤ 2147483647; omega), (by rw [hn1]; rw [wv_of (a := 0) (b := 0) (fig := 0) (x := z9) (y := z16) hx1 (by rw [hx4]; exact hv_n8) (by rw [hx11]; exact hv_n15) (by omega) (by omega)]; rw [if_neg (by omega), if_neg (by omega), if_neg (by omega), if_neg (by omega), if_neg (by omega), if_pos (by omega)]; rw [if_pos (by omega)])⟩
              · refine m_blk 133 [(6, vi z16), (5, vi z9), (4, vi x1), (0, vr 0 0), (1, vi p), (2, vi e), (3, vi s)] [vi z16] C f_q_worthX_131_1 rfl ?_
                refine m_if_ne (tgt := 140) C e_q_worthX_133 (by decide) (by omega) (fun c24 => ?_) (fun c24 => ?_)
                · refine m_blk 144 [(6, vi z16), (5, vi z9), (4, vi x1), (0, vr 0 0), (1, vi p), (2, vi e), (3, vi s)] [vi z16, vi z9] C f_q_worthX_140_2 rfl ?_
                  refine m_irem C e_q_worthX_144 (by omega) (by omega) (by omega) ?_
                  refine m_nrm2 (fun y25 hy25 ny25 => ?_)
                  exact m_iret C Rm E e_q_worthX_145 ⟨y25, rfl, rfl, (by show -2147483648 ≤ y25 ∧ y25 ≤ 2147483647; omega), (by rw [hn1]; rw [wv_of (a := 0) (b := 0) (fig := 0) (x := z9) (y := z16) hx1 (by rw [hx4]; exact hv_n8) (by rw [hx11]; exact hv_n15) (by omega) (by omega)]; rw [if_neg (by omega), if_neg (by omega), if_neg (by omega), if_neg (by omega), if_pos (by omega)]; rw [if_neg (by omega)]; exact ny25)⟩
                · refine m_blk 145 [(6, vi z16), (5, vi z9), (4, vi x1), (0, vr 0 0), (1, vi p), (2, vi e), (3, vi s)] [vi 0] C f_q_worthX_136_2 rfl ?_
                  exact m_iret C Rm E e_q_worthX_145 ⟨0, rfl, rfl, (by show -2147483648 ≤ 0 ∧ 0 ≤ 2147483647; omega), (by rw [hn1]; rw [wv_of (a := 0) (b := 0) (fig := 0) (x := z9) (y := z16) hx1 (by rw [hx4]; exact hv_n8) (by rw [hx11]; exact hv_n15) (by omega) (by omega)]; rw [if_neg (by omega), if_neg (by omega), if_neg (by omega), if_neg (by omega), if_pos (by omega)]; rw [if_pos (by omega)])⟩
            · refine m_blk 123 [(6, vi z16), (5, vi z9), (4, vi x1), (0, vr 0 0), (1, vi p), (2, vi e), (3, vi s)] [vi (z9 * z16)] C f_q_worthX_118_3 rfl ?_
              refine m_nrm2 (fun y26 hy26 ny26 => ?_)
              exact m_iret C Rm E e_q_worthX_123 ⟨y26, rfl, rfl, (by show -2147483648 ≤ y26 ∧ y26 ≤ 2147483647; omega), (by rw [hn1]; rw [wv_of (a := 0) (b := 0) (fig := 0) (x := z9) (y := z16) hx1 (by rw [hx4]; exact hv_n8) (by rw [hx11]; exact hv_n15) (by omega) (by omega)]; rw [if_neg (by omega), if_neg (by omega), if_neg (by omega), if_pos (by omega)]; exact ny26)⟩
          · refine m_blk 110 [(6, vi z16), (5, vi z9), (4, vi x1), (0, vr 0 0), (1, vi p), (2, vi e), (3, vi s)] [vi (z9 - z16)] C f_q_worthX_105_3 rfl ?_
            refine m_nrm2 (fun y27 hy27 ny27 => ?_)
            exact m_iret C Rm E e_q_worthX_110 ⟨y27, rfl, rfl, (by show -2147483648 ≤ y27 ∧ y27 ≤ 2147483647; omega), (by rw [hn1]; rw [wv_of (a := 0) (b := 0) (fig := 0) (x := z9) (y := z16) hx1 (by rw [hx4]; exact hv_n8) (by rw [hx11]; exact hv_n15) (by omega) (by omega)]; rw [if_neg (by omega), if_neg (by omega), if_pos (by omega)]; exact ny27)⟩
        · refine m_blk 97 [(6, vi z16), (5, vi z9), (4, vi x1), (0, vr 0 0), (1, vi p), (2, vi e), (3, vi s)] [vi (z9 + z16)] C f_q_worthX_92_3 rfl ?_
          refine m_nrm2 (fun y28 hy28 ny28 => ?_)
          exact m_iret C Rm E e_q_worthX_97 ⟨y28, rfl, rfl, (by show -2147483648 ≤ y28 ∧ y28 ≤ 2147483647; omega), (by rw [hn1]; rw [wv_of (a := 0) (b := 0) (fig := 0) (x := z9) (y := z16) hx1 (by rw [hx4]; exact hv_n8) (by rw [hx11]; exact hv_n15) (by omega) (by omega)]; rw [if_neg (by omega), if_pos (by omega)]; exact ny28)⟩
      · refine m_blk 68 [(5, vi z9), (4, vi x1), (0, vr 0 0), (1, vi p), (2, vi e), (3, vi s)] [vi (-z9)] C f_q_worthX_65_2 rfl ?_
        refine m_nrm2 (fun y29 hy29 ny29 => ?_)
        exact m_iret C Rm E e_q_worthX_68 ⟨y29, rfl, rfl, (by show -2147483648 ≤ y29 ∧ y29 ≤ 2147483647; omega), (by rw [hn1]; rw [wv_of (a := 0) (b := 0) (fig := 0) (x := z9) (y := (wv A p.toNat s n1 (A 46 p.toNat e.toNat).toNat)) hx1 (by rw [hx4]; exact hv_n8) rfl (by omega) (by omega)]; rw [if_pos (by omega)]; exact ny29)⟩
    · refine m_blk 32 [(4, vi x1), (0, vr 0 0), (1, vi p), (2, vi e), (3, vi s)] [vr 0 0, vi s] C f_q_worthX_30_2 rfl ?_
      refine m_getr C e_q_worthX_32 fg_Mo_51 rfl (by decide) rfl ?_
      refine m_blk 36 [(4, vi x1), (0, vr 0 0), (1, vi p), (2, vi e), (3, vi s)] [vi p, vr 24 0, vi s] C f_q_worthX_35_1 rfl ?_
      refine m_aald C p.toNat e_q_worthX_36 rfl rfl rfl (by decide) (by decide) (by omega) (by show p < ((6 : Nat) : Int); omega) (mz _ _) ?_
      refine m_blk 38 [(4, vi x1), (0, vr 0 0), (1, vi p), (2, vi e), (3, vi s)] [vi e, vr 44 p.toNat, vi s] C f_q_worthX_37_1 rfl ?_
      obtain ⟨x30, hx30⟩ : ∃ x, A 44 p.toNat e.toNat = x := ⟨_, rfl⟩
      have rx30 : (-1) ≤ x30 ∧ x30 ≤ 255 := mrg hT hx30 rfl
      refine m_iald C e_q_worthX_38 rfl (by omega) (by decide) (by omega) (by show e < ((120 : Nat) : Int); omega) x30 hx30 ?_
      refine m_callS C Rm Y [vi s, vi x30] [] (q_valueOf l D B H0 ad _ s x30 (by show 0 ≤ s ∧ s ≤ 2147483647; omega) (by show -1 ≤ x30 ∧ x30 ≤ 2147483647; omega)) cl_Mo_260 e_q_worthX_39 rfl rfl rfl ⟨by show _ ≤ (3 + n : Nat); omega, by show _ ≤ (80 + 30 * n : Nat); omega⟩ ?_
      rintro v31 A32 ⟨z35, rfl, rfl, raw_hz_n34⟩
      have hz_n34 : z35 = dg s x30 ∧ 0 ≤ z35 ∧ z35 ≤ 9 := raw_hz_n34
      clear raw_hz_n34
      show JM g D ad w0 A 42 [(4, vi x1), (0, vr 0 0), (1, vi p), (2, vi e), (3, vi s)] [vi z35]
      exact m_iret C Rm E e_q_worthX_42 ⟨z35, rfl, rfl, (by show -2147483648 ≤ z35 ∧ z35 ≤ 2147483647; omega), (by rw [hn1]; show _ = if A 43 p.toNat e.toNat = 0 then _ else _; rw [hx1, if_neg (by omega), if_pos (by omega), hx30]; exact hz_n34.1)⟩
  · refine m_blk 16 [(4, vi x1), (0, vr 0 0), (1, vi p), (2, vi e), (3, vi s)] [vr 0 0] C f_q_worthX_15_1 rfl ?_
    refine m_getr C e_q_worthX_16 fg_Mo_51 rfl (by decide) rfl ?_
    refine m_blk 20 [(4, vi x1), (0, vr 0 0), (1, vi p), (2, vi e), (3, vi s)] [vi p, vr 24 0] C f_q_worthX_19_1 rfl ?_
    refine m_aald C p.toNat e_q_worthX_20 rfl rfl rfl (by decide) (by decide) (by omega) (by show p < ((6 : Nat) : Int); omega) (mz _ _) ?_
    refine m_blk 22 [(4, vi x1), (0, vr 0 0), (1, vi p), (2, vi e), (3, vi s)] [vi e, vr 44 p.toNat] C f_q_worthX_21_1 rfl ?_
    obtain ⟨x36, hx36⟩ : ∃ x, A 44 p.toNat e.toNat = x := ⟨_, rfl⟩
    have rx36 : (-1) ≤ x36 ∧ x36 ≤ 255 := mrg hT hx36 rfl
    refine m_iald C e_q_worthX_22 rfl (by omega) (by decide) (by omega) (by show e < ((120 : Nat) : Int); omega) x36 hx36 ?_
    exact m_iret C Rm E e_q_worthX_23 ⟨x36, rfl, rfl, (by show -2147483648 ≤ x36 ∧ x36 ≤ 2147483647; omega), (by rw [hn1]; show _ = if A 43 p.toNat e.toNat = 0 then _ else _; rw [hx1, if_pos (by omega), hx36])⟩

theorem q_worthX_ : ∀ n : Nat, S_worthX n := fun n => by
  induction n with
  | zero => exact q_worthX 0 (fun n1 h => absurd h (by omega))
  | succ n ih => exact q_worthX (n + 1) (fun n1 h => by
      have : n1 = n := by omega
      rw [this]
      exact ih)

theorem f_q_splitX_0_1 : mblkB b_Mo_split [(0, .aload_n 0, vi 0)] = true := by decide +kernel
theorem e_q_splitX_1 : decode b_Mo_split 1 = .ok (.invokevirtual 275, 3) := by decide +kernel
theorem f_q_splitX_4_3 : mblkB b_Mo_split [(4, .astore 5, vi 0), (6, .iconst 0, vi 0), (7, .istore 6, vi 0)] = true := by decide +kernel
theorem f_q_splitX_9_2 : mblkB b_Mo_split [(9, .iload 6, vi 0), (11, .aload_n 3, vi 0)] = true := by decide +kernel
theorem e_q_splitX_12 : decode b_Mo_split 12 = .ok (.getfield 272, 3) := by decide +kernel
theorem e_q_splitX_15 : decode b_Mo_split 15 = .ok (.if_icmp .ge 61, 3) := by decide +kernel
theorem f_q_splitX_76_1 : mblkB b_Mo_split [(76, .aload 5, vi 0)] = true := by decide +kernel
theorem e_q_splitX_78 : decode b_Mo_split 78 = .ok (.areturn, 1) := by decide +kernel
theorem f_q_splitX_18_3 : mblkB b_Mo_split [(18, .aload_n 0, vi 0), (19, .iload_n 1, vi 0), (20, .aload_n 0, vi 0)] = true := by decide +kernel
theorem e_q_splitX_21 : decode b_Mo_split 21 = .ok (.getfield 36, 3) := by decide +kernel
theorem f_q_splitX_24_1 : mblkB b_Mo_split [(24, .iload_n 1, vi 0)] = true := by decide +kernel
theorem e_q_splitX_25 : decode b_Mo_split 25 = .ok (.aaload, 1) := by decide +kernel
theorem f_q_splitX_26_1 : mblkB b_Mo_split [(26, .iload_n 2, vi 0)] = true := by decide +kernel
theorem e_q_splitX_27 : decode b_Mo_split 27 = .ok (.iaload, 1) := by decide +kernel
theorem f_q_splitX_28_1 : mblkB b_Mo_split [(28, .aload_n 3, vi 0)] = true := by decide +kernel
theorem e_q_splitX_29 : decode b_Mo_split 29 = .ok (.getfield 279, 3) := by decide +kernel
theorem f_q_splitX_32_1 : mblkB b_Mo_split [(32, .iload 6, vi 0)] = true := by decide +kernel
theorem e_q_splitX_34 : decode b_Mo_split 34 = .ok (.iaload, 1) := by decide +kernel
theorem e_q_splitX_35 : decode b_Mo_split 35 = .ok (.invokevirtual 263, 3) := by decide +kernel
theorem e_q_splitX_38 : decode b_Mo_split 38 = .ok (.ifCond .eq 7, 3) := by decide +kernel
theorem f_q_splitX_45_2 : mblkB b_Mo_split [(45, .iconst 0, vi 0), (46, .iload 4, vi 0)] = true := by decide +kernel
theorem e_q_splitX_48 : decode b_Mo_split 48 = .ok (.if_icmp .ne 22, 3) := by decide +kernel
theorem f_q_splitX_70_2 : mblkB b_Mo_split [(70, .iinc 6 1, vi 1), (73, .goto (-64), vi 9)] = true := by decide +kernel
theorem f_q_splitX_51_2 : mblkB b_Mo_split [(51, .aload 5, vi 0), (53, .aload_n 3, vi 0)] = true := by decide +kernel
theorem e_q_splitX_54 : decode b_Mo_split 54 = .ok (.getfield 279, 3) := by decide +kernel
theorem f_q_splitX_57_1 : mblkB b_Mo_split [(57, .iload 6, vi 0)] = true := by decide +kernel
theorem e_q_splitX_59 : decode b_Mo_split 59 = .ok (.iaload, 1) := by decide +kernel
theorem f_q_splitX_60_1 : mblkB b_Mo_split [(60, .aload_n 3, vi 0)] = true := by decide +kernel
theorem e_q_splitX_61 : decode b_Mo_split 61 = .ok (.getfield 285, 3) := by decide +kernel
theorem f_q_splitX_64_1 : mblkB b_Mo_split [(64, .iload 6, vi 0)] = true := by decide +kernel
theorem e_q_splitX_66 : decode b_Mo_split 66 = .ok (.laload, 1) := by decide +kernel
theorem e_q_splitX_67 : decode b_Mo_split 67 = .ok (.invokevirtual 289, 3) := by decide +kernel
theorem f_q_splitX_41_2 : mblkB b_Mo_split [(41, .iconst 1, vi 1), (42, .goto 4, vi 46)] = true := by decide +kernel
theorem f_q_splitX_46_1 : mblkB b_Mo_split [(46, .iload 4, vi 0)] = true := by decide +kernel
set_option maxHeartbeats 40000000 in
set_option maxRecDepth 100000 in
theorem q_splitX (l : Launch) (D : va_G) (B : Nat) (H0 : Heap) (ad : mAd) (A : mA) (hT : mTy A) (u : Int) (T : Int) (N : Int) (M : Int) (Ln : Int) (dep : Nat → Int) (p : Int) (i : Int) (ki : Nat) (so : Int) (hp : 0 ≤ p ∧ p ≤ 5) (hK : pK A p.toNat N M Ln dep) (hi : 0 ≤ i ∧ i < N) (hu : A 0 0 33 = u ∧ 0 ≤ u ∧ u ≤ 199) (hk : (ki : Int) < u) (hO : oG A ki T) (hT9 : 0 ≤ T ∧ T ≤ 1125899906842624) (hkd : A 34 p.toNat i.toNat = 2 ∨ A 34 p.toNat i.toNat = 3) (hso : so = 0 ∨ so = 1)  : mMet l D B H0 ad y_Mo_split b_Mo_split 7 (some (.object "ChanceStepsModel$Odds")) 130 3800 [vr 0 0, vi p, vi i, vr 1 ki, vi so] A (fun v9 A9 => ∃ z : Nat, v9 = some (vr 1 z) ∧ mTy A9 ∧ mEq (dm u.toNat) A A9 ∧ ((z : Int) = u) ∧ (A9 0 0 33 = u + 1) ∧ (oG A9 z (ws (sw1 A p.toNat (A 39 p.toNat i.toNat).toNat ki so) 0 (A 1 ki 2).toNat))) := by
  refine m_met (by decide) rfl (fun g w0 C Rm Y E => ?_)
  have hE0 : mEq (dm u.toNat) A A := mEq.rfl'
  show JM g D ad w0 A 0 [(0, vr 0 0), (1, vi p), (2, vi i), (3, vr 1 ki), (4, vi so)] []
  have rk9 : 0 ≤ A 1 ki 2 ∧ A 1 ki 2 ≤ 301 := hT 1 ki 2
  obtain ⟨SJ, hSJ⟩ : ∃ f : Int → Int, ∀ j, f j = ws (sw1 A p.toNat (A 39 p.toNat i.toNat).toNat ki so) 0 (Int.toNat j) := ⟨_, fun _ => rfl⟩
  have nn9 : ∀ n : Nat, (n : Int) ≤ A 1 ki 2 → 0 ≤ ws (sw1 A p.toNat (A 39 p.toNat i.toNat).toNat ki so) 0 n ∧ ws (sw1 A p.toNat (A 39 p.toNat i.toNat).toNat ki so) 0 n ≤ ws (A 4 ki) 0 n := fun n hn => sw_rng (fun v hv => by have := hO.1 v (by omega); omega)
  refine m_blk 1 [(0, vr 0 0), (1, vi p), (2, vi i), (3, vr 1 ki), (4, vi so)] [vr 0 0] C f_q_splitX_0_1 rfl ?_
  refine m_callV C Rm Y [] [] (q_taken l D B H0 ad _ hT u (by show A 0 0 33 = u ∧ 0 ≤ u ∧ u ≤ 199; omega)) cl_Mo_275 rfl (by decide) rfl rfl e_q_splitX_1 rfl rfl rfl ⟨by decide, by decide⟩ ?_
  rintro v1 A2 ⟨z5, rfl, hT_n4, hE_n4, raw_hz_n4, raw_hu_n4, raw_hm_n4⟩
  have hF_n4 := hE0.trans (hE_n4.sub (tk_dm (by omega)))
  have hz_n4 : (z5 : Int) = u := raw_hz_n4
  clear raw_hz_n4
  have hu_n4 : A2 0 0 33 = u + 1 := raw_hu_n4
  clear raw_hu_n4
  have hm_n4 : A2 1 z5 2 = 0 := raw_hm_n4
  clear raw_hm_n4
  show JM g D ad w0 A2 4 [(0, vr 0 0), (1, vi p), (2, vi i), (3, vr 1 ki), (4, vi so)] [vr 1 z5]
  refine m_blk 9 [(6, vi 0), (5, vr 1 z5), (0, vr 0 0), (1, vi p), (2, vi i), (3, vr 1 ki), (4, vi so)] [] C f_q_splitX_4_3 rfl ?_
  have hd_9 : ∀ (NZ : Nat) (A2 : mA) (j : Int), mTy A2 → mEq (dm u.toNat) A A2 → oG A2 z5 (SJ j) → 0 ≤ j ∧ j ≤ A 1 ki 2 ∧ A 1 ki 2 ≤ 301 → A2 0 0 33 = u + 1 → (400 - j) < (NZ : Int) → JM g D ad w0 A2 9 [(6, vi j), (5, vr 1 z5), (0, vr 0 0), (1, vi p), (2, vi i), (3, vr 1 ki), (4, vi so)] [] := by
    intro NZ
    induction NZ with
    | zero => intro A2 j hT2 hE2 hO2 hj hu2 hm9; exact absurd hm9 (by omega)
    | succ NZ ih9 =>
      intro A2 j hT2 hE2 hO2 hj hu2 hm9
      have w9 : A2 1 ki 2 = A 1 ki 2 := hE2 1 ki 2 (dm_lo (by omega) (by decide) 2)
      have rmT : ∀ f9 j9, f9 ≠ 0 → A2 f9 ki j9 = A f9 ki j9 := fun f9 j9 h9 => hE2 f9 ki j9 (dm_lo (by omega) h9 j9)
      have far : ∀ f9 k9 j9, 5 ≤ f9 → A2 f9 k9 j9 = A f9 k9 j9 := fun f9 k9 j9 h9 => hE2 f9 k9 j9 (dm_far h9 j9)
      have K2 : pK A2 p.toNat N M Ln dep := hK.fam (fun f9 h8 h9 => funext fun j9 => far f9 p.toNat j9 (by omega))
      have hs9 := K2.at (i := i) (by omega) (by omega)
      have ht9 := hs9.tp
      have hr9 := K2.rng
      refine m_blk 12 [(6, vi j), (5, vr 1 z5), (0, vr 0 0), (1, vi p), (2, vi i), (3, vr 1 ki), (4, vi so)] [vr 1 ki, vi j] C f_q_splitX_9_2 rfl ?_
      obtain ⟨x6, hx6⟩ : ∃ x, A2 1 ki 2 = x := ⟨_, rfl⟩
      have rx6 : 0 ≤ x6 ∧ x6 ≤ 301 := mrg hT2 hx6 rfl
      refine m_getiN C e_q_splitX_12 fg_Mo_272 rfl (by omega) rfl x6 hx6 ?_
      refine m_icmp_ge (tgt := 76) C e_q_splitX_15 (by decide) (by omega) (by omega) (fun c7 => ?_) (fun c7 => ?_)
      · refine m_blk 78 [(6, vi j), (5, vr 1 z5), (0, vr 0 0), (1, vi p), (2, vi i), (3, vr 1 ki), (4, vi so)] [vr 1 z5] C f_q_splitX_76_1 rfl ?_
        exact m_aret C Rm E e_q_splitX_78 ⟨z5, rfl, hT2, hE2, (by show (z5 : Int) = u; omega), (by show A2 0 0 33 = u + 1; omega), (by have e9 : j = A 1 ki 2 := (by omega); have e8 := hSJ (A 1 ki 2); rw [← e8, ← e9]; exact hO2)⟩
      · have h34 : A2 34 p.toNat i.toNat = 2 ∨ A2 34 p.toNat i.toNat = 3 := by rw [far 34 p.toNat i.toNat (by decide)]; exact hkd
        have ht0 := hs9.t0 (by omega)
        have pw8 := hO.part (j := j) (by omega) (by omega)
        have es9 : SJ (j + 1) = SJ j + sw1 A p.toNat (A 39 p.toNat i.toNat).toNat ki so (Int.toNat j) := by rw [hSJ, hSJ]; exact ws1 _ (by omega)
        have sn9 : 0 ≤ SJ j ∧ SJ j ≤ ws (A 4 ki) 0 (Int.toNat j) := by rw [hSJ]; exact nn9 _ (by omega)
        refine m_blk 21 [(6, vi j), (5, vr 1 z5), (0, vr 0 0), (1, vi p), (2, vi i), (3, vr 1 ki), (4, vi so)] [vr 0 0, vi p, vr 0 0] C f_q_splitX_18_3 rfl ?_
        refine m_getr C e_q_splitX_21 fg_Mo_36 rfl (by decide) rfl ?_
        refine m_blk 25 [(6, vi j), (5, vr 1 z5), (0, vr 0 0), (1, vi p), (2, vi i), (3, vr 1 ki), (4, vi so)] [vi p, vr 19 0, vi p, vr 0 0] C f_q_splitX_24_1 rfl ?_
        refine m_aald C p.toNat e_q_splitX_25 rfl rfl rfl (by decide) (by decide) (by omega) (by show p < ((6 : Nat) : Int); omega) (mz _ _) ?_
        refine m_blk 27 [(6, vi j), (5, vr 1 z5), (0, vr 0 0), (1, vi p), (2, vi i), (3, vr 1 ki), (4, vi so)] [vi i, vr 39 p.toNat, vi p, vr 0 0] C f_q_splitX_26_1 rfl ?_
        obtain ⟨x8, hx8⟩ : ∃ x, A2 39 p.toNat i.toNat = x := ⟨_, rfl⟩
        have rx8 : (-1) ≤ x8 ∧ x8 ≤ 119 := mrg hT2 hx8 rfl
        refine m_iald C e_q_splitX_27 rfl (by omega) (by decide) (by omega) (by show i < ((16 : Nat) : Int); omega) x8 hx8 ?_
        refine m_blk 29 [(6, vi j), (5, vr 1 z5), (0, vr 0 0), (1, vi p), (2, vi i), (3, vr 1 ki), (4, vi so)] [vr 1 ki, vi x8, vi p, vr 0 0] C f_q_splitX_28_1 rfl ?_
        refine m_getrN C e_q_splitX_29 fg_Mo_279 rfl (by omega) rfl ?_
        refine m_blk 34 [(6, vi j), (5, vr 1 z5), (0, vr 0 0), (1, vi p), (2, vi i), (3, vr 1 ki), (4, vi so)] [vi j, vr 3 ki, vi x8, vi p, vr 0 0] C f_q_splitX_32_1 rfl ?_
        obtain ⟨x9, hx9⟩ : ∃ x, A2 3 ki j.toNat = x := ⟨_, rfl⟩
        have rx9 : 0 ≤ x9 ∧ x9 ≤ 9999999 := mrg hT2 hx9 rfl
        refine m_iald C e_q_splitX_34 rfl (by omega) (by decide) (by omega) (by show j < ((301 : Nat) : Int); omega) x9 hx9 ?_
        refine m_callV C Rm Y [vi p, vi x8, vi x9] [] ((q_worthX_ 120) l D B H0 ad _ hT2 M p x8 x9 K2.2.2.2.2 (by show 0 ≤ p ∧ p ≤ 5 ∧ M ≤ 120; omega) (by show 0 ≤ x8 ∧ x8 < M ∧ x8 < ((120 : Nat) : Int); omega) (by show 0 ≤ x9 ∧ x9 ≤ 9999999; omega)) cl_Mo_263 rfl (by decide) rfl rfl e_q_splitX_35 rfl rfl rfl ⟨by decide, by decide⟩ ?_
        rintro v10 A11 ⟨z14, rfl, rfl, raw_hz_n13, raw_hv_n13⟩
        have hz_n13 : -2147483648 ≤ z14 ∧ z14 ≤ 2147483647 := raw_hz_n13
        clear raw_hz_n13
        have hv_n13 : z14 = wv A2 p.toNat x9 120 x8.toNat := raw_hv_n13
        clear raw_hv_n13
        show JM g D ad w0 A2 38 [(6, vi j), (5, vr 1 z5), (0, vr 0 0), (1, vi p), (2, vi i), (3, vr 1 ki), (4, vi so)] [vi z14]
        have ez9 : z14 = wv A p.toNat (A 3 ki (Int.toNat j)) 120 (A 39 p.toNat i.toNat).toNat := by
          rw [← rmT 3 (Int.toNat j) (by decide), hx9, ← far 39 p.toNat i.toNat (by decide), hx8, ← wv_fam (A9 := A2) (A := A) (fun f9 h8 h9 => funext fun j9 => far f9 p.toNat j9 (by omega))]; exact hv_n13
        refine m_if_eq (tgt := 45) C e_q_splitX_38 (by decide) (by omega) (fun c15 => ?_) (fun c15 => ?_)
        · refine m_blk 48 [(6, vi j), (5, vr 1 z5), (0, vr 0 0), (1, vi p), (2, vi i), (3, vr 1 ki), (4, vi so)] [vi so, vi 0] C f_q_splitX_45_2 rfl ?_
          refine m_icmp_ne (tgt := 70) C e_q_splitX_48 (by decide) (by decide) (by omega) (fun c16 => ?_) (fun c16 => ?_)
          · have sp8 := sw1_neg (so := so) ez9 (by simp only [eq_iff_iff]; omega)
            refine m_blk 9 [(6, vi (j + 1)), (5, vr 1 z5), (0, vr 0 0), (1, vi p), (2, vi i), (3, vr 1 ki), (4, vi so)] [] C f_q_splitX_70_2 rfl ?_
            refine m_loc [(6, vi (j + 1)), (5, vr 1 z5), (0, vr 0 0), (1, vi p), (2, vi i), (3, vr 1 ki), (4, vi so)] ⟨rfl, rfl, rfl, rfl, rfl, rfl, rfl, trivial⟩ ?_
            exact ih9 A2 (j + 1) hT2 hE2 (by rw [es9, sp8, Int.add_zero]; exact hO2) (by show 0 ≤ (j + 1) ∧ (j + 1) ≤ A 1 ki 2 ∧ A 1 ki 2 ≤ 301; omega) (by show A2 0 0 33 = u + 1; omega) (by show (400 - (j + 1)) < _; omega)
          · refine m_blk 54 [(6, vi j), (5, vr 1 z5), (0, vr 0 0), (1, vi p), (2, vi i), (3, vr 1 ki), (4, vi so)] [vr 1 ki, vr 1 z5] C f_q_splitX_51_2 rfl ?_
            refine m_getrN C e_q_splitX_54 fg_Mo_279 rfl (by omega) rfl ?_
            refine m_blk 59 [(6, vi j), (5, vr 1 z5), (0, vr 0 0), (1, vi p), (2, vi i), (3, vr 1 ki), (4, vi so)] [vi j, vr 3 ki, vr 1 z5] C f_q_splitX_57_1 rfl ?_
            refine m_iald C e_q_splitX_59 rfl (by omega) (by decide) (by omega) (by show j < ((301 : Nat) : Int); omega) x9 hx9 ?_
            refine m_blk 61 [(6, vi j), (5, vr 1 z5), (0, vr 0 0), (1, vi p), (2, vi i), (3, vr 1 ki), (4, vi so)] [vr 1 ki, vi x9, vr 1 z5] C f_q_splitX_60_1 rfl ?_
            refine m_getrN C e_q_splitX_61 fg_Mo_285 rfl (by omega) rfl ?_
            refine m_blk 66 [(6, vi j), (5, vr 1 z5), (0, vr 0 0), (1, vi p), (2, vi i), (3, vr 1 ki), (4, vi so)] [vi j, vr 4 ki, vi x9, vr 1 z5] C f_q_splitX_64_1 rfl ?_
            obtain ⟨x17, hx17⟩ : ∃ x, A2 4 ki j.toNat = x := ⟨_, rfl⟩
            have rx17 : (-9223372036854775808) ≤ x17 ∧ x17 ≤ 9223372036854775807 := mrg hT2 hx17 rfl
            have ew9 : A 4 ki (Int.toNat j) = x17 := (rmT 4 (Int.toNat j) (by decide)).symm.trans hx17
            rw [ew9] at pw8
            have sp9 := sw1_pos (so := so) ez9 ew9 (by simp only [eq_iff_iff]; omega)
            refine m_lald C e_q_splitX_66 rfl (by omega) (by decide) (by omega) (by show j < ((301 : Nat) : Int); omega) x17 hx17 ?_
            refine m_callV C Rm Y [vi x9, vl x17] [] (q_come l D B H0 ad _ hT2 z5 (SJ j) x9 x17 (by show z5 < 200; omega) hO2 (by show 0 ≤ x9 ∧ x9 ≤ 9999999; omega) (by show 0 ≤ x17 ∧ 0 ≤ (SJ j) ∧ (SJ j) + x17 ≤ 1125899906842624; omega)) cl_Mo_289 rfl (by omega) rfl rfl e_q_splitX_67 rfl rfl rfl ⟨by decide, by decide⟩ ?_
            rintro v18 A19 ⟨rfl, hT_n21, hE_n21, raw_hO_n21⟩
            have hF_n21 := hE2.trans (hE_n21.sub (cm_dm (by omega)))
            have hO_n21 : oG A19 z5 ((SJ j) + x17) := raw_hO_n21
            clear raw_hO_n21
            show JM g D ad w0 A19 70 [(6, vi j), (5, vr 1 z5), (0, vr 0 0), (1, vi p), (2, vi i), (3, vr 1 ki), (4, vi so)] []
            have ku_n21 : A19 0 0 33 = u + 1 := (hE_n21 0 0 33 rfl).trans hu2
            refine m_blk 9 [(6, vi (j + 1)), (5, vr 1 z5), (0, vr 0 0), (1, vi p), (2, vi i), (3, vr 1 ki), (4, vi so)] [] C f_q_splitX_70_2 rfl ?_
            refine m_loc [(6, vi (j + 1)), (5, vr 1 z5), (0, vr 0 0), (1, vi p), (2, vi i), (3, vr 1 ki), (4, vi so)] ⟨rfl, rfl, rfl, rfl, rfl, rfl, rfl, trivial⟩ ?_
            exact ih9 A19 (j + 1) hT_n21 hF_n21 (by rw [es9, sp9]; exact hO_n21) (by show 0 ≤ (j + 1) ∧ (j + 1) ≤ A 1 ki 2 ∧ A 1 ki 2 ≤ 301; omega) (by show A19 0 0 33 = u + 1; omega) (by show (400 - (j + 1)) < _; omega)
        · refine m_blk 46 [(6, vi j), (5, vr 1 z5), (0, vr 0 0), (1, vi p), (2, vi i), (3, vr 1 ki), (4, vi so)] [vi 1] C f_q_splitX_41_2 rfl ?_
          refine m_blk 48 [(6, vi j), (5, vr 1 z5), (0, vr 0 0), (1, vi p), (2, vi i), (3, vr 1 ki), (4, vi so)] [vi so, vi 1] C f_q_splitX_46_1 rfl ?_
          refine m_icmp_ne (tgt := 70) C e_q_splitX_48 (by decide) (by decide) (by omega) (fun c22 => ?_) (fun c22 => ?_)
          · have sp8 := sw1_neg (so := so) ez9 (by simp only [eq_iff_iff]; omega)
            refine m_blk 9 [(6, vi (j + 1)), (5, vr 1 z5), (0, vr 0 0), (1, vi p), (2, vi i), (3, vr 1 ki), (4, vi so)] [] C f_q_splitX_70_2 rfl ?_
            refine m_loc [(6, vi (j + 1)), (5, vr 1 z5), (0, vr 0 0), (1, vi p), (2, vi i), (3, vr 1 ki), (4, vi so)] ⟨rfl, rfl, rfl, rfl, rfl, rfl, rfl, trivial⟩ ?_
            exact ih9 A2 (j + 1) hT2 hE2 (by rw [es9, sp8, Int.add_zero]; exact hO2) (by show 0 ≤ (j + 1) ∧ (j + 1) ≤ A 1 ki 2 ∧ A 1 ki 2 ≤ 301; omega) (by show A2 0 0 33 = u + 1; omega) (by show (400 - (j + 1)) < _; omega)
          · refine m_blk 54 [(6, vi j), (5, vr 1 z5), (0, vr 0 0), (1, vi p), (2, vi i), (3, vr 1 ki), (4, vi so)] [vr 1 ki, vr 1 z5] C f_q_splitX_51_2 rfl ?_
            refine m_getrN C e_q_splitX_54 fg_Mo_279 rfl (by omega) rfl ?_
            refine m_blk 59 [(6, vi j), (5, vr 1 z5), (0, vr 0 0), (1, vi p), (2, vi i), (3, vr 1 ki), (4, vi so)] [vi j, vr 3 ki, vr 1 z5] C f_q_splitX_57_1 rfl ?_
            refine m_iald C e_q_splitX_59 rfl (by omega) (by decide) (by omega) (by show j < ((301 : Nat) : Int); omega) x9 hx9 ?_
            refine m_blk 61 [(6, vi j), (5, vr 1 z5), (0, vr 0 0), (1, vi p), (2, vi i), (3, vr 1 ki), (4, vi so)] [vr 1 ki, vi x9, vr 1 z5] C f_q_splitX_60_1 rfl ?_
            refine m_getrN C e_q_splitX_61 fg_Mo_285 rfl (by omega) rfl ?_
            refine m_blk 66 [(6, vi j), (5, vr 1 z5), (0, vr 0 0), (1, vi p), (2, vi i), (3, vr 1 ki), (4, vi so)] [vi j, vr 4 ki, vi x9, vr 1 z5] C f_q_splitX_64_1 rfl ?_
            obtain ⟨x23, hx23⟩ : ∃ x, A2 4 ki j.toNat = x := ⟨_, rfl⟩
            have rx23 : (-9223372036854775808) ≤ x23 ∧ x23 ≤ 9223372036854775807 := mrg hT2 hx23 rfl
            have ew9 : A 4 ki (Int.toNat j) = x23 := (rmT 4 (Int.toNat j) (by decide)).symm.trans hx23
            rw [ew9] at pw8
            have sp9 := sw1_pos (so := so) ez9 ew9 (by simp only [eq_iff_iff]; omega)
            refine m_lald C e_q_splitX_66 rfl (by omega) (by decide) (by omega) (by show j < ((301 : Nat) : Int); omega) x23 hx23 ?_
            refine m_callV C Rm Y [vi x9, vl x23] [] (q_come l D B H0 ad _ hT2 z5 (SJ j) x9 x23 (by show z5 < 200; omega) hO2 (by show 0 ≤ x9 ∧ x9 ≤ 9999999; omega) (by show 0 ≤ x23 ∧ 0 ≤ (SJ j) ∧ (SJ j) + x23 ≤ 1125899906842624; omega)) cl_Mo_289 rfl (by omega) rfl rfl e_q_splitX_67 rfl rfl rfl ⟨by decide, by decide⟩ ?_
            rintro v24 A25 ⟨rfl, hT_n27, hE_n27, raw_hO_n27⟩
            have hF_n27 := hE2.trans (hE_n27.sub (cm_dm (by omega)))
            have hO_n27 : oG A25 z5 ((SJ j) + x23) := raw_hO_n27
            clear raw_hO_n27
            show JM g D ad w0 A25 70 [(6, vi j), (5, vr 1 z5), (0, vr 0 0), (1, vi p), (2, vi i), (3, vr 1 ki), (4, vi so)] []
            have ku_n27 : A25 0 0 33 = u + 1 := (hE_n27 0 0 33 rfl).trans hu2
            refine m_blk 9 [(6, vi (j + 1)), (5, vr 1 z5), (0, vr 0 0), (1, vi p), (2, vi i), (3, vr 1 ki), (4, vi so)] [] C f_q_splitX_70_2 rfl ?_
            refine m_loc [(6, vi (j + 1)), (5, vr 1 z5), (0, vr 0 0), (1, vi p), (2, vi i), (3, vr 1 ki), (4, vi so)] ⟨rfl, rfl, rfl, rfl, rfl, rfl, rfl, trivial⟩ ?_
            exact ih9 A25 (j + 1) hT_n27 hF_n27 (by rw [es9, sp9]; exact hO_n27) (by show 0 ≤ (j + 1) ∧ (j + 1) ≤ A 1 ki 2 ∧ A 1 ki 2 ≤ 301; omega) (by show A25 0 0 33 = u + 1; omega) (by show (400 - (j + 1)) < _; omega)
  refine m_loc [(6, vi 0), (5, vr 1 z5), (0, vr 0 0), (1, vi p), (2, vi i), (3, vr 1 ki), (4, vi so)] ⟨rfl, rfl, rfl, rfl, rfl, rfl, rfl, trivial⟩ ?_
  exact hd_9 (Int.toNat ((400 - 0)) + 1) A2 0 hT_n4 hF_n4 (by rw [hSJ]; exact oG.nil hm_n4) (by show 0 ≤ 0 ∧ 0 ≤ A 1 ki 2 ∧ A 1 ki 2 ≤ 301; omega) (by show A2 0 0 33 = u + 1; omega) (by show (400 - 0) < _; omega)
