/-! the reference: odds (own work, by program) -/
/-- odds k are in order: weights of 1 or more, T at most in all -/
def oG (A : mA) (k : Nat) (T : Int) : Prop := (∀ v : Nat, (v : Int) < A 1 k 2 → 1 ≤ A 4 k v) ∧ ws (A 4 k) 0 (A 1 k 2).toNat ≤ T
theorem ws_nn {w : Nat → Int} : ∀ n : Nat, (∀ v, v < n → 1 ≤ w v) → (n : Int) ≤ ws w 0 n
  | 0, _ => Int.le_refl _
  | n + 1, h => by
    have h1 := ws_nn n (fun v hv => h v (by omega))
    have h2 := h n (by omega)
    show ((n + 1 : Nat) : Int) ≤ ws w 0 n + w (0 + n)
    rw [Nat.zero_add]
    omega
theorem ws_el {w : Nat → Int} : ∀ n v : Nat, v < n → (∀ v, v < n → 1 ≤ w v) → w v ≤ ws w 0 n
  | 0, _, hv, _ => absurd hv (by omega)
  | n + 1, v, hv, h => by
    show w v ≤ ws w 0 n + w (0 + n)
    rw [Nat.zero_add]
    have h2 := h n (by omega)
    by_cases c : v = n
    · subst c
      have := ws_nn v (fun x hx => h x (by omega))
      omega
    · have := ws_el n v (by omega) (fun x hx => h x (by omega))
      omega
theorem oG.tot {A : mA} {k : Nat} {T : Int} (h : oG A k T) (hm : 0 ≤ A 1 k 2) : A 1 k 2 ≤ ws (A 4 k) 0 (A 1 k 2).toNat ∧ ws (A 4 k) 0 (A 1 k 2).toNat ≤ T := by
  have := ws_nn (w := A 4 k) (A 1 k 2).toNat (fun v hv => h.1 v (by omega))
  exact ⟨by omega, h.2⟩
theorem oG.el {A : mA} {k v : Nat} {T : Int} (h : oG A k T) (hv : (v : Int) < A 1 k 2) : 1 ≤ A 4 k v ∧ A 4 k v ≤ T := by
  have := ws_el (w := A 4 k) (A 1 k 2).toNat v (by omega) (fun x hx => h.1 x (by omega))
  have h2 := h.2
  exact ⟨h.1 v hv, by omega⟩
theorem oG.le {A : mA} {k : Nat} {T T' : Int} (h : oG A k T) (hT : T ≤ T') : oG A k T' := ⟨h.1, by have := h.2; omega⟩
theorem oG.eq {A A9 : mA} {k : Nat} {T : Int} (h : oG A k T) (e1 : A9 1 k 2 = A 1 k 2) (e2 : A9 4 k = A 4 k) : oG A9 k T := by
  unfold oG
  rw [e1, e2]
  exact h
theorem oG.nil {A : mA} {k : Nat} (h : A 1 k 2 = 0) : oG A k 0 := by
  refine ⟨fun v hv => by omega, ?_⟩
  rw [h]
  exact Int.le_refl _
theorem ws_up {w w' : Nat → Int} {l : Nat} {x : Int} (he : ∀ v, v ≠ l → w' v = w v) (hl : w' l = w l + x) : ∀ n : Nat, ws w' 0 n = ws w 0 n + (if l < n then x else 0)
  | 0 => by simp [ws]
  | n + 1 => by
    show ws w' 0 n + w' (0 + n) = ws w 0 n + w (0 + n) + _
    rw [Nat.zero_add, ws_up he hl n]
    by_cases c : n = l
    · subst c
      rw [hl, if_neg (by omega), if_pos (by omega)]
      omega
    · rw [he n c]
      by_cases d : l < n
      · rw [if_pos d, if_pos (by omega)]; omega
      · rw [if_neg d, if_neg (by omega)]; omega
theorem oG.add {A : mA} {k : Nat} {T w y low : Int} (h : oG A k T) (h0 : 0 ≤ low) (h1 : low < A 1 k 2) (hy : A 4 k low.toNat = y) (hw : 0 ≤ w) : oG (mu A 4 k low.toNat (y + w)) k (T + w) := by
  have e1 : mu A 4 k low.toNat (y + w) 1 k 2 = A 1 k 2 := mu_ne _ _ (fun q => absurd q.1 (by decide))
  have e2 : ∀ v, v ≠ low.toNat → mu A 4 k low.toNat (y + w) 4 k v = A 4 k v := fun v hv => mu_ne _ _ (fun q => hv q.2.2)
  have e3 : mu A 4 k low.toNat (y + w) 4 k low.toNat = A 4 k low.toNat + w := by rw [mu_at, hy]
  refine ⟨fun v hv => ?_, ?_⟩
  · rw [e1] at hv
    by_cases c : v = low.toNat
    · subst c
      rw [e3]
      have := h.1 low.toNat hv
      omega
    · rw [e2 v c]
      exact h.1 v hv
  · rw [e1, ws_up e2 e3, if_pos (by omega)]
    have := h.2
    omega
theorem ws_ins {w w' : Nat → Int} {l : Nat} {x : Int} (h1 : ∀ v, v < l → w' v = w v) (h2 : w' l = x) : ∀ n : Nat, l ≤ n → (∀ v, l ≤ v → v < n → w' (v + 1) = w v) → ws w' 0 (n + 1) = ws w 0 n + x
  | 0, hl, _ => by
    have : l = 0 := by omega
    subst this
    show 0 + w' (0 + 0) = 0 + x
    rw [Nat.zero_add, h2]
  | n + 1, hl, h3 => by
    by_cases c : l = n + 1
    · subst c
      show ws w' 0 (n + 1) + w' (0 + (n + 1)) = _
      rw [Nat.zero_add, h2, ws_congr (w' := w') (w := w) (n + 1) (fun k _ hk => h1 k (by omega))]
    · show ws w' 0 (n + 1) + w' (0 + (n + 1)) = ws w 0 n + w (0 + n) + x
      rw [Nat.zero_add, Nat.zero_add, ws_ins h1 h2 n (by omega) (fun v a b => h3 v a (by omega)), h3 n (by omega) (by omega)]
      omega
theorem oG.ins {A : mA} {k : Nat} {T s w low m : Int} (h : oG A k T) (hm : A 1 k 2 = m) (h0 : 0 ≤ low) (h1 : low ≤ m) (hw : 1 ≤ w) : oG (mu (mu (mu (mcp (mcp A 3 k low.toNat 3 k (low + 1).toNat (m - low).toNat) 4 k low.toNat 4 k (low + 1).toNat (m - low).toNat) 3 k low.toNat s) 4 k low.toNat w) 1 k 2 (m + 1)) k (T + w) := by
  obtain ⟨A9, hA9⟩ : ∃ A9, A9 = mu (mu (mu (mcp (mcp A 3 k low.toNat 3 k (low + 1).toNat (m - low).toNat) 4 k low.toNat 4 k (low + 1).toNat (m - low).toNat) 3 k low.toNat s) 4 k low.toNat w) 1 k 2 (m + 1) := ⟨_, rfl⟩
  rw [← hA9]
  have e1 : A9 1 k 2 = m + 1 := by rw [hA9]; exact mu_at _ _ _ _ _
  have e2 : ∀ v, v ≠ low.toNat → A9 4 k v = mcp (mcp A 3 k low.toNat 3 k (low + 1).toNat (m - low).toNat) 4 k low.toNat 4 k (low + 1).toNat (m - low).toNat 4 k v := fun v hv => by
    rw [hA9, mu_ne _ _ (fun q => absurd q.1 (by decide)), mu_ne _ _ (fun q => hv q.2.2), mu_ne _ _ (fun q => absurd q.1 (by decide))]
  have e3 : A9 4 k low.toNat = w := by
    rw [hA9, mu_ne _ _ (fun q => absurd q.1 (by decide)), mu_at]
  have e4 : ∀ v, mcp A 3 k low.toNat 3 k (low + 1).toNat (m - low).toNat 4 k v = A 4 k v := fun v => by
    unfold mcp
    rw [if_neg (fun q => absurd q.1 (by decide))]
  have e5 : ∀ v, v < low.toNat → A9 4 k v = A 4 k v := fun v hv => by
    rw [e2 v (by omega)]
    unfold mcp
    rw [if_neg (fun q => by have := q.2.2.1; omega)]
    exact e4 v
  have e6 : ∀ v, low.toNat ≤ v → v < m.toNat → A9 4 k (v + 1) = A 4 k v := fun v h5 h6 => by
    rw [e2 (v + 1) (by omega)]
    unfold mcp
    rw [if_pos ⟨rfl, rfl, by omega, by omega⟩]
    have : low.toNat + (v + 1 - (low + 1).toNat) = v := by omega
    rw [this]
    exact e4 v
  have hm0 : (A 1 k 2).toNat = m.toNat := by rw [hm]
  refine ⟨fun v hv => ?_, ?_⟩
  · rw [e1] at hv
    by_cases c : v = low.toNat
    · subst c; rw [e3]; exact hw
    · by_cases d : v < low.toNat
      · rw [e5 v d]; exact h.1 v (by omega)
      · have := e6 (v - 1) (by omega) (by omega)
        rw [show v - 1 + 1 = v by omega] at this
        rw [this]
        exact h.1 _ (by omega)
  · have : (A9 1 k 2).toNat = m.toNat + 1 := by rw [e1]; omega
    rw [this, ws_ins e5 e3 m.toNat (by omega) e6]
    have := h.2
    rw [hm0] at this
    omega
theorem oG.bec {A : mA} {k o : Nat} {T x : Int} (h : oG A o T) (hx : A 1 o 2 = x) (h0 : 0 ≤ x) : oG (mcp (mcp (mu A 1 k 2 x) 3 o 0 3 k 0 x.toNat) 4 o 0 4 k 0 x.toNat) k T := by
  have e1 : mcp (mcp (mu A 1 k 2 x) 3 o 0 3 k 0 x.toNat) 4 o 0 4 k 0 x.toNat 1 k 2 = x := by
    unfold mcp
    rw [if_neg (fun q => absurd q.1 (by decide)), if_neg (fun q => absurd q.1 (by decide))]
    exact mu_at _ _ _ _ _
  have e2 : ∀ v, v < x.toNat → mcp (mcp (mu A 1 k 2 x) 3 o 0 3 k 0 x.toNat) 4 o 0 4 k 0 x.toNat 4 k v = A 4 o v := fun v hv => by
    unfold mcp
    rw [if_pos ⟨rfl, rfl, by omega, by omega⟩, if_neg (fun q => absurd q.1 (by decide)), mu_ne _ _ (fun q => absurd q.1 (by decide))]
    congr 1
    omega
  refine ⟨fun v hv => ?_, ?_⟩
  · rw [e1] at hv
    rw [e2 v (by omega)]
    exact h.1 v (by omega)
  · rw [e1, ws_congr (w := A 4 o) _ (fun v _ hv => e2 v (by omega)), ← hx]
    exact h.2
def cm (k f k2 j : Nat) : Bool := (f == 1 && (k2 == k && j == 2)) || ((f == 3 || f == 4) && k2 == k)
theorem f_q_come_0_2 : mblkB b_Odds_come [(0, .lload_n 2, vi 0), (1, .lconst 0, vl 0)] = true := by decide +kernel
theorem e_q_come_2 : decode b_Odds_come 2 = .ok (.lcmp, 1) := by decide +kernel
theorem e_q_come_3 : decode b_Odds_come 3 = .ok (.ifCond .ne 4, 3) := by decide +kernel
theorem f_q_come_7_3 : mblkB b_Odds_come [(7, .iconst 0, vi 0), (8, .istore 4, vi 0), (10, .aload_n 0, vi 0)] = true := by decide +kernel
theorem e_q_come_11 : decode b_Odds_come 11 = .ok (.getfield 19, 3) := by decide +kernel
theorem f_q_come_14_1 : mblkB b_Odds_come [(14, .istore 5, vi 0)] = true := by decide +kernel
theorem f_q_come_16_2 : mblkB b_Odds_come [(16, .iload 4, vi 0), (18, .iload 5, vi 0)] = true := by decide +kernel
theorem e_q_come_20 : decode b_Odds_come 20 = .ok (.if_icmp .ge 39, 3) := by decide +kernel
theorem f_q_come_59_2 : mblkB b_Odds_come [(59, .iload 4, vi 0), (61, .aload_n 0, vi 0)] = true := by decide +kernel
theorem e_q_come_62 : decode b_Odds_come 62 = .ok (.getfield 19, 3) := by decide +kernel
theorem e_q_come_65 : decode b_Odds_come 65 = .ok (.if_icmp .ge 26, 3) := by decide +kernel
theorem f_q_come_91_1 : mblkB b_Odds_come [(91, .aload_n 0, vi 0)] = true := by decide +kernel
theorem e_q_come_92 : decode b_Odds_come 92 = .ok (.getfield 19, 3) := by decide +kernel
theorem f_q_come_95_1 : mblkB b_Odds_come [(95, .sipush 300, vi 300)] = true := by decide +kernel
theorem e_q_come_98 : decode b_Odds_come 98 = .ok (.if_icmp .le 4, 3) := by decide +kernel
theorem f_q_come_102_1 : mblkB b_Odds_come [(102, .aload_n 0, vi 0)] = true := by decide +kernel
theorem e_q_come_103 : decode b_Odds_come 103 = .ok (.getfield 9, 3) := by decide +kernel
theorem f_q_come_106_2 : mblkB b_Odds_come [(106, .iload 4, vi 0), (108, .aload_n 0, vi 0)] = true := by decide +kernel
theorem e_q_come_109 : decode b_Odds_come 109 = .ok (.getfield 9, 3) := by decide +kernel
theorem f_q_come_112_4 : mblkB b_Odds_come [(112, .iload 4, vi 0), (114, .iconst 1, vi 1), (115, .iadd, vi 0), (116, .aload_n 0, vi 0)] = true := by decide +kernel
theorem e_q_come_117 : decode b_Odds_come 117 = .ok (.getfield 19, 3) := by decide +kernel
theorem f_q_come_120_2 : mblkB b_Odds_come [(120, .iload 4, vi 0), (122, .isub, vi 0)] = true := by decide +kernel
theorem e_q_come_123 : decode b_Odds_come 123 = .ok (.invokestatic 23, 3) := by decide +kernel
theorem f_q_come_126_1 : mblkB b_Odds_come [(126, .aload_n 0, vi 0)] = true := by decide +kernel
theorem e_q_come_127 : decode b_Odds_come 127 = .ok (.getfield 15, 3) := by decide +kernel
theorem f_q_come_130_2 : mblkB b_Odds_come [(130, .iload 4, vi 0), (132, .aload_n 0, vi 0)] = true := by decide +kernel
theorem e_q_come_133 : decode b_Odds_come 133 = .ok (.getfield 15, 3) := by decide +kernel
theorem f_q_come_136_4 : mblkB b_Odds_come [(136, .iload 4, vi 0), (138, .iconst 1, vi 1), (139, .iadd, vi 0), (140, .aload_n 0, vi 0)] = true := by decide +kernel
theorem e_q_come_141 : decode b_Odds_come 141 = .ok (.getfield 19, 3) := by decide +kernel
theorem f_q_come_144_2 : mblkB b_Odds_come [(144, .iload 4, vi 0), (146, .isub, vi 0)] = true := by decide +kernel
theorem e_q_come_147 : decode b_Odds_come 147 = .ok (.invokestatic 23, 3) := by decide +kernel
theorem f_q_come_150_1 : mblkB b_Odds_come [(150, .aload_n 0, vi 0)] = true := by decide +kernel
theorem e_q_come_151 : decode b_Odds_come 151 = .ok (.getfield 9, 3) := by decide +kernel
theorem f_q_come_154_2 : mblkB b_Odds_come [(154, .iload 4, vi 0), (156, .iload_n 1, vi 0)] = true := by decide +kernel
theorem e_q_come_157 : decode b_Odds_come 157 = .ok (.iastore, 1) := by decide +kernel
theorem f_q_come_158_1 : mblkB b_Odds_come [(158, .aload_n 0, vi 0)] = true := by decide +kernel
theorem e_q_come_159 : decode b_Odds_come 159 = .ok (.getfield 15, 3) := by decide +kernel
theorem f_q_come_162_2 : mblkB b_Odds_come [(162, .iload 4, vi 0), (164, .lload_n 2, vi 0)] = true := by decide +kernel
theorem e_q_come_165 : decode b_Odds_come 165 = .ok (.lastore, 1) := by decide +kernel
theorem f_q_come_166_2 : mblkB b_Odds_come [(166, .aload_n 0, vi 0), (167, .dup, vi 0)] = true := by decide +kernel
theorem e_q_come_168 : decode b_Odds_come 168 = .ok (.getfield 19, 3) := by decide +kernel
theorem f_q_come_171_2 : mblkB b_Odds_come [(171, .iconst 1, vi 1), (172, .iadd, vi 0)] = true := by decide +kernel
theorem e_q_come_173 : decode b_Odds_come 173 = .ok (.putfield 19, 3) := by decide +kernel
theorem e_q_come_176 : decode b_Odds_come 176 = .ok (.return_, 1) := by decide +kernel
theorem e_q_come_101 : decode b_Odds_come 101 = .ok (.return_, 1) := by decide +kernel
theorem f_q_come_68_1 : mblkB b_Odds_come [(68, .aload_n 0, vi 0)] = true := by decide +kernel
theorem e_q_come_69 : decode b_Odds_come 69 = .ok (.getfield 9, 3) := by decide +kernel
theorem f_q_come_72_1 : mblkB b_Odds_come [(72, .iload 4, vi 0)] = true := by decide +kernel
theorem e_q_come_74 : decode b_Odds_come 74 = .ok (.iaload, 1) := by decide +kernel
theorem f_q_come_75_1 : mblkB b_Odds_come [(75, .iload_n 1, vi 0)] = true := by decide +kernel
theorem e_q_come_76 : decode b_Odds_come 76 = .ok (.if_icmp .ne 15, 3) := by decide +kernel
theorem f_q_come_79_1 : mblkB b_Odds_come [(79, .aload_n 0, vi 0)] = true := by decide +kernel
theorem e_q_come_80 : decode b_Odds_come 80 = .ok (.getfield 15, 3) := by decide +kernel
theorem f_q_come_83_2 : mblkB b_Odds_come [(83, .iload 4, vi 0), (85, .dup2, vi 0)] = true := by decide +kernel
theorem e_q_come_86 : decode b_Odds_come 86 = .ok (.laload, 1) := by decide +kernel
theorem f_q_come_87_2 : mblkB b_Odds_come [(87, .lload_n 2, vi 0), (88, .ladd, vi 0)] = true := by decide +kernel
theorem e_q_come_89 : decode b_Odds_come 89 = .ok (.lastore, 1) := by decide +kernel
theorem e_q_come_90 : decode b_Odds_come 90 = .ok (.return_, 1) := by decide +kernel
theorem f_q_come_23_4 : mblkB b_Odds_come [(23, .iload 4, vi 0), (25, .iload 5, vi 0), (27, .iadd, vi 0), (28, .iconst 2, vi 2)] = true := by decide +kernel
theorem e_q_come_29 : decode b_Odds_come 29 = .ok (.idiv, 1) := by decide +kernel
theorem f_q_come_30_2 : mblkB b_Odds_come [(30, .istore 6, vi 0), (32, .aload_n 0, vi 0)] = true := by decide +kernel
theorem e_q_come_33 : decode b_Odds_come 33 = .ok (.getfield 9, 3) := by decide +kernel
theorem f_q_come_36_1 : mblkB b_Odds_come [(36, .iload 6, vi 0)] = true := by decide +kernel
theorem e_q_come_38 : decode b_Odds_come 38 = .ok (.iaload, 1) := by decide +kernel
theorem f_q_come_39_1 : mblkB b_Odds_come [(39, .iload_n 1, vi 0)] = true := by decide +kernel
theorem e_q_come_40 : decode b_Odds_come 40 = .ok (.if_icmp .ge 12, 3) := by decide +kernel
theorem f_q_come_52_3 : mblkB b_Odds_come [(52, .iload 6, vi 0), (54, .istore 5, vi 0), (56, .goto (-40), vi 16)] = true := by decide +kernel
theorem f_q_come_43_5 : mblkB b_Odds_come [(43, .iload 6, vi 0), (45, .iconst 1, vi 1), (46, .iadd, vi 0), (47, .istore 4, vi 0), (49, .goto 7, vi 56)] = true := by decide +kernel
theorem f_q_come_56_1 : mblkB b_Odds_come [(56, .goto (-40), vi 16)] = true := by decide +kernel
theorem e_q_come_6 : decode b_Odds_come 6 = .ok (.return_, 1) := by decide +kernel
set_option maxHeartbeats 40000000 in
set_option maxRecDepth 100000 in
theorem q_come (l : Launch) (D : va_G) (B : Nat) (H0 : Heap) (ad : mAd) (A : mA) (hT : mTy A) (k : Nat) (T : Int) (s : Int) (w : Int) (hk : k < 200) (hO : oG A k T) (hs : 0 ≤ s ∧ s ≤ 9999999) (hw : 0 ≤ w ∧ 0 ≤ T ∧ T + w ≤ 1125899906842624)  : mMet l D B H0 ad y_Odds_come b_Odds_come 7 none 1 100 [vr 1 k, vi s, vl w] A (fun v9 A9 => v9 = none ∧ mTy A9 ∧ mEq (cm k) A A9 ∧ (oG A9 k (T + w))) := by
  refine m_met (by decide) rfl (fun g w0 C Rm Y E => ?_)
  have hE0 : mEq (cm k) A A := mEq.rfl'
  show JM g D ad w0 A 0 [(0, vr 1 k), (1, vi s), (2, vl w)] []
  refine m_blk 2 [(0, vr 1 k), (1, vi s), (2, vl w)] [vl 0, vl w] C f_q_come_0_2 rfl ?_
  refine m_lcmp C e_q_come_2 (by omega) (by decide) (fun z1 hz1 => ?_)
  refine m_if_ne (tgt := 7) C e_q_come_3 (by decide) (by omega) (fun c2 => ?_) (fun c2 => ?_)
  · refine m_blk 11 [(4, vi 0), (0, vr 1 k), (1, vi s), (2, vl w)] [vr 1 k] C f_q_come_7_3 rfl ?_
    obtain ⟨x3, hx3⟩ : ∃ x, A 1 k 2 = x := ⟨_, rfl⟩
    have rx3 : 0 ≤ x3 ∧ x3 ≤ 301 := mrg hT hx3 rfl
    refine m_geti C e_q_come_11 fg_Odds_19 rfl (by omega) rfl x3 hx3 ?_
    refine m_blk 16 [(5, vi x3), (4, vi 0), (0, vr 1 k), (1, vi s), (2, vl w)] [] C f_q_come_14_1 rfl ?_
    have hd_16 : ∀ (NZ : Nat) (lo : Int) (hi : Int), 0 ≤ lo ∧ lo ≤ hi ∧ hi ≤ A 1 k 2 ∧ A 1 k 2 ≤ 301 → (hi - lo) < (NZ : Int) → JM g D ad w0 A 16 [(4, vi lo), (5, vi hi), (0, vr 1 k), (1, vi s), (2, vl w)] [] := by
      intro NZ
      induction NZ with
      | zero => intro lo hi h0 hm; exact absurd hm (by omega)
      | succ NZ ih =>
        intro lo hi h0 hm
        refine m_blk 20 [(4, vi lo), (5, vi hi), (0, vr 1 k), (1, vi s), (2, vl w)] [vi hi, vi lo] C f_q_come_16_2 rfl ?_
        refine m_icmp_ge (tgt := 59) C e_q_come_20 (by decide) (by omega) (by omega) (fun c4 => ?_) (fun c4 => ?_)
        · refine m_blk 62 [(4, vi lo), (5, vi hi), (0, vr 1 k), (1, vi s), (2, vl w)] [vr 1 k, vi lo] C f_q_come_59_2 rfl ?_
          refine m_geti C e_q_come_62 fg_Odds_19 rfl (by omega) rfl x3 hx3 ?_
          refine m_icmp_ge (tgt := 91) C e_q_come_65 (by decide) (by omega) (by omega) (fun c5 => ?_) (fun c5 => ?_)
          · refine m_blk 92 [(4, vi lo), (5, vi hi), (0, vr 1 k), (1, vi s), (2, vl w)] [vr 1 k] C f_q_come_91_1 rfl ?_
            refine m_geti C e_q_come_92 fg_Odds_19 rfl (by omega) rfl x3 hx3 ?_
            refine m_blk 98 [(4, vi lo), (5, vi hi), (0, vr 1 k), (1, vi s), (2, vl w)] [vi 300, vi x3] C f_q_come_95_1 rfl ?_
            refine m_icmp_le (tgt := 102) C e_q_come_98 (by decide) (by omega) (by decide) (fun c6 => ?_) (fun c6 => ?_)
            · refine m_blk 103 [(4, vi lo), (5, vi hi), (0, vr 1 k), (1, vi s), (2, vl w)] [vr 1 k] C f_q_come_102_1 rfl ?_
              refine m_getr C e_q_come_103 fg_Odds_9 rfl (by omega) rfl ?_
              refine m_blk 109 [(4, vi lo), (5, vi hi), (0, vr 1 k), (1, vi s), (2, vl w)] [vr 1 k, vi lo, vr 3 k] C f_q_come_106_2 rfl ?_
              refine m_getr C e_q_come_109 fg_Odds_9 rfl (by omega) rfl ?_
              refine m_blk 117 [(4, vi lo), (5, vi hi), (0, vr 1 k), (1, vi s), (2, vl w)] [vr 1 k, vi (lo + 1), vr 3 k, vi lo, vr 3 k] C f_q_come_112_4 rfl ?_
              refine m_geti C e_q_come_117 fg_Odds_19 rfl (by omega) rfl x3 hx3 ?_
              refine m_blk 123 [(4, vi lo), (5, vi hi), (0, vr 1 k), (1, vi s), (2, vl w)] [vi (x3 - lo), vi (lo + 1), vr 3 k, vi lo, vr 3 k] C f_q_come_120_2 rfl ?_
              refine m_copyi C Rm cl_Odds_23 e_q_come_123 rfl (by omega) rfl (by omega) (by decide) (by omega) (by omega) (by omega) (by show _ ≤ ((301 : Nat) : Int); omega) (by show _ ≤ ((301 : Nat) : Int); omega) (by decide) (Nat.le_of_ble_eq_true rfl) ?_
              have t7 : mTy (mcp A 3 k lo.toNat 3 k ((lo + 1).toNat) ((x3 - lo).toNat)) := hT.cp (fun _ _ => rfl)
              have q8 : mEq (cm k) A (mcp A 3 k lo.toNat 3 k ((lo + 1).toNat) ((x3 - lo).toNat)) := hE0.cp (by intro j; simp [cm])
              refine m_blk 127 [(4, vi lo), (5, vi hi), (0, vr 1 k), (1, vi s), (2, vl w)] [vr 1 k] C f_q_come_126_1 rfl ?_
              refine m_getr C e_q_come_127 fg_Odds_15 rfl (by omega) rfl ?_
              refine m_blk 133 [(4, vi lo), (5, vi hi), (0, vr 1 k), (1, vi s), (2, vl w)] [vr 1 k, vi lo, vr 4 k] C f_q_come_130_2 rfl ?_
              refine m_getr C e_q_come_133 fg_Odds_15 rfl (by omega) rfl ?_
              refine m_blk 141 [(4, vi lo), (5, vi hi), (0, vr 1 k), (1, vi s), (2, vl w)] [vr 1 k, vi (lo + 1), vr 4 k, vi lo, vr 4 k] C f_q_come_136_4 rfl ?_
              refine m_geti C e_q_come_141 fg_Odds_19 rfl (by omega) rfl x3 hx3 ?_
              refine m_blk 147 [(4, vi lo), (5, vi hi), (0, vr 1 k), (1, vi s), (2, vl w)] [vi (x3 - lo), vi (lo + 1), vr 4 k, vi lo, vr 4 k] C f_q_come_144_2 rfl ?_
              refine m_copyl C Rm cl_Odds_23 e_q_come_147 rfl (by omega) rfl (by omega) (by decide) (by omega) (by omega) (by omega) (by show _ ≤ ((301 : Nat) : Int); omega) (by show _ ≤ ((301 : Nat) : Int); omega) (by decide) (Nat.le_of_ble_eq_true rfl) ?_
              have t9 : mTy (mcp (mcp A 3 k lo.toNat 3 k ((lo + 1).toNat) ((x3 - lo).toNat)) 4 k lo.toNat 4 k ((lo + 1).toNat) ((x3 - lo).toNat)) := t7.cp (fun _ _ => rfl)
              have q10 : mEq (cm k) A (mcp (mcp A 3 k lo.toNat 3 k ((lo + 1).toNat) ((x3 - lo).toNat)) 4 k lo.toNat 4 k ((lo + 1).toNat) ((x3 - lo).toNat)) := q8.cp (by intro j; simp [cm])
              refine m_blk 151 [(4, vi lo), (5, vi hi), (0, vr 1 k), (1, vi s), (2, vl w)] [vr 1 k] C f_q_come_150_1 rfl ?_
              refine m_getr C e_q_come_151 fg_Odds_9 rfl (by omega) rfl ?_
              refine m_blk 157 [(4, vi lo), (5, vi hi), (0, vr 1 k), (1, vi s), (2, vl w)] [vi s, vi lo, vr 3 k] C f_q_come_154_2 rfl ?_
              refine m_iast C e_q_come_157 rfl (by omega) (by decide) (by omega) (by show lo < ((301 : Nat) : Int); omega) ?_
              have t11 : mTy (mu (mcp (mcp A 3 k lo.toNat 3 k ((lo + 1).toNat) ((x3 - lo).toNat)) 4 k lo.toNat 4 k ((lo + 1).toNat) ((x3 - lo).toNat)) 3 k lo.toNat s) := t9.mu (by show 0 ≤ s ∧ s ≤ 9999999; omega)
              have q12 := q10.mu (f := 3) (k := k) (j := lo.toNat) (z := s) (by simp [cm])
              refine m_blk 159 [(4, vi lo), (5, vi hi), (0, vr 1 k), (1, vi s), (2, vl w)] [vr 1 k] C f_q_come_158_1 rfl ?_
              refine m_getr C e_q_come_159 fg_Odds_15 rfl (by omega) rfl ?_
              refine m_blk 165 [(4, vi lo), (5, vi hi), (0, vr 1 k), (1, vi s), (2, vl w)] [vl w, vi lo, vr 4 k] C f_q_come_162_2 rfl ?_
              refine m_last C e_q_come_165 rfl (by omega) (by decide) (by omega) (by show lo < ((301 : Nat) : Int); omega) ?_
              have t13 : mTy (mu (mu (mcp (mcp A 3 k lo.toNat 3 k ((lo + 1).toNat) ((x3 - lo).toNat)) 4 k lo.toNat 4 k ((lo + 1).toNat) ((x3 - lo).toNat)) 3 k lo.toNat s) 4 k lo.toNat w) := t11.mu (by show (-9223372036854775808) ≤ w ∧ w ≤ 9223372036854775807; omega)
              have q14 := q12.mu (f := 4) (k := k) (j := lo.toNat) (z := w) (by simp [cm])
              refine m_blk 168 [(4, vi lo), (5, vi hi), (0, vr 1 k), (1, vi s), (2, vl w)] [vr 1 k, vr 1 k] C f_q_come_166_2 rfl ?_
              refine m_geti C e_q_come_168 fg_Odds_19 rfl (by omega) rfl x3 hx3 ?_
              refine m_blk 173 [(4, vi lo), (5, vi hi), (0, vr 1 k), (1, vi s), (2, vl w)] [vi (x3 + 1), vr 1 k] C f_q_come_171_2 rfl ?_
              refine m_puti C e_q_come_173 fp_Odds_19 rfl (by omega) rfl ?_
              have t15 : mTy (mu (mu (mu (mcp (mcp A 3 k lo.toNat 3 k ((lo + 1).toNat) ((x3 - lo).toNat)) 4 k lo.toNat 4 k ((lo + 1).toNat) ((x3 - lo).toNat)) 3 k lo.toNat s) 4 k lo.toNat w) 1 k 2 (x3 + 1)) := t13.mu (by show 0 ≤ (x3 + 1) ∧ (x3 + 1) ≤ 301; omega)
              have q16 := q14.mu (f := 1) (k := k) (j := 2) (z := (x3 + 1)) (by simp [cm])
              exact m_vret C Rm E e_q_come_176 ⟨rfl, t15, q16, (oG.ins hO (by omega) (by omega) (by omega) (by omega))⟩
            · exact m_vret C Rm E e_q_come_101 ⟨rfl, hT, hE0, (hO.le (by omega))⟩
          · refine m_blk 69 [(4, vi lo), (5, vi hi), (0, vr 1 k), (1, vi s), (2, vl w)] [vr 1 k] C f_q_come_68_1 rfl ?_
            refine m_getr C e_q_come_69 fg_Odds_9 rfl (by omega) rfl ?_
            refine m_blk 74 [(4, vi lo), (5, vi hi), (0, vr 1 k), (1, vi s), (2, vl w)] [vi lo, vr 3 k] C f_q_come_72_1 rfl ?_
            obtain ⟨x17, hx17⟩ : ∃ x, A 3 k lo.toNat = x := ⟨_, rfl⟩
            have rx17 : 0 ≤ x17 ∧ x17 ≤ 9999999 := mrg hT hx17 rfl
            refine m_iald C e_q_come_74 rfl (by omega) (by decide) (by omega) (by show lo < ((301 : Nat) : Int); omega) x17 hx17 ?_
            refine m_blk 76 [(4, vi lo), (5, vi hi), (0, vr 1 k), (1, vi s), (2, vl w)] [vi s, vi x17] C f_q_come_75_1 rfl ?_
            refine m_icmp_ne (tgt := 91) C e_q_come_76 (by decide) (by omega) (by omega) (fun c18 => ?_) (fun c18 => ?_)
            · refine m_blk 92 [(4, vi lo), (5, vi hi), (0, vr 1 k), (1, vi s), (2, vl w)] [vr 1 k] C f_q_come_91_1 rfl ?_
              refine m_geti C e_q_come_92 fg_Odds_19 rfl (by omega) rfl x3 hx3 ?_
              refine m_blk 98 [(4, vi lo), (5, vi hi), (0, vr 1 k), (1, vi s), (2, vl w)] [vi 300, vi x3] C f_q_come_95_1 rfl ?_
              refine m_icmp_le (tgt := 102) C e_q_come_98 (by decide) (by omega) (by decide) (fun c19 => ?_) (fun c19 => ?_)
              · refine m_blk 103 [(4, vi lo), (5, vi hi), (0, vr 1 k), (1, vi s), (2, vl w)] [vr 1 k] C f_q_come_102_1 rfl ?_
                refine m_getr C e_q_come_103 fg_Odds_9 rfl (by omega) rfl ?_
                refine m_blk 109 [(4, vi lo), (5, vi hi), (0, vr 1 k), (1, vi s), (2, vl w)] [vr 1 k, vi lo, vr 3 k] C f_q_come_106_2 rfl ?_
                refine m_getr C e_q_come_109 fg_Odds_9 rfl (by omega) rfl ?_
                refine m_blk 117 [(4, vi lo), (5, vi hi), (0, vr 1 k), (1, vi s), (2, vl w)] [vr 1 k, vi (lo + 1), vr 3 k, vi lo, vr 3 k] C f_q_come_112_4 rfl ?_
                refine m_geti C e_q_come_117 fg_Odds_19 rfl (by omega) rfl x3 hx3 ?_
                refine m_blk 123 [(4, vi lo), (5, vi hi), (0, vr 1 k), (1, vi s), (2, vl w)] [vi (x3 - lo), vi (lo + 1), vr 3 k, vi lo, vr 3 k] C f_q_come_120_2 rfl ?_
                refine m_copyi C Rm cl_Odds_23 e_q_come_123 rfl (by omega) rfl (by omega) (by decide) (by omega) (by omega) (by omega) (by show _ ≤ ((301 : Nat) : Int); omega) (by show _ ≤ ((301 : Nat) : Int); omega) (by decide) (Nat.le_of_ble_eq_true rfl) ?_
                have t20 : mTy (mcp A 3 k lo.toNat 3 k ((lo + 1).toNat) ((x3 - lo).toNat)) := hT.cp (fun _ _ => rfl)
                have q21 : mEq (cm k) A (mcp A 3 k lo.toNat 3 k ((lo + 1).toNat) ((x3 - lo).toNat)) := hE0.cp (by intro j; simp [cm])
                refine m_blk 127 [(4, vi lo), (5, vi hi), (0, vr 1 k), (1, vi s), (2, vl w)] [vr 1 k] C f_q_come_126_1 rfl ?_
                refine m_getr C e_q_come_127 fg_Odds_15 rfl (by omega) rfl ?_
                refine m_blk 133 [(4, vi lo), (5, vi hi), (0, vr 1 k), (1, vi s), (2, vl w)] [vr 1 k, vi lo, vr 4 k] C f_q_come_130_2 rfl ?_
                refine m_getr C e_q_come_133 fg_Odds_15 rfl (by omega) rfl ?_
                refine m_blk 141 [(4, vi lo), (5, vi hi), (0, vr 1 k), (1, vi s), (2, vl w)] [vr 1 k, vi (lo + 1), vr 4 k, vi lo, vr 4 k] C f_q_come_136_4 rfl ?_
                refine m_geti C e_q_come_141 fg_Odds_19 rfl (by omega) rfl x3 hx3 ?_
                refine m_blk 147 [(4, vi lo), (5, vi hi), (0, vr 1 k), (1, vi s), (2, vl w)] [vi (x3 - lo), vi (lo + 1), vr 4 k, vi lo, vr 4 k] C f_q_come_144_2 rfl ?_
                refine m_copyl C Rm cl_Odds_23 e_q_come_147 rfl (by omega) rfl (by omega) (by decide) (by omega) (by omega) (by omega) (by show _ ≤ ((301 : Nat) : Int); omega) (by show _ ≤ ((301 : Nat) : Int); omega) (by decide) (Nat.le_of_ble_eq_true rfl) ?_
                have t22 : mTy (mcp (mcp A 3 k lo.toNat 3 k ((lo + 1).toNat) ((x3 - lo).toNat)) 4 k lo.toNat 4 k ((lo + 1).toNat) ((x3 - lo).toNat)) := t20.cp (fun _ _ => rfl)
                have q23 : mEq (cm k) A (mcp (mcp A 3 k lo.toNat 3 k ((lo + 1).toNat) ((x3 - lo).toNat)) 4 k lo.toNat 4 k ((lo + 1).toNat) ((x3 - lo).toNat)) := q21.cp (by intro j; simp [cm])
                refine m_blk 151 [(4, vi lo), (5, vi hi), (0, vr 1 k), (1, vi s), (2, vl w)] [vr 1 k] C f_q_come_150_1 rfl ?_
                refine m_getr C e_q_come_151 fg_Odds_9 rfl (by omega) rfl ?_
                refine m_blk 157 [(4, vi lo), (5, vi hi), (0, vr 1 k), (1, vi s), (2, vl w)] [vi s, vi lo, vr 3 k] C f_q_come_154_2 rfl ?_
                refine m_iast C e_q_come_157 rfl (by omega) (by decide) (by omega) (by show lo < ((301 : Nat) : Int); omega) ?_
                have t24 : mTy (mu (mcp (mcp A 3 k lo.toNat 3 k ((lo + 1).toNat) ((x3 - lo).toNat)) 4 k lo.toNat 4 k ((lo + 1).toNat) ((x3 - lo).toNat)) 3 k lo.toNat s) := t22.mu (by show 0 ≤ s ∧ s ≤ 9999999; omega)
                have q25 := q23.mu (f := 3) (k := k) (j := lo.toNat) (z := s) (by simp [cm])
                refine m_blk 159 [(4, vi lo), (5, vi hi), (0, vr 1 k), (1, vi s), (2, vl w)] [vr 1 k] C f_q_come_158_1 rfl ?_
                refine m_getr C e_q_come_159 fg_Odds_15 rfl (by omega) rfl ?_
                refine m_blk 165 [(4, vi lo), (5, vi hi), (0, vr 1 k), (1, vi s), (2, vl w)] [vl w, vi lo, vr 4 k] C f_q_come_162_2 rfl ?_
                refine m_last C e_q_come_165 rfl (by omega) (by decide) (by omega) (by show lo < ((301 : Nat) : Int); omega) ?_
                have t26 : mTy (mu (mu (mcp (mcp A 3 k lo.toNat 3 k ((lo + 1).toNat) ((x3 - lo).toNat)) 4 k lo.toNat 4 k ((lo + 1).toNat) ((x3 - lo).toNat)) 3 k lo.toNat s) 4 k lo.toNat w) := t24.mu (by show (-9223372036854775808) ≤ w ∧ w ≤ 9223372036854775807; omega)
                have q27 := q25.mu (f := 4) (k := k) (j := lo.toNat) (z := w) (by simp [cm])
                refine m_blk 168 [(4, vi lo), (5, vi hi), (0, vr 1 k), (1, vi s), (2, vl w)] [vr 1 k, vr 1 k] C f_q_come_166_2 rfl ?_
                refine m_geti C e_q_come_168 fg_Odds_19 rfl (by omega) rfl x3 hx3 ?_
                refine m_blk 173 [(4, vi lo), (5, vi hi), (0, vr 1 k), (1, vi s), (2, vl w)] [vi (x3 + 1), vr 1 k] C f_q_come_171_2 rfl ?_
                refine m_puti C e_q_come_173 fp_Odds_19 rfl (by omega) rfl ?_
                have t28 : mTy (mu (mu (mu (mcp (mcp A 3 k lo.toNat 3 k ((lo + 1).toNat) ((x3 - lo).toNat)) 4 k lo.toNat 4 k ((lo + 1).toNat) ((x3 - lo).toNat)) 3 k lo.toNat s) 4 k lo.toNat w) 1 k 2 (x3 + 1)) := t26.mu (by show 0 ≤ (x3 + 1) ∧ (x3 + 1) ≤ 301; omega)
                have q29 := q27.mu (f := 1) (k := k) (j := 2) (z := (x3 + 1)) (by simp [cm])
                exact m_vret C Rm E e_q_come_176 ⟨rfl, t28, q29, (oG.ins hO (by omega) (by omega) (by omega) (by omega))⟩
              · exact m_vret C Rm E e_q_come_101 ⟨rfl, hT, hE0, (hO.le (by omega))⟩
            · refine m_blk 80 [(4, vi lo), (5, vi hi), (0, vr 1 k), (1, vi s), (2, vl w)] [vr 1 k] C f_q_come_79_1 rfl ?_
              refine m_getr C e_q_come_80 fg_Odds_15 rfl (by omega) rfl ?_
              refine m_blk 86 [(4, vi lo), (5, vi hi), (0, vr 1 k), (1, vi s), (2, vl w)] [vi lo, vr 4 k, vi lo, vr 4 k] C f_q_come_83_2 rfl ?_
              obtain ⟨x30, hx30⟩ : ∃ x, A 4 k lo.toNat = x := ⟨_, rfl⟩
              have rx30 : (-9223372036854775808) ≤ x30 ∧ x30 ≤ 9223372036854775807 := mrg hT hx30 rfl
              have ub9 : 1 ≤ x30 ∧ x30 ≤ T := hx30 ▸ hO.el (v := Int.toNat lo) (by omega)
              refine m_lald C e_q_come_86 rfl (by omega) (by decide) (by omega) (by show lo < ((301 : Nat) : Int); omega) x30 hx30 ?_
              refine m_blk 89 [(4, vi lo), (5, vi hi), (0, vr 1 k), (1, vi s), (2, vl w)] [vl (x30 + w), vi lo, vr 4 k] C f_q_come_87_2 rfl ?_
              refine m_last C e_q_come_89 rfl (by omega) (by decide) (by omega) (by show lo < ((301 : Nat) : Int); omega) ?_
              have t31 : mTy (mu A 4 k lo.toNat (x30 + w)) := hT.mu (by show (-9223372036854775808) ≤ (x30 + w) ∧ (x30 + w) ≤ 9223372036854775807; omega)
              have q32 := hE0.mu (f := 4) (k := k) (j := lo.toNat) (z := (x30 + w)) (by simp [cm])
              exact m_vret C Rm E e_q_come_90 ⟨rfl, t31, q32, (oG.add hO (by omega) (by omega) hx30 (by omega))⟩
        · refine m_blk 29 [(4, vi lo), (5, vi hi), (0, vr 1 k), (1, vi s), (2, vl w)] [vi 2, vi (lo + hi)] C f_q_come_23_4 rfl ?_
          refine m_idiv C e_q_come_29 (by omega) (by decide) (by decide) ?_
          have e9 : Int.tdiv (lo + hi) 2 = (lo + hi) / 2 := Int.tdiv_eq_ediv_of_nonneg (by omega)
          refine m_blk 33 [(6, vi (Int.tdiv (lo + hi) 2)), (4, vi lo), (5, vi hi), (0, vr 1 k), (1, vi s), (2, vl w)] [vr 1 k] C f_q_come_30_2 rfl ?_
          refine m_getr C e_q_come_33 fg_Odds_9 rfl (by omega) rfl ?_
          refine m_blk 38 [(6, vi (Int.tdiv (lo + hi) 2)), (4, vi lo), (5, vi hi), (0, vr 1 k), (1, vi s), (2, vl w)] [vi (Int.tdiv (lo + hi) 2), vr 3 k] C f_q_come_36_1 rfl ?_
          obtain ⟨x33, hx33⟩ : ∃ x, A 3 k ((Int.tdiv (lo + hi) 2).toNat) = x := ⟨_, rfl⟩
          have rx33 : 0 ≤ x33 ∧ x33 ≤ 9999999 := mrg hT hx33 rfl
          refine m_iald C e_q_come_38 rfl (by omega) (by decide) (by omega) (by show (Int.tdiv (lo + hi) 2) < ((301 : Nat) : Int); omega) x33 hx33 ?_
          refine m_blk 40 [(6, vi (Int.tdiv (lo + hi) 2)), (4, vi lo), (5, vi hi), (0, vr 1 k), (1, vi s), (2, vl w)] [vi s, vi x33] C f_q_come_39_1 rfl ?_
          refine m_icmp_ge (tgt := 52) C e_q_come_40 (by decide) (by omega) (by omega) (fun c34 => ?_) (fun c34 => ?_)
          · refine m_blk 16 [(5, vi (Int.tdiv (lo + hi) 2)), (6, vi (Int.tdiv (lo + hi) 2)), (4, vi lo), (0, vr 1 k), (1, vi s), (2, vl w)] [] C f_q_come_52_3 rfl ?_
            refine m_loc [(4, vi lo), (5, vi (Int.tdiv (lo + hi) 2)), (0, vr 1 k), (1, vi s), (2, vl w)] ⟨rfl, rfl, rfl, rfl, rfl, trivial⟩ ?_
            exact ih lo (Int.tdiv (lo + hi) 2) (by show 0 ≤ lo ∧ lo ≤ (Int.tdiv (lo + hi) 2) ∧ (Int.tdiv (lo + hi) 2) ≤ A 1 k 2 ∧ A 1 k 2 ≤ 301; omega) (by have hm9 := hm; show ((Int.tdiv (lo + hi) 2) - lo) < _; omega)
          · refine m_blk 56 [(4, vi ((Int.tdiv (lo + hi) 2) + 1)), (6, vi (Int.tdiv (lo + hi) 2)), (5, vi hi), (0, vr 1 k), (1, vi s), (2, vl w)] [] C f_q_come_43_5 rfl ?_
            refine m_blk 16 [(4, vi ((Int.tdiv (lo + hi) 2) + 1)), (6, vi (Int.tdiv (lo + hi) 2)), (5, vi hi), (0, vr 1 k), (1, vi s), (2, vl w)] [] C f_q_come_56_1 rfl ?_
            refine m_loc [(4, vi ((Int.tdiv (lo + hi) 2) + 1)), (5, vi hi), (0, vr 1 k), (1, vi s), (2, vl w)] ⟨rfl, rfl, rfl, rfl, rfl, trivial⟩ ?_
            exact ih ((Int.tdiv (lo + hi) 2) + 1) hi (by show 0 ≤ ((Int.tdiv (lo + hi) 2) + 1) ∧ ((Int.tdiv (lo + hi) 2) + 1) ≤ hi ∧ hi ≤ A 1 k 2 ∧ A 1 k 2 ≤ 301; omega) (by have hm9 := hm; show (hi - ((Int.tdiv (lo + hi) 2) + 1)) < _; omega)
    refine m_loc [(4, vi 0), (5, vi x3), (0, vr 1 k), (1, vi s), (2, vl w)] ⟨rfl, rfl, rfl, rfl, rfl, trivial⟩ ?_
    exact hd_16 (Int.toNat ((x3 - 0)) + 1) 0 x3 (by show 0 ≤ 0 ∧ 0 ≤ x3 ∧ x3 ≤ A 1 k 2 ∧ A 1 k 2 ≤ 301; omega) (by show (x3 - 0) < _; omega)
  · exact m_vret C Rm E e_q_come_6 ⟨rfl, hT, hE0, (hO.le (by omega))⟩

theorem f_q_becomes_0_2 : mblkB b_Odds_becomes [(0, .aload_n 0, vi 0), (1, .aload_n 1, vi 0)] = true := by decide +kernel
theorem e_q_becomes_2 : decode b_Odds_becomes 2 = .ok (.getfield 19, 3) := by decide +kernel
theorem e_q_becomes_5 : decode b_Odds_becomes 5 = .ok (.putfield 19, 3) := by decide +kernel
theorem f_q_becomes_8_1 : mblkB b_Odds_becomes [(8, .aload_n 1, vi 0)] = true := by decide +kernel
theorem e_q_becomes_9 : decode b_Odds_becomes 9 = .ok (.getfield 9, 3) := by decide +kernel
theorem f_q_becomes_12_2 : mblkB b_Odds_becomes [(12, .iconst 0, vi 0), (13, .aload_n 0, vi 0)] = true := by decide +kernel
theorem e_q_becomes_14 : decode b_Odds_becomes 14 = .ok (.getfield 9, 3) := by decide +kernel
theorem f_q_becomes_17_2 : mblkB b_Odds_becomes [(17, .iconst 0, vi 0), (18, .aload_n 0, vi 0)] = true := by decide +kernel
theorem e_q_becomes_19 : decode b_Odds_becomes 19 = .ok (.getfield 19, 3) := by decide +kernel
theorem e_q_becomes_22 : decode b_Odds_becomes 22 = .ok (.invokestatic 23, 3) := by decide +kernel
theorem f_q_becomes_25_1 : mblkB b_Odds_becomes [(25, .aload_n 1, vi 0)] = true := by decide +kernel
theorem e_q_becomes_26 : decode b_Odds_becomes 26 = .ok (.getfield 15, 3) := by decide +kernel
theorem f_q_becomes_29_2 : mblkB b_Odds_becomes [(29, .iconst 0, vi 0), (30, .aload_n 0, vi 0)] = true := by decide +kernel
theorem e_q_becomes_31 : decode b_Odds_becomes 31 = .ok (.getfield 15, 3) := by decide +kernel
theorem f_q_becomes_34_2 : mblkB b_Odds_becomes [(34, .iconst 0, vi 0), (35, .aload_n 0, vi 0)] = true := by decide +kernel
theorem e_q_becomes_36 : decode b_Odds_becomes 36 = .ok (.getfield 19, 3) := by decide +kernel
theorem e_q_becomes_39 : decode b_Odds_becomes 39 = .ok (.invokestatic 23, 3) := by decide +kernel
theorem e_q_becomes_42 : decode b_Odds_becomes 42 = .ok (.return_, 1) := by decide +kernel
set_option maxHeartbeats 40000000 in
set_option maxRecDepth 100000 in
theorem q_becomes (l : Launch) (D : va_G) (B : Nat) (H0 : Heap) (ad : mAd) (A : mA) (hT : mTy A) (k : Nat) (T : Int) (o : Nat) (hk : k < 200 ∧ o < 200) (hO : oG A o T)  : mMet l D B H0 ad y_Odds_becomes b_Odds_becomes 2 none 1 100 [vr 1 k, vr 1 o] A (fun v9 A9 => v9 = none ∧ mTy A9 ∧ mEq (cm k) A A9 ∧ (oG A9 k T)) := by
  refine m_met (by decide) rfl (fun g w0 C Rm Y E => ?_)
  have hE0 : mEq (cm k) A A := mEq.rfl'
  show JM g D ad w0 A 0 [(0, vr 1 k), (1, vr 1 o)] []
  refine m_blk 2 [(0, vr 1 k), (1, vr 1 o)] [vr 1 o, vr 1 k] C f_q_becomes_0_2 rfl ?_
  obtain ⟨x1, hx1⟩ : ∃ x, A 1 o 2 = x := ⟨_, rfl⟩
  have rx1 : 0 ≤ x1 ∧ x1 ≤ 301 := mrg hT hx1 rfl
  refine m_geti C e_q_becomes_2 fg_Odds_19 rfl (by omega) rfl x1 hx1 ?_
  refine m_puti C e_q_becomes_5 fp_Odds_19 rfl (by omega) rfl ?_
  have t2 : mTy (mu A 1 k 2 x1) := hT.mu (by show 0 ≤ x1 ∧ x1 ≤ 301; omega)
  have q3 := hE0.mu (f := 1) (k := k) (j := 2) (z := x1) (by simp [cm])
  refine m_blk 9 [(0, vr 1 k), (1, vr 1 o)] [vr 1 o] C f_q_becomes_8_1 rfl ?_
  refine m_getr C e_q_becomes_9 fg_Odds_9 rfl (by omega) rfl ?_
  refine m_blk 14 [(0, vr 1 k), (1, vr 1 o)] [vr 1 k, vi 0, vr 3 o] C f_q_becomes_12_2 rfl ?_
  refine m_getr C e_q_becomes_14 fg_Odds_9 rfl (by omega) rfl ?_
  refine m_blk 19 [(0, vr 1 k), (1, vr 1 o)] [vr 1 k, vi 0, vr 3 k, vi 0, vr 3 o] C f_q_becomes_17_2 rfl ?_
  refine m_geti C e_q_becomes_19 fg_Odds_19 rfl (by omega) rfl x1 (mu_at A 1 k 2 x1) ?_
  refine m_copyi C Rm cl_Odds_23 e_q_becomes_22 rfl (by omega) rfl (by omega) (by decide) (by decide) (by decide) (by omega) (by show _ ≤ ((301 : Nat) : Int); omega) (by show _ ≤ ((301 : Nat) : Int); omega) (by decide) (Nat.le_of_ble_eq_true rfl) ?_
  have t4 : mTy (mcp (mu A 1 k 2 x1) 3 o 0 3 k 0 x1.toNat) := t2.cp (fun _ _ => rfl)
  have q5 : mEq (cm k) A (mcp (mu A 1 k 2 x1) 3 o 0 3 k 0 x1.toNat) := q3.cp (by intro j; simp [cm])
  refine m_blk 26 [(0, vr 1 k), (1, vr 1 o)] [vr 1 o] C f_q_becomes_25_1 rfl ?_
  refine m_getr C e_q_becomes_26 fg_Odds_15 rfl (by omega) rfl ?_
  refine m_blk 31 [(0, vr 1 k), (1, vr 1 o)] [vr 1 k, vi 0, vr 4 o] C f_q_becomes_29_2 rfl ?_
  refine m_getr C e_q_becomes_31 fg_Odds_15 rfl (by omega) rfl ?_
  refine m_blk 36 [(0, vr 1 k), (1, vr 1 o)] [vr 1 k, vi 0, vr 4 k, vi 0, vr 4 o] C f_q_becomes_34_2 rfl ?_
  refine m_geti C e_q_becomes_36 fg_Odds_19 rfl (by omega) rfl x1 (mu_at A 1 k 2 x1) ?_
  refine m_copyl C Rm cl_Odds_23 e_q_becomes_39 rfl (by omega) rfl (by omega) (by decide) (by decide) (by decide) (by omega) (by show _ ≤ ((301 : Nat) : Int); omega) (by show _ ≤ ((301 : Nat) : Int); omega) (by decide) (Nat.le_of_ble_eq_true rfl) ?_
  have t6 : mTy (mcp (mcp (mu A 1 k 2 x1) 3 o 0 3 k 0 x1.toNat) 4 o 0 4 k 0 x1.toNat) := t4.cp (fun _ _ => rfl)
  have q7 : mEq (cm k) A (mcp (mcp (mu A 1 k 2 x1) 3 o 0 3 k 0 x1.toNat) 4 o 0 4 k 0 x1.toNat) := q5.cp (by intro j; simp [cm])
  exact m_vret C Rm E e_q_becomes_42 ⟨rfl, t6, q7, (oG.bec hO (by omega) (by omega))⟩

theorem f_q_all_0_4 : mblkB b_Odds_all [(0, .lconst 0, vl 0), (1, .lstore_n 1, vi 0), (2, .iconst 0, vi 0), (3, .istore_n 3, vi 0)] = true := by decide +kernel
theorem f_q_all_4_2 : mblkB b_Odds_all [(4, .iload_n 3, vi 0), (5, .aload_n 0, vi 0)] = true := by decide +kernel
theorem e_q_all_6 : decode b_Odds_all 6 = .ok (.getfield 19, 3) := by decide +kernel
theorem e_q_all_9 : decode b_Odds_all 9 = .ok (.if_icmp .ge 18, 3) := by decide +kernel
theorem f_q_all_27_1 : mblkB b_Odds_all [(27, .lload_n 1, vi 0)] = true := by decide +kernel
theorem e_q_all_28 : decode b_Odds_all 28 = .ok (.lreturn, 1) := by decide +kernel
theorem f_q_all_12_2 : mblkB b_Odds_all [(12, .lload_n 1, vi 0), (13, .aload_n 0, vi 0)] = true := by decide +kernel
theorem e_q_all_14 : decode b_Odds_all 14 = .ok (.getfield 15, 3) := by decide +kernel
theorem f_q_all_17_1 : mblkB b_Odds_all [(17, .iload_n 3, vi 0)] = true := by decide +kernel
theorem e_q_all_18 : decode b_Odds_all 18 = .ok (.laload, 1) := by decide +kernel
theorem f_q_all_19_4 : mblkB b_Odds_all [(19, .ladd, vi 0), (20, .lstore_n 1, vi 0), (21, .iinc 3 1, vi 1), (24, .goto (-20), vi 4)] = true := by decide +kernel
set_option maxHeartbeats 40000000 in
set_option maxRecDepth 100000 in
theorem q_all (l : Launch) (D : va_G) (B : Nat) (H0 : Heap) (ad : mAd) (A : mA) (hT : mTy A) (k : Nat) (T : Int) (hk : k < 200) (hO : oG A k T) (hT9 : T ≤ 1125899906842624)  : mMet l D B H0 ad y_Odds_all b_Odds_all 4 (some .long) 0 0 [vr 1 k] A (fun v9 A9 => ∃ z : Int, v9 = some (vl z) ∧ A = A9 ∧ (z = ws (A 4 k) 0 (Int.toNat (A 1 k 2)) ∧ 0 ≤ z ∧ z ≤ T ∧ A 1 k 2 ≤ z)) := by
  refine m_met (by decide) rfl (fun g w0 C Rm Y E => ?_)
  show JM g D ad w0 A 0 [(0, vr 1 k)] []
  have rm9 : 0 ≤ A 1 k 2 ∧ A 1 k 2 ≤ 301 := hT 1 k 2
  have ht9 := hO.tot rm9.1
  refine m_blk 4 [(3, vi 0), (1, vl 0), (0, vr 1 k)] [] C f_q_all_0_4 rfl ?_
  have hd_4 : ∀ (NZ : Nat) (j : Int) (s : Int), 0 ≤ j ∧ j ≤ A 1 k 2 ∧ A 1 k 2 ≤ 301 → s = ws (A 4 k) 0 (Int.toNat j) → (400 - j) < (NZ : Int) → JM g D ad w0 A 4 [(3, vi j), (1, vl s), (0, vr 1 k)] [] := by
    intro NZ
    induction NZ with
    | zero => intro j s h0 hs hm; exact absurd hm (by omega)
    | succ NZ ih =>
      intro j s h0 hs hm
      refine m_blk 6 [(3, vi j), (1, vl s), (0, vr 1 k)] [vr 1 k, vi j] C f_q_all_4_2 rfl ?_
      obtain ⟨x1, hx1⟩ : ∃ x, A 1 k 2 = x := ⟨_, rfl⟩
      have rx1 : 0 ≤ x1 ∧ x1 ≤ 301 := mrg hT hx1 rfl
      refine m_geti C e_q_all_6 fg_Odds_19 rfl (by omega) rfl x1 hx1 ?_
      refine m_icmp_ge (tgt := 27) C e_q_all_9 (by decide) (by omega) (by omega) (fun c2 => ?_) (fun c2 => ?_)
      · refine m_blk 28 [(3, vi j), (1, vl s), (0, vr 1 k)] [vl s] C f_q_all_27_1 rfl ?_
        exact m_lret C Rm E e_q_all_28 ⟨s, rfl, rfl, (by have e9 : j = A 1 k 2 := (by omega); subst e9; exact ⟨hs, by omega, by omega, by omega⟩)⟩
      · refine m_blk 14 [(3, vi j), (1, vl s), (0, vr 1 k)] [vr 1 k, vl s] C f_q_all_12_2 rfl ?_
        refine m_getr C e_q_all_14 fg_Odds_15 rfl (by omega) rfl ?_
        refine m_blk 18 [(3, vi j), (1, vl s), (0, vr 1 k)] [vi j, vr 4 k, vl s] C f_q_all_17_1 rfl ?_
        obtain ⟨x3, hx3⟩ : ∃ x, A 4 k j.toNat = x := ⟨_, rfl⟩
        have rx3 : (-9223372036854775808) ≤ x3 ∧ x3 ≤ 9223372036854775807 := mrg hT hx3 rfl
        refine m_lald C e_q_all_18 rfl (by omega) (by decide) (by omega) (by show j < ((301 : Nat) : Int); omega) x3 hx3 ?_
        refine m_blk 4 [(3, vi (j + 1)), (1, vl (s + x3)), (0, vr 1 k)] [] C f_q_all_19_4 rfl ?_
        refine m_loc [(3, vi (j + 1)), (1, vl (s + x3)), (0, vr 1 k)] ⟨rfl, rfl, rfl, trivial⟩ ?_
        exact ih (j + 1) (s + x3) (by show 0 ≤ (j + 1) ∧ (j + 1) ≤ A 1 k 2 ∧ A 1 k 2 ≤ 301; omega) (by rw [show Int.toNat (j + 1) = Int.toNat j + 1 by omega]; show s + _ = ws (A 4 k) 0 (Int.toNat j) + A 4 k (0 + Int.toNat j); rw [Nat.zero_add, ← hs, hx3]) (by have hm9 := hm; show (400 - (j + 1)) < _; omega)
  refine m_loc [(3, vi 0), (1, vl 0), (0, vr 1 k)] ⟨rfl, rfl, rfl, trivial⟩ ?_
  exact hd_4 (Int.toNat ((400 - 0)) + 1) 0 0 (by show 0 ≤ 0 ∧ 0 ≤ A 1 k 2 ∧ A 1 k 2 ≤ 301; omega) rfl (by show (400 - 0) < _; omega)
