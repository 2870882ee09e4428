/-! feed of both (own work) -/
def BI (a : Int) (K : mA → Option (Int × mA)) (C : mA) : Option (Int × mA) := Option.bind (f_CS_isByte C a) (fun q => if g32 q.1 then (if q.1 = 0 then some ((-2), q.2) else K q.2) else none)
def BM (a : Int) (K : mA → Option (Int × mA)) (C : mA) : Option (Int × mA) := Option.bind (f_Mo_isByte C a) (fun q => if g32 q.1 then (if q.1 = 0 then some ((-2), q.2) else K q.2) else none)
section BB
variable {C A : mA} {K : mA → Option (Int × mA)} {a : Int} {x : Nat}
theorem BI_ok (g : g32 a) (h : 0 ≤ a ∧ a ≤ 255) : BI a K C = K C := by
  unfold BI
  rw [c_isByteF g, if_pos h]
  rfl
theorem BI_no (g : g32 a) (h : ¬ (0 ≤ a ∧ a ≤ 255)) : BI a K C = some ((-2), C) := by
  unfold BI
  rw [c_isByteF g, if_neg h]
  rfl
theorem BM_ok (g : g32 a) (h : 0 ≤ a ∧ a ≤ 255) : BM a K C = K C := by
  unfold BM
  rw [m_isByteF g, if_pos h]
  rfl
theorem BM_no (g : g32 a) (h : ¬ (0 ≤ a ∧ a ≤ 255)) : BM a K C = some ((-2), C) := by
  unfold BM
  rw [m_isByteF g, if_neg h]
  rfl
end BB
section FE
variable {C A : mA} {x : Nat} {n a b c d e : Int}
theorem c_feedE : f_CS_feed C x n a b c d e = if g32 n then (if n < 1 then some ((-2), C) else if 5 < n then some ((-2), C) else BI a (BI b (BI c (BI d (BI e (fun C => if g32 (120 - C 8 x 1) then (if n ≤ 120 - C 8 x 1 then f_CS_feed_68 10 C x n a b c d e 0 else some ((-4), C)) else none))))) C) else none := rfl
theorem m_feedE : f_Mo_feed A n a b c d e = Option.bind (f_Mo_in A n 1 5) (fun q => if g32 q.1 then (if q.1 = 0 then some ((-2), q.2) else BM a (BM b (BM c (BM d (BM e (fun A => if g32 (A 0 0 22 + n) then (if A 0 0 22 + n ≤ 120 then f_Mo_feed_67 10 A n a b c d e 0 else some ((-4), A)) else none))))) q.2) else none) := rfl
theorem c_feedF (gn : g32 n) (ga : g32 a) (gb : g32 b) (gc : g32 c) (gd : g32 d) (ge : g32 e) (g1 : g32 (120 - C 8 x 1)) : f_CS_feed C x n a b c d e = if fOk n a b c d e then (if n ≤ 120 - C 8 x 1 then f_CS_feed_68 10 C x n a b c d e 0 else some ((-4), C)) else some ((-2), C) := by
  rw [c_feedE, if_pos gn]
  by_cases q1 : n < 1
  · rw [if_pos q1, if_neg (fun r => by have := r.1; omega)]
  rw [if_neg q1]
  by_cases q2 : 5 < n
  · rw [if_pos q2, if_neg (fun r => by have := r.1; omega)]
  rw [if_neg q2]
  by_cases qa : 0 ≤ a ∧ a ≤ 255
  · rw [BI_ok ga qa]
    by_cases qb : 0 ≤ b ∧ b ≤ 255
    · rw [BI_ok gb qb]
      by_cases qc : 0 ≤ c ∧ c ≤ 255
      · rw [BI_ok gc qc]
        by_cases qd : 0 ≤ d ∧ d ≤ 255
        · rw [BI_ok gd qd]
          by_cases qe : 0 ≤ e ∧ e ≤ 255
          · rw [BI_ok ge qe, if_pos g1, if_pos (show fOk n a b c d e from ⟨by omega, qa, qb, qc, qd, qe⟩)]
          · rw [BI_no ge qe, if_neg (fun r : fOk n a b c d e => qe r.2.2.2.2.2)]
        · rw [BI_no gd qd, if_neg (fun r : fOk n a b c d e => qd r.2.2.2.2.1)]
      · rw [BI_no gc qc, if_neg (fun r : fOk n a b c d e => qc r.2.2.2.1)]
    · rw [BI_no gb qb, if_neg (fun r : fOk n a b c d e => qb r.2.2.1)]
  · rw [BI_no ga qa, if_neg (fun r : fOk n a b c d e => qa r.2.1)]
theorem m_feedF (gn : g32 n) (ga : g32 a) (gb : g32 b) (gc : g32 c) (gd : g32 d) (ge : g32 e) (g1 : 1 ≤ n → n ≤ 5 → g32 (A 0 0 22 + n)) : f_Mo_feed A n a b c d e = if fOk n a b c d e then (if A 0 0 22 + n ≤ 120 then f_Mo_feed_67 10 A n a b c d e 0 else some ((-4), A)) else some ((-2), A) := by
  rw [m_feedE, m_inF gn (by decide) (by decide), obind]
  by_cases q1 : 1 ≤ n ∧ n ≤ 5
  · rw [if_pos q1, if_pos (show g32 (1 : Int) by decide), if_neg (show ¬ (1 : Int) = 0 by decide)]
    by_cases qa : 0 ≤ a ∧ a ≤ 255
    · rw [BM_ok ga qa]
      by_cases qb : 0 ≤ b ∧ b ≤ 255
      · rw [BM_ok gb qb]
        by_cases qc : 0 ≤ c ∧ c ≤ 255
        · rw [BM_ok gc qc]
          by_cases qd : 0 ≤ d ∧ d ≤ 255
          · rw [BM_ok gd qd]
            by_cases qe : 0 ≤ e ∧ e ≤ 255
            · rw [BM_ok ge qe, if_pos (g1 q1.1 q1.2), if_pos (show fOk n a b c d e from ⟨q1, qa, qb, qc, qd, qe⟩)]
            · rw [BM_no ge qe, if_neg (fun r : fOk n a b c d e => qe r.2.2.2.2.2)]
          · rw [BM_no gd qd, if_neg (fun r : fOk n a b c d e => qd r.2.2.2.2.1)]
        · rw [BM_no gc qc, if_neg (fun r : fOk n a b c d e => qc r.2.2.2.1)]
      · rw [BM_no gb qb, if_neg (fun r : fOk n a b c d e => qb r.2.2.1)]
    · rw [BM_no ga qa, if_neg (fun r : fOk n a b c d e => qa r.2.1)]
  · rw [if_neg q1, if_pos (show g32 (0 : Int) by decide), if_pos (show (0 : Int) = 0 from rfl), if_neg (fun r : fOk n a b c d e => q1 r.1)]
/-- both feed alike -/
theorem feed_alike (hR : R3 x C A) (gn : g32 n) (ga : g32 a) (gb : g32 b) (gc : g32 c) (gd : g32 d) (ge : g32 e) : ∃ z C9 A9, f_CS_feed C x n a b c d e = some (z, C9) ∧ f_Mo_feed A n a b c d e = some (z, A9) ∧ R3 x C9 A9 := by
  obtain ⟨⟨a1, a2, a3⟩, ⟨b1, b2, b3⟩, i1, d1, e1, f1, g1⟩ := id hR
  rw [c_feedF gn ga gb gc gd ge (by rw [a1]; unfold g32; omega), m_feedF gn ga gb gc gd ge (fun _ _ => by unfold g32; omega)]
  by_cases ok : fOk n a b c d e
  · rw [if_pos ok, if_pos ok]
    by_cases fit : n ≤ 120 - C 8 x 1
    · rw [if_pos fit, if_pos (show A 0 0 22 + n ≤ 120 by omega)]
      have hn := ok.1
      obtain ⟨N, rfl⟩ : ∃ N : Nat, n = N := ⟨n.toNat, by omega⟩
      obtain ⟨m, em⟩ : ∃ m : Nat, A 0 0 22 = m := ⟨(A 0 0 22).toNat, by omega⟩
      obtain ⟨C9, x1, x2, x3, x4⟩ := c_feed0 (x := x) (ta := (C 8 x 0).toNat) (m := m) (N := N) (a := a) (b := b) (c := c) (d := d) (e := e) (by omega) (by omega) N 0 10 C (by omega) (by omega) rfl (by rw [a1, em]; rfl)
      obtain ⟨A9, y1, y2, y3, y4⟩ := m_feed0 (m := m) (N := N) (a := a) (b := b) (c := c) (d := d) (e := e) (by omega) (by omega) N 0 10 A (by omega) (by omega) em
      refine ⟨_, C9, A9, x1, y1, ?_⟩
      have k8 : ∀ k, k ≠ 1 → C9 8 x k = C 8 x k := fun k q => x2 8 x k (fun r => by omega) (fun r => q r.2.2)
      have eo : aOa C9 x = aOa C x := congrArg Int.toNat (k8 2 (by decide))
      have k21 : ∀ p, C9 21 (aOa C x) p = C 21 (aOa C x) p := fun p => x2 21 _ p (fun r => by omega) (fun r => by omega)
      have ep : ∀ p, aPr C9 x p = aPr C x p := fun p => by
        show (C9 21 (aOa C9 x) p).toNat = _
        rw [eo, k21]
      have k2 : ∀ i k, C9 2 i k = C 2 i k := fun i k => x2 2 i k (fun r => by omega) (fun r => by omega)
      have m0 : ∀ j, j ≠ 22 → A9 0 0 j = A 0 0 j := fun j q => y2 0 0 j (fun r => by omega) (fun r => q r.2.2)
      unfold R3
      rw [x3, y3, k8 3 (by decide), k8 5 (by decide), k8 7 (by decide), k8 0 (by decide), eo, m0 0 (by decide), m0 37 (by decide)]
      refine ⟨⟨rfl, by omega, by omega⟩, ⟨b1, b2, b3⟩, i1, fun j hj => ?_, fun p hp q => ?_, fun p hp => ?_, fun p p' hp hp' hn q q' => ?_⟩
      · rw [x4 j, y4 j]
        by_cases q : m + 0 ≤ j ∧ j < m + N
        · rw [if_pos q, if_pos q]
          exact ⟨rfl, fSel_r ok _⟩
        · rw [if_neg q, if_neg q]
          exact d1 j hj
      · rw [k21] at q
        rw [ep]
        exact (e1 p hp q).cg (fun k _ => k2 _ k) (fun k => x2 25 _ k (fun r => by omega) (fun r => by omega))
      · rw [k21, ep, k2, k2, k2, y2 6 0 p (fun r => by omega) (fun r => by omega), y2 7 0 p (fun r => by omega) (fun r => by omega)]
        exact f1 p hp
      · rw [k21] at q q'
        rw [ep, ep]
        exact g1 p p' hp hp' hn q q'
    · rw [if_neg fit, if_neg (show ¬ A 0 0 22 + n ≤ 120 by omega)]
      exact ⟨_, _, _, rfl, rfl, hR⟩
  · rw [if_neg ok, if_neg ok]
    exact ⟨_, _, _, rfl, rfl, hR⟩
end FE
section BF2
variable {D : va_G} {G : tG} {ad : mAd} {C A : mA} {w : jW} {x : Nat}
theorem ms_i (ad : mAd) (x : Int32) : mc ad (vi x.toInt) = .int x := congrArg Value.int (Int32.ofInt_toInt x)
theorem ri (x : Int32) : -2147483648 ≤ x.toInt ∧ x.toInt ≤ 2147483647 := ⟨Int32.le_toInt x, by have := Int32.toInt_lt x; omega⟩
theorem both_feed (l : Launch) (B : Nat) (H0 : Heap) (n a b c d e : Int32) (hw : hW D G C w) (gx : G x = some 8) (hR : R3 x C A) (hT : mTy A) (hI : mI A) (hS : mStr D ad) : ∃ z B9, cFace l D B H0 y_CS_feed b_CS_feed 8 1 21 [.ref x, .int n, .int a, .int b, .int c, .int d, .int e] G w x z B9 ∧ ∀ w1, mW D ad A w1 → mFace l D B H0 y_Mo_feed b_Mo_feed 8 920 23600 [.ref (ad 0 0), .int n, .int a, .int b, .int c, .int d, .int e] ad w1 x z B9 := by
  obtain ⟨z, C9, A9, h1, h2, h3⟩ := feed_alike (n := n.toInt) (a := a.toInt) (b := b.toInt) (c := c.toInt) (d := d.toInt) (e := e.toInt) hR (ri n) (ri a) (ri b) (ri c) (ri d) (ri e)
  have eC : ∀ (ad : mAd) (f k : Nat), mSt ad [vr f k, vi n.toInt, vi a.toInt, vi b.toInt, vi c.toInt, vi d.toInt, vi e.toInt] = [.ref (ad f k), .int n, .int a, .int b, .int c, .int d, .int e] := fun ad f k => by
    show [Value.ref (ad f k), mc ad (vi n.toInt), mc ad (vi a.toInt), mc ad (vi b.toInt), mc ad (vi c.toInt), mc ad (vi d.toInt), mc ad (vi e.toInt)] = _
    simp only [ms_i]
  have kC := hx_CS_feed l D B H0 G C x n.toInt a.toInt b.toInt c.toInt d.toInt e.toInt gx z C9 h1 w hw
  rw [eC hid 8 x] at kC
  refine ⟨z, A9, ⟨0, 0, _, Nat.zero_le _, Nat.zero_le _, kC, fun v w' p => ?_⟩, fun w1 hm => ?_⟩
  · obtain ⟨v8, A8, q1, ⟨q2, q3⟩, hw8, -⟩ := p
    subst q3
    exact ⟨by rw [q1, q2]; rfl, G, A8, fun _ _ h => h, hw8, h3⟩
  · have k1 := q_feed l D B H0 ad A hT n.toInt a.toInt b.toInt c.toInt d.toInt e.toInt (ri n) (ri a) (ri b) (ri c) (ri d) (ri e) hI w1 hm
    have k2 := x_Mo_feed l D B H0 ad A n.toInt a.toInt b.toInt c.toInt d.toInt e.toInt hS z A9 h2 w1 hm
    rw [eC ad 0 0] at k1 k2
    refine ⟨_, jMet_both (fr := 920) (lo := 23600) k1 k2 (by decide) (by decide) (by decide) (by decide) (by decide) (by decide), fun v w2 p => ?_⟩
    obtain ⟨⟨v9, B9, -, ⟨z9, -, hT9, -, -, hI9⟩, hm9, hf9⟩, w', ⟨v8, A8, q1, ⟨q2, q3⟩, hm8, -⟩, hj⟩ := p
    subst q3
    exact ⟨by rw [q1, q2]; rfl, B9, hm9, hf9, hT9, hI9, fun C1 h => h.jA hT9 hm9 hm8 hj⟩
end BF2
