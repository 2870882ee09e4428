/-! odds of the reference: IF as a step's work (own work) -/
theorem gdL.sub {B : Int} {l : List xE} (hl : gdL B l) (p : xE → Bool) : gdL B (l.filter p) := ⟨(List.Sublist.map (fun q : xE => q.1) List.filter_sublist).nodup hl.1, fun q hq => hl.2.1 q (List.mem_filter.mp hq).1, by have := (tot_filter (p := p) hl.nn).2; have := hl.2.2; omega⟩
theorem cap_good {B : Int} {l : List xE} (hl : gdL B l) (h : l.length ≤ 300) : cap9 l = some l := by
  have e1 : nz l = l := List.filter_eq_self.mpr (fun q hq => by have := (hl.2.1 q hq).2.1; simp; omega)
  have e2 : col [] l = l := by
    have := col_new (x := l) (l := []) (by rw [List.nil_append]; exact hl.1)
    rw [this, List.nil_append]
  unfold cap9
  rw [e1, e2, if_pos h]
theorem mcl_good {B : Int} {l x : List xE} (hl : gdL B l) (h : l.length ≤ 300) (hp : x.Perm l) : (mcl [] x).Perm l := by
  have := oR_of (l := mcl [] x) rfl hp
  rw [cap_good hl h] at this
  exact this.2.1
section STK3
variable {T : xT} {b : Int → Int} {cnt n : Nat} {mk : mA → Int → Int → Int → Nat → Int → Option (Int × mA)}
theorem s39 (hT : TB T b cnt) {P : Nat} (hP : P < cnt) {lv : Int} {a e : Nat} (ht : tl (T P).2 lv 16 a e) (he : e ≤ (T P).1) (hlv : 0 ≤ lv) : ∀ k l, sBk (sSt T 39 P) (T P).2 k a e l = sBk (sSt T 40 P) (T P).2 k a e l := by
  have := hT.1
  exact sBk_cg 16 a e ht (fun j q1 q2 q3 l => sSt_f hT 39 40 P j hP (by omega) (by rw [q3]; unfold dep; omega) (by rw [q3]; unfold dep; omega) l)
theorem gd_bk (hT : TB T b cnt) {P : Nat} (hP : P < cnt) {lv : Int} {a e m k : Nat} {B : Int} {l l' : List xE} (ht : tl (T P).2 lv 16 a e) (he : e ≤ (T P).1) (hB : 0 ≤ B) (hl : gdL B l) (h50 : B + tsm (gv (Fb (T P).2 b) 16) (T P).2 16 a e ≤ 50) (hr : sBk (sSt T m P) (T P).2 k a e l = some l') : gdL (B + tsm (gv (Fb (T P).2 b) 16) (T P).2 16 a e) l' ∧ tot l' ≤ tot l := gd_blk (fun j hj => hT.gv_nn hP 16 j hj) (fun i hi B l l' => gd_st hT m P i hP hi B l l') 16 a e ht he k B l l' hB hl h50 hr
theorem gd_g64 {B : Int} {l l' : List xE} (h : l'.Perm l) (hl : gdL B l) : ∀ q ∈ l', g64 q.2 := fun q hq => by have := gd_perm h hl q hq; unfold g64; omega
theorem mTab.k38 {P i : Nat} {A : mA} (hm : mTab T cnt A) (hP : P < cnt) (hi : i < (T P).1) (k : sK ((T P).2 i) = 3) : A 38 P i = ((i + sO ((T P).2 i) : Nat) : Int) := ((hm P hP).2 i hi).1.2.2.2.2 k
theorem mTab.k37 {P i : Nat} {A : mA} (hm : mTab T cnt A) (hP : P < cnt) (hi : i < (T P).1) : A 37 P i = ((i + sI ((T P).2 i) : Nat) : Int) := ((hm P hP).2 i hi).1.2.2.2.1
theorem st_k3 (hT : TB T b cnt) (hM : MKs T b cnt mk n) {P i x u : Nat} {B : Int} {A : mA} {l : List xE} (hP : P < cnt) (hi : i < (T P).1) (k : sK ((T P).2 i) = 3) (hd : dep P (sV ((T P).2 i)) < n + 1) (hm : mTab T cnt A) (hc : mCa T cnt A) (hu : A 0 0 33 = u) (h195 : u + pB P (sV ((T P).2 i)) ≤ 195) (hx : x < u) (hQ : oQ A x) (hp : (oC A x).Perm l) (h300 : l.length ≤ 300) (hB : 0 ≤ B) (hl : gdL B l) (h50 : B + gv (Fb (T P).2 b) 16 i ≤ 50) (h34 : A 0 0 34 = 0) (h35 : g32 (A 0 0 35)) : ∃ r A', f_Mo_choose mk A P i x (-1) = some (((r : Nat) : Int), A') ∧ skR T cnt P i u A l r A' := by
  have hc6 := hT.1
  obtain ⟨ho, hX, -⟩ := hT.2 P hP
  have h16 := ho.1
  have hvn : ∀ j, j < (T P).1 → 0 ≤ gv (Fb (T P).2 b) 16 j := fun j hj => hT.gv_nn hP 16 j hj
  obtain ⟨⟨hk, hv, hi1, h3, -⟩, h9⟩ := ho.2.2 i hi
  obtain ⟨o0, o1, o2, t1, t2⟩ := h3 k
  have hr := rg9_of (by omega) ho hX hi
  rw [gv_eq (F := Fb (T P).2 b) (Fb_c ho) h16 hi, Fb_3 k] at h50
  have n1 := tsm_nn (v := gv (Fb (T P).2 b) 16) (c := (T P).2) 16 (i + 1) (i + sO ((T P).2 i)) (fun j q1 q2 => hvn j (by omega))
  have n2 := tsm_nn (v := gv (Fb (T P).2 b) 16) (c := (T P).2) 16 (i + sO ((T P).2 i)) (i + sI ((T P).2 i)) (fun j q1 q2 => hvn j (by omega))
  have hdp : dep P (sV ((T P).2 i) + 1) + 1 = dep P (sV ((T P).2 i)) := by unfold dep; omega
  have hbp : pB P (sV ((T P).2 i) + 1) + 4 = pB P (sV ((T P).2 i)) ∧ pWi (sV ((T P).2 i) + 1) + 4 = pWi (sV ((T P).2 i)) ∧ 1 ≤ pB P (sV ((T P).2 i) + 1) := by unfold pB pWi; omega
  have pP : 0 ≤ (P : Int) ∧ (P : Int) < ((6 : Nat) : Int) := by omega
  have pi : 0 ≤ (i : Int) ∧ (i : Int) < ((16 : Nat) : Int) := by omega
  have ei : ((i : Int) + 1) = ((i + 1 : Nat) : Int) := by omega
  obtain ⟨f, hf⟩ : ∃ f : xE → Bool, f = (fun q => xv ((T P).2 i) q.1 != 0) := ⟨_, rfl⟩
  obtain ⟨f', hf'⟩ : ∃ f' : xE → Bool, f' = (fun q => !(xv ((T P).2 i) q.1 != 0)) := ⟨_, rfl⟩
  have sp : sSt T 40 P i l = (sBk (sSt T 40 P) (T P).2 17 (i + 1) (i + sO ((T P).2 i)) (l.filter f)).bind (fun a => (sBk (sSt T 40 P) (T P).2 17 (i + sO ((T P).2 i)) (i + sI ((T P).2 i)) (l.filter f')).bind (fun b => cap9 (a ++ b))) := by
    rw [← s39 hT hP t1 (by omega) (by omega), ← s39 hT hP t2 (by omega) (by omega), hf, hf']
    show sSt T (39 + 1) P i l = _
    conv => lhs; unfold sSt
    rw [if_neg (by omega), if_neg (by omega), if_neg (by omega), if_pos k]
  have lf : ∀ g : xE → Bool, (l.filter g).length ≤ 300 := fun g => Nat.le_trans (List.length_filter_le _ _) h300
  obtain ⟨A1, a1, a2, a3, a4, a5⟩ := m_spl (l := oC A x) (P := P) (i := i) (by omega) (by omega) ((hm P hP).2 i hi) hr (by omega) (by omega) hu (by omega) hx rfl hQ (gd_g64 hp hl) (b := 1) (Or.inr rfl) f (fun q => by rw [hf]; simp)
  have g1 : (oC A1 u).Perm (l.filter f) := by rw [a5]; exact mcl_good (hl.sub f) (lf f) (hp.filter f)
  have m1 : mkF u A A1 := mkF.p a2
  obtain ⟨A2, b1, b2, b3, b4, b5, b6, b7⟩ := hM P (i + 1) (i + sO ((T P).2 i)) u (u + 1) (sV ((T P).2 i) + 1) B A1 (l.filter f) hP t1 (by omega) (by omega) (by omega) (hm.fr hT m1) (hc.p a2) a3 (by omega) (by omega) a4 g1 (lf f) hB (hl.sub f) (by omega) (by rw [a2 0 0 34 (by omega)]; exact h34) (by rw [a2 0 0 35 (by omega)]; exact h35)
  have m2 : mkF u A A2 := m1.trans (b2.up (by omega))
  unfold f_Mo_choose
  simp only [Int.toNat_natCast]
  rw [if_pos pP, if_pos pi, a1, obind, hm.k38 hP hi k, ei]
  show ∃ r A', Option.bind (mk A1 P ((i + 1 : Nat) : Int) ((i + sO ((T P).2 i) : Nat) : Int) ((u : Int)).toNat (-1)) _ = _ ∧ _
  rw [Int.toNat_natCast, b1, obind]
  show ∃ r A', (if g32 (A2 0 0 34) then (if A2 0 0 34 = 0 then (Option.bind (f_Mo_split A2 P i x 0) (fun q26 => (Option.bind (mk q26.2 P (A2 38 P i) (A2 37 P i) q26.1.toNat (-1)) (fun q29 => (if g32 (q29.2 0 0 34) then (if (q29.2 0 0 34) = 0 then (Option.bind (f_Mo_takenO q29.2) (fun q34 => (f_Mo_choose_90 mk 310 q34.2 (((u + 1 : Nat) : Int)).toNat q29.1.toNat q34.1.toNat 0))) else (some (((q29.1.toNat : Nat) : Int), q29.2))) else none))))) else some ((((((u + 1 : Nat) : Int)).toNat : Nat) : Int), A2)) else none) = _ ∧ _
  rw [Int.toNat_natCast]
  obtain ⟨c1, c2⟩ := b5
  rcases c2 with ⟨w0, l1, w1, w2, w3⟩ | ⟨w0, w1⟩
  · rw [w0, if_pos (show g32 (0 : Int) by decide), if_pos rfl]
    have hm2 := hm.fr hT m2
    have eL : oC A2 x = oC A x := m2.oC hx
    obtain ⟨A3, d1, d2, d3, d4, d5⟩ := m_spl (l := oC A x) (P := P) (i := i) (e := (T P).2 i) (by omega) (by omega) ((hm2 P hP).2 i hi) hr (by omega) (by omega) (b6 w0) (by omega) (show x < u + 2 by omega) eL (m2.oQ hx hQ) (gd_g64 hp hl) (b := 0) (Or.inl rfl) f' (fun q => by rw [hf']; simp)
    have g2 : (oC A3 (u + 1 + 1)).Perm (l.filter f') := by rw [d5]; exact mcl_good (hl.sub f') (lf f') (hp.filter f')
    have m3 : mkF u A A3 := m2.trans ((mkF.p d2).up (by omega))
    have e34 : A3 0 0 34 = 0 := (d2 0 0 34 (by omega)).trans w0
    obtain ⟨A4, e1, e2, e3, e4, e5, e6, e7⟩ := hM P (i + sO ((T P).2 i)) (i + sI ((T P).2 i)) (u + 1 + 1) (u + 1 + 1 + 1) (sV ((T P).2 i) + 1) B A3 (l.filter f') hP t2 (by omega) (by omega) (by omega) (hm.fr hT m3) (b3.p d2) d3 (by omega) (by omega) d4 g2 (lf f') hB (hl.sub f') (by omega) e34 (by rw [d2 0 0 35 (by omega)]; exact b4)
    have m4 : mkF u A A4 := m3.trans (e2.up (by omega))
    rw [d1, obind, hm2.k38 hP hi k, hm2.k37 hP hi]
    show ∃ r A', Option.bind (mk A3 P ((i + sO ((T P).2 i) : Nat) : Int) ((i + sI ((T P).2 i) : Nat) : Int) (((u + 1 + 1 : Nat) : Int)).toNat (-1)) _ = _ ∧ _
    rw [Int.toNat_natCast, e1, obind]
    show ∃ r A', (if g32 (A4 0 0 34) then (if (A4 0 0 34) = 0 then (Option.bind (f_Mo_takenO A4) (fun q34 => (f_Mo_choose_90 mk 310 q34.2 (u + 1) (((u + 1 + 1 + 1 : Nat) : Int)).toNat q34.1.toNat 0))) else (some ((((((u + 1 + 1 + 1 : Nat) : Int)).toNat : Nat) : Int), A4))) else none) = _ ∧ _
    rw [Int.toNat_natCast]
    obtain ⟨r1, r2⟩ := e5
    rcases r2 with ⟨z0, l2, z1, z2, z3⟩ | ⟨z0, z1⟩
    · rw [z0, if_pos (show g32 (0 : Int) by decide), if_pos rfl]
      obtain ⟨A5, s1, s2, s3, s4, s5⟩ := m_tkn (e6 z0) (by omega)
      rw [s1, obind]
      show ∃ r A', f_Mo_choose_90 mk 310 A5 (u + 1) (u + 1 + 1 + 1) (((u + 1 + 1 + 1 + 1 : Nat) : Int)).toNat 0 = _ ∧ _
      rw [Int.toNat_natCast]
      have m24 : mkF (u + 1 + 1) A2 A4 := (mkF.p d2).trans (e2.up (by omega))
      have ex : oC A5 (u + 1) = oC A2 (u + 1) := by rw [s2.oC (by omega), m24.oC (by omega)]
      have ey : oC A5 (u + 1 + 1 + 1) = oC A4 (u + 1 + 1 + 1) := s2.oC (by omega)
      have hx5 : oQ A5 (u + 1) := s2.oQ (by omega) (m24.oQ (by omega) c1)
      have hy5 : oQ A5 (u + 1 + 1 + 1) := s2.oQ (by omega) r1
      obtain ⟨y1, -⟩ := gd_bk hT hP t1 (by omega) hB (hl.sub f) (by omega) w1
      obtain ⟨y2, -⟩ := gd_bk hT hP t2 (by omega) hB (hl.sub f') (by omega) z1
      obtain ⟨A6, v1, v2, v3, v4⟩ := m_uni (mk := mk) (A := A5) (x := u + 1) (y := u + 1 + 1 + 1) (o := u + 1 + 1 + 1 + 1) hx5 hy5 (by omega) (by omega) (by rw [ex]; exact gd_g64 w2 y1) (by rw [ey]; exact gd_g64 z2 y2) 310 0 A5 (Nat.zero_le _) (by rw [ex]; omega) rOd.refl s5 (by rw [s4, List.take_zero]; rfl)
      refine ⟨u + 1 + 1 + 1 + 1, A6, v1, by omega, by omega, (m4.trans ((mkF.p s2).up (by omega))).trans (mkF.r v2 (by omega)), (e3.p s2).cg (fun f x j q => v2 f x j (by omega)), by rw [v2 0 0 35 (by omega), s2 0 0 35 (by omega)]; exact e4, v3, Or.inl ⟨by rw [v2 0 0 34 (by omega), s2 0 0 34 (by omega)]; exact z0, ?_⟩, fun q => by rw [v2 0 0 34 (by omega), s2 0 0 34 (by omega), z0] at q; cases q⟩
      rw [sp, w1, obind, z1, obind]
      refine oR_of v4 ?_
      rw [ex, ey]
      exact w2.append z2
    · rw [z0, if_pos (show g32 (1 : Int) by decide), if_neg (by decide)]
      refine ⟨u + 1 + 1 + 1, A4, rfl, by omega, by omega, m4, e3, e4, r1, Or.inr ⟨z0, ?_⟩, fun q => by have := e7 q; omega⟩
      rw [sp, w1, obind, z1]
      rfl
  · rw [w0, if_pos (show g32 (1 : Int) by decide), if_neg (by decide)]
    refine ⟨u + 1, A2, rfl, by omega, by omega, m2, b3, b4, c1, Or.inr ⟨w0, ?_⟩, fun q => by have := b7 q; omega⟩
    rw [sp, w1]
    rfl
end STK3
