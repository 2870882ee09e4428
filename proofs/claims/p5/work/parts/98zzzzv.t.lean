/-! odds of the reference: RUN as a step's work (own work) -/
theorem iOr_if {p q : Bool} : iOr (if p = true then 0 else 1) (if q = true then 0 else 1) = if (p && q) = true then 0 else 1 := by
  cases p <;> cases q <;> decide
theorem tn9_dg {D : Nat} : wth 0 0 D = (D : Int) * 100000 := by
  unfold wth dsum
  show 100000 * (if 0 = 0 then (D : Int) else dd 0 0) + 10000 * (if 1 = 0 then (D : Int) else dd 0 1) + 1000 * (if 2 = 0 then (D : Int) else dd 0 2) + 100 * (if 3 = 0 then (D : Int) else dd 0 3) + 10 * (if 4 = 0 then (D : Int) else dd 0 4) + (if 5 = 0 then (D : Int) else dd 0 5) = _
  rw [if_pos rfl, if_neg (by decide), if_neg (by decide), if_neg (by decide), if_neg (by decide), if_neg (by decide)]
  have e : ∀ j, dd 0 j = 0 := fun j => by unfold dd; split <;> rfl
  rw [e, e, e, e, e]
  omega
theorem xw_perm {l l' : List xE} (h : l.Perm l') (v : Int) : xw l v = xw l' v := tot_perm (h.filter _)
section STK5
variable {T : xT} {b : Int → Int} {cnt n : Nat} {mk : mA → Int → Int → Int → Nat → Int → Option (Int × mA)}
theorem m_tellX (hT : TB T b cnt) (hM : MKs T b cnt mk n) {Q D w : Nat} {A : mA} (hQ : Q < cnt) (hd : dep Q 0 < n) (hD : D < 10) (hm : mTab T cnt A) (hc : mCa T cnt A) (hw : A 0 0 33 = w) (h195 : w + 2 + pB Q 0 ≤ 195) (h34 : A 0 0 34 = 0 ∨ A 0 0 34 = 1) (h35 : g32 (A 0 0 35)) : ∃ A', f_Mo_tell mk A Q D = some (0, A') ∧ mkF w A A' ∧ mCa T cnt A' ∧ A' 0 0 33 = w ∧ A' 0 0 34 = A 0 0 34 ∧ A' 0 0 35 = A 0 0 35 ∧ A' 47 Q D = 1 := by
  have hc6 := hT.1
  obtain ⟨ho, hX, hb, hb0, hb1⟩ := hT.2 Q hQ
  have pQ : 0 ≤ (Q : Int) ∧ (Q : Int) < ((6 : Nat) : Int) := by omega
  have pD : 0 ≤ (D : Int) ∧ (D : Int) < ((10 : Nat) : Int) := by omega
  unfold f_Mo_tell
  simp only [Int.toNat_natCast]
  rw [if_pos pQ, if_pos pD]
  rcases hc Q hQ D hD with q | ⟨q, -⟩
  · rw [q, if_pos (show g32 (0 : Int) by decide), if_pos rfl]
    obtain ⟨A0, hA0⟩ : ∃ A0, A0 = mu A 0 0 34 0 := ⟨_, rfl⟩
    have f0 : ∀ f x z, ¬ (f = 0 ∧ x = 0 ∧ z = 34) → A0 f x z = A f x z := fun f x z q => by rw [hA0, mu_ne _ _ (by omega)]
    obtain ⟨A1, s1, s2, s3, s4, s5⟩ := m_tkn (A := A0) ((f0 0 0 33 (by omega)).trans hw) (by omega)
    obtain ⟨A2, d1, d2, d3, d4⟩ := o_come (A := A1) (s := wth 0 0 D) (w := 1125899906842624) s5 (wth_r (by decide) (by omega)) (by decide)
    have c2 : oC A2 w = [((D : Int) * 100000, 1125899906842624)] := by
      rw [d2, s4, tn9_dg]
      rfl
    have m0 : mkF w A A0 := fun f x z q => f0 f x z (by omega)
    have m2 : mkF w A A2 := m0.trans ((mkF.p s2).trans (mkF.r d3 (Nat.le_refl _)))
    have hm2 := hm.fr hT m2
    have hc2 : mCa T cnt A2 := ((hc.cg (fun f x z q => f0 f x z (by omega))).p s2).cg (fun f x z q => d3 f x z (by omega))
    have e33 : A2 0 0 33 = ((w + 1 : Nat) : Int) := (d3 0 0 33 (by omega)).trans s3
    have e34 : A2 0 0 34 = 0 := by rw [d3 0 0 34 (by omega), s2 0 0 34 (by omega), hA0, mu_at]
    have e35 : A2 0 0 35 = A 0 0 35 := by rw [d3 0 0 35 (by omega), s2 0 0 35 (by omega), f0 0 0 35 (by omega)]
    obtain ⟨A3, b1, b2, b3, b4, b5, b6, -⟩ := hM Q 0 (T Q).1 w (w + 1) 0 0 A2 [((D : Int) * 100000, 1125899906842624)] hQ ho.2.1 (Nat.le_refl _) (Int.le_refl _) hd hm2 hc2 e33 (by omega) (by omega) d4 (by rw [c2]) (by show 1 ≤ 300; decide) (Int.le_refl _) (gd_one (by omega)) (by rw [← hb]; omega) e34 (by rw [e35]; exact h35)
    obtain ⟨c1, c3⟩ := b5
    obtain ⟨A4, t1, ⟨t2, t3, t4, t5, t6⟩, t7, t8⟩ := m_tel1 (mk := mk) (A := A3) (o := w + 1) (wz := A3 0 0 34) (b3 := A 0 0 35) (b4 := A 0 0 34) (b5 := A 0 0 33) (P := Q) (D := D) (by omega) hD c1 rfl (by rcases c3 with q | q <;> omega) h34 310 0 A3 (by omega) (by omega) (fun _ _ _ _ => rfl) (fun v h => by omega)
    refine ⟨A4, ?_, (m2.trans (b2.up (by omega))).trans (mkF.t t8), b3.tel hD t8 t2 ?_, t4.trans hw, t5, t6, t2⟩
    · rw [← hA0, s1, obind]
      show Option.bind (f_Mo_with A1 0 0 D) _ = _
      rw [m_wth (by decide) (by decide) (by omega), obind]
      show Option.bind (f_Odds_come A1 ((w : Int)).toNat (wth 0 0 D) 1125899906842624) _ = _
      rw [Int.toNat_natCast, d1, obind]
      show Option.bind (mk A2 Q 0 (A2 5 0 Q) w (-1)) _ = _
      have b1' : mk A2 Q 0 ((T Q).1 : Int) w (-1) = some (((w + 1 : Nat) : Int), A3) := b1
      rw [(hm2 Q hQ).1, b1', obind]
      show f_Mo_tell_74 mk 310 A3 Q D (A 0 0 35) (A 0 0 34) (A 0 0 33) (((w + 1 : Nat) : Int)).toNat 0 = _
      rw [Int.toNat_natCast]
      exact t1
    · rw [t3]
      rcases c3 with ⟨w0, R, w1, w2, w3⟩ | ⟨w0, w1⟩
      · refine Or.inr ⟨w0, R, w1, fun v hv => ?_⟩
        rw [t7 v hv, if_pos w0, xw_perm w2]
      · refine Or.inl ⟨w0, w1, fun v hv => ?_⟩
        rw [t7 v hv, if_neg (by omega)]
  · rw [q, if_pos (show g32 (1 : Int) by decide), if_neg (by decide)]
    exact ⟨A, rfl, mkF.refl, hc, hw, rfl, rfl, q⟩
theorem okW.le {b : Int} {f : Nat → Int} (h : okW b f) {v : Nat} (hv : v < 10) : 0 ≤ f v ∧ f v ≤ 1125899906842624 := by
  obtain ⟨h1, h2⟩ := h
  have k := fun v => (h1 v).1
  have k0 := k 0; have k1 := k 1; have k2 := k 2; have k3 := k 3; have k4 := k 4; have k5 := k 5; have k6 := k 6; have k7 := k 7; have k8 := k 8; have k9 := k 9
  unfold s10 at h2
  have hv : v = 0 ∨ v = 1 ∨ v = 2 ∨ v = 3 ∨ v = 4 ∨ v = 5 ∨ v = 6 ∨ v = 7 ∨ v = 8 ∨ v = 9 := by omega
  rcases hv with rfl | rfl | rfl | rfl | rfl | rfl | rfl | rfl | rfl | rfl <;> omega
theorem okW_nil {b : Int} : okW b (fun v => xw [] ((v : Nat) : Int)) := okW_of ⟨List.nodup_nil, (fun q hq => absurd hq (List.not_mem_nil)), (by show (0 : Int) ≤ 1125899906842624; decide)⟩
/-- one more of those that are run, value by value -/
theorem r83 {A0 : mA} {e : kS} {P i x u Q j D : Nat} {B b' : Int} {q : xE} {W : Int → Int → Int} {X : List xE} {K : Option (Int × mA) → Prop} {c19 : mA → Int → Int → Nat → Nat → Int → Int → Option (Int × mA)} (hP : P < 6) (hi : i < 16) (hQ : Q < 6) (hj : j < 301) (hD : D < 10) (hn : 0 ≤ sN e ∧ sN e < 6) (hB : 0 ≤ B) (hb' : 0 ≤ b') (h50 : B + b' ≤ 50) (hxu : x ≠ u) (e3 : A0 3 x j = q.1) (e4 : A0 4 x j = q.2) (e35 : A0 35 P i = sN e) (e51 : ∀ v : Nat, v < 10 → A0 51 (Q * 10 + D) v = W (xv e q.1 % 10) ((v : Nat) : Int)) (hW : okW b' (fun v => W (xv e q.1 % 10) ((v : Nat) : Int))) (hq1 : 0 ≤ q.1 ∧ q.1 ≤ 999999) (hq2 : 0 ≤ q.2 ∧ q.2 ≤ 1125899906842624) (hq3 : dv B ∣ q.2)
    (hk : ∀ B', rOd A0 B' u → oQ B' u → oC B' u = mcl [] (X ++ xRun e W q) → K (c19 B' P i x u Q ((j : Int) + 1))) : ∀ (F v : Nat) (M : mA), v ≤ 10 → 10 - v < F → rOd A0 M u → oQ M u → oC M u = mcl [] (X ++ (xRun e W q).take v) → K (f_Mo_run_83 mk c19 F M P i x u Q j D v) := by
  have hlen : (xRun e W q).length = 10 := by unfold xRun; rw [List.length_map, List.length_range]
  intro F
  induction F with
  | zero => intro v M _ h; omega
  | succ F ih =>
    intro v M h1 h2 hf hQ' hC
    unfold f_Mo_run_83
    simp only [Int.toNat_natCast]
    rw [if_pos (show g32 (v : Int) by unfold g32; omega)]
    by_cases z : 10 ≤ v
    · rw [if_pos (show (10 : Int) ≤ v by omega)]
      rw [List.take_of_length_le (by omega)] at hC
      exact hk M hf hQ' hC
    · have ev : ((v : Int) + 1) = ((v + 1 : Nat) : Int) := by omega
      have wl := hW.le (v := v) (by omega)
      have wl : 0 ≤ W (xv e q.1 % 10) (v : Int) ∧ W (xv e q.1 % 10) (v : Int) ≤ 1125899906842624 := wl
      rw [if_neg (show ¬ (10 : Int) ≤ v by omega), if_pos (show 0 ≤ (j : Int) ∧ (j : Int) < ((301 : Nat) : Int) by omega), if_pos (show 0 ≤ (P : Int) ∧ (P : Int) < ((6 : Nat) : Int) by omega), if_pos (show 0 ≤ (i : Int) ∧ (i : Int) < ((16 : Nat) : Int) by omega), hf 3 x j (by omega), e3, hf 35 P i (by omega), e35, m_wth hq1 hn (by omega), obind, if_pos (show 0 ≤ (Q : Int) ∧ (Q : Int) < ((6 : Nat) : Int) by omega), if_pos (show 0 ≤ (D : Int) ∧ (D : Int) < ((10 : Nat) : Int) by omega), if_pos (show 0 ≤ (v : Int) ∧ (v : Int) < ((10 : Nat) : Int) by omega)]
      show K (Option.bind (f_Mo_times M (M 4 x j) (M 51 (Q * 10 + D) v)) _)
      rw [hf 4 x j (by omega), e4, hf 51 _ v (by omega), e51 v (by omega), m_times hB hb' h50 hq2 wl hq3 (hW.1 v).2, obind]
      have p0 : 0 ≤ q.2 * W (xv e q.1 % 10) (v : Int) := Int.mul_nonneg hq2.1 wl.1
      have p1 : q.2 * W (xv e q.1 % 10) (v : Int) / 1125899906842624 ≤ q.2 := Int.ediv_le_of_le_mul (by decide) (Int.mul_le_mul_of_nonneg_left wl.2 hq2.1)
      have p2 : 0 ≤ q.2 * W (xv e q.1 % 10) (v : Int) / 1125899906842624 := Int.ediv_nonneg p0 (by decide)
      obtain ⟨M2, y1, y2, y3, y4⟩ := o_come (A := M) (s := wth q.1 (sN e).toNat v) (w := q.2 * W (xv e q.1 % 10) (v : Int) / 1125899906842624) hQ' (wth_r hq1 (by omega)) (by unfold g64; omega)
      show K (Option.bind (f_Odds_come M u (wth q.1 (sN e).toNat v) (q.2 * W (xv e q.1 % 10) (v : Int) / 1125899906842624)) _)
      rw [y1, obind, ev]
      refine ih (v + 1) M2 (by omega) (by omega) (hf.trans y3) y4 ?_
      have egt : (xRun e W q)[v]'(by omega) = (wth q.1 (sN e).toNat (v : Nat), q.2 * W (xv e q.1 % 10) (v : Nat) / 1125899906842624) := by
        unfold xRun
        rw [List.getElem_map, List.getElem_range]
      rw [y2, hC, take_s (L := xRun e W q) (by omega), ← List.append_assoc, egt]
      exact (mcl_app (y := [(wth q.1 (sN e).toNat (v : Nat), q.2 * W (xv e q.1 % 10) (v : Nat) / 1125899906842624)])).symm
end STK5
