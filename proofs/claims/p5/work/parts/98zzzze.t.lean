/-! a step's work on a crowd, of the class: SEE, the mixing of crowds, DRAW (own work) -/
theorem lsh_amt : ∀ y : Fin 64, (((Int32.ofInt ((y.val : Nat) : Int)).toInt64 &&& 63).toBitVec.smod 64).toNat = y.val := by decide +kernel
theorem lShr_x {x : Int} {y : Nat} (h : g64 x) (hy : y < 64) : lShr x y = x / 2 ^ y := by
  have e : lShr x y = ((Int64.ofInt x).toBitVec.sshiftRight' (((Int32.ofInt ((y : Nat) : Int)).toInt64 &&& 63).toBitVec.smod 64)).toInt := rfl
  rw [e]
  have k := lsh_amt ⟨y, hy⟩
  show ((Int64.ofInt x).toBitVec.sshiftRight (((Int32.ofInt ((y : Nat) : Int)).toInt64 &&& 63).toBitVec.smod 64).toNat).toInt = _
  rw [show (((Int32.ofInt ((y : Nat) : Int)).toInt64 &&& 63).toBitVec.smod 64).toNat = y from k]
  rw [BitVec.toInt_sshiftRight]
  have e2 : (Int64.ofInt x).toBitVec.toInt = x := Int64.toInt_ofInt_of_le (by unfold g64 at h; exact h.1) (by unfold g64 at h; omega)
  rw [e2, Int.shiftRight_eq_div_pow]
  rfl
section OPT
variable {C0 A : mA} {P pr i m cr st wt sl hm sc wc sp w : Nat} {e : kS} {L : List xE} {M : Int} {ρ : Int → Int}
/-- a crowd comes into the mixer -/
theorem c_putAll {X : List xE} (hX : MX C0 m st wt sl hm X) (hc : CW C0 cr sc wc L) (q1 : sc ≠ st) (q2 : sc ≠ hm) (q3 : wc ≠ wt) (hM : okM M ρ) : ∃ r C', f_Mixer_putAll C0 m cr M = some (r, C') ∧ inG m cr st wt sl hm sp C0 C' ∧ ((r = 1 ∧ MX C' m st wt sl hm (X ++ L.map (fun q => (ρ q.1, q.2)))) ∨ (r = 0 ∧ 300 < (col [] (X ++ L.map (fun q => (ρ q.1, q.2)))).length ∧ mx0 C' m st wt sl hm)) := by
  have go : ∀ (F j : Nat) (C : mA), j ≤ L.length → L.length - j < F → inG m cr st wt sl hm sp C0 C → MX C m st wt sl hm (X ++ (L.take j).map (fun q => (ρ q.1, q.2))) → ∃ r C', f_Mixer_putAll_5 F C m cr M 1 j = some (r, C') ∧ inG m cr st wt sl hm sp C0 C' ∧ ((r = 1 ∧ MX C' m st wt sl hm (X ++ L.map (fun q => (ρ q.1, q.2)))) ∨ (r = 0 ∧ 300 < (col [] (X ++ L.map (fun q => (ρ q.1, q.2)))).length ∧ mx0 C' m st wt sl hm)) := by
    intro F
    induction F with
    | zero => intro j C _ h; omega
    | succ F ih =>
      intro j C h1 h2 hin hX
      have hc' := hcr hin hc q1 q2 q3
      have h4 := hc.2.2.2.1
      unfold f_Mixer_putAll_5
      rw [hc'.2.2.1, hc'.1, hc'.2.1, if_pos (show g32 (j : Int) by unfold g32; omega), if_pos (show g32 ((L.length : Nat) : Int) by unfold g32; omega)]
      by_cases z : L.length ≤ j
      · rw [if_pos (show ((L.length : Nat) : Int) ≤ j by omega), if_pos (Or.inr rfl)]
        have ej : L.take j = L := List.take_of_length_le z
        rw [ej] at hX
        exact ⟨1, C, rfl, hin, Or.inl ⟨rfl, hX⟩⟩
      · have hj : j < L.length := by omega
        rw [if_neg (show ¬ ((L.length : Nat) : Int) ≤ j by omega), if_neg (show ¬ (300 : Int) ≤ j by omega), if_pos (by decide), if_neg (by decide), if_pos (show 0 ≤ (j : Int) ∧ (j : Int) < ((300 : Nat) : Int) by omega), Int.toNat_natCast]
        obtain ⟨v1, v2⟩ := hc'.at hj
        obtain ⟨m1, m2⟩ := hM _ v2
        obtain ⟨r, C2, y1, y2, y3⟩ := hX.put (w := C 32 wc j) m1
        have hin2 := hin.trans (inG.mx (cr := cr) (sp := sp) y2)
        rw [y1, obind]
        have el : X ++ L.map (fun q => (ρ q.1, q.2)) = ((X ++ (L.take j).map (fun q => (ρ q.1, q.2))) ++ [(ud (iAnd (C 31 sc j) M), C 32 wc j)]) ++ (L.drop (j + 1)).map (fun q => (ρ q.1, q.2)) := by
          rw [m2]
          conv => lhs; rw [← List.take_append_drop j L, drop_s hj, v1]
          rw [List.map_append, List.map_cons, List.append_assoc, List.append_assoc]
          rfl
        rcases y3 with ⟨rfl, y4⟩ | ⟨rfl, y5, y4⟩
        · have e3 : ((j : Int) + 1) = ((j + 1 : Nat) : Int) := by omega
          show ∃ r C', f_Mixer_putAll_5 F C2 m cr M 1 ((j : Int) + 1) = _ ∧ _
          rw [e3]
          refine ih (j + 1) C2 hj (by omega) hin2 ?_
          rw [take_s hj, List.map_append, ← List.append_assoc]
          show MX C2 m st wt sl hm (_ ++ [(ρ L[j].1, L[j].2)])
          rw [v1, ← m2]
          exact y4
        · obtain ⟨F, rfl⟩ : ∃ F', F = F' + 1 := ⟨F - 1, by omega⟩
          have hc2 := hcr hin2 hc q1 q2 q3
          refine ⟨0, C2, ?_, hin2, Or.inr ⟨rfl, ?_, by rw [y5]; exact hX.x0⟩⟩
          · show f_Mixer_putAll_5 (F + 1) C2 m cr M 0 ((j : Int) + 1) = _
            unfold f_Mixer_putAll_5
            rw [hc2.2.2.1, if_pos (show g32 ((j : Int) + 1) by unfold g32; omega), if_pos (show g32 ((L.length : Nat) : Int) by unfold g32; omega)]
            by_cases z1 : ((L.length : Nat) : Int) ≤ (j : Int) + 1
            · rw [if_pos z1, if_pos (Or.inl rfl)]
            · rw [if_neg z1]
              by_cases z2 : (300 : Int) ≤ (j : Int) + 1
              · rw [if_pos z2, if_pos (Or.inl rfl)]
              · rw [if_neg z2, if_pos (by decide), if_pos rfl, if_pos (Or.inl rfl)]
          · rw [el]
            exact col_more y4
  unfold f_Mixer_putAll
  exact go 400 0 C0 (Nat.zero_le _) (by have := hc.2.2.2.1; omega) inG.refl (by rw [List.take_zero]; simpa using hX)
/-- SEE -/
theorem c_wSee (hP : P < 6) (hC : cS9 C0 pr i e) (hA : mS9 A P i e) (k0 : sK e ≠ 0) (k4 : sK e ≠ 4) (hw : (C0 7 w 0).toNat = m) (hsp : (C0 2 pr 7).toNat = sp) (hm0 : mx0 C0 m st wt sl hm) (hc : CW C0 cr sc wc L) (h3 : g32 (C0 0 cr 3)) (q1 : sc ≠ st) (q2 : sc ≠ hm) (q3 : wc ≠ wt) (hM : okM M ρ) : ∃ r C', f_Walk_walkSee C0 w pr (sAd C0 pr i) cr M = some (r, C') ∧ oRes m cr st wt sl hm sc wc sp C0 ((L.filter (fun q => xv e q.1 != 0)).map (fun q => (ρ q.1, q.2))) r C' := by
  have go : ∀ (F j : Nat) (C : mA), j ≤ L.length → L.length - j < F → inG m cr st wt sl hm sp C0 C → MX C m st wt sl hm (((L.take j).filter (fun q => xv e q.1 != 0)).map (fun q => (ρ q.1, q.2))) → ∃ r C', f_Walk_walkSee_10 F C w pr (sAd C0 pr i) cr M j = some (r, C') ∧ oRes m cr st wt sl hm sc wc sp C0 ((L.filter (fun q => xv e q.1 != 0)).map (fun q => (ρ q.1, q.2))) r C' := by
    intro F
    induction F with
    | zero => intro j C _ h; omega
    | succ F ih =>
      intro j C h1 h2 hin hX
      have hc' := hcr hin hc q1 q2 q3
      have h4 := hc.2.2.2.1
      have hw' : (C 7 w 0).toNat = m := by rw [hin.1 7 w 0 (by omega)]; exact hw
      unfold f_Walk_walkSee_10
      rw [hc'.2.2.1, hw', hc'.1, if_pos (show g32 (j : Int) by unfold g32; omega), if_pos (show g32 ((L.length : Nat) : Int) by unfold g32; omega)]
      by_cases z : L.length ≤ j
      · rw [if_pos (show ((L.length : Nat) : Int) ≤ j by omega)]
        have ej : L.take j = L := List.take_of_length_le z
        rw [ej] at hX
        obtain ⟨C', a1, a2⟩ := op_end hin hX hc h3 q2
        rw [a1, obind]
        exact ⟨1, C', rfl, a2⟩
      · have hj : j < L.length := by omega
        rw [if_neg (show ¬ ((L.length : Nat) : Int) ≤ j by omega), if_neg (show ¬ (300 : Int) ≤ j by omega), if_pos (show 0 ≤ (j : Int) ∧ (j : Int) < ((300 : Nat) : Int) by omega), Int.toNat_natCast]
        obtain ⟨v1, v2⟩ := hc'.at hj
        obtain ⟨hCs, es⟩ := hC.fr hin.1.cS
        obtain ⟨C1, x1, x2⟩ := c_xv hP hCs hA k0 k4 v2 v2.tn
        have gx : g32 (xv e (ud (C 31 sc j))) := (m_xv hP hA k0 k4 v2.tn).2.1
        rw [es] at x1
        rw [x1, obind]
        have x2' : stk sp C C1 0 := by
          have : (C 2 pr 7).toNat = sp := by rw [hin.1 2 pr 7 (by omega)]; exact hsp
          rwa [this] at x2
        have hin1 := hin.trans (inG.stk x2')
        have hX1 : MX C1 m st wt sl hm (((L.take j).filter (fun q => xv e q.1 != 0)).map (fun q => (ρ q.1, q.2))) := hX.cg (fun k _ => x2' 1 m k (by omega)) (fun k => ⟨x2' 31 st k (by omega), x2' 31 hm k (by omega)⟩) (fun k => x2' 32 wt k (by omega)) (fun k => x2' 33 sl k (by omega))
        have e3 : ((j : Int) + 1) = ((j + 1 : Nat) : Int) := by omega
        show ∃ r C', (if g32 (xv e (ud (C 31 sc j))) then (if xv e (ud (C 31 sc j)) = 0 then f_Walk_walkSee_10 F C1 w pr (sAd C0 pr i) cr M ((j : Int) + 1) else Option.bind (f_Mixer_put C1 ((C1 7 w 0).toNat) (iAnd (C 31 sc j) M) (C1 32 ((C1 0 cr 1).toNat) j)) (fun q19 => (if g32 q19.1 then (if q19.1 = 0 then (some (0, q19.2)) else (f_Walk_walkSee_10 F q19.2 w pr (sAd C0 pr i) cr M ((j : Int) + 1))) else none))) else none) = _ ∧ _
        rw [if_pos gx]
        by_cases kx : xv e (ud (C 31 sc j)) = 0
        · rw [if_pos kx, e3]
          refine ih (j + 1) C1 hj (by omega) hin1 ?_
          rw [take_s hj, List.filter_append]
          have : [L[j]].filter (fun q => xv e q.1 != 0) = [] := by
            rw [v1]
            simp [kx]
          rw [this, List.append_nil]
          exact hX1
        · rw [if_neg kx]
          obtain ⟨m1, m2⟩ := hM _ v2
          have hc1 := hcr hin1 hc q1 q2 q3
          have ew : C1 32 wc j = C 32 wc j := x2' 32 wc j (by omega)
          have fj : [L[j]].filter (fun q => xv e q.1 != 0) = [L[j]] := by
            rw [v1]
            simp [kx]
          obtain ⟨r, C2, y1, y2, y3⟩ := op_put (Y := ((L.drop (j + 1)).filter (fun q => xv e q.1 != 0)).map (fun q => (ρ q.1, q.2))) (v := C1 32 wc j) hin1 hX1 hc h3 m1 _ m2
          rw [show (C1 7 w 0).toNat = m by rw [hin1.1 7 w 0 (by omega)]; exact hw, hc1.2.1, y1, obind]
          rcases y3 with ⟨rfl, y4⟩ | ⟨rfl, y4⟩
          · show ∃ r C', (if g32 1 then (if (1 : Int) = 0 then _ else f_Walk_walkSee_10 F C2 w pr (sAd C0 pr i) cr M ((j : Int) + 1)) else none) = _ ∧ _
            rw [if_pos (by decide), if_neg (by decide), e3]
            refine ih (j + 1) C2 hj (by omega) y2 ?_
            rw [take_s hj, List.filter_append, List.map_append, fj]
            show MX C2 m st wt sl hm (_ ++ [(ρ L[j].1, L[j].2)])
            rw [v1]
            show MX C2 m st wt sl hm (_ ++ [(ρ (ud (C 31 sc j)), C 32 wc j)])
            rw [← ew]
            exact y4
          · refine ⟨0, C2, rfl, ?_⟩
            have el : (L.filter (fun q => xv e q.1 != 0)).map (fun q => (ρ q.1, q.2)) = ((L.take j).filter (fun q => xv e q.1 != 0)).map (fun q => (ρ q.1, q.2)) ++ (ρ (ud (C 31 sc j)), C1 32 wc j) :: ((L.drop (j + 1)).filter (fun q => xv e q.1 != 0)).map (fun q => (ρ q.1, q.2)) := by
              conv => lhs; rw [← List.take_append_drop j L, drop_s hj, List.filter_append, List.map_append, ← List.singleton_append, List.filter_append, fj, v1]
              rw [ew]
              rfl
            rw [el]
            exact y4
  obtain ⟨C1, a1, a2, a3⟩ := c_clear hm0
  unfold f_Walk_walkSee
  rw [hw, a1, obind]
  exact go 400 0 C1 (Nat.zero_le _) (by have := hc.2.2.2.1; omega) (inG.mx a2) (by rw [List.take_zero]; exact a3)
end OPT
