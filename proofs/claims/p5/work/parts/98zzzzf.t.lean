/-! a step's work on a crowd, of the class: DRAW, the splitting (own work) -/
section OPD
variable {C0 A : mA} {P pr i m cr st wt sl hm sc wc sp w : Nat} {e : kS} {L : List xE} {M : Int} {ρ : Int → Int}
/-- a lot's weight of a weight -/
theorem lot_w {S v b : Int} {z : Int} (hb : 0 < kBt S) (e : b = kBt S) (hv : 0 ≤ v ∧ v ≤ 1125899906842624) (hz : 1 ≤ z ∧ z ≤ 16) (hd : S ∣ v) : lShr (v * z) b = v / S * z := by
  have key : ∀ k : Nat, k ≤ 4 → S = 2 ^ k → kBt S = k → lShr (v * z) b = v / S * z := fun k k1 k2 k3 => by
    rw [e, k3]
    have g : g64 (v * z) := by
      have h1 : 0 ≤ v * z := Int.mul_nonneg hv.1 (by omega)
      have h2 : v * z ≤ 1125899906842624 * 16 := Int.mul_le_mul hv.2 hz.2 (by omega) (by decide)
      unfold g64
      omega
    rw [lShr_x g (by omega), ← k2]
    obtain ⟨c, rfl⟩ := hd
    have hS : S ≠ 0 := by
      rw [k2]
      exact Int.ne_of_gt (Int.pow_pos (by decide))
    rw [Int.mul_ediv_cancel_left _ hS, Int.mul_assoc, Int.mul_ediv_cancel_left _ hS]
  unfold kBt at hb
  by_cases s2 : S = 2
  · exact key 1 (by decide) s2 (by rw [s2]; rfl)
  rw [if_neg s2] at hb
  by_cases s4 : S = 4
  · exact key 2 (by decide) s4 (by rw [s4]; rfl)
  rw [if_neg s4] at hb
  by_cases s8 : S = 8
  · exact key 3 (by decide) s8 (by rw [s8]; rfl)
  rw [if_neg s8] at hb
  by_cases s16 : S = 16
  · exact key 4 (by decide) s16 (by rw [s16]; rfl)
  · rw [if_neg s16] at hb
    exact absurd hb (by decide)
def rmp (ρ : Int → Int) (l : List xE) : List xE := l.map (fun q => (ρ q.1, q.2))
theorem rmp_app {ρ : Int → Int} {a b : List xE} : rmp ρ (a ++ b) = rmp ρ a ++ rmp ρ b := List.map_append
/-- DRAW -/
theorem c_wDraw (hC : cS9 C0 pr i e) (k0 : sK e = 0) (hn : 0 ≤ sN e ∧ sN e < 6) (hlo : lotsOk (sL e)) (hu : sU e = ((sL e).length : Int)) (hb : 0 < kBt (kSumW (sL e))) (h7 : C0 6 (sAd C0 pr i) 7 = kBt (kSumW (sL e))) (hev : ∀ q ∈ L, kSumW (sL e) ∣ q.2 ∧ 0 ≤ q.2 ∧ q.2 ≤ 1125899906842624) (hw : (C0 7 w 0).toNat = m) (hm0 : mx0 C0 m st wt sl hm) (hc : CW C0 cr sc wc L) (h3 : g32 (C0 0 cr 3)) (q1 : sc ≠ st) (q2 : sc ≠ hm) (q3 : wc ≠ wt) (hM : okM M ρ) : ∃ r C', f_Walk_walkDraw C0 w pr (sAd C0 pr i) cr M = some (r, C') ∧ oRes m cr st wt sl hm sc wc sp C0 (rmp ρ (L.flatMap (xDraw e))) r C' := by
  obtain ⟨n0, hn0, hn1, hn2⟩ := hC.2.2.2.2 k0
  obtain ⟨lo1, lo8, lo⟩ := hlo
  have h4 := hc.2.2.2.1
  -- the lots of one state
  have inn : ∀ (c10 : mA → Nat → Nat → Nat → Nat → Int → Int → Option (Int × mA)) (j : Nat) (hj : j < L.length) (F t : Nat) (C : mA), t ≤ (sL e).length → (sL e).length - t < F → inG m cr st wt sl hm sp C0 C → MX C m st wt sl hm (rmp ρ ((L.take j).flatMap (xDraw e) ++ (xDraw e L[j]).take t)) →
      (∀ C', inG m cr st wt sl hm sp C0 C' → MX C' m st wt sl hm (rmp ρ ((L.take (j + 1)).flatMap (xDraw e))) → ∃ r C2, c10 C' w pr (sAd C0 pr i) cr M ((j : Int) + 1) = some (r, C2) ∧ oRes m cr st wt sl hm sc wc sp C0 (rmp ρ (L.flatMap (xDraw e))) r C2) →
      ∃ r C', f_Walk_walkDraw_30 c10 F C w pr (sAd C0 pr i) cr M j t = some (r, C') ∧ oRes m cr st wt sl hm sc wc sp C0 (rmp ρ (L.flatMap (xDraw e))) r C' := by
    intro c10 j hj F
    have hdl : (xDraw e L[j]).length = (sL e).length := by unfold xDraw; rw [List.length_map]
    induction F with
    | zero => intro t C _ h; omega
    | succ F ih =>
      intro t C h1 h2 hin hX hk
      have hc' := hcr hin hc q1 q2 q3
      have e62 : C 6 (sAd C0 pr i) 2 = ((sL e).length : Int) := by rw [hin.1 6 _ 2 (by omega), hC.1.2.2.1]; exact hu
      unfold f_Walk_walkDraw_30
      rw [e62, hc'.1, if_pos (show g32 (t : Int) by unfold g32; omega), if_pos (show g32 ((sL e).length : Int) by unfold g32; omega)]
      have done : t = (sL e).length → ∃ r C2, c10 C w pr (sAd C0 pr i) cr M ((j : Int) + 1) = some (r, C2) ∧ oRes m cr st wt sl hm sc wc sp C0 (rmp ρ (L.flatMap (xDraw e))) r C2 := fun et => by
        refine hk C hin ?_
        rw [show (xDraw e L[j]).take t = xDraw e L[j] from List.take_of_length_le (by omega)] at hX
        rw [take_s hj, List.flatMap_append]
        have e9 : [L[j]].flatMap (xDraw e) = xDraw e L[j] := by simp
        rw [e9]
        exact hX
      by_cases z : (sL e).length ≤ t
      · rw [if_pos (show ((sL e).length : Int) ≤ t by omega)]
        exact done (by omega)
      · have ht : t < (sL e).length := by omega
        rw [if_neg (show ¬ ((sL e).length : Int) ≤ t by omega), if_neg (show ¬ (8 : Int) ≤ t by omega), if_pos (show 0 ≤ (j : Int) ∧ (j : Int) < ((300 : Nat) : Int) by omega), Int.toNat_natCast]
        obtain ⟨v1, v2⟩ := hc'.at hj
        obtain ⟨hCs, es⟩ := hC.fr hin.1.cS
        obtain ⟨p1, p2⟩ := hn2 t ht
        obtain ⟨lq, hlq⟩ : ∃ lq, lq = (sL e).getD t (0, 0) := ⟨_, rfl⟩
        rw [← hlq] at p1 p2
        have lmem : lq ∈ sL e := by
          rw [hlq, List.getD_eq_getElem?_getD, List.getElem?_eq_getElem ht]
          exact List.getElem_mem ht
        have llo := lo lq lmem
        have e611 : C 6 (sAd C0 pr i) 11 = n0 := by rw [hin.1 6 _ 11 (by omega)]; exact hn0
        have lv : f_Prog_lotValue C pr (sAd C0 pr i) (t : Int) = some (lq.1, C) := c_lotV e611 (by omega) (by rw [hin.1 2 pr 4 (by omega), hin.1 27 _ _ (by omega)]; exact p1)
        have lw : f_Prog_lotWeight C pr (sAd C0 pr i) (t : Int) = some (lq.2, C) := c_lotW e611 (by omega) (by rw [hin.1 2 pr 5 (by omega), hin.1 27 _ _ (by omega)]; exact p2)
        rw [lv, obind]
        show ∃ r C', Option.bind (f_CS_withDigit C (C 31 sc j) (C 6 (sAd C0 pr i) 1) lq.1) _ = _ ∧ _
        have e61 : C 6 (sAd C0 pr i) 1 = sN e := by rw [hin.1 6 _ 1 (by omega)]; exact hC.1.2.1
        rw [c_with, obind, e61]
        show ∃ r C', Option.bind (f_Prog_lotWeight C pr (sAd C0 pr i) (t : Int)) _ = _ ∧ _
        rw [lw, obind]
        obtain ⟨w1, w2⟩ := wd_ud (v := lq.1) v2 hn llo.1
        obtain ⟨m1, m2⟩ := hM _ w1
        have ev := hev L[j] (List.getElem_mem hj)
        have e67 : C 6 (sAd C0 pr i) 7 = kBt (kSumW (sL e)) := by rw [hin.1 6 _ 7 (by omega)]; exact h7
        have ewt : lShr (C 32 wc j * lq.2) (kBt (kSumW (sL e))) = L[j].2 / kSumW (sL e) * lq.2 := by
          rw [v1] at ev ⊢
          exact lot_w hb rfl ev.2 llo.2 ev.1
        have egt : (xDraw e L[j])[t]'(by omega) = (wth L[j].1 (sN e).toNat lq.1, L[j].2 / kSumW (sL e) * lq.2) := by
          unfold xDraw
          rw [List.getElem_map]
          have : (sL e)[t] = lq := by
            rw [hlq, List.getD_eq_getElem?_getD, List.getElem?_eq_getElem ht]
            rfl
          rw [this]
        obtain ⟨r, C2, y1, y2, y3⟩ := op_put (Y := rmp ρ ((xDraw e L[j]).drop (t + 1) ++ (L.drop (j + 1)).flatMap (xDraw e))) (v := L[j].2 / kSumW (sL e) * lq.2) hin hX hc h3 m1 (ρ (wth L[j].1 (sN e).toNat lq.1)) (by rw [m2, w2, v1])
        show ∃ r C', (if g32 lq.2 then Option.bind (f_Mixer_put C ((C 7 w 0).toNat) (iAnd (wd (C 31 sc j) (sN e) lq.1) M) (lShr ((C 32 ((C 0 cr 1).toNat) j) * lq.2) (C 6 (sAd C0 pr i) 7))) _ else none) = _ ∧ _
        rw [if_pos (show g32 lq.2 by unfold g32; omega), show (C 7 w 0).toNat = m by rw [hin.1 7 w 0 (by omega)]; exact hw, hc'.2.1, e67, ewt, y1, obind]
        rcases y3 with ⟨rfl, y4⟩ | ⟨rfl, y4⟩
        · show ∃ r C', (if g32 1 then (if (1 : Int) = 0 then _ else f_Walk_walkDraw_30 c10 F C2 w pr (sAd C0 pr i) cr M j ((t : Int) + 1)) else none) = _ ∧ _
          have e3 : ((t : Int) + 1) = ((t + 1 : Nat) : Int) := by omega
          rw [if_pos (by decide), if_neg (by decide), e3]
          refine ih (t + 1) C2 ht (by omega) y2 ?_ hk
          rw [take_s (L := xDraw e L[j]) (by omega), ← List.append_assoc, rmp_app]
          have : rmp ρ [(xDraw e L[j])[t]'(by omega)] = [(ρ (wth L[j].1 (sN e).toNat lq.1), L[j].2 / kSumW (sL e) * lq.2)] := by rw [egt]; rfl
          rw [this]
          exact y4
        · refine ⟨0, C2, rfl, ?_⟩
          have el : rmp ρ (L.flatMap (xDraw e)) = rmp ρ ((L.take j).flatMap (xDraw e) ++ (xDraw e L[j]).take t) ++ (ρ (wth L[j].1 (sN e).toNat lq.1), L[j].2 / kSumW (sL e) * lq.2) :: rmp ρ ((xDraw e L[j]).drop (t + 1) ++ (L.drop (j + 1)).flatMap (xDraw e)) := by
            have a1 : L.flatMap (xDraw e) = (L.take j).flatMap (xDraw e) ++ (xDraw e L[j] ++ (L.drop (j + 1)).flatMap (xDraw e)) := by
              conv => lhs; rw [← List.take_append_drop j L, drop_s hj]
              rw [List.flatMap_append, List.flatMap_cons]
            have a2 : xDraw e L[j] = (xDraw e L[j]).take t ++ (wth L[j].1 (sN e).toNat lq.1, L[j].2 / kSumW (sL e) * lq.2) :: (xDraw e L[j]).drop (t + 1) := by
              conv => lhs; rw [← List.take_append_drop t (xDraw e L[j]), drop_s (L := xDraw e L[j]) (by omega), egt]
            have a3 : (L.take j).flatMap (xDraw e) ++ (xDraw e L[j] ++ (L.drop (j + 1)).flatMap (xDraw e)) = ((L.take j).flatMap (xDraw e) ++ (xDraw e L[j]).take t) ++ (wth L[j].1 (sN e).toNat lq.1, L[j].2 / kSumW (sL e) * lq.2) :: ((xDraw e L[j]).drop (t + 1) ++ (L.drop (j + 1)).flatMap (xDraw e)) := by
              conv => lhs; rw [a2]
              simp only [List.append_assoc, List.cons_append]
            rw [a1, a3, rmp_app]
            rfl
          rw [el]
          exact y4
  have go : ∀ (F j : Nat) (C : mA), j ≤ L.length → L.length - j < F → inG m cr st wt sl hm sp C0 C → MX C m st wt sl hm (rmp ρ ((L.take j).flatMap (xDraw e))) → ∃ r C', f_Walk_walkDraw_10 F C w pr (sAd C0 pr i) cr M j = some (r, C') ∧ oRes m cr st wt sl hm sc wc sp C0 (rmp ρ (L.flatMap (xDraw e))) r C' := by
    intro F
    induction F with
    | zero => intro j C _ h; omega
    | succ F ih =>
      intro j C h1 h2 hin hX
      have hc' := hcr hin hc q1 q2 q3
      have hw' : (C 7 w 0).toNat = m := by rw [hin.1 7 w 0 (by omega)]; exact hw
      unfold f_Walk_walkDraw_10
      rw [hc'.2.2.1, hw', if_pos (show g32 (j : Int) by unfold g32; omega), if_pos (show g32 ((L.length : Nat) : Int) by unfold g32; omega)]
      by_cases z : L.length ≤ j
      · rw [if_pos (show ((L.length : Nat) : Int) ≤ j by omega)]
        have ej : L.take j = L := List.take_of_length_le z
        rw [ej] at hX
        obtain ⟨C', a1, a2⟩ := op_end hin hX hc h3 q2
        rw [a1, obind]
        exact ⟨1, C', rfl, a2⟩
      · have hj : j < L.length := by omega
        rw [if_neg (show ¬ ((L.length : Nat) : Int) ≤ j by omega), if_neg (show ¬ (300 : Int) ≤ j by omega)]
        have e3 : ((j : Int) + 1) = ((j + 1 : Nat) : Int) := by omega
        refine inn (f_Walk_walkDraw_10 F) j hj 400 0 C (Nat.zero_le _) (by omega) hin (by rw [List.take_zero, List.append_nil]; exact hX) (fun C' a1 a2 => ?_)
        rw [e3]
        exact ih (j + 1) C' hj (by omega) a1 a2
  obtain ⟨C1, a1, a2, a3⟩ := c_clear hm0
  unfold f_Walk_walkDraw
  rw [hw, a1, obind]
  exact go 400 0 C1 (Nat.zero_le _) (by omega) (inG.mx a2) (by rw [List.take_zero]; exact a3)
end OPD
