/-! a step's work on a crowd, of the class (own work) -/
/-- what an operation on a crowd may change -/
def opG (m cr st wt sl hm sp : Nat) (C C' : mA) : Prop := ∀ f a j, ¬ ((f = 31 ∧ (a = st ∨ a = hm)) ∨ (f = 32 ∧ a = wt) ∨ (f = 33 ∧ a = sl) ∨ (f = 1 ∧ a = m ∧ j < 3) ∨ (f = 0 ∧ a = cr ∧ j < 4) ∨ (f = 37 ∧ a = sp)) → C' f a j = C f a j
theorem opG.refl {m cr st wt sl hm sp : Nat} {C : mA} : opG m cr st wt sl hm sp C C := fun _ _ _ _ => rfl
theorem opG.trans {m cr st wt sl hm sp : Nat} {C C' C'' : mA} (h : opG m cr st wt sl hm sp C C') (h' : opG m cr st wt sl hm sp C' C'') : opG m cr st wt sl hm sp C C'' := fun f a j q => (h' f a j q).trans (h f a j q)
theorem opG.mx {m cr st wt sl hm sp : Nat} {C C' : mA} (h : mxF m st wt sl hm C C') : opG m cr st wt sl hm sp C C' := fun f a j q => h f a j (by omega)
theorem opG.stk {m cr st wt sl hm sp : Nat} {C C' : mA} (h : stk sp C C' 0) : opG m cr st wt sl hm sp C C' := fun f a j q => h f a j (by omega)
theorem opG.pour {m cr st wt sl hm sp : Nat} {C C' : mA} (h : ∀ f a j, ¬ ((f = 0 ∧ a = cr ∧ j < 4) ∨ (f = 1 ∧ a = m ∧ j < 3)) → C' f a j = C f a j) : opG m cr st wt sl hm sp C C' := fun f a j q => h f a j (by omega)
/-- inside a loop the crowd itself stays -/
def inG (m cr st wt sl hm sp : Nat) (C C' : mA) : Prop := opG m cr st wt sl hm sp C C' ∧ (∀ j, C' 0 cr j = C 0 cr j) ∧ ∀ j, j ≠ 2 → C' 1 m j = C 1 m j
theorem inG.refl {m cr st wt sl hm sp : Nat} {C : mA} : inG m cr st wt sl hm sp C C := ⟨opG.refl, fun _ => rfl, fun _ _ => rfl⟩
theorem inG.trans {m cr st wt sl hm sp : Nat} {C C' C'' : mA} (h : inG m cr st wt sl hm sp C C') (h' : inG m cr st wt sl hm sp C' C'') : inG m cr st wt sl hm sp C C'' := ⟨h.1.trans h'.1, fun j => (h'.2.1 j).trans (h.2.1 j), fun j q => (h'.2.2 j q).trans (h.2.2 j q)⟩
theorem inG.mx {m cr st wt sl hm sp : Nat} {C C' : mA} (h : mxF m st wt sl hm C C') : inG m cr st wt sl hm sp C C' := ⟨opG.mx h, fun j => h 0 cr j (by omega), fun j q => h 1 m j (by omega)⟩
theorem inG.stk {m cr st wt sl hm sp : Nat} {C C' : mA} (h : stk sp C C' 0) : inG m cr st wt sl hm sp C C' := ⟨opG.stk h, fun j => h 0 cr j (by omega), fun j q => h 1 m j (by omega)⟩
theorem cS9.fr {C C' : mA} {pr i : Nat} {e : kS} (h : cS9 C pr i e) (hf : ∀ f a j, f = 2 ∨ f = 6 ∨ f = 25 ∨ f = 27 ∨ f = 36 → C' f a j = C f a j) : cS9 C' pr i e ∧ sAd C' pr i = sAd C pr i := by
  have es : sAd C' pr i = sAd C pr i := by
    show (C' 25 (C' 2 pr 0).toNat i).toNat = (C 25 (C 2 pr 0).toNat i).toNat
    rw [hf 2 pr 0 (by omega), hf 25 _ i (by omega)]
  exact ⟨h.cg es (fun k _ => hf 6 _ k (by omega)) (hf 2 pr 2 (by omega)) (hf 2 pr 4 (by omega)) (hf 2 pr 5 (by omega)) (fun j => hf 36 _ j (by omega)) (fun a j _ => hf 27 a j (by omega)), es⟩
theorem opG.cS {m cr st wt sl hm sp : Nat} {C C' : mA} (h : opG m cr st wt sl hm sp C C') : ∀ f a j, f = 2 ∨ f = 6 ∨ f = 25 ∨ f = 27 ∨ f = 36 → C' f a j = C f a j := fun f a j q => h f a j (by omega)
/-- what a step has made of a crowd: all is in, or there are too many -/
theorem CW.g2 {C : mA} {cr st wt : Nat} {L : List xE} (h : CW C cr st wt L) : g32 (C 0 cr 2) := by
  rw [h.2.2.1]
  have := h.2.2.2.1
  unfold g32
  omega
def gCr (C : mA) (a : Nat) : Prop := g32 (C 0 a 2) ∧ g32 (C 0 a 3)
def oRes (m cr st wt sl hm sc wc sp : Nat) (C : mA) (Y : List xE) (r : Int) (C' : mA) : Prop := opG m cr st wt sl hm sp C C' ∧ gCr C' cr ∧ ((r = 1 ∧ CW C' cr st wt (col [] Y) ∧ mx0 C' m sc wc sl hm) ∨ (r = 0 ∧ 300 < (col [] Y).length ∧ (C' 0 cr 0).toNat = sc ∧ (C' 0 cr 1).toNat = wc ∧ mx0 C' m st wt sl hm))
theorem MX.x0 {C : mA} {m st wt sl hm : Nat} {X : List xE} (h : MX C m st wt sl hm X) : mx0 C m st wt sl hm := by
  obtain ⟨n, ⟨e0, e1, e3, e4, e2, h300, hne, hg, hT, hnd, hsl⟩, -, -⟩ := h
  exact ⟨e0, e1, e3, e4, hne, hsl⟩
theorem col_more {X Y : List xE} (h : 300 < (col [] X).length) : 300 < (col [] (X ++ Y)).length := by
  rw [col_app]
  exact Nat.lt_of_lt_of_le h col_len
section OPS
variable {C0 A : mA} {P pr i m cr st wt sl hm sc wc sp w : Nat} {e : kS} {L : List xE} {M : Int} {ρ : Int → Int}
/-- the loop's end -/
theorem op_end {C : mA} {X : List xE} (hin : inG m cr st wt sl hm sp C0 C) (hX : MX C m st wt sl hm X) (hc : CW C0 cr sc wc L) (h3 : g32 (C0 0 cr 3)) (hs : sc ≠ hm) : ∃ C', f_Mixer_pourInto C m cr = some (0, C') ∧ oRes m cr st wt sl hm sc wc sp C0 X 1 C' := by
  obtain ⟨C', a1, a2, a3, a4, a5⟩ := c_pour (cr := cr) (sc := sc) (wc := wc) hX (by rw [hin.2.1]; exact hc.1) (by rw [hin.2.1]; exact hc.2.1) (by rw [hin.2.1]; exact h3) hs
  exact ⟨C', a1, hin.1.trans (opG.pour a2), ⟨a3.g2, a5⟩, Or.inl ⟨rfl, a3, a4⟩⟩
/-- one more comes -/
theorem op_put {C : mA} {X Y : List xE} {s v : Int} (hin : inG m cr st wt sl hm sp C0 C) (hX : MX C m st wt sl hm X) (hc : CW C0 cr sc wc L) (h3 : g32 (C0 0 cr 3)) (hs : vs9 s) (t : Int) (et : ud s = t) : ∃ r C', f_Mixer_put C m s v = some (r, C') ∧ inG m cr st wt sl hm sp C0 C' ∧ ((r = 1 ∧ MX C' m st wt sl hm (X ++ [(t, v)])) ∨ (r = 0 ∧ oRes m cr st wt sl hm sc wc sp C0 (X ++ (t, v) :: Y) 0 C')) := by
  obtain ⟨r, C', a1, a2, a3⟩ := hX.put (w := v) hs
  have hin' := hin.trans (inG.mx a2)
  refine ⟨r, C', a1, hin', ?_⟩
  rw [et] at a3
  rcases a3 with ⟨b1, b2⟩ | ⟨b1, b3, b2⟩
  · exact Or.inl ⟨b1, b2⟩
  · refine Or.inr ⟨b1, hin'.1, ⟨by rw [hin'.2.1]; exact hc.g2, by rw [hin'.2.1]; exact h3⟩, Or.inr ⟨rfl, ?_, by rw [hin'.2.1]; exact hc.1, by rw [hin'.2.1]; exact hc.2.1, by rw [b3]; exact hX.x0⟩⟩
    have := col_more (Y := Y) b2
    rwa [List.append_assoc] at this
theorem hcr {C : mA} (hin : inG m cr st wt sl hm sp C0 C) (hc : CW C0 cr sc wc L) (q1 : sc ≠ st) (q2 : sc ≠ hm) (q3 : wc ≠ wt) : CW C cr sc wc L := hc.cg (fun j _ => hin.2.1 j) (fun j _ => hin.1 31 sc j (by omega)) (fun j _ => hin.1 32 wc j (by omega))
theorem take_s {i : Nat} (hi : i < L.length) : L.take (i + 1) = L.take i ++ [L[i]] := by rw [List.take_add_one, List.getElem?_eq_getElem hi]; rfl
theorem drop_s {i : Nat} (hi : i < L.length) : L.drop i = L[i] :: L.drop (i + 1) := List.drop_eq_getElem_cons hi
/-- what is asked of the mask: the states that it leaves -/
def okM (M : Int) (ρ : Int → Int) : Prop := ∀ s, vs9 s → vs9 (iAnd s M) ∧ ud (iAnd s M) = ρ (ud s)
/-- LET -/
theorem c_wLet (hP : P < 6) (hC : cS9 C0 pr i e) (hA : mS9 A P i e) (k : sK e = 1) (hn : 0 ≤ sN e ∧ sN e < 6) (hw : (C0 7 w 0).toNat = m) (hsp : (C0 2 pr 7).toNat = sp) (hm0 : mx0 C0 m st wt sl hm) (hc : CW C0 cr sc wc L) (h3 : g32 (C0 0 cr 3)) (q1 : sc ≠ st) (q2 : sc ≠ hm) (q3 : wc ≠ wt) (hM : okM M ρ) : ∃ r C', f_Walk_walkLet C0 w pr (sAd C0 pr i) cr M = some (r, C') ∧ oRes m cr st wt sl hm sc wc sp C0 (L.map (fun q => (ρ (xLet e q).1, (xLet e q).2))) r C' := by
  have go : ∀ (F j : Nat) (C : mA), j ≤ L.length → L.length - j < F → inG m cr st wt sl hm sp C0 C → MX C m st wt sl hm ((L.take j).map (fun q => (ρ (xLet e q).1, (xLet e q).2))) → ∃ r C', f_Walk_walkLet_10 F C w pr (sAd C0 pr i) cr M j = some (r, C') ∧ oRes m cr st wt sl hm sc wc sp C0 (L.map (fun q => (ρ (xLet e q).1, (xLet e q).2))) r C' := by
    intro F
    induction F with
    | zero => intro j C _ h; omega
    | succ F ih =>
      intro j C h1 h2 hin hX
      have hc' := hcr hin hc q1 q2 q3
      have h4 := hc.2.2.2.1
      have hw' : (C 7 w 0).toNat = m := by rw [hin.1 7 w 0 (by omega)]; exact hw
      unfold f_Walk_walkLet_10
      rw [hc'.2.2.1, hw', hc'.1, if_pos (show g32 (j : Int) by unfold g32; omega), if_pos (show g32 ((L.length : Nat) : Int) by unfold g32; omega)]
      by_cases z : L.length ≤ j
      · rw [if_pos (show ((L.length : Nat) : Int) ≤ j by omega)]
        have ej : L.take j = L := List.take_of_length_le z
        rw [ej] at hX
        obtain ⟨C', a1, a2⟩ := op_end hin hX hc h3 q2
        rw [a1, obind]
        exact ⟨1, C', rfl, a2⟩
      · have hj : j < L.length := by omega
        rw [if_neg (show ¬ ((L.length : Nat) : Int) ≤ j by omega), if_neg (show ¬ (300 : Int) ≤ j by omega), if_pos (show 0 ≤ (j : Int) ∧ (j : Int) < ((300 : Nat) : Int) by omega), Int.toNat_natCast]
        obtain ⟨v1, v2⟩ := hc'.at hj
        obtain ⟨hCs, es⟩ := hC.fr hin.1.cS
        obtain ⟨C1, x1, x2⟩ := c_xd hP hCs hA (by omega) (by omega) v2 v2.tn
        rw [es] at x1
        rw [x1, obind]
        show ∃ r C', Option.bind (f_CS_withDigit C1 (C 31 sc j) (C 6 (sAd C0 pr i) 1) (xv e (ud (C 31 sc j)) % 10)) _ = _ ∧ _
        have e61 : C 6 (sAd C0 pr i) 1 = sN e := by rw [← es]; exact hCs.1.2.1
        rw [c_with, obind, e61]
        have x2' : stk sp C C1 0 := by
          have : (C 2 pr 7).toNat = sp := by rw [hin.1 2 pr 7 (by omega)]; exact hsp
          rwa [this] at x2
        have hin1 := hin.trans (inG.stk x2')
        obtain ⟨w1, w2⟩ := wd_ud (v := xv e (ud (C 31 sc j)) % 10) v2 hn (by omega)
        obtain ⟨m1, m2⟩ := hM _ w1
        have hc1 := hcr hin1 hc q1 q2 q3
        have ew : C1 32 wc j = C 32 wc j := x2' 32 wc j (by omega)
        have ej : (ρ (xLet e L[j]).1, (xLet e L[j]).2) = (ρ (wth (ud (C 31 sc j)) (sN e).toNat (xv e (ud (C 31 sc j)) % 10)), C1 32 wc j) := by
          rw [v1, ew]; rfl
        have hX1 : MX C1 m st wt sl hm ((L.take j).map (fun q => (ρ (xLet e q).1, (xLet e q).2))) := hX.cg (fun k _ => x2' 1 m k (by omega)) (fun k => ⟨x2' 31 st k (by omega), x2' 31 hm k (by omega)⟩) (fun k => x2' 32 wt k (by omega)) (fun k => x2' 33 sl k (by omega))
        obtain ⟨r, C2, y1, y2, y3⟩ := op_put (Y := (L.drop (j + 1)).map (fun q => (ρ (xLet e q).1, (xLet e q).2))) (v := C1 32 wc j) hin1 hX1 hc h3 m1 (ρ (wth (ud (C 31 sc j)) (sN e).toNat (xv e (ud (C 31 sc j)) % 10))) (by rw [m2, w2])
        show ∃ r C', Option.bind (f_Mixer_put C1 m (iAnd (wd (C 31 sc j) (sN e) (xv e (ud (C 31 sc j)) % 10)) M) (C1 32 (C1 0 cr 1).toNat j)) _ = _ ∧ _
        rw [hc1.2.1, y1, obind]
        rcases y3 with ⟨rfl, y4⟩ | ⟨rfl, y4⟩
        · show ∃ r C', (if g32 1 then (if (1 : Int) = 0 then _ else f_Walk_walkLet_10 F C2 w pr (sAd C0 pr i) cr M ((j : Int) + 1)) else none) = _ ∧ _
          rw [if_pos (by decide), if_neg (by decide)]
          have e3 : ((j : Int) + 1) = ((j + 1 : Nat) : Int) := by omega
          rw [e3]
          refine ih (j + 1) C2 hj (by omega) y2 ?_
          rw [take_s hj, List.map_append]
          show MX C2 m st wt sl hm (_ ++ [(ρ (xLet e L[j]).1, (xLet e L[j]).2)])
          rw [ej]
          exact y4
        · refine ⟨0, C2, rfl, ?_⟩
          have el : L.map (fun q => (ρ (xLet e q).1, (xLet e q).2)) = (L.take j).map (fun q => (ρ (xLet e q).1, (xLet e q).2)) ++ (ρ (wth (ud (C 31 sc j)) (sN e).toNat (xv e (ud (C 31 sc j)) % 10)), C1 32 wc j) :: (L.drop (j + 1)).map (fun q => (ρ (xLet e q).1, (xLet e q).2)) := by
            rw [← ej]
            conv => lhs; rw [← List.take_append_drop j L, drop_s hj]
            rw [List.map_append]
            rfl
          rw [el]
          exact y4
  obtain ⟨C1, a1, a2, a3⟩ := c_clear hm0
  unfold f_Walk_walkLet
  rw [hw, a1, obind]
  exact go 400 0 C1 (Nat.zero_le _) (by have := hc.2.2.2.1; omega) (inG.mx a2) (by rw [List.take_zero]; exact a3)
end OPS
