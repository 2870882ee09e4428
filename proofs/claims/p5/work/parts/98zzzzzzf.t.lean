/-! tells of both (own work) -/
def prB (A : mA) (T : xT) (cnt s n : Nat) (S : Int) : Nat → Bool := fun u => decide (u < cnt) && soV A s n (sEnd T 40 u S)
def stB (A : mA) (T : xT) (s P n : Nat) (S : Int) : Nat → Bool := fun u => soV A s n (sEnd T 40 P (wth S 0 ((u : Nat) : Int)))
def tlZ (A : mA) (T : xT) (cnt s P n : Nat) (v S : Int) : Int := match sEnd T 40 P S with
  | none => -6
  | some l => if l.length = 0 then -7 else if A 11 0 s = -1 then -11 else if 10 < A 12 0 s then -2 else if v = 0 then otw (otE A s l n) (A 12 0 s).toNat 0 else if v = 1 then orL (prB A T cnt s n S) (List.range' 0 6) 0 else if v = 2 then orL (fun u => soV A s u (some l)) (List.range' 0 6) 0 else orL (stB A T s P n S) (List.range' 0 10) 0
theorem rot10 {d : Nat} (hd : d < 10) : ((List.range' 1 10).map (fun k => (d + k) % 10)).Perm (List.range' 0 10) := by
  have : ∀ d : Fin 10, ((List.range' 1 10).map (fun k => (d.val + k) % 10)).Perm (List.range' 0 10) := by decide
  exact this ⟨d, hd⟩
section YNC
variable {D : va_G} {Gt G0 : tG} {C0 A : mA} {w : jW} {x sl hm k0 s n cr : Nat} {T : xT} {l : List xE}
theorem c_nam (hS : SH x C0 A) (hs : s < 4) (hc : CWs C0 cr l) (hg : gdL 50 l) (h10 : A 12 0 s ≤ 10) {B : Nat → Bool} (hB : ∀ v, B v = soV A s v (some l)) : ∀ (m j F : Nat) (z : Int) (C : mA), j + m = 6 → m < F → g32 z → (∀ f a i, f ≠ 23 → C f a i = C0 f a i) → ∃ C', f_CS_namesThatTell_5 F C x (shA C0 x s) cr z j = some (orL B (List.range' j m) z, C') ∧ ∀ f a i, f ≠ 23 → C' f a i = C0 f a i := by
  intro m
  induction m with
  | zero =>
    intro j F z C hj hF hz hf
    obtain ⟨F, rfl⟩ : ∃ q, F = q + 1 := ⟨F - 1, by omega⟩
    unfold f_CS_namesThatTell_5
    rw [if_pos (show g32 (j : Int) by unfold g32; omega), if_pos (show (6 : Int) ≤ j by omega)]
    exact ⟨C, rfl, hf⟩
  | succ m ih =>
    intro j F z C hj hF hz hf
    obtain ⟨F, rfl⟩ : ∃ q, F = q + 1 := ⟨F - 1, by omega⟩
    have er : List.range' j (m + 1) = j :: List.range' (j + 1) m := rfl
    have ej : ((j : Int) + 1) = ((j + 1 : Nat) : Int) := by omega
    have hS' : SH x C A := hS.cg (fun f a j q => hf f a j (by omega)) (fun _ _ _ _ => rfl)
    have e1 : shA C x s = shA C0 x s := by unfold shA; rw [hf 8 x 8 (by decide), hf 22 _ s (by decide)]
    obtain ⟨C', s1, s2⟩ := c_would (n := j) hS' hs (hc.cg (fun j => hf 0 _ j (by decide)) (fun j => hf 31 _ j (by decide)) (fun j => hf 32 _ j (by decide))) hg (by omega) h10
    rw [e1] at s1
    have hf' : ∀ f a i, f ≠ 23 → C' f a i = C0 f a i := fun f a i q => (s2 f a i q).trans (hf f a i q)
    unfold f_CS_namesThatTell_5
    rw [if_pos (show g32 (j : Int) by unfold g32; omega), if_neg (show ¬ (6 : Int) ≤ j by omega), s1, obind, er, ej, ← hB j]
    dsimp only
    show ∃ C', _ = some (orL B (List.range' (j + 1) m) (orS z (B j) j), C') ∧ _
    by_cases y : B j = true
    · have eo : orS z (B j) j = iOr z (iShl 1 (j : Int)) := by unfold orS; rw [if_pos y]
      rw [if_pos y, if_pos (show g32 (1 : Int) by decide), if_neg (by decide), eo]
      exact ih (j + 1) F _ C' (by omega) (by omega) (by rw [← eo]; exact orS_g hz) hf'
    · have eo : orS z (B j) j = z := by unfold orS; rw [if_neg y]
      rw [if_neg y, if_pos (show g32 (0 : Int) by decide), if_pos rfl, eo, iOr_zg hz]
      exact ih (j + 1) F _ C' (by omega) (by omega) hz hf'
theorem iV.fin {C : mA} {G : tG} {k : Nat} {A9 : mA} (hw : hW D Gt C0 w) (gx : Gt x = some 8) (h0 : R9 x C0 A) (h : iV x G0 C0 A T sl hm k0 C G k) (hA : odF A A9) (hM : mCa T (mCn A) A9) : R9 x C A9 ∧ WX x G C A9 T sl hm ∧ (∀ a τ, G0 a = some τ → G a = some τ) ∧ oeF x C0 C ∧ rmK x C0 + k = rmK x C + k0 := by
  obtain ⟨i1, i2, i3, i4, i5⟩ := h
  exact ⟨R9.oe hw gx h0 i4 hA, i2.mem i1 hA hM, i3, i4, i5⟩
set_option maxRecDepth 4000 in
set_option maxHeartbeats 1000000 in
theorem tells_c (hw : hW D Gt C0 w) (gx : Gt x = some 8) (h0 : R9 x C0 A) (hx : WX x G0 C0 A T sl hm) (hS : SH x C0 A) (hs : s < 4) (hn : n < 6) (hk0 : rmK x C0 ≤ k0) {P : Nat} {v : Int} (hP : (P : Int) < A 0 0 0) (hv : 0 ≤ v ∧ v ≤ 3) {Q : wQ} (hQ : ∀ C' G' k', iV x G0 C0 A T sl hm k0 C' G' k' → Q (tlZ A T (mCn A) s P n v (dsum (A 8 0))) C' G' k') : w_CS_endOf k0 G0 C0 x P (fun r16 A17 G18 k19 => (if 0 ≤ r16 then (if g32 (A17 0 r16.toNat 2) then (if (A17 0 r16.toNat 2) = 0 then (Q (-7) A17 G18 k19) else (if (0 ≤ (s : Int) ∧ (s : Int) < ((4 : Nat) : Int)) then (if g32 (A17 5 ((A17 22 ((A17 8 x 8).toNat) (s : Int).toNat).toNat) 1) then (if (A17 5 ((A17 22 ((A17 8 x 8).toNat) (s : Int).toNat).toNat) 1) = (-1) then (Q (-11) A17 G18 k19) else (if g32 (A17 5 ((A17 22 ((A17 8 x 8).toNat) (s : Int).toNat).toNat) 2) then (if (A17 5 ((A17 22 ((A17 8 x 8).toNat) (s : Int).toNat).toNat) 2) ≤ 10 then (if g32 v then (if v = 0 then (∃ q37, f_CS_firstOtherwise A17 x ((A17 22 ((A17 8 x 8).toNat) (s : Int).toNat).toNat) r16.toNat n = some q37 ∧ (Q q37.1 q37.2 G18 k19)) else if v = 1 then (w_CS_programsThatTell k19 G18 A17 x ((A17 22 ((A17 8 x 8).toNat) (s : Int).toNat).toNat) n (fun r40 A41 G42 k43 => (Q r40 A41 G42 k43))) else if v = 2 then (∃ q49, f_CS_namesThatTell A17 x ((A17 22 ((A17 8 x 8).toNat) (s : Int).toNat).toNat) r16.toNat = some q49 ∧ (Q q49.1 q49.2 G18 k19)) else (w_CS_startsThatTell k19 G18 A17 x ((A17 22 ((A17 8 x 8).toNat) (s : Int).toNat).toNat) P n (fun r51 A52 G53 k54 => (Q r51 A52 G53 k54)))) else False) else (Q (-2) A17 G18 k19)) else False)) else False) else False)) else False) else (Q (-6) A17 G18 k19))) := by
  have hT9 := h0.2.2.1.1
  have hss : vs9 (C0 8 x 4) := vs9.of hT9
  have eud : ud (C0 8 x 4) = dsum (A 8 0) := dsum_cg (fun j hj => (hT9.2 j hj).1)
  obtain ⟨-, ⟨b1, b2, b3⟩, -, -, -, f1, g1⟩ := id h0.1.1
  obtain ⟨⟨a1, a2⟩, a3, a4, a5⟩ := hS.1 s hs
  simp only [Int.toNat_natCast]
  unfold w_CS_endOf
  simp only [Int.toNat_natCast]
  rw [if_pos (show 0 ≤ (P : Int) ∧ (P : Int) < ((6 : Nat) : Int) by omega), if_pos (show 0 ≤ C0 21 (C0 8 x 2).toNat P from (f1 P hP).1)]
  refine end_S (fun C' q => R9.oe hw gx h0 q odF.refl) h0 hx hP hk0 hss _ (fun r k' G' C' c1 c2 c3 c4 c5 c6 => ?_)
  have iv : iV x G0 C0 A T sl hm k0 C' G' k' := ⟨c1, c2, c3, c4, c5⟩
  rw [eud] at c6
  rcases c6 with ⟨y1, y2⟩ | ⟨cr, l, y1, y2, y3, y4⟩
  · have e : tlZ A T (mCn A) s P n v (dsum (A 8 0)) = -6 := by unfold tlZ; rw [y2]
    rw [e] at hQ
    rw [y1, if_neg (by decide)]
    exact hQ C' G' k' iv
  have eT : tlZ A T (mCn A) s P n v (dsum (A 8 0)) = if l.length = 0 then -7 else if A 11 0 s = -1 then -11 else if 10 < A 12 0 s then -2 else if v = 0 then otw (otE A s l n) (A 12 0 s).toNat 0 else if v = 1 then orL (prB A T (mCn A) s n (dsum (A 8 0))) (List.range' 0 6) 0 else if v = 2 then orL (fun u => soV A s u (some l)) (List.range' 0 6) 0 else orL (stB A T s P n (dsum (A 8 0))) (List.range' 0 10) 0 := by unfold tlZ; rw [y2]
  rw [eT] at hQ
  have hlen := y3.len
  have eS : (C' 22 ((C' 8 x 8).toNat) s).toNat = shA C0 x s := c4.shEq
  have e51 : C' 5 (shA C0 x s) 1 = A 11 0 s := (c4 5 _ 1 (by omega)).trans a1
  have e52 : C' 5 (shA C0 x s) 2 = A 12 0 s := (c4 5 _ 2 (by omega)).trans a2
  rw [y1, if_pos (Int.natCast_nonneg cr), Int.toNat_natCast, if_pos y3.g2, y3.2.2.1, eS, e51, e52]
  by_cases z0 : l.length = 0
  · rw [if_pos z0] at hQ
    rw [if_pos (show ((l.length : Nat) : Int) = 0 by omega)]
    exact hQ C' G' k' iv
  rw [if_neg z0] at hQ
  rw [if_neg (show ¬ ((l.length : Nat) : Int) = 0 by omega), if_pos (show 0 ≤ (s : Int) ∧ (s : Int) < ((4 : Nat) : Int) by omega), if_pos (show g32 (A 11 0 s) by unfold g32; omega)]
  by_cases z1 : A 11 0 s = -1
  · rw [if_pos z1] at hQ ⊢
    exact hQ C' G' k' iv
  rw [if_neg z1] at hQ ⊢
  rw [if_pos (show g32 (A 12 0 s) by clear z1; unfold g32; omega)]
  by_cases z2 : 10 < A 12 0 s
  · rw [if_pos z2] at hQ
    rw [if_neg (show ¬ A 12 0 s ≤ 10 by clear z1; omega)]
    exact hQ C' G' k' iv
  have z2' : A 12 0 s ≤ 10 := by clear z1; omega
  rw [if_neg z2] at hQ
  rw [if_pos z2', if_pos (show g32 v by clear z1; unfold g32; omega)]
  have hS' := c4.sh hS
  by_cases v0 : v = 0
  · rw [if_pos v0] at hQ ⊢
    obtain ⟨C'', s1, s2⟩ := c_othw hS' hs y3 y4 (by clear z1; omega) hn z2'
    rw [c4.shEq] at s1
    obtain ⟨t1, t2, t3, t4⟩ := WX.row hw gx h0 c4 c1 c2 odF.refl s2
    exact ⟨_, s1, hQ C'' G' k' ⟨t1, t2, c3, t3, by rw [t4]; exact c5⟩⟩
  rw [if_neg v0] at hQ ⊢
  by_cases v1 : v = 1
  · rw [if_pos v1] at hQ ⊢
    unfold w_CS_programsThatTell
    have key : ∀ F : Nat, 6 < F → w_CS_programsThatTell_5 F k' G' C' x (shA C0 x s) n 0 0 (fun r40 A41 G42 k43 => (Q r40 A41 G42 k43)) := fun F hF => c_prg (G0 := G0) (sl := sl) (hm := hm) (T := T) (S := dsum (A 8 0)) hw gx h0 hS hs hn z2' hk0 eud hss (B := prB A T (mCn A) s n (dsum (A 8 0))) (fun _ => rfl) 6 0 F 0 C' G' k' rfl hF (by decide) iv hQ
    exact key 20 (by decide)
  rw [if_neg v1] at hQ ⊢
  by_cases v2 : v = 2
  · rw [if_pos v2] at hQ ⊢
    obtain ⟨C'', s1, s2⟩ := c_nam (C0 := C') hS' hs y3 y4 z2' (B := fun u => soV A s u (some l)) (fun _ => rfl) 6 0 20 0 C' (by decide) (by decide) (by decide) (fun _ _ _ _ => rfl)
    rw [c4.shEq] at s1
    obtain ⟨t1, t2, t3, t4⟩ := WX.row hw gx h0 c4 c1 c2 odF.refl s2
    exact ⟨_, s1, hQ C'' G' k' ⟨t1, t2, c3, t3, by rw [t4]; exact c5⟩⟩
  rw [if_neg v2] at hQ ⊢
  unfold w_CS_startsThatTell
  have e4 : C' 8 x 4 = C0 8 x 4 := c4 8 x 4 (by clear z1 v0 v1 v2; omega)
  have hd := (hss.2 0 (by decide)).2
  obtain ⟨dI, hdI⟩ : ∃ dI : Int, dI = nb9 (C0 8 x 4) 0 := ⟨_, rfl⟩
  obtain ⟨d, hd9⟩ : ∃ d : Nat, dI = d := ⟨dI.toNat, by clear z1 v0 v1 v2; omega⟩
  have dg : f_CS_digitAt C' (C' 8 x 4) 0 = some (dI, C') := by
    rw [e4, hdI]
    exact c_digit hss.1 (by decide)
  refine ⟨_, dg, ?_⟩
  dsimp only
  have d10 : d < 10 := by clear z1 v0 v1 v2; omega
  have hB2 : ∀ v, stB A T s P n (dsum (A 8 0)) v = soV A s n (sEnd T 40 P (wth (ud (C0 8 x 4)) 0 ((v : Nat) : Int))) := fun v => by
    rw [eud]
    rfl
  have e9 := orL_perm (B := stB A T s P n (dsum (A 8 0))) (rot10 d10) 0
  rw [← e9] at hQ
  have key : ∀ F : Nat, 10 < F → w_CS_startsThatTell_16 F k' G' C' x (shA C0 x s) P n 0 dI 1 (fun r51 A52 G53 k54 => (Q r51 A52 G53 k54)) := fun F hF => c_sta (G0 := G0) (sl := sl) (hm := hm) (T := T) (d := d) (P := P) (B := stB A T s P n (dsum (A 8 0))) (Q := Q) hw gx h0 hS hs hn z2' hk0 hd9 hP d10 hss hB2 10 1 F 0 C' G' k' rfl hF (by decide) iv hQ
  exact key 20 (by decide)
end YNC
