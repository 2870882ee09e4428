/-! what tells a sheet: of the class (own work) -/
theorem iOr_zg {z : Int} (h : g32 z) : iOr z 0 = z := by
  unfold iOr g32 at *
  have e : Int32.ofInt z ||| Int32.ofInt 0 = Int32.ofInt z := by
    show Int32.ofInt z ||| 0 = _
    exact Int32.or_zero
  rw [e]
  exact Int32.toInt_ofInt_of_le (by omega) (by omega)
/-- bits of those of a list that tell -/
def orL (B : Nat → Bool) (L : List Nat) (z : Int) : Int := L.foldl (fun z v => orS z (B v) v) z
theorem orL_perm {B : Nat → Bool} {L L' : List Nat} (h : L.Perm L') : ∀ z, orL B L z = orL B L' z := by
  unfold orL
  induction h with
  | nil => intro z; rfl
  | cons a _ ih => intro z; simp only [List.foldl_cons]; exact ih _
  | swap a b l => intro z; simp only [List.foldl_cons]; rw [orS_c (b := B b)]
  | trans _ _ ih1 ih2 => intro z; rw [ih1, ih2]
theorem orL_cg {B B' : Nat → Bool} {L : List Nat} (h : ∀ v ∈ L, B v = B' v) : ∀ z, orL B L z = orL B' L z := by
  unfold orL
  induction L with
  | nil => intro z; rfl
  | cons a L ih =>
    intro z
    simp only [List.foldl_cons]
    rw [h a List.mem_cons_self]
    exact ih (fun v hv => h v (List.mem_cons_of_mem _ hv)) _
section YLC
variable {C A : mA} {x s cr n : Nat} {l : List xE}
theorem c_would (h : SH x C A) (hs : s < 4) (hc : CWs C cr l) (hg : gdL 50 l) (hn : n < 6) (h10 : A 12 0 s ≤ 10) : ∃ C', f_CS_wouldTell C x (shA C x s) cr n = some (if soV A s n (some l) = true then 1 else 0, C') ∧ ∀ f a j, f ≠ 23 → C' f a j = C f a j := by
  have hlen := hc.len
  unfold f_CS_wouldTell
  rw [if_pos hc.g2, hc.2.2.1]
  by_cases z : ((l.length : Nat) : Int) ≤ 0
  · rw [if_pos z]
    have e : soV A s n (some l) = false := by
      show (decide (0 < l.length) && _) = false
      rw [decide_eq_false (by omega)]
      rfl
    rw [e]
    exact ⟨C, rfl, fun _ _ _ _ => rfl⟩
  · rw [if_neg z]
    obtain ⟨C', s1, s2⟩ := c_othw h hs hc hg (by omega) hn h10
    obtain ⟨-, -, a4, -⟩ := h.1 s hs
    have ro := otw_r (e := otE A s l n) (A 12 0 s).toNat 0
    rw [s1, obind]
    dsimp only
    have e : soV A s n (some l) = decide (otw (otE A s l n) (A 12 0 s).toNat 0 = -1) := by
      show (decide (0 < l.length) && _) = _
      rw [decide_eq_true (show 0 < l.length by omega), Bool.true_and]
    rw [e, if_pos (show g32 (otw (otE A s l n) (A 12 0 s).toNat 0) by unfold g32; omega)]
    refine ⟨C', ?_, s2⟩
    by_cases k : otw (otE A s l n) (A 12 0 s).toNat 0 = -1
    · rw [if_pos k, if_pos (decide_eq_true k)]
    · rw [if_neg k, if_neg (fun q => k (of_decide_eq_true q))]
end YLC
section YLD
variable {D : va_G} {Gt G0 : tG} {C0 A : mA} {w : jW} {x sl hm k0 s n : Nat} {T : xT}
/-- what is kept from call to call of the walk -/
def iV (x : Nat) (G0 : tG) (C0 A : mA) (T : xT) (sl hm k0 : Nat) (C : mA) (G : tG) (k : Nat) : Prop := R9 x C A ∧ WX x G C A T sl hm ∧ (∀ a τ, G0 a = some τ → G a = some τ) ∧ oeF x C0 C ∧ rmK x C0 + k = rmK x C + k0
theorem oeF.sh {C : mA} (h : oeF x C0 C) : SH x C0 A → SH x C A := fun q => q.cg (fun f a j y => h f a j (by omega)) (fun _ _ _ _ => rfl)
theorem oeF.shEq {C : mA} (h : oeF x C0 C) : shA C x s = shA C0 x s := by
  unfold shA
  rw [h 8 x 8 (by omega), h 22 _ s (by omega)]
theorem so_w (hw : hW D Gt C0 w) (gx : Gt x = some 8) (h0 : R9 x C0 A) (hS : SH x C0 A) (hs : s < 4) (hn : n < 6) (h10 : A 12 0 s ≤ 10) (hk0 : rmK x C0 ≤ k0) {C : mA} {G : tG} {k P : Nat} {st : Int} {K1 : Int → mA → tG → Nat → Prop} (hi : iV x G0 C0 A T sl hm k0 C G k) (hP : (P : Int) < A 0 0 0) (hss : vs9 st) (hK : ∀ C' G' k', iV x G0 C0 A T sl hm k0 C' G' k' → K1 (if soV A s n (sEnd T 40 P (ud st)) = true then 1 else 0) C' G' k') : w_Walk_endFrom k G C (wO C x) (aPr C x P) st (fun r12 A13 G14 k15 => (if 0 ≤ r12 then (∃ q22, f_CS_wouldTell A13 x (shA C0 x s) r12.toNat n = some q22 ∧ K1 q22.1 q22.2 G14 k15) else (∃ q26, f_CS_wouldTell0 A13 x (shA C0 x s) n = some q26 ∧ K1 q26.1 q26.2 G14 k15))) := by
  obtain ⟨i1, i2, i3, i4, i5⟩ := hi
  refine end_S (fun C' q => R9.oe hw gx h0 (i4.trans q) odF.refl) i1 i2 hP (by omega) hss _ (fun r k' G' C' b1 b2 b3 b4 b5 b6 => ?_)
  have i4' := i4.trans b4
  rcases b6 with ⟨y1, y2⟩ | ⟨cr, l, y1, y2, y3, y4⟩
  · rw [y1, if_neg (by decide)]
    rw [y2] at hK
    exact ⟨(0, C'), rfl, hK C' G' k' ⟨b1, b2, fun a τ z => b3 a τ (i3 a τ z), i4', by omega⟩⟩
  · rw [y1, if_pos (Int.natCast_nonneg cr), Int.toNat_natCast]
    rw [y2] at hK
    obtain ⟨C'', s1, s2⟩ := c_would (i4'.sh hS) hs y3 y4 hn h10
    rw [i4'.shEq] at s1
    obtain ⟨t1, t2, t3, t4⟩ := WX.row hw gx h0 i4' b1 b2 odF.refl s2
    exact ⟨_, s1, hK C'' G' k' ⟨t1, t2, fun a τ z => b3 a τ (i3 a τ z), t3, by rw [t4]; omega⟩⟩
/-- by which programs -/
theorem c_prg (hw : hW D Gt C0 w) (gx : Gt x = some 8) (h0 : R9 x C0 A) (hS : SH x C0 A) (hs : s < 4) (hn : n < 6) (h10 : A 12 0 s ≤ 10) (hk0 : rmK x C0 ≤ k0) {Q : wQ} {S : Int} (hSt : ud (C0 8 x 4) = S) (hss : vs9 (C0 8 x 4)) {B : Nat → Bool} (hB : ∀ v, B v = (decide (v < mCn A) && soV A s n (sEnd T 40 v S))) : ∀ (m j F : Nat) (z : Int) (C : mA) (G : tG) (k : Nat), j + m = 6 → m < F → g32 z → iV x G0 C0 A T sl hm k0 C G k → (∀ C' G' k', iV x G0 C0 A T sl hm k0 C' G' k' → Q (orL B (List.range' j m) z) C' G' k') → w_CS_programsThatTell_5 F k G C x (shA C0 x s) n z j Q := by
  intro m
  induction m with
  | zero =>
    intro j F z C G k hj hF hz hi hQ
    obtain ⟨F, rfl⟩ : ∃ q, F = q + 1 := ⟨F - 1, by omega⟩
    unfold w_CS_programsThatTell_5
    rw [if_pos (show g32 (j : Int) by unfold g32; omega), if_pos (show (6 : Int) ≤ j by omega)]
    exact hQ C G k hi
  | succ m ih =>
    intro j F z C G k hj hF hz hi hQ
    obtain ⟨F, rfl⟩ : ∃ q, F = q + 1 := ⟨F - 1, by omega⟩
    obtain ⟨i1, i2, i3, i4, i5⟩ := id hi
    obtain ⟨-, ⟨b1, b2, b3⟩, -, -, -, f1, -⟩ := id i1.1.1
    have ej : ((j : Int) + 1) = ((j + 1 : Nat) : Int) := by omega
    have er : List.range' j (m + 1) = j :: List.range' (j + 1) m := rfl
    rw [er] at hQ
    unfold w_CS_programsThatTell_5
    rw [if_pos (show g32 (j : Int) by unfold g32; omega), if_neg (show ¬ (6 : Int) ≤ j by omega), ej]
    refine ⟨_, c_isProg i1.1.1 (show g32 (j : Int) by unfold g32; omega), ?_⟩
    by_cases q1 : 0 ≤ (j : Int) ∧ (j : Int) < A 0 0 0
    · rw [if_pos q1]
      dsimp only
      rw [if_pos (show g32 (1 : Int) by decide), if_neg (show ¬ (1 : Int) = 0 by decide), if_pos (show 0 ≤ (j : Int) ∧ (j : Int) < ((6 : Nat) : Int) by omega)]
      simp only [Int.toNat_natCast]
      rw [if_pos (show 0 ≤ C 21 (C 8 x 2).toNat j from (f1 j q1.2).1)]
      have e4 : C 8 x 4 = C0 8 x 4 := i4 8 x 4 (by omega)
      refine so_w (G0 := G0) (K1 := fun z9 C' G' k' => (if g32 z9 then (if z9 = 0 then (w_CS_programsThatTell_5 F k' G' C' x (shA C0 x s) n (iOr z 0) ((j + 1 : Nat) : Int) Q) else (w_CS_programsThatTell_5 F k' G' C' x (shA C0 x s) n (iOr z (iShl 1 (j : Int))) ((j + 1 : Nat) : Int) Q)) else False)) hw gx h0 hS hs hn h10 hk0 hi q1.2 (by rw [e4]; exact hss) (fun C' G' k' hi' => ?_)
      rw [e4, hSt]
      have eB : B j = soV A s n (sEnd T 40 j S) := by
        rw [hB, decide_eq_true (show j < mCn A by unfold mCn; omega), Bool.true_and]
      rw [← eB]
      by_cases y : B j = true
      · rw [if_pos y, if_pos (show g32 (1 : Int) by decide), if_neg (show ¬ (1 : Int) = 0 by decide)]
        have eo : orS z (B j) j = iOr z (iShl 1 (j : Int)) := by unfold orS; rw [if_pos y]
        have := ih (j + 1) F (iOr z (iShl 1 (j : Int))) C' G' k' (by omega) (by omega) (by rw [← eo]; exact orS_g hz) hi' (fun C9 G9 k9 h9 => by
          have := hQ C9 G9 k9 h9
          rw [← eo]
          exact this)
        exact this
      · rw [if_neg y, if_pos (show g32 (0 : Int) by decide), if_pos rfl]
        have eo : orS z (B j) j = z := by unfold orS; rw [if_neg y]
        rw [iOr_zg hz]
        exact ih (j + 1) F z C' G' k' (by omega) (by omega) hz hi' (fun C9 G9 k9 h9 => by
          have h8 : Q (orL B (List.range' (j + 1) m) (orS z (B j) j)) C9 G9 k9 := hQ C9 G9 k9 h9
          rw [eo] at h8
          exact h8)
    · rw [if_neg q1]
      dsimp only
      rw [if_pos (show g32 (0 : Int) by decide), if_pos rfl, iOr_zg hz]
      have eo : orS z (B j) j = z := by
        unfold orS
        rw [hB, decide_eq_false (show ¬ j < mCn A by unfold mCn; omega), Bool.false_and]
        rfl
      exact ih (j + 1) F z C G k (by omega) (by omega) hz hi (fun C9 G9 k9 h9 => by
        have h8 : Q (orL B (List.range' (j + 1) m) (orS z (B j) j)) C9 G9 k9 := hQ C9 G9 k9 h9
        rw [eo] at h8
        exact h8)
/-- by which starts -/
theorem c_sta (hw : hW D Gt C0 w) (gx : Gt x = some 8) (h0 : R9 x C0 A) (hS : SH x C0 A) (hs : s < 4) (hn : n < 6) (h10 : A 12 0 s ≤ 10) (hk0 : rmK x C0 ≤ k0) {Q : wQ} {P d : Nat} {dI : Int} (hdI : dI = (d : Int)) (hP : (P : Int) < A 0 0 0) (hd : d < 10) (hss : vs9 (C0 8 x 4)) {B : Nat → Bool} (hB : ∀ v, B v = soV A s n (sEnd T 40 P (wth (ud (C0 8 x 4)) 0 ((v : Nat) : Int)))) : ∀ (m j F : Nat) (z : Int) (C : mA) (G : tG) (k : Nat), j + m = 11 → m < F → g32 z → iV x G0 C0 A T sl hm k0 C G k → (∀ C' G' k', iV x G0 C0 A T sl hm k0 C' G' k' → Q (orL B ((List.range' j m).map (fun k => (d + k) % 10)) z) C' G' k') → w_CS_startsThatTell_16 F k G C x (shA C0 x s) P n z dI j Q := by
  intro m
  induction m with
  | zero =>
    intro j F z C G k hj hF hz hi hQ
    obtain ⟨F, rfl⟩ : ∃ q, F = q + 1 := ⟨F - 1, by omega⟩
    unfold w_CS_startsThatTell_16
    rw [if_pos (show g32 (j : Int) by unfold g32; omega), if_pos (show (10 : Int) < j by omega)]
    exact hQ C G k hi
  | succ m ih =>
    intro j F z C G k hj hF hz hi hQ
    obtain ⟨F, rfl⟩ : ∃ q, F = q + 1 := ⟨F - 1, by omega⟩
    obtain ⟨i1, i2, i3, i4, i5⟩ := id hi
    obtain ⟨-, ⟨b1, b2, b3⟩, -, -, -, f1, -⟩ := id i1.1.1
    have ej : ((j : Int) + 1) = ((j + 1 : Nat) : Int) := by omega
    obtain ⟨v, hv⟩ : ∃ v, v = (d + j) % 10 := ⟨_, rfl⟩
    have er : (List.range' j (m + 1)).map (fun k => (d + k) % 10) = v :: (List.range' (j + 1) m).map (fun k => (d + k) % 10) := by rw [hv]; rfl
    rw [er] at hQ
    have em : Int.tmod (dI + (j : Int)) 10 = (v : Int) := by
      rw [Int.tmod_eq_emod_of_nonneg (by omega)]
      omega
    unfold w_CS_startsThatTell_16
    rw [if_pos (show g32 (j : Int) by unfold g32; omega), if_neg (show ¬ (10 : Int) < j by omega), ej, if_pos (show g32 (dI + (j : Int)) by unfold g32; omega), if_pos (show 0 ≤ (P : Int) ∧ (P : Int) < ((6 : Nat) : Int) by omega), em]
    simp only [Int.toNat_natCast]
    rw [if_pos (show 0 ≤ C 21 (C 8 x 2).toNat P from (f1 P hP).1)]
    have e4 : C 8 x 4 = C0 8 x 4 := i4 8 x 4 (by omega)
    refine ⟨_, c_with, ?_⟩
    dsimp only
    rw [e4]
    obtain ⟨w1, w2⟩ := wd_ud (n := 0) (v := (v : Int)) hss (by decide) (by omega)
    refine so_w (G0 := G0) (K1 := fun z9 C' G' k' => (if g32 z9 then (if z9 = 0 then (w_CS_startsThatTell_16 F k' G' C' x (shA C0 x s) P n (iOr z 0) dI ((j + 1 : Nat) : Int) Q) else (w_CS_startsThatTell_16 F k' G' C' x (shA C0 x s) P n (iOr z (iShl 1 (v : Int))) dI ((j + 1 : Nat) : Int) Q)) else False)) hw gx h0 hS hs hn h10 hk0 hi hP w1 (fun C' G' k' hi' => ?_)
    have w2' : ud (wd (C0 8 x 4) 0 (v : Int)) = wth (ud (C0 8 x 4)) 0 (v : Int) := w2
    rw [w2', ← hB v]
    by_cases y : B v = true
    · rw [if_pos y, if_pos (show g32 (1 : Int) by decide), if_neg (show ¬ (1 : Int) = 0 by decide)]
      have eo : orS z (B v) v = iOr z (iShl 1 (v : Int)) := by unfold orS; rw [if_pos y]
      exact ih (j + 1) F (iOr z (iShl 1 (v : Int))) C' G' k' (by omega) (by omega) (by rw [← eo]; exact orS_g hz) hi' (fun C9 G9 k9 h9 => by
        have h8 : Q (orL B ((List.range' (j + 1) m).map (fun k => (d + k) % 10)) (orS z (B v) v)) C9 G9 k9 := hQ C9 G9 k9 h9
        rw [eo] at h8
        exact h8)
    · rw [if_neg y, if_pos (show g32 (0 : Int) by decide), if_pos rfl]
      have eo : orS z (B v) v = z := by unfold orS; rw [if_neg y]
      rw [iOr_zg hz]
      exact ih (j + 1) F z C' G' k' (by omega) (by omega) hz hi' (fun C9 G9 k9 h9 => by
        have h8 : Q (orL B ((List.range' (j + 1) m).map (fun k => (d + k) % 10)) (orS z (B v) v)) C9 G9 k9 := hQ C9 G9 k9 h9
        rw [eo] at h8
        exact h8)
end YLD
