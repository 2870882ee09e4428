/-! whether a program would have told a sheet so: of the class, from any start (own work) -/
def orS (z : Int) (b : Bool) (v : Nat) : Int := if b = true then iOr z (iShl 1 (v : Int)) else z
theorem orS_g {z : Int} {b : Bool} {v : Nat} (h : g32 z) : g32 (orS z b v) := by
  unfold orS
  split
  · have := iOr_r z (iShl 1 (v : Int)); unfold g32; omega
  · exact h
theorem orS_c {z : Int} {b b' : Bool} {v v' : Nat} : orS (orS z b v) b' v' = orS (orS z b' v') b v := by
  unfold orS
  split <;> split
  · rw [iOr_3 _ _ z, iOr_3 _ _ z, iOr_c (iShl 1 (v : Int))]
  · rfl
  · rfl
  · rfl
/-- what a spec's answer says of a sheet -/
def soV (A : mA) (s n : Nat) : Option (List xE) → Bool
  | none => false
  | some l => decide (0 < l.length) && decide (otw (otE A s l n) (A 12 0 s).toNat 0 = -1)
theorem otE_perm {A : mA} {s n : Nat} {l l' : List xE} (h : l.Perm l') : otE A s l n = otE A s l' n := by
  funext j
  show decide (A 49 s j = hun l n j) = decide (A 49 s j = hun l' n j)
  rw [hun_perm h]
theorem soV_perm {A : mA} {s n : Nat} {l l' : List xE} (h : l.Perm l') : soV A s n (some l) = soV A s n (some l') := by
  show (decide (0 < l.length) && decide (otw (otE A s l n) (A 12 0 s).toNat 0 = -1)) = (decide (0 < l'.length) && decide (otw (otE A s l' n) (A 12 0 s).toNat 0 = -1))
  rw [otE_perm h, h.length_eq]
section YKE
variable {D : va_G} {Gt G : tG} {C A : mA} {w : jW} {x sl hm : Nat} {T : xT}
theorem gd_end {b : Int → Int} {cnt p : Nat} {S : Int} {l : List xE} (hT : TB T b cnt) (hp : p < cnt) (hS : 0 ≤ S ∧ S ≤ 999999) (h : sEnd T 40 p S = some l) : gdL 50 l := by
  obtain ⟨ho, hX, hb, hb0, hb1⟩ := hT.2 p hp
  obtain ⟨g1', -⟩ := gd_bk hT hp (B := 0) ho.2.1 (Nat.le_refl _) (Int.le_refl _) (gd_one hS) (by rw [← hb]; omega) h
  exact g1'.mono (by rw [← hb]; omega)
theorem end_S (hRR : ∀ C', oeF x C C' → R9 x C' A) (h : R9 x C A) (hx : WX x G C A T sl hm) {p k : Nat} {s : Int} (hp : (p : Int) < A 0 0 0) (hk : rmK x C ≤ k) (hss : vs9 s) : ∀ Q : wQ, (∀ (r : Int) (k' : Nat) (G' : tG) (C' : mA), R9 x C' A → WX x G' C' A T sl hm → (∀ a τ, G a = some τ → G' a = some τ) → oeF x C C' → rmK x C + k' = rmK x C' + k → ((r = -1 ∧ sEnd T 40 p (ud s) = none) ∨ (∃ (cr : Nat) (l : List xE), r = cr ∧ sEnd T 40 p (ud s) = some l ∧ CWs C' cr l ∧ gdL 50 l)) → Q r C' G' k') → w_Walk_endFrom k G C (wO C x) (aPr C x p) s Q := by
  obtain ⟨hT, hm, hE, hs, hmd⟩ := R10env h hx
  obtain ⟨-, ⟨b1, b2, b3⟩, -, -, -, f1, g1⟩ := id h.1.1
  have hcn : ((mCn A : Nat) : Int) = A 0 0 0 := Int.toNat_of_nonneg b2
  obtain ⟨hpg, ⟨hW, h7, h11⟩, hR, hCa, ⟨hEa, hEn⟩, hMc⟩ := id hx
  have hpc : p < mCn A := by omega
  obtain ⟨ho, hX, hb, hb0, hb1⟩ := hT.2 p hpc
  intro Q hQ
  have r21 := (f1 p hp).1
  have hk2 : nul C (wSp C x) + (if C 2 (aPr C x p) 13 < 0 then 1 else 0) ≤ k := by
    have h6 := nulN_at (f := fun p => if 0 ≤ C 21 (aOa C x) p then C 2 (aPr C x p) 13 else 0) (i := p) 6 (by omega)
    rw [if_pos r21] at h6
    unfold rmK at hk
    omega
  refine w_endF (md := wMd x C) hT hm hs hpc (fun q q' hq hq' m1 m2 n => g1 q q' hq hq' n m1 m2) hmd hE h7 hk2 hEa hEn hss (fun r k' G' C' c1 c2 c3 c4 c5 c6 c7 c9 c8 => ?_)
  have hf : oeF x C C' := fun f a j q => c3 f a j (fun z => q (Or.imp_right (Or.imp_right (Or.imp_right (Or.imp_right (Or.imp_right (Or.imp_right (Or.imp_right (Or.imp_right (Or.imp_right (Or.imp_right (Or.imp_right (fun y => ⟨y.1, y.2.2⟩))))))))))) z))
  obtain ⟨q1, q2, q3, q4, q5, q6⟩ := oe_pa hf
  have hfp : ∀ q, q ≠ p → q < 6 → wMd x C q → ∀ j, C' 2 (aPr C x q) j = C 2 (aPr C x q) j := fun q hq h6 hm' j => c3 2 _ j (by
    have := g1 q p h6 (by omega) hq hm' (hmd p hpc)
    omega)
  have hfs : ∀ f a j, (f = 2 ∧ j < 13) ∨ f = 4 → C' f a j = C f a j := fun f a j z => hf f a j (by omega)
  have hwmd : ∀ q, wMd x C' q ↔ wMd x C q := fun q => by unfold wMd; rw [q4, q6]
  refine hQ r k' G' C' (hRR C' hf) ⟨WX.pg h hpg hf odF.refl, ⟨by rw [q2, q3]; exact c1.1, by rw [q1]; exact c4, by rw [hf 8 x 11 (by clear h11; omega), hf 8 x 12 (by clear h11; omega)]; exact h11⟩, fun u u' hu hu' n m1 m2 => ?_, by rw [q5]; exact c1.2.2.2.2, ⟨?_, by rw [q5]; exact c7⟩, hMc⟩ c2 hf ?_ ?_
  · rw [q5, (wSd.fr hfs _).1, (wSd.fr hfs _).1, (wSd.fr hfs _).2, (wSd.fr hfs _).2]
    exact hR u u' hu hu' n ((hwmd u).mp m1) ((hwmd u').mp m2)
  · rw [q5, q3]
    intro u hu m1 h1
    obtain ⟨v1, v2⟩ := c6 u hu ((hwmd u).mp m1) h1
    exact ⟨v1, fun u' hu' m2 hn h2 => v2 u' hu' ((hwmd u').mp m2) hn h2⟩
  · have hN := nulN_one (f := fun p => if 0 ≤ C 21 (aOa C x) p then C 2 (aPr C x p) 13 else 0) (g := fun p => if 0 ≤ C' 21 (aOa C' x) p then C' 2 (aPr C' x p) 13 else 0) (i := p) (n := 6) (by omega) (fun j hj hjp => by
      show (if 0 ≤ C' 21 (aOa C' x) j then C' 2 (aPr C' x j) 13 else 0) = if 0 ≤ C 21 (aOa C x) j then C 2 (aPr C x j) 13 else 0
      rw [q4, q6, q5]
      by_cases z : 0 ≤ C 21 (aOa C x) j
      · rw [if_pos z, if_pos z, hfp j hjp hj z]
      · rw [if_neg z, if_neg z])
    rw [q4, q6, q5, if_pos r21] at hN
    unfold rmK
    rw [q3, q4, q5]
    rw [if_pos r21] at hN
    omega
  · rcases c8 with y | ⟨x1, x2, l, x3, x4⟩
    · exact Or.inl y
    · exact Or.inr ⟨_, l, x1, x3, x4, gd_end hT hpc hss.tn.1 x3⟩
end YKE
