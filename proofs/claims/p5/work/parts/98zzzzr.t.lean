/-! odds of the reference: make, over one step's work (own work) -/
theorem mk_T {T : xT} {b : Int → Int} {cnt n : Nat} {mk : mA → Int → Int → Int → Nat → Int → Option (Int × mA)} (hT : TB T b cnt) (hS : STs T b cnt mk n) : MKs T b cnt (f_Mo_makeT mk) n := by
  intro P a e x u lv B A l hP ht he hlv hd hm hc hu h195 hx hQ hp h300 hB hl h50 h34 h35
  have h16 := (hT.2 P hP).1.1
  obtain ⟨A1, t1, t2, t3, t4, t5⟩ := m_tkn hu (by omega)
  obtain ⟨A2, s1, s2, s3, s4⟩ := o_bec (A := A1) (k := u) (a := x) (t2.oQ hx hQ) (by omega)
  have m2 : mkF u A A2 := (mkF.p t2).trans (mkF.r s3 (Nat.le_refl _))
  have e2 : oC A2 u = oC A x := by rw [s2, t2.oC hx]
  have e33 : A2 0 0 33 = ((u + 1 : Nat) : Int) := (s3 0 0 33 (by omega)).trans t3
  obtain ⟨A', b1, b2, b3, b4, b5, b6⟩ := mk_loop hT hS hP hd 16 a e ht he 20 17 u (u + 1) B A2 l (by omega) (by omega) (hm.fr hT m2) ((hc.p t2).cg (fun f x j q => s3 f x j (by omega))) e33 rfl (by omega) s4 (by rw [e2]; exact hp) h300 hB hl h50 (by rw [s3 0 0 34 (by omega), t2 0 0 34 (by omega)]; exact h34) (by rw [s3 0 0 35 (by omega), t2 0 0 35 (by omega)]; exact h35)
  unfold f_Mo_makeT
  rw [t1, obind]
  show ∃ A', Option.bind (f_Odds_becomes A1 ((u : Int)).toNat x) (fun q122 => f_Mo_makeT_22 mk 20 q122.2 P e (-1) ((u : Int)).toNat (q122.2 0 0 33) a) = _ ∧ _
  rw [Int.toNat_natCast, s1, obind]
  show ∃ A', f_Mo_makeT_22 mk 20 A2 P e (-1) u (A2 0 0 33) a = _ ∧ _
  rw [e33]
  exact ⟨A', b1, m2.trans b2, b3, b4, b5, b6⟩
