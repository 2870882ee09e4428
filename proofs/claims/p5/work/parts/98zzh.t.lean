/-! a new Program in the class, its content (own work; the walk as the T layer's head of program()) -/
theorem hv_mono {G G' : tG} (hg : ∀ a τ, G a = some τ → G' a = some τ) {t : vT} {x : Int} {v : Value} (h : hv G t x v) : hv G' t x v := by
  obtain ⟨k, a, b⟩ := t
  match k, h with
  | 0, h => exact h
  | 1, h => exact h
  | 2, h => exact h
  | 3, h => exact h
  | 4, h => exact ⟨h.1, hg _ _ h.2⟩
  | 5, h =>
    rcases h with h | ⟨h1, h2, h3⟩
    · exact Or.inl h
    · exact Or.inr ⟨h1, h2, hg _ _ h3⟩
  | 6, h => exact h
  | 7, h => exact h
  | k + 8, h => exact h
theorem hcell_mono {D : va_G} {G G' : tG} {A : mA} {τ a : Nat} {c : Option jEl} (hg : ∀ a τ, G a = some τ → G' a = some τ) (h : hcell D G A τ a c) : hcell D G' A τ a c := by
  cases ho : tyO τ with
  | some o =>
    obtain ⟨V, h1, h2⟩ := (hcell_O ho).mp h
    exact (hcell_O ho).mpr ⟨V, h1, fun k t hk => hv_mono hg (h2 k t hk)⟩
  | none =>
    cases ha : tyA τ with
    | none => unfold hcell at h; rw [ho, ha] at h; exact h.elim
    | some r =>
      obtain ⟨k, n, e⟩ := r
      match k, ha with
      | 0, ha => exact (hcell_I ho ha).mpr ((hcell_I ho ha).mp h)
      | 1, ha => exact (hcell_J ho ha).mpr ((hcell_J ho ha).mp h)
      | 2, ha =>
        unfold hcell at h ⊢
        rw [ho, ha] at h ⊢
        exact h
      | k + 3, ha =>
        obtain ⟨f, h1, h2⟩ := (hcell_R ho ha).mp h
        exact (hcell_R ho ha).mpr ⟨f, h1, fun j hj => hv_mono hg (h2 j hj)⟩
/-- what is new lies above what was -/
def cNew (G : tG) (w9 : jW) (C1 : mA) (q : Nat) : Prop := cPg C1 q ∧ G q = none ∧ G (C1 2 q 0).toNat = none ∧ G (C1 2 q 2).toNat = none ∧ G (C1 2 q 4).toNat = none ∧ G (C1 2 q 5).toNat = none ∧ G (C1 2 q 12).toNat = none ∧ G (C1 4 (C1 2 q 12).toNat 0).toNat = none ∧ ∀ i, i < 16 → G (C1 25 (C1 2 q 0).toNat i).toNat = none
theorem d_pn_26 : decode b_CS_program 26 = .ok (.new 13, 3) := by decide +kernel
theorem k_pn_29 : sblk b_CS_program [(29, .dup, .null)] := sblk_of (by decide +kernel)
theorem d_pn_30 : decode b_CS_program 30 = .ok (.invokespecial 62, 3) := by decide +kernel
theorem k_pn_33 : sblk b_CS_program [(33, .astore_n 1, .null), (34, .aload_n 0, .null)] := sblk_of (by decide +kernel)
theorem d_pn_35 : decode b_CS_program 35 = .ok (.getfield 15, 3) := by decide +kernel
theorem k_pn_38 : sblk b_CS_program [(38, .aload_n 0, .null)] := sblk_of (by decide +kernel)
theorem d_pn_39 : decode b_CS_program 39 = .ok (.getfield 59, 3) := by decide +kernel
theorem k_pn_42 : sblk b_CS_program [(42, .aload_n 1, .null)] := sblk_of (by decide +kernel)
theorem d_pn_43 : decode b_CS_program 43 = .ok (.aastore, 1) := by decide +kernel
theorem bud_fre {D : va_G} {G : tG} {w : jW} (hO : WOK D G w) {a : Nat} (h : ∀ b e, w.1 b = some e → b < a) : G a = none := by
  cases e : G a with
  | none => rfl
  | some τ =>
    have := hO a τ e
    cases e2 : w.1 a with
    | none =>
      rw [e2] at this
      unfold tcell at this
      split at this
      · obtain ⟨V, q, -⟩ := this; cases q
      · split at this
        · split at this
          · obtain ⟨f, q, -⟩ := this; cases q
          · obtain ⟨f, q⟩ := this; cases q
          · obtain ⟨f, q, -⟩ := this; cases q
          · obtain ⟨f, q, -⟩ := this; cases q
        · exact this.elim
    | some c => exact absurd (h a c e2) (Nat.lt_irrefl a)
theorem j_prog26 {g : jG} {D : va_G} {l : Launch} {B : Nat} {H0 : Heap} {y0 : MethodName} {w : jW} {mc ms fr lo : Nat} (C : jX g b_CS_program 3 "ChanceSteps" D) (Rm : jRm g w.2.1 w.2.2 ({ frames := fr, cells := mc, slots := ms, locals := lo } : Room)) (hfr0 : 3 ≤ fr) (hlo0 : 101 ≤ lo) (hmc : 26 ≤ mc) (hms : 739 ≤ ms) (Y : jY g l B H0 y0) {G : tG} {C0 : mA} (hO : WOK D G w) (hb : bud G w) (hw : hW D G C0 w) {x sp : Nat} {P : Nat} (gx : G x = some 8) (esp : (C0 8 x 2).toNat = sp) (eP : C0 8 x 3 = P) (hP : P < 6) (hnul : C0 21 sp P < 0)
    (kk : ∀ (q : Nat) (G1 : tG) (C1 : mA) (w9 : jW), WOK D G1 w9 → (∀ a τ, G a = some τ → G1 a = some τ) → hW D G1 C1 w9 → (w9.2.1 = w.2.1 + 26 ∧ w9.2.2 = w.2.2 + 739) → (∀ τ a k, G a ≠ none → ¬ (τ = 21 ∧ a = sp ∧ k = P) → C1 τ a k = C0 τ a k) → C1 21 sp P = q → G1 q = some 2 → cNew G w9 C1 q → JJ g w9 44 [(1, .ref q), (0, .ref x)] []) : JJ g w 26 [(0, .ref x)] [] := by
  obtain ⟨Vx, hxc, hVx⟩ := (hcell_O (rfl : tyO 8 = some (8, _))).mp (hw x 8 gx)
  have v2 : Vx 2 = .ref sp ∧ G sp = some 21 := by
    have := hv4 (τ' := 21) rfl rfl (hVx 2 _ rfl)
    rw [esp] at this
    exact this
  have gsp := v2.2
  have v3 : Vx 3 = .int (Int32.ofInt (P : Int)) := by
    have := hint1 rfl (hVx 3 _ rfl)
    rw [eP] at this
    exact this
  obtain ⟨f, hcell, hel⟩ := (hcell_R (rfl : tyO 21 = none) (rfl : tyA 21 = some (5 + 3, _, _))).mp (hw sp 21 gsp)
  have eiP : (Int32.ofInt (P : Int)).toInt = P := iR (by omega)
  have ein : (Int32.ofInt (P : Int)).toNatClampNeg = P := by
    show (Int32.ofInt (P : Int)).toInt.toNat = P
    rw [eiP]
    omega
  have hf0 : f P = none := by
    have h9 := hel P hP
    have h9 : (C0 21 sp P < 0 ∧ va_rf (f P) = .null) ∨ (0 ≤ C0 21 sp P ∧ va_rf (f P) = .ref (C0 21 sp P).toNat ∧ G (C0 21 sp P).toNat = some 2) := h9
    rcases h9 with h9 | h9
    · exact x_null h9.2
    · omega
  have hin : vp_in (Int32.ofInt (P : Int)) 6 := jin (by rw [eiP]; omega) (by rw [eiP]; omega)
  have hone := fun q => nulls_one (q := q) hP hf0
  have hpos : 0 < pu (some 21) (w.1 sp) := by
    rw [hcell]
    show 0 < nulls 6 f
    rw [hone 0]
    omega
  show JJ g w 26 [(0, .ref x)] []
  refine j_new C Rm d_pn_26 nw_CS_13 (by show w.2.1 + 1 ≤ w.2.1 + mc; omega) (by show w.2.2 + 16 ≤ w.2.2 + ms; omega) (fun q hq => ?_)
  refine jnv (fun w1 e1 => ?_)
  have hmq : w1.1 q = some (.inr (2, v0_2)) := jus e1
  have hk1 : w1.2.1 = w.2.1 + 1 ∧ w1.2.2 = w.2.2 + 16 := by rw [e1]; exact ⟨rfl, rfl⟩
  refine j_blk 30 [(0, .ref x)] [.ref q, .ref q] C k_pn_29 rfl ?_
  refine j_callI C Rm Y [] [.ref q] (c_Prog_init2 l D B H0 w1 q v0_2 hmq) cl_CS_62 d_pn_30 rfl rfl (by show 1 + 0 ≤ 8; decide) ⟨(by show 2 + 1 ≤ fr; omega), (by show 8 + (2 + 11) + 80 ≤ lo; omega)⟩ ⟨(by show w1.2.1 + 25 ≤ w.2.1 + mc; omega), (by show w1.2.2 + 723 ≤ w.2.2 + ms; omega)⟩ (fun v w2 p => ?_)
  obtain ⟨rfl, hc2, G2, V9, xp, cd, lv, lw, sk, ru, r1, r2, r3, Vr, F, l1, l2, l3, l4, l5, l6, l7, l8, l9, mo, h0, h1, h2, h3, h4, h5, h6, h7, h8, h9, h10, h11, h12, h13, h14, h15, mr, u0, u1, u2, m1, m2, m3, m4, m5, m6, m7, m8, hjel, hcs, hor, hlvw⟩ := p
  obtain ⟨N, hold, hfr, hN, hcl, ⟨hqN, hq1, Vq, mq⟩, hpu, hqu, k1, k2⟩ := xPn_ok (D := D) hq e1 hc2 G2 l1 l2 l3 l4 l5 l6 l7 l8 l9 mo h0 h1 h2 h3 h4 h5 h6 h7 h8 h9 h10 h11 h12 h13 h14 h15 mr u0 u1 u2 m1 m2 m3 m4 m5 m6 m7 m8 hjel hcs
  have hgq : gext N G q = some 2 := hN G _ hqN
  show JJ g w2 33 [(0, .ref x)] [.ref q]
  refine j_blk 35 [(1, .ref q), (0, .ref x)] [.ref x] C k_pn_33 rfl ?_
  refine j_get C d_pn_35 fg_CS_15 (hold _ _ hxc) v2.1 ?_
  refine j_blk 39 [(1, .ref q), (0, .ref x)] [.ref x, .ref sp] C k_pn_38 rfl ?_
  refine j_get C d_pn_39 fg_CS_59 (hold _ _ hxc) v3 ?_
  refine j_blk 43 [(1, .ref q), (0, .ref x)] [.ref q, .int (Int32.ofInt (P : Int)), .ref sp] C k_pn_42 rfl ?_
  refine j_aast (ci := 2) C d_pn_43 rfl rfl (hold _ _ hcell) mq hin ?_
  have hgo := x_mono hO hfr
  have hPW := (show PW D G w G w from ⟨hO, hb, TRr.rfl'⟩).alloc (c9 := aR D 8 6 (va_up f (Int32.ofInt (P : Int)).toNatClampNeg (some q))) N [q] hold hfr (hN G) (hcl G) gsp hcell ((tcell_R (τ := 21) (t := 5) rfl rfl).mpr ⟨_, rfl, fun j hj => by
    obtain ⟨f', hc', he'⟩ := (tcell_R (τ := 21) (t := 5) rfl rfl).mp (hO sp 21 gsp)
    rw [hcell] at hc'
    have ef := x_arrf hc'
    by_cases e : j = (Int32.ofInt (P : Int)).toNatClampNeg
    · rw [e, va_up_self]; exact Or.inr ⟨q, rfl, hgq⟩
    · rw [va_up_ne _ _ e, ef]; exact vok_mono hgo (he' j hj)⟩) (fun _ => up_mono (by rw [ein]; exact hf0)) (fun o V V' ho => by cases ho) (by rw [← hcell]; exact hpos) (List.nodup_cons.mpr ⟨List.not_mem_nil, List.nodup_nil⟩) (fun b hb => by
      rcases List.mem_cons.mp hb with rfl | hb
      · exact ⟨_, hqN, rfl⟩
      · cases hb) hpu hqu
    (by
      show w2.2.1 + 3 * (nulls 6 (va_up f (Int32.ofInt (P : Int)).toNatClampNeg (some q)) + (pu (gext N G q) (w2.1 q) + 0)) + 26 * nulls 6 (va_up f (Int32.ofInt (P : Int)).toNatClampNeg (some q)) ≤ w.2.1 + 3 * nulls 6 f + 26 * nulls 6 f
      rw [hgq, hq1, ein, hone q]; omega)
    (by
      show w2.2.2 + 604 * (nulls 6 (va_up f (Int32.ofInt (P : Int)).toNatClampNeg (some q)) + (pu (gext N G q) (w2.1 q) + 0)) + 739 * nulls 6 (va_up f (Int32.ofInt (P : Int)).toNatClampNeg (some q)) ≤ w.2.2 + 604 * nulls 6 f + 739 * nulls 6 f
      rw [hgq, hq1, ein, hone q]; omega)
  rw [ein] at hPW ⊢
  obtain ⟨w9, ew9⟩ : ∃ w9 : jW, w9 = (va_up w2.1 sp (some (aR D 8 6 (va_up f P (some q)))), w2.2) := ⟨_, rfl⟩
  rw [← ew9] at hPW ⊢
  have o9 : ∀ b, b ≠ sp → w9.1 b = w2.1 b := fun b hb => by
    rw [ew9]
    exact va_up_ne _ _ hb
  have s9 : w9.1 sp = some (aR D 8 6 (va_up f P (some q))) := by
    rw [ew9]
    exact va_up_self _ _ _
  have fsp : ∀ b, (∀ b' e, w1.1 b' = some e → b' < b) → b ≠ sp := fun b hb => by
    have : w1.1 sp = some (aR D 8 6 f) := by
      rw [e1]
      show va_up w.1 q _ sp = _
      rw [va_up_ne _ _ (Nat.ne_of_lt (hq _ _ hcell))]
      exact hcell
    exact Nat.ne_of_gt (hb _ _ this)
  have hnew : ∀ b, (∀ b' e, w1.1 b' = some e → b' < b) → G b = none := fun b hb => bud_fre hO (fun b' e h => hb b' e (by
    rw [e1]
    show va_up w.1 q _ b' = _
    rw [va_up_ne _ _ (Nat.ne_of_lt (hq _ _ h))]
    exact h))
  have gq : G q = none := bud_fre hO hq
  have qsp : q ≠ sp := Nat.ne_of_gt (hq _ _ hcell)
  have W9 : WOK D (gext N G) w9 := hPW.1
  have H9 := hW_read W9
  obtain ⟨C1, hC1⟩ : ∃ C1 : mA, C1 = fun τ a k => if G a = none then hread w9 τ a k else if τ = 21 ∧ a = sp ∧ k = P then (q : Int) else C0 τ a k := ⟨_, rfl⟩
  have c1n : ∀ τ a k, G a = none → C1 τ a k = hread w9 τ a k := fun τ a k h => by
    rw [hC1]
    exact if_pos h
  have c1o : ∀ τ a k, G a ≠ none → ¬ (τ = 21 ∧ a = sp ∧ k = P) → C1 τ a k = C0 τ a k := fun τ a k h h' => by
    rw [hC1]
    show (if G a = none then hread w9 τ a k else if τ = 21 ∧ a = sp ∧ k = P then (q : Int) else C0 τ a k) = _
    rw [if_neg h, if_neg h']
  have c1s : C1 21 sp P = q := by
    rw [hC1]
    show (if G sp = none then _ else if 21 = 21 ∧ sp = sp ∧ P = P then (q : Int) else _) = _
    rw [if_neg (by rw [gsp]; exact fun h => by cases h), if_pos ⟨rfl, rfl, rfl⟩]
  have hw1 : hW D (gext N G) C1 w9 := fun a τ ha => by
    cases e : G a with
    | none =>
      refine hcell_congr (A := hread w9) ?_ (H9 a τ ha)
      funext k
      exact c1n τ a k e
    | some τ0 =>
      have e9 := hgo a τ0 e
      rw [ha] at e9
      cases e9
      by_cases es : a = sp
      · subst es
        rw [gsp] at e
        cases e
        rw [s9]
        refine (hcell_R (t := 5) rfl rfl).mpr ⟨_, rfl, fun j hj => ?_⟩
        by_cases ej : j = P
        · rw [ej, va_up_self, c1s]
          exact Or.inr ⟨Int.natCast_nonneg q, rfl, hgq⟩
        · rw [va_up_ne _ _ ej, c1o 21 a j (by rw [gsp]; exact fun h => by cases h) (fun r => ej r.2.2)]
          exact hv_mono hgo (hel j hj)
      · rw [o9 a es]
        have old := hw a τ e
        have : ∃ c, w.1 a = some c := by
          cases e2 : w.1 a with
          | some c => exact ⟨c, rfl⟩
          | none =>
            have h8 := bud_fre hO (a := a) (fun b' c' h => by
              exfalso
              have t8 := hO a τ e
              rw [e2] at t8
              unfold tcell at t8
              split at t8
              · obtain ⟨V, q, -⟩ := t8; cases q
              · split at t8
                · split at t8
                  · obtain ⟨f, q, -⟩ := t8; cases q
                  · obtain ⟨f, q⟩ := t8; cases q
                  · obtain ⟨f, q, -⟩ := t8; cases q
                  · obtain ⟨f, q, -⟩ := t8; cases q
                · exact t8.elim)
            rw [e] at h8
            cases h8
        obtain ⟨c, hc⟩ := this
        rw [hold a c hc, ← hc]
        refine hcell_mono hgo (hcell_congr ?_ old)
        funext k
        exact c1o τ a k (by rw [e]; exact fun h => by cases h) (fun r => es r.2.1)
  have rdO : ∀ (τ b k : Nat) (ci : Nat) (V : Nat → Value), G b = none → w9.1 b = some (.inr (ci, V)) → C1 τ b k = vrd (V k) := fun τ b k ci V hb hc => by
    rw [c1n τ b k hb]
    unfold hread
    rw [hc]
  have mo9 : w9.1 q = some (.inr (2, V9)) := (o9 q qsp).trans mo
  have p0 : C1 2 q 0 = xp := (rdO 2 q 0 2 V9 gq mo9).trans (by rw [h0]; rfl)
  have p2 : C1 2 q 2 = cd := (rdO 2 q 2 2 V9 gq mo9).trans (by rw [h2]; rfl)
  have p4 : C1 2 q 4 = lv := (rdO 2 q 4 2 V9 gq mo9).trans (by rw [h4]; rfl)
  have p5 : C1 2 q 5 = lw := (rdO 2 q 5 2 V9 gq mo9).trans (by rw [h5]; rfl)
  have p12 : C1 2 q 12 = ru := (rdO 2 q 12 2 V9 gq mo9).trans (by rw [h12]; rfl)
  have pr0 : C1 4 ru 0 = r1 := (rdO 4 ru 0 4 Vr (hnew ru l6) ((o9 ru (fsp ru l6)).trans mr)).trans (by rw [u0]; rfl)
  have ps : ∀ i, i < 16 → ∃ s : Nat, F i = some s ∧ C1 25 xp i = s ∧ G s = none := fun i hi => by
    obtain ⟨s, Vs, a1, a2, a3, a4⟩ := hjel i hi
    refine ⟨s, a1, ?_, hnew s a2⟩
    rw [c1n 25 xp i (hnew xp l1)]
    unfold hread
    rw [(o9 xp (fsp xp l1)).trans m8]
    show (match F i with | some r => (r : Int) | none => -1) = _
    rw [a1]
  refine kk q (gext N G) C1 w9 W9 hgo hw1 (by rw [ew9]; exact ⟨k1, k2⟩) c1o c1s hgq ⟨⟨by rw [p2]; omega, by rw [p4]; omega, by rw [p5]; omega, by rw [p4, p5]; omega, fun i hi j hj e => ?_⟩, gq, ?_, ?_, ?_, ?_, ?_, ?_, fun i hi => ?_⟩
  · rw [p0, Int.toNat_natCast] at e
    obtain ⟨si, a1, a2, -⟩ := ps i hi
    obtain ⟨sj, b1, b2, -⟩ := ps j hj
    rw [a2, b2, Int.toNat_natCast, Int.toNat_natCast] at e
    rcases Nat.lt_trichotomy i j with q1 | q1 | q1
    · have := hor i j q1 hj si sj a1 b1
      omega
    · exact q1
    · have := hor j i q1 hi sj si b1 a1
      omega
  · rw [p0, Int.toNat_natCast]
    exact hnew xp l1
  · rw [p2, Int.toNat_natCast]
    exact hnew cd l2
  · rw [p4, Int.toNat_natCast]
    exact hnew lv l3
  · rw [p5, Int.toNat_natCast]
    exact hnew lw l4
  · rw [p12, Int.toNat_natCast]
    exact hnew ru l6
  · rw [p12, Int.toNat_natCast, pr0, Int.toNat_natCast]
    exact hnew r1 l7
  · rw [p0, Int.toNat_natCast]
    obtain ⟨s, -, a2, a3⟩ := ps i hi
    rw [a2, Int.toNat_natCast]
    exact a3
