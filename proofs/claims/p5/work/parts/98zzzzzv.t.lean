/-! odds of the reference, some names forgotten: what is kept (own work) -/
def gdS (B S : Int) (L : List xE) : Prop := srt L ∧ (∀ q ∈ L, (0 ≤ q.1 ∧ q.1 ≤ 999999) ∧ 0 < q.2 ∧ dv B ∣ q.2) ∧ tot L ≤ S
theorem mpt_all {D : Int} : ∀ {l : List xE} {x : xE}, (∀ q ∈ l, 0 < q.2 ∧ D ∣ q.2) → 0 < x.2 → D ∣ x.2 → (∀ q ∈ mpt l x, 0 < q.2 ∧ D ∣ q.2) ∧ tot (mpt l x) = tot l + x.2 := by
  intro l
  induction l with
  | nil =>
    intro x _ h1 h2
    unfold mpt
    refine ⟨fun q hq => ?_, by simp [tot]⟩
    have : q = x := by simpa using hq
    rw [this]; exact ⟨h1, h2⟩
  | cons y l ih =>
    intro x h h1 h2
    obtain ⟨i1, i2⟩ := ih (x := x) (fun q hq => h q (List.mem_cons_of_mem _ hq)) h1 h2
    obtain ⟨y1, y2⟩ := h y List.mem_cons_self
    unfold mpt
    by_cases k : y.1 < x.1
    · rw [if_pos k]
      refine ⟨fun q hq => ?_, by simp only [tot]; omega⟩
      rcases List.mem_cons.mp hq with e | e
      · rw [e]; exact ⟨y1, y2⟩
      · exact i1 q e
    · rw [if_neg k]
      by_cases k2 : y.1 = x.1
      · rw [if_pos k2]
        refine ⟨fun q hq => ?_, by simp only [tot]; omega⟩
        rcases List.mem_cons.mp hq with e | e
        · rw [e]; exact ⟨by show 0 < y.2 + x.2; omega, Int.dvd_add y2 h2⟩
        · exact h q (List.mem_cons_of_mem _ e)
      · rw [if_neg k2]
        refine ⟨fun q hq => ?_, by simp only [tot]; omega⟩
        rcases List.mem_cons.mp hq with e | e
        · rw [e]; exact ⟨h1, h2⟩
        · exact h q e
theorem gdS.put {B S : Int} {L : List xE} {x : xE} (h : gdS B S L) (h1 : 0 ≤ x.1 ∧ x.1 ≤ 999999) (h2 : 0 ≤ x.2) (h3 : dv B ∣ x.2) : gdS B (S + x.2) (mpc L x) := by
  obtain ⟨a1, a2, a3⟩ := h
  have e := mpc_mem (x := x) (fun q hq => (a2 q hq).1) h1
  refine ⟨mpc_srt a1, fun q hq => ⟨e q hq, ?_⟩, ?_⟩
  · unfold mpc at hq
    split at hq
    · exact (a2 q hq).2
    · split at hq
      · exact (a2 q hq).2
      · exact (mpt_all (fun q hq => (a2 q hq).2) (by omega) h3).1 q hq
  · unfold mpc
    split
    · omega
    · split
      · omega
      · rw [(mpt_all (D := dv B) (fun q hq => (a2 q hq).2) (by omega) h3).2]; omega
theorem gdS.mcl {B : Int} : ∀ {X : List xE} {S : Int} {L : List xE}, gdS B S L → (∀ q ∈ X, (0 ≤ q.1 ∧ q.1 ≤ 999999) ∧ 0 ≤ q.2 ∧ dv B ∣ q.2) → gdS B (S + tot X) (mcl L X) := by
  intro X
  induction X with
  | nil =>
    intro S L h _
    show gdS B (S + 0) L
    rw [Int.add_zero]
    exact h
  | cons q X ih =>
    intro S L h hX
    obtain ⟨q1, q2, q3⟩ := hX q List.mem_cons_self
    have := ih (h.put q1 q2 q3) (fun y hy => hX y (List.mem_cons_of_mem _ hy))
    have e : S + tot (q :: X) = S + q.2 + tot X := by simp only [tot]; omega
    rw [e]
    exact this
theorem gdS.nil {B : Int} : gdS B 0 [] := ⟨List.Pairwise.nil, fun q hq => absurd hq (List.not_mem_nil), Int.le_refl _⟩
theorem gdS.gd {B S : Int} {L : List xE} (h : gdS B S L) (hS : S ≤ 1125899906842624) : gdL B L := ⟨h.1.nd, h.2.1, Int.le_trans h.2.2 hS⟩
/-- what is collected, capped or not, is good -/
theorem gd_mcl {B : Int} {X : List xE} (hX : ∀ q ∈ X, (0 ≤ q.1 ∧ q.1 ≤ 999999) ∧ 0 ≤ q.2 ∧ dv B ∣ q.2) (ht : tot X ≤ 1125899906842624) : gdL B (mcl [] X) ∧ tot (mcl [] X) ≤ tot X := by
  have h := (gdS.nil (B := B)).mcl hX
  have h3 := h.2.2
  exact ⟨h.gd (by omega), by omega⟩
theorem gdL.vst {B : Int} {l : List xE} (h : gdL B l) : ∀ q ∈ l, (0 ≤ q.1 ∧ q.1 ≤ 999999) ∧ 0 ≤ q.2 ∧ dv B ∣ q.2 := fun q hq => ⟨(h.2.1 q hq).1, h.nn q hq, (h.2.1 q hq).2.2⟩
theorem mpc_len {l : List xE} {x : xE} (h : srt l) : (mpc l x).length ≤ l.length + 1 := by
  unfold mpc
  split
  · omega
  · split
    · omega
    · rw [mpt_len h]
      split <;> omega
section YDF
variable {A : mA}
theorem m_fgt29 {a z j : Nat} {v : Int} {c8 : mA → Nat → Int → Nat → Int → Option (Int × mA)} : ∀ (r k n : Nat) (t : Int), k + r = 6 → r < n → (0 ≤ t ∧ t ≤ 999999) → j < 301 → ∃ t', (0 ≤ t' ∧ t' ≤ 999999) ∧ f_Mo_forget_29 c8 n A a v z j t k = Option.bind (f_Odds_come A z t' (A 4 a j)) (fun q4 => c8 q4.2 a v z ((j + 1 : Nat) : Int)) := by
  intro r
  induction r with
  | zero =>
    intro k n t h hn ht hj
    obtain ⟨n, rfl⟩ : ∃ q, n = q + 1 := ⟨n - 1, by omega⟩
    refine ⟨t, ht, ?_⟩
    unfold f_Mo_forget_29
    rw [if_pos (show g32 (k : Int) by unfold g32; omega), if_pos (show (6 : Int) ≤ k by omega), if_pos (show 0 ≤ (j : Int) ∧ (j : Int) < ((301 : Nat) : Int) by omega), Int.toNat_natCast]
    rfl
  | succ r ih =>
    intro k n t h hn ht hj
    obtain ⟨n, rfl⟩ : ∃ q, n = q + 1 := ⟨n - 1, by omega⟩
    have ek : ((k : Int) + 1) = ((k + 1 : Nat) : Int) := by omega
    unfold f_Mo_forget_29
    rw [if_pos (show g32 (k : Int) by unfold g32; omega), if_neg (show ¬ (6 : Int) ≤ k by omega), ek]
    by_cases c : iAnd (iShr v k) 1 = 0
    · rw [if_pos c, m_wth ht (by omega) (by decide), obind]
      exact ih (k + 1) n _ (by omega) (by omega) (wth_r ht (by decide)) hj
    · rw [if_neg c]
      exact ih (k + 1) n t (by omega) (by omega) ht hj
theorem m_fgt8 {a z : Nat} {v B : Int} (haz : a ≠ z) (hq : oQ A a) (hg : gdL B (oC A a)) : ∀ (F j : Nat) (M : mA), j ≤ (oC A a).length → (oC A a).length - j < F → rOd A M z → oQ M z → gdS B (tot ((oC A a).take j)) (oC M z) → (oC M z).length ≤ j → ∃ A', f_Mo_forget_8 F M a v z j = some ((z : Int), A') ∧ rOd A A' z ∧ oQ A' z ∧ gdS B (tot (oC A a)) (oC A' z) ∧ (oC A' z).length ≤ (oC A a).length := by
  have h1 := hq.1
  have hlen : (oC A a).length = (A 1 a 2).toNat := oC_len
  intro F
  induction F with
  | zero => intro j M _ h; omega
  | succ F ih =>
    intro j M hj hF hr hQ hs hln
    have e1 : M 1 a 2 = A 1 a 2 := hr 1 a 2 (fun q => haz q.1)
    unfold f_Mo_forget_8
    rw [e1, if_pos (show g32 (j : Int) by unfold g32; omega), if_pos (show g32 (A 1 a 2) by unfold g32; omega)]
    by_cases k : (oC A a).length ≤ j
    · rw [if_pos (show A 1 a 2 ≤ (j : Int) by omega)]
      rw [List.take_of_length_le k] at hs
      exact ⟨M, rfl, hr, hQ, hs, by omega⟩
    · have hj' : j < (oC A a).length := by omega
      obtain ⟨q, hqj⟩ : ∃ q, q = (oC A a)[j] := ⟨_, rfl⟩
      have e9 := oC_at hj'
      rw [← hqj] at e9
      have hqm : q ∈ oC A a := by rw [hqj]; exact List.getElem_mem hj'
      obtain ⟨q1, q2, q3⟩ := hg.vst q hqm
      have qle := gd_g64 (List.Perm.refl _) hg q hqm
      rw [if_neg (show ¬ A 1 a 2 ≤ (j : Int) by omega), if_pos (show 0 ≤ (j : Int) ∧ (j : Int) < ((301 : Nat) : Int) by omega), Int.toNat_natCast]
      have e3 : M 3 a j = q.1 := by rw [hr 3 a j (fun q => haz q.1), e9.1]
      have e4 : M 4 a j = q.2 := by rw [hr 4 a j (fun q => haz q.1), e9.2]
      rw [e3]
      obtain ⟨t', t1, t2⟩ := m_fgt29 (A := M) (a := a) (z := z) (j := j) (v := v) (c8 := f_Mo_forget_8 F) 6 0 310 q.1 rfl (by decide) q1 (by omega)
      have t2' : f_Mo_forget_29 (f_Mo_forget_8 F) 310 M a v z j q.1 0 = _ := t2
      rw [t2', e4]
      obtain ⟨M', s1, s2, s3, s4⟩ := o_come (A := M) (k := z) (s := t') (w := q.2) hQ t1 qle
      rw [s1, obind]
      refine ih (j + 1) M' hj' (by omega) (hr.trans s3) s4 ?_ (by rw [s2]; have := mpc_len (x := (t', q.2)) hs.1; omega)
      rw [s2, take_s hj', ← hqj, show tot ((oC A a).take j ++ [q]) = tot ((oC A a).take j) + q.2 by
        rw [show tot ((oC A a).take j ++ [q]) = tot ((oC A a).take j) + tot [q] from tot_app]
        simp [tot]]
      exact hs.put (x := (t', q.2)) t1 q2 q3
/-- some names forgotten -/
theorem m_forget {a u : Nat} {v B : Int} (hu : A 0 0 33 = u) (h200 : u < 200) (ha : a < u) (hq : oQ A a) (hg : gdL B (oC A a)) : ∃ A', f_Mo_forget A a v = some ((u : Int), A') ∧ pF u A A' ∧ A' 0 0 33 = ((u + 1 : Nat) : Int) ∧ oQ A' u ∧ gdL B (oC A' u) ∧ tot (oC A' u) ≤ tot (oC A a) ∧ (oC A' u).length ≤ (oC A a).length := by
  obtain ⟨A1, t1, t2, t3, t4, t5⟩ := m_tkn hu h200
  have e := t2.oC ha
  obtain ⟨A', s1, s2, s3, s4, s5⟩ := m_fgt8 (A := A1) (a := a) (z := u) (v := v) (B := B) (by omega) (t2.oQ ha hq) (by rw [e]; exact hg) 310 0 A1 (Nat.zero_le _) (by rw [e]; have := hq.1; have : (oC A a).length = (A 1 a 2).toNat := oC_len; omega) rOd.refl t5 (by rw [t4]; exact gdS.nil) (by rw [t4]; exact Nat.le_refl _)
  rw [e] at s4 s5
  refine ⟨A', ?_, t2.trans (pF.r s2 (Nat.le_refl _)), (s2 0 0 33 (by omega)).trans t3, s3, s4.gd hg.2.2, s4.2.2, s5⟩
  unfold f_Mo_forget
  rw [t1, obind]
  exact s1
end YDF
