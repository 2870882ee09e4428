/-! the spec of odds: weights are even enough, and are not more than there were (own work) -/
def dv (B : Int) : Int := (2 : Int) ^ (50 - B).toNat
def gdL (B : Int) (l : List xE) : Prop := (kys l).Nodup ∧ (∀ q ∈ l, (0 ≤ q.1 ∧ q.1 ≤ 999999) ∧ 0 < q.2 ∧ dv B ∣ q.2) ∧ tot l ≤ 1125899906842624
theorem dv_pos {B : Int} : 0 < dv B := Int.pow_pos (by decide)
theorem dv_mono {B B' : Int} (h : B ≤ B') : dv B' ∣ dv B := by
  unfold dv
  refine ⟨(2 : Int) ^ ((50 - B).toNat - (50 - B').toNat), ?_⟩
  rw [← Int.pow_add]
  congr 1
  omega
theorem gdL.mono {B B' : Int} {l : List xE} (h : gdL B l) (hb : B ≤ B') : gdL B' l := ⟨h.1, fun q hq => ⟨(h.2.1 q hq).1, (h.2.1 q hq).2.1, Int.dvd_trans (dv_mono hb) (h.2.1 q hq).2.2⟩, h.2.2⟩
theorem tot_app {a b : List xE} : tot (a ++ b) = tot a + tot b := by
  induction a with
  | nil => simp [tot]
  | cons q u ih => simp only [List.cons_append, tot]; rw [ih]; omega
theorem tot_nz {x : List xE} : tot (nz x) = tot x := by
  induction x with
  | nil => rfl
  | cons q x ih =>
    unfold nz at ih ⊢
    by_cases k : q.2 = 0
    · rw [List.filter_cons_of_neg (by simp [k])]
      simp only [tot]
      rw [ih, k]; omega
    · rw [List.filter_cons_of_pos (by simp [k])]
      simp only [tot]
      rw [ih]
theorem tot_filter {x : List xE} {p : xE → Bool} (h : ∀ q ∈ x, 0 ≤ q.2) : 0 ≤ tot (x.filter p) ∧ tot (x.filter p) ≤ tot x := by
  induction x with
  | nil => exact ⟨Int.le_refl _, Int.le_refl _⟩
  | cons q x ih =>
    have h1 := h q List.mem_cons_self
    have h2 := ih (fun z hz => h z (List.mem_cons_of_mem _ hz))
    by_cases k : p q = true
    · rw [List.filter_cons_of_pos k]
      simp only [tot]
      omega
    · rw [List.filter_cons_of_neg k]
      simp only [tot]
      omega
theorem tot_split {x : List xE} {p : xE → Bool} : tot (x.filter p) + tot (x.filter (fun q => !p q)) = tot x := by
  induction x with
  | nil => rfl
  | cons q x ih =>
    by_cases k : p q = true
    · rw [List.filter_cons_of_pos k, List.filter_cons_of_neg (by simp [k])]
      simp only [tot]
      omega
    · have k : p q = false := by simpa using k
      rw [List.filter_cons_of_neg (by simp [k]), List.filter_cons_of_pos (by simp [k])]
      simp only [tot]
      omega
theorem tot_nn {x : List xE} (h : ∀ q ∈ x, 0 ≤ q.2) : 0 ≤ tot x := by
  induction x with
  | nil => exact Int.le_refl _
  | cons q x ih =>
    have h1 := h q List.mem_cons_self
    have h2 := ih (fun z hz => h z (List.mem_cons_of_mem _ hz))
    simp only [tot]; omega
theorem tot_mem {x : List xE} (h : ∀ q ∈ x, 0 ≤ q.2) : ∀ q ∈ x, q.2 ≤ tot x := by
  induction x with
  | nil => intro q hq; cases hq
  | cons y x ih =>
    intro q hq
    have h1 := h y List.mem_cons_self
    have h2 := tot_nn (fun z hz => h z (List.mem_cons_of_mem _ hz))
    simp only [tot]
    rcases List.mem_cons.mp hq with e | e
    · rw [e]; omega
    · have := ih (fun z hz => h z (List.mem_cons_of_mem _ hz)) q e
      omega
theorem gdL.nn {B : Int} {l : List xE} (h : gdL B l) : ∀ q ∈ l, 0 ≤ q.2 := fun q hq => Int.le_of_lt (h.2.1 q hq).2.1
theorem gdL.le {B : Int} {l : List xE} (h : gdL B l) : ∀ q ∈ l, q.2 ≤ 1125899906842624 := fun q hq => Int.le_trans (tot_mem h.nn q hq) h.2.2
/-- what is collected is good again -/
theorem gd_cap {B : Int} {x l : List xE} (hx : ∀ q ∈ x, (0 ≤ q.1 ∧ q.1 ≤ 999999) ∧ 0 ≤ q.2 ∧ dv B ∣ q.2) (ht : tot x ≤ 1125899906842624) (h : cap9 x = some l) : gdL B l ∧ tot l = tot x := by
  unfold cap9 at h
  by_cases k : (col [] (nz x)).length ≤ 300
  · rw [if_pos k] at h
    have h := Option.some.inj h
    subst h
    have e : tot (col [] (nz x)) = tot x := by
      rw [col_tot, tot_nz]
      simp [tot]
    have hm : ∀ q ∈ nz x, (0 ≤ q.1 ∧ q.1 ≤ 999999) ∧ 0 < q.2 ∧ dv B ∣ q.2 := fun q hq => by
      obtain ⟨h1, h2⟩ := List.mem_filter.mp hq
      have h3 := hx q h1
      have : q.2 ≠ 0 := by simpa using h2
      exact ⟨h3.1, by omega, h3.2.2⟩
    refine ⟨⟨col_nd List.nodup_nil, ?_, by rw [e]; exact ht⟩, e⟩
    exact col_all (P := fun s v => (0 ≤ s ∧ s ≤ 999999) ∧ 0 < v ∧ dv B ∣ v) (fun s a b ha hb => ⟨ha.1, by omega, Int.dvd_add ha.2.2 hb.2.2⟩) (fun q hq => by cases hq) hm
  · rw [if_neg k] at h
    cases h
theorem wth_r {t : Int} {n : Nat} {v : Int} (h : 0 ≤ t ∧ t ≤ 999999) (hv : 0 ≤ v ∧ v ≤ 9) : 0 ≤ wth t n v ∧ wth t n v ≤ 999999 := by
  have hd : ∀ j, 0 ≤ dd t j ∧ dd t j ≤ 9 := fun j => by
    unfold dd
    split <;> omega
  unfold wth dsum
  have k : ∀ j, 0 ≤ (if j = n then v else dd t j) ∧ (if j = n then v else dd t j) ≤ 9 := fun j => by
    by_cases q : j = n
    · rw [if_pos q]; exact hv
    · rw [if_neg q]; exact hd j
  show 0 ≤ 100000 * (if 0 = n then v else dd t 0) + 10000 * (if 1 = n then v else dd t 1) + 1000 * (if 2 = n then v else dd t 2) + 100 * (if 3 = n then v else dd t 3) + 10 * (if 4 = n then v else dd t 4) + (if 5 = n then v else dd t 5) ∧ 100000 * (if 0 = n then v else dd t 0) + 10000 * (if 1 = n then v else dd t 1) + 1000 * (if 2 = n then v else dd t 2) + 100 * (if 3 = n then v else dd t 3) + 10 * (if 4 = n then v else dd t 4) + (if 5 = n then v else dd t 5) ≤ 999999
  have := k 0; have := k 1; have := k 2; have := k 3; have := k 4; have := k 5
  omega
theorem tot_flat {f : xE → List xE} {l : List xE} (h : ∀ q ∈ l, tot (f q) ≤ q.2) : tot (l.flatMap f) ≤ tot l := by
  induction l with
  | nil => exact Int.le_refl _
  | cons q l ih =>
    rw [List.flatMap_cons, tot_app]
    simp only [tot]
    have h1 := h q List.mem_cons_self
    have h2 := ih (fun z hz => h z (List.mem_cons_of_mem _ hz))
    omega
theorem kBt_S {S : Int} (h : 0 < kBt S) : ∃ k : Nat, k ≤ 4 ∧ S = 2 ^ k ∧ kBt S = k := by
  unfold kBt at h
  by_cases s2 : S = 2
  · exact ⟨1, by decide, s2, by rw [s2]; rfl⟩
  rw [if_neg s2] at h
  by_cases s4 : S = 4
  · exact ⟨2, by decide, s4, by rw [s4]; rfl⟩
  rw [if_neg s4] at h
  by_cases s8 : S = 8
  · exact ⟨3, by decide, s8, by rw [s8]; rfl⟩
  rw [if_neg s8] at h
  by_cases s16 : S = 16
  · exact ⟨4, by decide, s16, by rw [s16]; rfl⟩
  · rw [if_neg s16] at h
    exact absurd h (by decide)
/-- a draw -/
theorem gd_draw {e : kS} {B : Int} {l : List xE} (hl : gdL B l) (hb : 0 < kBt (kSumW (sL e))) (hlo : lotsOk (sL e)) (hB : B + kBt (kSumW (sL e)) ≤ 50) : (∀ q ∈ l, kSumW (sL e) ∣ q.2) ∧ (∀ q ∈ l.flatMap (xDraw e), (0 ≤ q.1 ∧ q.1 ≤ 999999) ∧ 0 ≤ q.2 ∧ dv (B + kBt (kSumW (sL e))) ∣ q.2) ∧ tot (l.flatMap (xDraw e)) ≤ tot l := by
  obtain ⟨k, k4, kS', kb⟩ := kBt_S hb
  rw [kb] at hB ⊢
  have hS : 0 < kSumW (sL e) := by rw [kS']; exact Int.pow_pos (by decide)
  have e1 : dv B = kSumW (sL e) * dv (B + k) := by
    rw [kS']
    unfold dv
    rw [← Int.pow_add]
    congr 1
    omega
  have key : ∀ q ∈ l, ∃ c : Int, 0 ≤ c ∧ q.2 = kSumW (sL e) * (dv (B + k) * c) ∧ q.2 / kSumW (sL e) = dv (B + k) * c := fun q hq => by
    obtain ⟨c, hc⟩ := (hl.2.1 q hq).2.2
    rw [e1, Int.mul_assoc] at hc
    have h0 := (hl.2.1 q hq).2.1
    refine ⟨c, ?_, hc, by rw [hc, Int.mul_ediv_cancel_left _ (by omega)]⟩
    rcases Int.le_total 0 c with z | z
    · exact z
    · exfalso
      have h1 : dv (B + k) * c ≤ 0 := Int.mul_nonpos_of_nonneg_of_nonpos (Int.le_of_lt dv_pos) z
      have h2 : kSumW (sL e) * (dv (B + k) * c) ≤ 0 := Int.mul_nonpos_of_nonneg_of_nonpos (Int.le_of_lt hS) h1
      omega
  have ts : ∀ (x : Int) (s : Int) (n : Nat) (z : List (Int × Int)), tot (z.map (fun y => (wth s n y.1, x * y.2))) = x * kSumW z := fun x s n z => by
    induction z with
    | nil => simp [tot, kSumW]
    | cons y z ih =>
      rw [List.map_cons, kSumW_c, Int.mul_add]
      simp only [tot]
      rw [ih]
  refine ⟨fun q hq => ?_, fun q hq => ?_, tot_flat (fun q hq => ?_)⟩
  · obtain ⟨c, -, c2, -⟩ := key q hq
    exact ⟨_, c2⟩
  · obtain ⟨y, hy, hq⟩ := List.mem_flatMap.mp hq
    obtain ⟨z, hz, rfl⟩ := List.mem_map.mp hq
    obtain ⟨c, c1, c2, c3⟩ := key y hy
    have lz := hlo.2.2 z hz
    refine ⟨wth_r (hl.2.1 y hy).1 lz.1, ?_, ?_⟩
    · show 0 ≤ y.2 / kSumW (sL e) * z.2
      rw [c3]
      exact Int.mul_nonneg (Int.mul_nonneg (Int.le_of_lt dv_pos) c1) (by omega)
    · show _ ∣ y.2 / kSumW (sL e) * z.2
      rw [c3, Int.mul_assoc]
      exact ⟨_, rfl⟩
  · obtain ⟨c, c1, c2, c3⟩ := key q hq
    have : tot (xDraw e q) = q.2 := by
      unfold xDraw
      rw [ts, c3, Int.mul_comm, ← c2]
    omega
