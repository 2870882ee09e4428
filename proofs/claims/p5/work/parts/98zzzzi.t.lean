/-! the spec of odds: what is RUN; all steps (own work) -/
def s10 (f : Nat → Int) : Int := f 0 + f 1 + f 2 + f 3 + f 4 + f 5 + f 6 + f 7 + f 8 + f 9
theorem xw_c {q : xE} {l : List xE} {v : Int} : xw (q :: l) v = (if dd q.1 0 = v then q.2 else 0) + xw l v := by
  unfold xw
  by_cases k : dd q.1 0 = v
  · rw [if_pos k, List.filter_cons_of_pos (by simp [k])]
    rfl
  · rw [if_neg k, List.filter_cons_of_neg (by simp [k])]
    omega
theorem s10_ind {d x : Int} (hx : 0 ≤ x) : s10 (fun v => if d = ((v : Nat) : Int) then x else 0) ≤ x := by
  unfold s10
  have h : d = 0 ∨ d = 1 ∨ d = 2 ∨ d = 3 ∨ d = 4 ∨ d = 5 ∨ d = 6 ∨ d = 7 ∨ d = 8 ∨ d = 9 ∨ (d < 0 ∨ 9 < d) := by omega
  rcases h with rfl | rfl | rfl | rfl | rfl | rfl | rfl | rfl | rfl | rfl | h
  all_goals try (simp; done)
  simp only []
  rw [if_neg (by omega), if_neg (by omega), if_neg (by omega), if_neg (by omega), if_neg (by omega), if_neg (by omega), if_neg (by omega), if_neg (by omega), if_neg (by omega), if_neg (by omega)]
  omega
theorem xw_sum {l : List xE} (h : ∀ q ∈ l, 0 ≤ q.2) : s10 (fun v => xw l ((v : Nat) : Int)) ≤ tot l := by
  induction l with
  | nil => exact Int.le_refl _
  | cons q l ih =>
    have h1 := h q List.mem_cons_self
    have h2 := ih (fun z hz => h z (List.mem_cons_of_mem _ hz))
    have h3 := s10_ind (d := dd q.1 0) h1
    unfold s10 at h2 h3 ⊢
    simp only [xw_c, tot] at h2 h3 ⊢
    omega
theorem xw_nn {l : List xE} (h : ∀ q ∈ l, 0 ≤ q.2) (v : Int) : 0 ≤ xw l v := (tot_filter h).1
theorem tot_dvd {l : List xE} {D : Int} (h : ∀ q ∈ l, D ∣ q.2) : D ∣ tot l := by
  induction l with
  | nil => exact Int.dvd_zero _
  | cons q l ih => exact Int.dvd_add (h q List.mem_cons_self) (ih (fun z hz => h z (List.mem_cons_of_mem _ hz)))
theorem xw_dvd {l : List xE} {D : Int} (h : ∀ q ∈ l, D ∣ q.2) (v : Int) : D ∣ xw l v := tot_dvd (fun q hq => h q (List.mem_filter.mp hq).1)
/-- what is asked of a run's weights -/
def okW (b : Int) (f : Nat → Int) : Prop := (∀ v, 0 ≤ f v ∧ dv b ∣ f v) ∧ s10 f ≤ 1125899906842624
theorem okW_of {b : Int} {R : List xE} (h : gdL b R) : okW b (fun v => xw R ((v : Nat) : Int)) := ⟨fun v => ⟨xw_nn h.nn _, xw_dvd (fun q hq => (h.2.1 q hq).2.2) _⟩, Int.le_trans (xw_sum h.nn) h.2.2⟩
/-- a weight times another one, by the whole, is whole -/
theorem mul_whole {B b x y : Int} (hB : 0 ≤ B) (hb : 0 ≤ b) (h : B + b ≤ 50) (hx : dv B ∣ x) (hy : dv b ∣ y) : ∃ c, x * y = 1125899906842624 * (dv (B + b) * c) := by
  obtain ⟨c, rfl⟩ := hx
  obtain ⟨c', rfl⟩ := hy
  refine ⟨c * c', ?_⟩
  have e : dv B * dv b = 1125899906842624 * dv (B + b) := by
    have e50 : (1125899906842624 : Int) = 2 ^ 50 := by decide
    rw [e50]
    unfold dv
    rw [← Int.pow_add, ← Int.pow_add]
    congr 1
    omega
  calc dv B * c * (dv b * c') = (dv B * dv b) * (c * c') := by
        rw [Int.mul_assoc, Int.mul_assoc, ← Int.mul_assoc c, Int.mul_comm c, Int.mul_assoc (dv b) c]
    _ = 1125899906842624 * (dv (B + b) * (c * c')) := by rw [e, Int.mul_assoc]
theorem gd_run {e : kS} {B b : Int} {l : List xE} {W : Int → Int → Int} (hl : gdL B l) (hB : 0 ≤ B) (hb : 0 ≤ b) (h50 : B + b ≤ 50) (hW : ∀ q ∈ l, okW b (fun v => W (xv e q.1 % 10) ((v : Nat) : Int))) : (∀ q ∈ l.flatMap (xRun e W), (0 ≤ q.1 ∧ q.1 ≤ 999999) ∧ 0 ≤ q.2 ∧ dv (B + b) ∣ q.2) ∧ tot (l.flatMap (xRun e W)) ≤ tot l := by
  have key : ∀ q ∈ l, ∀ v : Nat, ∃ c, q.2 * W (xv e q.1 % 10) ((v : Nat) : Int) / 1125899906842624 = dv (B + b) * c ∧ q.2 * W (xv e q.1 % 10) ((v : Nat) : Int) = 1125899906842624 * (dv (B + b) * c) ∧ 0 ≤ q.2 * W (xv e q.1 % 10) ((v : Nat) : Int) := fun q hq v => by
    obtain ⟨w1, w2⟩ := (hW q hq).1 v
    obtain ⟨c, hc⟩ := mul_whole hB hb h50 (hl.2.1 q hq).2.2 w2
    refine ⟨c, ?_, hc, Int.mul_nonneg (hl.nn q hq) w1⟩
    rw [hc, Int.mul_ediv_cancel_left _ (by decide)]
  refine ⟨fun q hq => ?_, tot_flat (fun q hq => ?_)⟩
  · obtain ⟨y, hy, hq⟩ := List.mem_flatMap.mp hq
    obtain ⟨v, hv, rfl⟩ := List.mem_map.mp hq
    have hv := List.mem_range.mp hv
    obtain ⟨c, c1, c2, c3⟩ := key y hy v
    refine ⟨wth_r (hl.2.1 y hy).1 (by omega), Int.ediv_nonneg c3 (by decide), ?_⟩
    show _ ∣ y.2 * W (xv e y.1 % 10) ((v : Nat) : Int) / 1125899906842624
    rw [c1]
    exact ⟨c, rfl⟩
  · have hs := (hW q hq).2
    have hq0 := hl.nn q hq
    have e1 : tot (xRun e W q) = s10 (fun v => q.2 * W (xv e q.1 % 10) ((v : Nat) : Int) / 1125899906842624) := by
      unfold xRun s10
      rw [show List.range 10 = [0, 1, 2, 3, 4, 5, 6, 7, 8, 9] from rfl]
      simp only [List.map_cons, List.map_nil, tot]
      omega
    have e2 : 1125899906842624 * s10 (fun v => q.2 * W (xv e q.1 % 10) ((v : Nat) : Int) / 1125899906842624) = q.2 * s10 (fun v => W (xv e q.1 % 10) ((v : Nat) : Int)) := by
      have k : ∀ v : Nat, 1125899906842624 * (q.2 * W (xv e q.1 % 10) ((v : Nat) : Int) / 1125899906842624) = q.2 * W (xv e q.1 % 10) ((v : Nat) : Int) := fun v => by
        obtain ⟨c, c1, c2, c3⟩ := key q hq v
        rw [c1, c2]
      unfold s10
      simp only [Int.mul_add, k]
    have h1 : q.2 * s10 (fun v => W (xv e q.1 % 10) ((v : Nat) : Int)) ≤ q.2 * 1125899906842624 := Int.mul_le_mul_of_nonneg_left hs hq0
    rw [e1]
    omega
/-! a table of programs, and the BITS of its steps -/
def TB (T : xT) (b : Int → Int) (cnt : Nat) : Prop := cnt ≤ 6 ∧ ∀ p : Nat, p < cnt → okN p (T p).2 (T p).1 ∧ (∀ i, i < (T p).1 → okX ((T p).2 i)) ∧ b p = tsm (gv (Fb (T p).2 b) 16) (T p).2 16 0 (T p).1 ∧ 0 ≤ b p ∧ b p ≤ 50
theorem tsm_nn {v : Nat → Int} {c : Nat → kS} : ∀ n a b, (∀ j, a ≤ j → j < b → 0 ≤ v j) → 0 ≤ tsm v c n a b := by
  intro n
  induction n with
  | zero => intro a b _; exact Int.le_refl _
  | succ n ih =>
    intro a b h
    unfold tsm
    by_cases k : a < b
    · rw [if_pos k]
      have h1 := h a (Nat.le_refl _) k
      have h2 := ih (a + sI (c a)) b (fun j q1 q2 => h j (by omega) q2)
      omega
    · rw [if_neg k]
      exact Int.le_refl _
theorem kBt_nn {S : Int} : 0 ≤ kBt S := by
  unfold kBt
  split
  · decide
  split
  · decide
  split
  · decide
  split
  · decide
  · decide
section TBS
variable {T : xT} {b : Int → Int} {cnt : Nat}
theorem TB.gv_nn (h : TB T b cnt) {p : Nat} (hp : p < cnt) : ∀ n i, i < (T p).1 → 0 ≤ gv (Fb (T p).2 b) n i := by
  obtain ⟨ho, hx, -⟩ := h.2 p hp
  intro n
  induction n with
  | zero => intro i _; exact Int.le_refl _
  | succ n ih =>
    intro i hi
    show 0 ≤ Fb (T p).2 b (gv (Fb (T p).2 b) n) i
    obtain ⟨⟨hk, -, h1, h3, h4, h5, -⟩, h9⟩ := ho.2.2 i hi
    by_cases c0 : sK ((T p).2 i) = 0
    · rw [Fb_0 c0]; exact kBt_nn
    by_cases c3 : sK ((T p).2 i) = 3
    · rw [Fb_3 c3]
      have := tsm_nn (v := gv (Fb (T p).2 b) n) (c := (T p).2) 16 (i + 1) (i + sO ((T p).2 i)) (fun j q1 q2 => ih j (by have := (h3 c3).2.2.1; omega))
      omega
    by_cases c4 : sK ((T p).2 i) = 4
    · rw [Fb_4 c4]
      exact Int.mul_nonneg (h4 c4).2.1.1 (tsm_nn 16 _ _ (fun j q1 q2 => ih j (by omega)))
    by_cases c5 : sK ((T p).2 i) = 5
    · rw [Fb_5 c5]
      obtain ⟨u1, u2⟩ := h5 c5
      have := (h.2 (sU ((T p).2 i)).toNat (by omega)).2.2.2.1
      have e : (((sU ((T p).2 i)).toNat : Nat) : Int) = sU ((T p).2 i) := by omega
      rw [e] at this
      exact this
    · rw [Fb_o c0 c3 c4 c5]
      exact Int.le_refl _
/-- a block, over good steps -/
theorem gd_blk {c : Nat → kS} {v : Nat → Int} {st : Nat → List xE → Option (List xE)} {N : Nat} {lv : Int} (hv : ∀ j, j < N → 0 ≤ v j) (hs : ∀ i, i < N → ∀ (B : Int) (l l' : List xE), 0 ≤ B → gdL B l → B + v i ≤ 50 → st i l = some l' → gdL (B + v i) l' ∧ tot l' ≤ tot l) : ∀ n a e, tl c lv n a e → e ≤ N → ∀ (k : Nat) (B : Int) (l l' : List xE), 0 ≤ B → gdL B l → B + tsm v c n a e ≤ 50 → sBk st c k a e l = some l' → gdL (B + tsm v c n a e) l' ∧ tot l' ≤ tot l := by
  intro n
  induction n with
  | zero =>
    intro a e h he k B l l' hB hl h50 hr
    have h : a = e := h
    subst h
    cases k with
    | zero => cases hr
    | succ k =>
      unfold sBk at hr
      rw [if_neg (Nat.lt_irrefl a)] at hr
      cases hr
      rw [tsm_nil, Int.add_zero]
      exact ⟨hl, Int.le_refl _⟩
  | succ n ih =>
    intro a e h he k B l l' hB hl h50 hr
    rcases h with h | ⟨h1, h2, h3, h4, h5, h6⟩
    · subst h
      cases k with
      | zero => cases hr
      | succ k =>
        unfold sBk at hr
        rw [if_neg (Nat.lt_irrefl a)] at hr
        cases hr
        rw [tsm_nil, Int.add_zero]
        exact ⟨hl, Int.le_refl _⟩
    · cases k with
      | zero => cases hr
      | succ k =>
        unfold sBk at hr
        rw [if_pos h1] at hr
        unfold tsm at h50 ⊢
        rw [if_pos h1] at h50 ⊢
        have hn := tsm_nn (v := v) (c := c) n (a + sI (c a)) e (fun j q1 q2 => hv j (by omega))
        have hva := hv a (by omega)
        cases hst : st a l with
        | none => rw [hst] at hr; cases hr
        | some l1 =>
          rw [hst] at hr
          obtain ⟨g1, g2⟩ := hs a (by omega) B l l1 hB hl (by omega) hst
          obtain ⟨g3, g4⟩ := ih (a + sI (c a)) e h6 he k (B + v a) l1 l' (by omega) g1 (by omega) hr
          rw [Int.add_assoc] at g3
          exact ⟨g3, Int.le_trans g4 g2⟩
theorem gd_loop {f : List xE → Option (List xE)} {t : Int} (ht : 0 ≤ t) (hf : ∀ (B : Int) (l l' : List xE), 0 ≤ B → gdL B l → B + t ≤ 50 → f l = some l' → gdL (B + t) l' ∧ tot l' ≤ tot l) : ∀ (n : Nat) (B : Int) (l l' : List xE), 0 ≤ B → gdL B l → B + n * t ≤ 50 → sLp f n l = some l' → gdL (B + n * t) l' ∧ tot l' ≤ tot l := by
  intro n
  induction n with
  | zero =>
    intro B l l' hB hl h50 hr
    cases hr
    have e : B + ((0 : Nat) : Int) * t = B := by simp
    rw [e]
    exact ⟨hl, Int.le_refl _⟩
  | succ n ih =>
    intro B l l' hB hl h50 hr
    have e : B + ((n + 1 : Nat) : Int) * t = (B + t) + (n : Int) * t := by
      rw [show ((n + 1 : Nat) : Int) = (n : Int) + 1 by omega, Int.add_mul]
      omega
    rw [e] at h50 ⊢
    have hn : 0 ≤ (n : Int) * t := Int.mul_nonneg (by omega) ht
    unfold sLp at hr
    cases hst : f l with
    | none => rw [hst] at hr; cases hr
    | some l1 =>
      rw [hst] at hr
      obtain ⟨g1, g2⟩ := hf B l l1 hB hl (by omega) hst
      obtain ⟨g3, g4⟩ := ih (B + t) l1 l' (by omega) g1 h50 hr
      exact ⟨g3, Int.le_trans g4 g2⟩
theorem gd_one {s : Int} (h : 0 ≤ s ∧ s ≤ 999999) : gdL 0 [(s, 1125899906842624)] := ⟨by simp, fun q hq => by
  have : q = (s, 1125899906842624) := by simpa using hq
  subst this
  exact ⟨h, by show (0 : Int) < 1125899906842624; decide, 1, by show (1125899906842624 : Int) = (2 : Int) ^ (50 - (0 : Int)).toNat * 1; decide⟩, by simp [tot]⟩
/-- a step keeps what is good -/
theorem gd_st (h : TB T b cnt) : ∀ (n p i : Nat), p < cnt → i < (T p).1 → ∀ (B : Int) (l l' : List xE), 0 ≤ B → gdL B l → B + gv (Fb (T p).2 b) 16 i ≤ 50 → sSt T n p i l = some l' → gdL (B + gv (Fb (T p).2 b) 16 i) l' ∧ tot l' ≤ tot l := by
  intro n
  induction n with
  | zero => intro p i _ _ B l l' _ _ _ hr; cases hr
  | succ n ih =>
    intro p i hp hi B l l' hB hl h50 hr
    obtain ⟨ho, hx, hb, hb0, hb1⟩ := h.2 p hp
    have hN : (T p).1 ≤ 16 := ho.1
    have ge := gv_eq (F := Fb (T p).2 b) (Fb_c ho) hN hi
    obtain ⟨⟨hk, -, h1, h3, h4, h5, h0, hn⟩, h9⟩ := ho.2.2 i hi
    have hvn : ∀ j, j < (T p).1 → 0 ≤ gv (Fb (T p).2 b) 16 j := fun j hj => h.gv_nn hp 16 j hj
    have blk : ∀ (L : Int) (k a e : Nat), tl (T p).2 L 16 a e → e ≤ (T p).1 → ∀ (B : Int) (l l' : List xE), 0 ≤ B → gdL B l → B + tsm (gv (Fb (T p).2 b) 16) (T p).2 16 a e ≤ 50 → sBk (sSt T n p) (T p).2 k a e l = some l' → gdL (B + tsm (gv (Fb (T p).2 b) 16) (T p).2 16 a e) l' ∧ tot l' ≤ tot l := fun L k a e t1 t2 B l l' => gd_blk hvn (fun i hi B l l' => ih p i hp hi B l l') 16 a e t1 t2 k B l l'
    have vst : ∀ q ∈ l, (0 ≤ q.1 ∧ q.1 ≤ 999999) ∧ 0 ≤ q.2 ∧ dv B ∣ q.2 := fun q hq => ⟨(hl.2.1 q hq).1, hl.nn q hq, (hl.2.1 q hq).2.2⟩
    unfold sSt at hr
    rw [ge] at h50 ⊢
    by_cases c0 : sK ((T p).2 i) = 0
    · rw [if_pos c0] at hr
      rw [Fb_0 c0] at h50 ⊢
      obtain ⟨⟨z1, z2⟩, z3⟩ := h0 c0
      obtain ⟨-, y2, y3⟩ := gd_draw hl z1 z3 h50
      obtain ⟨g1, g2⟩ := gd_cap y2 (Int.le_trans y3 hl.2.2) hr
      exact ⟨g1, by rw [g2]; exact y3⟩
    rw [if_neg c0] at hr
    by_cases c1 : sK ((T p).2 i) = 1
    · rw [if_pos c1] at hr
      rw [Fb_o c0 (by omega) (by omega) (by omega), Int.add_zero] at h50 ⊢
      have et : tot (l.map (xLet ((T p).2 i))) = tot l := by
        clear hr h50 vst hl
        induction l with
        | nil => rfl
        | cons q l ihl =>
          rw [List.map_cons]
          simp only [tot]
          rw [ihl]
          rfl
      obtain ⟨g1, g2⟩ := gd_cap (x := l.map (xLet ((T p).2 i))) (fun q hq => by
        obtain ⟨y, hy, rfl⟩ := List.mem_map.mp hq
        exact ⟨wth_r (hl.2.1 y hy).1 (by omega), (vst y hy).2⟩) (by rw [et]; exact hl.2.2) hr
      exact ⟨g1, by omega⟩
    rw [if_neg c1] at hr
    by_cases c2 : sK ((T p).2 i) = 2
    · rw [if_pos c2] at hr
      rw [Fb_o c0 (by omega) (by omega) (by omega), Int.add_zero] at h50 ⊢
      have tf := tot_filter (p := fun q => xv ((T p).2 i) q.1 != 0) hl.nn
      obtain ⟨g1, g2⟩ := gd_cap (x := l.filter (fun q => xv ((T p).2 i) q.1 != 0)) (fun q hq => vst q (List.mem_filter.mp hq).1) (by have := hl.2.2; omega) hr
      exact ⟨g1, by omega⟩
    rw [if_neg c2] at hr
    have sub : ∀ P9 : xE → Bool, gdL B (l.filter P9) := fun P9 => ⟨(List.Sublist.map (fun q : xE => q.1) List.filter_sublist).nodup hl.1, fun q hq => hl.2.1 q (List.mem_filter.mp hq).1, by have := (tot_filter (p := P9) hl.nn).2; have := hl.2.2; omega⟩
    by_cases c3 : sK ((T p).2 i) = 3
    · rw [if_pos c3] at hr
      rw [Fb_3 c3] at h50 ⊢
      obtain ⟨-, o1, o2, t1, t2⟩ := h3 c3
      have n1 := tsm_nn (v := gv (Fb (T p).2 b) 16) (c := (T p).2) 16 (i + 1) (i + sO ((T p).2 i)) (fun j q1 q2 => hvn j (by omega))
      have n2 := tsm_nn (v := gv (Fb (T p).2 b) 16) (c := (T p).2) 16 (i + sO ((T p).2 i)) (i + sI ((T p).2 i)) (fun j q1 q2 => hvn j (by omega))
      have ts := tot_split (x := l) (p := fun q => xv ((T p).2 i) q.1 != 0)
      cases e1 : sBk (sSt T n p) (T p).2 17 (i + 1) (i + sO ((T p).2 i)) (l.filter (fun q => xv ((T p).2 i) q.1 != 0)) with
      | none => rw [e1] at hr; cases hr
      | some x =>
        rw [e1] at hr
        have hr : (sBk (sSt T n p) (T p).2 17 (i + sO ((T p).2 i)) (i + sI ((T p).2 i)) (l.filter (fun q => !(xv ((T p).2 i) q.1 != 0)))).bind (fun y => cap9 (x ++ y)) = some l' := hr
        cases e2 : sBk (sSt T n p) (T p).2 17 (i + sO ((T p).2 i)) (i + sI ((T p).2 i)) (l.filter (fun q => !(xv ((T p).2 i) q.1 != 0))) with
        | none => rw [e2] at hr; cases hr
        | some y =>
          rw [e2] at hr
          have hr : cap9 (x ++ y) = some l' := hr
          obtain ⟨x1, x2⟩ := blk _ 17 _ _ t1 (by omega) B _ x hB (sub _) (by omega) e1
          obtain ⟨y1, y2⟩ := blk _ 17 _ _ t2 (by omega) B _ y hB (sub _) (by omega) e2
          have x3 := x1.mono (B' := B + max (tsm (gv (Fb (T p).2 b) 16) (T p).2 16 (i + 1) (i + sO ((T p).2 i))) (tsm (gv (Fb (T p).2 b) 16) (T p).2 16 (i + sO ((T p).2 i)) (i + sI ((T p).2 i)))) (by omega)
          have y3 := y1.mono (B' := B + max (tsm (gv (Fb (T p).2 b) 16) (T p).2 16 (i + 1) (i + sO ((T p).2 i))) (tsm (gv (Fb (T p).2 b) 16) (T p).2 16 (i + sO ((T p).2 i)) (i + sI ((T p).2 i)))) (by omega)
          have hl2 := hl.2.2
          have ta := tot_app (a := x) (b := y)
          obtain ⟨g1, g2⟩ := gd_cap (x := x ++ y) (fun q hq => by
            rcases List.mem_append.mp hq with z | z
            · exact ⟨(x3.2.1 q z).1, x3.nn q z, (x3.2.1 q z).2.2⟩
            · exact ⟨(y3.2.1 q z).1, y3.nn q z, (y3.2.1 q z).2.2⟩) (by omega) hr
          exact ⟨g1, by omega⟩
    rw [if_neg c3] at hr
    by_cases c4 : sK ((T p).2 i) = 4
    · rw [if_pos c4] at hr
      rw [Fb_4 c4] at h50 ⊢
      obtain ⟨-, u1, t1⟩ := h4 c4
      have n1 := tsm_nn (v := gv (Fb (T p).2 b) 16) (c := (T p).2) 16 (i + 1) (i + sI ((T p).2 i)) (fun j q1 q2 => hvn j (by omega))
      have eu : (((sU ((T p).2 i)).toNat : Nat) : Int) = sU ((T p).2 i) := by omega
      have := gd_loop n1 (fun B l l' => blk _ 17 _ _ t1 (by omega) B l l') (sU ((T p).2 i)).toNat B l l' hB hl (by rw [eu]; exact h50) hr
      rw [eu] at this
      exact this
    rw [if_neg c4] at hr
    have c5 : sK ((T p).2 i) = 5 := by omega
    rw [Fb_5 c5] at h50 ⊢
    obtain ⟨u1, u2⟩ := h5 c5
    obtain ⟨q, hq⟩ : ∃ q : Nat, q = (sU ((T p).2 i)).toNat := ⟨_, rfl⟩
    have eq : ((q : Nat) : Int) = sU ((T p).2 i) := by omega
    have hqc : q < cnt := by omega
    rw [← hq] at hr
    rw [← eq] at h50 ⊢
    obtain ⟨ho', hx', hb', hb0', hb1'⟩ := h.2 q hqc
    have hvq : ∀ j, j < (T q).1 → 0 ≤ gv (Fb (T q).2 b) 16 j := fun j hj => h.gv_nn hqc 16 j hj
    by_cases ca : l.all (fun y => (sBk (sSt T n q) (T q).2 17 0 (T q).1 [(xv ((T p).2 i) y.1 % 10 * 100000, 1125899906842624)]).isSome) = true
    · rw [if_pos ca] at hr
      have hW : ∀ y ∈ l, okW (b q) (fun v => xw ((sBk (sSt T n q) (T q).2 17 0 (T q).1 [(xv ((T p).2 i) y.1 % 10 * 100000, 1125899906842624)]).getD []) ((v : Nat) : Int)) := fun y hy => by
        have hs := List.all_eq_true.mp ca y hy
        cases e1 : sBk (sSt T n q) (T q).2 17 0 (T q).1 [(xv ((T p).2 i) y.1 % 10 * 100000, 1125899906842624)] with
        | none => rw [e1] at hs; cases hs
        | some R =>
          obtain ⟨g1, -⟩ := gd_blk hvq (fun i hi B l l' => ih q i hqc hi B l l') 16 0 (T q).1 ho'.2.1 (Nat.le_refl _) 17 0 _ R (Int.le_refl _) (gd_one (by omega)) (by omega) e1
          rw [Int.zero_add, ← hb'] at g1
          exact okW_of g1
      obtain ⟨y1, y2⟩ := gd_run (W := fun d v => xw ((sBk (sSt T n q) (T q).2 17 0 (T q).1 [(d * 100000, 1125899906842624)]).getD []) v) hl hB hb0' h50 hW
      obtain ⟨g1, g2⟩ := gd_cap y1 (by have := hl.2.2; omega) hr
      exact ⟨g1, by omega⟩
    · rw [if_neg ca] at hr
      cases hr
end TBS
