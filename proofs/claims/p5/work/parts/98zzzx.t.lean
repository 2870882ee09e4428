/-! crowds as lists: states with weights (own work) -/
abbrev xE : Type := Int × Int
/-- the weight comes to its state, or behind all -/
def cpt : List xE → xE → List xE
  | [], x => [x]
  | y :: l, x => if y.1 = x.1 then (y.1, y.2 + x.2) :: l else y :: cpt l x
def smx : List xE → Int → Int
  | [], _ => 0
  | y :: l, s => (if y.1 = s then y.2 else 0) + smx l s
def tot : List xE → Int
  | [] => 0
  | y :: l => y.2 + tot l
abbrev kys (l : List xE) : List Int := l.map (fun q => q.1)
def col (l x : List xE) : List xE := x.foldl cpt l
theorem cpt_kys {l : List xE} {x : xE} : kys (cpt l x) = if x.1 ∈ kys l then kys l else kys l ++ [x.1] := by
  induction l with
  | nil => simp [cpt]
  | cons y l ih =>
    unfold cpt
    by_cases h : y.1 = x.1
    · rw [if_pos h]; simp [h]
    · rw [if_neg h]
      have h' : ¬ x.1 = y.1 := fun e => h e.symm
      show y.1 :: kys (cpt l x) = _
      rw [ih]
      by_cases k : x.1 ∈ kys l
      · rw [if_pos k, if_pos (show x.1 ∈ kys (y :: l) from List.mem_cons_of_mem _ k)]
        rfl
      · rw [if_neg k, if_neg (show ¬ x.1 ∈ kys (y :: l) from fun q => by
          rcases List.mem_cons.mp q with q | q
          · exact h' q
          · exact k q)]
        rfl
theorem cpt_sm {l : List xE} {x : xE} {s : Int} : smx (cpt l x) s = smx l s + (if x.1 = s then x.2 else 0) := by
  induction l with
  | nil => simp [cpt, smx]
  | cons y l ih =>
    unfold cpt
    by_cases h : y.1 = x.1
    · rw [if_pos h]
      simp only [smx]
      by_cases k : y.1 = s
      · rw [if_pos k, if_pos k, if_pos (h ▸ k)]; omega
      · rw [if_neg k, if_neg k, if_neg (fun q => k (h.trans q))]; omega
    · rw [if_neg h]
      simp only [smx]
      rw [ih]; omega
theorem cpt_tot {l : List xE} {x : xE} : tot (cpt l x) = tot l + x.2 := by
  induction l with
  | nil => simp [cpt, tot]
  | cons y l ih =>
    unfold cpt
    by_cases h : y.1 = x.1
    · rw [if_pos h]; simp only [tot]; omega
    · rw [if_neg h]; simp only [tot]; rw [ih]; omega
theorem cpt_nd {l : List xE} {x : xE} (h : (kys l).Nodup) : (kys (cpt l x)).Nodup := by
  rw [cpt_kys]
  by_cases k : x.1 ∈ kys l
  · rw [if_pos k]; exact h
  · rw [if_neg k]
    exact List.nodup_append.mpr ⟨h, by simp, fun a ha b hb e => by
      have : b = x.1 := by simpa using hb
      rw [e, this] at ha
      exact k ha⟩
theorem cpt_len {l : List xE} {x : xE} : (cpt l x).length = l.length + (if x.1 ∈ kys l then 0 else 1) := by
  have e : (cpt l x).length = (kys (cpt l x)).length := by simp
  rw [e, cpt_kys]
  by_cases k : x.1 ∈ kys l
  · rw [if_pos k, if_pos k]; simp
  · rw [if_neg k, if_neg k]; simp
theorem cpt_mem {l : List xE} {x : xE} {s w : Int} (h : (s, w) ∈ cpt l x) : (s, w) ∈ l ∨ (s = x.1 ∧ (w = x.2 ∨ ∃ w0, (s, w0) ∈ l ∧ w = w0 + x.2)) := by
  induction l with
  | nil =>
    have : (s, w) = x := by simpa [cpt] using h
    exact Or.inr ⟨by rw [← this], Or.inl (by rw [← this])⟩
  | cons y l ih =>
    unfold cpt at h
    by_cases k : y.1 = x.1
    · rw [if_pos k] at h
      rcases List.mem_cons.mp h with e | e
      · have e1 : s = y.1 := congrArg Prod.fst e
        have e2 : w = y.2 + x.2 := congrArg Prod.snd e
        exact Or.inr ⟨e1.trans k, Or.inr ⟨y.2, by rw [e1]; exact List.mem_cons_self .., e2⟩⟩
      · exact Or.inl (List.mem_cons_of_mem _ e)
    · rw [if_neg k] at h
      rcases List.mem_cons.mp h with e | e
      · exact Or.inl (by rw [e]; exact List.mem_cons_self ..)
      · rcases ih e with q | ⟨q1, q2 | ⟨w0, q2, q3⟩⟩
        · exact Or.inl (List.mem_cons_of_mem _ q)
        · exact Or.inr ⟨q1, Or.inl q2⟩
        · exact Or.inr ⟨q1, Or.inr ⟨w0, List.mem_cons_of_mem _ q2, q3⟩⟩
/-- what adds up -/
theorem cpt_all {P : Int → Int → Prop} (hP : ∀ s a b, P s a → P s b → P s (a + b)) {l : List xE} {x : xE} (h : ∀ q ∈ l, P q.1 q.2) (hx : P x.1 x.2) : ∀ q ∈ cpt l x, P q.1 q.2 := fun q hq => by
  rcases cpt_mem (s := q.1) (w := q.2) hq with e | ⟨e1, e2 | ⟨w0, e2, e3⟩⟩
  · exact h _ e
  · rw [e1, e2]; exact hx
  · rw [e3]
    refine hP _ _ _ (h _ e2) ?_
    rw [e1]; exact hx
theorem col_all {P : Int → Int → Prop} (hP : ∀ s a b, P s a → P s b → P s (a + b)) : ∀ {x l : List xE}, (∀ q ∈ l, P q.1 q.2) → (∀ q ∈ x, P q.1 q.2) → ∀ q ∈ col l x, P q.1 q.2
  | [], l, h, _ => h
  | y :: x, l, h, hx => col_all (l := cpt l y) hP (cpt_all hP h (hx y (List.mem_cons_self ..))) (fun q hq => hx q (List.mem_cons_of_mem _ hq))
theorem col_sm {s : Int} : ∀ {x l : List xE}, smx (col l x) s = smx l s + smx x s
  | [], l => by simp [col, smx]
  | y :: x, l => by
    show smx (col (cpt l y) x) s = _
    rw [col_sm, cpt_sm]
    simp only [smx]; omega
theorem col_tot : ∀ {x l : List xE}, tot (col l x) = tot l + tot x
  | [], l => by simp [col, tot]
  | y :: x, l => by
    show tot (col (cpt l y) x) = _
    rw [col_tot, cpt_tot]
    simp only [tot]; omega
theorem col_nd : ∀ {x l : List xE}, (kys l).Nodup → (kys (col l x)).Nodup
  | [], _, h => h
  | y :: x, l, h => col_nd (l := cpt l y) (cpt_nd h)
theorem col_len : ∀ {x l : List xE}, l.length ≤ (col l x).length
  | [], _ => Nat.le_refl _
  | y :: x, l => Nat.le_trans (by rw [cpt_len]; omega) (col_len (x := x) (l := cpt l y))
theorem col_key {s : Int} : ∀ {x l : List xE}, s ∈ kys (col l x) ↔ s ∈ kys l ∨ s ∈ kys x
  | [], l => by simp [col]
  | y :: x, l => by
    show s ∈ kys (col (cpt l y) x) ↔ _
    rw [col_key, cpt_kys]
    by_cases k : y.1 ∈ kys l
    · rw [if_pos k]
      constructor
      · rintro (h | h)
        · exact Or.inl h
        · exact Or.inr (List.mem_cons_of_mem _ h)
      · rintro (h | h)
        · exact Or.inl h
        · rcases List.mem_cons.mp h with e | e
          · exact Or.inl (e ▸ k)
          · exact Or.inr e
    · rw [if_neg k]
      constructor
      · rintro (h | h)
        · rcases List.mem_append.mp h with e | e
          · exact Or.inl e
          · exact Or.inr (by have : s = y.1 := by simpa using e
                             rw [this]; exact List.mem_cons_self ..)
        · exact Or.inr (List.mem_cons_of_mem _ h)
      · rintro (h | h)
        · exact Or.inl (List.mem_append_left _ h)
        · rcases List.mem_cons.mp h with e | e
          · exact Or.inl (List.mem_append_right _ (by rw [e]; exact List.mem_singleton_self _))
          · exact Or.inr e
theorem col_app {l x y : List xE} : col l (x ++ y) = col (col l x) y := List.foldl_append
/-- of like ones only one: nothing is added -/
theorem cpt_new {l : List xE} {x : xE} (h : x.1 ∉ kys l) : cpt l x = l ++ [x] := by
  induction l with
  | nil => rfl
  | cons y l ih =>
    unfold cpt
    rw [if_neg (fun e => h (by rw [← e]; exact List.mem_cons_self ..)), ih (fun q => h (List.mem_cons_of_mem _ q))]
    rfl
theorem col_new : ∀ {x l : List xE}, (kys (l ++ x)).Nodup → col l x = l ++ x
  | [], l, _ => by simp [col]
  | y :: x, l, h => by
    show col (cpt l y) x = _
    have e : l ++ y :: x = (l ++ [y]) ++ x := by simp
    have hn : y.1 ∉ kys l := fun q => by
      rw [kys, List.map_append] at h
      have := (List.nodup_append.mp h).2.2 y.1 q y.1 (by simp)
      exact this rfl
    rw [cpt_new hn, col_new (by rw [← e]; exact h), ← e]
theorem sm_out {l : List xE} {s : Int} (h : s ∉ kys l) : smx l s = 0 := by
  induction l with
  | nil => rfl
  | cons y l ih =>
    simp only [smx]
    rw [if_neg (fun e => h (by rw [← e]; exact List.mem_cons_self ..)), ih (fun q => h (List.mem_cons_of_mem _ q))]
    rfl
theorem sm_in {l : List xE} {s w : Int} (hn : (kys l).Nodup) (h : (s, w) ∈ l) : smx l s = w := by
  induction l with
  | nil => cases h
  | cons y l ih =>
    simp only [smx]
    have hn' := List.nodup_cons.mp hn
    rcases List.mem_cons.mp h with e | e
    · rw [← e]
      rw [if_pos rfl, sm_out (by rw [← e] at hn'; exact hn'.1)]
      omega
    · rw [if_neg (fun q => hn'.1 (by show y.1 ∈ _; rw [q]; exact List.mem_map.mpr ⟨_, e, rfl⟩)), ih hn'.2 e]
      omega
/-- two crowds with the same sums are rearranged -/
theorem crowd_perm : ∀ {l l' : List xE}, (kys l).Nodup → (kys l').Nodup → (∀ s, s ∈ kys l ↔ s ∈ kys l') → (∀ s, smx l s = smx l' s) → l.Perm l'
  | [], [], _, _, _, _ => List.Perm.nil
  | [], y :: l', _, _, h, _ => by
    have := (h y.1).mpr (List.mem_cons_self ..)
    cases this
  | y :: l, l', hn, hn', hk, hs => by
    have hy : y.1 ∈ kys l' := (hk y.1).mp (List.mem_cons_self ..)
    obtain ⟨z, hz, ez⟩ := List.mem_map.mp hy
    have hn2 := List.nodup_cons.mp hn
    have e2 : y.2 = z.2 := by
      have h1 : smx (y :: l) y.1 = y.2 := sm_in hn (List.mem_cons_self ..)
      have h2 : smx l' y.1 = z.2 := sm_in hn' (by rw [← ez]; exact hz)
      rw [← h1, ← h2]; exact hs _
    have ez2 : z = y := Prod.ext ez e2.symm
    subst ez2
    obtain ⟨a, b, rfl⟩ := List.append_of_mem hz
    have hp : (a ++ z :: b).Perm (z :: (a ++ b)) := List.perm_middle
    have hk' : (kys (a ++ z :: b)).Perm (kys (z :: (a ++ b))) := hp.map _
    have hn3 := List.nodup_cons.mp (hk'.nodup_iff.mp hn')
    refine (List.Perm.cons z (crowd_perm hn2.2 hn3.2 (fun s => ?_) (fun s => ?_))).trans hp.symm
    · by_cases q : s = z.1
      · subst q
        exact ⟨fun h => absurd h hn2.1, fun h => absurd h hn3.1⟩
      · have h1 := hk s
        rw [hk'.mem_iff] at h1
        constructor
        · intro h
          rcases List.mem_cons.mp (h1.mp (List.mem_cons_of_mem _ h)) with e | e
          · exact absurd e q
          · exact e
        · intro h
          rcases List.mem_cons.mp (h1.mpr (List.mem_cons_of_mem _ h)) with e | e
          · exact absurd e q
          · exact e
    · have h1 := hs s
      have h2 : smx (a ++ z :: b) s = smx (z :: (a ++ b)) s := by
        have aux : ∀ (u v : List xE), smx (u ++ v) s = smx u s + smx v s := fun u v => by
          induction u with
          | nil => simp [smx]
          | cons q u ih => simp only [List.cons_append, smx]; rw [ih]; omega
        rw [aux]; simp only [smx]; rw [aux]; omega
      rw [h2] at h1
      simp only [smx] at h1
      omega
theorem sm_perm {l l' : List xE} (h : l.Perm l') (s : Int) : smx l s = smx l' s := by
  induction h with
  | nil => rfl
  | cons x _ ih => simp only [smx]; rw [ih]
  | swap x y l => simp only [smx]; omega
  | trans _ _ h1 h2 => rw [h1, h2]
theorem tot_perm {l l' : List xE} (h : l.Perm l') : tot l = tot l' := by
  induction h with
  | nil => rfl
  | cons x _ ih => simp only [tot]; rw [ih]
  | swap x y l => simp only [tot]; omega
  | trans _ _ h1 h2 => rw [h1, h2]
