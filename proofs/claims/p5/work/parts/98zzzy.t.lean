/-! crowds in order, as the reference holds them (own work) -/
def mpt : List xE → xE → List xE
  | [], x => [x]
  | y :: l, x => if y.1 < x.1 then y :: mpt l x else if y.1 = x.1 then (y.1, y.2 + x.2) :: l else x :: y :: l
def srt (l : List xE) : Prop := (kys l).Pairwise (fun a b => a < b)
theorem srt.nd {l : List xE} (h : srt l) : (kys l).Nodup := h.imp (fun q => Int.ne_of_lt q)
theorem mpt_sm {l : List xE} {x : xE} {s : Int} : smx (mpt l x) s = smx l s + (if x.1 = s then x.2 else 0) := by
  induction l with
  | nil => simp [mpt, smx]
  | cons y l ih =>
    unfold mpt
    by_cases h : y.1 < x.1
    · rw [if_pos h]; simp only [smx]; rw [ih]; omega
    · rw [if_neg h]
      by_cases k : y.1 = x.1
      · rw [if_pos k]; simp only [smx]
        by_cases q : y.1 = s
        · rw [if_pos q, if_pos q, if_pos (k ▸ q)]; omega
        · rw [if_neg q, if_neg q, if_neg (fun e => q (k.trans e))]; omega
      · rw [if_neg k]; simp only [smx]; omega
theorem mpt_key {l : List xE} {x : xE} {s : Int} : s ∈ kys (mpt l x) ↔ s = x.1 ∨ s ∈ kys l := by
  induction l with
  | nil => simp [mpt]
  | cons y l ih =>
    unfold mpt
    by_cases h : y.1 < x.1
    · rw [if_pos h]
      show s ∈ y.1 :: kys (mpt l x) ↔ s = x.1 ∨ s ∈ y.1 :: kys l
      rw [List.mem_cons, List.mem_cons, ih]
      constructor
      · rintro (e | e | e)
        · exact Or.inr (Or.inl e)
        · exact Or.inl e
        · exact Or.inr (Or.inr e)
      · rintro (e | e | e)
        · exact Or.inr (Or.inl e)
        · exact Or.inl e
        · exact Or.inr (Or.inr e)
    · rw [if_neg h]
      by_cases k : y.1 = x.1
      · rw [if_pos k]
        show s ∈ y.1 :: kys l ↔ s = x.1 ∨ s ∈ y.1 :: kys l
        rw [List.mem_cons]
        constructor
        · exact fun e => Or.inr e
        · rintro (e | e)
          · exact Or.inl (e.trans k.symm)
          · exact e
      · rw [if_neg k]
        exact List.mem_cons
theorem mpt_srt {l : List xE} {x : xE} (h : srt l) : srt (mpt l x) := by
  induction l with
  | nil => exact List.pairwise_singleton _ _
  | cons y l ih =>
    have h' := List.pairwise_cons.mp h
    unfold mpt
    by_cases k : y.1 < x.1
    · rw [if_pos k]
      refine List.pairwise_cons.mpr ⟨fun s hs => ?_, ih h'.2⟩
      rcases mpt_key.mp hs with e | e
      · rw [e]; exact k
      · exact h'.1 s e
    · rw [if_neg k]
      by_cases q : y.1 = x.1
      · rw [if_pos q]; exact h
      · rw [if_neg q]
        refine List.pairwise_cons.mpr ⟨fun s hs => ?_, h⟩
        have hyx : x.1 < y.1 := by omega
        rcases List.mem_cons.mp hs with e | e
        · rw [e]; exact hyx
        · exact Int.lt_trans hyx (h'.1 s e)
theorem mpt_len {l : List xE} {x : xE} (h : srt l) : (mpt l x).length = l.length + (if x.1 ∈ kys l then 0 else 1) := by
  induction l with
  | nil => simp [mpt]
  | cons y l ih =>
    have h' := List.pairwise_cons.mp h
    unfold mpt
    by_cases k : y.1 < x.1
    · rw [if_pos k]
      have e : (x.1 ∈ kys (y :: l)) ↔ x.1 ∈ kys l := by
        show x.1 ∈ y.1 :: kys l ↔ _
        rw [List.mem_cons]
        exact ⟨fun q => q.elim (fun q => absurd q (by omega)) id, Or.inr⟩
      rw [List.length_cons, ih h'.2, List.length_cons]
      by_cases q : x.1 ∈ kys l
      · rw [if_pos q, if_pos (e.mpr q)]
      · rw [if_neg q, if_neg (fun z => q (e.mp z))]
    · rw [if_neg k]
      by_cases q : y.1 = x.1
      · rw [if_pos q, if_pos (show x.1 ∈ kys (y :: l) from by rw [← q]; exact List.mem_cons_self ..)]; rfl
      · rw [if_neg q, if_neg (show ¬ x.1 ∈ kys (y :: l) from fun z => by
          rcases List.mem_cons.mp z with e | e
          · exact q e.symm
          · have h9 : y.1 < x.1 := h'.1 _ e
            omega)]
        rfl
/-- as the reference does it: of more than 300 one more than that -/
def mpc (l : List xE) (x : xE) : List xE := if x.2 = 0 then l else if 300 < l.length ∧ ¬ x.1 ∈ kys l then l else mpt l x
def mcl (l x : List xE) : List xE := x.foldl mpc l
def nz (x : List xE) : List xE := x.filter (fun q => q.2 != 0)
def mJ9 (l l0 : List xE) : Prop := srt l ∧ (kys l0).Nodup ∧ l.length ≤ 301 ∧ (l.Perm l0 ∨ (300 < l.length ∧ 300 < l0.length))
theorem mpt_perm {l l0 : List xE} {x : xE} (h : srt l) (h0 : (kys l0).Nodup) (hp : l.Perm l0) : (mpt l x).Perm (cpt l0 x) := by
  refine crowd_perm (mpt_srt h).nd (cpt_nd h0) (fun s => ?_) (fun s => ?_)
  · have hk := (hp.map (fun q : xE => q.1)).mem_iff (a := s)
    rw [mpt_key, cpt_kys]
    have hx := (hp.map (fun q : xE => q.1)).mem_iff (a := x.1)
    by_cases k : x.1 ∈ kys l0
    · rw [if_pos k]
      constructor
      · rintro (e | e)
        · rw [e]; exact k
        · exact hk.mp e
      · exact fun e => Or.inr (hk.mpr e)
    · rw [if_neg k]
      constructor
      · rintro (e | e)
        · rw [e]; exact List.mem_append_right _ (List.mem_singleton_self _)
        · exact List.mem_append_left _ (hk.mp e)
      · intro e
        rcases List.mem_append.mp e with e | e
        · exact Or.inr (hk.mpr e)
        · exact Or.inl (by simpa using e)
  · rw [mpt_sm, cpt_sm, sm_perm hp]
theorem mJ9.put {l l0 : List xE} {x : xE} (h : mJ9 l l0) (hx : x.2 ≠ 0) : mJ9 (mpc l x) (cpt l0 x) := by
  obtain ⟨h1, h2, h3, h4⟩ := h
  unfold mpc
  rw [if_neg hx]
  by_cases k : 300 < l.length ∧ ¬ x.1 ∈ kys l
  · rw [if_pos k]
    refine ⟨h1, cpt_nd h2, h3, Or.inr ⟨k.1, ?_⟩⟩
    have := (cpt_len (l := l0) (x := x))
    rcases h4 with h4 | h4
    · have e : l0.length = l.length := h4.length_eq.symm
      omega
    · omega
  · rw [if_neg k]
    have e1 := mpt_len (x := x) h1
    have e2 := (cpt_len (l := l0) (x := x))
    refine ⟨mpt_srt h1, cpt_nd h2, ?_, ?_⟩
    · by_cases q : x.1 ∈ kys l
      · rw [if_pos q] at e1; omega
      · have : ¬ 300 < l.length := fun z => k ⟨z, q⟩
        rw [if_neg q] at e1; omega
    · rcases h4 with h4 | h4
      · exact Or.inl (mpt_perm h1 h2 h4)
      · exact Or.inr (by constructor <;> omega)
theorem mJ9.all : ∀ {x : List xE} {l l0 : List xE}, mJ9 l l0 → mJ9 (mcl l x) (col l0 (nz x))
  | [], _, _, h => h
  | y :: x, l, l0, h => by
    by_cases k : y.2 = 0
    · have e1 : mcl l (y :: x) = mcl l x := by
        show mcl (mpc l y) x = _
        have : mpc l y = l := if_pos k
        rw [this]
      have e2 : nz (y :: x) = nz x := by simp [nz, k]
      rw [e1, e2]
      exact mJ9.all h
    · have e2 : nz (y :: x) = y :: nz x := by simp [nz, k]
      rw [e2]
      exact mJ9.all (h.put k)
theorem mJ9.nil : mJ9 [] [] := ⟨List.Pairwise.nil, List.nodup_nil, by decide, Or.inl List.Perm.nil⟩
/-- what the spec has: all, if they are not too many -/
def cap9 (x : List xE) : Option (List xE) := if (col [] (nz x)).length ≤ 300 then some (col [] (nz x)) else none
/-- the reference's odds stand for an answer of the spec -/
def oR (l : List xE) : Option (List xE) → Prop
  | some l0 => srt l ∧ l.Perm l0 ∧ l.length ≤ 300
  | none => 300 < l.length ∧ l.length ≤ 301
theorem oR_cap {x : List xE} : oR (mcl [] x) (cap9 x) := by
  have h := mJ9.nil.all (x := x)
  obtain ⟨h1, h2, h3, h4⟩ := h
  unfold cap9
  by_cases k : (col [] (nz x)).length ≤ 300
  · rw [if_pos k]
    rcases h4 with h4 | h4
    · exact ⟨h1, h4, by rw [h4.length_eq]; exact k⟩
    · omega
  · rw [if_neg k]
    rcases h4 with h4 | h4
    · exact ⟨by rw [h4.length_eq]; omega, h3⟩
    · exact ⟨h4.1, h3⟩
theorem nz_perm {x y : List xE} (h : x.Perm y) : (nz x).Perm (nz y) := h.filter _
theorem col_perm {x y : List xE} (h : x.Perm y) : (col [] x).Perm (col [] y) := by
  refine crowd_perm (col_nd List.nodup_nil) (col_nd List.nodup_nil) (fun s => ?_) (fun s => ?_)
  · rw [col_key, col_key]
    have := (h.map (fun q : xE => q.1)).mem_iff (a := s)
    simp only [kys] at this ⊢
    rw [this]
  · rw [col_sm, col_sm, sm_perm h]
def oP : Option (List xE) → Option (List xE) → Prop
  | some a, some b => a.Perm b
  | none, none => True
  | _, _ => False
theorem cap_perm {x y : List xE} (h : x.Perm y) : oP (cap9 x) (cap9 y) := by
  have hp := col_perm (nz_perm h)
  unfold cap9
  rw [hp.length_eq]
  by_cases k : (col [] (nz y)).length ≤ 300
  · rw [if_pos k, if_pos k]; exact hp
  · rw [if_neg k, if_neg k]; trivial
