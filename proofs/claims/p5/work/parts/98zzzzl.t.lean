/-! the spec of odds does not ask for how deep it is told (own work) -/
theorem sBk_cg {st st' : Nat → List xE → Option (List xE)} {c : Nat → kS} {lv : Int} : ∀ n a e, tl c lv n a e → (∀ i, a ≤ i → i < e → sV (c i) = lv → ∀ l, st i l = st' i l) → ∀ k l, sBk st c k a e l = sBk st' c k a e l := by
  intro n
  induction n with
  | zero =>
    intro a e h _ k l
    have h : a = e := h
    subst h
    cases k with
    | zero => rfl
    | succ k =>
      unfold sBk
      rw [if_neg (Nat.lt_irrefl a), if_neg (Nat.lt_irrefl a)]
  | succ n ih =>
    intro a e h hs k l
    cases k with
    | zero => rfl
    | succ k =>
      unfold sBk
      rcases h with h | ⟨h1, h2, h3, h4, h5, h6⟩
      · subst h
        rw [if_neg (Nat.lt_irrefl a), if_neg (Nat.lt_irrefl a)]
      · rw [if_pos h1, if_pos h1, hs a (Nat.le_refl _) h1 h2 l]
        congr 1
        funext l'
        exact ih (a + sI (c a)) e h6 (fun i q1 q2 q3 => hs i (by omega) q2 q3) k l'
def dep (p : Nat) (lv : Int) : Nat := 6 * p + (4 - lv).toNat
section SF
variable {T : xT} {b : Int → Int} {cnt : Nat}
theorem sSt_f (h : TB T b cnt) : ∀ (n n' p i : Nat), p < cnt → i < (T p).1 → dep p (sV ((T p).2 i)) < n → dep p (sV ((T p).2 i)) < n' → ∀ l, sSt T n p i l = sSt T n' p i l := by
  intro n
  induction n with
  | zero => intro n' p i _ _ hd; omega
  | succ n ih =>
    intro n' p i hp hi hd hd' l
    obtain ⟨n', rfl⟩ : ∃ q, n' = q + 1 := ⟨n' - 1, by omega⟩
    obtain ⟨ho, -⟩ := h.2 p hp
    obtain ⟨⟨hk, hv, h1, h3, h4, h5, -, -⟩, h9⟩ := ho.2.2 i hi
    have blk : ∀ a e, tl (T p).2 (sV ((T p).2 i) + 1) 16 a e → e ≤ (T p).1 → sV ((T p).2 i) ≤ 3 → ∀ k l, sBk (sSt T n p) (T p).2 k a e l = sBk (sSt T n' p) (T p).2 k a e l := fun a e t1 t2 t3 => sBk_cg 16 a e t1 (fun j q1 q2 q3 l => ih n' p j hp (by omega) (by rw [q3]; unfold dep at hd ⊢; omega) (by rw [q3]; unfold dep at hd' ⊢; omega) l)
    unfold sSt
    by_cases c3 : sK ((T p).2 i) = 3
    · obtain ⟨v1, v2, v3, v4, v5⟩ := h3 c3
      have e1 := blk _ _ v4 (by omega) v1
      have e2 := blk _ _ v5 (by omega) v1
      rw [if_neg (by omega), if_neg (by omega), if_neg (by omega), if_pos c3, if_neg (by omega), if_neg (by omega), if_neg (by omega), if_pos c3]
      simp only [e1, e2]
    by_cases c4 : sK ((T p).2 i) = 4
    · obtain ⟨v1, v2, v3⟩ := h4 c4
      have e1 := blk _ _ v3 (by omega) v1
      rw [if_neg (by omega), if_neg (by omega), if_neg (by omega), if_neg c3, if_pos c4, if_neg (by omega), if_neg (by omega), if_neg (by omega), if_neg c3, if_pos c4]
      have e9 : (fun l => sBk (sSt T n p) (T p).2 17 (i + 1) (i + sI ((T p).2 i)) l) = (fun l => sBk (sSt T n' p) (T p).2 17 (i + 1) (i + sI ((T p).2 i)) l) := funext (fun l => e1 17 l)
      show sLp (fun l => sBk (sSt T n p) (T p).2 17 (i + 1) (i + sI ((T p).2 i)) l) _ l = sLp (fun l => sBk (sSt T n' p) (T p).2 17 (i + 1) (i + sI ((T p).2 i)) l) _ l
      rw [e9]
    by_cases c5 : sK ((T p).2 i) = 5
    · obtain ⟨u1, u2⟩ := h5 c5
      obtain ⟨q, hq⟩ : ∃ q : Nat, q = (sU ((T p).2 i)).toNat := ⟨_, rfl⟩
      have hqc : q < cnt := by omega
      have hqp : q < p := by omega
      obtain ⟨ho', -⟩ := h.2 q hqc
      have e1 : ∀ k l, sBk (sSt T n q) (T q).2 k 0 (T q).1 l = sBk (sSt T n' q) (T q).2 k 0 (T q).1 l := sBk_cg 16 0 (T q).1 ho'.2.1 (fun j q1 q2 q3 l => ih n' q j hqc q2 (by rw [q3]; unfold dep at hd ⊢; omega) (by rw [q3]; unfold dep at hd' ⊢; omega) l)
      rw [← hq]
      rw [if_neg (show ¬ sK ((T p).2 i) = 0 by omega), if_neg (show ¬ sK ((T p).2 i) = 1 by omega), if_neg (show ¬ sK ((T p).2 i) = 2 by omega), if_neg c3, if_neg c4, if_neg (show ¬ sK ((T p).2 i) = 0 by omega), if_neg (show ¬ sK ((T p).2 i) = 1 by omega), if_neg (show ¬ sK ((T p).2 i) = 2 by omega), if_neg c3, if_neg c4]
      simp only [e1]
    · rw [if_neg c3, if_neg c4, if_neg c3, if_neg c4]
      by_cases c0 : sK ((T p).2 i) = 0
      · rw [if_pos c0, if_pos c0]
      rw [if_neg c0, if_neg c0]
      by_cases c1 : sK ((T p).2 i) = 1
      · rw [if_pos c1, if_pos c1]
      rw [if_neg c1, if_neg c1, if_pos (by omega), if_pos (by omega)]
theorem sRn_f (h : TB T b cnt) {n n' q : Nat} (hq : q < cnt) (h1 : 6 * q + 4 < n) (h2 : 6 * q + 4 < n') (d : Int) : sRn T n q d = sRn T n' q d := sBk_cg 16 0 (T q).1 (h.2 q hq).1.2.1 (fun j q1 q2 q3 l => sSt_f h n n' q j hq q2 (by rw [q3]; unfold dep; omega) (by rw [q3]; unfold dep; omega) l) 17 _
end SF
