/-! wordOf and isSpelt (own work, by program) -/
def jspelt (i : Nat) (f : Nat → Int32) (s a n : Int32) : Prop := nI (jlen.getD i 0) = a - s ∧ ¬ s < 0 ∧ ¬ n < a ∧ ∀ j, j < jlen.getD i 0 → f (s + nI j).toNatClampNeg = (jbyt.getD i []).getD j 0
theorem c_Read_wordOf_0 (l : Launch) (D : va_G) (B : Nat) (H0 : Heap) (w : jW) : jMet l D B H0 y_Read_wordOf b_Read_wordOf 1 (some (.object "java/lang/String")) 0 0 0 0 [.int (nI 0)] w (jsame w (some (.ref (jsK D 0)))) := by
  refine j_met (by decide) (Nat.le_of_ble_eq_true rfl) (fun g C Rm Y E => ?_)
  show JJ g w 0 [(0, .int (nI 0))] []
  refine j_blk (b := [(0, .iload_n 0, .null)]) 1 [(0, .int (nI 0))] [.int (nI 0)] C (sblk_of (by decide +kernel)) rfl ?_
  refine j_tabIn (dflt := 50) (lo := 0) (hi := 4) (offs := #[35, 38, 41, 44, 47]) (len := 35) (off := 35) (tgt := 36) C (by decide +kernel) (by decide) (by decide) (by decide) (by decide) ?_
  refine j_ldcS (idx := 183) (i := 0) (tx := "draw") C rfl (by decide +kernel) ?_
  exact j_aret C Rm E (Or.inr ⟨_, rfl⟩) (by decide +kernel) ⟨rfl, rfl⟩ (Nat.le_refl _) (Nat.le_refl _)
theorem c_Read_wordOf_1 (l : Launch) (D : va_G) (B : Nat) (H0 : Heap) (w : jW) : jMet l D B H0 y_Read_wordOf b_Read_wordOf 1 (some (.object "java/lang/String")) 0 0 0 0 [.int (nI 1)] w (jsame w (some (.ref (jsK D 1)))) := by
  refine j_met (by decide) (Nat.le_of_ble_eq_true rfl) (fun g C Rm Y E => ?_)
  show JJ g w 0 [(0, .int (nI 1))] []
  refine j_blk (b := [(0, .iload_n 0, .null)]) 1 [(0, .int (nI 1))] [.int (nI 1)] C (sblk_of (by decide +kernel)) rfl ?_
  refine j_tabIn (dflt := 50) (lo := 0) (hi := 4) (offs := #[35, 38, 41, 44, 47]) (len := 35) (off := 38) (tgt := 39) C (by decide +kernel) (by decide) (by decide) (by decide) (by decide) ?_
  refine j_ldcS (idx := 185) (i := 1) (tx := "let") C rfl (by decide +kernel) ?_
  exact j_aret C Rm E (Or.inr ⟨_, rfl⟩) (by decide +kernel) ⟨rfl, rfl⟩ (Nat.le_refl _) (Nat.le_refl _)
theorem c_Read_wordOf_2 (l : Launch) (D : va_G) (B : Nat) (H0 : Heap) (w : jW) : jMet l D B H0 y_Read_wordOf b_Read_wordOf 1 (some (.object "java/lang/String")) 0 0 0 0 [.int (nI 2)] w (jsame w (some (.ref (jsK D 2)))) := by
  refine j_met (by decide) (Nat.le_of_ble_eq_true rfl) (fun g C Rm Y E => ?_)
  show JJ g w 0 [(0, .int (nI 2))] []
  refine j_blk (b := [(0, .iload_n 0, .null)]) 1 [(0, .int (nI 2))] [.int (nI 2)] C (sblk_of (by decide +kernel)) rfl ?_
  refine j_tabIn (dflt := 50) (lo := 0) (hi := 4) (offs := #[35, 38, 41, 44, 47]) (len := 35) (off := 41) (tgt := 42) C (by decide +kernel) (by decide) (by decide) (by decide) (by decide) ?_
  refine j_ldcS (idx := 187) (i := 2) (tx := "see") C rfl (by decide +kernel) ?_
  exact j_aret C Rm E (Or.inr ⟨_, rfl⟩) (by decide +kernel) ⟨rfl, rfl⟩ (Nat.le_refl _) (Nat.le_refl _)
theorem c_Read_wordOf_3 (l : Launch) (D : va_G) (B : Nat) (H0 : Heap) (w : jW) : jMet l D B H0 y_Read_wordOf b_Read_wordOf 1 (some (.object "java/lang/String")) 0 0 0 0 [.int (nI 3)] w (jsame w (some (.ref (jsK D 3)))) := by
  refine j_met (by decide) (Nat.le_of_ble_eq_true rfl) (fun g C Rm Y E => ?_)
  show JJ g w 0 [(0, .int (nI 3))] []
  refine j_blk (b := [(0, .iload_n 0, .null)]) 1 [(0, .int (nI 3))] [.int (nI 3)] C (sblk_of (by decide +kernel)) rfl ?_
  refine j_tabIn (dflt := 50) (lo := 0) (hi := 4) (offs := #[35, 38, 41, 44, 47]) (len := 35) (off := 44) (tgt := 45) C (by decide +kernel) (by decide) (by decide) (by decide) (by decide) ?_
  refine j_ldcS (idx := 189) (i := 3) (tx := "if") C rfl (by decide +kernel) ?_
  exact j_aret C Rm E (Or.inr ⟨_, rfl⟩) (by decide +kernel) ⟨rfl, rfl⟩ (Nat.le_refl _) (Nat.le_refl _)
theorem c_Read_wordOf_4 (l : Launch) (D : va_G) (B : Nat) (H0 : Heap) (w : jW) : jMet l D B H0 y_Read_wordOf b_Read_wordOf 1 (some (.object "java/lang/String")) 0 0 0 0 [.int (nI 4)] w (jsame w (some (.ref (jsK D 4)))) := by
  refine j_met (by decide) (Nat.le_of_ble_eq_true rfl) (fun g C Rm Y E => ?_)
  show JJ g w 0 [(0, .int (nI 4))] []
  refine j_blk (b := [(0, .iload_n 0, .null)]) 1 [(0, .int (nI 4))] [.int (nI 4)] C (sblk_of (by decide +kernel)) rfl ?_
  refine j_tabIn (dflt := 50) (lo := 0) (hi := 4) (offs := #[35, 38, 41, 44, 47]) (len := 35) (off := 47) (tgt := 48) C (by decide +kernel) (by decide) (by decide) (by decide) (by decide) ?_
  refine j_ldcS (idx := 191) (i := 4) (tx := "loop") C rfl (by decide +kernel) ?_
  exact j_aret C Rm E (Or.inr ⟨_, rfl⟩) (by decide +kernel) ⟨rfl, rfl⟩ (Nat.le_refl _) (Nat.le_refl _)
theorem c_Read_wordOf_5 (l : Launch) (D : va_G) (B : Nat) (H0 : Heap) (w : jW) : jMet l D B H0 y_Read_wordOf b_Read_wordOf 1 (some (.object "java/lang/String")) 0 0 0 0 [.int (nI 5)] w (jsame w (some (.ref (jsK D 5)))) := by
  refine j_met (by decide) (Nat.le_of_ble_eq_true rfl) (fun g C Rm Y E => ?_)
  show JJ g w 0 [(0, .int (nI 5))] []
  refine j_blk (b := [(0, .iload_n 0, .null)]) 1 [(0, .int (nI 5))] [.int (nI 5)] C (sblk_of (by decide +kernel)) rfl ?_
  refine j_tabOut (dflt := 50) (lo := 0) (hi := 4) (offs := #[35, 38, 41, 44, 47]) (len := 35) (tgt := 51) C (by decide +kernel) (Or.inr (by decide)) (by decide) ?_
  refine j_ldcS (idx := 193) (i := 5) (tx := "run") C rfl (by decide +kernel) ?_
  exact j_aret C Rm E (Or.inr ⟨_, rfl⟩) (by decide +kernel) ⟨rfl, rfl⟩ (Nat.le_refl _) (Nat.le_refl _)
theorem c_Read_wordOf (l : Launch) (D : va_G) (B : Nat) (H0 : Heap) (w : jW) (k : Nat) (hk : k < 6) : jMet l D B H0 y_Read_wordOf b_Read_wordOf 1 (some (.object "java/lang/String")) 0 0 0 0 [.int (nI k)] w (jsame w (some (.ref (jsK D k)))) := by
  match k, hk with
  | 0, _ => exact c_Read_wordOf_0 l D B H0 w
  | 1, _ => exact c_Read_wordOf_1 l D B H0 w
  | 2, _ => exact c_Read_wordOf_2 l D B H0 w
  | 3, _ => exact c_Read_wordOf_3 l D B H0 w
  | 4, _ => exact c_Read_wordOf_4 l D B H0 w
  | 5, _ => exact c_Read_wordOf_5 l D B H0 w
  | k + 6, h => omega
theorem jlen_lt : ∀ i, i < 13 → jlen.getD i 0 < 20 := by decide +kernel
theorem c_Read_isSpelt (l : Launch) (D : va_G) (B : Nat) (H0 : Heap) (w : jW) (x t i : Nat) (V : Nat → Value) (f : Nat → Int32) (s a n : Int32) (hi : i < 13) (hx : w.1 x = some (.inr (3, V))) (v0 : V 0 = .ref t) (v6 : V 6 = .int s) (v4 : V 4 = .int a) (v1 : V 1 = .int n) (ht : w.1 t = some (aI D 120 f)) (hs : 0 ≤ s.toInt ∧ s.toInt ≤ 120) (ha : 0 ≤ a.toInt ∧ a.toInt ≤ 120) (hn : n.toInt ≤ 120) : jMet l D B H0 y_Read_isSpelt b_Read_isSpelt 4 (some .boolean) 4 160 0 0 [.ref x, .ref (jsK D i)] w (fun v w9 => ((v = some (.int 1) ∧ jspelt i f s a n) ∨ (v = some (.int 0) ∧ ¬ jspelt i f s a n)) ∧ w9 = w) := by
  have hlen : jlen.getD i 0 < 20 := jlen_lt i hi
  have z0 : (0 : Int32).toInt = 0 := rfl
  refine j_met (by decide) (Nat.le_of_ble_eq_true rfl) (fun g C Rm Y E => ?_)
  have loop : ∀ (m k : Nat) (so : Int32), k ≤ jlen.getD i 0 → jlen.getD i 0 < k + m → ((so = 0 ∧ ¬ jspelt i f s a n) ∨ (so = 1 ∧ nI (jlen.getD i 0) = a - s ∧ ¬ s < 0 ∧ ¬ n < a ∧ ∀ j, j < k → f (s + nI j).toNatClampNeg = (jbyt.getD i []).getD j 0)) → JJ g w 42 [(3, .int (nI k)), (2, .int so), (0, .ref x), (1, .ref (jsK D i))] [] := by
    intro m
    induction m with
    | zero => intro k so h1 h2; omega
    | succ m ih =>
      intro k so h1 h2 hinv
      have out : ((so = 0 ∧ ¬ jspelt i f s a n) ∨ (so = 1 ∧ jspelt i f s a n)) → JJ g w 85 [(3, .int (nI k)), (2, .int so), (0, .ref x), (1, .ref (jsK D i))] [] := fun h => by
        refine j_blk (b := [(85, .iload_n 2, .null)]) 86 [(3, .int (nI k)), (2, .int so), (0, .ref x), (1, .ref (jsK D i))] [.int so] C (sblk_of (by decide +kernel)) rfl ?_
        rcases h with ⟨rfl, h⟩ | ⟨rfl, h⟩
        · exact j_zret C Rm E rfl (by decide +kernel) ⟨Or.inr ⟨rfl, h⟩, rfl⟩ (Nat.le_refl _) (Nat.le_refl _)
        · exact j_zret C Rm E rfl (by decide +kernel) ⟨Or.inl ⟨rfl, h⟩, rfl⟩ (Nat.le_refl _) (Nat.le_refl _)
      have k3 : (nI k).toInt = (k : Int) := nI_toInt (by omega)
      have l3 : (nI (jlen.getD i 0)).toInt = ((jlen.getD i 0 : Nat) : Int) := nI_toInt (by omega)
      refine j_blk (b := [(42, .iload_n 3, .null), (43, .aload_n 1, .null)]) 44 [(3, .int (nI k)), (2, .int so), (0, .ref x), (1, .ref (jsK D i))] [.ref (jsK D i), .int (nI k)] C (sblk_of (by decide +kernel)) rfl ?_
      refine j_callVK (idx := 195) C Rm Y [] [.int (nI k)] hi rfl (c_Str_length l D B H0 w i hi) cl_Read_195 (by decide +kernel) rfl rfl (Nat.le_of_ble_eq_true rfl) ⟨by decide, by decide⟩ ⟨Nat.le_refl _, Nat.le_refl _⟩ (fun v w' hp => ?_)
      obtain ⟨rfl, rfl⟩ := hp
      show JJ g w' 47 [(3, .int (nI k)), (2, .int so), (0, .ref x), (1, .ref (jsK D i))] [.int (nI (jlen.getD i 0)), .int (nI k)]
      refine j_icmp_ge (off := 38) (tgt := 85) C (by decide +kernel) (by decide) (fun h => ?_) (fun h => ?_)
      · have h9 := Int32.le_iff_toInt_le.mp h
        rw [k3, l3] at h9
        have ek : k = jlen.getD i 0 := by omega
        refine out ?_
        rcases hinv with h | ⟨h0, h3, h4, h5, h6⟩
        · exact Or.inl h
        · exact Or.inr ⟨h0, h3, h4, h5, by rw [← ek]; exact h6⟩
      · have hkl : k < jlen.getD i 0 := by
          apply Nat.lt_of_not_le
          intro h9
          exact h (Int32.le_iff_toInt_le.mpr (by rw [k3, l3]; omega))
        refine j_blk (b := [(50, .iload_n 2, .null)]) 51 [(3, .int (nI k)), (2, .int so), (0, .ref x), (1, .ref (jsK D i))] [.int so] C (sblk_of (by decide +kernel)) rfl ?_
        refine j_if_eq (off := 34) (tgt := 85) C (by decide +kernel) (by decide) (fun h => ?_) (fun h => ?_)
        · refine out ?_
          rcases hinv with h9 | ⟨h0, -⟩
          · exact Or.inl h9
          · rw [h] at h0; exact absurd h0 (by decide)
        · rcases hinv with h9 | ⟨h0, h3, h4, h5, h6⟩
          · exact absurd h9.1 h
          have e1 : (a - s).toInt = a.toInt - s.toInt := by rw [Int32.toInt_sub]; exact Int.bmod_eq_of_le (by omega) (by omega)
          have e2 : ((jlen.getD i 0 : Nat) : Int) = a.toInt - s.toInt := by rw [← l3, h3, e1]
          have e3 : (s + nI k).toInt = s.toInt + k := by rw [Int32.toInt_add, k3]; exact Int.bmod_eq_of_le (by omega) (by omega)
          refine j_blk (b := [(54, .aload_n 0, .null)]) 55 [(3, .int (nI k)), (2, .int so), (0, .ref x), (1, .ref (jsK D i))] [.ref x] C (sblk_of (by decide +kernel)) rfl ?_
          refine j_get (idx := 9) C (by decide +kernel) fg_Read_9 hx v0 ?_
          refine j_blk (b := [(58, .aload_n 0, .null)]) 59 [(3, .int (nI k)), (2, .int so), (0, .ref x), (1, .ref (jsK D i))] [.ref x, .ref t] C (sblk_of (by decide +kernel)) rfl ?_
          refine j_get (idx := 53) C (by decide +kernel) fg_Read_53 hx v6 ?_
          refine j_blk (b := [(62, .iload_n 3, .null), (63, .iadd, .null)]) 64 [(3, .int (nI k)), (2, .int so), (0, .ref x), (1, .ref (jsK D i))] [.int (s + nI k), .ref t] C (sblk_of (by decide +kernel)) rfl ?_
          refine j_iald C (by decide +kernel) ht (jin (by omega) (by omega)) ?_
          refine j_blk (b := [(65, .aload_n 1, .null), (66, .iload_n 3, .null)]) 67 [(3, .int (nI k)), (2, .int so), (0, .ref x), (1, .ref (jsK D i))] [.int (nI k), .ref (jsK D i), .int (f (s + nI k).toNatClampNeg)] C (sblk_of (by decide +kernel)) rfl ?_
          refine j_callVK (idx := 200) C Rm Y [.int (nI k)] [.int (f (s + nI k).toNatClampNeg)] hi rfl (c_Str_charAt l D B H0 w' i k hi hkl) cl_Read_200 (by decide +kernel) rfl rfl (by show 1 + 0 ≤ 8; decide) ⟨by decide, by decide⟩ ⟨Nat.le_refl _, Nat.le_refl _⟩ (fun v2 w2 hp => ?_)
          obtain ⟨rfl, rfl⟩ := hp
          show JJ g w2 70 [(3, .int (nI k)), (2, .int so), (0, .ref x), (1, .ref (jsK D i))] [.int ((jbyt.getD i []).getD k 0), .int (f (s + nI k).toNatClampNeg)]
          have fin : ∀ so2 : Int32, ((so2 = 0 ∧ ¬ jspelt i f s a n) ∨ (so2 = 1 ∧ nI (jlen.getD i 0) = a - s ∧ ¬ s < 0 ∧ ¬ n < a ∧ ∀ j, j < k + 1 → f (s + nI j).toNatClampNeg = (jbyt.getD i []).getD j 0)) → JJ g w2 78 [(3, .int (nI k)), (2, .int so), (0, .ref x), (1, .ref (jsK D i))] [.int so2] := fun so2 h9 => by
            refine j_blk (b := [(78, .istore_n 2, .null), (79, .iinc 3 1, .int 1), (82, .goto (-40), .retAddr 42)]) 42 [(3, .int (nI k + 1)), (2, .int so2), (0, .ref x), (1, .ref (jsK D i))] [] C (sblk_of (by decide +kernel)) rfl ?_
            rw [nI_1]
            exact ih (k + 1) so2 hkl (by omega) h9
          refine j_icmp_ne (off := 7) (tgt := 77) C (by decide +kernel) (by decide) (fun h => ?_) (fun h => ?_)
          · refine j_blk (b := [(77, .iconst 0, .int 0)]) 78 [(3, .int (nI k)), (2, .int so), (0, .ref x), (1, .ref (jsK D i))] [.int 0] C (sblk_of (by decide +kernel)) rfl ?_
            exact fin 0 (Or.inl ⟨rfl, fun hsp => h (hsp.2.2.2 k hkl)⟩)
          · refine j_blk (b := [(73, .iconst 1, .int 1), (74, .goto 4, .retAddr 78)]) 78 [(3, .int (nI k)), (2, .int so), (0, .ref x), (1, .ref (jsK D i))] [.int 1] C (sblk_of (by decide +kernel)) rfl ?_
            refine fin 1 (Or.inr ⟨rfl, h3, h4, h5, fun j hj => ?_⟩)
            by_cases e : j = k
            · rw [e]; exact h
            · exact h6 j (by omega)
  have l3 : (nI (jlen.getD i 0)).toInt = ((jlen.getD i 0 : Nat) : Int) := nI_toInt (by omega)
  show JJ g w 0 [(0, .ref x), (1, .ref (jsK D i))] []
  have start : ∀ so : Int32, ((so = 0 ∧ ¬ jspelt i f s a n) ∨ (so = 1 ∧ nI (jlen.getD i 0) = a - s ∧ ¬ s < 0 ∧ ¬ n < a)) → JJ g w 39 [(0, .ref x), (1, .ref (jsK D i))] [.int so] := fun so h => by
    refine j_blk (b := [(39, .istore_n 2, .null), (40, .iconst 0, .int 0), (41, .istore_n 3, .null)]) 42 [(3, .int 0), (2, .int so), (0, .ref x), (1, .ref (jsK D i))] [] C (sblk_of (by decide +kernel)) rfl ?_
    refine loop (jlen.getD i 0 + 1) 0 so (Nat.zero_le _) (by omega) ?_
    rcases h with h | ⟨h0, h3, h4, h5⟩
    · exact Or.inl h
    · exact Or.inr ⟨h0, h3, h4, h5, fun j hj => absurd hj (Nat.not_lt_zero _)⟩
  have no : ¬ jspelt i f s a n → JJ g w 38 [(0, .ref x), (1, .ref (jsK D i))] [] := fun h => by
    refine j_blk (b := [(38, .iconst 0, .int 0)]) 39 [(0, .ref x), (1, .ref (jsK D i))] [.int 0] C (sblk_of (by decide +kernel)) rfl ?_
    exact start 0 (Or.inl ⟨rfl, h⟩)
  refine j_blk (b := [(0, .aload_n 1, .null)]) 1 [(0, .ref x), (1, .ref (jsK D i))] [.ref (jsK D i)] C (sblk_of (by decide +kernel)) rfl ?_
  refine j_callVK (idx := 195) C Rm Y [] [] hi rfl (c_Str_length l D B H0 w i hi) cl_Read_195 (by decide +kernel) rfl rfl (Nat.le_of_ble_eq_true rfl) ⟨by decide, by decide⟩ ⟨Nat.le_refl _, Nat.le_refl _⟩ (fun v w' hp => ?_)
  obtain ⟨rfl, rfl⟩ := hp
  show JJ g w' 4 [(0, .ref x), (1, .ref (jsK D i))] [.int (nI (jlen.getD i 0))]
  refine j_blk (b := [(4, .aload_n 0, .null)]) 5 [(0, .ref x), (1, .ref (jsK D i))] [.ref x, .int (nI (jlen.getD i 0))] C (sblk_of (by decide +kernel)) rfl ?_
  refine j_get (idx := 37) C (by decide +kernel) fg_Read_37 hx v4 ?_
  refine j_blk (b := [(8, .aload_n 0, .null)]) 9 [(0, .ref x), (1, .ref (jsK D i))] [.ref x, .int a, .int (nI (jlen.getD i 0))] C (sblk_of (by decide +kernel)) rfl ?_
  refine j_get (idx := 53) C (by decide +kernel) fg_Read_53 hx v6 ?_
  refine j_blk (b := [(12, .isub, .null)]) 13 [(0, .ref x), (1, .ref (jsK D i))] [.int (a - s), .int (nI (jlen.getD i 0))] C (sblk_of (by decide +kernel)) rfl ?_
  refine j_icmp_ne (off := 25) (tgt := 38) C (by decide +kernel) (by decide) (fun h => no (fun q => h q.1)) (fun e9 => ?_)
  refine j_blk (b := [(16, .aload_n 0, .null)]) 17 [(0, .ref x), (1, .ref (jsK D i))] [.ref x] C (sblk_of (by decide +kernel)) rfl ?_
  refine j_get (idx := 53) C (by decide +kernel) fg_Read_53 hx v6 ?_
  refine j_if_lt (off := 18) (tgt := 38) C (by decide +kernel) (by decide) (fun h => no (fun q => q.2.1 h)) (fun e8 => ?_)
  refine j_blk (b := [(23, .aload_n 0, .null)]) 24 [(0, .ref x), (1, .ref (jsK D i))] [.ref x] C (sblk_of (by decide +kernel)) rfl ?_
  refine j_get (idx := 37) C (by decide +kernel) fg_Read_37 hx v4 ?_
  refine j_blk (b := [(27, .aload_n 0, .null)]) 28 [(0, .ref x), (1, .ref (jsK D i))] [.ref x, .int a] C (sblk_of (by decide +kernel)) rfl ?_
  refine j_get (idx := 21) C (by decide +kernel) fg_Read_21 hx v1 ?_
  refine j_icmp_gt (off := 7) (tgt := 38) C (by decide +kernel) (by decide) (fun h => no (fun q => q.2.2.1 h)) (fun e7 => ?_)
  refine j_blk (b := [(34, .iconst 1, .int 1), (35, .goto 4, .retAddr 39)]) 39 [(0, .ref x), (1, .ref (jsK D i))] [.int 1] C (sblk_of (by decide +kernel)) rfl ?_
  exact start 1 (Or.inr ⟨rfl, e9, e8, e7⟩)
