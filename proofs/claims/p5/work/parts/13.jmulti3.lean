/-! THE J LAYER: new T[n][k], new T[n][k][r] as rows (own work) -/
def jrow (D : va_G) (t0 k : Nat) : jEl := match t0 with
  | 1 => aJ D k (fun _ => 0)
  | 2 => aZ D k (fun _ => 0)
  | _ => aI D k (fun _ => 0)
def jrT (t0 : Nat) : FieldType := match t0 with
  | 1 => .long
  | 2 => .boolean
  | _ => .int
theorem jrow_cell (D : va_G) (t0 k : Nat) (ht : t0 < 3) {H : Heap} {a : Nat} (h : H[a]? = some (g1C (D.1 (100 + t0)) k (defaultValue (jrT t0)))) : jat D a (jrow D t0 k) H := by
  have e : g1C (D.1 (100 + t0)) k (defaultValue (jrT t0)) = arrV (D.1 (100 + t0)) k (fun _ => defaultValue (jrT t0)) := arrV_new _ _ _
  rw [e] at h
  match t0, ht with
  | 0, _ => show _ = some _; rw [h]; rfl
  | 1, _ => show _ = some _; rw [h]; rfl
  | 2, _ => show _ = some _; rw [h]; rfl
def jro (n : Nat) (ad : Nat → Nat) : Nat → Option Nat := fun j => if j < n then some (ad j) else none
theorem gOC_cell (D : va_G) (t n : Nat) (ad : Nat → Nat) {H : Heap} {a : Nat} (h : H[a]? = some (gOC (D.1 (100 + t)) n ad n)) : jat D a (aR D t n (jro n ad)) H := by
  show _ = some _
  rw [h, vp_cell_q]
  unfold gOC jro
  refine congrArg (fun f => some (arrV (D.1 (100 + t)) n f)) (funext fun j => ?_)
  by_cases hj : j < n
  · simp [hj, va_rf]
  · simp [hj, va_rf]
def jm2 (M : jM) (q n : Nat) (eo ei : jEl) : jM := fun a => if a = q then some eo else if q < a ∧ a < q + 1 + n then some ei else M a
def jm3 (M : jM) (q n m : Nat) (eo : jEl) (em : Nat → jEl) (ei : jEl) : jM := fun a => if a = q then some eo else if q < a ∧ a < q + 1 + n * (m + 1) then (if (a - q - 1) % (m + 1) = 0 then some (em (q + 1 + (a - q - 1) / (m + 1) * (m + 1))) else some ei) else M a
section JM
variable {g : jG} {w : jW} {cc : ByteArray} {nL pc : Nat} {own : String} {D : va_G} {L : List (Nat × Value)} {st : List Value} {k0 n0 : Nat} {rm : Room}
theorem j_mn2 (C : jX g cc nL own D) (Rm : jRm g k0 n0 rm) {idx t t0 n k : Nat} {x y : Int32} (hd : decode cc pc = .ok (.multianewarray idx 2, 4)) (h3 : t0 < 3) (ht : jAT[t]? = some (.array (jrT t0))) (ht0 : jAT[t0]? = some (jrT t0)) (hw : Cond.classLink own idx ("[" ++ (FieldType.array (jrT t0)).toString) ∈ jwd) (hx0 : ¬ x < 0) (hy0 : ¬ y < 0) (hxn : x.toNatClampNeg = n) (hyn : y.toNatClampNeg = k) (hn : n ≤ 65536) (hk : k ≤ 65536) (hc1 : w.2.1 + (1 + n) ≤ k0 + rm.cells) (hc2 : w.2.2 + (n + n * k) ≤ n0 + rm.slots)
    (kk : ∀ q : Nat, (∀ a e, w.1 a = some e → a < q) → JJ g (jm2 w.1 q n (aR D t n (jro n (fun j => q + 1 + j))) (jrow D t0 k), w.2.1 + (1 + n), w.2.2 + (n + n * k)) (pc + 4) L (.ref q :: st)) : JJ g w pc L (.int y :: .int x :: st) := by
  obtain ⟨⟨hx, hb, hml, ho, hts, hK, hnm, hlk, -, M0, hM0⟩, rfl, rfl, rfl, rfl⟩ := C
  obtain ⟨rfl, rfl, rfl⟩ := Rm
  subst hxn; subst hyn
  intro H locs ls h1 h2 h3' h4 h5
  obtain ⟨kA, comp, a1, a2, a3, a4⟩ := hK.2.1 t _ ht
  obtain ⟨kC, cc9, b1, b2, b3, b4⟩ := hK.2.1 t0 _ ht0
  have ec : comp = (jGD g).1 (100 + t0) := Option.some.inj ((a4 rfl).symm.trans b3)
  subst ec
  have hB : jGB g ≤ H.size := by rw [h1.1]; omega
  intro T hT X
  have hdf : fits (jrT t0) (defaultValue (jrT t0)) = true ∧ (defaultValue (jrT t0)).isDefault = true := by
    match t0, h3 with
    | 0, _ => exact ⟨rfl, rfl⟩
    | 1, _ => exact ⟨rfl, rfl⟩
    | 2, _ => exact ⟨rfl, rfl⟩
  obtain ⟨vm₁, hW, X1, X2, hst⟩ := g_mn2 X hx ho (hts _ hw) a3 a1 a2 b1 b2 (g := F0 (jGm g) pc ls (.int y :: .int x :: st)) rfl (by rw [hb]; exact hd) rfl hx0 hy0 hn hk hdf.1 hdf.2 (by omega) (by omega)
  generalize hF : f2S (T.setVm vm₁) ((jGD g).1 (100 + t)) ((jGD g).1 (100 + t0)) x.toNatClampNeg y.toNatClampNeg (defaultValue (jrT t0)) x.toNatClampNeg = F at X2 hst
  have hTh : (T.setVm vm₁).heap = H := hT
  obtain ⟨f1, f2, f3, f4⟩ := f2S_facts (T.setVm vm₁) ((jGD g).1 (100 + t)) ((jGD g).1 (100 + t0)) x.toNatClampNeg y.toNatClampNeg (defaultValue (jrT t0)) x.toNatClampNeg
  rw [hF, hTh] at f1 f2
  rw [hF] at f4
  have hold : ∀ a : Nat, a < H.size → F.heap[a]? = H[a]? := fun a ha => by
    have := f2S_old (T.setVm vm₁) ((jGD g).1 (100 + t)) ((jGD g).1 (100 + t0)) x.toNatClampNeg y.toNatClampNeg (defaultValue (jrT t0)) (a := a) (by rw [hTh]; exact ha) x.toNatClampNeg
    rw [hF, hTh] at this; exact this
  have hin : ∀ j : Nat, j < x.toNatClampNeg → F.heap[H.size + 1 + j]? = some (g1C ((jGD g).1 (100 + t0)) y.toNatClampNeg (defaultValue (jrT t0))) := fun j hj => by
    have := f2S_in (T.setVm vm₁) ((jGD g).1 (100 + t)) ((jGD g).1 (100 + t0)) x.toNatClampNeg y.toNatClampNeg (defaultValue (jrT t0)) x.toNatClampNeg j hj
    rw [hF, hTh] at this; exact this
  have s1 := jslots X1 hM0 (by rw [hTh]; exact hB)
  have s2 := jslots X2 hM0 (by rw [f1]; omega)
  rw [hTh] at s1
  rw [h1.2.1] at s1
  have f4' : F.slotsUsed = (T.setVm vm₁).slotsUsed + x.toNatClampNeg + x.toNatClampNeg * y.toNatClampNeg := f4
  have hj : jsum F.heap (jGB g) = w.2.2 + (x.toNatClampNeg + x.toNatClampNeg * y.toNatClampNeg) := by omega
  have hH : jH (jGD g) (jGB g) (jGH g) (jm2 w.1 H.size x.toNatClampNeg (aR (jGD g) t x.toNatClampNeg (jro x.toNatClampNeg (fun j => H.size + 1 + j))) (jrow (jGD g) t0 y.toNatClampNeg), w.2.1 + (1 + x.toNatClampNeg), w.2.2 + (x.toNatClampNeg + x.toNatClampNeg * y.toNatClampNeg)) F.heap := by
    refine ⟨by rw [f1, h1.1]; show _ = _ + (w.2.1 + (1 + x.toNatClampNeg)); omega, hj, fun q hq => by rw [hold q (by omega)]; exact h1.2.2.1 q hq, fun a e ha => ?_⟩
    unfold jm2 at ha
    by_cases q1 : a = H.size
    · subst q1
      simp only [if_true] at ha
      cases ha
      exact ⟨hB, gOC_cell _ _ _ _ f2⟩
    · by_cases q2 : H.size < a ∧ a < H.size + 1 + x.toNatClampNeg
      · simp only [if_neg q1, if_pos q2] at ha
        cases ha
        obtain ⟨j, rfl⟩ : ∃ j, a = H.size + 1 + j := ⟨a - H.size - 1, by omega⟩
        exact ⟨by omega, jrow_cell _ _ _ h3 (hin j (by omega))⟩
      · simp only [if_neg q1, if_neg q2] at ha
        exact ⟨h1.le ha, (h1.at ha).kept (hold _ (h1.at ha).lt)⟩
  have key := kk H.size (fun a e ha => (h1.at ha).lt) F.heap (locs ++ (List.range x.toNatClampNeg).map fun j => (⟨T.heap.size, j⟩ : Loc)) ls hH (by show _ ≤ w.2.1 + _; omega) (by show _ ≤ w.2.2 + _; omega) (fun q hq => by
    rcases List.mem_append.mp hq with h | h
    · exact h4 q h
    · obtain ⟨j, -, rfl⟩ := List.mem_map.mp h
      show jGB g ≤ T.heap.size
      rw [hT]; exact hB) h5
  have a5 : w.2.1 + (1 + x.toNatClampNeg) - jGk g = w.2.1 - jGk g + 1 + x.toNatClampNeg := by omega
  have a6 : w.2.2 + (x.toNatClampNeg + x.toNatClampNeg * y.toNatClampNeg) - jGn g = w.2.2 - jGn g + x.toNatClampNeg + x.toNatClampNeg * y.toNatClampNeg := by omega
  simp only [a5, a6] at key
  obtain ⟨t2, c1, c2⟩ := key F rfl X2
  refine ⟨t2, hst t2 ?_, c2⟩
  have e : T.heap.size = H.size := by rw [hT]
  rw [e]
  exact c1
theorem j_mn3 (C : jX g cc nL own D) (Rm : jRm g k0 n0 rm) {idx t t1 t0 n m9 k : Nat} {x y z : Int32} (hd : decode cc pc = .ok (.multianewarray idx 3, 4)) (h3 : t0 < 3) (ht : jAT[t]? = some (.array (.array (jrT t0)))) (ht1 : jAT[t1]? = some (.array (jrT t0))) (ht0 : jAT[t0]? = some (jrT t0)) (hw : Cond.classLink own idx ("[" ++ (FieldType.array (.array (jrT t0))).toString) ∈ jwd) (hx0 : ¬ x < 0) (hy0 : ¬ y < 0) (hz0 : ¬ z < 0) (hxn : x.toNatClampNeg = n) (hyn : y.toNatClampNeg = m9) (hzn : z.toNatClampNeg = k) (hn : n ≤ 65536) (hm : m9 ≤ 65536) (hk : k ≤ 65536) (hc1 : w.2.1 + (1 + n * (m9 + 1)) ≤ k0 + rm.cells) (hc2 : w.2.2 + (n + n * (m9 + m9 * k)) ≤ n0 + rm.slots)
    (kk : ∀ q : Nat, (∀ a e, w.1 a = some e → a < q) → JJ g (jm3 w.1 q n m9 (aR D t n (jro n (fun j => q + 1 + j * (m9 + 1)))) (fun b => aR D t1 m9 (jro m9 (fun j => b + 1 + j))) (jrow D t0 k), w.2.1 + (1 + n * (m9 + 1)), w.2.2 + (n + n * (m9 + m9 * k))) (pc + 4) L (.ref q :: st)) : JJ g w pc L (.int z :: .int y :: .int x :: st) := by
  obtain ⟨⟨hx, hb, hml, ho, hts, hK, hnm, hlk, -, M0, hM0⟩, rfl, rfl, rfl, rfl⟩ := C
  obtain ⟨rfl, rfl, rfl⟩ := Rm
  subst hxn; subst hyn; subst hzn
  intro H locs ls h1 h2 h3' h4 h5
  obtain ⟨kA, cm, a1, a2, a3, a4⟩ := hK.2.1 t _ ht
  obtain ⟨kM, comp, m1, m2, m3, m4⟩ := hK.2.1 t1 _ ht1
  obtain ⟨kC, cc9, b1, b2, b3, b4⟩ := hK.2.1 t0 _ ht0
  have em : cm = (jGD g).1 (100 + t1) := Option.some.inj ((a4 rfl).symm.trans m3)
  subst em
  have ec : comp = (jGD g).1 (100 + t0) := Option.some.inj ((m4 rfl).symm.trans b3)
  subst ec
  have hB : jGB g ≤ H.size := by rw [h1.1]; omega
  intro T hT X
  have hdf : fits (jrT t0) (defaultValue (jrT t0)) = true ∧ (defaultValue (jrT t0)).isDefault = true := by
    match t0, h3 with
    | 0, _ => exact ⟨rfl, rfl⟩
    | 1, _ => exact ⟨rfl, rfl⟩
    | 2, _ => exact ⟨rfl, rfl⟩
  obtain ⟨vm₁, L9, hW, X1, hL9, X2, hst⟩ := g_mn3 X (B := jGB g) (by rw [hT]; exact hB) h4 hx ho (hts _ hw) a3 a1 a2 m1 m2 b1 b2 (g := F0 (jGm g) pc ls (.int z :: .int y :: .int x :: st)) rfl (by rw [hb]; exact hd) rfl hx0 hy0 hz0 hn hm hk hdf.1 hdf.2 (by omega) (by omega)
  generalize hF : f3S (T.setVm vm₁) ((jGD g).1 (100 + t)) ((jGD g).1 (100 + t1)) ((jGD g).1 (100 + t0)) x.toNatClampNeg y.toNatClampNeg z.toNatClampNeg (defaultValue (jrT t0)) x.toNatClampNeg = F at X2 hst
  have hTh : (T.setVm vm₁).heap = H := hT
  obtain ⟨f1, f2, f3, f4⟩ := f3S_facts (T.setVm vm₁) ((jGD g).1 (100 + t)) ((jGD g).1 (100 + t1)) ((jGD g).1 (100 + t0)) x.toNatClampNeg y.toNatClampNeg z.toNatClampNeg (defaultValue (jrT t0)) x.toNatClampNeg
  rw [hF, hTh] at f1 f2
  rw [hF] at f4
  have hold : ∀ a : Nat, a < H.size → F.heap[a]? = H[a]? := fun a ha => by
    have := f3S_old (T.setVm vm₁) ((jGD g).1 (100 + t)) ((jGD g).1 (100 + t1)) ((jGD g).1 (100 + t0)) x.toNatClampNeg y.toNatClampNeg z.toNatClampNeg (defaultValue (jrT t0)) (a := a) (by rw [hTh]; exact ha) x.toNatClampNeg
    rw [hF, hTh] at this; exact this
  have hin := f3S_in (T.setVm vm₁) ((jGD g).1 (100 + t)) ((jGD g).1 (100 + t1)) ((jGD g).1 (100 + t0)) x.toNatClampNeg y.toNatClampNeg z.toNatClampNeg (defaultValue (jrT t0)) x.toNatClampNeg
  rw [hF, hTh] at hin
  have s1 := jslots X1 hM0 (by rw [hTh]; exact hB)
  have s2 := jslots X2 hM0 (by rw [f1]; omega)
  rw [hTh] at s1
  rw [h1.2.1] at s1
  have f4' : F.slotsUsed = (T.setVm vm₁).slotsUsed + x.toNatClampNeg + x.toNatClampNeg * (y.toNatClampNeg + y.toNatClampNeg * z.toNatClampNeg) := f4
  have hj : jsum F.heap (jGB g) = w.2.2 + (x.toNatClampNeg + x.toNatClampNeg * (y.toNatClampNeg + y.toNatClampNeg * z.toNatClampNeg)) := by omega
  have hH : jH (jGD g) (jGB g) (jGH g) (jm3 w.1 H.size x.toNatClampNeg y.toNatClampNeg (aR (jGD g) t x.toNatClampNeg (jro x.toNatClampNeg (fun j => H.size + 1 + j * (y.toNatClampNeg + 1)))) (fun b => aR (jGD g) t1 y.toNatClampNeg (jro y.toNatClampNeg (fun j => b + 1 + j))) (jrow (jGD g) t0 z.toNatClampNeg), w.2.1 + (1 + x.toNatClampNeg * (y.toNatClampNeg + 1)), w.2.2 + (x.toNatClampNeg + x.toNatClampNeg * (y.toNatClampNeg + y.toNatClampNeg * z.toNatClampNeg))) F.heap := by
    refine ⟨by rw [f1, h1.1]; show _ = _ + (w.2.1 + (1 + _)); omega, hj, fun q hq => by rw [hold q (by omega)]; exact h1.2.2.1 q hq, fun a e ha => ?_⟩
    unfold jm3 at ha
    by_cases q1 : a = H.size
    · subst q1
      simp only [if_true] at ha
      cases ha
      exact ⟨hB, gOC_cell _ _ _ _ f2⟩
    · by_cases q2 : H.size < a ∧ a < H.size + 1 + x.toNatClampNeg * (y.toNatClampNeg + 1)
      · simp only [if_neg q1, if_pos q2] at ha
        have hdv := Nat.div_add_mod (a - H.size - 1) (y.toNatClampNeg + 1)
        have hj1 : (a - H.size - 1) / (y.toNatClampNeg + 1) < x.toNatClampNeg := by
          rw [Nat.div_lt_iff_lt_mul (by omega)]; omega
        rw [Nat.mul_comm] at hdv
        have hml := Nat.mod_lt (a - H.size - 1) (show 0 < y.toNatClampNeg + 1 by omega)
        obtain ⟨g1, g2⟩ := hin ((a - H.size - 1) / (y.toNatClampNeg + 1)) hj1
        by_cases q3 : (a - H.size - 1) % (y.toNatClampNeg + 1) = 0
        · rw [if_pos q3] at ha
          cases ha
          have ea : a = H.size + 1 + (a - H.size - 1) / (y.toNatClampNeg + 1) * (y.toNatClampNeg + 1) := by omega
          refine ⟨by omega, ?_⟩
          rw [← ea] at g1 ⊢
          exact gOC_cell _ _ _ _ g1
        · rw [if_neg q3] at ha
          cases ha
          have g3 := g2 ((a - H.size - 1) % (y.toNatClampNeg + 1) - 1) (by omega)
          have ea : H.size + 1 + (a - H.size - 1) / (y.toNatClampNeg + 1) * (y.toNatClampNeg + 1) + 1 + ((a - H.size - 1) % (y.toNatClampNeg + 1) - 1) = a := by omega
          rw [ea] at g3
          exact ⟨by omega, jrow_cell _ _ _ h3 g3⟩
      · simp only [if_neg q1, if_neg q2] at ha
        exact ⟨h1.le ha, (h1.at ha).kept (hold _ (h1.at ha).lt)⟩
  have key := kk H.size (fun a e ha => (h1.at ha).lt) F.heap _ ls hH (by show _ ≤ w.2.1 + _; omega) (by show _ ≤ w.2.2 + _; omega) hL9 h5
  have a5 : w.2.1 + (1 + x.toNatClampNeg * (y.toNatClampNeg + 1)) - jGk g = w.2.1 - jGk g + 1 + x.toNatClampNeg * (y.toNatClampNeg + 1) := by omega
  have a6 : w.2.2 + (x.toNatClampNeg + x.toNatClampNeg * (y.toNatClampNeg + y.toNatClampNeg * z.toNatClampNeg)) - jGn g = w.2.2 - jGn g + x.toNatClampNeg + x.toNatClampNeg * (y.toNatClampNeg + y.toNatClampNeg * z.toNatClampNeg) := by omega
  simp only [a5, a6] at key
  obtain ⟨t2, c1, c2⟩ := key F rfl X2
  refine ⟨t2, hst t2 ?_, c2⟩
  have e : T.heap.size = H.size := by rw [hT]
  rw [e]
  exact c1
end JM
theorem jm2_old {M : jM} {q n a : Nat} {eo ei : jEl} (h : a < q) : jm2 M q n eo ei a = M a := by
  unfold jm2; rw [if_neg (by omega), if_neg (by omega)]
theorem jm2_out {M : jM} {q n : Nat} {eo ei : jEl} : jm2 M q n eo ei q = some eo := by unfold jm2; rw [if_pos rfl]
theorem jm2_in {M : jM} {q n j : Nat} {eo ei : jEl} (h : j < n) : jm2 M q n eo ei (q + 1 + j) = some ei := by
  unfold jm2; rw [if_neg (by omega), if_pos (by omega)]
theorem jm3_old {M : jM} {q n m a : Nat} {eo ei : jEl} {em : Nat → jEl} (h : a < q) : jm3 M q n m eo em ei a = M a := by
  unfold jm3; rw [if_neg (by omega), if_neg (by omega)]
theorem jm3_out {M : jM} {q n m : Nat} {eo ei : jEl} {em : Nat → jEl} : jm3 M q n m eo em ei q = some eo := by unfold jm3; rw [if_pos rfl]
theorem jm3_mid {M : jM} {q n m j : Nat} {eo ei : jEl} {em : Nat → jEl} (h : j < n) : jm3 M q n m eo em ei (q + 1 + j * (m + 1)) = some (em (q + 1 + j * (m + 1))) := by
  have h2 : (j + 1) * (m + 1) ≤ n * (m + 1) := Nat.mul_le_mul_right _ h
  rw [Nat.succ_mul] at h2
  have e : q + 1 + j * (m + 1) - q - 1 = j * (m + 1) := by omega
  unfold jm3; rw [if_neg (by omega), if_pos (by omega), e, Nat.mul_mod_left, if_pos rfl, Nat.mul_div_cancel _ (by omega)]
theorem jm3_in {M : jM} {q n m j r : Nat} {eo ei : jEl} {em : Nat → jEl} (h : j < n) (hr : r < m) : jm3 M q n m eo em ei (q + 1 + j * (m + 1) + 1 + r) = some ei := by
  have h2 : (j + 1) * (m + 1) ≤ n * (m + 1) := Nat.mul_le_mul_right _ h
  rw [Nat.succ_mul] at h2
  have e : q + 1 + j * (m + 1) + 1 + r - q - 1 = (r + 1) + j * (m + 1) := by omega
  unfold jm3; rw [if_neg (by omega), if_pos (by omega), e, Nat.add_mul_mod_self_right, Nat.mod_eq_of_lt (by omega), if_neg (by omega)]
theorem jfrM2 {P : Nat → Prop} {w0 w w1 : jW} {q n : Nat} {eo ei : jEl} {p : Nat × Nat} (eq : w1 = (jm2 w.1 q n eo ei, p)) (F : jfr P w0 w) (hf : ∀ a e, w.1 a = some e → a < q) : jfr P w0 w1 := fun b e he => by
  obtain ⟨h1, e', h2⟩ := F b e he
  rw [eq]
  have hlt := hf b e' h2
  exact ⟨fun hb => (jm2_old hlt).trans (h1 hb), e', (jm2_old hlt).trans h2⟩
theorem jfrM3 {P : Nat → Prop} {w0 w w1 : jW} {q n m : Nat} {eo ei : jEl} {em : Nat → jEl} {p : Nat × Nat} (eq : w1 = (jm3 w.1 q n m eo em ei, p)) (F : jfr P w0 w) (hf : ∀ a e, w.1 a = some e → a < q) : jfr P w0 w1 := fun b e he => by
  obtain ⟨h1, e', h2⟩ := F b e he
  rw [eq]
  have hlt := hf b e' h2
  exact ⟨fun hb => (jm3_old hlt).trans (h1 hb), e', (jm3_old hlt).trans h2⟩
theorem jm2o {w w1 : jW} {q n : Nat} {eo ei : jEl} {p : Nat × Nat} (eq : w1 = (jm2 w.1 q n eo ei, p)) : w1.1 q = some eo := by rw [eq]; exact jm2_out
theorem jm2i {w w1 : jW} {q n j : Nat} {eo ei : jEl} {p : Nat × Nat} (eq : w1 = (jm2 w.1 q n eo ei, p)) (h : j < n) : w1.1 (q + 1 + j) = some ei := by rw [eq]; exact jm2_in h
theorem jm2p {w w1 : jW} {q n a : Nat} {eo ei e : jEl} {p : Nat × Nat} (eq : w1 = (jm2 w.1 q n eo ei, p)) (hf : ∀ a e, w.1 a = some e → a < q) (h : w.1 a = some e) : w1.1 a = some e := by rw [eq]; exact (jm2_old (hf a e h)).trans h
theorem jm3o {w w1 : jW} {q n m : Nat} {eo ei : jEl} {em : Nat → jEl} {p : Nat × Nat} (eq : w1 = (jm3 w.1 q n m eo em ei, p)) : w1.1 q = some eo := by rw [eq]; exact jm3_out
theorem jm3m {w w1 : jW} {q n m j : Nat} {eo ei : jEl} {em : Nat → jEl} {p : Nat × Nat} (eq : w1 = (jm3 w.1 q n m eo em ei, p)) (h : j < n) : w1.1 (q + 1 + j * (m + 1)) = some (em (q + 1 + j * (m + 1))) := by rw [eq]; exact jm3_mid h
theorem jm3i {w w1 : jW} {q n m j r : Nat} {eo ei : jEl} {em : Nat → jEl} {p : Nat × Nat} (eq : w1 = (jm3 w.1 q n m eo em ei, p)) (h : j < n) (hr : r < m) : w1.1 (q + 1 + j * (m + 1) + 1 + r) = some ei := by rw [eq]; exact jm3_in h hr
theorem jm3p {w w1 : jW} {q n m a : Nat} {eo ei e : jEl} {em : Nat → jEl} {p : Nat × Nat} (eq : w1 = (jm3 w.1 q n m eo em ei, p)) (hf : ∀ a e, w.1 a = some e → a < q) (h : w.1 a = some e) : w1.1 a = some e := by rw [eq]; exact (jm3_old (hf a e h)).trans h
