/-! THE J LAYER: String constants, length() and charAt() (own work) -/
section SC
variable {g : jG} {cc : ByteArray} {nL pc : Nat} {own : String} {D : va_G} {w : jW} {k0 n0 : Nat} {rm : Room} {l : Launch} {B : Nat} {H0 : Heap} {y0 : MethodName} {L : List (Nat × Value)} {st : List Value} {mc ms : Nat} {post : Option Value → jW → Prop}
theorem j_S (C : jX g cc nL own D) : jS D (jGB g) (jGH g) (jGs g) := by
  obtain ⟨⟨-, -, -, -, -, -, -, -, h, -⟩, -, -, -, rfl⟩ := C
  exact h
theorem j_bs (C : jX g cc nL own D) : ∀ a, a < (jGH g).size → ¬ jGB g ≤ a → (jGs g).heap[a]? = (jGH g)[a]? := by
  obtain ⟨⟨-, -, -, -, -, -, -, -, -, M0, h⟩, -⟩ := C
  exact fun a _ ha => h.2.2.1 a (by omega)
theorem j_vaS (C : jX g cc nL own D) {H : Heap} {locs : List Loc} (h1 : jH D (jGB g) (jGH g) w H) (h2 : jGk g ≤ w.2.1) (h4 : ∀ q ∈ locs, jGB g ≤ q.base) : va_S (fun q => jGB g ≤ q) (jGs g).heap H locs := by
  obtain ⟨⟨-, -, -, -, -, -, -, -, -, M0, h⟩, -⟩ := C
  have e1 : (jGs g).heap.size = jGB g + jGk g := h.1
  have e2 := h1.1
  exact ⟨by omega, fun q hq hA => (h1.2.2.1 q (by omega)).trans (h.2.2.1 q (by omega)).symm, h4⟩
theorem j_ldcS (C : jX g cc nL own D) {idx i : Nat} {tx : String} (hs : jstr[i]? = some (own, idx, tx)) (hd : decode cc pc = .ok (.ldc idx, 2)) (kk : JJ g w (pc + 2) L (.ref (jsK D i) :: st)) : JJ g w pc L st := by
  have hz : vk_R own idx tx (jsK D i) (jGs g) := (j_S C).2.1 i (own, idx, tx) hs
  obtain ⟨⟨hx, hb, hml, ho, hts, hK, -⟩, rfl, rfl, rfl, rfl⟩ := C
  exact fun H locs ls h1 h2 h3 h4 h5 => va_ldcS hx hb ho hz hd (kk H locs ls h1 h2 h3 h4 h5)
theorem j_i2c (C : jX g cc nL own D) {x v : Int32} (hd : decode cc pc = .ok (.i2c, 1)) (hv : (x.toUInt32 % 65536).toInt32 = v) (kk : JJ g w (pc + 1) L (.int v :: st)) : JJ g w pc L (.int x :: st) := by
  obtain ⟨⟨hx, hb, hml, ho, hts, hK, -⟩, rfl, rfl, rfl, rfl⟩ := C
  exact fun H locs ls h1 h2 h3 h4 h5 => lv_i2c hx hb hd hv (kk H locs ls h1 h2 h3 h4 h5)
theorem j_coderK (C : jX g cc nL own D) {idx i : Nat} (hi : i < 13) (hl : Cond.fieldLink own idx "java/lang/String" "coder" "B" ∈ jwd) (hd : decode cc pc = .ok (.getfield idx, 3)) (kk : JJ g w (pc + 3) L (.int 0 :: st)) : JJ g w pc L (.ref (jsK D i) :: st) := by
  have hS := j_S C
  have hB := j_bs C
  have hV := fun (H : Heap) (locs : List Loc) h1 h2 h4 => j_vaS (w := w) (H := H) (locs := locs) C h1 h2 h4
  obtain ⟨⟨hx, hb, hml, ho, hts, hK, -⟩, rfl, rfl, rfl, rfl⟩ := C
  exact fun H locs ls h1 h2 h3 h4 h5 => vk_getf hx hb ((hS.1 i hi).2.1.kept hB) (hV H locs h1 h2 h4) ho (hts _ hl) (fun _ h => h) hd (kk H locs ls h1 h2 h3 h4 h5)
theorem j_valueK (C : jX g cc nL own D) {idx i : Nat} (hi : i < 13) (hl : Cond.fieldLink own idx "java/lang/String" "value" "[B" ∈ jwd) (hd : decode cc pc = .ok (.getfield idx, 3)) (kk : JJ g w (pc + 3) L (.ref (jsV D i) :: st)) : JJ g w pc L (.ref (jsK D i) :: st) := by
  have hS := j_S C
  have hB := j_bs C
  have hV := fun (H : Heap) (locs : List Loc) h1 h2 h4 => j_vaS (w := w) (H := H) (locs := locs) C h1 h2 h4
  obtain ⟨⟨hx, hb, hml, ho, hts, hK, -⟩, rfl, rfl, rfl, rfl⟩ := C
  exact fun H locs ls h1 h2 h3 h4 h5 => vk_getf hx hb ((hS.1 i hi).2.2.1.kept hB) (hV H locs h1 h2 h4) ho (hts _ hl) (fun _ h => h) hd (kk H locs ls h1 h2 h3 h4 h5)
theorem j_lenK (C : jX g cc nL own D) {i : Nat} (hi : i < 13) (hd : decode cc pc = .ok (.arraylength, 1)) (kk : JJ g w (pc + 1) L (.int (nI (jlen.getD i 0)) :: st)) : JJ g w pc L (.ref (jsV D i) :: st) := by
  have hS := j_S C
  have hB := j_bs C
  have hV := fun (H : Heap) (locs : List Loc) h1 h2 h4 => j_vaS (w := w) (H := H) (locs := locs) C h1 h2 h4
  obtain ⟨⟨hx, hb, hml, ho, hts, hK, -⟩, rfl, rfl, rfl, rfl⟩ := C
  exact fun H locs ls h1 h2 h3 h4 h5 => va_tlen hx hb ((hS.1 i hi).2.2.2.kept hB) (hV H locs h1 h2 h4) rfl hd (kk H locs ls h1 h2 h3 h4 h5)
theorem j_baldK (C : jX g cc nL own D) {i : Nat} {k : Int32} (hi : i < 13) (hin : vp_in k (jlen.getD i 0)) (hd : decode cc pc = .ok (.baload, 1)) (kk : JJ g w (pc + 1) L (.int ((jbyt.getD i []).getD k.toNatClampNeg 0) :: st)) : JJ g w pc L (.int k :: .ref (jsV D i) :: st) := by
  have hS := j_S C
  have hB := j_bs C
  have hV := fun (H : Heap) (locs : List Loc) h1 h2 h4 => j_vaS (w := w) (H := H) (locs := locs) C h1 h2 h4
  obtain ⟨⟨hx, hb, hml, ho, hts, hK, -⟩, rfl, rfl, rfl, rfl⟩ := C
  exact fun H locs ls h1 h2 h3 h4 h5 => va_tb hx hb ((hS.1 i hi).2.2.2.kept hB) (hV H locs h1 h2 h4) hin rfl hd (kk H locs ls h1 h2 h3 h4 h5)
theorem j_compact (C : jX g cc nL own D) {idx : Nat} (hl : Cond.fieldLink own idx "java/lang/String" "COMPACT_STRINGS" "Z" ∈ jwd) (hd : decode cc pc = .ok (.getstatic idx, 3)) (kk : JJ g w (pc + 3) L (.int 1 :: st)) : JJ g w pc L st := by
  have hS := j_S C
  have hB := j_bs C
  have hV := fun (H : Heap) (locs : List Loc) h1 h2 h4 => j_vaS (w := w) (H := H) (locs := locs) C h1 h2 h4
  obtain ⟨⟨hx, hb, hml, ho, hts, hK, -⟩, rfl, rfl, rfl, rfl⟩ := C
  exact fun H locs ls h1 h2 h3 h4 h5 => va_gets hx hb (hS.2.2.1.kept hB) (hV H locs h1 h2 h4) ho (hts _ hl) (fun _ h => h) hd (kk H locs ls h1 h2 h3 h4 h5)
theorem j_form (C : jX g cc nL own D) {idx : Nat} (hl : Cond.fieldLink own idx "jdk/internal/util/Preconditions" "SIOOBE_FORMATTER" "Ljava/util/function/BiFunction;" ∈ jwd) (hd : decode cc pc = .ok (.getstatic idx, 3)) (kk : ∀ v : Value, (v = .null ∨ ∃ r : Nat, v = .ref r) → JJ g w (pc + 3) L (v :: st)) : JJ g w pc L st := by
  have hS := j_S C
  have hB := j_bs C
  have hV := fun (H : Heap) (locs : List Loc) h1 h2 h4 => j_vaS (w := w) (H := H) (locs := locs) C h1 h2 h4
  obtain ⟨⟨hx, hb, hml, ho, hts, hK, -⟩, rfl, rfl, rfl, rfl⟩ := C
  rcases hS.2.2.2.kept hB with h | ⟨t, h⟩
  · exact fun H locs ls h1 h2 h3 h4 h5 => va_gets hx hb h (hV H locs h1 h2 h4) ho (hts _ hl) (fun _ h => h) hd (kk _ (Or.inl rfl) H locs ls h1 h2 h3 h4 h5)
  · exact fun H locs ls h1 h2 h3 h4 h5 => va_gets hx hb h (hV H locs h1 h2 h4) ho (hts _ hl) (fun _ h => h) hd (kk _ (Or.inr ⟨t, rfl⟩) H locs ls h1 h2 h3 h4 h5)
theorem j_callVK (C : jX g cc nL own D) (Rm : jRm g k0 n0 rm) (Y : jY g l B H0 y0) {idx n maxL fr lo i : Nat} {y : MethodName} {bytes : ByteArray} {ret : Option FieldType} (As rest : List Value) (hi : i < 13) (hcl : y.cls = "java/lang/String") (hM : jMet l D B H0 y bytes maxL ret fr lo mc ms (.ref (jsK D i) :: As) w post) (hc : jcV own idx y bytes maxL ret n) (hd : decode cc pc = .ok (.invokevirtual idx, 3)) (hn : As.length = n) (hst : st = As.reverse ++ .ref (jsK D i) :: rest) (h8 : (rest.map fun v => v.category).sum ≤ 8) (hR : fr + 1 ≤ rm.frames ∧ 8 + (maxL + 11) + lo ≤ rm.locals) (hroom : w.2.1 + mc ≤ k0 + rm.cells ∧ w.2.2 + ms ≤ n0 + rm.slots)
    (kk : ∀ (v : Option Value) (w' : jW), post v w' → JJ g w' (pc + 3) L (v.toList ++ rest)) : JJ g w pc L st := by
  have hS := j_S C
  have hB := j_bs C
  have hV := fun (H : Heap) (locs : List Loc) h1 h2 h4 => j_vaS (w := w) (H := H) (locs := locs) C h1 h2 h4
  obtain ⟨hC, rfl, rfl, rfl, rfl⟩ := C
  obtain ⟨rfl, rfl, rfl⟩ := Rm
  obtain ⟨rfl, rfl, rfl, rfl⟩ := Y
  obtain ⟨hx, hb, hml, ho, hts, hK, -, -, hSt, -⟩ := id hC
  subst hst
  intro H locs ls h1 h2 h3 h4 h5
  have hrec : ∃ cell : Cell, H[jsK (jGD g) i]? = some cell ∧ cell.vm.isStatics = false ∧ (jGs g).vm.findClass y.cls = some cell.cls := by
    obtain ⟨cell, e1, e2, e3, -⟩ := ((hS.1 i hi).1.kept hB).kept (hV H locs h1 h2 h4).2.1
    exact ⟨cell, e1, e2, by rw [hcl]; exact e3⟩
  exact j_after hC h4 h5 (va_runV (C := y.cls) (As := As) (rest := rest) ⟨hx, hb, hml, ho, hts⟩ hM ⟨hc.1.call hts (hts _ hc.2.2.2) hR, hts _ hc.2.1, hts _ hc.2.2.1⟩ ⟨jPc_blind _ _ _ _ _, hrec, fun U hU hW => ⟨rfl, by rw [hU]; exact h1, hK.moved hW, hSt.moved hW⟩⟩ rfl hn h5.1 rfl (lv_room h8) hd ⟨by omega, by omega⟩) kk
end SC
def y_Str_length : MethodName := ⟨"java/lang/String", "length", "()I"⟩
def y_Str_coder : MethodName := ⟨"java/lang/String", "coder", "()B"⟩
def y_Str_charAt : MethodName := ⟨"java/lang/String", "charAt", "(I)C"⟩
def y_Str_isLatin1 : MethodName := ⟨"java/lang/String", "isLatin1", "()Z"⟩
def y_L1_charAt : MethodName := ⟨"java/lang/StringLatin1", "charAt", "([BI)C"⟩
def y_Str_checkIndex : MethodName := ⟨"java/lang/String", "checkIndex", "(II)V"⟩
def y_Pre_checkIndex : MethodName := ⟨"jdk/internal/util/Preconditions", "checkIndex", "(IILjava/util/function/BiFunction;)I"⟩
abbrev b_Str_length : ByteArray := prog_17_method_54_code
abbrev b_Str_coder : ByteArray := prog_17_method_152_code
abbrev b_Str_charAt : ByteArray := prog_17_method_56_code
abbrev b_Str_isLatin1 : ByteArray := prog_17_method_154_code
abbrev b_L1_charAt : ByteArray := prog_18_method_2_code
abbrev b_Str_checkIndex : ByteArray := prog_17_method_155_code
abbrev b_Pre_checkIndex : ByteArray := prog_21_method_11_code
theorem jb_Str_length : jcB y_Str_length b_Str_length 1 (some .int) 0 := ⟨jmem 114 (by decide +kernel) rfl, jmem 502 (by decide +kernel) rfl, ⟨by decide +kernel, by decide +kernel⟩, by decide +kernel⟩
theorem jb_Str_coder : jcB y_Str_coder b_Str_coder 1 (some .byte) 0 := ⟨jmem 114 (by decide +kernel) rfl, jmem 506 (by decide +kernel) rfl, ⟨by decide +kernel, by decide +kernel⟩, by decide +kernel⟩
theorem jb_Str_charAt : jcB y_Str_charAt b_Str_charAt 2 (some .char) 1 := ⟨jmem 114 (by decide +kernel) rfl, jmem 512 (by decide +kernel) rfl, ⟨by decide +kernel, by decide +kernel⟩, by decide +kernel⟩
theorem jb_Str_isLatin1 : jcB y_Str_isLatin1 b_Str_isLatin1 1 (some .boolean) 0 := ⟨jmem 114 (by decide +kernel) rfl, jmem 516 (by decide +kernel) rfl, ⟨by decide +kernel, by decide +kernel⟩, by decide +kernel⟩
theorem jb_L1_charAt : jcB y_L1_charAt b_L1_charAt 2 (some .char) 2 := ⟨jmem 115 (by decide +kernel) rfl, jmem 519 (by decide +kernel) rfl, ⟨by decide +kernel, by decide +kernel⟩, by decide +kernel⟩
theorem jb_Str_checkIndex : jcB y_Str_checkIndex b_Str_checkIndex 2 none 2 := ⟨jmem 114 (by decide +kernel) rfl, jmem 522 (by decide +kernel) rfl, ⟨by decide +kernel, by decide +kernel⟩, by decide +kernel⟩
theorem jb_Pre_checkIndex : jcB y_Pre_checkIndex b_Pre_checkIndex 3 (some .int) 3 := ⟨jmem 116 (by decide +kernel) rfl, jmem 527 (by decide +kernel) rfl, ⟨by decide +kernel, by decide +kernel⟩, by decide +kernel⟩
theorem cl_Read_195 : jcV "ChanceSteps$Reader" 195 y_Str_length b_Str_length 1 (some .int) 0 := ⟨jb_Str_length, jmem 500 (by decide +kernel) rfl, jmem 501 (by decide +kernel) rfl, jmem 499 (by decide +kernel) rfl⟩
theorem cl_Read_200 : jcV "ChanceSteps$Reader" 200 y_Str_charAt b_Str_charAt 2 (some .char) 1 := ⟨jb_Str_charAt, jmem 510 (by decide +kernel) rfl, jmem 511 (by decide +kernel) rfl, jmem 509 (by decide +kernel) rfl⟩
theorem cl_Str_335 : jcV "java/lang/String" 335 y_Str_coder b_Str_coder 1 (some .byte) 0 := ⟨jb_Str_coder, jmem 504 (by decide +kernel) rfl, jmem 505 (by decide +kernel) rfl, jmem 503 (by decide +kernel) rfl⟩
theorem cl_Str_492 : jcV "java/lang/String" 492 y_Str_isLatin1 b_Str_isLatin1 1 (some .boolean) 0 := ⟨jb_Str_isLatin1, jmem 514 (by decide +kernel) rfl, jmem 515 (by decide +kernel) rfl, jmem 513 (by decide +kernel) rfl⟩
theorem cl_Str_495 : jcS "java/lang/String" 495 y_L1_charAt b_L1_charAt 2 (some .char) 2 := ⟨jb_L1_charAt, jmem 518 (by decide +kernel) rfl, jmem 517 (by decide +kernel) rfl⟩
theorem cl_L1_9 : jcS "java/lang/StringLatin1" 9 y_Str_checkIndex b_Str_checkIndex 2 none 2 := ⟨jb_Str_checkIndex, jmem 521 (by decide +kernel) rfl, jmem 520 (by decide +kernel) rfl⟩
theorem cl_Str_1059 : jcS "java/lang/String" 1059 y_Pre_checkIndex b_Pre_checkIndex 3 (some .int) 3 := ⟨jb_Pre_checkIndex, jmem 526 (by decide +kernel) rfl, jmem 525 (by decide +kernel) rfl⟩
theorem fl_Str_9 : Cond.fieldLink "java/lang/String" 9 "java/lang/String" "value" "[B" ∈ jwd := jmem 1681 (by decide +kernel) rfl
theorem fl_Str_15 : Cond.fieldLink "java/lang/String" 15 "java/lang/String" "coder" "B" ∈ jwd := jmem 1682 (by decide +kernel) rfl
theorem fl_Str_38 : Cond.fieldLink "java/lang/String" 38 "java/lang/String" "COMPACT_STRINGS" "Z" ∈ jwd := jmem 507 (by decide +kernel) rfl
theorem fl_Str_1053 : Cond.fieldLink "java/lang/String" 1053 "jdk/internal/util/Preconditions" "SIOOBE_FORMATTER" "Ljava/util/function/BiFunction;" ∈ jwd := jmem 523 (by decide +kernel) rfl
def jsame (w : jW) (v0 : Option Value) : Option Value → jW → Prop := fun v w9 => v = v0 ∧ w9 = w
theorem c_Str_coder (l : Launch) (D : va_G) (B : Nat) (H0 : Heap) (w : jW) (i : Nat) (hi : i < 13) : jMet l D B H0 y_Str_coder b_Str_coder 1 (some .byte) 0 0 0 0 [.ref (jsK D i)] w (jsame w (some (.int 0))) := by
  refine j_met (by decide) (Nat.le_of_ble_eq_true rfl) (fun g C Rm Y E => ?_)
  show JJ g w 0 [(0, .ref (jsK D i))] []
  refine j_compact (idx := 38) C fl_Str_38 (by decide +kernel) ?_
  refine j_if_eq (off := 10) (tgt := 13) C (by decide +kernel) (by decide) (fun h => absurd h (by decide)) (fun _ => ?_)
  refine j_blk (b := [(6, .aload_n 0, .null)]) 7 [(0, .ref (jsK D i))] [.ref (jsK D i)] C (sblk_of (by decide +kernel)) rfl ?_
  refine j_coderK (idx := 15) C hi fl_Str_15 (by decide +kernel) ?_
  refine j_blk (b := [(10, .goto 4, .retAddr 14)]) 14 [(0, .ref (jsK D i))] [.int 0] C (sblk_of (by decide +kernel)) rfl ?_
  exact j_zret C Rm E rfl (by decide +kernel) ⟨rfl, rfl⟩ (Nat.le_refl _) (Nat.le_refl _)
theorem c_Str_isLatin1 (l : Launch) (D : va_G) (B : Nat) (H0 : Heap) (w : jW) (i : Nat) (hi : i < 13) : jMet l D B H0 y_Str_isLatin1 b_Str_isLatin1 1 (some .boolean) 0 0 0 0 [.ref (jsK D i)] w (jsame w (some (.int 1))) := by
  refine j_met (by decide) (Nat.le_of_ble_eq_true rfl) (fun g C Rm Y E => ?_)
  show JJ g w 0 [(0, .ref (jsK D i))] []
  refine j_compact (idx := 38) C fl_Str_38 (by decide +kernel) ?_
  refine j_if_eq (off := 14) (tgt := 17) C (by decide +kernel) (by decide) (fun h => absurd h (by decide)) (fun _ => ?_)
  refine j_blk (b := [(6, .aload_n 0, .null)]) 7 [(0, .ref (jsK D i))] [.ref (jsK D i)] C (sblk_of (by decide +kernel)) rfl ?_
  refine j_coderK (idx := 15) C hi fl_Str_15 (by decide +kernel) ?_
  refine j_if_ne (off := 7) (tgt := 17) C (by decide +kernel) (by decide) (fun h => absurd rfl h) (fun _ => ?_)
  refine j_blk (b := [(13, .iconst 1, .int 1), (14, .goto 4, .retAddr 18)]) 18 [(0, .ref (jsK D i))] [.int 1] C (sblk_of (by decide +kernel)) rfl ?_
  exact j_zret C Rm E rfl (by decide +kernel) ⟨rfl, rfl⟩ (Nat.le_refl _) (Nat.le_refl _)
theorem jlen_sh : ∀ i, i < 13 → nI (jlen.getD i 0) >>> ((0 : Int32) &&& 31) = nI (jlen.getD i 0) := by decide +kernel
theorem c_Str_length (l : Launch) (D : va_G) (B : Nat) (H0 : Heap) (w : jW) (i : Nat) (hi : i < 13) : jMet l D B H0 y_Str_length b_Str_length 1 (some .int) 1 40 0 0 [.ref (jsK D i)] w (jsame w (some (.int (nI (jlen.getD i 0))))) := by
  refine j_met (by decide) (Nat.le_of_ble_eq_true rfl) (fun g C Rm Y E => ?_)
  show JJ g w 0 [(0, .ref (jsK D i))] []
  refine j_blk (b := [(0, .aload_n 0, .null)]) 1 [(0, .ref (jsK D i))] [.ref (jsK D i)] C (sblk_of (by decide +kernel)) rfl ?_
  refine j_valueK (idx := 9) C hi fl_Str_9 (by decide +kernel) ?_
  refine j_lenK C hi (by decide +kernel) ?_
  refine j_blk (b := [(5, .aload_n 0, .null)]) 6 [(0, .ref (jsK D i))] [.ref (jsK D i), .int (nI (jlen.getD i 0))] C (sblk_of (by decide +kernel)) rfl ?_
  refine j_callVK (idx := 335) C Rm Y [] [.int (nI (jlen.getD i 0))] hi rfl (c_Str_coder l D B H0 w i hi) cl_Str_335 (by decide +kernel) rfl rfl (by show 1 + 0 ≤ 8; decide) ⟨by decide, by decide⟩ ⟨Nat.le_refl _, Nat.le_refl _⟩ (fun v w' hp => ?_)
  obtain ⟨rfl, rfl⟩ := hp
  show JJ g w' 9 [(0, .ref (jsK D i))] [.int 0, .int (nI (jlen.getD i 0))]
  refine j_blk (b := [(9, .ishr, .null)]) 10 [(0, .ref (jsK D i))] [.int (nI (jlen.getD i 0) >>> ((0 : Int32) &&& 31))] C (sblk_of (by decide +kernel)) rfl ?_
  rw [jlen_sh i hi]
  exact j_iret C Rm E (by decide +kernel) ⟨rfl, rfl⟩ (Nat.le_refl _) (Nat.le_refl _)
theorem c_Pre_checkIndex (l : Launch) (D : va_G) (B : Nat) (H0 : Heap) (w : jW) (x n : Int32) (v : Value) (hv : v = .null ∨ ∃ r : Nat, v = .ref r) (h0 : ¬ x < 0) (h1 : x < n) : jMet l D B H0 y_Pre_checkIndex b_Pre_checkIndex 3 (some .int) 0 0 0 0 [.int x, .int n, v] w (jsame w (some (.int x))) := by
  have hl : (lg_sl [.int x, .int n, v]).length ≤ 3 := by
    rcases hv with rfl | ⟨r, rfl⟩
    · exact Nat.le_of_ble_eq_true rfl
    · exact Nat.le_of_ble_eq_true rfl
  refine j_met (by decide) hl (fun g C Rm Y E => ?_)
  show JJ g w 0 [(0, .int x), (1, .int n), (2, v)] []
  refine j_blk (b := [(0, .iload_n 0, .null)]) 1 [(0, .int x), (1, .int n), (2, v)] [.int x] C (sblk_of (by decide +kernel)) rfl ?_
  refine j_if_lt (off := 8) (tgt := 9) C (by decide +kernel) (by decide) (fun h => absurd h h0) (fun _ => ?_)
  refine j_blk (b := [(4, .iload_n 0, .null), (5, .iload_n 1, .null)]) 6 [(0, .int x), (1, .int n), (2, v)] [.int n, .int x] C (sblk_of (by decide +kernel)) rfl ?_
  refine j_icmp_lt (off := 10) (tgt := 16) C (by decide +kernel) (by decide) (fun _ => ?_) (fun h => absurd h1 h)
  refine j_blk (b := [(16, .iload_n 0, .null)]) 17 [(0, .int x), (1, .int n), (2, v)] [.int x] C (sblk_of (by decide +kernel)) rfl ?_
  exact j_iret C Rm E (by decide +kernel) ⟨rfl, rfl⟩ (Nat.le_refl _) (Nat.le_refl _)
theorem c_Str_checkIndex (l : Launch) (D : va_G) (B : Nat) (H0 : Heap) (w : jW) (x n : Int32) (h0 : ¬ x < 0) (h1 : x < n) : jMet l D B H0 y_Str_checkIndex b_Str_checkIndex 2 none 1 40 0 0 [.int x, .int n] w (jsame w none) := by
  refine j_met (by decide) (Nat.le_of_ble_eq_true rfl) (fun g C Rm Y E => ?_)
  show JJ g w 0 [(0, .int x), (1, .int n)] []
  refine j_blk (b := [(0, .iload_n 0, .null), (1, .iload_n 1, .null)]) 2 [(0, .int x), (1, .int n)] [.int n, .int x] C (sblk_of (by decide +kernel)) rfl ?_
  refine j_form (idx := 1053) C fl_Str_1053 (by decide +kernel) (fun v hv => ?_)
  refine j_callS (idx := 1059) C Rm Y (As := [.int x, .int n, v]) [] (c_Pre_checkIndex l D B H0 w x n v hv h0 h1) cl_Str_1059 (by decide +kernel) rfl rfl (by decide) ⟨by decide, by decide⟩ ⟨Nat.le_refl _, Nat.le_refl _⟩ (fun v2 w' hp => ?_)
  obtain ⟨rfl, rfl⟩ := hp
  show JJ g w' 8 [(0, .int x), (1, .int n)] [.int x]
  refine j_blk (b := [(8, .pop, .null)]) 9 [(0, .int x), (1, .int n)] [] C (sblk_of (by decide +kernel)) rfl ?_
  exact j_vret C Rm E (by decide +kernel) ⟨rfl, rfl⟩ (Nat.le_refl _) (Nat.le_refl _)
theorem jbyt_ok : ∀ i, i < 13 → ∀ k, k < jlen.getD i 0 → ((((jbyt.getD i []).getD k 0 &&& 255).toUInt32 % 65536).toInt32 = (jbyt.getD i []).getD k 0 ∧ narrow .char (.int ((jbyt.getD i []).getD k 0)) = .int ((jbyt.getD i []).getD k 0)) ∧ jlen.getD i 0 < 20 := by decide +kernel
theorem c_L1_charAt (l : Launch) (D : va_G) (B : Nat) (H0 : Heap) (w : jW) (i k : Nat) (hi : i < 13) (hk : k < jlen.getD i 0) : jMet l D B H0 y_L1_charAt b_L1_charAt 2 (some .char) 2 80 0 0 [.ref (jsV D i), .int (nI k)] w (jsame w (some (.int ((jbyt.getD i []).getD k 0)))) := by
  obtain ⟨⟨e1, e2⟩, e3⟩ := jbyt_ok i hi k hk
  have k3 : (nI k).toInt = (k : Int) := nI_toInt (by omega)
  have l3 : (nI (jlen.getD i 0)).toInt = ((jlen.getD i 0 : Nat) : Int) := nI_toInt (by omega)
  have hk0 : ¬ nI k < 0 := fun h => by
    have := Int32.lt_iff_toInt_lt.mp h
    rw [k3] at this
    have z : (0 : Int32).toInt = 0 := rfl
    omega
  have hk1 : nI k < nI (jlen.getD i 0) := Int32.lt_iff_toInt_lt.mpr (by rw [k3, l3]; omega)
  refine j_met (by decide) (Nat.le_of_ble_eq_true rfl) (fun g C Rm Y E => ?_)
  show JJ g w 0 [(0, .ref (jsV D i)), (1, .int (nI k))] []
  refine j_blk (b := [(0, .iload_n 1, .null), (1, .aload_n 0, .null)]) 2 [(0, .ref (jsV D i)), (1, .int (nI k))] [.ref (jsV D i), .int (nI k)] C (sblk_of (by decide +kernel)) rfl ?_
  refine j_lenK C hi (by decide +kernel) ?_
  refine j_callS (idx := 9) C Rm Y (As := [.int (nI k), .int (nI (jlen.getD i 0))]) [] (c_Str_checkIndex l D B H0 w (nI k) (nI (jlen.getD i 0)) hk0 hk1) cl_L1_9 (by decide +kernel) rfl rfl (by decide) ⟨by decide, by decide⟩ ⟨Nat.le_refl _, Nat.le_refl _⟩ (fun v2 w' hp => ?_)
  obtain ⟨rfl, rfl⟩ := hp
  show JJ g w' 6 [(0, .ref (jsV D i)), (1, .int (nI k))] []
  refine j_blk (b := [(6, .aload_n 0, .null), (7, .iload_n 1, .null)]) 8 [(0, .ref (jsV D i)), (1, .int (nI k))] [.int (nI k), .ref (jsV D i)] C (sblk_of (by decide +kernel)) rfl ?_
  refine j_baldK C hi (vp_in_nI hk (by omega)) (by decide +kernel) ?_
  rw [nI_clampX (by omega)]
  refine j_blk (b := [(9, .sipush 255, .int 255), (12, .iand, .null)]) 13 [(0, .ref (jsV D i)), (1, .int (nI k))] [.int ((jbyt.getD i []).getD k 0 &&& 255)] C (sblk_of (by decide +kernel)) rfl ?_
  refine j_i2c C (by decide +kernel) e1 ?_
  exact j_zret C Rm E e2 (by decide +kernel) ⟨rfl, rfl⟩ (Nat.le_refl _) (Nat.le_refl _)
theorem c_Str_charAt (l : Launch) (D : va_G) (B : Nat) (H0 : Heap) (w : jW) (i k : Nat) (hi : i < 13) (hk : k < jlen.getD i 0) : jMet l D B H0 y_Str_charAt b_Str_charAt 2 (some .char) 3 120 0 0 [.ref (jsK D i), .int (nI k)] w (jsame w (some (.int ((jbyt.getD i []).getD k 0)))) := by
  obtain ⟨⟨e1, e2⟩, e3⟩ := jbyt_ok i hi k hk
  refine j_met (by decide) (Nat.le_of_ble_eq_true rfl) (fun g C Rm Y E => ?_)
  show JJ g w 0 [(0, .ref (jsK D i)), (1, .int (nI k))] []
  refine j_blk (b := [(0, .aload_n 0, .null)]) 1 [(0, .ref (jsK D i)), (1, .int (nI k))] [.ref (jsK D i)] C (sblk_of (by decide +kernel)) rfl ?_
  refine j_callVK (idx := 492) C Rm Y [] [] hi rfl (c_Str_isLatin1 l D B H0 w i hi) cl_Str_492 (by decide +kernel) rfl rfl (by decide) ⟨by decide, by decide⟩ ⟨Nat.le_refl _, Nat.le_refl _⟩ (fun v w' hp => ?_)
  obtain ⟨rfl, rfl⟩ := hp
  show JJ g w' 4 [(0, .ref (jsK D i)), (1, .int (nI k))] [.int 1]
  refine j_if_eq (off := 12) (tgt := 16) C (by decide +kernel) (by decide) (fun h => absurd h (by decide)) (fun _ => ?_)
  refine j_blk (b := [(7, .aload_n 0, .null)]) 8 [(0, .ref (jsK D i)), (1, .int (nI k))] [.ref (jsK D i)] C (sblk_of (by decide +kernel)) rfl ?_
  refine j_valueK (idx := 9) C hi fl_Str_9 (by decide +kernel) ?_
  refine j_blk (b := [(11, .iload_n 1, .null)]) 12 [(0, .ref (jsK D i)), (1, .int (nI k))] [.int (nI k), .ref (jsV D i)] C (sblk_of (by decide +kernel)) rfl ?_
  refine j_callS (idx := 495) C Rm Y (As := [.ref (jsV D i), .int (nI k)]) [] (c_L1_charAt l D B H0 w' i k hi hk) cl_Str_495 (by decide +kernel) rfl rfl (by decide) ⟨by decide, by decide⟩ ⟨Nat.le_refl _, Nat.le_refl _⟩ (fun v2 w9 hp => ?_)
  obtain ⟨rfl, rfl⟩ := hp
  show JJ g w9 15 [(0, .ref (jsK D i)), (1, .int (nI k))] [.int ((jbyt.getD i []).getD k 0)]
  exact j_zret C Rm E e2 (by decide +kernel) ⟨rfl, rfl⟩ (Nat.le_refl _) (Nat.le_refl _)
