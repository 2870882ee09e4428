/-! THE J LAYER: the block runner (own work). An entry of a block: place, instruction, and what it brings (a constant; a jump's goal as .retAddr) -/
abbrev jE : Type := Nat × Instr × Value
def slen : Instr → Nat
  | .bipush _ => 2
  | .sipush _ => 3
  | .iload _ => 2
  | .lload _ => 2
  | .aload _ => 2
  | .istore _ => 2
  | .lstore _ => 2
  | .astore _ => 2
  | .iinc _ _ => 3
  | .goto _ => 3
  | _ => 1
def scst (pc : Nat) (i : Instr) (v : Value) : Bool := match i with
  | .iconst n => decide (Value.int (Int32.ofInt n) = v)
  | .bipush n => decide (Value.int (Int8.ofInt n).toInt32 = v)
  | .sipush n => decide (Value.int (Int16.ofInt n).toInt32 = v)
  | .lconst n => decide (Value.long (Int64.ofNat (n : Nat)) = v)
  | .iinc _ n => decide (Value.int (Int32.ofInt n) = v)
  | .goto off => match v with
    | .retAddr t => decide ((pc : Int) + off = (t : Int))
    | _ => false
  | _ => true
def sok (cc : ByteArray) (q : jE) : Prop := decode cc q.1 = .ok (q.2.1, slen q.2.1) ∧ scst q.1 q.2.1 q.2.2 = true
/-- a block is as the bytes say -/
def sblk (cc : ByteArray) : List jE → Prop
  | [] => True
  | q :: l => sok cc q ∧ sblk cc l
abbrev jR : Type := Nat × List (Nat × Value) × List Value
def sld (L : List (Nat × Value)) (pc k : Nat) (st : List Value) : Option jR := match jlk L k with
  | some v => some (pc, L, v :: st)
  | none => none
def sist (nL k pc : Nat) (L : List (Nat × Value)) (st : List Value) : Option jR := match Nat.blt k nL with
  | true => (match st with
    | .int x :: r => some (pc, jst L k (.int x), r)
    | _ => none)
  | false => none
def slst (nL k pc : Nat) (L : List (Nat × Value)) (st : List Value) : Option jR := match Nat.blt (k + 1) nL with
  | true => (match st with
    | .long x :: r => some (pc, jst2 L k (.long x), r)
    | _ => none)
  | false => none
def sast (nL k pc : Nat) (L : List (Nat × Value)) (st : List Value) : Option jR := match Nat.blt k nL with
  | true => (match st with
    | .ref x :: r => some (pc, jst L k (.ref x), r)
    | .null :: r => some (pc, jst L k .null, r)
    | _ => none)
  | false => none
def sild (L : List (Nat × Value)) (pc k : Nat) (st : List Value) : Option jR := match jlk L k with
  | some (.int x) => some (pc, L, .int x :: st)
  | _ => none
def slld (L : List (Nat × Value)) (pc k : Nat) (st : List Value) : Option jR := match jlk L k with
  | some (.long x) => some (pc, L, .long x :: st)
  | _ => none
def sald (L : List (Nat × Value)) (pc k : Nat) (st : List Value) : Option jR := match jlk L k with
  | some (.ref x) => some (pc, L, .ref x :: st)
  | some .null => some (pc, L, .null :: st)
  | _ => none
def sb32 (f : Int32 → Int32 → Int32) (pc : Nat) (L : List (Nat × Value)) (st : List Value) : Option jR := match st with
  | .int y :: .int x :: r => some (pc, L, .int (f x y) :: r)
  | _ => none
def sb64 (f : Int64 → Int64 → Int64) (pc : Nat) (L : List (Nat × Value)) (st : List Value) : Option jR := match st with
  | .long y :: .long x :: r => some (pc, L, .long (f x y) :: r)
  | _ => none
def su32 (f : Int32 → Value) (pc : Nat) (L : List (Nat × Value)) (st : List Value) : Option jR := match st with
  | .int x :: r => some (pc, L, f x :: r)
  | _ => none
def su64 (f : Int64 → Value) (pc : Nat) (L : List (Nat × Value)) (st : List Value) : Option jR := match st with
  | .long x :: r => some (pc, L, f x :: r)
  | _ => none
def sx (nL pc : Nat) (i : Instr) (v : Value) (L : List (Nat × Value)) (st : List Value) : Option jR := match i with
  | .iconst _ => some (pc + 1, L, v :: st)
  | .bipush _ => some (pc + 2, L, v :: st)
  | .sipush _ => some (pc + 3, L, v :: st)
  | .lconst _ => some (pc + 1, L, v :: st)
  | .aconst_null => some (pc + 1, L, .null :: st)
  | .iload k => sild L (pc + 2) k st
  | .iload_n k => sild L (pc + 1) k.1 st
  | .lload k => slld L (pc + 2) k st
  | .lload_n k => slld L (pc + 1) k.1 st
  | .aload k => sald L (pc + 2) k st
  | .aload_n k => sald L (pc + 1) k.1 st
  | .istore k => sist nL k (pc + 2) L st
  | .istore_n k => sist nL k.1 (pc + 1) L st
  | .lstore k => slst nL k (pc + 2) L st
  | .lstore_n k => slst nL k.1 (pc + 1) L st
  | .astore k => sast nL k (pc + 2) L st
  | .astore_n k => sast nL k.1 (pc + 1) L st
  | .iinc k _ => (match Nat.blt k nL with
    | true => (match jlk L k with
      | some (.int x) => (match v with
        | .int c => some (pc + 3, jst L k (.int (x + c)), st)
        | _ => none)
      | _ => none)
    | false => none)
  | .iadd => sb32 (fun x y => x + y) (pc + 1) L st
  | .isub => sb32 (fun x y => x - y) (pc + 1) L st
  | .imul => sb32 (fun x y => x * y) (pc + 1) L st
  | .iand => sb32 (fun x y => x &&& y) (pc + 1) L st
  | .ior => sb32 (fun x y => x ||| y) (pc + 1) L st
  | .ixor => sb32 (fun x y => x ^^^ y) (pc + 1) L st
  | .ishl => sb32 (fun x y => x <<< (y &&& 31)) (pc + 1) L st
  | .ishr => sb32 (fun x y => x >>> (y &&& 31)) (pc + 1) L st
  | .iushr => sb32 (fun x y => (x.toUInt32 >>> (y.toUInt32 &&& Int32.toUInt32 31)).toInt32) (pc + 1) L st
  | .ineg => su32 (fun x => .int (-x)) (pc + 1) L st
  | .ladd => sb64 (fun x y => x + y) (pc + 1) L st
  | .lsub => sb64 (fun x y => x - y) (pc + 1) L st
  | .lmul => sb64 (fun x y => x * y) (pc + 1) L st
  | .land => sb64 (fun x y => x &&& y) (pc + 1) L st
  | .lshr => (match st with
    | .int y :: .long x :: r => some (pc + 1, L, .long (x >>> (y.toInt64 &&& 63)) :: r)
    | _ => none)
  | .i2l => su32 (fun x => .long x.toInt64) (pc + 1) L st
  | .l2i => su64 (fun x => .int x.toInt32) (pc + 1) L st
  | .i2b => su32 (fun x => .int x.toInt8.toInt32) (pc + 1) L st
  | .dup => (match st with
    | .int x :: r => some (pc + 1, L, .int x :: .int x :: r)
    | .ref x :: r => some (pc + 1, L, .ref x :: .ref x :: r)
    | .null :: r => some (pc + 1, L, .null :: .null :: r)
    | _ => none)
  | .dup2 => (match st with
    | .int x :: .int y :: r => some (pc + 1, L, .int x :: .int y :: .int x :: .int y :: r)
    | .int x :: .ref y :: r => some (pc + 1, L, .int x :: .ref y :: .int x :: .ref y :: r)
    | _ => none)
  | .pop => (match st with
    | .int _ :: r => some (pc + 1, L, r)
    | .ref _ :: r => some (pc + 1, L, r)
    | .null :: r => some (pc + 1, L, r)
    | _ => none)
  | .pop2 => (match st with
    | .long _ :: r => some (pc + 1, L, r)
    | _ => none)
  | .goto _ => (match v with
    | .retAddr t => some (t, L, st)
    | _ => none)
  | _ => none
/-- a block; at each entry the place must be its own -/
def sxs (nL : Nat) : List jE → Nat → List (Nat × Value) → List Value → Option jR
  | [], pc, L, st => some (pc, L, st)
  | q :: r, pc, L, st => match Nat.beq q.1 pc with
    | true => (match sx nL q.1 q.2.1 q.2.2 L st with
      | some z => sxs nL r z.1 z.2.1 z.2.2
      | none => none)
    | false => none
section SX
variable {g : jG} {w : jW} {nL pc pc' : Nat} {L L' : List (Nat × Value)} {st st' : List Value}
theorem sild_ok {k a : Nat} {st' : List Value} (h : sild L a k st = some (pc', L', st')) : ∃ x, jlk L k = some (.int x) ∧ pc' = a ∧ L' = L ∧ st' = .int x :: st := by
  unfold sild at h
  split at h
  · rename_i x hx; cases h; exact ⟨x, hx, rfl, rfl, rfl⟩
  · cases h
theorem slld_ok {k a : Nat} {st' : List Value} (h : slld L a k st = some (pc', L', st')) : ∃ x, jlk L k = some (.long x) ∧ pc' = a ∧ L' = L ∧ st' = .long x :: st := by
  unfold slld at h
  split at h
  · rename_i x hx; cases h; exact ⟨x, hx, rfl, rfl, rfl⟩
  · cases h
theorem sald_ok {k a : Nat} {st' : List Value} (h : sald L a k st = some (pc', L', st')) : (∃ x, jlk L k = some (.ref x) ∧ pc' = a ∧ L' = L ∧ st' = .ref x :: st) ∨ (jlk L k = some .null ∧ pc' = a ∧ L' = L ∧ st' = .null :: st) := by
  unfold sald at h
  split at h
  · rename_i x hx; cases h; exact Or.inl ⟨x, hx, rfl, rfl, rfl⟩
  · rename_i hx; cases h; exact Or.inr ⟨hx, rfl, rfl, rfl⟩
  · cases h
theorem sist_ok {k a : Nat} (h : sist nL k a L st = some (pc', L', st')) : ∃ x, k < nL ∧ st = .int x :: st' ∧ pc' = a ∧ L' = jst L k (.int x) := by
  unfold sist at h
  split at h
  · rename_i hb
    split at h
    · cases h; exact ⟨_, Nat.blt_eq.mp hb, rfl, rfl, rfl⟩
    · cases h
  · cases h
theorem slst_ok {k a : Nat} (h : slst nL k a L st = some (pc', L', st')) : ∃ x, k + 1 < nL ∧ st = .long x :: st' ∧ pc' = a ∧ L' = jst2 L k (.long x) := by
  unfold slst at h
  split at h
  · rename_i hb
    split at h
    · cases h; exact ⟨_, Nat.blt_eq.mp hb, rfl, rfl, rfl⟩
    · cases h
  · cases h
theorem sast_ok {k a : Nat} (h : sast nL k a L st = some (pc', L', st')) : k < nL ∧ ((∃ x, st = .ref x :: st' ∧ pc' = a ∧ L' = jst L k (.ref x)) ∨ (st = .null :: st' ∧ pc' = a ∧ L' = jst L k .null)) := by
  unfold sast at h
  split at h
  · rename_i hb
    split at h
    · cases h; exact ⟨Nat.blt_eq.mp hb, Or.inl ⟨_, rfl, rfl, rfl⟩⟩
    · cases h; exact ⟨Nat.blt_eq.mp hb, Or.inr ⟨rfl, rfl, rfl⟩⟩
    · cases h
  · cases h
theorem sb32_ok {f : Int32 → Int32 → Int32} {a : Nat} (h : sb32 f a L st = some (pc', L', st')) : ∃ x y r, st = .int y :: .int x :: r ∧ pc' = a ∧ L' = L ∧ st' = .int (f x y) :: r := by
  unfold sb32 at h
  split at h
  · cases h; exact ⟨_, _, _, rfl, rfl, rfl, rfl⟩
  · cases h
theorem sb64_ok {f : Int64 → Int64 → Int64} {a : Nat} (h : sb64 f a L st = some (pc', L', st')) : ∃ x y r, st = .long y :: .long x :: r ∧ pc' = a ∧ L' = L ∧ st' = .long (f x y) :: r := by
  unfold sb64 at h
  split at h
  · cases h; exact ⟨_, _, _, rfl, rfl, rfl, rfl⟩
  · cases h
theorem su32_ok {f : Int32 → Value} {a : Nat} (h : su32 f a L st = some (pc', L', st')) : ∃ x r, st = .int x :: r ∧ pc' = a ∧ L' = L ∧ st' = f x :: r := by
  unfold su32 at h
  split at h
  · cases h; exact ⟨_, _, rfl, rfl, rfl, rfl⟩
  · cases h
theorem su64_ok {f : Int64 → Value} {a : Nat} (h : su64 f a L st = some (pc', L', st')) : ∃ x r, st = .long x :: r ∧ pc' = a ∧ L' = L ∧ st' = f x :: r := by
  unfold su64 at h
  split at h
  · cases h; exact ⟨_, _, rfl, rfl, rfl, rfl⟩
  · cases h
end SX
section SXO
variable {g : jG} {w : jW} {nL pc pc' : Nat} {L L' : List (Nat × Value)} {st st' : List Value}
set_option maxHeartbeats 4000000 in
theorem sx_ok (C : jC g) (hn : jGL g = nL) {i : Instr} {v : Value} (hd : decode (jGo g) pc = .ok (i, slen i)) (hc : scst pc i v = true) (h : sx nL pc i v L st = some (pc', L', st')) (kk : JJ g w pc' L' st') : JJ g w pc L st := by
  cases i with
  | iconst n =>
    simp only [sx] at h; cases h
    simp only [scst, decide_eq_true_eq] at hc
    exact j1_iconst C hd hc kk
  | bipush n =>
    simp only [sx] at h; cases h
    simp only [scst, decide_eq_true_eq] at hc
    exact j1_bipush C hd hc kk
  | sipush n =>
    simp only [sx] at h; cases h
    simp only [scst, decide_eq_true_eq] at hc
    exact j1_sipush C hd hc kk
  | lconst n =>
    simp only [sx] at h; cases h
    simp only [scst, decide_eq_true_eq] at hc
    exact j1_lconst C hd hc kk
  | aconst_null =>
    simp only [sx] at h; cases h
    exact j1_aconst_null C hd kk
  | iload k =>
    obtain ⟨x, h1, rfl, rfl, rfl⟩ := sild_ok h
    exact j1_iload C hd h1 kk
  | iload_n k =>
    obtain ⟨x, h1, rfl, rfl, rfl⟩ := sild_ok h
    exact j1_iload_n C hd h1 kk
  | lload k =>
    obtain ⟨x, h1, rfl, rfl, rfl⟩ := slld_ok h
    exact j1_lload C hd h1 kk
  | lload_n k =>
    obtain ⟨x, h1, rfl, rfl, rfl⟩ := slld_ok h
    exact j1_lload_n C hd h1 kk
  | aload k =>
    rcases sald_ok h with ⟨x, h1, rfl, rfl, rfl⟩ | ⟨h1, rfl, rfl, rfl⟩
    · exact j1_aload C hd h1 kk
    · exact j1_aloadN C hd h1 kk
  | aload_n k =>
    rcases sald_ok h with ⟨x, h1, rfl, rfl, rfl⟩ | ⟨h1, rfl, rfl, rfl⟩
    · exact j1_aload_n C hd h1 kk
    · exact j1_aload_nN C hd h1 kk
  | istore k =>
    obtain ⟨x, h1, rfl, rfl, rfl⟩ := sist_ok h
    exact j1_istore C hn hd h1 kk
  | istore_n k =>
    obtain ⟨x, h1, rfl, rfl, rfl⟩ := sist_ok h
    exact j1_istore_n C hn hd h1 kk
  | lstore k =>
    obtain ⟨x, h1, rfl, rfl, rfl⟩ := slst_ok h
    exact j1_lstore C hn hd h1 kk
  | lstore_n k =>
    obtain ⟨x, h1, rfl, rfl, rfl⟩ := slst_ok h
    exact j1_lstore_n C hn hd h1 kk
  | astore k =>
    obtain ⟨h0, h1⟩ := sast_ok h
    rcases h1 with ⟨x, rfl, rfl, rfl⟩ | ⟨rfl, rfl, rfl⟩
    · exact j1_astore C hn hd h0 kk
    · exact j1_astoreN C hn hd h0 kk
  | astore_n k =>
    obtain ⟨h0, h1⟩ := sast_ok h
    rcases h1 with ⟨x, rfl, rfl, rfl⟩ | ⟨rfl, rfl, rfl⟩
    · exact j1_astore_n C hn hd h0 kk
    · exact j1_astore_nN C hn hd h0 kk
  | iinc k n =>
    simp only [sx] at h
    split at h
    · rename_i hb
      split at h
      · rename_i x hx
        split at h
        · cases h
          simp only [scst, decide_eq_true_eq, Value.int.injEq] at hc
          exact j1_iinc C hn hd hc (Nat.blt_eq.mp hb) hx kk
        · cases h
      · cases h
    · cases h
  | iadd =>
    obtain ⟨x, y, r, rfl, rfl, rfl, rfl⟩ := sb32_ok h
    exact j1_iadd C hd kk
  | isub =>
    obtain ⟨x, y, r, rfl, rfl, rfl, rfl⟩ := sb32_ok h
    exact j1_isub C hd kk
  | imul =>
    obtain ⟨x, y, r, rfl, rfl, rfl, rfl⟩ := sb32_ok h
    exact j1_imul C hd kk
  | iand =>
    obtain ⟨x, y, r, rfl, rfl, rfl, rfl⟩ := sb32_ok h
    exact j1_iand C hd kk
  | ior =>
    obtain ⟨x, y, r, rfl, rfl, rfl, rfl⟩ := sb32_ok h
    exact j1_ior C hd kk
  | ixor =>
    obtain ⟨x, y, r, rfl, rfl, rfl, rfl⟩ := sb32_ok h
    exact j1_ixor C hd kk
  | ishl =>
    obtain ⟨x, y, r, rfl, rfl, rfl, rfl⟩ := sb32_ok h
    exact j1_ishl C hd kk
  | ishr =>
    obtain ⟨x, y, r, rfl, rfl, rfl, rfl⟩ := sb32_ok h
    exact j1_ishr C hd kk
  | iushr =>
    obtain ⟨x, y, r, rfl, rfl, rfl, rfl⟩ := sb32_ok h
    exact j1_iushr C hd kk
  | ladd =>
    obtain ⟨x, y, r, rfl, rfl, rfl, rfl⟩ := sb64_ok h
    exact j1_ladd C hd kk
  | lsub =>
    obtain ⟨x, y, r, rfl, rfl, rfl, rfl⟩ := sb64_ok h
    exact j1_lsub C hd kk
  | lmul =>
    obtain ⟨x, y, r, rfl, rfl, rfl, rfl⟩ := sb64_ok h
    exact j1_lmul C hd kk
  | land =>
    obtain ⟨x, y, r, rfl, rfl, rfl, rfl⟩ := sb64_ok h
    exact j1_land C hd kk
  | ineg =>
    obtain ⟨x, r, rfl, rfl, rfl, rfl⟩ := su32_ok h
    exact j1_ineg C hd kk
  | i2l =>
    obtain ⟨x, r, rfl, rfl, rfl, rfl⟩ := su32_ok h
    exact j1_i2l C hd kk
  | i2b =>
    obtain ⟨x, r, rfl, rfl, rfl, rfl⟩ := su32_ok h
    exact j1_i2b C hd kk
  | l2i =>
    obtain ⟨x, r, rfl, rfl, rfl, rfl⟩ := su64_ok h
    exact j1_l2i C hd kk
  | lshr =>
    simp only [sx] at h
    split at h
    · cases h; exact j1_lshr C hd kk
    · cases h
  | dup =>
    simp only [sx] at h
    split at h
    · cases h; exact j1_dup C hd rfl kk
    · cases h; exact j1_dup C hd rfl kk
    · cases h; exact j1_dup C hd rfl kk
    · cases h
  | dup2 =>
    simp only [sx] at h
    split at h
    · cases h; exact j1_dup2 C hd rfl rfl kk
    · cases h; exact j1_dup2 C hd rfl rfl kk
    · cases h
  | pop =>
    simp only [sx] at h
    split at h
    · cases h; exact j1_pop C hd rfl kk
    · cases h; exact j1_pop C hd rfl kk
    · cases h; exact j1_pop C hd rfl kk
    · cases h
  | pop2 =>
    simp only [sx] at h
    split at h
    · cases h; exact j1_pop2 C hd rfl kk
    · cases h
  | goto n =>
    simp only [sx] at h
    split at h
    · cases h
      simp only [scst, decide_eq_true_eq] at hc
      exact j1_goto C hd hc kk
    · cases h
  | _ => simp only [sx] at h; cases h
theorem sxs_ok (C : jC g) (hn : jGL g = nL) : ∀ (b : List jE) (pc : Nat) (L : List (Nat × Value)) (st : List Value), sblk (jGo g) b → sxs nL b pc L st = some (pc', L', st') → JJ g w pc' L' st' → JJ g w pc L st
  | [], pc, L, st, _, h, kk => by
    simp only [sxs] at h; cases h; exact kk
  | q :: r, pc, L, st, hb, h, kk => by
    simp only [sxs] at h
    split at h
    · rename_i hq
      have hq := Nat.eq_of_beq_eq_true hq
      subst hq
      split at h
      · rename_i z hz
        obtain ⟨a, b, c⟩ := z
        exact sx_ok C hn hb.1.1 hb.1.2 hz (sxs_ok C hn r _ _ _ hb.2 h kk)
      · cases h
    · cases h
/-- A BLOCK -/
theorem j_run {b : List jE} {cc : ByteArray} (pc' : Nat) (L' : List (Nat × Value)) (st' : List Value) (C : jC g) (hn : jGL g = nL) (hcc : jGo g = cc) (hb : sblk cc b) (h : sxs nL b pc L st = some (pc', L', st')) (kk : JJ g w pc' L' st') : JJ g w pc L st := sxs_ok C hn b pc L st (by rw [hcc]; exact hb) h kk
end SXO
def sblkB (cc : ByteArray) (b : List jE) : Bool := b.all (fun q => decide (decode cc q.1 = .ok (q.2.1, slen q.2.1)) && scst q.1 q.2.1 q.2.2)
theorem sblk_of {cc : ByteArray} : ∀ {b : List jE}, sblkB cc b = true → sblk cc b
  | [], _ => trivial
  | q :: r, h => by
    simp only [sblkB, List.all_cons, Bool.and_eq_true, decide_eq_true_eq] at h
    exact ⟨h.1, sblk_of (b := r) (by simp only [sblkB]; exact h.2)⟩
