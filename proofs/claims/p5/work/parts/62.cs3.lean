/-! the class at its start, typed (own work, by program) -/
abbrev csN (x tp pg sh rd wk f1 f2 x1 c1 c2 c3 c4 sp s0 e0 s1 e1 s2 e2 s3 e3 : Nat) : List (Nat × Nat) := (x, 8) :: (tp, 20) :: (pg, 21) :: (sh, 22) :: (rd, 3) :: (wk, 7) :: (f1, 23) :: (f2, 23) :: (x1, 1) :: (c1, 31) :: (c2, 32) :: (c3, 33) :: (c4, 31) :: (sp, 35) :: (s0, 5) :: (e0, 24) :: (s1, 5) :: (e1, 24) :: (s2, 5) :: (e2, 24) :: (s3, 5) :: (e3, 24) :: []
theorem cs_typed {D : va_G} {w : jW} {x tp pg sh rd wk f1 f2 x1 c1 c2 c3 c4 sp s0 e0 s1 e1 s2 e2 s3 e3 : Nat} {V9 Vr Vw Vm V20 V21 V22 V23 : Nat → Value} {F : Nat → Option Nat} (m_x : w.1 x = some (.inr (8, V9))) (m_tp : w.1 tp = some (aI D 120 (fun _ => 0))) (m_pg : w.1 pg = some (aR D 8 6 (fun _ => none))) (m_sh : w.1 sh = some (aR D 9 4 F)) (m_rd : w.1 rd = some (.inr (3, Vr))) (m_wk : w.1 wk = some (.inr (7, Vw))) (m_f1 : w.1 f1 = some (aJ D 10 (fun _ => 0))) (m_f2 : w.1 f2 = some (aJ D 10 (fun _ => 0))) (m_x1 : w.1 x1 = some (.inr (1, Vm))) (m_c1 : w.1 c1 = some (aI D 300 (fun _ => 0))) (m_c2 : w.1 c2 = some (aJ D 300 (fun _ => 0))) (m_c3 : w.1 c3 = some (aI D 1024 (fun _ => 0))) (m_c4 : w.1 c4 = some (aI D 300 (fun _ => 0))) (m_sp : w.1 sp = some (aR D 7 40 (fun _ => none))) (m_s0 : w.1 s0 = some (.inr (5, V20))) (m_e0 : w.1 e0 = some (aI D 40 (fun _ => 0))) (m_s1 : w.1 s1 = some (.inr (5, V21))) (m_e1 : w.1 e1 = some (aI D 40 (fun _ => 0))) (m_s2 : w.1 s2 = some (.inr (5, V22))) (m_e2 : w.1 e2 = some (aI D 40 (fun _ => 0))) (m_s3 : w.1 s3 = some (.inr (5, V23))) (m_e3 : w.1 e3 = some (aI D 40 (fun _ => 0))) (hx0 : V9 0 = .ref tp) (hx1 : V9 1 = v0_8 1) (hx2 : V9 2 = .ref pg) (hx3 : V9 3 = v0_8 3) (hx4 : V9 4 = v0_8 4) (hx5 : V9 5 = v0_8 5) (hx6 : V9 6 = v0_8 6) (hx7 : V9 7 = v0_8 7) (hx8 : V9 8 = .ref sh) (hx9 : V9 9 = .ref rd) (hx10 : V9 10 = .ref wk) (hx11 : V9 11 = .ref f1) (hx12 : V9 12 = .ref f2) (hr0 : Vr 0 = .null) (hr1 : Vr 1 = .int 0) (hr2 : Vr 2 = .null) (hr3 : Vr 3 = .int 0) (hr4 : Vr 4 = .int 0) (hr5 : Vr 5 = .int 0) (hr6 : Vr 6 = .int 0) (hr7 : Vr 7 = .int 0) (hr8 : Vr 8 = .int 0) (hw0 : Vw 0 = .ref x1) (hw1 : Vw 1 = .ref sp) (hw2 : Vw 2 = .int 0) (hw3 : Vw 3 = .int 0) (hm0 : Vm 0 = .ref c1) (hm1 : Vm 1 = .ref c2) (hm2 : Vm 2 = .int 0) (hm3 : Vm 3 = .ref c3) (hm4 : Vm 4 = .ref c4) (h0s0 : V20 0 = .ref e0) (h0s1 : V20 1 = .int (-1)) (h0s2 : V20 2 = .int 0) (h1s0 : V21 0 = .ref e1) (h1s1 : V21 1 = .int (-1)) (h1s2 : V21 2 = .int 0) (h2s0 : V22 0 = .ref e2) (h2s1 : V22 1 = .int (-1)) (h2s2 : V22 2 = .int 0) (h3s0 : V23 0 = .ref e3) (h3s1 : V23 1 = .int (-1)) (h3s2 : V23 2 = .int 0) (F0 : F 0 = some s0) (F1 : F 1 = some s1) (F2 : F 2 = some s2) (F3 : F 3 = some s3) (hk1 : w.2.1 + 294 ≤ KC) (hk2 : w.2.2 + 32218 ≤ KS) : (∀ G, ∀ p ∈ csN x tp pg sh rd wk f1 f2 x1 c1 c2 c3 c4 sp s0 e0 s1 e1 s2 e2 s3 e3, gext (csN x tp pg sh rd wk f1 f2 x1 c1 c2 c3 c4 sp s0 e0 s1 e1 s2 e2 s3 e3) G p.1 = some p.2) ∧ WOK D (gext (csN x tp pg sh rd wk f1 f2 x1 c1 c2 c3 c4 sp s0 e0 s1 e1 s2 e2 s3 e3) (fun _ => none)) w ∧ bud (gext (csN x tp pg sh rd wk f1 f2 x1 c1 c2 c3 c4 sp s0 e0 s1 e1 s2 e2 s3 e3) (fun _ => none)) w := by
  have hsh : ∀ p ∈ csN x tp pg sh rd wk f1 f2 x1 c1 c2 c3 c4 sp s0 e0 s1 e1 s2 e2 s3 e3, tshp (w.1 p.1) = p.2 := (List.forall_mem_cons.mpr ⟨(by show tshp (w.1 x) = 8; rw [m_x]; rfl), (List.forall_mem_cons.mpr ⟨(by show tshp (w.1 tp) = 20; rw [m_tp]; rfl), (List.forall_mem_cons.mpr ⟨(by show tshp (w.1 pg) = 21; rw [m_pg]; rfl), (List.forall_mem_cons.mpr ⟨(by show tshp (w.1 sh) = 22; rw [m_sh]; rfl), (List.forall_mem_cons.mpr ⟨(by show tshp (w.1 rd) = 3; rw [m_rd]; rfl), (List.forall_mem_cons.mpr ⟨(by show tshp (w.1 wk) = 7; rw [m_wk]; rfl), (List.forall_mem_cons.mpr ⟨(by show tshp (w.1 f1) = 23; rw [m_f1]; rfl), (List.forall_mem_cons.mpr ⟨(by show tshp (w.1 f2) = 23; rw [m_f2]; rfl), (List.forall_mem_cons.mpr ⟨(by show tshp (w.1 x1) = 1; rw [m_x1]; rfl), (List.forall_mem_cons.mpr ⟨(by show tshp (w.1 c1) = 31; rw [m_c1]; rfl), (List.forall_mem_cons.mpr ⟨(by show tshp (w.1 c2) = 32; rw [m_c2]; rfl), (List.forall_mem_cons.mpr ⟨(by show tshp (w.1 c3) = 33; rw [m_c3]; rfl), (List.forall_mem_cons.mpr ⟨(by show tshp (w.1 c4) = 31; rw [m_c4]; rfl), (List.forall_mem_cons.mpr ⟨(by show tshp (w.1 sp) = 35; rw [m_sp]; rfl), (List.forall_mem_cons.mpr ⟨(by show tshp (w.1 s0) = 5; rw [m_s0]; rfl), (List.forall_mem_cons.mpr ⟨(by show tshp (w.1 e0) = 24; rw [m_e0]; rfl), (List.forall_mem_cons.mpr ⟨(by show tshp (w.1 s1) = 5; rw [m_s1]; rfl), (List.forall_mem_cons.mpr ⟨(by show tshp (w.1 e1) = 24; rw [m_e1]; rfl), (List.forall_mem_cons.mpr ⟨(by show tshp (w.1 s2) = 5; rw [m_s2]; rfl), (List.forall_mem_cons.mpr ⟨(by show tshp (w.1 e2) = 24; rw [m_e2]; rfl), (List.forall_mem_cons.mpr ⟨(by show tshp (w.1 s3) = 5; rw [m_s3]; rfl), (List.forall_mem_cons.mpr ⟨(by show tshp (w.1 e3) = 24; rw [m_e3]; rfl), (fun _ h => absurd h List.not_mem_nil)⟩)⟩)⟩)⟩)⟩)⟩)⟩)⟩)⟩)⟩)⟩)⟩)⟩)⟩)⟩)⟩)⟩)⟩)⟩)⟩)⟩)⟩)
  have hg := newcells (f9 := fun a => tshp (w.1 a)) hsh
  have tl : ∀ {a : Nat × Nat} {l : List (Nat × Nat)}, (∀ p ∈ a :: l, ∀ G, gext (csN x tp pg sh rd wk f1 f2 x1 c1 c2 c3 c4 sp s0 e0 s1 e1 s2 e2 s3 e3) G p.1 = some p.2) → (∀ G, gext (csN x tp pg sh rd wk f1 f2 x1 c1 c2 c3 c4 sp s0 e0 s1 e1 s2 e2 s3 e3) G a.1 = some a.2) ∧ ∀ p ∈ l, ∀ G, gext (csN x tp pg sh rd wk f1 f2 x1 c1 c2 c3 c4 sp s0 e0 s1 e1 s2 e2 s3 e3) G p.1 = some p.2 := fun h => ⟨h _ List.mem_cons_self, fun p hp => h p (List.mem_cons_of_mem _ hp)⟩
  obtain ⟨g_x, t0⟩ := tl (fun p hp G => hg G p hp)
  obtain ⟨g_tp, t1⟩ := tl t0
  obtain ⟨g_pg, t2⟩ := tl t1
  obtain ⟨g_sh, t3⟩ := tl t2
  obtain ⟨g_rd, t4⟩ := tl t3
  obtain ⟨g_wk, t5⟩ := tl t4
  obtain ⟨g_f1, t6⟩ := tl t5
  obtain ⟨g_f2, t7⟩ := tl t6
  obtain ⟨g_x1, t8⟩ := tl t7
  obtain ⟨g_c1, t9⟩ := tl t8
  obtain ⟨g_c2, t10⟩ := tl t9
  obtain ⟨g_c3, t11⟩ := tl t10
  obtain ⟨g_c4, t12⟩ := tl t11
  obtain ⟨g_sp, t13⟩ := tl t12
  obtain ⟨g_s0, t14⟩ := tl t13
  obtain ⟨g_e0, t15⟩ := tl t14
  obtain ⟨g_s1, t16⟩ := tl t15
  obtain ⟨g_e1, t17⟩ := tl t16
  obtain ⟨g_s2, t18⟩ := tl t17
  obtain ⟨g_e2, t19⟩ := tl t18
  obtain ⟨g_s3, t20⟩ := tl t19
  obtain ⟨g_e3, t21⟩ := tl t20
  have c_x : tcell D (gext (csN x tp pg sh rd wk f1 f2 x1 c1 c2 c3 c4 sp s0 e0 s1 e1 s2 e2 s3 e3) (fun _ => none)) 8 (w.1 x) := by
    refine (tcell_O (τ := 8) rfl).mpr ⟨_, m_x, fun k t hk => ?_⟩
    match k, hk with
    | 0, hk => cases hk; exact vo_ref hx0 (g_tp _)
    | 1, hk => cases hk; exact vo_int hx1 (by decide) (by decide)
    | 2, hk => cases hk; exact vo_ref hx2 (g_pg _)
    | 3, hk => cases hk; exact vo_int hx3 (by decide) (by decide)
    | 4, hk => cases hk; exact vo_int hx4 (by decide) (by decide)
    | 5, hk => cases hk; exact vo_int hx5 (by decide) (by decide)
    | 6, hk => cases hk; exact vo_int hx6 (by decide) (by decide)
    | 7, hk => cases hk; exact vo_int hx7 (by decide) (by decide)
    | 8, hk => cases hk; exact vo_ref hx8 (g_sh _)
    | 9, hk => cases hk; exact vo_ref hx9 (g_rd _)
    | 10, hk => cases hk; exact vo_ref hx10 (g_wk _)
    | 11, hk => cases hk; exact vo_ref hx11 (g_f1 _)
    | 12, hk => cases hk; exact vo_ref hx12 (g_f2 _)
    | k + 13, hk => cases hk
  have c_rd : tcell D (gext (csN x tp pg sh rd wk f1 f2 x1 c1 c2 c3 c4 sp s0 e0 s1 e1 s2 e2 s3 e3) (fun _ => none)) 3 (w.1 rd) := by
    refine (tcell_O (τ := 3) rfl).mpr ⟨_, m_rd, fun k t hk => ?_⟩
    match k, hk with
    | 0, hk => cases hk; exact vo_nul hr0
    | 1, hk => cases hk; exact vo_int hr1 (by decide) (by decide)
    | 2, hk => cases hk; exact vo_nul hr2
    | 3, hk => cases hk; exact vo_int hr3 (by decide) (by decide)
    | 4, hk => cases hk; exact vo_int hr4 (by decide) (by decide)
    | 5, hk => cases hk; exact vo_int hr5 (by decide) (by decide)
    | 6, hk => cases hk; exact vo_int hr6 (by decide) (by decide)
    | 7, hk => cases hk; exact vo_int hr7 (by decide) (by decide)
    | 8, hk => cases hk; exact vo_int hr8 (by decide) (by decide)
    | k + 9, hk => cases hk
  have c_wk : tcell D (gext (csN x tp pg sh rd wk f1 f2 x1 c1 c2 c3 c4 sp s0 e0 s1 e1 s2 e2 s3 e3) (fun _ => none)) 7 (w.1 wk) := by
    refine (tcell_O (τ := 7) rfl).mpr ⟨_, m_wk, fun k t hk => ?_⟩
    match k, hk with
    | 0, hk => cases hk; exact vo_ref hw0 (g_x1 _)
    | 1, hk => cases hk; exact vo_ref hw1 (g_sp _)
    | 2, hk => cases hk; exact vo_int hw2 (by decide) (by decide)
    | 3, hk => cases hk; exact vo_int hw3 (by decide) (by decide)
    | k + 4, hk => cases hk
  have c_x1 : tcell D (gext (csN x tp pg sh rd wk f1 f2 x1 c1 c2 c3 c4 sp s0 e0 s1 e1 s2 e2 s3 e3) (fun _ => none)) 1 (w.1 x1) := by
    refine (tcell_O (τ := 1) rfl).mpr ⟨_, m_x1, fun k t hk => ?_⟩
    match k, hk with
    | 0, hk => cases hk; exact vo_ref hm0 (g_c1 _)
    | 1, hk => cases hk; exact vo_ref hm1 (g_c2 _)
    | 2, hk => cases hk; exact vo_int hm2 (by decide) (by decide)
    | 3, hk => cases hk; exact vo_ref hm3 (g_c3 _)
    | 4, hk => cases hk; exact vo_ref hm4 (g_c4 _)
    | k + 5, hk => cases hk
  have c_s0 : tcell D (gext (csN x tp pg sh rd wk f1 f2 x1 c1 c2 c3 c4 sp s0 e0 s1 e1 s2 e2 s3 e3) (fun _ => none)) 5 (w.1 s0) := by
    refine (tcell_O (τ := 5) rfl).mpr ⟨_, m_s0, fun k t hk => ?_⟩
    match k, hk with
    | 0, hk => cases hk; exact vo_ref h0s0 (g_e0 _)
    | 1, hk => cases hk; exact vo_int h0s1 (by decide) (by decide)
    | 2, hk => cases hk; exact vo_int h0s2 (by decide) (by decide)
    | k + 3, hk => cases hk
  have c_s1 : tcell D (gext (csN x tp pg sh rd wk f1 f2 x1 c1 c2 c3 c4 sp s0 e0 s1 e1 s2 e2 s3 e3) (fun _ => none)) 5 (w.1 s1) := by
    refine (tcell_O (τ := 5) rfl).mpr ⟨_, m_s1, fun k t hk => ?_⟩
    match k, hk with
    | 0, hk => cases hk; exact vo_ref h1s0 (g_e1 _)
    | 1, hk => cases hk; exact vo_int h1s1 (by decide) (by decide)
    | 2, hk => cases hk; exact vo_int h1s2 (by decide) (by decide)
    | k + 3, hk => cases hk
  have c_s2 : tcell D (gext (csN x tp pg sh rd wk f1 f2 x1 c1 c2 c3 c4 sp s0 e0 s1 e1 s2 e2 s3 e3) (fun _ => none)) 5 (w.1 s2) := by
    refine (tcell_O (τ := 5) rfl).mpr ⟨_, m_s2, fun k t hk => ?_⟩
    match k, hk with
    | 0, hk => cases hk; exact vo_ref h2s0 (g_e2 _)
    | 1, hk => cases hk; exact vo_int h2s1 (by decide) (by decide)
    | 2, hk => cases hk; exact vo_int h2s2 (by decide) (by decide)
    | k + 3, hk => cases hk
  have c_s3 : tcell D (gext (csN x tp pg sh rd wk f1 f2 x1 c1 c2 c3 c4 sp s0 e0 s1 e1 s2 e2 s3 e3) (fun _ => none)) 5 (w.1 s3) := by
    refine (tcell_O (τ := 5) rfl).mpr ⟨_, m_s3, fun k t hk => ?_⟩
    match k, hk with
    | 0, hk => cases hk; exact vo_ref h3s0 (g_e3 _)
    | 1, hk => cases hk; exact vo_int h3s1 (by decide) (by decide)
    | 2, hk => cases hk; exact vo_int h3s2 (by decide) (by decide)
    | k + 3, hk => cases hk
  have c_sh : tcell D (gext (csN x tp pg sh rd wk f1 f2 x1 c1 c2 c3 c4 sp s0 e0 s1 e1 s2 e2 s3 e3) (fun _ => none)) 22 (w.1 sh) := by
    refine (tcell_R (τ := 22) (t := 6) rfl rfl).mpr ⟨F, m_sh, fun j hj => ?_⟩
    match j, hj with
    | 0, _ => rw [F0]; exact vo_ref rfl (g_s0 _)
    | 1, _ => rw [F1]; exact vo_ref rfl (g_s1 _)
    | 2, _ => rw [F2]; exact vo_ref rfl (g_s2 _)
    | 3, _ => rw [F3]; exact vo_ref rfl (g_s3 _)
    | j + 4, hj => omega
  have hall : ∀ p ∈ csN x tp pg sh rd wk f1 f2 x1 c1 c2 c3 c4 sp s0 e0 s1 e1 s2 e2 s3 e3, tcell D (gext (csN x tp pg sh rd wk f1 f2 x1 c1 c2 c3 c4 sp s0 e0 s1 e1 s2 e2 s3 e3) (fun _ => none)) p.2 (w.1 p.1) := (List.forall_mem_cons.mpr ⟨c_x, (List.forall_mem_cons.mpr ⟨tn_I rfl rfl (by decide) m_tp, (List.forall_mem_cons.mpr ⟨tn_R (t := 5) rfl rfl m_pg, (List.forall_mem_cons.mpr ⟨c_sh, (List.forall_mem_cons.mpr ⟨c_rd, (List.forall_mem_cons.mpr ⟨c_wk, (List.forall_mem_cons.mpr ⟨tn_J rfl rfl m_f1, (List.forall_mem_cons.mpr ⟨tn_J rfl rfl m_f2, (List.forall_mem_cons.mpr ⟨c_x1, (List.forall_mem_cons.mpr ⟨tn_I rfl rfl (by decide) m_c1, (List.forall_mem_cons.mpr ⟨tn_J rfl rfl m_c2, (List.forall_mem_cons.mpr ⟨tn_I rfl rfl (by decide) m_c3, (List.forall_mem_cons.mpr ⟨tn_I rfl rfl (by decide) m_c4, (List.forall_mem_cons.mpr ⟨tn_R (t := 4) rfl rfl m_sp, (List.forall_mem_cons.mpr ⟨c_s0, (List.forall_mem_cons.mpr ⟨tn_I rfl rfl (by decide) m_e0, (List.forall_mem_cons.mpr ⟨c_s1, (List.forall_mem_cons.mpr ⟨tn_I rfl rfl (by decide) m_e1, (List.forall_mem_cons.mpr ⟨c_s2, (List.forall_mem_cons.mpr ⟨tn_I rfl rfl (by decide) m_e2, (List.forall_mem_cons.mpr ⟨c_s3, (List.forall_mem_cons.mpr ⟨tn_I rfl rfl (by decide) m_e3, (fun _ h => absurd h List.not_mem_nil)⟩)⟩)⟩)⟩)⟩)⟩)⟩)⟩)⟩)⟩)⟩)⟩)⟩)⟩)⟩)⟩)⟩)⟩)⟩)⟩)⟩)⟩)
  have hne : pg ≠ sp := fun e => by rw [e, m_sp] at m_pg; exact absurd (Prod.mk.inj (Prod.mk.inj (Sum.inl.inj (Option.some.inj m_pg))).2).1 (by decide)
  have hmem : pg ∉ [sp] := fun h => by
    rcases List.mem_cons.mp h with h | h
    · exact hne h
    · cases h
  have hnd : [pg, sp].Nodup := List.nodup_cons.mpr ⟨hmem, List.nodup_cons.mpr ⟨List.not_mem_nil, List.nodup_nil⟩⟩
  refine ⟨hg, fun a τ h => ?_, [pg, sp], hnd, fun a h => ?_, fun a h => ?_, ?_, ?_⟩
  · rcases gext_cases h with ⟨p, hp, rfl, rfl⟩ | ⟨-, h⟩
    · exact hall p hp
    · cases h
  · rcases List.mem_cons.mp h with rfl | h
    · exact ⟨_, m_pg⟩
    · rcases List.mem_cons.mp h with rfl | h
      · exact ⟨_, m_sp⟩
      · cases h
  · cases e : gext (csN x tp pg sh rd wk f1 f2 x1 c1 c2 c3 c4 sp s0 e0 s1 e1 s2 e2 s3 e3) (fun _ => none) a with
    | none => exact ⟨rfl, rfl⟩
    | some τ =>
      rcases gext_cases e with ⟨p, hp, rfl, rfl⟩ | ⟨-, h9⟩
      · exact (List.forall_mem_cons (p := fun p => p.1 ∉ [pg, sp] → pu (some p.2) (w.1 p.1) = 0 ∧ qu (some p.2) (w.1 p.1) = 0) |>.mpr ⟨fun _ => ⟨rfl, rfl⟩, (List.forall_mem_cons.mpr ⟨fun _ => ⟨rfl, rfl⟩, (List.forall_mem_cons.mpr ⟨fun h => absurd List.mem_cons_self h, (List.forall_mem_cons.mpr ⟨fun _ => ⟨rfl, rfl⟩, (List.forall_mem_cons.mpr ⟨fun _ => ⟨rfl, rfl⟩, (List.forall_mem_cons.mpr ⟨fun _ => ⟨rfl, rfl⟩, (List.forall_mem_cons.mpr ⟨fun _ => ⟨rfl, rfl⟩, (List.forall_mem_cons.mpr ⟨fun _ => ⟨rfl, rfl⟩, (List.forall_mem_cons.mpr ⟨fun _ => ⟨rfl, rfl⟩, (List.forall_mem_cons.mpr ⟨fun _ => ⟨rfl, rfl⟩, (List.forall_mem_cons.mpr ⟨fun _ => ⟨rfl, rfl⟩, (List.forall_mem_cons.mpr ⟨fun _ => ⟨rfl, rfl⟩, (List.forall_mem_cons.mpr ⟨fun _ => ⟨rfl, rfl⟩, (List.forall_mem_cons.mpr ⟨fun h => absurd (List.mem_cons_of_mem _ List.mem_cons_self) h, (List.forall_mem_cons.mpr ⟨fun _ => ⟨rfl, rfl⟩, (List.forall_mem_cons.mpr ⟨fun _ => ⟨rfl, rfl⟩, (List.forall_mem_cons.mpr ⟨fun _ => ⟨rfl, rfl⟩, (List.forall_mem_cons.mpr ⟨fun _ => ⟨rfl, rfl⟩, (List.forall_mem_cons.mpr ⟨fun _ => ⟨rfl, rfl⟩, (List.forall_mem_cons.mpr ⟨fun _ => ⟨rfl, rfl⟩, (List.forall_mem_cons.mpr ⟨fun _ => ⟨rfl, rfl⟩, (List.forall_mem_cons.mpr ⟨fun _ => ⟨rfl, rfl⟩, (fun _ h => absurd h List.not_mem_nil)⟩)⟩)⟩)⟩)⟩)⟩)⟩)⟩)⟩)⟩)⟩)⟩)⟩)⟩)⟩)⟩)⟩)⟩)⟩)⟩)⟩)⟩) p hp h
      · cases h9
  · show w.2.1 + 3 * (pu (gext (csN x tp pg sh rd wk f1 f2 x1 c1 c2 c3 c4 sp s0 e0 s1 e1 s2 e2 s3 e3) (fun _ => none) pg) (w.1 pg) + (pu (gext (csN x tp pg sh rd wk f1 f2 x1 c1 c2 c3 c4 sp s0 e0 s1 e1 s2 e2 s3 e3) (fun _ => none) sp) (w.1 sp) + 0)) + 26 * (qu (gext (csN x tp pg sh rd wk f1 f2 x1 c1 c2 c3 c4 sp s0 e0 s1 e1 s2 e2 s3 e3) (fun _ => none) pg) (w.1 pg) + (qu (gext (csN x tp pg sh rd wk f1 f2 x1 c1 c2 c3 c4 sp s0 e0 s1 e1 s2 e2 s3 e3) (fun _ => none) sp) (w.1 sp) + 0)) ≤ KC
    rw [g_pg, g_sp, m_pg, m_sp]
    have e1 : pu (some 21) (some (aR D 8 6 (fun _ => none))) = 6 := by show nulls 6 _ = 6; decide
    have e2 : pu (some 35) (some (aR D 7 40 (fun _ => none))) = 40 := by show nulls 40 _ = 40; decide
    have e3 : qu (some 21) (some (aR D 8 6 (fun _ => none))) = 6 := by show nulls 6 _ = 6; decide
    have e4 : qu (some 35) (some (aR D 7 40 (fun _ => none))) = 0 := rfl
    show w.2.1 + 3 * (pu (some 21) (some (aR D 8 6 (fun _ => none))) + (pu (some 35) (some (aR D 7 40 (fun _ => none))) + 0)) + 26 * (qu (some 21) (some (aR D 8 6 (fun _ => none))) + (qu (some 35) (some (aR D 7 40 (fun _ => none))) + 0)) ≤ KC
    rw [e1, e2, e3, e4]; omega
  · show w.2.2 + 604 * (pu (gext (csN x tp pg sh rd wk f1 f2 x1 c1 c2 c3 c4 sp s0 e0 s1 e1 s2 e2 s3 e3) (fun _ => none) pg) (w.1 pg) + (pu (gext (csN x tp pg sh rd wk f1 f2 x1 c1 c2 c3 c4 sp s0 e0 s1 e1 s2 e2 s3 e3) (fun _ => none) sp) (w.1 sp) + 0)) + 739 * (qu (gext (csN x tp pg sh rd wk f1 f2 x1 c1 c2 c3 c4 sp s0 e0 s1 e1 s2 e2 s3 e3) (fun _ => none) pg) (w.1 pg) + (qu (gext (csN x tp pg sh rd wk f1 f2 x1 c1 c2 c3 c4 sp s0 e0 s1 e1 s2 e2 s3 e3) (fun _ => none) sp) (w.1 sp) + 0)) ≤ KS
    rw [g_pg, g_sp, m_pg, m_sp]
    have e1 : pu (some 21) (some (aR D 8 6 (fun _ => none))) = 6 := by show nulls 6 _ = 6; decide
    have e2 : pu (some 35) (some (aR D 7 40 (fun _ => none))) = 40 := by show nulls 40 _ = 40; decide
    have e3 : qu (some 21) (some (aR D 8 6 (fun _ => none))) = 6 := by show nulls 6 _ = 6; decide
    have e4 : qu (some 35) (some (aR D 7 40 (fun _ => none))) = 0 := rfl
    show w.2.2 + 604 * (pu (some 21) (some (aR D 8 6 (fun _ => none))) + (pu (some 35) (some (aR D 7 40 (fun _ => none))) + 0)) + 739 * (qu (some 21) (some (aR D 8 6 (fun _ => none))) + (qu (some 35) (some (aR D 7 40 (fun _ => none))) + 0)) ≤ KS
    rw [e1, e2, e3, e4]; omega
