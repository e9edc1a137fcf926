/-! ===== soundness of one straight instruction ===== -/
def okL : (Nat × List Nat) ⊕ (Nat × Nat × Nat) → Bool
  | .inr (t, _, q) => (decide (t < 4)) && (decide (q = if t = 3 then 1 else 0))
  | .inl (ci, fks) => match CLS[ci]? with
    | none => false
    | some (_, T, N) => decide (fks.length = N) && (List.range N).all (fun k => match fks[k]? with
      | some 0 => decide (parseFieldDescriptor (T k).2.2.1 = some .int)
      | some 1 => decide (parseFieldDescriptor (T k).2.2.1 = some .long)
      | some 2 => decide (parseFieldDescriptor (T k).2.2.1 = some .boolean)
      | _ => true)
set_option maxRecDepth 100000 in
theorem lay_ok : lay.all okL = true := by decide +kernel
theorem lay_at {id : Nat} {x : (Nat × List Nat) ⊕ (Nat × Nat × Nat)} (h : lay[id]? = some x) : okL x = true := List.all_eq_true.mp lay_ok x (List.mem_of_getElem? h)
theorem lay_lt {id : Nat} {x : (Nat × List Nat) ⊕ (Nat × Nat × Nat)} (h : lay[id]? = some x) : id < lay.length := (List.getElem?_eq_some_iff.mp h).1
theorem lay_arr {id t n q : Nat} (h : lay[id]? = some (.inr (t, n, q))) : t < 4 ∧ q = if t = 3 then 1 else 0 := by
  have := lay_at h
  simpa [okL] using this
theorem lay_obj {id ci : Nat} {fks : List Nat} (h : lay[id]? = some (.inl (ci, fks))) : ∃ C T N, CLS[ci]? = some (C, T, N) ∧ fks.length = N ∧ ∀ k, k < N → (fks[k]? = some 0 → parseFieldDescriptor (T k).2.2.1 = some .int) ∧ (fks[k]? = some 1 → parseFieldDescriptor (T k).2.2.1 = some .long) ∧ (fks[k]? = some 2 → parseFieldDescriptor (T k).2.2.1 = some .boolean) := by
  have h0 := lay_at h
  unfold okL at h0
  simp only at h0
  split at h0
  · cases h0
  · rename_i C T N hc
    simp only [Bool.and_eq_true, decide_eq_true_eq] at h0
    refine ⟨C, T, N, hc, h0.1, fun k hk => ?_⟩
    have h1 := List.all_eq_true.mp h0.2 k (List.mem_range.mpr hk)
    refine ⟨fun e => ?_, fun e => ?_, fun e => ?_⟩ <;> rw [e] at h1 <;> simpa using h1
theorem cls_u {ci : Nat} {C : String} {T : u_T} {N : Nat} (h : CLS[ci]? = some (C, T, N)) : (∀ w ∈ u_ws C T N, w ∈ GT) ∧ ∃ ty : Nat → FieldType, (∀ k, k < N → parseFieldDescriptor (T k).2.2.1 = some (ty k)) ∧ ∀ a, a < N → ∀ b, b < N → a ≠ b → (T a).2.1 ≠ (T b).2.1 := by
  match ci, h with
  | 0, h => cases h; exact ⟨uX0, tyX0, tyX0_ok, nmX0⟩
  | 1, h => cases h; exact ⟨uX1, tyX1, tyX1_ok, nmX1⟩
  | 2, h => cases h; exact ⟨uX2, tyX2, tyX2_ok, nmX2⟩
  | 3, h => cases h; exact ⟨uX3, tyX3, tyX3_ok, nmX3⟩
  | 4, h => cases h; exact ⟨uX4, tyX4, tyX4_ok, nmX4⟩
  | 5, h => cases h; exact ⟨uX5, tyX5, tyX5_ok, nmX5⟩
  | 6, h => cases h; exact ⟨uX6, tyX6, tyX6_ok, nmX6⟩
  | 7, h => cases h; exact ⟨uX7, tyX7, tyX7_ok, nmX7⟩
  | 8, h => cases h; exact ⟨uX8, tyX8, tyX8_ok, nmX8⟩
  | n + 9, h => simp [CLS] at h
theorem tys_at (G : GG) : (tysG G)[0]? = some (G.2.1 0, .byte) ∧ (tysG G)[1]? = some (G.2.1 1, .int) ∧ (tysG G)[2]? = some (G.2.1 2, .boolean) ∧ (tysG G)[3]? = some (G.2.1 3, .long) := ⟨rfl, rfl, rfl, rfl⟩
theorem cell_arr {G : GG} {σ : St2} {id t n q : Nat} (h : lay[id]? = some (.inr (t, n, q))) (ht : t ≠ 3) : (World G σ)[id]? = some (G.2.2 id, .inl (G.2.1 t, n, .inl (σ.1 id))) := by
  obtain ⟨-, h2⟩ := lay_arr h
  rw [if_neg ht] at h2
  subst h2
  rw [World_at G σ (lay_lt h)]
  simp [cellE, h, cellL]
theorem cell_arrL {G : GG} {σ : St2} {id n q : Nat} (h : lay[id]? = some (.inr (3, n, q))) : (World G σ)[id]? = some (G.2.2 id, .inl (G.2.1 3, n, .inr (.inl (σ.2 id)))) := by
  obtain ⟨-, h2⟩ := lay_arr h
  rw [if_pos rfl] at h2
  subst h2
  rw [World_at G σ (lay_lt h)]
  simp [cellE, h, cellL]
theorem cell_obj {G : GG} {σ : St2} {id ci : Nat} {fks : List Nat} (h : lay[id]? = some (.inl (ci, fks))) : (World G σ)[id]? = some (G.2.2 id, .inr (ci, fvs G σ id 0 fks)) := by
  rw [World_at G σ (lay_lt h)]
  simp [cellE, h, cellL]
theorem upd_row (I : Nat → Nat → Int32) (a b : Nat) (x : Int32) : up2 I a b x a = upd (I a) b x := by
  funext q; simp [up2, upd]
theorem updL_row (I : Nat → Nat → Int64) (a b : Nat) (x : Int64) : up2 I a b x a = vp_updL (I a) b x := by
  funext q; simp [up2, vp_updL]
theorem World_arr {G : GG} {σ : St2} {id t n q : Nat} (h : lay[id]? = some (.inr (t, n, q))) (ht : t ≠ 3) (i : Nat) (x : Int32) : (World G σ).set id (G.2.2 id, .inl (G.2.1 t, n, .inl (upd (σ.1 id) i x))) = World G (up2 σ.1 id i x, σ.2) := by
  rw [World_set G σ (up2 σ.1 id i x, σ.2) (id := id) (fun j hj => cellE_ne1 G σ i x hj)]
  obtain ⟨-, h2⟩ := lay_arr h
  rw [if_neg ht] at h2
  subst h2
  simp [cellE, h, cellL, upd_row]
theorem World_arrL {G : GG} {σ : St2} {id n q : Nat} (h : lay[id]? = some (.inr (3, n, q))) (i : Nat) (x : Int64) : (World G σ).set id (G.2.2 id, .inl (G.2.1 3, n, .inr (.inl (vp_updL (σ.2 id) i x)))) = World G (σ.1, up2 σ.2 id i x) := by
  rw [World_set G σ (σ.1, up2 σ.2 id i x) (id := id) (fun j hj => cellE_ne2 G σ i x hj)]
  obtain ⟨-, h2⟩ := lay_arr h
  rw [if_pos rfl] at h2
  subst h2
  simp [cellE, h, cellL, updL_row]
theorem World_fld {G : GG} {σ : St2} {id ci k : Nat} {fks : List Nat} (h : lay[id]? = some (.inl (ci, fks))) (hk : fks[k]? = some 0 ∨ fks[k]? = some 2) (x : Int32) : (World G σ).set id (G.2.2 id, .inr (ci, (fvs G σ id 0 fks).set k (.int x))) = World G (up2 σ.1 id k x, σ.2) := by
  rw [World_set G σ (up2 σ.1 id k x, σ.2) (id := id) (fun j hj => cellE_ne1 G σ k x hj)]
  simp [cellE, h, cellL, fvs_set1 G σ id fks x hk]
theorem World_fldL {G : GG} {σ : St2} {id ci k : Nat} {fks : List Nat} (h : lay[id]? = some (.inl (ci, fks))) (hk : fks[k]? = some 1) (x : Int64) : (World G σ).set id (G.2.2 id, .inr (ci, (fvs G σ id 0 fks).set k (.long x))) = World G (σ.1, up2 σ.2 id k x) := by
  rw [World_set G σ (σ.1, up2 σ.2 id k x) (id := id) (fun j hj => cellE_ne2 G σ k x hj)]
  simp [cellE, h, cellL, fvs_set2 G σ id fks x hk]
/-- from one state to the next, under P -/
def Nx (M : MR) (pc : Nat) (l : LV) (st : List Value) (σ : St2) (P : Prop) (pc' : Nat) (l' : LV) (st' : List Value) (σ' : St2) : Prop := ∀ (lc : Launch) (G : GG) (Q : Option Value → St2 → Prop), P → Ev lc G M pc' l' st' σ' Q → Ev lc G M pc l st σ Q
def Res {α : Type} (M : MR) (ri : RI) (l : LV) (st : List Value) (σ : St2) (k0 : LV → List Value → St2 → Option α) (k1 : Prop → LV → List Value → St2 → Option α) (r : α) : Prop :=
  (∃ l' st' σ', k0 l' st' σ' = some r ∧ Nx M ri.1 l st σ True (ri.1 + lnI ri.2.1) l' st' σ') ∨ (∃ P l' st' σ', k1 P l' st' σ' = some r ∧ Nx M ri.1 l st σ P (ri.1 + lnI ri.2.1) l' st' σ')

theorem sx_iconst {α : Type} {M : MR} {pc a1 a2 a3 : Nat} {l : LV} {st : List Value} {σ : St2} {k0 : LV → List Value → St2 → Option α} {k1 : Prop → LV → List Value → St2 → Option α} {r : α} {n : Int} (hd : decode M.2.1 pc = .ok (.iconst n, 1)) (hk : lnk M (pc, .iconst n, a1, a2, a3) = true) (h : ex1 (pc, .iconst n, a1, a2, a3) l st σ k0 k1 = some r) : Res M (pc, .iconst n, a1, a2, a3) l st σ k0 k1 r := by
  have h2 : k0 l (.int (cstV a1 a2) :: st) σ = some r := cst_ok (k := fun x => k0 l (.int x :: st) σ) h
  exact Or.inl ⟨_, _, _, h2, fun lc G Q hp hE p e s m args below meth c C H locs ls hP hS hl => lv_iconst C.1 C.2.1 hd (by simpa [lnk] using hk) (hE p e s m args below meth c C H locs ls hP hS hl)⟩
theorem sx_bipush {α : Type} {M : MR} {pc a1 a2 a3 : Nat} {l : LV} {st : List Value} {σ : St2} {k0 : LV → List Value → St2 → Option α} {k1 : Prop → LV → List Value → St2 → Option α} {r : α} {n : Int} (hd : decode M.2.1 pc = .ok (.bipush n, 2)) (hk : lnk M (pc, .bipush n, a1, a2, a3) = true) (h : ex1 (pc, .bipush n, a1, a2, a3) l st σ k0 k1 = some r) : Res M (pc, .bipush n, a1, a2, a3) l st σ k0 k1 r := by
  have h2 : k0 l (.int (cstV a1 a2) :: st) σ = some r := cst_ok (k := fun x => k0 l (.int x :: st) σ) h
  exact Or.inl ⟨_, _, _, h2, fun lc G Q hp hE p e s m args below meth c C H locs ls hP hS hl => lv_bipush C.1 C.2.1 hd (by simpa [lnk] using hk) (hE p e s m args below meth c C H locs ls hP hS hl)⟩
theorem sx_sipush {α : Type} {M : MR} {pc a1 a2 a3 : Nat} {l : LV} {st : List Value} {σ : St2} {k0 : LV → List Value → St2 → Option α} {k1 : Prop → LV → List Value → St2 → Option α} {r : α} {n : Int} (hd : decode M.2.1 pc = .ok (.sipush n, 3)) (hk : lnk M (pc, .sipush n, a1, a2, a3) = true) (h : ex1 (pc, .sipush n, a1, a2, a3) l st σ k0 k1 = some r) : Res M (pc, .sipush n, a1, a2, a3) l st σ k0 k1 r := by
  have h2 : k0 l (.int (cstV a1 a2) :: st) σ = some r := cst_ok (k := fun x => k0 l (.int x :: st) σ) h
  exact Or.inl ⟨_, _, _, h2, fun lc G Q hp hE p e s m args below meth c C H locs ls hP hS hl => lv_sipush C.1 C.2.1 hd (by simpa [lnk] using hk) (hE p e s m args below meth c C H locs ls hP hS hl)⟩
theorem sx_lconst {α : Type} {M : MR} {pc a1 a2 a3 : Nat} {l : LV} {st : List Value} {σ : St2} {k0 : LV → List Value → St2 → Option α} {k1 : Prop → LV → List Value → St2 → Option α} {r : α} {n : Fin 2} (hd : decode M.2.1 pc = .ok (.lconst n, 1)) (h : ex1 (pc, .lconst n, a1, a2, a3) l st σ k0 k1 = some r) : Res M (pc, .lconst n, a1, a2, a3) l st σ k0 k1 r := by
  exact Or.inl ⟨_, _, _, h, fun lc G Q hp hE p e s m args below meth c C H locs ls hP hS hl => lv_lconst C.1 C.2.1 hd rfl (hE p e s m args below meth c C H locs ls hP hS hl)⟩
theorem sx_ldc {α : Type} {M : MR} {pc a1 a2 a3 : Nat} {l : LV} {st : List Value} {σ : St2} {k0 : LV → List Value → St2 → Option α} {k1 : Prop → LV → List Value → St2 → Option α} {r : α} {n : Nat} (hd : decode M.2.1 pc = .ok (.ldc n, 2)) (hk : lnk M (pc, .ldc n, a1, a2, a3) = true) (h : ex1 (pc, .ldc n, a1, a2, a3) l st σ k0 k1 = some r) : Res M (pc, .ldc n, a1, a2, a3) l st σ k0 k1 r := by
  have hk' : lw_tbl[a3]? = some (Cond.constant M.1.cls n (nI a1)) := by simpa [lnk] using hk
  exact Or.inl ⟨_, _, _, h, fun lc G Q hp hE p e s m args below meth c C H locs ls hP hS hl => lv_ldc C.1 C.2.1 C.2.2.2.2.1 (C.2.2.2.2.2.1 _ (GT_at hk' rfl)) hd (hE p e s m args below meth c C H locs ls hP hS hl)⟩
theorem sx_ldc2_w {α : Type} {M : MR} {pc a1 a2 a3 : Nat} {l : LV} {st : List Value} {σ : St2} {k0 : LV → List Value → St2 → Option α} {k1 : Prop → LV → List Value → St2 → Option α} {r : α} {n : Nat} (hd : decode M.2.1 pc = .ok (.ldc2_w n, 3)) (hk : lnk M (pc, .ldc2_w n, a1, a2, a3) = true) (h : ex1 (pc, .ldc2_w n, a1, a2, a3) l st σ k0 k1 = some r) : Res M (pc, .ldc2_w n, a1, a2, a3) l st σ k0 k1 r := by
  have hk' : lw_tbl[a3]? = some (Cond.constantLong M.1.cls n (lN a1)) := by simpa [lnk] using hk
  exact Or.inl ⟨_, _, _, h, fun lc G Q hp hE p e s m args below meth c C H locs ls hP hS hl => lv_ldc2 C.1 C.2.1 C.2.2.2.2.1 (C.2.2.2.2.2.1 _ (GT_at hk' rfl)) hd (hE p e s m args below meth c C H locs ls hP hS hl)⟩
theorem sx_iload_n {α : Type} {M : MR} {pc a1 a2 a3 : Nat} {l : LV} {st : List Value} {σ : St2} {k0 : LV → List Value → St2 → Option α} {k1 : Prop → LV → List Value → St2 → Option α} {r : α} {n : Fin 4} (hd : decode M.2.1 pc = .ok (.iload_n n, 1)) (h : ex1 (pc, .iload_n n, a1, a2, a3) l st σ k0 k1 = some r) : Res M (pc, .iload_n n, a1, a2, a3) l st σ k0 k1 r := by
  obtain ⟨x, h1, h2⟩ := ldI_ok h
  exact Or.inl ⟨_, _, _, h2, fun lc G Q hp hE p e s m args below meth c C H locs ls hP hS hl => lv_iload_n C.1 C.2.1 hd rfl (lvl_get hl.1 h1) (hE p e s m args below meth c C H locs ls hP hS hl)⟩
theorem sx_iload {α : Type} {M : MR} {pc a1 a2 a3 : Nat} {l : LV} {st : List Value} {σ : St2} {k0 : LV → List Value → St2 → Option α} {k1 : Prop → LV → List Value → St2 → Option α} {r : α} {n : Nat} (hd : decode M.2.1 pc = .ok (.iload n, 2)) (h : ex1 (pc, .iload n, a1, a2, a3) l st σ k0 k1 = some r) : Res M (pc, .iload n, a1, a2, a3) l st σ k0 k1 r := by
  obtain ⟨x, h1, h2⟩ := ldI_ok h
  exact Or.inl ⟨_, _, _, h2, fun lc G Q hp hE p e s m args below meth c C H locs ls hP hS hl => lv_iload C.1 C.2.1 hd (lvl_get hl.1 h1) (hE p e s m args below meth c C H locs ls hP hS hl)⟩
theorem sx_lload_n {α : Type} {M : MR} {pc a1 a2 a3 : Nat} {l : LV} {st : List Value} {σ : St2} {k0 : LV → List Value → St2 → Option α} {k1 : Prop → LV → List Value → St2 → Option α} {r : α} {n : Fin 4} (hd : decode M.2.1 pc = .ok (.lload_n n, 1)) (h : ex1 (pc, .lload_n n, a1, a2, a3) l st σ k0 k1 = some r) : Res M (pc, .lload_n n, a1, a2, a3) l st σ k0 k1 r := by
  obtain ⟨x, h1, h2⟩ := ldL_ok h
  exact Or.inl ⟨_, _, _, h2, fun lc G Q hp hE p e s m args below meth c C H locs ls hP hS hl => lv_lload_n C.1 C.2.1 hd rfl (lvl_get hl.1 h1) (hE p e s m args below meth c C H locs ls hP hS hl)⟩
theorem sx_lload {α : Type} {M : MR} {pc a1 a2 a3 : Nat} {l : LV} {st : List Value} {σ : St2} {k0 : LV → List Value → St2 → Option α} {k1 : Prop → LV → List Value → St2 → Option α} {r : α} {n : Nat} (hd : decode M.2.1 pc = .ok (.lload n, 2)) (h : ex1 (pc, .lload n, a1, a2, a3) l st σ k0 k1 = some r) : Res M (pc, .lload n, a1, a2, a3) l st σ k0 k1 r := by
  obtain ⟨x, h1, h2⟩ := ldL_ok h
  exact Or.inl ⟨_, _, _, h2, fun lc G Q hp hE p e s m args below meth c C H locs ls hP hS hl => lv_lload C.1 C.2.1 hd (lvl_get hl.1 h1) (hE p e s m args below meth c C H locs ls hP hS hl)⟩
theorem sx_aload_n {α : Type} {M : MR} {pc a1 a2 a3 : Nat} {l : LV} {st : List Value} {σ : St2} {k0 : LV → List Value → St2 → Option α} {k1 : Prop → LV → List Value → St2 → Option α} {r : α} {n : Fin 4} (hd : decode M.2.1 pc = .ok (.aload_n n, 1)) (h : ex1 (pc, .aload_n n, a1, a2, a3) l st σ k0 k1 = some r) : Res M (pc, .aload_n n, a1, a2, a3) l st σ k0 k1 r := by
  obtain ⟨x, h1, h2⟩ := ldA_ok h
  exact Or.inl ⟨_, _, _, h2, fun lc G Q hp hE p e s m args below meth c C H locs ls hP hS hl => lv_aload_n C.1 C.2.1 hd rfl (lvl_get hl.1 h1) (hE p e s m args below meth c C H locs ls hP hS hl)⟩
theorem sx_aload {α : Type} {M : MR} {pc a1 a2 a3 : Nat} {l : LV} {st : List Value} {σ : St2} {k0 : LV → List Value → St2 → Option α} {k1 : Prop → LV → List Value → St2 → Option α} {r : α} {n : Nat} (hd : decode M.2.1 pc = .ok (.aload n, 2)) (h : ex1 (pc, .aload n, a1, a2, a3) l st σ k0 k1 = some r) : Res M (pc, .aload n, a1, a2, a3) l st σ k0 k1 r := by
  obtain ⟨x, h1, h2⟩ := ldA_ok h
  exact Or.inl ⟨_, _, _, h2, fun lc G Q hp hE p e s m args below meth c C H locs ls hP hS hl => lv_aload C.1 C.2.1 hd (lvl_get hl.1 h1) (hE p e s m args below meth c C H locs ls hP hS hl)⟩
theorem sx_istore_n {α : Type} {M : MR} {pc a1 a2 a3 : Nat} {l : LV} {st : List Value} {σ : St2} {k0 : LV → List Value → St2 → Option α} {k1 : Prop → LV → List Value → St2 → Option α} {r : α} {n : Fin 4} (hd : decode M.2.1 pc = .ok (.istore_n n, 1)) (h : ex1 (pc, .istore_n n, a1, a2, a3) l st σ k0 k1 = some r) : Res M (pc, .istore_n n, a1, a2, a3) l st σ k0 k1 r := by
  dsimp only [ex1] at h
  split at h
  · rename_i x rr
    obtain ⟨l', h2, h3, h4, h5⟩ := st1_ok h
    exact Or.inl ⟨_, _, _, h2, fun lc G Q hp hE p e s m args below meth c C H locs ls hP hS hl => lv_istore_n C.1 C.2.1 hd rfl hl.1 (by omega) rfl (fun ls' hl' => hE p e s m args below meth c C H locs ls' hP hS ⟨st1_lv (α := α) h5 hl', by omega⟩)⟩
  · cases h
theorem sx_istore {α : Type} {M : MR} {pc a1 a2 a3 : Nat} {l : LV} {st : List Value} {σ : St2} {k0 : LV → List Value → St2 → Option α} {k1 : Prop → LV → List Value → St2 → Option α} {r : α} {n : Nat} (hd : decode M.2.1 pc = .ok (.istore n, 2)) (h : ex1 (pc, .istore n, a1, a2, a3) l st σ k0 k1 = some r) : Res M (pc, .istore n, a1, a2, a3) l st σ k0 k1 r := by
  dsimp only [ex1] at h
  split at h
  · rename_i x rr
    obtain ⟨l', h2, h3, h4, h5⟩ := st1_ok h
    exact Or.inl ⟨_, _, _, h2, fun lc G Q hp hE p e s m args below meth c C H locs ls hP hS hl => lv_istore C.1 C.2.1 hd hl.1 (by omega) rfl (fun ls' hl' => hE p e s m args below meth c C H locs ls' hP hS ⟨st1_lv (α := α) h5 hl', by omega⟩)⟩
  · cases h
theorem sx_lstore_n {α : Type} {M : MR} {pc a1 a2 a3 : Nat} {l : LV} {st : List Value} {σ : St2} {k0 : LV → List Value → St2 → Option α} {k1 : Prop → LV → List Value → St2 → Option α} {r : α} {n : Fin 4} (hd : decode M.2.1 pc = .ok (.lstore_n n, 1)) (h : ex1 (pc, .lstore_n n, a1, a2, a3) l st σ k0 k1 = some r) : Res M (pc, .lstore_n n, a1, a2, a3) l st σ k0 k1 r := by
  dsimp only [ex1] at h
  split at h
  · rename_i x rr
    obtain ⟨l', h2, h3, h4, h5⟩ := st2_ok h
    exact Or.inl ⟨_, _, _, h2, fun lc G Q hp hE p e s m args below meth c C H locs ls hP hS hl => lv_lstore_n C.1 C.2.1 hd rfl hl.1 (by omega) rfl (fun ls' hl' => hE p e s m args below meth c C H locs ls' hP hS ⟨st2_lv h5 hl', by omega⟩)⟩
  · cases h
theorem sx_lstore {α : Type} {M : MR} {pc a1 a2 a3 : Nat} {l : LV} {st : List Value} {σ : St2} {k0 : LV → List Value → St2 → Option α} {k1 : Prop → LV → List Value → St2 → Option α} {r : α} {n : Nat} (hd : decode M.2.1 pc = .ok (.lstore n, 2)) (h : ex1 (pc, .lstore n, a1, a2, a3) l st σ k0 k1 = some r) : Res M (pc, .lstore n, a1, a2, a3) l st σ k0 k1 r := by
  dsimp only [ex1] at h
  split at h
  · rename_i x rr
    obtain ⟨l', h2, h3, h4, h5⟩ := st2_ok h
    exact Or.inl ⟨_, _, _, h2, fun lc G Q hp hE p e s m args below meth c C H locs ls hP hS hl => lv_lstore C.1 C.2.1 hd hl.1 (by omega) rfl (fun ls' hl' => hE p e s m args below meth c C H locs ls' hP hS ⟨st2_lv h5 hl', by omega⟩)⟩
  · cases h
theorem sx_iinc {α : Type} {M : MR} {pc a1 a2 a3 : Nat} {l : LV} {st : List Value} {σ : St2} {k0 : LV → List Value → St2 → Option α} {k1 : Prop → LV → List Value → St2 → Option α} {r : α} {i : Nat} {n : Int} (hd : decode M.2.1 pc = .ok (.iinc i n, 3)) (hk : lnk M (pc, .iinc i n, a1, a2, a3) = true) (h : ex1 (pc, .iinc i n, a1, a2, a3) l st σ k0 k1 = some r) : Res M (pc, .iinc i n, a1, a2, a3) l st σ k0 k1 r := by
  obtain ⟨x, h1, h2⟩ := ldI_ok h
  have h2 := cst_ok h2
  obtain ⟨l', h6, h3, h4, h5⟩ := st1_ok h2
  refine Or.inl ⟨_, _, _, h6, fun lc G Q hp hE p e s m args below meth c C H locs ls hP hS hl => ?_⟩
  obtain ⟨kx, hkx⟩ := List.getElem?_of_mem ((lvl_mem (G := G) (l := l) (q := (i, .int x))).mpr ⟨.int x, h1, rfl⟩)
  exact lv_iinc C.1 C.2.1 hd hl.1 hkx (by rw [show Int32.ofInt n = cstV a1 a2 by simpa [lnk] using hk]) (by omega) rfl (fun ls' hl' => hE p e s m args below meth c C H locs ls' hP hS ⟨st1_lv (α := α) h5 hl', by omega⟩)
theorem sx_iadd {α : Type} {M : MR} {pc a1 a2 a3 : Nat} {l : LV} {st : List Value} {σ : St2} {k0 : LV → List Value → St2 → Option α} {k1 : Prop → LV → List Value → St2 → Option α} {r : α} (hd : decode M.2.1 pc = .ok (.iadd, 1)) (h : ex1 (pc, .iadd, a1, a2, a3) l st σ k0 k1 = some r) : Res M (pc, .iadd, a1, a2, a3) l st σ k0 k1 r := by
  dsimp only [ex1] at h
  split at h
  · exact Or.inl ⟨_, _, _, h, fun lc G Q hp hE p e s m args below meth c C H locs ls hP hS hl => lv_iadd C.1 C.2.1 hd (hE p e s m args below meth c C H locs ls hP hS hl)⟩
  · cases h
theorem sx_isub {α : Type} {M : MR} {pc a1 a2 a3 : Nat} {l : LV} {st : List Value} {σ : St2} {k0 : LV → List Value → St2 → Option α} {k1 : Prop → LV → List Value → St2 → Option α} {r : α} (hd : decode M.2.1 pc = .ok (.isub, 1)) (h : ex1 (pc, .isub, a1, a2, a3) l st σ k0 k1 = some r) : Res M (pc, .isub, a1, a2, a3) l st σ k0 k1 r := by
  dsimp only [ex1] at h
  split at h
  · exact Or.inl ⟨_, _, _, h, fun lc G Q hp hE p e s m args below meth c C H locs ls hP hS hl => lv_isub C.1 C.2.1 hd (hE p e s m args below meth c C H locs ls hP hS hl)⟩
  · cases h
theorem sx_imul {α : Type} {M : MR} {pc a1 a2 a3 : Nat} {l : LV} {st : List Value} {σ : St2} {k0 : LV → List Value → St2 → Option α} {k1 : Prop → LV → List Value → St2 → Option α} {r : α} (hd : decode M.2.1 pc = .ok (.imul, 1)) (h : ex1 (pc, .imul, a1, a2, a3) l st σ k0 k1 = some r) : Res M (pc, .imul, a1, a2, a3) l st σ k0 k1 r := by
  dsimp only [ex1] at h
  split at h
  · exact Or.inl ⟨_, _, _, h, fun lc G Q hp hE p e s m args below meth c C H locs ls hP hS hl => lv_imul C.1 C.2.1 hd (hE p e s m args below meth c C H locs ls hP hS hl)⟩
  · cases h
theorem sx_iand {α : Type} {M : MR} {pc a1 a2 a3 : Nat} {l : LV} {st : List Value} {σ : St2} {k0 : LV → List Value → St2 → Option α} {k1 : Prop → LV → List Value → St2 → Option α} {r : α} (hd : decode M.2.1 pc = .ok (.iand, 1)) (h : ex1 (pc, .iand, a1, a2, a3) l st σ k0 k1 = some r) : Res M (pc, .iand, a1, a2, a3) l st σ k0 k1 r := by
  dsimp only [ex1] at h
  split at h
  · exact Or.inl ⟨_, _, _, h, fun lc G Q hp hE p e s m args below meth c C H locs ls hP hS hl => lv_iand C.1 C.2.1 hd (hE p e s m args below meth c C H locs ls hP hS hl)⟩
  · cases h
theorem sx_ior {α : Type} {M : MR} {pc a1 a2 a3 : Nat} {l : LV} {st : List Value} {σ : St2} {k0 : LV → List Value → St2 → Option α} {k1 : Prop → LV → List Value → St2 → Option α} {r : α} (hd : decode M.2.1 pc = .ok (.ior, 1)) (h : ex1 (pc, .ior, a1, a2, a3) l st σ k0 k1 = some r) : Res M (pc, .ior, a1, a2, a3) l st σ k0 k1 r := by
  dsimp only [ex1] at h
  split at h
  · exact Or.inl ⟨_, _, _, h, fun lc G Q hp hE p e s m args below meth c C H locs ls hP hS hl => lv_ior C.1 C.2.1 hd (hE p e s m args below meth c C H locs ls hP hS hl)⟩
  · cases h
theorem sx_ishl {α : Type} {M : MR} {pc a1 a2 a3 : Nat} {l : LV} {st : List Value} {σ : St2} {k0 : LV → List Value → St2 → Option α} {k1 : Prop → LV → List Value → St2 → Option α} {r : α} (hd : decode M.2.1 pc = .ok (.ishl, 1)) (h : ex1 (pc, .ishl, a1, a2, a3) l st σ k0 k1 = some r) : Res M (pc, .ishl, a1, a2, a3) l st σ k0 k1 r := by
  dsimp only [ex1] at h
  split at h
  · exact Or.inl ⟨_, _, _, h, fun lc G Q hp hE p e s m args below meth c C H locs ls hP hS hl => lv_ishl C.1 C.2.1 hd (hE p e s m args below meth c C H locs ls hP hS hl)⟩
  · cases h
theorem sx_ladd {α : Type} {M : MR} {pc a1 a2 a3 : Nat} {l : LV} {st : List Value} {σ : St2} {k0 : LV → List Value → St2 → Option α} {k1 : Prop → LV → List Value → St2 → Option α} {r : α} (hd : decode M.2.1 pc = .ok (.ladd, 1)) (h : ex1 (pc, .ladd, a1, a2, a3) l st σ k0 k1 = some r) : Res M (pc, .ladd, a1, a2, a3) l st σ k0 k1 r := by
  dsimp only [ex1] at h
  split at h
  · exact Or.inl ⟨_, _, _, h, fun lc G Q hp hE p e s m args below meth c C H locs ls hP hS hl => lv_ladd C.1 C.2.1 hd (hE p e s m args below meth c C H locs ls hP hS hl)⟩
  · cases h
theorem sx_lsub {α : Type} {M : MR} {pc a1 a2 a3 : Nat} {l : LV} {st : List Value} {σ : St2} {k0 : LV → List Value → St2 → Option α} {k1 : Prop → LV → List Value → St2 → Option α} {r : α} (hd : decode M.2.1 pc = .ok (.lsub, 1)) (h : ex1 (pc, .lsub, a1, a2, a3) l st σ k0 k1 = some r) : Res M (pc, .lsub, a1, a2, a3) l st σ k0 k1 r := by
  dsimp only [ex1] at h
  split at h
  · exact Or.inl ⟨_, _, _, h, fun lc G Q hp hE p e s m args below meth c C H locs ls hP hS hl => lv_lsub C.1 C.2.1 hd (hE p e s m args below meth c C H locs ls hP hS hl)⟩
  · cases h
theorem sx_lmul {α : Type} {M : MR} {pc a1 a2 a3 : Nat} {l : LV} {st : List Value} {σ : St2} {k0 : LV → List Value → St2 → Option α} {k1 : Prop → LV → List Value → St2 → Option α} {r : α} (hd : decode M.2.1 pc = .ok (.lmul, 1)) (h : ex1 (pc, .lmul, a1, a2, a3) l st σ k0 k1 = some r) : Res M (pc, .lmul, a1, a2, a3) l st σ k0 k1 r := by
  dsimp only [ex1] at h
  split at h
  · exact Or.inl ⟨_, _, _, h, fun lc G Q hp hE p e s m args below meth c C H locs ls hP hS hl => lv_lmul C.1 C.2.1 hd (hE p e s m args below meth c C H locs ls hP hS hl)⟩
  · cases h
theorem sx_land {α : Type} {M : MR} {pc a1 a2 a3 : Nat} {l : LV} {st : List Value} {σ : St2} {k0 : LV → List Value → St2 → Option α} {k1 : Prop → LV → List Value → St2 → Option α} {r : α} (hd : decode M.2.1 pc = .ok (.land, 1)) (h : ex1 (pc, .land, a1, a2, a3) l st σ k0 k1 = some r) : Res M (pc, .land, a1, a2, a3) l st σ k0 k1 r := by
  dsimp only [ex1] at h
  split at h
  · exact Or.inl ⟨_, _, _, h, fun lc G Q hp hE p e s m args below meth c C H locs ls hP hS hl => lv_land C.1 C.2.1 hd (hE p e s m args below meth c C H locs ls hP hS hl)⟩
  · cases h
theorem sx_idiv {α : Type} {M : MR} {pc a1 a2 a3 : Nat} {l : LV} {st : List Value} {σ : St2} {k0 : LV → List Value → St2 → Option α} {k1 : Prop → LV → List Value → St2 → Option α} {r : α} (hd : decode M.2.1 pc = .ok (.idiv, 1)) (h : ex1 (pc, .idiv, a1, a2, a3) l st σ k0 k1 = some r) : Res M (pc, .idiv, a1, a2, a3) l st σ k0 k1 r := by
  dsimp only [ex1] at h
  split at h
  · exact Or.inr ⟨_, _, _, _, h, fun lc G Q hp hE p e s m args below meth c C H locs ls hP hS hl => lv_idiv C.1 C.2.1 hd hp (hE p e s m args below meth c C H locs ls hP hS hl)⟩
  · cases h
theorem sx_irem {α : Type} {M : MR} {pc a1 a2 a3 : Nat} {l : LV} {st : List Value} {σ : St2} {k0 : LV → List Value → St2 → Option α} {k1 : Prop → LV → List Value → St2 → Option α} {r : α} (hd : decode M.2.1 pc = .ok (.irem, 1)) (h : ex1 (pc, .irem, a1, a2, a3) l st σ k0 k1 = some r) : Res M (pc, .irem, a1, a2, a3) l st σ k0 k1 r := by
  dsimp only [ex1] at h
  split at h
  · exact Or.inr ⟨_, _, _, _, h, fun lc G Q hp hE p e s m args below meth c C H locs ls hP hS hl => lv_irem C.1 C.2.1 hd hp (hE p e s m args below meth c C H locs ls hP hS hl)⟩
  · cases h
theorem sx_ldiv {α : Type} {M : MR} {pc a1 a2 a3 : Nat} {l : LV} {st : List Value} {σ : St2} {k0 : LV → List Value → St2 → Option α} {k1 : Prop → LV → List Value → St2 → Option α} {r : α} (hd : decode M.2.1 pc = .ok (.ldiv, 1)) (h : ex1 (pc, .ldiv, a1, a2, a3) l st σ k0 k1 = some r) : Res M (pc, .ldiv, a1, a2, a3) l st σ k0 k1 r := by
  dsimp only [ex1] at h
  split at h
  · exact Or.inr ⟨_, _, _, _, h, fun lc G Q hp hE p e s m args below meth c C H locs ls hP hS hl => lv_ldiv C.1 C.2.1 hd hp (hE p e s m args below meth c C H locs ls hP hS hl)⟩
  · cases h
theorem sx_lushr {α : Type} {M : MR} {pc a1 a2 a3 : Nat} {l : LV} {st : List Value} {σ : St2} {k0 : LV → List Value → St2 → Option α} {k1 : Prop → LV → List Value → St2 → Option α} {r : α} (hd : decode M.2.1 pc = .ok (.lushr, 1)) (h : ex1 (pc, .lushr, a1, a2, a3) l st σ k0 k1 = some r) : Res M (pc, .lushr, a1, a2, a3) l st σ k0 k1 r := by
  dsimp only [ex1] at h
  split at h
  · exact Or.inl ⟨_, _, _, h, fun lc G Q hp hE p e s m args below meth c C H locs ls hP hS hl => lv_lushr C.1 C.2.1 hd rfl (hE p e s m args below meth c C H locs ls hP hS hl)⟩
  · cases h
theorem sx_lshr {α : Type} {M : MR} {pc a1 a2 a3 : Nat} {l : LV} {st : List Value} {σ : St2} {k0 : LV → List Value → St2 → Option α} {k1 : Prop → LV → List Value → St2 → Option α} {r : α} (hd : decode M.2.1 pc = .ok (.lshr, 1)) (h : ex1 (pc, .lshr, a1, a2, a3) l st σ k0 k1 = some r) : Res M (pc, .lshr, a1, a2, a3) l st σ k0 k1 r := by
  dsimp only [ex1] at h
  split at h
  · exact Or.inl ⟨_, _, _, h, fun lc G Q hp hE p e s m args below meth c C H locs ls hP hS hl => lv_lshr C.1 C.2.1 hd rfl (hE p e s m args below meth c C H locs ls hP hS hl)⟩
  · cases h
theorem sx_i2l {α : Type} {M : MR} {pc a1 a2 a3 : Nat} {l : LV} {st : List Value} {σ : St2} {k0 : LV → List Value → St2 → Option α} {k1 : Prop → LV → List Value → St2 → Option α} {r : α} (hd : decode M.2.1 pc = .ok (.i2l, 1)) (h : ex1 (pc, .i2l, a1, a2, a3) l st σ k0 k1 = some r) : Res M (pc, .i2l, a1, a2, a3) l st σ k0 k1 r := by
  dsimp only [ex1] at h
  split at h
  · exact Or.inl ⟨_, _, _, h, fun lc G Q hp hE p e s m args below meth c C H locs ls hP hS hl => lv_i2l C.1 C.2.1 hd rfl (hE p e s m args below meth c C H locs ls hP hS hl)⟩
  · cases h
theorem sx_l2i {α : Type} {M : MR} {pc a1 a2 a3 : Nat} {l : LV} {st : List Value} {σ : St2} {k0 : LV → List Value → St2 → Option α} {k1 : Prop → LV → List Value → St2 → Option α} {r : α} (hd : decode M.2.1 pc = .ok (.l2i, 1)) (h : ex1 (pc, .l2i, a1, a2, a3) l st σ k0 k1 = some r) : Res M (pc, .l2i, a1, a2, a3) l st σ k0 k1 r := by
  dsimp only [ex1] at h
  split at h
  · exact Or.inl ⟨_, _, _, h, fun lc G Q hp hE p e s m args below meth c C H locs ls hP hS hl => lv_l2i C.1 C.2.1 hd rfl (hE p e s m args below meth c C H locs ls hP hS hl)⟩
  · cases h
theorem sx_i2b {α : Type} {M : MR} {pc a1 a2 a3 : Nat} {l : LV} {st : List Value} {σ : St2} {k0 : LV → List Value → St2 → Option α} {k1 : Prop → LV → List Value → St2 → Option α} {r : α} (hd : decode M.2.1 pc = .ok (.i2b, 1)) (h : ex1 (pc, .i2b, a1, a2, a3) l st σ k0 k1 = some r) : Res M (pc, .i2b, a1, a2, a3) l st σ k0 k1 r := by
  dsimp only [ex1] at h
  split at h
  · exact Or.inl ⟨_, _, _, h, fun lc G Q hp hE p e s m args below meth c C H locs ls hP hS hl => lv_i2b C.1 C.2.1 hd rfl (hE p e s m args below meth c C H locs ls hP hS hl)⟩
  · cases h
theorem sx_lcmp {α : Type} {M : MR} {pc a1 a2 a3 : Nat} {l : LV} {st : List Value} {σ : St2} {k0 : LV → List Value → St2 → Option α} {k1 : Prop → LV → List Value → St2 → Option α} {r : α} (hd : decode M.2.1 pc = .ok (.lcmp, 1)) (h : ex1 (pc, .lcmp, a1, a2, a3) l st σ k0 k1 = some r) : Res M (pc, .lcmp, a1, a2, a3) l st σ k0 k1 r := by
  dsimp only [ex1] at h
  split at h
  · exact Or.inl ⟨_, _, _, h, fun lc G Q hp hE p e s m args below meth c C H locs ls hP hS hl => W.lcmp C.1 C.2.1 hd (hE p e s m args below meth c C H locs ls hP hS hl)⟩
  · cases h
theorem sx_dup {α : Type} {M : MR} {pc a1 a2 a3 : Nat} {l : LV} {st : List Value} {σ : St2} {k0 : LV → List Value → St2 → Option α} {k1 : Prop → LV → List Value → St2 → Option α} {r : α} (hd : decode M.2.1 pc = .ok (.dup, 1)) (h : ex1 (pc, .dup, a1, a2, a3) l st σ k0 k1 = some r) : Res M (pc, .dup, a1, a2, a3) l st σ k0 k1 r := by
  dsimp only [ex1] at h
  split at h
  · exact Or.inl ⟨_, _, _, h, fun lc G Q hp hE p e s m args below meth c C H locs ls hP hS hl => lv_dup C.1 C.2.1 hd rfl (hE p e s m args below meth c C H locs ls hP hS hl)⟩
  · exact Or.inl ⟨_, _, _, h, fun lc G Q hp hE p e s m args below meth c C H locs ls hP hS hl => lv_dup C.1 C.2.1 hd rfl (hE p e s m args below meth c C H locs ls hP hS hl)⟩
  · cases h
theorem sx_getfield {α : Type} {M : MR} {pc a1 a2 a3 : Nat} {l : LV} {st : List Value} {σ : St2} {k0 : LV → List Value → St2 → Option α} {k1 : Prop → LV → List Value → St2 → Option α} {r : α} {n : Nat} (hd : decode M.2.1 pc = .ok (.getfield n, 3)) (hk : lnk M (pc, .getfield n, a1, a2, a3) = true) (h : ex1 (pc, .getfield n, a1, a2, a3) l st σ k0 k1 = some r) : Res M (pc, .getfield n, a1, a2, a3) l st σ k0 k1 r := by
  dsimp only [ex1] at h
  split at h
  · rename_i id rr
    obtain ⟨fks, f, h1, h2, h3⟩ := objK_ok h
    obtain ⟨C0, T, N, hc, hlen, -⟩ := lay_obj h1
    have hk2 : lw_tbl[a3]? = some (Cond.fieldLink M.1.cls n C0 (T a2).2.1 (T a2).2.2.1) ∧ a2 < N ∧ (T a2).1 = C0 := by
      unfold lnk at hk
      simp only [hc, Bool.and_eq_true, decide_eq_true_eq] at hk
      exact hk
    have key : ∀ v : Value, (∀ G, (fvs G σ id 0 fks)[a2]? = some (cv G v)) → Nx M pc l (.ref id :: rr) σ True (pc + 3) l (v :: rr) σ := by
      intro v hv lc G Q hp hE p e s m args below meth c C H locs ls hP hS hl
      exact va_get C.1 C.2.1 C.2.2.2.2.2.1 (cls_u hc).1 C.2.2.2.2.1 C.2.2.2.2.2.2.2.1 hP id (cell_obj h1) hc a2 hk2.2.1 (C.2.2.2.2.2.1 _ (GT_at hk2.1 rfl)) (fun _ h9 => by rw [hk2.2.2] at h9; exact h9) (hv G) hd (hE p e s m args below meth c C H locs ls hP hS hl)
    split at h3
    · exact Or.inl ⟨_, _, _, h3, key _ (fun G => by rw [fvs_at, h2]; simp [fval, cv])⟩
    · exact Or.inl ⟨_, _, _, h3, key _ (fun G => by rw [fvs_at, h2]; simp [fval, cv])⟩
    · exact Or.inl ⟨_, _, _, h3, key _ (fun G => by rw [fvs_at, h2]; simp [fval, cv])⟩
    · exact Or.inl ⟨_, _, _, h3, key _ (fun G => by rw [fvs_at, h2]; simp [fval, cv])⟩
  · cases h
theorem sx_putfield {α : Type} {M : MR} {pc a1 a2 a3 : Nat} {l : LV} {st : List Value} {σ : St2} {k0 : LV → List Value → St2 → Option α} {k1 : Prop → LV → List Value → St2 → Option α} {r : α} {n : Nat} (hd : decode M.2.1 pc = .ok (.putfield n, 3)) (hk : lnk M (pc, .putfield n, a1, a2, a3) = true) (h : ex1 (pc, .putfield n, a1, a2, a3) l st σ k0 k1 = some r) : Res M (pc, .putfield n, a1, a2, a3) l st σ k0 k1 r := by
  have key : ∀ (id : Nat) (rr : List Value) (v : Value) (fks : List Nat) (P : Prop) (σ' : St2), lay[id]? = some (.inl (a1, fks)) → (∀ (C : String) (T : u_T) (N : Nat), CLS[a1]? = some (C, T, N) → a2 < N → P → ∃ ty, parseFieldDescriptor (T a2).2.2.1 = some ty ∧ narrow ty v = v ∧ fits ty v = true) → (∀ G, (World G σ).set id (G.2.2 id, .inr (a1, (fvs G σ id 0 fks).set a2 v)) = World G σ') → (∀ G, cv G v = v) → Nx M pc l (v :: .ref id :: rr) σ P (pc + 3) l rr σ' := by
    intro id rr v fks P σ' h1 hty hw hcv lc G Q hp hE p e s m args below meth c C H locs ls hP hS hl
    obtain ⟨C0, T, N, hc, hlen, -⟩ := lay_obj h1
    have hk2 : (lw_tbl[a3]? = some (Cond.fieldLink M.1.cls n C0 (T a2).2.1 (T a2).2.2.1) ∧ a2 < N ∧ (T a2).1 = C0) ∧ (T a2).2.2.2 = false := by
      unfold lnk at hk
      simp only [hc, Bool.and_eq_true, decide_eq_true_eq] at hk
      exact hk
    obtain ⟨ty, t1, t2, t3⟩ := hty C0 T N hc hk2.1.2.1 hp
    obtain ⟨hu, ty0, u1, u2⟩ := cls_u hc
    have hD := World_D C.2.2.2.2.2.2.2.2 σ
    show W _ _ _ _ _ _ _ _ _ _ _ _ _ _ _ (F0 m pc ls (cv G v :: .ref (G.2.2 id) :: rr.map (cv G)))
    rw [hcv]
    refine va_put C.1 C.2.1 C.2.2.2.2.2.1 hu ty0 u1 u2 C.2.2.2.2.1 C.2.2.2.2.2.2.2.1 hP hD hS id (cell_obj h1) hc a2 hk2.1.2.1 (C.2.2.2.2.2.1 _ (GT_at hk2.1.1 rfl)) (fun _ h9 => by rw [hk2.1.2.2] at h9; exact h9) hk2.2 t1 t2 t3 (by rw [fvs_len, hlen]; exact hk2.1.2.1) hd (fun H1 locs1 hP1 _ hS1 => ?_)
    rw [hw G] at hP1
    exact hE p e s m args below meth c C H1 locs1 ls hP1 hS1 hl
  dsimp only [ex1] at h
  split at h
  · rename_i x id rr
    obtain ⟨fks, f, h1, h2, h3⟩ := objK_ok h
    obtain ⟨C0, T0, N0, hc0, hlen, ht0⟩ := lay_obj h1
    split at h3
    · refine Or.inl ⟨_, _, _, h3, key id rr (.int x) fks True _ h1 (fun C T N hc hN _ => ?_) (fun G => World_fld h1 (Or.inl h2) x) (fun G => rfl)⟩
      cases hc0.symm.trans hc
      exact ⟨.int, (ht0 a2 hN).1 h2, rfl, rfl⟩
    · refine Or.inr ⟨_, _, _, _, h3, key id rr (.int x) fks _ _ h1 (fun C T N hc hN hx => ?_) (fun G => World_fld h1 (Or.inr h2) x) (fun G => rfl)⟩
      cases hc0.symm.trans hc
      exact ⟨.boolean, (ht0 a2 hN).2.2 h2, by rcases hx with rfl | rfl <;> rfl, by rcases hx with rfl | rfl <;> rfl⟩
    · cases h3
  · rename_i x id rr
    obtain ⟨fks, f, h1, h2, h3⟩ := objK_ok h
    obtain ⟨C0, T0, N0, hc0, hlen, ht0⟩ := lay_obj h1
    split at h3
    · refine Or.inl ⟨_, _, _, h3, key id rr (.long x) fks True _ h1 (fun C T N hc hN _ => ?_) (fun G => World_fldL h1 h2 x) (fun G => rfl)⟩
      cases hc0.symm.trans hc
      exact ⟨.long, (ht0 a2 hN).2.1 h2, rfl, rfl⟩
    · cases h3
  · cases h
theorem sx_iaload {α : Type} {M : MR} {pc a1 a2 a3 : Nat} {l : LV} {st : List Value} {σ : St2} {k0 : LV → List Value → St2 → Option α} {k1 : Prop → LV → List Value → St2 → Option α} {r : α} (hd : decode M.2.1 pc = .ok (.iaload, 1)) (h : ex1 (pc, .iaload, a1, a2, a3) l st σ k0 k1 = some r) : Res M (pc, .iaload, a1, a2, a3) l st σ k0 k1 r := by
  dsimp only [ex1] at h
  split at h
  · rename_i i id rr
    obtain ⟨t, n, q, h1, h2⟩ := arrK_ok h
    split at h2
    · exact Or.inr ⟨_, _, _, _, h2, fun lc G Q hp hE p e s m args below meth c C H locs ls hP hS hl => va_iald C.1 C.2.1 C.2.2.2.2.2.2.2.1 hP id 1 (cell_arr h1 (by decide)) (tys_at G).2.1 hp hd (hE p e s m args below meth c C H locs ls hP hS hl)⟩
    · cases h2
  · cases h
theorem sx_baload {α : Type} {M : MR} {pc a1 a2 a3 : Nat} {l : LV} {st : List Value} {σ : St2} {k0 : LV → List Value → St2 → Option α} {k1 : Prop → LV → List Value → St2 → Option α} {r : α} (hd : decode M.2.1 pc = .ok (.baload, 1)) (h : ex1 (pc, .baload, a1, a2, a3) l st σ k0 k1 = some r) : Res M (pc, .baload, a1, a2, a3) l st σ k0 k1 r := by
  dsimp only [ex1] at h
  split at h
  · rename_i i id rr
    obtain ⟨t, n, q, h1, h2⟩ := arrK_ok h
    split at h2
    · exact Or.inr ⟨_, _, _, _, h2, fun lc G Q hp hE p e s m args below meth c C H locs ls hP hS hl => va_bald C.1 C.2.1 C.2.2.2.2.2.2.2.1 hP id 0 (cell_arr h1 (by decide)) (tys_at G).1 hp hd (hE p e s m args below meth c C H locs ls hP hS hl)⟩
    · exact Or.inr ⟨_, _, _, _, h2, fun lc G Q hp hE p e s m args below meth c C H locs ls hP hS hl => va_zald C.1 C.2.1 C.2.2.2.2.2.2.2.1 hP id 2 (cell_arr h1 (by decide)) (tys_at G).2.2.1 hp hd (hE p e s m args below meth c C H locs ls hP hS hl)⟩
    · cases h2
  · cases h
theorem sx_laload {α : Type} {M : MR} {pc a1 a2 a3 : Nat} {l : LV} {st : List Value} {σ : St2} {k0 : LV → List Value → St2 → Option α} {k1 : Prop → LV → List Value → St2 → Option α} {r : α} (hd : decode M.2.1 pc = .ok (.laload, 1)) (h : ex1 (pc, .laload, a1, a2, a3) l st σ k0 k1 = some r) : Res M (pc, .laload, a1, a2, a3) l st σ k0 k1 r := by
  dsimp only [ex1] at h
  split at h
  · rename_i i id rr
    obtain ⟨t, n, q, h1, h2⟩ := arrK_ok h
    split at h2
    · exact Or.inr ⟨_, _, _, _, h2, fun lc G Q hp hE p e s m args below meth c C H locs ls hP hS hl => va_lald C.1 C.2.1 C.2.2.2.2.2.2.2.1 hP id 3 (cell_arrL h1) (tys_at G).2.2.2 hp hd (hE p e s m args below meth c C H locs ls hP hS hl)⟩
    · cases h2
  · cases h
theorem sx_iastore {α : Type} {M : MR} {pc a1 a2 a3 : Nat} {l : LV} {st : List Value} {σ : St2} {k0 : LV → List Value → St2 → Option α} {k1 : Prop → LV → List Value → St2 → Option α} {r : α} (hd : decode M.2.1 pc = .ok (.iastore, 1)) (h : ex1 (pc, .iastore, a1, a2, a3) l st σ k0 k1 = some r) : Res M (pc, .iastore, a1, a2, a3) l st σ k0 k1 r := by
  dsimp only [ex1] at h
  split at h
  · rename_i x i id rr
    obtain ⟨t, n, q, h1, h2⟩ := arrK_ok h
    split at h2
    · exact Or.inr ⟨_, _, _, _, h2, fun lc G Q hp hE p e s m args below meth c C H locs ls hP hS hl => va_iast C.1 C.2.1 C.2.2.2.2.2.2.2.1 hP (World_D C.2.2.2.2.2.2.2.2 σ) hS id 1 (cell_arr h1 (by decide)) (tys_at G).2.1 hp hd (fun H1 locs1 hP1 _ hS1 => hE p e s m args below meth c C H1 locs1 ls (by rw [World_arr h1 (by decide)] at hP1; exact hP1) hS1 hl)⟩
    · cases h2
  · cases h
theorem sx_bastore {α : Type} {M : MR} {pc a1 a2 a3 : Nat} {l : LV} {st : List Value} {σ : St2} {k0 : LV → List Value → St2 → Option α} {k1 : Prop → LV → List Value → St2 → Option α} {r : α} (hd : decode M.2.1 pc = .ok (.bastore, 1)) (h : ex1 (pc, .bastore, a1, a2, a3) l st σ k0 k1 = some r) : Res M (pc, .bastore, a1, a2, a3) l st σ k0 k1 r := by
  dsimp only [ex1] at h
  split at h
  · rename_i x i id rr
    obtain ⟨t, n, q, h1, h2⟩ := arrK_ok h
    split at h2
    · exact Or.inr ⟨_, _, _, _, h2, fun lc G Q hp hE p e s m args below meth c C H locs ls hP hS hl => va_bast C.1 C.2.1 C.2.2.2.2.2.2.2.1 hP (World_D C.2.2.2.2.2.2.2.2 σ) hS id 0 (cell_arr h1 (by decide)) (tys_at G).1 hp hd (fun H1 locs1 hP1 _ hS1 => hE p e s m args below meth c C H1 locs1 ls (by rw [World_arr h1 (by decide), vp_nar_byte] at hP1; exact hP1) hS1 hl)⟩
    · exact Or.inr ⟨_, _, _, _, h2, fun lc G Q hp hE p e s m args below meth c C H locs ls hP hS hl => va_zast C.1 C.2.1 C.2.2.2.2.2.2.2.1 hP (World_D C.2.2.2.2.2.2.2.2 σ) hS id 2 (cell_arr h1 (by decide)) (tys_at G).2.2.1 hp hd (fun H1 locs1 hP1 _ hS1 => hE p e s m args below meth c C H1 locs1 ls (by rw [World_arr h1 (by decide)] at hP1; exact hP1) hS1 hl)⟩
    · cases h2
  · cases h
theorem sx_lastore {α : Type} {M : MR} {pc a1 a2 a3 : Nat} {l : LV} {st : List Value} {σ : St2} {k0 : LV → List Value → St2 → Option α} {k1 : Prop → LV → List Value → St2 → Option α} {r : α} (hd : decode M.2.1 pc = .ok (.lastore, 1)) (h : ex1 (pc, .lastore, a1, a2, a3) l st σ k0 k1 = some r) : Res M (pc, .lastore, a1, a2, a3) l st σ k0 k1 r := by
  dsimp only [ex1] at h
  split at h
  · rename_i x i id rr
    obtain ⟨t, n, q, h1, h2⟩ := arrK_ok h
    split at h2
    · exact Or.inr ⟨_, _, _, _, h2, fun lc G Q hp hE p e s m args below meth c C H locs ls hP hS hl => va_last C.1 C.2.1 C.2.2.2.2.2.2.2.1 hP (World_D C.2.2.2.2.2.2.2.2 σ) hS id 3 (cell_arrL h1) (tys_at G).2.2.2 hp hd (fun H1 locs1 hP1 _ hS1 => hE p e s m args below meth c C H1 locs1 ls (by rw [World_arrL h1] at hP1; exact hP1) hS1 hl)⟩
    · cases h2
  · cases h
theorem sx_arraylength {α : Type} {M : MR} {pc a1 a2 a3 : Nat} {l : LV} {st : List Value} {σ : St2} {k0 : LV → List Value → St2 → Option α} {k1 : Prop → LV → List Value → St2 → Option α} {r : α} (hd : decode M.2.1 pc = .ok (.arraylength, 1)) (h : ex1 (pc, .arraylength, a1, a2, a3) l st σ k0 k1 = some r) : Res M (pc, .arraylength, a1, a2, a3) l st σ k0 k1 r := by
  dsimp only [ex1] at h
  split at h
  · rename_i id rr
    obtain ⟨t, n, q, h1, h2⟩ := arrK_ok h
    obtain ⟨ht, -⟩ := lay_arr h1
    refine Or.inl ⟨_, _, _, h2, fun lc G Q hp hE p e s m args below meth c C H locs ls hP hS hl => ?_⟩
    have h9 := hE p e s m args below meth c C H locs ls hP hS hl
    rcases (show t = 0 ∨ t = 1 ∨ t = 2 ∨ t = 3 by omega) with rfl | rfl | rfl | rfl
    · exact va_alen C.1 C.2.1 C.2.2.2.2.2.2.2.1 hP id 0 (cell_arr h1 (by decide)) (tys_at G).1 rfl hd h9
    · exact va_alen C.1 C.2.1 C.2.2.2.2.2.2.2.1 hP id 1 (cell_arr h1 (by decide)) (tys_at G).2.1 rfl hd h9
    · exact va_alen C.1 C.2.1 C.2.2.2.2.2.2.2.1 hP id 2 (cell_arr h1 (by decide)) (tys_at G).2.2.1 rfl hd h9
    · exact va_alen C.1 C.2.1 C.2.2.2.2.2.2.2.1 hP id 3 (cell_arrL h1) (tys_at G).2.2.2 rfl hd h9
  · cases h
