/-! ===== the machine over a store: one world of cells for both sides ===== -/
abbrev RI : Type := Nat × Instr × Nat × Nat × Nat
abbrev LV : Type := List (Option Value)
abbrev St2 : Type := (Nat → Nat → Int32) × (Nat → Nat → Int64)
/-- start, straight instructions, the last one (nop: it falls through) -/
abbrev BLK : Type := Nat × List RI × RI
/-- name, code, locals, answer, frames, words of locals, blocks; where its words stand: code, instance or static, selects, initialized; its parameters -/
abbrev MR : Type := MethodName × ByteArray × Nat × Option FieldType × Nat × Nat × List BLK × Nat × Nat × Nat × Nat × Nat
/-- classes and slots, array classes, addresses -/
abbrev GG : Type := va_G × (Nat → ClassId) × (Nat → Nat)
def up2 {α : Type} (I : Nat → Nat → α) (a b : Nat) (x : α) : Nat → Nat → α := fun p => if p = a then (fun q => if q = b then x else I p q) else I p
def nth : LV → Nat → Option Value
  | [], _ => none
  | a :: _, 0 => a
  | _ :: l, n + 1 => nth l n
def lnth {α : Type} : List α → Nat → Option α
  | [], _ => none
  | a :: _, 0 => some a
  | _ :: l, n + 1 => lnth l n
theorem lnth_eq {α : Type} (l : List α) (n : Nat) : lnth l n = l[n]? := by
  induction l generalizing n with
  | nil => rfl
  | cons a l ih => cases n with
    | zero => rfl
    | succ n => exact ih n
/-- an Int32 below 0: minus (k + 1) -/
def mI (k : Nat) : Int32 := Int32.ofInt (Int.negSucc k)
theorem cI_nat (k : Nat) : Int32.ofInt (Int.ofNat k) = nI k := rfl
def cv (G : GG) : Value → Value
  | .ref n => .ref (G.2.2 n)
  | v => v
def fval (G : GG) (σ : St2) (id k : Nat) : Nat → Value
  | 0 => .int (σ.1 id k)
  | 1 => .long (σ.2 id k)
  | 2 => .int (σ.1 id k)
  | n + 3 => .ref (G.2.2 n)
def fvs (G : GG) (σ : St2) (id : Nat) : Nat → List Nat → List Value
  | _, [] => []
  | k, f :: fs => fval G σ id k f :: fvs G σ id (k + 1) fs
def cellL (G : GG) (σ : St2) (id : Nat) : Option ((Nat × List Nat) ⊕ (Nat × Nat × Nat)) → va_E
  | some (.inl (ci, fks)) => .inr (ci, fvs G σ id 0 fks)
  | some (.inr (t, n, 0)) => .inl (G.2.1 t, n, .inl (σ.1 id))
  | some (.inr (t, n, _ + 1)) => .inl (G.2.1 t, n, .inr (.inl (σ.2 id)))
  | none => .inr (0, [])
def cellE (G : GG) (σ : St2) (id : Nat) : va_E := cellL G σ id lay[id]?
def World (G : GG) (σ : St2) : va_W := (List.range lay.length).map (fun id => (G.2.2 id, cellE G σ id))
def tysG (G : GG) : List (ClassId × FieldType) := [(G.2.1 0, .byte), (G.2.1 1, .int), (G.2.1 2, .boolean), (G.2.1 3, .long)]
theorem World_at (G : GG) (σ : St2) {id : Nat} (h : id < lay.length) : (World G σ)[id]? = some (G.2.2 id, cellE G σ id) := by
  simp [World, h]
theorem World_len (G : GG) (σ : St2) : (World G σ).length = lay.length := by simp [World]
theorem World_set (G : GG) (σ σ' : St2) {id : Nat} (h : ∀ j, j ≠ id → cellE G σ' j = cellE G σ j) : World G σ' = (World G σ).set id (G.2.2 id, cellE G σ' id) := by
  apply List.ext_getElem?
  intro j
  by_cases hj : j < lay.length
  · rw [World_at G σ' hj]
    by_cases e : j = id
    · subst e
      rw [List.getElem?_set_self (by rw [World_len]; exact hj)]
    · rw [List.getElem?_set_ne (fun q => e q.symm), World_at G σ hj, h j e]
  · rw [List.getElem?_eq_none (by rw [World_len]; omega), List.getElem?_eq_none (by rw [List.length_set, World_len]; omega)]
theorem fvs_at (G : GG) (σ : St2) (id : Nat) (fks : List Nat) (k0 k : Nat) : (fvs G σ id k0 fks)[k]? = (fks[k]?).map (fval G σ id (k0 + k)) := by
  induction fks generalizing k0 k with
  | nil => simp [fvs]
  | cons f fs ih =>
    cases k with
    | zero => simp [fvs]
    | succ k =>
      rw [fvs, List.getElem?_cons_succ, ih, List.getElem?_cons_succ]
      congr 2
      omega
theorem fvs_len (G : GG) (σ : St2) (id : Nat) (fks : List Nat) (k0 : Nat) : (fvs G σ id k0 fks).length = fks.length := by
  induction fks generalizing k0 with
  | nil => rfl
  | cons f fs ih => simp [fvs, ih]
theorem up2_row {α : Type} (I : Nat → Nat → α) (a b : Nat) (x : α) : up2 I a b x a = fun q => if q = b then x else I a q := by
  simp [up2]
theorem up2_ne {α : Type} (I : Nat → Nat → α) {a p : Nat} (b : Nat) (x : α) (h : p ≠ a) : up2 I a b x p = I p := by
  simp [up2, h]
theorem up2_same {α : Type} (I : Nat → Nat → α) (a b : Nat) (x : α) : up2 I a b x a b = x := by simp [up2]
theorem up2_col {α : Type} (I : Nat → Nat → α) (a : Nat) {b q : Nat} (x : α) (h : q ≠ b) : up2 I a b x a q = I a q := by simp [up2, h]
theorem cellE_ne1 (G : GG) (σ : St2) {id j : Nat} (k : Nat) (x : Int32) (h : j ≠ id) : cellE G (up2 σ.1 id k x, σ.2) j = cellE G σ j := by
  have e : ∀ (fks : List Nat) (k0 : Nat), fvs G (up2 σ.1 id k x, σ.2) j k0 fks = fvs G σ j k0 fks := by
    intro fks
    induction fks with
    | nil => intro k0; rfl
    | cons f fs ih =>
      intro k0
      rw [fvs, fvs, ih]
      congr 1
      rcases f with _ | _ | _ | f <;> simp [fval, up2_ne _ _ _ h]
  unfold cellE
  rcases lay[j]? with _ | ⟨ci, fks⟩ | ⟨t, n, _ | q⟩ <;> simp [cellL, e, up2_ne _ _ _ h]
theorem cellE_ne2 (G : GG) (σ : St2) {id j : Nat} (k : Nat) (x : Int64) (h : j ≠ id) : cellE G (σ.1, up2 σ.2 id k x) j = cellE G σ j := by
  have e : ∀ (fks : List Nat) (k0 : Nat), fvs G (σ.1, up2 σ.2 id k x) j k0 fks = fvs G σ j k0 fks := by
    intro fks
    induction fks with
    | nil => intro k0; rfl
    | cons f fs ih =>
      intro k0
      rw [fvs, fvs, ih]
      congr 1
      rcases f with _ | _ | _ | f <;> simp [fval, up2_ne _ _ _ h]
  unfold cellE
  rcases lay[j]? with _ | ⟨ci, fks⟩ | ⟨t, n, _ | q⟩ <;> simp [cellL, e, up2_ne _ _ _ h]
theorem fvs_set1 (G : GG) (σ : St2) (id : Nat) (fks : List Nat) {k : Nat} (x : Int32) (hk : fks[k]? = some 0 ∨ fks[k]? = some 2) : fvs G (up2 σ.1 id k x, σ.2) id 0 fks = (fvs G σ id 0 fks).set k (.int x) := by
  apply List.ext_getElem?
  intro j
  have hl : k < fks.length := by
    rcases hk with h | h <;> exact (List.getElem?_eq_some_iff.mp h).1
  rw [fvs_at]
  by_cases e : j = k
  · subst e
    rw [List.getElem?_set_self (by rw [fvs_len]; exact hl)]
    rcases hk with h | h <;> rw [h] <;> simp [fval, up2_same]
  · rw [List.getElem?_set_ne (fun q => e q.symm), fvs_at]
    cases fks[j]? with
    | none => rfl
    | some f => rcases f with _ | _ | _ | f <;> simp [fval, up2_col _ _ _ e]
theorem fvs_set2 (G : GG) (σ : St2) (id : Nat) (fks : List Nat) {k : Nat} (x : Int64) (hk : fks[k]? = some 1) : fvs G (σ.1, up2 σ.2 id k x) id 0 fks = (fvs G σ id 0 fks).set k (.long x) := by
  apply List.ext_getElem?
  intro j
  have hl : k < fks.length := (List.getElem?_eq_some_iff.mp hk).1
  rw [fvs_at]
  by_cases e : j = k
  · subst e
    rw [List.getElem?_set_self (by rw [fvs_len]; exact hl), hk]
    simp [fval, up2_same]
  · rw [List.getElem?_set_ne (fun q => e q.symm), fvs_at]
    cases fks[j]? with
    | none => rfl
    | some f => rcases f with _ | _ | _ | f <;> simp [fval, up2_col _ _ _ e]
/-! the locals -/
def lvl (G : GG) (l : LV) : List (Nat × Value) := (List.range l.length).filterMap (fun j => (nth l j).map (fun v => (j, cv G v)))
theorem nth_lt {l : LV} {j : Nat} {v : Value} (h : nth l j = some v) : j < l.length := by
  induction l generalizing j with
  | nil => cases h
  | cons a l ih => cases j with
    | zero => simp
    | succ j => simp; exact ih h
theorem lvl_mem {G : GG} {l : LV} {q : Nat × Value} : q ∈ lvl G l ↔ ∃ v, nth l q.1 = some v ∧ q.2 = cv G v := by
  unfold lvl
  rw [List.mem_filterMap]
  constructor
  · rintro ⟨j, -, h⟩
    cases hn : nth l j with
    | none => rw [hn] at h; cases h
    | some v => rw [hn] at h; cases h; exact ⟨v, hn, rfl⟩
  · rintro ⟨v, h1, h2⟩
    exact ⟨q.1, List.mem_range.mpr (nth_lt h1), by rw [h1]; simp [← h2]⟩
theorem lv_mono {ls : Array Slot} {nL : Nat} {L L' : List (Nat × Value)} (h : lv_has ls nL L) (hs : ∀ q ∈ L', q ∈ L) : lv_has ls nL L' := ⟨h.1, h.2.1, fun q hq => h.2.2 q (hs q hq)⟩
theorem lvl_get {G : GG} {ls : Array Slot} {nL : Nat} {l : LV} {j : Nat} {v : Value} (h : lv_has ls nL (lvl G l)) (hn : nth l j = some v) : ls[j]? = some (.val (cv G v)) := h.2.2 (j, cv G v) (lvl_mem.mpr ⟨v, hn, rfl⟩)
def setK {α : Type} : LV → Nat → Option Value → (LV → Option α) → Option α
  | [], _, _, _ => none
  | _ :: l, 0, v, k => k (v :: l)
  | a :: l, n + 1, v, k => setK l n v (fun l' => k (a :: l'))
theorem setK_ok {α : Type} {l : LV} {i : Nat} {v : Option Value} {k : LV → Option α} {r : α} (h : setK l i v k = some r) : i < l.length ∧ k (l.set i v) = some r := by
  induction l generalizing i k with
  | nil => cases h
  | cons a l ih => cases i with
    | zero => exact ⟨by simp, h⟩
    | succ i =>
      obtain ⟨h1, h2⟩ := ih h
      exact ⟨by simp; exact h1, h2⟩
theorem nth_set {l : LV} {i : Nat} {v : Option Value} (h : i < l.length) (j : Nat) : nth (l.set i v) j = if j = i then v else nth l j := by
  induction l generalizing i j with
  | nil => cases h
  | cons a l ih => cases i with
    | zero => cases j with
      | zero => rfl
      | succ j => simp [nth]
    | succ i => cases j with
      | zero => simp [nth]
      | succ j =>
        have h' : i < l.length := by simpa using h
        have := ih h' j
        simp only [List.set_cons_succ, nth, this]
        by_cases e : j = i
        · simp [e]
        · simp [e]
def st1 {α : Type} (l : LV) (i : Nat) (v : Value) (k : LV → Option α) : Option α :=
  match i with
  | 0 => setK l 0 (some v) k
  | j + 1 => match nth l j with
    | some (.long _) => setK l j none (fun l => setK l (j + 1) (some v) k)
    | some (.double _) => none
    | _ => setK l (j + 1) (some v) k
def st2 {α : Type} (l : LV) (i : Nat) (v : Value) (k : LV → Option α) : Option α := st1 l i v (fun l => setK l (i + 1) none k)
theorem cv_cat (G : GG) (v : Value) : (cv G v).category = v.category := by cases v <;> rfl
/-- what a store of one slot leaves -/
theorem st1_ok {α : Type} {l : LV} {i : Nat} {v : Value} {k : LV → Option α} {r : α} (h : st1 l i v k = some r) : ∃ l', k l' = some r ∧ l'.length = l.length ∧ i < l.length ∧ ∀ j w, nth l' j = some w → (j = i ∧ w = v) ∨ (j ≠ i ∧ nth l j = some w ∧ ¬ (j + 1 = i ∧ w.category = 2)) := by
  unfold st1 at h
  split at h
  · obtain ⟨h1, h2⟩ := setK_ok h
    refine ⟨_, h2, by simp, h1, fun j w hw => ?_⟩
    rw [nth_set h1] at hw
    by_cases e : j = 0
    · rw [if_pos e] at hw
      cases hw
      exact Or.inl ⟨e, rfl⟩
    · rw [if_neg e] at hw
      exact Or.inr ⟨e, hw, by omega⟩
  · rename_i j0
    split at h
    · rename_i x hx
      obtain ⟨h1, h2⟩ := setK_ok h
      obtain ⟨h3, h4⟩ := setK_ok h2
      have h3' : j0 + 1 < l.length := by simpa using h3
      refine ⟨_, h4, by simp, h3', fun j w hw => ?_⟩
      rw [nth_set h3] at hw
      by_cases e : j = j0 + 1
      · rw [if_pos e] at hw
        cases hw
        exact Or.inl ⟨e, rfl⟩
      · rw [if_neg e, nth_set h1] at hw
        by_cases e2 : j = j0
        · rw [if_pos e2] at hw
          cases hw
        · rw [if_neg e2] at hw
          exact Or.inr ⟨e, hw, by omega⟩
    · cases h
    · rename_i hn1 hn2
      obtain ⟨h1, h2⟩ := setK_ok h
      refine ⟨_, h2, by simp, h1, fun j w hw => ?_⟩
      rw [nth_set h1] at hw
      by_cases e : j = j0 + 1
      · rw [if_pos e] at hw
        cases hw
        exact Or.inl ⟨e, rfl⟩
      · rw [if_neg e] at hw
        refine Or.inr ⟨e, hw, fun q => ?_⟩
        have e2 : j = j0 := by omega
        subst e2
        cases w <;> simp [Value.category] at q
        · exact hn1 _ hw
        · exact hn2 _ hw
theorem st1_lv {α : Type} {G : GG} {ls' : Array Slot} {nL : Nat} {l l' : LV} {i : Nat} {v : Value} (hm : ∀ j w, nth l' j = some w → (j = i ∧ w = v) ∨ (j ≠ i ∧ nth l j = some w ∧ ¬ (j + 1 = i ∧ w.category = 2)))
    (h : lv_has ls' nL ((i, cv G v) :: (lvl G l).filter (fun q => !(q.1 == i) && !(q.1 + 1 == i && q.2.category == 2)))) : lv_has ls' nL (lvl G l') := by
  refine lv_mono h fun q hq => ?_
  obtain ⟨w, h1, h2⟩ := lvl_mem.mp hq
  obtain ⟨j, u⟩ := q
  simp only at h1 h2
  subst h2
  rcases hm j w h1 with ⟨rfl, rfl⟩ | ⟨n1, n2, n3⟩
  · exact List.mem_cons_self
  · refine List.mem_cons_of_mem _ (List.mem_filter.mpr ⟨lvl_mem.mpr ⟨w, n2, rfl⟩, ?_⟩)
    simp only [Bool.and_eq_true, Bool.not_eq_true', beq_eq_false_iff_ne, ne_eq, Bool.and_eq_false_iff, cv_cat]
    refine ⟨n1, ?_⟩
    by_cases e : j + 1 = i
    · exact Or.inr (fun q => n3 ⟨e, q⟩)
    · exact Or.inl e
theorem st2_ok {α : Type} {l : LV} {i : Nat} {v : Value} {k : LV → Option α} {r : α} (h : st2 l i v k = some r) : ∃ l', k l' = some r ∧ l'.length = l.length ∧ i + 1 < l.length ∧ ∀ j w, nth l' j = some w → (j = i ∧ w = v) ∨ (j ≠ i ∧ j ≠ i + 1 ∧ nth l j = some w ∧ ¬ (j + 1 = i ∧ w.category = 2)) := by
  obtain ⟨l1, h1, h2, h3, h4⟩ := st1_ok h
  obtain ⟨h5, h6⟩ := setK_ok h1
  refine ⟨_, h6, by simp [h2], by omega, fun j w hw => ?_⟩
  rw [nth_set h5] at hw
  by_cases e : j = i + 1
  · rw [if_pos e] at hw
    cases hw
  · rw [if_neg e] at hw
    rcases h4 j w hw with q | ⟨q1, q2, q3⟩
    · exact Or.inl q
    · exact Or.inr ⟨q1, e, q2, q3⟩
theorem st2_lv {G : GG} {ls' : Array Slot} {nL : Nat} {l l' : LV} {i : Nat} {v : Value} (hm : ∀ j w, nth l' j = some w → (j = i ∧ w = v) ∨ (j ≠ i ∧ j ≠ i + 1 ∧ nth l j = some w ∧ ¬ (j + 1 = i ∧ w.category = 2)))
    (h : lv_has ls' nL ((i, cv G v) :: (lvl G l).filter (fun q => !(q.1 == i) && (!(q.1 == i + 1) && !(q.1 + 1 == i && q.2.category == 2))))) : lv_has ls' nL (lvl G l') := by
  refine lv_mono h fun q hq => ?_
  obtain ⟨w, h1, h2⟩ := lvl_mem.mp hq
  obtain ⟨j, u⟩ := q
  simp only at h1 h2
  subst h2
  rcases hm j w h1 with ⟨rfl, rfl⟩ | ⟨n1, n0, n2, n3⟩
  · exact List.mem_cons_self
  · refine List.mem_cons_of_mem _ (List.mem_filter.mpr ⟨lvl_mem.mpr ⟨w, n2, rfl⟩, ?_⟩)
    simp only [Bool.and_eq_true, Bool.not_eq_true', beq_eq_false_iff_ne, ne_eq, Bool.and_eq_false_iff, cv_cat]
    refine ⟨n1, n0, ?_⟩
    by_cases e : j + 1 = i
    · exact Or.inr (fun q => n3 ⟨e, q⟩)
    · exact Or.inl e
