/-! ===== one straight instruction, and its soundness ===== -/
def lnI : Instr → Nat
  | .iconst _ | .lconst _ | .iload_n _ | .lload_n _ | .aload_n _ | .istore_n _ | .lstore_n _ => 1
  | .bipush _ | .ldc _ | .iload _ | .lload _ | .aload _ | .istore _ | .lstore _ => 2
  | .sipush _ | .ldc2_w _ | .iinc _ _ | .getfield _ | .putfield _ => 3
  | _ => 1
/-- an instruction: its place, itself, three numbers (class and field, or a constant; the place of its word) -/
def cstV (c1 c2 : Nat) : Int32 := match c2 with
  | 0 => nI c1
  | _ => mI c1
def lnk (M : MR) (ri : RI) : Bool :=
  match ri.2.1 with
  | .iconst n => decide (Int32.ofInt n = cstV ri.2.2.1 ri.2.2.2.1)
  | .iinc _ n => decide (Int32.ofInt n = cstV ri.2.2.1 ri.2.2.2.1)
  | .getfield idx => match CLS[ri.2.2.1]? with
    | some (C, T, N) => decide (lw_tbl[ri.2.2.2.2]? = some (Cond.fieldLink M.1.cls idx C (T ri.2.2.2.1).2.1 (T ri.2.2.2.1).2.2.1)) && (decide (ri.2.2.2.1 < N) && decide ((T ri.2.2.2.1).1 = C))
    | none => false
  | .putfield idx => match CLS[ri.2.2.1]? with
    | some (C, T, N) => decide (lw_tbl[ri.2.2.2.2]? = some (Cond.fieldLink M.1.cls idx C (T ri.2.2.2.1).2.1 (T ri.2.2.2.1).2.2.1)) && (decide (ri.2.2.2.1 < N) && decide ((T ri.2.2.2.1).1 = C)) && decide ((T ri.2.2.2.1).2.2.2 = false)
    | none => false
  | .bipush n => decide ((Int8.ofInt n).toInt32 = cstV ri.2.2.1 ri.2.2.2.1)
  | .sipush n => decide ((Int16.ofInt n).toInt32 = cstV ri.2.2.1 ri.2.2.2.1)
  | .ldc idx => decide (lw_tbl[ri.2.2.2.2]? = some (Cond.constant M.1.cls idx (nI ri.2.2.1)))
  | .ldc2_w idx => decide (lw_tbl[ri.2.2.2.2]? = some (Cond.constantLong M.1.cls idx (lN ri.2.2.1)))
  | _ => true
def chk1 (M : MR) (ri : RI) : Bool := decide (decode M.2.1 ri.1 = .ok (ri.2.1, lnI ri.2.1)) && lnk M ri
def ldI {α : Type} (l : LV) (i : Nat) (k : Int32 → Option α) : Option α := match nth l i with
  | some (.int x) => k x
  | _ => none
def ldL {α : Type} (l : LV) (i : Nat) (k : Int64 → Option α) : Option α := match nth l i with
  | some (.long x) => k x
  | _ => none
def ldA {α : Type} (l : LV) (i : Nat) (k : Nat → Option α) : Option α := match nth l i with
  | some (.ref x) => k x
  | _ => none
def cst {α : Type} (c1 c2 : Nat) (k : Int32 → Option α) : Option α := match c2 with
  | 0 => k (nI c1)
  | _ => k (mI c1)
/-- the fields of the object in a cell, if it is of that class -/
def objK {α : Type} (id ci k : Nat) (kk : Nat → Option α) : Option α := match lnth lay id with
  | some (.inl (c, fks)) => match Nat.beq c ci with
    | true => match lnth fks k with
      | some f => kk f
      | none => none
    | false => none
  | _ => none
/-- the array in a cell: its type, length -/
def arrK {α : Type} (id : Nat) (kk : Nat → Nat → Option α) : Option α := match lnth lay id with
  | some (.inr (t, n, _)) => kk t n
  | _ => none
def ex1 {α : Type} (ri : RI) (l : LV) (st : List Value) (σ : St2) (k0 : LV → List Value → St2 → Option α) (k1 : Prop → LV → List Value → St2 → Option α) : Option α :=
  match ri with
  | (_, ins, c1, c2, _) => match ins with
  | .iconst _ => cst c1 c2 fun x => k0 l (.int x :: st) σ
  | .bipush _ => cst c1 c2 fun x => k0 l (.int x :: st) σ
  | .sipush _ => cst c1 c2 fun x => k0 l (.int x :: st) σ
  | .lconst n => k0 l (.long (lN n.val) :: st) σ
  | .ldc _ => k0 l (.int (nI c1) :: st) σ
  | .ldc2_w _ => k0 l (.long (lN c1) :: st) σ
  | .iload_n i => ldI l i.val fun x => k0 l (.int x :: st) σ
  | .iload i => ldI l i fun x => k0 l (.int x :: st) σ
  | .lload_n i => ldL l i.val fun x => k0 l (.long x :: st) σ
  | .lload i => ldL l i fun x => k0 l (.long x :: st) σ
  | .aload_n i => ldA l i.val fun x => k0 l (.ref x :: st) σ
  | .aload i => ldA l i fun x => k0 l (.ref x :: st) σ
  | .istore_n i => match st with
    | .int x :: r => st1 l i.val (.int x) fun l => k0 l r σ
    | _ => none
  | .istore i => match st with
    | .int x :: r => st1 l i (.int x) fun l => k0 l r σ
    | _ => none
  | .lstore_n i => match st with
    | .long x :: r => st2 l i.val (.long x) fun l => k0 l r σ
    | _ => none
  | .lstore i => match st with
    | .long x :: r => st2 l i (.long x) fun l => k0 l r σ
    | _ => none
  | .iinc i _ => ldI l i fun x => cst c1 c2 fun y => st1 l i (.int (x + y)) fun l => k0 l st σ
  | .iadd => match st with
    | .int y :: .int x :: r => k0 l (.int (x + y) :: r) σ
    | _ => none
  | .isub => match st with
    | .int y :: .int x :: r => k0 l (.int (x - y) :: r) σ
    | _ => none
  | .imul => match st with
    | .int y :: .int x :: r => k0 l (.int (x * y) :: r) σ
    | _ => none
  | .iand => match st with
    | .int y :: .int x :: r => k0 l (.int (x &&& y) :: r) σ
    | _ => none
  | .ior => match st with
    | .int y :: .int x :: r => k0 l (.int (x ||| y) :: r) σ
    | _ => none
  | .ishl => match st with
    | .int y :: .int x :: r => k0 l (.int (x <<< (y &&& 31)) :: r) σ
    | _ => none
  | .idiv => match st with
    | .int y :: .int x :: r => k1 (¬ y = 0) l (.int (x / y) :: r) σ
    | _ => none
  | .irem => match st with
    | .int y :: .int x :: r => k1 (¬ y = 0) l (.int (x - x / y * y) :: r) σ
    | _ => none
  | .ladd => match st with
    | .long y :: .long x :: r => k0 l (.long (x + y) :: r) σ
    | _ => none
  | .lsub => match st with
    | .long y :: .long x :: r => k0 l (.long (x - y) :: r) σ
    | _ => none
  | .lmul => match st with
    | .long y :: .long x :: r => k0 l (.long (x * y) :: r) σ
    | _ => none
  | .land => match st with
    | .long y :: .long x :: r => k0 l (.long (x &&& y) :: r) σ
    | _ => none
  | .ldiv => match st with
    | .long y :: .long x :: r => k1 (¬ y = 0) l (.long (x / y) :: r) σ
    | _ => none
  | .lushr => match st with
    | .int y :: .long x :: r => k0 l (.long (x.toUInt64 >>> (y.toInt64.toUInt64 &&& Int64.toUInt64 63)).toInt64 :: r) σ
    | _ => none
  | .lshr => match st with
    | .int y :: .long x :: r => k0 l (.long (x >>> (y.toInt64 &&& 63)) :: r) σ
    | _ => none
  | .lcmp => match st with
    | .long y :: .long x :: r => k0 l (.int (lg_cmp x y) :: r) σ
    | _ => none
  | .i2l => match st with
    | .int x :: r => k0 l (.long x.toInt64 :: r) σ
    | _ => none
  | .l2i => match st with
    | .long x :: r => k0 l (.int x.toInt32 :: r) σ
    | _ => none
  | .i2b => match st with
    | .int x :: r => k0 l (.int x.toInt8.toInt32 :: r) σ
    | _ => none
  | .dup => match st with
    | .int x :: r => k0 l (.int x :: .int x :: r) σ
    | .ref x :: r => k0 l (.ref x :: .ref x :: r) σ
    | _ => none
  | .getfield _ => match st with
    | .ref id :: r => objK id c1 c2 fun f => match f with
      | 0 => k0 l (.int (σ.1 id c2) :: r) σ
      | 1 => k0 l (.long (σ.2 id c2) :: r) σ
      | 2 => k0 l (.int (σ.1 id c2) :: r) σ
      | n + 3 => k0 l (.ref n :: r) σ
    | _ => none
  | .putfield _ => match st with
    | .int x :: .ref id :: r => objK id c1 c2 fun f => match f with
      | 0 => k0 l r (up2 σ.1 id c2 x, σ.2)
      | 2 => k1 (x = 0 ∨ x = 1) l r (up2 σ.1 id c2 x, σ.2)
      | _ => none
    | .long x :: .ref id :: r => objK id c1 c2 fun f => match f with
      | 1 => k0 l r (σ.1, up2 σ.2 id c2 x)
      | _ => none
    | _ => none
  | .iaload => match st with
    | .int i :: .ref id :: r => arrK id fun t n => match t with
      | 1 => k1 (vp_in i n) l (.int (σ.1 id i.toNatClampNeg) :: r) σ
      | _ => none
    | _ => none
  | .baload => match st with
    | .int i :: .ref id :: r => arrK id fun t n => match t with
      | 0 => k1 (vp_in i n) l (.int (σ.1 id i.toNatClampNeg) :: r) σ
      | 2 => k1 (vp_in i n) l (.int (σ.1 id i.toNatClampNeg) :: r) σ
      | _ => none
    | _ => none
  | .laload => match st with
    | .int i :: .ref id :: r => arrK id fun t n => match t with
      | 3 => k1 (vp_in i n) l (.long (σ.2 id i.toNatClampNeg) :: r) σ
      | _ => none
    | _ => none
  | .iastore => match st with
    | .int x :: .int i :: .ref id :: r => arrK id fun t n => match t with
      | 1 => k1 (vp_in i n) l r (up2 σ.1 id i.toNatClampNeg x, σ.2)
      | _ => none
    | _ => none
  | .bastore => match st with
    | .int x :: .int i :: .ref id :: r => arrK id fun t n => match t with
      | 0 => k1 (vp_in i n) l r (up2 σ.1 id i.toNatClampNeg x.toInt8.toInt32, σ.2)
      | 2 => k1 (vp_in i n) l r (up2 σ.1 id i.toNatClampNeg (x &&& 1), σ.2)
      | _ => none
    | _ => none
  | .lastore => match st with
    | .long x :: .int i :: .ref id :: r => arrK id fun t n => match t with
      | 3 => k1 (vp_in i n) l r (σ.1, up2 σ.2 id i.toNatClampNeg x)
      | _ => none
    | _ => none
  | .arraylength => match st with
    | .ref id :: r => arrK id fun _ n => k0 l (.int (nI n) :: r) σ
    | _ => none
  | _ => none
/-- what stays the same through a method's run -/
def Cx (G : GG) (M : MR) (p : Program) (s : State) (m : MethodId) (args : Array Value) (meth : Method) (c : Code) : Prop :=
  p.tables.exec = Jvm.exec ∧ c.code = M.2.1 ∧ meth.sig.returnType = M.2.2.2.1 ∧ c.maxLocals = M.2.2.1 ∧ s.vm.findClass M.1.cls = some m.cls ∧ (∀ w ∈ GT, w.before args s = true) ∧ meth.locks = false ∧ va_K G.1 CLS (tysG G) s ∧ ∀ i j, i < lay.length → j < lay.length → G.2.2 i = G.2.2 j → i = j
def Aad (G : GG) : Nat → Prop := fun q => ∃ id, id < lay.length ∧ q = G.2.2 id
abbrev rmM (M : MR) : Room := { frames := M.2.2.2.2.1, cells := 0, slots := 0, locals := M.2.2.2.2.2.1 }
def QQ (G : GG) (Q : Option Value → St2 → Prop) : Array Value → State → Outcome → State → Prop := fun _ st oc t => (∃ (v : Option Value) (σ' : St2), oc = .returned (v.map (cv G)) ∧ Q v σ' ∧ va_P G.1 CLS (World G σ') t.heap) ∧ va_F (Aad G) st t
/-- the method M, standing at pc with these locals, stack and store, returns, and Q answer store -/
def Ev (lc : Launch) (G : GG) (M : MR) (pc : Nat) (l : LV) (st : List Value) (σ : St2) (Q : Option Value → St2 → Prop) : Prop :=
  ∀ (p : Program) (e : Env) (s : State) (m : MethodId) (args : Array Value) (below : List Frame) (meth : Method) (c : Code), Cx G M p s m args meth c → ∀ (H : Heap) (locs : List Loc) (ls : Array Slot),
    va_P G.1 CLS (World G σ) H → va_S (Aad G) s.heap H locs → lv_has ls M.2.2.1 (lvl G l) ∧ l.length = M.2.2.1 → W p lc e (rmM M) s m args below meth c H locs 0 0 (MQ below (QQ G Q) args s 0 0 (Aad G)) (F0 m pc ls (st.map (cv G)))
theorem World_D {G : GG} (hA : ∀ i j, i < lay.length → j < lay.length → G.2.2 i = G.2.2 j → i = j) (σ : St2) : va_D (Aad G) (World G σ) := by
  have key : ∀ (k : Nat) (q : Nat × va_E), (World G σ)[k]? = some q → k < lay.length ∧ q = (G.2.2 k, cellE G σ k) := by
    intro k q h
    have hk : k < lay.length := by
      have := (List.getElem?_eq_some_iff.mp h).1
      rwa [World_len] at this
    rw [World_at G σ hk] at h
    exact ⟨hk, (Option.some.inj h).symm⟩
  refine ⟨fun i j x y hi hj hxy => ?_, fun k q hk => ?_⟩
  · obtain ⟨a1, rfl⟩ := key i x hi
    obtain ⟨a2, rfl⟩ := key j y hj
    exact hA i j a1 a2 hxy
  · obtain ⟨a1, rfl⟩ := key k q hk
    exact ⟨k, a1, rfl⟩
theorem objK_ok {α : Type} {id ci k : Nat} {kk : Nat → Option α} {r : α} (h : objK id ci k kk = some r) : ∃ fks f, lay[id]? = some (.inl (ci, fks)) ∧ fks[k]? = some f ∧ kk f = some r := by
  unfold objK at h
  rw [lnth_eq] at h
  split at h
  · rename_i c fks hl
    split at h
    · rename_i hb
      have e : c = ci := Nat.eq_of_beq_eq_true hb
      subst e
      rw [lnth_eq] at h
      split at h
      · rename_i f hf
        exact ⟨fks, f, hl, hf, h⟩
      · cases h
    · cases h
  · cases h
theorem arrK_ok {α : Type} {id : Nat} {kk : Nat → Nat → Option α} {r : α} (h : arrK id kk = some r) : ∃ t n q, lay[id]? = some (.inr (t, n, q)) ∧ kk t n = some r := by
  unfold arrK at h
  rw [lnth_eq] at h
  split at h
  · rename_i t n q hl
    exact ⟨t, n, q, hl, h⟩
  · cases h
theorem ldI_ok {α : Type} {l : LV} {i : Nat} {k : Int32 → Option α} {r : α} (h : ldI l i k = some r) : ∃ x, nth l i = some (.int x) ∧ k x = some r := by
  unfold ldI at h
  split at h
  · rename_i x hx; exact ⟨x, hx, h⟩
  · cases h
theorem ldL_ok {α : Type} {l : LV} {i : Nat} {k : Int64 → Option α} {r : α} (h : ldL l i k = some r) : ∃ x, nth l i = some (.long x) ∧ k x = some r := by
  unfold ldL at h
  split at h
  · rename_i x hx; exact ⟨x, hx, h⟩
  · cases h
theorem ldA_ok {α : Type} {l : LV} {i : Nat} {k : Nat → Option α} {r : α} (h : ldA l i k = some r) : ∃ x, nth l i = some (.ref x) ∧ k x = some r := by
  unfold ldA at h
  split at h
  · rename_i x hx; exact ⟨x, hx, h⟩
  · cases h
theorem cst_ok {α : Type} {c1 c2 : Nat} {k : Int32 → Option α} {r : α} (h : cst c1 c2 k = some r) : k (cstV c1 c2) = some r := by
  unfold cst at h
  unfold cstV
  split at h <;> exact h
