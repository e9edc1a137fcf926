/-! ===== constructors: worlds that grow ===== -/
def tysA (a : Nat → ClassId) : List (ClassId × FieldType) := [(a 0, .byte), (a 1, .int), (a 2, .boolean), (a 3, .long)]
/-- links to private constructors of nest mates: the caller's class, the link, the constructor -/
def nestL : List (String × Nat × MethodName) := [(RX7, 11, ⟨RX6, "<init>", "()V"⟩), (RX7, 18, ⟨RX0, "<init>", "()V"⟩), (RX7, 32, ⟨RX2, "<init>", "()V"⟩), (RX3, 11, ⟨RX6, "<init>", "()V"⟩), (RX7, 48, ⟨RX4, "<init>", "()V"⟩), (RX7, 55, ⟨RX5, "<init>", "()V"⟩)]
def NW (U : State) : Prop := ∀ q ∈ nestL, va_Nw (.methodLinkNest q.1 q.2.1 q.2.2 RX7) U
theorem NW.warm {s U : State} (h : NW s) (hW : s.WarmedH U.vm) : NW U := fun q hq => va_Nw.warmM hW (h q hq)
theorem NW.call {U : State} (h : NW U) (g : JFrame) (mk : MethodId) (a : Array Value) : NW (U.calling g mk a) := fun q hq => va_Nw.same rfl rfl (h q hq)
/-- name, code, locals, answer, is it a constructor, room -/
abbrev CM : Type := MethodName × ByteArray × Nat × Option FieldType × Bool × Room
def Kx (D : va_G) (a : Nat → ClassId) (M : CM) (p : Program) (s : State) (m : MethodId) (args : Array Value) (meth : Method) (c : Code) : Prop :=
  p.tables.exec = Jvm.exec ∧ c.code = M.2.1 ∧ meth.sig.returnType = M.2.2.2.1 ∧ c.maxLocals = M.2.2.1 ∧ s.vm.findClass M.1.cls = some m.cls ∧ (∀ w ∈ GT, w.before args s = true) ∧ (M.2.2.2.2.1 = true → meth.name = "<init>") ∧ va_K D CLS (tysA a) s ∧ NW s ∧ meth.locks = false
def Ec (lc : Launch) (D : va_G) (a : Nat → ClassId) (M : CM) (QW : Array Value → List Frame → State → State → Prop) (AW : State → Nat → Prop) (pc : Nat) (lv : List (Nat × Value)) (st : List Value) (ws : va_W) (n k : Nat) : Prop :=
  ∀ (p : Program) (e : Env) (s : State) (m : MethodId) (args : Array Value) (below : List Frame) (meth : Method) (c : Code), Kx D a M p s m args meth c → (∀ q, s.heap.size ≤ q → AW s q) → ∀ (H : Heap) (locs : List Loc) (ls : Array Slot),
    va_P D CLS ws H → va_D (AW s) ws → va_S (AW s) s.heap H locs → lv_has ls M.2.2.1 lv → W p lc e M.2.2.2.2.2 s m args below meth c H locs n k (QW args below s) (F0 m pc ls st)
section EC
variable {lc : Launch} {D : va_G} {a : Nat → ClassId} {M : CM} {QW : Array Value → List Frame → State → State → Prop} {AW : State → Nat → Prop} {pc n k : Nat} {lv : List (Nat × Value)} {st : List Value} {ws : va_W}
theorem ec_al {kf : Fin 4} {b : Nat} (j : Nat) (hd : decode M.2.1 pc = .ok (.aload_n kf, 1)) (hl : lv[j]? = some (kf.val, .ref b)) (kk : Ec lc D a M QW AW (pc + 1) lv (.ref b :: st) ws n k) : Ec lc D a M QW AW pc lv st ws n k :=
  fun p e s m args below meth c K hA H locs ls hP hD hS hl' => lv_aload_n K.1 K.2.1 hd rfl (lv_at hl' j hl) (kk p e s m args below meth c K hA H locs ls hP hD hS hl')
theorem ec_ic {i : Int} {v : Int32} (hd : decode M.2.1 pc = .ok (.iconst i, 1)) (hv : Int32.ofInt i = v) (kk : Ec lc D a M QW AW (pc + 1) lv (.int v :: st) ws n k) : Ec lc D a M QW AW pc lv st ws n k :=
  fun p e s m args below meth c K hA H locs ls hP hD hS hl' => lv_iconst K.1 K.2.1 hd hv (kk p e s m args below meth c K hA H locs ls hP hD hS hl')
theorem ec_bi {i : Int} {v : Int32} (hd : decode M.2.1 pc = .ok (.bipush i, 2)) (hv : (Int8.ofInt i).toInt32 = v) (kk : Ec lc D a M QW AW (pc + 2) lv (.int v :: st) ws n k) : Ec lc D a M QW AW pc lv st ws n k :=
  fun p e s m args below meth c K hA H locs ls hP hD hS hl' => lv_bipush K.1 K.2.1 hd hv (kk p e s m args below meth c K hA H locs ls hP hD hS hl')
theorem ec_si {i : Int} {v : Int32} (hd : decode M.2.1 pc = .ok (.sipush i, 3)) (hv : (Int16.ofInt i).toInt32 = v) (kk : Ec lc D a M QW AW (pc + 3) lv (.int v :: st) ws n k) : Ec lc D a M QW AW pc lv st ws n k :=
  fun p e s m args below meth c K hA H locs ls hP hD hS hl' => lv_sipush K.1 K.2.1 hd hv (kk p e s m args below meth c K hA H locs ls hP hD hS hl')
theorem ec_l2 {i : Nat} {v : Int64} (wi : Nat) (hd : decode M.2.1 pc = .ok (.ldc2_w i, 3)) (hw : lw_tbl[wi]? = some (Cond.constantLong M.1.cls i v)) (kk : Ec lc D a M QW AW (pc + 3) lv (.long v :: st) ws n k) : Ec lc D a M QW AW pc lv st ws n k :=
  fun p e s m args below meth c K hA H locs ls hP hD hS hl' => lv_ldc2 K.1 K.2.1 K.2.2.2.2.1 (K.2.2.2.2.2.1 _ (GT_at hw rfl)) hd (kk p e s m args below meth c K hA H locs ls hP hD hS hl')
theorem ec_dup {v : Value} (hd : decode M.2.1 pc = .ok (.dup, 1)) (hv : v.category = 1) (kk : Ec lc D a M QW AW (pc + 1) lv (v :: v :: st) ws n k) : Ec lc D a M QW AW pc lv (v :: st) ws n k :=
  fun p e s m args below meth c K hA H locs ls hP hD hS hl' => lv_dup K.1 K.2.1 hd hv (kk p e s m args below meth c K hA H locs ls hP hD hS hl')
theorem ec_get {i ad : Nat} {fs : List Value} {C : String} {T : u_T} {N : Nat} {v : Value} (q0 ci fk wi : Nat) (hd : decode M.2.1 pc = .ok (.getfield i, 3)) (he : ws[q0]? = some (ad, .inr (ci, fs))) (hc : CLS[ci]? = some (C, T, N)) (hk : fk < N) (hw : lw_tbl[wi]? = some (Cond.fieldLink M.1.cls i C (T fk).2.1 (T fk).2.2.1)) (hsame : (T fk).1 = C) (hv : fs[fk]? = some v) (kk : Ec lc D a M QW AW (pc + 3) lv (v :: st) ws n k) : Ec lc D a M QW AW pc lv (.ref ad :: st) ws n k :=
  fun p e s m args below meth c K hA H locs ls hP hD hS hl' => va_get K.1 K.2.1 K.2.2.2.2.2.1 (cls_u hc).1 K.2.2.2.2.1 K.2.2.2.2.2.2.2.1 hP q0 he hc fk hk (K.2.2.2.2.2.1 _ (GT_at hw rfl)) (fun _ h9 => by rw [hsame] at h9; exact h9) hv hd (kk p e s m args below meth c K hA H locs ls hP hD hS hl')
theorem ec_put {i ad : Nat} {fs : List Value} {C : String} {T : u_T} {N : Nat} {v : Value} {ty : FieldType} {ws' : va_W} (q0 ci fk wi : Nat) (hd : decode M.2.1 pc = .ok (.putfield i, 3)) (he : ws[q0]? = some (ad, .inr (ci, fs))) (hc : CLS[ci]? = some (C, T, N)) (hk : fk < N) (hw : lw_tbl[wi]? = some (Cond.fieldLink M.1.cls i C (T fk).2.1 (T fk).2.2.1)) (hsame : (T fk).1 = C) (hfin : (T fk).2.2.2 = false) (hty : parseFieldDescriptor (T fk).2.2.1 = some ty) (hn : narrow ty v = v) (hf : fits ty v = true) (hl : fk < fs.length) (hws : ws.set q0 (ad, .inr (ci, fs.set fk v)) = ws') (kk : Ec lc D a M QW AW (pc + 3) lv st ws' n k) : Ec lc D a M QW AW pc lv (v :: .ref ad :: st) ws n k := by
  intro p e s m args below meth c K hA H locs ls hP hD hS hl'
  obtain ⟨hu, ty0, u1, u2⟩ := cls_u hc
  subst hws
  exact va_put K.1 K.2.1 K.2.2.2.2.2.1 hu ty0 u1 u2 K.2.2.2.2.1 K.2.2.2.2.2.2.2.1 hP hD hS q0 he hc fk hk (K.2.2.2.2.2.1 _ (GT_at hw rfl)) (fun _ h9 => by rw [hsame] at h9; exact h9) hfin hty hn hf hl hd (fun H1 locs1 hP1 hD1 hS1 => kk p e s m args below meth c K hA H1 locs1 ls hP1 hD1 hS1 hl')
theorem ec_putF {i ad : Nat} {fs : List Value} {C : String} {T : u_T} {N : Nat} {v : Value} {ty : FieldType} {ws' : va_W} (q0 ci fk wi : Nat) (hM : M.2.2.2.2.1 = true) (hd : decode M.2.1 pc = .ok (.putfield i, 3)) (he : ws[q0]? = some (ad, .inr (ci, fs))) (hc : CLS[ci]? = some (C, T, N)) (hk : fk < N) (hw : lw_tbl[wi]? = some (Cond.fieldLink M.1.cls i C (T fk).2.1 (T fk).2.2.1)) (hsame : (T fk).1 = C) (hown : (T fk).1 = M.1.cls) (hfin : (T fk).2.2.2 = true) (hty : parseFieldDescriptor (T fk).2.2.1 = some ty) (hn : narrow ty v = v) (hf : fits ty v = true) (hl : fk < fs.length) (hws : ws.set q0 (ad, .inr (ci, fs.set fk v)) = ws') (kk : Ec lc D a M QW AW (pc + 3) lv st ws' n k) : Ec lc D a M QW AW pc lv (v :: .ref ad :: st) ws n k := by
  intro p e s m args below meth c K hA H locs ls hP hD hS hl'
  obtain ⟨hu, ty0, u1, u2⟩ := cls_u hc
  subst hws
  exact va_putF K.1 K.2.1 K.2.2.2.2.2.1 hu ty0 u1 u2 K.2.2.2.2.1 K.2.2.2.2.2.2.2.1 hP hD hS q0 he hc fk hk (K.2.2.2.2.2.1 _ (GT_at hw rfl)) (fun _ h9 => by rw [hsame] at h9; exact h9) hfin (K.2.2.2.2.2.2.1 hM) hown hty hn hf hl hd (fun H1 locs1 hP1 hD1 hS1 => kk p e s m args below meth c K hA H1 locs1 ls hP1 hD1 hS1 hl')
theorem ec_newa {at' : ArrayType} {v : Int32} {a0 : vp_A} {ty : FieldType} {ws' : Nat → va_W} (t N wi : Nat) (hd : decode M.2.1 pc = .ok (.newarray at', 2)) (hty : newarray.typeOf at' = ty) (ht : (tysA a)[t]? = some (a t, ty)) (hprim : ∀ (U : State) (c : ClassId), va_RA U c ty → U.vm.findClass ("[" ++ ty.toString) = some c) (hw : lw_tbl[wi]? = some (Cond.arrayClass ty)) (ha : ∀ cA : ClassId, vp_cell cA a0 = arrV cA N (fun _ => defaultValue ty)) (hn : ¬ v < 0) (hN : v.toNatClampNeg = N) (hby : N * componentBytes ty ≤ 536870912) (hc1 : n + 1 ≤ M.2.2.2.2.2.cells) (hs1 : k + N ≤ M.2.2.2.2.2.slots) (hws : ∀ q, ws ++ [(q, .inl (a t, a0))] = ws' q) (kk : ∀ q, Ec lc D a M QW AW (pc + 2) lv (.ref q :: st) (ws' q) (n + 1) (k + N)) : Ec lc D a M QW AW pc lv (.int v :: st) ws n k := by
  intro p e s m args below meth c K hA H locs ls hP hD hS hl'
  subst hty
  refine va_newa K.1 K.2.1 (K.2.2.2.2.2.1 _ (GT_at hw rfl)) rfl K.2.2.2.2.2.2.2.1 hP hD hS hA ha hn hN hby hc1 hs1 hd (fun q cA H1 hK1 hP1 hD1 hS1 => ?_)
  have h1 := hprim s cA ((hK1.2 (tysA a).length (cA, newarray.typeOf at') (by simp)).2)
  have h2 := hprim s (a t) ((K.2.2.2.2.2.2.2.1.2 t _ ht).2)
  have e1 : cA = a t := Option.some.inj (h1.symm.trans h2)
  subst e1
  rw [hws q] at hP1 hD1
  exact kk q p e s m args below meth c K hA H1 locs ls hP1 hD1 hS1 hl'
theorem ec_new {i : Nat} {C : String} {T : u_T} {N : Nat} {fs : List Value} {ws' : Nat → va_W} (ci wl wi wn : Nat) (ty : Nat → FieldType) (hty : ∀ j, j < N → parseFieldDescriptor (T j).2.2.1 = some (ty j)) (hd : decode M.2.1 pc = .ok (.new i, 3)) (hc : CLS[ci]? = some (C, T, N)) (h1 : lw_tbl[wl]? = some (Cond.classLink M.1.cls i C)) (h2 : lw_tbl[wi]? = some (Cond.instantiable C N)) (h3 : lw_tbl[wn]? = some (Cond.initialized C)) (hfs : ∀ j, j < N → defaultValue (ty j) = vp_V fs j) (hc1 : n + 1 ≤ M.2.2.2.2.2.cells) (hs1 : k + N ≤ M.2.2.2.2.2.slots) (hws : ∀ q, ws ++ [(q, .inr (ci, fs))] = ws' q) (kk : ∀ q, Ec lc D a M QW AW (pc + 3) lv (.ref q :: st) (ws' q) (n + 1) (k + N)) : Ec lc D a M QW AW pc lv st ws n k := by
  intro p e s m args below meth c K hA H locs ls hP hD hS hl'
  obtain ⟨hu, -⟩ := cls_u hc
  refine va_new K.1 K.2.1 K.2.2.2.2.2.1 hu ty hty K.2.2.2.2.1 (K.2.2.2.2.2.1 _ (GT_at h1 rfl)) (K.2.2.2.2.2.1 _ (GT_at h2 rfl)) (K.2.2.2.2.2.1 _ (GT_at h3 rfl)) K.2.2.2.2.2.2.2.1 hP hD hS hA hc hfs hc1 hs1 hd (fun q H1 hP1 hD1 hS1 => ?_)
  rw [hws q] at hP1 hD1
  exact kk q p e s m args below meth c K hA H1 locs ls hP1 hD1 hS1 hl'
theorem ec_obj {i ad : Nat} (wi : Nat) (hd : decode M.2.1 pc = .ok (.invokespecial i, 3)) (hw : lw_tbl[wi]? = some (Cond.methodLink M.1.cls i Lib.objectInit)) (h1 : lw_tbl[71]? = some (Cond.instanceMethod Lib.objectInit)) (h2 : lw_tbl[72]? = some (Cond.code Lib.objectInit ⟨#[0xb1]⟩ 1 none)) (hf : 1 ≤ M.2.2.2.2.2.frames) (hlo : 12 ≤ M.2.2.2.2.2.locals) (kk : Ec lc D a M QW AW (pc + 3) lv [] ws n k) : Ec lc D a M QW AW pc lv [.ref ad] ws n k := by
  intro p e s m args below meth c K hA H locs ls hP hD hS hl'
  refine W.objInit K.1 K.2.1 K.2.2.2.2.1 (K.2.2.2.2.2.1 _ (GT_at hw rfl)) (K.2.2.2.2.2.1 _ (GT_at h1 rfl)) (K.2.2.2.2.2.1 _ (GT_at h2 rfl)) rfl (by rw [K.2.2.2.1]; exact hl'.1) rfl hd hf hlo ?_
  exact W.eq (g2 := F0 m (pc + 3) ls []) rfl (kk p e s m args below meth c K hA H locs ls hP hD hS hl')
theorem ec_wide {n' k' : Nat} (h1 : n ≤ n') (h2 : k ≤ k') (kk : Ec lc D a M QW AW pc lv st ws n' k') : Ec lc D a M QW AW pc lv st ws n k :=
  fun p e s m args below meth c K hA H locs ls hP hD hS hl' => W.widen h1 h2 (kk p e s m args below meth c K hA H locs ls hP hD hS hl')
theorem ec_ast {kf : Fin 4} {b : Nat} {lv' : List (Nat × Value)} (hd : decode M.2.1 pc = .ok (.astore_n kf, 1)) (hn : kf.val < M.2.2.1) (hl : (kf.val, Value.ref b) :: lv.filter (fun q => !(q.1 == kf.val) && !(q.1 + 1 == kf.val && q.2.category == 2)) = lv') (kk : Ec lc D a M QW AW (pc + 1) lv' st ws n k) : Ec lc D a M QW AW pc lv (.ref b :: st) ws n k :=
  fun p e s m args below meth c K hA H locs ls hP hD hS hl' => lv_astore_n K.1 K.2.1 hd rfl hl' hn hl (fun ls1 hl1 => kk p e s m args below meth c K hA H locs ls1 hP hD hS hl1)
end EC
/-- a constructor's contract: from the world w0 it comes to a world that Post tells -/
def PcC (D : va_G) (a : Nat → ClassId) (w0 : va_W) (sz : Nat) (U : State) : Prop := U.heap.size = sz ∧ va_P D CLS w0 U.heap ∧ va_K D CLS (tysA a) U ∧ va_D (fun _ => True) w0 ∧ NW U
def QcC (D : va_G) (w0 : va_W) (Post : va_W → Prop) (sz : Nat) : Array Value → State → Outcome → State → Prop := va_Qv (fun w1 : va_W => Post w1) (fun w1 t => va_P D CLS w1 t.heap ∧ va_D (va_A w0 sz) w1) (va_A w0 sz)
def CON (lc : Launch) (D : va_G) (a : Nat → ClassId) (M : CM) (As : List Value) (w0 : va_W) (Post : va_W → Prop) : Prop :=
  ∀ sz : Nat, Met lc M.1 (Cond.code M.1 M.2.1 M.2.2.1 M.2.2.2.1 :: GT) M.2.2.2.2.2 (va_Pc As (PcC D a w0 sz)) (QcC D w0 Post sz) M.2.2.2.2.2.cells M.2.2.2.2.2.slots (va_A w0 sz)
/-- the end that a constructor's contract asks for -/
def QWC (D : va_G) (M : CM) (w0 : va_W) (Post : va_W → Prop) : Array Value → List Frame → State → State → Prop := fun args below s => MQ below (QcC D w0 Post s.heap.size) args s M.2.2.2.2.2.cells M.2.2.2.2.2.slots (va_A w0 s.heap.size)
section EC2
variable {lc : Launch} {D : va_G} {a : Nat → ClassId} {M : CM} {pc n k : Nat} {lv : List (Nat × Value)} {st : List Value} {ws w0 : va_W} {Post : va_W → Prop}
theorem ec_ret (hr : M.2.2.2.1 = none) (hd : decode M.2.1 pc = .ok (.return_, 1)) (h1 : n ≤ M.2.2.2.2.2.cells) (h2 : k ≤ M.2.2.2.2.2.slots) (hp : Post ws) : Ec lc D a M (QWC D M w0 Post) (fun s => va_A w0 s.heap.size) pc lv [] ws n k := by
  intro p e s m args below meth c K hA H locs ls hP hD hS hl'
  have hlocks := K.2.2.2.2.2.2.2.2.2
  refine W.widen h1 h2 ?_
  exact W.vret K.1 K.2.1 (K.2.2.1.trans hr) (fun t ht hW => ⟨⟨ws, rfl, hp, by rw [ht]; exact hP, hD⟩, hS.F ht⟩) hS.2.2 hd
theorem con_of {As : List Value} (hpl : plainName M.1.cls = true) (hr : M.2.2.2.1 = none) (hnm : M.2.2.2.2.1 = true → M.1.name = "<init>") (hsl : (lg_sl As).length ≤ M.2.2.1) (h : Ec lc D a M (QWC D M w0 Post) (fun s => va_A w0 s.heap.size) 0 (lv_args 0 As) [] w0 0 0) : CON lc D a M As w0 Post := by
  intro sz
  refine Met.ofW (cc := M.2.1) (maxL := M.2.2.1) (ret := M.2.2.2.1) hpl rfl ?_
  intro p e s m args below meth c s₁ B hml hv
  obtain ⟨rfl, hsz, hP, hK, hD0, hN⟩ := hv
  have hts := atoms_spec (ws := Cond.code M.1 M.2.1 M.2.2.1 M.2.2.2.1 :: GT) B.pre
  subst hsz
  have hl := lv_entry As (n := M.2.2.1) hsl
  rw [lg_entry_eq]
  exact h p e s m _ below meth c ⟨B.exec, B.bytes, B.returns, hml, findClass_of_methodNamed B.named, fun w hw => hts w (List.mem_cons_of_mem _ hw), fun hi => (name_of_methodNamed B.named B.method).1.trans (hnm hi), hK, hN, B.notSynchronized⟩ (fun q hq => Or.inr hq) s.heap [] _ hP (hD0.self (sz := s.heap.size)) va_S.rf hl
theorem PcC_blind {w : va_W} {sz : Nat} (av : List Value) : FrameBlind (va_Pc av (PcC D a w sz)) := fun x U g mk q => by
  obtain ⟨q0, q1, qP, qK, qD, qN⟩ := q
  exact ⟨q0, q1, qP, va_K.moved (u := U) (U := U.calling g mk x) (Vm.Alike.refl U.vm) qK, qD, qN.call g mk x⟩
theorem goodC {M' : CM} {wi : Nat} (h : lw_tbl[wi]? = some (Cond.code M'.1 M'.2.1 M'.2.2.1 M'.2.2.2.1)) : GoodIn GT (Cond.code M'.1 M'.2.1 M'.2.2.1 M'.2.2.2.1 :: GT) := by
  intro w hw
  rcases List.mem_cons.mp hw with rfl | h'
  · exact ⟨GT_at h rfl, GT_good (GT_at h rfl)⟩
  · exact ⟨h', GT_good h'⟩
end EC2
theorem fm_of {ws : va_W} : ∀ {is : List Nat} {wc : va_W}, is.map (fun i => ws[i]?) = wc.map some → is.filterMap (fun i => ws[i]?) = wc
  | [], [], _ => rfl
  | [], _ :: _, h => by cases h
  | _ :: _, [], h => by cases h
  | i :: is, q :: wc, h => by
    rw [List.map_cons, List.map_cons] at h
    obtain ⟨h1, h2⟩ := List.cons.inj h
    rw [List.filterMap_cons, h1, fm_of h2]
section EC3
variable {lc : Launch} {D : va_G} {a : Nat → ClassId} {M M' : CM} {QW : Array Value → List Frame → State → State → Prop} {AW : State → Nat → Prop} {pc n k : Nat} {lv : List (Nat × Value)} {st : List Value} {ws wc wr : va_W} {Post : va_W → Prop}
/-- behind a constructor's call -/
theorem ec_back {p : Program} {e : Env} {s : State} {m : MethodId} {args : Array Value} {below : List Frame} {meth : Method} {c : Code} {H : Heap} {locs : List Loc} {ls : Array Slot} {st0 : List Value} {x : Array Value} (isC isR : List Nat) (hC : isC.map (fun i => ws[i]?) = wc.map some) (hR : isR.map (fun i => ws[i]?) = wr.map some) (hn : va_nd isR = true) (hdis : ∀ i ∈ isR, i ∉ isC)
    (K : Kx D a M p s m args meth c) (hA : ∀ q, s.heap.size ≤ q → AW s q) (hP : va_P D CLS ws H) (hD : va_D (AW s) ws) (hS : va_S (AW s) s.heap H locs) (hl : lv_has ls M.2.2.1 lv)
    (hr : va_Run p lc e M.2.2.2.2.2 s m args below meth c H locs n k M'.2.2.2.2.2.cells M'.2.2.2.2.2.slots (F0 m pc ls st0) st (QcC D wc Post H.size x) (va_A wc H.size))
    (kk : ∀ w1, Post w1 → Ec lc D a M QW AW (pc + 3) lv st (wr ++ w1) (n + M'.2.2.2.2.2.cells) (k + M'.2.2.2.2.2.slots)) : W p lc e M.2.2.2.2.2 s m args below meth c H locs n k (QW args below s) (F0 m pc ls st0) := by
  have hFc := va_free (wc := wc) hD hS hA isC hC
  refine va_callv hr hS (fun q _ h => hFc q h) hFc (fun u t H1 locs1 ht hvm hw hB hz1 hk1 hS1 => ?_)
  obtain ⟨hP1, hD1⟩ := hB
  rw [ht] at hP1
  obtain ⟨hP2, hD2⟩ := va_join (wr := wr) (w1 := u) hP hD isC isR hC hR hn hdis hk1 hFc hP1 hD1
  exact kk u hw p e s m args below meth c K hA H1 locs1 ls hP2 hD2 hS1 hl
theorem ec_pre (isC : List Nat) {As : List Value} (hC : isC.map (fun i => ws[i]?) = wc.map some) (hnC : va_nd isC = true) {p : Program} {s : State} {m : MethodId} {args : Array Value} {meth : Method} {c : Code} {H : Heap} (K : Kx D a M p s m args meth c) (hP : va_P D CLS ws H) (hD : va_D (AW s) ws) : PreS s H (va_Pc As (PcC D a wc H.size)) As :=
  ⟨PcC_blind As, fun U hU hW => ⟨rfl, by rw [hU], by rw [hU]; exact hP.sub isC (fm_of hC), va_K.moved hW.alike K.2.2.2.2.2.2.2.1, (hD.sub isC hnC hC).weaken (fun _ _ _ _ => trivial), K.2.2.2.2.2.2.2.2.1.warm hW⟩⟩
theorem ec_ci {i b np : Nat} {As : List Value} (isC isR : List Nat) (wl wi wc' wn : Nat) (hcon : CON lc D a M' (.ref b :: As) wc Post) (hd : decode M.2.1 pc = .ok (.invokespecial i, 3)) (hr0 : M'.2.2.2.1 = none) (hnm : M'.1.name = "<init>") (h1 : lw_tbl[wl]? = some (Cond.methodLink M.1.cls i M'.1)) (h2 : lw_tbl[wi]? = some (Cond.instanceMethod M'.1)) (h3 : lw_tbl[wc']? = some (Cond.code M'.1 M'.2.1 M'.2.2.1 M'.2.2.2.1)) (h4 : lw_tbl[wn]? = some (Cond.initialized M'.1.cls)) (hds : M'.1.cls ≠ "java/lang/invoke/MethodHandle" ∧ M'.1.cls ≠ "java/lang/invoke/VarHandle" ∧ (parseMethodDescriptor M'.1.desc).map (fun d => d.parameters.length) = some np)
    (hrm : M'.2.2.2.2.2.frames + 1 ≤ M.2.2.2.2.2.frames ∧ 8 + (M'.2.2.1 + 11) + M'.2.2.2.2.2.locals ≤ M.2.2.2.2.2.locals) (hlen : As.length = np) (hcat : (st.map fun v => v.category).sum ≤ 8) (hf : n + M'.2.2.2.2.2.cells ≤ M.2.2.2.2.2.cells ∧ k + M'.2.2.2.2.2.slots ≤ M.2.2.2.2.2.slots)
    (hC : isC.map (fun i => ws[i]?) = wc.map some) (hnC : va_nd isC = true) (hR : isR.map (fun i => ws[i]?) = wr.map some) (hn : va_nd isR = true) (hdis : ∀ i ∈ isR, i ∉ isC) (kk : ∀ w1, Post w1 → Ec lc D a M QW AW (pc + 3) lv st (wr ++ w1) (n + M'.2.2.2.2.2.cells) (k + M'.2.2.2.2.2.slots)) : Ec lc D a M QW AW pc lv (As.reverse ++ .ref b :: st) ws n k := by
  intro p e s m args below meth c K hA H locs ls hP hD hS hl'
  have hc3 : lw_tbl[wc']? = some (Cond.code M'.1 M'.2.1 M'.2.2.1 none) := by rw [h3, hr0]
  have hcon' := hcon H.size
  have hg := goodC h3
  rw [hr0] at hcon' hg
  exact ec_back isC isR hC hR hn hdis K hA hP hD hS hl' (va_runI (Ts := GT) (own := M.1.cls) (As := As) (n := np) (b := b) (rest := st) ⟨K.1, K.2.1, K.2.2.2.1, K.2.2.2.2.1, K.2.2.2.2.2.1⟩ hcon' (cwI np K.2.2.2.2.2.1 hg rfl rfl rfl (K.2.2.2.2.2.1 _ (GT_at h4 rfl)) (K.2.2.2.2.2.1 _ (GT_at h1 rfl)) (K.2.2.2.2.2.1 _ (GT_at h2 rfl)) hnm hds hrm) (ec_pre isC hC hnC K hP hD) rfl hlen hl'.1 rfl (lv_room hcat) hd hf) kk
theorem ec_cn {i b np : Nat} {As : List Value} (isC isR : List Nat) (wi wc' wn : Nat) (hcon : CON lc D a M' (.ref b :: As) wc Post) (hd : decode M.2.1 pc = .ok (.invokespecial i, 3)) (hr0 : M'.2.2.2.1 = none) (hnm : M'.1.name = "<init>") (h1 : (M.1.cls, i, M'.1) ∈ nestL) (h2 : lw_tbl[wi]? = some (Cond.instanceMethod M'.1)) (h3 : lw_tbl[wc']? = some (Cond.code M'.1 M'.2.1 M'.2.2.1 M'.2.2.2.1)) (h4 : lw_tbl[wn]? = some (Cond.initialized M'.1.cls)) (hds : M'.1.cls ≠ "java/lang/invoke/MethodHandle" ∧ M'.1.cls ≠ "java/lang/invoke/VarHandle" ∧ (parseMethodDescriptor M'.1.desc).map (fun d => d.parameters.length) = some np)
    (hrm : M'.2.2.2.2.2.frames + 1 ≤ M.2.2.2.2.2.frames ∧ 8 + (M'.2.2.1 + 11) + M'.2.2.2.2.2.locals ≤ M.2.2.2.2.2.locals) (hlen : As.length = np) (hcat : (st.map fun v => v.category).sum ≤ 8) (hf : n + M'.2.2.2.2.2.cells ≤ M.2.2.2.2.2.cells ∧ k + M'.2.2.2.2.2.slots ≤ M.2.2.2.2.2.slots)
    (hC : isC.map (fun i => ws[i]?) = wc.map some) (hnC : va_nd isC = true) (hR : isR.map (fun i => ws[i]?) = wr.map some) (hn : va_nd isR = true) (hdis : ∀ i ∈ isR, i ∉ isC) (kk : ∀ w1, Post w1 → Ec lc D a M QW AW (pc + 3) lv st (wr ++ w1) (n + M'.2.2.2.2.2.cells) (k + M'.2.2.2.2.2.slots)) : Ec lc D a M QW AW pc lv (As.reverse ++ .ref b :: st) ws n k := by
  intro p e s m args below meth c K hA H locs ls hP hD hS hl'
  have hcon' := hcon H.size
  have hg := goodC h3
  rw [hr0] at hcon' hg
  exact ec_back isC isR hC hR hn hdis K hA hP hD hS hl' (va_runIN (Ts := GT) (own := M.1.cls) (host := RX7) (As := As) (n := np) (b := b) (rest := st) ⟨K.1, K.2.1, K.2.2.2.1, K.2.2.2.2.1, K.2.2.2.2.2.1⟩ hcon' ⟨va_cnB np K.2.2.2.2.2.1 hg rfl rfl rfl (K.2.2.2.2.2.2.2.2.1 _ h1) (K.2.2.2.2.2.1 _ (GT_at h4 rfl)) hds hrm, hnm, K.2.2.2.2.2.1 _ (GT_at h2 rfl)⟩ (ec_pre isC hC hnC K hP hD) rfl hlen hl'.1 rfl (lv_room hcat) hd hf) kk
theorem ec_cv {i b np ci q0 : Nat} {As fs : List Value} {T : u_T} {N : Nat} (isC isR : List Nat) (wl wi wc' wn wv : Nat) (hcon : CON lc D a M' (.ref b :: As) wc Post) (hd : decode M.2.1 pc = .ok (.invokevirtual i, 3)) (h1 : lw_tbl[wl]? = some (Cond.methodLink M.1.cls i M'.1)) (h2 : lw_tbl[wi]? = some (Cond.instanceMethod M'.1)) (h3 : lw_tbl[wc']? = some (Cond.code M'.1 M'.2.1 M'.2.2.1 M'.2.2.2.1)) (h4 : lw_tbl[wn]? = some (Cond.initialized M'.1.cls)) (h5 : lw_tbl[wv]? = some (Cond.selects M'.1.cls M'.1 M'.1)) (hds : M'.1.cls ≠ "java/lang/invoke/MethodHandle" ∧ M'.1.cls ≠ "java/lang/invoke/VarHandle" ∧ (parseMethodDescriptor M'.1.desc).map (fun d => d.parameters.length) = some np)
    (hrm : M'.2.2.2.2.2.frames + 1 ≤ M.2.2.2.2.2.frames ∧ 8 + (M'.2.2.1 + 11) + M'.2.2.2.2.2.locals ≤ M.2.2.2.2.2.locals) (hlen : As.length = np) (hcat : (st.map fun v => v.category).sum ≤ 8) (hf : n + M'.2.2.2.2.2.cells ≤ M.2.2.2.2.2.cells ∧ k + M'.2.2.2.2.2.slots ≤ M.2.2.2.2.2.slots)
    (he : ws[q0]? = some (b, .inr (ci, fs))) (hcl : CLS[ci]? = some (M'.1.cls, T, N))
    (hC : isC.map (fun i => ws[i]?) = wc.map some) (hnC : va_nd isC = true) (hR : isR.map (fun i => ws[i]?) = wr.map some) (hn : va_nd isR = true) (hdis : ∀ i ∈ isR, i ∉ isC) (kk : ∀ w1, Post w1 → Ec lc D a M QW AW (pc + 3) lv st (wr ++ w1) (n + M'.2.2.2.2.2.cells) (k + M'.2.2.2.2.2.slots)) : Ec lc D a M QW AW pc lv (As.reverse ++ .ref b :: st) ws n k := by
  intro p e s m args below meth c K hA H locs ls hP hD hS hl'
  have hpre := ec_pre (As := .ref b :: As) isC hC hnC K hP hD
  exact ec_back isC isR hC hR hn hdis K hA hP hD hS hl' (va_runV (Ts := GT) (own := M.1.cls) (C := M'.1.cls) (As := As) (n := np) (b := b) (rest := st) ⟨K.1, K.2.1, K.2.2.2.1, K.2.2.2.2.1, K.2.2.2.2.2.1⟩ (hcon H.size) ⟨callB_of np K.2.2.2.2.2.1 (goodC h3) rfl rfl rfl (K.2.2.2.2.2.1 _ (GT_at h4 rfl)) (K.2.2.2.2.2.1 _ (GT_at h1 rfl)) hds hrm, K.2.2.2.2.2.1 _ (GT_at h2 rfl), K.2.2.2.2.2.1 _ (GT_at h5 rfl)⟩ ⟨hpre.1, va_recv K.2.2.2.2.2.2.2.1 hP hcl he, hpre.2⟩ rfl hlen hl'.1 rfl (lv_room hcat) hd hf) kk
end EC3
