/-! ===== blocks, branches, calls, returns ===== -/
theorem ex1_ok {α : Type} {M : MR} {ri : RI} {l : LV} {st : List Value} {σ : St2} {k0 : LV → List Value → St2 → Option α} {k1 : Prop → LV → List Value → St2 → Option α} {r : α} (hc : chk1 M ri = true) (h : ex1 ri l st σ k0 k1 = some r) : Res M ri l st σ k0 k1 r := by
  obtain ⟨pc, ins, a1, a2, a3⟩ := ri
  unfold chk1 at hc
  simp only [Bool.and_eq_true, decide_eq_true_eq] at hc
  obtain ⟨hd, hk⟩ := hc
  cases ins
  case iconst => exact sx_iconst hd hk h
  case bipush => exact sx_bipush hd hk h
  case sipush => exact sx_sipush hd hk h
  case lconst => exact sx_lconst hd h
  case ldc => exact sx_ldc hd hk h
  case ldc2_w => exact sx_ldc2_w hd hk h
  case iload_n => exact sx_iload_n hd h
  case iload => exact sx_iload hd h
  case lload_n => exact sx_lload_n hd h
  case lload => exact sx_lload hd h
  case aload_n => exact sx_aload_n hd h
  case aload => exact sx_aload hd h
  case istore_n => exact sx_istore_n hd h
  case istore => exact sx_istore hd h
  case lstore_n => exact sx_lstore_n hd h
  case lstore => exact sx_lstore hd h
  case iinc => exact sx_iinc hd hk h
  case iadd => exact sx_iadd hd h
  case isub => exact sx_isub hd h
  case imul => exact sx_imul hd h
  case iand => exact sx_iand hd h
  case ior => exact sx_ior hd h
  case ishl => exact sx_ishl hd h
  case idiv => exact sx_idiv hd h
  case irem => exact sx_irem hd h
  case ladd => exact sx_ladd hd h
  case lsub => exact sx_lsub hd h
  case lmul => exact sx_lmul hd h
  case land => exact sx_land hd h
  case ldiv => exact sx_ldiv hd h
  case lushr => exact sx_lushr hd h
  case lshr => exact sx_lshr hd h
  case lcmp => exact sx_lcmp hd h
  case i2l => exact sx_i2l hd h
  case l2i => exact sx_l2i hd h
  case i2b => exact sx_i2b hd h
  case dup => exact sx_dup hd h
  case getfield => exact sx_getfield hd hk h
  case putfield => exact sx_putfield hd hk h
  case iaload => exact sx_iaload hd h
  case baload => exact sx_baload hd h
  case laload => exact sx_laload hd h
  case iastore => exact sx_iastore hd h
  case bastore => exact sx_bastore hd h
  case lastore => exact sx_lastore hd h
  case arraylength => exact sx_arraylength hd h
  all_goals exact absurd (show (none : Option α) = some r from h) (fun q => by cases q)
def exs : List RI → LV → List Value → St2 → Option (Prop × LV × List Value × St2)
  | [], l, st, σ => some (True, l, st, σ)
  | ri :: is, l, st, σ => ex1 ri l st σ (fun l st σ => exs is l st σ) (fun P l st σ => match exs is l st σ with
    | some (P', r) => some (P ∧ P', r)
    | none => none)
def seqOK (M : MR) : Nat → List RI → Nat → Bool
  | pc, [], e => Nat.beq pc e
  | pc, ri :: is, e => (Nat.beq ri.1 pc && chk1 M ri) && seqOK M (pc + lnI ri.2.1) is e
theorem exs_ok {M : MR} {is : List RI} {e pc : Nat} {l : LV} {st : List Value} {σ : St2} {P : Prop} {l' : LV} {st' : List Value} {σ' : St2} (hs : seqOK M pc is e = true) (h : exs is l st σ = some (P, l', st', σ')) : Nx M pc l st σ P e l' st' σ' := by
  induction is generalizing pc l st σ P with
  | nil =>
    have e1 : pc = e := Nat.eq_of_beq_eq_true hs
    subst e1
    cases h
    exact fun _ _ _ _ k => k
  | cons ri is ih =>
    simp only [seqOK, Bool.and_eq_true] at hs
    obtain ⟨⟨h1, h2⟩, h3⟩ := hs
    have e1 : ri.1 = pc := Nat.eq_of_beq_eq_true h1
    subst e1
    rcases ex1_ok h2 h with ⟨l1, s1, σ1, a, b⟩ | ⟨P1, l1, s1, σ1, a, b⟩
    · exact fun lc G Q hp k => b lc G Q trivial (ih h3 a lc G Q hp k)
    · dsimp only at a
      split at a
      · rename_i P' r hr
        cases a
        exact fun lc G Q hp k => b lc G Q hp.1 (ih h3 hr lc G Q hp.2 k)
      · cases a
/-- the last instruction of a block: decoded, with its ways -/
def tOK (M : MR) (t : RI) : Bool :=
  match t.2.1 with
  | .nop => true
  | .goto off => decide (decode M.2.1 t.1 = .ok (.goto off, 3)) && decide ((t.1 : Int) + off = (t.2.2.1 : Int))
  | .if_icmp c off => decide (decode M.2.1 t.1 = .ok (.if_icmp c off, 3)) && (decide ((t.1 : Int) + off = (t.2.2.1 : Int)) && Nat.beq t.2.2.2.1 (t.1 + 3))
  | .ifCond c off => decide (decode M.2.1 t.1 = .ok (.ifCond c off, 3)) && (decide ((t.1 : Int) + off = (t.2.2.1 : Int)) && Nat.beq t.2.2.2.1 (t.1 + 3))
  | .tableswitch d lo hi offs => decide (decode M.2.1 t.1 = .ok (.tableswitch d lo hi offs, t.2.2.1))
  | .lookupswitch d ps => decide (decode M.2.1 t.1 = .ok (.lookupswitch d ps, t.2.2.1)) && (ps.toList.zip (ps.toList.drop 1)).all (fun (a, next) => a.1 < next.1)
  | .invokevirtual i => decide (decode M.2.1 t.1 = .ok (.invokevirtual i, 3)) && Nat.beq t.2.2.2.1 (t.1 + 3)
  | .invokestatic i => decide (decode M.2.1 t.1 = .ok (.invokestatic i, 3)) && Nat.beq t.2.2.2.1 (t.1 + 3)
  | .ireturn => decide (decode M.2.1 t.1 = .ok (.ireturn, 1))
  | .lreturn => decide (decode M.2.1 t.1 = .ok (.lreturn, 1))
  | .return_ => decide (decode M.2.1 t.1 = .ok (.return_, 1))
  | _ => false
def bOK (M : MR) (b : BLK) : Bool := seqOK M b.1 b.2.1 b.2.2.1 && tOK M b.2.2
def blks (M : MR) : List BLK := M.2.2.2.2.2.2.1
def kOK (M : MR) : Bool := plainName M.1.cls && (decide (M.1.cls ≠ "java/lang/invoke/MethodHandle") && decide (M.1.cls ≠ "java/lang/invoke/VarHandle")) && decide ((parseMethodDescriptor M.1.desc).map (fun d => d.parameters.length) = some M.2.2.2.2.2.2.2.2.2.2.2) && decide (lw_tbl[M.2.2.2.2.2.2.2.1]? = some (Cond.code M.1 M.2.1 M.2.2.1 M.2.2.2.1)) && decide (lw_tbl[M.2.2.2.2.2.2.2.2.2.2.1]? = some (Cond.initialized M.1.cls))
def fnd : List BLK → Nat → Option (List RI × RI)
  | [], _ => none
  | (p, is, t) :: bs, pc => match Nat.beq p pc with
    | true => some (is, t)
    | false => fnd bs pc
/-- every block of M is what M's code says; M's own words stand in the tables -/
def MOK (M : MR) : Prop := (∀ b ∈ blks M, bOK M b = true) ∧ kOK M = true
theorem fnd_ok {M : MR} {pc : Nat} {is : List RI} {t : RI} (ok : MOK M) (h : fnd (blks M) pc = some (is, t)) : seqOK M pc is t.1 = true ∧ tOK M t = true := by
  have key : ∀ bs : List BLK, fnd bs pc = some (is, t) → (pc, is, t) ∈ bs := by
    intro bs
    induction bs with
    | nil => intro hq; cases hq
    | cons b bs ih =>
      obtain ⟨p, is', t'⟩ := b
      intro hq
      unfold fnd at hq
      split at hq
      · rename_i hb
        have e : p = pc := Nat.eq_of_beq_eq_true hb
        cases hq
        rw [e]
        exact List.mem_cons_self
      · exact List.mem_cons_of_mem _ (ih hq)
  have h1 := ok.1 _ (key _ h)
  simp only [bOK, Bool.and_eq_true] at h1
  exact h1
section EV
variable {lc : Launch} {G : GG} {M : MR} {pc : Nat} {l l' : LV} {st st' : List Value} {σ σ' : St2} {Q : Option Value → St2 → Prop} {is : List RI} {tp tgt nx a3 : Nat} {off : Int} {P : Prop}
theorem ev_pre {t : RI} (ok : MOK M) (hf : fnd (blks M) pc = some (is, t)) (hr : exs is l st σ = some (P, l', st', σ')) (hP : P) (k : Ev lc G M t.1 l' st' σ' Q) : Ev lc G M pc l st σ Q := exs_ok (fnd_ok ok hf).1 hr lc G Q hP k
theorem ev_nop {a1 a2 : Nat} (ok : MOK M) (hf : fnd (blks M) pc = some (is, (tp, .nop, a1, a2, a3))) (hr : exs is l st σ = some (P, l', st', σ')) (hP : P) (k : Ev lc G M tp l' st' σ' Q) : Ev lc G M pc l st σ Q := ev_pre ok hf hr hP k
theorem ev_goto (ok : MOK M) (hf : fnd (blks M) pc = some (is, (tp, .goto off, tgt, nx, a3))) (hr : exs is l st σ = some (P, l', st', σ')) (hP : P) (k : Ev lc G M tgt l' st' σ' Q) : Ev lc G M pc l st σ Q := by
  refine ev_pre ok hf hr hP fun p e s m args below meth c C H locs ls hP hS hl => ?_
  have h2 := (fnd_ok ok hf).2
  simp only [tOK, Bool.and_eq_true, decide_eq_true_eq] at h2
  exact lv_goto C.1 C.2.1 h2.1 h2.2 (k p e s m args below meth c C H locs ls hP hS hl)
theorem ev_if_eq {x : Int32} (ok : MOK M) (hf : fnd (blks M) pc = some (is, (tp, .ifCond .eq off, tgt, nx, a3))) (hr : exs is l st σ = some (P, l', .int x :: st', σ')) (hP : P) (kt : x = 0 → Ev lc G M tgt l' st' σ' Q) (kf : ¬ x = 0 → Ev lc G M nx l' st' σ' Q) : Ev lc G M pc l st σ Q := by
  refine ev_pre ok hf hr hP fun p e s m args below meth c C H locs ls hP hS hl => ?_
  have h2 := (fnd_ok ok hf).2
  simp only [tOK, Bool.and_eq_true, decide_eq_true_eq] at h2
  have e := Nat.eq_of_beq_eq_true h2.2.2
  subst e
  exact lv_if_eq C.1 C.2.1 h2.1 h2.2.1 (fun q => kt q p e s m args below meth c C H locs ls hP hS hl) (fun q => kf q p e s m args below meth c C H locs ls hP hS hl)
theorem ev_ic_eq {x y : Int32} (ok : MOK M) (hf : fnd (blks M) pc = some (is, (tp, .if_icmp .eq off, tgt, nx, a3))) (hr : exs is l st σ = some (P, l', .int y :: .int x :: st', σ')) (hP : P) (kt : x = y → Ev lc G M tgt l' st' σ' Q) (kf : ¬ x = y → Ev lc G M nx l' st' σ' Q) : Ev lc G M pc l st σ Q := by
  refine ev_pre ok hf hr hP fun p e s m args below meth c C H locs ls hP hS hl => ?_
  have h2 := (fnd_ok ok hf).2
  simp only [tOK, Bool.and_eq_true, decide_eq_true_eq] at h2
  have e := Nat.eq_of_beq_eq_true h2.2.2
  subst e
  exact lv_icmp_eq C.1 C.2.1 h2.1 h2.2.1 (fun q => kt q p e s m args below meth c C H locs ls hP hS hl) (fun q => kf q p e s m args below meth c C H locs ls hP hS hl)
theorem ev_if_ne {x : Int32} (ok : MOK M) (hf : fnd (blks M) pc = some (is, (tp, .ifCond .ne off, tgt, nx, a3))) (hr : exs is l st σ = some (P, l', .int x :: st', σ')) (hP : P) (kt : ¬ x = 0 → Ev lc G M tgt l' st' σ' Q) (kf : x = 0 → Ev lc G M nx l' st' σ' Q) : Ev lc G M pc l st σ Q := by
  refine ev_pre ok hf hr hP fun p e s m args below meth c C H locs ls hP hS hl => ?_
  have h2 := (fnd_ok ok hf).2
  simp only [tOK, Bool.and_eq_true, decide_eq_true_eq] at h2
  have e := Nat.eq_of_beq_eq_true h2.2.2
  subst e
  exact lv_if_ne C.1 C.2.1 h2.1 h2.2.1 (fun q => kt q p e s m args below meth c C H locs ls hP hS hl) (fun q => kf q p e s m args below meth c C H locs ls hP hS hl)
theorem ev_ic_ne {x y : Int32} (ok : MOK M) (hf : fnd (blks M) pc = some (is, (tp, .if_icmp .ne off, tgt, nx, a3))) (hr : exs is l st σ = some (P, l', .int y :: .int x :: st', σ')) (hP : P) (kt : ¬ x = y → Ev lc G M tgt l' st' σ' Q) (kf : x = y → Ev lc G M nx l' st' σ' Q) : Ev lc G M pc l st σ Q := by
  refine ev_pre ok hf hr hP fun p e s m args below meth c C H locs ls hP hS hl => ?_
  have h2 := (fnd_ok ok hf).2
  simp only [tOK, Bool.and_eq_true, decide_eq_true_eq] at h2
  have e := Nat.eq_of_beq_eq_true h2.2.2
  subst e
  exact lv_icmp_ne C.1 C.2.1 h2.1 h2.2.1 (fun q => kt q p e s m args below meth c C H locs ls hP hS hl) (fun q => kf q p e s m args below meth c C H locs ls hP hS hl)
theorem ev_if_lt {x : Int32} (ok : MOK M) (hf : fnd (blks M) pc = some (is, (tp, .ifCond .lt off, tgt, nx, a3))) (hr : exs is l st σ = some (P, l', .int x :: st', σ')) (hP : P) (kt : x < 0 → Ev lc G M tgt l' st' σ' Q) (kf : ¬ x < 0 → Ev lc G M nx l' st' σ' Q) : Ev lc G M pc l st σ Q := by
  refine ev_pre ok hf hr hP fun p e s m args below meth c C H locs ls hP hS hl => ?_
  have h2 := (fnd_ok ok hf).2
  simp only [tOK, Bool.and_eq_true, decide_eq_true_eq] at h2
  have e := Nat.eq_of_beq_eq_true h2.2.2
  subst e
  exact lv_if_lt C.1 C.2.1 h2.1 h2.2.1 (fun q => kt q p e s m args below meth c C H locs ls hP hS hl) (fun q => kf q p e s m args below meth c C H locs ls hP hS hl)
theorem ev_ic_lt {x y : Int32} (ok : MOK M) (hf : fnd (blks M) pc = some (is, (tp, .if_icmp .lt off, tgt, nx, a3))) (hr : exs is l st σ = some (P, l', .int y :: .int x :: st', σ')) (hP : P) (kt : x < y → Ev lc G M tgt l' st' σ' Q) (kf : ¬ x < y → Ev lc G M nx l' st' σ' Q) : Ev lc G M pc l st σ Q := by
  refine ev_pre ok hf hr hP fun p e s m args below meth c C H locs ls hP hS hl => ?_
  have h2 := (fnd_ok ok hf).2
  simp only [tOK, Bool.and_eq_true, decide_eq_true_eq] at h2
  have e := Nat.eq_of_beq_eq_true h2.2.2
  subst e
  exact lv_icmp_lt C.1 C.2.1 h2.1 h2.2.1 (fun q => kt q p e s m args below meth c C H locs ls hP hS hl) (fun q => kf q p e s m args below meth c C H locs ls hP hS hl)
theorem ev_if_ge {x : Int32} (ok : MOK M) (hf : fnd (blks M) pc = some (is, (tp, .ifCond .ge off, tgt, nx, a3))) (hr : exs is l st σ = some (P, l', .int x :: st', σ')) (hP : P) (kt : 0 ≤ x → Ev lc G M tgt l' st' σ' Q) (kf : ¬ 0 ≤ x → Ev lc G M nx l' st' σ' Q) : Ev lc G M pc l st σ Q := by
  refine ev_pre ok hf hr hP fun p e s m args below meth c C H locs ls hP hS hl => ?_
  have h2 := (fnd_ok ok hf).2
  simp only [tOK, Bool.and_eq_true, decide_eq_true_eq] at h2
  have e := Nat.eq_of_beq_eq_true h2.2.2
  subst e
  exact lv_if_ge C.1 C.2.1 h2.1 h2.2.1 (fun q => kt q p e s m args below meth c C H locs ls hP hS hl) (fun q => kf q p e s m args below meth c C H locs ls hP hS hl)
theorem ev_ic_ge {x y : Int32} (ok : MOK M) (hf : fnd (blks M) pc = some (is, (tp, .if_icmp .ge off, tgt, nx, a3))) (hr : exs is l st σ = some (P, l', .int y :: .int x :: st', σ')) (hP : P) (kt : y ≤ x → Ev lc G M tgt l' st' σ' Q) (kf : ¬ y ≤ x → Ev lc G M nx l' st' σ' Q) : Ev lc G M pc l st σ Q := by
  refine ev_pre ok hf hr hP fun p e s m args below meth c C H locs ls hP hS hl => ?_
  have h2 := (fnd_ok ok hf).2
  simp only [tOK, Bool.and_eq_true, decide_eq_true_eq] at h2
  have e := Nat.eq_of_beq_eq_true h2.2.2
  subst e
  exact lv_icmp_ge C.1 C.2.1 h2.1 h2.2.1 (fun q => kt q p e s m args below meth c C H locs ls hP hS hl) (fun q => kf q p e s m args below meth c C H locs ls hP hS hl)
theorem ev_if_gt {x : Int32} (ok : MOK M) (hf : fnd (blks M) pc = some (is, (tp, .ifCond .gt off, tgt, nx, a3))) (hr : exs is l st σ = some (P, l', .int x :: st', σ')) (hP : P) (kt : 0 < x → Ev lc G M tgt l' st' σ' Q) (kf : ¬ 0 < x → Ev lc G M nx l' st' σ' Q) : Ev lc G M pc l st σ Q := by
  refine ev_pre ok hf hr hP fun p e s m args below meth c C H locs ls hP hS hl => ?_
  have h2 := (fnd_ok ok hf).2
  simp only [tOK, Bool.and_eq_true, decide_eq_true_eq] at h2
  have e := Nat.eq_of_beq_eq_true h2.2.2
  subst e
  exact lv_if_gt C.1 C.2.1 h2.1 h2.2.1 (fun q => kt q p e s m args below meth c C H locs ls hP hS hl) (fun q => kf q p e s m args below meth c C H locs ls hP hS hl)
theorem ev_ic_gt {x y : Int32} (ok : MOK M) (hf : fnd (blks M) pc = some (is, (tp, .if_icmp .gt off, tgt, nx, a3))) (hr : exs is l st σ = some (P, l', .int y :: .int x :: st', σ')) (hP : P) (kt : y < x → Ev lc G M tgt l' st' σ' Q) (kf : ¬ y < x → Ev lc G M nx l' st' σ' Q) : Ev lc G M pc l st σ Q := by
  refine ev_pre ok hf hr hP fun p e s m args below meth c C H locs ls hP hS hl => ?_
  have h2 := (fnd_ok ok hf).2
  simp only [tOK, Bool.and_eq_true, decide_eq_true_eq] at h2
  have e := Nat.eq_of_beq_eq_true h2.2.2
  subst e
  exact lv_icmp_gt C.1 C.2.1 h2.1 h2.2.1 (fun q => kt q p e s m args below meth c C H locs ls hP hS hl) (fun q => kf q p e s m args below meth c C H locs ls hP hS hl)
theorem ev_if_le {x : Int32} (ok : MOK M) (hf : fnd (blks M) pc = some (is, (tp, .ifCond .le off, tgt, nx, a3))) (hr : exs is l st σ = some (P, l', .int x :: st', σ')) (hP : P) (kt : x ≤ 0 → Ev lc G M tgt l' st' σ' Q) (kf : ¬ x ≤ 0 → Ev lc G M nx l' st' σ' Q) : Ev lc G M pc l st σ Q := by
  refine ev_pre ok hf hr hP fun p e s m args below meth c C H locs ls hP hS hl => ?_
  have h2 := (fnd_ok ok hf).2
  simp only [tOK, Bool.and_eq_true, decide_eq_true_eq] at h2
  have e := Nat.eq_of_beq_eq_true h2.2.2
  subst e
  exact lv_if_le C.1 C.2.1 h2.1 h2.2.1 (fun q => kt q p e s m args below meth c C H locs ls hP hS hl) (fun q => kf q p e s m args below meth c C H locs ls hP hS hl)
theorem ev_ic_le {x y : Int32} (ok : MOK M) (hf : fnd (blks M) pc = some (is, (tp, .if_icmp .le off, tgt, nx, a3))) (hr : exs is l st σ = some (P, l', .int y :: .int x :: st', σ')) (hP : P) (kt : x ≤ y → Ev lc G M tgt l' st' σ' Q) (kf : ¬ x ≤ y → Ev lc G M nx l' st' σ' Q) : Ev lc G M pc l st σ Q := by
  refine ev_pre ok hf hr hP fun p e s m args below meth c C H locs ls hP hS hl => ?_
  have h2 := (fnd_ok ok hf).2
  simp only [tOK, Bool.and_eq_true, decide_eq_true_eq] at h2
  have e := Nat.eq_of_beq_eq_true h2.2.2
  subst e
  exact lv_icmp_le C.1 C.2.1 h2.1 h2.2.1 (fun q => kt q p e s m args below meth c C H locs ls hP hS hl) (fun q => kf q p e s m args below meth c C H locs ls hP hS hl)
theorem ev_tin {x : Int32} {d lo hi off : Int} {offs : Array Int} (tgt : Nat) (ok : MOK M) (hf : fnd (blks M) pc = some (is, (tp, .tableswitch d lo hi offs, nx, nx, a3))) (hr : exs is l st σ = some (P, l', .int x :: st', σ')) (hP : P) (h1 : ¬ x.toInt < lo) (h2 : ¬ hi < x.toInt) (ho : offs[(x.toInt - lo).toNat]? = some off) (ht : (tp : Int) + off = (tgt : Int)) (k : Ev lc G M tgt l' st' σ' Q) : Ev lc G M pc l st σ Q := by
  refine ev_pre ok hf hr hP fun p e s m args below meth c C H locs ls hP hS hl => ?_
  have h5 := (fnd_ok ok hf).2
  simp only [tOK, decide_eq_true_eq] at h5
  exact lv_tableIn C.1 C.2.1 h5 h1 h2 ho ht (k p e s m args below meth c C H locs ls hP hS hl)
theorem ev_tout {x : Int32} {d lo hi : Int} {offs : Array Int} (tgt : Nat) (ok : MOK M) (hf : fnd (blks M) pc = some (is, (tp, .tableswitch d lo hi offs, nx, nx, a3))) (hr : exs is l st σ = some (P, l', .int x :: st', σ')) (hP : P) (h1 : x.toInt < lo ∨ hi < x.toInt) (ht : (tp : Int) + d = (tgt : Int)) (k : Ev lc G M tgt l' st' σ' Q) : Ev lc G M pc l st σ Q := by
  refine ev_pre ok hf hr hP fun p e s m args below meth c C H locs ls hP hS hl => ?_
  have h5 := (fnd_ok ok hf).2
  simp only [tOK, decide_eq_true_eq] at h5
  exact lv_tableOut C.1 C.2.1 h5 h1 ht (k p e s m args below meth c C H locs ls hP hS hl)
theorem ev_look {x : Int32} {d off : Int} {ps : Array (Int × Int)} (tgt : Nat) (ok : MOK M) (hf : fnd (blks M) pc = some (is, (tp, .lookupswitch d ps, nx, nx, a3))) (hr : exs is l st σ = some (P, l', .int x :: st', σ')) (hP : P) (ho : Op.lookupswitch.offset ps.toList d x.toInt = off) (ht : (tp : Int) + off = (tgt : Int)) (k : Ev lc G M tgt l' st' σ' Q) : Ev lc G M pc l st σ Q := by
  refine ev_pre ok hf hr hP fun p e s m args below meth c C H locs ls hP hS hl => ?_
  have h5 := (fnd_ok ok hf).2
  simp only [tOK, Bool.and_eq_true, decide_eq_true_eq] at h5
  exact lv_lookup C.1 C.2.1 h5.1 h5.2 ho ht (k p e s m args below meth c C H locs ls hP hS hl)
theorem ev_ri {x : Int32} {a1 a2 : Nat} (ok : MOK M) (hf : fnd (blks M) pc = some (is, (tp, .ireturn, a1, a2, a3))) (hr : exs is l st σ = some (P, l', [.int x], σ')) (hP : P) (hret : M.2.2.2.1 = some .int) (k : Q (some (.int x)) σ') : Ev lc G M pc l st σ Q := by
  refine ev_pre ok hf hr hP fun p e s m args below meth c C H locs ls hP hS hl => ?_
  have h2 := (fnd_ok ok hf).2
  simp only [tOK, decide_eq_true_eq] at h2
  exact W.iret (v := x) C.1 C.2.1 (C.2.2.1.trans hret) (fun t ht _ => ⟨⟨some (.int x), σ', rfl, k, by rw [ht]; exact hP⟩, hS.F ht⟩) hS.2.2 h2 C.2.2.2.2.2.2.1
theorem ev_rz {x : Int32} {a1 a2 : Nat} (ok : MOK M) (hf : fnd (blks M) pc = some (is, (tp, .ireturn, a1, a2, a3))) (hr : exs is l st σ = some (P, l', [.int x], σ')) (hP : P) (hret : M.2.2.2.1 = some .boolean) (hx : x = 0 ∨ x = 1) (k : Q (some (.int x)) σ') : Ev lc G M pc l st σ Q := by
  refine ev_pre ok hf hr hP fun p e s m args below meth c C H locs ls hP hS hl => ?_
  have h2 := (fnd_ok ok hf).2
  simp only [tOK, decide_eq_true_eq] at h2
  exact W.zret (v := x) C.1 C.2.1 (C.2.2.1.trans hret) (by rcases hx with rfl | rfl <;> rfl) (fun t ht _ => ⟨⟨some (.int x), σ', rfl, k, by rw [ht]; exact hP⟩, hS.F ht⟩) hS.2.2 h2 C.2.2.2.2.2.2.1
theorem ev_rl {x : Int64} {a1 a2 : Nat} (ok : MOK M) (hf : fnd (blks M) pc = some (is, (tp, .lreturn, a1, a2, a3))) (hr : exs is l st σ = some (P, l', [.long x], σ')) (hP : P) (hret : M.2.2.2.1 = some .long) (k : Q (some (.long x)) σ') : Ev lc G M pc l st σ Q := by
  refine ev_pre ok hf hr hP fun p e s m args below meth c C H locs ls hP hS hl => ?_
  have h2 := (fnd_ok ok hf).2
  simp only [tOK, decide_eq_true_eq] at h2
  exact W.lret (v := x) C.1 C.2.1 (C.2.2.1.trans hret) (fun t ht _ => ⟨⟨some (.long x), σ', rfl, k, by rw [ht]; exact hP⟩, hS.F ht⟩) hS.2.2 h2 C.2.2.2.2.2.2.1
theorem ev_rv {a1 a2 : Nat} (ok : MOK M) (hf : fnd (blks M) pc = some (is, (tp, .return_, a1, a2, a3))) (hr : exs is l st σ = some (P, l', [], σ')) (hP : P) (hret : M.2.2.2.1 = none) (k : Q none σ') : Ev lc G M pc l st σ Q := by
  refine ev_pre ok hf hr hP fun p e s m args below meth c C H locs ls hP hS hl => ?_
  have h2 := (fnd_ok ok hf).2
  simp only [tOK, decide_eq_true_eq] at h2
  exact W.vret C.1 C.2.1 (C.2.2.1.trans hret) (fun t ht _ => ⟨⟨none, σ', rfl, k, by rw [ht]; exact hP⟩, hS.F ht⟩) hS.2.2 h2 C.2.2.2.2.2.2.1
theorem ev_mono {Q' : Option Value → St2 → Prop} (h : Ev lc G M pc l st σ Q) (hq : ∀ v σ, Q v σ → Q' v σ) : Ev lc G M pc l st σ Q' := by
  intro p e s m args below meth c C H locs ls hP hS hl T hT X
  obtain ⟨t, h1, o, h2, h3, ⟨⟨v, σ1, a, b, d⟩, h5⟩, h6⟩ := h p e s m args below meth c C H locs ls hP hS hl T hT X
  exact ⟨t, h1, o, h2, h3, ⟨⟨v, σ1, a, hq v σ1 b, d⟩, h5⟩, h6⟩
def lvLe : LV → LV → Prop
  | [], [] => True
  | _ :: l, none :: l' => lvLe l l'
  | a :: l, some v :: l' => a = some v ∧ lvLe l l'
  | _, _ => False
theorem lvLe_nth : ∀ {l l' : LV}, lvLe l l' → l.length = l'.length ∧ ∀ j v, nth l' j = some v → nth l j = some v
  | [], [], _ => ⟨rfl, fun _ _ h => h⟩
  | [], _ :: _, h => h.elim
  | _ :: _, [], h => h.elim
  | a :: l, none :: l', h => by
    obtain ⟨h1, h2⟩ := lvLe_nth (l := l) (l' := l') h
    refine ⟨by simp [h1], fun j v hj => ?_⟩
    cases j with
    | zero => cases hj
    | succ j => exact h2 j v hj
  | a :: l, some w :: l', h => by
    obtain ⟨h1, h2⟩ := lvLe_nth (l := l) (l' := l') h.2
    refine ⟨by simp [h1], fun j v hj => ?_⟩
    cases j with
    | zero => exact h.1.trans hj
    | succ j => exact h2 j v hj
/-- fewer locals are known -/
theorem ev_lv (l' : LV) (hl : lvLe l l') (h : Ev lc G M pc l' st σ Q) : Ev lc G M pc l st σ Q := by
  obtain ⟨h1, h2⟩ := lvLe_nth hl
  intro p e s m args below meth c C H locs ls hP hS hv
  refine h p e s m args below meth c C H locs ls hP hS ⟨lv_mono hv.1 fun q hq => ?_, by omega⟩
  obtain ⟨v, q1, q2⟩ := lvl_mem.mp hq
  exact lvl_mem.mpr ⟨v, h2 _ _ q1, q2⟩
/-- the locals with which a method begins -/
def ent : Nat → List Value → LV
  | n, [] => List.replicate n none
  | 0, _ :: _ => []
  | n + 1, v :: vs => match v.category with
    | 2 => match n with
      | 0 => []
      | n + 1 => some v :: none :: ent n vs
    | _ => some v :: ent n vs
def psh : Option Value → List Value → List Value
  | none, r => r
  | some v, r => v :: r
def cats : List Value → Nat
  | [] => 0
  | v :: r => v.category + cats r
/-- the arguments of a call, off the stack -/
def spl : Nat → List Value → List Value → Option (List Value × List Value)
  | 0, st, acc => some (acc, st)
  | _ + 1, [], _ => none
  | n + 1, v :: st, acc => spl n st (v :: acc)
end EV
