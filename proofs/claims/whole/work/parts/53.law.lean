/-! THE CLAIM OUT OF ONE WALK OF THE LAW'S BODY. Your part is whole_start (and what it stands on); all else here is the same for every law, but numbers. -/
def R_law : String := "PageFormatterLaw"
def lw_P (b : Addr) (xs : List Int32) (args : Array Value) (s : State) : Prop := args = #[.ref b] ∧ s.IntsAt b xs ∧ xs.length ≤ 2048 ∧ (Jvm.Cond.and given_1 narrow_1).before args s = true
def lw_Q (_ : Array Value) (s : State) (o : Outcome) (t : State) : Prop := o = .returned (some (.int 1)) ∧ Framed s o t [] 43 295485
def lw_Z (below : List Frame) (a : Array Value) (s : State) : State → Prop := fun t => ∃ o, t.status = .running ∧ Ended t below o ∧ lw_Q a s o t
/-- the law's own end, with 1 on the stack, nothing written that was there before, its room as the claim has it -/
theorem lw_ret {p : Program} {l : Launch} {e : Env} {s : State} {m : MethodId} {below : List Frame} {meth : Method} {c : Code} {b : Nat} (hx : p.tables.exec = Jvm.exec) (hb : c.code = code) (hr : meth.sig.returnType = ret) (hlocks : meth.locks = false) {pc : Nat} {H : Heap} {ls : Array Slot} (hdg : decode code pc = .ok (.ireturn, 1)) : W p l e room_1 s m #[Value.ref b] below meth c H [] 43 295485 (lw_Z below #[Value.ref b] s) (F0 m pc ls [.int 1]) := by
  intro T hT X
  obtain ⟨fs, hret, hrun, hended, hW, hframe⟩ := X.leave (v := some (.int 1)) (hlocks := hlocks) (fun h => by rw [hr] at h; cases h)
  have hmeth' : T.vm.method? m = some meth := X.method'
  refine ⟨T.setFrames fs, ?_, .returned (some (.int 1)), hrun, hended, rfl, ⟨_, rfl⟩, hW, hframe⟩
  jvm_step X.here [X.here.top, hx, hb, hdg, hmeth', hr, ret, narrow_b1]
  (try refine ⟨rfl, ?_⟩); (try refine ⟨rfl, ?_⟩)
  first | (intro acts; rw [hret _ acts rfl rfl rfl]) | rw [hret _ _ rfl rfl rfl]
  exact Steps.refl _
/-- what holds at the law's entry: the machine, the code, the tables' words (any of lw_tbl by 'hts w (by decide +kernel)'), the script of L ints xs at the cell b, what the Statement gives of the start (any of its parts by flat_of_before) -/
def lw_At (p : Program) (s : State) (m : MethodId) (meth : Method) (c : Code) (b L : Nat) (xs : Nat → Int32) : Prop :=
  p.tables.exec = Jvm.exec ∧ c.code = code ∧ meth.sig.returnType = ret ∧ c.maxLocals = 4 ∧ s.vm.findClass R_law = some m.cls ∧ (∀ w ∈ lw_tbl, w.before #[Value.ref b] s = true) ∧ va_X b L xs s s.heap ∧ b < s.heap.size ∧ meth.locks = false ∧ (Jvm.Cond.and given_1 narrow_1).before #[Value.ref b] s = true
/-! ===== the law's steps over the store ===== -/
/-- machine, launch, env, state at the entry, method, frames below, method, code, script: its cell, its length, its ints; the world's names -/
abbrev LX : Type := Program × Launch × Env × State × MethodId × List Frame × Method × Code × (Nat × Nat × (Nat → Int32)) × GG
def Lc (X : LX) : Prop := match X with
  | (p, _, _, s, m, _, meth, c, (b, L, xs), G) => lw_At p s m meth c b L xs ∧ va_K G.1 CLS (tysG G) s ∧ (∀ i j, i < lay.length → j < lay.length → G.2.2 i = G.2.2 j → i = j) ∧ (∀ id, id < lay.length → s.heap.size ≤ G.2.2 id) ∧ L ≤ 2048
/-- the law, standing at pc with i read, comes to its end with true -/
def El (X : LX) (pc : Nat) (i : Int32) (st : List Value) (σ : St2) : Prop := match X with
  | (p, lc, e, s, m, below, meth, c, (b, _, _), G) => ∀ (H : Heap) (locs : List Loc) (ls : Array Slot), va_P G.1 CLS (World G σ) H → va_S (fun q : Nat => s.heap.size ≤ q) s.heap H locs → lv_has ls 4 [(0, .ref b), (1, .ref (G.2.2 0)), (2, .ref (G.2.2 22)), (3, .int i)] → W p lc e room_1 s m #[Value.ref b] below meth c H locs 43 295485 (lw_Z below #[Value.ref b] s) (F0 m pc ls st)
abbrev lxA (X : LX) (k : Nat) : Value := .ref (match k with
  | 0 => X.2.2.2.2.2.2.2.2.1.1
  | 1 => X.2.2.2.2.2.2.2.2.2.2.2 0
  | _ => X.2.2.2.2.2.2.2.2.2.2.2 22)
abbrev lxS (X : LX) : Nat → Int32 := X.2.2.2.2.2.2.2.2.1.2.2
abbrev lxL (X : LX) : Nat := X.2.2.2.2.2.2.2.2.1.2.1
abbrev lxC (X : LX) : Launch := X.2.1
abbrev lxG (X : LX) : GG := X.2.2.2.2.2.2.2.2.2
section EL
variable {X : LX} {pc n : Nat} {i : Int32} {st : List Value} {σ : St2}
theorem el_r1 (K : Lc X) (hd : decode code pc = .ok (.aload_n 1, 1)) (k : El X (pc + 1) i (lxA X 1 :: st) σ) : El X pc i st σ := by
  obtain ⟨p, lc, e, s, m, below, meth, c, ⟨b, L, xs⟩, G⟩ := X
  exact fun H locs ls hP hS hl => lv_aload_n K.1.1 K.1.2.1 hd rfl (lv_at hl 1 rfl) (k H locs ls hP hS hl)
theorem el_r2 (K : Lc X) (hd : decode code pc = .ok (.aload_n 2, 1)) (k : El X (pc + 1) i (lxA X 2 :: st) σ) : El X pc i st σ := by
  obtain ⟨p, lc, e, s, m, below, meth, c, ⟨b, L, xs⟩, G⟩ := X
  exact fun H locs ls hP hS hl => lv_aload_n K.1.1 K.1.2.1 hd rfl (lv_at hl 2 rfl) (k H locs ls hP hS hl)
theorem el_arg {q : Int} (K : Lc X) (k : Nat) (hq : Int32.ofInt q = nI k) (hd0 : decode code pc = .ok (.aload_n 0, 1)) (hd1 : decode code (pc + 1) = .ok (.iload_n 3, 1)) (hd2 : decode code (pc + 2) = .ok (.iconst q, 1)) (hd3 : decode code (pc + 3) = .ok (.iadd, 1)) (hd4 : decode code (pc + 4) = .ok (.iaload, 1)) (hn : n + k < lxL X) (kk : El X (pc + 5) (nI n) (.int (lxS X (n + k)) :: st) σ) : El X pc (nI n) st σ := by
  obtain ⟨p, lc, e, s, m, below, meth, c, ⟨b, L, xs⟩, G⟩ := X
  intro H locs ls hP hS hl
  obtain ⟨⟨hx, hb, hr, hml, hown, hts, hX, hbl, hlocks, hgv⟩, -, -, -, hL⟩ := K
  have hbA : ¬ (fun q : Nat => s.heap.size ≤ q) b := Nat.not_le.mpr hbl
  simp only [lxL] at hn
  refine lv_aload_n hx hb hd0 rfl (lv_at hl 0 rfl) ?_
  refine lv_iload_n hx hb hd1 rfl (lv_at hl 3 rfl) ?_
  refine lv_iconst hx hb hd2 hq ?_
  refine lv_iadd hx hb hd3 ?_
  rw [nI_add]
  refine va_sld hx hb hX hbl hbA hS (vp_in_nI hn (by omega)) hd4 ?_
  rw [nI_clamp (show n + k < 2 ^ 31 by omega)]
  exact kk H locs ls hP hS hl
theorem el_arg0 (K : Lc X) (hd0 : decode code pc = .ok (.aload_n 0, 1)) (hd1 : decode code (pc + 1) = .ok (.iload_n 3, 1)) (hd4 : decode code (pc + 2) = .ok (.iaload, 1)) (hn : n < lxL X) (kk : El X (pc + 3) (nI n) (.int (lxS X n) :: st) σ) : El X pc (nI n) st σ := by
  obtain ⟨p, lc, e, s, m, below, meth, c, ⟨b, L, xs⟩, G⟩ := X
  intro H locs ls hP hS hl
  obtain ⟨⟨hx, hb, hr, hml, hown, hts, hX, hbl, hlocks, hgv⟩, -, -, -, hL⟩ := K
  have hbA : ¬ (fun q : Nat => s.heap.size ≤ q) b := Nat.not_le.mpr hbl
  simp only [lxL] at hn
  refine lv_aload_n hx hb hd0 rfl (lv_at hl 0 rfl) ?_
  refine lv_iload_n hx hb hd1 rfl (lv_at hl 3 rfl) ?_
  refine va_sld hx hb hX hbl hbA hS (vp_in_nI hn (by omega)) hd4 ?_
  rw [nI_clamp (show n < 2 ^ 31 by omega)]
  exact kk H locs ls hP hS hl
/-- two ints as a long -/
def wL (u v : Int32) : Int64 := u.toInt64 <<< ((32 : Int32).toInt64 &&& 63) ||| v.toInt64 &&& 4294967295
theorem el_hi (K : Lc X) {u : Int32} (hd0 : decode code pc = .ok (.i2l, 1)) (hd1 : decode code (pc + 1) = .ok (.bipush 32, 2)) (hd3 : decode code (pc + 3) = .ok (.lshl, 1)) (kk : El X (pc + 4) i (.long (u.toInt64 <<< ((32 : Int32).toInt64 &&& 63)) :: st) σ) : El X pc i (.int u :: st) σ := by
  obtain ⟨p, lc, e, s, m, below, meth, c, ⟨b, L, xs⟩, G⟩ := X
  intro H locs ls hP hS hl
  obtain ⟨⟨hx, hb, -⟩, -⟩ := K
  refine lv_i2l hx hb hd0 rfl ?_
  refine lv_bipush (v := 32) hx hb hd1 (by decide +kernel) ?_
  refine lv_lshl hx hb hd3 rfl ?_
  exact kk H locs ls hP hS hl
theorem el_lo (K : Lc X) {u v : Int32} (hd0 : decode code pc = .ok (.i2l, 1)) (hd1 : decode code (pc + 1) = .ok (.ldc2_w 13, 3)) (hd4 : decode code (pc + 4) = .ok (.land, 1)) (hd5 : decode code (pc + 5) = .ok (.lor, 1)) (hw : ∃ wi : Nat, lw_tbl[wi]? = some (Cond.constantLong R_law 13 4294967295)) (kk : El X (pc + 6) i (.long (wL u v) :: st) σ) : El X pc i (.int v :: .long (u.toInt64 <<< ((32 : Int32).toInt64 &&& 63)) :: st) σ := by
  obtain ⟨p, lc, e, s, m, below, meth, c, ⟨b, L, xs⟩, G⟩ := X
  intro H locs ls hP hS hl
  obtain ⟨⟨hx, hb, hr, hml, hown, hts, -⟩, -⟩ := K
  obtain ⟨wi, hw⟩ := hw
  refine lv_i2l hx hb hd0 rfl ?_
  refine lv_ldc2 hx hb hown (hts _ (List.mem_of_getElem? hw)) hd1 ?_
  refine lv_land hx hb hd4 ?_
  refine lv_lor hx hb hd5 ?_
  exact kk H locs ls hP hS hl
theorem el_eq (K : Lc X) {u : Int32} {off : Int} (hd : decode code pc = .ok (.if_icmp .eq off, 3)) (ht : (pc : Int) + off = ((292 : Nat) : Int)) (kk : El X 292 i st σ) : El X pc i (.int u :: .int u :: st) σ := by
  obtain ⟨p, lc, e, s, m, below, meth, c, ⟨b, L, xs⟩, G⟩ := X
  intro H locs ls hP hS hl
  obtain ⟨⟨hx, hb, -⟩, -⟩ := K
  exact lv_icmp_eq hx hb hd ht (fun _ => kk H locs ls hP hS hl) (fun h => absurd rfl h)
theorem el_eqL (K : Lc X) {u : Int64} {off : Int} (hd0 : decode code pc = .ok (.lcmp, 1)) (hd : decode code (pc + 1) = .ok (.ifCond .eq off, 3)) (ht : ((pc + 1 : Nat) : Int) + off = ((292 : Nat) : Int)) (kk : El X 292 i st σ) : El X pc i (.long u :: .long u :: st) σ := by
  obtain ⟨p, lc, e, s, m, below, meth, c, ⟨b, L, xs⟩, G⟩ := X
  intro H locs ls hP hS hl
  obtain ⟨⟨hx, hb, -⟩, -⟩ := K
  refine W.lcmp hx hb hd0 ?_
  refine lv_if_eq hx hb hd ht (fun _ => kk H locs ls hP hS hl) (fun h => absurd ?_ h)
  simp [lg_cmp]
theorem el_next (K : Lc X) (kk : El X 18 (nI (n + 4)) [] σ) : El X 292 (nI n) [] σ := by
  obtain ⟨p, lc, e, s, m, below, meth, c, ⟨b, L, xs⟩, G⟩ := X
  intro H locs ls hP hS hl
  obtain ⟨⟨hx, hb, -⟩, -⟩ := K
  refine lv_iinc (v := nI (n + 4)) (lv' := [(3, .int (nI (n + 4))), (0, .ref b), (1, .ref (G.2.2 0)), (2, .ref (G.2.2 22))]) (k := 3) hx hb (show decode code 292 = .ok (.iinc 3 4, 3) by decide +kernel) hl rfl ?_ (by decide) rfl (fun ls hl => ?_)
  · rw [← nI_add]; rfl
  refine lv_goto (tgt := 18) hx hb (show decode code 295 = .ok (.goto (-277), 3) by decide +kernel) (by decide) ?_
  exact kk H locs ls hP hS (lv_sub hl [1, 2, 3, 0] rfl)
/-- the law's end -/
theorem el_end (K : Lc X) : El X 298 i [] σ := by
  obtain ⟨p, lc, e, s, m, below, meth, c, ⟨b, L, xs⟩, G⟩ := X
  intro H locs ls hP hS hl
  obtain ⟨⟨hx, hb, hr, hml, hown, hts, hX, hbl, hlocks, hgv⟩, -⟩ := K
  refine lv_iconst (v := 1) hx hb (show decode code 298 = .ok (.iconst 1, 1) by decide +kernel) (by decide) ?_
  refine va_forget (fun q hq => hS.2.2 q hq) ?_
  exact lw_ret hx hb hr hlocks (show decode code 299 = .ok (.ireturn, 1) by decide +kernel)
/-- the loop's head -/
theorem el_head (K : Lc X) (hn : n ≤ 4096) (k0 : El X 298 (nI n) [] σ) (k1 : n + 4 ≤ lxL X → El X 26 (nI n) [] σ) : El X 18 (nI n) [] σ := by
  obtain ⟨p, lc, e, s, m, below, meth, c, ⟨b, L, xs⟩, G⟩ := X
  intro H locs ls hP hS hl
  obtain ⟨⟨hx, hb, hr, hml, hown, hts, hX, hbl, hlocks, hgv⟩, -, -, -, hL⟩ := K
  have hbA : ¬ (fun q : Nat => s.heap.size ≤ q) b := Nat.not_le.mpr hbl
  refine lv_iload_n hx hb (show decode code 18 = .ok (.iload_n 3, 1) by decide +kernel) rfl (lv_at hl 3 rfl) ?_
  refine lv_aload_n hx hb (show decode code 19 = .ok (.aload_n 0, 1) by decide +kernel) rfl (lv_at hl 0 rfl) ?_
  refine va_slen hx hb hX hbl hbA hS (show decode code 20 = .ok (.arraylength, 1) by decide +kernel) ?_
  refine lv_iconst (v := nI 4) hx hb (show decode code 21 = .ok (.iconst 4, 1) by decide +kernel) (by decide +kernel) ?_
  refine lv_isub hx hb (show decode code 22 = .ok (.isub, 1) by decide +kernel) ?_
  refine lv_icmp_gt (tgt := 298) hx hb (show decode code 23 = .ok (.if_icmp .gt 275, 3) by decide +kernel) (by decide) (fun _ => k0 H locs ls hP hS hl) (fun h => k1 ?_ H locs ls hP hS hl)
  show n + 4 ≤ L
  rcases Nat.lt_or_ge L (n + 4) with q | q
  · refine absurd ?_ h
    have e1 : (Int32.ofNat L - nI 4).toInt = (L : Int) - 4 := by
      have h1 : (Int32.ofNat L).toInt = (L : Int) := Int32.toInt_ofNat_of_lt (by omega)
      have h2 : (nI 4).toInt = 4 := by decide +kernel
      rw [Int32.toInt_sub, h1, h2, Int.bmod_eq_of_le] <;> omega
    rw [Int32.lt_iff_toInt_lt, e1, nI_toInt (by omega)]
    omega
  · exact q
/-- the choice of the call -/
theorem el_sw (K : Lc X) (hn : n + 4 ≤ lxL X) (k0 : El X 84 (nI n) [] σ) (k1 : El X 147 (nI n) [] σ) (k2 : El X 160 (nI n) [] σ) (k3 : El X 173 (nI n) [] σ) (k4 : El X 186 (nI n) [] σ) (k5 : El X 199 (nI n) [] σ) (k6 : El X 222 (nI n) [] σ) (k7 : El X 236 (nI n) [] σ) (k8 : El X 269 (nI n) [] σ) (k9 : El X 292 (nI n) [] σ) : El X 26 (nI n) [] σ := by
  refine el_arg0 K (by decide +kernel) (by decide +kernel) (by decide +kernel) (by omega) ?_
  obtain ⟨p, lc, e, s, m, below, meth, c, ⟨b, L, xs⟩, G⟩ := X
  intro H locs ls hP hS hl
  obtain ⟨⟨hx, hb, -⟩, -⟩ := K
  refine lv_bipush (v := nI 15) hx hb (show decode code 29 = .ok (.bipush 15, 2) by decide +kernel) (by decide +kernel) ?_
  refine lv_iand hx hb (show decode code 31 = .ok (.iand, 1) by decide +kernel) ?_
  have hd : decode code 32 = .ok (.tableswitch 260 0 8 #[52, 115, 128, 141, 154, 167, 190, 204, 237], 52) := by decide +kernel
  refine lv_topi (fun y _ => ?_)
  by_cases h1 : y.toInt < 0
  · exact lv_tableOut (tgt := 292) hx hb hd (Or.inl h1) (by decide) (k9 H locs ls hP hS hl)
  by_cases h2 : 8 < y.toInt
  · exact lv_tableOut (tgt := 292) hx hb hd (Or.inr h2) (by decide) (k9 H locs ls hP hS hl)
  have h3 : y.toInt - 0 = 0 ∨ y.toInt - 0 = 1 ∨ y.toInt - 0 = 2 ∨ y.toInt - 0 = 3 ∨ y.toInt - 0 = 4 ∨ y.toInt - 0 = 5 ∨ y.toInt - 0 = 6 ∨ y.toInt - 0 = 7 ∨ y.toInt - 0 = 8 := by omega
  rcases h3 with h | h | h | h | h | h | h | h | h
  · exact lv_tableIn (off := 52) (tgt := 84) hx hb hd h1 h2 (by rw [h]; rfl) (by decide) (k0 H locs ls hP hS hl)
  · exact lv_tableIn (off := 115) (tgt := 147) hx hb hd h1 h2 (by rw [h]; rfl) (by decide) (k1 H locs ls hP hS hl)
  · exact lv_tableIn (off := 128) (tgt := 160) hx hb hd h1 h2 (by rw [h]; rfl) (by decide) (k2 H locs ls hP hS hl)
  · exact lv_tableIn (off := 141) (tgt := 173) hx hb hd h1 h2 (by rw [h]; rfl) (by decide) (k3 H locs ls hP hS hl)
  · exact lv_tableIn (off := 154) (tgt := 186) hx hb hd h1 h2 (by rw [h]; rfl) (by decide) (k4 H locs ls hP hS hl)
  · exact lv_tableIn (off := 167) (tgt := 199) hx hb hd h1 h2 (by rw [h]; rfl) (by decide) (k5 H locs ls hP hS hl)
  · exact lv_tableIn (off := 190) (tgt := 222) hx hb hd h1 h2 (by rw [h]; rfl) (by decide) (k6 H locs ls hP hS hl)
  · exact lv_tableIn (off := 204) (tgt := 236) hx hb hd h1 h2 (by rw [h]; rfl) (by decide) (k7 H locs ls hP hS hl)
  · exact lv_tableIn (off := 237) (tgt := 269) hx hb hd h1 h2 (by rw [h]; rfl) (by decide) (k8 H locs ls hP hS hl)
/-- the room and the link of the law's call -/
def lkL (M' : MR) (idx wl id : Nat) : Bool := decide (lw_tbl[wl]? = some (Cond.methodLink R_law idx M'.1)) && (Nat.ble (M'.2.2.2.2.1 + 1) 13 && (Nat.ble (8 + (M'.2.2.1 + 11) + M'.2.2.2.2.2.1) 522 && (decide (lw_tbl[M'.2.2.2.2.2.2.2.2.1]? = some (Cond.instanceMethod M'.1)) && (decide (lw_tbl[M'.2.2.2.2.2.2.2.2.2.1]? = some (Cond.selects M'.1.cls M'.1 M'.1)) && (match lay[id]? with
  | some (.inl (ci, _)) => match CLS[ci]? with
    | some (C, _, _) => decide (C = M'.1.cls)
    | none => false
  | _ => false)))))
theorem el_cv {M' : MR} {id idx : Nat} {As : List Value} (K : Lc X) (wl : Nat) (ok' : MOK M') (hd : decode code pc = .ok (.invokevirtual idx, 3)) (hlk : lkL M' idx wl id = true) (hlen : Nat.beq As.length (npar M') = true) (hcat : ((st.map fun v => v.category).sum) ≤ 8) (he : Nat.ble (slw (.ref id :: As)) M'.2.2.1 = true)
    (k : Ev (lxC X) (lxG X) M' 0 (ent M'.2.2.1 (.ref id :: As)) [] σ (fun v τ => El X (pc + 3) i ((v.map (cv (lxG X))).toList ++ st) τ)) : El X pc i ((As.map (cv (lxG X))).reverse ++ .ref ((lxG X).2.2 id) :: st) σ := by
  obtain ⟨p, lc, e, s, m, below, meth, c, ⟨b, L, xs⟩, G⟩ := X
  intro H locs ls hP hS hl
  obtain ⟨⟨hx, hb, hr, hml, hown, hts, hX, hbl, hlocks, hgv⟩, hK, hA, hZ, hL⟩ := K
  have hts' : ∀ w ∈ GT, w.before #[Value.ref b] s = true := fun w hw => hts w (List.mem_filter.mp hw).1
  simp only [lkL, Bool.and_eq_true, decide_eq_true_eq] at hlk
  obtain ⟨hlink, hfr, hlo, hinst, hsel, hrec⟩ := hlk
  obtain ⟨hpl, hmh, hdesc, hcode, hini⟩ := kOK_all ok'
  have hrv : ∃ ci fks T N, lay[id]? = some (.inl (ci, fks)) ∧ CLS[ci]? = some (M'.1.cls, T, N) := by
    split at hrec
    · rename_i ci fks h1
      split at hrec
      · rename_i C0 T N h3
        simp only [decide_eq_true_eq] at hrec
        exact ⟨ci, fks, T, N, h1, by rw [h3, hrec]⟩
      · cases hrec
    · cases hrec
  obtain ⟨ci, fks, T, N, hl1, hc1⟩ := hrv
  have hrun := va_runV (p := p) (l := lc) (e := e) (R := room_1) (s := s) (m := m) (args := #[Value.ref b]) (below := below) (meth := meth) (c := c) (H := H) (locs := locs) (cells := 43) (slots := 295485) (cc := code) (nL := 4) (Ts := GT) (own := R_law) (C := M'.1.cls) (As := As.map (cv G)) (n := npar M') (b := G.2.2 id) (g := F0 m pc ls ((As.map (cv G)).reverse ++ .ref (G.2.2 id) :: st)) (rest := st) ⟨hx, hb, hml, hown, hts'⟩ (met_of_ev ok' (Nat.le_of_ble_eq_true he) k) ⟨callB_of (npar M') hts' (goodM ok') rfl rfl rfl (hts' _ hini) (hts _ (List.mem_of_getElem? hlink)) ⟨hmh.1, hmh.2, hdesc⟩ ⟨Nat.le_of_ble_eq_true hfr, Nat.le_of_ble_eq_true hlo⟩, hts' _ (GT_at hinst rfl), hts' _ (GT_at hsel rfl)⟩
    ⟨Wd_blind G σ _, va_recv hK hP hc1 (cell_obj hl1), fun U hU hW => ⟨rfl, by rw [hU]; exact hP, va_K.moved hW.alike hK, hA⟩⟩ rfl (by rw [List.length_map]; exact Nat.eq_of_beq_eq_true hlen) hl.1 rfl (lv_room hcat) hd ⟨Nat.le_refl _, Nat.le_refl _⟩
  intro T0 hT X0
  obtain ⟨v, st₀, t, T', L', h0, X', hL', e1, e2, ⟨⟨v', τ, hv, hk, hPt⟩, hz, hkk⟩, hst⟩ := hrun T0 hT X0
  cases hv
  rw [h0] at hz hkk
  have hfree : ∀ q, Aad G q → s.heap.size ≤ q := fun q hq => by
    obtain ⟨id', h1, rfl⟩ := hq
    exact hZ id' h1
  have hS' : va_S (fun q : Nat => s.heap.size ≤ q) s.heap T'.heap (locs ++ L') := by
    refine ⟨Nat.le_trans hS.1 (by rw [e1]; exact hz), fun q h1 h2 => ?_, fun q hq => ?_⟩
    · rw [e1, hkk q (Nat.lt_of_lt_of_le h1 hS.1) (fun z => h2 (hfree q z))]
      exact hS.2.1 q h1 h2
    · rcases List.mem_append.mp hq with h | h
      · exact hS.2.2 q h
      · exact hfree _ (hL' q h)
  obtain ⟨t2, a1, b1⟩ := hk T'.heap (locs ++ L') ls (by rw [e1]; exact hPt) hS' hl T' rfl X'
  exact ⟨t2, hst t2 a1, b1⟩
end EL
