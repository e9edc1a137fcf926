/-! ===== calls ===== -/
def slw : List Value → Nat
  | [] => 0
  | v :: vs => v.category + slw vs
theorem slw_eq (G : GG) (vs : List Value) : (lg_sl (vs.map (cv G))).length = slw vs := by
  induction vs with
  | nil => rfl
  | cons v vs ih =>
    have e : lg_sl ((v :: vs).map (cv G)) = (if (cv G v).category = 2 then [.val (cv G v), .second] else [.val (cv G v)]) ++ lg_sl (vs.map (cv G)) := by simp [lg_sl]
    rw [e, List.length_append, ih, cv_cat, slw]
    rcases lv_cat v with h | h <;> simp [h]
theorem cats_eq (G : GG) (vs : List Value) : ((vs.map (cv G)).map fun v => v.category).sum = cats vs := by
  induction vs with
  | nil => rfl
  | cons v vs ih =>
    simp only [List.map_cons, List.sum_cons, cats, cv_cat]
    rw [ih]
theorem ent_1 {n : Nat} {v : Value} {vs : List Value} (h : v.category = 1) : ent (n + 1) (v :: vs) = some v :: ent n vs := by
  cases v <;> first | rfl | (simp [Value.category] at h)
theorem ent_2 {n : Nat} {v : Value} {vs : List Value} (h : v.category = 2) : ent (n + 2) (v :: vs) = some v :: none :: ent n vs := by
  cases v <;> first | rfl | (simp [Value.category] at h)
theorem ent_len {vs : List Value} {n : Nat} (h : slw vs ≤ n) : (ent n vs).length = n := by
  induction vs generalizing n with
  | nil => simp [ent]
  | cons v vs ih =>
    rw [slw] at h
    cases n with
    | zero => rcases lv_cat v with q | q <;> omega
    | succ n =>
      rcases lv_cat v with q | q
      · rw [ent_1 q, List.length_cons, ih (by omega)]
      · cases n with
        | zero => omega
        | succ n =>
          rw [ent_2 q, List.length_cons, List.length_cons, ih (by omega)]
theorem nth_rep (n j : Nat) : nth (List.replicate n none) j = none := by
  induction n generalizing j with
  | zero => rfl
  | succ n ih => cases j with
    | zero => rfl
    | succ j => exact ih j
theorem ent_args (G : GG) {vs : List Value} {n j k : Nat} {v : Value} (h : slw vs ≤ n) (hn : nth (ent n vs) j = some v) : (k + j, cv G v) ∈ lv_args k (vs.map (cv G)) := by
  induction vs generalizing n j k with
  | nil => rw [ent, nth_rep] at hn; cases hn
  | cons w vs ih =>
    rw [slw] at h
    rw [List.map_cons, lv_args, cv_cat]
    cases n with
    | zero => rcases lv_cat w with q | q <;> omega
    | succ n =>
      rcases lv_cat w with q | q
      · rw [ent_1 q] at hn
        cases j with
        | zero => cases hn; exact List.mem_cons_self
        | succ j =>
          refine List.mem_cons_of_mem _ ?_
          rw [if_neg (by omega)]
          have := ih (k := k + 1) (by omega : slw vs ≤ n) hn
          rwa [show k + 1 + j = k + (j + 1) by omega] at this
      · cases n with
        | zero => omega
        | succ n =>
          rw [ent_2 q] at hn
          match j, hn with
          | 0, hn => cases hn; exact List.mem_cons_self
          | 1, hn => cases hn
          | j + 2, hn =>
            refine List.mem_cons_of_mem _ ?_
            rw [if_pos q]
            have := ih (k := k + 2) (by omega : slw vs ≤ n) hn
            rwa [show k + 2 + j = k + (j + 2) by omega] at this
theorem spl_ok {n : Nat} {st acc A rest : List Value} (h : spl n st acc = some (A, rest)) : ∃ B : List Value, A = B.reverse ++ acc ∧ st = B ++ rest ∧ B.length = n := by
  induction n generalizing st acc with
  | zero => cases h; exact ⟨[], rfl, rfl, rfl⟩
  | succ n ih =>
    cases st with
    | nil => cases h
    | cons v st =>
      obtain ⟨B, h1, h2, h3⟩ := ih h
      exact ⟨v :: B, by simp [h1], by simp [h2], by simp [h3]⟩
/-- what holds of the world when a method of the system is called -/
def Wd (G : GG) (σ : St2) (U : State) : Prop := va_P G.1 CLS (World G σ) U.heap ∧ va_K G.1 CLS (tysG G) U ∧ ∀ i j, i < lay.length → j < lay.length → G.2.2 i = G.2.2 j → i = j
abbrev wsM (M : MR) : List Cond := Cond.code M.1 M.2.1 M.2.2.1 M.2.2.2.1 :: GT
theorem kOK_all {M : MR} (ok : MOK M) : plainName M.1.cls = true ∧ (M.1.cls ≠ "java/lang/invoke/MethodHandle" ∧ M.1.cls ≠ "java/lang/invoke/VarHandle") ∧ (parseMethodDescriptor M.1.desc).map (fun d => d.parameters.length) = some M.2.2.2.2.2.2.2.2.2.2.2 ∧ Cond.code M.1 M.2.1 M.2.2.1 M.2.2.2.1 ∈ GT ∧ Cond.initialized M.1.cls ∈ GT := by
  have h := ok.2
  simp only [kOK, Bool.and_eq_true, decide_eq_true_eq] at h
  obtain ⟨⟨⟨⟨h1, h2⟩, h3⟩, h4⟩, h5⟩ := h
  exact ⟨h1, h2, h3, GT_at h4 rfl, GT_at h5 rfl⟩
theorem met_of_ev {lc : Launch} {G : GG} {M : MR} {As : List Value} {σ : St2} {Q : Option Value → St2 → Prop} (ok : MOK M) (he : slw As ≤ M.2.2.1) (h : Ev lc G M 0 (ent M.2.2.1 As) [] σ Q) : Met lc M.1 (wsM M) (rmM M) (va_Pc (As.map (cv G)) (Wd G σ)) (QQ G Q) 0 0 (Aad G) := by
  refine Met.ofW (cc := M.2.1) (maxL := M.2.2.1) (ret := M.2.2.2.1) (kOK_all ok).1 rfl ?_
  intro p e s m args below meth c s₁ B hml hv
  obtain ⟨rfl, hP, hK, hA⟩ := hv
  have hts := atoms_spec (ws := wsM M) B.pre
  have C : Cx G M p s m (As.map (cv G)).toArray meth c := ⟨B.exec, B.bytes, B.returns, hml, findClass_of_methodNamed B.named, fun w hw => hts w (List.mem_cons_of_mem _ hw), B.notSynchronized, hK, hA⟩
  have hl := lv_entry (As.map (cv G)) (n := M.2.2.1) (by rw [slw_eq]; exact he)
  rw [lg_entry_eq]
  refine h p e s m _ below meth c C s.heap [] _ hP va_S.rf ⟨lv_mono hl fun q hq => ?_, ent_len he⟩
  obtain ⟨v, q1, q2⟩ := lvl_mem.mp hq
  have := ent_args G (k := 0) he q1
  rw [Nat.zero_add, ← q2] at this
  exact this
theorem goodM {M : MR} (ok : MOK M) : GoodIn GT (wsM M) := by
  intro w hw
  rcases List.mem_cons.mp hw with rfl | h
  · exact ⟨(kOK_all ok).2.2.2.1, GT_good (kOK_all ok).2.2.2.1⟩
  · exact ⟨h, GT_good h⟩
theorem Wd_blind (G : GG) (σ : St2) (av : List Value) : FrameBlind (va_Pc av (Wd G σ)) := fun a U g mk q => by
  obtain ⟨q0, q1, q2, q3⟩ := q
  exact ⟨q0, q1, va_K.moved (u := U) (U := U.calling g mk a) (Vm.Alike.refl U.vm) q2, q3⟩
def npar (M : MR) : Nat := M.2.2.2.2.2.2.2.2.2.2.2
/-- the room and the link of a call -/
def rmOK (M M' : MR) (idx a3 : Nat) : Bool := decide (lw_tbl[a3]? = some (Cond.methodLink M.1.cls idx M'.1)) && (Nat.ble (M'.2.2.2.2.1 + 1) M.2.2.2.2.1 && Nat.ble (8 + (M'.2.2.1 + 11) + M'.2.2.2.2.2.1) M.2.2.2.2.2.1)
def lkV (M M' : MR) (idx a3 id : Nat) : Bool := rmOK M M' idx a3 && (decide (lw_tbl[M'.2.2.2.2.2.2.2.2.1]? = some (Cond.instanceMethod M'.1)) && (decide (lw_tbl[M'.2.2.2.2.2.2.2.2.2.1]? = some (Cond.selects M'.1.cls M'.1 M'.1)) && (match lay[id]? with
  | some (.inl (ci, _)) => match CLS[ci]? with
    | some (C, _, _) => decide (C = M'.1.cls)
    | none => false
  | _ => false)))
def lkS (M M' : MR) (idx a3 : Nat) : Bool := rmOK M M' idx a3 && decide (lw_tbl[M'.2.2.2.2.2.2.2.2.1]? = some (Cond.static M'.1))
theorem rmOK_ok {M M' : MR} {idx a3 : Nat} (h : rmOK M M' idx a3 = true) : Cond.methodLink M.1.cls idx M'.1 ∈ GT ∧ (rmM M').frames + 1 ≤ (rmM M).frames ∧ 8 + (M'.2.2.1 + 11) + (rmM M').locals ≤ (rmM M).locals := by
  simp only [rmOK, Bool.and_eq_true, decide_eq_true_eq] at h
  exact ⟨GT_at h.1 rfl, Nat.le_of_ble_eq_true h.2.1, Nat.le_of_ble_eq_true h.2.2⟩
section EVC
variable {lc : Launch} {G : GG} {M M' : MR} {pc : Nat} {l l' : LV} {st st' : List Value} {σ σ' : St2} {Q : Option Value → St2 → Prop} {is : List RI} {tp tgt nx a1 a3 idx : Nat} {P : Prop} {As rest : List Value}
theorem ev_back {p : Program} {e : Env} {s : State} {m : MethodId} {args : Array Value} {below : List Frame} {meth : Method} {c : Code} {H : Heap} {locs : List Loc} {ls : Array Slot} {st0 : List Value} {a : Array Value} {l : LV}
    (C : Cx G M p s m args meth c) (hS : va_S (Aad G) s.heap H locs) (hl : lv_has ls M.2.2.1 (lvl G l) ∧ l.length = M.2.2.1) (hn : nx = pc + 3)
    (hr : va_Run p lc e (rmM M) s m args below meth c H locs 0 0 0 0 (F0 m pc ls st0) (rest.map (cv G)) (QQ G (fun v τ => Ev lc G M nx l (psh v rest) τ Q) a) (Aad G)) :
    W p lc e (rmM M) s m args below meth c H locs 0 0 (MQ below (QQ G Q) args s 0 0 (Aad G)) (F0 m pc ls st0) := by
  intro T hT X
  obtain ⟨v, st₀, t, T', L, h0, X', hL, e1, e2, ⟨⟨v', τ, hv, hk, hPt⟩, hz, hkk⟩, hst⟩ := hr T hT X
  cases hv
  rw [h0] at hz hkk
  subst hn
  have hS' : va_S (Aad G) s.heap T'.heap (locs ++ L) := ⟨Nat.le_trans hS.1 (by rw [e1]; exact hz), fun q h1 h2 => by rw [e1, hkk q (Nat.lt_of_lt_of_le h1 hS.1) h2]; exact hS.2.1 q h1 h2, fun q hq => by
    rcases List.mem_append.mp hq with h | h
    · exact hS.2.2 q h
    · exact hL q h⟩
  obtain ⟨t2, a1, b1⟩ := hk p e s m args below meth c C T'.heap (locs ++ L) ls (by rw [e1]; exact hPt) hS' hl T' rfl X'
  refine ⟨t2, hst t2 ?_, b1⟩
  have e3 : (psh v' rest).map (cv G) = (v'.map (cv G)).toList ++ rest.map (cv G) := by cases v' <;> rfl
  rw [e3] at a1
  exact a1
theorem ev_cv {id : Nat} (ok : MOK M) (ok' : MOK M') (hf : fnd (blks M) pc = some (is, (tp, .invokevirtual idx, a1, nx, a3))) (hr : exs is l st σ = some (P, l', st', σ')) (hP : P) (hs : spl (npar M' + 1) st' [] = some (.ref id :: As, rest)) (hlk : lkV M M' idx a3 id = true) (hw : Nat.ble (cats rest) 8 = true) (he : Nat.ble (slw (.ref id :: As)) M'.2.2.1 = true)
    (k : Ev lc G M' 0 (ent M'.2.2.1 (.ref id :: As)) [] σ' (fun v τ => Ev lc G M nx l' (psh v rest) τ Q)) : Ev lc G M pc l st σ Q := by
  refine ev_pre ok hf hr hP fun p e s m args below meth c C H locs ls hP hS hl => ?_
  have h2 := (fnd_ok ok hf).2
  simp only [tOK, Bool.and_eq_true, decide_eq_true_eq] at h2
  have hn := Nat.eq_of_beq_eq_true h2.2
  simp only [lkV, Bool.and_eq_true, decide_eq_true_eq] at hlk
  obtain ⟨hroom, hinst, hsel, hrec⟩ := hlk
  obtain ⟨hlink, hfr, hlo⟩ := rmOK_ok hroom
  obtain ⟨hpl, hmh, hdesc, hcode, hini⟩ := kOK_all ok'
  obtain ⟨B, b1, b2, b3⟩ := spl_ok hs
  have hB : B = As.reverse ++ [.ref id] := by
    have := congrArg List.reverse b1
    simpa using this.symm
  have hlen : As.length = npar M' := by
    have := congrArg List.length hB
    simp at this
    omega
  have hts := C.2.2.2.2.2.1
  have hK := C.2.2.2.2.2.2.2.1
  have hrv : ∃ ci fks T N, lay[id]? = some (.inl (ci, fks)) ∧ CLS[ci]? = some (M'.1.cls, T, N) := by
    split at hrec
    · rename_i ci fks h1
      split at hrec
      · rename_i C0 T N h3
        simp only [decide_eq_true_eq] at hrec
        exact ⟨ci, fks, T, N, h1, by rw [h3, hrec]⟩
      · cases hrec
    · cases hrec
  obtain ⟨ci, fks, T, N, hl1, hc1⟩ := hrv
  refine ev_back C hS hl hn (va_runV (Ts := GT) (own := M.1.cls) (C := M'.1.cls) (As := As.map (cv G)) (n := npar M') (b := G.2.2 id) ⟨C.1, C.2.1, C.2.2.2.1, C.2.2.2.2.1, hts⟩ (met_of_ev ok' (Nat.le_of_ble_eq_true he) k) ⟨callB_of (npar M') hts (goodM ok') rfl rfl rfl (hts _ hini) (hts _ hlink) ⟨hmh.1, hmh.2, hdesc⟩ ⟨hfr, hlo⟩, hts _ (GT_at hinst rfl), hts _ (GT_at hsel rfl)⟩
    ⟨Wd_blind G σ' _, va_recv hK hP hc1 (cell_obj hl1), fun U hU hW => ⟨rfl, by rw [hU]; exact hP, va_K.moved hW.alike hK, C.2.2.2.2.2.2.2.2⟩⟩ rfl (by simp [hlen]) hl.1.1 ?_ (lv_room (by rw [cats_eq]; exact Nat.le_of_ble_eq_true hw)) h2.1 ⟨Nat.le_refl _, Nat.le_refl _⟩)
  rw [b2, hB]
  simp [cv]
theorem ev_cs (ok : MOK M) (ok' : MOK M') (hf : fnd (blks M) pc = some (is, (tp, .invokestatic idx, a1, nx, a3))) (hr : exs is l st σ = some (P, l', st', σ')) (hP : P) (hs : spl (npar M') st' [] = some (As, rest)) (hlk : lkS M M' idx a3 = true) (hw : Nat.ble (cats rest) 8 = true) (he : Nat.ble (slw As) M'.2.2.1 = true)
    (k : Ev lc G M' 0 (ent M'.2.2.1 As) [] σ' (fun v τ => Ev lc G M nx l' (psh v rest) τ Q)) : Ev lc G M pc l st σ Q := by
  refine ev_pre ok hf hr hP fun p e s m args below meth c C H locs ls hP hS hl => ?_
  have h2 := (fnd_ok ok hf).2
  simp only [tOK, Bool.and_eq_true, decide_eq_true_eq] at h2
  have hn := Nat.eq_of_beq_eq_true h2.2
  simp only [lkS, Bool.and_eq_true, decide_eq_true_eq] at hlk
  obtain ⟨hroom, hstat⟩ := hlk
  obtain ⟨hlink, hfr, hlo⟩ := rmOK_ok hroom
  obtain ⟨hpl, hmh, hdesc, hcode, hini⟩ := kOK_all ok'
  obtain ⟨B, b1, b2, b3⟩ := spl_ok hs
  have hB : B = As.reverse := by
    have := congrArg List.reverse b1
    simpa using this.symm
  have hlen : As.length = npar M' := by
    have := congrArg List.length hB
    simp at this
    omega
  have hts := C.2.2.2.2.2.1
  have hK := C.2.2.2.2.2.2.2.1
  refine ev_back C hS hl hn (va_runS (Ts := GT) (own := M.1.cls) (As := As.map (cv G)) (n := npar M') ⟨C.1, C.2.1, C.2.2.2.1, C.2.2.2.2.1, hts⟩ (met_of_ev ok' (Nat.le_of_ble_eq_true he) k) ⟨callB_of (npar M') hts (goodM ok') rfl rfl rfl (hts _ hini) (hts _ hlink) ⟨hmh.1, hmh.2, hdesc⟩ ⟨hfr, hlo⟩, hts _ (GT_at hstat rfl)⟩
    ⟨Wd_blind G σ' _, fun U hU hW => ⟨rfl, by rw [hU]; exact hP, va_K.moved hW.alike hK, C.2.2.2.2.2.2.2.2⟩⟩ rfl (by simp [hlen]) hl.1.1 ?_ (lv_room (by rw [cats_eq]; exact Nat.le_of_ble_eq_true hw)) h2.1 ⟨Nat.le_refl _, Nat.le_refl _⟩)
  rw [b2, hB]
  simp
end EVC
