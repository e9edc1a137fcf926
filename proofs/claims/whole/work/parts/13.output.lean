/-! ===== THE OUTPUT (the class's) ===== -/
def emit (o x : List Nat) : List Nat := (o ++ x).take 20000
theorem emit_len (o x : List Nat) : (emit o x).length ≤ 20000 := by unfold emit; rw [List.length_take]; omega
theorem emit_nil {o : List Nat} (h : o.length ≤ 20000) : emit o [] = o := by
  unfold emit; rw [List.append_nil, List.take_of_length_le h]
theorem emit_emit (o x y : List Nat) : emit (emit o x) y = emit o (x ++ y) := by
  unfold emit
  by_cases h : (o ++ x).length ≤ 20000
  · rw [List.take_of_length_le h, List.append_assoc]
  · have e1 : ((o ++ x).take 20000 ++ y).take 20000 = ((o ++ x).take 20000).take 20000 := List.take_append_of_le_length (by rw [List.length_take]; omega)
    have e2 : (o ++ x ++ y).take 20000 = (o ++ x).take 20000 := List.take_append_of_le_length (by omega)
    rw [e1, ← List.append_assoc, e2, List.take_take, Nat.min_self]
theorem emit_full {o : List Nat} {b : Nat} (h : o.length = 20000) : emit o [b] = o := by
  unfold emit; rw [List.take_append_of_le_length (by omega), List.take_of_length_le (by omega)]
theorem emit_room {o : List Nat} {b : Nat} (h : o.length < 20000) : emit o [b] = o ++ [b] := by
  unfold emit; rw [List.take_of_length_le (by simp; omega)]
def OutAt (σ : St2) (o : List Nat) : Prop := o.length ≤ 20000 ∧ σ.1 5 1 = nI o.length ∧ RowAt σ 6 o
theorem OutAt.fr {S : List Nat} {σ σ' : St2} {o : List Nat} (h : OutAt σ o) (hf : Fr S σ σ') (h1 : 5 ∉ S) (h2 : 6 ∉ S) : OutAt σ' o := ⟨h.1, by rw [hf.a1 h1]; exact h.2.1, h.2.2.fr hf h2⟩
/-- an Int32 is below 0, or the name of a number -/
theorem i32_cases (n : Int32) : (n < 0 ∧ n.toNatClampNeg = 0) ∨ (n.toNatClampNeg < 2 ^ 31 ∧ n = nI n.toNatClampNeg) := by
  by_cases h : n < 0
  · left
    refine ⟨h, ?_⟩
    have : n.toInt < 0 := by simpa [Int32.lt_iff_toInt_lt] using h
    unfold Int32.toNatClampNeg
    omega
  · right
    obtain ⟨j, hj, rfl⟩ := nI_of h
    rw [nI_cl hj]
    exact ⟨hj, rfl⟩
section OU
variable {lc : Launch} {G : GG} {σ : St2} {Q : Option Value → St2 → Prop} {o : List Nat}
theorem sp_put (ho : OutAt σ o) {b : Nat} (hb : b < 128) (k : ∀ σ', OutAt σ' (emit o [b]) → Fr [5, 6] σ σ' → Q none σ') : Ev lc G mOu_put 0 [some (.ref 5), some (.int (nI b))] [] σ Q := by
  obtain ⟨h1, h2, h3⟩ := ho
  refine ev_ic_ge okOu_put rfl rfl trivial (fun h => ?_) (fun h => ?_)
  · rw [h2] at h
    have e : o.length = 20000 := Nat.le_antisymm h1 ((nI_leI (by decide) (by omega)).mp h)
    rw [emit_full e] at k
    exact ev_rv okOu_put rfl rfl trivial rfl (k σ ⟨h1, h2, h3⟩ Fr.rf)
  · rw [h2] at h
    have hl : o.length < 20000 := (Nat.lt_or_ge o.length 20000).resolve_right (fun q => h (nI_le q (by omega)))
    rw [emit_room hl] at k
    refine ev_nop okOu_put rfl rfl ⟨by rw [h2]; exact vp_nI hl (by decide), trivial⟩ (ev_rv okOu_put rfl rfl trivial rfl ?_)
    refine k _ ⟨by simp; omega, ?_, RowAt.push h3 ?_ fun j hj => ?_⟩ ?_
    · simp [up2, h2, nI_add]
    · simp [up2, h2, nI_cl (show o.length < 2 ^ 31 by omega), nI_byte hb]
    · simp [up2, h2, nI_cl (show o.length < 2 ^ 31 by omega), Nat.ne_of_lt hj]
    · exact Fr.tr (Fr.u1 (by decide)) (Fr.u1 (σ := (_, _)) (by decide))
theorem lp_repeat {b N : Nat} (hb : b < 128) (hN : N < 2 ^ 31) : ∀ (m i : Nat) (σ : St2) (o : List Nat), i + m = N → OutAt σ o → (∀ σ', OutAt σ' (emit o (List.replicate m b)) → Fr [5, 6] σ σ' → Q none σ') → Ev lc G mOu_repeat 2 [some (.ref 5), some (.int (nI b)), some (.int (nI N)), some (.int (nI i))] [] σ Q := by
  intro m
  induction m with
  | zero =>
    intro i σ o hi ho k
    rw [List.replicate_zero, emit_nil ho.1] at k
    exact ev_ic_ge okOu_repeat rfl rfl trivial (fun h => ev_rv okOu_repeat rfl rfl trivial rfl (k σ ho Fr.rf)) (fun h => absurd (nI_le (by omega) (by omega)) h)
  | succ m ih =>
    intro i σ o hi ho k
    refine ev_ic_ge okOu_repeat rfl rfl trivial (fun h => absurd h (nI_ge (by omega) hN)) (fun h => ?_)
    refine ev_cv okOu_repeat okOu_put rfl rfl trivial rfl (by decide +kernel) rfl rfl (sp_put ho hb fun σ1 h1 h2 => ?_)
    refine ev_goto okOu_repeat rfl rfl trivial ?_
    rw [nI_add]
    refine ih (i + 1) σ1 _ (by omega) h1 (fun σ' q1 q2 => k σ' ?_ (h2.tr q2))
    rw [emit_emit] at q1
    exact q1
theorem sp_repeat (ho : OutAt σ o) {b : Nat} (hb : b < 128) (n : Int32) (k : ∀ σ', OutAt σ' (emit o (List.replicate n.toNatClampNeg b)) → Fr [5, 6] σ σ' → Q none σ') : Ev lc G mOu_repeat 0 [some (.ref 5), some (.int (nI b)), some (.int n), none] [] σ Q := by
  refine ev_nop okOu_repeat rfl rfl trivial ?_
  rcases i32_cases n with ⟨h1, h2⟩ | ⟨h1, h2⟩
  · rw [h2, List.replicate_zero, emit_nil ho.1] at k
    refine ev_ic_ge okOu_repeat rfl rfl trivial (fun h => ev_rv okOu_repeat rfl rfl trivial rfl (k σ ho Fr.rf)) (fun h => absurd ?_ h)
    exact Int32.le_of_lt h1
  · rw [h2]
    exact lp_repeat hb h1 _ 0 σ o (by omega) ho k
/-- bytes, underlined or not -/
def und (u : Nat) (y : List Nat) : List Nat := y.flatMap (fun b => if u = 0 ∨ b = 32 then [b] else [95, 8, b])
theorem und_cons (u b : Nat) (y : List Nat) : und u (b :: y) = (if u = 0 ∨ b = 32 then [b] else [95, 8, b]) ++ und u y := by simp [und]
theorem lp_putBytes {c u E : Nat} {x : List Nat} (hc : (c = 2 ∧ E ≤ 100) ∨ (c = 13 ∧ E ≤ 8000)) (hE : E ≤ x.length) (hu : u < 2) (hb : ∀ b ∈ x, b < 128) : ∀ (m i : Nat) (σ : St2) (o : List Nat), i + m = E → RowAt σ c x → OutAt σ o → (∀ σ', OutAt σ' (emit o (und u ((x.take E).drop i))) → Fr [5, 6] σ σ' → Q none σ') → Ev lc G mOu_putBytes 7 [some (.ref 5), some (.ref c), none, some (.int (nI E)), some (.int (nI u)), some (.int (nI i))] [] σ Q := by
  intro m
  induction m with
  | zero =>
    intro i σ o hi hx ho k
    rw [td_nil (by omega), show und u [] = [] from rfl, emit_nil ho.1] at k
    rcases hc with ⟨rfl, hc⟩ | ⟨rfl, hc⟩ <;> exact ev_ic_ge okOu_putBytes rfl rfl trivial (fun h => ev_rv okOu_putBytes rfl rfl trivial rfl (k σ ho Fr.rf)) (fun h => absurd (nI_le (by omega) (by omega)) h)
  | succ m ih =>
    intro i σ o hi hx ho k
    have hlt : i < E := by omega
    have hbb := getD_lt (j := i) hb (by decide)
    have hv : σ.1 c (nI i).toNatClampNeg = nI (x.getD i 0) := by
      have : E ≤ 8000 := by rcases hc with ⟨-, h⟩ | ⟨-, h⟩ <;> omega
      rw [nI_cl (by omega)]; exact hx i (by omega)
    rw [td_cons hlt hE, und_cons] at k
    -- what comes behind this byte
    have step : ∀ (σ1 : St2) (o1 : List Nat), OutAt σ1 o1 → RowAt σ1 c x → Fr [5, 6] σ σ1 → emit o1 ([x.getD i 0] ++ und u ((x.take E).drop (i + 1))) = emit o ((if u = 0 ∨ x.getD i 0 = 32 then [x.getD i 0] else [95, 8, x.getD i 0]) ++ und u ((x.take E).drop (i + 1))) → Ev lc G mOu_putBytes 46 [some (.ref 5), some (.ref c), none, some (.int (nI E)), some (.int (nI u)), some (.int (nI i))] [] σ1 Q := by
      intro σ1 o1 h1 h2 h3 h4
      have hv1 : σ1.1 c (nI i).toNatClampNeg = nI (x.getD i 0) := by
        rw [h3.a1 (by rcases hc with ⟨rfl, -⟩ | ⟨rfl, -⟩ <;> decide)]; exact hv
      have fin : ∀ σ2, OutAt σ2 (emit o1 [x.getD i 0]) → Fr [5, 6] σ1 σ2 → Ev lc G mOu_putBytes 54 [some (.ref 5), some (.ref c), none, some (.int (nI E)), some (.int (nI u)), some (.int (nI i))] [] σ2 Q := by
        intro σ2 q1 q2
        refine ev_goto okOu_putBytes rfl rfl trivial ?_
        rw [nI_add]
        refine ih (i + 1) σ2 _ (by omega) (h2.fr q2 (by rcases hc with ⟨rfl, -⟩ | ⟨rfl, -⟩ <;> decide)) q1 (fun σ' r1 r2 => k σ' ?_ ((h3.tr q2).tr r2))
        rw [emit_emit, h4] at r1
        exact r1
      rcases hc with ⟨rfl, hc⟩ | ⟨rfl, hc⟩ <;> (
        refine ev_cv okOu_putBytes okOu_put rfl rfl ⟨vp_nI (by omega) (by decide), trivial⟩ rfl (by decide +kernel) rfl rfl ?_
        rw [hv1]
        exact sp_put h1 hbb fin)
    rcases hc with ⟨rfl, hc'⟩ | ⟨rfl, hc'⟩ <;> (
      refine ev_ic_ge okOu_putBytes rfl rfl trivial (fun h => absurd h (nI_ge hlt (by omega))) (fun h => ?_)
      refine ev_ic_ge okOu_putBytes rfl rfl trivial (fun h => absurd h (nI_ge (by omega) (by decide))) (fun h => ?_)
      refine ev_if_eq okOu_putBytes rfl rfl trivial (fun h => ?_) (fun h => ?_)
      · have e : u = 0 := (nI_eq (by omega) (by decide)).mp h
        exact step σ o ho hx Fr.rf (by rw [if_pos (Or.inl e)])
      · have e : ¬ u = 0 := fun q => h (by rw [q]; rfl)
        refine ev_ic_eq okOu_putBytes rfl rfl ⟨vp_nI (by omega) (by decide), trivial⟩ (fun g => ?_) (fun g => ?_)
        · rw [hv] at g
          exact step σ o ho hx Fr.rf (by rw [if_pos (Or.inr ((nI_eq (by omega) (by decide)).mp g))])
        · rw [hv] at g
          have e2 : ¬ x.getD i 0 = 32 := fun q => g (by rw [q])
          refine ev_cv okOu_putBytes okOu_put rfl rfl trivial rfl (by decide +kernel) rfl rfl (sp_put ho (by decide) fun σ1 h1 h2 => ?_)
          refine ev_cv okOu_putBytes okOu_put rfl rfl trivial rfl (by decide +kernel) rfl rfl (sp_put h1 (by decide) fun σ2 h3 h4 => ?_)
          refine step σ2 _ h3 (hx.fr (h2.tr h4) (by decide)) (h2.tr h4) ?_
          rw [if_neg (by rintro (q | q); exact e q; exact e2 q), emit_emit, emit_emit]
          rfl)
theorem sp_putBytes {c u E B : Nat} {x : List Nat} (hc : (c = 2 ∧ E ≤ 100) ∨ (c = 13 ∧ E ≤ 8000)) (hE : E ≤ x.length) (hB : B ≤ E) (hu : u < 2) (hb : ∀ b ∈ x, b < 128) (hx : RowAt σ c x) (ho : OutAt σ o) (k : ∀ σ', OutAt σ' (emit o (und u ((x.take E).drop B))) → Fr [5, 6] σ σ' → Q none σ') : Ev lc G mOu_putBytes 0 [some (.ref 5), some (.ref c), some (.int (nI B)), some (.int (nI E)), some (.int (nI u)), none] [] σ Q := by
  have hB2 : E ≤ 8000 := by rcases hc with ⟨-, h⟩ | ⟨-, h⟩ <;> omega
  refine ev_max okOu_putBytes rfl rfl trivial (by decide +kernel) rfl ?_
  have e : (if nI 0 < nI B then nI B else nI 0) = nI B := by
    by_cases q : 0 < B
    · rw [if_pos (nI_lt q (by omega))]
    · have : B = 0 := by omega
      subst this
      simp
  rw [e]
  refine ev_nop okOu_putBytes rfl rfl trivial ?_
  have key := lp_putBytes (lc := lc) (G := G) (Q := Q) hc hE hu hb (E - B) B σ o (by omega) hx ho k
  rcases hc with ⟨rfl, hc⟩ | ⟨rfl, hc⟩ <;> exact ev_lv [some (.ref 5), some (.ref _), none, some (.int (nI E)), some (.int (nI u)), some (.int (nI B))] ⟨rfl, rfl, rfl, rfl, rfl, trivial⟩ key
end OU
