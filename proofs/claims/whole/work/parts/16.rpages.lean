/-! ===== the reference: output, titles ===== -/
/-- nothing but the cells S, and of the reference's own fields F, has changed -/
def Fq (S F : List Nat) (σ σ' : St2) : Prop := (∀ c, c ∉ S → c ≠ 22 → σ'.1 c = σ.1 c ∧ σ'.2 c = σ.2 c) ∧ ∀ f, f ∉ F → σ'.1 22 f = σ.1 22 f ∧ σ'.2 22 f = σ.2 22 f
theorem Fq.rf {S F : List Nat} {σ : St2} : Fq S F σ σ := ⟨fun _ _ _ => ⟨rfl, rfl⟩, fun _ _ => ⟨rfl, rfl⟩⟩
theorem Fq.tr {S F : List Nat} {a b c : St2} (h1 : Fq S F a b) (h2 : Fq S F b c) : Fq S F a c :=
  ⟨fun q hq hn => ⟨(h2.1 q hq hn).1.trans (h1.1 q hq hn).1, (h2.1 q hq hn).2.trans (h1.1 q hq hn).2⟩, fun f hf => ⟨(h2.2 f hf).1.trans (h1.2 f hf).1, (h2.2 f hf).2.trans (h1.2 f hf).2⟩⟩
theorem Fq.wk {S F S' F' : List Nat} {a b : St2} (h : Fq S F a b) (hs : ∀ c ∈ S, c ∈ S') (hf : ∀ c ∈ F, c ∈ F') : Fq S' F' a b := ⟨fun q hq hn => h.1 q (fun z => hq (hs q z)) hn, fun f z => h.2 f (fun w => z (hf f w))⟩
theorem Fq.u1 {S F : List Nat} {σ : St2} {c k : Nat} {x : Int32} (h : c ∈ S) (hc : c ≠ 22) : Fq S F σ (up2 σ.1 c k x, σ.2) := ⟨fun q hq _ => ⟨up2_ne _ _ _ (fun e => hq (e ▸ h)), rfl⟩, fun f _ => ⟨by show up2 σ.1 c k x 22 f = _; rw [up2_ne _ _ _ (Ne.symm hc)], rfl⟩⟩
theorem Fq.u2 {S F : List Nat} {σ : St2} {c k : Nat} {x : Int64} (h : c ∈ S) (hc : c ≠ 22) : Fq S F σ (σ.1, up2 σ.2 c k x) := ⟨fun q hq _ => ⟨rfl, up2_ne _ _ _ (fun e => hq (e ▸ h))⟩, fun f _ => ⟨rfl, by show up2 σ.2 c k x 22 f = _; rw [up2_ne _ _ _ (Ne.symm hc)]⟩⟩
theorem Fq.f1 {S F : List Nat} {σ : St2} {k : Nat} {x : Int32} (h : k ∈ F) : Fq S F σ (up2 σ.1 22 k x, σ.2) := ⟨fun q _ hn => ⟨up2_ne _ _ _ hn, rfl⟩, fun f hf => ⟨by show up2 σ.1 22 k x 22 f = _; rw [up2_col _ _ _ (fun e => hf (by rw [e]; exact h))], rfl⟩⟩
theorem Fq.f2 {S F : List Nat} {σ : St2} {k : Nat} {x : Int64} (h : k ∈ F) : Fq S F σ (σ.1, up2 σ.2 22 k x) := ⟨fun q _ hn => ⟨rfl, up2_ne _ _ _ hn⟩, fun f hf => ⟨rfl, by show up2 σ.2 22 k x 22 f = _; rw [up2_col _ _ _ (fun e => hf (by rw [e]; exact h))]⟩⟩
theorem Fq.a1 {S F : List Nat} {σ σ' : St2} {c : Nat} (h : Fq S F σ σ') (hc : c ∉ S) (hn : c ≠ 22) : σ'.1 c = σ.1 c := (h.1 c hc hn).1
theorem Fq.a2 {S F : List Nat} {σ σ' : St2} {c : Nat} (h : Fq S F σ σ') (hc : c ∉ S) (hn : c ≠ 22) : σ'.2 c = σ.2 c := (h.1 c hc hn).2
theorem Fq.g1 {S F : List Nat} {σ σ' : St2} {f : Nat} (h : Fq S F σ σ') (hf : f ∉ F) : σ'.1 22 f = σ.1 22 f := (h.2 f hf).1
theorem Fq.g2 {S F : List Nat} {σ σ' : St2} {f : Nat} (h : Fq S F σ σ') (hf : f ∉ F) : σ'.2 22 f = σ.2 22 f := (h.2 f hf).2
theorem RowAt.fq {S F : List Nat} {σ σ' : St2} {c : Nat} {x : List Nat} (h : RowAt σ c x) (hf : Fq S F σ σ') (hc : c ∉ S) (hn : c ≠ 22) : RowAt σ' c x := fun j hj => by rw [hf.a1 hc hn]; exact h j hj
/-- a list of the reference: its size in the field f, its numbers in the cell c, of at most n -/
def LstR (σ : St2) (f c n : Nat) (x : List Nat) : Prop := x.length ≤ n ∧ σ.1 22 f = nI x.length ∧ RowAt σ c x
theorem LstR.fq {S F : List Nat} {σ σ' : St2} {f c n : Nat} {x : List Nat} (h : LstR σ f c n x) (hf : Fq S F σ σ') (h1 : f ∉ F) (hc : c ∉ S) (hn : c ≠ 22) : LstR σ' f c n x := ⟨h.1, by rw [hf.g1 h1]; exact h.2.1, h.2.2.fq hf hc hn⟩
section RP
variable {lc : Launch} {G : GG} {σ : St2} {Q : Option Value → St2 → Prop} {o : List Nat}
theorem sp_in {v lo hi : Int32} (k : Q (some (.int (b2 (decide (lo ≤ v ∧ v ≤ hi))))) σ) : Ev lc G mMd_in 0 [some (.int v), some (.int lo), some (.int hi)] [] σ Q := by
  refine ev_ic_lt okMd_in rfl rfl trivial (fun h => ?_) (fun h => ?_)
  · rw [decide_eq_false (fun q => absurd h (Int32.not_lt.mpr q.1))] at k
    exact ev_nop okMd_in rfl rfl trivial (ev_rz okMd_in rfl rfl trivial rfl (Or.inl rfl) k)
  · refine ev_ic_gt okMd_in rfl rfl trivial (fun g => ?_) (fun g => ?_)
    · rw [decide_eq_false (fun q => absurd g (Int32.not_lt.mpr q.2))] at k
      exact ev_nop okMd_in rfl rfl trivial (ev_rz okMd_in rfl rfl trivial rfl (Or.inl rfl) k)
    · rw [decide_eq_true ⟨Int32.not_lt.mp h, Int32.not_lt.mp g⟩] at k
      exact ev_goto okMd_in rfl rfl trivial (ev_rz okMd_in rfl rfl trivial rfl (Or.inr rfl) k)
abbrev OutR (σ : St2) (o : List Nat) : Prop := LstR σ 24 40 20000 o
theorem sp_give (ho : OutR σ o) {b : Nat} (k : ∀ σ', OutR σ' (emit o [b]) → Fq [40] [24] σ σ' → Q none σ') : Ev lc G mMd_give 0 [some (.ref 22), some (.int (nI b))] [] σ Q := by
  obtain ⟨h1, h2, h3⟩ := ho
  refine ev_ic_ge okMd_give rfl rfl trivial (fun h => ?_) (fun h => ?_)
  · rw [h2] at h
    have e : o.length = 20000 := Nat.le_antisymm h1 ((nI_leI (by decide) (by omega)).mp h)
    rw [emit_full e] at k
    exact ev_rv okMd_give rfl rfl trivial rfl (k σ ⟨h1, h2, h3⟩ Fq.rf)
  · rw [h2] at h
    have hl : o.length < 20000 := (Nat.lt_or_ge o.length 20000).resolve_right (fun q => h (nI_le q (by omega)))
    rw [emit_room hl] at k
    refine ev_nop okMd_give rfl rfl ⟨by rw [h2]; exact vp_nI hl (by decide), trivial⟩ (ev_rv okMd_give rfl rfl trivial rfl ?_)
    refine k _ ⟨by simp; omega, ?_, RowAt.push h3 ?_ fun j hj => ?_⟩ ?_
    · simp [up2, h2, nI_add]
    · simp [up2, h2, nI_cl (show o.length < 2 ^ 31 by omega)]
    · simp [up2, h2, nI_cl (show o.length < 2 ^ 31 by omega), Nat.ne_of_lt hj]
    · exact Fq.tr (Fq.u1 (by decide) (by decide)) (Fq.f1 (σ := (_, _)) (by decide))
theorem lp_giveMany {b N : Nat} (hN : N < 2 ^ 31) : ∀ (m i : Nat) (σ : St2) (o : List Nat), i + m = N → OutR σ o → (∀ σ', OutR σ' (emit o (List.replicate m b)) → Fq [40] [24] σ σ' → Q none σ') → Ev lc G mMd_giveMany 2 [some (.ref 22), some (.int (nI b)), some (.int (nI N)), some (.int (nI i))] [] σ Q := by
  intro m
  induction m with
  | zero =>
    intro i σ o hi ho k
    rw [List.replicate_zero, emit_nil ho.1] at k
    exact ev_ic_ge okMd_giveMany rfl rfl trivial (fun h => ev_rv okMd_giveMany rfl rfl trivial rfl (k σ ho Fq.rf)) (fun h => absurd (nI_le (by omega) (by omega)) h)
  | succ m ih =>
    intro i σ o hi ho k
    refine ev_ic_ge okMd_giveMany rfl rfl trivial (fun h => absurd h (nI_ge (by omega) hN)) (fun h => ?_)
    refine ev_cv okMd_giveMany okMd_give rfl rfl trivial rfl (by decide +kernel) rfl rfl (sp_give ho fun σ1 h1 h2 => ?_)
    refine ev_goto okMd_giveMany rfl rfl trivial ?_
    rw [nI_add]
    refine ih (i + 1) σ1 _ (by omega) h1 (fun σ' q1 q2 => k σ' ?_ (h2.tr q2))
    rw [emit_emit] at q1
    exact q1
theorem sp_giveMany (ho : OutR σ o) {b : Nat} (n : Int32) (k : ∀ σ', OutR σ' (emit o (List.replicate n.toNatClampNeg b)) → Fq [40] [24] σ σ' → Q none σ') : Ev lc G mMd_giveMany 0 [some (.ref 22), some (.int (nI b)), some (.int n), none] [] σ Q := by
  refine ev_nop okMd_giveMany rfl rfl trivial ?_
  rcases i32_cases n with ⟨h1, h2⟩ | ⟨h1, h2⟩
  · rw [h2, List.replicate_zero, emit_nil ho.1] at k
    refine ev_ic_ge okMd_giveMany rfl rfl trivial (fun h => ev_rv okMd_giveMany rfl rfl trivial rfl (k σ ho Fq.rf)) (fun h => absurd ?_ h)
    exact Int32.le_of_lt h1
  · rw [h2]
    exact lp_giveMany h1 _ 0 σ o (by omega) ho k
/-- all digits from the e-th on -/
def dgr (p : Nat) : Nat → List Nat
  | 0 => [48 + p % 10]
  | e + 1 => [48 + p / 10 ^ (e + 1) % 10] ++ dgr p e
theorem dg_low {p : Nat} : ∀ e, (e = 0 ∨ 10 ^ e ≤ p) → dg p e = dgr p e
  | 0, _ => rfl
  | e + 1, h => by
    have h1 : 10 ^ (e + 1) ≤ p := h.resolve_left (by omega)
    have h2 : 10 ^ e ≤ p := by rw [Nat.pow_succ] at h1; omega
    rw [dg, dgr, if_pos h1, dg_low e (Or.inr h2)]
theorem dg_high {p e : Nat} (h : p < 10 ^ (e + 1)) (h0 : e = 0 ∨ 10 ^ e ≤ p) : ∀ d, dg p (e + d) = dgr p e
  | 0 => dg_low e h0
  | d + 1 => by
    have : 10 ^ (e + 1) ≤ 10 ^ (e + d + 1) := Nat.pow_le_pow_right (by decide) (by omega)
    rw [show e + (d + 1) = (e + d) + 1 by omega, dg, if_neg (by omega), dg_high h h0 d]
    rfl
theorem lp_num2 {p : Nat} (hp : p < 2 ^ 31) : ∀ (e : Nat) (σ : St2) (o : List Nat), e ≤ 9 → OutR σ o → (∀ σ', OutR σ' (emit o (dgr p e)) → Fq [40] [24] σ σ' → Q none σ') → Ev lc G mMd_giveNumber 18 [some (.ref 22), some (.int (nI p)), some (.int (nI (10 ^ e)))] [] σ Q := by
  intro e
  induction e with
  | zero =>
    intro σ o he ho k
    refine ev_if_le okMd_giveNumber rfl rfl trivial (fun h => absurd h (by decide)) (fun h => ?_)
    refine ev_cv okMd_giveNumber okMd_give rfl rfl ⟨by decide, by decide, trivial⟩ rfl (by decide +kernel) rfl rfl ?_
    rw [show (10 : Nat) ^ 0 = 1 from rfl, pk_div hp (by decide) (by decide), Nat.div_one, pk_rem hp (by decide) (by decide), nI_add]
    refine sp_give ho fun σ1 h1 h2 => ?_
    refine ev_goto okMd_giveNumber rfl rfl ⟨by decide, trivial⟩ ?_
    exact ev_if_le okMd_giveNumber rfl rfl trivial (fun h => ev_rv okMd_giveNumber rfl rfl trivial rfl (k σ1 h1 h2)) (fun h => absurd (by decide) h)
  | succ e ih =>
    intro σ o he ho k
    have h9 := pow9 he
    have h0 : 0 < 10 ^ (e + 1) := Nat.pos_of_ne_zero (by simp)
    have hne : ¬ nI (10 ^ (e + 1)) = 0 := nI_ne0 h0 (by omega)
    have hdiv : nI (10 ^ (e + 1)) / nI 10 = nI (10 ^ e) := by
      rw [pk_div (by omega) (by decide) (by decide), Nat.pow_succ, Nat.mul_div_cancel _ (by decide)]
    have hq : p / 10 ^ (e + 1) < 2 ^ 31 := Nat.lt_of_le_of_lt (Nat.div_le_self _ _) hp
    refine ev_if_le okMd_giveNumber rfl rfl trivial (fun h => absurd h (nI_nle h0 (by omega))) (fun h => ?_)
    refine ev_cv okMd_giveNumber okMd_give rfl rfl ⟨hne, by decide, trivial⟩ rfl (by decide +kernel) rfl rfl ?_
    rw [pk_div hp h0 (by omega), pk_rem hq (by decide) (by decide), nI_add]
    refine sp_give ho fun σ1 h1 h2 => ?_
    refine ev_goto okMd_giveNumber rfl rfl ⟨by decide, trivial⟩ ?_
    rw [hdiv]
    exact ih σ1 _ (by omega) h1 (fun σ' q1 q2 => k σ' (by rw [emit_emit] at q1; exact q1) (h2.tr q2))
theorem lp_num1 {p : Nat} (hp : p < 2 ^ 31) (ho : OutR σ o) (k : ∀ σ', OutR σ' (emit o (dg p 9)) → Fq [40] [24] σ σ' → Q none σ') : ∀ (m e : Nat), e + m = 9 → (e = 0 ∨ 10 ^ e ≤ p) → Ev lc G mMd_giveNumber 2 [some (.ref 22), some (.int (nI p)), some (.int (nI (10 ^ e)))] [] σ Q := by
  intro m
  have hstep : ∀ e, e ≤ 9 → (e = 0 ∨ 10 ^ e ≤ p) → p / 10 ^ e ≤ 9 → Ev lc G mMd_giveNumber 18 [some (.ref 22), some (.int (nI p)), some (.int (nI (10 ^ e)))] [] σ Q := by
    intro e he h0 hle
    have hpos : 0 < 10 ^ e := Nat.pos_of_ne_zero (by simp)
    have hlt : p < 10 ^ (e + 1) := by
      rw [Nat.pow_succ, Nat.mul_comm]
      have := Nat.lt_mul_of_div_lt (show p / 10 ^ e < 10 by omega) hpos
      exact this
    refine lp_num2 hp e σ o he ho ?_
    have := dg_high hlt h0 (9 - e)
    rw [show e + (9 - e) = 9 by omega] at this
    rw [← this]
    exact k
  induction m with
  | zero =>
    intro e he h0
    have e9 : e = 9 := by omega
    subst e9
    have hle : p / 10 ^ 9 ≤ 9 := by omega
    refine ev_ic_le okMd_giveNumber rfl rfl ⟨by decide, trivial⟩ (fun h => hstep 9 (by omega) h0 hle) (fun h => absurd ?_ h)
    rw [pk_div hp (by decide) (by decide)]
    exact nI_le hle (by decide)
  | succ m ih =>
    intro e he h0
    have h9 := pow9 (show e ≤ 9 by omega)
    have hpos : 0 < 10 ^ e := Nat.pos_of_ne_zero (by simp)
    have hq : p / 10 ^ e < 2 ^ 31 := Nat.lt_of_le_of_lt (Nat.div_le_self _ _) hp
    refine ev_ic_le okMd_giveNumber rfl rfl ⟨nI_ne0 hpos (by omega), trivial⟩ (fun h => ?_) (fun h => ?_)
    · rw [pk_div hp hpos (by omega)] at h
      exact hstep e (by omega) h0 ((nI_leI hq (by decide)).mp h)
    · rw [pk_div hp hpos (by omega)] at h
      have hg : 9 < p / 10 ^ e := by
        rcases Nat.lt_or_ge 9 (p / 10 ^ e) with q | q
        · exact q
        · exact absurd (nI_le q (by decide)) h
      refine ev_goto okMd_giveNumber rfl rfl trivial ?_
      rw [pk_mul, Nat.mul_comm, ← Nat.pow_succ]
      refine ih (e + 1) (by omega) (Or.inr ?_)
      rw [Nat.pow_succ, Nat.mul_comm]
      exact (Nat.le_div_iff_mul_le hpos).mp (show 10 ≤ p / 10 ^ e by omega)
theorem sp_giveNumber {p : Nat} (hp : p < 2 ^ 31) (ho : OutR σ o) (k : ∀ σ', OutR σ' (emit o (dg p 9)) → Fq [40] [24] σ σ' → Q none σ') : Ev lc G mMd_giveNumber 0 [some (.ref 22), some (.int (nI p)), none] [] σ Q :=
  ev_nop okMd_giveNumber rfl rfl trivial (lp_num1 hp ho k 9 0 rfl (Or.inl rfl))
theorem lp_giveTitle {c p : Nat} (hc : c = 41 ∨ c = 42) (hp : p < 2 ^ 31) {x : List Nat} (h100 : x.length ≤ 100) (hb : ∀ b ∈ x, b < 128) : ∀ (m i : Nat) (σ : St2) (o : List Nat), i + m = x.length → RowAt σ c x → σ.1 22 35 = nI p → OutR σ o → (∀ σ', OutR σ' (emit o ((x.drop i).flatMap (fun b => if b = 35 then dg p 9 else [b]) ++ [10, 10])) → Fq [40] [24] σ σ' → Q none σ') → Ev lc G mMd_giveTitle 8 [some (.ref 22), some (.ref c), some (.int (nI x.length)), some (.int (nI i))] [] σ Q := by
  intro m
  induction m with
  | zero =>
    intro i σ o hi hx hpg ho k
    rw [List.drop_eq_nil_of_le (by omega)] at k
    rcases hc with rfl | rfl <;> (
      refine ev_ic_ge okMd_giveTitle rfl rfl trivial (fun h => ?_) (fun h => absurd (nI_le (by omega) (by omega)) h)
      refine ev_cv okMd_giveTitle okMd_give rfl rfl trivial rfl (by decide +kernel) rfl rfl (sp_give ho fun σ1 h1 h2 => ?_)
      refine ev_cv okMd_giveTitle okMd_give rfl rfl trivial rfl (by decide +kernel) rfl rfl (sp_give h1 fun σ2 h3 h4 => ?_)
      refine ev_rv okMd_giveTitle rfl rfl trivial rfl (k σ2 ?_ (h2.tr h4))
      rw [emit_emit] at h3
      exact h3)
  | succ m ih =>
    intro i σ o hi hx hpg ho k
    have hlt : i < x.length := by omega
    have hbb := getD_lt (j := i) hb (by decide)
    have hv : σ.1 c (nI i).toNatClampNeg = nI (x.getD i 0) := by rw [nI_cl (by omega)]; exact hx i hlt
    rw [List.drop_eq_getElem_cons hlt, List.flatMap_cons, ← gD hlt] at k
    have next : ∀ (σ1 : St2) (o1 : List Nat), OutR σ1 o1 → Fq [40] [24] σ σ1 → o1 = emit o (if x.getD i 0 = 35 then dg p 9 else [x.getD i 0]) → Ev lc G mMd_giveTitle 39 [some (.ref 22), some (.ref c), some (.int (nI x.length)), some (.int (nI i))] [] σ1 Q := by
      intro σ1 o1 h1 h2 h3
      have key := ih (i + 1) σ1 o1 (by omega) (hx.fq h2 (by rcases hc with rfl | rfl <;> decide) (by rcases hc with rfl | rfl <;> decide)) (by rw [h2.g1 (by decide)]; exact hpg) h1 (fun σ' q1 q2 => k σ' (by rw [h3, emit_emit, ← List.append_assoc] at q1; exact q1) (h2.tr q2))
      rcases hc with rfl | rfl <;> (
        refine ev_goto okMd_giveTitle rfl rfl trivial ?_
        rw [nI_add]
        exact key)
    rcases hc with rfl | rfl <;> (
      refine ev_ic_ge okMd_giveTitle rfl rfl trivial (fun h => absurd h (nI_ge hlt (by omega))) (fun h => ?_)
      refine ev_ic_ne okMd_giveTitle rfl rfl ⟨vp_nI (by omega) (by decide), trivial⟩ (fun g => ?_) (fun g => ?_)
      · rw [hv] at g
        have e : ¬ x.getD i 0 = 35 := fun q => g (by rw [q])
        refine ev_cv okMd_giveTitle okMd_give rfl rfl ⟨vp_nI (by omega) (by decide), trivial⟩ rfl (by decide +kernel) rfl rfl ?_
        rw [hv]
        exact sp_give ho fun σ1 h1 h2 => next σ1 _ h1 h2 (by rw [if_neg e])
      · rw [hv] at g
        have e : x.getD i 0 = 35 := (nI_eq (by omega) (by decide)).mp g
        refine ev_cv okMd_giveTitle okMd_giveNumber rfl rfl trivial rfl (by decide +kernel) rfl rfl ?_
        rw [hpg]
        exact sp_giveNumber hp ho fun σ1 h1 h2 => ev_goto okMd_giveTitle rfl rfl trivial (next σ1 _ h1 h2 (by rw [if_pos e])))
theorem sp_giveTitle {c p : Nat} (hc : c = 41 ∨ c = 42) (hp : p < 2 ^ 31) {x : List Nat} (h100 : x.length ≤ 100) (hb : ∀ b ∈ x, b < 128) (hx : RowAt σ c x) (hpg : σ.1 22 35 = nI p) (ho : OutR σ o) (k : ∀ σ', OutR σ' (emit o (ttl x p)) → Fq [40] [24] σ σ' → Q none σ') : Ev lc G mMd_giveTitle 0 [some (.ref 22), some (.ref c), some (.int (nI x.length)), none] [] σ Q := by
  have key : ∀ σ1, OutR σ1 (emit o [10]) → Fq [40] [24] σ σ1 → Ev lc G mMd_giveTitle 8 [some (.ref 22), some (.ref c), some (.int (nI x.length)), some (.int (nI 0))] [] σ1 Q := fun σ1 h1 h2 =>
    lp_giveTitle hc hp h100 hb x.length 0 σ1 _ (by omega) (hx.fq h2 (by rcases hc with rfl | rfl <;> decide) (by rcases hc with rfl | rfl <;> decide)) (by rw [h2.g1 (by decide)]; exact hpg) h1 (fun σ' q1 q2 => k σ' (by rw [emit_emit, List.drop_zero] at q1; unfold ttl; rw [List.append_assoc]; exact q1) (h2.tr q2))
  rcases hc with rfl | rfl <;> (
    refine ev_cv okMd_giveTitle okMd_give rfl rfl trivial rfl (by decide +kernel) rfl rfl (sp_give ho fun σ1 h1 h2 => ?_)
    exact ev_nop okMd_giveTitle rfl rfl trivial (key σ1 h1 h2))
end RP
