/-! ===== heads and feet (the class's) ===== -/
/-- digits of p, from the e-th on -/
def dg (p : Nat) : Nat → List Nat
  | 0 => [48 + p % 10]
  | e + 1 => (if 10 ^ (e + 1) ≤ p then [48 + p / 10 ^ (e + 1) % 10] else []) ++ dg p e
def ttl (x : List Nat) (p : Nat) : List Nat := [10] ++ x.flatMap (fun b => if b = 35 then dg p 9 else [b]) ++ [10, 10]
theorem pow9 {e : Nat} (h : e ≤ 9) : 10 ^ e ≤ 1000000000 := by
  have : ∀ e : Fin 10, 10 ^ e.val ≤ 1000000000 := by decide
  exact this ⟨e, by omega⟩
section MG
variable {lc : Launch} {G : GG} {σ : St2} {Q : Option Value → St2 → Prop} {o : List Nat} {t : Nat}
theorem lp_digits (ht : t = 8 ∨ t = 10) {p i : Nat} (hp : p < 2 ^ 31) : ∀ (e : Nat) (σ : St2) (o : List Nat), e ≤ 9 → OutAt σ o → (∀ σ', OutAt σ' (emit o (dg p e)) → Fr [5, 6] σ σ' → Ev lc G mOu_putMargin 83 [some (.ref 5), some (.ref t), some (.int (nI p)), some (.int (nI i)), none] [] σ' Q) → Ev lc G mOu_putMargin 42 [some (.ref 5), some (.ref t), some (.int (nI p)), some (.int (nI i)), some (.int (nI (10 ^ e)))] [] σ Q := by
  intro e
  induction e with
  | zero =>
    intro σ o he ho k
    have last : Ev lc G mOu_putMargin 59 [some (.ref 5), some (.ref t), some (.int (nI p)), some (.int (nI i)), some (.int (nI (10 ^ 0)))] [] σ Q := by
      rcases ht with rfl | rfl <;> (
        refine ev_cv okOu_putMargin okOu_put rfl rfl ⟨by decide, by decide, trivial⟩ rfl (by decide +kernel) rfl rfl ?_
        rw [show (10 : Nat) ^ 0 = 1 from rfl, pk_div hp (by decide) (by decide), Nat.div_one, pk_rem hp (by decide) (by decide), nI_add]
        refine sp_put ho (by omega) fun σ1 h1 h2 => ?_
        refine ev_goto okOu_putMargin rfl rfl ⟨by decide, trivial⟩ ?_
        refine ev_if_le okOu_putMargin rfl rfl trivial (fun h => ?_) (fun h => absurd (by decide) h)
        exact ev_lv [some (.ref 5), some (.ref _), some (.int (nI p)), some (.int (nI i)), none] ⟨rfl, rfl, rfl, rfl, trivial⟩ (k σ1 h1 h2))
    rcases ht with rfl | rfl <;> (
      refine ev_if_le okOu_putMargin rfl rfl trivial (fun h => absurd h (by decide)) (fun h => ?_)
      refine ev_ic_ge okOu_putMargin rfl rfl trivial (fun h => last) (fun h => ?_)
      exact ev_ic_ne okOu_putMargin rfl rfl trivial (fun h => absurd rfl h) (fun h => last))
  | succ e ih =>
    intro σ o he ho k
    have h9 := pow9 he
    have h0 : 0 < 10 ^ (e + 1) := Nat.pos_of_ne_zero (by simp)
    have hne : ¬ nI (10 ^ (e + 1)) = 0 := nI_ne0 h0 (by omega)
    have hdiv : nI (10 ^ (e + 1)) / nI 10 = nI (10 ^ e) := by
      rw [pk_div (by omega) (by decide) (by decide), Nat.pow_succ, Nat.mul_div_cancel _ (by decide)]
    rw [dg] at k
    -- behind this digit
    have next : ∀ (σ1 : St2) (o1 : List Nat), OutAt σ1 o1 → Fr [5, 6] σ σ1 → o1 = emit o (if 10 ^ (e + 1) ≤ p then [48 + p / 10 ^ (e + 1) % 10] else []) → Ev lc G mOu_putMargin 73 [some (.ref 5), some (.ref t), some (.int (nI p)), some (.int (nI i)), some (.int (nI (10 ^ (e + 1))))] [] σ1 Q := by
      intro σ1 o1 h1 h2 h3
      have key := ih σ1 o1 (by omega) h1 (fun σ' q1 q2 => k σ' (by rw [h3, emit_emit] at q1; exact q1) (h2.tr q2))
      rcases ht with rfl | rfl <;> (
        refine ev_goto okOu_putMargin rfl rfl ⟨by decide, trivial⟩ ?_
        rw [hdiv]
        exact key)
    by_cases hle : 10 ^ (e + 1) ≤ p
    · rcases ht with rfl | rfl <;> (
        refine ev_if_le okOu_putMargin rfl rfl trivial (fun h => absurd h (nI_nle h0 (by omega))) (fun h => ?_)
        refine ev_ic_ge okOu_putMargin rfl rfl trivial (fun h => ?_) (fun h => absurd (nI_le hle hp) h)
        refine ev_cv okOu_putMargin okOu_put rfl rfl ⟨hne, by decide, trivial⟩ rfl (by decide +kernel) rfl rfl ?_
        have hq : p / 10 ^ (e + 1) < 2 ^ 31 := Nat.lt_of_le_of_lt (Nat.div_le_self _ _) hp
        rw [pk_div hp h0 (by omega), pk_rem hq (by decide) (by decide), nI_add]
        refine sp_put ho (by omega) fun σ1 h1 h2 => ?_
        exact next σ1 _ h1 h2 (by rw [if_pos hle]))
    · rcases ht with rfl | rfl <;> (
        refine ev_if_le okOu_putMargin rfl rfl trivial (fun h => absurd h (nI_nle h0 (by omega))) (fun h => ?_)
        refine ev_ic_ge okOu_putMargin rfl rfl trivial (fun h => absurd ((nI_leI (by omega) hp).mp h) hle) (fun h => ?_)
        refine ev_ic_ne okOu_putMargin rfl rfl trivial (fun h => next σ o ho Fr.rf (by rw [if_neg hle, emit_nil ho.1])) (fun h => ?_)
        have h1 : 10 ^ (e + 1) = 1 := (nI_eq (by omega) (by decide)).mp h
        rw [Nat.pow_succ] at h1
        have := Nat.pos_of_ne_zero (show 10 ^ e ≠ 0 by simp)
        omega)
theorem lp_margin (ht : t = 8 ∨ t = 10) {p : Nat} (hp : p < 2 ^ 31) {x : List Nat} (hb : ∀ b ∈ x, b < 128) : ∀ (m i : Nat) (σ : St2) (o : List Nat), i + m = x.length → TextAt σ t x → OutAt σ o → (∀ σ', OutAt σ' (emit o ((x.drop i).flatMap (fun b => if b = 35 then dg p 9 else [b]) ++ [10, 10])) → Fr [5, 6] σ σ' → Q none σ') → Ev lc G mOu_putMargin 8 [some (.ref 5), some (.ref t), some (.int (nI p)), some (.int (nI i)), none] [] σ Q := by
  intro m
  induction m with
  | zero =>
    intro i σ o hi hx ho k
    have hlen := hx.1
    rw [List.drop_eq_nil_of_le (by omega)] at k
    rcases ht with rfl | rfl <;> (
      refine ev_ic_ge okOu_putMargin rfl rfl trivial (fun h => ?_) (fun h => absurd (by rw [hx.2.1]; exact nI_le (by omega) (by omega)) h)
      refine ev_cv okOu_putMargin okOu_put rfl rfl trivial rfl (by decide +kernel) rfl rfl (sp_put ho (by decide) fun σ1 h1 h2 => ?_)
      refine ev_cv okOu_putMargin okOu_put rfl rfl trivial rfl (by decide +kernel) rfl rfl (sp_put h1 (by decide) fun σ2 h3 h4 => ?_)
      refine ev_rv okOu_putMargin rfl rfl trivial rfl (k σ2 ?_ (h2.tr h4))
      rw [emit_emit] at h3
      exact h3)
  | succ m ih =>
    intro i σ o hi hx ho k
    have hlen := hx.1
    have hlt : i < x.length := by omega
    have hbb := getD_lt (j := i) hb (by decide)
    rw [List.drop_eq_getElem_cons hlt, List.flatMap_cons, ← gD hlt] at k
    have next : ∀ (σ1 : St2) (o1 : List Nat), OutAt σ1 o1 → Fr [5, 6] σ σ1 → o1 = emit o (if x.getD i 0 = 35 then dg p 9 else [x.getD i 0]) → Ev lc G mOu_putMargin 83 [some (.ref 5), some (.ref t), some (.int (nI p)), some (.int (nI i)), none] [] σ1 Q := by
      intro σ1 o1 h1 h2 h3
      have key := ih (i + 1) σ1 o1 (by omega) (hx.fr h2 (by rcases ht with rfl | rfl <;> decide) (by rcases ht with rfl | rfl <;> decide)) h1 (fun σ' q1 q2 => k σ' (by rw [h3, emit_emit, ← List.append_assoc] at q1; exact q1) (h2.tr q2))
      rcases ht with rfl | rfl <;> (
        refine ev_goto okOu_putMargin rfl rfl trivial ?_
        rw [nI_add]
        exact key)
    have key2 := lp_digits (lc := lc) (G := G) (Q := Q) (i := i) ht hp 9 σ o (by decide) ho
    rcases ht with rfl | rfl <;> (
      refine ev_ic_ge okOu_putMargin rfl rfl trivial (fun h => absurd h (by rw [hx.2.1]; exact nI_ge hlt (by omega))) (fun h => ?_)
      refine ev_cv okOu_putMargin okTx_byteAt rfl rfl trivial rfl (by decide +kernel) rfl rfl (sp_byteAt (by decide) hx ?_)
      rw [tb_nI hlen (by omega), if_pos hlt]
      refine ev_ic_eq okOu_putMargin rfl rfl trivial (fun g => ?_) (fun g => ?_)
      · have e : x.getD i 0 = 35 := (nI_eq (by omega) (by decide)).mp g
        refine ev_nop okOu_putMargin rfl rfl trivial ?_
        exact key2 (fun σ' q1 q2 => next σ' _ q1 q2 (by rw [if_pos e]))
      · have e : ¬ x.getD i 0 = 35 := fun q => g (by rw [q])
        refine ev_cv okOu_putMargin okTx_byteAt rfl rfl trivial rfl (by decide +kernel) rfl rfl (sp_byteAt (by decide) hx ?_)
        rw [tb_nI hlen (by omega), if_pos hlt]
        refine ev_cv okOu_putMargin okOu_put rfl rfl trivial rfl (by decide +kernel) rfl rfl (sp_put ho hbb fun σ1 h1 h2 => ?_)
        exact ev_goto okOu_putMargin rfl rfl trivial (next σ1 _ h1 h2 (by rw [if_neg e])))
theorem sp_putMargin (ht : t = 8 ∨ t = 10) {p : Nat} (hp : p < 2 ^ 31) {x : List Nat} (hb : ∀ b ∈ x, b < 128) (hx : TextAt σ t x) (ho : OutAt σ o) (k : ∀ σ', OutAt σ' (emit o (ttl x p)) → Fr [5, 6] σ σ' → Q none σ') : Ev lc G mOu_putMargin 0 [some (.ref 5), some (.ref t), some (.int (nI p)), none, none] [] σ Q := by
  have key : ∀ σ1, OutAt σ1 (emit o [10]) → Fr [5, 6] σ σ1 → Ev lc G mOu_putMargin 8 [some (.ref 5), some (.ref t), some (.int (nI p)), some (.int (nI 0)), none] [] σ1 Q := fun σ1 h1 h2 =>
    lp_margin ht hp hb x.length 0 σ1 _ (by omega) (hx.fr h2 (by rcases ht with rfl | rfl <;> decide) (by rcases ht with rfl | rfl <;> decide)) h1 (fun σ' q1 q2 => k σ' (by rw [emit_emit, List.drop_zero] at q1; unfold ttl; rw [List.append_assoc]; exact q1) (h2.tr q2))
  rcases ht with rfl | rfl <;> (
    refine ev_cv okOu_putMargin okOu_put rfl rfl trivial rfl (by decide +kernel) rfl rfl (sp_put ho (by decide) fun σ1 h1 h2 => ?_)
    exact ev_nop okOu_putMargin rfl rfl trivial (key σ1 h1 h2))
end MG
