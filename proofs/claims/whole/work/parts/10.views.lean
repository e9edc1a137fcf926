/-! ===== views of the store ===== -/
/-- nothing but the cells S has changed -/
def Fr (S : List Nat) (σ σ' : St2) : Prop := ∀ c, c ∉ S → σ'.1 c = σ.1 c ∧ σ'.2 c = σ.2 c
theorem Fr.rf {S : List Nat} {σ : St2} : Fr S σ σ := fun _ _ => ⟨rfl, rfl⟩
theorem Fr.tr {S : List Nat} {a b c : St2} (h1 : Fr S a b) (h2 : Fr S b c) : Fr S a c := fun q hq => ⟨(h2 q hq).1.trans (h1 q hq).1, (h2 q hq).2.trans (h1 q hq).2⟩
theorem Fr.wk {S T : List Nat} {a b : St2} (h : Fr S a b) (hs : ∀ c ∈ S, c ∈ T) : Fr T a b := fun q hq => h q (fun z => hq (hs q z))
theorem Fr.u1 {S : List Nat} {σ : St2} {c k : Nat} {x : Int32} (h : c ∈ S) : Fr S σ (up2 σ.1 c k x, σ.2) := fun q hq => ⟨up2_ne _ _ _ (fun e => hq (e ▸ h)), rfl⟩
theorem Fr.u2 {S : List Nat} {σ : St2} {c k : Nat} {x : Int64} (h : c ∈ S) : Fr S σ (σ.1, up2 σ.2 c k x) := fun q hq => ⟨rfl, up2_ne _ _ _ (fun e => hq (e ▸ h))⟩
theorem Fr.a1 {S : List Nat} {σ σ' : St2} {c : Nat} (h : Fr S σ σ') (hc : c ∉ S) : σ'.1 c = σ.1 c := (h c hc).1
theorem Fr.a2 {S : List Nat} {σ σ' : St2} {c : Nat} (h : Fr S σ σ') (hc : c ∉ S) : σ'.2 c = σ.2 c := (h c hc).2
/-- the first cells of an array of ints are these numbers -/
def RowAt (σ : St2) (c : Nat) (x : List Nat) : Prop := ∀ j, j < x.length → σ.1 c j = nI (x.getD j 0)
theorem RowAt.fr {S : List Nat} {σ σ' : St2} {c : Nat} {x : List Nat} (h : RowAt σ c x) (hf : Fr S σ σ') (hc : c ∉ S) : RowAt σ' c x := fun j hj => by rw [hf.a1 hc]; exact h j hj
theorem RowAt.nil {σ : St2} {c : Nat} : RowAt σ c [] := fun j hj => absurd hj (Nat.not_lt_zero j)
theorem RowAt.push {σ σ' : St2} {c : Nat} {x : List Nat} {b : Nat} (h : RowAt σ c x) (h1 : σ'.1 c x.length = nI b) (h2 : ∀ j, j < x.length → σ'.1 c j = σ.1 c j) : RowAt σ' c (x ++ [b]) := by
  intro j hj
  rw [List.length_append, List.length_singleton] at hj
  by_cases e : j = x.length
  · subst e
    rw [h1]
    simp
  · rw [h2 j (by omega), h j (by omega)]
    simp [List.getElem?_append_left (show j < x.length by omega)]
theorem RowAt.take {σ : St2} {c n : Nat} {x : List Nat} (h : RowAt σ c x) : RowAt σ c (x.take n) := by
  intro j hj
  have hj' : j < x.length := by rw [List.length_take] at hj; omega
  have hn : j < n := by rw [List.length_take] at hj; omega
  rw [h j hj']
  simp [List.getD_eq_getElem?_getD, List.getElem?_take, hn]
theorem nI_byte {b : Nat} (h : b < 128) : (nI b).toInt8.toInt32 = nI b := by
  have key : ∀ b : Fin 128, ((nI b.val).toInt8.toInt32 = nI b.val) := by decide
  exact key ⟨b, h⟩
theorem nI_bit {b : Nat} (h : b < 2) : nI b &&& 1 = nI b := by
  have key : ∀ b : Fin 2, (nI b.val &&& 1 = nI b.val) := by decide
  exact key ⟨b, h⟩
theorem mI_neg (k : Nat) (h : k < 1000) : mI k < 0 := by
  have key : ∀ b : Fin 1000, mI b.val < 0 := by decide +kernel
  exact key ⟨k, h⟩
theorem nI_neg {n : Nat} (h : n < 2 ^ 31) : ¬ nI n < 0 := nI_pos h
theorem nI_cl {n : Nat} (h : n < 2 ^ 31) : (nI n).toNatClampNeg = n := nI_clamp h
theorem nI_mI {a k : Nat} (ha : a < 2 ^ 31) (hk : k < 1000) : nI a ≠ mI k := fun e => nI_neg ha (by rw [e]; exact mI_neg k hk)
theorem vp_nI {n N : Nat} (h : n < N) (hN : N < 2 ^ 31) : vp_in (nI n) N := vp_in_nI h hN
/-! texts of the class: at the cells 1, 8, 10 -/
def TextAt (σ : St2) (t : Nat) (x : List Nat) : Prop := x.length ≤ 100 ∧ σ.1 t 1 = nI x.length ∧ RowAt σ (t + 1) x
theorem TextAt.fr {S : List Nat} {σ σ' : St2} {t : Nat} {x : List Nat} (h : TextAt σ t x) (hf : Fr S σ σ') (h1 : t ∉ S) (h2 : t + 1 ∉ S) : TextAt σ' t x := ⟨h.1, by rw [hf.a1 h1]; exact h.2.1, h.2.2.fr hf h2⟩
/-- byte i of a text, -1 beyond -/
def tb (x : List Nat) (i : Int32) : Int32 := if i < 0 then mI 0 else if nI x.length ≤ i then mI 0 else nI (x.getD i.toNatClampNeg 0)
theorem tb_nI {x : List Nat} {j : Nat} (hx : x.length ≤ 100) (hj : j < 2 ^ 31) : tb x (nI j) = if j < x.length then nI (x.getD j 0) else mI 0 := by
  unfold tb
  rw [if_neg (nI_neg hj), nI_cl hj]
  by_cases h : j < x.length
  · rw [if_neg (nI_ge h (by omega)), if_pos h]
  · rw [if_pos (nI_le (by omega) hj), if_neg h]
