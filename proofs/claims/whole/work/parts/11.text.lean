/-! ===== the class's texts ===== -/
section TX
variable {lc : Launch} {G : GG} {σ : St2} {Q : Option Value → St2 → Prop} {t : Nat} {x : List Nat}
theorem sp_byteAt (ht : t = 1 ∨ t = 8 ∨ t = 10) (hx : TextAt σ t x) {i : Int32} (k : Q (some (.int (tb x i))) σ) : Ev lc G mTx_byteAt 0 [some (.ref t), some (.int i)] [] σ Q := by
  obtain ⟨h1, h2, h3⟩ := hx
  rcases ht with rfl | rfl | rfl <;> (
    refine ev_if_lt okTx_byteAt rfl rfl trivial (fun h => ?_) (fun h => ?_)
    · refine ev_nop okTx_byteAt rfl rfl trivial (ev_ri okTx_byteAt rfl rfl trivial rfl ?_)
      rw [tb, if_pos h] at k
      exact k
    · refine ev_ic_ge okTx_byteAt rfl rfl trivial (fun g => ?_) (fun g => ?_)
      · refine ev_nop okTx_byteAt rfl rfl trivial (ev_ri okTx_byteAt rfl rfl trivial rfl ?_)
        rw [h2] at g
        rw [tb, if_neg h, if_pos g] at k
        exact k
      · rw [h2] at g
        obtain ⟨j, hj, rfl⟩ := nI_of h
        have hlt : j < x.length := (Nat.lt_or_ge j x.length).resolve_right (fun q => g (nI_le q hj))
        refine ev_goto okTx_byteAt rfl rfl ⟨vp_nI (by omega) (by decide), trivial⟩ (ev_ri okTx_byteAt rfl rfl trivial rfl ?_)
        rw [tb_nI h1 hj, if_pos hlt] at k
        rw [nI_cl hj]
        rw [← h3 j hlt] at k
        exact k)
theorem sp_add (ht : t = 1 ∨ t = 8 ∨ t = 10) (hx : TextAt σ t x) (hl : x.length < 100) {b : Nat} (hb : b < 128) (k : ∀ σ', TextAt σ' t (x ++ [b]) → Fr [t, t + 1] σ σ' → (∀ j, j ≠ x.length → σ'.1 (t + 1) j = σ.1 (t + 1) j) → Q none σ') : Ev lc G mTx_add 0 [some (.ref t), some (.int (nI b))] [] σ Q := by
  obtain ⟨h1, h2, h3⟩ := hx
  rcases ht with rfl | rfl | rfl <;> (
    refine ev_ic_ge okTx_add rfl rfl trivial (fun h => ?_) (fun h => ?_)
    · rw [h2] at h
      exact absurd h (nI_ge hl (by decide))
    · refine ev_nop okTx_add rfl rfl ⟨by rw [h2]; exact vp_nI hl (by decide), trivial⟩ (ev_rv okTx_add rfl rfl trivial rfl ?_)
      refine k _ ⟨by simp; omega, ?_, RowAt.push h3 ?_ fun j hj => ?_⟩ ?_ ?_
      · simp [up2, h2, nI_add]
      · simp [up2, h2, nI_cl (show x.length < 2 ^ 31 by omega), nI_byte hb]
      · simp [up2, h2, nI_cl (show x.length < 2 ^ 31 by omega), Nat.ne_of_lt hj]
      · exact Fr.tr (Fr.u1 (by decide)) (Fr.u1 (σ := (_, _)) (by decide))
      · intro j hj
        simp [up2, h2, nI_cl (show x.length < 2 ^ 31 by omega), hj])
theorem gD {x : List Nat} {j : Nat} (h : j < x.length) : x.getD j 0 = x[j] := by simp [h]
theorem gD0 {x : List Nat} {j : Nat} (h : x.length ≤ j) : x.getD j 0 = 0 := by simp [h]
/-- where the first byte from there on is that is no blank -/
def pbl (x : List Nat) (i : Nat) : Nat := i + ((x.drop i).takeWhile (fun b => b == 32)).length
theorem pbl_hit {x : List Nat} {i : Nat} (h : i < x.length) (hb : x.getD i 0 = 32) : pbl x i = pbl x (i + 1) := by
  unfold pbl
  rw [List.drop_eq_getElem_cons h]
  have : x[i] = 32 := by rw [gD h] at hb; exact hb
  rw [List.takeWhile_cons, this]
  simp
  omega
theorem pbl_stop {x : List Nat} {i : Nat} (h : i < x.length) (hb : x.getD i 0 ≠ 32) : pbl x i = i := by
  unfold pbl
  rw [List.drop_eq_getElem_cons h]
  have : x[i] ≠ 32 := by rw [gD h] at hb; exact hb
  rw [List.takeWhile_cons]
  simp [this]
theorem pbl_end {x : List Nat} {i : Nat} (h : x.length ≤ i) : pbl x i = i := by
  unfold pbl
  rw [List.drop_eq_nil_of_le h]
  simp
theorem getD_lt {x : List Nat} {j : Nat} {N : Nat} (hb : ∀ b ∈ x, b < N) (hN : 0 < N) : x.getD j 0 < N := by
  by_cases h : j < x.length
  · rw [gD h]; exact hb _ (List.getElem_mem h)
  · rw [gD0 (by omega)]; exact hN
theorem lp_passBlanks (ht : t = 1 ∨ t = 8 ∨ t = 10) (hx : TextAt σ t x) (hb : ∀ b ∈ x, b < 128) : ∀ (n i : Nat), i ≤ 1000 → x.length ≤ i + n → Q (some (.int (nI (pbl x i)))) σ → Ev lc G mTx_passBlanks 2 [some (.ref t), none, some (.int (nI i))] [] σ Q := by
  intro n
  induction n with
  | zero =>
    intro i hi hn k
    rw [pbl_end (show x.length ≤ i from hn)] at k
    rcases ht with rfl | rfl | rfl <;> (
      refine ev_ic_ge okTx_passBlanks rfl rfl trivial (fun h => ev_ri okTx_passBlanks rfl rfl trivial rfl k) (fun h => ?_)
      rw [hx.2.1] at h
      exact absurd (nI_le hn (by omega)) h)
  | succ n ih =>
    intro i hi hn k
    have hlen := hx.1
    rcases ht with rfl | rfl | rfl <;> (
      refine ev_ic_ge okTx_passBlanks rfl rfl trivial (fun h => ?_) (fun h => ?_)
      · rw [hx.2.1] at h
        rw [pbl_end ((nI_leI (by omega) (by omega)).mp h)] at k
        exact ev_ri okTx_passBlanks rfl rfl trivial rfl k
      · rw [hx.2.1] at h
        have hlt : i < x.length := (Nat.lt_or_ge i x.length).resolve_right (fun q => h (nI_le q (by omega)))
        refine ev_cv okTx_passBlanks okTx_byteAt rfl rfl trivial rfl (by decide +kernel) rfl rfl (sp_byteAt (by decide) hx ?_)
        rw [tb_nI hlen (by omega), if_pos hlt]
        have hbb := getD_lt (j := i) hb (by decide)
        refine ev_ic_ne okTx_passBlanks rfl rfl trivial (fun g => ?_) (fun g => ?_)
        · rw [pbl_stop hlt (fun e => g (by rw [e]))] at k
          exact ev_ri okTx_passBlanks rfl rfl trivial rfl k
        · have e : x.getD i 0 = 32 := (nI_eq (by omega) (by decide)).mp g
          rw [pbl_hit hlt e] at k
          refine ev_goto okTx_passBlanks rfl rfl trivial ?_
          rw [nI_add]
          exact ih (i + 1) (by omega) (by omega) k)
theorem sp_passBlanks (ht : t = 1 ∨ t = 8 ∨ t = 10) (hx : TextAt σ t x) (hb : ∀ b ∈ x, b < 128) {i : Nat} (hi : i ≤ 1000) (k : Q (some (.int (nI (pbl x i)))) σ) : Ev lc G mTx_passBlanks 0 [some (.ref t), some (.int (nI i)), none] [] σ Q := by
  rcases ht with rfl | rfl | rfl <;> exact ev_nop okTx_passBlanks rfl rfl trivial (ev_lv [some (.ref _), none, some (.int (nI i))] ⟨rfl, rfl, trivial⟩ (lp_passBlanks (by decide) hx hb x.length i hi (by omega) k))
end TX
