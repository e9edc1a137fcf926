/-! ===== the class's texts: the rest ===== -/
section TX2
variable {lc : Launch} {G : GG} {σ : St2} {Q : Option Value → St2 → Prop} {t : Nat} {x : List Nat}
def b2 (b : Bool) : Int32 := if b then nI 1 else nI 0
theorem sp_leadingBlanks (hx : TextAt σ 1 x) (hb : ∀ b ∈ x, b < 128) (k : Q (some (.int (nI (pbl x 0)))) σ) : Ev lc G mTx_leadingBlanks 0 [some (.ref 1)] [] σ Q :=
  ev_cv okTx_leadingBlanks okTx_passBlanks rfl rfl trivial rfl (by decide +kernel) rfl rfl (sp_passBlanks (i := 0) (Or.inl rfl) hx hb (by decide) (ev_ri okTx_leadingBlanks rfl rfl trivial rfl k))
def hasL (x : List Nat) (i to : Nat) : Bool := ((x.take to).drop i).any (fun b => b != 94)
theorem td_cons {x : List Nat} {i to : Nat} (h : i < to) (ht : to ≤ x.length) : (x.take to).drop i = x.getD i 0 :: (x.take to).drop (i + 1) := by
  have hl : i < (x.take to).length := by rw [List.length_take]; omega
  rw [List.drop_eq_getElem_cons hl]
  congr 1
  rw [List.getElem_take, gD]
theorem td_nil {x : List Nat} {i to : Nat} (h : to ≤ i) : (x.take to).drop i = [] := List.drop_eq_nil_of_le (by rw [List.length_take]; omega)
theorem td_snoc {x : List Nat} {i j : Nat} (h : j ≤ i) (hi : i < x.length) : (x.take (i + 1)).drop j = (x.take i).drop j ++ [x.getD i 0] := by
  rw [List.take_succ, List.getElem?_eq_getElem hi, List.drop_append_of_le_length (by rw [List.length_take]; omega), gD hi]
  rfl
theorem lp_hasLetters (hx : TextAt σ 1 x) (hb : ∀ b ∈ x, b < 128) {to : Nat} (ht : to ≤ x.length) : ∀ (n i : Nat), i ≤ 1000 → to ≤ i + n → Q (some (.int (b2 (hasL x i to)))) σ → Ev lc G mTx_hasLetters 2 [some (.ref 1), none, some (.int (nI to)), some (.int (nI i))] [] σ Q := by
  intro n
  have hlen := hx.1
  induction n with
  | zero =>
    intro i hi hn k
    refine ev_ic_ge okTx_hasLetters rfl rfl trivial (fun h => ev_rz okTx_hasLetters rfl rfl trivial rfl (Or.inl rfl) ?_) (fun h => absurd (nI_le hn (by omega)) h)
    unfold hasL at k
    rw [td_nil (show to ≤ i from hn)] at k
    exact k
  | succ n ih =>
    intro i hi hn k
    refine ev_ic_ge okTx_hasLetters rfl rfl trivial (fun h => ev_rz okTx_hasLetters rfl rfl trivial rfl (Or.inl rfl) ?_) (fun h => ?_)
    · unfold hasL at k
      rw [td_nil ((nI_leI (by omega) (by omega)).mp h)] at k
      exact k
    · have hlt : i < to := (Nat.lt_or_ge i to).resolve_right (fun q => h (nI_le q (by omega)))
      refine ev_cv okTx_hasLetters okTx_byteAt rfl rfl trivial rfl (by decide +kernel) rfl rfl (sp_byteAt (Or.inl rfl) hx ?_)
      rw [tb_nI hlen (by omega), if_pos (by omega)]
      have hbb := getD_lt (j := i) hb (by decide)
      refine ev_ic_eq okTx_hasLetters rfl rfl trivial (fun g => ?_) (fun g => ?_)
      · have e : x.getD i 0 = 94 := (nI_eq (by omega) (by decide)).mp g
        refine ev_goto okTx_hasLetters rfl rfl trivial ?_
        rw [nI_add]
        refine ih (i + 1) (by omega) (by omega) ?_
        have e2 : hasL x i to = hasL x (i + 1) to := by
          unfold hasL
          rw [td_cons hlt ht, e]
          rfl
        rw [e2] at k
        exact k
      · refine ev_rz okTx_hasLetters rfl rfl trivial rfl (Or.inr rfl) ?_
        have e2 : hasL x i to = true := by
          unfold hasL
          rw [td_cons hlt ht, List.any_cons]
          have : x.getD i 0 ≠ 94 := fun e => g (by rw [e])
          rw [show (x.getD i 0 != 94) = true from bne_iff_ne.mpr this, Bool.true_or]
        rw [e2] at k
        exact k
theorem sp_hasLetters (hx : TextAt σ 1 x) (hb : ∀ b ∈ x, b < 128) {i to : Nat} (ht : to ≤ x.length) (hi : i ≤ 1000) (k : Q (some (.int (b2 (hasL x i to)))) σ) : Ev lc G mTx_hasLetters 0 [some (.ref 1), some (.int (nI i)), some (.int (nI to)), none] [] σ Q :=
  ev_nop okTx_hasLetters rfl rfl trivial (ev_lv [some (.ref 1), none, some (.int (nI to)), some (.int (nI i))] ⟨rfl, rfl, rfl, trivial⟩ (lp_hasLetters hx hb ht to i hi (by omega) k))
theorem TextAt.empty (σ : St2) (t : Nat) : TextAt (up2 σ.1 t 1 (nI 0), σ.2) t [] := ⟨by decide, up2_same σ.1 t 1 (nI 0), RowAt.nil⟩
theorem lp_copyFrom (ht : t = 8 ∨ t = 10) {j : Nat} : ∀ (n i : Nat) (σ : St2), j ≤ i → i ≤ 1000 → x.length ≤ i + n → TextAt σ 1 x → (∀ b ∈ x, b < 128) → TextAt σ t ((x.take i).drop j) → (∀ σ', TextAt σ' t (x.drop j) → Fr [t, t + 1] σ σ' → Q none σ') → Ev lc G mTx_copyFrom 7 [some (.ref t), some (.ref 1), none, some (.int (nI i))] [] σ Q := by
  intro n
  induction n with
  | zero =>
    intro i σ hj hi hn hx hb hy k
    have e : (x.take i).drop j = x.drop j := by rw [List.take_of_length_le (by omega)]
    rw [e] at hy
    rcases ht with rfl | rfl <;> (
      refine ev_ic_ge okTx_copyFrom rfl rfl trivial (fun h => ev_rv okTx_copyFrom rfl rfl trivial rfl (k σ hy Fr.rf)) (fun h => ?_)
      rw [hx.2.1] at h
      exact absurd (nI_le hn (by omega)) h)
  | succ n ih =>
    intro i σ hj hi hn hx hb hy k
    have hlen := hx.1
    by_cases hlt : i < x.length
    · rcases ht with rfl | rfl <;> (
        refine ev_ic_ge okTx_copyFrom rfl rfl trivial (fun h => ?_) (fun h => ?_)
        · rw [hx.2.1] at h
          exact absurd h (nI_ge hlt (by omega))
        · refine ev_cv okTx_copyFrom okTx_byteAt rfl rfl trivial rfl (by decide +kernel) rfl rfl (sp_byteAt (Or.inl rfl) hx ?_)
          rw [tb_nI hlen (by omega), if_pos hlt]
          refine ev_cv okTx_copyFrom okTx_add rfl rfl trivial rfl (by decide +kernel) rfl rfl (sp_add (by decide) hy (by rw [List.length_drop, List.length_take]; omega) (getD_lt hb (by decide)) fun σ1 h1 h2 _ => ?_)
          refine ev_goto okTx_copyFrom rfl rfl trivial ?_
          rw [nI_add]
          exact ih (i + 1) σ1 (by omega) (by omega) (by omega) (hx.fr h2 (by decide) (by decide)) hb (by rw [td_snoc hj hlt]; exact h1) (fun σ' q1 q2 => k σ' q1 (h2.tr q2)))
    · have e : (x.take i).drop j = x.drop j := by rw [List.take_of_length_le (by omega)]
      rw [e] at hy
      rcases ht with rfl | rfl <;> (
        refine ev_ic_ge okTx_copyFrom rfl rfl trivial (fun h => ev_rv okTx_copyFrom rfl rfl trivial rfl (k σ hy Fr.rf)) (fun h => ?_)
        rw [hx.2.1] at h
        exact absurd (nI_le (Nat.le_of_not_lt hlt) (by omega)) h)
theorem sp_copyFrom (ht : t = 8 ∨ t = 10) {j : Nat} (hj : j ≤ 1000) (hx : TextAt σ 1 x) (hb : ∀ b ∈ x, b < 128) (k : ∀ σ', TextAt σ' t (x.drop j) → Fr [t, t + 1] σ σ' → Q none σ') : Ev lc G mTx_copyFrom 0 [some (.ref t), some (.ref 1), some (.int (nI j)), none] [] σ Q := by
  have hf : Fr [t, t + 1] σ (up2 σ.1 t 1 (nI 0), σ.2) := Fr.u1 List.mem_cons_self
  have h0 : TextAt (up2 σ.1 t 1 (nI 0), σ.2) t ((x.take j).drop j) := by
    rw [td_nil (Nat.le_refl j)]
    exact TextAt.empty σ _
  have h1 : TextAt (up2 σ.1 t 1 (nI 0), σ.2) 1 x := by
    rcases ht with rfl | rfl <;> exact hx.fr hf (by decide) (by decide)
  rcases ht with rfl | rfl <;> exact ev_nop okTx_copyFrom rfl rfl trivial (ev_lv [some (.ref _), some (.ref 1), none, some (.int (nI j))] ⟨rfl, rfl, rfl, trivial⟩ (lp_copyFrom (by decide) x.length j _ (Nat.le_refl j) hj (by omega) h1 hb h0 (fun σ' q1 q2 => k σ' q1 (hf.tr q2))))
/-- the text is rebuilt in its own place: of the old bytes those from the new end on stand -/
theorem lp_dropFirst {j : Nat} (h100 : x.length ≤ 100) (hb : ∀ b ∈ x, b < 128) : ∀ (n i : Nat) (σ : St2), j ≤ i → i ≤ x.length → x.length ≤ i + n → TextAt σ 1 ((x.take i).drop j) → (∀ q, i - j ≤ q → q < x.length → σ.1 2 q = nI (x.getD q 0)) → (∀ σ', TextAt σ' 1 (x.drop j) → Fr [1, 2] σ σ' → Q none σ') → Ev lc G mTx_dropFirst 12 [some (.ref 1), none, some (.int (nI x.length)), some (.int (nI i))] [] σ Q := by
  intro n
  induction n with
  | zero =>
    intro i σ hj hi hn hy _ k
    have e : (x.take i).drop j = x.drop j := by rw [List.take_of_length_le (by omega)]
    rw [e] at hy
    exact ev_ic_ge okTx_dropFirst rfl rfl trivial (fun h => ev_rv okTx_dropFirst rfl rfl trivial rfl (k σ hy Fr.rf)) (fun h => absurd (nI_le hn (by omega)) h)
  | succ n ih =>
    intro i σ hj hi hn hy hold k
    by_cases hlt : i < x.length
    · refine ev_ic_ge okTx_dropFirst rfl rfl trivial (fun h => absurd h (nI_ge hlt (by omega))) (fun h => ?_)
      refine ev_ic_ge okTx_dropFirst rfl rfl trivial (fun h => absurd h (nI_ge (by omega) (by decide))) (fun h => ?_)
      refine ev_cv okTx_dropFirst okTx_add rfl rfl ⟨vp_nI (by omega) (by decide), trivial⟩ rfl (by decide +kernel) rfl rfl ?_
      rw [nI_cl (by omega), hold i (by omega) hlt]
      have hl : ((x.take i).drop j).length = i - j := by rw [List.length_drop, List.length_take]; omega
      refine sp_add (Or.inl rfl) hy (by omega) (getD_lt hb (by decide)) fun σ1 h1 h2 h3 => ?_
      refine ev_goto okTx_dropFirst rfl rfl trivial ?_
      rw [nI_add]
      refine ih (i + 1) σ1 (by omega) (by omega) (by omega) (by rw [td_snoc hj hlt]; exact h1) (fun q q1 q2 => ?_) (fun σ' q1 q2 => k σ' q1 (h2.tr q2))
      rw [h3 q (by omega)]
      exact hold q (by omega) q2
    · have e : (x.take i).drop j = x.drop j := by rw [List.take_of_length_le (by omega)]
      rw [e] at hy
      exact ev_ic_ge okTx_dropFirst rfl rfl trivial (fun h => ev_rv okTx_dropFirst rfl rfl trivial rfl (k σ hy Fr.rf)) (fun h => absurd (nI_le (Nat.le_of_not_lt hlt) (by omega)) h)
theorem sp_dropFirst {j : Nat} (hj : j ≤ x.length) (hx : TextAt σ 1 x) (hb : ∀ b ∈ x, b < 128) (k : ∀ σ', TextAt σ' 1 (x.drop j) → Fr [1, 2] σ σ' → Q none σ') : Ev lc G mTx_dropFirst 0 [some (.ref 1), some (.int (nI j)), none, none] [] σ Q := by
  obtain ⟨h1, h2, h3⟩ := hx
  refine ev_nop okTx_dropFirst rfl rfl trivial ?_
  rw [h2]
  refine ev_lv [some (.ref 1), none, some (.int (nI x.length)), some (.int (nI j))] ⟨rfl, rfl, rfl, trivial⟩ (lp_dropFirst h1 hb x.length j _ (Nat.le_refl j) hj (by omega) ?_ ?_ (fun σ' q1 q2 => k σ' q1 (Fr.tr (Fr.u1 (by decide)) q2)))
  · rw [td_nil (Nat.le_refl j)]
    exact TextAt.empty σ _
  · intro q _ q2
    show up2 σ.1 1 1 (nI 0) 2 q = _
    rw [up2_ne _ _ _ (by decide)]
    exact h3 q q2
def noC (x : List Nat) : List Nat := x.filter (fun b => b != 94)
theorem noC_snoc {x : List Nat} {i : Nat} (hi : i < x.length) : noC (x.take (i + 1)) = noC (x.take i) ++ (if x.getD i 0 = 94 then [] else [x.getD i 0]) := by
  unfold noC
  rw [List.take_succ, List.getElem?_eq_getElem hi, List.filter_append, gD hi]
  by_cases e : x[i] = 94 <;> simp [e]
theorem noC_len (x : List Nat) (i : Nat) : (noC (x.take i)).length ≤ i := Nat.le_trans (List.length_filter_le _ _) (by rw [List.length_take]; omega)
theorem lp_dropCarets (h100 : x.length ≤ 100) (hb : ∀ b ∈ x, b < 128) : ∀ (n i : Nat) (σ : St2), i ≤ x.length → x.length ≤ i + n → TextAt σ 1 (noC (x.take i)) → (∀ q, i ≤ q → q < x.length → σ.1 2 q = nI (x.getD q 0)) → (∀ σ', TextAt σ' 1 (noC x) → Fr [1, 2] σ σ' → Q none σ') → Ev lc G mTx_dropCarets 12 [some (.ref 1), some (.int (nI x.length)), some (.int (nI i))] [] σ Q := by
  intro n
  induction n with
  | zero =>
    intro i σ hi hn hy _ k
    rw [List.take_of_length_le (by omega)] at hy
    exact ev_ic_ge okTx_dropCarets rfl rfl trivial (fun h => ev_rv okTx_dropCarets rfl rfl trivial rfl (k σ hy Fr.rf)) (fun h => absurd (nI_le hn (by omega)) h)
  | succ n ih =>
    intro i σ hi hn hy hold k
    by_cases hlt : i < x.length
    · refine ev_ic_ge okTx_dropCarets rfl rfl trivial (fun h => absurd h (nI_ge hlt (by omega))) (fun h => ?_)
      refine ev_ic_ge okTx_dropCarets rfl rfl trivial (fun h => absurd h (nI_ge (by omega) (by decide))) (fun h => ?_)
      have hbb := getD_lt (j := i) hb (by decide)
      have hlen := noC_len x i
      have hv : σ.1 2 (nI i).toNatClampNeg = nI (x.getD i 0) := by rw [nI_cl (by omega)]; exact hold i (Nat.le_refl i) hlt
      refine ev_ic_eq okTx_dropCarets rfl rfl ⟨vp_nI (by omega) (by decide), trivial⟩ (fun g => ?_) (fun g => ?_)
      · rw [hv] at g
        have e : x.getD i 0 = 94 := (nI_eq (by omega) (by decide)).mp g
        refine ev_goto okTx_dropCarets rfl rfl trivial ?_
        rw [nI_add]
        refine ih (i + 1) σ (by omega) (by omega) ?_ (fun q q1 q2 => hold q (by omega) q2) k
        rw [noC_snoc hlt, if_pos e, List.append_nil]
        exact hy
      · rw [hv] at g
        have e : x.getD i 0 ≠ 94 := fun q => g (by rw [q])
        refine ev_cv okTx_dropCarets okTx_add rfl rfl ⟨vp_nI (by omega) (by decide), trivial⟩ rfl (by decide +kernel) rfl rfl ?_
        rw [hv]
        refine sp_add (Or.inl rfl) hy (by omega) hbb fun σ1 h1 h2 h3 => ?_
        refine ev_goto okTx_dropCarets rfl rfl trivial ?_
        rw [nI_add]
        refine ih (i + 1) σ1 (by omega) (by omega) (by rw [noC_snoc hlt, if_neg e]; exact h1) (fun q q1 q2 => ?_) (fun σ' q1 q2 => k σ' q1 (h2.tr q2))
        rw [h3 q (by omega)]
        exact hold q (by omega) q2
    · rw [List.take_of_length_le (by omega)] at hy
      exact ev_ic_ge okTx_dropCarets rfl rfl trivial (fun h => ev_rv okTx_dropCarets rfl rfl trivial rfl (k σ hy Fr.rf)) (fun h => absurd (nI_le (Nat.le_of_not_lt hlt) (by omega)) h)
theorem sp_dropCarets (hx : TextAt σ 1 x) (hb : ∀ b ∈ x, b < 128) (k : ∀ σ', TextAt σ' 1 (noC x) → Fr [1, 2] σ σ' → Q none σ') : Ev lc G mTx_dropCarets 0 [some (.ref 1), none, none] [] σ Q := by
  obtain ⟨h1, h2, h3⟩ := hx
  refine ev_nop okTx_dropCarets rfl rfl trivial ?_
  rw [h2]
  refine lp_dropCarets h1 hb x.length 0 _ (by omega) (by omega) ?_ ?_ (fun σ' q1 q2 => k σ' q1 (Fr.tr (Fr.u1 (by decide)) q2))
  · exact TextAt.empty σ 1
  · intro q _ q2
    show up2 σ.1 1 1 (nI 0) 2 q = _
    rw [up2_ne _ _ _ (by decide)]
    exact h3 q q2
/-- without the blanks at its end -/
def noE (x : List Nat) : List Nat := (x.reverse.dropWhile (fun b => b == 32)).reverse
theorem noE_snoc (y : List Nat) (b : Nat) : noE (y ++ [b]) = if b = 32 then noE y else y ++ [b] := by
  unfold noE
  rw [List.reverse_append]
  by_cases e : b = 32
  · simp [e, List.dropWhile_cons]
  · simp [e, List.dropWhile_cons]
theorem sp_dropEndBlanks : ∀ (n : Nat) (x : List Nat) (σ : St2), x.length ≤ n → TextAt σ 1 x → (∀ b ∈ x, b < 128) → (∀ σ', TextAt σ' 1 (noE x) → Fr [1] σ σ' → Q none σ') → Ev lc G mTx_dropEndBlanks 0 [some (.ref 1)] [] σ Q := by
  intro n
  induction n with
  | zero =>
    intro x σ hn hx _ k
    have e : x = [] := List.length_eq_zero_iff.mp (by omega)
    subst e
    refine ev_if_le okTx_dropEndBlanks rfl rfl trivial (fun h => ev_rv okTx_dropEndBlanks rfl rfl trivial rfl (k σ hx Fr.rf)) (fun h => ?_)
    rw [hx.2.1] at h
    exact absurd (by decide : nI ([] : List Nat).length ≤ 0) h
  | succ n ih =>
    intro x σ hn hx hb k
    rcases List.eq_nil_or_concat x with rfl | ⟨y, b, rfl⟩
    · refine ev_if_le okTx_dropEndBlanks rfl rfl trivial (fun h => ev_rv okTx_dropEndBlanks rfl rfl trivial rfl (k σ hx Fr.rf)) (fun h => ?_)
      rw [hx.2.1] at h
      exact absurd (by decide : nI ([] : List Nat).length ≤ 0) h
    · rw [List.concat_eq_append] at *
      have h100 := hx.1
      rw [List.length_append, List.length_singleton] at hn h100
      have h1 : σ.1 1 1 = nI (y.length + 1) := by rw [hx.2.1]; simp
      refine ev_if_le okTx_dropEndBlanks rfl rfl trivial (fun h => ?_) (fun h => ?_)
      · rw [h1] at h
        exact absurd h (nI_nle (by omega) (by omega))
      · refine ev_cv okTx_dropEndBlanks okTx_byteAt rfl rfl trivial rfl (by decide +kernel) rfl rfl ?_
        rw [h1, pk_sub (by omega), Nat.add_sub_cancel]
        refine sp_byteAt (Or.inl rfl) hx ?_
        have hbb : b < 128 := hb b (by simp)
        have hg : (y ++ [b]).getD y.length 0 = b := by simp
        rw [tb_nI hx.1 (by omega), if_pos (by simp), hg]
        refine ev_ic_ne okTx_dropEndBlanks rfl rfl trivial (fun g => ?_) (fun g => ?_)
        · have e : b ≠ 32 := fun q => g (by rw [q])
          rw [noE_snoc, if_neg e] at k
          exact ev_rv okTx_dropEndBlanks rfl rfl trivial rfl (k σ hx Fr.rf)
        · have e : b = 32 := (nI_eq (by omega) (by decide)).mp g
          rw [noE_snoc, if_pos e] at k
          refine ev_goto okTx_dropEndBlanks rfl rfl trivial ?_
          rw [h1, pk_sub (by omega), Nat.add_sub_cancel]
          refine ih y _ (by omega) ⟨by omega, up2_same σ.1 1 1 (nI y.length), fun j hj => ?_⟩ (fun b hb' => hb b (by simp [hb'])) (fun σ' q1 q2 => k σ' q1 (Fr.tr (Fr.u1 (by decide)) q2))
          show up2 σ.1 1 1 (nI y.length) 2 j = _
          rw [up2_ne _ _ _ (by decide), hx.2.2 j (by simp; omega)]
          simp [List.getElem?_append_left hj]
end TX2
