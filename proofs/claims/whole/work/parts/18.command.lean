/-! ===== commands: the model, and the class's ===== -/
def isD (b : Nat) : Bool := decide (48 ≤ b) && decide (b ≤ 57)
def cname (x : List Nat) : Nat := if x.length < 3 then 0 else 256 * x.getD 1 0 + x.getD 2 0
def rs (x : List Nat) : Nat := pbl x 3
def sgn (x : List Nat) : Nat := x.getD (rs x) 0
def stt (x : List Nat) : Nat := if sgn x = 43 ∨ sgn x = 45 then rs x + 1 else rs x
def dgs (x : List Nat) : List Nat := (x.drop (stt x)).takeWhile isD
def amt (l : List Nat) : Nat := (l.take 4).foldl (fun a c => 10 * a + (c - 48)) 0
def am (x : List Nat) : Nat := amt (dgs x)
def num (x : List Nat) : Bool := !(dgs x).isEmpty
/-- what a value is set to, before it is brought between its bounds -/
def wv (x : List Nat) (v d : Int32) : Int32 := if num x then (if sgn x = 43 then v + nI (am x) else if sgn x = 45 then v - nI (am x) else nI (am x)) else d
def clp (lo hi v : Int32) : Int32 := if v < lo then lo else if hi < v then hi else v
theorem tw_at {p : Nat → Bool} : ∀ {l : List Nat} {d : Nat}, d < (l.takeWhile p).length → d < l.length ∧ l.getD d 0 = (l.takeWhile p).getD d 0 ∧ p (l.getD d 0) = true
  | [], d, h => by simp at h
  | a :: l, d, h => by
    rw [List.takeWhile_cons] at h ⊢
    by_cases hp : p a = true
    · rw [if_pos hp] at h ⊢
      cases d with
      | zero => exact ⟨by simp, rfl, hp⟩
      | succ d =>
        obtain ⟨h1, h2, h3⟩ := tw_at (p := p) (l := l) (d := d) (by simpa using h)
        exact ⟨by simp; exact h1, by simpa using h2, by simpa using h3⟩
    · rw [if_neg hp] at h
      simp at h
theorem tw_end {p : Nat → Bool} : ∀ {l : List Nat}, (l.takeWhile p).length < l.length → p (l.getD (l.takeWhile p).length 0) = false
  | [], h => by simp at h
  | a :: l, h => by
    rw [List.takeWhile_cons] at h ⊢
    by_cases hp : p a = true
    · rw [if_pos hp] at h ⊢
      have := tw_end (p := p) (l := l) (by simpa using h)
      simpa using this
    · rw [if_neg hp]
      simpa using hp
theorem drop_getD (x : List Nat) (s d : Nat) : (x.drop s).getD d 0 = x.getD (s + d) 0 := by
  simp [List.getD_eq_getElem?_getD, List.getElem?_drop]
theorem dgs_at {x : List Nat} {d : Nat} (h : d < (dgs x).length) : stt x + d < x.length ∧ x.getD (stt x + d) 0 = (dgs x).getD d 0 ∧ 48 ≤ x.getD (stt x + d) 0 ∧ x.getD (stt x + d) 0 ≤ 57 := by
  obtain ⟨h1, h2, h3⟩ := tw_at (l := x.drop (stt x)) h
  rw [List.length_drop] at h1
  rw [drop_getD] at h2 h3
  simp only [isD, Bool.and_eq_true, decide_eq_true_eq] at h3
  exact ⟨by omega, h2, h3.1, h3.2⟩
theorem dgs_end {x : List Nat} (h : stt x + (dgs x).length < x.length) : ¬ (48 ≤ x.getD (stt x + (dgs x).length) 0 ∧ x.getD (stt x + (dgs x).length) 0 ≤ 57) := by
  have h1 := tw_end (p := isD) (l := x.drop (stt x)) (by rw [List.length_drop]; show (dgs x).length < _; omega)
  rw [drop_getD] at h1
  intro q
  have : isD (x.getD (stt x + (dgs x).length) 0) = true := by unfold isD; rw [decide_eq_true q.1, decide_eq_true q.2]; rfl
  rw [show (List.takeWhile isD (x.drop (stt x))).length = (dgs x).length from rfl] at h1
  rw [this] at h1
  cases h1
theorem amt_snoc (l : List Nat) (c : Nat) : amt (l ++ [c]) = if l.length < 4 then 10 * amt l + (c - 48) else amt l := by
  unfold amt
  by_cases h : l.length < 4
  · rw [if_pos h, List.take_of_length_le (by simp; omega), List.take_of_length_le (by omega), List.foldl_append]
    rfl
  · rw [if_neg h, List.take_append_of_le_length (by omega)]
theorem fold_lt : ∀ (l : List Nat) (a n : Nat), (∀ c ∈ l, c ≤ 57) → a < 10 ^ n → l.foldl (fun a c => 10 * a + (c - 48)) a < 10 ^ (n + l.length)
  | [], a, n, _, h => by simpa using h
  | c :: l, a, n, hc, h => by
    have h1 : c ≤ 57 := hc c List.mem_cons_self
    have := fold_lt l (10 * a + (c - 48)) (n + 1) (fun c q => hc c (List.mem_cons_of_mem _ q)) (by rw [Nat.pow_succ]; omega)
    rw [List.foldl_cons, List.length_cons, show n + (l.length + 1) = n + 1 + l.length by omega]
    exact this
theorem amt_lt {l : List Nat} (h : ∀ c ∈ l, c ≤ 57) : amt l < 10000 := by
  unfold amt
  have h1 := fold_lt (l.take 4) 0 0 (fun c q => h c (List.mem_of_mem_take q)) (by decide)
  refine Nat.lt_of_lt_of_le h1 ?_
  have : (l.take 4).length ≤ 4 := by rw [List.length_take]; omega
  exact Nat.le_trans (Nat.pow_le_pow_right (by decide) (by omega)) (by decide : 10 ^ 4 ≤ 10000)
theorem mem_tw {p : Nat → Bool} : ∀ {l : List Nat} {c : Nat}, c ∈ l.takeWhile p → p c = true
  | [], c, h => by simp at h
  | a :: l, c, h => by
    rw [List.takeWhile_cons] at h
    by_cases hp : p a = true
    · rw [if_pos hp] at h
      rcases List.mem_cons.mp h with rfl | h
      · exact hp
      · exact mem_tw h
    · rw [if_neg hp] at h
      simp at h
theorem dgs_le {x : List Nat} {c : Nat} (h : c ∈ dgs x) : c ≤ 57 := by
  have := mem_tw h
  simp only [isD, Bool.and_eq_true, decide_eq_true_eq] at this
  exact this.2
theorem take_snoc {l : List Nat} {d : Nat} (h : d < l.length) : l.take (d + 1) = l.take d ++ [l.getD d 0] := by
  rw [List.take_succ, List.getElem?_eq_getElem h, gD h]
  rfl
theorem am_lt (x : List Nat) : am x < 10000 := amt_lt fun c h => dgs_le h
theorem amd_lt (x : List Nat) (d : Nat) : amt ((dgs x).take d) < 10000 := amt_lt fun c h => dgs_le (List.mem_of_mem_take h)
theorem pbl_le {x : List Nat} {i : Nat} (h : i ≤ x.length) : pbl x i ≤ x.length := by
  unfold pbl
  have := (List.takeWhile_prefix (l := x.drop i) (fun b => b == 32)).length_le
  rw [List.length_drop] at this
  omega
theorem rs_le {x : List Nat} (h : x.length ≤ 100) : rs x ≤ 100 := by
  unfold rs
  by_cases q : 3 ≤ x.length
  · exact Nat.le_trans (pbl_le q) h
  · rw [pbl_end (by omega)]
    decide
theorem stt_le {x : List Nat} (h : x.length ≤ 100) : stt x ≤ 101 := by
  unfold stt
  have := rs_le h
  split <;> omega
/-- what the class's Command holds behind read -/
def CmdAt (σ : St2) (x : List Nat) : Prop := σ.1 3 0 = nI (cname x) ∧ σ.1 3 1 = nI (rs x) ∧ σ.1 3 2 = tb x (nI (rs x)) ∧ σ.1 3 3 = nI (am x) ∧ σ.1 3 4 = b2 (num x)
theorem CmdAt.fr {S : List Nat} {σ σ' : St2} {x : List Nat} (h : CmdAt σ x) (hf : Fr S σ σ') (h3 : 3 ∉ S) : CmdAt σ' x := by
  unfold CmdAt
  rw [hf.a1 h3]
  exact h
theorem nm_or {a b : Nat} (ha : a < 128) (hb : b < 128) : nI a <<< (nI 8 &&& 31) ||| nI b = nI (256 * a + b) := by
  have key : ∀ a : Fin 128, ∀ b : Fin 128, nI a.val <<< (nI 8 &&& 31) ||| nI b.val = nI (256 * a.val + b.val) := by decide +kernel
  exact key ⟨a, ha⟩ ⟨b, hb⟩
section CM
variable {lc : Launch} {G : GG} {σ : St2} {Q : Option Value → St2 → Prop} {x : List Nat}
theorem sp_isDigit {v : Int32} (k : Q (some (.int (b2 (decide (nI 48 ≤ v ∧ v ≤ nI 57))))) σ) : Ev lc G mCm_isDigit 0 [some (.int v)] [] σ Q := by
  refine ev_ic_lt okCm_isDigit rfl rfl trivial (fun h => ?_) (fun h => ?_)
  · rw [decide_eq_false (fun q => absurd h (Int32.not_lt.mpr q.1))] at k
    exact ev_nop okCm_isDigit rfl rfl trivial (ev_rz okCm_isDigit rfl rfl trivial rfl (Or.inl rfl) k)
  · refine ev_ic_gt okCm_isDigit rfl rfl trivial (fun g => ?_) (fun g => ?_)
    · rw [decide_eq_false (fun q => absurd g (Int32.not_lt.mpr q.2))] at k
      exact ev_nop okCm_isDigit rfl rfl trivial (ev_rz okCm_isDigit rfl rfl trivial rfl (Or.inl rfl) k)
    · rw [decide_eq_true ⟨Int32.not_lt.mp h, Int32.not_lt.mp g⟩] at k
      exact ev_goto okCm_isDigit rfl rfl trivial (ev_rz okCm_isDigit rfl rfl trivial rfl (Or.inr rfl) k)
theorem lp_readNumber (hb : ∀ b ∈ x, b < 128) : ∀ (m d : Nat) (σ : St2), d + m = 4 → d ≤ (dgs x).length → TextAt σ 1 x → σ.1 3 0 = nI (cname x) → σ.1 3 1 = nI (rs x) → σ.1 3 2 = tb x (nI (rs x)) → σ.1 3 3 = nI (amt ((dgs x).take d)) → (∀ σ', CmdAt σ' x → Fr [3] σ σ' → Q none σ') → Ev lc G mCm_readNumber 62 [some (.ref 3), some (.ref 1), none, some (.int (nI (stt x))), some (.int (nI d))] [] σ Q := by
  have fin : ∀ (d : Nat) (σ : St2), d ≤ 4 → d ≤ (dgs x).length → amt ((dgs x).take d) = am x → (d = 0 ↔ dgs x = []) → σ.1 3 0 = nI (cname x) → σ.1 3 1 = nI (rs x) → σ.1 3 2 = tb x (nI (rs x)) → σ.1 3 3 = nI (amt ((dgs x).take d)) → (∀ σ', CmdAt σ' x → Fr [3] σ σ' → Q none σ') → Ev lc G mCm_readNumber 111 [some (.ref 3), some (.ref 1), none, some (.int (nI (stt x))), some (.int (nI d))] [] σ Q := by
    intro d σ hd hl ha hz h0 h1 h2 h3 k
    have done : ∀ v : Int32, v = b2 (num x) → CmdAt (up2 σ.1 3 4 v, σ.2) x := by
      intro v hv
      refine ⟨?_, ?_, ?_, ?_, ?_⟩
      · simp [up2, h0]
      · simp [up2, h1]
      · simp [up2, h2]
      · simp [up2, h3, ha]
      · simp [up2, hv]
    refine ev_if_le okCm_readNumber rfl rfl trivial (fun h => ?_) (fun h => ?_)
    · have e : d = 0 := by
        rcases Nat.eq_zero_or_pos d with q | q
        · exact q
        · exact absurd h (nI_nle q (by omega))
      refine ev_nop okCm_readNumber rfl rfl trivial (ev_rv okCm_readNumber rfl rfl ⟨Or.inl rfl, trivial⟩ rfl (k _ (done _ ?_) (Fr.u1 (by decide))))
      unfold num
      rw [hz.mp e]
      rfl
    · have e : ¬ d = 0 := fun q => h (by rw [q]; decide)
      refine ev_goto okCm_readNumber rfl rfl trivial (ev_rv okCm_readNumber rfl rfl ⟨Or.inr rfl, trivial⟩ rfl (k _ (done _ ?_) (Fr.u1 (by decide))))
      unfold num
      have : (dgs x).isEmpty = false := by
        cases hq : dgs x with
        | nil => exact absurd (hz.mpr hq) e
        | cons a l => rfl
      rw [this]
      rfl
  intro m
  induction m with
  | zero =>
    intro d σ hm hl hx h0 h1 h2 h3 k
    have e4 : d = 4 := by omega
    subst e4
    refine ev_ic_ge okCm_readNumber rfl rfl trivial (fun h => fin 4 σ (by omega) hl ?_ ?_ h0 h1 h2 h3 k) (fun h => absurd (Int32.le_refl _) h)
    · unfold am amt
      rw [List.take_take, Nat.min_self]
    · constructor
      · intro h; omega
      · intro h; rw [h] at hl; simp at hl
  | succ m ih =>
    intro d σ hm hl hx h0 h1 h2 h3 k
    have h100 := hx.1
    have hst := stt_le h100
    refine ev_ic_ge okCm_readNumber rfl rfl trivial (fun h => absurd h (nI_ge (by omega) (by decide))) (fun h => ?_)
    refine ev_cv okCm_readNumber okTx_byteAt rfl rfl trivial rfl (by decide +kernel) rfl rfl ?_
    rw [nI_add]
    refine sp_byteAt (Or.inl rfl) hx ?_
    rw [tb_nI h100 (by omega)]
    refine ev_cs okCm_readNumber okCm_isDigit rfl rfl trivial rfl (by decide +kernel) rfl rfl (sp_isDigit ?_)
    by_cases hd : d < (dgs x).length
    · obtain ⟨a1, a2, a3, a4⟩ := dgs_at hd
      rw [if_pos a1, decide_eq_true ⟨nI_le a3 (by omega), nI_le a4 (by decide)⟩]
      refine ev_if_eq okCm_readNumber rfl rfl trivial (fun g => absurd g (by decide)) (fun g => ?_)
      refine ev_cv okCm_readNumber okTx_byteAt rfl rfl trivial rfl (by decide +kernel) rfl rfl ?_
      rw [nI_add]
      refine sp_byteAt (Or.inl rfl) hx ?_
      rw [tb_nI h100 (by omega), if_pos a1]
      refine ev_goto okCm_readNumber rfl rfl trivial ?_
      have hlt := amd_lt x d
      rw [h3, pk_mul, nI_add, nI_add, pk_sub (by omega)]
      have e : amt ((dgs x).take (d + 1)) = amt ((dgs x).take d) * 10 + x.getD (stt x + d) 0 - 48 := by
        rw [take_snoc hd, amt_snoc, if_pos (by rw [List.length_take]; omega), ← a2]
        omega
      rw [← e]
      refine ih (d + 1) _ (by omega) hd ?_ ?_ ?_ ?_ ?_ (fun σ' q1 q2 => k σ' q1 (Fr.tr (Fr.u1 (by decide)) q2))
      · exact hx.fr (S := [3]) (Fr.u1 (by decide)) (by decide) (by decide)
      · simp [up2, h0]
      · simp [up2, h1]
      · simp [up2, h2]
      · simp [up2]
    · have e : d = (dgs x).length := by omega
      have hno : (decide (nI 48 ≤ (if stt x + d < x.length then nI (x.getD (stt x + d) 0) else mI 0) ∧ (if stt x + d < x.length then nI (x.getD (stt x + d) 0) else mI 0) ≤ nI 57)) = false := by
        refine decide_eq_false fun q => ?_
        by_cases hlt : stt x + d < x.length
        · rw [if_pos hlt] at q
          have hbb := getD_lt (j := stt x + d) hb (by decide)
          rw [e] at hlt q hbb
          exact dgs_end hlt ⟨(nI_leI (by decide) (by omega)).mp q.1, (nI_leI (by omega) (by decide)).mp q.2⟩
        · rw [if_neg hlt] at q
          exact absurd q.1 (by decide)
      rw [hno]
      refine ev_if_eq okCm_readNumber rfl rfl trivial (fun g => ?_) (fun g => absurd rfl g)
      refine fin d σ (by omega) hl ?_ ?_ h0 h1 h2 h3 k
      · rw [e, List.take_length]
        rfl
      · rw [e]
        exact List.length_eq_zero_iff
theorem sp_readNumber (hb : ∀ b ∈ x, b < 128) (hx : TextAt σ 1 x) (h0 : σ.1 3 0 = nI (cname x)) (h1 : σ.1 3 1 = nI (rs x)) (k : ∀ σ', CmdAt σ' x → Fr [3] σ σ' → Q none σ') : Ev lc G mCm_readNumber 0 [some (.ref 3), some (.ref 1), none, none, none] [] σ Q := by
  have h100 := hx.1
  have hrs := rs_le h100
  refine ev_cv okCm_readNumber okTx_byteAt rfl rfl trivial rfl (by decide +kernel) rfl rfl ?_
  rw [h1]
  refine sp_byteAt (Or.inl rfl) hx ?_
  have hsg : tb x (nI (rs x)) = if rs x < x.length then nI (sgn x) else mI 0 := tb_nI h100 (by omega)
  have hsb : sgn x < 128 := getD_lt hb (by decide)
  generalize hT : tb x (nI (rs x)) = T at hsg
  have e32 : (up2 σ.1 3 2 T, σ.2).1 3 2 = T := by simp [up2]
  have e31 : (up2 σ.1 3 2 T, σ.2).1 3 1 = nI (rs x) := by simp [up2, h1]
  have is43 : T = nI 43 ↔ sgn x = 43 := by
    rw [hsg]
    by_cases q : rs x < x.length
    · rw [if_pos q, nI_eq (by omega) (by decide)]
    · rw [if_neg q]
      constructor
      · intro h; exact absurd h (by decide)
      · intro h; unfold sgn at h; rw [gD0 (by omega)] at h; omega
  have is45 : T = nI 45 ↔ sgn x = 45 := by
    rw [hsg]
    by_cases q : rs x < x.length
    · rw [if_pos q, nI_eq (by omega) (by decide)]
    · rw [if_neg q]
      constructor
      · intro h; exact absurd h (by decide)
      · intro h; unfold sgn at h; rw [gD0 (by omega)] at h; omega
  have fr1 : Fr [3] σ (up2 σ.1 3 2 T, σ.2) := Fr.u1 (by decide)
  have e30 : (up2 σ.1 3 2 T, σ.2).1 3 0 = nI (cname x) := by simp [up2, h0]
  have hx1 := hx.fr fr1 (by decide) (by decide)
  have start : ∀ l2 : Value, Ev lc G mCm_readNumber 53 [some (.ref 3), some (.ref 1), none, none, none] [.int (nI (stt x))] (up2 σ.1 3 2 T, σ.2) Q := by
    intro _
    refine ev_nop okCm_readNumber rfl rfl trivial (lp_readNumber hb 4 0 _ rfl (by omega) ?_ ?_ ?_ ?_ ?_ (fun σ' q1 q2 => k σ' q1 ((fr1.tr (Fr.u1 (by decide))).tr q2)))
    · exact hx1.fr (S := [3]) (Fr.u1 (by decide)) (by decide) (by decide)
    · simp [up2, h0]
    · simp [up2, h1]
    · simp [up2, hT]
    · simp [up2, amt]
  have yes : (sgn x = 43 ∨ sgn x = 45) → Ev lc G mCm_readNumber 30 [some (.ref 3), some (.ref 1), none, none, none] [] (up2 σ.1 3 2 T, σ.2) Q := by
    intro q
    refine ev_goto okCm_readNumber rfl rfl trivial ?_
    refine ev_if_eq okCm_readNumber rfl rfl trivial (fun g => absurd g (by decide)) (fun g => ?_)
    refine ev_goto okCm_readNumber rfl rfl trivial ?_
    rw [e31, nI_add]
    have := start (.int 0)
    unfold stt at this
    rw [if_pos q] at this
    exact ev_lv [some (.ref 3), some (.ref 1), none, none, none] ⟨rfl, rfl, trivial⟩ this
  refine ev_ic_eq okCm_readNumber rfl rfl trivial (fun g => ?_) (fun g => ?_)
  · rw [e32] at g
    exact yes (Or.inl (is43.mp g))
  · rw [e32] at g
    refine ev_ic_ne okCm_readNumber rfl rfl trivial (fun g2 => ?_) (fun g2 => ?_)
    · rw [e32] at g2
      refine ev_nop okCm_readNumber rfl rfl trivial ?_
      refine ev_if_eq okCm_readNumber rfl rfl trivial (fun _ => ?_) (fun g => absurd rfl g)
      refine ev_nop okCm_readNumber rfl rfl trivial ?_
      rw [e31]
      have := start (.int 0)
      unfold stt at this
      rw [if_neg (by rintro (q | q); exact g (is43.mpr q); exact g2 (is45.mpr q))] at this
      exact ev_lv [some (.ref 3), some (.ref 1), none, none, none] ⟨rfl, rfl, trivial⟩ this
    · rw [e32] at g2
      exact yes (Or.inr (is45.mp g2))
theorem sp_read (hb : ∀ b ∈ x, b < 128) (hx : TextAt σ 1 x) (k : ∀ σ', CmdAt σ' x → Fr [3] σ σ' → Q none σ') : Ev lc G mCm_read 0 [some (.ref 3), some (.ref 1)] [] σ Q := by
  have h100 := hx.1
  have go : Ev lc G mCm_read 27 [some (.ref 3), some (.ref 1)] [.int (nI (cname x)), .ref 3] σ Q := by
    refine ev_cv okCm_read okTx_passBlanks rfl rfl trivial rfl (by decide +kernel) rfl rfl ?_
    have fr1 : Fr [3] σ (up2 σ.1 3 0 (nI (cname x)), σ.2) := Fr.u1 (by decide)
    refine sp_passBlanks (Or.inl rfl) (hx.fr fr1 (by decide) (by decide)) hb (by decide) ?_
    refine ev_cv okCm_read okCm_readNumber rfl rfl trivial rfl (by decide +kernel) rfl rfl ?_
    have fr2 : Fr [3] σ (up2 (up2 σ.1 3 0 (nI (cname x)), σ.2).1 3 1 (nI (pbl x 3)), (up2 σ.1 3 0 (nI (cname x)), σ.2).2) := fr1.tr (Fr.u1 (by decide))
    refine sp_readNumber hb (hx.fr fr2 (by decide) (by decide)) (by simp [up2]) (by simp [up2, rs]) fun σ' q1 q2 => ?_
    exact ev_rv okCm_read rfl rfl trivial rfl (k σ' q1 (fr2.tr q2))
  refine ev_ic_ge okCm_read rfl rfl trivial (fun h => ?_) (fun h => ?_)
  · rw [hx.2.1] at h
    have hl : 3 ≤ x.length := (nI_leI (by decide) (by omega)).mp h
    refine ev_cv okCm_read okTx_byteAt rfl rfl trivial rfl (by decide +kernel) rfl rfl (sp_byteAt (Or.inl rfl) hx ?_)
    rw [tb_nI h100 (by decide), if_pos (by omega)]
    refine ev_cv okCm_read okTx_byteAt rfl rfl trivial rfl (by decide +kernel) rfl rfl (sp_byteAt (Or.inl rfl) hx ?_)
    rw [tb_nI h100 (by decide), if_pos (by omega)]
    refine ev_nop okCm_read rfl rfl trivial ?_
    rw [nm_or (getD_lt hb (by decide)) (getD_lt hb (by decide))]
    unfold cname at go
    rw [if_neg (by omega)] at go
    exact go
  · rw [hx.2.1] at h
    have hl : ¬ 3 ≤ x.length := fun q => h (nI_le q (by omega))
    refine ev_goto okCm_read rfl rfl trivial ?_
    unfold cname at go
    rw [if_pos (by omega)] at go
    exact go
theorem clp_mm {lo hi v : Int32} (h : lo ≤ hi) : (if lo < (if v < hi then v else hi) then (if v < hi then v else hi) else lo) = clp lo hi v := by
  unfold clp
  by_cases h1 : v < hi
  · rw [if_pos h1]
    by_cases h2 : lo < v
    · rw [if_pos h2, if_neg (Int32.not_lt.mpr (Int32.le_of_lt h2)), if_neg (Int32.not_lt.mpr (Int32.le_of_lt h1))]
    · rw [if_neg h2]
      by_cases h3 : v < lo
      · rw [if_pos h3]
      · rw [if_neg h3, if_neg (Int32.not_lt.mpr (Int32.le_of_lt h1))]
        exact Int32.le_antisymm (Int32.not_lt.mp h3) (Int32.not_lt.mp h2)
  · rw [if_neg h1]
    have h4 : hi ≤ v := Int32.not_lt.mp h1
    rw [if_neg (Int32.not_lt.mpr (Int32.le_trans h h4))]
    by_cases h2 : lo < hi
    · rw [if_pos h2]
      by_cases h3 : hi < v
      · rw [if_pos h3]
      · rw [if_neg h3]
        exact Int32.le_antisymm h4 (Int32.not_lt.mp h3)
    · rw [if_neg h2]
      have e : lo = hi := Int32.le_antisymm h (Int32.not_lt.mp h2)
      by_cases h3 : hi < v
      · rw [if_pos h3]; exact e
      · rw [if_neg h3, e]
        exact Int32.le_antisymm h4 (Int32.not_lt.mp h3)
theorem sp_set (h100 : x.length ≤ 100) (hb : ∀ b ∈ x, b < 128) (hc : CmdAt σ x) {v d lo hi : Int32} (hl : lo ≤ hi) (k : Q (some (.int (clp lo hi (wv x v d)))) σ) : Ev lc G mCm_set 0 [some (.ref 3), some (.int v), some (.int d), some (.int lo), some (.int hi), none] [] σ Q := by
  obtain ⟨c0, c1, c2, c3, c4⟩ := hc
  have fin : ∀ w : Int32, w = wv x v d → Ev lc G mCm_set 56 [some (.ref 3), some (.int v), some (.int d), some (.int lo), some (.int hi), some (.int w)] [] σ Q := by
    intro w hw
    refine ev_min okCm_set rfl rfl trivial (by decide +kernel) rfl ?_
    refine ev_max okCm_set rfl rfl trivial (by decide +kernel) rfl ?_
    refine ev_ri okCm_set rfl rfl trivial rfl ?_
    rw [clp_mm hl, hw]
    exact k
  have hrs := rs_le h100
  have hsg : tb x (nI (rs x)) = if rs x < x.length then nI (sgn x) else mI 0 := tb_nI h100 (by omega)
  have hsb : sgn x < 128 := getD_lt hb (by decide)
  have isS : ∀ n, 0 < n → n < 128 → (σ.1 3 2 = nI n ↔ sgn x = n) := by
    intro n hn hn2
    rw [c2, hsg]
    by_cases q : rs x < x.length
    · rw [if_pos q, nI_eq (by omega) (by omega)]
    · rw [if_neg q]
      constructor
      · intro h; exact absurd h (Ne.symm (nI_mI (by omega) (by decide)))
      · intro h; unfold sgn at h; rw [gD0 (by omega)] at h; omega
  refine ev_if_ne okCm_set rfl rfl trivial (fun h => ?_) (fun h => ?_)
  · rw [c4] at h
    have hn : num x = true := by
      cases q : num x with
      | true => rfl
      | false => rw [q] at h; exact absurd rfl h
    refine ev_ic_ne okCm_set rfl rfl trivial (fun g => ?_) (fun g => ?_)
    · have g : ¬ sgn x = 43 := fun q => g ((isS 43 (by decide) (by decide)).mpr q)
      refine ev_ic_ne okCm_set rfl rfl trivial (fun g2 => ?_) (fun g2 => ?_)
      · have g2 : ¬ sgn x = 45 := fun q => g2 ((isS 45 (by decide) (by decide)).mpr q)
        exact fin _ (by rw [c3]; unfold wv; rw [if_pos hn, if_neg g, if_neg g2])
      · have g2 : sgn x = 45 := (isS 45 (by decide) (by decide)).mp g2
        refine ev_nop okCm_set rfl rfl trivial (fin _ ?_)
        rw [c3]; unfold wv; rw [if_pos hn, if_neg g, if_pos g2]
    · have g : sgn x = 43 := (isS 43 (by decide) (by decide)).mp g
      refine ev_goto okCm_set rfl rfl trivial (fin _ ?_)
      rw [c3]; unfold wv; rw [if_pos hn, if_pos g]
  · rw [c4] at h
    have hn : ¬ num x = true := by
      intro q
      rw [q] at h
      exact absurd h (by decide)
    refine ev_goto okCm_set rfl rfl trivial (fin _ ?_)
    unfold wv; rw [if_neg hn]
end CM
