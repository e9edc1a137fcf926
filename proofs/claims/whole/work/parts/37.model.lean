/-! ===== the state that both sides show ===== -/
/-- line; words; numbers and output; head, foot; facts, demerits; passed over -/
abbrev MS : Type := List Nat × List (List Nat × Nat) × PS × (List Nat × List Nat) × (List Nat × Int64) × Int32
abbrev mX (m : MS) : List Nat := m.1
abbrev mW (m : MS) : List (List Nat × Nat) := m.2.1
abbrev mP (m : MS) : PS := m.2.2.1
abbrev mH (m : MS) : List Nat := m.2.2.2.1.1
abbrev mF (m : MS) : List Nat := m.2.2.2.1.2
abbrev mT (m : MS) : List Nat := m.2.2.2.2.1.1
abbrev mD (m : MS) : Int64 := m.2.2.2.2.1.2
abbrev mQ (m : MS) : Int32 := m.2.2.2.2.2
def sX (m : MS) (x : List Nat) : MS := (x, m.2)
def sW (m : MS) (w : List (List Nat × Nat)) : MS := (m.1, w, m.2.2)
def sP (m : MS) (p : PS) : MS := (m.1, m.2.1, p, m.2.2.2)
def sN (m : MS) (j : Nat) (v : Int32) : MS := sP m (upd (mP m).1 j v, (mP m).2)
def CV (σ : St2) (m : MS) : Prop := TextAt σ 1 (mX m) ∧ PgV σ (mP m).1 (mH m) (mF m) (mP m).2 ∧ PaV σ (clsP (mW m)).1 (clsP (mW m)).2.1 (clsP (mW m)).2.2.1 (clsP (mW m)).2.2.2 ∧ (∃ E, LnV σ E (mT m)) ∧ σ.2 17 7 = mD m ∧ σ.1 0 7 = mQ m
def RV (σ : St2) (m : MS) : Prop := LineR σ (mX m) ∧ RgV σ (mP m).1 (mH m) (mF m) (mP m).2 ∧ RwV σ (mW m) ∧ (∃ cnt, NtV σ cnt (mT m)) ∧ σ.2 22 15 = mD m ∧ σ.1 22 41 = mQ m
def Rg (v : Int32) (lo hi : Nat) : Prop := ∃ n, v = nI n ∧ lo ≤ n ∧ n ≤ hi
def R2 (N : NN) : Prop := ∃ R ii, N 0 = nI R ∧ N 1 = nI ii ∧ R ≤ 80 ∧ ii < R
def R3 (N : NN) : Prop := ∃ R ii hh, N 0 = nI R ∧ N 1 = nI ii ∧ N 2 = nI hh ∧ R ≤ 80 ∧ ii < R ∧ hh < R
def NK (pb : Nat) (N : NN) : Prop := Rg (N 3) 1 9 ∧ Rg (N 4) 0 99 ∧ Rg (N 5) 0 99 ∧ Rg (N 6) 8 99 ∧ (∃ fl, N 7 = b2 fl) ∧ (∃ jf, N 8 = b2 jf) ∧ Rg (N 9) 0 200 ∧ PB pb N
def NI (pb : Nat) (N : NN) : Prop := R3 N ∧ NK pb N
theorem R3.two {N : NN} (h : R3 N) : R2 N := by
  obtain ⟨R, ii, hh, a, b, c, d, e, f⟩ := h
  exact ⟨R, ii, a, b, d, e⟩
def Inv (pb : Nat) (m : MS) : Prop := (∀ b ∈ mX m, 32 ≤ b ∧ b < 127) ∧ WdOK (mW m) ∧ NI pb (mP m).1 ∧ (∀ b ∈ mH m, b < 128) ∧ (∀ b ∈ mF m, b < 128)
theorem Inv.x128 {pb : Nat} {m : MS} (h : Inv pb m) : ∀ b ∈ mX m, b < 128 := fun b hb => by have := h.1 b hb; omega
theorem NK.mono {a b : Nat} {N : NN} (h : NK a N) (hab : a ≤ b) : NK b N := ⟨h.1, h.2.1, h.2.2.1, h.2.2.2.1, h.2.2.2.2.1, h.2.2.2.2.2.1, h.2.2.2.2.2.2.1, h.2.2.2.2.2.2.2.mono hab⟩
theorem Inv.mono {a b : Nat} {m : MS} (h : Inv a m) (hab : a ≤ b) : Inv b m := ⟨h.1, h.2.1, ⟨h.2.2.1.1, h.2.2.1.2.mono hab⟩, h.2.2.2⟩
theorem NK_of {a b : Nat} {N N' : NN} (h : NK a N) (hk : ∀ j, 3 ≤ j → j < 9 → N' j = N j) (h9 : Rg (N' 9) 0 200) (hp : PB b N') : NK b N' := by
  obtain ⟨h3, h4, h5, h6, h7, h8, -, -⟩ := h
  rw [← hk 3 (by omega) (by omega)] at h3
  rw [← hk 4 (by omega) (by omega)] at h4
  rw [← hk 5 (by omega) (by omega)] at h5
  rw [← hk 6 (by omega) (by omega)] at h6
  rw [← hk 7 (by omega) (by omega)] at h7
  rw [← hk 8 (by omega) (by omega)] at h8
  exact ⟨h3, h4, h5, h6, h7, h8, h9, hp⟩
theorem bot_nI {N : NN} {pl : Nat} (h : N 6 = nI pl) (h8 : 8 ≤ pl) : bot N = nI (pl - 3) := by
  unfold bot
  rw [h, pk_sub (by omega)]
theorem pOpen_9 {a : Nat} {hd : List Nat} {e : Bool} {s : PS} (h : NK a s.1) : Rg ((pOpen hd e s).1 9) 0 99 := by
  obtain ⟨h3, h4, h5, ⟨pl, h6, h61, h62⟩, h7, h8, ⟨v, h9, -, h92⟩, hp⟩ := h
  unfold pOpen pOpen0
  split
  · exact ⟨4, by simp [pHead, upd], by omega, by omega⟩
  · rename_i hn
    refine ⟨v, h9, by omega, ?_⟩
    rw [h9, bot_nI h6 h61] at hn
    have : ¬ nI (pl - 3) < nI v := fun z => hn (Or.inr z)
    have : ¬ pl - 3 < v := fun z => this (nI_lt z (by omega))
    omega
theorem pSkip1_9 {a : Nat} {hd : List Nat} {s : PS} (h : NK a s.1) (hb : ¬ bot s.1 < s.1 9) : Rg ((pSkip1 hd s).1 9) 0 99 := by
  obtain ⟨h3, h4, h5, ⟨pl, h6, h61, h62⟩, h7, h8, ⟨v, h9, -, h92⟩, hp⟩ := h
  unfold pSkip1
  split
  · exact ⟨4, by simp [pHead, upd], by omega, by omega⟩
  · refine ⟨v, h9, by omega, ?_⟩
    rw [h9, bot_nI h6 h61] at hb
    have : ¬ pl - 3 < v := fun z => hb (nI_lt z (by omega))
    omega
theorem pLine_NI {a : Nat} {hd ft o : List Nat} {e : Bool} {s : PS} (h2 : R2 s.1) (h : NK a s.1) : NI (a + 1) (pClose ft ((pOpen hd e s).1, o)).1 := by
  have h9 := pOpen_9 (hd := hd) (e := e) h
  have hp := pOpen_PB (hd := hd) (e := e) h.2.2.2.2.2.2.2
  have k : ∀ j, j ≠ 9 → j ≠ 10 → j ≠ 11 → (pOpen hd e s).1 j = s.1 j := fun j a b c => pOpen_keep hd e s ⟨a, b, c⟩
  generalize pOpen hd e s = S at h9 hp k ⊢
  obtain ⟨R, ii, a0, a1, a2, a3⟩ := h2
  obtain ⟨v, e9, -, v9⟩ := h9
  obtain ⟨sp, e3, s1, s2⟩ := h.1
  have e1 : ∀ j, j ≠ 9 → j ≠ 2 → j ≠ 12 → (pClose ft (S.1, o)).1 j = S.1 j := fun j a b c => pClose_keep ft (S.1, o) ⟨a, b, c⟩
  have e2 : (pClose ft (S.1, o)).1 2 = S.1 1 := by simp [pClose, pDown, upd]
  have e9' : (pClose ft (S.1, o)).1 9 = S.1 9 + S.1 3 := by simp [pClose, pDown, upd]
  refine ⟨⟨R, ii, ii, ?_, ?_, ?_, a2, a3, a3⟩, NK_of h (fun j h3 h9 => ?_) ?_ (pClose_PB hp)⟩
  · rw [e1 0 (by decide) (by decide) (by decide), k 0 (by decide) (by decide) (by decide)]; exact a0
  · rw [e1 1 (by decide) (by decide) (by decide), k 1 (by decide) (by decide) (by decide)]; exact a1
  · rw [e2, k 1 (by decide) (by decide) (by decide)]; exact a1
  · rw [e1 j (by omega) (by omega) (by omega), k j (by omega) (by omega) (by omega)]
  · rw [e9', e9, k 3 (by decide) (by decide) (by decide), e3, nI_add]
    exact ⟨v + sp, rfl, by omega, by omega⟩
theorem pSkip_keep (hd ft : List Nat) (n : Int32) (s : PS) {j : Nat} (h : j ≠ 9 ∧ j ≠ 10 ∧ j ≠ 11) : (pSkip hd ft n s).1 j = s.1 j := by
  unfold pSkip pSkip1
  split
  · rfl
  · split <;> simp [pDown, pHead, upd, h.1, h.2.1, h.2.2]
theorem pSkip_NI {a : Nat} {hd ft : List Nat} {n : Int32} {s : PS} (hn : Rg n 0 99) (h : NI a s.1) : NI (a + 1) (pSkip hd ft n s).1 := by
  obtain ⟨h3, hk⟩ := h
  refine ⟨?_, NK_of hk (fun j h3 h9 => pSkip_keep hd ft n s ⟨by omega, by omega, by omega⟩) ?_ (pSkip_PB hk.2.2.2.2.2.2.2)⟩
  · obtain ⟨R, ii, hh, a0, a1, a2, r⟩ := h3
    exact ⟨R, ii, hh, by rw [pSkip_keep _ _ _ _ (by decide)]; exact a0, by rw [pSkip_keep _ _ _ _ (by decide)]; exact a1, by rw [pSkip_keep _ _ _ _ (by decide)]; exact a2, r⟩
  · by_cases hb : bot s.1 < s.1 9
    · unfold pSkip
      rw [if_pos hb]
      exact hk.2.2.2.2.2.2.1
    · obtain ⟨v, e9, -, v9⟩ := pSkip1_9 (hd := hd) hk hb
      obtain ⟨n', en, -, n9⟩ := hn
      unfold pSkip
      rw [if_neg hb]
      show Rg (upd (pSkip1 hd s).1 9 ((pSkip1 hd s).1 9 + n) 9) 0 200
      rw [show upd (pSkip1 hd s).1 9 ((pSkip1 hd s).1 9 + n) 9 = (pSkip1 hd s).1 9 + n by simp [upd], e9, en, nI_add]
      exact ⟨v + n', rfl, by omega, by omega⟩
theorem brkL_NI {hd ft : List Nat} {le : Nat → Nat → List Nat} : ∀ (r : List (Nat × Nat)) (s : PS) (b : Nat), NI b s.1 → NI (b + r.length) (brkL hd ft le r s).1
  | [], s, b, h => h
  | q :: r, s, b, h => by
    rw [brkL]
    have := brkL_NI (hd := hd) (ft := ft) (le := le) r _ (b + 1) (pLine_NI (hd := hd) (ft := ft) (o := emit (pOpen hd false s).2 (le q.1 q.2)) (e := false) h.1.two h.2)
    rw [List.length_cons, show b + (r.length + 1) = b + 1 + r.length by omega]
    exact this
/-! a BREAK -/
abbrev cl (N : NN) (j : Nat) : Nat := (N j).toNatClampNeg
noncomputable def bkB (ws : List (List Nat × Nat)) (r1 r2 : Nat) : Nat → Nat → TE := bsT (lS ws) (wS ws) r1 r2 (nS ws) (nS ws)
noncomputable def bkW (ws : List (List Nat × Nat)) (r1 r2 : Nat) : List (Nat × Nat) := wy (lS ws) (wS ws) r1 r2 (nS ws) (bkB ws r1 r2) (nS ws) 0 1
noncomputable def mBrk (m : MS) : MS := if mW m = [] then m else
  (m.1, [], brkL (mH m) (mF m) (lnE (clsP (mW m)).1 (clsP (mW m)).2.1 (clsP (mW m)).2.2.1 (clsP (mW m)).2.2.2 (cl (mP m).1 0 - cl (mP m).1 2) (cl (mP m).1 0 - cl (mP m).1 1) (nS (mW m)) (decide ((mP m).1 8 = nI 1))) (bkW (mW m) (cl (mP m).1 0 - cl (mP m).1 2) (cl (mP m).1 0 - cl (mP m).1 1)) (mP m), m.2.2.2.1,
    ((bkW (mW m) (cl (mP m).1 0 - cl (mP m).1 2) (cl (mP m).1 0 - cl (mP m).1 1)).flatMap (fun q => fct (lS (mW m)) (wS (mW m)) (cl (mP m).1 0 - cl (mP m).1 2) (cl (mP m).1 0 - cl (mP m).1 1) (nS (mW m)) q.1 q.2), lN (bkB (mW m) (cl (mP m).1 0 - cl (mP m).1 2) (cl (mP m).1 0 - cl (mP m).1 1) 0 1).1), m.2.2.2.2.2)
theorem bk_DP (ws : List (List Nat × Nat)) (r1 r2 : Nat) : DP (lS ws) (wS ws) r1 r2 (nS ws) (bkB ws r1 r2) := DP_bsT
theorem bkW_len (ws : List (List Nat × Nat)) (hok : WdOK ws) (r1 r2 : Nat) : (bkW ws r1 r2).length ≤ 4000 := by
  have h1 := Chn_len (wy_chn (bk_DP ws r1 r2) (nS ws) 0 1 (by omega) (by omega))
  have h2 := nS_le hok
  unfold bkW
  omega
theorem WdOK_nil : WdOK [] := ⟨by decide, fun q hq => absurd hq List.not_mem_nil⟩
theorem mBrk_Inv {pb : Nat} {m : MS} (h : Inv pb m) : Inv (pb + 4000) (mBrk m) := by
  unfold mBrk
  split
  · exact h.mono (by omega)
  · obtain ⟨h1, h2, h3, h4, h5⟩ := h
    refine ⟨h1, WdOK_nil, ?_, h4, h5⟩
    have := brkL_NI (hd := mH m) (ft := mF m) (le := lnE (clsP (mW m)).1 (clsP (mW m)).2.1 (clsP (mW m)).2.2.1 (clsP (mW m)).2.2.2 (cl (mP m).1 0 - cl (mP m).1 2) (cl (mP m).1 0 - cl (mP m).1 1) (nS (mW m)) (decide ((mP m).1 8 = nI 1))) (bkW (mW m) (cl (mP m).1 0 - cl (mP m).1 2) (cl (mP m).1 0 - cl (mP m).1 1)) (mP m) pb h3
    have hl := bkW_len (mW m) h2 (cl (mP m).1 0 - cl (mP m).1 2) (cl (mP m).1 0 - cl (mP m).1 1)
    exact ⟨this.1, this.2.mono (by omega)⟩
theorem b2_dec (b : Bool) : decide (b2 b = nI 1) = b := by cases b <;> decide
section BK
variable {lc : Launch} {G : GG} {σ : St2} {Q : Option Value → St2 → Prop} {m : MS} {pb : Nat}
theorem sp_brkC (hc : CV σ m) (hi : Inv pb m) (hpb : pb < 900000000) (k : ∀ σ', CV σ' (mBrk m) → Fr [4, 5, 6, 7, 12, 17, 18, 19, 20, 21] σ σ' → Q none σ') : Ev lc G mPf_breakParagraph 0 [some (.ref 0), none, none, none, none] [] σ Q := by
  obtain ⟨h1, h2, ⟨h3, hk⟩, h4, h5⟩ := hi
  obtain ⟨c1, c2, c3, c4, c5, c6⟩ := hc
  by_cases hw : mW m = []
  · have e : mBrk m = m := if_pos hw
    rw [e] at k
    have c3' := c3
    rw [hw] at c3'
    exact sp_break0 c2 c3' (k σ ⟨c1, c2, c3, c4, c5, c6⟩ Fr.rf)
  · have hU : (clsP (mW m)).2.2.2 ≠ [] := by
      show (mW m).map (fun q => q.2) ≠ []
      simpa using hw
    obtain ⟨R, ii, hh, n0, n1, n2, r1, r2, r3⟩ := h3
    obtain ⟨jf, n8⟩ := hk.2.2.2.2.2.1
    have hlen : (clsP (mW m)).2.1.length = nS (mW m) + 1 := psL_len nl _
    have hN := nS_le h2
    refine sp_break (jf := jf) (n := nS (mW m)) (bk_DP (mW m) (R - hh) (R - ii)) (cls_PaB h2) hU ⟨rfl, rfl⟩ r1 r3 r2 hlen h4 h5 c2 c3 n0 n1 n2 n8 hk.2.2.2.2.2.2.2 (by omega) fun σ' q1 q2 q3 q4 q5 => ?_
    refine k σ' ?_ q5
    have d0 : cl (mP m).1 0 = R := by show ((mP m).1 0).toNatClampNeg = R; rw [n0]; exact nI_cl (by omega)
    have d1 : cl (mP m).1 1 = ii := by show ((mP m).1 1).toNatClampNeg = ii; rw [n1]; exact nI_cl (by omega)
    have d2 : cl (mP m).1 2 = hh := by show ((mP m).1 2).toNatClampNeg = hh; rw [n2]; exact nI_cl (by omega)
    unfold mBrk
    rw [if_neg hw, d0, d1, d2, n8, b2_dec]
    exact ⟨c1.fr q5 (by decide) (by decide), q1, q2, ⟨_, q3⟩, q4, by rw [q5.a1 (by decide)]; exact c6⟩
theorem sp_brkR (hc : RV σ m) (hi : Inv pb m) (hpb : pb < 900000000) (k : ∀ σ', RV σ' (mBrk m) → Fq [24, 27, 28, 29, 30, 31, 32, 33, 34, 35, 36, 37, 38, 39, 40] [3, 6, 11, 15, 16, 24, 29, 34, 35, 36, 42, 43] σ σ' → Q none σ') : Ev lc G mMd_breakNow 0 [some (.ref 22), none, none, none] [] σ Q := by
  obtain ⟨h1, h2, ⟨h3, hk⟩, h4, h5⟩ := hi
  obtain ⟨c1, c2, c3, c4, c5, c6⟩ := hc
  by_cases hw : mW m = []
  · have e : mBrk m = m := if_pos hw
    rw [e] at k
    have c3' := c3
    rw [hw] at c3'
    exact sp_breakNow0 c3' (k σ ⟨c1, c2, c3, c4, c5, c6⟩ Fq.rf)
  · obtain ⟨R, ii, hh, n0, n1, n2, r1, r2, r3⟩ := h3
    obtain ⟨jf, n8⟩ := hk.2.2.2.2.2.1
    refine sp_breakNow (jf := jf) h2 hw r1 r3 r2 (bk_DP (mW m) (R - hh) (R - ii)) h4 h5 c2 c3 n0 n1 n2 n8 hk.2.2.2.2.2.2.2 (by omega) fun σ' q1 q2 q3 q4 q5 => ?_
    refine k σ' ?_ q5
    have d0 : cl (mP m).1 0 = R := by show ((mP m).1 0).toNatClampNeg = R; rw [n0]; exact nI_cl (by omega)
    have d1 : cl (mP m).1 1 = ii := by show ((mP m).1 1).toNatClampNeg = ii; rw [n1]; exact nI_cl (by omega)
    have d2 : cl (mP m).1 2 = hh := by show ((mP m).1 2).toNatClampNeg = hh; rw [n2]; exact nI_cl (by omega)
    unfold mBrk
    rw [if_neg hw, d0, d1, d2, n8, b2_dec]
    exact ⟨c1.fq q5 (by decide) (by decide) (by decide), q1, q2, ⟨_, q3⟩, q4, by rw [q5.g1 (by decide)]; exact c6⟩
end BK
