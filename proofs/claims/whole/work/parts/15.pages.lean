/-! ===== pages: the model, and the class's =====
numbers by their places: 0 RIGHT, 1 INDENT, 2 THIS INDENT, 3 SPACING, 4 CENTRED, 5 UNDERLINED, 6 PAGE LENGTH, 7 FILL, 8 JUSTIFY, 9 LINE NUMBER, 10 THE PAGE, 11 THE NEXT PAGE, 12 lines PUT -/
abbrev NN : Type := Nat → Int32
abbrev PS : Type := NN × List Nat
def bot (N : NN) : Int32 := N 6 - nI 3
def i0 (v : Int32) : Int32 := if nI 0 < v then v else nI 0
def imn (x y : Int32) : Int32 := if y < x then y else x
def pHead (hd : List Nat) (s : PS) : PS := (upd (upd (upd s.1 10 (s.1 11)) 11 (s.1 11 + nI 1)) 9 (nI 4), emit s.2 (ttl hd (s.1 11).toNatClampNeg))
def pDown (ft : List Nat) (n : Int32) (s : PS) : PS := (upd s.1 9 (s.1 9 + n), if bot s.1 < s.1 9 + n then emit s.2 (ttl ft (s.1 10).toNatClampNeg) else s.2)
def pOpen0 (hd : List Nat) (s : PS) : PS := if s.1 9 = 0 ∨ bot s.1 < s.1 9 then pHead hd s else s
def pOpen (hd : List Nat) (e : Bool) (s : PS) : PS := ((pOpen0 hd s).1, if e then (pOpen0 hd s).2 else emit (pOpen0 hd s).2 (List.replicate ((pOpen0 hd s).1 2).toNatClampNeg 32))
def pClose (ft : List Nat) (s : PS) : PS := pDown ft (s.1 3) (upd (upd s.1 2 (s.1 1)) 12 (s.1 12 + nI 1), emit (emit s.2 [10]) (List.replicate (imn (s.1 3 - nI 1) (i0 (bot s.1 - s.1 9))).toNatClampNeg 10))
def pSkip1 (hd : List Nat) (s : PS) : PS := if s.1 9 = 0 then pHead hd s else s
def pSkip (hd ft : List Nat) (n : Int32) (s : PS) : PS := if bot s.1 < s.1 9 then s else pDown ft n ((pSkip1 hd s).1, emit (pSkip1 hd s).2 (List.replicate (imn n (bot (pSkip1 hd s).1 + nI 1 - (pSkip1 hd s).1 9)).toNatClampNeg 10))
/-- page numbers that are numbers -/
def PB (b : Nat) (N : NN) : Prop := ∃ p q, N 11 = nI p ∧ N 10 = nI q ∧ p ≤ b ∧ q ≤ b
theorem PB.mono {a b : Nat} {N : NN} (h : PB a N) (hab : a ≤ b) : PB b N := by
  obtain ⟨p, q, h1, h2, h3, h4⟩ := h
  exact ⟨p, q, h1, h2, by omega, by omega⟩
theorem PB.keep {b k : Nat} {N : NN} {v : Int32} (h : PB b N) (h1 : k ≠ 11) (h2 : k ≠ 10) : PB b (upd N k v) := by
  obtain ⟨p, q, e1, e2, h3, h4⟩ := h
  exact ⟨p, q, by simp [upd, Ne.symm h1, e1], by simp [upd, Ne.symm h2, e2], h3, h4⟩
theorem pHead_PB {b : Nat} {hd : List Nat} {s : PS} (h : PB b s.1) : PB (b + 1) (pHead hd s).1 := by
  obtain ⟨p, q, e1, e2, h3, h4⟩ := h
  exact ⟨p + 1, p, by simp [pHead, upd, e1, nI_add], by simp [pHead, upd, e1], by omega, by omega⟩
theorem pDown_PB {b : Nat} {ft : List Nat} {n : Int32} {s : PS} (h : PB b s.1) : PB b (pDown ft n s).1 := h.keep (by decide) (by decide)
theorem pOpen0_PB {b : Nat} {hd : List Nat} {s : PS} (h : PB b s.1) : PB (b + 1) (pOpen0 hd s).1 := by
  unfold pOpen0; split
  · exact pHead_PB h
  · exact h.mono (by omega)
theorem pOpen_PB {b : Nat} {hd : List Nat} {e : Bool} {s : PS} (h : PB b s.1) : PB (b + 1) (pOpen hd e s).1 := pOpen0_PB h
theorem pClose_PB {b : Nat} {ft : List Nat} {s : PS} (h : PB b s.1) : PB b (pClose ft s).1 := pDown_PB (s := (_, _)) ((h.keep (by decide) (by decide)).keep (by decide) (by decide))
theorem pSkip_PB {b : Nat} {hd ft : List Nat} {n : Int32} {s : PS} (h : PB b s.1) : PB (b + 1) (pSkip hd ft n s).1 := by
  unfold pSkip; split
  · exact h.mono (by omega)
  · refine pDown_PB (s := (_, _)) ?_
    show PB (b + 1) (pSkip1 hd s).1
    unfold pSkip1; split
    · exact pHead_PB h
    · exact h.mono (by omega)
def PgV (σ : St2) (N : NN) (hd ft o : List Nat) : Prop := (∀ k, k < 9 → σ.1 4 k = N k) ∧ (∀ k, k < 4 → σ.1 7 (k + 4) = N (k + 9)) ∧ TextAt σ 8 hd ∧ TextAt σ 10 ft ∧ OutAt σ o
theorem PgV.fr {S : List Nat} {σ σ' : St2} {N : NN} {hd ft o : List Nat} (h : PgV σ N hd ft o) (hf : Fr S σ σ') (hs : ∀ c ∈ [4, 5, 6, 7, 8, 9, 10, 11], c ∉ S) : PgV σ' N hd ft o :=
  ⟨fun k hk => by rw [hf.a1 (hs 4 (by decide))]; exact h.1 k hk, fun k hk => by rw [hf.a1 (hs 7 (by decide))]; exact h.2.1 k hk, h.2.2.1.fr hf (hs 8 (by decide)) (hs 9 (by decide)), h.2.2.2.1.fr hf (hs 10 (by decide)) (hs 11 (by decide)), h.2.2.2.2.fr hf (hs 5 (by decide)) (hs 6 (by decide))⟩
theorem PgV.out {σ σ' : St2} {N : NN} {hd ft o o' : List Nat} (h : PgV σ N hd ft o) (hf : Fr [5, 6] σ σ') (ho : OutAt σ' o') : PgV σ' N hd ft o' :=
  ⟨fun k hk => by rw [hf.a1 (by decide)]; exact h.1 k hk, fun k hk => by rw [hf.a1 (by decide)]; exact h.2.1 k hk, h.2.2.1.fr hf (by decide) (by decide), h.2.2.2.1.fr hf (by decide) (by decide), ho⟩
theorem PgV.setP {σ : St2} {N : NN} {hd ft o : List Nat} (h : PgV σ N hd ft o) (k : Nat) (hk : k < 4) (v : Int32) : PgV (up2 σ.1 7 (k + 4) v, σ.2) (upd N (k + 9) v) hd ft o := by
  have hf : Fr [7] σ (up2 σ.1 7 (k + 4) v, σ.2) := Fr.u1 (by decide)
  refine ⟨fun j hj => ?_, fun j hj => ?_, h.2.2.1.fr hf (by decide) (by decide), h.2.2.2.1.fr hf (by decide) (by decide), h.2.2.2.2.fr hf (by decide) (by decide)⟩
  · rw [hf.a1 (by decide), h.1 j hj, upd, if_neg (by omega)]
  · show up2 σ.1 7 (k + 4) v 7 (j + 4) = _
    by_cases e : j = k
    · subst e
      rw [up2_same, upd, if_pos rfl]
    · rw [up2_col _ _ _ (by omega), h.2.1 j hj, upd, if_neg (by omega)]
theorem PgV.setL {σ : St2} {N : NN} {hd ft o : List Nat} (h : PgV σ N hd ft o) (k : Nat) (hk : k < 9) (v : Int32) : PgV (up2 σ.1 4 k v, σ.2) (upd N k v) hd ft o := by
  have hf : Fr [4] σ (up2 σ.1 4 k v, σ.2) := Fr.u1 (by decide)
  refine ⟨fun j hj => ?_, fun j hj => ?_, h.2.2.1.fr hf (by decide) (by decide), h.2.2.2.1.fr hf (by decide) (by decide), h.2.2.2.2.fr hf (by decide) (by decide)⟩
  · show up2 σ.1 4 k v 4 j = _
    by_cases e : j = k
    · subst e
      rw [up2_same, upd, if_pos rfl]
    · rw [up2_col _ _ _ e, h.1 j hj, upd, if_neg e]
  · rw [hf.a1 (by decide), h.2.1 j hj, upd, if_neg (by omega)]
section PG
variable {lc : Launch} {G : GG} {σ : St2} {Q : Option Value → St2 → Prop} {N : NN} {hd ft o : List Nat}
theorem sp_isBegun (h : PgV σ N hd ft o) (k : Q (some (.int (if N 9 = 0 then nI 0 else nI 1))) σ) : Ev lc G mPg_isBegun 0 [some (.ref 7)] [] σ Q := by
  have e : σ.1 7 4 = N 9 := h.2.1 0 (by decide)
  refine ev_if_eq okPg_isBegun rfl rfl trivial (fun q => ?_) (fun q => ?_)
  · rw [e] at q
    rw [if_pos q] at k
    exact ev_nop okPg_isBegun rfl rfl trivial (ev_rz okPg_isBegun rfl rfl trivial rfl (Or.inl rfl) k)
  · rw [e] at q
    rw [if_neg q] at k
    exact ev_goto okPg_isBegun rfl rfl trivial (ev_rz okPg_isBegun rfl rfl trivial rfl (Or.inr rfl) k)
theorem sp_bottom (h : PgV σ N hd ft o) (k : Q (some (.int (bot N))) σ) : Ev lc G mPg_bottom 0 [some (.ref 7)] [] σ Q := by
  have e : σ.1 4 6 = N 6 := h.1 6 (by decide)
  refine ev_ri okPg_bottom rfl rfl trivial rfl ?_
  rw [e]
  exact k
theorem sp_begin (h : PgV σ N hd ft o) (hb : ∀ b ∈ hd, b < 128) {B : Nat} (hB : B < 2 ^ 31) (hp : PB B N) (k : ∀ σ', PgV σ' (pHead hd (N, o)).1 hd ft (pHead hd (N, o)).2 → Fr [5, 6, 7] σ σ' → Q none σ') : Ev lc G mPg_begin 0 [some (.ref 7)] [] σ Q := by
  obtain ⟨p, q, e1, e2, h3, h4⟩ := hp
  have e6 : σ.1 7 6 = nI p := (h.2.1 2 (by decide)).trans e1
  have h1 := (h.setP 1 (by decide) (σ.1 7 6)).setP 2 (by decide) (up2 σ.1 7 5 (σ.1 7 6) 7 6 + nI 1)
  refine ev_cv okPg_begin okOu_putMargin rfl rfl trivial rfl (by decide +kernel) rfl rfl ?_
  have e5 : (up2 (up2 σ.1 7 5 (σ.1 7 6), σ.2).1 7 6 ((up2 σ.1 7 5 (σ.1 7 6), σ.2).1 7 6 + nI 1), (up2 σ.1 7 5 (σ.1 7 6), σ.2).2).1 7 5 = nI p := by simp [up2, e6]
  rw [e5]
  refine sp_putMargin (Or.inl rfl) (by omega) hb h1.2.2.1 h1.2.2.2.2 fun σ1 q1 q2 => ?_
  refine ev_rv okPg_begin rfl rfl trivial rfl (k _ ?_ ?_)
  · have h2 := (h1.out q2 q1).setP 0 (by decide) (nI 4)
    have e7 : upd (upd (upd N (1 + 9) (σ.1 7 6)) (2 + 9) (up2 σ.1 7 5 (σ.1 7 6) 7 6 + nI 1)) (0 + 9) (nI 4) = (pHead hd (N, o)).1 := by
      simp [pHead, up2, e6, e1]
    rw [e7] at h2
    have e8 : (pHead hd (N, o)).2 = emit o (ttl hd p) := by simp [pHead, e1, nI_cl (show p < 2 ^ 31 by omega)]
    rw [e8]
    exact h2
  · exact Fr.tr (Fr.tr (Fr.tr (Fr.u1 (by decide)) (Fr.u1 (σ := (_, _)) (by decide))) (q2.wk (by decide))) (Fr.u1 (by decide))
theorem sp_goDown (h : PgV σ N hd ft o) (hb : ∀ b ∈ ft, b < 128) {B : Nat} (hB : B < 2 ^ 31) (hp : PB B N) {n : Int32} (k : ∀ σ', PgV σ' (pDown ft n (N, o)).1 hd ft (pDown ft n (N, o)).2 → Fr [5, 6, 7] σ σ' → Q none σ') : Ev lc G mPg_goDown 0 [some (.ref 7), some (.int n)] [] σ Q := by
  obtain ⟨p, q, e1, e2, h3, h4⟩ := hp
  have e4 : σ.1 7 4 = N 9 := h.2.1 0 (by decide)
  have e5 : σ.1 7 5 = nI q := (h.2.1 1 (by decide)).trans e2
  have h1 : PgV (up2 σ.1 7 4 (σ.1 7 4 + n), σ.2) (upd N 9 (N 9 + n)) hd ft o := by
    have := h.setP 0 (by decide) (σ.1 7 4 + n)
    rw [e4] at this ⊢
    exact this
  have hf : Fr [5, 6, 7] σ (up2 σ.1 7 4 (σ.1 7 4 + n), σ.2) := Fr.u1 (by decide)
  refine ev_cv okPg_goDown okPg_bottom rfl rfl trivial rfl (by decide +kernel) rfl rfl (sp_bottom h1 ?_)
  have eb : bot (upd N 9 (N 9 + n)) = bot N := by simp [bot, upd]
  rw [eb]
  have e9 : (up2 σ.1 7 4 (σ.1 7 4 + n), σ.2).1 7 4 = N 9 + n := by simp [up2, e4]
  refine ev_ic_le okPg_goDown rfl rfl trivial (fun g => ?_) (fun g => ?_)
  · rw [e9] at g
    refine ev_rv okPg_goDown rfl rfl trivial rfl (k _ ?_ hf)
    have : (pDown ft n (N, o)).2 = o := by
      show (if bot N < N 9 + n then _ else o) = o
      rw [if_neg (Int32.not_lt.mpr g)]
    rw [this]
    exact h1
  · rw [e9] at g
    refine ev_cv okPg_goDown okOu_putMargin rfl rfl trivial rfl (by decide +kernel) rfl rfl ?_
    have e10 : (up2 σ.1 7 4 (σ.1 7 4 + n), σ.2).1 7 5 = nI q := by simp [up2, e5]
    rw [e10]
    refine sp_putMargin (Or.inr rfl) (by omega) hb h1.2.2.2.1 h1.2.2.2.2 fun σ1 q1 q2 => ?_
    refine ev_rv okPg_goDown rfl rfl trivial rfl (k _ ?_ (hf.tr (q2.wk (by decide))))
    have : (pDown ft n (N, o)).2 = emit o (ttl ft q) := by
      show (if bot N < N 9 + n then emit o (ttl ft (N 10).toNatClampNeg) else o) = _
      rw [if_pos (Int32.not_le.mp g), e2, nI_cl (by omega)]
    rw [this]
    exact h1.out q2 q1
theorem sp_openLine (h : PgV σ N hd ft o) (hb : ∀ b ∈ hd, b < 128) {B : Nat} (hB : B < 2 ^ 31) (hp : PB B N) {e : Bool} (k : ∀ σ', PgV σ' (pOpen hd e (N, o)).1 hd ft (pOpen hd e (N, o)).2 → Fr [5, 6, 7] σ σ' → Q none σ') : Ev lc G mPg_openLine 0 [some (.ref 7), some (.int (b2 e))] [] σ Q := by
  have e4 : σ.1 7 4 = N 9 := h.2.1 0 (by decide)
  have fin : ∀ σ1, PgV σ1 (pOpen0 hd (N, o)).1 hd ft (pOpen0 hd (N, o)).2 → Fr [5, 6, 7] σ σ1 → Ev lc G mPg_openLine 22 [some (.ref 7), some (.int (b2 e))] [] σ1 Q := by
    intro σ1 h1 hf
    refine ev_if_ne okPg_openLine rfl rfl trivial (fun g => ?_) (fun g => ?_)
    · cases e with
      | true => exact ev_rv okPg_openLine rfl rfl trivial rfl (k σ1 h1 hf)
      | false => exact absurd rfl g
    · cases e with
      | true => exact absurd g (by decide)
      | false =>
        refine ev_cv okPg_openLine okOu_repeat rfl rfl trivial rfl (by decide +kernel) rfl rfl ?_
        rw [show σ1.1 4 2 = (pOpen0 hd (N, o)).1 2 from h1.1 2 (by decide)]
        exact sp_repeat h1.2.2.2.2 (by decide) _ fun σ2 q1 q2 => ev_rv okPg_openLine rfl rfl trivial rfl (k σ2 (h1.out q2 q1) (hf.tr (q2.wk (by decide))))
  have head : (N 9 = 0 ∨ bot N < N 9) → Ev lc G mPg_openLine 18 [some (.ref 7), some (.int (b2 e))] [] σ Q := by
    intro hc
    refine ev_cv okPg_openLine okPg_begin rfl rfl trivial rfl (by decide +kernel) rfl rfl (sp_begin h hb hB hp fun σ1 q1 q2 => fin σ1 ?_ q2)
    have : pOpen0 hd (N, o) = pHead hd (N, o) := if_pos hc
    rw [this]
    exact q1
  refine ev_cv okPg_openLine okPg_isBegun rfl rfl trivial rfl (by decide +kernel) rfl rfl (sp_isBegun h ?_)
  refine ev_if_eq okPg_openLine rfl rfl trivial (fun g => ?_) (fun g => ?_)
  · refine head (Or.inl ?_)
    by_cases q : N 9 = 0
    · exact q
    · rw [if_neg q] at g
      exact absurd g (by decide)
  · have g0 : ¬ N 9 = 0 := fun q => g (by rw [if_pos q]; rfl)
    refine ev_cv okPg_openLine okPg_bottom rfl rfl trivial rfl (by decide +kernel) rfl rfl (sp_bottom h ?_)
    refine ev_ic_le okPg_openLine rfl rfl trivial (fun g2 => ?_) (fun g2 => ?_)
    · rw [e4] at g2
      have : pOpen0 hd (N, o) = (N, o) := if_neg (by rintro (q | q); exact g0 q; exact absurd q (Int32.not_lt.mpr g2))
      refine fin σ ?_ Fr.rf
      rw [this]
      exact h
    · rw [e4] at g2
      exact head (Or.inr (Int32.not_le.mp g2))
theorem sp_closeLine (h : PgV σ N hd ft o) (hb : ∀ b ∈ ft, b < 128) {B : Nat} (hB : B < 2 ^ 31) (hp : PB B N) (k : ∀ σ', PgV σ' (pClose ft (N, o)).1 hd ft (pClose ft (N, o)).2 → Fr [4, 5, 6, 7] σ σ' → Q none σ') : Ev lc G mPg_closeLine 0 [some (.ref 7), none] [] σ Q := by
  refine ev_cv okPg_closeLine okOu_put rfl rfl trivial rfl (by decide +kernel) rfl rfl (sp_put h.2.2.2.2 (by decide) fun σ1 q1 q2 => ?_)
  have h1 := h.out q2 q1
  have f1 : Fr [4, 5, 6, 7] σ σ1 := q2.wk (by decide)
  have e41 : σ1.1 4 1 = N 1 := h1.1 1 (by decide)
  have h2 := h1.setL 2 (by decide) (σ1.1 4 1)
  have f2 : Fr [4, 5, 6, 7] σ1 (up2 σ1.1 4 2 (σ1.1 4 1), σ1.2) := Fr.u1 (by decide)
  rw [e41] at h2 f2
  refine ev_cv okPg_closeLine okPg_bottom rfl rfl trivial rfl (by decide +kernel) rfl rfl ?_
  rw [e41]
  refine sp_bottom h2 ?_
  have eb : bot (upd N 2 (N 1)) = bot N := by simp [bot, upd]
  rw [eb]
  refine ev_max okPg_closeLine rfl rfl trivial (by decide +kernel) rfl ?_
  have e74 : (up2 σ1.1 4 2 (N 1), σ1.2).1 7 4 = N 9 := by simp [up2]; exact h1.2.1 0 (by decide)
  rw [e74]
  refine ev_min okPg_closeLine rfl rfl trivial (by decide +kernel) rfl ?_
  have e43 : (up2 σ1.1 4 2 (N 1), σ1.2).1 4 3 = N 3 := by simp [up2]; exact h1.1 3 (by decide)
  rw [e43]
  refine ev_cv okPg_closeLine okOu_repeat rfl rfl trivial rfl (by decide +kernel) rfl rfl (sp_repeat h2.2.2.2.2 (by decide) _ fun σ2 r1 r2 => ?_)
  have h3 := h2.out r2 r1
  have f3 : Fr [4, 5, 6, 7] σ σ2 := (f1.tr f2).tr (r2.wk (by decide))
  have e77 : σ2.1 7 7 = N 12 := (h3.2.1 3 (by decide)).trans (by simp [upd])
  have h4 := h3.setP 3 (by decide) (σ2.1 7 7 + nI 1)
  have e432 : (up2 σ2.1 7 7 (σ2.1 7 7 + nI 1), σ2.2).1 4 3 = N 3 := by
    rw [h4.1 3 (by decide)]; simp [upd]
  refine ev_cv okPg_closeLine okPg_goDown rfl rfl trivial rfl (by decide +kernel) rfl rfl ?_
  rw [e432]
  refine sp_goDown h4 hb hB ((hp.keep (by decide) (by decide)).keep (by decide) (by decide)) fun σ3 s1 s2 => ?_
  refine ev_rv okPg_closeLine rfl rfl trivial rfl (k σ3 ?_ ((f3.tr (Fr.u1 (by decide))).tr (s2.wk (by decide))))
  rw [e77] at s1
  exact s1
theorem sp_skip (h : PgV σ N hd ft o) (hb : ∀ b ∈ hd, b < 128) (hb2 : ∀ b ∈ ft, b < 128) {B : Nat} (hB : B + 1 < 2 ^ 31) (hp : PB B N) {n : Int32} (k : ∀ σ', PgV σ' (pSkip hd ft n (N, o)).1 hd ft (pSkip hd ft n (N, o)).2 → Fr [5, 6, 7] σ σ' → Q none σ') : Ev lc G mPg_skip 0 [some (.ref 7), some (.int n)] [] σ Q := by
  have e4 : σ.1 7 4 = N 9 := h.2.1 0 (by decide)
  refine ev_cv okPg_skip okPg_bottom rfl rfl trivial rfl (by decide +kernel) rfl rfl (sp_bottom h ?_)
  refine ev_ic_le okPg_skip rfl rfl trivial (fun g => ?_) (fun g => ?_)
  · rw [e4] at g
    have fin : ∀ σ1, PgV σ1 (pSkip1 hd (N, o)).1 hd ft (pSkip1 hd (N, o)).2 → PB (B + 1) (pSkip1 hd (N, o)).1 → Fr [5, 6, 7] σ σ1 → Ev lc G mPg_skip 23 [some (.ref 7), some (.int n)] [] σ1 Q := by
      intro σ1 h1 hp1 hf
      refine ev_cv okPg_skip okPg_bottom rfl rfl trivial rfl (by decide +kernel) rfl rfl (sp_bottom h1 ?_)
      refine ev_min okPg_skip rfl rfl trivial (by decide +kernel) rfl ?_
      rw [show σ1.1 7 4 = (pSkip1 hd (N, o)).1 9 from h1.2.1 0 (by decide)]
      refine ev_cv okPg_skip okOu_repeat rfl rfl trivial rfl (by decide +kernel) rfl rfl (sp_repeat h1.2.2.2.2 (by decide) _ fun σ2 q1 q2 => ?_)
      refine ev_cv okPg_skip okPg_goDown rfl rfl trivial rfl (by decide +kernel) rfl rfl (sp_goDown (h1.out q2 q1) hb2 hB hp1 fun σ3 r1 r2 => ?_)
      refine ev_rv okPg_skip rfl rfl trivial rfl (k σ3 ?_ ((hf.tr (q2.wk (by decide))).tr r2))
      have : pSkip hd ft n (N, o) = pDown ft n ((pSkip1 hd (N, o)).1, emit (pSkip1 hd (N, o)).2 (List.replicate (imn n (bot (pSkip1 hd (N, o)).1 + nI 1 - (pSkip1 hd (N, o)).1 9)).toNatClampNeg 10)) := if_neg (Int32.not_lt.mpr g)
      rw [this]
      exact r1
    refine ev_cv okPg_skip okPg_isBegun rfl rfl trivial rfl (by decide +kernel) rfl rfl (sp_isBegun h ?_)
    refine ev_if_ne okPg_skip rfl rfl trivial (fun q => ?_) (fun q => ?_)
    · have g0 : ¬ N 9 = 0 := fun z => q (by rw [if_pos z]; rfl)
      have : pSkip1 hd (N, o) = (N, o) := if_neg g0
      refine fin σ ?_ ?_ Fr.rf
      · rw [this]; exact h
      · rw [this]; exact hp.mono (by omega)
    · have g0 : N 9 = 0 := by
        by_cases z : N 9 = 0
        · exact z
        · rw [if_neg z] at q
          exact absurd q (by decide)
      have : pSkip1 hd (N, o) = pHead hd (N, o) := if_pos g0
      refine ev_cv okPg_skip okPg_begin rfl rfl trivial rfl (by decide +kernel) rfl rfl (sp_begin h hb (by omega) hp fun σ1 q1 q2 => fin σ1 ?_ ?_ q2)
      · rw [this]; exact q1
      · rw [this]; exact pHead_PB hp
  · rw [e4] at g
    have : pSkip hd ft n (N, o) = (N, o) := if_pos (Int32.not_le.mp g)
    refine ev_rv okPg_skip rfl rfl trivial rfl (k σ ?_ Fr.rf)
    rw [this]
    exact h
end PG
