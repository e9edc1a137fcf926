/-! ===== the class's Paragraph ===== -/
/-- letters, letters and words before each place (place 0 first), the words' underlining -/
def PaV (σ : St2) (L lb wb U : List Nat) : Prop := (L.length ≤ 8000 ∧ σ.1 12 4 = nI L.length ∧ RowAt σ 13 L) ∧ (lb.length = wb.length ∧ 1 ≤ lb.length ∧ lb.length ≤ 4001 ∧ σ.1 12 5 = nI (lb.length - 1)) ∧ RowAt σ 14 lb ∧ RowAt σ 15 wb ∧ U.length ≤ 80 ∧ σ.1 12 6 = nI U.length ∧ RowAt σ 16 U
theorem PaV.fr {S : List Nat} {σ σ' : St2} {L lb wb U : List Nat} (h : PaV σ L lb wb U) (hf : Fr S σ σ') (hs : ∀ c ∈ [12, 13, 14, 15, 16], c ∉ S) : PaV σ' L lb wb U := by
  obtain ⟨⟨a1, a2, a3⟩, ⟨b1, b2, b3, b4⟩, c1, c2, d1, d2, d3⟩ := h
  have e := hf.a1 (hs 12 (by decide))
  exact ⟨⟨a1, by rw [e]; exact a2, a3.fr hf (hs 13 (by decide))⟩, ⟨b1, b2, b3, by rw [e]; exact b4⟩, c1.fr hf (hs 14 (by decide)), c2.fr hf (hs 15 (by decide)), d1, by rw [e]; exact d2, d3.fr hf (hs 16 (by decide))⟩
section PA
variable {lc : Launch} {G : GG} {σ : St2} {Q : Option Value → St2 → Prop} {L lb wb U : List Nat}
theorem sp_addLetter (h : PaV σ L lb wb U) (hl : L.length < 8000) {b : Nat} (hb : b < 128) (k : ∀ σ', PaV σ' (L ++ [b]) lb wb U → Fr [12, 13] σ σ' → Q none σ') : Ev lc G mPa_addLetter 0 [some (.ref 12), some (.int (nI b))] [] σ Q := by
  obtain ⟨⟨a1, a2, a3⟩, ⟨b1, b2, b3, b4⟩, c1, c2, d1, d2, d3⟩ := h
  refine ev_ic_ge okPa_addLetter rfl rfl trivial (fun g => ?_) (fun g => ?_)
  · rw [a2] at g
    exact absurd g (nI_ge hl (by decide))
  · refine ev_nop okPa_addLetter rfl rfl ⟨by rw [a2]; exact vp_nI hl (by decide), trivial⟩ (ev_rv okPa_addLetter rfl rfl trivial rfl ?_)
    have hf : Fr [12, 13] σ (up2 (up2 σ.1 13 (σ.1 12 4).toNatClampNeg (nI b).toInt8.toInt32.toInt8.toInt32, σ.2).1 12 4 ((up2 σ.1 13 (σ.1 12 4).toNatClampNeg (nI b).toInt8.toInt32.toInt8.toInt32, σ.2).1 12 4 + nI 1), (up2 σ.1 13 (σ.1 12 4).toNatClampNeg (nI b).toInt8.toInt32.toInt8.toInt32, σ.2).2) := Fr.tr (Fr.u1 (by decide)) (Fr.u1 (σ := (_, _)) (by decide))
    refine k _ ⟨⟨by simp; omega, ?_, RowAt.push a3 ?_ fun j hj => ?_⟩, ⟨b1, b2, b3, ?_⟩, c1.fr hf (by decide), c2.fr hf (by decide), d1, ?_, d3.fr hf (by decide)⟩ hf
    · simp [up2, a2, nI_add]
    · simp [up2, a2, nI_cl (show L.length < 2 ^ 31 by omega), nI_byte hb]
    · simp [up2, a2, nI_cl (show L.length < 2 ^ 31 by omega), Nat.ne_of_lt hj]
    · simp [up2, b4]
    · simp [up2, d2]
theorem sp_addPlace (h : PaV σ L lb wb U) (hl : lb.length < 4001) (k : ∀ σ', PaV σ' L (lb ++ [L.length]) (wb ++ [U.length]) U → Fr [12, 14, 15] σ σ' → Q none σ') : Ev lc G mPa_addPlace 0 [some (.ref 12)] [] σ Q := by
  obtain ⟨⟨a1, a2, a3⟩, ⟨b1, b2, b3, b4⟩, c1, c2, d1, d2, d3⟩ := h
  have e1 : lb.length - 1 + 1 = lb.length := by omega
  refine ev_ic_ge okPa_addPlace rfl rfl trivial (fun g => ?_) (fun g => ?_)
  · rw [b4] at g
    exact absurd g (nI_ge (by omega) (by decide))
  · have e5 : (up2 σ.1 12 5 (σ.1 12 5 + nI 1), σ.2).1 12 5 = nI lb.length := by simp [up2, b4, nI_add, e1]
    have e4 : (up2 σ.1 12 5 (σ.1 12 5 + nI 1), σ.2).1 12 4 = nI L.length := by simp [up2, a2]
    refine ev_nop okPa_addPlace rfl rfl ⟨?_, ?_, trivial⟩ (ev_rv okPa_addPlace rfl rfl trivial rfl ?_)
    · rw [e5]; exact vp_nI hl (by decide)
    · rw [e5]
      have : (up2 (up2 σ.1 12 5 (σ.1 12 5 + nI 1), σ.2).1 14 (nI lb.length).toNatClampNeg ((up2 σ.1 12 5 (σ.1 12 5 + nI 1), σ.2).1 12 4), (up2 σ.1 12 5 (σ.1 12 5 + nI 1), σ.2).2).1 12 5 = nI lb.length := by
        simp [up2, b4, nI_add, e1]
      rw [this]
      exact vp_nI hl (by decide)
    · rw [e5, e4]
      have e6 : (up2 (up2 σ.1 12 5 (σ.1 12 5 + nI 1), σ.2).1 14 (nI lb.length).toNatClampNeg (nI L.length), (up2 σ.1 12 5 (σ.1 12 5 + nI 1), σ.2).2).1 12 5 = nI lb.length := by
        simp [up2, b4, nI_add, e1]
      have e7 : (up2 (up2 σ.1 12 5 (σ.1 12 5 + nI 1), σ.2).1 14 (nI lb.length).toNatClampNeg (nI L.length), (up2 σ.1 12 5 (σ.1 12 5 + nI 1), σ.2).2).1 12 6 = nI U.length := by
        simp [up2, d2]
      rw [e6, e7, nI_cl (show lb.length < 2 ^ 31 by omega)]
      have hf : Fr [12, 14, 15] σ (up2 (up2 (up2 σ.1 12 5 (σ.1 12 5 + nI 1), σ.2).1 14 lb.length (nI L.length), (up2 σ.1 12 5 (σ.1 12 5 + nI 1), σ.2).2).1 15 lb.length (nI U.length), (up2 (up2 σ.1 12 5 (σ.1 12 5 + nI 1), σ.2).1 14 lb.length (nI L.length), (up2 σ.1 12 5 (σ.1 12 5 + nI 1), σ.2).2).2) := Fr.tr (Fr.tr (Fr.u1 (by decide)) (Fr.u1 (σ := (_, _)) (by decide))) (Fr.u1 (σ := (_, _)) (by decide))
      refine k _ ⟨⟨a1, ?_, a3.fr hf (by decide)⟩, ⟨by simp [b1], by simp, by simp; omega, ?_⟩, RowAt.push c1 ?_ (fun j hj => ?_), RowAt.push c2 ?_ (fun j hj => ?_), d1, ?_, d3.fr hf (by decide)⟩ hf
      · simp [up2, a2]
      · simp [up2, b4, nI_add, e1]
      · simp [up2]
      · simp [up2, Nat.ne_of_lt hj]
      · simp [up2, ← b1]
      · have : j ≠ lb.length := by omega
        simp [up2, this]
      · simp [up2, d2]
/-- the letters and hyphen points of a word: wc words before it, B0 letters -/
def aw (wc B0 : Nat) : List Nat → Bool → List Nat → List Nat → List Nat → List Nat × List Nat × List Nat
  | [], _, L, lb, wb => (L, lb, wb)
  | b :: r, pv, L, lb, wb => if b = 94 then aw wc B0 r true L lb wb else if B0 < L.length ∧ pv = true then aw wc B0 r false (L ++ [b]) (lb ++ [L.length]) (wb ++ [wc]) else aw wc B0 r false (L ++ [b]) lb wb
theorem aw_ge (wc B0 : Nat) : ∀ (w : List Nat) (pv : Bool) (L lb wb : List Nat), lb.length ≤ (aw wc B0 w pv L lb wb).2.1.length
  | [], pv, L, lb, wb => Nat.le_refl _
  | b :: r, pv, L, lb, wb => by
    rw [aw]
    split
    · exact aw_ge wc B0 r true L lb wb
    · split
      · have := aw_ge wc B0 r false (L ++ [b]) (lb ++ [L.length]) (wb ++ [wc])
        rw [List.length_append, List.length_singleton] at this
        omega
      · exact aw_ge wc B0 r false (L ++ [b]) lb wb
theorem lp_addWord {x : List Nat} {fr to u B0 : Nat} (hb : ∀ b ∈ x, b < 128) (hto : to ≤ x.length) (hu : u < 2) : ∀ (m i : Nat) (σ : St2) (pv : Bool) (L lb wb : List Nat), i + m = to → fr ≤ i → TextAt σ 1 x → PaV σ L lb wb U → B0 ≤ L.length → (B0 < L.length → fr < i ∧ pv = decide (x.getD (i - 1) 0 = 94)) → L.length + m ≤ 8000 → (aw U.length B0 ((x.take to).drop i) pv L lb wb).2.1.length ≤ 4001 →
    (∀ σ', PaV σ' (aw U.length B0 ((x.take to).drop i) pv L lb wb).1 (aw U.length B0 ((x.take to).drop i) pv L lb wb).2.1 (aw U.length B0 ((x.take to).drop i) pv L lb wb).2.2 U → Fr [12, 13, 14, 15] σ σ' → Ev lc G mPa_addWord 81 [some (.ref 12), some (.ref 1), none, some (.int (nI to)), some (.int (nI u)), some (.int (nI B0)), none] [] σ' Q) →
    Ev lc G mPa_addWord 19 [some (.ref 12), some (.ref 1), none, some (.int (nI to)), some (.int (nI u)), some (.int (nI B0)), some (.int (nI i))] [] σ Q := by
  intro m
  induction m with
  | zero =>
    intro i σ pv L lb wb hm _ hx hp hB _ _ _ k
    have h100 := hx.1
    rw [td_nil (by omega)] at k
    refine ev_ic_ge okPa_addWord rfl rfl trivial (fun g => ev_lv [some (.ref 12), some (.ref 1), none, some (.int (nI to)), some (.int (nI u)), some (.int (nI B0)), none] ⟨rfl, rfl, rfl, rfl, rfl, trivial⟩ (k σ hp Fr.rf)) (fun g => absurd (nI_le (by omega) (by omega)) g)
  | succ m ih =>
    intro i σ pv L lb wb hm hfi hx hp hB hpv hL hlb k
    have h100 := hx.1
    have hlt : i < to := by omega
    have hbb := getD_lt (j := i) hb (by decide)
    have hL8 := hp.1.1
    rw [td_cons hlt hto] at k hlb
    refine ev_ic_ge okPa_addWord rfl rfl trivial (fun g => absurd g (nI_ge hlt (by omega))) (fun g => ?_)
    refine ev_cv okPa_addWord okTx_byteAt rfl rfl trivial rfl (by decide +kernel) rfl rfl (sp_byteAt (Or.inl rfl) hx ?_)
    rw [tb_nI h100 (by omega), if_pos (by omega)]
    refine ev_ic_ne okPa_addWord rfl rfl trivial (fun g2 => ?_) (fun g2 => ?_)
    · have e : ¬ x.getD i 0 = 94 := fun q => g2 (by rw [q])
      rw [aw, if_neg e] at k hlb
      -- the letter itself
      have letter : ∀ (σ1 : St2) (lb1 wb1 : List Nat), PaV σ1 L lb1 wb1 U → TextAt σ1 1 x → Fr [12, 13, 14, 15] σ σ1 → (aw U.length B0 ((x.take to).drop (i + 1)) false (L ++ [x.getD i 0]) lb1 wb1).2.1.length ≤ 4001 →
          (∀ σ', PaV σ' (aw U.length B0 ((x.take to).drop (i + 1)) false (L ++ [x.getD i 0]) lb1 wb1).1 (aw U.length B0 ((x.take to).drop (i + 1)) false (L ++ [x.getD i 0]) lb1 wb1).2.1 (aw U.length B0 ((x.take to).drop (i + 1)) false (L ++ [x.getD i 0]) lb1 wb1).2.2 U → Fr [12, 13, 14, 15] σ σ' → Ev lc G mPa_addWord 81 [some (.ref 12), some (.ref 1), none, some (.int (nI to)), some (.int (nI u)), some (.int (nI B0)), none] [] σ' Q) →
          Ev lc G mPa_addWord 65 [some (.ref 12), some (.ref 1), none, some (.int (nI to)), some (.int (nI u)), some (.int (nI B0)), some (.int (nI i))] [] σ1 Q := by
        intro σ1 lb1 wb1 h1 h2 h3 h4 h5
        refine ev_cv okPa_addWord okTx_byteAt rfl rfl trivial rfl (by decide +kernel) rfl rfl (sp_byteAt (Or.inl rfl) h2 ?_)
        rw [tb_nI h100 (by omega), if_pos (by omega)]
        refine ev_cv okPa_addWord okPa_addLetter rfl rfl trivial rfl (by decide +kernel) rfl rfl (sp_addLetter h1 (by omega) hbb fun σ2 q1 q2 => ?_)
        refine ev_goto okPa_addWord rfl rfl trivial ?_
        rw [nI_add]
        have f2 := h3.tr (q2.wk (T := [12, 13, 14, 15]) (by decide))
        refine ih (i + 1) σ2 false _ _ _ (by omega) (by omega) (h2.fr q2 (by decide) (by decide)) q1 (by simp; omega) (fun _ => ⟨by
          by_cases z : B0 < L.length
          · have := (hpv z).1; omega
          · omega, ?_⟩) (by simp; omega) h4 (fun σ' r1 r2 => h5 σ' r1 (f2.tr r2))
        rw [Nat.add_sub_cancel, decide_eq_false e]
      refine ev_ic_le okPa_addWord rfl rfl trivial (fun g3 => ?_) (fun g3 => ?_)
      · rw [hp.1.2.1] at g3
        have hB2 : ¬ B0 < L.length := Nat.not_lt.mpr ((nI_leI (by omega) (by omega)).mp g3)
        rw [if_neg (fun z => hB2 z.1)] at k hlb
        exact letter σ lb wb hp hx Fr.rf hlb k
      · rw [hp.1.2.1] at g3
        have hB2 : B0 < L.length := (Nat.lt_or_ge B0 L.length).resolve_right (fun q => g3 (nI_le q (by omega)))
        obtain ⟨z1, z2⟩ := hpv hB2
        refine ev_cv okPa_addWord okTx_byteAt rfl rfl trivial rfl (by decide +kernel) rfl rfl ?_
        rw [pk_sub (by omega)]
        refine sp_byteAt (Or.inl rfl) hx ?_
        rw [tb_nI h100 (by omega), if_pos (by omega)]
        have hbb2 := getD_lt (j := i - 1) hb (by decide)
        refine ev_ic_ne okPa_addWord rfl rfl trivial (fun g4 => ?_) (fun g4 => ?_)
        · have e2 : ¬ x.getD (i - 1) 0 = 94 := fun q => g4 (by rw [q])
          rw [decide_eq_false e2] at z2
          rw [if_neg (fun z => by rw [z2] at z; exact absurd z.2 (by decide))] at k hlb
          exact letter σ lb wb hp hx Fr.rf hlb k
        · have e2 : x.getD (i - 1) 0 = 94 := (nI_eq (by omega) (by decide)).mp g4
          rw [decide_eq_true e2] at z2
          rw [if_pos ⟨hB2, z2⟩] at k hlb
          have hge := aw_ge U.length B0 ((x.take to).drop (i + 1)) false (L ++ [x.getD i 0]) (lb ++ [L.length]) (wb ++ [U.length])
          rw [List.length_append, List.length_singleton] at hge
          refine ev_cv okPa_addWord okPa_addPlace rfl rfl trivial rfl (by decide +kernel) rfl rfl (sp_addPlace hp (by omega) fun σ1 q1 q2 => ?_)
          exact letter σ1 _ _ q1 (hx.fr q2 (by decide) (by decide)) (q2.wk (by decide)) hlb k
    · have e : x.getD i 0 = 94 := (nI_eq (by omega) (by decide)).mp g2
      rw [aw, if_pos e] at k hlb
      refine ev_goto okPa_addWord rfl rfl trivial (ev_goto okPa_addWord rfl rfl trivial ?_)
      rw [nI_add]
      refine ih (i + 1) σ true L lb wb (by omega) (by omega) hx hp hB (fun z => ⟨by have := (hpv z).1; omega, ?_⟩) (by omega) hlb k
      rw [Nat.add_sub_cancel, decide_eq_true e]
/-- behind a word: its end is a place -/
def addW (w : List Nat) (u : Nat) (s : List Nat × List Nat × List Nat × List Nat) : List Nat × List Nat × List Nat × List Nat :=
  let r := aw s.2.2.2.length s.1.length w false s.1 s.2.1 s.2.2.1
  (r.1, r.2.1 ++ [r.1.length], r.2.2 ++ [s.2.2.2.length + 1], s.2.2.2 ++ [u])
theorem aw_len (wc B0 : Nat) : ∀ (w : List Nat) (pv : Bool) (L lb wb : List Nat), (aw wc B0 w pv L lb wb).1.length ≤ L.length + w.length ∧ (aw wc B0 w pv L lb wb).2.1.length ≤ lb.length + w.length
  | [], pv, L, lb, wb => by simp [aw]
  | b :: r, pv, L, lb, wb => by
    rw [aw]
    split
    · have := aw_len wc B0 r true L lb wb
      simp only [List.length_cons]
      omega
    · split
      · have := aw_len wc B0 r false (L ++ [b]) (lb ++ [L.length]) (wb ++ [wc])
        simp only [List.length_append, List.length_cons, List.length_nil] at this ⊢
        omega
      · have := aw_len wc B0 r false (L ++ [b]) lb wb
        simp only [List.length_append, List.length_cons, List.length_nil] at this ⊢
        omega
theorem sp_addWord {x : List Nat} {fr to u : Nat} (hb : ∀ b ∈ x, b < 128) (hfr : fr ≤ to) (hto : to ≤ x.length) (hu : u < 2) (hx : TextAt σ 1 x) (hp : PaV σ L lb wb U) (hU : U.length < 80) (hL : L.length + (to - fr) ≤ 8000) (hlb : (aw U.length L.length ((x.take to).drop fr) false L lb wb).2.1.length < 4001)
    (k : ∀ σ', PaV σ' (addW ((x.take to).drop fr) u (L, lb, wb, U)).1 (addW ((x.take to).drop fr) u (L, lb, wb, U)).2.1 (addW ((x.take to).drop fr) u (L, lb, wb, U)).2.2.1 (U ++ [u]) → Fr [12, 13, 14, 15, 16] σ σ' → Q none σ') :
    Ev lc G mPa_addWord 0 [some (.ref 12), some (.ref 1), some (.int (nI fr)), some (.int (nI to)), some (.int (nI u)), none, none] [] σ Q := by
  have h100 := hx.1
  refine ev_ic_lt okPa_addWord rfl rfl trivial (fun g => ?_) (fun g => ?_)
  · refine ev_nop okPa_addWord rfl rfl trivial ?_
    rw [hp.1.2.1]
    refine ev_lv [some (.ref 12), some (.ref 1), none, some (.int (nI to)), some (.int (nI u)), some (.int (nI L.length)), some (.int (nI fr))] ⟨rfl, rfl, rfl, rfl, rfl, rfl, trivial⟩ (lp_addWord (fr := fr) hb hto hu (to - fr) fr σ false L lb wb (by omega) (Nat.le_refl _) hx hp (Nat.le_refl _) (fun z => absurd z (Nat.lt_irrefl _)) hL (by omega) fun σ1 h1 h2 => ?_)
    have hlen := aw_len U.length L.length ((x.take to).drop fr) false L lb wb
    have hwl : ((x.take to).drop fr).length = to - fr := by rw [List.length_drop, List.length_take]; omega
    obtain ⟨⟨a1, a2, a3⟩, ⟨b1, b2, b3, b4⟩, c1, c2, d1, d2, d3⟩ := h1
    have f1 : Fr [12, 13, 14, 15, 16] σ σ1 := h2.wk (by decide)
    have hpos : σ1.1 12 6 = nI U.length := d2
    have nb : nI u &&& 1 = nI u := nI_bit hu
    -- the word's underlining, and one word more
    have h3 : PaV (up2 (up2 σ1.1 16 (σ1.1 12 6).toNatClampNeg (nI u &&& 1), σ1.2).1 12 6 ((up2 σ1.1 16 (σ1.1 12 6).toNatClampNeg (nI u &&& 1), σ1.2).1 12 6 + nI 1), (up2 σ1.1 16 (σ1.1 12 6).toNatClampNeg (nI u &&& 1), σ1.2).2) (aw U.length L.length ((x.take to).drop fr) false L lb wb).1 (aw U.length L.length ((x.take to).drop fr) false L lb wb).2.1 (aw U.length L.length ((x.take to).drop fr) false L lb wb).2.2 (U ++ [u]) := by
      have hf : Fr [12, 16] σ1 (up2 (up2 σ1.1 16 (σ1.1 12 6).toNatClampNeg (nI u &&& 1), σ1.2).1 12 6 ((up2 σ1.1 16 (σ1.1 12 6).toNatClampNeg (nI u &&& 1), σ1.2).1 12 6 + nI 1), (up2 σ1.1 16 (σ1.1 12 6).toNatClampNeg (nI u &&& 1), σ1.2).2) := Fr.tr (Fr.u1 (by decide)) (Fr.u1 (σ := (_, _)) (by decide))
      refine ⟨⟨a1, ?_, a3.fr hf (by decide)⟩, ⟨b1, b2, b3, ?_⟩, c1.fr hf (by decide), c2.fr hf (by decide), by simp; omega, ?_, RowAt.push d3 ?_ (fun j hj => ?_)⟩
      · simp [up2, a2]
      · simp [up2, b4]
      · simp [up2, d2, nI_add]
      · simp [up2, d2, nb, nI_cl (show U.length < 2 ^ 31 by omega)]
      · simp [up2, d2, nI_cl (show U.length < 2 ^ 31 by omega), Nat.ne_of_lt hj]
    refine ev_cv okPa_addWord okPa_addPlace rfl rfl ⟨by rw [d2]; exact vp_nI hU (by decide), trivial⟩ rfl (by decide +kernel) rfl rfl (sp_addPlace h3 (by omega) fun σ2 q1 q2 => ?_)
    refine ev_rv okPa_addWord rfl rfl trivial rfl (k σ2 ?_ ((f1.tr (Fr.tr (Fr.u1 (by decide)) (Fr.u1 (σ := (_, _)) (by decide)))).tr (q2.wk (by decide))))
    rw [List.length_append, List.length_singleton] at q1
    exact q1
  · rw [hp.2.2.2.2.2.1] at g
    exact absurd (nI_lt hU (by decide)) g
theorem sp_clear (h : PaV σ L lb wb U) (h0 : lb.getD 0 0 = 0 ∧ wb.getD 0 0 = 0) (k : ∀ σ', PaV σ' [] [0] [0] [] → Fr [12] σ σ' → Q none σ') : Ev lc G mPa_clear 0 [some (.ref 12)] [] σ Q := by
  obtain ⟨⟨a1, a2, a3⟩, ⟨b1, b2, b3, b4⟩, c1, c2, d1, d2, d3⟩ := h
  refine ev_rv okPa_clear rfl rfl trivial rfl (k _ ⟨⟨by decide, ?_, RowAt.nil⟩, ⟨rfl, by decide, by decide, ?_⟩, ?_, ?_, by decide, ?_, RowAt.nil⟩ (Fr.tr (Fr.tr (Fr.u1 (by decide)) (Fr.u1 (σ := (_, _)) (by decide))) (Fr.u1 (σ := (_, _)) (by decide))))
  · simp [up2]
  · simp [up2]
  · intro j hj
    have e : j = 0 := by simpa using hj
    subst e
    have := c1 0 (by omega)
    rw [h0.1] at this
    simpa [up2] using this
  · intro j hj
    have e : j = 0 := by simpa using hj
    subst e
    have := c2 0 (by omega)
    rw [h0.2] at this
    simpa [up2] using this
  · simp [up2]
end PA
