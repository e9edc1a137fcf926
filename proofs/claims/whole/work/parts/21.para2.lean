/-! ===== the class's Paragraph: lengths, blanks, what is written ===== -/
def Mono (l : List Nat) : Prop := ∀ i j, i ≤ j → j < l.length → l.getD i 0 ≤ l.getD j 0
/-- no word ends at that place -/
def hyp (wb : List Nat) (p : Nat) : Bool := decide (0 < p ∧ p < wb.length ∧ wb.getD p 0 = wb.getD (p - 1) 0)
def bln (wb : List Nat) (a b : Nat) : Nat := wb.getD (b - 1) 0 - wb.getD a 0
def ltr (lb : List Nat) (a b : Nat) : Nat := lb.getD b 0 - lb.getD a 0
def lnO (lb wb : List Nat) (a b : Nat) : Nat := ltr lb a b + bln wb a b + (if hyp wb b then 1 else 0)
/-- places as they come: they grow, their words are among the words -/
def PaB (L lb wb U : List Nat) : Prop := Mono lb ∧ Mono wb ∧ (∀ j, lb.getD j 0 ≤ L.length) ∧ (∀ j, wb.getD j 0 ≤ U.length) ∧ (∀ j, j + 1 < wb.length → wb.getD j 0 < U.length) ∧ (∀ b ∈ L, b < 128) ∧ ∀ u ∈ U, u < 2
section PB
variable {lc : Launch} {G : GG} {σ : St2} {Q : Option Value → St2 → Prop} {L lb wb U : List Nat}
theorem sp_isHyphen (h : PaV σ L lb wb U) (hb : PaB L lb wb U) {p : Nat} (hp : p ≤ 5000) (k : Q (some (.int (b2 (hyp wb p)))) σ) : Ev lc G mPa_isHyphen 0 [some (.ref 12), some (.int (nI p))] [] σ Q := by
  obtain ⟨⟨a1, a2, a3⟩, ⟨b1, b2', b3, b4⟩, c1, c2, d1, d2, d3⟩ := h
  have no : hyp wb p = false → Ev lc G mPa_isHyphen 33 [some (.ref 12), some (.int (nI p))] [] σ Q := by
    intro q
    rw [q] at k
    exact ev_nop okPa_isHyphen rfl rfl trivial (ev_rz okPa_isHyphen rfl rfl trivial rfl (Or.inl rfl) k)
  refine ev_if_le okPa_isHyphen rfl rfl trivial (fun g => no ?_) (fun g => ?_)
  · have e : p = 0 := by
      rcases Nat.eq_zero_or_pos p with q | q
      · exact q
      · exact absurd g (nI_nle q (by omega))
    exact decide_eq_false (fun z => by omega)
  · have e : 0 < p := Nat.pos_of_ne_zero (fun q => g (by rw [q]; decide))
    refine ev_ic_gt okPa_isHyphen rfl rfl trivial (fun g2 => no ?_) (fun g2 => ?_)
    · rw [b4] at g2
      have : lb.length - 1 < p := (nI_ltI (by omega) (by omega)).mp g2
      exact decide_eq_false (fun z => by omega)
    · rw [b4] at g2
      have hle : p ≤ lb.length - 1 := Nat.le_of_not_lt (fun q => g2 (nI_lt q (by omega)))
      have v1 : σ.1 15 (nI p).toNatClampNeg = nI (wb.getD p 0) := by rw [nI_cl (by omega)]; exact c2 p (by omega)
      have v2 : σ.1 15 (nI p - nI 1).toNatClampNeg = nI (wb.getD (p - 1) 0) := by rw [pk_sub (by omega), nI_cl (by omega)]; exact c2 (p - 1) (by omega)
      have hw1 := hb.2.2.2.1 p
      have hw2 := hb.2.2.2.1 (p - 1)
      refine ev_ic_ne okPa_isHyphen rfl rfl ⟨vp_nI (by omega) (by decide), by rw [pk_sub (by omega)]; exact vp_nI (by omega) (by decide), trivial⟩ (fun g3 => no ?_) (fun g3 => ?_)
      · rw [v1, v2] at g3
        exact decide_eq_false (fun z => g3 (by rw [z.2.2]))
      · rw [v1, v2] at g3
        have g3 : wb.getD p 0 = wb.getD (p - 1) 0 := (nI_eq (by omega) (by omega)).mp g3
        have : hyp wb p = true := decide_eq_true ⟨e, by omega, g3⟩
        rw [this] at k
        exact ev_goto okPa_isHyphen rfl rfl trivial (ev_rz okPa_isHyphen rfl rfl trivial rfl (Or.inr rfl) k)
theorem sp_blanksIn (h : PaV σ L lb wb U) (hb : PaB L lb wb U) {a b : Nat} (hab : a < b) (hn : b < lb.length) (k : Q (some (.int (nI (bln wb a b)))) σ) : Ev lc G mPa_blanksIn 0 [some (.ref 12), some (.int (nI a)), some (.int (nI b))] [] σ Q := by
  obtain ⟨⟨a1, a2, a3⟩, ⟨b1, b2', b3, b4⟩, c1, c2, d1, d2, d3⟩ := h
  refine ev_if_lt okPa_blanksIn rfl rfl trivial (fun g => absurd g (nI_neg (by omega))) (fun g => ?_)
  refine ev_ic_ge okPa_blanksIn rfl rfl trivial (fun g => absurd g (nI_ge hab (by omega))) (fun g => ?_)
  refine ev_ic_le okPa_blanksIn rfl rfl trivial (fun g => ?_) (fun g => absurd (by rw [b4]; exact nI_le (by omega) (by omega)) g)
  refine ev_ri okPa_blanksIn rfl rfl ⟨by rw [pk_sub (by omega)]; exact vp_nI (by omega) (by decide), vp_nI (by omega) (by decide), trivial⟩ rfl ?_
  rw [pk_sub (by omega), nI_cl (by omega), nI_cl (by omega), c2 (b - 1) (by omega), c2 a (by omega), pk_sub (hb.2.1 a (b - 1) (by omega) (by omega))]
  exact k
theorem sp_lettersIn (h : PaV σ L lb wb U) (hb : PaB L lb wb U) {a b : Nat} (hab : a < b) (hn : b < lb.length) (k : Q (some (.int (nI (ltr lb a b)))) σ) : Ev lc G mPa_lettersIn 0 [some (.ref 12), some (.int (nI a)), some (.int (nI b))] [] σ Q := by
  obtain ⟨⟨a1, a2, a3⟩, ⟨b1, b2', b3, b4⟩, c1, c2, d1, d2, d3⟩ := h
  refine ev_if_lt okPa_lettersIn rfl rfl trivial (fun g => absurd g (nI_neg (by omega))) (fun g => ?_)
  refine ev_ic_ge okPa_lettersIn rfl rfl trivial (fun g => absurd g (nI_ge hab (by omega))) (fun g => ?_)
  refine ev_ic_le okPa_lettersIn rfl rfl trivial (fun g => ?_) (fun g => absurd (by rw [b4]; exact nI_le (by omega) (by omega)) g)
  refine ev_ri okPa_lettersIn rfl rfl ⟨vp_nI (by omega) (by decide), vp_nI (by omega) (by decide), trivial⟩ rfl ?_
  rw [nI_cl (by omega), nI_cl (by omega), c1 b hn, c1 a (by omega), pk_sub (hb.1 a b (by omega) (by omega))]
  exact k
theorem sp_lengthOf (h : PaV σ L lb wb U) (hb : PaB L lb wb U) {a b : Nat} (hab : a < b) (hn : b < lb.length) (k : Q (some (.int (nI (lnO lb wb a b)))) σ) : Ev lc G mPa_lengthOf 0 [some (.ref 12), some (.int (nI a)), some (.int (nI b))] [] σ Q := by
  have h4 := h.2.1.2.2.1
  refine ev_cv okPa_lengthOf okPa_lettersIn rfl rfl trivial rfl (by decide +kernel) rfl rfl (sp_lettersIn h hb hab hn ?_)
  refine ev_cv okPa_lengthOf okPa_blanksIn rfl rfl trivial rfl (by decide +kernel) rfl rfl (sp_blanksIn h hb hab hn ?_)
  refine ev_cv okPa_lengthOf okPa_isHyphen rfl rfl trivial rfl (by decide +kernel) rfl rfl (sp_isHyphen h hb (by omega) ?_)
  unfold lnO at k
  refine ev_if_eq okPa_lengthOf rfl rfl trivial (fun g => ?_) (fun g => ?_)
  · have e : hyp wb b = false := by
      cases q : hyp wb b with
      | false => rfl
      | true => rw [q] at g; exact absurd g (by decide)
    refine ev_nop okPa_lengthOf rfl rfl trivial (ev_ri okPa_lengthOf rfl rfl trivial rfl ?_)
    rw [e] at k
    rw [nI_add, nI_add]
    exact k
  · have e : hyp wb b = true := by
      cases q : hyp wb b with
      | true => rfl
      | false => rw [q] at g; exact absurd rfl g
    refine ev_goto okPa_lengthOf rfl rfl trivial (ev_ri okPa_lengthOf rfl rfl trivial rfl ?_)
    rw [e] at k
    rw [nI_add, nI_add]
    exact k
/-- the bytes of the piece behind place p -/
def pce (L lb wb U : List Nat) (p : Nat) : List Nat := und (U.getD (wb.getD p 0) 0) ((L.take (lb.getD (p + 1) 0)).drop (lb.getD p 0))
theorem sp_writePiece {o : List Nat} (h : PaV σ L lb wb U) (hb : PaB L lb wb U) (ho : OutAt σ o) {p : Nat} (hp : p + 1 < lb.length) (k : ∀ σ', OutAt σ' (emit o (pce L lb wb U p)) → Fr [5, 6] σ σ' → Q none σ') : Ev lc G mPa_writePiece 0 [some (.ref 12), some (.ref 5), some (.int (nI p)), none, none] [] σ Q := by
  obtain ⟨⟨a1, a2, a3⟩, ⟨b1, b2', b3, b4⟩, c1, c2, d1, d2, d3⟩ := id h
  have hw : wb.getD p 0 < U.length := hb.2.2.2.2.1 p (by omega)
  have v1 : σ.1 15 (nI p).toNatClampNeg = nI (wb.getD p 0) := by rw [nI_cl (by omega)]; exact c2 p (by omega)
  have hu : U.getD (wb.getD p 0) 0 < 2 := getD_lt hb.2.2.2.2.2.2 (by decide)
  have v2 : σ.1 16 (nI (wb.getD p 0)).toNatClampNeg = nI (U.getD (wb.getD p 0) 0) := by rw [nI_cl (by omega)]; exact d3 _ hw
  have hl1 := hb.2.2.1 p
  have hl2 := hb.2.2.1 (p + 1)
  have fin : ∀ u : Nat, u = U.getD (wb.getD p 0) 0 → Ev lc G mPa_writePiece 44 [some (.ref 12), some (.ref 5), some (.int (nI p)), none, none] [.int (nI u)] σ Q := by
    intro u hu'
    refine ev_cv okPa_writePiece okOu_putBytes rfl rfl ⟨vp_nI (by omega) (by decide), by rw [nI_add]; exact vp_nI (by omega) (by decide), trivial⟩ rfl (by decide +kernel) rfl rfl ?_
    rw [nI_add, nI_cl (by omega), nI_cl (by omega), c1 p (by omega), c1 (p + 1) (by omega)]
    refine sp_putBytes (Or.inr ⟨rfl, by omega⟩) hl2 (hb.1 p (p + 1) (by omega) (by omega)) (by omega) hb.2.2.2.2.2.1 a3 ho fun σ1 q1 q2 => ?_
    refine ev_rv okPa_writePiece rfl rfl trivial rfl (k σ1 ?_ q2)
    unfold pce
    rw [← hu']
    exact q1
  refine ev_if_lt okPa_writePiece rfl rfl trivial (fun g => absurd g (nI_neg (by omega))) (fun g => ?_)
  refine ev_ic_lt okPa_writePiece rfl rfl trivial (fun g => ?_) (fun g => absurd (by rw [b4]; exact nI_lt (by omega) (by omega)) g)
  refine ev_if_lt okPa_writePiece rfl rfl ⟨vp_nI (by omega) (by decide), trivial⟩ (fun g => absurd g (by rw [v1]; exact nI_neg (by omega))) (fun g => ?_)
  rw [v1]
  refine ev_ic_ge okPa_writePiece rfl rfl trivial (fun g => absurd g (nI_ge (by omega) (by decide))) (fun g => ?_)
  refine ev_if_eq okPa_writePiece rfl rfl ⟨vp_nI (by omega) (by decide), trivial⟩ (fun g => ?_) (fun g => ?_)
  · rw [v2] at g
    have e : U.getD (wb.getD p 0) 0 = 0 := (nI_eq (by omega) (by decide)).mp g
    exact ev_nop okPa_writePiece rfl rfl trivial (ev_lv [some (.ref 12), some (.ref 5), some (.int (nI p)), none, none] ⟨rfl, rfl, rfl, trivial⟩ (fin 0 e.symm))
  · rw [v2] at g
    have e : ¬ U.getD (wb.getD p 0) 0 = 0 := fun q => g (by rw [q]; rfl)
    exact ev_goto okPa_writePiece rfl rfl trivial (ev_lv [some (.ref 12), some (.ref 5), some (.int (nI p)), none, none] ⟨rfl, rfl, rfl, trivial⟩ (fin 1 (by omega)))
/-- how many blanks the k-th (from 0 on) of g becomes -/
def gap (sl g k : Nat) : Nat := 1 + sl * (k + 1) / g - sl * k / g
/-- pieces from place p on, m of them; a: the line's beginning; k blanks have come -/
def wrt (pc : Nat → List Nat) (wb : List Nat) (a g sl : Nat) : Nat → Nat → Nat → List Nat
  | 0, _, _ => []
  | m + 1, p, k => if a < p ∧ 0 < g ∧ hyp wb p = false then List.replicate (gap sl g k) 32 ++ pc p ++ wrt pc wb a g sl m (p + 1) (k + 1) else pc p ++ wrt pc wb a g sl m (p + 1) k
theorem lp_write {a b sl : Nat} (hsl : sl ≤ 1000) : ∀ (m p k : Nat) (σ : St2) (o : List Nat), p + m = b → b < lb.length → a ≤ p → k ≤ p → PaV σ L lb wb U → PaB L lb wb U → OutAt σ o →
    (∀ σ', OutAt σ' (emit o (wrt (pce L lb wb U) wb a (bln wb a b) sl m p k ++ (if hyp wb b then [45] else []))) → Fr [5, 6] σ σ' → Q none σ') →
    Ev lc G mPa_write 14 [some (.ref 12), some (.ref 5), some (.int (nI a)), some (.int (nI b)), some (.int (nI sl)), some (.int (nI (bln wb a b))), some (.int (nI k)), some (.int (nI p))] [] σ Q := by
  intro m
  induction m with
  | zero =>
    intro p k σ o hm hn ha hk h hb ho kk
    have h4 := h.2.1.2.2.1
    refine ev_ic_ge okPa_write rfl rfl trivial (fun g => ?_) (fun g => absurd (nI_le (by omega) (by omega)) g)
    refine ev_cv okPa_write okPa_isHyphen rfl rfl trivial rfl (by decide +kernel) rfl rfl (sp_isHyphen h hb (by omega) ?_)
    refine ev_if_eq okPa_write rfl rfl trivial (fun g => ?_) (fun g => ?_)
    · have e : hyp wb b = false := by
        cases q : hyp wb b with
        | false => rfl
        | true => rw [q] at g; exact absurd g (by decide)
      rw [e] at kk
      refine ev_rv okPa_write rfl rfl trivial rfl (kk σ ?_ Fr.rf)
      rw [show wrt (pce L lb wb U) wb a (bln wb a b) sl 0 p k ++ (if (false : Bool) = true then [45] else []) = [] from rfl, emit_nil ho.1]
      exact ho
    · have e : hyp wb b = true := by
        cases q : hyp wb b with
        | true => rfl
        | false => rw [q] at g; exact absurd rfl g
      rw [e] at kk
      refine ev_cv okPa_write okOu_put rfl rfl trivial rfl (by decide +kernel) rfl rfl (sp_put ho (by decide) fun σ1 q1 q2 => ?_)
      exact ev_rv okPa_write rfl rfl trivial rfl (kk σ1 q1 q2)
  | succ m ih =>
    intro p k σ o hm hn ha hk h hb ho kk
    have h4 := h.2.1.2.2.1
    have hlt : p < b := by omega
    have hbl : bln wb a b ≤ 80 := by
      have h1 := hb.2.2.2.1 (b - 1)
      have h2 := h.2.2.2.2.1
      unfold bln
      omega
    rw [wrt] at kk
    -- the piece, and on
    have piece : ∀ (k' : Nat) (σ1 : St2) (o1 : List Nat), k' ≤ p + 1 → OutAt σ1 o1 → Fr [5, 6] σ σ1 →
        (∀ σ', OutAt σ' (emit o1 (pce L lb wb U p ++ wrt (pce L lb wb U) wb a (bln wb a b) sl m (p + 1) k' ++ (if hyp wb b then [45] else []))) → Fr [5, 6] σ σ' → Q none σ') →
        Ev lc G mPa_write 70 [some (.ref 12), some (.ref 5), some (.int (nI a)), some (.int (nI b)), some (.int (nI sl)), some (.int (nI (bln wb a b))), some (.int (nI k')), some (.int (nI p))] [] σ1 Q := by
      intro k' σ1 o1 hk' h1 h2 h3
      have hp1 := h.fr h2 (by decide)
      refine ev_cv okPa_write okPa_writePiece rfl rfl trivial rfl (by decide +kernel) rfl rfl (sp_writePiece hp1 hb h1 (by omega) fun σ2 q1 q2 => ?_)
      refine ev_goto okPa_write rfl rfl trivial ?_
      rw [nI_add]
      refine ih (p + 1) k' σ2 _ (by omega) hn (by omega) (by omega) (hp1.fr q2 (by decide)) hb q1 (fun σ' r1 r2 => h3 σ' ?_ ((h2.tr q2).tr r2))
      rw [emit_emit, ← List.append_assoc] at r1
      exact r1
    refine ev_ic_ge okPa_write rfl rfl trivial (fun g => absurd g (nI_ge hlt (by omega))) (fun g => ?_)
    refine ev_ic_le okPa_write rfl rfl trivial (fun g => ?_) (fun g => ?_)
    · have g : ¬ a < p := Nat.not_lt.mpr ((nI_leI (by omega) (by omega)).mp g)
      rw [if_neg (fun z => g z.1)] at kk
      exact piece k σ o (by omega) ho Fr.rf kk
    · have g : a < p := (Nat.lt_or_ge a p).resolve_right (fun q => g (nI_le q (by omega)))
      refine ev_if_le okPa_write rfl rfl trivial (fun g2 => ?_) (fun g2 => ?_)
      · have g2 : ¬ 0 < bln wb a b := fun q => absurd g2 (nI_nle q (by omega))
        rw [if_neg (fun z => g2 z.2.1)] at kk
        exact piece k σ o (by omega) ho Fr.rf kk
      · have g2 : 0 < bln wb a b := Nat.pos_of_ne_zero (fun q => g2 (by rw [q]; decide))
        refine ev_cv okPa_write okPa_isHyphen rfl rfl trivial rfl (by decide +kernel) rfl rfl (sp_isHyphen h hb (by omega) ?_)
        refine ev_if_ne okPa_write rfl rfl trivial (fun g3 => ?_) (fun g3 => ?_)
        · have e : hyp wb p = true := by
            cases q : hyp wb p with
            | true => rfl
            | false => rw [q] at g3; exact absurd rfl g3
          rw [if_neg (fun z => by rw [e] at z; exact absurd z.2.2 (by decide))] at kk
          exact piece k σ o (by omega) ho Fr.rf kk
        · have e : hyp wb p = false := by
            cases q : hyp wb p with
            | false => rfl
            | true => rw [q] at g3; exact absurd g3 (by decide)
          rw [if_pos ⟨g, g2, e⟩] at kk
          have m1 : sl * (k + 1) < 2 ^ 31 := by
            have : sl * (k + 1) ≤ 1000 * 5000 := Nat.mul_le_mul hsl (by omega)
            omega
          have m0 : sl * k ≤ sl * (k + 1) := Nat.mul_le_mul_left _ (by omega)
          have m2 : sl * k / bln wb a b ≤ sl * (k + 1) / bln wb a b := Nat.div_le_div_right m0
          refine ev_cv okPa_write okOu_repeat rfl rfl ⟨nI_ne0 g2 (by omega), nI_ne0 g2 (by omega), trivial⟩ rfl (by decide +kernel) rfl rfl ?_
          rw [nI_add, pk_sub (show 1 ≤ k + 1 by omega), Nat.add_sub_cancel, pk_mul, pk_mul, pk_div m1 g2 (by omega), pk_div (by omega) g2 (by omega), nI_add, pk_sub (by omega)]
          refine sp_repeat ho (by decide) _ fun σ1 q1 q2 => ?_
          have hg : (nI (1 + sl * (k + 1) / bln wb a b - sl * k / bln wb a b)).toNatClampNeg = gap sl (bln wb a b) k := by
            have : sl * (k + 1) / bln wb a b ≤ sl * (k + 1) := Nat.div_le_self _ _
            have m3 : sl * (k + 1) ≤ 1000 * 5000 := Nat.mul_le_mul hsl (by omega)
            have m4 : 1 + sl * (k + 1) / bln wb a b ≤ 1 + 1000 * 5000 := Nat.add_le_add_left (Nat.le_trans this m3) 1
            rw [nI_cl (Nat.lt_of_le_of_lt (Nat.sub_le _ _) (Nat.lt_of_le_of_lt m4 (by decide)))]
            rfl
          rw [hg] at q1
          refine piece (k + 1) σ1 _ (by omega) q1 q2 (fun σ' r1 r2 => kk σ' ?_ r2)
          rw [emit_emit] at r1
          simp only [List.append_assoc] at r1 ⊢
          exact r1
theorem sp_write {o : List Nat} {a b sl : Nat} (hsl : sl ≤ 1000) (hab : a < b) (hn : b < lb.length) (h : PaV σ L lb wb U) (hb : PaB L lb wb U) (ho : OutAt σ o)
    (k : ∀ σ', OutAt σ' (emit o (wrt (pce L lb wb U) wb a (bln wb a b) sl (b - a) a 0 ++ (if hyp wb b then [45] else []))) → Fr [5, 6] σ σ' → Q none σ') :
    Ev lc G mPa_write 0 [some (.ref 12), some (.ref 5), some (.int (nI a)), some (.int (nI b)), some (.int (nI sl)), none, none, none] [] σ Q := by
  refine ev_cv okPa_write okPa_blanksIn rfl rfl trivial rfl (by decide +kernel) rfl rfl (sp_blanksIn h hb hab hn ?_)
  exact ev_nop okPa_write rfl rfl trivial (lp_write hsl (b - a) a 0 σ o (by omega) hn (Nat.le_refl _) (by omega) h hb ho k)
end PB
