/-! ===== the reference: parting ===== -/
/-- places: they grow, words one by one -/
def PlB (lb wb : List Nat) : Prop := Mono lb ∧ Mono wb ∧ (∀ j, lb.getD j 0 ≤ 8000) ∧ (∀ j, wb.getD j 0 ≤ 80) ∧ ∀ b, 0 < b → b < wb.length → wb.getD b 0 = wb.getD (b - 1) 0 ∨ wb.getD b 0 = wb.getD (b - 1) 0 + 1
/-- what the reference's search reads: places, rooms -/
def RsV (σ : St2) (n : Nat) (lb wb : List Nat) (R hh ii : Nat) : Prop := (σ.1 22 11 = nI n ∧ lb.length = n + 1 ∧ wb.length = n + 1 ∧ n ≤ 4000) ∧ RowAt σ 27 lb ∧ RowAt σ 28 wb ∧ (∀ p, p ≤ n → σ.1 29 p = b2 (hyp wb p)) ∧ σ.1 22 30 = nI R ∧ σ.1 22 43 = nI hh ∧ σ.1 22 28 = nI ii
theorem RsV.fq {S F : List Nat} {σ σ' : St2} {n : Nat} {lb wb : List Nat} {R hh ii : Nat} (h : RsV σ n lb wb R hh ii) (hf : Fq S F σ σ') (hs : ∀ c ∈ [27, 28, 29], c ∉ S) (hF : ∀ f ∈ [11, 30, 43, 28], f ∉ F) : RsV σ' n lb wb R hh ii := by
  obtain ⟨⟨a1, a2⟩, b1, b2', b3, c1, c2, c3⟩ := h
  exact ⟨⟨by rw [hf.g1 (hF 11 (by decide))]; exact a1, a2⟩, b1.fq hf (hs 27 (by decide)) (by decide), b2'.fq hf (hs 28 (by decide)) (by decide), fun p hp => by rw [hf.a1 (hs 29 (by decide)) (by decide)]; exact b3 p hp, by rw [hf.g1 (hF 30 (by decide))]; exact c1, by rw [hf.g1 (hF 43 (by decide))]; exact c2, by rw [hf.g1 (hF 28 (by decide))]; exact c3⟩
theorem b2_0 {b : Bool} : b2 b = 0 ↔ b = false := by cases b <;> decide
section RT
variable {lc : Launch} {G : GG} {σ : St2} {Q : Option Value → St2 → Prop} {n R hh ii : Nat} {lb wb : List Nat}
theorem sp_blanksOf (h : RsV σ n lb wb R hh ii) (hb : PlB lb wb) {a b : Nat} (hab : a < b) (hbn : b ≤ n) (k : Q (some (.int (nI (bln wb a b)))) σ) : Ev lc G mMd_blanksOf 0 [some (.ref 22), some (.int (nI a)), some (.int (nI b))] [] σ Q := by
  obtain ⟨⟨a1, a2, a3, a4⟩, b1, b2', b3, c1, c2, c3⟩ := h
  have v1 : σ.1 29 (nI b).toNatClampNeg = b2 (hyp wb b) := by rw [nI_cl (by omega)]; exact b3 b hbn
  have v2 : σ.1 28 (nI b).toNatClampNeg = nI (wb.getD b 0) := by rw [nI_cl (by omega)]; exact b2' b (by omega)
  have v3 : σ.1 28 (nI a).toNatClampNeg = nI (wb.getD a 0) := by rw [nI_cl (by omega)]; exact b2' a (by omega)
  have m1 := hb.2.1 a (b - 1) (by omega) (by omega)
  have fin : Ev lc G mMd_blanksOf 26 [some (.ref 22), some (.int (nI a)), some (.int (nI b))] [.int (nI (wb.getD (b - 1) 0))] σ Q := by
    refine ev_ri okMd_blanksOf rfl rfl ⟨vp_nI (by omega) (by decide), trivial⟩ rfl ?_
    rw [v3, pk_sub m1]
    exact k
  refine ev_if_eq okMd_blanksOf rfl rfl ⟨vp_nI (by omega) (by decide), trivial⟩ (fun g => ?_) (fun g => ?_)
  · rw [v1, b2_0] at g
    have e : wb.getD b 0 = wb.getD (b - 1) 0 + 1 := by
      rcases hb.2.2.2.2 b (by omega) (by omega) with q | q
      · have : hyp wb b = true := decide_eq_true ⟨by omega, by omega, q⟩
        rw [this] at g
        cases g
      · exact q
    refine ev_nop okMd_blanksOf rfl rfl ⟨vp_nI (by omega) (by decide), trivial⟩ ?_
    rw [v2, e, pk_sub (by omega), Nat.add_sub_cancel]
    exact fin
  · rw [v1, b2_0] at g
    have e : wb.getD b 0 = wb.getD (b - 1) 0 := by
      have : hyp wb b = true := by simpa using g
      exact (of_decide_eq_true this).2.2
    refine ev_goto okMd_blanksOf rfl rfl ⟨vp_nI (by omega) (by decide), trivial⟩ ?_
    rw [v2, e]
    exact fin
theorem sp_lengthOfR (h : RsV σ n lb wb R hh ii) (hb : PlB lb wb) {a b : Nat} (hab : a < b) (hbn : b ≤ n) (k : Q (some (.int (nI (lnO lb wb a b)))) σ) : Ev lc G mMd_lengthOf 0 [some (.ref 22), some (.int (nI a)), some (.int (nI b))] [] σ Q := by
  obtain ⟨⟨a1, a2, a3, a4⟩, b1, b2', b3, c1, c2, c3⟩ := id h
  have v1 : σ.1 29 (nI b).toNatClampNeg = b2 (hyp wb b) := by rw [nI_cl (by omega)]; exact b3 b hbn
  refine ev_cv okMd_lengthOf okMd_blanksOf rfl rfl ⟨vp_nI (by omega) (by decide), vp_nI (by omega) (by decide), trivial⟩ rfl (by decide +kernel) rfl rfl (sp_blanksOf h hb hab hbn ?_)
  rw [nI_cl (by omega), nI_cl (by omega), b1 b (by omega), b1 a (by omega), pk_sub (hb.1 a b (by omega) (by omega))]
  unfold lnO at k
  refine ev_if_eq okMd_lengthOf rfl rfl ⟨vp_nI (by omega) (by decide), trivial⟩ (fun g => ?_) (fun g => ?_)
  · rw [v1, b2_0] at g
    rw [g] at k
    refine ev_nop okMd_lengthOf rfl rfl trivial (ev_ri okMd_lengthOf rfl rfl trivial rfl ?_)
    rw [nI_add, nI_add]
    exact k
  · rw [v1, b2_0] at g
    have g : hyp wb b = true := by simpa using g
    rw [g] at k
    refine ev_goto okMd_lengthOf rfl rfl trivial (ev_ri okMd_lengthOf rfl rfl trivial rfl ?_)
    rw [nI_add, nI_add]
    exact k
theorem sp_roomOf (h : RsV σ n lb wb R hh ii) (h1 : hh ≤ R) (h2 : ii ≤ R) {a : Nat} (ha : a ≤ 5000) (k : Q (some (.int (nI (rmO (R - hh) (R - ii) a)))) σ) : Ev lc G mMd_roomOf 0 [some (.ref 22), some (.int (nI a))] [] σ Q := by
  obtain ⟨⟨a1, a2, a3, a4⟩, b1, b2', b3, c1, c2, c3⟩ := h
  unfold rmO at k
  refine ev_if_ne okMd_roomOf rfl rfl trivial (fun q => ?_) (fun q => ?_)
  · have q : ¬ a = 0 := fun e => q (by rw [e]; rfl)
    rw [if_neg q] at k
    refine ev_nop okMd_roomOf rfl rfl trivial (ev_ri okMd_roomOf rfl rfl trivial rfl ?_)
    rw [c1, c3, pk_sub h2]
    exact k
  · have q : a = 0 := (nI_eq (by omega) (by decide)).mp (show nI a = nI 0 from (by simpa using q : nI a = 0))
    rw [if_pos q] at k
    refine ev_goto okMd_roomOf rfl rfl trivial (ev_ri okMd_roomOf rfl rfl trivial rfl ?_)
    rw [c1, c2, pk_sub h1]
    exact k
theorem lnO_le (hb : PlB lb wb) (a b : Nat) : lnO lb wb a b ≤ 8081 ∧ bln wb a b ≤ 80 := by
  have h1 := hb.2.2.1 b
  have h2 := hb.2.2.2.1 (b - 1)
  unfold lnO ltr bln
  constructor
  · split <;> omega
  · omega
theorem rmO_le {r1 r2 a : Nat} (h1 : r1 ≤ 80) (h2 : r2 ≤ 80) : rmO r1 r2 a ≤ 80 := by unfold rmO; split <;> omega
theorem sp_slackOf (h : RsV σ n lb wb R hh ii) (hb : PlB lb wb) (hR : R ≤ 80) (h1 : hh ≤ R) (h2 : ii ≤ R) {a b : Nat} (hab : a < b) (hbn : b ≤ n) (k : Q (some (.int (nI (rmO (R - hh) (R - ii) a - lnO lb wb a b)))) σ) : Ev lc G mMd_slackOf 0 [some (.ref 22), some (.int (nI a)), some (.int (nI b)), none] [] σ Q := by
  have h4 := h.1.2.2.2
  have l1 := lnO_le hb a b
  have l2 := rmO_le (a := a) (show R - hh ≤ 80 by omega) (show R - ii ≤ 80 by omega)
  refine ev_cv okMd_slackOf okMd_roomOf rfl rfl trivial rfl (by decide +kernel) rfl rfl (sp_roomOf h h1 h2 (by omega) ?_)
  refine ev_cv okMd_slackOf okMd_lengthOf rfl rfl trivial rfl (by decide +kernel) rfl rfl (sp_lengthOfR h hb hab hbn ?_)
  refine ev_if_ge okMd_slackOf rfl rfl trivial (fun g => ?_) (fun g => ?_)
  · have hle : lnO lb wb a b ≤ rmO (R - hh) (R - ii) a := Nat.le_of_not_lt (fun q => absurd (pk_sneg (by omega) q) (Int32.not_lt.mpr g))
    refine ev_nop okMd_slackOf rfl rfl trivial (ev_ri okMd_slackOf rfl rfl trivial rfl ?_)
    rw [pk_sub hle]
    exact k
  · have hle : ¬ lnO lb wb a b ≤ rmO (R - hh) (R - ii) a := fun q => g (by rw [pk_sub q]; exact nI_pos' (by omega))
    refine ev_goto okMd_slackOf rfl rfl trivial (ev_ri okMd_slackOf rfl rfl trivial rfl ?_)
    rw [show rmO (R - hh) (R - ii) a - lnO lb wb a b = 0 by omega] at k
    exact k
theorem sp_badnessOfR (h : RsV σ n lb wb R hh ii) (hb : PlB lb wb) (hR : R ≤ 80) (h1 : hh ≤ R) (h2 : ii ≤ R) {a b : Nat} (hab : a < b) (hbn : b ≤ n) (k : Q (some (.int (nI (bdO lb wb (R - hh) (R - ii) n a b)))) σ) : Ev lc G mMd_badnessOf 0 [some (.ref 22), some (.int (nI a)), some (.int (nI b)), none, none, none, none, none, none] [] σ Q := by
  have h4 := h.1.2.2.2
  have l1 := lnO_le hb a b
  have l2 := rmO_le (a := a) (show R - hh ≤ 80 by omega) (show R - ii ≤ 80 by omega)
  unfold bdO at k
  refine ev_cv okMd_badnessOf okMd_lengthOf rfl rfl trivial rfl (by decide +kernel) rfl rfl (sp_lengthOfR h hb hab hbn ?_)
  refine ev_cv okMd_badnessOf okMd_roomOf rfl rfl trivial rfl (by decide +kernel) rfl rfl (sp_roomOf h h1 h2 (by omega) ?_)
  generalize hlen : lnO lb wb a b = len at *
  generalize hroom : rmO (R - hh) (R - ii) a = room at *
  generalize hg : bln wb a b = g at *
  unfold bad at k
  refine ev_ic_le okMd_badnessOf rfl rfl trivial (fun q => ?_) (fun q => ?_)
  · have q : len ≤ room := (nI_leI (by omega) (by omega)).mp q
    rw [if_neg (by omega)] at k
    refine ev_cv okMd_badnessOf okMd_slackOf rfl rfl trivial rfl (by decide +kernel) rfl rfl (sp_slackOf h hb hR h1 h2 hab hbn ?_)
    rw [hroom, hlen]
    refine ev_cv okMd_badnessOf okMd_blanksOf rfl rfl trivial rfl (by decide +kernel) rfl rfl (sp_blanksOf h hb hab hbn ?_)
    rw [hg]
    have hs : room - len ≤ 80 := by omega
    generalize hS : room - len = s at *
    have z : (decide (b = n)) = true ∨ s = 0 → Ev lc G mMd_badnessOf 49 [some (.ref 22), some (.int (nI a)), some (.int (nI b)), some (.long (nI s).toInt64), none, some (.long (nI g).toInt64), none, none, none] [] σ Q := by
      intro q2
      rw [if_pos q2] at k
      exact ev_ri okMd_badnessOf rfl rfl trivial rfl k
    refine ev_ic_eq okMd_badnessOf rfl rfl trivial (fun q2 => ?_) (fun q2 => ?_)
    · rw [h.1.1] at q2
      exact z (Or.inl (decide_eq_true ((nI_eq (by omega) (by omega)).mp q2)))
    · rw [h.1.1] at q2
      have q2 : ¬ b = n := fun e => q2 (by rw [e])
      have es : (nI s).toInt64 = lN s := nI_l (by omega)
      have eg : (nI g).toInt64 = lN g := nI_l (by omega)
      refine ev_if_ne okMd_badnessOf rfl rfl trivial (fun q3 => ?_) (fun q3 => ?_)
      · rw [lg_cmp_eq, es] at q3
        have q3 : ¬ s = 0 := fun e => q3 (by rw [e]; rfl)
        rw [if_neg (by rintro (e | e); exact q2 (of_decide_eq_true e); exact q3 e)] at k
        have w : g = 0 ∨ 20 * g < s → Ev lc G mMd_badnessOf 69 [some (.ref 22), some (.int (nI a)), some (.int (nI b)), some (.long (nI s).toInt64), none, some (.long (nI g).toInt64), none, none, none] [] σ Q := by
          intro q4
          rw [if_pos q4] at k
          exact ev_ri okMd_badnessOf rfl rfl trivial rfl k
        refine ev_if_eq okMd_badnessOf rfl rfl trivial (fun q4 => w (Or.inl ?_)) (fun q4 => ?_)
        · rw [lg_cmp_eq, eg] at q4
          exact (lN_eq (by omega) (by decide)).mp q4
        · rw [lg_cmp_eq, eg] at q4
          have q4 : ¬ g = 0 := fun e => q4 (by rw [e]; rfl)
          refine ev_if_le okMd_badnessOf rfl rfl trivial (fun q5 => ?_) (fun q5 => w (Or.inr ?_))
          · rw [lg_cmp_le, es, eg, lN_mul] at q5
            have q5 : s ≤ 20 * g := (lN_le (by omega) (by omega)).mp q5
            rw [if_neg (by rintro (e | e); exact q4 e; omega)] at k
            have e1 : 100 * s ≤ 8000 := by omega
            have e2 : 100 * s * s ≤ 8000 * 80 := Nat.mul_le_mul e1 hs
            have e3 : 100 * s * s * s ≤ 8000 * 80 * 80 := Nat.mul_le_mul e2 hs
            have f1 : g * g ≤ 80 * 80 := Nat.mul_le_mul l1.2 l1.2
            have f2 : g * g * g ≤ 80 * 80 * 80 := Nat.mul_le_mul f1 l1.2
            have f3 : 0 < g * g * g := Nat.mul_pos (Nat.mul_pos (by omega) (by omega)) (by omega)
            have e4 : 100 * s * s * s / (g * g * g) ≤ 8000 * 80 * 80 := Nat.le_trans (Nat.div_le_self _ _) e3
            have eq : lN 100 * (nI s).toInt64 * (nI s).toInt64 * (nI s).toInt64 / ((nI g).toInt64 * (nI g).toInt64 * (nI g).toInt64) = lN (100 * s * s * s / (g * g * g)) := by
              rw [es, eg, lN_mul, lN_mul, lN_mul, lN_mul, lN_mul, pk_lDiv (by omega) f3 (by omega)]
            have ne : ¬ (nI g).toInt64 * (nI g).toInt64 * (nI g).toInt64 = 0 := by
              rw [eg, lN_mul, lN_mul]
              intro e
              have := (lN_eq (a := g * g * g) (b := 0) (by omega) (by decide)).mp e
              omega
            refine ev_if_le okMd_badnessOf rfl rfl ⟨ne, trivial⟩ (fun q6 => ?_) (fun q6 => ?_)
            · rw [eq, lg_cmp_le] at q6
              have q6 : 100 * s * s * s / (g * g * g) ≤ 10000 := (lN_le (by omega) (by decide)).mp q6
              refine ev_nop okMd_badnessOf rfl rfl trivial (ev_ri okMd_badnessOf rfl rfl trivial rfl ?_)
              rw [eq, lN_i]
              by_cases hq : 100 * s * s * s / (g * g * g) < 10000
              · rw [if_pos hq] at k; exact k
              · rw [if_neg hq] at k
                rw [show 100 * s * s * s / (g * g * g) = 10000 by omega]
                exact k
            · rw [eq, lg_cmp_le] at q6
              have q6 : ¬ 100 * s * s * s / (g * g * g) ≤ 10000 := fun e => q6 ((lN_le (by omega) (by decide)).mpr e)
              refine ev_goto okMd_badnessOf rfl rfl trivial (ev_ri okMd_badnessOf rfl rfl trivial rfl ?_)
              rw [if_neg (by omega)] at k
              exact k
          · rw [lg_cmp_le, es, eg, lN_mul] at q5
            exact (Nat.lt_or_ge (20 * g) s).resolve_right (fun e => q5 ((lN_le (by omega) (by omega)).mpr e))
      · have q3 : lg_cmp (nI s).toInt64 (lN (0 : Fin 2).val) = 0 := by simpa using q3
        rw [lg_cmp_eq, es] at q3
        exact z (Or.inr ((lN_eq (by omega) (by decide)).mp q3))
  · have q : room < len := (Nat.lt_or_ge room len).resolve_right (fun e => q (nI_le e (by omega)))
    rw [if_pos q] at k
    exact ev_ri okMd_badnessOf rfl rfl trivial rfl k
theorem sp_kindOfR {x : Nat} (hx : x < 2 ^ 31) (k : Q (some (.int (nI (kdO x)))) σ) : Ev lc G mMd_kindOf 0 [some (.int (nI x))] [] σ Q := by
  unfold kdO at k
  refine ev_ic_ge okMd_kindOf rfl rfl trivial (fun q => ?_) (fun q => ?_)
  · have q : 13 ≤ x := (nI_leI (by decide) hx).mp q
    rw [if_neg (by omega)] at k
    refine ev_ic_ge okMd_kindOf rfl rfl trivial (fun q2 => ?_) (fun q2 => ?_)
    · have q2 : 100 ≤ x := (nI_leI (by decide) hx).mp q2
      rw [if_neg (by omega)] at k
      exact ev_nop okMd_kindOf rfl rfl trivial (ev_ri okMd_kindOf rfl rfl trivial rfl k)
    · have q2 : x < 100 := (Nat.lt_or_ge x 100).resolve_right (fun e => q2 (nI_le e hx))
      rw [if_pos q2] at k
      exact ev_goto okMd_kindOf rfl rfl trivial (ev_ri okMd_kindOf rfl rfl trivial rfl k)
  · have q : x < 13 := (Nat.lt_or_ge x 13).resolve_right (fun e => q (nI_le e hx))
    rw [if_pos q] at k
    exact ev_goto okMd_kindOf rfl rfl trivial (ev_ri okMd_kindOf rfl rfl trivial rfl k)
set_option maxRecDepth 100000 in
theorem sp_demeritsOf (h : RsV σ n lb wb R hh ii) (hb : PlB lb wb) (hR : R ≤ 80) (h1 : hh ≤ R) (h2 : ii ≤ R) {a b kb : Nat} (hab : a < b) (hbn : b ≤ n) (hk : kb < 4) (k : Q (some (.long (lN (plnD wb a b (bdO lb wb (R - hh) (R - ii) n a b) + clsh kb (kO lb wb (R - hh) (R - ii) n a b))))) σ) : Ev lc G mMd_demeritsOf 0 [some (.ref 22), some (.int (nI a)), some (.int (nI b)), some (.int (nI kb)), none, none, none, none, none, none] [] σ Q := by
  obtain ⟨⟨a1, a2, a3, a4⟩, b1, b2', b3, c1, c2, c3⟩ := id h
  have hbd : bdO lb wb (R - hh) (R - ii) n a b ≤ 10000 := bdO_le a b
  have hk3 : kO lb wb (R - hh) (R - ii) n a b < 3 := kO_lt a b
  refine ev_cv okMd_demeritsOf okMd_badnessOf rfl rfl trivial rfl (by decide +kernel) rfl rfl (sp_badnessOfR h hb hR h1 h2 hab hbn ?_)
  have e1 : lN (1 : Fin 2).val + (nI (bdO lb wb (R - hh) (R - ii) n a b)).toInt64 = lN (1 + bdO lb wb (R - hh) (R - ii) n a b) := by rw [nI_l (by omega), lN_add]; rfl
  have ek : kO lb wb (R - hh) (R - ii) n a b = kdO (bdO lb wb (R - hh) (R - ii) n a b) := rfl
  generalize hB : bdO lb wb (R - hh) (R - ii) n a b = bd at *
  have v1 : σ.1 29 (nI b).toNatClampNeg = b2 (hyp wb b) := by rw [nI_cl (by omega)]; exact b3 b hbn
  have v2 : σ.1 29 (nI a).toNatClampNeg = b2 (hyp wb a) := by rw [nI_cl (by omega)]; exact b3 a (by omega)
  -- behind the hyphens
  have fin : ∀ D : Nat, D = plnD wb a b bd → Ev lc G mMd_demeritsOf 60 [some (.ref 22), some (.int (nI a)), some (.int (nI b)), some (.int (nI kb)), some (.long (lN (1 + bd))), none, some (.long (lN D)), none, none, none] [] σ Q := by
    intro D hD
    subst hD
    refine ev_cs okMd_demeritsOf okMd_kindOf rfl rfl trivial rfl (by decide +kernel) rfl rfl ?_
    rw [lN_i, pk_sub (by omega), Nat.add_sub_cancel_left]
    refine sp_kindOfR (by omega) ?_
    rw [← ek]
    generalize hK : kO lb wb (R - hh) (R - ii) n a b = K at *
    have yes : ((kb = 0 ∧ K = 2) ∨ (kb = 2 ∧ K = 0)) → Ev lc G mMd_demeritsOf 90 [some (.ref 22), some (.int (nI a)), some (.int (nI b)), some (.int (nI kb)), some (.long (lN (1 + bd))), none, some (.long (lN (plnD wb a b bd))), none, some (.int (nI K)), none] [] σ Q := by
      intro q
      unfold clsh at k
      rw [if_pos q] at k
      refine ev_goto okMd_demeritsOf rfl rfl trivial (ev_if_eq okMd_demeritsOf rfl rfl trivial (fun g => absurd g (by decide)) (fun g => ev_goto okMd_demeritsOf rfl rfl trivial (ev_rl okMd_demeritsOf rfl rfl trivial rfl ?_)))
      rw [lN_add]
      exact k
    have no : ¬ ((kb = 0 ∧ K = 2) ∨ (kb = 2 ∧ K = 0)) → Ev lc G mMd_demeritsOf 94 [some (.ref 22), some (.int (nI a)), some (.int (nI b)), some (.int (nI kb)), some (.long (lN (1 + bd))), none, some (.long (lN (plnD wb a b bd))), none, some (.int (nI K)), none] [] σ Q := by
      intro q
      unfold clsh at k
      rw [if_neg q, Nat.add_zero] at k
      exact ev_nop okMd_demeritsOf rfl rfl trivial (ev_if_eq okMd_demeritsOf rfl rfl trivial (fun g => ev_nop okMd_demeritsOf rfl rfl trivial (ev_rl okMd_demeritsOf rfl rfl trivial rfl k)) (fun g => absurd rfl g))
    have second : ¬ (kb = 0 ∧ K = 2) → Ev lc G mMd_demeritsOf 80 [some (.ref 22), some (.int (nI a)), some (.int (nI b)), some (.int (nI kb)), some (.long (lN (1 + bd))), none, some (.long (lN (plnD wb a b bd))), none, some (.int (nI K)), none] [] σ Q := by
      intro q0
      refine ev_if_ne okMd_demeritsOf rfl rfl trivial (fun g => no ?_) (fun g => ?_)
      · have g : ¬ K = 0 := fun e => g (by rw [e]; rfl)
        rintro (q | q)
        · exact q0 q
        · exact g q.2
      · have g : K = 0 := (nI_eq (by omega) (by decide)).mp (show nI K = nI 0 from (by simpa using g : nI K = 0))
        refine ev_ic_ne okMd_demeritsOf rfl rfl trivial (fun g2 => no ?_) (fun g2 => yes (Or.inr ⟨(nI_eq (by omega) (by decide)).mp (by simpa using g2), g⟩))
        have g2 : ¬ kb = 2 := fun e => g2 (by rw [e])
        rintro (q | q)
        · exact q0 q
        · exact g2 q.1
    refine ev_ic_ne okMd_demeritsOf rfl rfl trivial (fun g => second ?_) (fun g => ?_)
    · have g : ¬ K = 2 := fun e => g (by rw [e])
      exact fun q => g q.2
    · have g : K = 2 := (nI_eq (by omega) (by decide)).mp (by simpa using g)
      refine ev_if_eq okMd_demeritsOf rfl rfl trivial (fun g2 => yes (Or.inl ⟨(nI_eq (by omega) (by decide)).mp g2, g⟩)) (fun g2 => second ?_)
      have g2 : ¬ kb = 0 := fun e => g2 (by rw [e]; rfl)
      exact fun q => g2 q.1
  refine ev_if_eq okMd_demeritsOf rfl rfl ⟨vp_nI (by omega) (by decide), trivial⟩ (fun g => ?_) (fun g => ?_)
  · rw [v1, b2_0] at g
    rw [e1, lN_mul]
    exact fin _ (by unfold plnD; rw [g, if_neg (by decide), Nat.add_zero])
  · rw [v1, b2_0] at g
    have g : hyp wb b = true := by simpa using g
    rw [e1, lN_mul]
    have no : hyp wb a = false → Ev lc G mMd_demeritsOf 56 [some (.ref 22), some (.int (nI a)), some (.int (nI b)), some (.int (nI kb)), some (.long (lN (1 + bd))), none, some (.long (lN ((1 + bd) * (1 + bd)) + lN 3000)), none, none, none] [.long (lN ((1 + bd) * (1 + bd)) + lN 3000)] σ Q := by
      intro q
      refine ev_nop okMd_demeritsOf rfl rfl trivial (ev_nop okMd_demeritsOf rfl rfl trivial ?_)
      rw [show lN (0 : Fin 2).val = lN 0 from rfl, lN_add, lN_add]
      exact fin _ (by unfold plnD; rw [g, q, if_pos rfl, if_neg (by decide), Nat.add_zero])
    refine ev_if_le okMd_demeritsOf rfl rfl trivial (fun g2 => no ?_) (fun g2 => ?_)
    · have g2 : a = 0 := by
        rcases Nat.eq_zero_or_pos a with q | q
        · exact q
        · exact absurd g2 (nI_nle q (by omega))
      exact decide_eq_false (fun z => by omega)
    · refine ev_if_eq okMd_demeritsOf rfl rfl ⟨vp_nI (by omega) (by decide), trivial⟩ (fun g3 => no ?_) (fun g3 => ?_)
      · rw [v2, b2_0] at g3
        exact g3
      · rw [v2, b2_0] at g3
        have g3 : hyp wb a = true := by simpa using g3
        refine ev_goto okMd_demeritsOf rfl rfl trivial (ev_nop okMd_demeritsOf rfl rfl trivial ?_)
        rw [lN_add, lN_add]
        exact fin _ (by unfold plnD; rw [g, g3, if_pos rfl, if_pos rfl, Nat.add_assoc])
end RT
