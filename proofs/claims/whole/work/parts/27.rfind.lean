/-! ===== the reference: its search ===== -/
def TabR (σ : St2) (n : Nat) (B : Nat → Nat → TE) (a0 : Nat) : Prop := ∀ a, a0 ≤ a → a ≤ n → ∀ k, k < 3 → σ.2 31 (4 * a + k) = lN (B a k).1 ∧ σ.1 32 (4 * a + k) = nI (B a k).2.1 ∧ (a < n → σ.1 33 (4 * a + k) = nI (B a k).2.2)
def AccR (σ : St2) (i : Nat) (acc : Option TE) : Prop := match acc with
  | none => σ.2 31 i = lN 4000000000000000000 ∧ σ.1 32 i = nI 0
  | some y => σ.2 31 i = lN y.1 ∧ σ.1 32 i = nI y.2.1 ∧ σ.1 33 i = nI y.2.2 ∧ y.1 < 4000000000000000000 ∧ y.2.1 < 100000
/-- nothing but the entry i of the table has changed -/
def Ent (i : Nat) (σ σ' : St2) : Prop := Fq [31, 32, 33] [] σ σ' ∧ ∀ j, j ≠ i → σ'.2 31 j = σ.2 31 j ∧ σ'.1 32 j = σ.1 32 j ∧ σ'.1 33 j = σ.1 33 j
theorem Ent.rf {i : Nat} {σ : St2} : Ent i σ σ := ⟨Fq.rf, fun _ _ => ⟨rfl, rfl, rfl⟩⟩
theorem Ent.tr {i : Nat} {a b c : St2} (h1 : Ent i a b) (h2 : Ent i b c) : Ent i a c := ⟨h1.1.tr h2.1, fun j hj => ⟨(h2.2 j hj).1.trans (h1.2 j hj).1, (h2.2 j hj).2.1.trans (h1.2 j hj).2.1, (h2.2 j hj).2.2.trans (h1.2 j hj).2.2⟩⟩
theorem Ent.set (i : Nat) (σ : St2) (s : Int64) (l e : Int32) : Ent i σ (up2 (up2 σ.1 32 i l) 33 i e, up2 σ.2 31 i s) := by
  refine ⟨Fq.tr (Fq.tr (Fq.u2 (c := 31) (k := i) (x := s) (by decide) (by decide)) (Fq.u1 (σ := (σ.1, up2 σ.2 31 i s)) (c := 32) (k := i) (x := l) (by decide) (by decide))) (Fq.u1 (σ := (up2 σ.1 32 i l, up2 σ.2 31 i s)) (c := 33) (k := i) (x := e) (by decide) (by decide)), fun j hj => ?_⟩
  exact ⟨up2_col σ.2 31 s hj, by
    dsimp only
    rw [up2_ne _ _ _ (by decide), up2_col _ _ _ hj], by
    dsimp only
    rw [up2_col _ _ _ hj, up2_ne _ _ _ (by decide)]⟩
theorem Ent.two (i : Nat) (σ : St2) (s : Int64) (l : Int32) : Ent i σ (up2 σ.1 32 i l, up2 σ.2 31 i s) := by
  refine ⟨Fq.tr (Fq.u2 (c := 31) (k := i) (x := s) (by decide) (by decide)) (Fq.u1 (σ := (σ.1, up2 σ.2 31 i s)) (c := 32) (k := i) (x := l) (by decide) (by decide)), fun j hj => ?_⟩
  exact ⟨up2_col σ.2 31 s hj, up2_col σ.1 32 l hj, by
    dsimp only
    rw [up2_ne _ _ _ (by decide)]⟩
theorem TabR.ent {σ σ' : St2} {n a i : Nat} {B : Nat → Nat → TE} (h : TabR σ n B (a + 1)) (he : Ent i σ σ') (hi : i < 4 * a + 4) : TabR σ' n B (a + 1) := by
  intro b hb hn k hk
  obtain ⟨e1, e2, e3⟩ := he.2 (4 * b + k) (by omega)
  rw [e1, e2, e3]
  exact h b hb hn k hk
section RF
variable {lc : Launch} {G : GG} {Q : Option Value → St2 → Prop} {n R hh ii : Nat} {lb wb : List Nat} {B : Nat → Nat → TE}
set_option maxRecDepth 100000 in
theorem lp_find (hd : DP lb wb (R - hh) (R - ii) n B) (hb : PlB lb wb) (hR : R ≤ 80) (h1 : hh ≤ R) (h2 : ii ≤ R) {a kb : Nat} (ha : a < n) (hk : kb < 4) : ∀ (m b : Nat) (σ : St2) (acc : Option TE), b + m = n + 1 → a < b → RsV σ n lb wb R hh ii → TabR σ n B (a + 1) → AccR σ (4 * a + kb) acc → scn (legO lb wb (R - hh) (R - ii) a) (cndO lb wb (R - hh) (R - ii) n B a kb) m b acc = some (B a kb) →
    (∀ σ', AccR σ' (4 * a + kb) (some (B a kb)) → Ent (4 * a + kb) σ σ' → Q none σ') →
    Ev lc G mMd_findBest 54 [some (.ref 22), some (.int (nI a)), some (.int (nI kb)), some (.int (nI (4 * a + kb))), some (.int (nI 1)), some (.int (nI b)), none, none, none, none] [] σ Q := by
  intro m
  induction m with
  | zero =>
    intro b σ acc hm hab hs ht hacc hscn k
    have h4 := hs.1.2.2.2
    have e : acc = some (B a kb) := hscn
    rw [e] at hacc
    refine ev_ic_gt okMd_findBest rfl rfl trivial (fun g => ev_rv okMd_findBest rfl rfl trivial rfl (k σ hacc Ent.rf)) (fun g => absurd ?_ g)
    rw [hs.1.1]
    exact nI_lt (by omega) (by omega)
  | succ m ih =>
    intro b σ acc hm hab hs ht hacc hscn k
    have h4 := hs.1.2.2.2
    have l1 := lnO_le hb a b
    have l2 := rmO_le (a := a) (show R - hh ≤ 80 by omega) (show R - ii ≤ 80 by omega)
    refine ev_ic_gt okMd_findBest rfl rfl trivial (fun g => absurd g (by rw [hs.1.1]; exact nI_nlt (by omega) (by omega))) (fun g => ?_)
    refine ev_if_eq okMd_findBest rfl rfl trivial (fun g => absurd g (by decide)) (fun g => ?_)
    -- a line that isn't legal ends the search
    have stop : ¬ legO lb wb (R - hh) (R - ii) a b = true → Ev lc G mMd_findBest 95 [some (.ref 22), some (.int (nI a)), some (.int (nI kb)), some (.int (nI (4 * a + kb))), none, some (.int (nI b)), none, none, none, none] [] σ Q := by
      intro hno
      rw [scn, if_neg hno] at hscn
      rw [hscn] at hacc
      refine ev_nop okMd_findBest rfl rfl trivial (ev_if_eq okMd_findBest rfl rfl trivial (fun _ => ?_) (fun g => absurd rfl g))
      refine ev_goto okMd_findBest rfl rfl trivial ?_
      refine ev_ic_gt okMd_findBest rfl rfl trivial (fun g => ev_rv okMd_findBest rfl rfl trivial rfl (k σ hacc Ent.rf)) (fun g => ?_)
      exact ev_if_eq okMd_findBest rfl rfl trivial (fun g => ev_rv okMd_findBest rfl rfl trivial rfl (k σ hacc Ent.rf)) (fun g => absurd rfl g)
    have legal : legO lb wb (R - hh) (R - ii) a b = true → Ev lc G mMd_findBest 91 [some (.ref 22), some (.int (nI a)), some (.int (nI kb)), some (.int (nI (4 * a + kb))), none, some (.int (nI b)), none, none, none, none] [] σ Q := by
      intro hleg
      rw [scn, if_pos hleg] at hscn
      refine ev_goto okMd_findBest rfl rfl trivial (ev_if_eq okMd_findBest rfl rfl trivial (fun g => absurd g (by decide)) (fun _ => ?_))
      refine ev_cv okMd_findBest okMd_badnessOf rfl rfl trivial rfl (by decide +kernel) rfl rfl (sp_badnessOfR hs hb hR h1 h2 hab (by omega) ?_)
      have hbd : bdO lb wb (R - hh) (R - ii) n a b ≤ 10000 := bdO_le a b
      refine ev_cs okMd_findBest okMd_kindOf rfl rfl trivial rfl (by decide +kernel) rfl rfl (sp_kindOfR (by omega) ?_)
      have hk3 : kO lb wb (R - hh) (R - ii) n a b < 3 := kO_lt a b
      show Ev lc G mMd_findBest 117 _ (psh (some (.int (nI (kO lb wb (R - hh) (R - ii) n a b)))) _) σ Q
      refine ev_cv okMd_findBest okMd_demeritsOf rfl rfl trivial rfl (by decide +kernel) rfl rfl (sp_demeritsOf hs hb hR h1 h2 hab (by omega) hk ?_)
      have ecnd : cndO lb wb (R - hh) (R - ii) n B a kb b = (plnD wb a b (bdO lb wb (R - hh) (R - ii) n a b) + clsh kb (kO lb wb (R - hh) (R - ii) n a b) + (B b (kO lb wb (R - hh) (R - ii) n a b)).1, (B b (kO lb wb (R - hh) (R - ii) n a b)).2.1 + 1) := rfl
      rw [ecnd] at hscn
      have hcl := clsh_le kb (kO lb wb (R - hh) (R - ii) n a b)
      have hpl := plnD_le (wb := wb) (a := a) (b := b) hbd
      generalize hK : kO lb wb (R - hh) (R - ii) n a b = K at *
      obtain ⟨t1, t2, -⟩ := ht b (by omega) (by omega) K hk3
      obtain ⟨bd1, bd2⟩ := DP_bd hd (n - b) b K (by omega)
      have bd3 : (n - b) * 100038001 ≤ 4000 * 100038001 := Nat.mul_le_mul_right _ (by omega)
      generalize hD : plnD wb a b (bdO lb wb (R - hh) (R - ii) n a b) + clsh kb K = D at *
      have hDle : D ≤ 100038001 := by omega
      have eidx : nI 4 * nI b + nI K = nI (4 * b + K) := by rw [pk_mul, nI_add]
      have vp : vp_in (nI 4 * nI b + nI K) 32404 := by rw [eidx]; exact vp_nI (by omega) (by decide)
      have vs : vp_in (nI (4 * a + kb)) 32404 := vp_nI (by omega) (by decide)
      have es : (nI 4 * nI b + nI K).toNatClampNeg = 4 * b + K := by rw [eidx, nI_cl (by omega)]
      have ei : (nI (4 * a + kb)).toNatClampNeg = 4 * a + kb := nI_cl (by omega)
      -- behind the comparison
      have next : ∀ σ1 : St2, Ent (4 * a + kb) σ σ1 → AccR σ1 (4 * a + kb) (accU acc (D + (B b K).1, (B b K).2.1 + 1) b) → Ev lc G mMd_findBest 208 [some (.ref 22), some (.int (nI a)), some (.int (nI kb)), some (.int (nI (4 * a + kb))), some (.int (nI 1)), some (.int (nI b)), none, none, none, none] [] σ1 Q := by
        intro σ1 q1 q2
        refine ev_goto okMd_findBest rfl rfl trivial ?_
        rw [nI_add]
        exact ih (b + 1) σ1 _ (by omega) (by omega) (hs.fq q1.1 (by decide) (by decide)) (ht.ent q1 (by omega)) q2 hscn (fun σ' r1 r2 => k σ' r1 (q1.tr r2))
      have take : (∀ y, acc = some y → D + (B b K).1 < y.1 ∨ (D + (B b K).1 = y.1 ∧ (B b K).2.1 + 1 < y.2.1)) → Ev lc G mMd_findBest 184 [some (.ref 22), some (.int (nI a)), some (.int (nI kb)), some (.int (nI (4 * a + kb))), some (.int (nI 1)), some (.int (nI b)), some (.int (nI (4 * b + K))), some (.long (lN (D + (B b K).1))), none, some (.int (nI ((B b K).2.1 + 1)))] [] σ Q := by
        intro hy
        refine ev_nop okMd_findBest rfl rfl ⟨vs, vs, vs, trivial⟩ ?_
        rw [ei]
        refine ev_lv [some (.ref 22), some (.int (nI a)), some (.int (nI kb)), some (.int (nI (4 * a + kb))), some (.int (nI 1)), some (.int (nI b)), none, none, none, none] ⟨rfl, rfl, rfl, rfl, rfl, rfl, trivial⟩ (next _ (Ent.set (4 * a + kb) σ (lN (D + (B b K).1)) (nI ((B b K).2.1 + 1)) (nI b)) ?_)
        have : accU acc (D + (B b K).1, (B b K).2.1 + 1) b = some (D + (B b K).1, (B b K).2.1 + 1, b) := by
          unfold accU
          cases acc with
          | none => rfl
          | some y => exact if_pos (hy y rfl)
        rw [this]
        refine ⟨up2_same σ.2 31 _ _, ?_, up2_same (up2 σ.1 32 (4 * a + kb) (nI ((B b K).2.1 + 1))) 33 _ _, by show D + (B b K).1 < _; omega, by show (B b K).2.1 + 1 < _; omega⟩
        dsimp only
        rw [up2_ne _ _ _ (by decide), up2_same]
      have leave : (∃ y, acc = some y ∧ ¬ (D + (B b K).1 < y.1 ∨ (D + (B b K).1 = y.1 ∧ (B b K).2.1 + 1 < y.2.1))) → Ev lc G mMd_findBest 208 [some (.ref 22), some (.int (nI a)), some (.int (nI kb)), some (.int (nI (4 * a + kb))), some (.int (nI 1)), some (.int (nI b)), none, none, none, none] [] σ Q := by
        rintro ⟨y, hy1, hy2⟩
        refine next σ Ent.rf ?_
        rw [hy1] at hacc ⊢
        have : accU (some y) (D + (B b K).1, (B b K).2.1 + 1) b = some y := if_neg hy2
        rw [this]
        exact hacc
      have esum : lN D + lN (B b K).1 = lN (D + (B b K).1) := lN_add _ _
      refine ev_if_lt okMd_findBest rfl rfl ⟨vp, vp, vs, trivial⟩ (fun g => ?_) (fun g => ?_)
      · rw [es, t1, esum, ei, lg_cmp_lt] at g
        rw [es, t1, t2, esum, nI_add, eidx]
        refine take (fun y hy => ?_)
        rw [hy] at hacc
        obtain ⟨y1, y2, y3, y4, y5⟩ := hacc
        rw [y1] at g
        exact Or.inl ((pk_lLT (by omega) (by omega)).mp g)
      · rw [es, t1, esum, ei, lg_cmp_lt] at g
        rw [es, t1, t2, esum, nI_add, eidx]
        cases hacc' : acc with
        | none =>
          rw [hacc'] at hacc
          exact absurd (by rw [hacc.1]; exact (pk_lLT (by omega) (by decide)).mpr (by omega)) g
        | some y =>
          have hacc2 := hacc
          rw [hacc'] at hacc2
          obtain ⟨y1, y2, y3, y4, y5⟩ := hacc2
          rw [y1] at g
          have g : ¬ D + (B b K).1 < y.1 := fun q => g ((pk_lLT (by omega) (by omega)).mpr q)
          refine ev_if_ne okMd_findBest rfl rfl ⟨vs, trivial⟩ (fun g2 => ?_) (fun g2 => ?_)
          · rw [ei, y1, lg_cmp_eq] at g2
            have g2 : ¬ D + (B b K).1 = y.1 := fun q => g2 (by rw [q])
            exact ev_lv [some (.ref 22), some (.int (nI a)), some (.int (nI kb)), some (.int (nI (4 * a + kb))), some (.int (nI 1)), some (.int (nI b)), none, none, none, none] ⟨rfl, rfl, rfl, rfl, rfl, rfl, trivial⟩ (leave ⟨y, hacc', by rintro (q | q); exact g q; exact g2 q.1⟩)
          · have g2 : lg_cmp (lN (D + (B b K).1)) (σ.2 31 (nI (4 * a + kb)).toNatClampNeg) = 0 := by simpa using g2
            rw [ei, y1, lg_cmp_eq] at g2
            have g2 : D + (B b K).1 = y.1 := (pk_lEQ (by omega) (by omega)).mp g2
            refine ev_ic_ge okMd_findBest rfl rfl ⟨vs, trivial⟩ (fun g3 => ?_) (fun g3 => ?_)
            · rw [ei, y2] at g3
              have g3 : y.2.1 ≤ (B b K).2.1 + 1 := (nI_leI (by omega) (by omega)).mp g3
              exact ev_lv [some (.ref 22), some (.int (nI a)), some (.int (nI kb)), some (.int (nI (4 * a + kb))), some (.int (nI 1)), some (.int (nI b)), none, none, none, none] ⟨rfl, rfl, rfl, rfl, rfl, rfl, trivial⟩ (leave ⟨y, hacc', by rintro (q | q); exact g q; omega⟩)
            · rw [ei, y2] at g3
              have g3 : (B b K).2.1 + 1 < y.2.1 := (Nat.lt_or_ge _ _).resolve_right (fun q => g3 (nI_le q (by omega)))
              refine take (fun z hz => ?_)
              rw [hacc'] at hz
              cases hz
              exact Or.inr ⟨g2, g3⟩
    refine ev_ic_eq okMd_findBest rfl rfl trivial (fun g => ?_) (fun g => ?_)
    · rw [nI_add] at g
      have g : b = a + 1 := (nI_eq (by omega) (by omega)).mp g
      exact ev_lv [some (.ref 22), some (.int (nI a)), some (.int (nI kb)), some (.int (nI (4 * a + kb))), none, some (.int (nI b)), none, none, none, none] ⟨rfl, rfl, rfl, rfl, rfl, trivial⟩ (legal (decide_eq_true (Or.inl g)))
    · rw [nI_add] at g
      have g : ¬ b = a + 1 := fun q => g (by rw [q])
      refine ev_cv okMd_findBest okMd_lengthOf rfl rfl trivial rfl (by decide +kernel) rfl rfl (sp_lengthOfR hs hb hab (by omega) ?_)
      refine ev_cv okMd_findBest okMd_roomOf rfl rfl trivial rfl (by decide +kernel) rfl rfl (sp_roomOf hs h1 h2 (by omega) ?_)
      refine ev_ic_gt okMd_findBest rfl rfl trivial (fun g2 => ?_) (fun g2 => ?_)
      · have g2 : rmO (R - hh) (R - ii) a < lnO lb wb a b := (nI_ltI (by omega) (by omega)).mp g2
        refine ev_lv [some (.ref 22), some (.int (nI a)), some (.int (nI kb)), some (.int (nI (4 * a + kb))), none, some (.int (nI b)), none, none, none, none] ⟨rfl, rfl, rfl, rfl, rfl, trivial⟩ (stop ?_)
        unfold legO
        rw [decide_eq_true_eq]
        rintro (q | q)
        · exact g q
        · omega
      · have g2 : lnO lb wb a b ≤ rmO (R - hh) (R - ii) a := Nat.le_of_not_lt (fun q => g2 (nI_lt q (by omega)))
        exact ev_lv [some (.ref 22), some (.int (nI a)), some (.int (nI kb)), some (.int (nI (4 * a + kb))), none, some (.int (nI b)), none, none, none, none] ⟨rfl, rfl, rfl, rfl, rfl, trivial⟩ (legal (decide_eq_true (Or.inr g2)))
set_option maxRecDepth 100000 in
theorem sp_findBest {σ : St2} (hd : DP lb wb (R - hh) (R - ii) n B) (hb : PlB lb wb) (hR : R ≤ 80) (h1 : hh ≤ R) (h2 : ii ≤ R) {a kb : Nat} (ha : a ≤ n) (hk : kb < 4) (hs : RsV σ n lb wb R hh ii) (ht : TabR σ n B (a + 1))
    (k : ∀ σ', σ'.2 31 (4 * a + kb) = lN (B a kb).1 → σ'.1 32 (4 * a + kb) = nI (B a kb).2.1 → (a < n → σ'.1 33 (4 * a + kb) = nI (B a kb).2.2) → Ent (4 * a + kb) σ σ' → Q none σ') :
    Ev lc G mMd_findBest 0 [some (.ref 22), some (.int (nI a)), some (.int (nI kb)), none, none, none, none, none, none, none] [] σ Q := by
  have h4 := hs.1.2.2.2
  have es : nI 4 * nI a + nI kb = nI (4 * a + kb) := by rw [pk_mul, nI_add]
  have vs : vp_in (nI (4 * a + kb)) 32404 := vp_nI (by omega) (by decide)
  have ei : (nI (4 * a + kb)).toNatClampNeg = 4 * a + kb := nI_cl (by omega)
  refine ev_ic_ne okMd_findBest rfl rfl trivial (fun g => ?_) (fun g => ?_)
  · rw [hs.1.1] at g
    have g : ¬ a = n := fun q => g (by rw [q])
    rw [es]
    refine ev_nop okMd_findBest rfl rfl trivial ?_
    have e0 : (σ.1, up2 σ.2 31 (nI (4 * a + kb)).toNatClampNeg (lN 4000000000000000000)).1 22 11 = nI n := hs.1.1
    refine ev_ic_ge okMd_findBest rfl rfl ⟨vs, vs, trivial⟩ (fun g2 => ?_) (fun g2 => ?_)
    · have e1 : (up2 (σ.1, up2 σ.2 31 (nI (4 * a + kb)).toNatClampNeg (lN 4000000000000000000)).1 32 (nI (4 * a + kb)).toNatClampNeg (nI 0), (σ.1, up2 σ.2 31 (nI (4 * a + kb)).toNatClampNeg (lN 4000000000000000000)).2).1 22 11 = nI n := by
        dsimp only
        rw [up2_ne _ _ _ (by decide)]; exact hs.1.1
      rw [e1] at g2
      exact absurd g2 (nI_ge (by omega) (by omega))
    · refine ev_goto okMd_findBest rfl rfl trivial (ev_nop okMd_findBest rfl rfl trivial ?_)
      rw [ei, nI_add]
      have hE : Ent (4 * a + kb) σ (up2 σ.1 32 (4 * a + kb) (nI 0), up2 σ.2 31 (4 * a + kb) (lN 4000000000000000000)) := Ent.two _ _ _ _
      refine lp_find hd hb hR h1 h2 (by omega) hk (n - a) (a + 1) _ none (by omega) (by omega) (hs.fq hE.1 (by decide) (by decide)) (ht.ent hE (by omega)) ⟨up2_same σ.2 31 _ _, up2_same σ.1 32 _ _⟩ (hd.2 a kb (by omega)) (fun σ' q1 q2 => k σ' q1.1 q1.2.1 (fun _ => q1.2.2.1) (hE.tr q2))
  · have g : nI a = σ.1 22 11 := by simpa using g
    rw [hs.1.1] at g
    have g : a = n := (nI_eq (by omega) (by omega)).mp g
    rw [es]
    refine ev_goto okMd_findBest rfl rfl trivial ?_
    refine ev_ic_ge okMd_findBest rfl rfl ⟨vs, vs, trivial⟩ (fun g2 => ?_) (fun g2 => ?_)
    · refine ev_nop okMd_findBest rfl rfl trivial (ev_nop okMd_findBest rfl rfl trivial ?_)
      rw [ei, nI_add]
      have hE : Ent (4 * a + kb) σ (up2 σ.1 32 (4 * a + kb) (nI 0), up2 σ.2 31 (4 * a + kb) (lN (0 : Fin 2).val)) := Ent.two _ _ _ _
      have e1 : (up2 σ.1 32 (4 * a + kb) (nI 0), up2 σ.2 31 (4 * a + kb) (lN (0 : Fin 2).val)).1 22 11 = nI n := (hs.fq hE.1 (by decide) (by decide)).1.1
      have hB := hd.1 kb
      rw [← g] at hB
      refine ev_ic_gt okMd_findBest rfl rfl trivial (fun g3 => ev_rv okMd_findBest rfl rfl trivial rfl (k _ ?_ ?_ (fun q => by omega) hE)) (fun g3 => absurd ?_ g3)
      · rw [hB]
        exact up2_same σ.2 31 _ _
      · rw [hB]
        exact up2_same σ.1 32 _ _
      · rw [e1]
        exact nI_lt (by omega) (by omega)
    · have e1 : (up2 (σ.1, up2 σ.2 31 (nI (4 * a + kb)).toNatClampNeg (lN (0 : Fin 2).val)).1 32 (nI (4 * a + kb)).toNatClampNeg (nI 0), (σ.1, up2 σ.2 31 (nI (4 * a + kb)).toNatClampNeg (lN (0 : Fin 2).val)).2).1 22 11 = nI n := by
        dsimp only
        rw [up2_ne _ _ _ (by decide)]; exact hs.1.1
      rw [e1, g] at g2
      exact absurd (Int32.le_refl _) g2
end RF
