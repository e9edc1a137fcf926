/-! ===== the reference: layLine, note; the lines of both sides are one ===== -/
section RN
variable {lc : Launch} {G : GG} {σ : St2} {Q : Option Value → St2 → Prop} {ws : List (List Nat × Nat)} {R hh ii : Nat}
/-- the sheet of the line from a to b -/
def shC (ws : List (List Nat × Nat)) (r1 r2 : Nat) (jf : Bool) (a b : Nat) : List Nat :=
  wrt (pcR (SGs ws)) (wbS (SGs ws)) a (bln (wbS (SGs ws)) a b) (if jf = true ∧ b < (SGs ws).length then rmO r1 r2 a - lnO (lbS (SGs ws)) (wbS (SGs ws)) a b else 0) (b - a) a 0 ++ (if hyp (wbS (SGs ws)) b then [45] else [])
theorem sp_layLine (hok : WdOK ws) (hN : (SGs ws).length ≤ 4000) (hT : tot rl (SGs ws) ≤ 8000) (hR : R ≤ 80) (h1 : hh ≤ R) (h2 : ii ≤ R) (hs : RsV σ (SGs ws).length (lbS (SGs ws)) (wbS (SGs ws)) R hh ii) (hly : LyV σ ws) {jf : Bool} (hj : σ.1 22 26 = b2 jf) {a b : Nat} (hab : a < b) (hb : b ≤ (SGs ws).length) (hcap : (shC ws (R - hh) (R - ii) jf a b).length ≤ 298)
    (k : ∀ σ', LstR σ' 3 24 300 (shC ws (R - hh) (R - ii) jf a b) → Fq [24] [3] σ σ' → Q none σ') : Ev lc G mMd_layLine 0 [some (.ref 22), some (.int (nI a)), some (.int (nI b)), none, none, none, none, none] [] σ Q := by
  have hpl : PlB (lbS (SGs ws)) (wbS (SGs ws)) := cls_PlB hok
  have l2 := rmO_le (a := a) (show R - hh ≤ 80 by omega) (show R - ii ≤ 80 by omega)
  have h80 := hok.1
  have hea : tot ef ((SGs ws).take a) ≤ 80 := by
    have h5 := tot_take_all ef (SGs ws) a
    rw [tot_ef] at h5
    omega
  unfold shC at hcap k
  generalize hsl : (if jf = true ∧ b < (SGs ws).length then rmO (R - hh) (R - ii) a - lnO (lbS (SGs ws)) (wbS (SGs ws)) a b else 0) = sl at hcap k
  have hsl80 : sl ≤ 80 := by rw [← hsl]; split <;> omega
  have main : Ev lc G mMd_layLine 25 [some (.ref 22), some (.int (nI a)), some (.int (nI b)), none, none, none, none, none] [.int (nI sl)] σ Q := by
    refine ev_cv okMd_layLine okMd_blanksOf rfl rfl trivial rfl (by decide +kernel) rfl rfl (sp_blanksOf hs hpl hab hb ?_)
    have e1 : σ.1 28 (nI a).toNatClampNeg = nI (tot ef ((SGs ws).take a)) := by
      rw [nI_cl (by omega), hly.2.2.2.1 a (by rw [show (wbS (SGs ws)).length = (SGs ws).length + 1 from psL_len ef _]; omega), wb_at (by omega)]
    have e2 : σ.1 30 (nI a).toNatClampNeg = nI (tot rl ((SGs ws).take a)) := by
      rw [nI_cl (by omega), hly.2.2.2.2.2 a (by rw [show (paS (SGs ws)).length = (SGs ws).length + 1 from psL_len rl _]; omega), pa_at (by omega)]
    refine ev_nop okMd_layLine rfl rfl ⟨vp_nI (by omega) (by decide), vp_nI (by omega) (by decide), trivial⟩ ?_
    have f1 : Fq [24] [3] σ (up2 σ.1 22 3 (nI 0), σ.2) := Fq.f1 (by decide)
    have e1' : (up2 σ.1 22 3 (nI 0), σ.2).1 28 (nI a).toNatClampNeg = nI (tot ef ((SGs ws).take a)) := by rw [f1.a1 (by decide) (by decide)]; exact e1
    have e2' : (up2 σ.1 22 3 (nI 0), σ.2).1 30 (nI a).toNatClampNeg = nI (tot rl ((SGs ws).take a)) := by rw [f1.a1 (by decide) (by decide)]; exact e2
    rw [e1', e2']
    rw [List.length_append] at hcap
    refine lp_lay hok hN hT hb hab (by omega) (b - a) a 0 _ [] (by omega) (Nat.le_refl _) (by rw [if_neg (fun z => absurd z.1 (Nat.lt_irrefl _)), Nat.add_zero]) (hly.fq f1) ⟨by decide, up2_same σ.1 22 3 (nI 0), RowAt.nil⟩ (by rw [List.length_nil]; omega) (fun σ1 q1 q2 => ?_)
    rw [List.nil_append] at q1
    have f2 := f1.tr q2
    have v1 : σ1.1 29 (nI b).toNatClampNeg = b2 (hyp (wbS (SGs ws)) b) := by rw [nI_cl (by omega), f2.a1 (by decide) (by decide)]; exact hs.2.2.2.1 b hb
    refine ev_if_eq okMd_layLine rfl rfl ⟨vp_nI (by omega) (by decide), trivial⟩ (fun g => ?_) (fun g => ?_)
    · rw [v1, b2_0] at g
      refine ev_rv okMd_layLine rfl rfl trivial rfl (k σ1 ?_ f2)
      rw [g, if_neg (by decide), List.append_nil]
      exact q1
    · rw [v1, b2_0] at g
      have g : hyp (wbS (SGs ws)) b = true := by simpa using g
      rw [g, if_pos rfl] at k hcap
      obtain ⟨s1, s2, s3⟩ := q1
      have hlen : (wrt (pcR (SGs ws)) (wbS (SGs ws)) a (bln (wbS (SGs ws)) a b) sl (b - a) a 0).length < 299 := by simp at hcap; omega
      generalize wrt (pcR (SGs ws)) (wbS (SGs ws)) a (bln (wbS (SGs ws)) a b) sl (b - a) a 0 = sh at *
      refine ev_nop okMd_layLine rfl rfl ⟨by rw [s2]; exact vp_nI (by omega) (by decide), trivial⟩ (ev_rv okMd_layLine rfl rfl trivial rfl (k _ ⟨by simp; omega, ?_, RowAt.push s3 ?_ (fun q hq => ?_)⟩ (f2.tr (Fq.tr (Fq.u1 (by decide) (by decide)) (Fq.f1 (σ := (_, _)) (by decide))))))
      · simp [up2, s2, nI_add]
      · simp [up2, s2, nI_cl (show sh.length < 2 ^ 31 by omega)]
      · simp [up2, s2, nI_cl (show sh.length < 2 ^ 31 by omega), Nat.ne_of_lt hq]
  refine ev_if_eq okMd_layLine rfl rfl trivial (fun g => ?_) (fun g => ?_)
  · rw [hj, b2_0] at g
    rw [if_neg (fun z => by rw [g] at z; cases z.1)] at hsl
    subst hsl
    exact ev_nop okMd_layLine rfl rfl trivial main
  · rw [hj, b2_0] at g
    have g : jf = true := by simpa using g
    refine ev_ic_ge okMd_layLine rfl rfl trivial (fun g2 => ?_) (fun g2 => ?_)
    · rw [hs.1.1] at g2
      have g2 : (SGs ws).length ≤ b := (nI_leI (by omega) (by omega)).mp g2
      rw [if_neg (fun z => by omega)] at hsl
      subst hsl
      exact ev_nop okMd_layLine rfl rfl trivial main
    · rw [hs.1.1] at g2
      have g2 : b < (SGs ws).length := (Nat.lt_or_ge b _).resolve_right (fun z => g2 (nI_le z (by omega)))
      rw [if_pos ⟨g, g2⟩] at hsl
      refine ev_cv okMd_layLine okMd_slackOf rfl rfl trivial rfl (by decide +kernel) rfl rfl (sp_slackOf hs hpl hR h1 h2 hab hb ?_)
      rw [hsl]
      exact ev_goto okMd_layLine rfl rfl trivial main
/-- what the reference tells of lines -/
def NtV (σ : St2) (cnt : Nat) (F : List Nat) : Prop := cnt ≤ 4000 ∧ F.length = 6 * cnt ∧ σ.1 22 16 = nI cnt ∧ (∀ i, i < cnt → ∀ j, j < 6 → σ.1 (34 + j) i = nI (F.getD (6 * i + j) 0)) ∧ ∀ i, i < cnt → F.getD (6 * i + 4) 0 ≤ 1
theorem NtV.fq {S F' : List Nat} {σ σ' : St2} {cnt : Nat} {F : List Nat} (h : NtV σ cnt F) (hf : Fq S F' σ σ') (hs : ∀ c ∈ [34, 35, 36, 37, 38, 39], c ∉ S) (h16 : 16 ∉ F') : NtV σ' cnt F := by
  refine ⟨h.1, h.2.1, by rw [hf.g1 h16]; exact h.2.2.1, fun i hi j hj => ?_, h.2.2.2.2⟩
  have : 34 + j ∈ [34, 35, 36, 37, 38, 39] := by
    rcases (show j = 0 ∨ j = 1 ∨ j = 2 ∨ j = 3 ∨ j = 4 ∨ j = 5 by omega) with rfl | rfl | rfl | rfl | rfl | rfl <;> decide
  rw [hf.a1 (hs _ this) (by omega)]
  exact h.2.2.2.1 i hi j hj
theorem sp_note {n : Nat} {lb wb : List Nat} (hb : PlB lb wb) (hR : R ≤ 80) (h1 : hh ≤ R) (h2 : ii ≤ R) (hs : RsV σ n lb wb R hh ii) {cnt : Nat} {F : List Nat} (hn : NtV σ cnt F) (hc : cnt < 4000) {a b : Nat} (hab : a < b) (hbn : b ≤ n)
    (k : ∀ σ', NtV σ' (cnt + 1) (F ++ fct lb wb (R - hh) (R - ii) n a b) → Fq [34, 35, 36, 37, 38, 39] [16] σ σ' → Q none σ') : Ev lc G mMd_note 0 [some (.ref 22), some (.int (nI a)), some (.int (nI b))] [] σ Q := by
  obtain ⟨n1, n2, n3, n4, n5⟩ := hn
  have vc : vp_in (nI cnt) 8100 := vp_nI (by omega) (by decide)
  have ec : (nI cnt).toNatClampNeg = cnt := nI_cl (by omega)
  have h4 := hs.1.2.2.2
  refine ev_cv okMd_note okMd_lengthOf rfl rfl trivial rfl (by decide +kernel) rfl rfl (sp_lengthOfR hs hb hab hbn ?_)
  refine ev_cv okMd_note okMd_slackOf rfl rfl ⟨by rw [n3]; exact vc, trivial⟩ rfl (by decide +kernel) rfl rfl ?_
  rw [n3, ec]
  have f1 : Fq [34, 35, 36, 37, 38, 39] [16] σ (up2 σ.1 34 cnt (nI (lnO lb wb a b)), σ.2) := Fq.u1 (by decide) (by decide)
  generalize hS1 : (up2 σ.1 34 cnt (nI (lnO lb wb a b)), σ.2) = τ1 at f1 ⊢
  have s1 := hs.fq f1 (by decide) (by decide)
  have c1 : τ1.1 22 16 = nI cnt := by rw [← hS1]; dsimp only; rw [up2_ne _ _ _ (by decide)]; exact n3
  refine sp_slackOf s1 hb hR h1 h2 hab hbn ?_
  rw [c1]
  refine ev_cv okMd_note okMd_badnessOf rfl rfl ⟨vc, trivial⟩ rfl (by decide +kernel) rfl rfl ?_
  rw [ec]
  have f2 : Fq [34, 35, 36, 37, 38, 39] [16] τ1 (up2 τ1.1 35 cnt (nI (rmO (R - hh) (R - ii) a - lnO lb wb a b)), τ1.2) := Fq.u1 (by decide) (by decide)
  generalize hS2 : (up2 τ1.1 35 cnt (nI (rmO (R - hh) (R - ii) a - lnO lb wb a b)), τ1.2) = τ2 at f2 ⊢
  have s2 := s1.fq f2 (by decide) (by decide)
  have c2 : τ2.1 22 16 = nI cnt := by rw [← hS2]; dsimp only; rw [up2_ne _ _ _ (by decide)]; exact c1
  refine sp_badnessOfR s2 hb hR h1 h2 hab hbn ?_
  rw [c2]
  refine ev_cv okMd_note okMd_blanksOf rfl rfl ⟨vc, trivial⟩ rfl (by decide +kernel) rfl rfl ?_
  rw [ec]
  have f3 : Fq [34, 35, 36, 37, 38, 39] [16] τ2 (up2 τ2.1 36 cnt (nI (bdO lb wb (R - hh) (R - ii) n a b)), τ2.2) := Fq.u1 (by decide) (by decide)
  generalize hS3 : (up2 τ2.1 36 cnt (nI (bdO lb wb (R - hh) (R - ii) n a b)), τ2.2) = τ3 at f3 ⊢
  have s3 := s2.fq f3 (by decide) (by decide)
  have c3 : τ3.1 22 16 = nI cnt := by rw [← hS3]; dsimp only; rw [up2_ne _ _ _ (by decide)]; exact c2
  refine sp_blanksOf s3 hb hab hbn ?_
  rw [c3]
  have c4 : (up2 τ3.1 37 (nI cnt).toNatClampNeg (nI (bln wb a b)), τ3.2).1 22 16 = nI cnt := by dsimp only; rw [up2_ne _ _ _ (by decide)]; exact c3
  have i4 : (up2 τ3.1 37 (nI cnt).toNatClampNeg (nI (bln wb a b)), τ3.2).1 29 (nI b).toNatClampNeg = b2 (hyp wb b) := by dsimp only; rw [up2_ne _ _ _ (by decide), nI_cl (by omega)]; exact s3.2.2.2.1 b hbn
  have hbit : b2 (hyp wb b) &&& 1 = nI (if hyp wb b then 1 else 0) := by cases hyp wb b <;> decide
  refine ev_cv okMd_note okMd_roomOf rfl rfl ⟨vc, vp_nI (by omega) (by decide), by rw [c4]; exact vc, trivial⟩ rfl (by decide +kernel) rfl rfl ?_
  rw [c4, i4, hbit, ec]
  have f5 : Fq [34, 35, 36, 37, 38, 39] [16] τ3 (up2 (up2 τ3.1 37 cnt (nI (bln wb a b)), τ3.2).1 38 cnt (nI (if hyp wb b then 1 else 0)), (up2 τ3.1 37 cnt (nI (bln wb a b)), τ3.2).2) := Fq.tr (Fq.u1 (by decide) (by decide)) (Fq.u1 (σ := (_, _)) (by decide) (by decide))
  generalize hS5 : (up2 (up2 τ3.1 37 cnt (nI (bln wb a b)), τ3.2).1 38 cnt (nI (if hyp wb b then 1 else 0)), (up2 τ3.1 37 cnt (nI (bln wb a b)), τ3.2).2) = τ5 at f5 ⊢
  have s5 := s3.fq f5 (by decide) (by decide)
  have c5 : τ5.1 22 16 = nI cnt := by rw [← hS5]; dsimp only; rw [up2_ne _ _ _ (by decide), up2_ne _ _ _ (by decide)]; exact c3
  refine sp_roomOf s5 h1 h2 (by omega) ?_
  rw [c5]
  refine ev_rv okMd_note rfl rfl ⟨vc, trivial⟩ rfl ?_
  rw [ec]
  have c6 : (up2 τ5.1 39 cnt (nI (rmO (R - hh) (R - ii) a)), τ5.2).1 22 16 = nI cnt := by dsimp only; rw [up2_ne _ _ _ (by decide)]; exact c5
  rw [c6, nI_add]
  refine k _ ⟨by omega, by simp [fct]; omega, ?_, fun i hi j hj => ?_, fun i hi => ?_⟩ ((((f1.tr f2).tr f3).tr f5).tr (Fq.tr (Fq.u1 (by decide) (by decide)) (Fq.f1 (σ := (_, _)) (by decide))))
  · dsimp only
    rw [up2_same]
  · by_cases e : i = cnt
    · subst e
      have hg : (F ++ fct lb wb (R - hh) (R - ii) n a b).getD (6 * i + j) 0 = (fct lb wb (R - hh) (R - ii) n a b).getD j 0 := by
        rw [List.getD_eq_getElem?_getD, List.getElem?_append_right (by omega), n2, Nat.add_sub_cancel_left]
        rfl
      rw [hg]
      rcases (show j = 0 ∨ j = 1 ∨ j = 2 ∨ j = 3 ∨ j = 4 ∨ j = 5 by omega) with rfl | rfl | rfl | rfl | rfl | rfl
      · rw [← hS5, ← hS3, ← hS2, ← hS1]; simp [up2, fct]
      · rw [← hS5, ← hS3, ← hS2]; simp [up2, fct]
      · rw [← hS5, ← hS3]; simp [up2, fct]
      · rw [← hS5]; simp [up2, fct]
      · rw [← hS5]; simp [up2, fct]
      · simp [up2, fct]
    · have hi' : i < cnt := by omega
      have hg : (F ++ fct lb wb (R - hh) (R - ii) n a b).getD (6 * i + j) 0 = F.getD (6 * i + j) 0 := by
        rw [List.getD_eq_getElem?_getD, List.getElem?_append_left (by omega), ← List.getD_eq_getElem?_getD]
      rw [hg, ← n4 i hi' j hj]
      rcases (show j = 0 ∨ j = 1 ∨ j = 2 ∨ j = 3 ∨ j = 4 ∨ j = 5 by omega) with rfl | rfl | rfl | rfl | rfl | rfl
      all_goals (rw [← hS5, ← hS3, ← hS2, ← hS1]; simp [up2, e])
  · by_cases e : i = cnt
    · subst e
      have hg : (F ++ fct lb wb (R - hh) (R - ii) n a b).getD (6 * i + 4) 0 = (fct lb wb (R - hh) (R - ii) n a b).getD 4 0 := by
        rw [List.getD_eq_getElem?_getD, List.getElem?_append_right (by omega), n2, Nat.add_sub_cancel_left]
        rfl
      rw [hg]
      simp only [fct, List.getD_cons_succ, List.getD_cons_zero]
      split <;> decide
    · have hi' : i < cnt := by omega
      have hg : (F ++ fct lb wb (R - hh) (R - ii) n a b).getD (6 * i + 4) 0 = F.getD (6 * i + 4) 0 := by
        rw [List.getD_eq_getElem?_getD, List.getElem?_append_left (by omega), ← List.getD_eq_getElem?_getD]
      rw [hg]
      exact n5 i hi'
end RN
