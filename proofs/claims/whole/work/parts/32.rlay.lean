/-! ===== the reference: a line is laid, place by place ===== -/
section RZ
variable {lc : Launch} {G : GG} {Q : Option Value → St2 → Prop} {ws : List (List Nat × Nat)} {a b sl : Nat}
theorem pcR_at {S : List Seg} {p : Nat} (h : p < S.length) : pcR S p = (noC S[p].1).map (fun c => c + 256 * S[p].2.1) := by
  unfold pcR
  rw [List.getElem?_eq_getElem h]
theorem seg_pos {p : Nat} (hok : WdOK ws) (hp : p < (SGs ws).length) : 0 < (SGs ws)[p].1.length := by
  have hx : (SGs ws)[p] ∈ SGs ws := List.getElem_mem hp
  obtain ⟨q, q1, q2⟩ := List.mem_flatMap.mp hx
  have key : ∀ (r cur : List Nat), hlt (cur ++ r) = true → ∀ s ∈ sgs cur r, 0 < s.length := by
    intro r
    induction r with
    | nil =>
      intro cur h s hs
      have : s = cur := by simpa [sgs] using hs
      rw [this]
      rw [List.append_nil] at h
      have h1 := (hlt_noC cur).mp h
      have h2 : (noC cur).length ≤ cur.length := List.length_filter_le _ _
      omega
    | cons c r ih =>
      intro cur h s hs
      rw [sgs] at hs
      split at hs
      · rename_i z
        rcases List.mem_cons.mp hs with rfl | hs
        · simp
        · exact ih [] (by simpa using z.2.2) s hs
      · exact ih (cur ++ [c]) (by simpa using h) s hs
  have hm : (SGs ws)[p].1 ∈ sgs [] q.1 := by
    have : (SGs ws)[p].1 ∈ (wsg q.1 q.2).map (fun x => x.1) := List.mem_map.mpr ⟨_, q2, rfl⟩
    unfold wsg at this
    rwa [mrk_fst] at this
  exact key q.1 [] (by simpa using (hok.2 q q1).1) _ hm
theorem lp_lay (hok : WdOK ws) (hN : (SGs ws).length ≤ 4000) (hT : tot rl (SGs ws) ≤ 8000) (hb : b ≤ (SGs ws).length) (hab : a < b) (hsl : sl ≤ 1000) : ∀ (m p kb : Nat) (σ : St2) (sh : List Nat), p + m = b → a ≤ p → tot ef ((SGs ws).take a) + kb = (if a < p ∧ hyp (wbS (SGs ws)) p = false then tot ef ((SGs ws).take p) - 1 else tot ef ((SGs ws).take p)) → LyV σ ws → LstR σ 3 24 300 sh → sh.length + (wrt (pcR (SGs ws)) (wbS (SGs ws)) a (bln (wbS (SGs ws)) a b) sl m p kb).length + 1 ≤ 300 →
    (∀ σ', LstR σ' 3 24 300 (sh ++ wrt (pcR (SGs ws)) (wbS (SGs ws)) a (bln (wbS (SGs ws)) a b) sl m p kb) → Fq [24] [3] σ σ' → Ev lc G mMd_layLine 201 [some (.ref 22), none, some (.int (nI b)), none, none, none, none, none] [] σ' Q) →
    Ev lc G mMd_layLine 58 (laL a b sl (bln (wbS (SGs ws)) a b) kb (tot ef ((SGs ws).take a) + kb) (tot rl ((SGs ws).take p))) [] σ Q := by
  have h80 := hok.1
  have hefb : tot ef ((SGs ws).take b) ≤ ws.length := by
    have h5 := tot_take_all ef (SGs ws) b
    rwa [tot_ef] at h5
  have hpa : ∀ σ : St2, LyV σ ws → σ.1 30 (nI b).toNatClampNeg = nI (tot rl ((SGs ws).take b)) := by
    intro σ h
    rw [nI_cl (by omega), h.2.2.2.2.2 b (by rw [show (paS (SGs ws)).length = (SGs ws).length + 1 from psL_len rl _]; omega), pa_at hb]
  have hpw : ∀ σ : St2, LyV σ ws → σ.1 28 (nI b).toNatClampNeg = nI (tot ef ((SGs ws).take b)) := by
    intro σ h
    rw [nI_cl (by omega), h.2.2.2.1 b (by rw [show (wbS (SGs ws)).length = (SGs ws).length + 1 from psL_len ef _]; omega), wb_at hb]
  have hwe : ∀ (w : Nat) (σ : St2), w < ws.length → LyV σ ws → σ.1 26 (nI w).toNatClampNeg = nI (tot wl (ws.take (w + 1))) := by
    intro w σ hw h
    rw [nI_cl (by omega), h.1.2.1 w (by unfold weS; rw [psum_len]; exact hw), we_at ws hw]
  have vb : vp_in (nI b) 8101 := vp_nI (by omega) (by decide)
  have h3 := tot_take_all rl (SGs ws) b
  have htw : tot wl ws = tot rl (SGs ws) := by
    have key : ∀ l : List (List Nat × Nat), tot rl (SGs l) = tot wl l := by
      intro l
      induction l with
      | nil => rfl
      | cons q l ih => rw [SGs_cons, tot_app, tot_rl_wsg, ih]; rfl
    exact (key ws).symm
  have hwt : ∀ w, tot wl (ws.take w) ≤ 8000 := fun w => by have := tot_take_all wl ws w; omega
  have hg : bln (wbS (SGs ws)) a b = tot ef ((SGs ws).take (b - 1)) - tot ef ((SGs ws).take a) := by
    unfold bln
    rw [wb_at (by omega), wb_at (by omega)]
  have hgm := tot_take_le ef (SGs ws) (show a ≤ b - 1 by omega)
  have hgle : bln (wbS (SGs ws)) a b ≤ 80 := by
    have := tot_take_le ef (SGs ws) (show b - 1 ≤ b by omega)
    omega
  -- a word's end at place p
  have hend : ∀ p, 0 < p → p ≤ (SGs ws).length → hyp (wbS (SGs ws)) p = false → tot ef ((SGs ws).take p) = tot ef ((SGs ws).take (p - 1)) + 1 ∧ tot wl (ws.take (tot ef ((SGs ws).take p))) = tot rl ((SGs ws).take p) := by
    intro p h0 hp hh
    obtain ⟨q, rfl⟩ : ∃ q, p = q + 1 := ⟨p - 1, by omega⟩
    rw [hyp_seg (SGs ws) (by omega)] at hh
    have he : (SGs ws)[q].2.2 = true := by simpa using hh
    refine ⟨?_, ((we_place ws q).2 (by omega) he).symm⟩
    rw [Nat.add_sub_cancel, tot_take_succ ef (SGs ws) (by omega)]
    simp [ef, he]
  have hhy : ∀ p, 0 < p → p ≤ (SGs ws).length → hyp (wbS (SGs ws)) p = true → tot ef ((SGs ws).take p) = tot ef ((SGs ws).take (p - 1)) := by
    intro p h0 hp hh
    obtain ⟨q, rfl⟩ : ∃ q, p = q + 1 := ⟨p - 1, by omega⟩
    rw [hyp_seg (SGs ws) (by omega)] at hh
    have he : (SGs ws)[q].2.2 = false := by simpa using hh
    rw [Nat.add_sub_cancel, tot_take_succ ef (SGs ws) (by omega)]
    simp [ef, he]
  intro m
  induction m with
  | zero =>
    intro p kb σ sh hm hap hw hly hs hcap k
    have e : p = b := by omega
    subst e
    have hbp := tot_take_le ef (SGs ws) (show p - 1 ≤ p by omega)
    rw [show wrt (pcR (SGs ws)) (wbS (SGs ws)) a (bln (wbS (SGs ws)) a p) sl 0 p kb = [] from rfl, List.append_nil] at k
    refine ev_ic_lt okMd_layLine rfl rfl ⟨vb, trivial⟩ (fun q => absurd q (by rw [hpa σ hly]; exact Int32.lt_irrefl)) (fun q => ?_)
    cases hh : hyp (wbS (SGs ws)) p with
    | true =>
      rw [hh, if_neg (fun z => by cases z.2)] at hw
      refine ev_ic_ge okMd_layLine rfl rfl ⟨vb, trivial⟩ (fun q2 => ev_lv [some (.ref 22), none, some (.int (nI p)), none, none, none, none, none] ⟨rfl, rfl, trivial⟩ (k σ hs Fq.rf)) (fun q2 => absurd ?_ q2)
      rw [hpw σ hly, hw]
      exact Int32.le_refl _
    | false =>
      rw [hh, if_pos ⟨hab, rfl⟩] at hw
      obtain ⟨e1, e2⟩ := hend p (by omega) hb hh
      have hkg : kb = bln (wbS (SGs ws)) a p := by omega
      refine ev_ic_ge okMd_layLine rfl rfl ⟨vb, trivial⟩ (fun q2 => absurd q2 (by rw [hpw σ hly]; exact nI_ge (by omega) (by omega))) (fun q2 => ?_)
      refine ev_ic_ge okMd_layLine rfl rfl ⟨vb, trivial⟩ (fun q2 => absurd q2 (by rw [hpw σ hly]; exact nI_ge (by omega) (by omega))) (fun q2 => ?_)
      refine ev_ic_ne okMd_layLine rfl rfl ⟨vp_nI (by omega) (by decide), trivial⟩ (fun q3 => absurd ?_ q3) (fun q3 => ?_)
      · rw [hwe _ σ (by omega) hly, show tot ef ((SGs ws).take a) + kb + 1 = tot ef ((SGs ws).take p) by omega, e2]
      · refine ev_ic_ge okMd_layLine rfl rfl trivial (fun q4 => ?_) (fun q4 => absurd (by rw [hkg]; exact Int32.le_refl _) q4)
        rw [nI_add, show tot ef ((SGs ws).take a) + kb + 1 = tot ef ((SGs ws).take p) by omega]
        refine ev_ic_ge okMd_layLine rfl rfl ⟨vb, trivial⟩ (fun q5 => ?_) (fun q5 => absurd (by rw [hpw σ hly]; exact Int32.le_refl _) q5)
        refine ev_ic_ge okMd_layLine rfl rfl ⟨vb, trivial⟩ (fun q6 => ?_) (fun q6 => absurd (by rw [hpa σ hly]; exact Int32.le_refl _) q6)
        refine ev_goto okMd_layLine rfl rfl trivial ?_
        rw [nI_add]
        refine ev_ic_lt okMd_layLine rfl rfl ⟨vb, trivial⟩ (fun q7 => absurd q7 (by rw [hpa σ hly]; exact nI_nlt (by omega) (by omega))) (fun q7 => ?_)
        refine ev_ic_ge okMd_layLine rfl rfl ⟨vb, trivial⟩ (fun q8 => ev_lv [some (.ref 22), none, some (.int (nI p)), none, none, none, none, none] ⟨rfl, rfl, trivial⟩ (k σ hs Fq.rf)) (fun q8 => absurd (by rw [hpw σ hly]; exact Int32.le_refl _) q8)
  | succ m ih =>
    intro p kb σ sh hm hap hw hly hs hcap k
    have hpb : p < b := by omega
    have hpl : p < (SGs ws).length := by omega
    have hpos := seg_pos hok hpl
    have h1 := tot_take_succ rl (SGs ws) hpl
    have hrl : rl (SGs ws)[p] = (SGs ws)[p].1.length := rfl
    have h2 := tot_take_le rl (SGs ws) (show p + 1 ≤ b by omega)
    have hwl : tot ef ((SGs ws).take p) < ws.length := SGs_end hpl
    have hF4 := ((we_place ws p).1 hpl).2
    have hpm := tot_take_le ef (SGs ws) (show p ≤ b - 1 by omega)
    have hpm2 := tot_take_le ef (SGs ws) (show b - 1 ≤ b by omega)
    have hapm := tot_take_le ef (SGs ws) hap
    rw [wrt] at hcap k
    -- the piece of place p, then the next place
    have piece : ∀ (kb' : Nat) (σ1 : St2) (sh1 : List Nat), tot ef ((SGs ws).take a) + kb' = tot ef ((SGs ws).take p) → LyV σ1 ws → LstR σ1 3 24 300 sh1 → Fq [24] [3] σ σ1 → sh1.length + (pcR (SGs ws) p ++ wrt (pcR (SGs ws)) (wbS (SGs ws)) a (bln (wbS (SGs ws)) a b) sl m (p + 1) kb').length + 1 ≤ 300 →
        (∀ σ', LstR σ' 3 24 300 (sh1 ++ (pcR (SGs ws) p ++ wrt (pcR (SGs ws)) (wbS (SGs ws)) a (bln (wbS (SGs ws)) a b) sl m (p + 1) kb')) → Fq [24] [3] σ σ' → Ev lc G mMd_layLine 201 [some (.ref 22), none, some (.int (nI b)), none, none, none, none, none] [] σ' Q) →
        Ev lc G mMd_layLine 142 (laL a b sl (bln (wbS (SGs ws)) a b) kb' (tot ef ((SGs ws).take a) + kb') (tot rl ((SGs ws).take p))) [] σ1 Q := by
      intro kb' σ1 sh1 q1 q2 q3 q4 q5 q6
      have hpc := pcR_at hpl
      rw [hpc, List.length_append, List.length_map] at q5
      refine lp_seg (w := tot ef ((SGs ws).take a) + kb') (kb := kb') (g := bln (wbS (SGs ws)) a b) hok hN hT hb hpb (by omega) q1 (SGs ws)[p].1.length 0 σ1 sh1 (by omega) hpos q2 q3 (by rw [List.drop_zero]; omega) (fun σ2 r1 r2 => ?_)
      rw [List.drop_zero, ← hpc] at r1
      have f2 := q4.tr r2
      refine ih (p + 1) kb' σ2 (sh1 ++ pcR (SGs ws) p) (by omega) (by omega) ?_ (q2.fq r2) r1 (by rw [List.length_append, hpc, List.length_map]; omega) (fun σ' s1 s2 => q6 σ' (by rw [List.append_assoc] at s1; exact s1) (f2.tr s2))
      cases hh : hyp (wbS (SGs ws)) (p + 1) with
      | true =>
        rw [if_neg (fun z => by cases z.2), q1]
        have := hhy (p + 1) (by omega) (by omega) hh
        rw [Nat.add_sub_cancel] at this
        exact this.symm
      | false =>
        rw [if_pos ⟨by omega, rfl⟩, q1]
        have := (hend (p + 1) (by omega) (by omega) hh).1
        rw [Nat.add_sub_cancel] at this
        omega
    -- no blank before this piece
    have plain : ¬ (a < p ∧ hyp (wbS (SGs ws)) p = false) → Ev lc G mMd_layLine 80 (laL a b sl (bln (wbS (SGs ws)) a b) kb (tot ef ((SGs ws).take a) + kb) (tot rl ((SGs ws).take p))) [] σ Q := by
      intro hno
      rw [if_neg hno] at hw
      rw [if_neg (fun z => hno ⟨z.1, z.2.2⟩)] at hcap k
      have go := piece kb σ sh hw hly hs Fq.rf hcap k
      refine ev_ic_ge okMd_layLine rfl rfl ⟨vb, trivial⟩ (fun q2 => go) (fun q2 => ?_)
      refine ev_ic_ne okMd_layLine rfl rfl ⟨vp_nI (by omega) (by decide), trivial⟩ (fun q3 => go) (fun q3 => ?_)
      have q3 : nI (tot rl ((SGs ws).take p)) = σ.1 26 (nI (tot ef ((SGs ws).take a) + kb)).toNatClampNeg := by simpa using q3
      rw [hwe _ σ (by omega) hly] at q3
      have hx := hwt (tot ef ((SGs ws).take a) + kb + 1)
      have := (nI_eq (by omega) (by omega)).mp q3
      rw [hw] at this
      omega
    refine ev_ic_lt okMd_layLine rfl rfl ⟨vb, trivial⟩ (fun q => ?_) (fun q => absurd (by rw [hpa σ hly]; exact nI_lt (by omega) (by omega)) q)
    by_cases hc : a < p ∧ hyp (wbS (SGs ws)) p = false
    · rw [if_pos hc] at hw
      obtain ⟨e1, e2⟩ := hend p (by omega) (by omega) hc.2
      have hkg : kb < bln (wbS (SGs ws)) a b := by omega
      rw [if_pos ⟨hc.1, by omega, hc.2⟩] at hcap k
      generalize hgg : bln (wbS (SGs ws)) a b = g at *
      refine ev_ic_ge okMd_layLine rfl rfl ⟨vb, trivial⟩ (fun q2 => absurd q2 (by rw [hpw σ hly]; exact nI_ge (by omega) (by omega))) (fun q2 => ?_)
      refine ev_ic_ne okMd_layLine rfl rfl ⟨vp_nI (by omega) (by decide), trivial⟩ (fun q3 => absurd ?_ q3) (fun q3 => ?_)
      · rw [hwe _ σ (by omega) hly, show tot ef ((SGs ws).take a) + kb + 1 = tot ef ((SGs ws).take p) by omega, e2]
      · refine ev_ic_ge okMd_layLine rfl rfl trivial (fun q4 => absurd q4 (nI_ge hkg (by omega))) (fun q4 => ?_)
        have g2 : 0 < g := by omega
        have m1 : sl * (kb + 1) ≤ 1000 * 100 := Nat.mul_le_mul hsl (by omega)
        have m0 : sl * kb ≤ sl * (kb + 1) := Nat.mul_le_mul_left _ (by omega)
        have m2 : sl * kb / g ≤ sl * (kb + 1) / g := Nat.div_le_div_right m0
        have m3 : sl * (kb + 1) / g ≤ sl * (kb + 1) := Nat.div_le_self _ _
        refine ev_cv okMd_layLine okMd_addBlanks rfl rfl ⟨nI_ne0 g2 (by omega), nI_ne0 g2 (by omega), trivial⟩ rfl (by decide +kernel) rfl rfl ?_
        rw [nI_add, nI_add, pk_sub (show 1 ≤ kb + 1 by omega), Nat.add_sub_cancel, pk_mul, pk_mul, pk_div (by omega) g2 (by omega), pk_div (by omega) g2 (by omega), nI_add, pk_sub (by omega)]
        show Ev lc G mMd_addBlanks 0 [some (.ref 22), some (.int (nI (gap sl g kb))), none] [] σ _
        have hlen : (List.replicate (gap sl g kb) 32 ++ pcR (SGs ws) p ++ wrt (pcR (SGs ws)) (wbS (SGs ws)) a g sl m (p + 1) (kb + 1)).length = gap sl g kb + (pcR (SGs ws) p ++ wrt (pcR (SGs ws)) (wbS (SGs ws)) a g sl m (p + 1) (kb + 1)).length := by simp only [List.length_append, List.length_replicate, Nat.add_assoc]
        rw [hlen] at hcap
        refine sp_addBlanks (by omega) (by omega) hs fun σ1 r1 r2 => ?_
        refine ev_goto okMd_layLine rfl rfl trivial ?_
        have go := piece (kb + 1) σ1 (sh ++ List.replicate (gap sl g kb) 32) (by omega) (hly.fq r2) r1 r2 (by rw [List.length_append, List.length_replicate]; omega) (fun σ' s1 s2 => k σ' (by simp only [List.append_assoc] at s1 ⊢; exact s1) s2)
        rw [← Nat.add_assoc] at go
        refine ev_ic_ge okMd_layLine rfl rfl ⟨vb, trivial⟩ (fun q5 => go) (fun q5 => ?_)
        refine ev_ic_ne okMd_layLine rfl rfl ⟨vp_nI (by omega) (by decide), trivial⟩ (fun q6 => go) (fun q6 => ?_)
        have q6 : nI (tot rl ((SGs ws).take p)) = σ1.1 26 (nI (tot ef ((SGs ws).take a) + kb + 1)).toNatClampNeg := by simpa using q6
        rw [hwe _ σ1 (by omega) (hly.fq r2)] at q6
        have hx := hwt (tot ef ((SGs ws).take a) + kb + 1 + 1)
        have := (nI_eq (by omega) (by omega)).mp q6
        rw [show tot ef ((SGs ws).take a) + kb + 1 = tot ef ((SGs ws).take p) by omega] at this
        omega
    · exact plain hc
end RZ
