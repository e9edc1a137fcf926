/-! ===== the class: words and texts are taken ===== -/
section CG
variable {lc : Launch} {G : GG} {σ : St2} {Q : Option Value → St2 → Prop}
theorem CV.pa {σ σ' : St2} {m : MS} {w : List (List Nat × Nat)} (h : CV σ m) (hf : Fr [12, 13, 14, 15, 16] σ σ') (hp : PaV σ' (clsP w).1 (clsP w).2.1 (clsP w).2.2.1 (clsP w).2.2.2) : CV σ' (sW m w) := by
  obtain ⟨c1, c2, c3, ⟨E, c4⟩, c5, c6⟩ := h
  exact ⟨c1.fr hf (by decide) (by decide), c2.fr hf (by decide), hp, ⟨E, c4.fr hf (by decide)⟩, by rw [hf.a2 (by decide)]; exact c5, by rw [hf.a1 (by decide)]; exact c6⟩
abbrev CF : List Nat := [4, 5, 6, 7, 12, 13, 14, 15, 16, 17, 18, 19, 20, 21]
theorem hasL_hlt (y : List Nat) (fr to : Nat) : hasL y fr to = hlt ((y.take to).drop fr) := rfl
/-- a word, from its letters on -/
theorem lp_wd {u : Nat} (hu : u < 2) {y : List Nat} (hy : ∀ b ∈ y, 32 ≤ b ∧ b < 127) {m : MS} {fr to pb : Nat} (hft : fr ≤ to) (hto : to ≤ y.length) (hnb : ∀ b ∈ (y.take to).drop fr, b ≠ 32) (hx : mX m = y) (hc : CV σ m) (hi : Inv pb m) (hpb : pb + 4000 < 900000000)
    (k : ∀ σ', CV σ' (wd ((y.take to).drop fr) u m) → Fr CF σ σ' → Ev lc G mPf_gatherWords 84 [some (.ref 0), some (.int (nI u)), none, some (.int (nI to))] [] σ' Q) :
    Ev lc G mPf_gatherWords 42 [some (.ref 0), some (.int (nI u)), some (.int (nI fr)), some (.int (nI to))] [] σ Q := by
  have hy8 : ∀ b ∈ y, b < 128 := fun b hb => by have := hy b hb; omega
  have h100 : y.length ≤ 100 := by rw [← hx]; exact hc.1.1
  have ht : TextAt σ 1 y := by rw [← hx]; exact hc.1
  have hwl : ((y.take to).drop fr).length = to - fr := by rw [List.length_drop, List.length_take]; omega
  refine ev_cv okPf_gatherWords okTx_hasLetters rfl rfl trivial rfl (by decide +kernel) rfl rfl (sp_hasLetters ht hy8 hto (by omega) ?_)
  rw [hasL_hlt]
  refine ev_if_eq okPf_gatherWords rfl rfl trivial (fun g => ?_) (fun g => ?_)
  · rw [b2_0] at g
    have e : wd ((y.take to).drop fr) u m = m := if_neg (by rw [g]; decide)
    rw [e] at k
    exact ev_lv [some (.ref 0), some (.int (nI u)), none, some (.int (nI to))] ⟨rfl, rfl, rfl, trivial⟩ (k σ hc Fr.rf)
  · rw [b2_0] at g
    have g : hlt ((y.take to).drop fr) = true := by simpa using g
    have e : wd ((y.take to).drop fr) u m = sW (if (mW m).length = 80 then mBrk m else m) (mW (if (mW m).length = 80 then mBrk m else m) ++ [((y.take to).drop fr, u)]) := if_pos g
    -- the word is added
    have add : ∀ (m1 : MS) (σ1 : St2), CV σ1 m1 → mX m1 = y → WdOK (mW m1) → (mW m1).length < 80 → Fr CF σ σ1 → wd ((y.take to).drop fr) u m = sW m1 (mW m1 ++ [((y.take to).drop fr, u)]) → Ev lc G mPf_gatherWords 70 [some (.ref 0), some (.int (nI u)), some (.int (nI fr)), some (.int (nI to))] [] σ1 Q := by
      intro m1 σ1 c1 x1 w1 l1 f1 e1
      have ht1 : TextAt σ1 1 y := by rw [← x1]; exact c1.1
      have hok : WdOK (mW m1 ++ [((y.take to).drop fr, u)]) := by
        refine ⟨by simp; omega, fun q hq => ?_⟩
        rcases List.mem_append.mp hq with hq | hq
        · exact w1.2 q hq
        · rw [List.mem_singleton.mp hq]
          refine ⟨g, by rw [hwl]; omega, hu, fun b hb => ?_⟩
          have h1 := hy b (List.mem_of_mem_take (List.mem_of_mem_drop hb))
          have h2 := hnb b hb
          omega
      have hadd := addW_cls (mW m1) ((y.take to).drop fr) u
      have hL := c1.2.2.1.1.1
      have hl2 := (SGs_cnt (fun q hq => ⟨(w1.2 q hq).1, (w1.2 q hq).2.1⟩)).2
      have hn := nS_le hok
      have hpl : (clsP (mW m1 ++ [((y.take to).drop fr, u)])).2.1.length = nS (mW m1 ++ [((y.take to).drop fr, u)]) + 1 := psL_len nl _
      have hlb : (aw (clsP (mW m1)).2.2.2.length (clsP (mW m1)).1.length ((y.take to).drop fr) false (clsP (mW m1)).1 (clsP (mW m1)).2.1 (clsP (mW m1)).2.2.1).2.1.length < 4001 := by
        have h5 : (addW ((y.take to).drop fr) u (clsP (mW m1))).2.1.length = (aw (clsP (mW m1)).2.2.2.length (clsP (mW m1)).1.length ((y.take to).drop fr) false (clsP (mW m1)).1 (clsP (mW m1)).2.1 (clsP (mW m1)).2.2.1).2.1.length + 1 := by
          unfold addW
          simp
        rw [hadd, hpl] at h5
        omega
      refine ev_cv okPf_gatherWords okPa_addWord rfl rfl trivial rfl (by decide +kernel) rfl rfl (sp_addWord hy8 hft hto hu ht1 c1.2.2.1 (by show ((mW m1).map (fun q => q.2)).length < 80; rw [List.length_map]; exact l1) (by show (ltS (SGs (mW m1))).length + (to - fr) ≤ 8000; omega) hlb fun σ2 q1 q2 => ?_)
      refine ev_lv [some (.ref 0), some (.int (nI u)), none, some (.int (nI to))] ⟨rfl, rfl, rfl, trivial⟩ (k σ2 ?_ (f1.tr (q2.wk (by decide))))
      rw [e1]
      refine c1.pa q2 ?_
      have e4 : ((clsP (mW m1)).1, (clsP (mW m1)).2.1, (clsP (mW m1)).2.2.1, (clsP (mW m1)).2.2.2) = clsP (mW m1) := rfl
      rw [e4, hadd] at q1
      have e5 : (clsP (mW m1)).2.2.2 ++ [u] = (clsP (mW m1 ++ [((y.take to).drop fr, u)])).2.2.2 := by
        show (mW m1).map (fun q => q.2) ++ [u] = (mW m1 ++ [((y.take to).drop fr, u)]).map (fun q => q.2)
        simp
      rw [e5] at q1
      exact q1
    have hw80 := hi.2.1.1
    have e126 : σ.1 12 6 = nI (mW m).length := by
      have := hc.2.2.1.2.2.2.2.2.1
      rw [show (clsP (mW m)).2.2.2.length = (mW m).length from List.length_map ..] at this
      exact this
    refine ev_ic_lt okPf_gatherWords rfl rfl trivial (fun g2 => ?_) (fun g2 => ?_)
    · rw [e126] at g2
      have g2 : (mW m).length < 80 := (nI_ltI (by omega) (by decide)).mp g2
      rw [if_neg (by omega)] at e
      exact add m σ hc hx hi.2.1 g2 Fr.rf e
    · rw [e126] at g2
      have g2 : (mW m).length = 80 := by
        have : ¬ (mW m).length < 80 := fun z => g2 (nI_lt z (by decide))
        omega
      rw [if_pos g2] at e
      refine ev_cv okPf_gatherWords okPf_breakParagraph rfl rfl trivial rfl (by decide +kernel) rfl rfl (sp_brkC hc hi (by omega) fun σ1 q1 q2 => ?_)
      have hne : mW m ≠ [] := fun z => by rw [z] at g2; cases g2
      exact add (mBrk m) σ1 q1 (by rw [mBrk_X]; exact hx) (mBrk_Inv hi).2.1 (by rw [mBrk_W hne]; decide) (q2.wk (by decide)) e
set_option maxRecDepth 100000 in
theorem lp_gather {u : Nat} (hu : u < 2) {y : List Nat} (hy : ∀ b ∈ y, 32 ≤ b ∧ b < 127) : ∀ (n to fr : Nat) (m : MS) (σ : St2) (pb : Nat), to + n = y.length → fr ≤ to → (∀ b ∈ (y.take to).drop fr, b ≠ 32) → mX m = y → CV σ m → Inv pb m → pb + 4000 * (n + 1) < 900000000 →
    (∀ σ', CV σ' (gW u ((y.take to).drop fr) (y.drop to) m) → Fr CF σ σ' → Q none σ') →
    Ev lc G mPf_gatherWords 4 [some (.ref 0), some (.int (nI u)), some (.int (nI fr)), some (.int (nI to))] [] σ Q := by
  have hy8 : ∀ b ∈ y, b < 128 := fun b hb => by have := hy b hb; omega
  intro n
  induction n with
  | zero =>
    intro to fr m σ pb hn hft hnb hx hc hi hpb k
    have h100 : y.length ≤ 100 := by rw [← hx]; exact hc.1.1
    have hsz : σ.1 1 1 = nI y.length := by rw [← hx]; exact hc.1.2.1
    rw [show y.drop to = [] from List.drop_eq_nil_of_le (by omega), gW] at k
    refine ev_ic_gt okPf_gatherWords rfl rfl trivial (fun g => absurd g (by rw [hsz]; exact nI_nlt (by omega) (by omega))) (fun g => ?_)
    refine ev_ic_ge okPf_gatherWords rfl rfl trivial (fun g => ?_) (fun g => absurd (by rw [hsz]; exact nI_le (by omega) (by omega)) g)
    refine lp_wd hu hy hft (by omega) hnb hx hc hi (by omega) fun σ1 q1 q2 => ?_
    refine ev_nop okPf_gatherWords rfl rfl trivial (ev_goto okPf_gatherWords rfl rfl trivial ?_)
    have hsz1 : σ1.1 1 1 = nI y.length := by rw [← hx, ← wd_X ((y.take to).drop fr) u m]; exact q1.1.2.1
    refine ev_ic_gt okPf_gatherWords rfl rfl trivial (fun g => ev_rv okPf_gatherWords rfl rfl trivial rfl (k σ1 q1 q2)) (fun g => absurd ?_ g)
    rw [hsz1, nI_add]
    exact nI_lt (by omega) (by omega)
  | succ n ih =>
    intro to fr m σ pb hn hft hnb hx hc hi hpb k
    have h100 : y.length ≤ 100 := by rw [← hx]; exact hc.1.1
    have hsz : σ.1 1 1 = nI y.length := by rw [← hx]; exact hc.1.2.1
    have ht : TextAt σ 1 y := by rw [← hx]; exact hc.1
    have hlt : to < y.length := by omega
    have hbb := getD_lt (j := to) hy8 (by decide)
    rw [List.drop_eq_getElem_cons hlt, ← gD hlt, gW] at k
    refine ev_ic_gt okPf_gatherWords rfl rfl trivial (fun g => absurd g (by rw [hsz]; exact nI_nlt (by omega) (by omega))) (fun g => ?_)
    refine ev_ic_ge okPf_gatherWords rfl rfl trivial (fun g => absurd g (by rw [hsz]; exact nI_ge hlt (by omega))) (fun g => ?_)
    refine ev_cv okPf_gatherWords okTx_byteAt rfl rfl trivial rfl (by decide +kernel) rfl rfl (sp_byteAt (Or.inl rfl) ht ?_)
    rw [tb_nI h100 (by omega), if_pos hlt]
    refine ev_ic_eq okPf_gatherWords rfl rfl trivial (fun g2 => ?_) (fun g2 => ?_)
    · have e : y.getD to 0 = 32 := (nI_eq (by omega) (by decide)).mp g2
      rw [if_pos e] at k
      refine lp_wd hu hy hft (by omega) hnb hx hc hi (by omega) fun σ1 q1 q2 => ?_
      refine ev_nop okPf_gatherWords rfl rfl trivial (ev_goto okPf_gatherWords rfl rfl trivial ?_)
      rw [nI_add]
      have hwi : Inv (pb + 4000) (wd ((y.take to).drop fr) u m) := wd_Inv hi (fun b hb => by
        have h1 := hy b (List.mem_of_mem_take (List.mem_of_mem_drop hb))
        have h2 := hnb b hb
        omega) (by rw [List.length_drop, List.length_take]; omega) hu
      have e0 : (y.take (to + 1)).drop (to + 1) = [] := td_nil (Nat.le_refl _)
      have := ih (to + 1) (to + 1) (wd ((y.take to).drop fr) u m) σ1 (pb + 4000) (by omega) (Nat.le_refl _) (by rw [e0]; intro b hb; exact absurd hb List.not_mem_nil) (by rw [wd_X]; exact hx) q1 hwi (by omega) (fun σ' r1 r2 => k σ' (by rw [e0] at r1; exact r1) (q2.tr r2))
      exact this
    · have e : ¬ y.getD to 0 = 32 := fun q => g2 (by rw [q])
      rw [if_neg e, ← td_snoc hft hlt] at k
      refine ev_goto okPf_gatherWords rfl rfl trivial (ev_goto okPf_gatherWords rfl rfl trivial ?_)
      rw [nI_add]
      refine ih (to + 1) fr m σ pb (by omega) (by omega) (fun b hb => ?_) hx hc hi (by omega) k
      rw [td_snoc hft hlt] at hb
      rcases List.mem_append.mp hb with hb | hb
      · exact hnb b hb
      · rw [List.mem_singleton.mp hb]; exact e
theorem sp_gatherWords {u : Nat} (hu : u < 2) {m : MS} {pb : Nat} (hc : CV σ m) (hi : Inv pb m) (hpb : pb < 800000000) (k : ∀ σ', CV σ' (gW u [] (mX m) m) → Fr CF σ σ' → Q none σ') : Ev lc G mPf_gatherWords 0 [some (.ref 0), some (.int (nI u)), none, none] [] σ Q := by
  have h100 := hc.1.1
  refine ev_nop okPf_gatherWords rfl rfl trivial (lp_gather (y := mX m) hu hi.1 (mX m).length 0 0 m σ pb (by omega) (Nat.le_refl _) (by simp) rfl hc hi (by omega) ?_)
  simpa using k
theorem pbl_len (x : List Nat) : pbl x 0 ≤ x.length := pbl_le (Nat.zero_le _)
theorem sp_takeText {m : MS} {pb : Nat} (hc : CV σ m) (hi : Inv pb m) (hpb : pb < 700000000) (k : ∀ σ' y, CV σ' (sX (mTx m) y) → Fr [1, 2, 4, 5, 6, 7, 12, 13, 14, 15, 16, 17, 18, 19, 20, 21] σ σ' → Q none σ') : Ev lc G mPf_takeText 0 [some (.ref 0), none, none] [] σ Q := by
  have h100 := hc.1.1
  have hbl := pbl_len (mX m)
  have hsz := hc.1.2.1
  refine ev_cv okPf_takeText okTx_leadingBlanks rfl rfl trivial rfl (by decide +kernel) rfl rfl (sp_leadingBlanks hc.1 hi.x128 ?_)
  -- behind the BREAK
  have body : ∀ σ1, CV σ1 (mT1 m) → Inv (pb + 4000) (mT1 m) → mX (mT1 m) = mX m → Fr CF σ σ1 → Ev lc G mPf_takeText 26 [some (.ref 0), some (.int (nI (pbl (mX m) 0))), none] [] σ1 Q := by
    have hk : ∀ σ' y, CV σ' (sX (mT2 (mX m) (mT1 m)) y) → Fr [1, 2, 4, 5, 6, 7, 12, 13, 14, 15, 16, 17, 18, 19, 20, 21] σ σ' → Q none σ' := k
    generalize mT1 m = m1 at hk ⊢
    intro σ1 c1 i1 x1 f1
    have hsz1 : σ1.1 1 1 = nI (mX m).length := by rw [← x1]; exact c1.1.2.1
    refine ev_ic_ne okPf_takeText rfl rfl trivial (fun g => ?_) (fun g => ?_)
    · rw [hsz1] at g
      have hne : ¬ pbl (mX m) 0 = (mX m).length := fun z => g (by rw [z])
      have e2 : mT2 (mX m) m1 = mT3 (tU (mP m1).1) ((mX m).drop (pbl (mX m) 0)) (sP m1 (tN (pbl (mX m) 0) (mP m1).1, (mP m1).2)) := if_neg hne
      rw [e2] at hk
      refine ev_cv okPf_takeText okLa_growThisIndent rfl rfl trivial rfl (by decide +kernel) rfl rfl (sp_grow c1 i1.2.2.1.1 (by omega) fun σ2 q1 q2 => ?_)
      have t2 : TextAt σ2 1 (mX m) := by rw [← x1]; exact q1.1
      refine ev_cv okPf_takeText okTx_dropFirst rfl rfl trivial rfl (by decide +kernel) rfl rfl (sp_dropFirst hbl t2 hi.x128 fun σ3 r1 r2 => ?_)
      have c3 := q1.tx r2 r1
      refine ev_cv okPf_takeText okLa_takeUnderlined rfl rfl trivial rfl (by decide +kernel) rfl rfl (sp_takeUnderlined c3 i1.2.2.1.2.2.2.1 fun σ4 s1 s2 => ?_)
      have f4 : Fr [1, 2, 4, 5, 6, 7, 12, 13, 14, 15, 16, 17, 18, 19, 20, 21] σ σ4 := (((f1.wk (by decide)).tr (q2.wk (by decide))).tr (r2.wk (by decide))).tr (s2.wk (by decide))
      have i4 : Inv (pb + 4000) (sX (sP m1 (tN (pbl (mX m) 0) (mP m1).1, (mP m1).2)) ((mX m).drop (pbl (mX m) 0))) := ⟨fun b hb => hi.1 b (List.mem_of_mem_drop hb), i1.2.1, tN_NI i1.2.2.1, i1.2.2.2⟩
      have c4 : CV σ4 (sX (sP m1 (tN (pbl (mX m) 0) (mP m1).1, (mP m1).2)) ((mX m).drop (pbl (mX m) 0))) := s1
      have tu : tU (mP (sX (sN m1 2 (nI (min (cl (mP m1).1 0 - 1) (cl (mP m1).1 2 + pbl (mX m) 0)))) ((mX m).drop (pbl (mX m) 0)))).1 = tU (mP m1).1 := rfl
      rw [tu]
      have hu := tU_lt (mP m1).1
      generalize tU (mP m1).1 = u at hk hu ⊢
      clear s1 tu e2
      generalize hM : sP m1 (tN (pbl (mX m) 0) (mP m1).1, (mP m1).2) = M at c4 i4 hk
      generalize (mX m).drop (pbl (mX m) 0) = y at c4 i4 hk
      clear hM c3 q1 r1 c1 i1
      obtain ⟨a1, a2, a3, a4, a5⟩ := i4
      obtain ⟨e4, -, l4⟩ := Rg_cl (N := (mP M).1) a3.2.2.1 (by decide)
      have g4 : σ4.1 4 4 = nI (cl (mP M).1 4) := (c4.2.1.1 4 (by decide)).trans e4
      have g7 : σ4.1 4 7 = (mP M).1 7 := c4.2.1.1 7 (by decide)
      have hy8 : ∀ b ∈ y, b < 128 := fun b hb => by have := a1 b hb; omega
      unfold mT3 at hk
      refine ev_if_le okPf_takeText rfl rfl trivial (fun g => ?_) (fun g => ?_)
      · rw [g4] at g
        have hz : ¬ 0 < cl (mP M).1 4 := fun z => nI_nle z (by omega) g
        rw [if_neg hz] at hk
        refine ev_if_ne okPf_takeText rfl rfl trivial (fun g => ?_) (fun g => ?_)
        · rw [g7] at g
          rw [if_neg g] at hk
          refine ev_cv okPf_takeText okPf_gatherWords rfl rfl trivial rfl (by decide +kernel) rfl rfl (sp_gatherWords hu c4 ⟨a1, a2, a3, a4, a5⟩ (by omega) fun σ5 t1 t2 => ?_)
          refine ev_rv okPf_takeText rfl rfl trivial rfl (hk σ5 y ?_ (f4.tr (t2.wk (by decide))))
          rw [← gW_sX]
          exact t1
        · have g : σ4.1 4 7 = 0 := by simpa using g
          rw [g7] at g
          rw [if_pos g] at hk
          refine ev_cv okPf_takeText okTx_dropCarets rfl rfl trivial rfl (by decide +kernel) rfl rfl (sp_dropCarets c4.1 hy8 fun σ5 t1 t2 => ?_)
          have c5 := c4.tx t2 t1
          refine ev_cv okPf_takeText okPf_putEntered rfl rfl trivial rfl (by decide +kernel) rfl rfl (sp_putEntered (pb := pb + 4000) hu c5 (fun b hb => hy8 b (List.mem_filter.mp hb).1) a4 a5 a3.2.2.2.2.2.2.2.2 (by omega) fun σ6 v1 v2 => ?_)
          refine ev_goto okPf_takeText rfl rfl trivial (ev_rv okPf_takeText rfl rfl trivial rfl (hk σ6 (noC y) v1 ((f4.tr (t2.wk (by decide))).tr (v2.wk (by decide)))))
      · rw [g4] at g
        have hz : 0 < cl (mP M).1 4 := by
          rcases Nat.eq_zero_or_pos (cl (mP M).1 4) with q | q
          · exact absurd (by rw [q]; decide) g
          · exact q
        rw [if_pos hz] at hk
        refine ev_cv okPf_takeText okPf_putCentred rfl rfl trivial rfl (by decide +kernel) rfl rfl (sp_putCentred (pb := pb + 4000) hu c4 a3.1 a3.2.2.1 hz hy8 a4 a5 a3.2.2.2.2.2.2.2.2 (by omega) fun σ5 t1 t2 => ?_)
        refine ev_goto okPf_takeText rfl rfl trivial (ev_rv okPf_takeText rfl rfl trivial rfl (hk σ5 _ t1 (f4.tr (t2.wk (by decide)))))
    · have g : nI (pbl (mX m) 0) = σ1.1 1 1 := by simpa using g
      rw [hsz1] at g
      have he : pbl (mX m) 0 = (mX m).length := (nI_eq (by omega) (by omega)).mp g
      have e2 : mT2 (mX m) m1 = mPut 0 [] m1 := if_pos he
      rw [e2] at hk
      refine ev_cv okPf_takeText okPf_putEmptyLine rfl rfl trivial rfl (by decide +kernel) rfl rfl (sp_putEmptyLine (pb := pb + 4000) c1 i1.2.2.2.1 i1.2.2.2.2 i1.2.2.1.2.2.2.2.2.2.2.2 (by omega) fun σ2 q1 q2 => ?_)
      refine ev_rv okPf_takeText rfl rfl trivial rfl (hk σ2 (mX m1) ?_ ((f1.wk (by decide)).tr (q2.wk (by decide))))
      exact q1
  have brk : (0 < pbl (mX m) 0 ∨ (mX m).length = 0) → Ev lc G mPf_takeText 22 [some (.ref 0), some (.int (nI (pbl (mX m) 0))), none] [] σ Q := by
    intro h
    have e : mT1 m = mBrk m := if_pos h
    rw [e] at body
    refine ev_cv okPf_takeText okPf_breakParagraph rfl rfl trivial rfl (by decide +kernel) rfl rfl (sp_brkC hc hi (by omega) fun σ1 q1 q2 => body σ1 q1 (mBrk_Inv hi) (mBrk_X m) (q2.wk (by decide)))
  refine ev_if_gt okPf_takeText rfl rfl trivial (fun g => ?_) (fun g => ?_)
  · refine brk (Or.inl ?_)
    rcases Nat.eq_zero_or_pos (pbl (mX m) 0) with q | q
    · rw [q] at g; exact absurd g (by decide)
    · exact q
  · have hz : ¬ 0 < pbl (mX m) 0 := fun z => g (nI_lt (a := 0) z (by omega))
    refine ev_if_ne okPf_takeText rfl rfl trivial (fun g2 => ?_) (fun g2 => ?_)
    · rw [hsz] at g2
      have e : mT1 m = m := if_neg (fun z => z.elim hz (fun q => g2 (by rw [q]; rfl)))
      rw [e] at body
      exact body σ hc (hi.mono (by omega)) rfl Fr.rf
    · have g2 : σ.1 1 1 = 0 := by simpa using g2
      rw [hsz] at g2
      refine brk (Or.inr ?_)
      rcases Nat.eq_zero_or_pos (mX m).length with q | q
      · exact q
      · exact absurd g2 (nI_ne0 q (by omega))
end CG
