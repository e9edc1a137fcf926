/-! ===== the reference: texts ===== -/
section RX
variable {lc : Launch} {G : GG} {Q : Option Value → St2 → Prop}
theorem RV.wd {σ σ' : St2} {m : MS} {w : List (List Nat × Nat)} (h : RV σ m) (hf : Fq [25, 26] [6] σ σ') (hp : RwV σ' w) : RV σ' (sW m w) := by
  obtain ⟨c1, c2, c3, ⟨cnt, c4⟩, c5, c6⟩ := h
  exact ⟨c1.fq hf (by decide) (by decide) (by decide), c2.fqs hf (by decide) (by decide), hp, ⟨cnt, c4.fq hf (by decide) (by decide)⟩, by rw [hf.g2 (by decide)]; exact c5, by rw [hf.g1 (by decide)]; exact c6⟩
theorem wl_le {ws : List (List Nat × Nat)} (h : ∀ q ∈ ws, q.1.length ≤ 100) : tot wl ws ≤ 100 * ws.length := by
  induction ws with
  | nil => exact Nat.le_refl _
  | cons q ws ih =>
    have h1 := h q List.mem_cons_self
    have h2 := ih (fun z hz => h z (List.mem_cons_of_mem _ hz))
    rw [tot, List.length_cons]
    have : wl q = q.1.length := rfl
    omega
set_option maxRecDepth 100000 in
theorem lp_readWords {u : Nat} (hu : u < 2) : ∀ (n i : Nat) (σ : St2) (m : MS) (pb : Nat), (mX m).length ≤ i + n → i ≤ (mX m).length → RV σ m → Inv pb m → pb + 4000 * n < 900000000 →
    (∀ σ', RV σ' (gW u [] ((mX m).drop i) m) → Fq FS FF σ σ' → Q none σ') →
    Ev lc G mMd_readWords 2 [some (.ref 22), none, some (.int (nI (256 * u))), some (.int (nI i)), none] [] σ Q := by
  intro n
  induction n with
  | zero =>
    intro i σ m pb hn hi hc hv hp k
    have h100 := hc.1.1
    rw [List.drop_eq_nil_of_le (by omega), gW, wd_nil] at k
    exact ev_ic_ge okMd_readWords rfl rfl trivial (fun g => ev_rv okMd_readWords rfl rfl trivial rfl (k σ hc Fq.rf)) (fun g => absurd (by rw [hc.1.2.1]; exact nI_le (by omega) (by omega)) g)
  | succ n ih =>
    intro i σ m pb hn hi hc hv hp k
    have h100 := hc.1.1
    have hx8 := hv.x128
    by_cases hl : i < (mX m).length
    · have hbb := getD_lt (j := i) hx8 (by decide)
      have hrd : σ.1 23 (nI i).toNatClampNeg = nI ((mX m).getD i 0) := by rw [nI_cl (by omega)]; exact hc.1.2.2 i hl
      refine ev_ic_ge okMd_readWords rfl rfl trivial (fun g => absurd g (by rw [hc.1.2.1]; exact nI_ge hl (by omega))) (fun g => ?_)
      refine ev_ic_ne okMd_readWords rfl rfl ⟨vp_nI (by omega) (by decide), trivial⟩ (fun g => ?_) (fun g => ?_)
      · rw [hrd] at g
        have e : ¬ (mX m).getD i 0 = 32 := fun q => g (by rw [q])
        have htl : 0 < (tk (mX m) i).length := by rw [tk_hit hl e]; simp
        have hte : i + (tk (mX m) i).length ≤ (mX m).length := by
          have := congrArg List.length (tk_drop (mX m) i)
          rw [List.length_append, List.length_drop, List.length_drop] at this
          omega
        rw [gW_at] at k
        refine ev_cv okMd_readWords okMd_isBare rfl rfl trivial rfl (by decide +kernel) rfl rfl (sp_isBare hc.1 hx8 (by omega) ?_)
        refine ev_if_eq okMd_readWords rfl rfl trivial (fun g2 => ?_) (fun g2 => ?_)
        · rw [b2_0] at g2
          have ht : hlt (tk (mX m) i) = true := by simpa using g2
          have ew : wd (tk (mX m) i) u m = sW (if (mW m).length = 80 then mBrk m else m) (mW (if (mW m).length = 80 then mBrk m else m) ++ [(tk (mX m) i, u)]) := if_pos ht
          have i2 : Inv (pb + 4000) (wd (tk (mX m) i) u m) := wd_Inv hv (fun b hb => by
            have h1 := tk_mem hb
            have h2 := hv.1 b h1.2
            omega) (by omega) hu
          have x2 : mX (wd (tk (mX m) i) u m) = mX m := wd_X _ _ _
          generalize wd (tk (mX m) i) u m = m2 at ew i2 x2 k
          -- the word is added
          have add : ∀ (m1 : MS) (σ1 : St2), RV σ1 m1 → mX m1 = mX m → WdOK (mW m1) → (mW m1).length < 80 → Fq FS FF σ σ1 → m2 = sW m1 (mW m1 ++ [(tk (mX m) i, u)]) → Ev lc G mMd_readWords 73 [some (.ref 22), none, some (.int (nI (256 * u))), some (.int (nI i)), none] [] σ1 Q := by
            intro m1 σ1 c1 y1 w1 l1 f1 e1
            have hT := wl_le (fun q hq => (w1.2 q hq).2.1)
            have hx1 : LineR σ1 (mX m) := by rw [← y1]; exact c1.1
            have go : Ev lc G mMd_readWords 95 [some (.ref 22), none, some (.int (nI (256 * u))), some (.int (nI i)), none] [.int (nI (rawW (mW m1)).length)] σ1 Q := by
              refine ev_nop okMd_readWords rfl rfl trivial ?_
              refine lp_letters hx8 hu (mX m).length i σ1 (rawW (mW m1)) (by omega) hi hx1 c1.2.2.1.2.2 (by rw [rawW_len]; omega) fun σ2 r1 r2 => ?_
              have e6 : σ2.1 22 6 = nI (mW m1).length := by rw [r2.g1 (by decide)]; exact c1.2.2.1.1
              refine ev_goto okMd_readWords rfl rfl ⟨by rw [e6]; exact vp_nI (by omega) (by decide), trivial⟩ ?_
              rw [e6, nI_cl (by omega)]
              have f3 : Fq [25, 26] [6] σ1 (up2 (up2 σ2.1 26 (mW m1).length (nI ((rawW (mW m1)).length + (tk (mX m) i).length)), σ2.2).1 22 6 ((up2 σ2.1 26 (mW m1).length (nI ((rawW (mW m1)).length + (tk (mX m) i).length)), σ2.2).1 22 6 + nI 1), (up2 σ2.1 26 (mW m1).length (nI ((rawW (mW m1)).length + (tk (mX m) i).length)), σ2.2).2) := (r2.wk (by decide) (by decide)).tr (Fq.tr (Fq.u1 (by decide) (by decide)) (Fq.f1 (σ := (_, _)) (by decide)))
              have wlen : (weS (mW m1)).length = (mW m1).length := by unfold weS; rw [psum_len]
              have c3 : RV (up2 (up2 σ2.1 26 (mW m1).length (nI ((rawW (mW m1)).length + (tk (mX m) i).length)), σ2.2).1 22 6 ((up2 σ2.1 26 (mW m1).length (nI ((rawW (mW m1)).length + (tk (mX m) i).length)), σ2.2).1 22 6 + nI 1), (up2 σ2.1 26 (mW m1).length (nI ((rawW (mW m1)).length + (tk (mX m) i).length)), σ2.2).2) m2 := by
                rw [e1]
                refine c1.wd f3 ⟨?_, ?_, ?_⟩
                · have e7 : (up2 σ2.1 26 (mW m1).length (nI ((rawW (mW m1)).length + (tk (mX m) i).length)), σ2.2).1 22 6 = nI (mW m1).length := by
                    dsimp only
                    rw [up2_ne _ _ _ (by decide)]; exact e6
                  dsimp only
                  rw [up2_same]
                  rw [show up2 σ2.1 26 (mW m1).length (nI ((rawW (mW m1)).length + (tk (mX m) i).length)) 22 6 = nI (mW m1).length from e7, nI_add]
                  simp
                · rw [weS_snoc]
                  have hold : RowAt σ2 26 (weS (mW m1)) := c1.2.2.1.2.1.fq r2 (by decide) (by decide)
                  refine RowAt.push hold ?_ (fun j hj => ?_)
                  · rw [wlen, ← rawW_len]
                    simp [up2, wl]
                  · rw [wlen] at hj
                    simp [up2, Nat.ne_of_lt hj]
                · rw [rawW_app, show rawW [(tk (mX m) i, u)] = (tk (mX m) i).map (fun b => b + 256 * u) by simp [rawW]]
                  intro j hj
                  rw [← r1 j hj]
                  simp [up2]
              generalize (up2 (up2 σ2.1 26 (mW m1).length (nI ((rawW (mW m1)).length + (tk (mX m) i).length)), σ2.2).1 22 6 ((up2 σ2.1 26 (mW m1).length (nI ((rawW (mW m1)).length + (tk (mX m) i).length)), σ2.2).1 22 6 + nI 1), (up2 σ2.1 26 (mW m1).length (nI ((rawW (mW m1)).length + (tk (mX m) i).length)), σ2.2).2) = σ3 at f3 c3 ⊢
              have f3' : Fq FS FF σ σ3 := f1.tr (f3.wk (by decide) (by decide))
              refine ev_lv [some (.ref 22), none, some (.int (nI (256 * u))), some (.int (nI (i + (tk (mX m) i).length))), none] ⟨rfl, rfl, rfl, trivial⟩ (ih (i + (tk (mX m) i).length) σ3 m2 (pb + 4000) (by rw [x2]; omega) (by rw [x2]; exact hte) c3 i2 (by omega) (fun σ' s1 s2 => k σ' (by rw [x2] at s1; exact s1) (f3'.tr s2)))
            have e6 : σ1.1 22 6 = nI (mW m1).length := c1.2.2.1.1
            refine ev_if_ne okMd_readWords rfl rfl trivial (fun g3 => ?_) (fun g3 => ?_)
            · rw [e6] at g3
              have hw0 : ¬ (mW m1).length = 0 := fun z => g3 (by rw [z]; rfl)
              have wlen : (weS (mW m1)).length = (mW m1).length := by unfold weS; rw [psum_len]
              refine ev_nop okMd_readWords rfl rfl ⟨by rw [e6, pk_sub (by omega)]; exact vp_nI (by omega) (by decide), trivial⟩ ?_
              have ev : σ1.1 26 (σ1.1 22 6 - nI 1).toNatClampNeg = nI (rawW (mW m1)).length := by
                rw [e6, pk_sub (by omega), nI_cl (by omega), c1.2.2.1.2.1 _ (by rw [wlen]; omega), we_at _ (by omega), rawW_len, Nat.sub_add_cancel (by omega), List.take_length]
              rw [ev]
              exact go
            · have g3 : σ1.1 22 6 = 0 := by simpa using g3
              rw [e6] at g3
              have hw0 : (mW m1).length = 0 := by
                rcases Nat.eq_zero_or_pos (mW m1).length with q | q
                · exact q
                · exact absurd g3 (nI_ne0 q (by omega))
              have : (rawW (mW m1)).length = 0 := by rw [List.length_eq_zero_iff.mp hw0]; rfl
              rw [this] at go
              exact ev_goto okMd_readWords rfl rfl trivial go
          have e6 : σ.1 22 6 = nI (mW m).length := hc.2.2.1.1
          have hw80 := hv.2.1.1
          refine ev_ic_ne okMd_readWords rfl rfl trivial (fun g3 => ?_) (fun g3 => ?_)
          · rw [e6] at g3
            have h80 : ¬ (mW m).length = 80 := fun z => g3 (by rw [z])
            rw [if_neg h80] at ew
            exact add m σ hc rfl hv.2.1 (by omega) Fq.rf ew
          · have g3 : σ.1 22 6 = nI 80 := by simpa using g3
            rw [e6] at g3
            have h80 : (mW m).length = 80 := (nI_eq (by omega) (by decide)).mp g3
            rw [if_pos h80] at ew
            have hne : mW m ≠ [] := fun z => by rw [z] at h80; cases h80
            refine ev_cv okMd_readWords okMd_breakNow rfl rfl trivial rfl (by decide +kernel) rfl rfl (sp_brkR hc hv (by omega) fun σ1 q1 q2 => ?_)
            exact add (mBrk m) σ1 q1 (mBrk_X m) (mBrk_Inv hv).2.1 (by rw [mBrk_W hne]; decide) (q2.wk (by decide) (by decide)) ew
        · rw [b2_0] at g2
          have ht : ¬ hlt (tk (mX m) i) = true := by simpa using g2
          have ew : wd (tk (mX m) i) u m = m := if_neg ht
          rw [ew] at k
          refine lp_bare hc.1 hx8 (mX m).length i (by omega) hi (ih (i + (tk (mX m) i).length) σ m pb (by omega) hte hc hv (by omega) k)
      · have g : σ.1 23 (nI i).toNatClampNeg = nI 32 := by simpa using g
        rw [hrd] at g
        have e : (mX m).getD i 0 = 32 := (nI_eq (by omega) (by decide)).mp g
        rw [List.drop_eq_getElem_cons hl, ← gD hl, e, gW_skip] at k
        refine ev_goto okMd_readWords rfl rfl trivial ?_
        rw [nI_add]
        exact ih (i + 1) σ m pb (by omega) (by omega) hc hv (by omega) k
    · rw [List.drop_eq_nil_of_le (by omega), gW, wd_nil] at k
      exact ev_ic_ge okMd_readWords rfl rfl trivial (fun g => ev_rv okMd_readWords rfl rfl trivial rfl (k σ hc Fq.rf)) (fun g => absurd (by rw [hc.1.2.1]; exact nI_le (by omega) (by omega)) g)
theorem sp_readWords {u : Nat} (hu : u < 2) {i : Nat} {σ : St2} {m : MS} {pb : Nat} (hi : i ≤ (mX m).length) (hc : RV σ m) (hv : Inv pb m) (hpb : pb < 800000000) (k : ∀ σ', RV σ' (gW u [] ((mX m).drop i) m) → Fq FS FF σ σ' → Q none σ') : Ev lc G mMd_readWords 0 [some (.ref 22), some (.int (nI i)), some (.int (nI (256 * u))), none, none] [] σ Q := by
  have h100 := hc.1.1
  exact ev_nop okMd_readWords rfl rfl trivial (ev_lv [some (.ref 22), none, some (.int (nI (256 * u))), some (.int (nI i)), none] ⟨rfl, rfl, rfl, trivial⟩ (lp_readWords hu (mX m).length i σ m pb (by omega) hi hc hv (by omega) k))
end RX
