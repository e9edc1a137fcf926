/-! ===== the reference: text, space ===== -/
section RT3
variable {lc : Launch} {G : GG} {σ : St2} {Q : Option Value → St2 → Prop} {m : MS} {pb : Nat}
theorem sp_putM {u : Nat} (hu : u < 2) {z : List Nat} (hz : ∀ b ∈ z, b < 128) (hc : RV σ m) (hs : LstR σ 3 24 300 (shW u z)) (hH : ∀ b ∈ mH m, b < 128) (hF : ∀ b ∈ mF m, b < 128) (hp : PB pb (mP m).1) (hpb : pb < 900000000) (k : ∀ σ', RV σ' (mPut u z m) → Fq [40] [24, 34, 35, 36, 42, 29] σ σ' → Q none σ') : Ev lc G mMd_put 0 [some (.ref 22), none] [] σ Q :=
  sp_putR (B := pb) (shW_lt hu hz) hc.2.1 hs hH hF (by omega) hp fun σ' q1 q2 => k σ' (hc.pg q2 (by decide) (by decide) q1) q2
theorem sp_space (hc : RV σ m) (hi : Inv pb m) (hpb : pb < 800000000) {n : Int32} (k : ∀ σ', RV σ' (sP (mBrk m) (pSkip (mH (mBrk m)) (mF (mBrk m)) n (mP (mBrk m)))) → Fq FS FF σ σ' → Q none σ') : Ev lc G mMd_space 0 [some (.ref 22), some (.int n), none] [] σ Q := by
  have i1 := mBrk_Inv hi
  refine ev_cv okMd_space okMd_breakNow rfl rfl trivial rfl (by decide +kernel) rfl rfl (sp_brkR hc hi (by omega) fun σ1 q1 q2 => ?_)
  refine sp_space4 (B := pb + 4000) q1.2.1 i1.2.2.2.1 i1.2.2.2.2 (by omega) i1.2.2.1.2.2.2.2.2.2.2.2 fun σ2 r1 r2 => ?_
  exact k σ2 (q1.pg r2 (by decide) (by decide) r1) ((q2.wk (by decide) (by decide)).tr (r2.wk (by decide) (by decide)))
theorem sp_text (hc : RV σ m) (hi : Inv pb m) (hpb : pb < 700000000) (k : ∀ σ', RV σ' (mTx m) → Fq FS FF σ σ' → Q none σ') : Ev lc G mMd_text 0 [some (.ref 22), none, none, none, none] [] σ Q := by
  have h100 := hc.1.1
  have hbl := pbl_len (mX m)
  have hx8 := hi.x128
  refine ev_nop okMd_text rfl rfl trivial (lp_blanks hc.1 hx8 (mX m).length 0 (by omega) (Nat.zero_le _) ?_)
  -- behind the BREAK
  have body : ∀ σ1, RV σ1 (mT1 m) → Inv (pb + 4000) (mT1 m) → mX (mT1 m) = mX m → Fq FS FF σ σ1 → Ev lc G mMd_text 53 [some (.ref 22), some (.int (nI (pbl (mX m) 0))), some (.int (b2 (decide (pbl (mX m) 0 = (mX m).length)))), none, none] [] σ1 Q := by
    have hk : ∀ σ', RV σ' (mT2 (mX m) (mT1 m)) → Fq FS FF σ σ' → Q none σ' := k
    generalize mT1 m = m1 at hk ⊢
    intro σ1 c1 i1 x1 f1
    obtain ⟨a1, a2, a3, a4, a5⟩ := i1
    refine ev_if_eq okMd_text rfl rfl trivial (fun g => ?_) (fun g => ?_)
    · rw [b2_0] at g
      have hne : ¬ pbl (mX m) 0 = (mX m).length := of_decide_eq_false g
      have e2 : mT2 (mX m) m1 = mT3 (tU (mP m1).1) ((mX m).drop (pbl (mX m) 0)) (sP m1 (tN (pbl (mX m) 0) (mP m1).1, (mP m1).2)) := if_neg hne
      rw [e2] at hk
      obtain ⟨h0, h1, h2, b0, b1, b2'⟩ := R3_cl a3.1
      obtain ⟨e5, -, f5⟩ := Rg_cl (N := (mP m1).1) a3.2.2.2.1 (by decide)
      -- THIS INDENT has grown
      have grown : ∀ σ2, RV σ2 (sN m1 2 (nI (min (cl (mP m1).1 0 - 1) (cl (mP m1).1 2 + pbl (mX m) 0)))) → Fq FS FF σ σ2 → Ev lc G mMd_text 105 [some (.ref 22), some (.int (nI (pbl (mX m) 0))), none, none, none] [] σ2 Q := by
        intro σ2 c2 f2
        have e32 : σ2.1 22 32 = nI (cl (mP m1).1 5) := (c2.2.1.1 5 (by decide)).trans e5
        have after : Ev lc G mMd_text 138 [some (.ref 22), some (.int (nI (pbl (mX m) 0))), none, some (.int (nI (256 * tU (mP m1).1))), none] [.int (nI (cl (mP m1).1 5 - 1)), .ref 22] σ2 Q := by
          have c3 : RV (up2 σ2.1 22 32 (nI (cl (mP m1).1 5 - 1)), σ2.2) (sP m1 (tN (pbl (mX m) 0) (mP m1).1, (mP m1).2)) := c2.set 5 (by decide) (nI (cl (mP m1).1 5 - 1))
          have f3 : Fq FS FF σ (up2 σ2.1 22 32 (nI (cl (mP m1).1 5 - 1)), σ2.2) := f2.tr (Fq.f1 (by decide))
          have i3 : Inv (pb + 4000) (sP m1 (tN (pbl (mX m) 0) (mP m1).1, (mP m1).2)) := ⟨a1, a2, tN_NI a3, a4, a5⟩
          have hu := tU_lt (mP m1).1
          generalize hS3 : (up2 σ2.1 22 32 (nI (cl (mP m1).1 5 - 1)), σ2.2) = σ3 at c3 f3
          generalize tU (mP m1).1 = u at hk hu ⊢
          have x3 : mX (sP m1 (tN (pbl (mX m) 0) (mP m1).1, (mP m1).2)) = mX m := x1
          generalize sP m1 (tN (pbl (mX m) 0) (mP m1).1, (mP m1).2) = M at c3 i3 hk x3
          have i3' := i3
          obtain ⟨g1, g2, g3, g4, g5⟩ := i3
          obtain ⟨e4, -, l4⟩ := Rg_cl (N := (mP M).1) g3.2.2.1 (by decide)
          have s31 : σ3.1 22 31 = nI (cl (mP M).1 4) := (c3.2.1.1 4 (by decide)).trans e4
          have s25 : σ3.1 22 25 = (mP M).1 7 := c3.2.1.1 7 (by decide)
          have hy8 : ∀ b ∈ (mX m).drop (pbl (mX m) 0), b < 128 := fun b hb => hx8 b (List.mem_of_mem_drop hb)
          have hz8 : ∀ b ∈ noC ((mX m).drop (pbl (mX m) 0)), b < 128 := fun b hb => hy8 b (List.mem_filter.mp hb).1
          unfold mT3 at hk
          -- the sheet, then PUT
          have sheet : (0 < cl (mP M).1 4 ∨ (mP M).1 7 = 0) → Ev lc G mMd_text 155 [some (.ref 22), some (.int (nI (pbl (mX m) 0))), none, some (.int (nI (256 * u))), none] [] σ3 Q := by
            intro hor
            refine ev_nop okMd_text rfl rfl trivial ?_
            have q4 : Fq [24] [3] σ3 (up2 σ3.1 22 3 (nI 0), σ3.2) := Fq.f1 (by decide)
            have c4 := c3.sheet q4
            have s4 : LstR (up2 σ3.1 22 3 (nI 0), σ3.2) 3 24 300 [] := ⟨by decide, up2_same σ3.1 22 3 _, RowAt.nil⟩
            generalize (up2 σ3.1 22 3 (nI 0), σ3.2) = σ4 at q4 c4 s4 ⊢
            have hx4 : LineR σ4 (mX m) := by rw [← x3]; exact c4.1
            refine ev_lv [some (.ref 22), none, none, some (.int (nI (256 * u))), some (.int (nI (pbl (mX m) 0)))] ⟨rfl, rfl, rfl, trivial⟩ (lp_sheet hx8 hu ((mX m).length - pbl (mX m) 0) (pbl (mX m) 0) σ4 (by omega) (Nat.le_refl _) hx4 (by rw [td_nil (Nat.le_refl _)]; exact s4) fun σ5 r1 r2 => ?_)
            have c5 := c4.sheet r2
            have f5 : Fq FS FF σ σ5 := (f3.tr (q4.wk (by decide) (by decide))).tr (r2.wk (by decide) (by decide))
            have t31 : σ5.1 22 31 = nI (cl (mP M).1 4) := (c5.2.1.1 4 (by decide)).trans e4
            refine ev_if_le okMd_text rfl rfl trivial (fun g => ?_) (fun g => ?_)
            · rw [t31] at g
              have hz : ¬ 0 < cl (mP M).1 4 := fun z => nI_nle z (by omega) g
              have h7 : (mP M).1 7 = 0 := hor.resolve_left hz
              rw [if_neg hz, if_pos h7] at hk
              refine ev_cv okMd_text okMd_put rfl rfl trivial rfl (by decide +kernel) rfl rfl (sp_putM (pb := pb + 4000) hu hz8 c5 r1 g4 g5 g3.2.2.2.2.2.2.2.2 (by omega) fun σ6 v1 v2 => ?_)
              exact ev_rv okMd_text rfl rfl trivial rfl (hk σ6 v1 (f5.tr (v2.wk (by decide) (by decide))))
            · rw [t31] at g
              have hz : 0 < cl (mP M).1 4 := by
                rcases Nat.eq_zero_or_pos (cl (mP M).1 4) with q | q
                · exact absurd (by rw [q]; decide) g
                · exact q
              rw [if_pos hz] at hk
              refine ev_cv okMd_text okMd_centre rfl rfl trivial rfl (by decide +kernel) rfl rfl (sp_centre c5 r1 (shW_lt hu hz8) g3.1 g3.2.2.1 hz fun σ6 v1 v2 v3 => ?_)
              rw [noE_shW hu, shW_len] at v1
              rw [noE_shW hu] at v2
              refine ev_cv okMd_text okMd_put rfl rfl trivial rfl (by decide +kernel) rfl rfl (sp_putM (pb := pb + 4000) hu (fun b hb => hz8 b (noE_mem hb)) v1 v2 g4 g5 ((g3.2.2.2.2.2.2.2.2.keep (by decide) (by decide)).keep (by decide) (by decide)) (by omega) fun σ7 w1 w2 => ?_)
              exact ev_rv okMd_text rfl rfl trivial rfl (hk σ7 w1 ((f5.tr (v3.wk (by decide) (by decide))).tr (w2.wk (by decide) (by decide))))
          refine ev_if_gt okMd_text rfl rfl trivial (fun g => ?_) (fun g => ?_)
          · rw [hS3, s31] at g
            rw [hS3]
            refine sheet (Or.inl ?_)
            rcases Nat.eq_zero_or_pos (cl (mP M).1 4) with q | q
            · rw [q] at g; exact absurd g (by decide)
            · exact q
          · rw [hS3, s31] at g
            rw [hS3]
            have hz : ¬ 0 < cl (mP M).1 4 := fun z => g (nI_lt (a := 0) z (by omega))
            refine ev_if_ne okMd_text rfl rfl trivial (fun g => ?_) (fun g => ?_)
            · rw [s25] at g
              rw [if_neg hz, if_neg g] at hk
              refine ev_cv okMd_text okMd_readWords rfl rfl trivial rfl (by decide +kernel) rfl rfl (sp_readWords (i := pbl (mX m) 0) hu (by rw [x3]; exact hbl) c3 i3' (by omega) fun σ4 r1 r2 => ?_)
              rw [x3] at r1
              exact ev_rv okMd_text rfl rfl trivial rfl (hk σ4 r1 (f3.tr r2))
            · have g : σ3.1 22 25 = 0 := by simpa using g
              rw [s25] at g
              exact sheet (Or.inr g)
        refine ev_if_le okMd_text rfl rfl trivial (fun g => ?_) (fun g => ?_)
        · rw [e32] at g
          have hz : cl (mP m1).1 5 = 0 := by
            rcases Nat.eq_zero_or_pos (cl (mP m1).1 5) with q | q
            · exact q
            · exact absurd g (nI_nle q (by omega))
          have tu : tU (mP m1).1 = 0 := if_pos hz
          rw [tu, hz] at after
          refine ev_nop okMd_text rfl rfl trivial ?_
          refine ev_if_le okMd_text rfl rfl trivial (fun g2 => ?_) (fun g2 => absurd g (by rw [e32] at g2; exact g2))
          exact ev_nop okMd_text rfl rfl trivial after
        · rw [e32] at g
          have hz : ¬ cl (mP m1).1 5 = 0 := fun q => g (by rw [q]; decide)
          have tu : tU (mP m1).1 = 1 := if_neg hz
          rw [tu] at after
          refine ev_goto okMd_text rfl rfl trivial ?_
          refine ev_if_le okMd_text rfl rfl trivial (fun g2 => absurd (by rw [e32] at g2; exact g2) g) (fun g2 => ?_)
          refine ev_goto okMd_text rfl rfl trivial ?_
          rw [e32, pk_sub (by omega)]
          exact after
      have e29 : σ1.1 22 29 = nI (cl (mP m1).1 2) := (c1.2.1.1 2 (by decide)).trans h2
      have e30 : σ1.1 22 30 = nI (cl (mP m1).1 0) := (c1.2.1.1 0 (by decide)).trans h0
      refine ev_if_le okMd_text rfl rfl trivial (fun g2 => ?_) (fun g2 => ?_)
      · have hz : pbl (mX m) 0 = 0 := by
          rcases Nat.eq_zero_or_pos (pbl (mX m) 0) with q | q
          · exact q
          · exact absurd g2 (nI_nle q (by omega))
        refine ev_lv [some (.ref 22), some (.int (nI (pbl (mX m) 0))), none, none, none] ⟨rfl, rfl, trivial⟩ (grown σ1 ?_ f1)
        rw [sN_id (by rw [h2, hz, Nat.add_zero, Nat.min_eq_right (by omega)])]
        exact c1
      · have last : ∀ v : Nat, v = min (cl (mP m1).1 0 - 1) (cl (mP m1).1 2 + pbl (mX m) 0) → Ev lc G mMd_text 102 [some (.ref 22), some (.int (nI (pbl (mX m) 0))), some (.int (b2 (decide (pbl (mX m) 0 = (mX m).length)))), none, none] [.int (nI v), .ref 22] σ1 Q := by
          intro v hv
          subst hv
          refine ev_nop okMd_text rfl rfl trivial ?_
          exact ev_lv [some (.ref 22), some (.int (nI (pbl (mX m) 0))), none, none, none] ⟨rfl, rfl, trivial⟩ (grown _ (c1.set 2 (by decide) _) (f1.tr (Fq.f1 (by decide))))
        refine ev_ic_le okMd_text rfl rfl trivial (fun g3 => ?_) (fun g3 => ?_)
        · rw [e29, e30, nI_add, pk_sub (by omega)] at g3
          have hle : cl (mP m1).1 2 + pbl (mX m) 0 ≤ cl (mP m1).1 0 - 1 := (nI_leI (by omega) (by omega)).mp g3
          refine ev_nop okMd_text rfl rfl trivial ?_
          rw [e29, nI_add]
          exact last _ (by rw [Nat.min_eq_right hle])
        · rw [e29, e30, nI_add, pk_sub (by omega)] at g3
          have hlt : ¬ cl (mP m1).1 2 + pbl (mX m) 0 ≤ cl (mP m1).1 0 - 1 := fun z => g3 (nI_le z (by omega))
          refine ev_goto okMd_text rfl rfl trivial ?_
          rw [e30, pk_sub (by omega)]
          exact last _ (by rw [Nat.min_eq_left (by omega)])
    · rw [b2_0] at g
      have he : pbl (mX m) 0 = (mX m).length := by simpa using g
      have e2 : mT2 (mX m) m1 = mPut 0 [] m1 := if_pos he
      rw [e2] at hk
      have q4 : Fq [24] [3] σ1 (up2 σ1.1 22 3 (nI 0), σ1.2) := Fq.f1 (by decide)
      refine ev_cv okMd_text okMd_put rfl rfl trivial rfl (by decide +kernel) rfl rfl (sp_putM (u := 0) (z := []) (pb := pb + 4000) (by decide) (fun b hb => absurd hb List.not_mem_nil) (c1.sheet q4) ⟨by decide, up2_same σ1.1 22 3 _, RowAt.nil⟩ a4 a5 a3.2.2.2.2.2.2.2.2 (by omega) fun σ2 r1 r2 => ?_)
      exact ev_rv okMd_text rfl rfl trivial rfl (hk σ2 r1 ((f1.tr (q4.wk (by decide) (by decide))).tr (r2.wk (by decide) (by decide))))
  have brk : (0 < pbl (mX m) 0 ∨ (mX m).length = 0) → Ev lc G mMd_text 49 [some (.ref 22), some (.int (nI (pbl (mX m) 0))), some (.int (b2 (decide (pbl (mX m) 0 = (mX m).length)))), none, none] [] σ Q := by
    intro h
    have e : mT1 m = mBrk m := if_pos h
    rw [e] at body
    exact ev_cv okMd_text okMd_breakNow rfl rfl trivial rfl (by decide +kernel) rfl rfl (sp_brkR hc hi (by omega) fun σ1 q1 q2 => body σ1 q1 (mBrk_Inv hi) (mBrk_X m) (q2.wk (by decide) (by decide)))
  have test : ∀ f : Bool, f = decide (pbl (mX m) 0 = (mX m).length) → Ev lc G mMd_text 40 [some (.ref 22), some (.int (nI (pbl (mX m) 0))), none, none, none] [.int (b2 f)] σ Q := by
    intro f hf
    subst hf
    refine ev_if_gt okMd_text rfl rfl trivial (fun g => ?_) (fun g => ?_)
    · refine brk (Or.inl ?_)
      rcases Nat.eq_zero_or_pos (pbl (mX m) 0) with q | q
      · rw [q] at g; exact absurd g (by decide)
      · exact q
    · have hz : ¬ 0 < pbl (mX m) 0 := fun z => g (nI_lt (a := 0) z (by omega))
      refine ev_if_eq okMd_text rfl rfl trivial (fun g2 => ?_) (fun g2 => ?_)
      · rw [b2_0] at g2
        have hne := of_decide_eq_false g2
        have e : mT1 m = m := if_neg (fun z => z.elim hz (fun q => hne (by omega)))
        rw [e] at body
        exact body σ hc (hi.mono (by omega)) rfl Fq.rf
      · rw [b2_0] at g2
        have he : pbl (mX m) 0 = (mX m).length := by simpa using g2
        exact brk (Or.inr (by omega))
  refine ev_ic_ne okMd_text rfl rfl trivial (fun g => ?_) (fun g => ?_)
  · rw [hc.1.2.1] at g
    exact ev_nop okMd_text rfl rfl trivial (test false (decide_eq_false (fun z => g (by rw [z]))).symm)
  · have g : nI (pbl (mX m) 0) = σ.1 22 1 := by simpa using g
    rw [hc.1.2.1] at g
    exact ev_goto okMd_text rfl rfl trivial (test true (decide_eq_true ((nI_eq (by omega) (by omega)).mp g)).symm)
end RT3
