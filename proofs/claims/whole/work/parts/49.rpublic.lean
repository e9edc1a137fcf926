/-! ===== the reference: its methods ===== -/
def bgF (I : Nat → Int32) (f : Nat) : Int32 := if f = 40 then nI 0 else if f = 38 then nI 0 else if f = 36 then nI 1 else if f = 35 then nI 0 else if f = 34 then nI 0 else if f = 33 then nI 24 else if f = 32 then nI 0 else if f = 31 then nI 0 else if f = 30 then nI 40 else if f = 29 then nI 0 else if f = 28 then nI 0 else if f = 27 then nI 1 else if f = 26 then nI 1 else if f = 25 then nI 1 else if f = 6 then nI 0 else if f = 1 then nI 0 else I f
theorem mBrk_W0 (m : MS) : mW (mBrk m) = [] := by
  by_cases h : mW m = []
  · rw [show mBrk m = m from if_pos h]; exact h
  · exact mBrk_W h
theorem mBrk_mBrk (m : MS) : mBrk (mBrk m) = mBrk m := if_pos (mBrk_W0 m)
theorem mF1_W (m : MS) : mW (mF1 m) = [] := by
  unfold mF1
  split
  · exact mBrk_W0 m
  · exact mBrk_W0 m
section RP2
variable {lc : Launch} {G : GG} {σ : St2} {Q : Option Value → St2 → Prop} {m : MS} {pb : Nat}
theorem sp_beginR (hc : RV σ m) (hw : mW m = []) (k : ∀ σ', RV σ' (mRs m) → Fr RC σ σ' → Q none σ') : Ev lc G mMd_begin 0 [some (.ref 22)] [] σ Q := by
  have fin : ∀ τ : St2, τ.2 = σ.2 → (∀ c, c ≠ 22 → τ.1 c = σ.1 c) → (∀ f, τ.1 22 f = bgF (σ.1 22) f) → Q none τ := by
    intro τ h2 h1 hf
    have hfq : Fq [] [1, 6, 25, 26, 27, 28, 29, 30, 31, 32, 33, 34, 35, 36, 38, 40] σ τ := by
      refine ⟨fun c _ hn => ⟨h1 c hn, by rw [h2]⟩, fun f hf' => ⟨?_, by rw [h2]⟩⟩
      simp only [List.mem_cons, List.not_mem_nil, or_false, not_or] at hf'
      obtain ⟨a1, a2, a3, a4, a5, a6, a7, a8, a9, a10, a11, a12, a13, a14, a15, a16⟩ := hf'
      rw [hf f]
      simp [bgF, a1, a2, a3, a4, a5, a6, a7, a8, a9, a10, a11, a12, a13, a14, a15, a16]
    obtain ⟨c1, ⟨d1, d2, d3, d4⟩, c3, ⟨cnt, c4⟩, c5, c6⟩ := hc
    refine k τ ⟨?_, ⟨fun j hj => ?_, ?_, ?_, d4.fq hfq (by decide) (by decide) (by decide)⟩, ?_, ⟨cnt, c4.fq hfq (by decide) (by decide)⟩, by rw [hfq.g2 (by decide)]; exact c5, by rw [hfq.g1 (by decide)]; exact c6⟩ (hfq.fr (by decide))
    · show LineR τ []
      exact ⟨by decide, hf 1, RowAt.nil⟩
    · have key : τ.1 22 (fm 12) = (mP m).1 12 := by rw [hfq.g1 (by decide)]; exact d1 12 (by decide)
      rcases (show j = 0 ∨ j = 1 ∨ j = 2 ∨ j = 3 ∨ j = 4 ∨ j = 5 ∨ j = 6 ∨ j = 7 ∨ j = 8 ∨ j = 9 ∨ j = 10 ∨ j = 11 ∨ j = 12 by omega) with rfl | rfl | rfl | rfl | rfl | rfl | rfl | rfl | rfl | rfl | rfl | rfl | rfl
      · exact hf 30
      · exact hf 28
      · exact hf 29
      · exact hf 27
      · exact hf 31
      · exact hf 32
      · exact hf 33
      · exact hf 25
      · exact hf 26
      · exact hf 34
      · exact hf 35
      · exact hf 36
      · exact key
    · show LstR τ 38 41 100 []
      exact ⟨by decide, hf 38, RowAt.nil⟩
    · show LstR τ 40 42 100 []
      exact ⟨by decide, hf 40, RowAt.nil⟩
    · show RwV τ (mW m)
      rw [hw]
      exact ⟨hf 6, RowAt.nil, RowAt.nil⟩
  refine ev_rv okMd_begin rfl rfl ⟨Or.inr rfl, Or.inr rfl, trivial⟩ rfl (fin _ rfl (fun c hc => by simp [up2, hc]) (fun f => rfl))
theorem sp_enterR (hc : RV σ m) (hi : Inv pb m) (hpb : pb < 600000000) (k : ∀ σ', RV σ' (mEn m) → Fr RC σ σ' → Q (some (.int ((mP (mEn m)).1 12 - (mP m).1 12))) σ') : Ev lc G mMd_enter 0 [some (.ref 22), none] [] σ Q := by
  have e42 : σ.1 22 42 = (mP m).1 12 := hc.2.1.1 12 (by decide)
  have h100 := hc.1.1
  have hx8 := hi.x128
  have htb := tb_nI (x := mX m) (j := 0) h100 (by decide)
  have b0 := getD_lt (j := 0) hx8 (by decide)
  have fin : ∀ (m1 : MS) (σ1 : St2), RV σ1 m1 → Fr RC σ σ1 → mEn m = sX m1 [] → Ev lc G mMd_enter 34 [some (.ref 22), some (.int ((mP m).1 12))] [] σ1 Q := by
    intro m1 σ1 c1 f1 e1
    have f2 : Fq [23] [1] σ1 (up2 σ1.1 22 1 (nI 0), σ1.2) := Fq.f1 (by decide)
    have c2 : RV (up2 σ1.1 22 1 (nI 0), σ1.2) (sX m1 []) := c1.tx f2 ⟨by decide, up2_same σ1.1 22 1 _, RowAt.nil⟩
    have e2 : (up2 σ1.1 22 1 (nI 0), σ1.2).1 22 42 = (mP m1).1 12 := c2.2.1.1 12 (by decide)
    refine ev_ri okMd_enter rfl rfl trivial rfl ?_
    rw [e2]
    have := k _ (by rw [e1]; exact c2) (f1.tr (f2.fr (by decide)))
    rw [e1] at this
    exact this
  have text : ¬ tb (mX m) (nI 0) = nI 46 → Ev lc G mMd_enter 30 [some (.ref 22), some (.int ((mP m).1 12))] [] σ Q := by
    intro h
    refine ev_cv okMd_enter okMd_text rfl rfl trivial rfl (by decide +kernel) rfl rfl (sp_text hc hi (by omega) fun σ1 q1 q2 => ?_)
    exact fin (mTx m) σ1 q1 (q2.fr (by decide)) (by unfold mEn; rw [if_neg h])
  refine ev_if_le okMd_enter rfl rfl trivial (fun g => ?_) (fun g => ?_)
  · rw [hc.1.2.1] at g
    rw [e42]
    refine text ?_
    rw [htb, if_neg (fun z => nI_nle z (by omega) g)]
    decide
  · rw [hc.1.2.1] at g
    have hl : 0 < (mX m).length := by
      rcases Nat.eq_zero_or_pos (mX m).length with q | q
      · exact absurd (by rw [q]; decide) g
      · exact q
    rw [if_pos hl] at htb
    have hv : σ.1 23 (nI 0).toNatClampNeg = nI ((mX m).getD 0 0) := hc.1.2.2 0 hl
    rw [e42]
    refine ev_ic_ne okMd_enter rfl rfl ⟨vp_nI (by decide) (by decide), trivial⟩ (fun g2 => ?_) (fun g2 => ?_)
    · rw [hv] at g2
      exact text (by rw [htb]; exact g2)
    · have g2 : σ.1 23 (nI 0).toNatClampNeg = nI 46 := by simpa using g2
      rw [hv, ← htb] at g2
      refine ev_cv okMd_enter okMd_command rfl rfl trivial rfl (by decide +kernel) rfl rfl (sp_command hc hi hpb fun σ1 q1 q2 => ?_)
      exact ev_goto okMd_enter rfl rfl trivial (fin (mCm m) σ1 q1 q2 (by unfold mEn; rw [if_pos g2]))
theorem sp_finishR (hc : RV σ m) (hi : Inv pb m) (hpb : pb < 600000000) (k : ∀ σ', RV σ' (mFi m) → Fr RC σ σ' → Q (some (.int ((mP (mFi m)).1 12 - (mP m).1 12))) σ') : Ev lc G mMd_finish 0 [some (.ref 22), none] [] σ Q := by
  have e42 : σ.1 22 42 = (mP m).1 12 := hc.2.1.1 12 (by decide)
  have i1 := mBrk_Inv hi
  refine ev_cv okMd_finish okMd_breakNow rfl rfl trivial rfl (by decide +kernel) rfl rfl (sp_brkR hc hi (by omega) fun σ1 q1 q2 => ?_)
  rw [e42]
  have fin : ∀ σ2, RV σ2 (mF1 m) → Fr RC σ σ2 → Ev lc G mMd_finish 22 [some (.ref 22), some (.int ((mP m).1 12))] [] σ2 Q := by
    intro σ2 c2 f2
    refine ev_cv okMd_finish okMd_begin rfl rfl trivial rfl (by decide +kernel) rfl rfl (sp_beginR c2 (mF1_W m) fun σ3 r1 r2 => ?_)
    refine ev_ri okMd_finish rfl rfl trivial rfl ?_
    rw [show σ3.1 22 42 = (mP (mFi m)).1 12 from r1.2.1.1 12 (by decide)]
    exact k σ3 r1 (f2.tr r2)
  have e34 : σ1.1 22 34 = (mP (mBrk m)).1 9 := q1.2.1.1 9 (by decide)
  obtain ⟨e9, -, l9⟩ := Rg_cl (N := (mP (mBrk m)).1) i1.2.2.1.2.2.2.2.2.2.2.1 (by decide)
  refine ev_if_le okMd_finish rfl rfl trivial (fun g => ?_) (fun g => ?_)
  · rw [e34, e9] at g
    have hz : (mP (mBrk m)).1 9 = 0 := by
      rcases Nat.eq_zero_or_pos (cl (mP (mBrk m)).1 9) with q | q
      · rw [e9, q]; rfl
      · exact absurd g (nI_nle q (by omega))
    have e : mF1 m = mBrk m := if_pos hz
    rw [e] at fin
    exact fin σ1 q1 (q2.fr (by decide))
  · rw [e34, e9] at g
    have hz : ¬ (mP (mBrk m)).1 9 = 0 := fun q => g (by rw [← e9, q]; decide)
    have e : mF1 m = sP (mBrk m) (pSkip (mH (mBrk m)) (mF (mBrk m)) (nI 99) (mP (mBrk m))) := if_neg hz
    rw [e] at fin
    refine ev_cv okMd_finish okMd_space rfl rfl trivial rfl (by decide +kernel) rfl rfl (sp_space q1 i1 (by omega) fun σ2 r1 r2 => ?_)
    rw [mBrk_mBrk] at r1
    exact fin σ2 r1 ((q2.fr (by decide)).tr (r2.fr (by decide)))
theorem sp_wipeR (hc : RV σ m) (k : ∀ σ', RV σ' (mWi m) → Fr RC σ σ' → Q (some (.int (nI (mP m).2.length))) σ') : Ev lc G mMd_wipe 0 [some (.ref 22), none] [] σ Q := by
  have e : σ.1 22 24 = nI (mP m).2.length := hc.2.1.2.2.2.2.1
  refine ev_ri okMd_wipe rfl rfl trivial rfl ?_
  rw [e]
  have f : Fq [40] [24] σ (up2 σ.1 22 24 (nI 0), σ.2) := Fq.f1 (by decide)
  exact k _ (hc.pg f (by decide) (by decide) (hc.2.1.out f ⟨by decide, up2_same σ.1 22 24 _, RowAt.nil⟩)) (f.fr (by decide))
theorem sp_lengthR (hc : RV σ m) (k : Q (some (.int (nI (mP m).2.length))) σ) : Ev lc G mMd_length 0 [some (.ref 22)] [] σ Q := by
  have e : σ.1 22 24 = nI (mP m).2.length := hc.2.1.2.2.2.2.1
  refine ev_ri okMd_length rfl rfl trivial rfl ?_
  rw [e]
  exact k
/-- between 0 and one below n -/
theorem in_lt {i : Int32} {n : Nat} (hn : n < 2 ^ 31) : (nI 0 ≤ i ∧ i ≤ nI n - nI 1) ↔ (¬ i < 0 ∧ i < nI n) := by
  rcases i32_cases i with ⟨q, -⟩ | ⟨q1, q2⟩
  · exact ⟨fun z => absurd q (Int32.not_lt.mpr z.1), fun z => absurd q z.1⟩
  · generalize i.toNatClampNeg = j at q1 q2
    subst q2
    rcases Nat.eq_zero_or_pos n with e | e
    · subst e
      have h1 : nI 0 - nI 1 < 0 := by decide
      exact ⟨fun z => absurd (Int32.lt_of_le_of_lt z.2 h1) (nI_neg q1), fun z => absurd z.2 (nI_neg q1)⟩
    · rw [pk_sub e]
      exact ⟨fun z => ⟨nI_neg q1, nI_lt (by have := (nI_leI q1 (by omega)).mp z.2; omega) hn⟩, fun z => ⟨nI_le (Nat.zero_le _) q1, nI_le (by have := (nI_ltI q1 hn).mp z.2; omega) (by omega)⟩⟩
theorem sp_atR (hc : RV σ m) {i : Int32} (k : Q (some (.int (tb (mP m).2 i))) σ) : Ev lc G mMd_at 0 [some (.ref 22), some (.int i)] [] σ Q := by
  obtain ⟨h1, h2, h3⟩ := hc.2.1.2.2.2
  unfold tb at k
  refine ev_cs okMd_at okMd_in rfl rfl trivial rfl (by decide +kernel) rfl rfl (sp_in ?_)
  have ed : decide (nI 0 ≤ i ∧ i ≤ nI (mP m).2.length - nI 1) = decide (¬ i < 0 ∧ i < nI (mP m).2.length) := decide_eq_decide.mpr (in_lt (by omega))
  rw [h2, ed]
  refine ev_if_eq okMd_at rfl rfl trivial (fun g => ?_) (fun g => ?_)
  · rw [b2_0] at g
    have g := of_decide_eq_false g
    refine ev_nop okMd_at rfl rfl trivial (ev_ri okMd_at rfl rfl trivial rfl ?_)
    by_cases z : i < 0
    · rw [if_pos z] at k; exact k
    · rw [if_neg z, if_pos (Int32.not_lt.mp (fun q => g ⟨z, q⟩))] at k
      exact k
  · rw [b2_0] at g
    have g : ¬ i < 0 ∧ i < nI (mP m).2.length := by simpa using g
    rw [if_neg g.1, if_neg (Int32.not_le.mpr g.2)] at k
    rcases i32_cases i with ⟨q, -⟩ | ⟨q1, q2⟩
    · exact absurd q g.1
    · have hlt : i.toNatClampNeg < (mP m).2.length := by
        rw [q2] at g
        exact (nI_ltI q1 (by omega)).mp g.2
      refine ev_goto okMd_at rfl rfl ⟨by rw [q2]; exact vp_nI (by omega) (by decide), trivial⟩ (ev_ri okMd_at rfl rfl trivial rfl ?_)
      rw [h3 _ hlt]
      exact k
theorem sp_demeritsR (hc : RV σ m) (k : Q (some (.long (mD m))) σ) : Ev lc G mMd_demerits 0 [some (.ref 22)] [] σ Q := by
  refine ev_rl okMd_demerits rfl rfl trivial rfl ?_
  rw [hc.2.2.2.2.1]
  exact k
theorem sp_lineR (hc : RV σ m) {i w : Int32} (k : Q (some (.int (lnA (mT m) i w))) σ) : Ev lc G mMd_line 0 [some (.ref 22), some (.int i), some (.int w)] [] σ Q := by
  obtain ⟨cnt, n1, n2, n3, n4, n5⟩ := hc.2.2.2.1
  unfold lnA at k
  rw [n2, Nat.mul_div_cancel_left _ (by decide)] at k
  refine ev_cs okMd_line okMd_in rfl rfl trivial rfl (by decide +kernel) rfl rfl (sp_in ?_)
  have ed : decide (nI 0 ≤ i ∧ i ≤ nI cnt - nI 1) = decide (¬ i < 0 ∧ i < nI cnt) := decide_eq_decide.mpr (in_lt (by omega))
  rw [n3, ed]
  refine ev_if_ne okMd_line rfl rfl trivial (fun g => ?_) (fun g => ?_)
  · rw [b2_0] at g
    have g : ¬ i < 0 ∧ i < nI cnt := by simpa using g
    rw [if_neg g.1, if_pos g.2] at k
    rcases i32_cases i with ⟨q, -⟩ | ⟨q1, q2⟩
    · exact absurd q g.1
    · have hlt : i.toNatClampNeg < cnt := by
        rw [q2] at g
        exact (nI_ltI q1 (by omega)).mp g.2
      have vi : vp_in i 8100 := by rw [q2]; exact vp_nI (by omega) (by decide)
      rcases i32_cases w with ⟨p, -⟩ | ⟨p1, p2⟩
      · rw [if_pos p] at k
        exact ev_tout 106 okMd_line rfl rfl trivial (Or.inl (Int32.lt_iff_toInt_lt.mp p)) rfl (ev_ri okMd_line rfl rfl trivial rfl k)
      · generalize w.toNatClampNeg = j at p1 p2 k
        subst p2
        rw [if_neg (nI_neg p1)] at k
        by_cases hj : j ≤ 5
        · rw [if_neg (nI_ge (show j < 6 by omega) (by decide))] at k
          have cell : ∀ c, c = 34 + j → σ.1 c i.toNatClampNeg = nI ((mT m).getD (6 * i.toNatClampNeg + j) 0) := fun c hcc => by rw [hcc]; exact n4 _ hlt j (by omega)
          have go : ∀ tgt off, (#[39, 46, 53, 60, 67, 82] : Array Int)[j]? = some off → (17 : Int) + off = (tgt : Nat) → Ev lc G mMd_line tgt [some (.ref 22), some (.int i), some (.int (nI j))] [] σ Q → Ev lc G mMd_line 16 [some (.ref 22), some (.int i), some (.int (nI j))] [] σ Q := by
            intro tgt off h1 h2 h3
            refine ev_tin tgt okMd_line rfl rfl trivial (by rw [nI_int p1]; omega) (by rw [nI_int p1]; omega) ?_ h2 h3
            rw [nI_int p1, Int.sub_zero, Int.toNat_natCast]
            exact h1
          rcases (show j = 0 ∨ j = 1 ∨ j = 2 ∨ j = 3 ∨ j = 4 ∨ j = 5 by omega) with rfl | rfl | rfl | rfl | rfl | rfl
          · refine go 56 39 rfl rfl (ev_ri okMd_line rfl rfl ⟨vi, trivial⟩ rfl ?_)
            rw [cell 34 rfl]; exact k
          · refine go 63 46 rfl rfl (ev_ri okMd_line rfl rfl ⟨vi, trivial⟩ rfl ?_)
            rw [cell 35 rfl]; exact k
          · refine go 70 53 rfl rfl (ev_ri okMd_line rfl rfl ⟨vi, trivial⟩ rfl ?_)
            rw [cell 36 rfl]; exact k
          · refine go 77 60 rfl rfl (ev_ri okMd_line rfl rfl ⟨vi, trivial⟩ rfl ?_)
            rw [cell 37 rfl]; exact k
          · have h01 := n5 _ hlt
            have c38 := cell 38 rfl
            obtain ⟨v, hv⟩ : ∃ v, v = (mT m).getD (6 * i.toNatClampNeg + 4) 0 := ⟨_, rfl⟩
            rw [← hv] at h01 c38 k
            refine go 84 67 rfl rfl ?_
            refine ev_if_eq okMd_line rfl rfl ⟨vi, trivial⟩ (fun g3 => ?_) (fun g3 => ?_)
            · rw [c38] at g3
              have e : v = 0 := by
                rcases Nat.eq_zero_or_pos v with q | q
                · exact q
                · exact absurd g3 (nI_ne0 q (by omega))
              rw [e] at k
              exact ev_nop okMd_line rfl rfl trivial (ev_ri okMd_line rfl rfl trivial rfl k)
            · rw [c38] at g3
              have e : v = 1 := by
                rcases Nat.eq_zero_or_pos v with q | q
                · exact absurd (by rw [q]; rfl) g3
                · omega
              rw [e] at k
              exact ev_goto okMd_line rfl rfl trivial (ev_ri okMd_line rfl rfl trivial rfl k)
          · refine go 99 82 rfl rfl (ev_ri okMd_line rfl rfl ⟨vi, trivial⟩ rfl ?_)
            rw [cell 39 rfl]; exact k
        · rw [if_pos (nI_le (show 6 ≤ j by omega) p1)] at k
          exact ev_tout 106 okMd_line rfl rfl trivial (Or.inr (by rw [nI_int p1]; omega)) rfl (ev_ri okMd_line rfl rfl trivial rfl k)
  · have g : b2 (decide (¬ i < 0 ∧ i < nI cnt)) = 0 := by simpa using g
    rw [b2_0] at g
    have g := of_decide_eq_false g
    refine ev_ri okMd_line rfl rfl trivial rfl ?_
    by_cases z : i < 0
    · rw [if_pos z] at k; exact k
    · rw [if_neg z, if_neg (fun q => g ⟨z, q⟩)] at k
      exact k
theorem sp_countR (hc : RV σ m) (h7 : ∃ fl, (mP m).1 7 = b2 fl) (h8 : ∃ jf, (mP m).1 8 = b2 jf) {w : Int32} (k : Q (some (.int (ctA m w))) σ) : Ev lc G mMd_count 0 [some (.ref 22), some (.int w)] [] σ Q := by
  obtain ⟨a1, ⟨p1, p2, p3, p4⟩, a3, ⟨cnt, a4⟩, a5, a6⟩ := hc
  rcases i32_cases w with ⟨q, -⟩ | ⟨q1, q2⟩
  · have e : ctA m w = mI 1 := if_pos q
    rw [e] at k
    have q' : w.toInt < 0 := Int32.lt_iff_toInt_lt.mp q
    refine ev_tout 115 okMd_count rfl rfl trivial (Or.inl q') rfl ?_
    refine ev_cv okMd_count okMd_count2 rfl rfl trivial rfl (by decide +kernel) rfl rfl ?_
    exact ev_tout 86 okMd_count2 rfl rfl trivial (Or.inl (by omega)) rfl (ev_ri okMd_count2 rfl rfl trivial rfl (ev_ri okMd_count rfl rfl trivial rfl k))
  · generalize w.toNatClampNeg = j at q1 q2
    subst q2
    have hn : ¬ nI j < 0 := nI_neg q1
    have e : ctA m (nI j) = _ := if_neg hn
    rw [e, nI_cl q1] at k
    by_cases hj : j ≤ 10
    · have go : ∀ tgt off, (#[59, 64, 69, 74, 79, 84, 89, 94, 99, 104, 109] : Array Int)[j]? = some off → (1 : Int) + off = (tgt : Nat) → Ev lc G mMd_count tgt [some (.ref 22), some (.int (nI j))] [] σ Q → Ev lc G mMd_count 0 [some (.ref 22), some (.int (nI j))] [] σ Q := by
        intro tgt off h1 h2 h3
        refine ev_tin tgt okMd_count rfl rfl trivial (by rw [nI_int q1]; omega) (by rw [nI_int q1]; omega) ?_ h2 h3
        rw [nI_int q1, Int.sub_zero, Int.toNat_natCast]
        exact h1
      rcases (show j = 0 ∨ j = 1 ∨ j = 2 ∨ j = 3 ∨ j = 4 ∨ j = 5 ∨ j = 6 ∨ j = 7 ∨ j = 8 ∨ j = 9 ∨ j = 10 by omega) with rfl | rfl | rfl | rfl | rfl | rfl | rfl | rfl | rfl | rfl | rfl
      · refine go 60 59 rfl rfl (ev_ri okMd_count rfl rfl trivial rfl ?_)
        rw [a3.1]; exact k
      · refine go 65 64 rfl rfl (ev_ri okMd_count rfl rfl trivial rfl ?_)
        rw [show σ.1 22 34 = _ from p1 9 (by decide)]; exact k
      · refine go 70 69 rfl rfl (ev_ri okMd_count rfl rfl trivial rfl ?_)
        rw [show σ.1 22 35 = _ from p1 10 (by decide)]; exact k
      · refine go 75 74 rfl rfl (ev_ri okMd_count rfl rfl trivial rfl ?_)
        rw [show σ.1 22 36 = _ from p1 11 (by decide)]; exact k
      · refine go 80 79 rfl rfl (ev_ri okMd_count rfl rfl trivial rfl ?_)
        rw [show σ.1 22 30 = _ from p1 0 (by decide)]; exact k
      · refine go 85 84 rfl rfl (ev_ri okMd_count rfl rfl trivial rfl ?_)
        rw [show σ.1 22 28 = _ from p1 1 (by decide)]; exact k
      · refine go 90 89 rfl rfl (ev_ri okMd_count rfl rfl trivial rfl ?_)
        rw [show σ.1 22 29 = _ from p1 2 (by decide)]; exact k
      · refine go 95 94 rfl rfl (ev_ri okMd_count rfl rfl trivial rfl ?_)
        rw [show σ.1 22 27 = _ from p1 3 (by decide)]; exact k
      · refine go 100 99 rfl rfl (ev_ri okMd_count rfl rfl trivial rfl ?_)
        rw [show σ.1 22 31 = _ from p1 4 (by decide)]; exact k
      · refine go 105 104 rfl rfl (ev_ri okMd_count rfl rfl trivial rfl ?_)
        rw [show σ.1 22 32 = _ from p1 5 (by decide)]; exact k
      · refine go 110 109 rfl rfl (ev_ri okMd_count rfl rfl trivial rfl ?_)
        rw [show σ.1 22 33 = _ from p1 6 (by decide)]; exact k
    · refine ev_tout 115 okMd_count rfl rfl trivial (Or.inr (by rw [nI_int q1]; omega)) rfl ?_
      refine ev_cv okMd_count okMd_count2 rfl rfl trivial rfl (by decide +kernel) rfl rfl ?_
      have ret : ∀ v : Int32, Q (some (.int v)) σ → Ev lc G mMd_count 120 [some (.ref 22), some (.int (nI j))] [.int v] σ Q := fun v hv => ev_ri okMd_count rfl rfl trivial rfl hv
      by_cases hj2 : j ≤ 16
      · have go : ∀ (Q' : Option Value → St2 → Prop) tgt off, (#[39, 52, 65, 70, 75, 80] : Array Int)[j - 11]? = some off → (1 : Int) + off = (tgt : Nat) → Ev lc G mMd_count2 tgt [some (.ref 22), some (.int (nI j))] [] σ Q' → Ev lc G mMd_count2 0 [some (.ref 22), some (.int (nI j))] [] σ Q' := by
          intro Q' tgt off h1 h2 h3
          refine ev_tin tgt okMd_count2 rfl rfl trivial (by rw [nI_int q1]; omega) (by rw [nI_int q1]; omega) ?_ h2 h3
          rw [nI_int q1, show ((j : Int) - 11).toNat = j - 11 by omega]
          exact h1
        rcases (show j = 11 ∨ j = 12 ∨ j = 13 ∨ j = 14 ∨ j = 15 ∨ j = 16 by omega) with rfl | rfl | rfl | rfl | rfl | rfl
        · obtain ⟨fl, e7⟩ := h7
          have k : Q (some (.int ((mP m).1 7))) σ := k
          have e47 : σ.1 22 25 = b2 fl := (p1 7 (by decide)).trans e7
          rw [e7] at k
          refine go _ 40 39 rfl rfl ?_
          refine ev_if_eq okMd_count2 rfl rfl trivial (fun g => ?_) (fun g => ?_)
          · rw [e47, b2_0] at g
            rw [g] at k
            exact ev_nop okMd_count2 rfl rfl trivial (ev_ri okMd_count2 rfl rfl trivial rfl (ret _ k))
          · rw [e47, b2_0] at g
            have g : fl = true := by simpa using g
            rw [g] at k
            exact ev_goto okMd_count2 rfl rfl trivial (ev_ri okMd_count2 rfl rfl trivial rfl (ret _ k))
        · obtain ⟨fl, e7⟩ := h8
          have k : Q (some (.int ((mP m).1 8))) σ := k
          have e47 : σ.1 22 26 = b2 fl := (p1 8 (by decide)).trans e7
          rw [e7] at k
          refine go _ 53 52 rfl rfl ?_
          refine ev_if_eq okMd_count2 rfl rfl trivial (fun g => ?_) (fun g => ?_)
          · rw [e47, b2_0] at g
            rw [g] at k
            exact ev_nop okMd_count2 rfl rfl trivial (ev_ri okMd_count2 rfl rfl trivial rfl (ret _ k))
          · rw [e47, b2_0] at g
            have g : fl = true := by simpa using g
            rw [g] at k
            exact ev_goto okMd_count2 rfl rfl trivial (ev_ri okMd_count2 rfl rfl trivial rfl (ret _ k))
        · refine go _ 66 65 rfl rfl (ev_ri okMd_count2 rfl rfl trivial rfl (ret _ ?_))
          have k : Q (some (.int (nI ((mT m).length / 6)))) σ := k
          rw [a4.2.1, Nat.mul_div_cancel_left _ (by decide)] at k
          rw [a4.2.2.1]
          exact k
        · refine go _ 71 70 rfl rfl (ev_ri okMd_count2 rfl rfl trivial rfl (ret _ ?_))
          rw [a6]; exact k
        · refine go _ 76 75 rfl rfl (ev_ri okMd_count2 rfl rfl trivial rfl (ret _ ?_))
          rw [show σ.1 22 42 = _ from p1 12 (by decide)]; exact k
        · refine go _ 81 80 rfl rfl (ev_ri okMd_count2 rfl rfl trivial rfl (ret _ ?_))
          rw [a1.2.1]; exact k
      · have k2 : Q (some (.int (mI 1))) σ := by
          obtain ⟨j', rfl⟩ : ∃ j', j = j' + 17 := ⟨j - 17, by omega⟩
          exact k
        exact ev_tout 86 okMd_count2 rfl rfl trivial (Or.inr (by rw [nI_int q1]; omega)) rfl (ev_ri okMd_count2 rfl rfl trivial rfl (ret _ k2))
end RP2
