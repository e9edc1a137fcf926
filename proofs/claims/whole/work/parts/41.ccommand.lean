/-! ===== the class: commands ===== -/
theorem nI_int {n : Nat} (h : n < 2 ^ 31) : (nI n).toInt = (n : Int) := Int32.toInt_ofNat_of_lt h
theorem cname_lt {x : List Nat} (hb : ∀ b ∈ x, b < 128) : cname x < 40000 := by
  unfold cname
  have h1 := getD_lt (j := 1) hb (by decide)
  have h2 := getD_lt (j := 2) hb (by decide)
  split <;> omega
theorem CV.hf {σ σ' : St2} {m : MS} {a b : List Nat} (h : CV σ m) (hf : Fr [8, 9, 10, 11] σ σ') (h8 : TextAt σ' 8 a) (h10 : TextAt σ' 10 b) : CV σ' (m.1, m.2.1, m.2.2.1, (a, b), m.2.2.2.2) := by
  obtain ⟨c1, ⟨d1, d2, d3, d4, d5⟩, c3, ⟨E, c4⟩, c5, c6⟩ := h
  exact ⟨c1.fr hf (by decide) (by decide), ⟨fun k hk => by rw [hf.a1 (by decide)]; exact d1 k hk, fun k hk => by rw [hf.a1 (by decide)]; exact d2 k hk, h8, h10, d5.fr hf (by decide) (by decide)⟩, c3.fr hf (by decide), ⟨E, c4.fr hf (by decide)⟩, by rw [hf.a2 (by decide)]; exact c5, by rw [hf.a1 (by decide)]; exact c6⟩
section CC
variable {lc : Launch} {G : GG} {σ : St2} {Q : Option Value → St2 → Prop} {m : MS} {x : List Nat} {pb : Nat}
theorem sp_breaksFirst (hb : ∀ b ∈ x, b < 128) (hc : CV σ m) (hcm : CmdAt σ x) (k : Q (some (.int (b2 (brF (cname x) (mP m).1)))) σ) : Ev lc G mPf_breaksFirst 0 [some (.ref 0)] [] σ Q := by
  have hlt := cname_lt hb
  have ec : σ.1 3 0 = nI (cname x) := hcm.1
  have yes : brF (cname x) (mP m).1 = true → Ev lc G mPf_breaksFirst 72 [some (.ref 0)] [] σ Q := by
    intro h
    rw [h] at k
    exact ev_rz okPf_breaksFirst rfl rfl trivial rfl (Or.inr rfl) k
  by_cases h0 : cname x = 25200
  · refine ev_look (off := 67) 74 okPf_breaksFirst rfl rfl trivial (by rw [ec, h0]; rfl) rfl ?_
    refine ev_cv okPf_breaksFirst okPg_isBegun rfl rfl trivial rfl (by decide +kernel) rfl rfl (sp_isBegun hc.2.1 ?_)
    have e : brF (cname x) (mP m).1 = decide (¬ (mP m).1 9 = 0) := by unfold brF; rw [if_pos h0]
    rw [e] at k
    by_cases z : (mP m).1 9 = 0
    · rw [if_pos z]
      rw [decide_eq_false (fun q => q z)] at k
      exact ev_rz okPf_breaksFirst rfl rfl trivial rfl (Or.inl rfl) k
    · rw [if_neg z]
      rw [decide_eq_true z] at k
      exact ev_rz okPf_breaksFirst rfl rfl trivial rfl (Or.inr rfl) k
  have e : brF (cname x) (mP m).1 = decide (cname x = 25202 ∨ cname x = 25445 ∨ cname x = 26217 ∨ cname x = 28262 ∨ cname x = 29552 ∨ cname x = 29801) := by unfold brF; rw [if_neg h0]
  by_cases h1 : cname x = 25202
  · exact ev_look (off := 65) 72 okPf_breaksFirst rfl rfl trivial (by rw [ec, h1]; rfl) rfl (yes (by rw [e]; exact decide_eq_true (by omega)))
  by_cases h2 : cname x = 25445
  · exact ev_look (off := 65) 72 okPf_breaksFirst rfl rfl trivial (by rw [ec, h2]; rfl) rfl (yes (by rw [e]; exact decide_eq_true (by omega)))
  by_cases h3 : cname x = 26217
  · exact ev_look (off := 65) 72 okPf_breaksFirst rfl rfl trivial (by rw [ec, h3]; rfl) rfl (yes (by rw [e]; exact decide_eq_true (by omega)))
  by_cases h4 : cname x = 28262
  · exact ev_look (off := 65) 72 okPf_breaksFirst rfl rfl trivial (by rw [ec, h4]; rfl) rfl (yes (by rw [e]; exact decide_eq_true (by omega)))
  by_cases h5 : cname x = 29552
  · exact ev_look (off := 65) 72 okPf_breaksFirst rfl rfl trivial (by rw [ec, h5]; rfl) rfl (yes (by rw [e]; exact decide_eq_true (by omega)))
  by_cases h6 : cname x = 29801
  · exact ev_look (off := 65) 72 okPf_breaksFirst rfl rfl trivial (by rw [ec, h6]; rfl) rfl (yes (by rw [e]; exact decide_eq_true (by omega)))
  refine ev_look (off := 75) 82 okPf_breaksFirst rfl rfl trivial ?_ rfl ?_
  · rw [ec, nI_int (by omega)]
    show Op.lookupswitch.offset [(25200, 67), (25202, 65), (25445, 65), (26217, 65), (28262, 65), (29552, 65), (29801, 65)] 75 (cname x : Int) = 75
    simp only [Op.lookupswitch.offset]
    repeat rw [if_neg (by omega)]
  · rw [e, decide_eq_false (by omega)] at k
    exact ev_rz okPf_breaksFirst rfl rfl trivial rfl (Or.inl rfl) k
theorem sp_setIndent (hb : ∀ b ∈ x, b < 128) (h100 : x.length ≤ 100) (hc : CV σ m) (hcm : CmdAt σ x) (h3 : R3 (mP m).1) (k : ∀ σ', CV σ' (sP m (inN x (mP m).1, (mP m).2)) → Fr [4] σ σ' → Q none σ') : Ev lc G mPf_setIndent 0 [some (.ref 0)] [] σ Q := by
  obtain ⟨h0, h1, h2, b0, b1, b2⟩ := R3_cl h3
  have e0 : σ.1 4 0 = (mP m).1 0 := hc.2.1.1 0 (by decide)
  have e1 : σ.1 4 1 = (mP m).1 1 := hc.2.1.1 1 (by decide)
  have hle : nI 0 ≤ (mP m).1 0 - nI 1 := by rw [h0, pk_sub (by omega)]; exact nI_le (Nat.zero_le _) (by omega)
  refine ev_cv okPf_setIndent okCm_set rfl rfl trivial rfl (by decide +kernel) rfl rfl ?_
  rw [e0, e1]
  refine sp_set h100 hb hcm hle ?_
  refine ev_rv okPf_setIndent rfl rfl trivial rfl ?_
  have d1 := hc.setL 1 (by decide) (clp (nI 0) ((mP m).1 0 - nI 1) (wv x ((mP m).1 1) (nI 0)))
  have d2 := d1.setL 2 (by decide) (clp (nI 0) ((mP m).1 0 - nI 1) (wv x ((mP m).1 1) (nI 0)))
  have e4 : (up2 σ.1 4 1 (clp (nI 0) ((mP m).1 0 - nI 1) (wv x ((mP m).1 1) (nI 0))), σ.2).1 4 1 = clp (nI 0) ((mP m).1 0 - nI 1) (wv x ((mP m).1 1) (nI 0)) := up2_same σ.1 4 1 _
  rw [e4]
  exact k _ d2 (Fr.tr (Fr.u1 (by decide)) (Fr.u1 (σ := (_, _)) (by decide)))
theorem sp_beginPage (hb : ∀ b ∈ x, b < 128) (h100 : x.length ≤ 100) (hc : CV σ m) (hcm : CmdAt σ x) (hi : Inv pb m) (hpb : pb < 900000000) (k : ∀ σ', CV σ' (bpM x m) → Fr [5, 6, 7] σ σ' → Q none σ') : Ev lc G mPf_beginPage 0 [some (.ref 0)] [] σ Q := by
  have fin : ∀ (m1 : MS) (σ1 : St2), CV σ1 m1 → CmdAt σ1 x → Fr [5, 6, 7] σ σ1 → (bpM x m = sN m1 11 (clp (nI 1) (nI 999) (wv x (m1.2.2.1.1 11) (m1.2.2.1.1 11)))) → Ev lc G mPf_beginPage 19 [some (.ref 0)] [] σ1 Q := by
    intro m1 σ1 c1 cm1 f1 e1
    have e11 : σ1.1 7 6 = (mP m1).1 11 := c1.2.1.2.1 2 (by decide)
    refine ev_cv okPf_beginPage okCm_set rfl rfl trivial rfl (by decide +kernel) rfl rfl ?_
    rw [e11]
    refine sp_set h100 hb cm1 (by decide) ?_
    refine ev_rv okPf_beginPage rfl rfl trivial rfl (k _ ?_ (f1.tr (Fr.u1 (by decide))))
    rw [e1]
    exact c1.setP 2 (by decide) _
  refine ev_cv okPf_beginPage okPg_isBegun rfl rfl trivial rfl (by decide +kernel) rfl rfl (sp_isBegun hc.2.1 ?_)
  by_cases z : (mP m).1 9 = 0
  · rw [if_pos z]
    refine ev_if_eq okPf_beginPage rfl rfl trivial (fun g => fin m σ hc hcm Fr.rf ?_) (fun g => absurd rfl g)
    unfold bpM
    rw [if_pos z]
  · rw [if_neg z]
    refine ev_if_eq okPf_beginPage rfl rfl trivial (fun g => absurd g (by decide)) (fun g => ?_)
    refine ev_cv okPf_beginPage okPg_skip rfl rfl trivial rfl (by decide +kernel) rfl rfl (sp_skip (B := pb) hc.2.1 hi.2.2.2.1 hi.2.2.2.2 (by omega) hi.2.2.1.2.2.2.2.2.2.2.2 fun σ1 q1 q2 => ?_)
    refine fin (sP m (pSkip (mH m) (mF m) (nI 99) (mP m))) σ1 (hc.pg (q2.wk (by decide)) q1) (hcm.fr q2 (by decide)) q2 ?_
    unfold bpM
    rw [if_neg z]
theorem sp_obey (hc : CV σ m) (hx : mX m = x) (hcm : CmdAt σ x) (hi : Inv pb m) (hpb : pb < 900000000) (k : ∀ σ', CV σ' (mOb x m) → Fr [0, 4, 5, 6, 7, 8, 9, 10, 11] σ σ' → Q none σ') : Ev lc G mPf_obey 0 [some (.ref 0)] [] σ Q := by
  have hb : ∀ b ∈ x, b < 128 := by rw [← hx]; exact hi.x128
  have ht : TextAt σ 1 x := by rw [← hx]; exact hc.1
  have h100 := ht.1
  have hlt := cname_lt hb
  have ec : σ.1 3 0 = nI (cname x) := hcm.1
  have fin : ∀ σ', CV σ' (mOb x m) → Fr [0, 4, 5, 6, 7, 8, 9, 10, 11] σ σ' → Ev lc G mPf_obey 469 [some (.ref 0)] [] σ' Q := fun σ' a b => ev_rv okPf_obey rfl rfl trivial rfl (k σ' a b)
  have N : ∀ j, j < 9 → σ.1 4 j = (mP m).1 j := hc.2.1.1
  obtain ⟨h0, h1, h2, b0, b1, b2⟩ := R3_cl hi.2.2.1.1
  have hle : nI 0 ≤ (mP m).1 0 - nI 1 := by rw [h0, pk_sub (by omega)]; exact nI_le (Nat.zero_le _) (by omega)
  by_cases c1 : cname x = 25202
  · refine ev_look (off := 137) 144 okPf_obey rfl rfl trivial (by rw [ec, c1]; rfl) rfl (ev_goto okPf_obey rfl rfl trivial (fin σ ?_ Fr.rf))
    rw [show mOb x m = m by unfold mOb; rw [c1]; rfl]
    exact hc
  by_cases c2 : cname x = 26217
  · refine ev_look (off := 140) 147 okPf_obey rfl rfl trivial (by rw [ec, c2]; rfl) rfl (ev_goto okPf_obey rfl rfl ⟨Or.inr rfl, trivial⟩ (fin _ ?_ (Fr.u1 (by decide))))
    rw [show mOb x m = sN m 7 (nI 1) by unfold mOb; rw [c2]; rfl]
    exact hc.setL 7 (by decide) _
  by_cases c3 : cname x = 28262
  · refine ev_look (off := 151) 158 okPf_obey rfl rfl trivial (by rw [ec, c3]; rfl) rfl (ev_goto okPf_obey rfl rfl ⟨Or.inl rfl, trivial⟩ (fin _ ?_ (Fr.u1 (by decide))))
    rw [show mOb x m = sN m 7 (nI 0) by unfold mOb; rw [c3]; rfl]
    exact hc.setL 7 (by decide) _
  by_cases c4 : cname x = 27253
  · refine ev_look (off := 162) 169 okPf_obey rfl rfl trivial (by rw [ec, c4]; rfl) rfl (ev_goto okPf_obey rfl rfl ⟨Or.inr rfl, trivial⟩ (fin _ ?_ (Fr.u1 (by decide))))
    rw [show mOb x m = sN m 8 (nI 1) by unfold mOb; rw [c4]; rfl]
    exact hc.setL 8 (by decide) _
  by_cases c5 : cname x = 28257
  · refine ev_look (off := 173) 180 okPf_obey rfl rfl trivial (by rw [ec, c5]; rfl) rfl (ev_goto okPf_obey rfl rfl ⟨Or.inl rfl, trivial⟩ (fin _ ?_ (Fr.u1 (by decide))))
    rw [show mOb x m = sN m 8 (nI 0) by unfold mOb; rw [c5]; rfl]
    exact hc.setL 8 (by decide) _
  by_cases c6 : cname x = 27763
  · refine ev_look (off := 184) 191 okPf_obey rfl rfl trivial (by rw [ec, c6]; rfl) rfl ?_
    refine ev_cv okPf_obey okCm_set rfl rfl trivial rfl (by decide +kernel) rfl rfl ?_
    rw [N 3 (by decide)]
    refine sp_set h100 hb hcm (by decide) (ev_goto okPf_obey rfl rfl trivial (fin _ ?_ (Fr.u1 (by decide))))
    rw [show mOb x m = sN m 3 (clp (nI 1) (nI 9) (wv x ((mP m).1 3) (nI 1))) by unfold mOb; rw [c6]; rfl]
    exact hc.setL 3 (by decide) _
  by_cases c7 : cname x = 26990
  · refine ev_look (off := 212) 219 okPf_obey rfl rfl trivial (by rw [ec, c7]; rfl) rfl ?_
    refine ev_cv okPf_obey okPf_setIndent rfl rfl trivial rfl (by decide +kernel) rfl rfl (sp_setIndent hb h100 hc hcm hi.2.2.1.1 fun σ1 q1 q2 => ?_)
    refine ev_goto okPf_obey rfl rfl trivial (fin σ1 ?_ (q2.wk (by decide)))
    rw [show mOb x m = sP m (inN x (mP m).1, (mP m).2) by unfold mOb; rw [c7]; rfl]
    exact q1
  by_cases c8 : cname x = 29801
  · refine ev_look (off := 219) 226 okPf_obey rfl rfl trivial (by rw [ec, c8]; rfl) rfl ?_
    refine ev_cv okPf_obey okCm_set rfl rfl trivial rfl (by decide +kernel) rfl rfl ?_
    rw [N 2 (by decide), N 0 (by decide)]
    refine sp_set h100 hb hcm hle (ev_goto okPf_obey rfl rfl trivial (fin _ ?_ (Fr.u1 (by decide))))
    rw [show mOb x m = sN m 2 (clp (nI 0) ((mP m).1 0 - nI 1) (wv x ((mP m).1 2) (nI 0))) by unfold mOb; rw [c8]; rfl]
    exact hc.setL 2 (by decide) _
  by_cases c9 : cname x = 29293
  · refine ev_look (off := 254) 261 okPf_obey rfl rfl trivial (by rw [ec, c9]; rfl) rfl ?_
    refine ev_cv okPf_obey okLa_leastRight rfl rfl trivial rfl (by decide +kernel) rfl rfl (sp_leastRight hc hi.2.2.1.1 ?_)
    refine ev_cv okPf_obey okCm_set rfl rfl trivial rfl (by decide +kernel) rfl rfl ?_
    rw [N 0 (by decide)]
    refine sp_set h100 hb hcm (nI_le (by omega) (by decide)) (ev_goto okPf_obey rfl rfl trivial (fin _ ?_ (Fr.u1 (by decide))))
    rw [show mOb x m = sN m 0 (clp (nI (max (cl (mP m).1 2) (cl (mP m).1 1) + 1)) (nI 80) (wv x ((mP m).1 0) (nI 40))) by unfold mOb; rw [c9]; rfl]
    exact hc.setL 0 (by decide) _
  by_cases c10 : cname x = 25445
  · refine ev_look (off := 289) 296 okPf_obey rfl rfl trivial (by rw [ec, c10]; rfl) rfl ?_
    refine ev_cv okPf_obey okCm_set rfl rfl trivial rfl (by decide +kernel) rfl rfl ?_
    rw [N 4 (by decide)]
    refine sp_set h100 hb hcm (by decide) (ev_goto okPf_obey rfl rfl trivial (fin _ ?_ (Fr.u1 (by decide))))
    rw [show mOb x m = sN m 4 (clp (nI 0) (nI 99) (wv x ((mP m).1 4) (nI 1))) by unfold mOb; rw [c10]; rfl]
    exact hc.setL 4 (by decide) _
  by_cases c11 : cname x = 30060
  · refine ev_look (off := 317) 324 okPf_obey rfl rfl trivial (by rw [ec, c11]; rfl) rfl ?_
    refine ev_cv okPf_obey okCm_set rfl rfl trivial rfl (by decide +kernel) rfl rfl ?_
    rw [N 5 (by decide)]
    refine sp_set h100 hb hcm (by decide) (ev_goto okPf_obey rfl rfl trivial (fin _ ?_ (Fr.u1 (by decide))))
    rw [show mOb x m = sN m 5 (clp (nI 0) (nI 99) (wv x ((mP m).1 5) (nI 1))) by unfold mOb; rw [c11]; rfl]
    exact hc.setL 5 (by decide) _
  by_cases c12 : cname x = 29552
  · refine ev_look (off := 345) 352 okPf_obey rfl rfl trivial (by rw [ec, c12]; rfl) rfl ?_
    refine ev_cv okPf_obey okCm_set rfl rfl trivial rfl (by decide +kernel) rfl rfl ?_
    refine sp_set h100 hb hcm (by decide) ?_
    refine ev_cv okPf_obey okPg_skip rfl rfl trivial rfl (by decide +kernel) rfl rfl (sp_skip (B := pb) hc.2.1 hi.2.2.2.1 hi.2.2.2.2 (by omega) hi.2.2.1.2.2.2.2.2.2.2.2 fun σ1 q1 q2 => ?_)
    refine ev_goto okPf_obey rfl rfl trivial (fin σ1 ?_ (q2.wk (by decide)))
    rw [show mOb x m = sP m (pSkip (mH m) (mF m) (clp (nI 0) (nI 99) (wv x (nI 0) (nI 1))) (mP m)) by unfold mOb; rw [c12]; rfl]
    exact hc.pg (q2.wk (by decide)) q1
  by_cases c13 : cname x = 25200
  · refine ev_look (off := 367) 374 okPf_obey rfl rfl trivial (by rw [ec, c13]; rfl) rfl ?_
    refine ev_cv okPf_obey okPf_beginPage rfl rfl trivial rfl (by decide +kernel) rfl rfl (sp_beginPage hb h100 hc hcm hi hpb fun σ1 q1 q2 => ?_)
    refine ev_goto okPf_obey rfl rfl trivial (fin σ1 ?_ (q2.wk (by decide)))
    rw [show mOb x m = bpM x m by unfold mOb; rw [c13]; rfl]
    exact q1
  by_cases c14 : cname x = 28780
  · refine ev_look (off := 374) 381 okPf_obey rfl rfl trivial (by rw [ec, c14]; rfl) rfl ?_
    refine ev_cv okPf_obey okCm_set rfl rfl trivial rfl (by decide +kernel) rfl rfl ?_
    rw [N 6 (by decide)]
    refine sp_set h100 hb hcm (by decide) (ev_goto okPf_obey rfl rfl trivial (fin _ ?_ (Fr.u1 (by decide))))
    rw [show mOb x m = sN m 6 (clp (nI 8) (nI 99) (wv x ((mP m).1 6) (nI 24))) by unfold mOb; rw [c14]; rfl]
    exact hc.setL 6 (by decide) _
  have hrs := rs_le h100
  by_cases c15 : cname x = 26725
  · refine ev_look (off := 404) 411 okPf_obey rfl rfl trivial (by rw [ec, c15]; rfl) rfl ?_
    refine ev_cv okPf_obey okTx_copyFrom rfl rfl trivial rfl (by decide +kernel) rfl rfl ?_
    rw [hcm.2.1]
    refine sp_copyFrom (Or.inl rfl) (by omega) ht hb fun σ1 q1 q2 => ?_
    refine ev_goto okPf_obey rfl rfl trivial (fin σ1 ?_ (q2.wk (by decide)))
    rw [show mOb x m = (m.1, m.2.1, m.2.2.1, (x.drop (rs x), mF m), m.2.2.2.2) by unfold mOb; rw [c15]; rfl]
    exact hc.hf (q2.wk (by decide)) q1 (hc.2.1.2.2.2.1.fr q2 (by decide) (by decide))
  by_cases c16 : cname x = 26223
  · refine ev_look (off := 428) 435 okPf_obey rfl rfl trivial (by rw [ec, c16]; rfl) rfl ?_
    refine ev_cv okPf_obey okTx_copyFrom rfl rfl trivial rfl (by decide +kernel) rfl rfl ?_
    rw [hcm.2.1]
    refine sp_copyFrom (Or.inr rfl) (by omega) ht hb fun σ1 q1 q2 => ?_
    refine ev_goto okPf_obey rfl rfl trivial (fin σ1 ?_ (q2.wk (by decide)))
    rw [show mOb x m = (m.1, m.2.1, m.2.2.1, (mH m, x.drop (rs x)), m.2.2.2.2) by unfold mOb; rw [c16]; rfl]
    exact hc.hf (q2.wk (by decide)) (hc.2.1.2.2.1.fr q2 (by decide) (by decide)) q1
  refine ev_look (off := 452) 459 okPf_obey rfl rfl trivial ?_ rfl ?_
  · rw [ec, nI_int (by omega)]
    show Op.lookupswitch.offset [(25200, 367), (25202, 137), (25445, 289), (26217, 140), (26223, 428), (26725, 404), (26990, 212), (27253, 162), (27763, 184), (28257, 173), (28262, 151), (28780, 374), (29293, 254), (29552, 345), (29801, 219), (30060, 317)] 452 (cname x : Int) = 452
    simp only [Op.lookupswitch.offset]
    repeat rw [if_neg (by omega)]
  · refine ev_nop okPf_obey rfl rfl trivial (fin _ ?_ (Fr.u1 (by decide)))
    have em : mOb x m = (m.1, m.2.1, m.2.2.1, m.2.2.2.1, m.2.2.2.2.1, mQ m + nI 1) := by
      unfold mOb
      rw [if_neg c1, if_neg c2, if_neg c3, if_neg c4, if_neg c5, if_neg c6, if_neg c7, if_neg c8, if_neg c9, if_neg c10, if_neg c11, if_neg c12, if_neg c13, if_neg c14, if_neg c15, if_neg c16]
    rw [em]
    obtain ⟨a1, a2, a3, ⟨E, a4⟩, a5, a6⟩ := hc
    have f : Fr [0] σ (up2 σ.1 0 7 (σ.1 0 7 + nI 1), σ.2) := Fr.u1 (by decide)
    refine ⟨a1.fr f (by decide) (by decide), a2.fr f (by decide), a3.fr f (by decide), ⟨E, a4.fr f (by decide)⟩, a5, ?_⟩
    show up2 σ.1 0 7 (σ.1 0 7 + nI 1) 0 7 = _
    rw [up2_same, a6]
end CC
