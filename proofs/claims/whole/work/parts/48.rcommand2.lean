/-! ===== the reference: commands ===== -/
abbrev RC : List Nat := [22, 23, 24, 25, 26, 27, 28, 29, 30, 31, 32, 33, 34, 35, 36, 37, 38, 39, 40, 41, 42]
theorem Fq.fr {S F : List Nat} {σ σ' : St2} (h : Fq S F σ σ') (hs : ∀ c ∈ S, c ∈ RC) : Fr RC σ σ' := fun c hc => h.1 c (fun z => hc (hs c z)) (fun e => hc (by rw [e]; decide))
theorem brkL_9 {hd ft : List Nat} {le : Nat → Nat → List Nat} : ∀ (r : List (Nat × Nat)) (s : PS) (b : Nat), NI b s.1 → ¬ s.1 9 = 0 → ¬ (brkL hd ft le r s).1 9 = 0
  | [], s, b, _, h => h
  | q :: r, s, b, hn, h => by
    rw [brkL]
    refine brkL_9 r _ (b + 1) (pLine_NI (hd := hd) (ft := ft) (o := emit (pOpen hd false s).2 (le q.1 q.2)) (e := false) hn.1.two hn.2) ?_
    obtain ⟨v, e9, -, v9⟩ := pOpen_9 (hd := hd) (e := false) hn.2
    obtain ⟨sp, e3, s1, s2⟩ := hn.2.1
    have e : (pClose ft ((pOpen hd false s).1, emit (pOpen hd false s).2 (le q.1 q.2))).1 9 = (pOpen hd false s).1 9 + (pOpen hd false s).1 3 := by simp [pClose, pDown, upd]
    rw [e, e9, pOpen_keep hd false s (j := 3) (by decide), e3, nI_add]
    exact nI_ne0 (by omega) (by omega)
theorem mBrk_9 {pb : Nat} {m : MS} (hi : Inv pb m) (h : ¬ (mP m).1 9 = 0) : ¬ (mP (mBrk m)).1 9 = 0 := by
  unfold mBrk
  split
  · exact h
  · exact brkL_9 _ _ pb hi.2.2.1 h
theorem RV.hf {S F : List Nat} {σ σ' : St2} {m : MS} {a b : List Nat} (h : RV σ m) (hf : Fq S F σ σ') (hs : ∀ c ∈ S, c ∈ [41, 42]) (hF : ∀ f ∈ F, f ∈ [38, 40]) (h1 : LstR σ' 38 41 100 a) (h2 : LstR σ' 40 42 100 b) : RV σ' (m.1, m.2.1, m.2.2.1, (a, b), m.2.2.2.2) := by
  have hf := hf.wk hs hF
  obtain ⟨c1, ⟨d1, d2, d3, d4⟩, c3, ⟨cnt, c4⟩, c5, c6⟩ := h
  refine ⟨c1.fq hf (by decide) (by decide) (by decide), ⟨fun k hk => ?_, h1, h2, d4.fq hf (by decide) (by decide) (by decide)⟩, c3.fq hf (by decide) (by decide) (by decide), ⟨cnt, c4.fq hf (by decide) (by decide)⟩, by rw [hf.g2 (by decide)]; exact c5, by rw [hf.g1 (by decide)]; exact c6⟩
  have ho := fm_out hk
  rw [hf.g1 (fun z => ho (by simp only [List.mem_cons, List.not_mem_nil, or_false] at z ⊢; omega))]
  exact d1 k hk
section RC2
variable {lc : Launch} {G : GG} {σ : St2} {Q : Option Value → St2 → Prop} {m : MS} {pb : Nat}
theorem sp_command2 (hc : RV σ m) (hcm : RCmd σ (mX m)) (hi : Inv pb m) (hpb : pb < 600000000)
    (n1 : ¬ cname (mX m) = 25202) (n2 : ¬ cname (mX m) = 26217) (n3 : ¬ cname (mX m) = 28262) (n4 : ¬ cname (mX m) = 27253) (n5 : ¬ cname (mX m) = 28257) (n6 : ¬ cname (mX m) = 27763) (n7 : ¬ cname (mX m) = 26990) (n8 : ¬ cname (mX m) = 29801) (n9 : ¬ cname (mX m) = 29293)
    (k : ∀ σ', RV σ' (mCm m) → Fr RC σ σ' → Q none σ') : Ev lc G mMd_command2 0 [some (.ref 22), some (.int (nI (cname (mX m))))] [] σ Q := by
  have hx8 := hi.x128
  have h100 := hc.1.1
  have hlt := cname_lt hx8
  have hrs := rs_le h100
  have fin : ∀ σ', RV σ' (mCm m) → Fr RC σ σ' → ∀ l1, Ev lc G mMd_command2 223 [some (.ref 22), l1] [] σ' Q := fun σ' a b l1 => ev_rv okMd_command2 rfl rfl trivial rfl (k σ' a b)
  have nb : ∀ c, cname (mX m) = c → ¬ c = 25200 → ¬ c = 25445 → ¬ c = 29552 → brF (cname (mX m)) (mP m).1 = false := by
    intro c hcc h1 h2 h3
    unfold brF
    rw [if_neg (by omega)]
    exact decide_eq_false (by omega)
  by_cases c1 : cname (mX m) = 25445
  · have em : mCm m = sN (mBrk m) 4 (clp (nI 0) (nI 99) (wv (mX m) ((mP (mBrk m)).1 4) (nI 1))) := by
      unfold mCm mOb
      rw [c1, if_pos (show brF 25445 (mP m).1 = true from rfl)]
      rfl
    refine ev_look (off := 67) 68 okMd_command2 rfl rfl trivial (by rw [c1]; rfl) rfl ?_
    refine ev_cv okMd_command2 okMd_breakNow rfl rfl trivial rfl (by decide +kernel) rfl rfl (sp_brkR hc hi (by omega) fun σ1 q1 q2 => ?_)
    refine ev_cv okMd_command2 okMd_set rfl rfl trivial rfl (by decide +kernel) rfl rfl ?_
    rw [show σ1.1 22 31 = (mP (mBrk m)).1 4 from q1.2.1.1 4 (by decide)]
    refine sp_setR (hcm.fq q2 (by decide)) (ev_goto okMd_command2 rfl rfl trivial (fin _ ?_ ((q2.fr (by decide)).tr (Fr.u1 (by decide))) _))
    rw [em]
    exact q1.set 4 (by decide) _
  by_cases c2 : cname (mX m) = 30060
  · have em : mCm m = sN m 5 (clp (nI 0) (nI 99) (wv (mX m) ((mP m).1 5) (nI 1))) := by
      unfold mCm
      rw [if_neg (by rw [nb _ c2 (by decide) (by decide) (by decide)]; decide)]
      unfold mOb
      rw [c2]
      rfl
    refine ev_look (off := 90) 91 okMd_command2 rfl rfl trivial (by rw [c2]; rfl) rfl ?_
    refine ev_cv okMd_command2 okMd_set rfl rfl trivial rfl (by decide +kernel) rfl rfl ?_
    rw [show σ.1 22 32 = (mP m).1 5 from hc.2.1.1 5 (by decide)]
    refine sp_setR hcm (ev_goto okMd_command2 rfl rfl trivial (fin _ ?_ (Fr.u1 (by decide)) _))
    rw [em]
    exact hc.set 5 (by decide) _
  by_cases c3 : cname (mX m) = 29552
  · have em : mCm m = sP (mBrk m) (pSkip (mH (mBrk m)) (mF (mBrk m)) (clp (nI 0) (nI 99) (wv (mX m) (nI 0) (nI 1))) (mP (mBrk m))) := by
      unfold mCm mOb
      rw [c3, if_pos (show brF 29552 (mP m).1 = true from rfl)]
      rfl
    refine ev_look (off := 109) 110 okMd_command2 rfl rfl trivial (by rw [c3]; rfl) rfl ?_
    refine ev_cv okMd_command2 okMd_set rfl rfl trivial rfl (by decide +kernel) rfl rfl (sp_setR hcm ?_)
    refine ev_cv okMd_command2 okMd_space rfl rfl trivial rfl (by decide +kernel) rfl rfl (sp_space hc hi (by omega) fun σ1 q1 q2 => ?_)
    refine ev_goto okMd_command2 rfl rfl trivial (fin σ1 ?_ (q2.fr (by decide)) _)
    rw [em]
    exact q1
  by_cases c4 : cname (mX m) = 25200
  · refine ev_look (off := 125) 126 okMd_command2 rfl rfl trivial (by rw [c4]; rfl) rfl ?_
    have last : ∀ (m1 : MS) (σ1 : St2), RV σ1 m1 → RCmd σ1 (mX m) → Fr RC σ σ1 → mCm m = sN m1 11 (clp (nI 1) (nI 999) (wv (mX m) (m1.2.2.1.1 11) (m1.2.2.1.1 11))) → Ev lc G mMd_command2 139 [some (.ref 22), some (.int (nI (cname (mX m))))] [] σ1 Q := by
      intro m1 σ1 d1 r1 f1 e1
      refine ev_cv okMd_command2 okMd_set rfl rfl trivial rfl (by decide +kernel) rfl rfl ?_
      rw [show σ1.1 22 36 = m1.2.2.1.1 11 from d1.2.1.1 11 (by decide)]
      refine sp_setR r1 (ev_goto okMd_command2 rfl rfl trivial (fin _ ?_ (f1.tr (Fr.u1 (by decide))) _))
      rw [e1]
      exact d1.set 11 (by decide) _
    have e34 : σ.1 22 34 = (mP m).1 9 := hc.2.1.1 9 (by decide)
    obtain ⟨e9, -, l9⟩ := Rg_cl (N := (mP m).1) hi.2.2.1.2.2.2.2.2.2.2.1 (by decide)
    refine ev_if_le okMd_command2 rfl rfl trivial (fun g => ?_) (fun g => ?_)
    · rw [e34, e9] at g
      have hz : (mP m).1 9 = 0 := by
        rcases Nat.eq_zero_or_pos (cl (mP m).1 9) with q | q
        · rw [e9, q]; rfl
        · exact absurd g (nI_nle q (by omega))
      refine last m σ hc hcm Fr.rf ?_
      unfold mCm
      have hb : brF (cname (mX m)) (mP m).1 = false := by
        unfold brF
        rw [if_pos c4]
        exact decide_eq_false (fun z => z hz)
      rw [if_neg (by rw [hb]; decide)]
      have eo : mOb (mX m) m = bpM (mX m) m := by unfold mOb; rw [c4]; rfl
      rw [eo]
      unfold bpM
      rw [if_pos hz]
    · rw [e34, e9] at g
      have hz : ¬ (mP m).1 9 = 0 := fun q => g (by rw [← e9, q]; decide)
      refine ev_cv okMd_command2 okMd_space rfl rfl trivial rfl (by decide +kernel) rfl rfl (sp_space hc hi (by omega) fun σ1 q1 q2 => ?_)
      refine last _ σ1 q1 (hcm.fq q2 (by decide)) (q2.fr (by decide)) ?_
      unfold mCm
      have hb : brF (cname (mX m)) (mP m).1 = true := by
        unfold brF
        rw [if_pos c4]
        exact decide_eq_true hz
      rw [if_pos hb]
      have eo : mOb (mX m) (mBrk m) = bpM (mX m) (mBrk m) := by unfold mOb; rw [c4]; rfl
      rw [eo]
      unfold bpM
      rw [if_neg (mBrk_9 hi hz)]
  have nbr : brF (cname (mX m)) (mP m).1 = false := nb _ rfl c4 c1 c3
  have ec : mCm m = mOb (mX m) m := by
    unfold mCm
    rw [if_neg (by rw [nbr]; decide)]
  rw [ec] at fin
  by_cases c5 : cname (mX m) = 28780
  · refine ev_look (off := 161) 162 okMd_command2 rfl rfl trivial (by rw [c5]; rfl) rfl ?_
    refine ev_cv okMd_command2 okMd_set rfl rfl trivial rfl (by decide +kernel) rfl rfl ?_
    rw [show σ.1 22 33 = (mP m).1 6 from hc.2.1.1 6 (by decide)]
    refine sp_setR hcm (ev_goto okMd_command2 rfl rfl trivial (fin _ ?_ (Fr.u1 (by decide)) _))
    rw [show mOb (mX m) m = sN m 6 (clp (nI 8) (nI 99) (wv (mX m) ((mP m).1 6) (nI 24))) by unfold mOb; rw [c5]; rfl]
    exact hc.set 6 (by decide) _
  by_cases c6 : cname (mX m) = 26725
  · refine ev_look (off := 182) 183 okMd_command2 rfl rfl trivial (by rw [c6]; rfl) rfl ?_
    refine ev_cv okMd_command2 okMd_copyRest rfl rfl trivial rfl (by decide +kernel) rfl rfl (sp_copyRest (Or.inl rfl) hc.1 hcm.1 fun σ1 q1 q2 => ?_)
    have f2 : Fq [41] [38] σ (up2 σ1.1 22 38 (nI ((mX m).drop (rs (mX m))).length), σ1.2) := (q2.wk (by decide) (by decide)).tr (Fq.f1 (by decide))
    refine ev_goto okMd_command2 rfl rfl trivial (fin _ ?_ (f2.fr (by decide)) _)
    rw [show mOb (mX m) m = (m.1, m.2.1, m.2.2.1, ((mX m).drop (rs (mX m)), mF m), m.2.2.2.2) by unfold mOb; rw [c6]; rfl]
    refine hc.hf f2 (by decide) (by decide) ⟨by rw [List.length_drop]; omega, up2_same σ1.1 22 38 _, fun j hj => ?_⟩ (hc.2.1.2.2.1.fq f2 (by decide) (by decide) (by decide))
    rw [← q1 j hj]
    exact congrFun (up2_ne σ1.1 38 (nI ((mX m).drop (rs (mX m))).length) (show 41 ≠ 22 by decide)) j
  by_cases c7 : cname (mX m) = 26223
  · refine ev_look (off := 197) 198 okMd_command2 rfl rfl trivial (by rw [c7]; rfl) rfl ?_
    refine ev_cv okMd_command2 okMd_copyRest rfl rfl trivial rfl (by decide +kernel) rfl rfl (sp_copyRest (Or.inr rfl) hc.1 hcm.1 fun σ1 q1 q2 => ?_)
    have f2 : Fq [42] [40] σ (up2 σ1.1 22 40 (nI ((mX m).drop (rs (mX m))).length), σ1.2) := (q2.wk (by decide) (by decide)).tr (Fq.f1 (by decide))
    refine ev_goto okMd_command2 rfl rfl trivial (fin _ ?_ (f2.fr (by decide)) _)
    rw [show mOb (mX m) m = (m.1, m.2.1, m.2.2.1, (mH m, (mX m).drop (rs (mX m))), m.2.2.2.2) by unfold mOb; rw [c7]; rfl]
    refine hc.hf f2 (by decide) (by decide) (hc.2.1.2.1.fq f2 (by decide) (by decide) (by decide)) ⟨by rw [List.length_drop]; omega, up2_same σ1.1 22 40 _, fun j hj => ?_⟩
    rw [← q1 j hj]
    exact congrFun (up2_ne σ1.1 40 (nI ((mX m).drop (rs (mX m))).length) (show 42 ≠ 22 by decide)) j
  refine ev_look (off := 212) 213 okMd_command2 rfl rfl trivial ?_ rfl ?_
  · rw [nI_int (by omega)]
    show Op.lookupswitch.offset [(25200, 125), (25445, 67), (26223, 197), (26725, 182), (28780, 161), (29552, 109), (30060, 90)] 212 (cname (mX m) : Int) = 212
    simp only [Op.lookupswitch.offset]
    repeat rw [if_neg (by omega)]
  · have f : Fq [] [41] σ (up2 σ.1 22 41 (σ.1 22 41 + nI 1), σ.2) := Fq.f1 (by decide)
    refine ev_nop okMd_command2 rfl rfl trivial (fin _ ?_ (f.fr (by decide)) _)
    have em : mOb (mX m) m = (m.1, m.2.1, m.2.2.1, m.2.2.2.1, m.2.2.2.2.1, mQ m + nI 1) := by
      unfold mOb
      rw [if_neg n1, if_neg n2, if_neg n3, if_neg n4, if_neg n5, if_neg n6, if_neg n7, if_neg n8, if_neg n9, if_neg c1, if_neg c2, if_neg c3, if_neg c4, if_neg c5, if_neg c6, if_neg c7]
    rw [em]
    obtain ⟨a1, a2, a3, ⟨cnt, a4⟩, a5, a6⟩ := hc
    refine ⟨a1.fq f (by decide) (by decide) (by decide), a2.fqs f (by decide) (by decide), a3.fq f (by decide) (by decide) (by decide), ⟨cnt, a4.fq f (by decide) (by decide)⟩, a5, ?_⟩
    show up2 σ.1 22 41 (σ.1 22 41 + nI 1) 22 41 = _
    rw [up2_same, a6]
/-- where the number begins -/
theorem lp_rest {x : List Nat} (hb : ∀ b ∈ x, b < 128) : ∀ (n i : Nat) (σ : St2) (c : Int32), x.length ≤ i + n → i ≤ 200 → LineR σ x → σ.1 22 44 = nI i → (∀ σ', σ'.1 22 44 = nI (pbl x i) → Fq [] [44] σ σ' → Ev lc G mMd_command 73 [some (.ref 22), some (.int c)] [] σ' Q) → Ev lc G mMd_command 35 [some (.ref 22), some (.int c)] [] σ Q := by
  intro n
  induction n with
  | zero =>
    intro i σ c hn hi hx h4 k
    rw [pbl_end (by omega)] at k
    exact ev_ic_ge okMd_command rfl rfl trivial (fun g => k σ h4 Fq.rf) (fun g => absurd (by rw [hx.2.1, h4]; exact nI_le (by omega) (by omega)) g)
  | succ n ih =>
    intro i σ c hn hi hx h4 k
    have h100 := hx.1
    by_cases hl : i < x.length
    · have hbb := getD_lt (j := i) hb (by decide)
      have hv : σ.1 23 (σ.1 22 44).toNatClampNeg = nI (x.getD i 0) := by rw [h4, nI_cl (by omega)]; exact hx.2.2 i hl
      refine ev_ic_ge okMd_command rfl rfl trivial (fun g => absurd g (by rw [hx.2.1, h4]; exact nI_ge hl (by omega))) (fun g => ?_)
      refine ev_ic_ne okMd_command rfl rfl ⟨by rw [h4]; exact vp_nI (by omega) (by decide), trivial⟩ (fun g => ?_) (fun g => ?_)
      · rw [hv] at g
        have e : x.getD i 0 ≠ 32 := fun q => g (by rw [q])
        rw [pbl_stop hl e] at k
        exact k σ h4 Fq.rf
      · have g : σ.1 23 (σ.1 22 44).toNatClampNeg = nI 32 := by simpa using g
        rw [hv] at g
        have e : x.getD i 0 = 32 := (nI_eq (by omega) (by decide)).mp g
        rw [pbl_hit hl e] at k
        refine ev_goto okMd_command rfl rfl trivial ?_
        rw [h4, nI_add]
        have f : Fq [] [44] σ (up2 σ.1 22 44 (nI (i + 1)), σ.2) := Fq.f1 (by decide)
        exact ih (i + 1) _ c (by omega) (by omega) (hx.fq f (by decide) (by decide) (by decide)) (up2_same σ.1 22 44 _) (fun σ' q1 q2 => k σ' q1 (f.tr q2))
    · rw [pbl_end (by omega)] at k
      exact ev_ic_ge okMd_command rfl rfl trivial (fun g => k σ h4 Fq.rf) (fun g => absurd (by rw [hx.2.1, h4]; exact nI_le (by omega) (by omega)) g)
theorem RV.cm {F : List Nat} {σ σ' : St2} {m : MS} (h : RV σ m) (hf : Fq [] F σ σ') (hF : ∀ f ∈ F, f ∈ [44, 45, 46, 47]) : RV σ' m := by
  have hf := hf.wk (S' := []) (by decide) hF
  exact h.pg hf (by decide) (by decide) (h.2.1.fqs hf (by decide) (by decide))
theorem sp_command (hc : RV σ m) (hi : Inv pb m) (hpb : pb < 600000000) (k : ∀ σ', RV σ' (mCm m) → Fr RC σ σ' → Q none σ') : Ev lc G mMd_command 0 [some (.ref 22), none] [] σ Q := by
  have hx8 := hi.x128
  have h100 := hc.1.1
  have hlt := cname_lt hx8
  have b1 := getD_lt (j := 1) hx8 (by decide)
  have b2' := getD_lt (j := 2) hx8 (by decide)
  -- behind the name
  have main : Ev lc G mMd_command 29 [some (.ref 22), none] [.int (nI (cname (mX m)))] σ Q := by
    refine ev_nop okMd_command rfl rfl trivial ?_
    have f0 : Fq [] [44] σ (up2 σ.1 22 44 (nI 3), σ.2) := Fq.f1 (by decide)
    refine lp_rest hx8 (mX m).length 3 _ (nI (cname (mX m))) (by omega) (by decide) (hc.1.fq f0 (by decide) (by decide) (by decide)) (up2_same σ.1 22 44 _) fun σ1 q1 q2 => ?_
    have d1 := hc.cm (f0.tr q2) (by decide)
    refine ev_cv okMd_command okMd_readNumber rfl rfl trivial rfl (by decide +kernel) rfl rfl (sp_readNumberR hx8 d1.1 q1 fun σ2 r1 r2 => ?_)
    have d2 := d1.cm r2 (by decide)
    have F2 : Fr RC σ σ2 := ((f0.tr q2).fr (by decide)).tr (r2.fr (by decide))
    have fin : ∀ σ', RV σ' (mCm m) → Fr RC σ2 σ' → ∀ l1, Ev lc G mMd_command 342 [some (.ref 22), l1] [] σ' Q := fun σ' a b l1 => ev_rv okMd_command rfl rfl trivial rfl (k σ' a (F2.tr b))
    obtain ⟨h0, h1, h2, z0, z1, z2⟩ := R3_cl hi.2.2.1.1
    have hn : ∀ c, cname (mX m) = c → 0 < c → (mX m).getD 1 0 = c / 256 ∧ 2 < (mX m).length := by
      intro c hcc h0
      unfold cname at hcc
      split at hcc
      · omega
      · omega
    have ln1 : ∀ σ' m1, RV σ' m1 → mX m1 = mX m → 2 < (mX m).length → σ'.1 23 (nI 1).toNatClampNeg = nI ((mX m).getD 1 0) := by
      intro σ' m1 d e hl
      have := d.1.2.2 1 (by rw [e]; omega)
      rw [e] at this
      exact this
    by_cases c1 : cname (mX m) = 25202
    · refine ev_look (off := 82) 160 okMd_command rfl rfl trivial (by rw [c1]; rfl) rfl ?_
      refine ev_cv okMd_command okMd_breakNow rfl rfl trivial rfl (by decide +kernel) rfl rfl (sp_brkR d2 hi (by omega) fun σ3 s1 s2 => ?_)
      refine ev_goto okMd_command rfl rfl trivial (fin σ3 ?_ (s2.fr (by decide)) _)
      have em : mCm m = mBrk m := by
        unfold mCm mOb
        rw [c1, if_pos (show brF 25202 (mP m).1 = true from rfl)]
        rfl
      rw [em]
      exact s1
    by_cases c2 : cname (mX m) = 26217
    · refine ev_look (off := 89) 167 okMd_command rfl rfl trivial (by rw [c2]; rfl) rfl ?_
      refine ev_cv okMd_command okMd_breakNow rfl rfl trivial rfl (by decide +kernel) rfl rfl (sp_brkR d2 hi (by omega) fun σ3 s1 s2 => ?_)
      obtain ⟨e1, e2⟩ := hn _ c2 (by decide)
      have lv := ln1 σ3 (mBrk m) s1 (mBrk_X m) e2
      rw [e1] at lv
      refine ev_ic_ne okMd_command rfl rfl ⟨vp_nI (by decide) (by decide), trivial⟩ (fun g => absurd lv g) (fun g => ?_)
      refine ev_goto okMd_command rfl rfl trivial (ev_goto okMd_command rfl rfl ⟨Or.inr rfl, trivial⟩ (fin _ ?_ ((s2.fr (by decide)).tr (Fr.u1 (by decide))) _))
      have em : mCm m = sN (mBrk m) 7 (nI 1) := by
        unfold mCm mOb
        rw [c2, if_pos (show brF 26217 (mP m).1 = true from rfl)]
        rfl
      rw [em]
      exact s1.set 7 (by decide) _
    by_cases c3 : cname (mX m) = 28262
    · refine ev_look (off := 89) 167 okMd_command rfl rfl trivial (by rw [c3]; rfl) rfl ?_
      refine ev_cv okMd_command okMd_breakNow rfl rfl trivial rfl (by decide +kernel) rfl rfl (sp_brkR d2 hi (by omega) fun σ3 s1 s2 => ?_)
      obtain ⟨e1, e2⟩ := hn _ c3 (by decide)
      have lv := ln1 σ3 (mBrk m) s1 (mBrk_X m) e2
      rw [e1] at lv
      refine ev_ic_ne okMd_command rfl rfl ⟨vp_nI (by decide) (by decide), trivial⟩ (fun g => ?_) (fun g => ?_)
      · refine ev_nop okMd_command rfl rfl trivial (ev_goto okMd_command rfl rfl ⟨Or.inl rfl, trivial⟩ (fin _ ?_ ((s2.fr (by decide)).tr (Fr.u1 (by decide))) _))
        have em : mCm m = sN (mBrk m) 7 (nI 0) := by
          unfold mCm mOb
          rw [c3, if_pos (show brF 28262 (mP m).1 = true from rfl)]
          rfl
        rw [em]
        exact s1.set 7 (by decide) _
      · have g : σ3.1 23 (nI 1).toNatClampNeg = nI 102 := by simpa using g
        rw [lv] at g
        exact absurd g (by decide)
    have nb : ¬ cname (mX m) = 25200 → ¬ cname (mX m) = 25445 → ¬ cname (mX m) = 29552 → ¬ cname (mX m) = 29801 → mCm m = mOb (mX m) m := by
      intro p1 p2 p3 p4
      have : brF (cname (mX m)) (mP m).1 = false := by
        unfold brF
        rw [if_neg p1]
        exact decide_eq_false (by omega)
      unfold mCm
      rw [if_neg (by rw [this]; decide)]
    by_cases c4 : cname (mX m) = 27253
    · refine ev_look (off := 116) 194 okMd_command rfl rfl trivial (by rw [c4]; rfl) rfl ?_
      obtain ⟨e1, e2⟩ := hn _ c4 (by decide)
      have lv := ln1 σ2 m d2 rfl e2
      rw [e1] at lv
      refine ev_ic_ne okMd_command rfl rfl ⟨vp_nI (by decide) (by decide), trivial⟩ (fun g => absurd lv g) (fun g => ?_)
      refine ev_goto okMd_command rfl rfl trivial (ev_goto okMd_command rfl rfl ⟨Or.inr rfl, trivial⟩ (fin _ ?_ (Fr.u1 (by decide)) _))
      rw [nb (by omega) (by omega) (by omega) (by omega), show mOb (mX m) m = sN m 8 (nI 1) by unfold mOb; rw [c4]; rfl]
      exact d2.set 8 (by decide) _
    by_cases c5 : cname (mX m) = 28257
    · refine ev_look (off := 116) 194 okMd_command rfl rfl trivial (by rw [c5]; rfl) rfl ?_
      obtain ⟨e1, e2⟩ := hn _ c5 (by decide)
      have lv := ln1 σ2 m d2 rfl e2
      rw [e1] at lv
      refine ev_ic_ne okMd_command rfl rfl ⟨vp_nI (by decide) (by decide), trivial⟩ (fun g => ?_) (fun g => ?_)
      · refine ev_nop okMd_command rfl rfl trivial (ev_goto okMd_command rfl rfl ⟨Or.inl rfl, trivial⟩ (fin _ ?_ (Fr.u1 (by decide)) _))
        rw [nb (by omega) (by omega) (by omega) (by omega), show mOb (mX m) m = sN m 8 (nI 0) by unfold mOb; rw [c5]; rfl]
        exact d2.set 8 (by decide) _
      · have g : σ2.1 23 (nI 1).toNatClampNeg = nI 106 := by simpa using g
        rw [lv] at g
        exact absurd g (by decide)
    by_cases c6 : cname (mX m) = 27763
    · refine ev_look (off := 139) 217 okMd_command rfl rfl trivial (by rw [c6]; rfl) rfl ?_
      refine ev_cv okMd_command okMd_set rfl rfl trivial rfl (by decide +kernel) rfl rfl ?_
      rw [show σ2.1 22 27 = (mP m).1 3 from d2.2.1.1 3 (by decide)]
      refine sp_setR r1 (ev_goto okMd_command rfl rfl trivial (fin _ ?_ (Fr.u1 (by decide)) _))
      rw [nb (by omega) (by omega) (by omega) (by omega), show mOb (mX m) m = sN m 3 (clp (nI 1) (nI 9) (wv (mX m) ((mP m).1 3) (nI 1))) by unfold mOb; rw [c6]; rfl]
      exact d2.set 3 (by decide) _
    by_cases c7 : cname (mX m) = 26990
    · refine ev_look (off := 158) 236 okMd_command rfl rfl trivial (by rw [c7]; rfl) rfl ?_
      refine ev_cv okMd_command okMd_set rfl rfl trivial rfl (by decide +kernel) rfl rfl ?_
      rw [show σ2.1 22 28 = (mP m).1 1 from d2.2.1.1 1 (by decide), show σ2.1 22 30 = (mP m).1 0 from d2.2.1.1 0 (by decide)]
      refine sp_setR r1 (ev_goto okMd_command rfl rfl trivial ?_)
      have d3 := d2.set 1 (by decide) (clp (nI 0) ((mP m).1 0 - nI 1) (wv (mX m) ((mP m).1 1) (nI 0)))
      have d4 := d3.set 2 (by decide) (clp (nI 0) ((mP m).1 0 - nI 1) (wv (mX m) ((mP m).1 1) (nI 0)))
      have e28 : (up2 σ2.1 22 28 (clp (nI 0) ((mP m).1 0 - nI 1) (wv (mX m) ((mP m).1 1) (nI 0))), σ2.2).1 22 28 = clp (nI 0) ((mP m).1 0 - nI 1) (wv (mX m) ((mP m).1 1) (nI 0)) := up2_same σ2.1 22 28 _
      rw [e28]
      refine fin _ ?_ (Fr.tr (Fr.u1 (by decide)) (Fr.u1 (σ := (_, _)) (by decide))) _
      rw [nb (by omega) (by omega) (by omega) (by omega), show mOb (mX m) m = sP m (inN (mX m) (mP m).1, (mP m).2) by unfold mOb; rw [c7]; rfl]
      exact d4
    by_cases c8 : cname (mX m) = 29801
    · refine ev_look (off := 189) 267 okMd_command rfl rfl trivial (by rw [c8]; rfl) rfl ?_
      refine ev_cv okMd_command okMd_breakNow rfl rfl trivial rfl (by decide +kernel) rfl rfl (sp_brkR d2 hi (by omega) fun σ3 s1 s2 => ?_)
      refine ev_cv okMd_command okMd_set rfl rfl trivial rfl (by decide +kernel) rfl rfl ?_
      rw [show σ3.1 22 29 = (mP (mBrk m)).1 2 from s1.2.1.1 2 (by decide), show σ3.1 22 30 = (mP (mBrk m)).1 0 from s1.2.1.1 0 (by decide)]
      refine sp_setR (r1.fq s2 (by decide)) (ev_goto okMd_command rfl rfl trivial (fin _ ?_ ((s2.fr (by decide)).tr (Fr.u1 (by decide))) _))
      have em : mCm m = sN (mBrk m) 2 (clp (nI 0) ((mP (mBrk m)).1 0 - nI 1) (wv (mX m) ((mP (mBrk m)).1 2) (nI 0))) := by
        unfold mCm mOb
        rw [c8, if_pos (show brF 29801 (mP m).1 = true from rfl)]
        rfl
      rw [em]
      exact s1.set 2 (by decide) _
    by_cases c9 : cname (mX m) = 29293
    · refine ev_look (off := 216) 294 okMd_command rfl rfl trivial (by rw [c9]; rfl) rfl ?_
      have e29 : σ2.1 22 29 = nI (cl (mP m).1 2) := (d2.2.1.1 2 (by decide)).trans h2
      have e28 : σ2.1 22 28 = nI (cl (mP m).1 1) := (d2.2.1.1 1 (by decide)).trans h1
      have last : ∀ v : Nat, v = max (cl (mP m).1 2) (cl (mP m).1 1) → Ev lc G mMd_command 324 [some (.ref 22), some (.int (nI (cname (mX m))))] [.int (nI v), .int (nI 40), .int (σ2.1 22 30), .ref 22, .ref 22] σ2 Q := by
        intro v hv
        subst hv
        refine ev_cv okMd_command okMd_set rfl rfl trivial rfl (by decide +kernel) rfl rfl ?_
        rw [show σ2.1 22 30 = (mP m).1 0 from d2.2.1.1 0 (by decide), nI_add]
        refine sp_setR r1 (ev_goto okMd_command rfl rfl trivial (fin _ ?_ (Fr.u1 (by decide)) _))
        rw [nb (by omega) (by omega) (by omega) (by omega), show mOb (mX m) m = sN m 0 (clp (nI (max (cl (mP m).1 2) (cl (mP m).1 1) + 1)) (nI 80) (wv (mX m) ((mP m).1 0) (nI 40))) by unfold mOb; rw [c9]; rfl]
        exact d2.set 0 (by decide) _
      refine ev_ic_le okMd_command rfl rfl trivial (fun g => ?_) (fun g => ?_)
      · rw [e29, e28] at g
        have hle : cl (mP m).1 2 ≤ cl (mP m).1 1 := (nI_leI (by omega) (by omega)).mp g
        refine ev_nop okMd_command rfl rfl trivial ?_
        rw [e28]
        exact last _ (Nat.max_eq_right hle).symm
      · rw [e29, e28] at g
        have hle : ¬ cl (mP m).1 2 ≤ cl (mP m).1 1 := fun z => g (nI_le z (by omega))
        refine ev_goto okMd_command rfl rfl trivial ?_
        rw [e29]
        exact last _ (Nat.max_eq_left (by omega)).symm
    refine ev_look (off := 259) 337 okMd_command rfl rfl trivial ?_ rfl ?_
    · rw [nI_int (by omega)]
      show Op.lookupswitch.offset [(25202, 82), (26217, 89), (26990, 158), (27253, 116), (27763, 139), (28257, 116), (28262, 89), (29293, 216), (29801, 189)] 259 (cname (mX m) : Int) = 259
      simp only [Op.lookupswitch.offset]
      repeat rw [if_neg (by omega)]
    · refine ev_cv okMd_command okMd_command2 rfl rfl trivial rfl (by decide +kernel) rfl rfl (sp_command2 d2 r1 hi hpb c1 c2 c3 c4 c5 c6 c7 c8 c9 fun σ3 s1 s2 => fin σ3 s1 s2 _)
  refine ev_ic_le okMd_command rfl rfl trivial (fun g => ?_) (fun g => ?_)
  · rw [hc.1.2.1] at g
    have hl : (mX m).length ≤ 2 := (nI_leI (by omega) (by decide)).mp g
    have e : cname (mX m) = 0 := if_pos (by omega)
    rw [e] at main
    exact ev_nop okMd_command rfl rfl trivial main
  · rw [hc.1.2.1] at g
    have hl : ¬ (mX m).length ≤ 2 := fun z => g (nI_le z (by decide))
    have e : cname (mX m) = 256 * (mX m).getD 1 0 + (mX m).getD 2 0 := if_neg (by omega)
    rw [e] at main
    refine ev_goto okMd_command rfl rfl ⟨vp_nI (by decide) (by decide), vp_nI (by decide) (by decide), trivial⟩ ?_
    rw [show σ.1 23 (nI 1).toNatClampNeg = nI ((mX m).getD 1 0) from hc.1.2.2 1 (by omega), show σ.1 23 (nI 2).toNatClampNeg = nI ((mX m).getD 2 0) from hc.1.2.2 2 (by omega), pk_mul, nI_add]
    exact main
end RC2
