/-! ===== the reference: a BREAK, its loops ===== -/
theorem LyV.fq2 {S F : List Nat} {σ σ' : St2} {ws : List (List Nat × Nat)} (h : LyV σ ws) (hf : Fq S F σ σ') (hs : ∀ c ∈ [25, 26, 27, 28, 29, 30], c ∉ S) (h11 : 11 ∉ F) : LyV σ' ws :=
  ⟨⟨trivial, h.1.2.1.fq hf (hs 26 (by decide)) (by decide), h.1.2.2.fq hf (hs 25 (by decide)) (by decide)⟩, by rw [hf.g1 h11]; exact h.2.1, h.2.2.1.fq hf (hs 27 (by decide)) (by decide), h.2.2.2.1.fq hf (hs 28 (by decide)) (by decide), h.2.2.2.2.1.fq hf (hs 29 (by decide)) (by decide), h.2.2.2.2.2.fq hf (hs 30 (by decide)) (by decide)⟩
theorem RgV.fqs {S F : List Nat} {σ σ' : St2} {N : NN} {hd ft o : List Nat} (h : RgV σ N hd ft o) (hf : Fq S F σ σ') (hs : ∀ c ∈ [40, 41, 42], c ∉ S) (hF : ∀ f ∈ [30, 28, 29, 27, 31, 32, 33, 25, 26, 34, 35, 36, 42, 38, 40, 24], f ∉ F) : RgV σ' N hd ft o := by
  refine h.fq hf hs (fun k hk => hF _ ?_) (hF _ (by decide)) (hF _ (by decide)) (hF _ (by decide))
  have : ∀ k : Fin 13, fm k.val ∈ [30, 28, 29, 27, 31, 32, 33, 25, 26, 34, 35, 36, 42, 38, 40, 24] := by decide
  exact this ⟨k, hk⟩
theorem wy_03 {lb wb : List Nat} {r1 r2 n : Nat} {B : Nat → Nat → TE} (h : DP lb wb r1 r2 n B) (m : Nat) : wy lb wb r1 r2 n B m 0 3 = wy lb wb r1 r2 n B m 0 1 := by
  cases m with
  | zero => rfl
  | succ m => rw [wy, wy, DP_01 h]
section RB2
variable {lc : Launch} {G : GG} {Q : Option Value → St2 → Prop} {ws : List (List Nat × Nat)} {R hh ii : Nat} {B : Nat → Nat → TE} {hd ft : List Nat}
theorem lp_tab {n : Nat} {lb wb : List Nat} (hdp : DP lb wb (R - hh) (R - ii) n B) (hpl : PlB lb wb) (hR : R ≤ 80) (h1 : hh ≤ R) (h2 : ii ≤ R) : ∀ (a : Nat) (σ : St2), a ≤ n → RsV σ n lb wb R hh ii → TabR σ n B (a + 1) →
    (∀ σ', RsV σ' n lb wb R hh ii → TabR σ' n B 1 → Fq [31, 32, 33] [] σ σ' → Ev lc G mMd_breakNow 54 [some (.ref 22), none, none, none] [] σ' Q) → Ev lc G mMd_breakNow 25 [some (.ref 22), some (.int (nI a)), none, none] [] σ Q := by
  intro a
  induction a with
  | zero =>
    intro σ ha hs ht k
    exact ev_if_le okMd_breakNow rfl rfl trivial (fun g => ev_lv [some (.ref 22), none, none, none] ⟨rfl, trivial⟩ (k σ hs ht Fq.rf)) (fun g => absurd (by decide) g)
  | succ a ih =>
    intro σ ha hs ht k
    have h4 := hs.1.2.2.2
    refine ev_if_le okMd_breakNow rfl rfl trivial (fun g => absurd g (nI_nle (by omega) (by omega))) (fun g => ?_)
    refine ev_nop okMd_breakNow rfl rfl trivial ?_
    have inner : ∀ (m kd : Nat) (σ1 : St2), kd + m = 3 → RsV σ1 n lb wb R hh ii → TabR σ1 n B (a + 1 + 1) → (∀ j, j < kd → σ1.2 31 (4 * (a + 1) + j) = lN (B (a + 1) j).1 ∧ σ1.1 32 (4 * (a + 1) + j) = nI (B (a + 1) j).2.1 ∧ (a + 1 < n → σ1.1 33 (4 * (a + 1) + j) = nI (B (a + 1) j).2.2)) → Fq [31, 32, 33] [] σ σ1 → Ev lc G mMd_breakNow 31 [some (.ref 22), some (.int (nI (a + 1))), some (.int (nI kd)), none] [] σ1 Q := by
      intro m
      induction m with
      | zero =>
        intro kd σ1 hm s1 t1 e1 f1
        have : kd = 3 := by omega
        subst this
        refine ev_ic_ge okMd_breakNow rfl rfl trivial (fun g => ?_) (fun g => absurd (by decide) g)
        refine ev_goto okMd_breakNow rfl rfl trivial ?_
        have em : nI (a + 1) + mI 0 = nI a := by rw [show mI 0 = -1 from rfl, ← Int32.sub_eq_add_neg]; exact pk_sub (b := 1) (by omega)
        rw [em]
        refine ev_lv [some (.ref 22), some (.int (nI a)), none, none] ⟨rfl, rfl, trivial⟩ (ih σ1 (by omega) s1 (fun b hb hn q hq => ?_) (fun σ' r1 r2 r3 => k σ' r1 r2 (f1.tr r3)))
        by_cases e : b = a + 1
        · subst e
          exact e1 q hq
        · exact t1 b (by omega) hn q hq
      | succ m ih2 =>
        intro kd σ1 hm s1 t1 e1 f1
        refine ev_ic_ge okMd_breakNow rfl rfl trivial (fun g => absurd g (nI_ge (by omega) (by decide))) (fun g => ?_)
        refine ev_cv okMd_breakNow okMd_findBest rfl rfl trivial rfl (by decide +kernel) rfl rfl (sp_findBest hdp hpl hR h1 h2 ha (by omega) s1 t1 fun σ2 q1 q2 q3 q4 => ?_)
        refine ev_goto okMd_breakNow rfl rfl trivial ?_
        rw [nI_add]
        refine ih2 (kd + 1) σ2 (by omega) (s1.fq q4.1 (by decide) (by decide)) (t1.ent q4 (by omega)) (fun j hj => ?_) (f1.tr q4.1)
        by_cases e : j = kd
        · subst e
          exact ⟨q1, q2, q3⟩
        · obtain ⟨r1, r2, r3⟩ := q4.2 (4 * (a + 1) + j) (by omega)
          rw [r1, r2, r3]
          exact e1 j (by omega)
    exact inner 3 0 σ rfl hs ht (fun j hj => absurd hj (Nat.not_lt_zero j)) Fq.rf
/-- the lines are laid and PUT -/
theorem lp_puts (hok : WdOK ws) (hN : nS ws ≤ 4000) (hT : tot rl (SGs ws) ≤ 8000) (hR : R ≤ 80) (h1 : hh ≤ R) (h2 : ii ≤ R) (hhd : ∀ b ∈ hd, b < 128) (hft : ∀ b ∈ ft, b < 128) {jf : Bool} (hdp : DP (lS ws) (wS ws) (R - hh) (R - ii) (nS ws) B) : ∀ (m a kd : Nat) (σ : St2) (s : PS) (pb : Nat), nS ws ≤ a + m → a ≤ nS ws → (a = 0 ∧ kd = 3 ∨ 1 ≤ a ∧ kd < 3) → RsV σ (nS ws) (lS ws) (wS ws) R hh ii → NxV σ (nS ws) B → LyV σ ws → RgV σ s.1 hd ft s.2 → s.1 8 = b2 jf → PB pb s.1 → pb + m < 2 ^ 30 →
    (∀ σ', RgV σ' (brkL hd ft (lnE (clsP ws).1 (clsP ws).2.1 (clsP ws).2.2.1 (clsP ws).2.2.2 (R - hh) (R - ii) (nS ws) jf) (wy (lS ws) (wS ws) (R - hh) (R - ii) (nS ws) B m a kd) s).1 hd ft (brkL hd ft (lnE (clsP ws).1 (clsP ws).2.1 (clsP ws).2.2.1 (clsP ws).2.2.2 (R - hh) (R - ii) (nS ws) jf) (wy (lS ws) (wS ws) (R - hh) (R - ii) (nS ws) B m a kd) s).2 → Fq [24, 40] [3, 24, 34, 35, 36, 42, 29] σ σ' → Q none σ') →
    Ev lc G mMd_breakNow 128 [some (.ref 22), some (.int (nI a)), some (.int (nI kd)), none] [] σ Q := by
  have hpl : PlB (lS ws) (wS ws) := cls_PlB hok
  intro m
  induction m with
  | zero =>
    intro a kd σ s pb hm ha hk hs hx hly hg hj hpb hlt k
    simp only [wy, brkL] at k
    exact ev_ic_ge okMd_breakNow rfl rfl trivial (fun g => ev_rv okMd_breakNow rfl rfl trivial rfl (k σ hg Fq.rf)) (fun g => absurd (by rw [hs.1.1]; exact nI_le (by omega) (by omega)) g)
  | succ m ih =>
    intro a kd σ s pb hm ha hk hs hx hly hg hj hpb hlt k
    rw [wy] at k
    by_cases hlt2 : a < nS ws
    · simp only [if_pos hlt2, brkL] at k
      obtain ⟨d1, d2⟩ := DP_end hdp (k := kd) hlt2
      have d3 := DP_leg hdp (k := kd) hlt2
      have tc := hx a kd hk hlt2
      generalize hbb : (B a kd).2.2 = b at *
      refine ev_ic_ge okMd_breakNow rfl rfl trivial (fun g => absurd g (by rw [hs.1.1]; exact nI_ge hlt2 (by omega))) (fun g => ?_)
      have eidx : nI 4 * nI a + nI kd = nI (4 * a + kd) := by rw [pk_mul, nI_add]
      have ev : σ.1 33 (nI 4 * nI a + nI kd).toNatClampNeg = nI b := by rw [eidx, nI_cl (by omega)]; exact tc
      refine ev_cv okMd_breakNow okMd_badnessOf rfl rfl ⟨by rw [eidx]; exact vp_nI (by omega) (by decide), trivial⟩ rfl (by decide +kernel) rfl rfl ?_
      rw [ev]
      refine sp_badnessOfR hs hpl hR h1 h2 d1 d2 ?_
      have hbd : bdO (lS ws) (wS ws) (R - hh) (R - ii) (nS ws) a b ≤ 10000 := bdO_le a b
      refine ev_cs okMd_breakNow okMd_kindOf rfl rfl trivial rfl (by decide +kernel) rfl rfl (sp_kindOfR (by omega) ?_)
      have e26 : σ.1 22 26 = b2 jf := (hg.1 8 (by decide)).trans hj
      refine ev_cv okMd_breakNow okMd_layLine rfl rfl trivial rfl (by decide +kernel) rfl rfl (sp_layLine (jf := jf) hok hN hT hR h1 h2 hs hly e26 d1 d2 (shC_len hok (by omega) (by omega) d1 d2 d3) fun σ1 q1 q2 => ?_)
      have g1 := hg.fqs q2 (by decide) (by decide)
      refine ev_cv okMd_breakNow okMd_put rfl rfl trivial rfl (by decide +kernel) rfl rfl (sp_putR (B := pb) (shC_lt hok) g1 q1 hhd hft (by omega) hpb fun σ2 r1 r2 => ?_)
      have f2 : Fq [24, 40] [3, 24, 34, 35, 36, 42, 29] σ σ2 := (q2.wk (by decide) (by decide)).tr (r2.wk (by decide) (by decide))
      rw [pPut_step hok d1 d2] at r1
      refine ev_goto okMd_breakNow rfl rfl trivial ?_
      refine ev_lv [some (.ref 22), some (.int (nI b)), some (.int (nI (kO (lS ws) (wS ws) (R - hh) (R - ii) (nS ws) a b))), none] ⟨rfl, rfl, rfl, trivial⟩ (ih b (kO (lS ws) (wS ws) (R - hh) (R - ii) (nS ws) a b) σ2 _ (pb + 1) (by omega) d2 (Or.inr ⟨by omega, kO_lt a b⟩) (hs.fq f2 (by decide) (by decide)) (hx.fq f2 (by decide)) (hly.fq2 f2 (by decide) (by decide)) r1 ?_ (pClose_PB (pOpen_PB (e := false) hpb)) (by omega) (fun σ' t1 t2 => k σ' t1 (f2.tr t2)))
      rw [pClose_keep _ _ (by decide)]
      show (pOpen hd false s).1 8 = _
      rw [pOpen_keep _ _ _ (by decide)]
      exact hj
    · simp only [if_neg hlt2, brkL] at k
      exact ev_ic_ge okMd_breakNow rfl rfl trivial (fun g => ev_rv okMd_breakNow rfl rfl trivial rfl (k σ hg Fq.rf)) (fun g => absurd (by rw [hs.1.1]; exact nI_le (by omega) (by omega)) g)
theorem rl_le (hok : WdOK ws) : tot rl (SGs ws) ≤ 8000 := by
  have key : ∀ l : List (List Nat × Nat), (∀ q ∈ l, q.1.length ≤ 100) → tot rl (SGs l) ≤ 100 * l.length := by
    intro l
    induction l with
    | nil => intro _; exact Nat.le_refl _
    | cons q l ih =>
      intro h
      rw [SGs_cons, tot_app, tot_rl_wsg, List.length_cons]
      have h1 := h q List.mem_cons_self
      have h2 := ih (fun z hz => h z (List.mem_cons_of_mem _ hz))
      omega
  have h1 := key ws (fun q hq => (hok.2 q hq).2.1)
  have h2 := hok.1
  omega
theorem nS_le (hok : WdOK ws) : nS ws ≤ 4000 := by
  have hc := (SGs_cnt (fun q hq => ⟨(hok.2 q hq).1, (hok.2 q hq).2.1⟩)).1
  have h2 := hok.1
  show (SGs ws).length ≤ 4000
  omega
theorem sp_breakNow0 {σ : St2} (hw : RwV σ []) (k : Q none σ) : Ev lc G mMd_breakNow 0 [some (.ref 22), none, none, none] [] σ Q := by
  refine ev_if_ne okMd_breakNow rfl rfl trivial (fun g => absurd ?_ g) (fun g => ev_rv okMd_breakNow rfl rfl trivial rfl k)
  rw [hw.1]
  rfl
theorem sp_breakNow {σ : St2} {N : NN} {o : List Nat} {pb : Nat} {jf : Bool} (hok : WdOK ws) (hne : ws ≠ []) (hR : R ≤ 80) (h1 : hh < R) (h2 : ii < R) (hdp : DP (lS ws) (wS ws) (R - hh) (R - ii) (nS ws) B) (hhd : ∀ b ∈ hd, b < 128) (hft : ∀ b ∈ ft, b < 128) (hg : RgV σ N hd ft o) (hw : RwV σ ws) (n0 : N 0 = nI R) (n1 : N 1 = nI ii) (n2 : N 2 = nI hh) (hj : N 8 = b2 jf) (hpb : PB pb N) (hlt : pb + 4000 < 2 ^ 30)
    (k : ∀ σ', RgV σ' (brkL hd ft (lnE (clsP ws).1 (clsP ws).2.1 (clsP ws).2.2.1 (clsP ws).2.2.2 (R - hh) (R - ii) (nS ws) jf) (wy (lS ws) (wS ws) (R - hh) (R - ii) (nS ws) B (nS ws) 0 1) (N, o)).1 hd ft (brkL hd ft (lnE (clsP ws).1 (clsP ws).2.1 (clsP ws).2.2.1 (clsP ws).2.2.2 (R - hh) (R - ii) (nS ws) jf) (wy (lS ws) (wS ws) (R - hh) (R - ii) (nS ws) B (nS ws) 0 1) (N, o)).2 → RwV σ' [] →
      NtV σ' (wy (lS ws) (wS ws) (R - hh) (R - ii) (nS ws) B (nS ws) 0 1).length ((wy (lS ws) (wS ws) (R - hh) (R - ii) (nS ws) B (nS ws) 0 1).flatMap (fun q => fct (lS ws) (wS ws) (R - hh) (R - ii) (nS ws) q.1 q.2)) → σ'.2 22 15 = lN (B 0 1).1 → Fq [24, 27, 28, 29, 30, 31, 32, 33, 34, 35, 36, 37, 38, 39, 40] [3, 6, 11, 15, 16, 24, 29, 34, 35, 36, 42, 43] σ σ' → Q none σ') :
    Ev lc G mMd_breakNow 0 [some (.ref 22), none, none, none] [] σ Q := by
  have hpl : PlB (lS ws) (wS ws) := cls_PlB hok
  have hN := nS_le hok
  have hwl : 0 < ws.length := List.length_pos_iff.mpr hne
  have h80 := hok.1
  refine ev_if_ne okMd_breakNow rfl rfl trivial (fun g => ?_) (fun g => absurd (show σ.1 22 6 = 0 by simpa using g) (by rw [hw.1]; exact nI_ne0 hwl (by omega)))
  refine ev_cv okMd_breakNow okMd_layPlaces rfl rfl trivial rfl (by decide +kernel) rfl rfl ?_
  have e29 : σ.1 22 29 = nI hh := (hg.1 2 (by decide)).trans n2
  rw [e29]
  have f0 : Fq [] [43] σ (up2 σ.1 22 43 (nI hh), σ.2) := Fq.f1 (by decide)
  have e43 : (up2 σ.1 22 43 (nI hh), σ.2).1 22 43 = nI hh := up2_same σ.1 22 43 _
  have g0 := hg.fqs f0 (by decide) (by decide)
  have w0 := hw.fq f0 (by decide) (by decide) (by decide)
  generalize (up2 σ.1 22 43 (nI hh), σ.2) = σ0 at f0 e43 g0 w0 ⊢
  refine sp_layPlaces hok w0 fun σ1 q1 q2 => ?_
  have g1 := g0.fqs q2 (by decide) (by decide)
  have w1 := w0.fq q2 (by decide) (by decide) (by decide)
  have s1 : RsV σ1 (nS ws) (lS ws) (wS ws) R hh ii := RsV_of q1 hN ((g1.1 0 (by decide)).trans n0) (by rw [q2.g1 (by decide)]; exact e43) ((g1.1 1 (by decide)).trans n1)
  have f1 : Fq [24, 27, 28, 29, 30, 31, 32, 33, 34, 35, 36, 37, 38, 39, 40] [3, 6, 11, 15, 16, 24, 29, 34, 35, 36, 42, 43] σ σ1 := (f0.wk (by decide) (by decide)).tr (q2.wk (by decide) (by decide))
  refine ev_nop okMd_breakNow rfl rfl trivial ?_
  rw [s1.1.1]
  refine lp_tab hdp hpl hR (by omega) (by omega) (nS ws) σ1 (Nat.le_refl _) s1 (fun a ha hn => by omega) fun σ2 s2 t2 f2 => ?_
  refine ev_cv okMd_breakNow okMd_findBest rfl rfl trivial rfl (by decide +kernel) rfl rfl (sp_findBest (a := 0) (kb := 3) hdp hpl hR (by omega) (by omega) (by omega) (by omega) s2 t2 fun σ3 r1 r2 r3 r4 => ?_)
  have s3 := s2.fq r4.1 (by decide) (by decide)
  have t3 := t2.ent (a := 0) r4 (by omega)
  have x3 : NxV σ3 (nS ws) B := by
    rintro a kd (⟨rfl, rfl⟩ | ⟨c1, c2⟩) ha
    · exact r3 ha
    · exact (t3 a c1 (by omega) kd c2).2.2 ha
  have f3 : Fq [24, 27, 28, 29, 30, 31, 32, 33, 34, 35, 36, 37, 38, 39, 40] [3, 6, 11, 15, 16, 24, 29, 34, 35, 36, 42, 43] σ1 σ3 := (f2.wk (by decide) (by decide)).tr (r4.1.wk (by decide) (by decide))
  have g3 := g1.fqs (f2.tr r4.1) (by decide) (by decide)
  have y3 : LyV σ3 ws := ⟨⟨trivial, w1.2.1.fq (f2.tr r4.1) (by decide) (by decide), w1.2.2.fq (f2.tr r4.1) (by decide) (by decide)⟩, by rw [(f2.tr r4.1).g1 (by decide)]; exact q1.1, q1.2.1.fq (f2.tr r4.1) (by decide) (by decide), q1.2.2.1.fq (f2.tr r4.1) (by decide) (by decide), q1.2.2.2.1.fq (f2.tr r4.1) (by decide) (by decide), q1.2.2.2.2.fq (f2.tr r4.1) (by decide) (by decide)⟩
  refine ev_nop okMd_breakNow rfl rfl ⟨vp_nI (by decide) (by decide), trivial⟩ ?_
  have e3 : σ3.2 31 (nI 3).toNatClampNeg = lN (B 0 1).1 := by
    rw [show (nI 3).toNatClampNeg = 4 * 0 + 3 from nI_cl (by decide), r1, DP_01 hdp]
  rw [e3]
  have f4 : Fq [] [15, 16] σ3 (up2 σ3.1 22 16 (nI 0), up2 σ3.2 22 15 (lN (B 0 1).1)) := Fq.tr (Fq.f2 (by decide)) (Fq.f1 (σ := (σ3.1, up2 σ3.2 22 15 (lN (B 0 1).1))) (by decide))
  have n4 : NtV (up2 σ3.1 22 16 (nI 0), up2 σ3.2 22 15 (lN (B 0 1).1)) 0 [] := ⟨by decide, rfl, up2_same σ3.1 22 16 _, fun i hi => absurd hi (Nat.not_lt_zero i), fun i hi => absurd hi (Nat.not_lt_zero i)⟩
  have d4 : (up2 σ3.1 22 16 (nI 0), up2 σ3.2 22 15 (lN (B 0 1).1)).2 22 15 = lN (B 0 1).1 := up2_same σ3.2 22 15 _
  show Ev lc G mMd_breakNow 79 [some (.ref 22), some (.int (nI 0)), some (.int (nI 3)), none] [] (up2 σ3.1 22 16 (nI 0), up2 σ3.2 22 15 (lN (B 0 1).1)) Q
  generalize (up2 σ3.1 22 16 (nI 0), up2 σ3.2 22 15 (lN (B 0 1).1)) = σ4 at f4 n4 d4 ⊢
  refine lp_notes hok hR (by omega) (by omega) hdp (nS ws) 0 3 σ4 0 [] (by omega) (by omega) (Or.inl ⟨rfl, rfl⟩) (Nat.le_refl _) (s3.fq f4 (by decide) (by decide)) (x3.fq f4 (by decide)) n4 fun σ5 u1 u2 => ?_
  rw [wy_03 hdp, Nat.zero_add, List.nil_append] at u1
  have f5 := (Fq.wk f4 (S' := [34, 35, 36, 37, 38, 39]) (F' := [15, 16]) (by decide) (by decide)).tr (u2.wk (by decide) (by decide))
  refine ev_nop okMd_breakNow rfl rfl trivial ?_
  have f6 : Fq [34, 35, 36, 37, 38, 39] [6, 15, 16] σ3 (up2 σ5.1 22 6 (nI 0), σ5.2) := (f5.wk (by decide) (by decide)).tr (Fq.f1 (by decide))
  have f6' : Fq [] [6] σ5 (up2 σ5.1 22 6 (nI 0), σ5.2) := Fq.f1 (by decide)
  have w6 : RwV (up2 σ5.1 22 6 (nI 0), σ5.2) [] := ⟨up2_same σ5.1 22 6 _, RowAt.nil, RowAt.nil⟩
  have d6 : (up2 σ5.1 22 6 (nI 0), σ5.2).2 22 15 = lN (B 0 1).1 := by
    show σ5.2 22 15 = _
    rw [u2.g2 (by decide)]; exact d4
  have n6 := u1.fq f6' (by decide) (by decide)
  generalize (up2 σ5.1 22 6 (nI 0), σ5.2) = σ6 at f6 w6 d6 n6 ⊢
  refine lp_puts (jf := jf) hok hN (rl_le hok) hR (by omega) (by omega) hhd hft hdp (nS ws) 0 3 σ6 (N, o) pb (by omega) (by omega) (Or.inl ⟨rfl, rfl⟩) (s3.fq f6 (by decide) (by decide)) (x3.fq f6 (by decide)) (y3.fq2 f6 (by decide) (by decide)) (g3.fqs f6 (by decide) (by decide)) hj hpb (by omega) fun σ7 v1 v2 => ?_
  rw [wy_03 hdp] at v1
  refine k σ7 v1 (w6.fq v2 (by decide) (by decide) (by decide)) (n6.fq v2 (by decide) (by decide)) (by rw [v2.g2 (by decide)]; exact d6) ?_
  exact ((f1.tr f3).tr (f6.wk (by decide) (by decide))).tr (v2.wk (by decide) (by decide))
end RB2
