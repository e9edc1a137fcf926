/-! ===== the reference: its places ===== -/
def rawW (ws : List (List Nat × Nat)) : List Nat := ws.flatMap (fun q => q.1.map (fun b => b + 256 * q.2))
/-- the reference's words: raw, with their underlining -/
def RwV (σ : St2) (ws : List (List Nat × Nat)) : Prop := σ.1 22 6 = nI ws.length ∧ RowAt σ 26 (weS ws) ∧ RowAt σ 25 (rawW ws)
theorem RwV.fq {S F : List Nat} {σ σ' : St2} {ws : List (List Nat × Nat)} (h : RwV σ ws) (hf : Fq S F σ σ') (h1 : 25 ∉ S) (h2 : 26 ∉ S) (h3 : 6 ∉ F) : RwV σ' ws := ⟨by rw [hf.g1 h3]; exact h.1, h.2.1.fq hf h2 (by decide), h.2.2.fq hf h1 (by decide)⟩
theorem rawW_len (ws : List (List Nat × Nat)) : (rawW ws).length = tot wl ws := by
  induction ws with
  | nil => rfl
  | cons q ws ih =>
    have : rawW (q :: ws) = q.1.map (fun b => b + 256 * q.2) ++ rawW ws := by simp [rawW]
    rw [this, List.length_append, ih, tot, List.length_map]
    rfl
theorem rawW_app (x y : List (List Nat × Nat)) : rawW (x ++ y) = rawW x ++ rawW y := by simp [rawW]
theorem rawW_cons (q : List Nat × Nat) (ws : List (List Nat × Nat)) : rawW (q :: ws) = q.1.map (fun b => b + 256 * q.2) ++ rawW ws := by simp [rawW]
theorem SGs_app (x y : List (List Nat × Nat)) : SGs (x ++ y) = SGs x ++ SGs y := by simp [SGs]
/-- byte j of word i, among the raw letters -/
theorem raw_at {ws : List (List Nat × Nat)} {i j : Nat} (hi : i < ws.length) (hj : j < ws[i].1.length) : tot wl (ws.take i) + j < (rawW ws).length ∧ (rawW ws).getD (tot wl (ws.take i) + j) 0 = ws[i].1.getD j 0 + 256 * ws[i].2 := by
  have hr : rawW ws = rawW (ws.take i) ++ (ws[i].1.map (fun b => b + 256 * ws[i].2) ++ rawW (ws.drop (i + 1))) := by
    have h1 : rawW (ws.take i ++ ws.drop i) = rawW (ws.take i) ++ rawW (ws.drop i) := rawW_app _ _
    rw [List.take_append_drop] at h1
    rw [h1, List.drop_eq_getElem_cons hi, rawW_cons]
  have hl := rawW_len (ws.take i)
  rw [hr]
  constructor
  · simp only [List.length_append, List.length_map, hl]
    omega
  · rw [List.getD_eq_getElem?_getD, List.getElem?_append_right (by omega), hl, Nat.add_sub_cancel_left, List.getElem?_append_left (by simpa using hj)]
    simp [hj]
def ipS (S : List Seg) : List Nat := 0 :: S.map (fun x => if x.2.2 then 0 else 1)
/-- the places that stand so far -/
def LpV (σ : St2) (S : List Seg) : Prop := σ.1 22 11 = nI S.length ∧ RowAt σ 27 (lbS S) ∧ RowAt σ 28 (wbS S) ∧ RowAt σ 29 (ipS S) ∧ RowAt σ 30 (paS S)
theorem psum_snoc {α : Type} (f : α → Nat) (S : List α) (x : α) : (0 :: psum f 0 (S ++ [x])) = (0 :: psum f 0 S) ++ [tot f S + f x] := by
  rw [psum_app, Nat.zero_add]
  rfl
theorem LpV.push {σ σ' : St2} {S : List Seg} (h : LpV σ S) (x : Seg) (h0 : σ'.1 22 11 = nI (S.length + 1)) (h27 : σ'.1 27 (S.length + 1) = nI (tot nl S + nl x)) (h28 : σ'.1 28 (S.length + 1) = nI (tot ef S + ef x)) (h29 : σ'.1 29 (S.length + 1) = nI (if x.2.2 then 0 else 1)) (h30 : σ'.1 30 (S.length + 1) = nI (tot rl S + rl x)) (o : ∀ c ∈ [27, 28, 29, 30], ∀ j, j ≠ S.length + 1 → σ'.1 c j = σ.1 c j) : LpV σ' (S ++ [x]) := by
  obtain ⟨a0, a1, a2, a3, a4⟩ := h
  have l1 : (0 :: psum nl 0 S).length = S.length + 1 := psL_len nl S
  have l2 : (0 :: psum ef 0 S).length = S.length + 1 := psL_len ef S
  have l4 : (0 :: psum rl 0 S).length = S.length + 1 := psL_len rl S
  have l3 : (ipS S).length = S.length + 1 := by simp [ipS]
  refine ⟨by rw [h0]; simp, ?_, ?_, ?_, ?_⟩
  · unfold lbS
    rw [psum_snoc]
    exact RowAt.push a1 (by rw [l1]; exact h27) (fun j hj => o 27 (by decide) j (by omega))
  · unfold wbS
    rw [psum_snoc]
    exact RowAt.push a2 (by rw [l2]; exact h28) (fun j hj => o 28 (by decide) j (by omega))
  · have : ipS (S ++ [x]) = ipS S ++ [if x.2.2 then 0 else 1] := by simp [ipS]
    rw [this]
    exact RowAt.push a3 (by rw [l3]; exact h29) (fun j hj => o 29 (by decide) j (by omega))
  · unfold paS
    rw [psum_snoc]
    exact RowAt.push a4 (by rw [l4]; exact h30) (fun j hj => o 30 (by decide) j (by omega))
section RL
variable {lc : Launch} {G : GG} {Q : Option Value → St2 → Prop} {ws : List (List Nat × Nat)}
theorem u27 (I : Nat → Nat → Int32) (b : Nat) (x : Int32) : up2 I 27 b x 22 = I 22 := up2_ne _ _ _ (by decide)
theorem u28 (I : Nat → Nat → Int32) (b : Nat) (x : Int32) : up2 I 28 b x 22 = I 22 := up2_ne _ _ _ (by decide)
theorem u29 (I : Nat → Nat → Int32) (b : Nat) (x : Int32) : up2 I 29 b x 22 = I 22 := up2_ne _ _ _ (by decide)
theorem u30 (I : Nat → Nat → Int32) (b : Nat) (x : Int32) : up2 I 30 b x 22 = I 22 := up2_ne _ _ _ (by decide)
theorem and255 {v : Nat} (h : v < 2 ^ 31) : nI v &&& nI 255 = nI (v % 256) := pk_andN (by omega) 8 (by decide)
theorem lp_bytesIn {σ : St2} (hw : RwV σ ws) (hok : WdOK ws) {i : Nat} (hi : i < ws.length) (hT : tot wl ws ≤ 8000) : ∀ (m j : Nat), j + m = ws[i].1.length → Q (some (.int (nI (noC ws[i].1).length))) σ → Ev lc G mMd_bytesIn 5 [some (.ref 22), none, some (.int (nI (tot wl (ws.take (i + 1))))), some (.int (nI (noC (ws[i].1.take j)).length)), some (.int (nI (tot wl (ws.take i) + j)))] [] σ Q := by
  have hT1 := tot_take_all wl ws (i + 1)
  have hT2 : tot wl (ws.take (i + 1)) = tot wl (ws.take i) + ws[i].1.length := tot_take_succ wl ws hi
  intro m
  induction m with
  | zero =>
    intro j hj k
    refine ev_ic_ge okMd_bytesIn rfl rfl trivial (fun g => ev_ri okMd_bytesIn rfl rfl trivial rfl ?_) (fun g => absurd (nI_le (by omega) (by omega)) g)
    rw [List.take_of_length_le (by omega)]
    exact k
  | succ m ih =>
    intro j hj k
    obtain ⟨r1, r2⟩ := raw_at hi (show j < ws[i].1.length by omega)
    obtain ⟨-, hl, hu, hbb⟩ := hok.2 ws[i] (List.getElem_mem hi)
    have hb1 : ws[i].1.getD j 0 < 128 := getD_lt (fun b hb => (hbb b hb).2) (by decide)
    have hv : σ.1 25 (nI (tot wl (ws.take i) + j)).toNatClampNeg = nI (ws[i].1.getD j 0 + 256 * ws[i].2) := by
      rw [nI_cl (by omega), hw.2.2 _ r1, r2]
    have hm : nI (ws[i].1.getD j 0 + 256 * ws[i].2) &&& nI 255 = nI (ws[i].1.getD j 0) := by
      rw [and255 (by omega)]
      congr 1
      omega
    refine ev_ic_ge okMd_bytesIn rfl rfl trivial (fun g => absurd g (nI_ge (by omega) (by omega))) (fun g => ?_)
    refine ev_ic_ne okMd_bytesIn rfl rfl ⟨vp_nI (by omega) (by decide), trivial⟩ (fun g => ?_) (fun g => ?_)
    · rw [hv, hm] at g
      have e : ¬ ws[i].1.getD j 0 = 94 := fun q => g (by rw [q])
      refine ev_nop okMd_bytesIn rfl rfl trivial (ev_goto okMd_bytesIn rfl rfl trivial ?_)
      rw [nI_add, nI_add]
      have := ih (j + 1) (by omega) k
      rw [noC_snoc (by omega), if_neg e, List.length_append, List.length_singleton] at this
      exact this
    · rw [hv, hm] at g
      have e : ws[i].1.getD j 0 = 94 := (nI_eq (by omega) (by decide)).mp (by simpa using g)
      refine ev_goto okMd_bytesIn rfl rfl trivial (ev_goto okMd_bytesIn rfl rfl trivial ?_)
      rw [nI_add]
      have := ih (j + 1) (by omega) k
      rw [noC_snoc (by omega), if_pos e, List.append_nil] at this
      exact this
theorem sp_bytesIn {σ : St2} (hw : RwV σ ws) (hok : WdOK ws) {i : Nat} (hi : i < ws.length) (hT : tot wl ws ≤ 8000) (k : Q (some (.int (nI (noC ws[i].1).length))) σ) : Ev lc G mMd_bytesIn 0 [some (.ref 22), some (.int (nI (tot wl (ws.take i)))), some (.int (nI (tot wl (ws.take (i + 1))))), none, none] [] σ Q :=
  ev_nop okMd_bytesIn rfl rfl trivial (ev_lv [some (.ref 22), none, some (.int (nI (tot wl (ws.take (i + 1))))), some (.int (nI 0)), some (.int (nI (tot wl (ws.take i))))] ⟨rfl, rfl, rfl, rfl, trivial⟩ (lp_bytesIn hw hok hi hT ws[i].1.length 0 (by omega) k))
/-- the bytes of a word, one by one -/
theorem lp_word {i : Nat} (hok : WdOK ws) (hi : i < ws.length) (hT : tot wl ws ≤ 8000) (hN : (SGs ws).length ≤ 4000) : ∀ (r cur : List Nat) (dn : List Seg) (σ : St2), RwV σ ws → LpV σ (SGs (ws.take i) ++ dn) → ws[i].1 = ((dn.map (fun x => x.1)).flatten ++ cur) ++ r → wsg ws[i].1 ws[i].2 = dn ++ mrk ws[i].2 (sgs cur r) → tot ef dn = 0 →
    (∀ σ' dn' cur', LpV σ' (SGs (ws.take i) ++ dn') → wsg ws[i].1 ws[i].2 = dn' ++ [(cur', ws[i].2, true)] → RwV σ' ws → Fq [27, 28, 29, 30] [11] σ σ' → Ev lc G mMd_layPlaces 182 [some (.ref 22), none, some (.int (nI (ltS (SGs (ws.take i))).length)), some (.int (nI i)), some (.int (nI (noC ws[i].1).length)), none, none, none] [] σ' Q) →
    Ev lc G mMd_layPlaces 69 [some (.ref 22), none, some (.int (nI (ltS (SGs (ws.take i))).length)), some (.int (nI i)), some (.int (nI (noC ws[i].1).length)), some (.int (nI (tot nl dn + (noC cur).length))), some (.int (nI (tot nl dn))), some (.int (nI (tot wl (ws.take i) + (tot rl dn + cur.length))))] [] σ Q := by
  have hT1 := tot_take_all wl ws (i + 1)
  have hT2 : tot wl (ws.take (i + 1)) = tot wl (ws.take i) + ws[i].1.length := tot_take_succ wl ws hi
  have h80 := hok.1
  obtain ⟨-, hl, hu, hbb⟩ := hok.2 ws[i] (List.getElem_mem hi)
  have hflat : ∀ dn : List Seg, ((dn.map (fun x => x.1)).flatten).length = tot rl dn := by
    intro dn
    induction dn with
    | nil => rfl
    | cons x dn ih => simp [tot, rl, ← ih]
  have hnoC : ∀ dn : List Seg, (noC (dn.map (fun x => x.1)).flatten).length = tot nl dn := by
    intro dn
    induction dn with
    | nil => rfl
    | cons x dn ih => rw [List.map_cons, List.flatten_cons, noC_app, List.length_append, ih]; rfl
  have hwe : ∀ σ : St2, RwV σ ws → σ.1 26 (nI i).toNatClampNeg = nI (tot wl (ws.take (i + 1))) := by
    intro σ hw
    rw [nI_cl (by omega), hw.2.1 i (by unfold weS; rw [psum_len]; exact hi), we_at ws hi]
  intro r
  induction r with
  | nil =>
    intro cur dn σ hw hp hr hs he k
    have hlen := congrArg List.length hr
    simp only [List.length_append, hflat, List.length_nil] at hlen
    refine ev_ic_ge okMd_layPlaces rfl rfl ⟨vp_nI (by omega) (by decide), trivial⟩ (fun g => ?_) (fun g => absurd ?_ g)
    · refine ev_lv [some (.ref 22), none, some (.int _), some (.int (nI i)), some (.int _), none, none, none] ⟨rfl, rfl, rfl, rfl, trivial⟩ (k σ dn cur hp ?_ hw Fq.rf)
      rw [hs]
      rfl
    · rw [hwe σ hw]
      exact nI_le (by omega) (by omega)
  | cons b r ih =>
    intro cur dn σ hw hp hr hs he k
    have hlen := congrArg List.length hr
    simp only [List.length_append, hflat, List.length_cons] at hlen
    have hall := congrArg (fun x => (noC x).length) hr
    simp only [noC_app, List.length_append, hnoC] at hall
    have hj : ws[i].1.getD (tot rl dn + cur.length) 0 = b := by
      rw [hr, List.getD_eq_getElem?_getD, List.getElem?_append_right (by simp [hflat])]
      simp [hflat]
    obtain ⟨r1, r2⟩ := raw_at hi (show tot rl dn + cur.length < ws[i].1.length by omega)
    rw [hj] at r2
    have hb1 : b < 128 := (hbb b (by rw [hr]; simp)).2
    have hv : σ.1 25 (nI (tot wl (ws.take i) + (tot rl dn + cur.length))).toNatClampNeg = nI (b + 256 * ws[i].2) := by
      rw [nI_cl (by omega), hw.2.2 _ r1, r2]
    have hm : nI (b + 256 * ws[i].2) &&& nI 255 = nI b := by
      rw [and255 (by omega)]
      congr 1
      omega
    have hnr : (noC (b :: r)).length ≤ r.length + 1 := List.length_filter_le (fun b => b != 94) (b :: r)
    have hnw : (noC ws[i].1).length ≤ 100 := Nat.le_trans (List.length_filter_le _ _) hl
    refine ev_ic_ge okMd_layPlaces rfl rfl ⟨vp_nI (by omega) (by decide), trivial⟩ (fun g => absurd g (by rw [hwe σ hw]; exact nI_ge (by omega) (by omega))) (fun g => ?_)
    -- no place here: the byte joins the segment
    have join : ¬ (b = 94 ∧ hlt cur = true ∧ hlt r = true) → Ev lc G mMd_layPlaces 176 [some (.ref 22), none, some (.int (nI (ltS (SGs (ws.take i))).length)), some (.int (nI i)), some (.int (nI (noC ws[i].1).length)), some (.int (nI (tot nl dn + (noC (cur ++ [b])).length))), some (.int (nI (tot nl dn))), some (.int (nI (tot wl (ws.take i) + (tot rl dn + cur.length))))] [] σ Q := by
      intro hno
      refine ev_goto okMd_layPlaces rfl rfl trivial ?_
      rw [nI_add]
      have := ih (cur ++ [b]) dn σ hw hp (by rw [hr]; simp) (by rw [hs, sgs, if_neg hno]) he k
      rw [List.length_append, List.length_singleton, show tot wl (ws.take i) + (tot rl dn + (cur.length + 1)) = tot wl (ws.take i) + (tot rl dn + cur.length) + 1 by omega] at this
      exact this
    refine ev_ic_eq okMd_layPlaces rfl rfl ⟨vp_nI (by omega) (by decide), trivial⟩ (fun g => ?_) (fun g => ?_)
    · rw [hv, hm] at g
      have e : b = 94 := (nI_eq (by omega) (by decide)).mp g
      have hncb : noC (cur ++ [b]) = noC cur := by rw [e, noC_app, noC_c, List.append_nil]
      have hnb : noC (b :: r) = noC r := by simp [noC, e]
      rw [hncb] at join
      rw [hnb] at hall
      refine ev_ic_le okMd_layPlaces rfl rfl trivial (fun g2 => ?_) (fun g2 => ?_)
      · have g2 : tot nl dn + (noC cur).length ≤ tot nl dn := (nI_leI (by omega) (by omega)).mp g2
        exact join (fun z => by have := (hlt_noC cur).mp z.2.1; omega)
      · have g2 : ¬ tot nl dn + (noC cur).length ≤ tot nl dn := fun q => g2 (nI_le q (by omega))
        refine ev_ic_ge okMd_layPlaces rfl rfl trivial (fun g3 => ?_) (fun g3 => ?_)
        · have g3 : (noC ws[i].1).length ≤ tot nl dn + (noC cur).length := (nI_leI (by omega) (by omega)).mp g3
          exact join (fun z => by have := (hlt_noC r).mp z.2.2; omega)
        · have g3 : ¬ (noC ws[i].1).length ≤ tot nl dn + (noC cur).length := fun q => g3 (nI_le q (by omega))
          have hc1 : hlt cur = true := (hlt_noC cur).mpr (by omega)
          have hc2 : hlt r = true := (hlt_noC r).mpr (by omega)
          have hS1 : wsg ws[i].1 ws[i].2 = (dn ++ [(cur ++ [94], ws[i].2, false)]) ++ mrk ws[i].2 (sgs [] r) := by
            rw [hs, sgs, if_pos ⟨e, hc1, hc2⟩, mrk_cons _ _ (sgs_ne _ _)]
            simp
          have hSl : (SGs (ws.take i) ++ dn).length + 1 ≤ 4000 := by
            have e1 : SGs ws = SGs (ws.take i) ++ (wsg ws[i].1 ws[i].2 ++ SGs (ws.drop (i + 1))) := by
              have h1 : SGs (ws.take i ++ ws.drop i) = SGs (ws.take i) ++ SGs (ws.drop i) := SGs_app _ _
              rw [List.take_append_drop] at h1
              rw [h1, List.drop_eq_getElem_cons hi, SGs_cons]
            have e2 := congrArg List.length e1
            have e3 := congrArg List.length hS1
            simp only [List.length_append, List.length_cons, List.length_nil] at e2 e3 ⊢
            omega
          have eX : σ.1 22 11 + nI 1 = nI ((SGs (ws.take i) ++ dn).length + 1) := by rw [hp.1, nI_add]
          have vpl : vp_in (nI ((SGs (ws.take i) ++ dn).length + 1)) 8101 := vp_nI (by omega) (by decide)
          have ecl : (nI ((SGs (ws.take i) ++ dn).length + 1)).toNatClampNeg = (SGs (ws.take i) ++ dn).length + 1 := nI_cl (by omega)
          have hti : tot ef (SGs (ws.take i) ++ dn) = i := by
            rw [tot_app, he, tot_ef, List.length_take]
            omega
          have htr : tot rl (SGs (ws.take i)) = tot wl (ws.take i) := by
            have key : ∀ l : List (List Nat × Nat), tot rl (SGs l) = tot wl l := by
              intro l
              induction l with
              | nil => rfl
              | cons q l ih => rw [SGs_cons, tot_app, tot_rl_wsg, ih]; rfl
            exact key _
          generalize hSd : SGs (ws.take i) ++ dn = S at *
          refine ev_nop okMd_layPlaces rfl rfl ⟨by simpa [up2, eX] using vpl, by simpa [up2, eX] using vpl, by simpa [up2, eX] using vpl, by simpa [up2, eX] using vpl, trivial⟩ ?_
          refine ev_goto okMd_layPlaces rfl rfl trivial ?_
          rw [nI_add]
          have hfq : Fq [27, 28, 29, 30] [11] σ (up2 (up2 (up2 (up2 (up2 σ.1 22 11 (nI (S.length + 1))) 27 (S.length + 1) (nI (ltS (SGs (ws.take i))).length + nI (tot nl dn + (noC cur).length))) 28 (S.length + 1) (nI i)) 30 (S.length + 1) (nI (tot wl (ws.take i) + (tot rl dn + cur.length)) + nI 1)) 29 (S.length + 1) (nI 1 &&& 1), σ.2) :=
            Fq.tr (Fq.tr (Fq.tr (Fq.tr (Fq.f1 (by decide)) (Fq.u1 (σ := (_, _)) (by decide) (by decide))) (Fq.u1 (σ := (_, _)) (by decide) (by decide))) (Fq.u1 (σ := (_, _)) (by decide) (by decide))) (Fq.u1 (σ := (_, _)) (by decide) (by decide))
          have hfin := ih [] (dn ++ [(cur ++ [94], ws[i].2, false)]) _ (hw.fq hfq (by decide) (by decide) (by decide)) ?_ (by rw [hr, e]; simp) hS1 (by rw [tot_app, he]; rfl) (fun σ' dn' cur' q1 q2 q3 q4 => k σ' dn' cur' q1 q2 q3 (hfq.tr q4))
          · have x1 : tot nl (dn ++ [(cur ++ [94], ws[i].2, false)]) = tot nl dn + (noC cur).length := by
              rw [tot_app]
              simp only [tot, nl, noC_app, noC_c, List.append_nil, Nat.add_zero]
            have x2 : tot rl (dn ++ [(cur ++ [94], ws[i].2, false)]) = tot rl dn + (cur.length + 1) := by
              rw [tot_app]
              simp only [tot, rl, List.length_append, List.length_singleton, Nat.add_zero]
            rw [x1, x2, show noC [] = [] from rfl, List.length_nil, Nat.add_zero, Nat.add_zero, show tot wl (ws.take i) + (tot rl dn + (cur.length + 1)) = tot wl (ws.take i) + (tot rl dn + cur.length) + 1 by omega] at hfin
            simp only [nI_add] at hfin
            simp only [u27, u28, u30, up2_same, eX, ecl, nI_add]
            exact hfin
          · rw [← List.append_assoc, hSd]
            refine LpV.push hp _ ?_ ?_ ?_ ?_ ?_ (fun c hc j hj => ?_)
            · simp [up2]
            · have : tot nl S = (ltS (SGs (ws.take i))).length + tot nl dn := by rw [← hSd, tot_app, tot_nl]
              simp only [up2, nI_add, nl, noC_app, noC_c, List.append_nil]
              simp [this]
              rw [Nat.add_assoc]
            · simp [up2, hti, ef]
            · simp [up2]; decide
            · have : tot rl S = tot wl (ws.take i) + tot rl dn := by rw [← hSd, tot_app, htr]
              simp [up2, nI_add, rl, this]
              congr 1
              omega
            · simp only [List.mem_cons, List.not_mem_nil, or_false] at hc
              rcases hc with rfl | rfl | rfl | rfl <;> simp [up2, hj]
    · rw [hv, hm] at g
      have e : ¬ b = 94 := fun q => g (by rw [q])
      have hncb : (noC (cur ++ [b])).length = (noC cur).length + 1 := by rw [noC_app, noC_l e, List.length_append]; rfl
      refine ev_goto okMd_layPlaces rfl rfl trivial ?_
      rw [nI_add]
      have := join (fun z => e z.1)
      rw [hncb] at this
      exact this
theorem lp_places (hok : WdOK ws) (hT : tot wl ws ≤ 8000) (hN : (SGs ws).length ≤ 4000) : ∀ (m i : Nat) (σ : St2), i + m = ws.length → RwV σ ws → LpV σ (SGs (ws.take i)) → (∀ σ', LpV σ' (SGs ws) → Fq [27, 28, 29, 30] [11] σ σ' → Q none σ') →
    Ev lc G mMd_layPlaces 39 [some (.ref 22), some (.int (nI (tot wl (ws.take i)))), some (.int (nI (ltS (SGs (ws.take i))).length)), some (.int (nI i)), none, none, none, none] [] σ Q := by
  have h80 := hok.1
  intro m
  induction m with
  | zero =>
    intro i σ hi hw hp k
    rw [List.take_of_length_le (show ws.length ≤ i by omega)] at hp
    refine ev_ic_ge okMd_layPlaces rfl rfl trivial (fun g => ev_rv okMd_layPlaces rfl rfl trivial rfl (k σ hp Fq.rf)) (fun g => absurd ?_ g)
    rw [hw.1]
    exact nI_le (by omega) (by omega)
  | succ m ih =>
    intro i σ hi hw hp k
    have hlt : i < ws.length := by omega
    have hT1 := tot_take_all wl ws (i + 1)
    have hT2 : tot wl (ws.take (i + 1)) = tot wl (ws.take i) + ws[i].1.length := tot_take_succ wl ws hlt
    obtain ⟨hh1, hl, hu, hbb⟩ := hok.2 ws[i] (List.getElem_mem hlt)
    have hwe : ∀ σ : St2, RwV σ ws → σ.1 26 (nI i).toNatClampNeg = nI (tot wl (ws.take (i + 1))) := by
      intro σ hw
      rw [nI_cl (by omega), hw.2.1 i (by unfold weS; rw [psum_len]; exact hlt), we_at ws hlt]
    have vi : vp_in (nI i) 80 := vp_nI (by omega) (by decide)
    have hSi : SGs (ws.take (i + 1)) = SGs (ws.take i) ++ wsg ws[i].1 ws[i].2 := by
      rw [List.take_succ, List.getElem?_eq_getElem hlt, SGs_app]
      simp [SGs]
    refine ev_ic_ge okMd_layPlaces rfl rfl trivial (fun g => absurd g (by rw [hw.1]; exact nI_ge hlt (by omega))) (fun g => ?_)
    refine ev_cv okMd_layPlaces okMd_bytesIn rfl rfl ⟨vi, trivial⟩ rfl (by decide +kernel) rfl rfl ?_
    rw [hwe σ hw]
    refine sp_bytesIn hw hok hlt hT ?_
    refine ev_nop okMd_layPlaces rfl rfl trivial ?_
    refine ev_lv [some (.ref 22), none, some (.int (nI (ltS (SGs (ws.take i))).length)), some (.int (nI i)), some (.int (nI (noC ws[i].1).length)), some (.int (nI 0)), some (.int (nI 0)), some (.int (nI (tot wl (ws.take i))))] ⟨rfl, rfl, rfl, rfl, rfl, rfl, rfl, trivial⟩ (lp_word hok hlt hT hN ws[i].1 [] [] σ hw (by rw [List.append_nil]; exact hp) (by simp) rfl rfl fun σ1 dn cur q1 q2 q3 q4 => ?_)
    have hS2 : SGs (ws.take (i + 1)) = (SGs (ws.take i) ++ dn) ++ [(cur, ws[i].2, true)] := by rw [hSi, q2, List.append_assoc]
    have hSl : (SGs (ws.take i) ++ dn).length + 1 ≤ 4000 := by
      have e1 : SGs ws = SGs (ws.take (i + 1)) ++ SGs (ws.drop (i + 1)) := by
        have h1 : SGs (ws.take (i + 1) ++ ws.drop (i + 1)) = _ := SGs_app _ _
        rwa [List.take_append_drop] at h1
      have e2 := congrArg List.length e1
      rw [hS2] at e2
      simp only [List.length_append, List.length_cons, List.length_nil] at e2 ⊢
      omega
    have t1 : tot nl (SGs (ws.take i) ++ dn) + nl (cur, ws[i].2, true) = (ltS (SGs (ws.take (i + 1)))).length := by
      rw [← tot_nl, hS2, tot_app nl (SGs (ws.take i) ++ dn)]
      rfl
    have t2 : tot ef (SGs (ws.take i) ++ dn) + ef (cur, ws[i].2, true) = i + 1 := by
      have := tot_ef (ws.take (i + 1))
      rw [hS2, tot_app ef (SGs (ws.take i) ++ dn), List.length_take] at this
      have e : tot ef [(cur, ws[i].2, true)] = ef (cur, ws[i].2, true) := rfl
      omega
    have t3 : tot rl (SGs (ws.take i) ++ dn) + rl (cur, ws[i].2, true) = tot wl (ws.take (i + 1)) := by
      have key : ∀ l : List (List Nat × Nat), tot rl (SGs l) = tot wl l := by
        intro l
        induction l with
        | nil => rfl
        | cons q l ih => rw [SGs_cons, tot_app, tot_rl_wsg, ih]; rfl
      rw [← key, hS2, tot_app rl (SGs (ws.take i) ++ dn)]
      rfl
    have t4 : (ltS (SGs (ws.take i))).length + (noC ws[i].1).length = (ltS (SGs (ws.take (i + 1)))).length := by rw [hSi, ltS_app, ltS_wsg, List.length_append]
    generalize hSd : SGs (ws.take i) ++ dn = S at *
    have eX : σ1.1 22 11 + nI 1 = nI (S.length + 1) := by rw [q1.1, nI_add]
    have vpl : vp_in (nI (S.length + 1)) 8101 := vp_nI (by omega) (by decide)
    have ecl : (nI (S.length + 1)).toNatClampNeg = S.length + 1 := nI_cl (by omega)
    have e26 : ∀ I : Nat → Nat → Int32, I 26 = σ1.1 26 → I 26 (nI i).toNatClampNeg = nI (tot wl (ws.take (i + 1))) := by
      intro I hI
      rw [hI]
      exact hwe σ1 q3
    refine ev_goto okMd_layPlaces rfl rfl ⟨by simpa [up2, eX] using vpl, by simpa [up2, eX] using vpl, vi, by simpa [up2, eX] using vpl, by simpa [up2, eX] using vpl, vi, trivial⟩ ?_
    have hfq : Fq [27, 28, 29, 30] [11] σ1 (up2 (up2 (up2 (up2 (up2 σ1.1 22 11 (nI (S.length + 1))) 27 (S.length + 1) (nI (ltS (SGs (ws.take (i + 1)))).length)) 28 (S.length + 1) (nI (i + 1))) 30 (S.length + 1) (nI (tot wl (ws.take (i + 1))))) 29 (S.length + 1) (nI 0 &&& 1), σ1.2) :=
      Fq.tr (Fq.tr (Fq.tr (Fq.tr (Fq.f1 (by decide)) (Fq.u1 (σ := (_, _)) (by decide) (by decide))) (Fq.u1 (σ := (_, _)) (by decide) (by decide))) (Fq.u1 (σ := (_, _)) (by decide) (by decide))) (Fq.u1 (σ := (_, _)) (by decide) (by decide))
    have hfin := ih (i + 1) _ (by omega) (q3.fq hfq (by decide) (by decide) (by decide)) ?_ (fun σ' r1 r2 => k σ' r1 ((q4.tr hfq).tr r2))
    · simp only [u27, u28, u29, u30, up2_same, eX, ecl, nI_add, t4]
      have r26 : ∀ (I : Nat → Nat → Int32) (b : Nat) (x : Int32), up2 I 27 b x 26 = I 26 ∧ up2 I 28 b x 26 = I 26 ∧ up2 I 29 b x 26 = I 26 ∧ up2 I 30 b x 26 = I 26 ∧ up2 I 22 b x 26 = I 26 := fun I b x => ⟨up2_ne _ _ _ (by decide), up2_ne _ _ _ (by decide), up2_ne _ _ _ (by decide), up2_ne _ _ _ (by decide), up2_ne _ _ _ (by decide)⟩
      simp only [(r26 _ _ _).1, (r26 _ _ _).2.1, (r26 _ _ _).2.2.1, (r26 _ _ _).2.2.2.1, (r26 _ _ _).2.2.2.2, hwe σ1 q3]
      exact ev_lv [some (.ref 22), some (.int (nI (tot wl (ws.take (i + 1))))), some (.int (nI (ltS (SGs (ws.take (i + 1)))).length)), some (.int (nI (i + 1))), none, none, none, none] ⟨rfl, rfl, rfl, rfl, trivial⟩ hfin
    · rw [hS2]
      refine LpV.push q1 _ ?_ ?_ ?_ ?_ ?_ (fun c hc j hj => ?_)
      · simp [up2]
      · rw [t1, ← hS2]; simp [up2]
      · rw [t2]; simp [up2]
      · simp [up2]; decide
      · rw [t3]; simp [up2]
      · simp only [List.mem_cons, List.not_mem_nil, or_false] at hc
        rcases hc with rfl | rfl | rfl | rfl <;> simp [up2, hj]
theorem sp_layPlaces {σ : St2} (hok : WdOK ws) (hw : RwV σ ws) (k : ∀ σ', LpV σ' (SGs ws) → Fq [27, 28, 29, 30] [11] σ σ' → Q none σ') : Ev lc G mMd_layPlaces 0 [some (.ref 22), none, none, none, none, none, none, none] [] σ Q := by
  have hc := SGs_cnt (fun q hq => ⟨(hok.2 q hq).1, (hok.2 q hq).2.1⟩)
  have h80 := hok.1
  have hT : tot wl ws ≤ 8000 := by
    have key : ∀ l : List (List Nat × Nat), (∀ q ∈ l, q.1.length ≤ 100) → tot wl l ≤ 100 * l.length := by
      intro l
      induction l with
      | nil => intro _; simp [tot]
      | cons q l ih =>
        intro h
        have h1 := ih (fun z hz => h z (List.mem_cons_of_mem _ hz))
        have h2 : wl q ≤ 100 := h q List.mem_cons_self
        rw [tot, List.length_cons]
        omega
    have := key ws (fun q hq => (hok.2 q hq).2.1)
    omega
  refine ev_nop okMd_layPlaces rfl rfl ⟨vp_nI (by decide) (by decide), vp_nI (by decide) (by decide), vp_nI (by decide) (by decide), vp_nI (by decide) (by decide), trivial⟩ ?_
  have hfq : Fq [27, 28, 29, 30] [11] σ (up2 (up2 (up2 (up2 (up2 σ.1 22 11 (nI 0)) 27 (nI 0).toNatClampNeg (nI 0)) 28 (nI 0).toNatClampNeg (nI 0)) 30 (nI 0).toNatClampNeg (nI 0)) 29 (nI 0).toNatClampNeg (nI 0 &&& 1), σ.2) :=
    Fq.tr (Fq.tr (Fq.tr (Fq.tr (Fq.f1 (by decide)) (Fq.u1 (σ := (_, _)) (by decide) (by decide))) (Fq.u1 (σ := (_, _)) (by decide) (by decide))) (Fq.u1 (σ := (_, _)) (by decide) (by decide))) (Fq.u1 (σ := (_, _)) (by decide) (by decide))
  refine lp_places hok hT (by omega) ws.length 0 _ (by omega) (hw.fq hfq (by decide) (by decide) (by decide)) ?_ (fun σ' r1 r2 => k σ' r1 (hfq.tr r2))
  have z0 : (nI 0).toNatClampNeg = 0 := nI_cl (by decide)
  refine ⟨?_, ?_, ?_, ?_, ?_⟩
  · simp [up2, SGs]
  all_goals (
    intro j hj
    have e : j = 0 := by simpa [lbS, wbS, ipS, paS, SGs, psum] using hj
    subst e
    simp [up2, z0, lbS, wbS, ipS, paS])
  decide
end RL
