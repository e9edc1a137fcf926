/-! ===== the reference: a line is laid ===== -/
theorem RsV_of {σ : St2} {ws : List (List Nat × Nat)} {R hh ii : Nat} (hp : LpV σ (SGs ws)) (hN : (SGs ws).length ≤ 4000) (h1 : σ.1 22 30 = nI R) (h2 : σ.1 22 43 = nI hh) (h3 : σ.1 22 28 = nI ii) : RsV σ (SGs ws).length (clsP ws).2.1 (clsP ws).2.2.1 R hh ii := by
  obtain ⟨a0, a1, a2, a3, a4⟩ := hp
  refine ⟨⟨a0, psL_len nl _, psL_len ef _, hN⟩, a1, a2, fun p hp => ?_, h1, h2, h3⟩
  have hl : (ipS (SGs ws)).length = (SGs ws).length + 1 := by simp [ipS]
  rw [a3 p (by omega)]
  cases p with
  | zero =>
    have : hyp (clsP ws).2.2.1 0 = false := decide_eq_false (fun z => by omega)
    rw [this]
    rfl
  | succ p =>
    have hp' : p < (SGs ws).length := by omega
    have e : hyp (clsP ws).2.2.1 (p + 1) = !((SGs ws)[p].2.2) := hyp_seg (SGs ws) hp'
    rw [e]
    have : (ipS (SGs ws)).getD (p + 1) 0 = if (SGs ws)[p].2.2 then 0 else 1 := by simp [ipS, hp']
    rw [this]
    cases (SGs ws)[p].2.2 <;> rfl
section RA
variable {lc : Launch} {G : GG} {σ : St2} {Q : Option Value → St2 → Prop}
theorem lp_addBlanks {N : Nat} : ∀ (m i : Nat) (σ : St2) (sh : List Nat), i + m = N → N < 1000 → sh.length + m ≤ 300 → LstR σ 3 24 300 sh → (∀ σ', LstR σ' 3 24 300 (sh ++ List.replicate m 32) → Fq [24] [3] σ σ' → Q none σ') → Ev lc G mMd_addBlanks 2 [some (.ref 22), some (.int (nI N)), some (.int (nI i))] [] σ Q := by
  intro m
  induction m with
  | zero =>
    intro i σ sh hi hN hc hs k
    rw [List.replicate_zero, List.append_nil] at k
    exact ev_ic_ge okMd_addBlanks rfl rfl trivial (fun g => ev_rv okMd_addBlanks rfl rfl trivial rfl (k σ hs Fq.rf)) (fun g => absurd (nI_le (by omega) (by omega)) g)
  | succ m ih =>
    intro i σ sh hi hN hc hs k
    obtain ⟨s1, s2, s3⟩ := hs
    refine ev_ic_ge okMd_addBlanks rfl rfl trivial (fun g => absurd g (nI_ge (by omega) (by omega))) (fun g => ?_)
    refine ev_goto okMd_addBlanks rfl rfl ⟨by rw [s2]; exact vp_nI (by omega) (by decide), trivial⟩ ?_
    rw [nI_add]
    refine ih (i + 1) _ (sh ++ [32]) (by omega) hN (by simp; omega) ⟨by simp; omega, ?_, RowAt.push s3 ?_ (fun j hj => ?_)⟩ (fun σ' q1 q2 => k σ' ?_ (Fq.tr (Fq.tr (Fq.u1 (by decide) (by decide)) (Fq.f1 (σ := (_, _)) (by decide))) q2))
    · simp [up2, s2, nI_add]
    · simp [up2, s2, nI_cl (show sh.length < 2 ^ 31 by omega)]
    · simp [up2, s2, nI_cl (show sh.length < 2 ^ 31 by omega), Nat.ne_of_lt hj]
    · rw [List.append_assoc] at q1
      exact q1
theorem sp_addBlanks {N : Nat} (hN : N < 1000) {sh : List Nat} (hc : sh.length + N ≤ 300) (hs : LstR σ 3 24 300 sh) (k : ∀ σ', LstR σ' 3 24 300 (sh ++ List.replicate N 32) → Fq [24] [3] σ σ' → Q none σ') : Ev lc G mMd_addBlanks 0 [some (.ref 22), some (.int (nI N)), none] [] σ Q :=
  ev_nop okMd_addBlanks rfl rfl trivial (lp_addBlanks N 0 σ sh (by omega) hN hc hs k)
end RA
/-- the codes of the piece behind place p -/
def pcR (S : List Seg) (p : Nat) : List Nat := match S[p]? with
  | some x => (noC x.1).map (fun b => b + 256 * x.2.1)
  | none => []
theorem seg_raw {ws : List (List Nat × Nat)} {p j : Nat} (hp : p < (SGs ws).length) (hj : j < (SGs ws)[p].1.length) : tot rl ((SGs ws).take p) + j < (rawW ws).length ∧ (rawW ws).getD (tot rl ((SGs ws).take p) + j) 0 = (SGs ws)[p].1.getD j 0 + 256 * (SGs ws)[p].2.1 := by
  have key : ∀ S : List Seg, ∀ (p j : Nat) (hp : p < S.length), j < S[p].1.length → tot rl (S.take p) + j < (S.flatMap (fun x => x.1.map (fun b => b + 256 * x.2.1))).length ∧ (S.flatMap (fun x => x.1.map (fun b => b + 256 * x.2.1))).getD (tot rl (S.take p) + j) 0 = S[p].1.getD j 0 + 256 * S[p].2.1 := by
    intro S
    induction S with
    | nil => intro p j hp; simp at hp
    | cons x S ih =>
      intro p j hp hj
      rw [List.flatMap_cons]
      cases p with
      | zero =>
        simp only [List.getElem_cons_zero] at hj
        refine ⟨by simp [tot]; omega, ?_⟩
        simp only [List.take_zero, tot, Nat.zero_add, List.getElem_cons_zero]
        rw [List.getD_eq_getElem?_getD, List.getElem?_append_left (by simpa using hj)]
        simp [hj]
      | succ p =>
        simp only [List.getElem_cons_succ] at hj
        obtain ⟨i1, i2⟩ := ih p j (by simpa using hp) hj
        simp only [List.take_succ_cons, tot, List.getElem_cons_succ]
        have hl : (x.1.map (fun b => b + 256 * x.2.1)).length = rl x := by simp [rl]
        refine ⟨by rw [List.length_append, hl]; omega, ?_⟩
        rw [List.getD_eq_getElem?_getD, List.getElem?_append_right (by omega), hl, show rl x + tot rl (S.take p) + j - rl x = tot rl (S.take p) + j by omega, ← List.getD_eq_getElem?_getD]
        exact i2
  have hraw : (SGs ws).flatMap (fun x => x.1.map (fun b => b + 256 * x.2.1)) = rawW ws := by
    have one : ∀ (w : List Nat) (u : Nat), (wsg w u).flatMap (fun x => x.1.map (fun b => b + 256 * x.2.1)) = w.map (fun b => b + 256 * u) := by
      intro w u
      have hm : ∀ l : List (List Nat), (mrk u l).flatMap (fun x => x.1.map (fun b => b + 256 * x.2.1)) = l.flatten.map (fun b => b + 256 * u) := by
        intro l
        induction l with
        | nil => rfl
        | cons s l ih =>
          cases l with
          | nil => simp [mrk]
          | cons t r =>
            rw [mrk, List.flatMap_cons, ih]
            simp
      unfold wsg
      rw [hm, sgs_flat]
      rfl
    induction ws with
    | nil => rfl
    | cons q ws ih =>
      rw [SGs_cons, List.flatMap_append, one, rawW_cons]
      congr 1
      have : ∀ ws : List (List Nat × Nat), (SGs ws).flatMap (fun x => x.1.map (fun b => b + 256 * x.2.1)) = rawW ws := by
        intro ws
        induction ws with
        | nil => rfl
        | cons q ws ih2 => rw [SGs_cons, List.flatMap_append, one, rawW_cons, ih2]
      exact this ws
  rw [← hraw]
  exact key (SGs ws) p j hp hj
section RY
variable {lc : Launch} {G : GG} {Q : Option Value → St2 → Prop} {ws : List (List Nat × Nat)} {a b sl : Nat}
/-- what the laying of a line reads: words and places -/
def LyV (σ : St2) (ws : List (List Nat × Nat)) : Prop := (True ∧ RowAt σ 26 (weS ws) ∧ RowAt σ 25 (rawW ws)) ∧ LpV σ (SGs ws)
theorem LyV.fq {σ σ' : St2} (h : LyV σ ws) (hf : Fq [24] [3] σ σ') : LyV σ' ws := ⟨⟨trivial, h.1.2.1.fq hf (by decide) (by decide), h.1.2.2.fq hf (by decide) (by decide)⟩, by rw [hf.g1 (by decide)]; exact h.2.1, h.2.2.1.fq hf (by decide) (by decide), h.2.2.2.1.fq hf (by decide) (by decide), h.2.2.2.2.1.fq hf (by decide) (by decide), h.2.2.2.2.2.fq hf (by decide) (by decide)⟩
abbrev laL (a b sl g kb w k : Nat) : LV := [some (.ref 22), some (.int (nI a)), some (.int (nI b)), some (.int (nI sl)), some (.int (nI g)), some (.int (nI kb)), some (.int (nI w)), some (.int (nI k))]
theorem pa_at {S : List Seg} {p : Nat} (h : p ≤ S.length) : (paS S).getD p 0 = tot rl (S.take p) := psL_at rl S h
theorem wb_at {S : List Seg} {p : Nat} (h : p ≤ S.length) : (wbS S).getD p 0 = tot ef (S.take p) := psL_at ef S h
/-- the bytes of a segment -/
theorem lp_seg (hok : WdOK ws) (hN : (SGs ws).length ≤ 4000) (hT : tot rl (SGs ws) ≤ 8000) (hb : b ≤ (SGs ws).length) {p : Nat} (hp : p < b) {g kb w : Nat} (hw : w ≤ 80) (hwp : w = tot ef ((SGs ws).take p)) : ∀ (m j : Nat) (σ : St2) (sh : List Nat), j + m = ((SGs ws)[p]'(by omega)).1.length → 0 < m → LyV σ ws → LstR σ 3 24 300 sh → sh.length + (noC (((SGs ws)[p]'(by omega)).1.drop j)).length ≤ 300 →
    (∀ σ', LstR σ' 3 24 300 (sh ++ (noC (((SGs ws)[p]'(by omega)).1.drop j)).map (fun c => c + 256 * ((SGs ws)[p]'(by omega)).2.1)) → Fq [24] [3] σ σ' → Ev lc G mMd_layLine 58 (laL a b sl g kb w (tot rl ((SGs ws).take (p + 1)))) [] σ' Q) →
    Ev lc G mMd_layLine 142 (laL a b sl g kb w (tot rl ((SGs ws).take p) + j)) [] σ Q := by
  have hpl : p < (SGs ws).length := by omega
  have hpa : ∀ σ : St2, LyV σ ws → σ.1 30 (nI b).toNatClampNeg = nI (tot rl ((SGs ws).take b)) := by
    intro σ h
    rw [nI_cl (by omega), h.2.2.2.2.2 b (by rw [show (paS (SGs ws)).length = (SGs ws).length + 1 from psL_len rl _]; omega), pa_at hb]
  have hpw : ∀ σ : St2, LyV σ ws → σ.1 28 (nI b).toNatClampNeg = nI (tot ef ((SGs ws).take b)) := by
    intro σ h
    rw [nI_cl (by omega), h.2.2.2.1 b (by rw [show (wbS (SGs ws)).length = (SGs ws).length + 1 from psL_len ef _]; omega), wb_at hb]
  have vb : vp_in (nI b) 8101 := vp_nI (by omega) (by decide)
  have h1 := tot_take_succ rl (SGs ws) hpl
  have h2 := tot_take_le rl (SGs ws) (show p + 1 ≤ b by omega)
  have h3 := tot_take_all rl (SGs ws) b
  have hwl : w < ws.length := by rw [hwp]; exact SGs_end hpl
  have hwe : ∀ σ : St2, LyV σ ws → σ.1 26 (nI w).toNatClampNeg = nI (tot wl (ws.take (w + 1))) := by
    intro σ h
    rw [nI_cl (by omega), h.1.2.1 w (by unfold weS; rw [psum_len]; exact hwl), we_at ws hwl]
  have hF4 : tot rl ((SGs ws).take (p + 1)) ≤ tot wl (ws.take (w + 1)) := by rw [hwp]; exact ((we_place ws p).1 hpl).2
  have hwt := tot_take_all wl ws (w + 1)
  have htw : tot wl ws = tot rl (SGs ws) := by
    have key : ∀ l : List (List Nat × Nat), tot rl (SGs l) = tot wl l := by
      intro l
      induction l with
      | nil => rfl
      | cons q l ih => rw [SGs_cons, tot_app, tot_rl_wsg, ih]; rfl
    exact (key ws).symm
  have h80 := hok.1
  have hefb : tot ef ((SGs ws).take b) ≤ 80 := by
    have h5 := tot_take_all ef (SGs ws) b
    rw [tot_ef] at h5
    omega
  generalize hx : (SGs ws)[p]'hpl = x at *
  intro m
  induction m with
  | zero => intro j σ sh _ h0; omega
  | succ m ih =>
    intro j σ sh hj _ hly hs hcap k
    have hjl : j < x.1.length := by omega
    have hrl : rl x = x.1.length := rfl
    obtain ⟨r1, r2⟩ := seg_raw (ws := ws) (p := p) (j := j) hpl (by rw [hx]; exact hjl)
    rw [hx] at r2
    have hmem : ∀ c ∈ x.1, 33 ≤ c ∧ c < 128 := by
      intro c hc
      have : x ∈ SGs ws := by rw [← hx]; exact List.getElem_mem hpl
      obtain ⟨q, q1, q2⟩ := List.mem_flatMap.mp this
      have hraw := wsg_raw q.1 q.2
      refine (hok.2 q q1).2.2.2 c ?_
      rw [← hraw]
      exact List.mem_flatten.mpr ⟨x.1, List.mem_map.mpr ⟨x, q2, rfl⟩, hc⟩
    have hu : x.2.1 < 2 := by
      have : x ∈ SGs ws := by rw [← hx]; exact List.getElem_mem hpl
      obtain ⟨q, q1, q2⟩ := List.mem_flatMap.mp this
      have hm : ∀ (u : Nat) (l : List (List Nat)) (z : Seg), z ∈ mrk u l → z.2.1 = u := by
        intro u l
        induction l with
        | nil => intro z hz; simp [mrk] at hz
        | cons s l ih =>
          intro z hz
          cases l with
          | nil =>
            have : z = (s, u, true) := by simpa [mrk] using hz
            rw [this]
          | cons t r =>
            rw [mrk] at hz
            rcases List.mem_cons.mp hz with rfl | hz
            · rfl
            · exact ih z hz
      rw [hm q.2 _ x q2]
      exact (hok.2 q q1).2.2.1
    have hb1 : x.1.getD j 0 < 128 := getD_lt (fun c hc => (hmem c hc).2) (by decide)
    have hv : σ.1 25 (nI (tot rl ((SGs ws).take p) + j)).toNatClampNeg = nI (x.1.getD j 0 + 256 * x.2.1) := by
      rw [nI_cl (by omega), hly.1.2.2 _ r1, r2]
    have hm : nI (x.1.getD j 0 + 256 * x.2.1) &&& nI 255 = nI (x.1.getD j 0) := by
      rw [and255 (by omega)]
      congr 1
      omega
    have hdrop : x.1.drop j = x.1.getD j 0 :: x.1.drop (j + 1) := by rw [List.drop_eq_getElem_cons hjl, gD hjl]
    -- behind the byte
    have next : ∀ (σ1 : St2) (sh1 : List Nat), LyV σ1 ws → LstR σ1 3 24 300 sh1 → Fq [24] [3] σ σ1 → sh1.length + (noC (x.1.drop (j + 1))).length ≤ 300 → sh1 ++ (noC (x.1.drop (j + 1))).map (fun c => c + 256 * x.2.1) = sh ++ (noC (x.1.drop j)).map (fun c => c + 256 * x.2.1) → Ev lc G mMd_layLine 195 (laL a b sl g kb w (tot rl ((SGs ws).take p) + j)) [] σ1 Q := by
      intro σ1 sh1 q1 q2 q3 q4 q5
      refine ev_goto okMd_layLine rfl rfl trivial ?_
      rw [nI_add]
      by_cases hlast : j + 1 = x.1.length
      · have e1 : noC (x.1.drop (j + 1)) = [] := by rw [List.drop_eq_nil_of_le (by omega)]; rfl
        rw [e1, List.map_nil, List.append_nil] at q5
        have := k σ1 (by rw [← q5]; exact q2) q3
        rw [h1, hrl, ← hlast, ← Nat.add_assoc] at this
        exact this
      · have go := ih (j + 1) σ1 sh1 (by omega) (by omega) q1 q2 q4 (fun σ' r1 r2 => k σ' (by rw [q5] at r1; exact r1) (q3.tr r2))
        refine ev_ic_lt okMd_layLine rfl rfl ⟨vb, trivial⟩ (fun g => ?_) (fun g => absurd (by rw [hpa σ1 q1]; exact nI_lt (by omega) (by omega)) g)
        refine ev_ic_ge okMd_layLine rfl rfl ⟨vb, trivial⟩ (fun g2 => go) (fun g2 => ?_)
        refine ev_ic_ne okMd_layLine rfl rfl ⟨vp_nI (by omega) (by decide), trivial⟩ (fun g3 => go) (fun g3 => ?_)
        have g3 : nI (tot rl ((SGs ws).take p) + j + 1) = σ1.1 26 (nI w).toNatClampNeg := by simpa using g3
        rw [hwe σ1 q1] at g3
        have := (nI_eq (by omega) (by omega)).mp g3
        omega
    refine ev_ic_ge okMd_layLine rfl rfl ⟨vb, trivial⟩ (fun g => absurd g (by rw [hpa σ hly]; exact nI_ge (by omega) (by omega))) (fun g => ?_)
    refine ev_ic_eq okMd_layLine rfl rfl ⟨vp_nI (by omega) (by decide), trivial⟩ (fun g => ?_) (fun g => ?_)
    · rw [hv, hm] at g
      have e : x.1.getD j 0 = 94 := (nI_eq (by omega) (by decide)).mp g
      have e2 : noC (x.1.drop j) = noC (x.1.drop (j + 1)) := by rw [hdrop, e]; simp [noC]
      exact next σ sh hly hs Fq.rf (by rw [← e2]; exact hcap) (by rw [e2])
    · rw [hv, hm] at g
      have e : ¬ x.1.getD j 0 = 94 := fun q => g (by rw [q])
      have e2 : noC (x.1.drop j) = x.1.getD j 0 :: noC (x.1.drop (j + 1)) := by rw [hdrop]; simp only [noC]; rw [List.filter_cons_of_pos (by simpa using e)]
      rw [e2, List.length_cons] at hcap
      obtain ⟨s1, s2, s3⟩ := hs
      refine ev_nop okMd_layLine rfl rfl ⟨vp_nI (by omega) (by decide), by rw [s2]; exact vp_nI (by omega) (by decide), trivial⟩ ?_
      rw [hv]
      have f1 : Fq [24] [3] σ (up2 (up2 σ.1 24 (σ.1 22 3).toNatClampNeg (nI (x.1.getD j 0 + 256 * x.2.1)), σ.2).1 22 3 ((up2 σ.1 24 (σ.1 22 3).toNatClampNeg (nI (x.1.getD j 0 + 256 * x.2.1)), σ.2).1 22 3 + nI 1), (up2 σ.1 24 (σ.1 22 3).toNatClampNeg (nI (x.1.getD j 0 + 256 * x.2.1)), σ.2).2) := Fq.tr (Fq.u1 (by decide) (by decide)) (Fq.f1 (σ := (_, _)) (by decide))
      refine next _ (sh ++ [x.1.getD j 0 + 256 * x.2.1]) (hly.fq f1) ⟨by simp; omega, ?_, RowAt.push s3 ?_ (fun q hq => ?_)⟩ f1 (by simp; omega) (by rw [e2]; simp)
      · simp [up2, s2, nI_add]
      · simp [up2, s2, nI_cl (show sh.length < 2 ^ 31 by omega)]
      · simp [up2, s2, nI_cl (show sh.length < 2 ^ 31 by omega), Nat.ne_of_lt hq]
end RY
