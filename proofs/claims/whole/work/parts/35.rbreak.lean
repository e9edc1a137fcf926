/-! ===== the reference: a BREAK ===== -/
section CAP
variable {ws : List (List Nat × Nat)}
theorem wrt_len (hok : WdOK ws) {a b sl : Nat} (hb : b ≤ (SGs ws).length) (hab : a < b) : ∀ (m p k : Nat), p + m = b → a ≤ p → tot ef ((SGs ws).take a) + k = (if a < p ∧ hyp (wbS (SGs ws)) p = false then tot ef ((SGs ws).take p) - 1 else tot ef ((SGs ws).take p)) →
    (wrt (pcR (SGs ws)) (wbS (SGs ws)) a (bln (wbS (SGs ws)) a b) sl m p k).length + tot nl ((SGs ws).take p) + k + sl * k / bln (wbS (SGs ws)) a b ≤ tot nl ((SGs ws).take b) + bln (wbS (SGs ws)) a b + sl * bln (wbS (SGs ws)) a b / bln (wbS (SGs ws)) a b := by
  have hg : bln (wbS (SGs ws)) a b = tot ef ((SGs ws).take (b - 1)) - tot ef ((SGs ws).take a) := by
    unfold bln
    rw [wb_at (by omega), wb_at (by omega)]
  have hgm := tot_take_le ef (SGs ws) (show a ≤ b - 1 by omega)
  have hstep : ∀ p, 0 < p → p ≤ (SGs ws).length → tot ef ((SGs ws).take p) = tot ef ((SGs ws).take (p - 1)) + (if hyp (wbS (SGs ws)) p = false then 1 else 0) := by
    intro p h0 hp
    obtain ⟨q, rfl⟩ : ∃ q, p = q + 1 := ⟨p - 1, by omega⟩
    rw [hyp_seg (SGs ws) (by omega), Nat.add_sub_cancel, tot_take_succ ef (SGs ws) (by omega)]
    cases h : (SGs ws)[q].2.2 <;> simp [ef, h]
  intro m
  induction m with
  | zero =>
    intro p k hm hap hw
    have e : p = b := by omega
    subst e
    have h1 := hstep p (by omega) hb
    have hk : k = bln (wbS (SGs ws)) a p := by
      rw [hg]
      by_cases hh : hyp (wbS (SGs ws)) p = false
      · rw [if_pos hh] at h1
        rw [if_pos ⟨hab, hh⟩] at hw
        omega
      · rw [if_neg hh] at h1
        rw [if_neg (fun z => hh z.2)] at hw
        omega
    rw [wrt, ← hk]
    simp
  | succ m ih =>
    intro p k hm hap hw
    have hpl : p < (SGs ws).length := by omega
    have h1 := hstep (p + 1) (by omega) (by omega)
    rw [Nat.add_sub_cancel] at h1
    have hpc : (pcR (SGs ws) p).length + tot nl ((SGs ws).take p) = tot nl ((SGs ws).take (p + 1)) := by
      rw [pcR_at hpl, List.length_map, tot_take_succ nl _ hpl, Nat.add_comm]
      rfl
    have hap2 := tot_take_le ef (SGs ws) hap
    have hpb := tot_take_le ef (SGs ws) (show p ≤ b - 1 by omega)
    have hnext : tot ef ((SGs ws).take p) = (if a < p + 1 ∧ hyp (wbS (SGs ws)) (p + 1) = false then tot ef ((SGs ws).take (p + 1)) - 1 else tot ef ((SGs ws).take (p + 1))) := by
      by_cases hh : hyp (wbS (SGs ws)) (p + 1) = false
      · rw [if_pos hh] at h1
        rw [if_pos ⟨by omega, hh⟩]
        omega
      · rw [if_neg hh] at h1
        rw [if_neg (fun z => hh z.2)]
        omega
    rw [wrt]
    by_cases hc : a < p ∧ hyp (wbS (SGs ws)) p = false
    · rw [if_pos hc] at hw
      have h2 := hstep p (by omega) (by omega)
      rw [if_pos hc.2] at h2
      have h3 := tot_take_le ef (SGs ws) (show a ≤ p - 1 by omega)
      rw [if_pos ⟨hc.1, by omega, hc.2⟩]
      have := ih (p + 1) (k + 1) (by omega) (by omega) (by rw [← hnext]; omega)
      simp only [List.length_append, List.length_replicate, gap]
      have m0 : sl * k ≤ sl * (k + 1) := Nat.mul_le_mul_left _ (by omega)
      have m2 : sl * k / bln (wbS (SGs ws)) a b ≤ sl * (k + 1) / bln (wbS (SGs ws)) a b := Nat.div_le_div_right m0
      omega
    · rw [if_neg hc] at hw
      rw [if_neg (fun z => hc ⟨z.1, z.2.2⟩)]
      have := ih (p + 1) k (by omega) (by omega) (by rw [← hnext]; omega)
      simp only [List.length_append]
      omega
theorem shC_len (hok : WdOK ws) {r1 r2 a b : Nat} {jf : Bool} (hr1 : r1 ≤ 80) (hr2 : r2 ≤ 80) (hab : a < b) (hb : b ≤ (SGs ws).length) (hleg : legO (lbS (SGs ws)) (wbS (SGs ws)) r1 r2 a b = true) : (shC ws r1 r2 jf a b).length ≤ 298 := by
  have hrm := rmO_le (a := a) hr1 hr2
  unfold shC
  generalize hsl : (if jf = true ∧ b < (SGs ws).length then rmO r1 r2 a - lnO (lbS (SGs ws)) (wbS (SGs ws)) a b else 0) = sl
  have hsl2 : sl ≤ 80 := by rw [← hsl]; split <;> omega
  have h1 := wrt_len hok (sl := sl) hb hab (b - a) a 0 (by omega) (Nat.le_refl _) (by rw [if_neg (fun z => absurd z.1 (Nat.lt_irrefl _)), Nat.add_zero])
  have h2 : sl * bln (wbS (SGs ws)) a b / bln (wbS (SGs ws)) a b ≤ sl := by
    by_cases q : 0 < bln (wbS (SGs ws)) a b
    · rw [Nat.mul_div_cancel _ q]; exact Nat.le_refl _
    · rw [show bln (wbS (SGs ws)) a b = 0 by omega]; simp
  have h3 : (if hyp (wbS (SGs ws)) b then [45] else []).length ≤ 1 := by split <;> simp
  have h4 : tot nl ((SGs ws).take b) - tot nl ((SGs ws).take a) + bln (wbS (SGs ws)) a b ≤ 101 := by
    rcases of_decide_eq_true hleg with q | q
    · subst q
      have hp : a < (SGs ws).length := by omega
      obtain ⟨-, -, m3, -⟩ := seg_mem hok hp
      have := tot_take_succ nl (SGs ws) hp
      have h5 : nl (SGs ws)[a] ≤ 100 := Nat.le_trans (List.length_filter_le _ _) m3
      have h6 : bln (wbS (SGs ws)) a (a + 1) = 0 := by unfold bln; rw [Nat.add_sub_cancel, Nat.sub_self]
      omega
    · have h5 : ltr (lbS (SGs ws)) a b = tot nl ((SGs ws).take b) - tot nl ((SGs ws).take a) := by
        unfold ltr lbS
        rw [psL_at nl _ hb, psL_at nl _ (by omega)]
      unfold lnO at q
      omega
  have h5 := tot_take_le nl (SGs ws) (show a ≤ b by omega)
  rw [Nat.mul_zero, Nat.zero_div] at h1
  rw [List.length_append]
  omega
end CAP
section RB
variable {lc : Launch} {G : GG} {σ : St2} {Q : Option Value → St2 → Prop} {ws : List (List Nat × Nat)} {R hh ii : Nat} {B : Nat → Nat → TE} {hd ft : List Nat}
/-- the ends that the way asks for -/
def NxV (σ : St2) (n : Nat) (B : Nat → Nat → TE) : Prop := ∀ a kd, (a = 0 ∧ kd = 3 ∨ 1 ≤ a ∧ kd < 3) → a < n → σ.1 33 (4 * a + kd) = nI (B a kd).2.2
theorem NxV.fq {S F : List Nat} {σ σ' : St2} {n : Nat} (h : NxV σ n B) (hf : Fq S F σ σ') (hs : 33 ∉ S) : NxV σ' n B := fun a kd h1 h2 => by rw [hf.a1 hs (by decide)]; exact h a kd h1 h2
theorem DP_leg {lb wb : List Nat} {r1 r2 n : Nat} (h : DP lb wb r1 r2 n B) {a k : Nat} (ha : a < n) : legO lb wb r1 r2 a (B a k).2.2 = true := by
  obtain ⟨b, h1, h2, h3, h4⟩ := DP_at h (k := k) ha
  rw [h4]
  exact h3
abbrev nS (ws : List (List Nat × Nat)) : Nat := (SGs ws).length
abbrev lS (ws : List (List Nat × Nat)) : List Nat := lbS (SGs ws)
abbrev wS (ws : List (List Nat × Nat)) : List Nat := wbS (SGs ws)
theorem lp_notes (hok : WdOK ws) (hR : R ≤ 80) (h1 : hh ≤ R) (h2 : ii ≤ R) (hdp : DP (lS ws) (wS ws) (R - hh) (R - ii) (nS ws) B) : ∀ (m a kd : Nat) (σ : St2) (cnt : Nat) (F : List Nat), nS ws ≤ a + m → a ≤ nS ws → (a = 0 ∧ kd = 3 ∨ 1 ≤ a ∧ kd < 3) → cnt ≤ a → RsV σ (nS ws) (lS ws) (wS ws) R hh ii → NxV σ (nS ws) B → NtV σ cnt F →
    (∀ σ', NtV σ' (cnt + (wy (lS ws) (wS ws) (R - hh) (R - ii) (nS ws) B m a kd).length) (F ++ (wy (lS ws) (wS ws) (R - hh) (R - ii) (nS ws) B m a kd).flatMap (fun q => fct (lS ws) (wS ws) (R - hh) (R - ii) (nS ws) q.1 q.2)) → Fq [34, 35, 36, 37, 38, 39] [16] σ σ' → Ev lc G mMd_breakNow 119 [some (.ref 22), none, none, none] [] σ' Q) →
    Ev lc G mMd_breakNow 79 [some (.ref 22), some (.int (nI a)), some (.int (nI kd)), none] [] σ Q := by
  have hpl : PlB (lS ws) (wS ws) := cls_PlB hok
  intro m
  induction m with
  | zero =>
    intro a kd σ cnt F hm ha hk hc hs hx hn k
    have h4 := hs.1.2.2.2
    simp only [wy, List.length_nil, Nat.add_zero, List.flatMap_nil, List.append_nil] at k
    refine ev_ic_ge okMd_breakNow rfl rfl trivial (fun g => ev_lv [some (.ref 22), none, none, none] ⟨rfl, trivial⟩ (k σ hn Fq.rf)) (fun g => absurd (by rw [hs.1.1]; exact nI_le (by omega) (by omega)) g)
  | succ m ih =>
    intro a kd σ cnt F hm ha hk hc hs hx hn k
    have h4 := hs.1.2.2.2
    rw [wy] at k
    by_cases hlt : a < nS ws
    · simp only [if_pos hlt] at k
      obtain ⟨d1, d2⟩ := DP_end hdp (k := kd) hlt
      have tc := hx a kd hk hlt
      have hkd : kd < 4 := by omega
      generalize hbb : (B a kd).2.2 = b at *
      refine ev_ic_ge okMd_breakNow rfl rfl trivial (fun g => absurd g (by rw [hs.1.1]; exact nI_ge hlt (by omega))) (fun g => ?_)
      have eidx : nI 4 * nI a + nI kd = nI (4 * a + kd) := by rw [pk_mul, nI_add]
      have ev : σ.1 33 (nI 4 * nI a + nI kd).toNatClampNeg = nI b := by rw [eidx, nI_cl (by omega)]; exact tc
      refine ev_cv okMd_breakNow okMd_note rfl rfl ⟨by rw [eidx]; exact vp_nI (by omega) (by decide), trivial⟩ rfl (by decide +kernel) rfl rfl ?_
      rw [ev]
      refine sp_note hpl hR h1 h2 hs hn (by omega) d1 d2 fun σ1 q1 q2 => ?_
      have s1 := hs.fq q2 (by decide) (by decide)
      refine ev_cv okMd_breakNow okMd_badnessOf rfl rfl trivial rfl (by decide +kernel) rfl rfl (sp_badnessOfR s1 hpl hR h1 h2 d1 d2 ?_)
      have hbd : bdO (lS ws) (wS ws) (R - hh) (R - ii) (nS ws) a b ≤ 10000 := bdO_le a b
      refine ev_cs okMd_breakNow okMd_kindOf rfl rfl trivial rfl (by decide +kernel) rfl rfl (sp_kindOfR (by omega) ?_)
      refine ev_goto okMd_breakNow rfl rfl trivial ?_
      refine ev_lv [some (.ref 22), some (.int (nI b)), some (.int (nI (kO (lS ws) (wS ws) (R - hh) (R - ii) (nS ws) a b))), none] ⟨rfl, rfl, rfl, trivial⟩ (ih b (kO (lS ws) (wS ws) (R - hh) (R - ii) (nS ws) a b) σ1 (cnt + 1) _ (by omega) d2 (Or.inr ⟨by omega, kO_lt a b⟩) (by omega) s1 (hx.fq q2 (by decide)) q1 (fun σ' r1 r2 => k σ' ?_ (q2.tr r2)))
      simp only [List.length_cons, List.flatMap_cons]
      rw [List.append_assoc, show cnt + 1 + (wy (lS ws) (wS ws) (R - hh) (R - ii) (nS ws) B m b (kO (lS ws) (wS ws) (R - hh) (R - ii) (nS ws) a b)).length = cnt + ((wy (lS ws) (wS ws) (R - hh) (R - ii) (nS ws) B m b (kO (lS ws) (wS ws) (R - hh) (R - ii) (nS ws) a b)).length + 1) by omega] at r1
      exact r1
    · simp only [if_neg hlt, List.length_nil, Nat.add_zero, List.flatMap_nil, List.append_nil] at k
      exact ev_ic_ge okMd_breakNow rfl rfl trivial (fun g => ev_lv [some (.ref 22), none, none, none] ⟨rfl, trivial⟩ (k σ hn Fq.rf)) (fun g => absurd (by rw [hs.1.1]; exact nI_le (by omega) (by omega)) g)
theorem pPut_step {hd ft : List Nat} (hok : WdOK ws) {r1 r2 a b : Nat} {jf : Bool} (hab : a < b) (hb : b ≤ nS ws) (s : PS) : pPut hd ft (shC ws r1 r2 jf a b) s = pClose ft ((pOpen hd false s).1, emit (pOpen hd false s).2 (lnE (clsP ws).1 (clsP ws).2.1 (clsP ws).2.2.1 (clsP ws).2.2.2 r1 r2 (nS ws) jf a b)) := by
  unfold pPut
  rw [shC_ne hok hab hb, ux_shC hok hab hb]
end RB
