/-! ===== the reference: commands' numbers ===== -/
def rsg (x : List Nat) : Int32 := if sgn x = 43 then nI 1 else if sgn x = 45 then mI 0 else nI 0
def RCmd (σ : St2) (x : List Nat) : Prop := σ.1 22 44 = nI (rs x) ∧ σ.1 22 45 = b2 (num x) ∧ σ.1 22 46 = rsg x ∧ σ.1 22 47 = nI (am x)
theorem RCmd.fq {S F : List Nat} {σ σ' : St2} {x : List Nat} (h : RCmd σ x) (hf : Fq S F σ σ') (h4 : ∀ f ∈ [44, 45, 46, 47], f ∉ F) : RCmd σ' x :=
  ⟨by rw [hf.g1 (h4 44 (by decide))]; exact h.1, by rw [hf.g1 (h4 45 (by decide))]; exact h.2.1, by rw [hf.g1 (h4 46 (by decide))]; exact h.2.2.1, by rw [hf.g1 (h4 47 (by decide))]; exact h.2.2.2⟩
abbrev LineR (σ : St2) (x : List Nat) : Prop := LstR σ 1 23 100 x
section RC
variable {lc : Launch} {G : GG} {σ : St2} {Q : Option Value → St2 → Prop} {x : List Nat}
theorem lp_readNumberR (hb : ∀ b ∈ x, b < 128) : ∀ (m d : Nat) (σ : St2), d + m = (dgs x).length → LineR σ x → σ.1 22 44 = nI (rs x) → σ.1 22 45 = b2 (decide (0 < d)) → σ.1 22 46 = rsg x → σ.1 22 47 = nI (amt ((dgs x).take d)) → (∀ σ', RCmd σ' x → Fq [] [45, 46, 47] σ σ' → Q none σ') → Ev lc G mMd_readNumber 75 [some (.ref 22), some (.int (nI (stt x + d))), some (.int (nI d))] [] σ Q := by
  intro m
  induction m with
  | zero =>
    intro d σ hm hx h4 h5 h6 h7 k
    have h100 := hx.1
    have hst := stt_le h100
    have e : d = (dgs x).length := by omega
    have done : RCmd σ x := by
      refine ⟨h4, ?_, h6, ?_⟩
      · rw [h5, e]
        unfold num
        cases dgs x <;> rfl
      · rw [h7, e, List.take_length]
        rfl
    have hdl : d ≤ 100 := by
      have : (dgs x).length ≤ (x.drop (stt x)).length := (List.takeWhile_prefix (l := x.drop (stt x)) isD).length_le
      rw [List.length_drop] at this
      omega
    refine ev_ic_ge okMd_readNumber rfl rfl trivial (fun h => ev_rv okMd_readNumber rfl rfl trivial rfl (k σ done Fq.rf)) (fun h => ?_)
    rw [hx.2.1] at h
    have hlt : stt x + d < x.length := (Nat.lt_or_ge (stt x + d) x.length).resolve_right (fun q => h (nI_le q (by omega)))
    have hbb := getD_lt (j := stt x + d) hb (by decide)
    refine ev_cs okMd_readNumber okMd_in rfl rfl ⟨vp_nI (by omega) (by decide), trivial⟩ rfl (by decide +kernel) rfl rfl ?_
    rw [nI_cl (by omega), hx.2.2 _ hlt]
    refine sp_in ?_
    have : (decide (nI 48 ≤ nI (x.getD (stt x + d) 0) ∧ nI (x.getD (stt x + d) 0) ≤ nI 57)) = false := decide_eq_false fun q => by
      rw [e] at hlt q hbb
      exact dgs_end hlt ⟨(nI_leI (by decide) (by omega)).mp q.1, (nI_leI (by omega) (by decide)).mp q.2⟩
    rw [this]
    exact ev_if_eq okMd_readNumber rfl rfl trivial (fun _ => ev_rv okMd_readNumber rfl rfl trivial rfl (k σ done Fq.rf)) (fun g => absurd rfl g)
  | succ m ih =>
    intro d σ hm hx h4 h5 h6 h7 k
    have h100 := hx.1
    have hst := stt_le h100
    have hd : d < (dgs x).length := by omega
    obtain ⟨a1, a2, a3, a4⟩ := dgs_at hd
    refine ev_ic_ge okMd_readNumber rfl rfl trivial (fun h => ?_) (fun h => ?_)
    · rw [hx.2.1] at h
      exact absurd h (nI_ge a1 (by omega))
    · have hv : σ.1 23 (nI (stt x + d)).toNatClampNeg = nI (x.getD (stt x + d) 0) := by rw [nI_cl (by omega)]; exact hx.2.2 _ a1
      refine ev_cs okMd_readNumber okMd_in rfl rfl ⟨vp_nI (by omega) (by decide), trivial⟩ rfl (by decide +kernel) rfl rfl ?_
      rw [hv]
      refine sp_in ?_
      rw [decide_eq_true ⟨nI_le a3 (by omega), nI_le a4 (by decide)⟩]
      refine ev_if_eq okMd_readNumber rfl rfl trivial (fun g => absurd g (by decide)) (fun _ => ?_)
      have hlt := amd_lt x d
      have hd100 : d < 100 := by omega
      have es : amt ((dgs x).take (d + 1)) = if d < 4 then 10 * amt ((dgs x).take d) + x.getD (stt x + d) 0 - 48 else amt ((dgs x).take d) := by
        rw [take_snoc hd, amt_snoc, List.length_take, ← a2, Nat.min_eq_left (by omega)]
        by_cases q : d < 4
        · rw [if_pos q, if_pos q]; omega
        · rw [if_neg q, if_neg q]
      have fin : Ev lc G mMd_readNumber 129 [some (.ref 22), some (.int (nI (stt x + d))), some (.int (nI d))] [.int (nI (amt ((dgs x).take (d + 1)))), .ref 22] σ Q := by
        refine ev_goto okMd_readNumber rfl rfl ⟨Or.inr rfl, trivial⟩ ?_
        rw [nI_add, nI_add]
        refine ih (d + 1) _ (by omega) ?_ ?_ ?_ ?_ ?_ (fun σ' q1 q2 => k σ' q1 (Fq.tr (Fq.tr (Fq.f1 (by decide)) (Fq.f1 (σ := (_, _)) (by decide))) q2))
        · exact (hx.fq (S := []) (F := [45, 46, 47]) (Fq.tr (Fq.f1 (by decide)) (Fq.f1 (σ := (_, _)) (by decide))) (by decide) (by decide) (by decide))
        · simp [up2, h4]
        · simp [up2]; rfl
        · simp [up2, h6]
        · simp [up2]
      refine ev_ic_ge okMd_readNumber rfl rfl trivial (fun g => ?_) (fun g => ?_)
      · have g : ¬ d < 4 := fun q => absurd g (nI_ge q (by decide))
        refine ev_nop okMd_readNumber rfl rfl trivial ?_
        rw [h7]
        rw [es, if_neg g] at fin
        exact fin
      · have g : d < 4 := (Nat.lt_or_ge d 4).resolve_right (fun q => g (nI_le q (by omega)))
        refine ev_goto okMd_readNumber rfl rfl ⟨vp_nI (by omega) (by decide), trivial⟩ ?_
        rw [hv, h7, pk_mul, nI_add, pk_sub (by omega)]
        rw [es, if_pos g] at fin
        exact fin
theorem sp_readNumberR (hb : ∀ b ∈ x, b < 128) (hx : LineR σ x) (h4 : σ.1 22 44 = nI (rs x)) (k : ∀ σ', RCmd σ' x → Fq [] [45, 46, 47] σ σ' → Q none σ') : Ev lc G mMd_readNumber 0 [some (.ref 22), none, none] [] σ Q := by
  have h100 := hx.1
  have hrs := rs_le h100
  have start : ∀ (σ1 : St2) , Fq [] [45, 46, 47] σ σ1 → σ1.1 22 46 = rsg x → Ev lc G mMd_readNumber 63 [some (.ref 22), some (.int (nI (stt x))), none] [] σ1 Q := by
    intro σ1 hf h6
    refine ev_nop okMd_readNumber rfl rfl ⟨Or.inl rfl, trivial⟩ (lp_readNumberR hb (dgs x).length 0 _ (by omega) ?_ ?_ ?_ ?_ ?_ (fun σ' q1 q2 => k σ' q1 ((hf.tr (Fq.tr (Fq.f1 (by decide)) (Fq.f1 (σ := (_, _)) (by decide)))).tr q2)))
    · exact (hx.fq (S := []) (F := [45, 46, 47]) (hf.tr (Fq.tr (Fq.f1 (by decide)) (Fq.f1 (σ := (_, _)) (by decide)))) (by decide) (by decide) (by decide))
    · simp [up2, hf.g1 (show 44 ∉ [45, 46, 47] by decide), h4]
    · simp [up2]; rfl
    · simp [up2, h6]
    · simp [up2, amt]
  have hsb : sgn x < 128 := getD_lt hb (by decide)
  have f1 : Fq [] [45, 46, 47] σ (up2 σ.1 22 46 (nI 0), σ.2) := Fq.f1 (by decide)
  have hx1 := hx.fq f1 (by decide) (by decide) (by decide)
  refine ev_ic_ge okMd_readNumber rfl rfl trivial (fun h => ?_) (fun h => ?_)
  · rw [h4, hx1.2.1] at h
    have hl : x.length ≤ rs x := (nI_leI (by omega) (by omega)).mp h
    have hs0 : sgn x = 0 := gD0 hl
    have es : stt x = rs x := by unfold stt; rw [if_neg (by rw [hs0]; decide)]
    rw [h4]
    have := start _ f1 (by simp [up2, rsg, hs0])
    rw [es] at this
    exact this
  · rw [h4, hx1.2.1] at h
    have hl : rs x < x.length := (Nat.lt_or_ge (rs x) x.length).resolve_right (fun q => h (nI_le q (by omega)))
    rw [h4]
    have hv : (up2 σ.1 22 46 (nI 0), σ.2).1 23 (nI (rs x)).toNatClampNeg = nI (sgn x) := by rw [nI_cl (by omega)]; exact hx1.2.2 _ hl
    have vp : vp_in (nI (rs x)) 100 := vp_nI (by omega) (by decide)
    have sg : ∀ v : Int32, v = rsg x → (sgn x = 43 ∨ sgn x = 45) → Ev lc G mMd_readNumber 57 [some (.ref 22), some (.int (nI (rs x))), none] [.int v, .ref 22] (up2 σ.1 22 46 (nI 0), σ.2) Q := by
      intro v hv hs
      refine ev_nop okMd_readNumber rfl rfl trivial ?_
      rw [nI_add]
      have := start _ (f1.tr (Fq.f1 (x := v) (k := 46) (σ := (_, _)) (by decide))) (by simp [up2, hv])
      unfold stt at this
      rw [if_pos hs] at this
      exact this
    have pm : (sgn x = 43 ∨ sgn x = 45) → Ev lc G mMd_readNumber 40 [some (.ref 22), some (.int (nI (rs x))), none] [] (up2 σ.1 22 46 (nI 0), σ.2) Q := by
      intro hs
      refine ev_ic_ne okMd_readNumber rfl rfl ⟨vp, trivial⟩ (fun g => ?_) (fun g => ?_)
      · rw [hv] at g
        have g : ¬ sgn x = 43 := fun q => g (by rw [q])
        refine ev_nop okMd_readNumber rfl rfl trivial (sg _ ?_ hs)
        unfold rsg
        rw [if_neg g, if_pos (hs.resolve_left g)]
      · rw [hv] at g
        have g : sgn x = 43 := (nI_eq (by omega) (by decide)).mp g
        refine ev_goto okMd_readNumber rfl rfl trivial (sg _ ?_ hs)
        unfold rsg
        rw [if_pos g]
    refine ev_ic_eq okMd_readNumber rfl rfl ⟨vp, trivial⟩ (fun g => ?_) (fun g => ?_)
    · rw [hv] at g
      exact pm (Or.inl ((nI_eq (by omega) (by decide)).mp g))
    · rw [hv] at g
      have g : ¬ sgn x = 43 := fun q => g (by rw [q])
      refine ev_ic_ne okMd_readNumber rfl rfl ⟨vp, trivial⟩ (fun g2 => ?_) (fun g2 => ?_)
      · rw [hv] at g2
        have g2 : ¬ sgn x = 45 := fun q => g2 (by rw [q])
        have := start _ f1 (by simp [up2, rsg, g, g2])
        unfold stt at this
        rw [if_neg (by rintro (q | q); exact g q; exact g2 q)] at this
        exact this
      · rw [hv] at g2
        exact pm (Or.inr ((nI_eq (by omega) (by decide)).mp g2))
theorem sub_m1 (v a : Int32) : v + mI 0 * a = v - a := by
  rw [show mI 0 = -1 from rfl, Int32.neg_mul, Int32.one_mul, Int32.sub_eq_add_neg]
theorem sp_setR (hc : RCmd σ x) {v d lo hi : Int32} (k : Q (some (.int (clp lo hi (wv x v d)))) σ) : Ev lc G mMd_set 0 [some (.ref 22), some (.int v), some (.int d), some (.int lo), some (.int hi), none] [] σ Q := by
  obtain ⟨c4, c5, c6, c7⟩ := hc
  have fin : ∀ w : Int32, w = wv x v d → Ev lc G mMd_set 36 [some (.ref 22), some (.int v), some (.int d), some (.int lo), some (.int hi), none] [.int w] σ Q := by
    intro w hw
    subst hw
    refine ev_ic_ge okMd_set rfl rfl trivial (fun g => ?_) (fun g => ?_)
    · refine ev_ic_le okMd_set rfl rfl trivial (fun g2 => ?_) (fun g2 => ?_)
      · refine ev_nop okMd_set rfl rfl trivial (ev_ri okMd_set rfl rfl trivial rfl ?_)
        unfold clp at k
        rw [if_neg (Int32.not_lt.mpr g), if_neg (Int32.not_lt.mpr g2)] at k
        exact k
      · refine ev_goto okMd_set rfl rfl trivial (ev_ri okMd_set rfl rfl trivial rfl ?_)
        unfold clp at k
        rw [if_neg (Int32.not_lt.mpr g), if_pos (Int32.not_le.mp g2)] at k
        exact k
    · refine ev_goto okMd_set rfl rfl trivial (ev_ri okMd_set rfl rfl trivial rfl ?_)
      unfold clp at k
      rw [if_pos (Int32.not_le.mp g)] at k
      exact k
  refine ev_if_ne okMd_set rfl rfl trivial (fun h => ?_) (fun h => ?_)
  · rw [c5] at h
    have hn : num x = true := by
      cases q : num x with
      | true => rfl
      | false => rw [q] at h; exact absurd rfl h
    refine ev_if_ne okMd_set rfl rfl trivial (fun g => ?_) (fun g => ?_)
    · rw [c6] at g
      refine ev_nop okMd_set rfl rfl trivial (fin _ ?_)
      rw [c6, c7]
      unfold wv
      rw [if_pos hn]
      unfold rsg at g ⊢
      by_cases h1 : sgn x = 43
      · rw [if_pos h1, if_pos h1, show nI 1 = 1 from rfl, Int32.one_mul]
      · rw [if_neg h1] at g ⊢
        by_cases h2 : sgn x = 45
        · rw [if_pos h2, if_neg h1, if_pos h2, sub_m1]
        · rw [if_neg h2] at g
          exact absurd rfl g
    · rw [c6] at g
      refine ev_goto okMd_set rfl rfl trivial (fin _ ?_)
      rw [c7]
      unfold wv
      rw [if_pos hn]
      unfold rsg at g
      by_cases h1 : sgn x = 43
      · rw [if_pos h1] at g; exact absurd g (by decide)
      · rw [if_neg h1] at g ⊢
        by_cases h2 : sgn x = 45
        · rw [if_pos h2] at g; exact absurd g (by decide)
        · rw [if_neg h2]
  · rw [c5] at h
    have hn : ¬ num x = true := by
      intro q
      rw [q] at h
      exact absurd h (by decide)
    refine ev_goto okMd_set rfl rfl trivial (fin _ ?_)
    unfold wv; rw [if_neg hn]
theorem lp_copyRest {c : Nat} (hc : c = 41 ∨ c = 42) {j : Nat} : ∀ (m i : Nat) (σ : St2), j ≤ i → i ≤ 200 → x.length ≤ i + m → LineR σ x → RowAt σ c ((x.take i).drop j) → (∀ σ', RowAt σ' c (x.drop j) → Fq [c] [] σ σ' → Q (some (.int (nI (x.drop j).length))) σ') → Ev lc G mMd_copyRest 7 [some (.ref 22), some (.ref c), some (.int (nI ((x.take i).drop j).length)), some (.int (nI i))] [] σ Q := by
  intro m
  induction m with
  | zero =>
    intro i σ hj hi hm hx hy k
    have e : (x.take i).drop j = x.drop j := by rw [List.take_of_length_le (by omega)]
    rw [e] at hy ⊢
    have h100 := hx.1
    rcases hc with rfl | rfl <;> (
      refine ev_ic_ge okMd_copyRest rfl rfl trivial (fun h => ev_ri okMd_copyRest rfl rfl trivial rfl (k σ hy Fq.rf)) (fun h => absurd ?_ h)
      rw [hx.2.1]
      exact nI_le (by omega) (by omega))
  | succ m ih =>
    intro i σ hj hi hm hx hy k
    have h100 := hx.1
    by_cases hlt : i < x.length
    · have hl : ((x.take i).drop j).length = i - j := by rw [List.length_drop, List.length_take]; omega
      have hv : σ.1 23 (nI i).toNatClampNeg = nI (x.getD i 0) := by rw [nI_cl (by omega)]; exact hx.2.2 _ hlt
      rcases hc with rfl | rfl <;> (
        refine ev_ic_ge okMd_copyRest rfl rfl trivial (fun h => ?_) (fun h => ?_)
        · rw [hx.2.1] at h
          exact absurd h (nI_ge hlt (by omega))
        · refine ev_goto okMd_copyRest rfl rfl ⟨vp_nI (by omega) (by decide), vp_nI (by omega) (by decide), trivial⟩ ?_
          rw [hv, nI_add, nI_add]
          have hl2 : ((x.take i).drop j).length + 1 = ((x.take (i + 1)).drop j).length := by rw [td_snoc hj hlt]; simp
          rw [hl2]
          refine ih (i + 1) _ (by omega) (by omega) (by omega) (hx.fq (S := [_]) (F := []) (Fq.u1 List.mem_cons_self (by decide)) (by decide) (by decide) (by decide)) ?_ (fun σ' q1 q2 => k σ' q1 (Fq.tr (Fq.u1 List.mem_cons_self (by decide)) q2))
          rw [td_snoc hj hlt]
          refine RowAt.push hy ?_ (fun q hq => ?_)
          · have e9 : (nI ((x.take i).drop j).length).toNatClampNeg = ((x.take i).drop j).length := nI_cl (by omega)
            rw [e9]
            dsimp only
            rw [up2_same]
          · have e9 : (nI ((x.take i).drop j).length).toNatClampNeg = ((x.take i).drop j).length := nI_cl (by omega)
            rw [e9]
            dsimp only
            rw [up2_col _ _ _ (Nat.ne_of_lt hq)])
    · have e : (x.take i).drop j = x.drop j := by rw [List.take_of_length_le (by omega)]
      rw [e] at hy ⊢
      rcases hc with rfl | rfl <;> (
        refine ev_ic_ge okMd_copyRest rfl rfl trivial (fun h => ev_ri okMd_copyRest rfl rfl trivial rfl (k σ hy Fq.rf)) (fun h => absurd ?_ h)
        rw [hx.2.1]
        exact nI_le (by omega) (by omega))
theorem sp_copyRest {c : Nat} (hc : c = 41 ∨ c = 42) (hx : LineR σ x) (h4 : σ.1 22 44 = nI (rs x)) (k : ∀ σ', RowAt σ' c (x.drop (rs x)) → Fq [c] [] σ σ' → Q (some (.int (nI (x.drop (rs x)).length))) σ') : Ev lc G mMd_copyRest 0 [some (.ref 22), some (.ref c), none, none] [] σ Q := by
  have hrs := rs_le hx.1
  have key := lp_copyRest (lc := lc) (G := G) (Q := Q) hc (j := rs x) x.length (rs x) σ (Nat.le_refl _) (by omega) (by omega) hx (by rw [td_nil (Nat.le_refl _)]; exact RowAt.nil) k
  rw [td_nil (Nat.le_refl _)] at key
  rcases hc with rfl | rfl <;> (
    refine ev_nop okMd_copyRest rfl rfl trivial ?_
    rw [h4]
    exact key)
end RC
