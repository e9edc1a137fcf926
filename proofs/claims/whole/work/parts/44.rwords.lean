/-! ===== the reference: words are read ===== -/
theorem RV.pg {S F : List Nat} {σ σ' : St2} {m : MS} {N : NN} {o : List Nat} (h : RV σ m) (hf : Fq S F σ σ') (hs : ∀ c ∈ [23, 25, 26, 34, 35, 36, 37, 38, 39], c ∉ S) (hF : ∀ f ∈ [1, 6, 15, 16, 41], f ∉ F) (hp : RgV σ' N (mH m) (mF m) o) : RV σ' (sP m (N, o)) := by
  obtain ⟨c1, c2, c3, ⟨cnt, c4⟩, c5, c6⟩ := h
  refine ⟨c1.fq hf (hF 1 (by decide)) (hs 23 (by decide)) (by decide), hp, c3.fq hf (hs 25 (by decide)) (hs 26 (by decide)) (hF 6 (by decide)), ⟨cnt, c4.fq hf (fun c hc => hs c ?_) (hF 16 (by decide))⟩, by rw [hf.g2 (hF 15 (by decide))]; exact c5, by rw [hf.g1 (hF 41 (by decide))]; exact c6⟩
  simp only [List.mem_cons, List.not_mem_nil, or_false] at hc ⊢
  omega
theorem RV.set {σ : St2} {m : MS} (h : RV σ m) (j : Nat) (hj : j < 13) (v : Int32) : RV (up2 σ.1 22 (fm j) v, σ.2) (sN m j v) := by
  have ho := fm_out hj
  have hf : Fq [] [fm j] σ (up2 σ.1 22 (fm j) v, σ.2) := Fq.f1 (by simp)
  refine h.pg hf (fun c _ => List.not_mem_nil) (fun f h1 h2 => ho ?_) (h.2.1.set j hj v)
  rw [← List.mem_singleton.mp h2]
  simp only [List.mem_cons, List.not_mem_nil, or_false] at h1 ⊢
  omega
theorem RV.sheet {σ σ' : St2} {m : MS} (h : RV σ m) (hf : Fq [24] [3] σ σ') : RV σ' m := h.pg hf (by decide) (by decide) (h.2.1.fqs hf (by decide) (by decide))
abbrev FS : List Nat := [24, 25, 26, 27, 28, 29, 30, 31, 32, 33, 34, 35, 36, 37, 38, 39, 40]
abbrev FF : List Nat := [3, 6, 11, 15, 16, 24, 29, 31, 32, 34, 35, 36, 42, 43]
def tk (x : List Nat) (i : Nat) : List Nat := (x.drop i).takeWhile (fun b => b != 32)
theorem tk_hit {x : List Nat} {i : Nat} (h : i < x.length) (hb : x.getD i 0 ≠ 32) : tk x i = x.getD i 0 :: tk x (i + 1) := by
  unfold tk
  rw [List.drop_eq_getElem_cons h, ← gD h, List.takeWhile_cons, if_pos (by simpa using hb)]
theorem tk_stop {x : List Nat} {i : Nat} (hb : x.length ≤ i ∨ x.getD i 0 = 32) : tk x i = [] := by
  unfold tk
  by_cases h : i < x.length
  · have hb : x.getD i 0 = 32 := hb.resolve_left (by omega)
    rw [List.drop_eq_getElem_cons h, ← gD h, List.takeWhile_cons, if_neg (by simp only [hb]; decide)]
  · rw [List.drop_eq_nil_of_le (by omega)]
    rfl
theorem tk_mem {x : List Nat} {i b : Nat} (h : b ∈ tk x i) : b ≠ 32 ∧ b ∈ x := by
  have h1 := mem_tw h
  exact ⟨by simpa using h1, List.mem_of_mem_drop (List.takeWhile_subset _ h)⟩
theorem tk_drop (x : List Nat) (i : Nat) : x.drop i = tk x i ++ x.drop (i + (tk x i).length) := by
  have h := List.takeWhile_append_dropWhile (p := fun b => b != 32) (l := x.drop i)
  have h2 : (x.drop i).drop (tk x i).length = (x.drop i).dropWhile (fun b => b != 32) := by
    conv => lhs; rw [← h]
    unfold tk
    rw [List.drop_left]
  rw [← List.drop_drop, h2]
  exact h.symm
theorem tk_end {x : List Nat} : ∀ (n i : Nat), x.length ≤ i + n → (x.length ≤ i + (tk x i).length ∨ x.getD (i + (tk x i).length) 0 = 32)
  | 0, i, h => by
    left; omega
  | n + 1, i, h => by
    by_cases hl : i < x.length
    · by_cases hb : x.getD i 0 = 32
      · right
        rw [tk_stop (Or.inr hb)]
        exact hb
      · rw [tk_hit hl hb, List.length_cons]
        have := tk_end (x := x) n (i + 1) (by omega)
        rw [show i + 1 + (tk x (i + 1)).length = i + ((tk x (i + 1)).length + 1) by omega] at this
        exact this
    · left; omega
theorem gW_tok (u : Nat) : ∀ (t cur r : List Nat) (m : MS), (∀ b ∈ t, b ≠ 32) → gW u cur (t ++ r) m = gW u (cur ++ t) r m
  | [], cur, r, m, _ => by rw [List.nil_append, List.append_nil]
  | b :: t, cur, r, m, h => by
    rw [List.cons_append, gW, if_neg (h b List.mem_cons_self), gW_tok u t (cur ++ [b]) r m (fun c hc => h c (List.mem_cons_of_mem _ hc)), List.append_assoc]
    rfl
theorem wd_nil (u : Nat) (m : MS) : wd [] u m = m := rfl
theorem gW_skip (u : Nat) (r : List Nat) (m : MS) : gW u [] (32 :: r) m = gW u [] r m := by
  rw [gW, if_pos rfl, wd_nil]
theorem gW_at (u : Nat) (x : List Nat) (i : Nat) (m : MS) : gW u [] (x.drop i) m = gW u [] (x.drop (i + (tk x i).length)) (wd (tk x i) u m) := by
  conv => lhs; rw [tk_drop x i]
  rw [gW_tok u _ _ _ _ (fun b hb => (tk_mem hb).1), List.nil_append]
  by_cases h : i + (tk x i).length < x.length
  · have hb : x.getD (i + (tk x i).length) 0 = 32 := (tk_end (x := x) x.length i (by omega)).resolve_left (by omega)
    rw [List.drop_eq_getElem_cons h, ← gD h, hb, gW, if_pos rfl, gW_skip]
  · rw [List.drop_eq_nil_of_le (by omega), gW, gW, wd_nil]
section RW
variable {lc : Launch} {G : GG} {Q : Option Value → St2 → Prop} {x : List Nat}
theorem lp_isBare {σ : St2} (hx : LineR σ x) (hb : ∀ b ∈ x, b < 128) : ∀ (n i : Nat) (f : Bool), x.length ≤ i + n → i ≤ 200 → Q (some (.int (b2 (f && !hlt (tk x i))))) σ → Ev lc G mMd_isBare 4 [some (.ref 22), none, some (.int (b2 f)), some (.int (nI i))] [] σ Q := by
  obtain ⟨x1, x2, x3⟩ := hx
  have z01 : ∀ f : Bool, b2 f = 0 ∨ b2 f = 1 := fun f => by cases f <;> decide
  intro n
  induction n with
  | zero =>
    intro i f hn hi k
    rw [tk_stop (Or.inl (by omega)), show hlt [] = false from rfl, Bool.not_false, Bool.and_true] at k
    exact ev_ic_ge okMd_isBare rfl rfl trivial (fun g => ev_rz okMd_isBare rfl rfl trivial rfl (z01 f) k) (fun g => absurd (by rw [x2]; exact nI_le (by omega) (by omega)) g)
  | succ n ih =>
    intro i f hn hi k
    by_cases hl : i < x.length
    · have hbb := getD_lt (j := i) hb (by decide)
      have hv : σ.1 23 (nI i).toNatClampNeg = nI (x.getD i 0) := by rw [nI_cl (by omega)]; exact x3 i hl
      have vi : vp_in (nI i) 100 := vp_nI (by omega) (by decide)
      refine ev_ic_ge okMd_isBare rfl rfl trivial (fun g => absurd g (by rw [x2]; exact nI_ge hl (by omega))) (fun g => ?_)
      refine ev_ic_eq okMd_isBare rfl rfl ⟨vi, trivial⟩ (fun g => ?_) (fun g => ?_)
      · rw [hv] at g
        have e : x.getD i 0 = 32 := (nI_eq (by omega) (by decide)).mp g
        rw [tk_stop (Or.inr e), show hlt [] = false from rfl, Bool.not_false, Bool.and_true] at k
        exact ev_rz okMd_isBare rfl rfl trivial rfl (z01 f) k
      · rw [hv] at g
        have e : ¬ x.getD i 0 = 32 := fun q => g (by rw [q])
        rw [tk_hit hl e, hlt_cons] at k
        have next : ∀ f' : Bool, (f' && !hlt (tk x (i + 1))) = (f && !((x.getD i 0 != 94) || hlt (tk x (i + 1)))) → Ev lc G mMd_isBare 43 [some (.ref 22), none, some (.int (b2 f)), some (.int (nI i))] [.int (b2 f')] σ Q := by
          intro f' h
          refine ev_goto okMd_isBare rfl rfl trivial ?_
          rw [nI_add]
          exact ih (i + 1) f' (by omega) (by omega) (by rw [h]; exact k)
        refine ev_if_eq okMd_isBare rfl rfl trivial (fun g2 => ?_) (fun g2 => ?_)
        · rw [b2_0] at g2
          subst g2
          exact ev_nop okMd_isBare rfl rfl trivial (next false (by simp))
        · rw [b2_0] at g2
          have g2 : f = true := by simpa using g2
          subst g2
          refine ev_ic_ne okMd_isBare rfl rfl ⟨vi, trivial⟩ (fun g3 => ?_) (fun g3 => ?_)
          · rw [hv] at g3
            have e2 : ¬ x.getD i 0 = 94 := fun q => g3 (by rw [q])
            exact ev_nop okMd_isBare rfl rfl trivial (next false (by rw [show (x.getD i 0 != 94) = true from bne_iff_ne.mpr e2]; simp))
          · have g3 : σ.1 23 (nI i).toNatClampNeg = nI 94 := by simpa using g3
            rw [hv] at g3
            have e2 : x.getD i 0 = 94 := (nI_eq (by omega) (by decide)).mp g3
            exact ev_goto okMd_isBare rfl rfl trivial (next true (by simp only [e2]; simp))
    · rw [tk_stop (Or.inl (by omega)), show hlt [] = false from rfl, Bool.not_false, Bool.and_true] at k
      exact ev_ic_ge okMd_isBare rfl rfl trivial (fun g => ev_rz okMd_isBare rfl rfl trivial rfl (z01 f) k) (fun g => absurd (by rw [x2]; exact nI_le (by omega) (by omega)) g)
theorem sp_isBare {σ : St2} (hx : LineR σ x) (hb : ∀ b ∈ x, b < 128) {i : Nat} (hi : i ≤ 100) (k : Q (some (.int (b2 (!hlt (tk x i))))) σ) : Ev lc G mMd_isBare 0 [some (.ref 22), some (.int (nI i)), none, none] [] σ Q :=
  ev_nop okMd_isBare rfl rfl trivial (ev_lv [some (.ref 22), none, some (.int (b2 true)), some (.int (nI i))] ⟨rfl, rfl, rfl, trivial⟩ (lp_isBare hx hb x.length i true (by omega) (by omega) (by rw [Bool.true_and]; exact k)))
theorem or256 {b u : Nat} (hb : b < 128) (hu : u < 2) : nI b ||| nI (256 * u) = nI (b + 256 * u) := by
  have key : ∀ b : Fin 128, ∀ u : Fin 2, nI b.val ||| nI (256 * u.val) = nI (b.val + 256 * u.val) := by decide +kernel
  exact key ⟨b, hb⟩ ⟨u, hu⟩
theorem weS_snoc (ws : List (List Nat × Nat)) (q : List Nat × Nat) : weS (ws ++ [q]) = weS ws ++ [tot wl ws + wl q] := by
  unfold weS
  rw [psum_app, Nat.zero_add]
  rfl
/-- what stands of a bare run is passed -/
theorem lp_bare {σ : St2} (hx : LineR σ x) (hb : ∀ b ∈ x, b < 128) {u0 : Nat} : ∀ (n i : Nat), x.length ≤ i + n → i ≤ x.length → Ev lc G mMd_readWords 2 [some (.ref 22), none, some (.int (nI u0)), some (.int (nI (i + (tk x i).length))), none] [] σ Q → Ev lc G mMd_readWords 35 [some (.ref 22), none, some (.int (nI u0)), some (.int (nI i)), none] [] σ Q := by
  obtain ⟨x1, x2, x3⟩ := hx
  intro n
  induction n with
  | zero =>
    intro i hn hi k
    rw [tk_stop (Or.inl (by omega))] at k
    exact ev_ic_ge okMd_readWords rfl rfl trivial (fun g => k) (fun g => absurd (by rw [x2]; exact nI_le (by omega) (by omega)) g)
  | succ n ih =>
    intro i hn hi k
    by_cases hl : i < x.length
    · have hbb := getD_lt (j := i) hb (by decide)
      have hv : σ.1 23 (nI i).toNatClampNeg = nI (x.getD i 0) := by rw [nI_cl (by omega)]; exact x3 i hl
      refine ev_ic_ge okMd_readWords rfl rfl trivial (fun g => absurd g (by rw [x2]; exact nI_ge hl (by omega))) (fun g => ?_)
      refine ev_ic_eq okMd_readWords rfl rfl ⟨vp_nI (by omega) (by decide), trivial⟩ (fun g => ?_) (fun g => ?_)
      · rw [hv] at g
        have e : x.getD i 0 = 32 := (nI_eq (by omega) (by decide)).mp g
        rw [tk_stop (Or.inr e)] at k
        exact k
      · rw [hv] at g
        have e : ¬ x.getD i 0 = 32 := fun q => g (by rw [q])
        refine ev_goto okMd_readWords rfl rfl trivial ?_
        rw [nI_add]
        refine ih (i + 1) (by omega) (by omega) ?_
        rw [tk_hit hl e, List.length_cons, show i + ((tk x (i + 1)).length + 1) = i + 1 + (tk x (i + 1)).length by omega] at k
        exact k
    · rw [tk_stop (Or.inl (by omega))] at k
      exact ev_ic_ge okMd_readWords rfl rfl trivial (fun g => k) (fun g => absurd (by rw [x2]; exact nI_le (by omega) (by omega)) g)
/-- the letters of a word are copied -/
theorem lp_letters (hb : ∀ b ∈ x, b < 128) {u : Nat} (hu : u < 2) : ∀ (n i : Nat) (σ : St2) (W : List Nat), x.length ≤ i + n → i ≤ x.length → LineR σ x → RowAt σ 25 W → W.length + (x.length - i) ≤ 8100 →
    (∀ σ', RowAt σ' 25 (W ++ (tk x i).map (fun b => b + 256 * u)) → Fq [25] [] σ σ' → Ev lc G mMd_readWords 140 [some (.ref 22), none, some (.int (nI (256 * u))), some (.int (nI (i + (tk x i).length))), some (.int (nI (W.length + (tk x i).length)))] [] σ' Q) →
    Ev lc G mMd_readWords 97 [some (.ref 22), none, some (.int (nI (256 * u))), some (.int (nI i)), some (.int (nI W.length))] [] σ Q := by
  intro n
  induction n with
  | zero =>
    intro i σ W hn hi hx hw hl k
    obtain ⟨x1, x2, x3⟩ := hx
    rw [tk_stop (Or.inl (by omega)), List.map_nil, List.append_nil] at k
    exact ev_ic_ge okMd_readWords rfl rfl trivial (fun g => k σ hw Fq.rf) (fun g => absurd (by rw [x2]; exact nI_le (by omega) (by omega)) g)
  | succ n ih =>
    intro i σ W hn hi hx hw hl k
    obtain ⟨x1, x2, x3⟩ := hx
    by_cases hlt : i < x.length
    · have hbb := getD_lt (j := i) hb (by decide)
      have hv : σ.1 23 (nI i).toNatClampNeg = nI (x.getD i 0) := by rw [nI_cl (by omega)]; exact x3 i hlt
      have vi : vp_in (nI i) 100 := vp_nI (by omega) (by decide)
      refine ev_ic_ge okMd_readWords rfl rfl trivial (fun g => absurd g (by rw [x2]; exact nI_ge hlt (by omega))) (fun g => ?_)
      refine ev_ic_eq okMd_readWords rfl rfl ⟨vi, trivial⟩ (fun g => ?_) (fun g => ?_)
      · rw [hv] at g
        have e : x.getD i 0 = 32 := (nI_eq (by omega) (by decide)).mp g
        rw [tk_stop (Or.inr e), List.map_nil, List.append_nil] at k
        exact k σ hw Fq.rf
      · rw [hv] at g
        have e : ¬ x.getD i 0 = 32 := fun q => g (by rw [q])
        rw [tk_hit hlt e, List.map_cons, List.length_cons] at k
        refine ev_goto okMd_readWords rfl rfl ⟨vi, vp_nI (by omega) (by decide), trivial⟩ ?_
        rw [hv, or256 hbb hu, nI_add, nI_add, nI_cl (by omega)]
        have f1 : Fq [25] [] σ (up2 σ.1 25 W.length (nI (x.getD i 0 + 256 * u)), σ.2) := Fq.u1 (by decide) (by decide)
        have hW : (W ++ [x.getD i 0 + 256 * u]).length = W.length + 1 := by simp
        have := ih (i + 1) (up2 σ.1 25 W.length (nI (x.getD i 0 + 256 * u)), σ.2) (W ++ [x.getD i 0 + 256 * u]) (by omega) (by omega) (LstR.fq ⟨x1, x2, x3⟩ f1 (by decide) (by decide) (by decide)) (RowAt.push hw (up2_same σ.1 25 W.length _) (fun j hj => up2_col σ.1 25 _ (by omega))) (by rw [hW]; omega) (fun σ' r1 r2 => ?_)
        · rw [hW] at this
          exact this
        · rw [hW]
          have k2 := k σ' (by rw [List.append_assoc] at r1; exact r1) (f1.tr r2)
          rw [show i + 1 + (tk x (i + 1)).length = i + ((tk x (i + 1)).length + 1) by omega, show W.length + 1 + (tk x (i + 1)).length = W.length + ((tk x (i + 1)).length + 1) by omega]
          exact k2
    · rw [tk_stop (Or.inl (by omega)), List.map_nil, List.append_nil] at k
      exact ev_ic_ge okMd_readWords rfl rfl trivial (fun g => k σ hw Fq.rf) (fun g => absurd (by rw [x2]; exact nI_le (by omega) (by omega)) g)
end RW
