/-! ===== the reference: centre, text ===== -/
theorem noE_shW {u : Nat} (hu : u < 2) (z : List Nat) : noE (shW u z) = shW u (noE z) := by
  have key : ∀ l : List Nat, (l.map (fun b => if b = 32 then 32 else b + 256 * u)).dropWhile (fun b => b == 32) = (l.dropWhile (fun b => b == 32)).map (fun b => if b = 32 then 32 else b + 256 * u) := by
    intro l
    induction l with
    | nil => rfl
    | cons b l ih =>
      rw [List.map_cons, List.dropWhile_cons, List.dropWhile_cons]
      by_cases e : b = 32
      · subst e
        exact ih
      · have e1 : (b == 32) = false := beq_eq_false_iff_ne.mpr e
        have e2 : ((if b = 32 then 32 else b + 256 * u) == 32) = false := beq_eq_false_iff_ne.mpr (by rw [if_neg e]; omega)
        rw [e1, e2]
        rfl
  unfold noE shW
  rw [← List.map_reverse, key, List.map_reverse]
theorem shW_len (u : Nat) (z : List Nat) : (shW u z).length = z.length := List.length_map ..
theorem shW_lt {u : Nat} (hu : u < 2) {z : List Nat} (hz : ∀ b ∈ z, b < 128) : ∀ v ∈ shW u z, v < 512 := by
  intro v hv
  obtain ⟨b, hb, rfl⟩ := List.mem_map.mp hv
  have := hz b hb
  split <;> omega
section RE
variable {lc : Launch} {G : GG} {Q : Option Value → St2 → Prop}
theorem lp_trim : ∀ (n : Nat) (y : List Nat) (σ : St2), y.length ≤ n → LstR σ 3 24 300 y → (∀ b ∈ y, b < 512) → (∀ σ', LstR σ' 3 24 300 (noE y) → Fq [] [3] σ σ' → Ev lc G mMd_centre 46 [some (.ref 22), none] [] σ' Q) → Ev lc G mMd_centre 10 [some (.ref 22), none] [] σ Q := by
  intro n
  induction n with
  | zero =>
    intro y σ hn hs hb k
    have e : y = [] := List.length_eq_zero_iff.mp (by omega)
    subst e
    exact ev_if_le okMd_centre rfl rfl trivial (fun g => k σ hs Fq.rf) (fun g => absurd (by rw [hs.2.1]; decide) g)
  | succ n ih =>
    intro y σ hn hs hb k
    obtain ⟨s1, s2, s3⟩ := hs
    rcases List.eq_nil_or_concat y with e | ⟨z, b, e⟩
    · subst e
      exact ev_if_le okMd_centre rfl rfl trivial (fun g => k σ ⟨s1, s2, s3⟩ Fq.rf) (fun g => absurd (by rw [s2]; decide) g)
    · rw [List.concat_eq_append] at e
      subst e
      have hl : (z ++ [b]).length = z.length + 1 := by simp
      rw [hl] at s1 s2 hn
      have hbb := hb b (by simp)
      have hv : σ.1 24 z.length = nI b := by
        rw [s3 z.length (by rw [hl]; omega)]
        simp
      refine ev_if_le okMd_centre rfl rfl trivial (fun g => absurd g (by rw [s2]; exact nI_nle (by omega) (by omega))) (fun g => ?_)
      have ei : σ.1 22 3 - nI 1 = nI z.length := by rw [s2, pk_sub (by omega), Nat.add_sub_cancel]
      refine ev_ic_ne okMd_centre rfl rfl ⟨by rw [ei]; exact vp_nI (by omega) (by decide), trivial⟩ (fun g => ?_) (fun g => ?_)
      · rw [ei, nI_cl (by omega), hv] at g
        have e : ¬ b = 32 := fun q => g (by rw [q])
        rw [noE_snoc, if_neg e] at k
        exact k σ ⟨by rw [hl]; exact s1, by rw [hl]; exact s2, s3⟩ Fq.rf
      · have g : σ.1 24 (σ.1 22 3 - nI 1).toNatClampNeg = nI 32 := by simpa using g
        rw [ei, nI_cl (by omega), hv] at g
        have e : b = 32 := (nI_eq (by omega) (by decide)).mp g
        rw [noE_snoc, if_pos e] at k
        refine ev_goto okMd_centre rfl rfl trivial ?_
        rw [ei]
        have f1 : Fq [] [3] σ (up2 σ.1 22 3 (nI z.length), σ.2) := Fq.f1 (by decide)
        refine ih z _ (by omega) ⟨by omega, up2_same σ.1 22 3 _, fun j hj => ?_⟩ (fun c hc => hb c (List.mem_append_left _ hc)) (fun σ' q1 q2 => k σ' q1 (f1.tr q2))
        rw [f1.a1 (by decide) (by decide), s3 j (by rw [hl]; omega)]
        simp [List.getElem?_append_left hj]
theorem sp_centre {σ : St2} {m : MS} {y : List Nat} (hc : RV σ m) (hs : LstR σ 3 24 300 y) (hb : ∀ b ∈ y, b < 512) (h3 : R3 (mP m).1) (h4 : Rg ((mP m).1 4) 0 99) (h4' : 0 < cl (mP m).1 4) (k : ∀ σ', RV σ' (sP m (cN (noE y).length (mP m).1, (mP m).2)) → LstR σ' 3 24 300 (noE y) → Fq [] [3, 29, 31] σ σ' → Q none σ') : Ev lc G mMd_centre 0 [some (.ref 22), none] [] σ Q := by
  obtain ⟨h0, h1, h2, b0, b1, b2⟩ := R3_cl h3
  obtain ⟨e4, -, f4⟩ := Rg_cl h4 (by decide)
  have l4 : σ.1 22 31 = nI (cl (mP m).1 4) := (hc.2.1.1 4 (by decide)).trans e4
  refine ev_nop okMd_centre rfl rfl trivial ?_
  rw [l4, pk_sub (by omega)]
  have d1 := hc.set 4 (by decide) (nI (cl (mP m).1 4 - 1))
  have f1 : Fq [] [3, 29, 31] σ (up2 σ.1 22 31 (nI (cl (mP m).1 4 - 1)), σ.2) := Fq.f1 (by decide)
  have d1 : RV (up2 σ.1 22 31 (nI (cl (mP m).1 4 - 1)), σ.2) (sN m 4 (nI (cl (mP m).1 4 - 1))) := d1
  have s1 := hs.fq (S := []) (F := [31]) (σ' := (up2 σ.1 22 31 (nI (cl (mP m).1 4 - 1)), σ.2)) (Fq.f1 (by decide)) (by decide) (by decide) (by decide)
  generalize (up2 σ.1 22 31 (nI (cl (mP m).1 4 - 1)), σ.2) = σ1 at d1 f1 s1 ⊢
  refine lp_trim y.length y σ1 (Nat.le_refl _) s1 hb fun σ2 q1 q2 => ?_
  have d2 : RV σ2 (sN m 4 (nI (cl (mP m).1 4 - 1))) := d1.sheet (q2.wk (by decide) (by decide))
  have hl := q1.1
  have g0 : σ2.1 22 30 = nI (cl (mP m).1 0) := (d2.2.1.1 0 (by decide)).trans h0
  have g2 : σ2.1 22 29 = nI (cl (mP m).1 2) := (d2.2.1.1 2 (by decide)).trans h2
  have fin : ∀ (v : Nat) (l1 : Option Value), v = (cl (mP m).1 0 + cl (mP m).1 2 + 1 - (noE y).length) / 2 → Ev lc G mMd_centre 75 [some (.ref 22), none] [.int (nI v), .ref 22] σ2 Q := by
    intro v l1 hv
    subst hv
    refine ev_rv okMd_centre rfl rfl trivial rfl (k _ (d2.set 2 (by decide) _) (q1.fq (S := []) (F := [29]) (Fq.f1 (by decide)) (by decide) (by decide) (by decide)) ((f1.tr (q2.wk (by decide) (by decide))).tr (Fq.f1 (by decide))))
  refine ev_if_ge okMd_centre rfl rfl trivial (fun g => ?_) (fun g => ?_)
  · rw [g0, g2, q1.2.1, nI_add, nI_add] at g
    have hle : (noE y).length ≤ cl (mP m).1 0 + cl (mP m).1 2 + 1 := by
      rcases Nat.lt_or_ge (cl (mP m).1 0 + cl (mP m).1 2 + 1) (noE y).length with q | q
      · exact absurd (pk_sneg (by omega) q) (Int32.not_lt.mpr g)
      · exact q
    refine ev_nop okMd_centre rfl rfl ⟨by decide, trivial⟩ ?_
    rw [g0, g2, q1.2.1, nI_add, nI_add, pk_sub hle, pk_div (by omega) (by decide) (by decide)]
    exact ev_lv [some (.ref 22), none] ⟨rfl, trivial⟩ (fin _ none rfl)
  · rw [g0, g2, q1.2.1, nI_add, nI_add] at g
    have hlt : cl (mP m).1 0 + cl (mP m).1 2 + 1 < (noE y).length := by
      rcases Nat.lt_or_ge (cl (mP m).1 0 + cl (mP m).1 2 + 1) (noE y).length with q | q
      · exact q
      · exact absurd (by rw [pk_sub q]; exact Int32.not_lt.mp (nI_neg (by omega))) g
    refine ev_goto okMd_centre rfl rfl trivial ?_
    exact ev_lv [some (.ref 22), none] ⟨rfl, trivial⟩ (fin 0 none (by rw [Nat.sub_eq_zero_of_le (by omega)]))
theorem lp_blanks {σ : St2} {x : List Nat} (hx : LineR σ x) (hb : ∀ b ∈ x, b < 128) : ∀ (n i : Nat), x.length ≤ i + n → i ≤ x.length → Ev lc G mMd_text 27 [some (.ref 22), some (.int (nI (pbl x i))), none, none, none] [] σ Q → Ev lc G mMd_text 2 [some (.ref 22), some (.int (nI i)), none, none, none] [] σ Q := by
  obtain ⟨x1, x2, x3⟩ := hx
  intro n
  induction n with
  | zero =>
    intro i hn hi k
    rw [pbl_end (by omega)] at k
    exact ev_ic_ge okMd_text rfl rfl trivial (fun g => k) (fun g => absurd (by rw [x2]; exact nI_le (by omega) (by omega)) g)
  | succ n ih =>
    intro i hn hi k
    by_cases hl : i < x.length
    · have hbb := getD_lt (j := i) hb (by decide)
      have hv : σ.1 23 (nI i).toNatClampNeg = nI (x.getD i 0) := by rw [nI_cl (by omega)]; exact x3 i hl
      refine ev_ic_ge okMd_text rfl rfl trivial (fun g => absurd g (by rw [x2]; exact nI_ge hl (by omega))) (fun g => ?_)
      refine ev_ic_ne okMd_text rfl rfl ⟨vp_nI (by omega) (by decide), trivial⟩ (fun g => ?_) (fun g => ?_)
      · rw [hv] at g
        have e : x.getD i 0 ≠ 32 := fun q => g (by rw [q])
        rw [pbl_stop hl e] at k
        exact k
      · have g : σ.1 23 (nI i).toNatClampNeg = nI 32 := by simpa using g
        rw [hv] at g
        have e : x.getD i 0 = 32 := (nI_eq (by omega) (by decide)).mp g
        rw [pbl_hit hl e] at k
        refine ev_goto okMd_text rfl rfl trivial ?_
        rw [nI_add]
        exact ih (i + 1) (by omega) (by omega) k
    · rw [pbl_end (by omega)] at k
      exact ev_ic_ge okMd_text rfl rfl trivial (fun g => k) (fun g => absurd (by rw [x2]; exact nI_le (by omega) (by omega)) g)
theorem lp_sheet {x : List Nat} (hb : ∀ b ∈ x, b < 128) {u : Nat} (hu : u < 2) {bl : Nat} : ∀ (n i : Nat) (σ : St2), x.length = i + n → bl ≤ i → LineR σ x → LstR σ 3 24 300 (shW u (noC ((x.take i).drop bl))) →
    (∀ σ', LstR σ' 3 24 300 (shW u (noC (x.drop bl))) → Fq [24] [3] σ σ' → Ev lc G mMd_text 235 [some (.ref 22), none, none, none, none] [] σ' Q) →
    Ev lc G mMd_text 163 [some (.ref 22), none, none, some (.int (nI (256 * u))), some (.int (nI i))] [] σ Q := by
  intro n
  induction n with
  | zero =>
    intro i σ hn hi hx hs k
    obtain ⟨x1, x2, x3⟩ := hx
    rw [List.take_of_length_le (by omega)] at hs
    refine ev_ic_ge okMd_text rfl rfl trivial (fun g => ev_lv [some (.ref 22), none, none, none, none] ⟨rfl, trivial⟩ (k σ hs Fq.rf)) (fun g => absurd (by rw [x2]; exact nI_le (by omega) (by omega)) g)
  | succ n ih =>
    intro i σ hn hi hx hs k
    obtain ⟨x1, x2, x3⟩ := hx
    have hl : i < x.length := by omega
    have hbb := getD_lt (j := i) hb (by decide)
    have hv : σ.1 23 (nI i).toNatClampNeg = nI (x.getD i 0) := by rw [nI_cl (by omega)]; exact x3 i hl
    have vi : vp_in (nI i) 100 := vp_nI (by omega) (by decide)
    have hnx : noC ((x.take (i + 1)).drop bl) = noC ((x.take i).drop bl) ++ (if x.getD i 0 = 94 then [] else [x.getD i 0]) := by
      rw [td_snoc hi hl, noC_app]
      congr 1
      by_cases e : x.getD i 0 = 94
      · rw [if_pos e, e]; rfl
      · rw [if_neg e, noC_l e]
    refine ev_ic_ge okMd_text rfl rfl trivial (fun g => absurd g (by rw [x2]; exact nI_ge hl (by omega))) (fun g => ?_)
    refine ev_ic_eq okMd_text rfl rfl ⟨vi, trivial⟩ (fun g => ?_) (fun g => ?_)
    · rw [hv] at g
      have e : x.getD i 0 = 94 := (nI_eq (by omega) (by decide)).mp g
      rw [if_pos e, List.append_nil] at hnx
      refine ev_goto okMd_text rfl rfl trivial ?_
      rw [nI_add]
      exact ih (i + 1) σ (by omega) (by omega) ⟨x1, x2, x3⟩ (by rw [hnx]; exact hs) k
    · rw [hv] at g
      have e : ¬ x.getD i 0 = 94 := fun q => g (by rw [q])
      rw [if_neg e] at hnx
      obtain ⟨s1, s2, s3⟩ := hs
      have hsl : (shW u (noC ((x.take i).drop bl))).length ≤ 100 := by
        rw [shW_len]
        refine Nat.le_trans (List.length_filter_le _ _) ?_
        rw [List.length_drop, List.length_take]; omega
      have hnx2 : shW u (noC ((x.take (i + 1)).drop bl)) = shW u (noC ((x.take i).drop bl)) ++ [if x.getD i 0 = 32 then 32 else x.getD i 0 + 256 * u] := by
        rw [hnx]
        simp [shW]
      generalize shW u (noC ((x.take i).drop bl)) = sh at *
      have put : ∀ c : Nat, c = (if x.getD i 0 = 32 then 32 else x.getD i 0 + 256 * u) → Ev lc G mMd_text 218 [some (.ref 22), none, none, some (.int (nI (256 * u))), some (.int (nI i))] [.int (nI c), .int (σ.1 22 3), .ref 24] σ Q := by
        intro c hc
        rw [← hc] at hnx2
        rw [s2]
        refine ev_nop okMd_text rfl rfl ⟨vp_nI (by omega) (by decide), trivial⟩ ?_
        refine ev_goto okMd_text rfl rfl trivial ?_
        rw [nI_add, nI_cl (by omega)]
        have f1 : Fq [24] [3] σ (up2 (up2 σ.1 24 sh.length (nI c), σ.2).1 22 3 ((up2 σ.1 24 sh.length (nI c), σ.2).1 22 3 + nI 1), (up2 σ.1 24 sh.length (nI c), σ.2).2) := Fq.tr (Fq.u1 (by decide) (by decide)) (Fq.f1 (σ := (_, _)) (by decide))
        refine ih (i + 1) _ (by omega) (by omega) (LstR.fq ⟨x1, x2, x3⟩ f1 (by decide) (by decide) (by decide)) ?_ (fun σ' q1 q2 => k σ' q1 (f1.tr q2))
        rw [hnx2]
        refine ⟨by simp; omega, ?_, RowAt.push s3 ?_ (fun q hq => ?_)⟩
        · simp [up2, s2, nI_add]
        · simp [up2]
        · simp [up2, Nat.ne_of_lt hq]
      refine ev_ic_ne okMd_text rfl rfl ⟨vi, trivial⟩ (fun g2 => ?_) (fun g2 => ?_)
      · rw [hv] at g2
        have e2 : ¬ x.getD i 0 = 32 := fun q => g2 (by rw [q])
        refine ev_nop okMd_text rfl rfl ⟨vi, trivial⟩ ?_
        rw [hv, or256 hbb hu]
        exact put _ (by rw [if_neg e2])
      · have g2 : σ.1 23 (nI i).toNatClampNeg = nI 32 := by simpa using g2
        rw [hv] at g2
        have e2 : x.getD i 0 = 32 := (nI_eq (by omega) (by decide)).mp g2
        exact ev_goto okMd_text rfl rfl trivial (put 32 (by rw [if_pos e2]))
end RE
