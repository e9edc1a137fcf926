/-! ===== the class: texts ===== -/
theorem LnV.fr {S : List Nat} {σ σ' : St2} {E F : List Nat} (h : LnV σ E F) (hf : Fr S σ σ') (hs : ∀ c ∈ [17, 20, 21], c ∉ S) : LnV σ' E F := ⟨h.1, h.2.1, by rw [hf.a1 (hs 17 (by decide))]; exact h.2.2.1, h.2.2.2.1.fr hf (hs 20 (by decide)), h.2.2.2.2.fr hf (hs 21 (by decide))⟩
theorem CV.pg {σ σ' : St2} {m : MS} {N : NN} {o : List Nat} (h : CV σ m) (hf : Fr [4, 5, 6, 7] σ σ') (hp : PgV σ' N (mH m) (mF m) o) : CV σ' (sP m (N, o)) := by
  obtain ⟨c1, c2, c3, ⟨E, c4⟩, c5, c6⟩ := h
  exact ⟨c1.fr hf (by decide) (by decide), hp, c3.fr hf (by decide), ⟨E, c4.fr hf (by decide)⟩, by rw [hf.a2 (by decide)]; exact c5, by rw [hf.a1 (by decide)]; exact c6⟩
theorem CV.tx {σ σ' : St2} {m : MS} {y : List Nat} (h : CV σ m) (hf : Fr [1, 2] σ σ') (hp : TextAt σ' 1 y) : CV σ' (sX m y) := by
  obtain ⟨c1, c2, c3, ⟨E, c4⟩, c5, c6⟩ := h
  exact ⟨hp, c2.fr hf (by decide), c3.fr hf (by decide), ⟨E, c4.fr hf (by decide)⟩, by rw [hf.a2 (by decide)]; exact c5, by rw [hf.a1 (by decide)]; exact c6⟩
theorem CV.setL {σ : St2} {m : MS} (h : CV σ m) (j : Nat) (hj : j < 9) (v : Int32) : CV (up2 σ.1 4 j v, σ.2) (sN m j v) := h.pg (Fr.u1 (by decide)) (h.2.1.setL j hj v)
theorem CV.setP {σ : St2} {m : MS} (h : CV σ m) (j : Nat) (hj : j < 4) (v : Int32) : CV (up2 σ.1 7 (j + 4) v, σ.2) (sN m (j + 9) v) := h.pg (Fr.u1 (by decide)) (h.2.1.setP j hj v)
theorem upd_id {N : NN} {j : Nat} {v : Int32} (h : N j = v) : upd N j v = N := by
  funext q
  simp only [upd]
  by_cases e : q = j
  · rw [if_pos e, e]; exact h.symm
  · rw [if_neg e]
theorem sN_id {m : MS} {j : Nat} {v : Int32} (h : (mP m).1 j = v) : sN m j v = m := by
  unfold sN sP
  rw [upd_id h]
theorem ux_shW {u : Nat} (hu : u < 2) : ∀ {z : List Nat}, (∀ b ∈ z, b < 128) → ux (shW u z) = und u z
  | [], _ => rfl
  | b :: z, h => by
    have hb := h b List.mem_cons_self
    have ih := ux_shW hu (z := z) (fun c hc => h c (List.mem_cons_of_mem _ hc))
    show ux ((if b = 32 then 32 else b + 256 * u) :: shW u z) = _
    rw [ux_cons, und_cons, ih]
    congr 1
    by_cases e : b = 32
    · subst e
      simp
    · rw [if_neg e]
      rcases (show u = 0 ∨ u = 1 by omega) with rfl | rfl
      · rw [if_neg (by omega), if_pos (Or.inl rfl), show (b + 256 * 0) % 256 = b by omega]
      · rw [if_pos (by omega), if_neg (by omega), show (b + 256 * 1) % 256 = b by omega]
theorem shW_empty (u : Nat) (z : List Nat) : (shW u z).isEmpty = z.isEmpty := by
  cases z <;> rfl
section CT
variable {lc : Launch} {G : GG} {σ : St2} {Q : Option Value → St2 → Prop} {m : MS} {pb : Nat}
theorem sp_reset (k : Q none (up2 (up2 (up2 (up2 (up2 (up2 (up2 (up2 (up2 σ.1 4 0 (nI 40)) 4 1 (nI 0)) 4 2 (nI 0)) 4 3 (nI 1)) 4 4 (nI 0)) 4 5 (nI 0)) 4 6 (nI 24)) 4 7 (nI 1)) 4 8 (nI 1), σ.2)) : Ev lc G mLa_reset 0 [some (.ref 4)] [] σ Q :=
  ev_rv okLa_reset rfl rfl ⟨Or.inr rfl, Or.inr rfl, trivial⟩ rfl k
theorem sp_leastRight (hc : CV σ m) (h3 : R3 (mP m).1) (k : Q (some (.int (nI (max (cl (mP m).1 2) (cl (mP m).1 1) + 1)))) σ) : Ev lc G mLa_leastRight 0 [some (.ref 4)] [] σ Q := by
  obtain ⟨h0, h1, h2, b0, b1, b2⟩ := R3_cl h3
  refine ev_max okLa_leastRight rfl rfl trivial (by decide +kernel) rfl ?_
  rw [show σ.1 4 2 = _ from (hc.2.1.1 2 (by decide)).trans h2, show σ.1 4 1 = _ from (hc.2.1.1 1 (by decide)).trans h1]
  refine ev_ri okLa_leastRight rfl rfl trivial rfl ?_
  have e : (if nI (cl (mP m).1 2) < nI (cl (mP m).1 1) then nI (cl (mP m).1 1) else nI (cl (mP m).1 2)) = nI (max (cl (mP m).1 2) (cl (mP m).1 1)) := by
    by_cases q : cl (mP m).1 2 < cl (mP m).1 1
    · rw [if_pos (nI_lt q (by omega)), Nat.max_eq_right (by omega)]
    · rw [if_neg (fun z => q ((nI_ltI (by omega) (by omega)).mp z)), Nat.max_eq_left (by omega)]
  rw [e, nI_add]
  exact k
theorem sp_grow (hc : CV σ m) (h3 : R3 (mP m).1) {bl : Nat} (hb : bl ≤ 100) (k : ∀ σ', CV σ' (sN m 2 (nI (min (cl (mP m).1 0 - 1) (cl (mP m).1 2 + bl)))) → Fr [4] σ σ' → Q none σ') : Ev lc G mLa_growThisIndent 0 [some (.ref 4), some (.int (nI bl))] [] σ Q := by
  obtain ⟨h0, h1, h2, b0, b1, b2⟩ := R3_cl h3
  refine ev_min okLa_growThisIndent rfl rfl trivial (by decide +kernel) rfl ?_
  rw [show σ.1 4 2 = _ from (hc.2.1.1 2 (by decide)).trans h2, show σ.1 4 0 = _ from (hc.2.1.1 0 (by decide)).trans h0, nI_add, pk_sub (by omega)]
  have e : (if nI (cl (mP m).1 2 + bl) < nI (cl (mP m).1 0 - 1) then nI (cl (mP m).1 2 + bl) else nI (cl (mP m).1 0 - 1)) = nI (min (cl (mP m).1 0 - 1) (cl (mP m).1 2 + bl)) := by
    by_cases q : cl (mP m).1 2 + bl < cl (mP m).1 0 - 1
    · rw [if_pos (nI_lt q (by omega)), Nat.min_eq_right (by omega)]
    · rw [if_neg (fun z => q ((nI_ltI (by omega) (by omega)).mp z)), Nat.min_eq_left (by omega)]
  rw [e]
  exact ev_rv okLa_growThisIndent rfl rfl trivial rfl (k _ (hc.setL 2 (by decide) _) (Fr.u1 (by decide)))
theorem sp_takeUnderlined (hc : CV σ m) (h5 : Rg ((mP m).1 5) 0 99) (k : ∀ σ', CV σ' (sN m 5 (nI (cl (mP m).1 5 - 1))) → Fr [4] σ σ' → Q (some (.int (nI (tU (mP m).1)))) σ') : Ev lc G mLa_takeUnderlined 0 [some (.ref 4)] [] σ Q := by
  obtain ⟨e5, -, f5⟩ := Rg_cl h5 (by decide)
  have e : σ.1 4 5 = nI (cl (mP m).1 5) := (hc.2.1.1 5 (by decide)).trans e5
  refine ev_if_ne okLa_takeUnderlined rfl rfl trivial (fun g => ?_) (fun g => ?_)
  · rw [e] at g
    have hz : ¬ cl (mP m).1 5 = 0 := fun z => g (by rw [z]; rfl)
    refine ev_rz okLa_takeUnderlined rfl rfl trivial rfl (Or.inr rfl) ?_
    rw [e, pk_sub (by omega)]
    have := k _ (hc.setL 5 (by decide) (nI (cl (mP m).1 5 - 1))) (Fr.u1 (by decide))
    unfold tU at this
    rw [if_neg hz] at this
    exact this
  · have g : σ.1 4 5 = 0 := by simpa using g
    rw [e] at g
    have hz : cl (mP m).1 5 = 0 := by
      rcases Nat.eq_zero_or_pos (cl (mP m).1 5) with q | q
      · exact q
      · exact absurd g (nI_ne0 q (by omega))
    refine ev_rz okLa_takeUnderlined rfl rfl trivial rfl (Or.inl rfl) ?_
    have := k σ (by rw [sN_id (by rw [e5, hz])]; exact hc) Fr.rf
    unfold tU at this
    rw [if_pos hz] at this
    exact this
theorem sp_putEmptyLine (hc : CV σ m) (hH : ∀ b ∈ mH m, b < 128) (hF : ∀ b ∈ mF m, b < 128) (hp : PB pb (mP m).1) (hpb : pb < 900000000) (k : ∀ σ', CV σ' (mPut 0 [] m) → Fr [4, 5, 6, 7] σ σ' → Q none σ') : Ev lc G mPf_putEmptyLine 0 [some (.ref 0)] [] σ Q := by
  refine ev_cv okPf_putEmptyLine okPg_openLine rfl rfl trivial rfl (by decide +kernel) rfl rfl (sp_openLine (e := true) hc.2.1 hH (B := pb) (by omega) hp fun σ1 q1 q2 => ?_)
  refine ev_cv okPf_putEmptyLine okPg_closeLine rfl rfl trivial rfl (by decide +kernel) rfl rfl (sp_closeLine q1 hF (B := pb + 1) (by omega) (pOpen_PB hp) fun σ2 r1 r2 => ?_)
  have f2 : Fr [4, 5, 6, 7] σ σ2 := (q2.wk (by decide)).tr r2
  refine ev_rv okPf_putEmptyLine rfl rfl trivial rfl (k σ2 ?_ f2)
  have e : pPut (mH m) (mF m) (shW 0 []) (mP m) = pClose (mF m) (pOpen (mH m) true (mP m)) := by
    unfold pPut
    show pClose (mF m) ((pOpen (mH m) true (mP m)).1, emit (pOpen (mH m) true (mP m)).2 []) = _
    rw [emit_nil q1.2.2.2.2.1]
  unfold mPut
  rw [e]
  exact hc.pg f2 r1
theorem sp_putEntered {u : Nat} (hu : u < 2) (hc : CV σ m) (hx : ∀ b ∈ mX m, b < 128) (hH : ∀ b ∈ mH m, b < 128) (hF : ∀ b ∈ mF m, b < 128) (hp : PB pb (mP m).1) (hpb : pb < 900000000) (k : ∀ σ', CV σ' (mPut u (mX m) m) → Fr [4, 5, 6, 7] σ σ' → Q none σ') : Ev lc G mPf_putEntered 0 [some (.ref 0), some (.int (nI u))] [] σ Q := by
  obtain ⟨c1, c2, c3⟩ := hc
  have hl := c1.1
  have main : Ev lc G mPf_putEntered 19 [some (.ref 0), some (.int (nI u))] [.int (b2 (mX m).isEmpty), .ref 7] σ Q := by
    refine ev_cv okPf_putEntered okPg_openLine rfl rfl trivial rfl (by decide +kernel) rfl rfl (sp_openLine (e := (mX m).isEmpty) c2 hH (B := pb) (by omega) hp fun σ1 q1 q2 => ?_)
    have x1 := c1.fr q2 (by decide) (by decide)
    refine ev_cv okPf_putEntered okOu_putBytes rfl rfl trivial rfl (by decide +kernel) rfl rfl ?_
    rw [x1.2.1]
    refine sp_putBytes (c := 2) (E := (mX m).length) (B := 0) (x := mX m) (Or.inl ⟨rfl, hl⟩) (Nat.le_refl _) (Nat.zero_le _) hu hx x1.2.2 q1.2.2.2.2 fun σ2 r1 r2 => ?_
    rw [List.take_length, List.drop_zero] at r1
    have p2 := q1.out r2 r1
    refine ev_cv okPf_putEntered okPg_closeLine rfl rfl trivial rfl (by decide +kernel) rfl rfl (sp_closeLine p2 hF (B := pb + 1) (by omega) (pOpen_PB hp) fun σ3 s1 s2 => ?_)
    have f3 : Fr [4, 5, 6, 7] σ σ3 := ((q2.wk (by decide)).tr (r2.wk (by decide))).tr s2
    refine ev_rv okPf_putEntered rfl rfl trivial rfl (k σ3 ?_ f3)
    unfold mPut pPut
    rw [shW_empty, ux_shW hu hx]
    exact CV.pg ⟨c1, c2, c3⟩ f3 s1
  refine ev_if_ne okPf_putEntered rfl rfl trivial (fun g => ?_) (fun g => ?_)
  · rw [c1.2.1] at g
    have hz : ¬ (mX m).length = 0 := fun z => g (by rw [z]; rfl)
    have e : (mX m).isEmpty = false := by
      cases h : mX m with
      | nil => rw [h] at hz; exact absurd rfl hz
      | cons a l => rfl
    rw [e] at main
    exact ev_nop okPf_putEntered rfl rfl trivial main
  · have g : σ.1 1 1 = 0 := by simpa using g
    rw [c1.2.1] at g
    have hz : (mX m).length = 0 := by
      rcases Nat.eq_zero_or_pos (mX m).length with q | q
      · exact q
      · exact absurd g (nI_ne0 q (by omega))
    have e : (mX m).isEmpty = true := by rw [List.length_eq_zero_iff.mp hz]; rfl
    rw [e] at main
    exact ev_goto okPf_putEntered rfl rfl trivial main
theorem noE_mem {y : List Nat} {b : Nat} (h : b ∈ noE y) : b ∈ y := by
  unfold noE at h
  rw [List.mem_reverse] at h
  exact List.mem_reverse.mp (List.dropWhile_subset _ h)
theorem sp_putCentred {u : Nat} (hu : u < 2) (hc : CV σ m) (h3 : R3 (mP m).1) (h4 : Rg ((mP m).1 4) 0 99) (h4' : 0 < cl (mP m).1 4) (hx : ∀ b ∈ mX m, b < 128) (hH : ∀ b ∈ mH m, b < 128) (hF : ∀ b ∈ mF m, b < 128) (hp : PB pb (mP m).1) (hpb : pb < 900000000) (k : ∀ σ', CV σ' (sX (mPut u (noE (noC (mX m))) (sP m (cN (noE (noC (mX m))).length (mP m).1, (mP m).2))) (noE (noC (mX m)))) → Fr [1, 2, 4, 5, 6, 7] σ σ' → Q none σ') : Ev lc G mPf_putCentred 0 [some (.ref 0), some (.int (nI u)), none] [] σ Q := by
  obtain ⟨h0, h1, h2, b0, b1, b2⟩ := R3_cl h3
  obtain ⟨e4, -, f4⟩ := Rg_cl h4 (by decide)
  have l4 : σ.1 4 4 = nI (cl (mP m).1 4) := (hc.2.1.1 4 (by decide)).trans e4
  refine ev_cv okPf_putCentred okTx_dropCarets rfl rfl trivial rfl (by decide +kernel) rfl rfl ?_
  rw [l4, pk_sub (by omega)]
  have d1 := hc.setL 4 (by decide) (nI (cl (mP m).1 4 - 1))
  have f1 : Fr [4] σ (up2 σ.1 4 4 (nI (cl (mP m).1 4 - 1)), σ.2) := Fr.u1 (by decide)
  generalize (up2 σ.1 4 4 (nI (cl (mP m).1 4 - 1)), σ.2) = σ1 at d1 f1 ⊢
  refine sp_dropCarets d1.1 hx fun σ2 q1 q2 => ?_
  have d2 := d1.tx q2 q1
  have hx2 : ∀ b ∈ noC (mX m), b < 128 := fun b hb => hx b (List.mem_filter.mp hb).1
  refine ev_cv okPf_putCentred okTx_dropEndBlanks rfl rfl trivial rfl (by decide +kernel) rfl rfl (sp_dropEndBlanks (noC (mX m)).length (noC (mX m)) σ2 (Nat.le_refl _) q1 hx2 fun σ3 r1 r2 => ?_)
  have d3 : CV σ3 (sX (sN m 4 (nI (cl (mP m).1 4 - 1))) (noE (noC (mX m)))) := d2.tx (r2.wk (by decide)) r1
  have hlen : (noE (noC (mX m))).length ≤ 100 := d3.1.1
  have g0 : σ3.1 4 0 = nI (cl (mP m).1 0) := (d3.2.1.1 0 (by decide)).trans h0
  have g2 : σ3.1 4 2 = nI (cl (mP m).1 2) := (d3.2.1.1 2 (by decide)).trans h2
  have gs : σ3.1 1 1 = nI (noE (noC (mX m))).length := d3.1.2.1
  refine ev_max okPf_putCentred rfl rfl trivial (by decide +kernel) rfl ?_
  rw [g0, g2, gs, nI_add, nI_add, max0 (by omega) (by omega)]
  refine ev_cv okPf_putCentred okPf_putEntered rfl rfl ⟨by decide, trivial⟩ rfl (by decide +kernel) rfl rfl ?_
  rw [pk_div (by omega) (by decide) (by decide)]
  have d4 : CV _ (sX (sP m (cN (noE (noC (mX m))).length (mP m).1, (mP m).2)) (noE (noC (mX m)))) := d3.setL 2 (by decide) (nI ((cl (mP m).1 0 + cl (mP m).1 2 + 1 - (noE (noC (mX m))).length) / 2))
  refine sp_putEntered (pb := pb) hu d4 (fun b hb => hx2 b (noE_mem hb)) hH hF ((hp.keep (by decide) (by decide)).keep (by decide) (by decide)) hpb fun σ5 s1 s2 => ?_
  refine ev_rv okPf_putCentred rfl rfl trivial rfl (k σ5 s1 ?_)
  exact ((((f1.wk (by decide)).tr (q2.wk (by decide))).tr (r2.wk (by decide))).tr (Fr.u1 (by decide))).tr (s2.wk (by decide))
end CT
