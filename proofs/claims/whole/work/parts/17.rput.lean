/-! ===== the reference: pages ===== -/
def fm : Nat → Nat
  | 0 => 30 | 1 => 28 | 2 => 29 | 3 => 27 | 4 => 31 | 5 => 32 | 6 => 33 | 7 => 25 | 8 => 26 | 9 => 34 | 10 => 35 | 11 => 36 | 12 => 42 | _ => 0
theorem fm_inj {j k : Nat} (hj : j < 13) (hk : k < 13) (h : j ≠ k) : fm j ≠ fm k := by
  have : ∀ j : Fin 13, ∀ k : Fin 13, j.val ≠ k.val → fm j.val ≠ fm k.val := by decide
  exact this ⟨j, hj⟩ ⟨k, hk⟩ h
theorem fm_out {k : Nat} (hk : k < 13) : fm k ∉ [38, 40, 24, 1, 3, 6, 11, 15, 16, 41, 43, 44, 45, 46, 47] := by
  have : ∀ k : Fin 13, fm k.val ∉ [38, 40, 24, 1, 3, 6, 11, 15, 16, 41, 43, 44, 45, 46, 47] := by decide
  exact this ⟨k, hk⟩
def RgV (σ : St2) (N : NN) (hd ft o : List Nat) : Prop := (∀ k, k < 13 → σ.1 22 (fm k) = N k) ∧ LstR σ 38 41 100 hd ∧ LstR σ 40 42 100 ft ∧ OutR σ o
theorem RgV.fq {S F : List Nat} {σ σ' : St2} {N : NN} {hd ft o : List Nat} (h : RgV σ N hd ft o) (hf : Fq S F σ σ') (hs : ∀ c ∈ [40, 41, 42], c ∉ S) (hF : ∀ k, k < 13 → fm k ∉ F) (h1 : 38 ∉ F) (h2 : 40 ∉ F) (h3 : 24 ∉ F) : RgV σ' N hd ft o :=
  ⟨fun k hk => by rw [hf.g1 (hF k hk)]; exact h.1 k hk, h.2.1.fq hf h1 (hs 41 (by decide)) (by decide), h.2.2.1.fq hf h2 (hs 42 (by decide)) (by decide), h.2.2.2.fq hf h3 (hs 40 (by decide)) (by decide)⟩
theorem fm24 {k : Nat} (hk : k < 13) : fm k ∉ [24] := fun h => fm_out hk (by rw [List.mem_singleton.mp h]; decide)
theorem RgV.out {σ σ' : St2} {N : NN} {hd ft o o' : List Nat} (h : RgV σ N hd ft o) (hf : Fq [40] [24] σ σ') (ho : OutR σ' o') : RgV σ' N hd ft o' :=
  ⟨fun k hk => by rw [hf.g1 (fm24 hk)]; exact h.1 k hk, h.2.1.fq hf (by decide) (by decide) (by decide), h.2.2.1.fq hf (by decide) (by decide) (by decide), ho⟩
theorem RgV.set {σ : St2} {N : NN} {hd ft o : List Nat} (h : RgV σ N hd ft o) (k : Nat) (hk : k < 13) (v : Int32) : RgV (up2 σ.1 22 (fm k) v, σ.2) (upd N k v) hd ft o := by
  have hf : Fq [] [fm k] σ (up2 σ.1 22 (fm k) v, σ.2) := Fq.f1 (by simp)
  have ho := fm_out hk
  have e : ∀ f, f ∈ [38, 40, 24] → f ∉ [fm k] := fun f hf1 hf2 => ho (by
    rw [← List.mem_singleton.mp hf2]
    simp only [List.mem_cons, List.not_mem_nil, or_false] at hf1 ⊢
    omega)
  refine ⟨fun j hj => ?_, h.2.1.fq hf (e _ (by decide)) (by decide) (by decide), h.2.2.1.fq hf (e _ (by decide)) (by decide) (by decide), h.2.2.2.fq hf (e _ (by decide)) (by decide) (by decide)⟩
  show up2 σ.1 22 (fm k) v 22 (fm j) = _
  by_cases q : j = k
  · subst q
    rw [up2_same, upd, if_pos rfl]
  · rw [up2_col _ _ _ (fm_inj hj hk q), h.1 j hj, upd, if_neg q]
/-- what a sheet gives: codes from 256 on are underlined -/
def ux (y : List Nat) : List Nat := y.flatMap (fun v => if 256 ≤ v then [95, 8, v % 256] else [v % 256])
theorem ux_cons (v : Nat) (y : List Nat) : ux (v :: y) = (if 256 ≤ v then [95, 8, v % 256] else [v % 256]) ++ ux y := by simp [ux]
theorem upd_comm (N : NN) {a b : Nat} (x y : Int32) (h : a ≠ b) : upd (upd N a x) b y = upd (upd N b y) a x := by
  funext k
  simp only [upd]
  by_cases h1 : k = b
  · subst h1
    rw [if_pos rfl, if_neg (Ne.symm h), if_pos rfl]
  · rw [if_neg h1]
    by_cases h2 : k = a
    · rw [if_pos h2, if_pos h2]
    · rw [if_neg h2, if_neg h2, if_neg h1]
theorem pHead_c12 (hd : List Nat) (N : NN) (o : List Nat) (v : Int32) : pHead hd (upd N 12 v, o) = (upd (pHead hd (N, o)).1 12 v, (pHead hd (N, o)).2) := by
  unfold pHead
  refine Prod.ext ?_ ?_
  · show upd (upd (upd (upd N 12 v) 10 (upd N 12 v 11)) 11 (upd N 12 v 11 + nI 1)) 9 (nI 4) = upd (upd (upd (upd N 10 (N 11)) 11 (N 11 + nI 1)) 9 (nI 4)) 12 v
    rw [show upd N 12 v 11 = N 11 by simp [upd], upd_comm N _ _ (show 12 ≠ 10 by decide), upd_comm _ _ _ (show 12 ≠ 11 by decide), upd_comm _ _ _ (show 12 ≠ 9 by decide)]
  · show emit o (ttl hd (upd N 12 v 11).toNatClampNeg) = _
    rw [show upd N 12 v 11 = N 11 by simp [upd]]
theorem pOpen0_c12 (hd : List Nat) (N : NN) (o : List Nat) (v : Int32) : pOpen0 hd (upd N 12 v, o) = (upd (pOpen0 hd (N, o)).1 12 v, (pOpen0 hd (N, o)).2) := by
  unfold pOpen0
  have e1 : upd N 12 v 9 = N 9 := by simp [upd]
  have e2 : bot (upd N 12 v) = bot N := by simp [bot, upd]
  simp only [e1, e2]
  split
  · exact pHead_c12 hd N o v
  · rfl
theorem pOpen0_12 (hd : List Nat) (N : NN) (o : List Nat) : (pOpen0 hd (N, o)).1 12 = N 12 := by
  unfold pOpen0
  split <;> simp [pHead, upd]
theorem i0_ge (v : Int32) : (if 0 ≤ v then v else nI 0) = i0 v := by
  unfold i0
  by_cases h : nI 0 < v
  · rw [if_pos h, if_pos (show 0 ≤ v from Int32.le_of_lt h)]
  · rw [if_neg h]
    by_cases g : 0 ≤ v
    · rw [if_pos g]
      exact Int32.le_antisymm (Int32.not_lt.mp h) g
    · rw [if_neg g]
theorem imn_ge (x y : Int32) : (if y ≤ x then y else x) = imn x y := by
  unfold imn
  by_cases h : y < x
  · rw [if_pos h, if_pos (Int32.le_of_lt h)]
  · rw [if_neg h]
    by_cases g : y ≤ x
    · rw [if_pos g]
      exact Int32.le_antisymm g (Int32.not_lt.mp h)
    · rw [if_neg g]
section RQ
variable {lc : Launch} {G : GG} {σ : St2} {Q : Option Value → St2 → Prop} {N : NN} {hd ft o : List Nat}
theorem sp_bottomR (h : RgV σ N hd ft o) (k : Q (some (.int (bot N))) σ) : Ev lc G mMd_bottom 0 [some (.ref 22)] [] σ Q := by
  have e : σ.1 22 33 = N 6 := h.1 6 (by decide)
  refine ev_ri okMd_bottom rfl rfl trivial rfl ?_
  rw [e]
  exact k
theorem sp_giveHead (h : RgV σ N hd ft o) (hb : ∀ b ∈ hd, b < 128) {B : Nat} (hB : B < 2 ^ 31) (hp : PB B N) (k : ∀ σ', RgV σ' (pHead hd (N, o)).1 hd ft (pHead hd (N, o)).2 → Fq [40] [24, 34, 35, 36] σ σ' → Q none σ') : Ev lc G mMd_giveHead 0 [some (.ref 22)] [] σ Q := by
  obtain ⟨p, q, e1, e2, h3, h4⟩ := hp
  have e6 : σ.1 22 36 = nI p := (h.1 11 (by decide)).trans e1
  have h1 := (h.set 10 (by decide) (σ.1 22 36)).set 11 (by decide) (up2 σ.1 22 35 (σ.1 22 36) 22 36 + nI 1)
  refine ev_cv okMd_giveHead okMd_giveTitle rfl rfl trivial rfl (by decide +kernel) rfl rfl ?_
  have e38 := h1.2.1.2.1
  have e35 : (up2 (up2 σ.1 22 35 (σ.1 22 36), σ.2).1 22 36 ((up2 σ.1 22 35 (σ.1 22 36), σ.2).1 22 36 + nI 1), (up2 σ.1 22 35 (σ.1 22 36), σ.2).2).1 22 35 = nI p := by simp [up2, e6]
  have e38' : (up2 (up2 σ.1 22 35 (σ.1 22 36), σ.2).1 22 36 ((up2 σ.1 22 35 (σ.1 22 36), σ.2).1 22 36 + nI 1), (up2 σ.1 22 35 (σ.1 22 36), σ.2).2).1 22 38 = nI hd.length := e38
  rw [e38']
  refine sp_giveTitle (Or.inl rfl) (by omega) h1.2.1.1 hb h1.2.1.2.2 e35 h1.2.2.2 fun σ1 q1 q2 => ?_
  refine ev_rv okMd_giveHead rfl rfl trivial rfl (k _ ?_ ?_)
  · have h2 := (h1.out q2 q1).set 9 (by decide) (nI 4)
    have e7 : upd (upd (upd N 10 (σ.1 22 36)) 11 (up2 σ.1 22 35 (σ.1 22 36) 22 36 + nI 1)) 9 (nI 4) = (pHead hd (N, o)).1 := by
      simp [pHead, up2, e6, e1]
    rw [e7] at h2
    have e8 : (pHead hd (N, o)).2 = emit o (ttl hd p) := by simp [pHead, e1, nI_cl (show p < 2 ^ 31 by omega)]
    rw [e8]
    exact h2
  · exact Fq.tr (Fq.tr (Fq.tr (Fq.f1 (by decide)) (Fq.f1 (σ := (_, _)) (by decide))) (q2.wk (by decide) (by decide))) (Fq.f1 (by decide))
theorem sp_giveFoot (h : RgV σ N hd ft o) (hb : ∀ b ∈ ft, b < 128) {B : Nat} (hB : B < 2 ^ 31) (hp : PB B N) (k : ∀ σ', RgV σ' N hd ft (emit o (ttl ft (N 10).toNatClampNeg)) → Fq [40] [24] σ σ' → Q none σ') : Ev lc G mMd_giveFoot 0 [some (.ref 22)] [] σ Q := by
  obtain ⟨p, q, e1, e2, h3, h4⟩ := hp
  refine ev_cv okMd_giveFoot okMd_giveTitle rfl rfl trivial rfl (by decide +kernel) rfl rfl ?_
  rw [h.2.2.1.2.1]
  refine sp_giveTitle (p := q) (Or.inr rfl) (by omega) h.2.2.1.1 hb h.2.2.1.2.2 ((h.1 10 (by decide)).trans e2) h.2.2.2 fun σ1 q1 q2 => ?_
  refine ev_rv okMd_giveFoot rfl rfl trivial rfl (k σ1 ?_ q2)
  rw [e2, nI_cl (by omega)]
  exact h.out q2 q1
theorem lp_put {y : List Nat} (hy : ∀ v ∈ y, v < 512) : ∀ (m i : Nat) (σ : St2) (o : List Nat), i + m = y.length → LstR σ 3 24 300 y → OutR σ o → (∀ σ', OutR σ' (emit o (ux (y.drop i))) → Fq [40] [24] σ σ' → Ev lc G mMd_put 107 [some (.ref 22), none] [] σ' Q) → Ev lc G mMd_put 55 [some (.ref 22), some (.int (nI i))] [] σ Q := by
  intro m
  induction m with
  | zero =>
    intro i σ o hi hs ho k
    have hl := hs.1
    rw [List.drop_eq_nil_of_le (by omega), show ux [] = [] from rfl, emit_nil ho.1] at k
    refine ev_ic_ge okMd_put rfl rfl trivial (fun h => ev_lv [some (.ref 22), none] ⟨rfl, trivial⟩ (k σ ho Fq.rf)) (fun h => absurd ?_ h)
    rw [hs.2.1]
    exact nI_le (by omega) (by omega)
  | succ m ih =>
    intro i σ o hi hs ho k
    have hl := hs.1
    have hlt : i < y.length := by omega
    have hbb := getD_lt (j := i) hy (by decide)
    have hv : σ.1 24 (nI i).toNatClampNeg = nI (y.getD i 0) := by rw [nI_cl (by omega)]; exact hs.2.2 i hlt
    rw [List.drop_eq_getElem_cons hlt, ux_cons, ← gD hlt] at k
    have next : ∀ (σ1 : St2) (o1 : List Nat), OutR σ1 o1 → Fq [40] [24] σ σ1 → emit o1 ([y.getD i 0 % 256] ++ ux (y.drop (i + 1))) = emit o ((if 256 ≤ y.getD i 0 then [95, 8, y.getD i 0 % 256] else [y.getD i 0 % 256]) ++ ux (y.drop (i + 1))) → Ev lc G mMd_put 87 [some (.ref 22), some (.int (nI i))] [] σ1 Q := by
      intro σ1 o1 h1 h2 h3
      have hv1 : σ1.1 24 (nI i).toNatClampNeg = nI (y.getD i 0) := by rw [h2.a1 (by decide) (by decide)]; exact hv
      refine ev_cv okMd_put okMd_give rfl rfl ⟨vp_nI (by omega) (by decide), trivial⟩ rfl (by decide +kernel) rfl rfl ?_
      rw [hv1, pk_andN (by omega) 8 (by decide)]
      refine sp_give h1 fun σ2 q1 q2 => ?_
      refine ev_goto okMd_put rfl rfl trivial ?_
      rw [nI_add]
      refine ih (i + 1) σ2 _ (by omega) ((hs.fq h2 (by decide) (by decide) (by decide)).fq q2 (by decide) (by decide) (by decide)) q1 (fun σ' r1 r2 => k σ' ?_ ((h2.tr q2).tr r2))
      rw [emit_emit] at r1
      rw [← h3]
      exact r1
    refine ev_ic_ge okMd_put rfl rfl trivial (fun h => absurd h (by rw [hs.2.1]; exact nI_ge hlt (by omega))) (fun h => ?_)
    refine ev_ic_lt okMd_put rfl rfl ⟨vp_nI (by omega) (by decide), trivial⟩ (fun g => ?_) (fun g => ?_)
    · rw [hv] at g
      have e : ¬ 256 ≤ y.getD i 0 := Nat.not_le.mpr ((nI_ltI (by omega) (by decide)).mp g)
      exact next σ o ho Fq.rf (by rw [if_neg e])
    · rw [hv] at g
      have e : 256 ≤ y.getD i 0 := (Nat.lt_or_ge (y.getD i 0) 256).resolve_left (fun q => g (nI_lt q (by decide)))
      refine ev_cv okMd_put okMd_give rfl rfl trivial rfl (by decide +kernel) rfl rfl (sp_give ho fun σ1 h1 h2 => ?_)
      refine ev_cv okMd_put okMd_give rfl rfl trivial rfl (by decide +kernel) rfl rfl (sp_give h1 fun σ2 h3 h4 => ?_)
      refine next σ2 _ h3 (h2.tr h4) ?_
      rw [if_pos e, emit_emit, emit_emit]
      rfl
def pPut (hd ft y : List Nat) (s : PS) : PS := pClose ft ((pOpen hd y.isEmpty s).1, emit (pOpen hd y.isEmpty s).2 (ux y))
theorem sp_putR {y : List Nat} (hy : ∀ v ∈ y, v < 512) (h : RgV σ N hd ft o) (hs : LstR σ 3 24 300 y) (hb : ∀ b ∈ hd, b < 128) (hb2 : ∀ b ∈ ft, b < 128) {B : Nat} (hB : B + 1 < 2 ^ 31) (hp : PB B N) (k : ∀ σ', RgV σ' (pPut hd ft y (N, o)).1 hd ft (pPut hd ft y (N, o)).2 → Fq [40] [24, 34, 35, 36, 42, 29] σ σ' → Q none σ') : Ev lc G mMd_put 0 [some (.ref 22), none] [] σ Q := by
  have e42 : σ.1 22 42 = N 12 := h.1 12 (by decide)
  have e34 : σ.1 22 34 = N 9 := h.1 9 (by decide)
  have h1 := h.set 12 (by decide) (σ.1 22 42 + nI 1)
  have f1 : Fq [40] [24, 34, 35, 36, 42, 29] σ (up2 σ.1 22 42 (σ.1 22 42 + nI 1), σ.2) := Fq.f1 (by decide)
  rw [e42] at h1
  have hs1 : LstR (up2 σ.1 22 42 (N 12 + nI 1), σ.2) 3 24 300 y := hs.fq (S := []) (F := [42]) (Fq.f1 (by decide)) (by decide) (by decide) (by decide)
  have hp1 : PB B (upd N 12 (N 12 + nI 1)) := hp.keep (by decide) (by decide)
  -- behind the HEAD
  have body : ∀ σ1, RgV σ1 (pOpen0 hd (upd N 12 (N 12 + nI 1), o)).1 hd ft (pOpen0 hd (upd N 12 (N 12 + nI 1), o)).2 → LstR σ1 3 24 300 y → Fq [40] [24, 34, 35, 36, 42, 29] σ σ1 → Ev lc G mMd_put 32 [some (.ref 22), none] [] σ1 Q := by
    rw [pOpen0_c12]
    generalize hS : pOpen0 hd (N, o) = S
    intro σ1 g1 g2 g3
    have hlen := g2.1
    have p1 : PB (B + 1) S.1 := by rw [← hS]; exact pOpen0_PB hp
    have s12 : S.1 12 = N 12 := by rw [← hS]; exact pOpen0_12 hd N o
    have eo : (pOpen hd y.isEmpty (N, o)) = (S.1, if y.isEmpty then S.2 else emit S.2 (List.replicate (S.1 2).toNatClampNeg 32)) := by unfold pOpen; rw [hS]
    -- behind the blanks
    have tail : ∀ σ2, RgV σ2 (upd S.1 12 (N 12 + nI 1)) hd ft (if y.isEmpty then S.2 else emit S.2 (List.replicate (S.1 2).toNatClampNeg 32)) → LstR σ2 3 24 300 y → Fq [40] [24, 34, 35, 36, 42, 29] σ σ2 → Ev lc G mMd_put 53 [some (.ref 22), none] [] σ2 Q := by
      generalize hO : (if y.isEmpty then S.2 else emit S.2 (List.replicate (S.1 2).toNatClampNeg 32)) = O at *
      intro σ2 a1 a2 a3
      refine ev_nop okMd_put rfl rfl trivial (lp_put hy y.length 0 σ2 O (by omega) a2 a1.2.2.2 fun σ3 c1 c2 => ?_)
      rw [List.drop_zero] at c1
      have a4 := a1.out c2 c1
      refine ev_cv okMd_put okMd_give rfl rfl trivial rfl (by decide +kernel) rfl rfl (sp_give a4.2.2.2 fun σ4 d1 d2 => ?_)
      have a5 := a4.out d2 d1
      have e28 : σ4.1 22 28 = S.1 1 := (a5.1 1 (by decide)).trans (by simp [upd])
      have a6 := a5.set 2 (by decide) (σ4.1 22 28)
      rw [e28] at a6
      refine ev_cv okMd_put okMd_bottom rfl rfl trivial rfl (by decide +kernel) rfl rfl ?_
      rw [e28]
      refine sp_bottomR a6 ?_
      have eb : bot (upd (upd S.1 12 (N 12 + nI 1)) 2 (S.1 1)) = bot S.1 := by simp [bot, upd]
      have e34 : (up2 σ4.1 22 29 (S.1 1), σ4.2).1 22 34 = S.1 9 := (a6.1 9 (by decide)).trans (by simp [upd])
      have e27 : (up2 σ4.1 22 29 (S.1 1), σ4.2).1 22 27 = S.1 3 := (a6.1 3 (by decide)).trans (by simp [upd])
      rw [eb]
      have f4 : Fq [40] [24, 34, 35, 36, 42, 29] σ (up2 σ4.1 22 29 (S.1 1), σ4.2) := ((a3.tr (c2.wk (by decide) (by decide))).tr (d2.wk (by decide) (by decide))).tr (Fq.f1 (by decide))
      have a6 : RgV (up2 σ4.1 22 29 (S.1 1), σ4.2) (upd (upd S.1 12 (N 12 + nI 1)) 2 (S.1 1)) hd ft (emit (emit O (ux y)) [10]) := a6
      generalize (up2 σ4.1 22 29 (S.1 1), σ4.2) = τ at a6 e34 e27 f4 ⊢
      -- the bytes 10 that SPACING gives, then the end
      have last : ∀ free : Int32, free = i0 (bot S.1 - S.1 9) → Ev lc G mMd_put 140 [some (.ref 22), none] [.int free] τ Q := by
        intro free hfree
        have fin : Ev lc G mMd_put 164 [some (.ref 22), some (.int free)] [.int (imn (S.1 3 - nI 1) free), .int (nI 10), .ref 22] τ Q := by
          refine ev_cv okMd_put okMd_giveMany rfl rfl trivial rfl (by decide +kernel) rfl rfl (sp_giveMany a6.2.2.2 _ fun σ5 r1 r2 => ?_)
          have a7 := a6.out r2 r1
          have e34' : σ5.1 22 34 = S.1 9 := (a7.1 9 (by decide)).trans (by simp [upd])
          have e27' : σ5.1 22 27 = S.1 3 := (a7.1 3 (by decide)).trans (by simp [upd])
          have a8 := a7.set 9 (by decide) (σ5.1 22 34 + σ5.1 22 27)
          have f6 : Fq [40] [24, 34, 35, 36, 42, 29] σ5 (up2 σ5.1 22 34 (σ5.1 22 34 + σ5.1 22 27), σ5.2) := Fq.f1 (by decide)
          rw [e34', e27'] at a8 f6
          refine ev_cv okMd_put okMd_bottom rfl rfl trivial rfl (by decide +kernel) rfl rfl ?_
          rw [e34', e27']
          refine sp_bottomR a8 ?_
          have e9 : (up2 σ5.1 22 34 (S.1 9 + S.1 3), σ5.2).1 22 34 = S.1 9 + S.1 3 := (a8.1 9 (by decide)).trans (by simp [upd])
          have eb2 : bot (upd (upd (upd S.1 12 (N 12 + nI 1)) 2 (S.1 1)) 9 (S.1 9 + S.1 3)) = bot S.1 := by simp [bot, upd]
          rw [eb2]
          have eN : (pPut hd ft y (N, o)).1 = upd (upd (upd S.1 12 (N 12 + nI 1)) 2 (S.1 1)) 9 (S.1 9 + S.1 3) := by
            unfold pPut
            rw [eo]
            show upd (upd (upd S.1 2 (S.1 1)) 12 (S.1 12 + nI 1)) 9 (upd (upd S.1 2 (S.1 1)) 12 (S.1 12 + nI 1) 9 + S.1 3) = _
            rw [s12, upd_comm S.1 _ _ (show 12 ≠ 2 by decide)]
            simp [upd]
          have eO : (pPut hd ft y (N, o)).2 = if bot S.1 < S.1 9 + S.1 3 then emit (emit (emit (emit O (ux y)) [10]) (List.replicate (imn (S.1 3 - nI 1) free).toNatClampNeg 10)) (ttl ft (S.1 10).toNatClampNeg) else emit (emit (emit O (ux y)) [10]) (List.replicate (imn (S.1 3 - nI 1) free).toNatClampNeg 10) := by
            unfold pPut
            rw [eo, hfree]
            show (if bot (upd (upd S.1 2 (S.1 1)) 12 (S.1 12 + nI 1)) < upd (upd S.1 2 (S.1 1)) 12 (S.1 12 + nI 1) 9 + S.1 3 then emit _ (ttl ft (upd (upd S.1 2 (S.1 1)) 12 (S.1 12 + nI 1) 10).toNatClampNeg) else _) = _
            rw [show bot (upd (upd S.1 2 (S.1 1)) 12 (S.1 12 + nI 1)) = bot S.1 by simp [bot, upd], show upd (upd S.1 2 (S.1 1)) 12 (S.1 12 + nI 1) 9 = S.1 9 by simp [upd], show upd (upd S.1 2 (S.1 1)) 12 (S.1 12 + nI 1) 10 = S.1 10 by simp [upd]]
          have f7 := (f4.tr (r2.wk (by decide) (by decide))).tr f6
          refine ev_ic_le okMd_put rfl rfl trivial (fun g => ?_) (fun g => ?_)
          · rw [e9] at g
            refine ev_rv okMd_put rfl rfl trivial rfl (k _ ?_ f7)
            rw [eN, eO, if_neg (Int32.not_lt.mpr g)]
            exact a8
          · rw [e9] at g
            refine ev_cv okMd_put okMd_giveFoot rfl rfl trivial rfl (by decide +kernel) rfl rfl (sp_giveFoot a8 hb2 hB (((p1.keep (by decide) (by decide)).keep (by decide) (by decide)).keep (by decide) (by decide)) fun σ6 t1 t2 => ?_)
            refine ev_rv okMd_put rfl rfl trivial rfl (k _ ?_ (f7.tr (t2.wk (by decide) (by decide))))
            rw [eN, eO, if_pos (Int32.not_le.mp g)]
            rw [show upd (upd (upd S.1 12 (N 12 + nI 1)) 2 (S.1 1)) 9 (S.1 9 + S.1 3) 10 = S.1 10 by simp [upd]] at t1
            exact t1
        refine ev_ic_ge okMd_put rfl rfl trivial (fun g => ?_) (fun g => ?_)
        · rw [e27] at g
          refine ev_nop okMd_put rfl rfl trivial ?_
          have : imn (S.1 3 - nI 1) free = free := by rw [← imn_ge, if_pos g]
          rw [this] at fin
          exact fin
        · rw [e27] at g
          refine ev_goto okMd_put rfl rfl trivial ?_
          rw [e27]
          have : imn (S.1 3 - nI 1) free = S.1 3 - nI 1 := by rw [← imn_ge, if_neg g]
          rw [this] at fin
          exact fin
      refine ev_if_ge okMd_put rfl rfl trivial (fun g => ?_) (fun g => ?_)
      · rw [e34] at g
        refine ev_nop okMd_put rfl rfl trivial ?_
        rw [e34]
        exact ev_lv [some (.ref 22), none] ⟨rfl, trivial⟩ (last _ (by rw [← i0_ge, if_pos g]))
      · rw [e34] at g
        refine ev_goto okMd_put rfl rfl trivial ?_
        exact ev_lv [some (.ref 22), none] ⟨rfl, trivial⟩ (last _ (by rw [← i0_ge, if_neg g]))
    refine ev_if_le okMd_put rfl rfl trivial (fun g => ?_) (fun g => ?_)
    · rw [g2.2.1] at g
      have hz : y.length = 0 := by
        rcases Nat.eq_zero_or_pos y.length with q | q
        · exact q
        · exact absurd g (nI_nle q (by omega))
      have ey : y.isEmpty = true := List.isEmpty_iff.mpr (List.length_eq_zero_iff.mp hz)
      refine ev_nop okMd_put rfl rfl trivial ?_
      refine ev_cv okMd_put okMd_giveMany rfl rfl trivial rfl (by decide +kernel) rfl rfl (sp_giveMany g1.2.2.2 _ fun σ2 r1 r2 => ?_)
      refine tail σ2 ?_ (g2.fq r2 (by decide) (by decide) (by decide)) (g3.tr (r2.wk (by decide) (by decide)))
      rw [if_pos ey]
      have := g1.out r2 r1
      rw [show (nI 0).toNatClampNeg = 0 from nI_cl (by decide), List.replicate_zero, emit_nil g1.2.2.2.1] at this
      exact this
    · rw [g2.2.1] at g
      have hz : ¬ y.length = 0 := fun q => g (by rw [q]; decide)
      have ey : ¬ y.isEmpty = true := fun q => hz (by rw [List.isEmpty_iff.mp q]; rfl)
      refine ev_goto okMd_put rfl rfl trivial ?_
      refine ev_cv okMd_put okMd_giveMany rfl rfl trivial rfl (by decide +kernel) rfl rfl ?_
      rw [show σ1.1 22 29 = S.1 2 from (g1.1 2 (by decide)).trans (by simp [upd])]
      refine sp_giveMany g1.2.2.2 _ fun σ2 r1 r2 => ?_
      refine tail σ2 ?_ (g2.fq r2 (by decide) (by decide) (by decide)) (g3.tr (r2.wk (by decide) (by decide)))
      rw [if_neg ey]
      exact g1.out r2 r1
  have e34' : (up2 σ.1 22 42 (N 12 + nI 1), σ.2).1 22 34 = N 9 := (h1.1 9 (by decide)).trans (by simp [upd])
  have eb : bot (upd N 12 (N 12 + nI 1)) = bot N := by simp [bot, upd]
  rw [e42] at f1
  have head : (N 9 = 0 ∨ bot N < N 9) → Ev lc G mMd_put 28 [some (.ref 22), none] [] (up2 σ.1 22 42 (N 12 + nI 1), σ.2) Q := by
    intro hc
    refine ev_cv okMd_put okMd_giveHead rfl rfl trivial rfl (by decide +kernel) rfl rfl (sp_giveHead h1 hb (by omega) hp1 fun σ1 q1 q2 => body σ1 ?_ (hs1.fq q2 (by decide) (by decide) (by decide)) (f1.tr (q2.wk (by decide) (by decide))))
    have : pOpen0 hd (upd N 12 (N 12 + nI 1), o) = pHead hd (upd N 12 (N 12 + nI 1), o) := by
      unfold pOpen0
      rw [if_pos]
      show upd N 12 (N 12 + nI 1) 9 = 0 ∨ bot (upd N 12 (N 12 + nI 1)) < upd N 12 (N 12 + nI 1) 9
      rw [eb]
      simpa [upd] using hc
    rw [this]
    exact q1
  refine ev_if_eq okMd_put rfl rfl trivial (fun g => ?_) (fun g => ?_)
  · rw [e42, e34'] at g
    rw [e42]
    exact head (Or.inl g)
  · rw [e42, e34'] at g
    rw [e42]
    refine ev_cv okMd_put okMd_bottom rfl rfl trivial rfl (by decide +kernel) rfl rfl (sp_bottomR h1 ?_)
    rw [eb]
    refine ev_ic_le okMd_put rfl rfl trivial (fun g2 => ?_) (fun g2 => ?_)
    · rw [e34'] at g2
      refine body _ ?_ hs1 f1
      have : pOpen0 hd (upd N 12 (N 12 + nI 1), o) = (upd N 12 (N 12 + nI 1), o) := by
        unfold pOpen0
        rw [if_neg]
        show ¬ (upd N 12 (N 12 + nI 1) 9 = 0 ∨ bot (upd N 12 (N 12 + nI 1)) < upd N 12 (N 12 + nI 1) 9)
        rw [eb, show upd N 12 (N 12 + nI 1) 9 = N 9 by simp [upd]]
        rintro (q | q)
        · exact g q
        · exact absurd q (Int32.not_lt.mpr g2)
      rw [this]
      exact h1
    · rw [e34'] at g2
      exact head (Or.inr (Int32.not_le.mp g2))
/-- SPACE behind its BREAK -/
theorem sp_space4 (h : RgV σ N hd ft o) (hb : ∀ b ∈ hd, b < 128) (hb2 : ∀ b ∈ ft, b < 128) {B : Nat} (hB : B + 1 < 2 ^ 31) (hp : PB B N) {n : Int32} (k : ∀ σ', RgV σ' (pSkip hd ft n (N, o)).1 hd ft (pSkip hd ft n (N, o)).2 → Fq [40] [24, 34, 35, 36] σ σ' → Q none σ') : Ev lc G mMd_space 4 [some (.ref 22), some (.int n), none] [] σ Q := by
  have e4 : σ.1 22 34 = N 9 := h.1 9 (by decide)
  refine ev_cv okMd_space okMd_bottom rfl rfl trivial rfl (by decide +kernel) rfl rfl (sp_bottomR h ?_)
  refine ev_ic_le okMd_space rfl rfl trivial (fun g => ?_) (fun g => ?_)
  · rw [e4] at g
    have fin : ∀ σ1, RgV σ1 (pSkip1 hd (N, o)).1 hd ft (pSkip1 hd (N, o)).2 → PB (B + 1) (pSkip1 hd (N, o)).1 → Fq [40] [24, 34, 35, 36] σ σ1 → Ev lc G mMd_space 27 [some (.ref 22), some (.int n), none] [] σ1 Q := by
      have hsk : pSkip hd ft n (N, o) = pDown ft n ((pSkip1 hd (N, o)).1, emit (pSkip1 hd (N, o)).2 (List.replicate (imn n (bot (pSkip1 hd (N, o)).1 + nI 1 - (pSkip1 hd (N, o)).1 9)).toNatClampNeg 10)) := if_neg (Int32.not_lt.mpr g)
      generalize pSkip1 hd (N, o) = S at hsk ⊢
      intro σ1 h1 hp1 hf
      refine ev_cv okMd_space okMd_bottom rfl rfl trivial rfl (by decide +kernel) rfl rfl (sp_bottomR h1 ?_)
      have e9 : σ1.1 22 34 = S.1 9 := h1.1 9 (by decide)
      have last : ∀ l2 : Option Value, Ev lc G mMd_space 52 [some (.ref 22), some (.int n), none] [.int (imn n (bot S.1 + nI 1 - S.1 9)), .int (nI 10), .ref 22] σ1 Q := by
        intro _
        refine ev_cv okMd_space okMd_giveMany rfl rfl trivial rfl (by decide +kernel) rfl rfl (sp_giveMany h1.2.2.2 _ fun σ2 q1 q2 => ?_)
        have h2 := h1.out q2 q1
        have e9' : σ2.1 22 34 = S.1 9 := h2.1 9 (by decide)
        have h3 := h2.set 9 (by decide) (σ2.1 22 34 + n)
        rw [e9'] at h3
        refine ev_cv okMd_space okMd_bottom rfl rfl trivial rfl (by decide +kernel) rfl rfl ?_
        rw [e9']
        refine sp_bottomR h3 ?_
        have e10 : (up2 σ2.1 22 34 (S.1 9 + n), σ2.2).1 22 34 = S.1 9 + n := (h3.1 9 (by decide)).trans (by simp [upd])
        have eb : bot (upd S.1 9 (S.1 9 + n)) = bot S.1 := by simp [bot, upd]
        rw [eb]
        have hf2 : Fq [40] [24, 34, 35, 36] σ (up2 σ2.1 22 34 (S.1 9 + n), σ2.2) := (hf.tr (q2.wk (by decide) (by decide))).tr (Fq.f1 (by decide))
        refine ev_ic_le okMd_space rfl rfl trivial (fun g2 => ?_) (fun g2 => ?_)
        · rw [e10] at g2
          refine ev_rv okMd_space rfl rfl trivial rfl (k _ ?_ hf2)
          rw [hsk]
          show RgV _ (upd S.1 9 (S.1 9 + n)) hd ft (if bot S.1 < S.1 9 + n then _ else _)
          rw [if_neg (Int32.not_lt.mpr g2)]
          exact h3
        · rw [e10] at g2
          refine ev_cv okMd_space okMd_giveFoot rfl rfl trivial rfl (by decide +kernel) rfl rfl (sp_giveFoot h3 hb2 hB (hp1.keep (by decide) (by decide)) fun σ3 r1 r2 => ?_)
          refine ev_rv okMd_space rfl rfl trivial rfl (k _ ?_ (hf2.tr (r2.wk (by decide) (by decide))))
          rw [hsk]
          show RgV _ (upd S.1 9 (S.1 9 + n)) hd ft (if bot S.1 < S.1 9 + n then _ else _)
          rw [if_pos (Int32.not_le.mp g2)]
          rw [show upd S.1 9 (S.1 9 + n) 10 = S.1 10 by simp [upd]] at r1
          exact r1
      refine ev_ic_ge okMd_space rfl rfl trivial (fun g2 => ?_) (fun g2 => ?_)
      · rw [e9] at g2
        refine ev_nop okMd_space rfl rfl trivial ?_
        rw [e9]
        have : imn n (bot S.1 + nI 1 - S.1 9) = bot S.1 + nI 1 - S.1 9 := by rw [← imn_ge, if_pos g2]
        have l := last none
        rw [this] at l
        exact ev_lv [some (.ref 22), some (.int n), none] ⟨rfl, rfl, trivial⟩ l
      · rw [e9] at g2
        refine ev_goto okMd_space rfl rfl trivial ?_
        have : imn n (bot S.1 + nI 1 - S.1 9) = n := by rw [← imn_ge, if_neg g2]
        have l := last none
        rw [this] at l
        exact ev_lv [some (.ref 22), some (.int n), none] ⟨rfl, rfl, trivial⟩ l
    refine ev_if_ne okMd_space rfl rfl trivial (fun q => ?_) (fun q => ?_)
    · rw [e4] at q
      have : pSkip1 hd (N, o) = (N, o) := if_neg q
      refine fin σ ?_ ?_ Fq.rf
      · rw [this]; exact h
      · rw [this]; exact hp.mono (by omega)
    · rw [e4] at q
      have : pSkip1 hd (N, o) = pHead hd (N, o) := if_pos (by simpa using q)
      refine ev_cv okMd_space okMd_giveHead rfl rfl trivial rfl (by decide +kernel) rfl rfl (sp_giveHead h hb (by omega) hp fun σ1 q1 q2 => fin σ1 ?_ ?_ q2)
      · rw [this]; exact q1
      · rw [this]; exact pHead_PB hp
  · rw [e4] at g
    have : pSkip hd ft n (N, o) = (N, o) := if_pos (Int32.not_le.mp g)
    refine ev_rv okMd_space rfl rfl trivial rfl (k σ ?_ Fq.rf)
    rw [this]
    exact h
end RQ
