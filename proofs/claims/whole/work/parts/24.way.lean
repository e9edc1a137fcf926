/-! ===== parting: the class's way through its table ===== -/
section WW
variable {lc : Launch} {G : GG} {σ : St2} {Q : Option Value → St2 → Prop} {L lb wb U : List Nat} {r1 r2 n : Nat} {B : Nat → Nat → TE}
theorem min4000 {n : Nat} (h : n ≤ 4000) : (if nI 4000 < nI n then nI 4000 else nI n) = nI n := by
  rw [if_neg (fun q => absurd ((nI_ltI (by decide) (by omega)).mp q) (by omega))]
theorem sp_weighWays (hd : DP lb wb r1 r2 n B) (hb : PaB L lb wb U) (hr1 : r1 ≤ 80) (hr2 : r2 ≤ 80) (hn : lb.length = n + 1) (hp : PaV σ L lb wb U) (k : ∀ σ', TabC σ' n B 0 → SrV σ' L lb wb U r1 r2 → Fr [17, 18, 19] σ σ' → (∀ j, j ≠ 4 → j ≠ 5 → σ'.1 17 j = σ.1 17 j) → σ'.2 17 = σ.2 17 → Q none σ') :
    Ev lc G mPt_weighWays 0 [some (.ref 17), some (.ref 12), some (.int (nI r1)), some (.int (nI r2)), none, none] [] σ Q := by
  have h4 := hp.2.1.2.2.1
  have f0 : Fr [17, 18, 19] σ (up2 (up2 σ.1 17 4 (nI r1), σ.2).1 17 5 (nI r2), (up2 σ.1 17 4 (nI r1), σ.2).2) := Fr.tr (Fr.u1 (by decide)) (Fr.u1 (σ := (_, _)) (by decide))
  have p0 := hp.fr f0 (by decide)
  have s0 : SrV (up2 (up2 σ.1 17 4 (nI r1), σ.2).1 17 5 (nI r2), (up2 σ.1 17 4 (nI r1), σ.2).2) L lb wb U r1 r2 := ⟨p0, by simp [up2], by simp [up2]⟩
  have o0 : ∀ j, j ≠ 4 → j ≠ 5 → (up2 (up2 σ.1 17 4 (nI r1), σ.2).1 17 5 (nI r2), (up2 σ.1 17 4 (nI r1), σ.2).2).1 17 j = σ.1 17 j := by
    intro j h1 h2
    simp [up2, h1, h2]
  have l0 : (up2 (up2 σ.1 17 4 (nI r1), σ.2).1 17 5 (nI r2), (up2 σ.1 17 4 (nI r1), σ.2).2).2 17 = σ.2 17 := rfl
  refine ev_min okPt_weighWays rfl rfl trivial (by decide +kernel) rfl ?_
  generalize (up2 (up2 σ.1 17 4 (nI r1), σ.2).1 17 5 (nI r2), (up2 σ.1 17 4 (nI r1), σ.2).2) = τ at f0 p0 s0 o0 l0 ⊢
  rw [p0.2.1.2.2.2, hn, Nat.add_sub_cancel, min4000 (by omega)]
  -- down from the last place
  have down : ∀ (f : Nat) (σ1 : St2), f ≤ n → SrV σ1 L lb wb U r1 r2 → TabC σ1 n B f → Fr [18, 19] τ σ1 → Ev lc G mPt_weighWays 56 [some (.ref 17), some (.ref 12), none, none, some (.int (nI n)), some (.int (nI f - nI 1))] [] σ1 Q := by
    intro f
    induction f with
    | zero =>
      intro σ1 _ s1 s2 s3
      refine ev_if_lt okPt_weighWays rfl rfl trivial (fun g => ev_rv okPt_weighWays rfl rfl trivial rfl (k σ1 s2 s1 (f0.tr (s3.wk (by decide))) (fun j h1 h2 => ?_) ?_)) (fun g => absurd (by decide) g)
      · rw [s3.a1 (by decide)]; exact o0 j h1 h2
      · rw [s3.a2 (by decide)]; exact l0
    | succ f ih =>
      intro σ1 hf s1 s2 s3
      rw [pk_sub (by omega), Nat.add_sub_cancel]
      refine ev_if_lt okPt_weighWays rfl rfl trivial (fun g => absurd g (nI_neg (by omega))) (fun g => ?_)
      refine ev_cv okPt_weighWays okPt_weighLinesFrom rfl rfl trivial rfl (by decide +kernel) rfl rfl (sp_weighLinesFrom hd hb hr1 hr2 hn (by omega) s1 s2 fun σ2 q1 q2 => ?_)
      refine ev_goto okPt_weighWays rfl rfl trivial ?_
      rw [show nI f + mI 0 = nI f - nI 1 by rw [show mI 0 = -1 from rfl, show nI 1 = 1 from rfl, ← Int32.sub_eq_add_neg]]
      exact ih σ2 (by omega) (s1.fr q2) q1 (s3.tr q2)
  refine ev_nop okPt_weighWays rfl rfl trivial ?_
  have init : ∀ (r j : Nat) (σ1 : St2), j + r = 3 → SrV σ1 L lb wb U r1 r2 → (∀ q, q < j → σ1.2 18 (3 * n + q) = lN 0) → Fr [18, 19] τ σ1 → Ev lc G mPt_weighWays 25 [some (.ref 17), some (.ref 12), none, none, some (.int (nI n)), some (.int (nI j))] [] σ1 Q := by
    intro r
    induction r with
    | zero =>
      intro j σ1 hj s1 s2 s3
      have e3 : j = 3 := by omega
      subst e3
      refine ev_ic_ge okPt_weighWays rfl rfl trivial (fun g => ?_) (fun g => absurd (Int32.le_refl _) g)
      refine ev_nop okPt_weighWays rfl rfl trivial (down n σ1 (Nat.le_refl _) s1 (fun a ha hn' q hq => ?_) s3)
      have e : a = n := by omega
      subst e
      rw [hd.1 q]
      exact ⟨s2 q hq, fun z => absurd z (Nat.lt_irrefl _)⟩
    | succ r ihr =>
      intro j σ1 hj s1 s2 s3
      refine ev_ic_ge okPt_weighWays rfl rfl trivial (fun g => absurd g (nI_ge (by omega) (by decide))) (fun g => ?_)
      have eidx : nI 3 * nI n + nI j = nI (3 * n + j) := by rw [pk_mul, nI_add]
      refine ev_goto okPt_weighWays rfl rfl ⟨by rw [eidx]; exact vp_nI (by omega) (by decide), trivial⟩ ?_
      rw [eidx, nI_cl (by omega), nI_add]
      have hf1 : Fr [18, 19] σ1 (σ1.1, up2 σ1.2 18 (3 * n + j) (lN (0 : Fin 2).val)) := Fr.u2 (by decide)
      refine ihr (j + 1) _ (by omega) (s1.fr hf1) (fun q hq => ?_) (s3.tr hf1)
      show up2 σ1.2 18 (3 * n + j) (lN (0 : Fin 2).val) 18 (3 * n + q) = _
      by_cases e : q = j
      · subst e
        rw [up2_same]; rfl
      · rw [up2_col _ _ _ (by omega)]
        exact s2 q (by omega)
  exact ev_lv [some (.ref 17), some (.ref 12), none, none, some (.int (nI n)), some (.int (nI 0))] ⟨rfl, rfl, rfl, rfl, trivial⟩ (init 3 0 τ rfl s0 (fun q hq => absurd hq (Nat.not_lt_zero q)) Fr.rf)
/-- what is told of a line: LENGTH, SLACK, BADNESS, blanks, hyphen, ROOM -/
def fct (lb wb : List Nat) (r1 r2 n a b : Nat) : List Nat := [lnO lb wb a b, rmO r1 r2 a - lnO lb wb a b, bdO lb wb r1 r2 n a b, bln wb a b, (if hyp wb b then 1 else 0), rmO r1 r2 a]
theorem max0 {a b : Nat} (ha : a < 2 ^ 30) (hb : b < 2 ^ 30) : (if nI 0 < nI a - nI b then nI a - nI b else nI 0) = nI (a - b) := by
  by_cases h : b ≤ a
  · rw [pk_sub h]
    by_cases q : 0 < a - b
    · rw [if_pos (nI_lt q (by omega))]
    · rw [if_neg (fun z => q ((nI_ltI (by decide) (by omega)).mp z)), show a - b = 0 by omega]
  · have hn := pk_sneg (a := a) (b := b) hb (by omega)
    rw [if_neg (show ¬ nI 0 < nI a - nI b from fun z => absurd (Int32.lt_trans hn (show (0 : Int32) < _ from z)) Int32.lt_irrefl), show a - b = 0 by omega]
theorem row6 {σ' : St2} {F : List Nat} (h : RowAt σ' 21 F) {a b c d e f : Nat} (h0 : σ'.1 21 F.length = nI a) (h1 : σ'.1 21 (F.length + 1) = nI b) (h2 : σ'.1 21 (F.length + 2) = nI c) (h3 : σ'.1 21 (F.length + 3) = nI d) (h4 : σ'.1 21 (F.length + 4) = nI e) (h5 : σ'.1 21 (F.length + 5) = nI f) : RowAt σ' 21 (F ++ [a, b, c, d, e, f]) := by
  intro j hj
  rw [List.length_append] at hj
  simp only [List.length_cons, List.length_nil] at hj
  by_cases e1 : j < F.length
  · rw [h j e1]
    simp [List.getElem?_append_left e1]
  · obtain ⟨i, rfl⟩ : ∃ i, j = F.length + i := ⟨j - F.length, by omega⟩
    have hi : i < 6 := by omega
    rw [List.getD_eq_getElem?_getD, List.getElem?_append_right (by omega), Nat.add_sub_cancel_left]
    rcases (show i = 0 ∨ i = 1 ∨ i = 2 ∨ i = 3 ∨ i = 4 ∨ i = 5 by omega) with rfl | rfl | rfl | rfl | rfl | rfl
    · exact h0
    · exact h1
    · exact h2
    · exact h3
    · exact h4
    · exact h5
/-- what the class tells of lines: ends E, facts F -/
def LnV (σ : St2) (E F : List Nat) : Prop := E.length ≤ 4000 ∧ F.length = 6 * E.length ∧ σ.1 17 6 = nI E.length ∧ RowAt σ 20 E ∧ RowAt σ 21 F
theorem sp_recordLine {E F : List Nat} (hb : PaB L lb wb U) (hr1 : r1 ≤ 80) (hr2 : r2 ≤ 80) (hn : lb.length = n + 1) (hs : SrV σ L lb wb U r1 r2) (hl : LnV σ E F) (hE : E.length < 4000) {a b : Nat} (hab : a < b) (hbn : b ≤ n)
    (k : ∀ σ', RowAt σ' 20 (E ++ [b]) → RowAt σ' 21 (F ++ fct lb wb r1 r2 n a b) → Fr [20, 21] σ σ' → Q none σ') :
    Ev lc G mPt_recordLine 0 [some (.ref 17), some (.ref 12), some (.int (nI a)), some (.int (nI b)), some (.int (b2 (decide (b = n)))), none, none, none, none] [] σ Q := by
  have h4 := hs.1.2.1.2.2.1
  obtain ⟨l1, l2, l3, l4, l5⟩ := hl
  have hrm : rmO r1 r2 a ≤ 80 := by unfold rmO; split <;> omega
  have hln : lnO lb wb a b ≤ 8081 := by
    have h1 := hb.2.2.1 b
    have h2 := hb.2.2.2.1 (b - 1)
    have h3 := hs.1.1.1
    have h5 := hs.1.2.2.2.2.1
    unfold lnO ltr bln
    split <;> omega
  have hbl : bln wb a b ≤ 80 := by
    have h2 := hb.2.2.2.1 (b - 1)
    have h5 := hs.1.2.2.2.2.1
    unfold bln
    omega
  refine ev_cv okPt_recordLine okPt_roomFrom rfl rfl trivial rfl (by decide +kernel) rfl rfl (sp_roomFrom hs.2.1 hs.2.2 (by omega) ?_)
  refine ev_cv okPt_recordLine okPa_lengthOf rfl rfl trivial rfl (by decide +kernel) rfl rfl (sp_lengthOf hs.1 hb hab (by omega) ?_)
  refine ev_cv okPt_recordLine okPa_blanksIn rfl rfl trivial rfl (by decide +kernel) rfl rfl (sp_blanksIn hs.1 hb hab (by omega) ?_)
  have e6 : nI 6 * σ.1 17 6 = nI (6 * E.length) := by rw [l3, pk_mul]
  have idx : ∀ d, d < 6 → vp_in (nI (6 * E.length) + nI d) 24000 ∧ (nI (6 * E.length) + nI d).toNatClampNeg = F.length + d := by
    intro d hd'
    rw [nI_add, nI_cl (by omega), l2]
    exact ⟨vp_nI (by omega) (by decide), rfl⟩
  have vE : vp_in (σ.1 17 6) 4000 := by rw [l3]; exact vp_nI hE (by decide)
  have e20 : (up2 σ.1 20 (σ.1 17 6).toNatClampNeg (nI b), σ.2).1 17 6 = σ.1 17 6 := by simp [up2]
  refine ev_max okPt_recordLine rfl rfl ⟨vE, by rw [e6]; exact (idx 0 (by decide)).1, trivial⟩ (by decide +kernel) rfl ?_
  rw [e6, (idx 0 (by decide)).2, max0 (by omega) (by omega), l3, nI_cl (by omega)]
  generalize hS0 : (up2 (up2 σ.1 20 E.length (nI b), σ.2).1 21 (F.length + 0) (nI (lnO lb wb a b)), (up2 σ.1 20 E.length (nI b), σ.2).2) = τ0
  have g0 : Fr [20, 21] σ τ0 := by rw [← hS0]; exact Fr.tr (Fr.u1 (by decide)) (Fr.u1 (σ := (_, _)) (by decide))
  have r20 : RowAt τ0 20 (E ++ [b]) := by
    rw [← hS0]
    refine RowAt.push l4 ?_ (fun j hj => ?_)
    · simp [up2]
    · simp [up2, Nat.ne_of_lt hj]
  have c0 : τ0.1 21 F.length = nI (lnO lb wb a b) := by rw [← hS0]; simp [up2]
  have o0 : ∀ j, j < F.length → τ0.1 21 j = σ.1 21 j := by intro j hj; rw [← hS0]; simp [up2, Nat.ne_of_lt hj]
  refine ev_cs okPt_recordLine okPt_badnessOf rfl rfl ⟨(idx 1 (by decide)).1, trivial⟩ rfl (by decide +kernel) rfl rfl (sp_badnessOf (by omega) hrm hbl ?_)
  show Ev lc G mPt_recordLine 90 _ (psh (some (.int (nI (bdO lb wb r1 r2 n a b)))) _) _ Q
  rw [(idx 1 (by decide)).2]
  refine ev_cv okPt_recordLine okPa_isHyphen rfl rfl ⟨(idx 2 (by decide)).1, (idx 3 (by decide)).1, trivial⟩ rfl (by decide +kernel) rfl rfl ?_
  rw [(idx 2 (by decide)).2, (idx 3 (by decide)).2]
  generalize hS1 : (up2 (up2 (up2 τ0.1 21 (F.length + 1) (nI (rmO r1 r2 a - lnO lb wb a b)), τ0.2).1 21 (F.length + 2) (nI (bdO lb wb r1 r2 n a b)), (up2 τ0.1 21 (F.length + 1) (nI (rmO r1 r2 a - lnO lb wb a b)), τ0.2).2).1 21 (F.length + 3) (nI (bln wb a b)), (up2 (up2 τ0.1 21 (F.length + 1) (nI (rmO r1 r2 a - lnO lb wb a b)), τ0.2).1 21 (F.length + 2) (nI (bdO lb wb r1 r2 n a b)), (up2 τ0.1 21 (F.length + 1) (nI (rmO r1 r2 a - lnO lb wb a b)), τ0.2).2).2) = τ1
  have g1 : Fr [20, 21] τ0 τ1 := by rw [← hS1]; exact Fr.tr (Fr.tr (Fr.u1 (by decide)) (Fr.u1 (σ := (_, _)) (by decide))) (Fr.u1 (σ := (_, _)) (by decide))
  have p1 := hs.1.fr (g0.tr g1) (by decide)
  refine sp_isHyphen p1 hb (by omega) ?_
  have fin : ∀ v : Nat, v = (if hyp wb b then 1 else 0) → Ev lc G mPt_recordLine 123 [some (.ref 17), some (.ref 12), some (.int (nI a)), some (.int (nI b)), some (.int (b2 (decide (b = n)))), some (.int (nI (rmO r1 r2 a))), some (.int (nI (lnO lb wb a b))), some (.int (nI (bln wb a b))), some (.int (nI (6 * E.length)))] [.int (nI v), .int (nI (6 * E.length) + nI 4), .ref 21] τ1 Q := by
    intro v hv
    refine ev_rv okPt_recordLine rfl rfl ⟨(idx 4 (by decide)).1, (idx 5 (by decide)).1, trivial⟩ rfl ?_
    rw [(idx 4 (by decide)).2, (idx 5 (by decide)).2]
    refine k _ ?_ ?_ ?_
    · have g2 : Fr [21] τ0 (up2 (up2 τ1.1 21 (F.length + 4) (nI v), τ1.2).1 21 (F.length + 5) (nI (rmO r1 r2 a)), (up2 τ1.1 21 (F.length + 4) (nI v), τ1.2).2) := by
        rw [← hS1]
        exact Fr.tr (Fr.tr (Fr.tr (Fr.tr (Fr.u1 (by decide)) (Fr.u1 (σ := (_, _)) (by decide))) (Fr.u1 (σ := (_, _)) (by decide))) (Fr.u1 (σ := (_, _)) (by decide))) (Fr.u1 (σ := (_, _)) (by decide))
      exact r20.fr g2 (by decide)
    · unfold fct
      rw [← hv, ← hS1]
      refine row6 (fun j hj => ?_) ?_ ?_ ?_ ?_ ?_ ?_
      · have n1 : j ≠ F.length + 1 := by omega
        have n2 : j ≠ F.length + 2 := by omega
        have n3 : j ≠ F.length + 3 := by omega
        have n4 : j ≠ F.length + 4 := by omega
        have n5 : j ≠ F.length + 5 := by omega
        rw [← l5 j hj, ← o0 j hj]
        simp [up2, n1, n2, n3, n4, n5]
      · simp [up2, c0]
      · simp [up2]
      · simp [up2]
      · simp [up2]
      · simp [up2]
      · simp [up2]
    · exact (g0.tr g1).tr (Fr.tr (Fr.u1 (by decide)) (Fr.u1 (σ := (_, _)) (by decide)))
  refine ev_if_eq okPt_recordLine rfl rfl trivial (fun q => ?_) (fun q => ?_)
  · have e : hyp wb b = false := by
      cases z : hyp wb b with
      | false => rfl
      | true => rw [z] at q; exact absurd q (by decide)
    exact ev_nop okPt_recordLine rfl rfl trivial (fin 0 (by rw [e]; rfl))
  · have e : hyp wb b = true := by
      cases z : hyp wb b with
      | true => rfl
      | false => rw [z] at q; exact absurd rfl q
    exact ev_goto okPt_recordLine rfl rfl trivial (fin 1 (by rw [e]; rfl))
/-- the way through the table: each line's beginning and end -/
def wy (lb wb : List Nat) (r1 r2 n : Nat) (B : Nat → Nat → TE) : Nat → Nat → Nat → List (Nat × Nat)
  | 0, _, _ => []
  | m + 1, a, k => if a < n then (a, (B a k).2.2) :: wy lb wb r1 r2 n B m (B a k).2.2 (kO lb wb r1 r2 n a (B a k).2.2) else []
theorem lp_take (hd : DP lb wb r1 r2 n B) (hb : PaB L lb wb U) (hr1 : r1 ≤ 80) (hr2 : r2 ≤ 80) (hn : lb.length = n + 1) (l2 : Option Value) : ∀ (m a kd : Nat) (σ : St2) (E F : List Nat), n ≤ a + m → a ≤ n → kd < 3 → E.length ≤ a → SrV σ L lb wb U r1 r2 → TabC σ n B 0 → LnV σ E F →
    (∀ σ', LnV σ' (E ++ (wy lb wb r1 r2 n B m a kd).map (fun q => q.2)) (F ++ (wy lb wb r1 r2 n B m a kd).flatMap (fun q => fct lb wb r1 r2 n q.1 q.2)) → Fr [17, 20, 21] σ σ' → (∀ j, j ≠ 6 → σ'.1 17 j = σ.1 17 j) → σ'.2 17 = σ.2 17 → Q none σ') →
    Ev lc G mPt_takeBestWay 35 [some (.ref 17), some (.ref 12), some (.int (nI n)), some (.int (nI a)), some (.int (nI kd)), none] [] σ Q := by
  intro m
  induction m with
  | zero =>
    intro a kd σ E F hm ha hkd hE hs ht hl k
    have h4 := hs.1.2.1.2.2.1
    simp only [wy, List.map_nil, List.flatMap_nil, List.append_nil] at k
    refine ev_if_lt okPt_takeBestWay rfl rfl trivial (fun g => absurd g (nI_neg (by omega))) (fun g => ?_)
    exact ev_ic_ge okPt_takeBestWay rfl rfl trivial (fun g => ev_rv okPt_takeBestWay rfl rfl trivial rfl (k σ hl Fr.rf (fun _ _ => rfl) rfl)) (fun g => absurd (nI_le (by omega) (by omega)) g)
  | succ m ih =>
    intro a kd σ E F hm ha hkd hE hs ht hl k
    have h4 := hs.1.2.1.2.2.1
    rw [wy] at k
    refine ev_if_lt okPt_takeBestWay rfl rfl trivial (fun g => absurd g (nI_neg (by omega))) (fun g => ?_)
    by_cases hlt : a < n
    · simp only [if_pos hlt] at k
      obtain ⟨d1, d2⟩ := DP_end hd (k := kd) hlt
      have tc := (ht a (by omega) (by omega) kd hkd).2 hlt
      generalize hbb : (B a kd).2.2 = b at *
      refine ev_ic_ge okPt_takeBestWay rfl rfl trivial (fun g => absurd g (nI_ge hlt (by omega))) (fun g => ?_)
      refine ev_ic_ge okPt_takeBestWay rfl rfl trivial (fun g => absurd g (by rw [hl.2.2.1]; exact nI_ge (by omega) (by decide))) (fun g => ?_)
      have eidx : nI 3 * nI a + nI kd = nI (3 * a + kd) := by rw [pk_mul, nI_add]
      have vp : vp_in (nI 3 * nI a + nI kd) 12003 := by rw [eidx]; exact vp_nI (by omega) (by decide)
      have ev : σ.1 19 (nI 3 * nI a + nI kd).toNatClampNeg = nI b := by rw [eidx, nI_cl (by omega)]; exact tc
      have rcd : Ev lc G mPt_takeBestWay 83 [some (.ref 17), some (.ref 12), some (.int (nI n)), some (.int (nI a)), some (.int (nI kd)), some (.int (nI b))] [.int (b2 (decide (b = n))), .int (nI b), .int (nI a), .ref 12, .ref 17] σ Q := by
        refine ev_cv okPt_takeBestWay okPt_recordLine rfl rfl trivial rfl (by decide +kernel) rfl rfl (sp_recordLine hb hr1 hr2 hn hs hl (by omega) d1 d2 fun σ1 q1 q2 q3 => ?_)
        have c6 : σ1.1 17 6 = nI E.length := by rw [q3.a1 (by decide)]; exact hl.2.2.1
        have hF := hl.2.1
        have e6 : nI 6 * σ1.1 17 6 + nI 2 = nI (F.length + 2) := by rw [c6, pk_mul, nI_add, hF]
        have vf : σ1.1 21 (F.length + 2) = nI (bdO lb wb r1 r2 n a b) := by
          have := q2 (F.length + 2) (by simp [fct])
          rw [this]
          simp [fct, List.getElem?_append_right]
        have hE4 := hl.1
        refine ev_cs okPt_takeBestWay okPt_kindOf rfl rfl ⟨by rw [e6]; exact vp_nI (by omega) (by decide), trivial⟩ rfl (by decide +kernel) rfl rfl ?_
        rw [e6, nI_cl (by omega), vf]
        have hbd : bdO lb wb r1 r2 n a b ≤ 10000 := bdO_le a b
        refine sp_kindOf (by omega) ?_
        refine ev_goto okPt_takeBestWay rfl rfl trivial ?_
        rw [c6, nI_add]
        have hf1 : Fr [17, 20, 21] σ1 (up2 σ1.1 17 6 (nI (E.length + 1)), σ1.2) := Fr.u1 (by decide)
        have hf2 : Fr [17] σ1 (up2 σ1.1 17 6 (nI (E.length + 1)), σ1.2) := Fr.u1 (by decide)
        have q3' : Fr [17, 20, 21] σ σ1 := q3.wk (by decide)
        have hf3 := q3'.tr hf1
        refine ev_lv [some (.ref 17), some (.ref 12), some (.int (nI n)), some (.int (nI b)), some (.int (nI (kO lb wb r1 r2 n a b))), none] ⟨rfl, rfl, rfl, rfl, rfl, trivial⟩ (ih b (kO lb wb r1 r2 n a b) _ (E ++ [b]) (F ++ fct lb wb r1 r2 n a b) (by omega) d2 (kO_lt a b) (by simp; omega) ?_ ?_ ?_ (fun σ' r1' r2' r3' r4' => k σ' ?_ (hf3.tr r2') (fun j hj => ?_) ?_))
        · exact ⟨hs.1.fr hf3 (by decide), by
            dsimp only
            rw [up2_col _ _ _ (by decide), q3.a1 (by decide)]; exact hs.2.1, by
            dsimp only
            rw [up2_col _ _ _ (by decide), q3.a1 (by decide)]; exact hs.2.2⟩
        · intro a' h1 h2 k' h3
          rw [hf3.a2 (by decide), hf3.a1 (by decide)]
          exact ht a' h1 h2 k' h3
        · refine ⟨by simp; omega, by simp [fct, hF]; omega, ?_, q1.fr hf2 (by decide), q2.fr hf2 (by decide)⟩
          dsimp only
          rw [up2_same]
          simp
        · simp only [List.map_cons, List.flatMap_cons] at *
          rw [List.append_assoc, List.append_assoc] at r1'
          exact r1'
        · rw [r3' j hj]
          dsimp only
          rw [up2_col _ _ _ hj, q3.a1 (by decide)]
        · rw [r4']
          show σ1.2 17 = _
          rw [q3.a2 (by decide)]
      refine ev_ic_ne okPt_takeBestWay rfl rfl ⟨vp, trivial⟩ (fun g => ?_) (fun g => ?_)
      · rw [ev] at g
        have e : ¬ b = n := fun q => g (by rw [q])
        rw [decide_eq_false e] at rcd
        refine ev_nop okPt_takeBestWay rfl rfl trivial ?_
        rw [ev]
        exact rcd
      · rw [ev] at g
        have e : b = n := (nI_eq (by omega) (by omega)).mp (by simpa using g)
        rw [decide_eq_true e] at rcd
        refine ev_goto okPt_takeBestWay rfl rfl trivial ?_
        rw [ev]
        exact rcd
    · simp only [if_neg hlt, List.map_nil, List.flatMap_nil, List.append_nil] at k
      exact ev_ic_ge okPt_takeBestWay rfl rfl trivial (fun g => ev_rv okPt_takeBestWay rfl rfl trivial rfl (k σ hl Fr.rf (fun _ _ => rfl) rfl)) (fun g => absurd (nI_le (by omega) (by omega)) g)
theorem sp_takeBestWay (hd : DP lb wb r1 r2 n B) (hb : PaB L lb wb U) (hr1 : r1 ≤ 80) (hr2 : r2 ≤ 80) (hn : lb.length = n + 1) (hs : SrV σ L lb wb U r1 r2) (ht : TabC σ n B 0)
    (k : ∀ σ', LnV σ' ((wy lb wb r1 r2 n B n 0 1).map (fun q => q.2)) ((wy lb wb r1 r2 n B n 0 1).flatMap (fun q => fct lb wb r1 r2 n q.1 q.2)) → σ'.2 17 7 = lN (B 0 1).1 → Fr [17, 20, 21] σ σ' → Q none σ') :
    Ev lc G mPt_takeBestWay 0 [some (.ref 17), some (.ref 12), none, none, none, none] [] σ Q := by
  have h4 := hs.1.2.1.2.2.1
  refine ev_min okPt_takeBestWay rfl rfl trivial (by decide +kernel) rfl ?_
  rw [hs.1.2.1.2.2.2, hn, Nat.add_sub_cancel, min4000 (by omega)]
  have t0 := (ht 0 (by omega) (by omega) 1 (by decide)).1
  obtain ⟨b1, b2⟩ := DP_bd hd n 0 1 (by omega)
  have b3 : n * 100038001 ≤ 4000 * 100038001 := Nat.mul_le_mul_right _ (by omega)
  have e0 : (up2 σ.1 17 6 (nI 0), σ.2).2 18 (nI 1).toNatClampNeg = lN (8192 * (B 0 1).1 + (B 0 1).2.1) := t0
  refine ev_nop okPt_takeBestWay rfl rfl ⟨vp_nI (by decide) (by decide), by decide, trivial⟩ ?_
  rw [e0, pk_lDiv (by omega) (by decide) (by decide)]
  have e1 : (8192 * (B 0 1).1 + (B 0 1).2.1) / 8192 = (B 0 1).1 := by omega
  rw [e1]
  have f0 : Fr [17, 20, 21] σ ((up2 σ.1 17 6 (nI 0), σ.2).1, up2 (up2 σ.1 17 6 (nI 0), σ.2).2 17 7 (lN (B 0 1).1)) := Fr.tr (Fr.u1 (by decide)) (Fr.u2 (σ := (_, _)) (by decide))
  refine lp_take hd hb hr1 hr2 hn none n 0 1 _ [] [] (by omega) (by omega) (by decide) (by decide) ⟨hs.1.fr f0 (by decide), ?_, ?_⟩ (fun a h1 h2 q h3 => ?_) ⟨by decide, rfl, ?_, RowAt.nil, RowAt.nil⟩ (fun σ' q1 q2 q3 q4 => k σ' ?_ ?_ (f0.tr q2))
  · dsimp only
    rw [up2_col _ _ _ (by decide)]; exact hs.2.1
  · dsimp only
    rw [up2_col _ _ _ (by decide)]; exact hs.2.2
  · rw [f0.a2 (by decide), f0.a1 (by decide)]
    exact ht a h1 h2 q h3
  · dsimp only
    rw [up2_same]; rfl
  · simpa using q1
  · rw [q4]
    dsimp only
    rw [up2_same]
theorem sp_endOf {E F : List Nat} (hl : LnV σ E F) {i : Nat} (hi : i < E.length) (k : Q (some (.int (nI (E.getD i 0)))) σ) : Ev lc G mPt_endOf 0 [some (.ref 17), some (.int (nI i))] [] σ Q := by
  have h1 := hl.1
  refine ev_if_lt okPt_endOf rfl rfl trivial (fun g => absurd g (nI_neg (by omega))) (fun g => ?_)
  refine ev_ic_ge okPt_endOf rfl rfl trivial (fun g => absurd g (by rw [hl.2.2.1]; exact nI_ge hi (by omega))) (fun g => ?_)
  refine ev_goto okPt_endOf rfl rfl ⟨vp_nI (by omega) (by decide), trivial⟩ (ev_ri okPt_endOf rfl rfl trivial rfl ?_)
  rw [nI_cl (by omega), hl.2.2.2.1 i hi]
  exact k
/-- what line(i, what) answers -/
def lnQ (E F : List Nat) (i w : Int32) : Int32 := if i < 0 then mI 0 else if i < nI E.length then (if w < 0 then mI 1 else if nI 6 ≤ w then mI 1 else nI (F.getD (6 * i.toNatClampNeg + w.toNatClampNeg) 0)) else mI 0
theorem sp_fact {E F : List Nat} (hl : LnV σ E F) {i w : Int32} (k : Q (some (.int (lnQ E F i w))) σ) : Ev lc G mPt_fact 0 [some (.ref 17), some (.int i), some (.int w)] [] σ Q := by
  have h1 := hl.1
  have h2 := hl.2.1
  unfold lnQ at k
  refine ev_if_lt okPt_fact rfl rfl trivial (fun g => ?_) (fun g => ?_)
  · rw [if_pos g] at k
    exact ev_ri okPt_fact rfl rfl trivial rfl k
  · rw [if_neg g] at k
    refine ev_ic_lt okPt_fact rfl rfl trivial (fun g2 => ?_) (fun g2 => ?_)
    · rw [hl.2.2.1] at g2
      rw [if_pos g2] at k
      refine ev_if_lt okPt_fact rfl rfl trivial (fun g3 => ?_) (fun g3 => ?_)
      · rw [if_pos g3] at k
        exact ev_nop okPt_fact rfl rfl trivial (ev_ri okPt_fact rfl rfl trivial rfl k)
      · rw [if_neg g3] at k
        refine ev_ic_ge okPt_fact rfl rfl trivial (fun g4 => ?_) (fun g4 => ?_)
        · rw [if_pos g4] at k
          exact ev_nop okPt_fact rfl rfl trivial (ev_ri okPt_fact rfl rfl trivial rfl k)
        · rw [if_neg g4] at k
          obtain ⟨i', hi', rfl⟩ := nI_of g
          obtain ⟨w', hw', rfl⟩ := nI_of g3
          have hi2 : i' < E.length := (nI_ltI hi' (by omega)).mp g2
          have hw2 : w' < 6 := (Nat.lt_or_ge w' 6).resolve_right (fun q => g4 (nI_le q hw'))
          rw [nI_cl hi', nI_cl hw'] at k
          have e : nI 6 * nI i' + nI w' = nI (6 * i' + w') := by rw [pk_mul, nI_add]
          refine ev_goto okPt_fact rfl rfl ⟨by rw [e]; exact vp_nI (by omega) (by decide), trivial⟩ (ev_ri okPt_fact rfl rfl trivial rfl ?_)
          rw [e, nI_cl (by omega), hl.2.2.2.2 _ (by omega)]
          exact k
    · rw [hl.2.2.1] at g2
      rw [if_neg g2] at k
      exact ev_ri okPt_fact rfl rfl trivial rfl k
end WW
