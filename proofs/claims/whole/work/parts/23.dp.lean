/-! ===== parting: the table of least sums, and the class's search ===== -/
abbrev TE : Type := Nat × Nat × Nat
def lxl (x y : Nat × Nat) : Prop := x.1 < y.1 ∨ (x.1 = y.1 ∧ x.2 < y.2)
theorem lxl_dec (x y : Nat × Nat) : lxl x y ∨ ¬ lxl x y := Classical.em _
noncomputable def accU (acc : Option TE) (c : Nat × Nat) (b : Nat) : Option TE := match acc with
  | none => some (c.1, c.2, b)
  | some y => if c.1 < y.1 ∨ (c.1 = y.1 ∧ c.2 < y.2.1) then some (c.1, c.2, b) else some y
noncomputable def scn (leg : Nat → Bool) (cand : Nat → Nat × Nat) : Nat → Nat → Option TE → Option TE
  | 0, _, acc => acc
  | m + 1, b, acc => if leg b = true then scn leg cand m (b + 1) (accU acc (cand b) b) else acc
section DPM
variable (lb wb : List Nat) (r1 r2 n : Nat) (B : Nat → Nat → TE)
def bdO (a b : Nat) : Nat := bad (lnO lb wb a b) (rmO r1 r2 a) (bln wb a b) (decide (b = n))
def kO (a b : Nat) : Nat := kdO (bdO lb wb r1 r2 n a b)
def legO (a b : Nat) : Bool := decide (b = a + 1 ∨ lnO lb wb a b ≤ rmO r1 r2 a)
def cndO (a k b : Nat) : Nat × Nat := (plnD wb a b (bdO lb wb r1 r2 n a b) + clsh k (kO lb wb r1 r2 n a b) + (B b (kO lb wb r1 r2 n a b)).1, (B b (kO lb wb r1 r2 n a b)).2.1 + 1)
/-- B is the table: of the least sum from a on, if the line before has the KIND k; its lines; where its first line ends -/
def DP : Prop := (∀ k, B n k = (0, 0, 0)) ∧ ∀ a k, a < n → scn (legO lb wb r1 r2 a) (cndO lb wb r1 r2 n B a k) (n - a) (a + 1) none = some (B a k)
end DPM
theorem accU_mem {acc : Option TE} {c : Nat × Nat} {b : Nat} {r : TE} (h : accU acc c b = some r) : acc = some r ∨ r = (c.1, c.2, b) := by
  unfold accU at h
  split at h
  · cases h; exact Or.inr rfl
  · split at h
    · cases h; exact Or.inr rfl
    · exact Or.inl h
theorem scn_mem {leg : Nat → Bool} {cand : Nat → Nat × Nat} : ∀ (m b : Nat) (acc : Option TE) {r : TE}, scn leg cand m b acc = some r → acc = some r ∨ ∃ b', b ≤ b' ∧ b' < b + m ∧ leg b' = true ∧ r = ((cand b').1, (cand b').2, b')
  | 0, b, acc, r, h => Or.inl h
  | m + 1, b, acc, r, h => by
    rw [scn] at h
    split at h
    · rename_i hl
      rcases scn_mem m (b + 1) _ h with h | ⟨b', h1, h2, h3, h4⟩
      · rcases accU_mem h with h | h
        · exact Or.inl h
        · exact Or.inr ⟨b, by omega, by omega, hl, h⟩
      · exact Or.inr ⟨b', by omega, by omega, h3, h4⟩
    · exact Or.inl h
section DPS
variable {lb wb : List Nat} {r1 r2 n : Nat} {B : Nat → Nat → TE}
theorem bdO_le (a b : Nat) : bdO lb wb r1 r2 n a b ≤ 10000 := bad_le _ _ _ _
theorem kO_lt (a b : Nat) : kO lb wb r1 r2 n a b < 3 := kdO_lt _
theorem DP_at (h : DP lb wb r1 r2 n B) {a k : Nat} (ha : a < n) : ∃ b, a < b ∧ b ≤ n ∧ legO lb wb r1 r2 a b = true ∧ B a k = ((cndO lb wb r1 r2 n B a k b).1, (cndO lb wb r1 r2 n B a k b).2, b) := by
  rcases scn_mem _ _ _ (h.2 a k ha) with q | ⟨b, h1, h2, h3, h4⟩
  · cases q
  · exact ⟨b, by omega, by omega, h3, h4⟩
theorem DP_bd (h : DP lb wb r1 r2 n B) : ∀ (m a k : Nat), a + m = n → (B a k).1 ≤ m * 100038001 ∧ (B a k).2.1 ≤ m := by
  intro m
  induction m using Nat.strongRecOn with
  | _ m ih =>
    intro a k ha
    by_cases hm : m = 0
    · have e : a = n := by omega
      subst e
      rw [h.1 k]
      simp
    · obtain ⟨b, h1, h2, -, h4⟩ := DP_at h (k := k) (show a < n by omega)
      rw [h4]
      obtain ⟨i1, i2⟩ := ih (n - b) (by omega) b (kO lb wb r1 r2 n a b) (by omega)
      have h5 := plnD_le (wb := wb) (a := a) (b := b) (bdO_le (lb := lb) (wb := wb) (r1 := r1) (r2 := r2) (n := n) a b)
      have h6 := clsh_le k (kO lb wb r1 r2 n a b)
      have h7 : (n - b) * 100038001 + 100038001 ≤ m * 100038001 := by
        have : (n - b + 1) * 100038001 ≤ m * 100038001 := Nat.mul_le_mul_right _ (by omega)
        rwa [Nat.add_mul, Nat.one_mul] at this
      simp only [cndO]
      constructor <;> omega
theorem DP_end (h : DP lb wb r1 r2 n B) {a k : Nat} (ha : a < n) : a < (B a k).2.2 ∧ (B a k).2.2 ≤ n := by
  obtain ⟨b, h1, h2, -, h4⟩ := DP_at h (k := k) ha
  rw [h4]
  exact ⟨h1, h2⟩
end DPS
/-- the class's table: costs and ends, from the place a0 on -/
def TabC (σ : St2) (n : Nat) (B : Nat → Nat → TE) (a0 : Nat) : Prop := ∀ a, a0 ≤ a → a ≤ n → ∀ k, k < 3 → σ.2 18 (3 * a + k) = lN (8192 * (B a k).1 + (B a k).2.1) ∧ (a < n → σ.1 19 (3 * a + k) = nI (B a k).2.2)
def AccAt (σ : St2) (i : Nat) (acc : Option TE) : Prop := match acc with
  | none => σ.2 18 i = lN 9223372036854775807
  | some y => σ.2 18 i = lN (8192 * y.1 + y.2.1) ∧ σ.1 19 i = nI y.2.2 ∧ y.2.1 < 8192 ∧ 8192 * y.1 + y.2.1 < 2 ^ 62
theorem kif_c (σ : St2) (i j : Nat) (to : Int32) (c : Int64) (h : j ≠ i) : (kif σ i to c).2 18 j = σ.2 18 j ∧ (kif σ i to c).1 19 j = σ.1 19 j := by
  unfold kif
  split
  · exact ⟨up2_col σ.2 18 c h, up2_col σ.1 19 to h⟩
  · exact ⟨rfl, rfl⟩
theorem kif_fr (σ : St2) (i : Nat) (to : Int32) (c : Int64) : Fr [18, 19] σ (kif σ i to c) := by
  unfold kif
  split
  · exact Fr.tr (Fr.u1 (by decide)) (Fr.u2 (σ := (up2 σ.1 19 i to, σ.2)) (by decide))
  · exact Fr.rf
theorem kif_acc {σ : St2} {i s l b : Nat} {acc : Option TE} (h : AccAt σ i acc) (hl : l < 8192) (hs : 8192 * s + l < 2 ^ 62) : AccAt (kif σ i (nI b) (lN (8192 * s + l))) i (accU acc (s, l) b) := by
  have set : ∀ σ : St2, lN (8192 * s + l) < σ.2 18 i → AccAt (kif σ i (nI b) (lN (8192 * s + l))) i (some (s, l, b)) := by
    intro σ q
    unfold kif
    rw [if_pos q]
    exact ⟨up2_same σ.2 18 i _, up2_same σ.1 19 i _, hl, hs⟩
  unfold accU
  cases acc with
  | none =>
    refine set σ ?_
    have h : σ.2 18 i = lN 9223372036854775807 := h
    rw [h]
    exact (pk_lLT (by omega) (by decide)).mpr (by omega)
  | some y =>
    obtain ⟨s', l', e'⟩ := y
    obtain ⟨h1, h2, h3, h4⟩ := h
    simp only at h1 h2 h3 h4
    show AccAt _ i (if s < s' ∨ (s = s' ∧ l < l') then some (s, l, b) else some (s', l', e'))
    by_cases q : s < s' ∨ (s = s' ∧ l < l')
    · rw [if_pos q]
      refine set σ ?_
      rw [h1]
      exact (pk_lLT (by omega) (by omega)).mpr (by omega)
    · rw [if_neg q]
      have : ¬ lN (8192 * s + l) < σ.2 18 i := by
        rw [h1, pk_lLT (by omega) (by omega)]
        omega
      unfold kif
      rw [if_neg this]
      exact ⟨h1, h2, h3, h4⟩
theorem kif_acc_ne {σ : St2} {i j : Nat} {to : Int32} {c : Int64} {acc : Option TE} (h : AccAt σ j acc) (hj : j ≠ i) : AccAt (kif σ i to c) j acc := by
  obtain ⟨e1, e2⟩ := kif_c σ i j to c hj
  cases acc with
  | none =>
    show (kif σ i to c).2 18 j = _
    rw [e1]; exact h
  | some y =>
    obtain ⟨h1, h2, h3⟩ := h
    exact ⟨by rw [e1]; exact h1, by rw [e2]; exact h2, h3⟩
theorem TabC.kif {σ : St2} {n f i : Nat} {B : Nat → Nat → TE} {to : Int32} {c : Int64} (h : TabC σ n B (f + 1)) (hi : i < 3 * f + 3) : TabC (kif σ i to c) n B (f + 1) := by
  intro a ha hn k hk
  obtain ⟨e1, e2⟩ := kif_c σ i (3 * a + k) to c (by omega)
  rw [e1, e2]
  exact h a ha hn k hk
section WL
variable {lc : Launch} {G : GG} {Q : Option Value → St2 → Prop} {L lb wb U : List Nat} {r1 r2 n : Nat} {B : Nat → Nat → TE}
/-- what the class's search reads: the words, the rooms -/
def SrV (σ : St2) (L lb wb U : List Nat) (r1 r2 : Nat) : Prop := PaV σ L lb wb U ∧ σ.1 17 4 = nI r1 ∧ σ.1 17 5 = nI r2
theorem SrV.fr {σ σ' : St2} (h : SrV σ L lb wb U r1 r2) (hf : Fr [18, 19] σ σ') : SrV σ' L lb wb U r1 r2 := ⟨h.1.fr hf (by decide), by rw [hf.a1 (by decide)]; exact h.2.1, by rw [hf.a1 (by decide)]; exact h.2.2⟩
theorem lp_weigh (hd : DP lb wb r1 r2 n B) (hb : PaB L lb wb U) (hr1 : r1 ≤ 80) (hr2 : r2 ≤ 80) (hn : lb.length = n + 1) {f : Nat} (hf : f < n) : ∀ (m to : Nat) (σ : St2) (acc : Nat → Option TE), to + m = n + 1 → f < to → SrV σ L lb wb U r1 r2 → TabC σ n B (f + 1) → (∀ k, k < 3 → AccAt σ (3 * f + k) (acc k)) → (∀ k, k < 3 → scn (legO lb wb r1 r2 f) (cndO lb wb r1 r2 n B f k) m to (acc k) = some (B f k)) →
    (∀ σ', TabC σ' n B f → Fr [18, 19] σ σ' → Q none σ') →
    Ev lc G mPt_weighLinesFrom 41 [some (.ref 17), some (.ref 12), some (.int (nI f)), some (.int (nI n)), some (.int (nI (rmO r1 r2 f))), some (.int (nI to)), none, none, none, none, none, none] [] σ Q := by
  have done : ∀ (σ : St2) (acc : Nat → Option TE), TabC σ n B (f + 1) → (∀ k, k < 3 → AccAt σ (3 * f + k) (acc k)) → (∀ k, k < 3 → acc k = some (B f k)) → TabC σ n B f := by
    intro σ acc h1 h2 h3 a ha hn' k hk
    by_cases e : a = f
    · subst e
      have := h2 k hk
      rw [h3 k hk] at this
      exact ⟨this.1, fun _ => this.2.1⟩
    · exact h1 a (by omega) hn' k hk
  intro m
  induction m with
  | zero =>
    intro to σ acc hm ht hs htab hacc hscn k
    have h4 := hs.1.2.1.2.2.1
    exact ev_ic_gt okPt_weighLinesFrom rfl rfl trivial (fun g => ev_rv okPt_weighLinesFrom rfl rfl trivial rfl (k σ (done σ acc htab hacc hscn) Fr.rf)) (fun g => absurd (nI_lt (by omega) (by omega)) g)
  | succ m ih =>
    intro to σ acc hm ht hs htab hacc hscn k
    have h4 := hs.1.2.1.2.2.1
    have hrm : rmO r1 r2 f ≤ 80 := by unfold rmO; split <;> omega
    have hln : lnO lb wb f to ≤ 8081 := by
      have h1 := hb.2.2.1 to
      have h2 := hb.2.2.2.1 (to - 1)
      have h3 := hs.1.1.1
      have h5 := hs.1.2.2.2.2.1
      unfold lnO ltr bln
      split <;> omega
    have hbl : bln wb f to ≤ 80 := by
      have h2 := hb.2.2.2.1 (to - 1)
      have h5 := hs.1.2.2.2.2.1
      unfold bln
      omega
    refine ev_ic_gt okPt_weighLinesFrom rfl rfl trivial (fun g => absurd g (nI_nlt (by omega) (by omega))) (fun g => ?_)
    refine ev_cv okPt_weighLinesFrom okPa_lengthOf rfl rfl trivial rfl (by decide +kernel) rfl rfl (sp_lengthOf hs.1 hb ht (by omega) ?_)
    -- a legal line
    have legal : legO lb wb r1 r2 f to = true → Ev lc G mPt_weighLinesFrom 74 [some (.ref 17), some (.ref 12), some (.int (nI f)), some (.int (nI n)), some (.int (nI (rmO r1 r2 f))), some (.int (nI to)), some (.int (nI (lnO lb wb f to))), none, none, none, none, none] [] σ Q := by
      intro hleg
      refine ev_cv okPt_weighLinesFrom okPa_blanksIn rfl rfl trivial rfl (by decide +kernel) rfl rfl (sp_blanksIn hs.1 hb ht (by omega) ?_)
      have badn : Ev lc G mPt_weighLinesFrom 96 [some (.ref 17), some (.ref 12), some (.int (nI f)), some (.int (nI n)), some (.int (nI (rmO r1 r2 f))), some (.int (nI to)), some (.int (nI (lnO lb wb f to))), none, none, none, none, none] [.int (b2 (decide (to = n))), .int (nI (bln wb f to)), .int (nI (rmO r1 r2 f)), .int (nI (lnO lb wb f to))] σ Q := by
        refine ev_cs okPt_weighLinesFrom okPt_badnessOf rfl rfl trivial rfl (by decide +kernel) rfl rfl (sp_badnessOf (by omega) hrm hbl ?_)
        have hbd : bdO lb wb r1 r2 n f to ≤ 10000 := bdO_le f to
        show Ev lc G mPt_weighLinesFrom 99 _ (psh (some (.int (nI (bdO lb wb r1 r2 n f to)))) []) σ Q
        refine ev_cs okPt_weighLinesFrom okPt_kindOf rfl rfl trivial rfl (by decide +kernel) rfl rfl (sp_kindOf (by omega) ?_)
        have hk3 : kO lb wb r1 r2 n f to < 3 := kO_lt f to
        show Ev lc G mPt_weighLinesFrom 106 _ (psh (some (.int (nI (kO lb wb r1 r2 n f to)))) []) σ Q
        refine ev_cs okPt_weighLinesFrom okPt_plainDemerits rfl rfl trivial rfl (by decide +kernel) rfl rfl (sp_plainDemerits hs.1 hb (by omega) (by omega) hbd ?_)
        generalize hK : kO lb wb r1 r2 n f to = K at hk3 ⊢
        obtain ⟨tc, -⟩ := htab to (by omega) (by omega) K hk3
        have eidx : nI 3 * nI to + nI K = nI (3 * to + K) := by rw [pk_mul, nI_add]
        refine ev_nop okPt_weighLinesFrom rfl rfl ⟨by rw [eidx]; exact vp_nI (by omega) (by decide), trivial⟩ ?_
        rw [eidx, nI_cl (by omega), tc]
        have ec : lN 8192 * lN (plnD wb f to (bdO lb wb r1 r2 n f to)) + lN (1 : Fin 2).val + lN (8192 * (B to K).1 + (B to K).2.1) = lN (8192 * plnD wb f to (bdO lb wb r1 r2 n f to) + 1 + (8192 * (B to K).1 + (B to K).2.1)) := by
          rw [lN_mul, lN_add, lN_add]; rfl
        rw [ec]
        obtain ⟨bd1, bd2⟩ := DP_bd hd (n - to) to K (by omega)
        have bd3 : (n - to) * 100038001 ≤ 4000 * 100038001 := Nat.mul_le_mul_right _ (by omega)
        have bd4 := plnD_le (wb := wb) (a := f) (b := to) hbd
        generalize hP : plnD wb f to (bdO lb wb r1 r2 n f to) = P at bd4 ⊢
        have cnd : ∀ j, cndO lb wb r1 r2 n B f j to = (P + clsh j K + (B to K).1, (B to K).2.1 + 1) := by
          intro j
          unfold cndO
          rw [hK, hP]
        -- the three KINDS of the line before
        have kinds : ∀ (r j : Nat) (σ1 : St2), j + r = 3 → SrV σ1 L lb wb U r1 r2 → TabC σ1 n B (f + 1) → (∀ q, q < j → AccAt σ1 (3 * f + q) (accU (acc q) (cndO lb wb r1 r2 n B f q to) to)) → (∀ q, j ≤ q → q < 3 → AccAt σ1 (3 * f + q) (acc q)) → Fr [18, 19] σ σ1 →
            Ev lc G mPt_weighLinesFrom 141 [some (.ref 17), some (.ref 12), some (.int (nI f)), some (.int (nI n)), some (.int (nI (rmO r1 r2 f))), some (.int (nI to)), none, none, some (.int (nI K)), some (.long (lN (8192 * P + 1 + (8192 * (B to K).1 + (B to K).2.1)))), none, some (.int (nI j))] [] σ1 Q := by
          intro r
          induction r with
          | zero =>
            intro j σ1 hj s1 s2 s3 s4 s5
            have e3 : j = 3 := by omega
            subst e3
            refine ev_ic_ge okPt_weighLinesFrom rfl rfl trivial (fun g => ?_) (fun g => absurd (Int32.le_refl _) g)
            refine ev_goto okPt_weighLinesFrom rfl rfl trivial ?_
            rw [nI_add]
            refine ev_lv [some (.ref 17), some (.ref 12), some (.int (nI f)), some (.int (nI n)), some (.int (nI (rmO r1 r2 f))), some (.int (nI (to + 1))), none, none, none, none, none, none] ⟨rfl, rfl, rfl, rfl, rfl, rfl, trivial⟩ (ih (to + 1) σ1 (fun q => accU (acc q) (cndO lb wb r1 r2 n B f q to) to) (by omega) (by omega) s1 s2 s3 (fun q hq => ?_) (fun σ' q1 q2 => k σ' q1 (s5.tr q2)))
            have := hscn q hq
            rw [scn, if_pos hleg] at this
            exact this
          | succ r ihr =>
            intro j σ1 hj s1 s2 s3 s4 s5
            refine ev_ic_ge okPt_weighLinesFrom rfl rfl trivial (fun g => absurd g (nI_ge (by omega) (by decide))) (fun g => ?_)
            refine ev_cs okPt_weighLinesFrom okPt_clash rfl rfl trivial rfl (by decide +kernel) rfl rfl (sp_clash (by omega) hk3 ?_)
            have hcl := clsh_le j K
            refine ev_cv okPt_weighLinesFrom okPt_keepIfLess rfl rfl trivial rfl (by decide +kernel) rfl rfl ?_
            rw [nI_l (by omega), lN_mul, lN_add, pk_mul, nI_add]
            have e2 : 8192 * P + 1 + (8192 * (B to K).1 + (B to K).2.1) + 8192 * clsh j K = 8192 * (P + clsh j K + (B to K).1) + ((B to K).2.1 + 1) := by omega
            refine sp_keepIfLess (by omega) ?_
            rw [e2]
            refine ev_goto okPt_weighLinesFrom rfl rfl trivial ?_
            rw [nI_add]
            refine ihr (j + 1) _ (by omega) (s1.fr (kif_fr _ _ _ _)) (s2.kif (by omega)) (fun q hq => ?_) (fun q q1 q2 => ?_) (s5.tr (kif_fr _ _ _ _))
            · by_cases e : q = j
              · subst e
                rw [cnd q]
                exact kif_acc (s4 q (Nat.le_refl _) (by omega)) (by omega) (by omega)
              · exact kif_acc_ne (s3 q (by omega)) (by omega)
            · exact kif_acc_ne (s4 q (by omega) q2) (by omega)
        refine ev_lv [some (.ref 17), some (.ref 12), some (.int (nI f)), some (.int (nI n)), some (.int (nI (rmO r1 r2 f))), some (.int (nI to)), none, none, some (.int (nI K)), some (.long _), none, some (.int (nI 0))] ⟨rfl, rfl, rfl, rfl, rfl, rfl, rfl, rfl, rfl, trivial⟩ (kinds 3 0 σ rfl hs htab (fun q hq => absurd hq (Nat.not_lt_zero q)) (fun q _ hq => hacc q hq) Fr.rf)
      refine ev_ic_ne okPt_weighLinesFrom rfl rfl trivial (fun g => ?_) (fun g => ?_)
      · have e : ¬ to = n := fun q => g (by rw [q])
        rw [decide_eq_false e] at badn
        exact ev_nop okPt_weighLinesFrom rfl rfl trivial badn
      · have e : to = n := (nI_eq (by omega) (by omega)).mp (by simpa using g)
        rw [decide_eq_true e] at badn
        exact ev_goto okPt_weighLinesFrom rfl rfl trivial badn
    refine ev_ic_le okPt_weighLinesFrom rfl rfl trivial (fun g => ?_) (fun g => ?_)
    · exact legal (decide_eq_true (Or.inr ((nI_leI (by omega) (by omega)).mp g)))
    · have g : ¬ lnO lb wb f to ≤ rmO r1 r2 f := fun q => g (nI_le q (by omega))
      refine ev_ic_le okPt_weighLinesFrom rfl rfl trivial (fun g2 => ?_) (fun g2 => ?_)
      · rw [nI_add] at g2
        have g2 : to ≤ f + 1 := (nI_leI (by omega) (by omega)).mp g2
        exact legal (decide_eq_true (Or.inl (by omega)))
      · rw [nI_add] at g2
        have g2 : ¬ to ≤ f + 1 := fun q => g2 (nI_le q (by omega))
        have hno : ¬ legO lb wb r1 r2 f to = true := by
          unfold legO
          rw [decide_eq_true_eq]
          rintro (q | q)
          · omega
          · exact g q
        refine ev_goto okPt_weighLinesFrom rfl rfl trivial (ev_rv okPt_weighLinesFrom rfl rfl trivial rfl (k σ (done σ acc htab hacc (fun q hq => ?_)) Fr.rf))
        have := hscn q hq
        rw [scn, if_neg hno] at this
        exact this
theorem sp_weighLinesFrom {σ : St2} (hd : DP lb wb r1 r2 n B) (hb : PaB L lb wb U) (hr1 : r1 ≤ 80) (hr2 : r2 ≤ 80) (hn : lb.length = n + 1) {f : Nat} (hf : f < n) (hs : SrV σ L lb wb U r1 r2) (htab : TabC σ n B (f + 1)) (k : ∀ σ', TabC σ' n B f → Fr [18, 19] σ σ' → Q none σ') :
    Ev lc G mPt_weighLinesFrom 0 [some (.ref 17), some (.ref 12), some (.int (nI f)), some (.int (nI n)), none, none, none, none, none, none, none, none] [] σ Q := by
  have h4 := hs.1.2.1.2.2.1
  refine ev_cv okPt_weighLinesFrom okPt_roomFrom rfl rfl trivial rfl (by decide +kernel) rfl rfl (sp_roomFrom hs.2.1 hs.2.2 (by omega) ?_)
  refine ev_nop okPt_weighLinesFrom rfl rfl trivial ?_
  have init : ∀ (r j : Nat) (σ1 : St2), j + r = 3 → SrV σ1 L lb wb U r1 r2 → TabC σ1 n B (f + 1) → (∀ q, q < j → AccAt σ1 (3 * f + q) none) → Fr [18, 19] σ σ1 →
      Ev lc G mPt_weighLinesFrom 10 [some (.ref 17), some (.ref 12), some (.int (nI f)), some (.int (nI n)), some (.int (nI (rmO r1 r2 f))), some (.int (nI j)), none, none, none, none, none, none] [] σ1 Q := by
    intro r
    induction r with
    | zero =>
      intro j σ1 hj s1 s2 s3 s4
      have e3 : j = 3 := by omega
      subst e3
      refine ev_ic_ge okPt_weighLinesFrom rfl rfl trivial (fun g => ?_) (fun g => absurd (Int32.le_refl _) g)
      refine ev_nop okPt_weighLinesFrom rfl rfl trivial ?_
      rw [nI_add]
      refine lp_weigh hd hb hr1 hr2 hn hf (n - f) (f + 1) σ1 (fun _ => none) (by omega) (by omega) s1 s2 (fun q hq => s3 q hq) (fun q _ => hd.2 f q hf) (fun σ' q1 q2 => k σ' q1 (s4.tr q2))
    | succ r ihr =>
      intro j σ1 hj s1 s2 s3 s4
      refine ev_ic_ge okPt_weighLinesFrom rfl rfl trivial (fun g => absurd g (nI_ge (by omega) (by decide))) (fun g => ?_)
      have eidx : nI 3 * nI f + nI j = nI (3 * f + j) := by rw [pk_mul, nI_add]
      refine ev_goto okPt_weighLinesFrom rfl rfl ⟨by rw [eidx]; exact vp_nI (by omega) (by decide), trivial⟩ ?_
      rw [eidx, nI_cl (by omega), nI_add]
      have hf1 : Fr [18, 19] σ1 (σ1.1, up2 σ1.2 18 (3 * f + j) (lN 9223372036854775807)) := Fr.u2 (by decide)
      refine ihr (j + 1) _ (by omega) (s1.fr hf1) (fun a ha hn' q hq => ?_) (fun q hq => ?_) (s4.tr hf1)
      · have := s2 a ha hn' q hq
        refine ⟨?_, this.2⟩
        show up2 σ1.2 18 (3 * f + j) _ 18 (3 * a + q) = _
        rw [up2_col _ _ _ (by omega)]
        exact this.1
      · show up2 σ1.2 18 (3 * f + j) (lN 9223372036854775807) 18 (3 * f + q) = _
        by_cases e : q = j
        · subst e
          rw [up2_same]
        · rw [up2_col _ _ _ (by omega)]
          exact s3 q (by omega)
  exact init 3 0 σ rfl hs htab (fun q hq => absurd hq (Nat.not_lt_zero q)) Fr.rf
end WL
