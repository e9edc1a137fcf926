/-! ===== a BREAK (the class's) ===== -/
/-- lines that follow one another from a to n -/
def Chn (n : Nat) : Nat → List (Nat × Nat) → Prop
  | a, [] => a = n
  | a, q :: r => q.1 = a ∧ a < q.2 ∧ q.2 ≤ n ∧ Chn n q.2 r
theorem Chn_last {n b : Nat} {r : List (Nat × Nat)} (h : Chn n b r) : b < n ↔ r ≠ [] := by
  cases r with
  | nil =>
    have h : b = n := h
    exact ⟨fun q => by omega, fun q => absurd rfl q⟩
  | cons q r =>
    obtain ⟨h1, h2, h3, -⟩ := h
    exact ⟨fun _ => by simp, fun _ => by omega⟩
theorem wy_chn {lb wb : List Nat} {r1 r2 n : Nat} {B : Nat → Nat → TE} (hd : DP lb wb r1 r2 n B) : ∀ (m a k : Nat), n ≤ a + m → a ≤ n → Chn n a (wy lb wb r1 r2 n B m a k)
  | 0, a, k, h, ha => by
    rw [wy]
    show a = n
    omega
  | m + 1, a, k, h, ha => by
    rw [wy]
    by_cases q : a < n
    · rw [if_pos q]
      obtain ⟨h1, h2⟩ := DP_end hd (k := k) q
      exact ⟨rfl, h1, h2, wy_chn hd m _ _ (by omega) h2⟩
    · rw [if_neg q]
      show a = n
      omega
theorem Chn_len {n : Nat} : ∀ {a : Nat} {r : List (Nat × Nat)}, Chn n a r → r.length + a ≤ n
  | a, [], h => by
    have h : a = n := h
    simp; omega
  | a, q :: r, h => by
    have := Chn_len h.2.2.2
    simp
    have := h.2.1
    omega
/-- what is PUT for the line from a to b; jf: JUSTIFY -/
def lnE (L lb wb U : List Nat) (r1 r2 n : Nat) (jf : Bool) (a b : Nat) : List Nat :=
  wrt (pce L lb wb U) wb a (bln wb a b) (if jf = true ∧ b < n then rmO r1 r2 a - lnO lb wb a b else 0) (b - a) a 0 ++ (if hyp wb b then [45] else [])
def brkL (hd ft : List Nat) (le : Nat → Nat → List Nat) : List (Nat × Nat) → PS → PS
  | [], s => s
  | q :: r, s => brkL hd ft le r (pClose ft ((pOpen hd false s).1, emit (pOpen hd false s).2 (le q.1 q.2)))
theorem pOpen_keep (hd : List Nat) (e : Bool) (s : PS) {j : Nat} (h : j ≠ 9 ∧ j ≠ 10 ∧ j ≠ 11) : (pOpen hd e s).1 j = s.1 j := by
  unfold pOpen pOpen0
  split
  · simp [pHead, upd, h.1, h.2.1, h.2.2]
  · rfl
theorem pClose_keep (ft : List Nat) (s : PS) {j : Nat} (h : j ≠ 9 ∧ j ≠ 2 ∧ j ≠ 12) : (pClose ft s).1 j = s.1 j := by
  simp [pClose, pDown, upd, h.1, h.2.1, h.2.2]
theorem brkL_keep (hd ft : List Nat) (le : Nat → Nat → List Nat) {j : Nat} (h : j ≠ 9 ∧ j ≠ 10 ∧ j ≠ 11 ∧ j ≠ 2 ∧ j ≠ 12) : ∀ (r : List (Nat × Nat)) (s : PS), (brkL hd ft le r s).1 j = s.1 j
  | [], s => rfl
  | q :: r, s => by
    rw [brkL, brkL_keep hd ft le h r, pClose_keep _ _ ⟨h.1, h.2.2.2.1, h.2.2.2.2⟩]
    exact pOpen_keep hd false s ⟨h.1, h.2.1, h.2.2.1⟩
theorem brkL_PB {hd ft : List Nat} {le : Nat → Nat → List Nat} : ∀ (r : List (Nat × Nat)) (s : PS) (b : Nat), PB b s.1 → PB (b + r.length) (brkL hd ft le r s).1
  | [], s, b, h => h
  | q :: r, s, b, h => by
    rw [brkL]
    have := brkL_PB (hd := hd) (ft := ft) (le := le) r _ (b + 1) (pClose_PB (ft := ft) (s := ((pOpen hd false s).1, emit (pOpen hd false s).2 (le q.1 q.2))) (pOpen_PB (hd := hd) (e := false) h))
    rw [List.length_cons, show b + (r.length + 1) = b + 1 + r.length by omega]
    exact this
theorem fct_at {lb wb : List Nat} {r1 r2 n : Nat} (q : Nat × Nat) (r : List (Nat × Nat)) : ∀ pre : List (Nat × Nat), ((pre ++ q :: r).flatMap (fun z => fct lb wb r1 r2 n z.1 z.2)).getD (6 * pre.length + 1) 0 = rmO r1 r2 q.1 - lnO lb wb q.1 q.2
  | [] => by simp [fct]
  | z :: pre => by
    have ih := fct_at (lb := lb) (wb := wb) (r1 := r1) (r2 := r2) (n := n) q r pre
    rw [List.cons_append, List.flatMap_cons, List.getD_eq_getElem?_getD, List.getElem?_append_right (by simp [fct]; omega)]
    rw [← ih, List.getD_eq_getElem?_getD]
    have e : 6 * (z :: pre).length + 1 - (fct lb wb r1 r2 n z.1 z.2).length = 6 * pre.length + 1 := by simp [fct]; omega
    rw [e]
section BR
variable {lc : Launch} {G : GG} {σ : St2} {Q : Option Value → St2 → Prop} {L lb wb U hd ft : List Nat} {r1 r2 n : Nat} {jf : Bool}
theorem lp_lines (hb : PaB L lb wb U) (hr1 : r1 ≤ 80) (hr2 : r2 ≤ 80) (hn : lb.length = n + 1) (hhd : ∀ b ∈ hd, b < 128) (hft : ∀ b ∈ ft, b < 128) (W : List (Nat × Nat)) : ∀ (rest pre : List (Nat × Nat)) (a : Nat) (σ : St2) (s : PS) (pb : Nat), W = pre ++ rest → Chn n a rest → PgV σ s.1 hd ft s.2 → PaV σ L lb wb U → LnV σ (W.map (fun q => q.2)) (W.flatMap (fun q => fct lb wb r1 r2 n q.1 q.2)) → s.1 8 = b2 jf → PB pb s.1 → pb + rest.length < 2 ^ 30 →
    (∀ σ', PgV σ' (brkL hd ft (lnE L lb wb U r1 r2 n jf) rest s).1 hd ft (brkL hd ft (lnE L lb wb U r1 r2 n jf) rest s).2 → Fr [4, 5, 6, 7] σ σ' → Ev lc G mPf_breakParagraph 172 [some (.ref 0), none, none, none, none] [] σ' Q) →
    Ev lc G mPf_breakParagraph 67 [some (.ref 0), some (.int (nI a)), some (.int (nI pre.length)), none, none] [] σ Q := by
  intro rest
  induction rest with
  | nil =>
    intro pre a σ s pb hW hc hp hpa hl hj hpb hlt k
    have e : W.length = pre.length := by rw [hW]; simp
    have h4 := hl.1
    rw [List.length_map] at h4
    refine ev_ic_ge okPf_breakParagraph rfl rfl trivial (fun g => ?_) (fun g => absurd ?_ g)
    · exact ev_lv [some (.ref 0), none, none, none, none] ⟨rfl, trivial⟩ (k σ hp Fr.rf)
    · rw [hl.2.2.1, List.length_map, e]
      exact Int32.le_refl _
  | cons q rest ih =>
    intro pre a σ s pb hW hc hp hpa hl hj hpb hlt k
    obtain ⟨x, y⟩ := q
    obtain ⟨c1, c2, c3, c4⟩ := hc
    simp only at c1 c2 c3 c4
    subst c1
    have hWl : W.length = pre.length + (rest.length + 1) := by rw [hW]; simp
    have h4 := hl.1
    rw [List.length_map] at h4
    have h41 := hpa.2.1.2.2.1
    have hrm : rmO r1 r2 x ≤ 80 := by unfold rmO; split <;> omega
    have hend : (W.map (fun q => q.2)).getD pre.length 0 = y := by rw [hW]; simp [List.getElem?_append_right]
    have hsl : (W.flatMap (fun q => fct lb wb r1 r2 n q.1 q.2)).getD (6 * pre.length + 1) 0 = rmO r1 r2 x - lnO lb wb x y := by rw [hW]; exact fct_at (x, y) rest pre
    have hlast : y < n ↔ pre.length < W.length - 1 := by
      rw [Chn_last c4]
      constructor
      · intro h
        have : 0 < rest.length := List.length_pos_iff.mpr h
        omega
      · intro h e
        rw [e] at hWl
        simp at hWl
        omega
    rw [brkL] at k
    -- the line, made full or not
    have line : ∀ (fu : Bool), (fu = true ↔ (jf = true ∧ y < n)) → Ev lc G mPf_breakParagraph 106 [some (.ref 0), some (.int (nI x)), some (.int (nI pre.length)), none, none] [.int (b2 fu)] σ Q := by
      intro fu hfu
      refine ev_cv okPf_breakParagraph okPt_endOf rfl rfl trivial rfl (by decide +kernel) rfl rfl (sp_endOf hl (i := pre.length) (by rw [List.length_map]; omega) ?_)
      rw [hend]
      refine ev_cv okPf_breakParagraph okPg_openLine rfl rfl trivial rfl (by decide +kernel) rfl rfl (sp_openLine (e := false) hp hhd (B := pb) (by omega) hpb fun σ1 q1 q2 => ?_)
      have hpa1 := hpa.fr q2 (by decide)
      have hl1 : LnV σ1 (W.map (fun q => q.2)) (W.flatMap (fun q => fct lb wb r1 r2 n q.1 q.2)) := ⟨hl.1, hl.2.1, by rw [q2.a1 (by decide)]; exact hl.2.2.1, hl.2.2.2.1.fr q2 (by decide), hl.2.2.2.2.fr q2 (by decide)⟩
      have wr : Ev lc G mPf_breakParagraph 153 [some (.ref 0), some (.int (nI x)), some (.int (nI pre.length)), some (.int (b2 fu)), some (.int (nI y))] [.int (nI (if jf = true ∧ y < n then rmO r1 r2 x - lnO lb wb x y else 0)), .int (nI y), .int (nI x), .ref 5, .ref 12] σ1 Q := by
        refine ev_cv okPf_breakParagraph okPa_write rfl rfl trivial rfl (by decide +kernel) rfl rfl (sp_write (by split <;> omega) c2 (by omega) hpa1 hb q1.2.2.2.2 fun σ2 r1' r2' => ?_)
        have p2 := q1.out r2' r1'
        refine ev_cv okPf_breakParagraph okPg_closeLine rfl rfl trivial rfl (by decide +kernel) rfl rfl (sp_closeLine p2 hft (B := pb + 1) (by simp at hlt; omega) (pOpen_PB hpb) fun σ3 s1 s2 => ?_)
        have f3 : Fr [4, 5, 6, 7] σ σ3 := ((q2.wk (by decide)).tr (r2'.wk (by decide))).tr s2
        have hpa3 := hpa.fr f3 (by decide)
        have hl3 : LnV σ3 (W.map (fun q => q.2)) (W.flatMap (fun q => fct lb wb r1 r2 n q.1 q.2)) := ⟨hl.1, hl.2.1, by rw [f3.a1 (by decide)]; exact hl.2.2.1, hl.2.2.2.1.fr f3 (by decide), hl.2.2.2.2.fr f3 (by decide)⟩
        refine ev_goto okPf_breakParagraph rfl rfl trivial ?_
        rw [nI_add]
        have hpl : (pre ++ [(x, y)]).length = pre.length + 1 := by simp
        rw [← hpl]
        refine ev_lv [some (.ref 0), some (.int (nI y)), some (.int (nI (pre ++ [(x, y)]).length)), none, none] ⟨rfl, rfl, rfl, trivial⟩ (ih (pre ++ [(x, y)]) y σ3 _ (pb + 1) (by rw [hW]; simp) c4 s1 hpa3 hl3 ?_ (pClose_PB (pOpen_PB (e := false) hpb)) (by simp at hlt; omega) (fun σ' t1 t2 => k σ' t1 (f3.tr t2)))
        rw [pClose_keep _ _ (by decide)]
        show (pOpen hd false s).1 8 = _
        rw [pOpen_keep _ _ _ (by decide)]
        exact hj
      refine ev_if_eq okPf_breakParagraph rfl rfl trivial (fun g => ?_) (fun g => ?_)
      · have e : fu = false := by
          cases fu with
          | false => rfl
          | true => exact absurd g (by decide)
        rw [if_neg (fun z => by have := hfu.mpr z; rw [e] at this; cases this)] at wr
        exact ev_nop okPf_breakParagraph rfl rfl trivial wr
      · have e : fu = true := by
          cases fu with
          | true => rfl
          | false => exact absurd rfl g
        rw [if_pos (hfu.mp e)] at wr
        refine ev_cv okPf_breakParagraph okPt_fact rfl rfl trivial rfl (by decide +kernel) rfl rfl (sp_fact hl1 ?_)
        have eq : lnQ (W.map (fun q => q.2)) (W.flatMap (fun q => fct lb wb r1 r2 n q.1 q.2)) (nI pre.length) (nI 1) = nI (rmO r1 r2 x - lnO lb wb x y) := by
          unfold lnQ
          rw [if_neg (nI_neg (by omega)), if_pos (nI_lt (by rw [List.length_map]; omega) (by rw [List.length_map]; omega)), if_neg (by decide), if_neg (by decide), nI_cl (by omega), nI_cl (by decide), hsl]
        rw [eq]
        exact ev_goto okPf_breakParagraph rfl rfl trivial wr
    refine ev_ic_ge okPf_breakParagraph rfl rfl trivial (fun g => absurd g (by rw [hl.2.2.1, List.length_map]; exact nI_ge (by omega) (by omega))) (fun g => ?_)
    have ej : σ.1 4 8 = b2 jf := (hp.1 8 (by decide)).trans hj
    refine ev_if_eq okPf_breakParagraph rfl rfl trivial (fun g => ?_) (fun g => ?_)
    · rw [ej] at g
      have e : jf = false := by
        cases jf with
        | false => rfl
        | true => exact absurd g (by decide)
      exact ev_nop okPf_breakParagraph rfl rfl trivial (line false (by rw [e]; simp))
    · rw [ej] at g
      have e : jf = true := by
        cases jf with
        | true => rfl
        | false => exact absurd rfl g
      refine ev_ic_ge okPf_breakParagraph rfl rfl trivial (fun g2 => ?_) (fun g2 => ?_)
      · rw [hl.2.2.1, List.length_map, pk_sub (by omega)] at g2
        have g2 : W.length - 1 ≤ pre.length := (nI_leI (by omega) (by omega)).mp g2
        refine ev_nop okPf_breakParagraph rfl rfl trivial (line false ?_)
        constructor
        · intro z; cases z
        · rintro ⟨-, z⟩
          have := hlast.mp z
          omega
      · rw [hl.2.2.1, List.length_map, pk_sub (by omega)] at g2
        have g2 : pre.length < W.length - 1 := (Nat.lt_or_ge pre.length (W.length - 1)).resolve_right (fun z => g2 (nI_le z (by omega)))
        refine ev_goto okPf_breakParagraph rfl rfl trivial (line true ?_)
        exact ⟨fun _ => ⟨e, hlast.mpr g2⟩, fun _ => rfl⟩
theorem sp_break0 {N : NN} {o : List Nat} (hp : PgV σ N hd ft o) (hpa : PaV σ L lb wb []) (k : Q none σ) : Ev lc G mPf_breakParagraph 0 [some (.ref 0), none, none, none, none] [] σ Q := by
  refine ev_if_ne okPf_breakParagraph rfl rfl trivial (fun g => absurd ?_ g) (fun g => ev_rv okPf_breakParagraph rfl rfl trivial rfl k)
  rw [hpa.2.2.2.2.2.1]
  rfl
theorem sp_break {N : NN} {o : List Nat} {B : Nat → Nat → TE} {R hh ii pb : Nat} (hd' : DP lb wb (R - hh) (R - ii) n B) (hb : PaB L lb wb U) (hU : U ≠ []) (h0 : lb.getD 0 0 = 0 ∧ wb.getD 0 0 = 0) (hR : R ≤ 80) (hh1 : hh < R) (hi1 : ii < R) (hn : lb.length = n + 1) (hhd : ∀ b ∈ hd, b < 128) (hft : ∀ b ∈ ft, b < 128) (hp : PgV σ N hd ft o) (hpa : PaV σ L lb wb U) (n0 : N 0 = nI R) (n1 : N 1 = nI ii) (n2 : N 2 = nI hh) (hj : N 8 = b2 jf) (hpb : PB pb N) (hlt : pb + n < 2 ^ 30)
    (k : ∀ σ', PgV σ' (brkL hd ft (lnE L lb wb U (R - hh) (R - ii) n jf) (wy lb wb (R - hh) (R - ii) n B n 0 1) (N, o)).1 hd ft (brkL hd ft (lnE L lb wb U (R - hh) (R - ii) n jf) (wy lb wb (R - hh) (R - ii) n B n 0 1) (N, o)).2 → PaV σ' [] [0] [0] [] →
      LnV σ' ((wy lb wb (R - hh) (R - ii) n B n 0 1).map (fun q => q.2)) ((wy lb wb (R - hh) (R - ii) n B n 0 1).flatMap (fun q => fct lb wb (R - hh) (R - ii) n q.1 q.2)) → σ'.2 17 7 = lN (B 0 1).1 → Fr [4, 5, 6, 7, 12, 17, 18, 19, 20, 21] σ σ' → Q none σ') :
    Ev lc G mPf_breakParagraph 0 [some (.ref 0), none, none, none, none] [] σ Q := by
  have hUl : 0 < U.length := List.length_pos_iff.mpr hU
  have hU80 := hpa.2.2.2.2.1
  have h41 := hpa.2.1.2.2.1
  refine ev_if_ne okPf_breakParagraph rfl rfl trivial (fun g => ?_) (fun g => ?_)
  · refine ev_cv okPf_breakParagraph okPt_weighWays rfl rfl trivial rfl (by decide +kernel) rfl rfl ?_
    rw [show σ.1 4 0 = nI R from (hp.1 0 (by decide)).trans n0, show σ.1 4 1 = nI ii from (hp.1 1 (by decide)).trans n1, show σ.1 4 2 = nI hh from (hp.1 2 (by decide)).trans n2, pk_sub (by omega), pk_sub (by omega)]
    refine sp_weighWays hd' hb (by omega) (by omega) hn hpa fun σ1 t1 t2 t3 t4 t5 => ?_
    refine ev_cv okPf_breakParagraph okPt_takeBestWay rfl rfl trivial rfl (by decide +kernel) rfl rfl (sp_takeBestWay hd' hb (by omega) (by omega) hn t2 t1 fun σ2 u1 u2 u3 => ?_)
    have f2 : Fr [17, 18, 19, 20, 21] σ σ2 := (t3.wk (by decide)).tr (u3.wk (by decide))
    have hp2 := hp.fr f2 (by decide)
    have hpa2 := hpa.fr f2 (by decide)
    have hc := wy_chn hd' n 0 1 (by omega) (by omega)
    have hcl := Chn_len hc
    refine ev_nop okPf_breakParagraph rfl rfl trivial ?_
    refine lp_lines (jf := jf) hb (by omega) (by omega) hn hhd hft _ _ [] 0 σ2 (N, o) pb rfl hc hp2 hpa2 u1 hj hpb (by omega) fun σ3 v1 v2 => ?_
    have hpa3 := hpa2.fr v2 (by decide)
    have hl3 : LnV σ3 ((wy lb wb (R - hh) (R - ii) n B n 0 1).map (fun q => q.2)) ((wy lb wb (R - hh) (R - ii) n B n 0 1).flatMap (fun q => fct lb wb (R - hh) (R - ii) n q.1 q.2)) := ⟨u1.1, u1.2.1, by rw [v2.a1 (by decide)]; exact u1.2.2.1, u1.2.2.2.1.fr v2 (by decide), u1.2.2.2.2.fr v2 (by decide)⟩
    refine ev_cv okPf_breakParagraph okPa_clear rfl rfl trivial rfl (by decide +kernel) rfl rfl (sp_clear hpa3 h0 fun σ4 w1 w2 => ?_)
    refine ev_rv okPf_breakParagraph rfl rfl trivial rfl (k σ4 (v1.fr w2 (by decide)) w1 ⟨hl3.1, hl3.2.1, by rw [w2.a1 (by decide)]; exact hl3.2.2.1, hl3.2.2.2.1.fr w2 (by decide), hl3.2.2.2.2.fr w2 (by decide)⟩ ?_ ?_)
    · rw [w2.a2 (by decide), v2.a2 (by decide)]
      exact u2
    · exact ((f2.wk (by decide)).tr (v2.wk (by decide))).tr (w2.wk (by decide))
  · have g : σ.1 12 6 = 0 := by simpa using g
    rw [hpa.2.2.2.2.2.1] at g
    exact absurd g (nI_ne0 hUl (by omega))
end BR
