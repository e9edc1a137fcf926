/-! ===== what the places of words are ===== -/
theorem tot_take_le {α : Type} (f : α → Nat) (S : List α) {i j : Nat} (h : i ≤ j) : tot f (S.take i) ≤ tot f (S.take j) := by
  have : S.take j = S.take i ++ (S.drop i).take (j - i) := by
    rw [← List.take_append_drop i (S.take j), List.take_take, Nat.min_eq_left h, List.drop_take]
  rw [this, tot_app]
  omega
theorem tot_take_all {α : Type} (f : α → Nat) (S : List α) (j : Nat) : tot f (S.take j) ≤ tot f S := by
  have h := tot_app f (S.take j) (S.drop j)
  rw [List.take_append_drop] at h
  omega
theorem psum_at {α : Type} (f : α → Nat) : ∀ (S : List α) (b j : Nat), j < S.length → (psum f b S).getD j 0 = b + tot f (S.take (j + 1))
  | [], b, j, h => by simp at h
  | x :: S, b, 0, h => by simp [psum, tot]
  | x :: S, b, j + 1, h => by
    rw [psum, List.take_succ_cons, tot]
    have := psum_at f S (b + f x) j (by simpa using h)
    simp only [List.getD_cons_succ]
    rw [this]
    omega
theorem psL_at {α : Type} (f : α → Nat) (S : List α) {j : Nat} (h : j ≤ S.length) : (0 :: psum f 0 S).getD j 0 = tot f (S.take j) := by
  cases j with
  | zero => simp [tot]
  | succ j =>
    simp only [List.getD_cons_succ]
    rw [psum_at f S 0 j (by omega), Nat.zero_add]
theorem psL_len {α : Type} (f : α → Nat) (S : List α) : (0 :: psum f 0 S).length = S.length + 1 := by rw [List.length_cons, psum_len]
theorem psL_mono {α : Type} (f : α → Nat) (S : List α) : Mono (0 :: psum f 0 S) := by
  intro i j hij hj
  rw [psL_len] at hj
  rw [psL_at f S (by omega), psL_at f S (by omega)]
  exact tot_take_le f S hij
theorem psL_le {α : Type} (f : α → Nat) (S : List α) (j : Nat) : (0 :: psum f 0 S).getD j 0 ≤ tot f S := by
  by_cases h : j ≤ S.length
  · rw [psL_at f S h]; exact tot_take_all f S j
  · rw [gD0 (by rw [psL_len]; omega)]; omega
theorem tot_take_succ {α : Type} (f : α → Nat) (S : List α) {j : Nat} (h : j < S.length) : tot f (S.take (j + 1)) = tot f (S.take j) + f S[j] := by
  rw [List.take_succ, List.getElem?_eq_getElem h, tot_app]
  simp [tot]
theorem psL_step {α : Type} (f : α → Nat) (S : List α) {j : Nat} (h : j < S.length) : (0 :: psum f 0 S).getD (j + 1) 0 = (0 :: psum f 0 S).getD j 0 + f S[j] := by
  rw [psL_at f S (by omega), psL_at f S (by omega), tot_take_succ f S h]
theorem ef_le (x : Seg) : ef x ≤ 1 := by unfold ef; split <;> omega
theorem hyp_seg (S : List Seg) {p : Nat} (hp : p < S.length) : hyp (wbS S) (p + 1) = !(S[p].2.2) := by
  have hs : (wbS S).getD (p + 1) 0 = (wbS S).getD p 0 + ef S[p] := psL_step ef S hp
  have hl : (wbS S).length = S.length + 1 := psL_len ef S
  unfold hyp
  rw [Nat.add_sub_cancel, hs, hl]
  cases h : S[p].2.2 with
  | true =>
    have : ef S[p] = 1 := by simp [ef, h]
    rw [this]
    exact decide_eq_false (fun z => by omega)
  | false =>
    have : ef S[p] = 0 := by simp [ef, h]
    rw [this]
    exact decide_eq_true ⟨by omega, by omega, rfl⟩
/-- words as the paragraph has them: some letter, no blank, short -/
def WdOK (ws : List (List Nat × Nat)) : Prop := ws.length ≤ 80 ∧ ∀ q ∈ ws, hlt q.1 = true ∧ q.1.length ≤ 100 ∧ q.2 < 2 ∧ ∀ b ∈ q.1, 33 ≤ b ∧ b < 128
theorem sgs_cnt : ∀ (r cur : List Nat), hlt (cur ++ r) = true → 2 * (sgs cur r).length ≤ cur.length + r.length + 1
  | [], cur, h => by
    rw [List.append_nil] at h
    have : 0 < (noC cur).length := (hlt_noC cur).mp h
    have : (noC cur).length ≤ cur.length := List.length_filter_le _ _
    simp [sgs]
    omega
  | b :: r, cur, h => by
    rw [sgs]
    split
    · rename_i q
      have h1 := sgs_cnt r [] (by simpa using q.2.2)
      have : 0 < (noC cur).length := (hlt_noC cur).mp q.2.1
      have : (noC cur).length ≤ cur.length := List.length_filter_le _ _
      simp only [List.length_cons, List.length_nil] at h1 ⊢
      omega
    · have h1 := sgs_cnt r (cur ++ [b]) (by simpa using h)
      simp only [List.length_append, List.length_cons, List.length_nil] at h1 ⊢
      omega
theorem wsg_cnt {w : List Nat} {u : Nat} (h : hlt w = true) (hl : w.length ≤ 100) : (wsg w u).length ≤ 50 := by
  have := sgs_cnt w [] (by simpa using h)
  unfold wsg
  rw [mrk_len]
  simp at this
  omega
theorem SGs_cons (q : List Nat × Nat) (ws : List (List Nat × Nat)) : SGs (q :: ws) = wsg q.1 q.2 ++ SGs ws := by simp [SGs]
theorem SGs_cnt {ws : List (List Nat × Nat)} (h : ∀ q ∈ ws, hlt q.1 = true ∧ q.1.length ≤ 100) : (SGs ws).length ≤ 50 * ws.length ∧ (ltS (SGs ws)).length ≤ 100 * ws.length := by
  induction ws with
  | nil => simp [SGs, ltS]
  | cons q ws ih =>
    obtain ⟨i1, i2⟩ := ih (fun z hz => h z (List.mem_cons_of_mem _ hz))
    obtain ⟨h1, h2⟩ := h q List.mem_cons_self
    have h3 := wsg_cnt (u := q.2) h1 h2
    have h4 : (noC q.1).length ≤ q.1.length := List.length_filter_le _ _
    rw [SGs_cons, ltS_app, ltS_wsg]
    simp only [List.length_append, List.length_cons]
    omega
theorem mem_ltS {ws : List (List Nat × Nat)} {b : Nat} (h : b ∈ ltS (SGs ws)) : ∃ q ∈ ws, b ∈ q.1 := by
  induction ws with
  | nil => simp [SGs, ltS] at h
  | cons q ws ih =>
    rw [SGs_cons, ltS_app, ltS_wsg] at h
    rcases List.mem_append.mp h with h | h
    · exact ⟨q, List.mem_cons_self, (List.mem_filter.mp h).1⟩
    · obtain ⟨z, h1, h2⟩ := ih h
      exact ⟨z, List.mem_cons_of_mem _ h1, h2⟩
theorem wsg_last (w : List Nat) (u : Nat) {j : Nat} (hj : j < (wsg w u).length) : (wsg w u)[j].2.2 = decide (j + 1 = (wsg w u).length) := by
  have key : ∀ (l : List (List Nat)) (j : Nat) (hj : j < (mrk u l).length), (mrk u l)[j].2.2 = decide (j + 1 = (mrk u l).length) := by
    intro l
    induction l with
    | nil => intro j hj; simp [mrk] at hj
    | cons s l ih =>
      intro j hj
      cases l with
      | nil =>
        have : j = 0 := by simpa [mrk] using hj
        subst this
        simp [mrk]
      | cons t r =>
        cases j with
        | zero => simp [mrk, mrk_len]
        | succ j =>
          have hj' : j < (mrk u (t :: r)).length := by simpa [mrk] using hj
          have := ih j hj'
          simp only [mrk, List.getElem_cons_succ, List.length_cons]
          rw [this]
          simp
  exact key _ j hj
theorem tot_ef_part (w : List Nat) (u : Nat) {p : Nat} (hp : p < (wsg w u).length) : tot ef ((wsg w u).take p) = 0 := by
  induction p with
  | zero => rfl
  | succ p ih =>
    rw [tot_take_succ ef _ (by omega), ih (by omega)]
    have := wsg_last w u (show p < (wsg w u).length by omega)
    rw [decide_eq_false (by omega)] at this
    simp [ef, this]
/-- the raw length of words -/
def wl (q : List Nat × Nat) : Nat := q.1.length
def weS (ws : List (List Nat × Nat)) : List Nat := psum wl 0 ws
theorem tot_rl_wsg (w : List Nat) (u : Nat) : tot rl (wsg w u) = w.length := by
  have h := congrArg List.length (wsg_raw w u)
  have key : ∀ S : List Seg, tot rl S = ((S.map (fun x => x.1)).flatten).length := by
    intro S
    induction S with
    | nil => rfl
    | cons x S ih => rw [tot, ih]; simp [rl]
  rw [key, h]
theorem we_at (ws : List (List Nat × Nat)) {i : Nat} (h : i < ws.length) : (weS ws).getD i 0 = tot wl (ws.take (i + 1)) := by
  unfold weS
  rw [psum_at wl ws 0 i h, Nat.zero_add]
/-- ends of words among places -/
theorem we_place : ∀ (ws : List (List Nat × Nat)) (p : Nat), (p < (SGs ws).length → tot ef ((SGs ws).take p) < ws.length ∧ tot rl ((SGs ws).take (p + 1)) ≤ tot wl (ws.take (tot ef ((SGs ws).take p) + 1))) ∧
    (∀ h : p < (SGs ws).length, (SGs ws)[p].2.2 = true → tot rl ((SGs ws).take (p + 1)) = tot wl (ws.take (tot ef ((SGs ws).take (p + 1)))))
  | [], p => by
    refine ⟨fun h => by simp [SGs] at h, fun h => by simp [SGs] at h⟩
  | q :: ws, p => by
    have hS := SGs_cons q ws
    by_cases hp : p < (wsg q.1 q.2).length
    · have t0 : (SGs (q :: ws)).take p = (wsg q.1 q.2).take p := by rw [hS, List.take_append_of_le_length (by omega)]
      have t1 : (SGs (q :: ws)).take (p + 1) = (wsg q.1 q.2).take (p + 1) := by rw [hS, List.take_append_of_le_length (by omega)]
      have e0 := tot_ef_part q.1 q.2 hp
      refine ⟨fun _ => ?_, fun h he => ?_⟩
      · rw [t0, t1, e0]
        refine ⟨by simp, ?_⟩
        have := tot_take_all rl (wsg q.1 q.2) (p + 1)
        rw [tot_rl_wsg] at this
        simpa [tot, wl] using this
      · have hg : (SGs (q :: ws))[p] = (wsg q.1 q.2)[p] := by
          simp only [hS]
          rw [List.getElem_append_left hp]
        rw [hg, wsg_last q.1 q.2 hp] at he
        have he : p + 1 = (wsg q.1 q.2).length := of_decide_eq_true he
        rw [t1, List.take_of_length_le (by omega), tot_rl_wsg]
        have : tot ef (wsg q.1 q.2) = 1 := tot_ef_mrk _ _ (sgs_ne _ _)
        rw [this]
        simp [tot, wl]
    · obtain ⟨p', rfl⟩ : ∃ p', p = (wsg q.1 q.2).length + p' := ⟨p - (wsg q.1 q.2).length, by omega⟩
      obtain ⟨i1, i2⟩ := we_place ws p'
      have t0 : (SGs (q :: ws)).take ((wsg q.1 q.2).length + p') = wsg q.1 q.2 ++ (SGs ws).take p' := by rw [hS, List.take_append, List.take_of_length_le (by omega), Nat.add_sub_cancel_left]
      have t1 : (SGs (q :: ws)).take ((wsg q.1 q.2).length + p' + 1) = wsg q.1 q.2 ++ (SGs ws).take (p' + 1) := by rw [hS, List.take_append, List.take_of_length_le (by omega), Nat.add_assoc, Nat.add_sub_cancel_left]
      have e1 : tot ef (wsg q.1 q.2) = 1 := tot_ef_mrk _ _ (sgs_ne _ _)
      refine ⟨fun h => ?_, fun h he => ?_⟩
      · have h' : p' < (SGs ws).length := by rw [hS, List.length_append] at h; omega
        obtain ⟨j1, j2⟩ := i1 h'
        rw [t0, t1, tot_app, tot_app, e1, tot_rl_wsg]
        refine ⟨by simp; omega, ?_⟩
        rw [show 1 + tot ef ((SGs ws).take p') + 1 = (tot ef ((SGs ws).take p') + 1) + 1 by omega, List.take_succ_cons, tot]
        show q.1.length + _ ≤ q.1.length + _
        omega
      · have h' : p' < (SGs ws).length := by rw [hS, List.length_append] at h; omega
        have hg : (SGs (q :: ws))[(wsg q.1 q.2).length + p'] = (SGs ws)[p'] := by
          simp only [hS]
          rw [List.getElem_append_right (by omega)]
          simp
        rw [hg] at he
        have := i2 h' he
        rw [t1, tot_app, tot_app, e1, tot_rl_wsg, this]
        rw [show 1 + tot ef ((SGs ws).take (p' + 1)) = tot ef ((SGs ws).take (p' + 1)) + 1 by omega, List.take_succ_cons, tot]
        rfl
theorem SGs_end {ws : List (List Nat × Nat)} {p : Nat} (hp : p < (SGs ws).length) : tot ef ((SGs ws).take p) < ws.length := ((we_place ws p).1 hp).1
theorem cls_PaB {ws : List (List Nat × Nat)} (h : WdOK ws) : PaB (clsP ws).1 (clsP ws).2.1 (clsP ws).2.2.1 (clsP ws).2.2.2 := by
  refine ⟨psL_mono nl _, psL_mono ef _, fun j => ?_, fun j => ?_, fun j hj => ?_, fun b hb => ?_, fun u hu => ?_⟩
  · have := psL_le nl (SGs ws) j
    rw [tot_nl] at this
    exact this
  · have := psL_le ef (SGs ws) j
    rw [tot_ef] at this
    show _ ≤ (ws.map (fun q => q.2)).length
    rw [List.length_map]
    exact this
  · have hj' : j < (SGs ws).length := by
      have : (wbS (SGs ws)).length = (SGs ws).length + 1 := psL_len ef _
      have hj : j + 1 < (wbS (SGs ws)).length := hj
      omega
    show (wbS (SGs ws)).getD j 0 < (ws.map (fun q => q.2)).length
    rw [List.length_map]
    unfold wbS
    rw [psL_at ef _ (by omega)]
    exact SGs_end hj'
  · obtain ⟨q, h1, h2⟩ := mem_ltS hb
    exact ((h.2 q h1).2.2.2 b h2).2
  · obtain ⟨q, h1, rfl⟩ := List.mem_map.mp hu
    exact (h.2 q h1).2.2.1
theorem cls_PlB {ws : List (List Nat × Nat)} (h : WdOK ws) : PlB (clsP ws).2.1 (clsP ws).2.2.1 := by
  have hb := cls_PaB h
  have hc := SGs_cnt (fun q hq => ⟨(h.2 q hq).1, (h.2 q hq).2.1⟩)
  have h80 := h.1
  refine ⟨hb.1, hb.2.1, fun j => ?_, fun j => ?_, fun b hb0 hbl => ?_⟩
  · have := hb.2.2.1 j
    have : (clsP ws).1.length ≤ 8000 := by show (ltS (SGs ws)).length ≤ 8000; omega
    omega
  · have h1 := hb.2.2.2.1 j
    have h2 : (clsP ws).2.2.2.length = ws.length := by simp [clsP]
    omega
  · obtain ⟨j, rfl⟩ : ∃ j, b = j + 1 := ⟨b - 1, by omega⟩
    have hj : j < (SGs ws).length := by
      have : (wbS (SGs ws)).length = (SGs ws).length + 1 := psL_len ef _
      have hbl : j + 1 < (wbS (SGs ws)).length := hbl
      omega
    have := psL_step ef (SGs ws) hj
    have he := ef_le (SGs ws)[j]
    have e9 : (clsP ws).2.2.1 = 0 :: psum ef 0 (SGs ws) := rfl
    rw [Nat.add_sub_cancel, e9, this]
    omega
