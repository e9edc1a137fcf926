/-! ===== the table exists; the lines of both sides are one ===== -/
section TBL
variable (lb wb : List Nat) (r1 r2 n : Nat)
noncomputable def bsT : Nat → Nat → Nat → TE
  | 0 => fun _ _ => (0, 0, 0)
  | d + 1 => fun a k => if a + (d + 1) = n then (scn (legO lb wb r1 r2 a) (cndO lb wb r1 r2 n (bsT d) a k) (n - a) (a + 1) none).getD (0, 0, 0) else bsT d a k
end TBL
section TBP
variable {lb wb : List Nat} {r1 r2 n : Nat}
theorem bsT_st {a k : Nat} : ∀ (e d : Nat), n ≤ a + d → bsT lb wb r1 r2 n (d + e) a k = bsT lb wb r1 r2 n d a k
  | 0, d, h => rfl
  | e + 1, d, h => by
    rw [← Nat.add_assoc, bsT]
    dsimp only
    rw [if_neg (by omega)]
    exact bsT_st e d h
theorem bsT_n (k : Nat) : ∀ d, bsT lb wb r1 r2 n d n k = (0, 0, 0)
  | 0 => rfl
  | d + 1 => by
    rw [bsT]
    dsimp only
    rw [if_neg (by omega)]
    exact bsT_n k d
theorem scn_congr {leg : Nat → Bool} {c c' : Nat → Nat × Nat} : ∀ (m b : Nat) (acc : Option TE), (∀ q, b ≤ q → q < b + m → c q = c' q) → scn leg c m b acc = scn leg c' m b acc
  | 0, b, acc, _ => rfl
  | m + 1, b, acc, h => by
    rw [scn, scn, h b (by omega) (by omega)]
    split
    · exact scn_congr m (b + 1) _ (fun q h1 h2 => h q (by omega) (by omega))
    · rfl
theorem accU_some (acc : Option TE) (c : Nat × Nat) (b : Nat) : ∃ y, accU acc c b = some y := by
  unfold accU
  split
  · exact ⟨_, rfl⟩
  · split <;> exact ⟨_, rfl⟩
theorem scn_some {leg : Nat → Bool} {c : Nat → Nat × Nat} : ∀ (m b : Nat) (y : TE), ∃ z, scn leg c m b (some y) = some z
  | 0, b, y => ⟨y, rfl⟩
  | m + 1, b, y => by
    rw [scn]
    split
    · obtain ⟨z, hz⟩ := accU_some (some y) (c b) b
      rw [hz]
      exact scn_some m (b + 1) z
    · exact ⟨y, rfl⟩
theorem DP_bsT : DP lb wb r1 r2 n (bsT lb wb r1 r2 n n) := by
  refine ⟨fun k => bsT_n k n, fun a k ha => ?_⟩
  obtain ⟨d, hd⟩ : ∃ d, n = a + (d + 1) := ⟨n - a - 1, by omega⟩
  have hst : bsT lb wb r1 r2 n n a k = bsT lb wb r1 r2 n (d + 1) a k := by
    have := bsT_st (lb := lb) (wb := wb) (r1 := r1) (r2 := r2) (n := n) (a := a) (k := k) a (d + 1) (by omega)
    rw [show d + 1 + a = n by omega] at this
    exact this
  have hsub : ∀ b k', a < b → b ≤ n → bsT lb wb r1 r2 n d b k' = bsT lb wb r1 r2 n n b k' := by
    intro b k' h1 h2
    have := bsT_st (lb := lb) (wb := wb) (r1 := r1) (r2 := r2) (n := n) (a := b) (k := k') (n - d) d (by omega)
    rw [show d + (n - d) = n by omega] at this
    exact this.symm
  have hc : scn (legO lb wb r1 r2 a) (cndO lb wb r1 r2 n (bsT lb wb r1 r2 n d) a k) (n - a) (a + 1) none = scn (legO lb wb r1 r2 a) (cndO lb wb r1 r2 n (bsT lb wb r1 r2 n n) a k) (n - a) (a + 1) none := by
    refine scn_congr _ _ _ (fun q h1 h2 => ?_)
    unfold cndO
    rw [hsub q _ (by omega) (by omega)]
  have hex : ∃ z, scn (legO lb wb r1 r2 a) (cndO lb wb r1 r2 n (bsT lb wb r1 r2 n n) a k) (n - a) (a + 1) none = some z := by
    rw [show n - a = d + 1 by omega, scn, if_pos (show legO lb wb r1 r2 a (a + 1) = true from decide_eq_true (Or.inl rfl))]
    obtain ⟨y, hy⟩ := accU_some none (cndO lb wb r1 r2 n (bsT lb wb r1 r2 n n) a k (a + 1)) (a + 1)
    rw [hy]
    exact scn_some _ _ _
  obtain ⟨z, hz⟩ := hex
  rw [hz, hst, bsT]
  dsimp only
  rw [if_pos hd.symm, hc, hz]
  rfl
theorem DP_01 {B : Nat → Nat → TE} (h : DP lb wb r1 r2 n B) : B 0 3 = B 0 1 := by
  by_cases hn : 0 < n
  · have h1 := h.2 0 1 hn
    have h3 := h.2 0 3 hn
    have : cndO lb wb r1 r2 n B 0 3 = cndO lb wb r1 r2 n B 0 1 := by
      funext b
      unfold cndO clsh
      rw [if_neg (by omega), if_neg (by omega)]
    rw [this, h1] at h3
    exact (Option.some.inj h3).symm
  · have e : n = 0 := by omega
    subst e
    rw [h.1 3, h.1 1]
end TBP
theorem ux_app (x y : List Nat) : ux (x ++ y) = ux x ++ ux y := by simp [ux]
theorem ux_rep (m : Nat) : ux (List.replicate m 32) = List.replicate m 32 := by
  induction m with
  | zero => rfl
  | succ m ih =>
    rw [List.replicate_succ, ux_cons, ih]
    rfl
theorem ux_und {u : Nat} (hu : u < 2) : ∀ {y : List Nat}, (∀ b ∈ y, 33 ≤ b ∧ b < 128) → ux (y.map (fun b => b + 256 * u)) = und u y
  | [], _ => rfl
  | b :: y, h => by
    have hb := h b List.mem_cons_self
    rw [List.map_cons, ux_cons, und_cons, ux_und hu (fun z hz => h z (List.mem_cons_of_mem _ hz))]
    congr 1
    rcases (show u = 0 ∨ u = 1 by omega) with rfl | rfl
    · rw [if_neg (by omega), if_pos (Or.inl rfl), show (b + 256 * 0) % 256 = b by omega]
    · rw [if_pos (by omega), if_neg (by omega), show (b + 256 * 1) % 256 = b by omega]
theorem slice_nl : ∀ (S : List Seg) (p : Nat) (hp : p < S.length), ((ltS S).take (tot nl (S.take (p + 1)))).drop (tot nl (S.take p)) = noC S[p].1
  | [], p, hp => by simp at hp
  | x :: S, 0, hp => by
    have : ltS (x :: S) = noC x.1 ++ ltS S := by simp [ltS]
    rw [this]
    simp [tot, nl]
  | x :: S, p + 1, hp => by
    have h1 : ltS (x :: S) = noC x.1 ++ ltS S := by simp [ltS]
    have ih := slice_nl S p (by simpa using hp)
    rw [h1, List.take_succ_cons, List.take_succ_cons, tot, tot]
    have e : (noC x.1).length = nl x := rfl
    rw [← e, List.take_length_add_append, List.drop_length_add_append]
    simpa using ih
theorem seg_u : ∀ (ws : List (List Nat × Nat)) (p : Nat) (hp : p < (SGs ws).length), (ws.map (fun q => q.2)).getD (tot ef ((SGs ws).take p)) 0 = (SGs ws)[p].2.1
  | [], p, hp => by simp [SGs] at hp
  | q :: ws, p, hp => by
    have hS := SGs_cons q ws
    have hm : ∀ (u : Nat) (l : List (List Nat)) (z : Seg), z ∈ mrk u l → z.2.1 = u := by
      intro u l
      induction l with
      | nil => intro z hz; simp [mrk] at hz
      | cons s l ih =>
        intro z hz
        cases l with
        | nil =>
          have : z = (s, u, true) := by simpa [mrk] using hz
          rw [this]
        | cons t r =>
          rw [mrk] at hz
          rcases List.mem_cons.mp hz with rfl | hz
          · rfl
          · exact ih z hz
    by_cases h : p < (wsg q.1 q.2).length
    · have t0 : (SGs (q :: ws)).take p = (wsg q.1 q.2).take p := by rw [hS, List.take_append_of_le_length (by omega)]
      have hg : (SGs (q :: ws))[p] = (wsg q.1 q.2)[p] := by
        simp only [hS]
        rw [List.getElem_append_left h]
      rw [t0, tot_ef_part q.1 q.2 h, hg, hm q.2 _ _ (List.getElem_mem h)]
      rfl
    · obtain ⟨p', rfl⟩ : ∃ p', p = (wsg q.1 q.2).length + p' := ⟨p - (wsg q.1 q.2).length, by omega⟩
      have t0 : (SGs (q :: ws)).take ((wsg q.1 q.2).length + p') = wsg q.1 q.2 ++ (SGs ws).take p' := by rw [hS, List.take_append, List.take_of_length_le (by omega), Nat.add_sub_cancel_left]
      have h' : p' < (SGs ws).length := by rw [hS, List.length_append] at hp; omega
      have hg : (SGs (q :: ws))[(wsg q.1 q.2).length + p'] = (SGs ws)[p'] := by
        simp only [hS]
        rw [List.getElem_append_right (by omega)]
        simp
      have e1 : tot ef (wsg q.1 q.2) = 1 := tot_ef_mrk _ _ (sgs_ne _ _)
      rw [t0, tot_app, e1, hg, Nat.add_comm 1, List.map_cons, List.getD_cons_succ]
      exact seg_u ws p' h'
section SAME
variable {ws : List (List Nat × Nat)}
theorem seg_mem (hok : WdOK ws) {p : Nat} (hp : p < (SGs ws).length) : (∀ c ∈ (SGs ws)[p].1, 33 ≤ c ∧ c < 128) ∧ (SGs ws)[p].2.1 < 2 ∧ (SGs ws)[p].1.length ≤ 100 ∧ 0 < (noC (SGs ws)[p].1).length := by
  have hx : (SGs ws)[p] ∈ SGs ws := List.getElem_mem hp
  generalize (SGs ws)[p] = x at hx
  obtain ⟨q, q1, q2⟩ := List.mem_flatMap.mp hx
  have hraw := wsg_raw q.1 q.2
  have hm : x.1 ∈ sgs [] q.1 := by
    have : x.1 ∈ (wsg q.1 q.2).map (fun x => x.1) := List.mem_map.mpr ⟨_, q2, rfl⟩
    unfold wsg at this
    rwa [mrk_fst] at this
  have hsub : ∀ c ∈ x.1, c ∈ q.1 := by
    intro c hc
    rw [← hraw]
    exact List.mem_flatten.mpr ⟨x.1, List.mem_map.mpr ⟨x, q2, rfl⟩, hc⟩
  have hu : ∀ (u : Nat) (l : List (List Nat)) (z : Seg), z ∈ mrk u l → z.2.1 = u := by
    intro u l
    induction l with
    | nil => intro z hz; simp [mrk] at hz
    | cons s l ih =>
      intro z hz
      cases l with
      | nil =>
        have : z = (s, u, true) := by simpa [mrk] using hz
        rw [this]
      | cons t r =>
        rw [mrk] at hz
        rcases List.mem_cons.mp hz with rfl | hz
        · rfl
        · exact ih z hz
  have key : ∀ (r cur : List Nat), hlt (cur ++ r) = true → ∀ s ∈ sgs cur r, 0 < (noC s).length := by
    intro r
    induction r with
    | nil =>
      intro cur h s hs
      have : s = cur := by simpa [sgs] using hs
      rw [this]
      rw [List.append_nil] at h
      exact (hlt_noC cur).mp h
    | cons c r ih =>
      intro cur h s hs
      rw [sgs] at hs
      split at hs
      · rename_i z
        rcases List.mem_cons.mp hs with rfl | hs
        · rw [noC_app, noC_c, List.append_nil]
          exact (hlt_noC cur).mp z.2.1
        · exact ih [] (by simpa using z.2.2) s hs
      · exact ih (cur ++ [c]) (by simpa using h) s hs
  have hlen : x.1.length ≤ q.1.length := by
    have h1 := sgs_flat q.1 []
    have h2 : ∀ (l : List (List Nat)), x.1 ∈ l → x.1.length ≤ l.flatten.length := by
      intro l
      induction l with
      | nil => intro h; simp at h
      | cons s l ih =>
        intro h
        rw [List.flatten_cons, List.length_append]
        rcases List.mem_cons.mp h with h | h
        · rw [h]; omega
        · have := ih h; omega
    have h3 := h2 _ hm
    rw [h1] at h3
    simpa using h3
  obtain ⟨o1, o2, o3, o4⟩ := hok.2 q q1
  exact ⟨fun c hc => o4 c (hsub c hc), by rw [hu q.2 _ x q2]; exact o3, by omega, key q.1 [] (by simpa using o1) _ hm⟩
theorem ux_pc (hok : WdOK ws) {p : Nat} (hp : p < (SGs ws).length) : ux (pcR (SGs ws) p) = pce (clsP ws).1 (clsP ws).2.1 (clsP ws).2.2.1 (clsP ws).2.2.2 p := by
  obtain ⟨m1, m2, -, -⟩ := seg_mem hok hp
  rw [pcR_at hp, ux_und (y := noC (SGs ws)[p].1) m2 (fun b hb => m1 b (List.mem_filter.mp hb).1)]
  unfold pce clsP
  dsimp only
  rw [wb_at (by omega), show (lbS (SGs ws)).getD (p + 1) 0 = tot nl ((SGs ws).take (p + 1)) from psL_at nl _ (by omega), show (lbS (SGs ws)).getD p 0 = tot nl ((SGs ws).take p) from psL_at nl _ (by omega), slice_nl _ _ hp, seg_u ws p hp]
theorem ux_wrt (hok : WdOK ws) (a g sl : Nat) : ∀ (m p k : Nat), p + m ≤ (SGs ws).length → ux (wrt (pcR (SGs ws)) (wbS (SGs ws)) a g sl m p k) = wrt (pce (clsP ws).1 (clsP ws).2.1 (clsP ws).2.2.1 (clsP ws).2.2.2) (wbS (SGs ws)) a g sl m p k
  | 0, p, k, h => rfl
  | m + 1, p, k, h => by
    rw [wrt, wrt]
    split
    · rw [ux_app, ux_app, ux_rep, ux_pc hok (by omega), ux_wrt hok a g sl m (p + 1) (k + 1) (by omega)]
    · rw [ux_app, ux_pc hok (by omega), ux_wrt hok a g sl m (p + 1) k (by omega)]
theorem ux_shC (hok : WdOK ws) {r1 r2 a b : Nat} {jf : Bool} (hab : a < b) (hb : b ≤ (SGs ws).length) : ux (shC ws r1 r2 jf a b) = lnE (clsP ws).1 (clsP ws).2.1 (clsP ws).2.2.1 (clsP ws).2.2.2 r1 r2 (SGs ws).length jf a b := by
  unfold shC lnE
  rw [ux_app, ux_wrt hok _ _ _ _ _ _ (by omega)]
  congr 1
  show ux (if hyp (wbS (SGs ws)) b then [45] else []) = if hyp (wbS (SGs ws)) b then [45] else []
  cases hyp (wbS (SGs ws)) b <;> rfl
theorem shC_lt (hok : WdOK ws) {r1 r2 a b : Nat} {jf : Bool} : ∀ v ∈ shC ws r1 r2 jf a b, v < 512 := by
  have hpc : ∀ p, ∀ v ∈ pcR (SGs ws) p, v < 512 := by
    intro p v hv
    by_cases hp : p < (SGs ws).length
    · rw [pcR_at hp] at hv
      obtain ⟨c, c1, rfl⟩ := List.mem_map.mp hv
      obtain ⟨m1, m2, -, -⟩ := seg_mem hok hp
      have := (m1 c (List.mem_filter.mp c1).1).2
      omega
    · unfold pcR at hv
      rw [List.getElem?_eq_none (by omega)] at hv
      simp at hv
  have hw : ∀ (a g sl m p k : Nat), ∀ v ∈ wrt (pcR (SGs ws)) (wbS (SGs ws)) a g sl m p k, v < 512 := by
    intro a g sl m
    induction m with
    | zero => intro p k v hv; simp [wrt] at hv
    | succ m ih =>
      intro p k v hv
      rw [wrt] at hv
      split at hv
      · rcases List.mem_append.mp hv with hv | hv
        · rcases List.mem_append.mp hv with hv | hv
          · rw [List.eq_of_mem_replicate hv]; decide
          · exact hpc p v hv
        · exact ih _ _ v hv
      · rcases List.mem_append.mp hv with hv | hv
        · exact hpc p v hv
        · exact ih _ _ v hv
  intro v hv
  unfold shC at hv
  rcases List.mem_append.mp hv with hv | hv
  · exact hw _ _ _ _ _ _ v hv
  · split at hv
    · rw [List.mem_singleton.mp hv]; decide
    · simp at hv
theorem shC_ne (hok : WdOK ws) {r1 r2 a b : Nat} {jf : Bool} (hab : a < b) (hb : b ≤ (SGs ws).length) : (shC ws r1 r2 jf a b).isEmpty = false := by
  have hp : a < (SGs ws).length := by omega
  obtain ⟨-, -, -, m4⟩ := seg_mem hok hp
  have h1 : 0 < (pcR (SGs ws) a).length := by rw [pcR_at hp, List.length_map]; exact m4
  cases hq : (shC ws r1 r2 jf a b) with
  | cons c l => rfl
  | nil =>
    have := congrArg List.length hq
    unfold shC at this
    rw [show b - a = (b - a - 1) + 1 by omega, wrt, if_neg (fun z => absurd z.1 (Nat.lt_irrefl _))] at this
    simp only [List.length_append, List.length_nil] at this
    omega
end SAME
