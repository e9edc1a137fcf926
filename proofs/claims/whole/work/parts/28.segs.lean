/-! ===== words, cut at their hyphen points ===== -/
def hlt (w : List Nat) : Bool := w.any (fun b => b != 94)
/-- the raw segments of a word: each but the last ends with the first ^ behind its letters -/
def sgs : List Nat → List Nat → List (List Nat)
  | cur, [] => [cur]
  | cur, b :: r => if b = 94 ∧ hlt cur = true ∧ hlt r = true then (cur ++ [94]) :: sgs [] r else sgs (cur ++ [b]) r
abbrev Seg : Type := List Nat × Nat × Bool
def mrk (u : Nat) : List (List Nat) → List Seg
  | [] => []
  | [s] => [(s, u, true)]
  | s :: t :: r => (s, u, false) :: mrk u (t :: r)
def wsg (w : List Nat) (u : Nat) : List Seg := mrk u (sgs [] w)
def SGs (ws : List (List Nat × Nat)) : List Seg := ws.flatMap (fun q => wsg q.1 q.2)
def psum {α : Type} (f : α → Nat) : Nat → List α → List Nat
  | _, [] => []
  | b, x :: r => (b + f x) :: psum f (b + f x) r
def tot {α : Type} (f : α → Nat) : List α → Nat
  | [] => 0
  | x :: r => f x + tot f r
theorem psum_app {α : Type} (f : α → Nat) : ∀ (x y : List α) (b : Nat), psum f b (x ++ y) = psum f b x ++ psum f (b + tot f x) y
  | [], y, b => by simp [psum, tot]
  | a :: x, y, b => by
    rw [List.cons_append, psum, psum, psum_app f x y, tot, List.cons_append, Nat.add_assoc]
theorem tot_app {α : Type} (f : α → Nat) : ∀ (x y : List α), tot f (x ++ y) = tot f x + tot f y
  | [], y => by simp [tot]
  | a :: x, y => by rw [List.cons_append, tot, tot_app f x y, tot, Nat.add_assoc]
theorem psum_len {α : Type} (f : α → Nat) : ∀ (x : List α) (b : Nat), (psum f b x).length = x.length
  | [], b => rfl
  | a :: x, b => by rw [psum, List.length_cons, List.length_cons, psum_len f x]
def nl (x : Seg) : Nat := (noC x.1).length
def ef (x : Seg) : Nat := if x.2.2 then 1 else 0
def rl (x : Seg) : Nat := x.1.length
def lbS (S : List Seg) : List Nat := 0 :: psum nl 0 S
def wbS (S : List Seg) : List Nat := 0 :: psum ef 0 S
def paS (S : List Seg) : List Nat := 0 :: psum rl 0 S
def ltS (S : List Seg) : List Nat := S.flatMap (fun x => noC x.1)
theorem noC_app (x y : List Nat) : noC (x ++ y) = noC x ++ noC y := by simp [noC]
theorem noC_c : noC [94] = [] := rfl
theorem noC_l {b : Nat} (h : b ≠ 94) : noC [b] = [b] := by simp [noC, h]
theorem hlt_noC (w : List Nat) : hlt w = true ↔ 0 < (noC w).length := by
  unfold hlt noC
  rw [List.any_eq_true, List.length_pos_iff]
  constructor
  · rintro ⟨b, h1, h2⟩ e
    have : b ∈ w.filter (fun b => b != 94) := List.mem_filter.mpr ⟨h1, h2⟩
    rw [e] at this
    exact absurd this List.not_mem_nil
  · intro h
    obtain ⟨b, hb⟩ := List.exists_mem_of_ne_nil _ h
    exact ⟨b, (List.mem_filter.mp hb).1, (List.mem_filter.mp hb).2⟩
theorem hlt_nil_noC {w : List Nat} (h : hlt w = false) : noC w = [] := by
  rcases Nat.eq_zero_or_pos (noC w).length with q | q
  · exact List.length_eq_zero_iff.mp q
  · rw [(hlt_noC w).mpr q] at h; cases h
theorem hlt_cons (b : Nat) (r : List Nat) : hlt (b :: r) = ((b != 94) || hlt r) := by simp [hlt]
theorem sgs_ne (cur r : List Nat) : sgs cur r ≠ [] := by
  induction r generalizing cur with
  | nil => simp [sgs]
  | cons b r ih =>
    rw [sgs]
    split
    · simp
    · exact ih _
theorem sgs_no : ∀ (r cur : List Nat), hlt r = false → sgs cur r = [cur ++ r]
  | [], cur, _ => by simp [sgs]
  | b :: r, cur, h => by
    rw [hlt_cons] at h
    have h2 : hlt r = false := by cases q : hlt r with
      | false => rfl
      | true => rw [q] at h; simp at h
    rw [sgs, if_neg (fun z => by rw [h2] at z; exact absurd z.2.2 (by decide)), sgs_no r _ h2]
    simp
theorem mrk_cons (u : Nat) (s : List Nat) {l : List (List Nat)} (h : l ≠ []) : mrk u (s :: l) = (s, u, false) :: mrk u l := by
  cases l with
  | nil => exact absurd rfl h
  | cons t r => rfl
/-- the letters before each hyphen point, as the class finds them -/
def hcC : Nat → Bool → List Nat → List Nat
  | _, _, [] => []
  | c, pv, b :: r => if b = 94 then hcC c true r else if 0 < c ∧ pv = true then c :: hcC (c + 1) false r else hcC (c + 1) false r
theorem hcC_no : ∀ (r : List Nat) (c : Nat) (pv : Bool), hlt r = false → hcC c pv r = []
  | [], c, pv, _ => rfl
  | b :: r, c, pv, h => by
    rw [hlt_cons] at h
    have h2 : hlt r = false := by cases q : hlt r with
      | false => rfl
      | true => rw [q] at h; simp at h
    have h3 : b = 94 := by
      by_cases e : b = 94
      · exact e
      · simp [e] at h
    rw [hcC, if_pos h3, hcC_no r c true h2]
theorem sg_all (u : Nat) : ∀ (r : List Nat),
    (∀ cur c, hlt cur = true → (noC cur).length ≤ c → psum nl (c - (noC cur).length) (mrk u (sgs cur r)) = hcC c false r ++ [c + (noC r).length]) ∧
    (∀ cur c, hlt cur = false → 0 < c → hlt r = true → ∃ t, hcC c true r = c :: t ∧ psum nl c (mrk u (sgs cur r)) = t ++ [c + (noC r).length]) ∧
    (∀ cur pv, hlt cur = false → psum nl 0 (mrk u (sgs cur r)) = hcC 0 pv r ++ [(noC r).length])
  | [] => by
    refine ⟨fun cur c h hc => ?_, fun cur c h _ h2 => ?_, fun cur pv h => ?_⟩
    · simp [sgs, mrk, psum, hcC, nl, noC]
      have : (List.filter (fun b => b != 94) cur).length ≤ c := hc
      omega
    · cases h2
    · have := hlt_nil_noC h
      simp [sgs, mrk, psum, hcC, nl, this]
      rfl
  | b :: r => by
    obtain ⟨iA, iB, iC⟩ := sg_all u r
    refine ⟨fun cur c h hc => ?_, fun cur c h hc0 h2 => ?_, fun cur pv h => ?_⟩
    · by_cases e : b = 94
      · subst e
        have hn : noC (94 :: r) = noC r := by simp [noC]
        rw [hn]
        by_cases hr : hlt r = true
        · rw [sgs, if_pos ⟨rfl, h, hr⟩, mrk_cons u _ (sgs_ne _ _), psum, hcC, if_pos rfl]
          have hv : c - (noC cur).length + nl (cur ++ [94], u, false) = c := by
            simp only [nl, noC_app, noC_c, List.append_nil]
            omega
          rw [hv]
          have hcpos : 0 < c := Nat.lt_of_lt_of_le ((hlt_noC cur).mp h) hc
          obtain ⟨t, t1, t2⟩ := iB [] c rfl hcpos hr
          rw [t1, t2]
          rfl
        · have hr : hlt r = false := by simpa using hr
          have hr2 : hlt (94 :: r) = false := by rw [hlt_cons, hr]; rfl
          rw [sgs_no _ _ hr2, hcC_no _ _ _ hr2, hlt_nil_noC hr]
          have : noC (cur ++ 94 :: r) = noC cur := by rw [noC_app, hn, hlt_nil_noC hr, List.append_nil]
          simp only [mrk, psum, nl, this, List.nil_append, List.length_nil, Nat.add_zero]
          rw [Nat.sub_add_cancel hc]
      · rw [sgs, if_neg (fun z => e z.1), hcC, if_neg e, if_neg (fun z => by cases z.2)]
        have h1 : noC (cur ++ [b]) = noC cur ++ [b] := by rw [noC_app, noC_l e]
        have h3 : hlt (cur ++ [b]) = true := (hlt_noC _).mpr (by rw [h1]; simp)
        have := iA (cur ++ [b]) (c + 1) h3 (by rw [h1]; simp; omega)
        rw [h1, List.length_append, List.length_singleton, show c + 1 - ((noC cur).length + 1) = c - (noC cur).length by omega] at this
        rw [this, show noC (b :: r) = b :: noC r by simp [noC, e], List.length_cons, show c + 1 + (noC r).length = c + ((noC r).length + 1) by omega]
    · by_cases e : b = 94
      · subst e
        have hr : hlt r = true := by rw [hlt_cons] at h2; simpa using h2
        rw [sgs, if_neg (fun z => by rw [h] at z; exact absurd z.2.1 (by decide)), hcC, if_pos rfl, show noC (94 :: r) = noC r by simp [noC]]
        have h3 : hlt (cur ++ [94]) = false := by
          cases q : hlt (cur ++ [94]) with
          | false => rfl
          | true =>
            have := (hlt_noC _).mp q
            rw [noC_app, hlt_nil_noC h] at this
            exact absurd this (by decide)
        exact iB (cur ++ [94]) c h3 hc0 hr
      · rw [sgs, if_neg (fun z => e z.1), hcC, if_neg e, if_pos ⟨hc0, rfl⟩]
        have h1 : noC (cur ++ [b]) = [b] := by rw [noC_app, noC_l e, hlt_nil_noC h]; rfl
        have h3 : hlt (cur ++ [b]) = true := (hlt_noC _).mpr (by rw [h1]; simp)
        have := iA (cur ++ [b]) (c + 1) h3 (by rw [h1]; simp)
        rw [h1, List.length_singleton, Nat.add_sub_cancel] at this
        refine ⟨_, rfl, ?_⟩
        rw [this, show noC (b :: r) = b :: noC r by simp [noC, e], List.length_cons, show c + 1 + (noC r).length = c + ((noC r).length + 1) by omega]
    · by_cases e : b = 94
      · subst e
        rw [sgs, if_neg (fun z => by rw [h] at z; exact absurd z.2.1 (by decide)), hcC, if_pos rfl, show noC (94 :: r) = noC r by simp [noC]]
        have h3 : hlt (cur ++ [94]) = false := by
          cases q : hlt (cur ++ [94]) with
          | false => rfl
          | true =>
            have := (hlt_noC _).mp q
            rw [noC_app, hlt_nil_noC h] at this
            exact absurd this (by decide)
        exact iC (cur ++ [94]) true h3
      · rw [sgs, if_neg (fun z => e z.1), hcC, if_neg e, if_neg (fun z => absurd z.1 (by decide))]
        have h1 : noC (cur ++ [b]) = [b] := by rw [noC_app, noC_l e, hlt_nil_noC h]; rfl
        have h3 : hlt (cur ++ [b]) = true := (hlt_noC _).mpr (by rw [h1]; simp)
        have := iA (cur ++ [b]) 1 h3 (by rw [h1]; simp)
        rw [h1, List.length_singleton, Nat.sub_self] at this
        rw [Nat.zero_add, this, show noC (b :: r) = b :: noC r by simp [noC, e], List.length_cons, Nat.add_comm]
theorem psum_shift {α : Type} (f : α → Nat) : ∀ (x : List α) (b c : Nat), psum f (b + c) x = (psum f c x).map (fun v => b + v)
  | [], b, c => rfl
  | a :: x, b, c => by rw [psum, psum, List.map_cons, Nat.add_assoc, psum_shift f x b]
/-- the letters before each place of a word -/
theorem wsg_nl (w : List Nat) (u B : Nat) : psum nl B (wsg w u) = (hcC 0 false w).map (fun v => B + v) ++ [B + (noC w).length] := by
  have := (sg_all u w).2.2 [] false rfl
  rw [show B = B + 0 from rfl, psum_shift]
  unfold wsg
  rw [this]
  simp
theorem mrk_ef (u : Nat) : ∀ (l : List (List Nat)) (wc : Nat), l ≠ [] → psum ef wc (mrk u l) = List.replicate (l.length - 1) wc ++ [wc + 1]
  | [], wc, h => absurd rfl h
  | [s], wc, _ => by simp [mrk, psum, ef]
  | s :: t :: r, wc, _ => by
    rw [mrk, psum]
    have := mrk_ef u (t :: r) wc (by simp)
    rw [show wc + ef (s, u, false) = wc from rfl, this]
    simp [List.replicate_succ]
theorem mrk_len (u : Nat) : ∀ (l : List (List Nat)), (mrk u l).length = l.length
  | [] => rfl
  | [s] => rfl
  | s :: t :: r => by
    rw [mrk, List.length_cons, mrk_len u (t :: r)]
    simp
theorem wsg_ef (w : List Nat) (u wc : Nat) : psum ef wc (wsg w u) = (hcC 0 false w).map (fun _ => wc) ++ [wc + 1] := by
  have h1 := mrk_ef u (sgs [] w) wc (sgs_ne _ _)
  have h2 := congrArg List.length ((sg_all u w).2.2 [] false rfl)
  rw [psum_len, mrk_len, List.length_append, List.length_singleton] at h2
  unfold wsg
  rw [h1, h2, Nat.add_sub_cancel]
  congr 1
  rw [List.map_const']
/-- the class's letters and places of a word -/
theorem aw_eq (wc B0 : Nat) : ∀ (w : List Nat) (pv : Bool) (L lb wb : List Nat), B0 ≤ L.length → aw wc B0 w pv L lb wb = (L ++ noC w, lb ++ (hcC (L.length - B0) pv w).map (fun v => B0 + v), wb ++ (hcC (L.length - B0) pv w).map (fun _ => wc))
  | [], pv, L, lb, wb, h => by simp [aw, hcC, noC]
  | b :: r, pv, L, lb, wb, h => by
    rw [aw, hcC]
    by_cases e : b = 94
    · rw [if_pos e, if_pos e, aw_eq wc B0 r true L lb wb h, show noC (b :: r) = noC r by simp [noC, e]]
    · have hn : noC (b :: r) = b :: noC r := by simp [noC, e]
      have hl : (L ++ [b]).length - B0 = L.length - B0 + 1 := by simp; omega
      rw [if_neg e, if_neg e]
      by_cases q : B0 < L.length ∧ pv = true
      · rw [if_pos q, if_pos ⟨by omega, q.2⟩, aw_eq wc B0 r false _ _ _ (by simp; omega), hl, hn]
        have : B0 + (L.length - B0) = L.length := by omega
        simp [this]
      · rw [if_neg q, if_neg (fun z => q ⟨by omega, z.2⟩), aw_eq wc B0 r false _ _ _ (by simp; omega), hl, hn]
        simp
theorem tot_nl (S : List Seg) : tot nl S = (ltS S).length := by
  induction S with
  | nil => rfl
  | cons x S ih =>
    rw [tot, ih]
    simp [ltS, nl]
theorem sgs_flat : ∀ (r cur : List Nat), (sgs cur r).flatten = cur ++ r
  | [], cur => by simp [sgs]
  | b :: r, cur => by
    rw [sgs]
    split
    · rename_i h
      rw [List.flatten_cons, sgs_flat r [], h.1]
      simp
    · rw [sgs_flat r (cur ++ [b])]
      simp
theorem mrk_fst (u : Nat) : ∀ l : List (List Nat), (mrk u l).map (fun x => x.1) = l
  | [] => rfl
  | [s] => rfl
  | s :: t :: r => by rw [mrk, List.map_cons, mrk_fst u (t :: r)]
theorem wsg_raw (w : List Nat) (u : Nat) : ((wsg w u).map (fun x => x.1)).flatten = w := by
  unfold wsg
  rw [mrk_fst, sgs_flat]
  rfl
theorem noC_flat : ∀ l : List (List Nat), noC l.flatten = l.flatMap noC
  | [] => rfl
  | s :: l => by rw [List.flatten_cons, noC_app, noC_flat l]; rfl
theorem ltS_wsg (w : List Nat) (u : Nat) : ltS (wsg w u) = noC w := by
  have h := noC_flat ((wsg w u).map (fun x => x.1))
  rw [wsg_raw] at h
  rw [h, List.flatMap_map]
  rfl
theorem ltS_app (x y : List Seg) : ltS (x ++ y) = ltS x ++ ltS y := by simp [ltS]
/-- the class's paragraph of the words ws -/
def clsP (ws : List (List Nat × Nat)) : List Nat × List Nat × List Nat × List Nat := (ltS (SGs ws), lbS (SGs ws), wbS (SGs ws), ws.map (fun q => q.2))
theorem tot_ef_mrk (u : Nat) : ∀ l : List (List Nat), l ≠ [] → tot ef (mrk u l) = 1
  | [], h => absurd rfl h
  | [s], _ => rfl
  | s :: t :: r, _ => by
    rw [mrk, tot, tot_ef_mrk u (t :: r) (by simp)]
    rfl
theorem tot_ef (ws : List (List Nat × Nat)) : tot ef (SGs ws) = ws.length := by
  induction ws with
  | nil => rfl
  | cons q ws ih =>
    have : SGs (q :: ws) = wsg q.1 q.2 ++ SGs ws := by simp [SGs]
    rw [this, tot_app, ih]
    unfold wsg
    rw [tot_ef_mrk _ _ (sgs_ne _ _), List.length_cons, Nat.add_comm]
theorem SGs_snoc (ws : List (List Nat × Nat)) (w : List Nat) (u : Nat) : SGs (ws ++ [(w, u)]) = SGs ws ++ wsg w u := by simp [SGs]
theorem addW_cls (ws : List (List Nat × Nat)) (w : List Nat) (u : Nat) : addW w u (clsP ws) = clsP (ws ++ [(w, u)]) := by
  unfold addW clsP
  dsimp only
  rw [aw_eq _ _ _ _ _ _ _ (Nat.le_refl _), Nat.sub_self, List.length_map, SGs_snoc]
  have e1 : lbS (SGs ws ++ wsg w u) = lbS (SGs ws) ++ psum nl (ltS (SGs ws)).length (wsg w u) := by
    unfold lbS
    rw [psum_app, Nat.zero_add, tot_nl]
    rfl
  have e2 : wbS (SGs ws ++ wsg w u) = wbS (SGs ws) ++ psum ef ws.length (wsg w u) := by
    unfold wbS
    rw [psum_app, Nat.zero_add, tot_ef]
    rfl
  rw [e1, e2, wsg_nl, wsg_ef, ltS_app, ltS_wsg]
  simp
