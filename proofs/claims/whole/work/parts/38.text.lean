/-! ===== texts and commands: what they do ===== -/
noncomputable def wd (cur : List Nat) (u : Nat) (m : MS) : MS := if hlt cur = true then sW (if (mW m).length = 80 then mBrk m else m) (mW (if (mW m).length = 80 then mBrk m else m) ++ [(cur, u)]) else m
noncomputable def gW (u : Nat) : List Nat → List Nat → MS → MS
  | cur, [], m => wd cur u m
  | cur, b :: r, m => if b = 32 then gW u [] r (wd cur u m) else gW u (cur ++ [b]) r m
def shW (u : Nat) (z : List Nat) : List Nat := z.map (fun b => if b = 32 then 32 else b + 256 * u)
def mPut (u : Nat) (z : List Nat) (m : MS) : MS := sP m (pPut (mH m) (mF m) (shW u z) (mP m))
def tN (bl : Nat) (N : NN) : NN := upd (upd N 2 (nI (min (cl N 0 - 1) (cl N 2 + bl)))) 5 (nI (cl N 5 - 1))
def tU (N : NN) : Nat := if cl N 5 = 0 then 0 else 1
noncomputable def mT1 (m : MS) : MS := if 0 < pbl (mX m) 0 ∨ (mX m).length = 0 then mBrk m else m
def cN (len : Nat) (N : NN) : NN := upd (upd N 4 (nI (cl N 4 - 1))) 2 (nI ((cl N 0 + cl N 2 + 1 - len) / 2))
noncomputable def mT3 (u : Nat) (y : List Nat) (m : MS) : MS :=
  if 0 < cl (mP m).1 4 then mPut u (noE (noC y)) (sP m (cN (noE (noC y)).length (mP m).1, (mP m).2))
  else if (mP m).1 7 = 0 then mPut u (noC y) m else gW u [] y m
noncomputable def mT2 (x : List Nat) (m : MS) : MS :=
  if pbl x 0 = x.length then mPut 0 [] m else mT3 (tU (mP m).1) (x.drop (pbl x 0)) (sP m (tN (pbl x 0) (mP m).1, (mP m).2))
noncomputable def mTx (m : MS) : MS := mT2 (mX m) (mT1 m)
def brF (c : Nat) (N : NN) : Bool := if c = 25200 then decide (¬ N 9 = 0) else decide (c = 25202 ∨ c = 25445 ∨ c = 26217 ∨ c = 28262 ∨ c = 29552 ∨ c = 29801)
def inN (x : List Nat) (N : NN) : NN := upd (upd N 1 (clp (nI 0) (N 0 - nI 1) (wv x (N 1) (nI 0)))) 2 (clp (nI 0) (N 0 - nI 1) (wv x (N 1) (nI 0)))
def bpM (x : List Nat) (m : MS) : MS := sN (if (mP m).1 9 = 0 then m else sP m (pSkip (mH m) (mF m) (nI 99) (mP m))) 11 (clp (nI 1) (nI 999) (wv x ((if (mP m).1 9 = 0 then m else sP m (pSkip (mH m) (mF m) (nI 99) (mP m))).2.2.1.1 11) ((if (mP m).1 9 = 0 then m else sP m (pSkip (mH m) (mF m) (nI 99) (mP m))).2.2.1.1 11)))
def mOb (x : List Nat) (m : MS) : MS :=
  if cname x = 25202 then m
  else if cname x = 26217 then sN m 7 (nI 1)
  else if cname x = 28262 then sN m 7 (nI 0)
  else if cname x = 27253 then sN m 8 (nI 1)
  else if cname x = 28257 then sN m 8 (nI 0)
  else if cname x = 27763 then sN m 3 (clp (nI 1) (nI 9) (wv x ((mP m).1 3) (nI 1)))
  else if cname x = 26990 then sP m (inN x (mP m).1, (mP m).2)
  else if cname x = 29801 then sN m 2 (clp (nI 0) ((mP m).1 0 - nI 1) (wv x ((mP m).1 2) (nI 0)))
  else if cname x = 29293 then sN m 0 (clp (nI (max (cl (mP m).1 2) (cl (mP m).1 1) + 1)) (nI 80) (wv x ((mP m).1 0) (nI 40)))
  else if cname x = 25445 then sN m 4 (clp (nI 0) (nI 99) (wv x ((mP m).1 4) (nI 1)))
  else if cname x = 30060 then sN m 5 (clp (nI 0) (nI 99) (wv x ((mP m).1 5) (nI 1)))
  else if cname x = 29552 then sP m (pSkip (mH m) (mF m) (clp (nI 0) (nI 99) (wv x (nI 0) (nI 1))) (mP m))
  else if cname x = 25200 then bpM x m
  else if cname x = 28780 then sN m 6 (clp (nI 8) (nI 99) (wv x ((mP m).1 6) (nI 24)))
  else if cname x = 26725 then (m.1, m.2.1, m.2.2.1, (x.drop (rs x), mF m), m.2.2.2.2)
  else if cname x = 26223 then (m.1, m.2.1, m.2.2.1, (mH m, x.drop (rs x)), m.2.2.2.2)
  else (m.1, m.2.1, m.2.2.1, m.2.2.2.1, m.2.2.2.2.1, mQ m + nI 1)
noncomputable def mCm (m : MS) : MS := mOb (mX m) (if brF (cname (mX m)) (mP m).1 = true then mBrk m else m)
/-! the line changes by itself -/
theorem mBrk_sX (m : MS) (y : List Nat) : mBrk (sX m y) = sX (mBrk m) y := by
  unfold mBrk
  by_cases h : mW m = []
  · rw [if_pos h, if_pos (show mW (sX m y) = [] from h)]
  · rw [if_neg h, if_neg (show ¬ mW (sX m y) = [] from h)]
    rfl
theorem mBrk_X (m : MS) : mX (mBrk m) = mX m := by
  unfold mBrk
  split <;> rfl
theorem mBrk_H (m : MS) : mH (mBrk m) = mH m ∧ mF (mBrk m) = mF m ∧ mQ (mBrk m) = mQ m := by
  unfold mBrk
  split <;> exact ⟨rfl, rfl, rfl⟩
theorem mBrk_W {m : MS} (h : mW m ≠ []) : mW (mBrk m) = [] := by
  unfold mBrk
  rw [if_neg h]
theorem wd_sX (cur : List Nat) (u : Nat) (m : MS) (y : List Nat) : wd cur u (sX m y) = sX (wd cur u m) y := by
  unfold wd
  split
  · by_cases h : (mW m).length = 80
    · rw [if_pos h, if_pos (show (mW (sX m y)).length = 80 from h), mBrk_sX]
      rfl
    · rw [if_neg h, if_neg (show ¬ (mW (sX m y)).length = 80 from h)]
      rfl
  · rfl
theorem gW_sX (u : Nat) (y : List Nat) : ∀ (r cur : List Nat) (m : MS), gW u cur r (sX m y) = sX (gW u cur r m) y
  | [], cur, m => wd_sX cur u m y
  | b :: r, cur, m => by
    rw [gW, gW]
    split
    · rw [wd_sX]
      exact gW_sX u y r [] _
    · exact gW_sX u y r _ m
theorem wd_X (cur : List Nat) (u : Nat) (m : MS) : mX (wd cur u m) = mX m := by
  unfold wd
  split
  · show mX (if (mW m).length = 80 then mBrk m else m) = mX m
    split
    · exact mBrk_X m
    · rfl
  · rfl
/-! what stays true -/
theorem NK.set {pb : Nat} {N : NN} (h : NK pb N) {j : Nat} {v : Int32} (h3 : j = 3 → Rg v 1 9) (h4 : j = 4 → Rg v 0 99) (h5 : j = 5 → Rg v 0 99) (h6 : j = 6 → Rg v 8 99) (h7 : j = 7 → ∃ b, v = b2 b) (h8 : j = 8 → ∃ b, v = b2 b) (h9 : j < 9) : NK pb (upd N j v) := by
  obtain ⟨a3, a4, a5, a6, a7, a8, a9, ap⟩ := h
  have key : ∀ q, q ≠ j → upd N j v q = N q := fun q hq => by simp [upd, hq]
  have same : upd N j v j = v := by simp [upd]
  refine ⟨?_, ?_, ?_, ?_, ?_, ?_, ?_, ap.keep (by omega) (by omega)⟩
  · by_cases e : j = 3
    · subst e; rw [same]; exact h3 rfl
    · rw [key 3 (Ne.symm e)]; exact a3
  · by_cases e : j = 4
    · subst e; rw [same]; exact h4 rfl
    · rw [key 4 (Ne.symm e)]; exact a4
  · by_cases e : j = 5
    · subst e; rw [same]; exact h5 rfl
    · rw [key 5 (Ne.symm e)]; exact a5
  · by_cases e : j = 6
    · subst e; rw [same]; exact h6 rfl
    · rw [key 6 (Ne.symm e)]; exact a6
  · by_cases e : j = 7
    · subst e; rw [same]; exact h7 rfl
    · rw [key 7 (Ne.symm e)]; exact a7
  · by_cases e : j = 8
    · subst e; rw [same]; exact h8 rfl
    · rw [key 8 (Ne.symm e)]; exact a8
  · rw [key 9 (by omega)]; exact a9
theorem NK.set2 {pb : Nat} {N : NN} (h : NK pb N) {j : Nat} {v : Int32} (hj : j < 3) : NK pb (upd N j v) := h.set (by omega) (by omega) (by omega) (by omega) (by omega) (by omega) (by omega)
theorem R3.set {N : NN} (h : R3 N) {j : Nat} {v : Int32} (hj : 3 ≤ j) : R3 (upd N j v) := by
  obtain ⟨R, ii, hh, a, b, c, d⟩ := h
  have key : ∀ q, q ≠ j → upd N j v q = N q := fun q hq => by simp [upd, hq]
  exact ⟨R, ii, hh, by rw [key 0 (by omega)]; exact a, by rw [key 1 (by omega)]; exact b, by rw [key 2 (by omega)]; exact c, d⟩
theorem R2.set {N : NN} (h : R2 N) {j : Nat} {v : Int32} (hj : 2 ≤ j) : R2 (upd N j v) := by
  obtain ⟨R, ii, a, b, d⟩ := h
  have key : ∀ q, q ≠ j → upd N j v q = N q := fun q hq => by simp [upd, hq]
  exact ⟨R, ii, by rw [key 0 (by omega)]; exact a, by rw [key 1 (by omega)]; exact b, d⟩
theorem clp_Rg {lo hi : Nat} {v : Int32} (h : lo ≤ hi) (hh : hi < 2 ^ 31) : Rg (clp (nI lo) (nI hi) v) lo hi := by
  unfold clp
  by_cases h1 : v < nI lo
  · rw [if_pos h1]; exact ⟨lo, rfl, Nat.le_refl _, h⟩
  · rw [if_neg h1]
    by_cases h2 : nI hi < v
    · rw [if_pos h2]; exact ⟨hi, rfl, h, Nat.le_refl _⟩
    · rw [if_neg h2]
      rcases i32_cases v with ⟨q, -⟩ | ⟨q1, q2⟩
      · exact absurd (Int32.lt_of_lt_of_le q (show (0 : Int32) ≤ nI lo from Int32.not_lt.mp (nI_neg (by omega)))) h1
      · refine ⟨v.toNatClampNeg, q2, ?_, ?_⟩
        · rw [q2] at h1
          exact Nat.le_of_not_lt (fun z => h1 (nI_lt z (by omega)))
        · rw [q2] at h2
          exact Nat.le_of_not_lt (fun z => h2 (nI_lt z (by omega)))
theorem Rg_cl {N : NN} {j lo hi : Nat} (h : Rg (N j) lo hi) (hh : hi < 2 ^ 31) : N j = nI (cl N j) ∧ lo ≤ cl N j ∧ cl N j ≤ hi := by
  obtain ⟨n, e, h1, h2⟩ := h
  have : cl N j = n := by show (N j).toNatClampNeg = n; rw [e]; exact nI_cl (by omega)
  rw [this]
  exact ⟨e, h1, h2⟩
theorem R3_cl {N : NN} (h : R3 N) : N 0 = nI (cl N 0) ∧ N 1 = nI (cl N 1) ∧ N 2 = nI (cl N 2) ∧ cl N 0 ≤ 80 ∧ cl N 1 < cl N 0 ∧ cl N 2 < cl N 0 := by
  obtain ⟨R, ii, hh, a, b, c, d1, d2, d3⟩ := h
  have e0 : cl N 0 = R := by show (N 0).toNatClampNeg = _; rw [a]; exact nI_cl (by omega)
  have e1 : cl N 1 = ii := by show (N 1).toNatClampNeg = _; rw [b]; exact nI_cl (by omega)
  have e2 : cl N 2 = hh := by show (N 2).toNatClampNeg = _; rw [c]; exact nI_cl (by omega)
  rw [e0, e1, e2]
  exact ⟨a, b, c, d1, d2, d3⟩
theorem wd_Inv {pb u : Nat} {cur : List Nat} {m : MS} (h : Inv pb m) (hc : ∀ b ∈ cur, 33 ≤ b ∧ b < 127) (hl : cur.length ≤ 100) (hu : u < 2) : Inv (pb + 4000) (wd cur u m) := by
  unfold wd
  split
  · rename_i ht
    have key : ∀ m1 : MS, Inv (pb + 4000) m1 → (mW m1).length < 80 → Inv (pb + 4000) (sW m1 (mW m1 ++ [(cur, u)])) := by
      intro m1 h1 h2
      refine ⟨h1.1, ⟨?_, fun q hq => ?_⟩, h1.2.2⟩
      · show (mW m1 ++ [(cur, u)]).length ≤ 80
        simp; omega
      · rcases List.mem_append.mp hq with hq | hq
        · exact h1.2.1.2 q hq
        · rw [List.mem_singleton.mp hq]
          exact ⟨ht, hl, hu, fun b hb => ⟨(hc b hb).1, by have := (hc b hb).2; omega⟩⟩
    have h80 := h.2.1.1
    by_cases e : (mW m).length = 80
    · rw [if_pos e]
      refine key _ (mBrk_Inv h) ?_
      rw [mBrk_W (fun z => by rw [z] at e; cases e)]
      decide
    · rw [if_neg e]
      exact key _ (h.mono (by omega)) (by omega)
  · exact h.mono (by omega)
theorem gW_Inv {u : Nat} (hu : u < 2) : ∀ (r cur : List Nat) (m : MS) (pb : Nat), Inv pb m → (∀ b ∈ cur, 33 ≤ b ∧ b < 127) → (∀ b ∈ r, 32 ≤ b ∧ b < 127) → cur.length + r.length ≤ 100 → Inv (pb + 4000 * (r.length + 1)) (gW u cur r m)
  | [], cur, m, pb, h, hc, hr, hl => by
    rw [gW]
    exact (wd_Inv h hc (by simp at hl; omega) hu).mono (by simp)
  | b :: r, cur, m, pb, h, hc, hr, hl => by
    rw [gW]
    rw [List.length_cons] at hl ⊢
    have hb := hr b List.mem_cons_self
    split
    · have := gW_Inv hu r [] _ (pb + 4000) (wd_Inv h hc (by omega) hu) (fun b hb => absurd hb List.not_mem_nil) (fun c hc => hr c (List.mem_cons_of_mem _ hc)) (by simp; omega)
      exact this.mono (by omega)
    · have := gW_Inv hu r (cur ++ [b]) m pb h (fun c hc2 => by
        rcases List.mem_append.mp hc2 with q | q
        · exact hc c q
        · rw [List.mem_singleton.mp q]; omega) (fun c hc => hr c (List.mem_cons_of_mem _ hc)) (by simp; omega)
      exact this.mono (by omega)
theorem mPut_Inv {pb u : Nat} {z : List Nat} {m : MS} (h1 : ∀ b ∈ mX m, 32 ≤ b ∧ b < 127) (h2 : WdOK (mW m)) (h3 : R2 (mP m).1) (hk : NK pb (mP m).1) (h4 : ∀ b ∈ mH m, b < 128) (h5 : ∀ b ∈ mF m, b < 128) : Inv (pb + 1) (mPut u z m) := ⟨h1, h2, pLine_NI h3 hk, h4, h5⟩
theorem tN_NI {pb bl : Nat} {N : NN} (h : NI pb N) : NI pb (tN bl N) := by
  obtain ⟨h0, h1, h2, h3, h4, h5⟩ := R3_cl h.1
  obtain ⟨e5, -, f5⟩ := Rg_cl h.2.2.2.1 (by decide)
  unfold tN
  refine ⟨R3.set ⟨cl N 0, cl N 1, min (cl N 0 - 1) (cl N 2 + bl), ?_, ?_, ?_, h3, h4, by omega⟩ (by decide), (h.2.set2 (by decide)).set (by omega) (by omega) (fun _ => ⟨_, rfl, by omega, by omega⟩) (by omega) (by omega) (by omega) (by omega)⟩
  · simp [upd]; exact h0
  · simp [upd]; exact h1
  · simp [upd]
theorem mT3_Inv {pb u : Nat} {y : List Nat} {m : MS} (h : Inv pb m) (hu : u < 2) (hy : ∀ b ∈ y, 32 ≤ b ∧ b < 127) (hl : y.length ≤ 100) : Inv (pb + 500000) (mT3 u y m) := by
  unfold mT3
  obtain ⟨a1, a2, a3, a4, a5⟩ := h
  split
  · refine (mPut_Inv (m := sP m (cN (noE (noC y)).length (mP m).1, (mP m).2)) a1 a2 ?_ ?_ a4 a5).mono (show pb + 1 ≤ _ by omega)
    · exact (a3.1.two.set (by decide)).set (by decide)
    · obtain ⟨e4, -, f4⟩ := Rg_cl a3.2.2.1 (by decide)
      exact (a3.2.set (by omega) (fun _ => ⟨_, rfl, by omega, by omega⟩) (by omega) (by omega) (by omega) (by omega) (by omega)).set2 (by omega)
  · split
    · exact (mPut_Inv a1 a2 a3.1.two a3.2 a4 a5).mono (by omega)
    · exact (gW_Inv hu y [] m pb ⟨a1, a2, a3, a4, a5⟩ (fun b hb => absurd hb List.not_mem_nil) hy (by simpa using hl)).mono (by omega)
theorem tU_lt (N : NN) : tU N < 2 := by unfold tU; split <;> decide
theorem mTx_Inv {pb : Nat} {m : MS} (h : Inv pb m) (hl : (mX m).length ≤ 100) : Inv (pb + 600000) (mTx m) := by
  have h1 : Inv (pb + 4000) (mT1 m) := by
    unfold mT1
    split
    · exact mBrk_Inv h
    · exact h.mono (by omega)
  unfold mTx mT2
  split
  · exact (mPut_Inv h1.1 h1.2.1 h1.2.2.1.1.two h1.2.2.1.2 h1.2.2.2.1 h1.2.2.2.2).mono (by omega)
  · refine (mT3_Inv (pb := pb + 4000) (m := sP (mT1 m) (tN (pbl (mX m) 0) (mP (mT1 m)).1, (mP (mT1 m)).2)) ⟨h1.1, h1.2.1, tN_NI h1.2.2.1, h1.2.2.2⟩ (tU_lt _) (fun b hb => h.1 b (List.mem_of_mem_drop hb)) (by rw [List.length_drop]; omega)).mono (by omega)
theorem R3_in {N : NN} {x : List Nat} (h : R3 N) : R3 (inN x N) := by
  obtain ⟨h0, h1, h2, h3, h4, h5⟩ := R3_cl h
  have e : N 0 - nI 1 = nI (cl N 0 - 1) := by rw [h0]; exact pk_sub (b := 1) (by omega)
  obtain ⟨v, v1, -, v2⟩ := clp_Rg (lo := 0) (hi := cl N 0 - 1) (v := wv x (N 1) (nI 0)) (by omega) (by omega)
  refine ⟨cl N 0, v, v, ?_, ?_, ?_, h3, by omega, by omega⟩
  · simp [inN, upd]; exact h0
  · simp [inN, upd]; rw [e]; exact v1
  · simp [inN, upd]; rw [e]; exact v1
theorem iteP {α : Type} {P : α → Prop} {c : Prop} [Decidable c] {a b : α} (h1 : c → P a) (h2 : ¬ c → P b) : P (if c then a else b) := by
  split
  · exact h1 ‹_›
  · exact h2 ‹_›
theorem mOb_Inv {pb : Nat} {x : List Nat} {m : MS} (h : Inv pb m) (hx : ∀ b ∈ x, 32 ≤ b ∧ b < 127) : Inv (pb + 2000) (mOb x m) := by
  obtain ⟨a1, a2, a3, a4, a5⟩ := h
  obtain ⟨h0, h1, h2, h3, h4, h5⟩ := R3_cl a3.1
  have e1 : (mP m).1 0 - nI 1 = nI (cl (mP m).1 0 - 1) := by rw [h0]; exact pk_sub (b := 1) (by omega)
  have hm : Inv (pb + 2000) m := Inv.mono ⟨a1, a2, a3, a4, a5⟩ (by omega)
  have k3 : ∀ (N : NN), NI (pb + 2000) N → ∀ o, Inv (pb + 2000) (sP m (N, o)) := fun N hN o => ⟨a1, a2, hN, a4, a5⟩
  have b3 : R3 (mP m).1 := a3.1
  have bk : NK (pb + 2000) (mP m).1 := a3.2.mono (by omega)
  unfold mOb
  refine iteP (P := Inv (pb + 2000)) (fun _ => ?_) (fun _ => ?_)
  · exact hm
  refine iteP (P := Inv (pb + 2000)) (fun _ => ?_) (fun _ => ?_)
  · exact k3 _ ⟨b3.set (by decide), bk.set (by omega) (by omega) (by omega) (by omega) (fun _ => ⟨true, rfl⟩) (by omega) (by omega)⟩ _
  refine iteP (P := Inv (pb + 2000)) (fun _ => ?_) (fun _ => ?_)
  · exact k3 _ ⟨b3.set (by decide), bk.set (by omega) (by omega) (by omega) (by omega) (fun _ => ⟨false, rfl⟩) (by omega) (by omega)⟩ _
  refine iteP (P := Inv (pb + 2000)) (fun _ => ?_) (fun _ => ?_)
  · exact k3 _ ⟨b3.set (by decide), bk.set (by omega) (by omega) (by omega) (by omega) (by omega) (fun _ => ⟨true, rfl⟩) (by omega)⟩ _
  refine iteP (P := Inv (pb + 2000)) (fun _ => ?_) (fun _ => ?_)
  · exact k3 _ ⟨b3.set (by decide), bk.set (by omega) (by omega) (by omega) (by omega) (by omega) (fun _ => ⟨false, rfl⟩) (by omega)⟩ _
  refine iteP (P := Inv (pb + 2000)) (fun _ => ?_) (fun _ => ?_)
  · exact k3 _ ⟨b3.set (by decide), bk.set (fun _ => clp_Rg (by decide) (by decide)) (by omega) (by omega) (by omega) (by omega) (by omega) (by omega)⟩ _
  refine iteP (P := Inv (pb + 2000)) (fun _ => ?_) (fun _ => ?_)
  · exact k3 _ ⟨R3_in b3, (bk.set2 (by decide)).set2 (by decide)⟩ _
  refine iteP (P := Inv (pb + 2000)) (fun _ => ?_) (fun _ => ?_)
  · refine k3 _ ⟨?_, bk.set2 (by decide)⟩ _
    obtain ⟨v, v1, -, v2⟩ := clp_Rg (lo := 0) (hi := cl (mP m).1 0 - 1) (v := wv x ((mP m).1 2) (nI 0)) (by omega) (by omega)
    refine ⟨cl (mP m).1 0, cl (mP m).1 1, v, ?_, ?_, ?_, h3, h4, by omega⟩
    · simp [upd]; exact h0
    · simp [upd]; exact h1
    · simp [upd]; rw [e1]; exact v1
  refine iteP (P := Inv (pb + 2000)) (fun _ => ?_) (fun _ => ?_)
  · refine k3 _ ⟨?_, bk.set2 (by decide)⟩ _
    obtain ⟨v, v1, v3, v2⟩ := clp_Rg (lo := max (cl (mP m).1 2) (cl (mP m).1 1) + 1) (hi := 80) (v := wv x ((mP m).1 0) (nI 40)) (by omega) (by omega)
    refine ⟨v, cl (mP m).1 1, cl (mP m).1 2, ?_, ?_, ?_, v2, by omega, by omega⟩
    · simp [upd]; exact v1
    · simp [upd]; exact h1
    · simp [upd]; exact h2
  refine iteP (P := Inv (pb + 2000)) (fun _ => ?_) (fun _ => ?_)
  · exact k3 _ ⟨b3.set (by decide), bk.set (by omega) (fun _ => clp_Rg (by decide) (by decide)) (by omega) (by omega) (by omega) (by omega) (by omega)⟩ _
  refine iteP (P := Inv (pb + 2000)) (fun _ => ?_) (fun _ => ?_)
  · exact k3 _ ⟨b3.set (by decide), bk.set (by omega) (by omega) (fun _ => clp_Rg (by decide) (by decide)) (by omega) (by omega) (by omega) (by omega)⟩ _
  refine iteP (P := Inv (pb + 2000)) (fun _ => ?_) (fun _ => ?_)
  · have := pSkip_NI (hd := mH m) (ft := mF m) (s := mP m) (n := clp (nI 0) (nI 99) (wv x (nI 0) (nI 1))) (clp_Rg (by decide) (by decide)) a3
    exact ⟨a1, a2, ⟨this.1, this.2.mono (by omega)⟩, a4, a5⟩
  refine iteP (P := Inv (pb + 2000)) (fun _ => ?_) (fun _ => ?_)
  · have key : ∀ m1 : MS, Inv (pb + 1) m1 → Inv (pb + 2000) (sN m1 11 (clp (nI 1) (nI 999) (wv x (m1.2.2.1.1 11) (m1.2.2.1.1 11)))) := by
      rintro m1 ⟨c1, c2, c3, c4, c5⟩
      refine ⟨c1, c2, ⟨c3.1.set (by decide), NK_of c3.2 (fun j q1 q2 => ?_) ?_ ?_⟩, c4, c5⟩
      · show upd (mP m1).1 11 _ j = _
        simp only [upd]
        rw [if_neg (by omega)]
      · exact (show Rg ((mP m1).1 9) 0 200 from c3.2.2.2.2.2.2.2.1)
      · obtain ⟨v, v1, v3, v2⟩ := clp_Rg (lo := 1) (hi := 999) (v := wv x (m1.2.2.1.1 11) (m1.2.2.1.1 11)) (by omega) (by omega)
        obtain ⟨p, q, e1, e2, p1, p2⟩ := c3.2.2.2.2.2.2.2.2
        refine ⟨v, q, ?_, ?_, by omega, by omega⟩
        · exact v1
        · exact e2
    unfold bpM
    by_cases e : (mP m).1 9 = 0
    · rw [if_pos e]
      exact key m (Inv.mono ⟨a1, a2, a3, a4, a5⟩ (by omega))
    · rw [if_neg e]
      exact key _ ⟨a1, a2, pSkip_NI ⟨99, rfl, by omega, by omega⟩ a3, a4, a5⟩
  refine iteP (P := Inv (pb + 2000)) (fun _ => ?_) (fun _ => ?_)
  · exact k3 _ ⟨b3.set (by decide), bk.set (by omega) (by omega) (by omega) (fun _ => clp_Rg (by decide) (by decide)) (by omega) (by omega) (by omega)⟩ _
  refine iteP (P := Inv (pb + 2000)) (fun _ => ?_) (fun _ => ?_)
  · exact ⟨a1, a2, hm.2.2.1, fun b hb => by have := hx b (List.mem_of_mem_drop hb); omega, a5⟩
  refine iteP (P := Inv (pb + 2000)) (fun _ => ?_) (fun _ => ?_)
  · exact ⟨a1, a2, hm.2.2.1, a4, fun b hb => by have := hx b (List.mem_of_mem_drop hb); omega⟩
  · exact ⟨a1, a2, hm.2.2.1, a4, a5⟩
theorem mCm_Inv {pb : Nat} {m : MS} (h : Inv pb m) : Inv (pb + 6000) (mCm m) := by
  unfold mCm
  split
  · exact (mOb_Inv (mBrk_Inv h) h.1).mono (by omega)
  · exact (mOb_Inv h h.1).mono (by omega)
