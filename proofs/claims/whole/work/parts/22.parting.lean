/-! ===== parting: the model's numbers, and the class's small methods ===== -/
def bad (len room g : Nat) (last : Bool) : Nat :=
  if room < len then 10000 else if last = true ∨ room - len = 0 then 0 else if g = 0 ∨ 20 * g < room - len then 10000 else
    if 100 * (room - len) * (room - len) * (room - len) / (g * g * g) < 10000 then 100 * (room - len) * (room - len) * (room - len) / (g * g * g) else 10000
def kdO (x : Nat) : Nat := if x < 13 then 0 else if x < 100 then 1 else 2
def clsh (k k' : Nat) : Nat := if (k = 0 ∧ k' = 2) ∨ (k = 2 ∧ k' = 0) then 5000 else 0
def plnD (wb : List Nat) (a b bd : Nat) : Nat := (1 + bd) * (1 + bd) + (if hyp wb b then (if hyp wb a then 13000 else 3000) else 0)
theorem bad_le (len room g : Nat) (last : Bool) : bad len room g last ≤ 10000 := by
  unfold bad
  split
  · omega
  · split
    · omega
    · split
      · omega
      · split <;> omega
theorem kdO_lt (x : Nat) : kdO x < 3 := by unfold kdO; split <;> (try split) <;> omega
theorem clsh_le (k k' : Nat) : clsh k k' ≤ 5000 := by unfold clsh; split <;> omega
theorem plnD_le {wb : List Nat} {a b bd : Nat} (h : bd ≤ 10000) : plnD wb a b bd ≤ 100033001 := by
  unfold plnD
  have : (1 + bd) * (1 + bd) ≤ 10001 * 10001 := Nat.mul_le_mul (by omega) (by omega)
  split <;> (try split) <;> omega
section PT
variable {lc : Launch} {G : GG} {σ : St2} {Q : Option Value → St2 → Prop} {L lb wb U : List Nat}
theorem sp_badnessOf {len room g : Nat} {last : Bool} (h1 : len ≤ 10000) (h2 : room ≤ 80) (h3 : g ≤ 80) (k : Q (some (.int (nI (bad len room g last)))) σ) : Ev lc G mPt_badnessOf 0 [some (.int (nI len)), some (.int (nI room)), some (.int (nI g)), some (.int (b2 last)), none] [] σ Q := by
  unfold bad at k
  refine ev_ic_le okPt_badnessOf rfl rfl trivial (fun q => ?_) (fun q => ?_)
  · have q : len ≤ room := (nI_leI (by omega) (by omega)).mp q
    rw [if_neg (by omega)] at k
    have z : last = true ∨ room - len = 0 → Ev lc G mPt_badnessOf 23 [some (.int (nI len)), some (.int (nI room)), some (.int (nI g)), some (.int (b2 last)), some (.int (nI (room - len)))] [] σ Q := by
      intro q2
      rw [if_pos q2] at k
      exact ev_ri okPt_badnessOf rfl rfl trivial rfl k
    refine ev_if_ne okPt_badnessOf rfl rfl trivial (fun q2 => ?_) (fun q2 => ?_)
    · rw [pk_sub q]
      refine z (Or.inl ?_)
      cases last with
      | true => rfl
      | false => exact absurd rfl q2
    · rw [pk_sub q]
      have q2 : ¬ last = true := by
        intro e
        rw [e] at q2
        exact absurd q2 (by decide)
      refine ev_if_ne okPt_badnessOf rfl rfl trivial (fun q3 => ?_) (fun q3 => ?_)
      · have q3 : ¬ room - len = 0 := fun e => q3 (by rw [e]; rfl)
        rw [if_neg (by rintro (e | e); exact q2 e; exact q3 e)] at k
        have w : g = 0 ∨ 20 * g < room - len → Ev lc G mPt_badnessOf 38 [some (.int (nI len)), some (.int (nI room)), some (.int (nI g)), some (.int (b2 last)), some (.int (nI (room - len)))] [] σ Q := by
          intro q4
          rw [if_pos q4] at k
          exact ev_ri okPt_badnessOf rfl rfl trivial rfl k
        refine ev_if_le okPt_badnessOf rfl rfl trivial (fun q4 => w (Or.inl ?_)) (fun q4 => ?_)
        · rcases Nat.eq_zero_or_pos g with e | e
          · exact e
          · exact absurd q4 (nI_nle e (by omega))
        · have q4 : ¬ g = 0 := fun e => q4 (by rw [e]; decide)
          refine ev_ic_le okPt_badnessOf rfl rfl trivial (fun q5 => ?_) (fun q5 => w (Or.inr ?_))
          · rw [pk_mul] at q5
            have q5 : room - len ≤ 20 * g := (nI_leI (by omega) (by omega)).mp q5
            rw [if_neg (by rintro (e | e); exact q4 e; omega)] at k
            have hs : room - len ≤ 80 := by omega
            generalize hS : room - len = s at *
            have e1 : 100 * s ≤ 8000 := by omega
            have e2 : 100 * s * s ≤ 8000 * 80 := Nat.mul_le_mul e1 hs
            have e3 : 100 * s * s * s ≤ 8000 * 80 * 80 := Nat.mul_le_mul e2 hs
            have f1 : g * g ≤ 80 * 80 := Nat.mul_le_mul h3 h3
            have f2 : g * g * g ≤ 80 * 80 * 80 := Nat.mul_le_mul f1 h3
            have f3 : 0 < g * g * g := Nat.mul_pos (Nat.mul_pos (by omega) (by omega)) (by omega)
            have e4 : 100 * s * s * s / (g * g * g) ≤ 8000 * 80 * 80 := Nat.le_trans (Nat.div_le_self _ _) e3
            refine ev_min okPt_badnessOf rfl rfl ⟨by rw [pk_mul, pk_mul]; exact nI_ne0 f3 (by omega), trivial⟩ (by decide +kernel) rfl ?_
            rw [pk_mul, pk_mul, pk_mul, pk_mul, pk_mul, pk_div (by omega) f3 (by omega)]
            refine ev_ri okPt_badnessOf rfl rfl trivial rfl ?_
            by_cases hq : 100 * s * s * s / (g * g * g) < 10000
            · rw [if_pos (nI_lt hq (by decide))]
              rw [if_pos hq] at k
              exact k
            · rw [if_neg (fun z => hq ((nI_ltI (by omega) (by decide)).mp z))]
              rw [if_neg hq] at k
              exact k
          · rw [pk_mul] at q5
            exact (Nat.lt_or_ge (20 * g) (room - len)).resolve_right (fun e => q5 (nI_le e (by omega)))
      · have q3 : room - len = 0 := by
          have : nI (room - len) = 0 := by simpa using q3
          exact (nI_eq (by omega) (by decide)).mp this
        exact z (Or.inr q3)
  · have q : room < len := (Nat.lt_or_ge room len).resolve_right (fun e => q (nI_le e (by omega)))
    rw [if_pos q] at k
    exact ev_ri okPt_badnessOf rfl rfl trivial rfl k
theorem sp_kindOf {x : Nat} (hx : x < 2 ^ 31) (k : Q (some (.int (nI (kdO x)))) σ) : Ev lc G mPt_kindOf 0 [some (.int (nI x))] [] σ Q := by
  unfold kdO at k
  refine ev_ic_ge okPt_kindOf rfl rfl trivial (fun q => ?_) (fun q => ?_)
  · have q : 13 ≤ x := (nI_leI (by decide) hx).mp q
    rw [if_neg (by omega)] at k
    refine ev_ic_ge okPt_kindOf rfl rfl trivial (fun q2 => ?_) (fun q2 => ?_)
    · have q2 : 100 ≤ x := (nI_leI (by decide) hx).mp q2
      rw [if_neg (by omega)] at k
      exact ev_nop okPt_kindOf rfl rfl trivial (ev_ri okPt_kindOf rfl rfl trivial rfl k)
    · have q2 : x < 100 := (Nat.lt_or_ge x 100).resolve_right (fun e => q2 (nI_le e hx))
      rw [if_pos q2] at k
      exact ev_goto okPt_kindOf rfl rfl trivial (ev_ri okPt_kindOf rfl rfl trivial rfl k)
  · have q : x < 13 := (Nat.lt_or_ge x 13).resolve_right (fun e => q (nI_le e hx))
    rw [if_pos q] at k
    exact ev_ri okPt_kindOf rfl rfl trivial rfl k
theorem sp_clash {a b : Nat} (ha : a < 3) (hb : b < 3) (k : Q (some (.int (nI (clsh a b)))) σ) : Ev lc G mPt_clash 0 [some (.int (nI a)), some (.int (nI b))] [] σ Q := by
  have key : ∀ a : Fin 3, ∀ b : Fin 3, (nI a.val - nI b.val = nI 2 ∨ nI b.val - nI a.val = nI 2 ↔ (a.val = 0 ∧ b.val = 2) ∨ (a.val = 2 ∧ b.val = 0)) := by decide
  have key := key ⟨a, ha⟩ ⟨b, hb⟩
  unfold clsh at k
  have yes : (nI a - nI b = nI 2 ∨ nI b - nI a = nI 2) → Ev lc G mPt_clash 14 [some (.int (nI a)), some (.int (nI b))] [] σ Q := by
    intro q
    rw [if_pos (key.mp q)] at k
    exact ev_goto okPt_clash rfl rfl trivial (ev_ri okPt_clash rfl rfl trivial rfl k)
  refine ev_ic_eq okPt_clash rfl rfl trivial (fun q => yes (Or.inl q)) (fun q => ?_)
  refine ev_ic_ne okPt_clash rfl rfl trivial (fun q2 => ?_) (fun q2 => yes (Or.inr q2))
  rw [if_neg (fun z => by rcases key.mpr z with e | e; exact q e; exact q2 e)] at k
  exact ev_nop okPt_clash rfl rfl trivial (ev_ri okPt_clash rfl rfl trivial rfl k)
theorem lN_eqS {n : Nat} (h : n < 2 ^ 31) : (nI n).toInt64 = lN n := nI_l h
theorem sp_plainDemerits (h : PaV σ L lb wb U) (hb : PaB L lb wb U) {a b bd : Nat} (ha : a ≤ 5000) (hb2 : b ≤ 5000) (hd : bd ≤ 10000) (k : Q (some (.long (lN (plnD wb a b bd)))) σ) : Ev lc G mPt_plainDemerits 0 [some (.ref 12), some (.int (nI a)), some (.int (nI b)), some (.int (nI bd)), none, none] [] σ Q := by
  have e1 : lN ((1 : Fin 2).val) + (nI bd).toInt64 = lN (1 + bd) := by rw [nI_l (by omega), lN_add]; rfl
  unfold plnD at k
  refine ev_cv okPt_plainDemerits okPa_isHyphen rfl rfl trivial rfl (by decide +kernel) rfl rfl (sp_isHyphen h hb hb2 ?_)
  refine ev_if_eq okPt_plainDemerits rfl rfl trivial (fun q => ?_) (fun q => ?_)
  · have e : hyp wb b = false := by
      cases z : hyp wb b with
      | false => rfl
      | true => rw [z] at q; exact absurd q (by decide)
    rw [e] at k
    refine ev_rl okPt_plainDemerits rfl rfl trivial rfl ?_
    rw [e1, lN_mul]
    exact k
  · have e : hyp wb b = true := by
      cases z : hyp wb b with
      | true => rfl
      | false => rw [z] at q; exact absurd rfl q
    rw [e, if_pos rfl] at k
    refine ev_cv okPt_plainDemerits okPa_isHyphen rfl rfl trivial rfl (by decide +kernel) rfl rfl (sp_isHyphen h hb ha ?_)
    refine ev_if_eq okPt_plainDemerits rfl rfl trivial (fun q2 => ?_) (fun q2 => ?_)
    · have e2 : hyp wb a = false := by
        cases z : hyp wb a with
        | false => rfl
        | true => rw [z] at q2; exact absurd q2 (by decide)
      rw [e2] at k
      refine ev_nop okPt_plainDemerits rfl rfl trivial (ev_nop okPt_plainDemerits rfl rfl trivial (ev_rl okPt_plainDemerits rfl rfl trivial rfl ?_))
      rw [e1, lN_mul, lN_add]
      exact k
    · have e2 : hyp wb a = true := by
        cases z : hyp wb a with
        | true => rfl
        | false => rw [z] at q2; exact absurd rfl q2
      rw [e2] at k
      refine ev_goto okPt_plainDemerits rfl rfl trivial (ev_nop okPt_plainDemerits rfl rfl trivial (ev_rl okPt_plainDemerits rfl rfl trivial rfl ?_))
      rw [e1, lN_mul, lN_add]
      exact k
def rmO (r1 r2 a : Nat) : Nat := if a = 0 then r1 else r2
theorem sp_roomFrom {r1 r2 a : Nat} (h1 : σ.1 17 4 = nI r1) (h2 : σ.1 17 5 = nI r2) (ha : a ≤ 5000) (k : Q (some (.int (nI (rmO r1 r2 a)))) σ) : Ev lc G mPt_roomFrom 0 [some (.ref 17), some (.int (nI a))] [] σ Q := by
  unfold rmO at k
  refine ev_if_ne okPt_roomFrom rfl rfl trivial (fun q => ?_) (fun q => ?_)
  · have q : ¬ a = 0 := fun e => q (by rw [e]; rfl)
    rw [if_neg q] at k
    refine ev_nop okPt_roomFrom rfl rfl trivial (ev_ri okPt_roomFrom rfl rfl trivial rfl ?_)
    rw [h2]
    exact k
  · have q : a = 0 := (nI_eq (by omega) (by decide)).mp (show nI a = nI 0 from (by simpa using q : nI a = 0))
    rw [if_pos q] at k
    refine ev_goto okPt_roomFrom rfl rfl trivial (ev_ri okPt_roomFrom rfl rfl trivial rfl ?_)
    rw [h1]
    exact k
/-- a cost is kept if it is less -/
def kif (σ : St2) (i : Nat) (to : Int32) (c : Int64) : St2 := if c < σ.2 18 i then (up2 σ.1 19 i to, up2 σ.2 18 i c) else σ
theorem sp_keepIfLess {i : Nat} (hi : i < 12003) {to : Int32} {c : Int64} (k : Q none (kif σ i to c)) : Ev lc G mPt_keepIfLess 0 [some (.ref 17), some (.int (nI i)), some (.int to), some (.long c), none] [] σ Q := by
  unfold kif at k
  refine ev_if_lt okPt_keepIfLess rfl rfl trivial (fun q => absurd q (nI_neg (by omega))) (fun q => ?_)
  refine ev_ic_ge okPt_keepIfLess rfl rfl trivial (fun q => absurd q (nI_ge hi (by decide))) (fun q => ?_)
  have vp : vp_in (nI i) 12003 := vp_nI hi (by decide)
  refine ev_if_ge okPt_keepIfLess rfl rfl ⟨vp, trivial⟩ (fun q2 => ?_) (fun q2 => ?_)
  · rw [nI_cl (by omega)] at q2
    rw [if_neg (Int64.not_lt.mpr ((lg_cmp_ge _ _).mp q2))] at k
    exact ev_rv okPt_keepIfLess rfl rfl trivial rfl k
  · rw [nI_cl (by omega)] at q2
    have q3 : c < σ.2 18 i := Int64.not_le.mp (fun z => q2 ((lg_cmp_ge _ _).mpr z))
    rw [if_pos q3] at k
    refine ev_nop okPt_keepIfLess rfl rfl ⟨vp, vp, trivial⟩ (ev_rv okPt_keepIfLess rfl rfl trivial rfl ?_)
    rw [nI_cl (by omega)]
    exact k
end PT
