/-! ===== the class: its methods ===== -/
noncomputable def mEn (m : MS) : MS := sX (if tb (mX m) (nI 0) = nI 46 then mCm m else mTx m) []
def rN (N : NN) : NN := fun j => match j with
  | 0 => nI 40 | 1 => nI 0 | 2 => nI 0 | 3 => nI 1 | 4 => nI 0 | 5 => nI 0 | 6 => nI 24 | 7 => nI 1 | 8 => nI 1 | 9 => nI 0 | 10 => nI 0 | 11 => nI 1 | j => N j
noncomputable def mF1 (m : MS) : MS := if (mP (mBrk m)).1 9 = 0 then mBrk m else sP (mBrk m) (pSkip (mH (mBrk m)) (mF (mBrk m)) (nI 99) (mP (mBrk m)))
def mRs (m : MS) : MS := ([], m.2.1, (rN (mP m).1, (mP m).2), ([], []), m.2.2.2.2)
noncomputable def mFi (m : MS) : MS := mRs (mF1 m)
def mWi (m : MS) : MS := sP m ((mP m).1, [])
def lnA (F : List Nat) (i w : Int32) : Int32 := if i < 0 then mI 0 else if i < nI (F.length / 6) then (if w < 0 then mI 1 else if nI 6 ≤ w then mI 1 else nI (F.getD (6 * i.toNatClampNeg + w.toNatClampNeg) 0)) else mI 0
def ctA (m : MS) (w : Int32) : Int32 := if w < 0 then mI 1 else match w.toNatClampNeg with
  | 0 => nI (mW m).length | 1 => (mP m).1 9 | 2 => (mP m).1 10 | 3 => (mP m).1 11 | 4 => (mP m).1 0 | 5 => (mP m).1 1 | 6 => (mP m).1 2 | 7 => (mP m).1 3 | 8 => (mP m).1 4 | 9 => (mP m).1 5 | 10 => (mP m).1 6 | 11 => (mP m).1 7 | 12 => (mP m).1 8 | 13 => nI ((mT m).length / 6) | 14 => mQ m | 15 => (mP m).1 12 | 16 => nI (mX m).length | _ => mI 1
def by8 (w : Int64) (i : Nat) : Nat := (w.toUInt64.toNat >>> (8 * i)) % 256
def tyX (w : Int64) : Nat → Nat → List Nat → List Nat
  | 0, _, x => x
  | r + 1, i, x => tyX w r (i + 1) (if 32 ≤ by8 w i ∧ by8 w i ≤ 126 then x ++ [by8 w i] else x)
/-- what type answers, and the line then -/
def tyA (x : List Nat) (w : Int64) (n : Int32) : Int32 × List Nat := if n < nI 1 ∨ nI 8 < n then (mI 1, x) else if nI 100 < nI x.length + n then (mI 2, x) else (nI (tyX w n.toNatClampNeg 0 x).length, tyX w n.toNatClampNeg 0 x)
abbrev CC : List Nat := [0, 1, 2, 3, 4, 5, 6, 7, 8, 9, 10, 11, 12, 13, 14, 15, 16, 17, 18, 19, 20, 21]
theorem by8_lt (w : Int64) (i : Nat) : by8 w i < 256 := Nat.mod_lt _ (by decide)
section CP
variable {lc : Launch} {G : GG} {σ : St2} {Q : Option Value → St2 → Prop} {m : MS} {pb : Nat}
theorem sp_enterC (hc : CV σ m) (hi : Inv pb m) (hpb : pb < 600000000) (k : ∀ σ', CV σ' (mEn m) → Fr CC σ σ' → Q (some (.int ((mP (mEn m)).1 12 - (mP m).1 12))) σ') : Ev lc G mPf_enter 0 [some (.ref 0), none] [] σ Q := by
  have e7 : σ.1 7 7 = (mP m).1 12 := hc.2.1.2.1 3 (by decide)
  have h100 := hc.1.1
  refine ev_cv okPf_enter okTx_byteAt rfl rfl trivial rfl (by decide +kernel) rfl rfl (sp_byteAt (Or.inl rfl) hc.1 ?_)
  rw [e7]
  have fin : ∀ (m1 : MS) (y : List Nat) (σ1 : St2), CV σ1 (sX m1 y) → Fr CC σ σ1 → mEn m = sX m1 [] → Ev lc G mPf_enter 54 [some (.ref 0), some (.int ((mP m).1 12))] [] σ1 Q := by
    intro m1 y σ1 c1 f1 e1
    have f2 : Fr [1, 2] σ1 (up2 σ1.1 1 1 (nI 0), σ1.2) := Fr.u1 (by decide)
    have c2 : CV (up2 σ1.1 1 1 (nI 0), σ1.2) (sX m1 []) := c1.tx f2 (TextAt.empty σ1 1)
    have e2 : (up2 σ1.1 1 1 (nI 0), σ1.2).1 7 7 = (mP m1).1 12 := c2.2.1.2.1 3 (by decide)
    refine ev_ri okPf_enter rfl rfl trivial rfl ?_
    rw [e2]
    have := k _ (by rw [e1]; exact c2) (f1.tr (f2.wk (by decide)))
    rw [e1] at this
    exact this
  refine ev_ic_ne okPf_enter rfl rfl trivial (fun g => ?_) (fun g => ?_)
  · have e : mEn m = sX (mTx m) [] := by unfold mEn; rw [if_neg g]
    refine ev_cv okPf_enter okPf_takeText rfl rfl trivial rfl (by decide +kernel) rfl rfl (sp_takeText hc hi (by omega) fun σ1 y q1 q2 => ?_)
    exact fin (mTx m) y σ1 q1 (q2.wk (by decide)) e
  · have g : tb (mX m) (nI 0) = nI 46 := by simpa using g
    have e : mEn m = sX (mCm m) [] := by unfold mEn; rw [if_pos g]
    refine ev_cv okPf_enter okCm_read rfl rfl trivial rfl (by decide +kernel) rfl rfl (sp_read hi.x128 hc.1 fun σ1 q1 q2 => ?_)
    have c1 : CV σ1 m := by
      obtain ⟨a1, a2, a3, ⟨E, a4⟩, a5, a6⟩ := hc
      exact ⟨a1.fr q2 (by decide) (by decide), a2.fr q2 (by decide), a3.fr q2 (by decide), ⟨E, a4.fr q2 (by decide)⟩, by rw [q2.a2 (by decide)]; exact a5, by rw [q2.a1 (by decide)]; exact a6⟩
    refine ev_cv okPf_enter okPf_breaksFirst rfl rfl trivial rfl (by decide +kernel) rfl rfl (sp_breaksFirst hi.x128 c1 q1 ?_)
    have obey : ∀ (m1 : MS) (σ2 : St2), CV σ2 m1 → mX m1 = mX m → CmdAt σ2 (mX m) → Inv (pb + 4000) m1 → Fr CC σ σ2 → mCm m = mOb (mX m) m1 → Ev lc G mPf_enter 43 [some (.ref 0), some (.int ((mP m).1 12))] [] σ2 Q := by
      intro m1 σ2 c2 x2 cm2 i2 f2 e2
      refine ev_cv okPf_enter okPf_obey rfl rfl trivial rfl (by decide +kernel) rfl rfl (sp_obey c2 x2 cm2 i2 (by omega) fun σ3 r1 r2 => ?_)
      refine ev_goto okPf_enter rfl rfl trivial (fin (mCm m) (mX (mCm m)) σ3 ?_ (f2.tr (r2.wk (by decide))) e)
      rw [e2]
      exact r1
    refine ev_if_eq okPf_enter rfl rfl trivial (fun g2 => ?_) (fun g2 => ?_)
    · rw [b2_0] at g2
      refine obey m σ1 c1 rfl q1 (hi.mono (by omega)) (q2.wk (by decide)) ?_
      unfold mCm
      rw [if_neg (by rw [g2]; decide)]
    · rw [b2_0] at g2
      have g2 : brF (cname (mX m)) (mP m).1 = true := by simpa using g2
      refine ev_cv okPf_enter okPf_breakParagraph rfl rfl trivial rfl (by decide +kernel) rfl rfl (sp_brkC c1 hi (by omega) fun σ2 r1 r2 => ?_)
      refine obey (mBrk m) σ2 r1 (mBrk_X m) (q1.fr r2 (by decide)) (mBrk_Inv hi) ((q2.wk (by decide)).tr (r2.wk (by decide))) ?_
      unfold mCm
      rw [if_pos g2]
theorem sp_pgReset (k : Q none (up2 (up2 (up2 (up2 (up2 σ.1 8 1 (nI 0)) 10 1 (nI 0)) 7 4 (nI 0)) 7 5 (nI 0)) 7 6 (nI 1), σ.2)) : Ev lc G mPg_reset 0 [some (.ref 7)] [] σ Q :=
  ev_rv okPg_reset rfl rfl trivial rfl k
theorem sp_finishC (hc : CV σ m) (hi : Inv pb m) (hpb : pb < 600000000) (k : ∀ σ', CV σ' (mFi m) → Fr CC σ σ' → Q (some (.int ((mP (mFi m)).1 12 - (mP m).1 12))) σ') : Ev lc G mPf_finish 0 [some (.ref 0), none] [] σ Q := by
  have e7 : σ.1 7 7 = (mP m).1 12 := hc.2.1.2.1 3 (by decide)
  refine ev_cv okPf_finish okPf_breakParagraph rfl rfl trivial rfl (by decide +kernel) rfl rfl (sp_brkC hc hi (by omega) fun σ1 q1 q2 => ?_)
  rw [e7]
  have i1 := mBrk_Inv hi
  have fin : ∀ σ2, CV σ2 (mF1 m) → Fr CC σ σ2 → Ev lc G mPf_finish 31 [some (.ref 0), some (.int ((mP m).1 12))] [] σ2 Q := by
    have hk : ∀ σ', CV σ' (mRs (mF1 m)) → Fr CC σ σ' → Q (some (.int ((mP (mF1 m)).1 12 - (mP m).1 12))) σ' := k
    generalize mF1 m = m1 at hk ⊢
    intro σ2 c2 f2
    refine ev_cv okPf_finish okLa_reset rfl rfl trivial rfl (by decide +kernel) rfl rfl (sp_reset ?_)
    refine ev_cv okPf_finish okPg_reset rfl rfl trivial rfl (by decide +kernel) rfl rfl (sp_pgReset ?_)
    refine ev_ri okPf_finish rfl rfl trivial rfl ?_
    have e12 : σ2.1 7 7 = (mP m1).1 12 := c2.2.1.2.1 3 (by decide)
    obtain ⟨a1, ⟨p1, p2, p3, p4, p5⟩, a3, ⟨E, a4⟩, a5, a6⟩ := c2
    generalize hT : (up2 (up2 (up2 (up2 (up2 ((up2 (up2 (up2 (up2 (up2 (up2 (up2 (up2 (up2 (up2 σ2.1 1 1 (nI 0), σ2.2).1 4 0 (nI 40)) 4 1 (nI 0)) 4 2 (nI 0)) 4 3 (nI 1)) 4 4 (nI 0)) 4 5 (nI 0)) 4 6 (nI 24)) 4 7 (nI 1)) 4 8 (nI 1), (up2 σ2.1 1 1 (nI 0), σ2.2).2)).1 8 1 (nI 0)) 10 1 (nI 0)) 7 4 (nI 0)) 7 5 (nI 0)) 7 6 (nI 1), ((up2 (up2 (up2 (up2 (up2 (up2 (up2 (up2 (up2 (up2 σ2.1 1 1 (nI 0), σ2.2).1 4 0 (nI 40)) 4 1 (nI 0)) 4 2 (nI 0)) 4 3 (nI 1)) 4 4 (nI 0)) 4 5 (nI 0)) 4 6 (nI 24)) 4 7 (nI 1)) 4 8 (nI 1), (up2 σ2.1 1 1 (nI 0), σ2.2).2)).2) = τ
    have f3 : Fr [1, 4, 7, 8, 10] σ2 τ := by
      intro c hcn
      simp only [List.mem_cons, List.not_mem_nil, or_false, not_or] at hcn
      obtain ⟨n1, n4, n7, n8, n10⟩ := hcn
      rw [← hT]
      exact ⟨by simp [up2, n1, n4, n7, n8, n10], rfl⟩
    have t7 : τ.1 7 7 = (mP m1).1 12 := by rw [← hT]; simp [up2]; exact e12
    rw [t7]
    have T1 : TextAt τ 1 [] := ⟨by decide, by rw [← hT]; simp [up2], RowAt.nil⟩
    have T8 : TextAt τ 8 [] := ⟨by decide, by rw [← hT]; simp [up2], RowAt.nil⟩
    have T10 : TextAt τ 10 [] := ⟨by decide, by rw [← hT]; simp [up2], RowAt.nil⟩
    refine hk τ ⟨T1, ⟨fun j hj => ?_, fun j hj => ?_, T8, T10, p5.fr f3 (by decide) (by decide)⟩, a3.fr f3 (by decide), ⟨E, a4.fr f3 (by decide)⟩, by rw [f3.a2 (by decide)]; exact a5, by rw [f3.a1 (by decide)]; exact a6⟩ (f2.tr (f3.wk (by decide)))
    · rcases (show j = 0 ∨ j = 1 ∨ j = 2 ∨ j = 3 ∨ j = 4 ∨ j = 5 ∨ j = 6 ∨ j = 7 ∨ j = 8 by omega) with rfl | rfl | rfl | rfl | rfl | rfl | rfl | rfl | rfl
      all_goals (rw [← hT]; simp [up2, rN, mRs])
    · rcases (show j = 0 ∨ j = 1 ∨ j = 2 ∨ j = 3 by omega) with rfl | rfl | rfl | rfl
      · rw [← hT]; simp [up2, rN, mRs]
      · rw [← hT]; simp [up2, rN, mRs]
      · rw [← hT]; simp [up2, rN, mRs]
      · exact t7
  refine ev_cv okPf_finish okPg_isBegun rfl rfl trivial rfl (by decide +kernel) rfl rfl (sp_isBegun q1.2.1 ?_)
  by_cases z : (mP (mBrk m)).1 9 = 0
  · rw [if_pos z]
    have e : mF1 m = mBrk m := if_pos z
    rw [e] at fin
    exact ev_if_eq okPf_finish rfl rfl trivial (fun g => fin σ1 q1 (q2.wk (by decide))) (fun g => absurd rfl g)
  · rw [if_neg z]
    have e : mF1 m = sP (mBrk m) (pSkip (mH (mBrk m)) (mF (mBrk m)) (nI 99) (mP (mBrk m))) := if_neg z
    rw [e] at fin
    refine ev_if_eq okPf_finish rfl rfl trivial (fun g => absurd g (by decide)) (fun g => ?_)
    refine ev_cv okPf_finish okPg_skip rfl rfl trivial rfl (by decide +kernel) rfl rfl (sp_skip (B := pb + 4000) q1.2.1 i1.2.2.2.1 i1.2.2.2.2 (by omega) i1.2.2.1.2.2.2.2.2.2.2.2 fun σ2 r1 r2 => ?_)
    exact fin σ2 (q1.pg (r2.wk (by decide)) r1) ((q2.wk (by decide)).tr (r2.wk (by decide)))
theorem sp_wipeC (hc : CV σ m) (k : ∀ σ', CV σ' (mWi m) → Fr CC σ σ' → Q (some (.int (nI (mP m).2.length))) σ') : Ev lc G mPf_wipe 0 [some (.ref 0), none] [] σ Q := by
  have e : σ.1 5 1 = nI (mP m).2.length := hc.2.1.2.2.2.2.2.1
  refine ev_ri okPf_wipe rfl rfl trivial rfl ?_
  rw [e]
  have f : Fr [5, 6] σ (up2 σ.1 5 1 (nI 0), σ.2) := Fr.u1 (by decide)
  exact k _ (hc.pg (f.wk (by decide)) (hc.2.1.out f ⟨by decide, up2_same σ.1 5 1 _, RowAt.nil⟩)) (f.wk (by decide))
theorem sp_lengthC (hc : CV σ m) (k : Q (some (.int (nI (mP m).2.length))) σ) : Ev lc G mPf_length 0 [some (.ref 0)] [] σ Q := by
  have e : σ.1 5 1 = nI (mP m).2.length := hc.2.1.2.2.2.2.2.1
  refine ev_ri okPf_length rfl rfl trivial rfl ?_
  rw [e]
  exact k
theorem sp_outByte {o : List Nat} (ho : OutAt σ o) {i : Int32} (k : Q (some (.int (tb o i))) σ) : Ev lc G mOu_byteAt 0 [some (.ref 5), some (.int i)] [] σ Q := by
  obtain ⟨h1, h2, h3⟩ := ho
  unfold tb at k
  refine ev_if_lt okOu_byteAt rfl rfl trivial (fun g => ?_) (fun g => ?_)
  · rw [if_pos g] at k
    exact ev_nop okOu_byteAt rfl rfl trivial (ev_ri okOu_byteAt rfl rfl trivial rfl k)
  · rw [if_neg g] at k
    refine ev_ic_ge okOu_byteAt rfl rfl trivial (fun g2 => ?_) (fun g2 => ?_)
    · rw [h2] at g2
      rw [if_pos g2] at k
      exact ev_nop okOu_byteAt rfl rfl trivial (ev_ri okOu_byteAt rfl rfl trivial rfl k)
    · rw [h2] at g2
      rw [if_neg g2] at k
      rcases i32_cases i with ⟨q, -⟩ | ⟨q1, q2⟩
      · exact absurd q g
      · have hlt : i.toNatClampNeg < o.length := by
          rcases Nat.lt_or_ge i.toNatClampNeg o.length with q | q
          · exact q
          · exact absurd (by rw [q2]; exact nI_le q q1) g2
        refine ev_goto okOu_byteAt rfl rfl ⟨by rw [q2]; exact vp_nI (by omega) (by decide), trivial⟩ (ev_ri okOu_byteAt rfl rfl trivial rfl ?_)
        rw [h3 _ hlt]
        exact k
theorem sp_atC (hc : CV σ m) {i : Int32} (k : Q (some (.int (tb (mP m).2 i))) σ) : Ev lc G mPf_at 0 [some (.ref 0), some (.int i)] [] σ Q :=
  ev_cv okPf_at okOu_byteAt rfl rfl trivial rfl (by decide +kernel) rfl rfl (sp_outByte hc.2.1.2.2.2.2 (ev_ri okPf_at rfl rfl trivial rfl k))
theorem sp_demeritsC (hc : CV σ m) (k : Q (some (.long (mD m))) σ) : Ev lc G mPf_demerits 0 [some (.ref 0)] [] σ Q := by
  refine ev_rl okPf_demerits rfl rfl trivial rfl ?_
  rw [hc.2.2.2.2.1]
  exact k
theorem sp_lineC (hc : CV σ m) {i w : Int32} (k : Q (some (.int (lnA (mT m) i w))) σ) : Ev lc G mPf_line 0 [some (.ref 0), some (.int i), some (.int w)] [] σ Q := by
  obtain ⟨E, hl⟩ := hc.2.2.2.1
  refine ev_cv okPf_line okPt_fact rfl rfl trivial rfl (by decide +kernel) rfl rfl (sp_fact hl (ev_ri okPf_line rfl rfl trivial rfl ?_))
  have e : lnQ E (mT m) i w = lnA (mT m) i w := by
    unfold lnQ lnA
    rw [hl.2.1, Nat.mul_div_cancel_left _ (by decide)]
  rw [e]
  exact k
theorem sp_countC (hc : CV σ m) (h7 : ∃ fl, (mP m).1 7 = b2 fl) (h8 : ∃ jf, (mP m).1 8 = b2 jf) {w : Int32} (k : Q (some (.int (ctA m w))) σ) : Ev lc G mPf_count 0 [some (.ref 0), some (.int w)] [] σ Q := by
  obtain ⟨a1, ⟨p1, p2, p3, p4, p5⟩, a3, ⟨E, a4⟩, a5, a6⟩ := hc
  rcases i32_cases w with ⟨q, -⟩ | ⟨q1, q2⟩
  · have e : ctA m w = mI 1 := if_pos q
    rw [e] at k
    refine ev_tout 233 okPf_count rfl rfl trivial (Or.inl (Int32.lt_iff_toInt_lt.mp q)) rfl (ev_ri okPf_count rfl rfl trivial rfl k)
  · generalize w.toNatClampNeg = j at q1 q2
    subst q2
    have hn : ¬ nI j < 0 := nI_neg q1
    have e : ctA m (nI j) = _ := if_neg hn
    rw [e, nI_cl q1] at k
    by_cases hj : j ≤ 16
    · have go : ∀ tgt off, (#[83, 91, 99, 107, 115, 123, 131, 139, 147, 155, 163, 171, 187, 203, 211, 216, 224] : Array Int)[j]? = some off → (1 : Int) + off = (tgt : Nat) → Ev lc G mPf_count tgt [some (.ref 0), some (.int (nI j))] [] σ Q → Ev lc G mPf_count 0 [some (.ref 0), some (.int (nI j))] [] σ Q := by
        intro tgt off h1 h2 h3
        refine ev_tin tgt okPf_count rfl rfl trivial (by rw [nI_int q1]; omega) (by rw [nI_int q1]; omega) ?_ h2 h3
        rw [nI_int q1, Int.sub_zero, Int.toNat_natCast]
        exact h1
      rcases (show j = 0 ∨ j = 1 ∨ j = 2 ∨ j = 3 ∨ j = 4 ∨ j = 5 ∨ j = 6 ∨ j = 7 ∨ j = 8 ∨ j = 9 ∨ j = 10 ∨ j = 11 ∨ j = 12 ∨ j = 13 ∨ j = 14 ∨ j = 15 ∨ j = 16 by omega) with rfl | rfl | rfl | rfl | rfl | rfl | rfl | rfl | rfl | rfl | rfl | rfl | rfl | rfl | rfl | rfl | rfl
      · refine go 84 83 rfl rfl (ev_ri okPf_count rfl rfl trivial rfl ?_)
        rw [a3.2.2.2.2.2.1, show (clsP (mW m)).2.2.2.length = (mW m).length from List.length_map ..]
        exact k
      · refine go 92 91 rfl rfl (ev_ri okPf_count rfl rfl trivial rfl ?_)
        rw [show σ.1 7 4 = _ from p2 0 (by decide)]; exact k
      · refine go 100 99 rfl rfl (ev_ri okPf_count rfl rfl trivial rfl ?_)
        rw [show σ.1 7 5 = _ from p2 1 (by decide)]; exact k
      · refine go 108 107 rfl rfl (ev_ri okPf_count rfl rfl trivial rfl ?_)
        rw [show σ.1 7 6 = _ from p2 2 (by decide)]; exact k
      · refine go 116 115 rfl rfl (ev_ri okPf_count rfl rfl trivial rfl ?_)
        rw [p1 0 (by decide)]; exact k
      · refine go 124 123 rfl rfl (ev_ri okPf_count rfl rfl trivial rfl ?_)
        rw [p1 1 (by decide)]; exact k
      · refine go 132 131 rfl rfl (ev_ri okPf_count rfl rfl trivial rfl ?_)
        rw [p1 2 (by decide)]; exact k
      · refine go 140 139 rfl rfl (ev_ri okPf_count rfl rfl trivial rfl ?_)
        rw [p1 3 (by decide)]; exact k
      · refine go 148 147 rfl rfl (ev_ri okPf_count rfl rfl trivial rfl ?_)
        rw [p1 4 (by decide)]; exact k
      · refine go 156 155 rfl rfl (ev_ri okPf_count rfl rfl trivial rfl ?_)
        rw [p1 5 (by decide)]; exact k
      · refine go 164 163 rfl rfl (ev_ri okPf_count rfl rfl trivial rfl ?_)
        rw [p1 6 (by decide)]; exact k
      · obtain ⟨fl, e7⟩ := h7
        have k : Q (some (.int ((mP m).1 7))) σ := k
        have e47 : σ.1 4 7 = b2 fl := (p1 7 (by decide)).trans e7
        rw [e7] at k
        refine go 172 171 rfl rfl ?_
        refine ev_if_eq okPf_count rfl rfl trivial (fun g => ?_) (fun g => ?_)
        · rw [e47, b2_0] at g
          rw [g] at k
          exact ev_nop okPf_count rfl rfl trivial (ev_ri okPf_count rfl rfl trivial rfl k)
        · rw [e47, b2_0] at g
          have g : fl = true := by simpa using g
          rw [g] at k
          exact ev_goto okPf_count rfl rfl trivial (ev_ri okPf_count rfl rfl trivial rfl k)
      · obtain ⟨fl, e7⟩ := h8
        have k : Q (some (.int ((mP m).1 8))) σ := k
        have e47 : σ.1 4 8 = b2 fl := (p1 8 (by decide)).trans e7
        rw [e7] at k
        refine go 188 187 rfl rfl ?_
        refine ev_if_eq okPf_count rfl rfl trivial (fun g => ?_) (fun g => ?_)
        · rw [e47, b2_0] at g
          rw [g] at k
          exact ev_nop okPf_count rfl rfl trivial (ev_ri okPf_count rfl rfl trivial rfl k)
        · rw [e47, b2_0] at g
          have g : fl = true := by simpa using g
          rw [g] at k
          exact ev_goto okPf_count rfl rfl trivial (ev_ri okPf_count rfl rfl trivial rfl k)
      · refine go 204 203 rfl rfl (ev_ri okPf_count rfl rfl trivial rfl ?_)
        have k : Q (some (.int (nI ((mT m).length / 6)))) σ := k
        rw [a4.2.1, Nat.mul_div_cancel_left _ (by decide)] at k
        rw [a4.2.2.1]
        exact k
      · refine go 212 211 rfl rfl (ev_ri okPf_count rfl rfl trivial rfl ?_)
        rw [a6]; exact k
      · refine go 217 216 rfl rfl (ev_ri okPf_count rfl rfl trivial rfl ?_)
        rw [show σ.1 7 7 = _ from p2 3 (by decide)]; exact k
      · refine go 225 224 rfl rfl (ev_ri okPf_count rfl rfl trivial rfl ?_)
        rw [a1.2.1]; exact k
    · have e2 : ∀ (P : Int32 → Prop), P (mI 1) → P (match j with
          | 0 => nI (mW m).length | 1 => (mP m).1 9 | 2 => (mP m).1 10 | 3 => (mP m).1 11 | 4 => (mP m).1 0 | 5 => (mP m).1 1 | 6 => (mP m).1 2 | 7 => (mP m).1 3 | 8 => (mP m).1 4 | 9 => (mP m).1 5 | 10 => (mP m).1 6 | 11 => (mP m).1 7 | 12 => (mP m).1 8 | 13 => nI ((mT m).length / 6) | 14 => mQ m | 15 => (mP m).1 12 | 16 => nI (mX m).length | _ => mI 1) := by
        intro P hp
        obtain ⟨j', rfl⟩ : ∃ j', j = j' + 17 := ⟨j - 17, by omega⟩
        exact hp
      have k2 : Q (some (.int (mI 1))) σ := by
        obtain ⟨j', rfl⟩ : ∃ j', j = j' + 17 := ⟨j - 17, by omega⟩
        exact k
      refine ev_tout 233 okPf_count rfl rfl trivial (Or.inr (by rw [nI_int q1]; omega)) rfl (ev_ri okPf_count rfl rfl trivial rfl k2)
end CP
