/-! ===== type: both ===== -/
theorem u8_and (A : UInt64) : A.toInt64.toInt32 &&& nI 255 = nI (A.toNat % 256) := by
  apply Int32.toBitVec.inj
  apply BitVec.eq_of_toNat_eq
  have h := Nat.and_two_pow_sub_one_eq_mod (A.toNat % 4294967296) 8
  simp [nI] at *
  rw [BitVec.signExtend_eq_setWidth_of_le _ (by decide), BitVec.toNat_setWidth]
  have h2 : A.toNat % 256 % 4294967296 = A.toNat % 256 := by omega
  rw [h2]
  exact h
theorem sh_cnt {i : Nat} (h : i < 8) : (nI 8 * nI i).toInt64.toUInt64 &&& Int64.toUInt64 63 = UInt64.ofNat (8 * i) := by
  have key : ∀ i : Fin 8, (nI 8 * nI i.val).toInt64.toUInt64 &&& Int64.toUInt64 63 = UInt64.ofNat (8 * i.val) := by decide +kernel
  exact key ⟨i, h⟩
theorem sh_cntS {i : Nat} (h : i < 8) : (nI 8 * nI i).toInt64 &&& 63 = Int64.ofNat (8 * i) := by
  have key : ∀ i : Fin 8, (nI 8 * nI i.val).toInt64 &&& 63 = Int64.ofNat (8 * i.val) := by decide +kernel
  exact key ⟨i, h⟩
theorem ty_c (w : Int64) {i : Nat} (h : i < 8) : (w.toUInt64 >>> ((nI 8 * nI i).toInt64.toUInt64 &&& Int64.toUInt64 63)).toInt64.toInt32 &&& nI 255 = nI (by8 w i) := by
  rw [sh_cnt h, u8_and]
  unfold by8
  congr 2
  simp
  rw [Nat.mod_eq_of_lt (show 8 * i < 64 by omega)]
theorem bit255 {j : Nat} (hj : j < 32) (h8 : 8 ≤ j) : (255#32).getLsbD j = false := by
  have key : ∀ j : Fin 32, 8 ≤ j.val → (255#32).getLsbD j.val = false := by decide
  exact key ⟨j, hj⟩ h8
theorem ty_r (w : Int64) {i : Nat} (h : i < 8) : (w >>> ((nI 8 * nI i).toInt64 &&& 63) &&& lN 255).toInt32 = nI (by8 w i) := by
  rw [← ty_c w h, sh_cnt h, sh_cntS h]
  apply Int32.toBitVec.inj
  simp [nI, lN]
  have key : ∀ i : Fin 8, ((8#64 * BitVec.ofNat 64 i.val).smod 64#64).toNat = 8 * i.val := by decide +kernel
  rw [key ⟨i, h⟩, Nat.mod_eq_of_lt (show 8 * i < 64 by omega), BitVec.signExtend_eq_setWidth_of_le _ (by decide), BitVec.signExtend_eq_setWidth_of_le _ (by decide)]
  apply BitVec.eq_of_getLsbD_eq
  intro j hj
  rw [BitVec.getLsbD_and, BitVec.getLsbD_and]
  by_cases h8 : 8 ≤ j
  · rw [bit255 hj h8, Bool.and_false, Bool.and_false]
  · congr 1
    rw [BitVec.getLsbD_setWidth, BitVec.getLsbD_setWidth, BitVec.getLsbD_sshiftRight, BitVec.getLsbD_ushiftRight]
    congr 1
    have h1 : ¬ 64 ≤ j := by omega
    have h2 : 8 * i + j < 64 := by omega
    simp [h1, h2]
section TY
variable {lc : Launch} {G : GG} {Q : Option Value → St2 → Prop} {pb : Nat}
theorem by8_128 {w : Int64} {i : Nat} (h : by8 w i ≤ 126) : by8 w i < 128 := by omega
theorem lp_typeC {w : Int64} {n : Nat} (hn : n ≤ 8) : ∀ (r i : Nat) (σ : St2) (m : MS), i + r = n → CV σ m → (mX m).length + r ≤ 100 → (∀ σ', CV σ' (sX m (tyX w r i (mX m))) → Fr CC σ σ' → Q (some (.int (nI (tyX w r i (mX m)).length))) σ') →
    Ev lc G mPf_type 34 [some (.ref 0), some (.long w), none, some (.int (nI n)), some (.int (nI i)), none] [] σ Q := by
  intro r
  induction r with
  | zero =>
    intro i σ m hi hc hl k
    refine ev_ic_ge okPf_type rfl rfl trivial (fun g => ?_) (fun g => absurd (nI_le (by omega) (by omega)) g)
    refine ev_ri okPf_type rfl rfl trivial rfl ?_
    rw [hc.1.2.1]
    exact k σ hc Fr.rf
  | succ r ih =>
    intro i σ m hi hc hl k
    have hb := by8_lt w i
    refine ev_ic_ge okPf_type rfl rfl trivial (fun g => absurd g (nI_ge (by omega) (by omega))) (fun g => ?_)
    have next : ∀ (σ1 : St2) (y : List Nat), CV σ1 (sX m y) → Fr CC σ σ1 → y.length + r ≤ 100 → y = (if 32 ≤ by8 w i ∧ by8 w i ≤ 126 then mX m ++ [by8 w i] else mX m) → Ev lc G mPf_type 77 [some (.ref 0), some (.long w), none, some (.int (nI n)), some (.int (nI i)), none] [] σ1 Q := by
      intro σ1 y c1 f1 l1 e1
      refine ev_goto okPf_type rfl rfl trivial ?_
      rw [nI_add]
      refine ih (i + 1) σ1 (sX m y) (by omega) c1 l1 (fun σ' q1 q2 => ?_)
      have := k σ' (by rw [tyX, ← e1]; exact q1) (f1.tr q2)
      rw [tyX, ← e1] at this
      exact this
    refine ev_ic_lt okPf_type rfl rfl trivial (fun g2 => ?_) (fun g2 => ?_)
    · rw [ty_c w (by omega)] at g2
      have g2 : by8 w i < 32 := (nI_ltI (by omega) (by decide)).mp g2
      exact ev_lv [some (.ref 0), some (.long w), none, some (.int (nI n)), some (.int (nI i)), none] ⟨rfl, rfl, rfl, rfl, trivial⟩ (next σ (mX m) hc Fr.rf (by omega) (by rw [if_neg (by omega)]))
    · rw [ty_c w (by omega)] at g2
      have g2 : 32 ≤ by8 w i := Nat.le_of_not_lt (fun z => g2 (nI_lt z (by decide)))
      rw [ty_c w (by omega)]
      refine ev_ic_gt okPf_type rfl rfl trivial (fun g3 => ?_) (fun g3 => ?_)
      · have g3 : 126 < by8 w i := (nI_ltI (by decide) (by omega)).mp g3
        exact ev_lv [some (.ref 0), some (.long w), none, some (.int (nI n)), some (.int (nI i)), none] ⟨rfl, rfl, rfl, rfl, trivial⟩ (next σ (mX m) hc Fr.rf (by omega) (by rw [if_neg (by omega)]))
      · have g3 : by8 w i ≤ 126 := Nat.le_of_not_lt (fun z => g3 (nI_lt z (by omega)))
        refine ev_cv okPf_type okTx_add rfl rfl trivial rfl (by decide +kernel) rfl rfl (sp_add (Or.inl rfl) hc.1 (by omega) (by8_128 g3) fun σ1 q1 q2 q3 => ?_)
        exact ev_lv [some (.ref 0), some (.long w), none, some (.int (nI n)), some (.int (nI i)), none] ⟨rfl, rfl, rfl, rfl, trivial⟩ (next σ1 _ (hc.tx q2 q1) (q2.wk (by decide)) (by simp; omega) (by rw [if_pos ⟨g2, g3⟩]))
theorem sp_typeC {σ : St2} {m : MS} {w : Int64} {n : Int32} (hc : CV σ m) (k : ∀ σ', CV σ' (sX m (tyA (mX m) w n).2) → Fr CC σ σ' → Q (some (.int (tyA (mX m) w n).1)) σ') : Ev lc G mPf_type 0 [some (.ref 0), some (.long w), none, some (.int n), none, none] [] σ Q := by
  have h100 := hc.1.1
  have bad : (n < nI 1 ∨ nI 8 < n) → Ev lc G mPf_type 11 [some (.ref 0), some (.long w), none, some (.int n), none, none] [] σ Q := by
    intro h
    have e : tyA (mX m) w n = (mI 1, mX m) := if_pos h
    rw [e] at k
    exact ev_ri okPf_type rfl rfl trivial rfl (k σ hc Fr.rf)
  refine ev_ic_lt okPf_type rfl rfl trivial (fun g => bad (Or.inl g)) (fun g => ?_)
  refine ev_ic_le okPf_type rfl rfl trivial (fun g2 => ?_) (fun g2 => bad (Or.inr (Int32.not_le.mp g2)))
  have e : tyA (mX m) w n = if nI 100 < nI (mX m).length + n then (mI 2, mX m) else (nI (tyX w n.toNatClampNeg 0 (mX m)).length, tyX w n.toNatClampNeg 0 (mX m)) := if_neg (fun z => z.elim g (fun q => absurd q (Int32.not_lt.mpr g2)))
  refine ev_ic_le okPf_type rfl rfl trivial (fun g3 => ?_) (fun g3 => ?_)
  · rw [hc.1.2.1] at g3
    rw [if_neg (Int32.not_lt.mpr g3)] at e
    rw [e] at k
    rcases i32_cases n with ⟨q, -⟩ | ⟨q1, q2⟩
    · exact absurd (Int32.lt_trans q (by decide : (0 : Int32) < nI 1)) g
    · generalize n.toNatClampNeg = j at q1 q2 k
      subst q2
      have h8 : j ≤ 8 := (nI_leI q1 (by decide)).mp g2
      rw [nI_add] at g3
      have h3 : (mX m).length + j ≤ 100 := (nI_leI (by omega) (by decide)).mp g3
      exact ev_nop okPf_type rfl rfl trivial (lp_typeC h8 j 0 σ m (by omega) hc h3 k)
  · rw [hc.1.2.1] at g3
    rw [if_pos (Int32.not_le.mp g3)] at e
    rw [e] at k
    exact ev_ri okPf_type rfl rfl trivial rfl (k σ hc Fr.rf)
theorem RV.tx {σ σ' : St2} {m : MS} {y : List Nat} (h : RV σ m) (hf : Fq [23] [1] σ σ') (hp : LineR σ' y) : RV σ' (sX m y) := by
  obtain ⟨c1, c2, c3, ⟨cnt, c4⟩, c5, c6⟩ := h
  exact ⟨hp, c2.fqs hf (by decide) (by decide), c3.fq hf (by decide) (by decide) (by decide), ⟨cnt, c4.fq hf (by decide) (by decide)⟩, by rw [hf.g2 (by decide)]; exact c5, by rw [hf.g1 (by decide)]; exact c6⟩
theorem lp_typeR {w : Int64} {n : Nat} (hn : n ≤ 8) : ∀ (r i : Nat) (σ : St2) (m : MS), i + r = n → RV σ m → (mX m).length + r ≤ 100 → (∀ σ', RV σ' (sX m (tyX w r i (mX m))) → Fq [23] [1] σ σ' → Q (some (.int (nI (tyX w r i (mX m)).length))) σ') →
    Ev lc G mMd_type 30 [some (.ref 22), some (.long w), none, some (.int (nI n)), some (.int (nI i)), none] [] σ Q := by
  intro r
  induction r with
  | zero =>
    intro i σ m hi hc hl k
    refine ev_ic_ge okMd_type rfl rfl trivial (fun g => ?_) (fun g => absurd (nI_le (by omega) (by omega)) g)
    refine ev_ri okMd_type rfl rfl trivial rfl ?_
    rw [hc.1.2.1]
    exact k σ hc Fq.rf
  | succ r ih =>
    intro i σ m hi hc hl k
    have hb := by8_lt w i
    refine ev_ic_ge okMd_type rfl rfl trivial (fun g => absurd g (nI_ge (by omega) (by omega))) (fun g => ?_)
    have next : ∀ (σ1 : St2) (y : List Nat), RV σ1 (sX m y) → Fq [23] [1] σ σ1 → y.length + r ≤ 100 → y = (if 32 ≤ by8 w i ∧ by8 w i ≤ 126 then mX m ++ [by8 w i] else mX m) → Ev lc G mMd_type 83 [some (.ref 22), some (.long w), none, some (.int (nI n)), some (.int (nI i)), none] [] σ1 Q := by
      intro σ1 y c1 f1 l1 e1
      refine ev_goto okMd_type rfl rfl trivial ?_
      rw [nI_add]
      refine ih (i + 1) σ1 (sX m y) (by omega) c1 l1 (fun σ' q1 q2 => ?_)
      have := k σ' (by rw [tyX, ← e1]; exact q1) (f1.tr q2)
      rw [tyX, ← e1] at this
      exact this
    refine ev_cs okMd_type okMd_in rfl rfl trivial rfl (by decide +kernel) rfl rfl ?_
    rw [ty_r w (by omega)]
    refine sp_in ?_
    have eq : decide (nI 32 ≤ nI (by8 w i) ∧ nI (by8 w i) ≤ nI 126) = decide (32 ≤ by8 w i ∧ by8 w i ≤ 126) := by
      apply decide_eq_decide.mpr
      exact ⟨fun z => ⟨(nI_leI (by decide) (by omega)).mp z.1, (nI_leI (by omega) (by decide)).mp z.2⟩, fun z => ⟨nI_le z.1 (by omega), nI_le z.2 (by decide)⟩⟩
    rw [eq]
    refine ev_if_eq okMd_type rfl rfl trivial (fun g2 => ?_) (fun g2 => ?_)
    · rw [b2_0] at g2
      have g2 := of_decide_eq_false g2
      exact ev_lv [some (.ref 22), some (.long w), none, some (.int (nI n)), some (.int (nI i)), none] ⟨rfl, rfl, rfl, rfl, trivial⟩ (next σ (mX m) hc Fq.rf (by omega) (by rw [if_neg g2]))
    · rw [b2_0] at g2
      have g2 : 32 ≤ by8 w i ∧ by8 w i ≤ 126 := by simpa using g2
      obtain ⟨a1, a2, a3⟩ := hc.1
      refine ev_nop okMd_type rfl rfl ⟨by rw [a2]; exact vp_nI (by omega) (by decide), trivial⟩ ?_
      have f1 : Fq [23] [1] σ (up2 (up2 σ.1 23 (σ.1 22 1).toNatClampNeg (nI (by8 w i)), σ.2).1 22 1 ((up2 σ.1 23 (σ.1 22 1).toNatClampNeg (nI (by8 w i)), σ.2).1 22 1 + nI 1), (up2 σ.1 23 (σ.1 22 1).toNatClampNeg (nI (by8 w i)), σ.2).2) := Fq.tr (Fq.u1 (by decide) (by decide)) (Fq.f1 (σ := (_, _)) (by decide))
      refine ev_lv [some (.ref 22), some (.long w), none, some (.int (nI n)), some (.int (nI i)), none] ⟨rfl, rfl, rfl, rfl, trivial⟩ (next _ (mX m ++ [by8 w i]) (hc.tx f1 ⟨by simp; omega, ?_, RowAt.push a3 ?_ (fun q hq => ?_)⟩) f1 (by simp; omega) (by rw [if_pos g2]))
      · simp [up2, a2, nI_add]
      · simp [up2, a2, nI_cl (show (mX m).length < 2 ^ 31 by omega)]
      · simp [up2, a2, nI_cl (show (mX m).length < 2 ^ 31 by omega), Nat.ne_of_lt hq]
theorem sp_typeR {σ : St2} {m : MS} {w : Int64} {n : Int32} (hc : RV σ m) (k : ∀ σ', RV σ' (sX m (tyA (mX m) w n).2) → Fq [23] [1] σ σ' → Q (some (.int (tyA (mX m) w n).1)) σ') : Ev lc G mMd_type 0 [some (.ref 22), some (.long w), none, some (.int n), none, none] [] σ Q := by
  have h100 := hc.1.1
  refine ev_cs okMd_type okMd_in rfl rfl trivial rfl (by decide +kernel) rfl rfl (sp_in ?_)
  refine ev_if_ne okMd_type rfl rfl trivial (fun g => ?_) (fun g => ?_)
  · rw [b2_0] at g
    have g : nI 1 ≤ n ∧ n ≤ nI 8 := by simpa using g
    have e : tyA (mX m) w n = if nI 100 < nI (mX m).length + n then (mI 2, mX m) else (nI (tyX w n.toNatClampNeg 0 (mX m)).length, tyX w n.toNatClampNeg 0 (mX m)) := if_neg (fun z => z.elim (fun q => absurd q (Int32.not_lt.mpr g.1)) (fun q => absurd q (Int32.not_lt.mpr g.2)))
    refine ev_ic_le okMd_type rfl rfl trivial (fun g3 => ?_) (fun g3 => ?_)
    · rw [hc.1.2.1] at g3
      rw [if_neg (Int32.not_lt.mpr g3)] at e
      rw [e] at k
      rcases i32_cases n with ⟨q, -⟩ | ⟨q1, q2⟩
      · exact absurd (Int32.lt_trans q (by decide : (0 : Int32) < nI 1)) (Int32.not_lt.mpr g.1)
      · generalize n.toNatClampNeg = j at q1 q2 k
        subst q2
        have h8 : j ≤ 8 := (nI_leI q1 (by decide)).mp g.2
        rw [nI_add] at g3
        have h3 : (mX m).length + j ≤ 100 := (nI_leI (by omega) (by decide)).mp g3
        exact ev_nop okMd_type rfl rfl trivial (lp_typeR h8 j 0 σ m (by omega) hc h3 k)
    · rw [hc.1.2.1] at g3
      rw [if_pos (Int32.not_le.mp g3)] at e
      rw [e] at k
      exact ev_ri okMd_type rfl rfl trivial rfl (k σ hc Fq.rf)
  · have g : b2 (decide (nI 1 ≤ n ∧ n ≤ nI 8)) = 0 := by simpa using g
    rw [b2_0] at g
    have g := of_decide_eq_false g
    have e : tyA (mX m) w n = (mI 1, mX m) := if_pos (by
      by_cases z : n < nI 1
      · exact Or.inl z
      · exact Or.inr (Int32.not_le.mp (fun q => g ⟨Int32.not_lt.mp z, q⟩)))
    rw [e] at k
    exact ev_ri okMd_type rfl rfl trivial rfl (k σ hc Fq.rf)
end TY
