/-! ===== the law's calls: both sides keep showing one state ===== -/
theorem CV.frR {σ σ' : St2} {m : MS} (h : CV σ m) (f : Fr RC σ σ') : CV σ' m := by
  obtain ⟨h1, h2, h3, ⟨E, h4⟩, h5, h6⟩ := h
  exact ⟨h1.fr f (by decide) (by decide), h2.fr f (by decide), h3.fr f (by decide), ⟨E, h4.fr f (by decide)⟩, by rw [f.a2 (by decide)]; exact h5, by rw [f.a1 (by decide)]; exact h6⟩
theorem Fr.qC {σ σ' : St2} (f : Fr CC σ σ') : Fq CC [] σ σ' := ⟨fun q hq _ => f q hq, fun k _ => ⟨by rw [f.a1 (by decide)], by rw [f.a2 (by decide)]⟩⟩
theorem RV.frC {σ σ' : St2} {m : MS} (h : RV σ m) (f : Fr CC σ σ') : RV σ' m := by
  obtain ⟨h1, h2, h3, ⟨E, h4⟩, h5, h6⟩ := h
  have g := f.qC
  exact ⟨h1.fq g (by decide) (by decide) (by decide), h2.fq g (by decide) (fun _ _ => by simp) (by decide) (by decide) (by decide), h3.fq g (by decide) (by decide) (by decide), ⟨E, h4.fq g (by decide) (by decide)⟩, by rw [f.a2 (by decide)]; exact h5, by rw [f.a1 (by decide)]; exact h6⟩
theorem tyX_ok (w : Int64) : ∀ (r i : Nat) (x : List Nat), (∀ b ∈ x, 32 ≤ b ∧ b < 127) → ∀ b ∈ tyX w r i x, 32 ≤ b ∧ b < 127
  | 0, _, x, h => h
  | r + 1, i, x, h => by
    refine tyX_ok w r (i + 1) _ ?_
    split
    · rename_i q
      intro b hb
      rcases List.mem_append.mp hb with hb | hb
      · exact h b hb
      · rw [List.mem_singleton.mp hb]
        omega
    · exact h
theorem ty_Inv {pb : Nat} {m : MS} {w : Int64} {n : Int32} (h : Inv pb m) : Inv pb (sX m (tyA (mX m) w n).2) := by
  refine ⟨?_, h.2⟩
  show ∀ b ∈ (tyA (mX m) w n).2, 32 ≤ b ∧ b < 127
  unfold tyA
  split
  · exact h.1
  · split
    · exact h.1
    · exact tyX_ok w _ _ _ h.1
theorem mEn_Inv {pb : Nat} {m : MS} (h : Inv pb m) (hl : (mX m).length ≤ 100) : Inv (pb + 600000) (mEn m) := by
  have key : ∀ m1 : MS, Inv (pb + 600000) m1 → Inv (pb + 600000) (sX m1 []) := fun m1 h1 => ⟨fun b hb => (by cases hb), h1.2⟩
  unfold mEn
  split
  · exact key _ ((mCm_Inv h).mono (by omega))
  · exact key _ (mTx_Inv h hl)
theorem rN_NI {pb : Nat} (N : NN) (h : 1 ≤ pb) : NI pb (rN N) := ⟨⟨40, 0, 0, rfl, rfl, rfl, by omega, by omega, by omega⟩, ⟨1, rfl, by omega, by omega⟩, ⟨0, rfl, by omega, by omega⟩, ⟨0, rfl, by omega, by omega⟩, ⟨24, rfl, by omega, by omega⟩, ⟨true, rfl⟩, ⟨true, rfl⟩, ⟨0, rfl, by omega, by omega⟩, ⟨1, 0, rfl, rfl, h, by omega⟩⟩
theorem mFi_Inv {pb : Nat} {m : MS} (hpb : 1 ≤ pb) : Inv pb (mFi m) := by
  refine ⟨fun b hb => (by cases hb), ?_, rN_NI _ hpb, fun b hb => (by cases hb), fun b hb => (by cases hb)⟩
  show WdOK (mW (mF1 m))
  rw [mF1_W]
  exact ⟨by decide, fun q hq => (by cases hq)⟩
section LOOP
variable {X : LX} {n pb : Nat} {σ : St2} {m : MS}
theorem el_type (K : Lc X) (hn : n + 4 ≤ lxL X) (hc : CV σ m) (hr : RV σ m) (hi : Inv pb m) (kk : ∀ σ' m' pb', CV σ' m' → RV σ' m' → Inv pb' m' → pb' ≤ pb + 1000000 → El X 292 (nI n) [] σ') : El X 84 (nI n) [] σ := by
  refine el_r1 K (by decide +kernel) ?_
  refine el_arg K 1 (q := 1) rfl (by decide +kernel) (by decide +kernel) (by decide +kernel) (by decide +kernel) (by decide +kernel) (by omega) ?_
  refine el_hi K (by decide +kernel) (by decide +kernel) (by decide +kernel) ?_
  refine el_arg K 2 (q := 2) rfl (by decide +kernel) (by decide +kernel) (by decide +kernel) (by decide +kernel) (by decide +kernel) (by omega) ?_
  refine el_lo K (by decide +kernel) (by decide +kernel) (by decide +kernel) (by decide +kernel) ⟨953, by decide +kernel⟩ ?_
  refine el_arg K 3 (q := 3) rfl (by decide +kernel) (by decide +kernel) (by decide +kernel) (by decide +kernel) (by decide +kernel) (by omega) ?_
  refine el_cv (As := [.long (wL (lxS X (n + 1)) (lxS X (n + 2))), .int (lxS X (n + 3))]) (id := 0) (idx := 15) (st := []) K 312 okPf_type (by decide +kernel) (by decide +kernel) rfl (Nat.le_of_ble_eq_true rfl) rfl (sp_typeC hc fun σ1 hc1 f1 => ?_)
  show El X 113 (nI n) [.int (tyA (mX m) (wL (lxS X (n + 1)) (lxS X (n + 2))) (lxS X (n + 3))).1] σ1
  refine el_r2 K (by decide +kernel) ?_
  refine el_arg K 1 (q := 1) rfl (by decide +kernel) (by decide +kernel) (by decide +kernel) (by decide +kernel) (by decide +kernel) (by omega) ?_
  refine el_hi K (by decide +kernel) (by decide +kernel) (by decide +kernel) ?_
  refine el_arg K 2 (q := 2) rfl (by decide +kernel) (by decide +kernel) (by decide +kernel) (by decide +kernel) (by decide +kernel) (by omega) ?_
  refine el_lo K (by decide +kernel) (by decide +kernel) (by decide +kernel) (by decide +kernel) ⟨953, by decide +kernel⟩ ?_
  refine el_arg K 3 (q := 3) rfl (by decide +kernel) (by decide +kernel) (by decide +kernel) (by decide +kernel) (by decide +kernel) (by omega) ?_
  refine el_cv (As := [.long (wL (lxS X (n + 1)) (lxS X (n + 2))), .int (lxS X (n + 3))]) (id := 22) (idx := 19) (st := [.int (tyA (mX m) (wL (lxS X (n + 1)) (lxS X (n + 2))) (lxS X (n + 3))).1]) K 776 okMd_type (by decide +kernel) (by decide +kernel) rfl (Nat.le_of_ble_eq_true rfl) rfl (sp_typeR (hr.frC f1) fun σ2 hr2 f2 => ?_)
  refine el_eq (pc := 142) (off := 150) (st := []) K (by decide +kernel) (by decide) ?_
  exact kk σ2 _ pb (hc1.frR (f2.fr (by decide))) hr2 (ty_Inv hi) (by omega)
theorem el_enter (K : Lc X) (hc : CV σ m) (hr : RV σ m) (hi : Inv pb m) (hpb : pb < 600000000) (kk : ∀ σ' m' pb', CV σ' m' → RV σ' m' → Inv pb' m' → pb' ≤ pb + 1000000 → El X 292 (nI n) [] σ') : El X 147 (nI n) [] σ := by
  refine el_r1 K (by decide +kernel) ?_
  refine el_cv (As := []) (id := 0) (idx := 20) (st := []) K 320 okPf_enter (by decide +kernel) (by decide +kernel) rfl (Nat.le_of_ble_eq_true rfl) rfl (sp_enterC hc hi hpb fun σ1 hc1 f1 => ?_)
  show El X 151 (nI n) [.int ((mP (mEn m)).1 12 - (mP m).1 12)] σ1
  refine el_r2 K (by decide +kernel) ?_
  refine el_cv (As := []) (id := 22) (idx := 24) (st := [.int ((mP (mEn m)).1 12 - (mP m).1 12)]) K 784 okMd_enter (by decide +kernel) (by decide +kernel) rfl (Nat.le_of_ble_eq_true rfl) rfl (sp_enterR (hr.frC f1) hi hpb fun σ2 hr2 f2 => ?_)
  refine el_eq (pc := 155) (off := 137) (st := []) K (by decide +kernel) (by decide) ?_
  exact kk σ2 _ (pb + 600000) (hc1.frR f2) hr2 (mEn_Inv hi hc.1.1) (by omega)
theorem el_finish (K : Lc X) (hc : CV σ m) (hr : RV σ m) (hi : Inv pb m) (hpb : pb < 600000000) (kk : ∀ σ' m' pb', CV σ' m' → RV σ' m' → Inv pb' m' → pb' ≤ pb + 1000000 → El X 292 (nI n) [] σ') : El X 160 (nI n) [] σ := by
  refine el_r1 K (by decide +kernel) ?_
  refine el_cv (As := []) (id := 0) (idx := 25) (st := []) K 583 okPf_finish (by decide +kernel) (by decide +kernel) rfl (Nat.le_of_ble_eq_true rfl) rfl (sp_finishC hc hi hpb fun σ1 hc1 f1 => ?_)
  show El X 164 (nI n) [.int ((mP (mFi m)).1 12 - (mP m).1 12)] σ1
  refine el_r2 K (by decide +kernel) ?_
  refine el_cv (As := []) (id := 22) (idx := 28) (st := [.int ((mP (mFi m)).1 12 - (mP m).1 12)]) K 921 okMd_finish (by decide +kernel) (by decide +kernel) rfl (Nat.le_of_ble_eq_true rfl) rfl (sp_finishR (hr.frC f1) hi hpb fun σ2 hr2 f2 => ?_)
  refine el_eq (pc := 168) (off := 124) (st := []) K (by decide +kernel) (by decide) ?_
  exact kk σ2 _ (pb + 1) (hc1.frR f2) hr2 (mFi_Inv (by omega)) (by omega)
theorem el_wipe (K : Lc X) (hc : CV σ m) (hr : RV σ m) (hi : Inv pb m) (kk : ∀ σ' m' pb', CV σ' m' → RV σ' m' → Inv pb' m' → pb' ≤ pb + 1000000 → El X 292 (nI n) [] σ') : El X 173 (nI n) [] σ := by
  refine el_r1 K (by decide +kernel) ?_
  refine el_cv (As := []) (id := 0) (idx := 29) (st := []) K 592 okPf_wipe (by decide +kernel) (by decide +kernel) rfl (Nat.le_of_ble_eq_true rfl) rfl (sp_wipeC hc fun σ1 hc1 f1 => ?_)
  show El X 177 (nI n) [.int (nI (mP m).2.length)] σ1
  refine el_r2 K (by decide +kernel) ?_
  refine el_cv (As := []) (id := 22) (idx := 32) (st := [.int (nI (mP m).2.length)]) K 925 okMd_wipe (by decide +kernel) (by decide +kernel) rfl (Nat.le_of_ble_eq_true rfl) rfl (sp_wipeR (hr.frC f1) fun σ2 hr2 f2 => ?_)
  refine el_eq (pc := 181) (off := 111) (st := []) K (by decide +kernel) (by decide) ?_
  exact kk σ2 _ pb (hc1.frR f2) hr2 hi (by omega)
theorem el_length (K : Lc X) (hc : CV σ m) (hr : RV σ m) (kk : El X 292 (nI n) [] σ) : El X 186 (nI n) [] σ := by
  refine el_r1 K (by decide +kernel) ?_
  refine el_cv (As := []) (id := 0) (idx := 33) (st := []) K 596 okPf_length (by decide +kernel) (by decide +kernel) rfl (Nat.le_of_ble_eq_true rfl) rfl (sp_lengthC hc ?_)
  show El X 190 (nI n) [.int (nI (mP m).2.length)] σ
  refine el_r2 K (by decide +kernel) ?_
  refine el_cv (As := []) (id := 22) (idx := 36) (st := [.int (nI (mP m).2.length)]) K 929 okMd_length (by decide +kernel) (by decide +kernel) rfl (Nat.le_of_ble_eq_true rfl) rfl (sp_lengthR hr ?_)
  exact el_eq (pc := 194) (off := 98) (st := []) K (by decide +kernel) (by decide) kk
theorem el_at (K : Lc X) (hn : n + 4 ≤ lxL X) (hc : CV σ m) (hr : RV σ m) (kk : El X 292 (nI n) [] σ) : El X 199 (nI n) [] σ := by
  refine el_r1 K (by decide +kernel) ?_
  refine el_arg K 1 (q := 1) rfl (by decide +kernel) (by decide +kernel) (by decide +kernel) (by decide +kernel) (by decide +kernel) (by omega) ?_
  refine el_cv (As := [.int (lxS X (n + 1))]) (id := 0) (idx := 37) (st := []) K 600 okPf_at (by decide +kernel) (by decide +kernel) rfl (Nat.le_of_ble_eq_true rfl) rfl (sp_atC hc ?_)
  show El X 208 (nI n) [.int (tb (mP m).2 (lxS X (n + 1)))] σ
  refine el_r2 K (by decide +kernel) ?_
  refine el_arg K 1 (q := 1) rfl (by decide +kernel) (by decide +kernel) (by decide +kernel) (by decide +kernel) (by decide +kernel) (by omega) ?_
  refine el_cv (As := [.int (lxS X (n + 1))]) (id := 22) (idx := 41) (st := [.int (tb (mP m).2 (lxS X (n + 1)))]) K 933 okMd_at (by decide +kernel) (by decide +kernel) rfl (Nat.le_of_ble_eq_true rfl) rfl (sp_atR hr ?_)
  exact el_eq (pc := 217) (off := 75) (st := []) K (by decide +kernel) (by decide) kk
theorem el_demerits (K : Lc X) (hc : CV σ m) (hr : RV σ m) (kk : El X 292 (nI n) [] σ) : El X 222 (nI n) [] σ := by
  refine el_r1 K (by decide +kernel) ?_
  refine el_cv (As := []) (id := 0) (idx := 42) (st := []) K 608 okPf_demerits (by decide +kernel) (by decide +kernel) rfl (Nat.le_of_ble_eq_true rfl) rfl (sp_demeritsC hc ?_)
  show El X 226 (nI n) [.long (mD m)] σ
  refine el_r2 K (by decide +kernel) ?_
  refine el_cv (As := []) (id := 22) (idx := 46) (st := [.long (mD m)]) K 937 okMd_demerits (by decide +kernel) (by decide +kernel) rfl (Nat.le_of_ble_eq_true rfl) rfl (sp_demeritsR hr ?_)
  exact el_eqL (pc := 230) (off := 61) (st := []) K (by decide +kernel) (by decide +kernel) (by decide) kk
theorem el_line (K : Lc X) (hn : n + 4 ≤ lxL X) (hc : CV σ m) (hr : RV σ m) (kk : El X 292 (nI n) [] σ) : El X 236 (nI n) [] σ := by
  refine el_r1 K (by decide +kernel) ?_
  refine el_arg K 1 (q := 1) rfl (by decide +kernel) (by decide +kernel) (by decide +kernel) (by decide +kernel) (by decide +kernel) (by omega) ?_
  refine el_arg K 2 (q := 2) rfl (by decide +kernel) (by decide +kernel) (by decide +kernel) (by decide +kernel) (by decide +kernel) (by omega) ?_
  refine el_cv (As := [.int (lxS X (n + 1)), .int (lxS X (n + 2))]) (id := 0) (idx := 47) (st := []) K 612 okPf_line (by decide +kernel) (by decide +kernel) rfl (Nat.le_of_ble_eq_true rfl) rfl (sp_lineC hc ?_)
  show El X 250 (nI n) [.int (lnA (mT m) (lxS X (n + 1)) (lxS X (n + 2)))] σ
  refine el_r2 K (by decide +kernel) ?_
  refine el_arg K 1 (q := 1) rfl (by decide +kernel) (by decide +kernel) (by decide +kernel) (by decide +kernel) (by decide +kernel) (by omega) ?_
  refine el_arg K 2 (q := 2) rfl (by decide +kernel) (by decide +kernel) (by decide +kernel) (by decide +kernel) (by decide +kernel) (by omega) ?_
  refine el_cv (As := [.int (lxS X (n + 1)), .int (lxS X (n + 2))]) (id := 22) (idx := 51) (st := [.int (lnA (mT m) (lxS X (n + 1)) (lxS X (n + 2)))]) K 941 okMd_line (by decide +kernel) (by decide +kernel) rfl (Nat.le_of_ble_eq_true rfl) rfl (sp_lineR hr ?_)
  exact el_eq (pc := 264) (off := 28) (st := []) K (by decide +kernel) (by decide) kk
theorem el_count (K : Lc X) (hn : n + 4 ≤ lxL X) (hc : CV σ m) (hr : RV σ m) (hi : Inv pb m) (kk : El X 292 (nI n) [] σ) : El X 269 (nI n) [] σ := by
  have h7 : ∃ fl, (mP m).1 7 = b2 fl := hi.2.2.1.2.2.2.2.2.1
  have h8 : ∃ jf, (mP m).1 8 = b2 jf := hi.2.2.1.2.2.2.2.2.2.1
  refine el_r1 K (by decide +kernel) ?_
  refine el_arg K 1 (q := 1) rfl (by decide +kernel) (by decide +kernel) (by decide +kernel) (by decide +kernel) (by decide +kernel) (by omega) ?_
  refine el_cv (As := [.int (lxS X (n + 1))]) (id := 0) (idx := 52) (st := []) K 616 okPf_count (by decide +kernel) (by decide +kernel) rfl (Nat.le_of_ble_eq_true rfl) rfl (sp_countC hc h7 h8 ?_)
  show El X 278 (nI n) [.int (ctA m (lxS X (n + 1)))] σ
  refine el_r2 K (by decide +kernel) ?_
  refine el_arg K 1 (q := 1) rfl (by decide +kernel) (by decide +kernel) (by decide +kernel) (by decide +kernel) (by decide +kernel) (by omega) ?_
  refine el_cv (As := [.int (lxS X (n + 1))]) (id := 22) (idx := 55) (st := [.int (ctA m (lxS X (n + 1)))]) K 945 okMd_count (by decide +kernel) (by decide +kernel) rfl (Nat.le_of_ble_eq_true rfl) rfl (sp_countR hr h7 h8 ?_)
  exact el_eq (pc := 287) (off := 5) (st := []) K (by decide +kernel) (by decide) kk
theorem el_step (K : Lc X) (hn : n + 4 ≤ lxL X) (hc : CV σ m) (hr : RV σ m) (hi : Inv pb m) (hpb : pb < 600000000) (kk : ∀ σ' m' pb', CV σ' m' → RV σ' m' → Inv pb' m' → pb' ≤ pb + 1000000 → El X 292 (nI n) [] σ') : El X 26 (nI n) [] σ :=
  have k0 := kk σ m pb hc hr hi (by omega)
  el_sw K hn (el_type K hn hc hr hi kk) (el_enter K hc hr hi hpb kk) (el_finish K hc hr hi hpb kk) (el_wipe K hc hr hi kk) (el_length K hc hr k0) (el_at K hn hc hr k0) (el_demerits K hc hr k0) (el_line K hn hc hr k0) (el_count K hn hc hr hi k0) k0
end LOOP
theorem pb_step {pb pb' k : Nat} (h1 : pb ≤ 1000 + 1000000 * k) (h2 : pb' ≤ pb + 1000000) : pb' ≤ 1000 + 1000000 * (k + 1) := by
  rw [Nat.mul_add, Nat.mul_one, ← Nat.add_assoc]
  exact Nat.le_trans h2 (Nat.add_le_add_right h1 _)
theorem el_loop {X : LX} (K : Lc X) : ∀ (r k : Nat) (σ : St2) (m : MS) (pb : Nat), lxL X ≤ 4 * k + r → 4 * k ≤ 2052 → CV σ m → RV σ m → Inv pb m → pb ≤ 1000 + 1000000 * k → El X 18 (nI (4 * k)) [] σ
  | 0, k, σ, m, pb, h1, h2, hc, hr, hi, hp => el_head K (by omega) (el_end K) (fun h => absurd h (by omega))
  | r + 1, k, σ, m, pb, h1, h2, hc, hr, hi, hp => by
    have hL : lxL X ≤ 2048 := by
      obtain ⟨p, lc, e, s, m0, below, meth, c, ⟨b, L, xs⟩, G⟩ := X
      exact K.2.2.2.2
    refine el_head K (by omega) (el_end K) (fun h => el_step K h hc hr hi (by omega) fun σ' m' pb' hc' hr' hi' hp' => ?_)
    have e1 : pb' ≤ 1000 + 1000000 * (k + 1) := pb_step hp hp'
    have h3 := el_loop K r (k + 1) σ' m' pb' (by omega) (by omega) hc' hr' hi' e1
    rw [Nat.mul_add] at h3
    exact el_next K h3
