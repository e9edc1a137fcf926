theorem wd_max : Cond.static Lib.Math.max.name ∈ GT ∧ Cond.code Lib.Math.max.name Lib.Math.max.code 2 (some .int) ∈ GT ∧ Cond.initialized "java/lang/Math" ∈ GT := ⟨GT_at (i := 419) (by decide +kernel) rfl, GT_at (i := 420) (by decide +kernel) rfl, GT_at (i := 64) (by decide +kernel) rfl⟩
theorem ev_max {lc : Launch} {G : GG} {M : MR} {pc : Nat} {l l' : LV} {st rest : List Value} {σ σ' : St2} {Q : Option Value → St2 → Prop} {is : List RI} {tp nx a1 a3 idx : Nat} {P : Prop} {x y : Int32} (ok : MOK M) (hf : fnd (blks M) pc = some (is, (tp, .invokestatic idx, a1, nx, a3))) (hr : exs is l st σ = some (P, l', .int y :: .int x :: rest, σ')) (hP : P) (hlk : (decide (lw_tbl[a3]? = some (Cond.methodLink M.1.cls idx Lib.Math.max.name)) && Nat.ble 1 M.2.2.2.2.1) = true) (hw : Nat.ble (cats rest + 13) M.2.2.2.2.2.1 = true) (k : Ev lc G M nx l' (.int (if x < y then y else x) :: rest) σ' Q) : Ev lc G M pc l st σ Q := by
  refine ev_pre ok hf hr hP fun p e s m args below meth c C H locs ls hP hS hl => ?_
  have h2 := (fnd_ok ok hf).2
  simp only [tOK, Bool.and_eq_true, decide_eq_true_eq] at h2
  have hn := Nat.eq_of_beq_eq_true h2.2
  simp only [Bool.and_eq_true, decide_eq_true_eq] at hlk
  have hts := C.2.2.2.2.2.1
  subst hn
  exact va_mmax C.1 C.2.1 (C.2.2.2.1.trans hl.1.1.symm) C.2.2.2.2.1 (hts _ (GT_at hlk.1 rfl)) (hts _ wd_max.1) (hts _ wd_max.2.2) (hts _ wd_max.2.1) (Nat.le_of_ble_eq_true hlk.2) (by rw [cats_eq]; exact Nat.le_of_ble_eq_true hw) (Nat.le_refl _) (Nat.le_refl _) h2.1 (k p e s m args below meth c C H locs ls hP hS hl)
theorem wd_min : Cond.static Lib.Math.min.name ∈ GT ∧ Cond.code Lib.Math.min.name Lib.Math.min.code 2 (some .int) ∈ GT ∧ Cond.initialized "java/lang/Math" ∈ GT := ⟨GT_at (i := 362) (by decide +kernel) rfl, GT_at (i := 363) (by decide +kernel) rfl, GT_at (i := 64) (by decide +kernel) rfl⟩
theorem ev_min {lc : Launch} {G : GG} {M : MR} {pc : Nat} {l l' : LV} {st rest : List Value} {σ σ' : St2} {Q : Option Value → St2 → Prop} {is : List RI} {tp nx a1 a3 idx : Nat} {P : Prop} {x y : Int32} (ok : MOK M) (hf : fnd (blks M) pc = some (is, (tp, .invokestatic idx, a1, nx, a3))) (hr : exs is l st σ = some (P, l', .int y :: .int x :: rest, σ')) (hP : P) (hlk : (decide (lw_tbl[a3]? = some (Cond.methodLink M.1.cls idx Lib.Math.min.name)) && Nat.ble 1 M.2.2.2.2.1) = true) (hw : Nat.ble (cats rest + 13) M.2.2.2.2.2.1 = true) (k : Ev lc G M nx l' (.int (if y < x then y else x) :: rest) σ' Q) : Ev lc G M pc l st σ Q := by
  refine ev_pre ok hf hr hP fun p e s m args below meth c C H locs ls hP hS hl => ?_
  have h2 := (fnd_ok ok hf).2
  simp only [tOK, Bool.and_eq_true, decide_eq_true_eq] at h2
  have hn := Nat.eq_of_beq_eq_true h2.2
  simp only [Bool.and_eq_true, decide_eq_true_eq] at hlk
  have hts := C.2.2.2.2.2.1
  subst hn
  exact va_mmin C.1 C.2.1 (C.2.2.2.1.trans hl.1.1.symm) C.2.2.2.2.1 (hts _ (GT_at hlk.1 rfl)) (hts _ wd_min.1) (hts _ wd_min.2.2) (hts _ wd_min.2.1) (Nat.le_of_ble_eq_true hlk.2) (by rw [cats_eq]; exact Nat.le_of_ble_eq_true hw) (Nat.le_refl _) (Nat.le_refl _) h2.1 (k p e s m args below meth c C H locs ls hP hS hl)
