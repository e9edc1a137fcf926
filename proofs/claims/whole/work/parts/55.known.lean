/-! ===== the law begins ===== -/
theorem lw_arr {s : State} {args : Array Value} {ty : FieldType} (h : (Cond.arrayClass ty).before args s = true) (hp : ∀ c, s.vm.findClass ("[" ++ ty.toString) = some c → va_RA s c ty) : ∃ cA, ArrOfT s cA ty ∧ va_RA s cA ty := by
  obtain ⟨cA, kA, comp, h1, h2, h3⟩ := Cond.arrayClass_spec h
  exact ⟨cA, fun n z => ⟨fun k h => (by cases h), kA, h2, comp, h3⟩, hp cA h1⟩
theorem lw_known {s : State} {args : Array Value} (hts : ∀ w ∈ GT, w.before args s = true) : ∃ (D : va_G) (a : Nat → ClassId), va_K D CLS (tysA a) s := by
  obtain ⟨c0, i0, k0⟩ := u_known (C := RX0) (T := TX0) (N := 5) (n := 5) hts uX0 (hts _ (GT_at (i := 93) (by decide +kernel) rfl))
  obtain ⟨c1, i1, k1⟩ := u_known (C := RX1) (T := TX1) (N := 9) (n := 9) hts uX1 (hts _ (GT_at (i := 117) (by decide +kernel) rfl))
  obtain ⟨c2, i2, k2⟩ := u_known (C := RX2) (T := TX2) (N := 2) (n := 2) hts uX2 (hts _ (GT_at (i := 168) (by decide +kernel) rfl))
  obtain ⟨c3, i3, k3⟩ := u_known (C := RX3) (T := TX3) (N := 8) (n := 8) hts uX3 (hts _ (GT_at (i := 182) (by decide +kernel) rfl))
  obtain ⟨c4, i4, k4⟩ := u_known (C := RX4) (T := TX4) (N := 7) (n := 7) hts uX4 (hts _ (GT_at (i := 221) (by decide +kernel) rfl))
  obtain ⟨c5, i5, k5⟩ := u_known (C := RX5) (T := TX5) (N := 8) (n := 8) hts uX5 (hts _ (GT_at (i := 253) (by decide +kernel) rfl))
  obtain ⟨c6, i6, k6⟩ := u_known (C := RX6) (T := TX6) (N := 2) (n := 2) hts uX6 (hts _ (GT_at (i := 74) (by decide +kernel) rfl))
  obtain ⟨c7, i7, k7⟩ := u_known (C := RX7) (T := TX7) (N := 8) (n := 8) hts uX7 (hts _ (GT_at (i := 66) (by decide +kernel) rfl))
  obtain ⟨c8, i8, k8⟩ := u_known (C := RX8) (T := TX8) (N := 48) (n := 48) hts uX8 (hts _ (GT_at (i := 621) (by decide +kernel) rfl))
  obtain ⟨a0, h0⟩ := lw_arr (ty := .byte) (hts _ (GT_at (i := 91) (by decide +kernel) rfl)) (fun c h => h)
  obtain ⟨a1, h1⟩ := lw_arr (ty := .int) (hts _ (GT_at (i := 250) (by decide +kernel) rfl)) (fun c h => h)
  obtain ⟨a2, h2⟩ := lw_arr (ty := .boolean) (hts _ (GT_at (i := 251) (by decide +kernel) rfl)) (fun c h => h)
  obtain ⟨a3, h3⟩ := lw_arr (ty := .long) (hts _ (GT_at (i := 286) (by decide +kernel) rfl)) (fun c h => h)
  refine ⟨(fun k => match k with | 0 => c0 | 1 => c1 | 2 => c2 | 3 => c3 | 4 => c4 | 5 => c5 | 6 => c6 | 7 => c7 | _ => c8, fun k => match k with | 0 => i0 | 1 => i1 | 2 => i2 | 3 => i3 | 4 => i4 | 5 => i5 | 6 => i6 | 7 => i7 | _ => i8), fun k => match k with | 0 => a0 | 1 => a1 | 2 => a2 | _ => a3, fun c q hq => ?_, fun k q hq => ?_⟩
  · match c, hq with
    | 0, hq => cases hq; exact k0
    | 1, hq => cases hq; exact k1
    | 2, hq => cases hq; exact k2
    | 3, hq => cases hq; exact k3
    | 4, hq => cases hq; exact k4
    | 5, hq => cases hq; exact k5
    | 6, hq => cases hq; exact k6
    | 7, hq => cases hq; exact k7
    | 8, hq => cases hq; exact k8
    | n + 9, hq => simp [CLS] at hq
  · match k, hq with
    | 0, hq => cases hq; exact h0
    | 1, hq => cases hq; exact h1
    | 2, hq => cases hq; exact h2
    | 3, hq => cases hq; exact h3
    | n + 4, hq => simp [tysA] at hq
theorem lw_NW {s : State} {args : Array Value} (hts : ∀ w ∈ lw_tbl, w.before args s = true) : NW s := by
  intro q hq
  have key : ∀ i w, lw_tbl[i]? = some w → w.onTables = true → va_Nw w s := fun i w h1 h2 => va_Nw.of h2 (hts w (List.mem_of_getElem? h1))
  simp only [nestL, List.mem_cons, List.not_mem_nil, or_false] at hq
  rcases hq with rfl | rfl | rfl | rfl | rfl | rfl
  · exact key 75 _ (by decide +kernel) rfl
  · exact key 94 _ (by decide +kernel) rfl
  · exact key 169 _ (by decide +kernel) rfl
  · exact key 188 _ (by decide +kernel) rfl
  · exact key 222 _ (by decide +kernel) rfl
  · exact key 254 _ (by decide +kernel) rfl
