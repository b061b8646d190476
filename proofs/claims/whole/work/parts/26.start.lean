/-! What holds at the law's entry: kinds, static tables, the text. -/
theorem arr_of {s : State} {args : Array Value} {ty : FieldType} (h : (Jvm.Cond.arrayClass ty).before args s = true) : ∃ cA : ClassId, ArrOfT s cA ty ∧ s.vm.findClass ("[" ++ ty.toString) = some cA := by
  obtain ⟨cA, kA, comp, h1, h2, h3⟩ := Cond.arrayClass_spec h
  exact ⟨cA, fun n z => ⟨fun k h => (by cases h), kA, h2, comp, h3⟩, h1⟩
theorem xs_K {s : State} {args : Array Value} (hts : ∀ w ∈ lw_tbl, w.before args s = true) : ∃ (D : va_G) (cI cZ cJ : ClassId), va_K D vwCl [(cI, .int), (cZ, .boolean), (cJ, .long)] s := by
  have hw : ∀ w ∈ wA, w.before args s = true := fun w h => hts w (wA_in w h)
  obtain ⟨c0, i0, k0⟩ := u_known (C := RX0) (T := TX0) (N := 7) (n := 7) hw iw_X0 (hw _ kz_X0)
  obtain ⟨c1, i1, k1⟩ := u_known (C := RX1) (T := TX1) (N := 1) (n := 1) hw iw_X1 (hw _ kz_X1)
  obtain ⟨c2, i2, k2⟩ := u_known (C := RX2) (T := TX2) (N := 12) (n := 12) hw iw_X2 (hw _ kz_X2)
  obtain ⟨c3, i3, k3⟩ := u_known (C := RX3) (T := TX3) (N := 6) (n := 6) hw iw_X3 (hw _ kz_X3)
  obtain ⟨c4, i4, k4⟩ := u_known (C := RX4) (T := TX4) (N := 7) (n := 7) hw iw_X4 (hw _ kz_X4)
  obtain ⟨c5, i5, k5⟩ := u_known (C := RX5) (T := TX5) (N := 10) (n := 10) hw iw_X5 (hw _ kz_X5)
  obtain ⟨c6, i6, k6⟩ := u_known (C := RX6) (T := TX6) (N := 31) (n := 31) hw iw_X6 (hw _ kz_X6)
  obtain ⟨cI, aI, fI⟩ := arr_of (hw _ ka_int)
  obtain ⟨cZ, aZ, fZ⟩ := arr_of (hw _ ka_boolean)
  obtain ⟨cJ, aJ, fJ⟩ := arr_of (hw _ ka_long)
  refine ⟨(fun k => [c0, c1, c2, c3, c4, c5, c6].getD k 0, fun k => match k with | 0 => i0 | 1 => i1 | 2 => i2 | 3 => i3 | 4 => i4 | 5 => i5 | _ => i6), cI, cZ, cJ, fun k q hq => ?_, fun k q hq => ?_⟩
  · match k, hq with
    | 0, hq => cases hq; exact k0
    | 1, hq => cases hq; exact k1
    | 2, hq => cases hq; exact k2
    | 3, hq => cases hq; exact k3
    | 4, hq => cases hq; exact k4
    | 5, hq => cases hq; exact k5
    | 6, hq => cases hq; exact k6
    | k + 7, hq => simp [vwCl] at hq
  · match k, hq with
    | 0, hq => cases hq; exact ⟨aI, fI⟩
    | 1, hq => cases hq; exact ⟨aZ, fZ⟩
    | 2, hq => cases hq; exact ⟨aJ, fJ⟩
    | k + 3, hq => simp at hq
theorem xs_N {s : State} {args : Array Value} (hts : ∀ w ∈ lw_tbl, w.before args s = true) : xNw s := fun w hw => va_Nw.of (nest_tabs (nwl_nest w hw)) (hts w (nwl_in w hw))
set_option maxHeartbeats 1000000 in
set_option maxRecDepth 20000 in
theorem xs_St {s : State} {b : Nat} (hts : ∀ w ∈ lw_tbl, w.before #[Value.ref b] s = true) (hgv : (Jvm.Cond.and given_1 narrow_1).before #[Value.ref b] s = true) : ∃ gs : Nat → Nat, xSt gs (fun q : Nat => s.heap.size ≤ q) s s.heap := by
  have hs := flat_of_before _ hgv
  have hA : ∀ a : Nat, a < s.heap.size → ¬ (fun q : Nat => s.heap.size ≤ q) a := fun a h => Nat.not_le.mpr h
  obtain ⟨t0, v0, T0⟩ := va_Tof (A := fun q : Nat => s.heap.size ≤ q) (N := 6) (ty := .int) (tm := .static RX1 "MOST" "[I") (f := fun j => .int (stf 40 j)) (by decide) (hs _ (by decide +kernel)) (va_eqt (hs _ (by decide +kernel))) (fun j hj => by
    match j, hj with
    | 0, _ => exact va_eqt (hs _ (by decide +kernel))
    | 1, _ => exact va_eqt (hs _ (by decide +kernel))
    | 2, _ => exact va_eqt (hs _ (by decide +kernel))
    | 3, _ => exact va_eqt (hs _ (by decide +kernel))
    | 4, _ => exact va_eqt (hs _ (by decide +kernel))
    | 5, _ => exact va_eqt (hs _ (by decide +kernel))
    | j + 6, h => exact absurd h (by omega)) hA
  obtain ⟨t1, v1, T1⟩ := va_Tof (A := fun q : Nat => s.heap.size ≤ q) (N := 6) (ty := .int) (tm := .static RX1 "AT_FIRST" "[I") (f := fun j => .int (stf 41 j)) (by decide) (hs _ (by decide +kernel)) (va_eqt (hs _ (by decide +kernel))) (fun j hj => by
    match j, hj with
    | 0, _ => exact va_eqt (hs _ (by decide +kernel))
    | 1, _ => exact va_eqt (hs _ (by decide +kernel))
    | 2, _ => exact va_eqt (hs _ (by decide +kernel))
    | 3, _ => exact va_eqt (hs _ (by decide +kernel))
    | 4, _ => exact va_eqt (hs _ (by decide +kernel))
    | 5, _ => exact va_eqt (hs _ (by decide +kernel))
    | j + 6, h => exact absurd h (by omega)) hA
  have hi1 : (Jvm.Cond.initialized RX1).before #[Value.ref b] s = true := hts _ (wA_in _ kn_X1)
  have Z0 := va_Zof (A := fun q : Nat => s.heap.size ≤ q) (C := RX1) (n := "MOST") (d := "[I") (hts _ (by decide +kernel)) hi1 v0 hA
  have Z1 := va_Zof (A := fun q : Nat => s.heap.size ≤ q) (C := RX1) (n := "AT_FIRST") (d := "[I") (hts _ (by decide +kernel)) hi1 v1 hA
  have U := vx_Zqof (A := fun q : Nat => s.heap.size ≤ q) (C := Bundle.tN) (n := "UNASSIGNED_STACK") (d := Bundle.steD) (args := #[Value.ref b]) (s := s) (hts _ (by decide +kernel)) (hts _ (by decide +kernel)) (hs _ (by decide +kernel)) hA
  have V := vx_Zqof (A := fun q : Nat => s.heap.size ≤ q) (C := Bundle.tN) (n := "SUPPRESSED_SENTINEL") (d := Bundle.listD) (args := #[Value.ref b]) (s := s) (hts _ (by decide +kernel)) (hts _ (by decide +kernel)) (hs _ (by decide +kernel)) hA
  have hex : (Jvm.Cond.exactly (.string RX5 209) "java/lang/String").before #[Value.ref b] s = true := hs _ (by decide +kernel)
  obtain ⟨sa, -, -, -, he, -⟩ := Cond.exactly_spec hex
  have hsr : (Jvm.Cond.stringRef RX5 209 xTxt).before #[Value.ref b] s = true := hts _ (by decide +kernel)
  refine ⟨fun k => if k = 40 then t0 else if k = 41 then t1 else sa, fun o ho => ?_, ⟨U, V⟩, vk_R.of hsr he⟩
  rcases ho with rfl | rfl
  · exact ⟨Z0, T0⟩
  · exact ⟨Z1, T1⟩
