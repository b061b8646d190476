theorem good_Vh {w0 : Jvm.Cond} {y : MethodName} {cc : ByteArray} {nL zb idx : Nat} {own C : String} (h1 : Jvm.Cond.methodLink own idx y ∈ wA) (h2 : Jvm.Cond.instanceMethod y ∈ wA) (h3 : Jvm.Cond.selects C y y ∈ wA) (h4 : Jvm.Cond.initialized C ∈ wA) (h5 : Jvm.Cond.code y cc nL (rety zb) ∈ wA) : GoodIn (w0 :: wA) (wsV own idx C y (wm y cc nL zb)) := by
  intro w hw
  have h : w ∈ wA := by
    rcases List.mem_append.mp hw with q | q
    · simp only [List.mem_cons, List.not_mem_nil, or_false] at q
      rcases q with q | q | q | q <;> rw [q] <;> assumption
    · rcases List.mem_cons.mp q with q | q
      · rw [q]; exact h5
      · exact q
  exact ⟨List.mem_cons_of_mem _ h, good_of_word (wA_good w h)⟩
theorem wo_set {g : Nat → Nat} {cI cZ cJ : ClassId} {qo : Nat} {S : XS} {f f1 : Nat → Int64} : (wo g cI cZ cJ qo S f).set 40 (qo, .inl (cJ, 1, .inr (.inl f1))) = wo g cI cZ cJ qo S f1 := by
  unfold wo
  rw [List.set_append_right _ _ (by rw [ww_len, xT_len]; exact Nat.le_refl _), ww_len, xT_len]
  rfl
theorem dL_at_0 : decode cL_at 0 = .ok (.aload_n 3, 1) := by decide +kernel
theorem dL_at_1 : decode cL_at 1 = .ok (.iconst 0, 1) := by decide +kernel
theorem dL_at_2 : decode cL_at 2 = .ok (.aload_n 0, 1) := by decide +kernel
theorem dL_at_3 : decode cL_at 3 = .ok (.iload_n 1, 1) := by decide +kernel
theorem dL_at_4 : decode cL_at 4 = .ok (.iload_n 2, 1) := by decide +kernel
theorem dL_at_5 : decode cL_at 5 = .ok (.invokevirtual 7, 3) := by decide +kernel
theorem dL_at_8 : decode cL_at 8 = .ok (.i2l, 1) := by decide +kernel
theorem dL_at_9 : decode cL_at 9 = .ok (.lastore, 1) := by decide +kernel
theorem dL_at_10 : decode cL_at 10 = .ok (.goto 7, 3) := by decide +kernel
theorem dL_at_13 : decode cL_at 13 = .ok (.astore 4, 2) := by decide +kernel
theorem dL_at_15 : decode cL_at 15 = .ok (.iconst 1, 1) := by decide +kernel
theorem dL_at_16 : decode cL_at 16 = .ok (.ireturn, 1) := by decide +kernel
theorem dL_at_17 : decode cL_at 17 = .ok (.iconst 0, 1) := by decide +kernel
theorem dL_at_18 : decode cL_at 18 = .ok (.ireturn, 1) := by decide +kernel
theorem dL_slurAt_0 : decode cL_slurAt 0 = .ok (.aload_n 3, 1) := by decide +kernel
theorem dL_slurAt_1 : decode cL_slurAt 1 = .ok (.iconst 0, 1) := by decide +kernel
theorem dL_slurAt_2 : decode cL_slurAt 2 = .ok (.aload_n 0, 1) := by decide +kernel
theorem dL_slurAt_3 : decode cL_slurAt 3 = .ok (.iload_n 1, 1) := by decide +kernel
theorem dL_slurAt_4 : decode cL_slurAt 4 = .ok (.iload_n 2, 1) := by decide +kernel
theorem dL_slurAt_5 : decode cL_slurAt 5 = .ok (.invokevirtual 15, 3) := by decide +kernel
theorem dL_slurAt_8 : decode cL_slurAt 8 = .ok (.i2l, 1) := by decide +kernel
theorem dL_slurAt_9 : decode cL_slurAt 9 = .ok (.lastore, 1) := by decide +kernel
theorem dL_slurAt_10 : decode cL_slurAt 10 = .ok (.goto 7, 3) := by decide +kernel
theorem dL_slurAt_13 : decode cL_slurAt 13 = .ok (.astore 4, 2) := by decide +kernel
theorem dL_slurAt_15 : decode cL_slurAt 15 = .ok (.iconst 1, 1) := by decide +kernel
theorem dL_slurAt_16 : decode cL_slurAt 16 = .ok (.ireturn, 1) := by decide +kernel
theorem dL_slurAt_17 : decode cL_slurAt 17 = .ok (.iconst 0, 1) := by decide +kernel
theorem dL_slurAt_18 : decode cL_slurAt 18 = .ok (.ireturn, 1) := by decide +kernel
theorem dL_skyline_0 : decode cL_skyline 0 = .ok (.aload_n 3, 1) := by decide +kernel
theorem dL_skyline_1 : decode cL_skyline 1 = .ok (.iconst 0, 1) := by decide +kernel
theorem dL_skyline_2 : decode cL_skyline 2 = .ok (.aload_n 0, 1) := by decide +kernel
theorem dL_skyline_3 : decode cL_skyline 3 = .ok (.iload_n 1, 1) := by decide +kernel
theorem dL_skyline_4 : decode cL_skyline 4 = .ok (.iload_n 2, 1) := by decide +kernel
theorem dL_skyline_5 : decode cL_skyline 5 = .ok (.invokevirtual 18, 3) := by decide +kernel
theorem dL_skyline_8 : decode cL_skyline 8 = .ok (.i2l, 1) := by decide +kernel
theorem dL_skyline_9 : decode cL_skyline 9 = .ok (.lastore, 1) := by decide +kernel
theorem dL_skyline_10 : decode cL_skyline 10 = .ok (.goto 7, 3) := by decide +kernel
theorem dL_skyline_13 : decode cL_skyline 13 = .ok (.astore 4, 2) := by decide +kernel
theorem dL_skyline_15 : decode cL_skyline 15 = .ok (.iconst 1, 1) := by decide +kernel
theorem dL_skyline_16 : decode cL_skyline 16 = .ok (.ireturn, 1) := by decide +kernel
theorem dL_skyline_17 : decode cL_skyline 17 = .ok (.iconst 0, 1) := by decide +kernel
theorem dL_skyline_18 : decode cL_skyline 18 = .ok (.ireturn, 1) := by decide +kernel
theorem dL_row_0 : decode cL_row 0 = .ok (.aload_n 3, 1) := by decide +kernel
theorem dL_row_1 : decode cL_row 1 = .ok (.iconst 0, 1) := by decide +kernel
theorem dL_row_2 : decode cL_row 2 = .ok (.aload_n 0, 1) := by decide +kernel
theorem dL_row_3 : decode cL_row 3 = .ok (.iload_n 1, 1) := by decide +kernel
theorem dL_row_4 : decode cL_row 4 = .ok (.iload_n 2, 1) := by decide +kernel
theorem dL_row_5 : decode cL_row 5 = .ok (.invokevirtual 21, 3) := by decide +kernel
theorem dL_row_8 : decode cL_row 8 = .ok (.i2l, 1) := by decide +kernel
theorem dL_row_9 : decode cL_row 9 = .ok (.lastore, 1) := by decide +kernel
theorem dL_row_10 : decode cL_row 10 = .ok (.goto 7, 3) := by decide +kernel
theorem dL_row_13 : decode cL_row 13 = .ok (.astore 4, 2) := by decide +kernel
theorem dL_row_15 : decode cL_row 15 = .ok (.iconst 1, 1) := by decide +kernel
theorem dL_row_16 : decode cL_row 16 = .ok (.ireturn, 1) := by decide +kernel
theorem dL_row_17 : decode cL_row 17 = .ok (.iconst 0, 1) := by decide +kernel
theorem dL_row_18 : decode cL_row 18 = .ok (.ireturn, 1) := by decide +kernel
theorem dL_order_0 : decode cL_order 0 = .ok (.aload 4, 2) := by decide +kernel
theorem dL_order_2 : decode cL_order 2 = .ok (.iconst 0, 1) := by decide +kernel
theorem dL_order_3 : decode cL_order 3 = .ok (.aload_n 0, 1) := by decide +kernel
theorem dL_order_4 : decode cL_order 4 = .ok (.iload_n 1, 1) := by decide +kernel
theorem dL_order_5 : decode cL_order 5 = .ok (.iload_n 2, 1) := by decide +kernel
theorem dL_order_6 : decode cL_order 6 = .ok (.iload_n 3, 1) := by decide +kernel
theorem dL_order_7 : decode cL_order 7 = .ok (.invokevirtual 24, 3) := by decide +kernel
theorem dL_order_10 : decode cL_order 10 = .ok (.i2l, 1) := by decide +kernel
theorem dL_order_11 : decode cL_order 11 = .ok (.lastore, 1) := by decide +kernel
theorem dL_order_12 : decode cL_order 12 = .ok (.goto 7, 3) := by decide +kernel
theorem dL_order_15 : decode cL_order 15 = .ok (.astore 5, 2) := by decide +kernel
theorem dL_order_17 : decode cL_order 17 = .ok (.iconst 1, 1) := by decide +kernel
theorem dL_order_18 : decode cL_order 18 = .ok (.ireturn, 1) := by decide +kernel
theorem dL_order_19 : decode cL_order 19 = .ok (.iconst 0, 1) := by decide +kernel
theorem dL_order_20 : decode cL_order 20 = .ok (.ireturn, 1) := by decide +kernel
theorem dL_meets_0 : decode cL_meets 0 = .ok (.aload_n 3, 1) := by decide +kernel
theorem dL_meets_1 : decode cL_meets 1 = .ok (.iconst 0, 1) := by decide +kernel
theorem dL_meets_2 : decode cL_meets 2 = .ok (.aload_n 0, 1) := by decide +kernel
theorem dL_meets_3 : decode cL_meets 3 = .ok (.iload_n 1, 1) := by decide +kernel
theorem dL_meets_4 : decode cL_meets 4 = .ok (.iload_n 2, 1) := by decide +kernel
theorem dL_meets_5 : decode cL_meets 5 = .ok (.invokevirtual 28, 3) := by decide +kernel
theorem dL_meets_8 : decode cL_meets 8 = .ok (.i2l, 1) := by decide +kernel
theorem dL_meets_9 : decode cL_meets 9 = .ok (.lastore, 1) := by decide +kernel
theorem dL_meets_10 : decode cL_meets 10 = .ok (.goto 7, 3) := by decide +kernel
theorem dL_meets_13 : decode cL_meets 13 = .ok (.astore 4, 2) := by decide +kernel
theorem dL_meets_15 : decode cL_meets 15 = .ok (.iconst 1, 1) := by decide +kernel
theorem dL_meets_16 : decode cL_meets 16 = .ok (.ireturn, 1) := by decide +kernel
theorem dL_meets_17 : decode cL_meets 17 = .ok (.iconst 0, 1) := by decide +kernel
theorem dL_meets_18 : decode cL_meets 18 = .ok (.ireturn, 1) := by decide +kernel
theorem dL_count_0 : decode cL_count 0 = .ok (.aload_n 2, 1) := by decide +kernel
theorem dL_count_1 : decode cL_count 1 = .ok (.iconst 0, 1) := by decide +kernel
theorem dL_count_2 : decode cL_count 2 = .ok (.aload_n 0, 1) := by decide +kernel
theorem dL_count_3 : decode cL_count 3 = .ok (.iload_n 1, 1) := by decide +kernel
theorem dL_count_4 : decode cL_count 4 = .ok (.invokevirtual 31, 3) := by decide +kernel
theorem dL_count_7 : decode cL_count 7 = .ok (.i2l, 1) := by decide +kernel
theorem dL_count_8 : decode cL_count 8 = .ok (.lastore, 1) := by decide +kernel
theorem dL_count_9 : decode cL_count 9 = .ok (.goto 6, 3) := by decide +kernel
theorem dL_count_12 : decode cL_count 12 = .ok (.astore_n 3, 1) := by decide +kernel
theorem dL_count_13 : decode cL_count 13 = .ok (.iconst 1, 1) := by decide +kernel
theorem dL_count_14 : decode cL_count 14 = .ok (.ireturn, 1) := by decide +kernel
theorem dL_count_15 : decode cL_count 15 = .ok (.iconst 0, 1) := by decide +kernel
theorem dL_count_16 : decode cL_count 16 = .ok (.ireturn, 1) := by decide +kernel
set_option maxHeartbeats 1000000 in
set_option maxRecDepth 20000 in
theorem cWR_at {l : Launch} {D : va_G} {g : Nat → Nat} {cI cZ cJ : ClassId} {qo : Nat} {A : Nat → Prop} (hD : ∀ S, va_D A (ww xT g cI cZ S)) (hqA : ¬ A qo) {S S1 : XS} {f : Nat → Int64} {r a1 a2 : Int32} (hs : m_X5_at [.inr 0, .inl a1, .inl a2] S = some (S1, some (some (.inl r)))) : Met l yL_at (Jvm.Cond.codeWith yL_at cL_at 5 (some .int) [(0, 10, 13, 13)] :: wA) { frames := 2, cells := 0, slots := 0, locals := 44 } (va_Pc [.ref (g 0), .int a1, .int a2, .ref qo] (wPre D g cI cZ cJ qo A S f)) (wQ D g cI cZ cJ qo A 0 S1 (vp_updL f (0 : Int32).toNatClampNeg r.toInt64)) 0 0 (fun q => A q ∨ q = qo) := by
  refine xw_ofWH (cc := cL_at) (maxL := 5) (ret := some .int) (hh := [(0, 10, 13, 13)]) (by decide) rfl ?_
  intro p e s m args below meth c s₁ B hml htab hv
  obtain ⟨rfl, hP, hK, hN, hst⟩ := hv
  have hx := B.exec
  have hb := B.bytes
  have hr := B.returns
  have hts := atoms_spec (ws := (Jvm.Cond.codeWith yL_at cL_at 5 (some .int) [(0, 10, 13, 13)] :: wA)) B.pre
  have hown : s.vm.findClass RL = some m.cls := findClass_of_methodNamed B.named
  have hlocks := B.notSynchronized
  have hlv := lv_entry ([.ref (g 0), .int a1, .int a2, .ref qo]) (n := 5) (Nat.le_of_ble_eq_true rfl)
  rw [lg_entry_eq]
  generalize (lg_sl ([.ref (g 0), .int a1, .int a2, .ref qo]) ++ List.replicate (5 - (lg_sl ([.ref (g 0), .int a1, .int a2, .ref qo])).length) Slot.unset).toArray = ls at hlv ⊢
  have hlv : lv_has ls 5 [(0, .ref (g 0)), (1, .int a1), (2, .int a2), (3, .ref qo)] := hlv
  refine lv_aload_n hx hb dL_at_0 rfl (lv_at hlv 3 rfl) ?_
  refine lv_iconst (v := 0) hx hb dL_at_1 (by decide) ?_
  refine lv_aload_n hx hb dL_at_2 rfl (lv_at hlv 0 rfl) ?_
  refine lv_iload_n hx hb dL_at_3 rfl (lv_at hlv 1 rfl) ?_
  refine lv_iload_n hx hb dL_at_4 rfl (lv_at hlv 2 rfl) ?_
  refine wr_R (n := 2) (t := [.inl a1, .inl a2]) (rest := [.int 0, .ref qo]) hx hb hml hown hts hK hN hst hqA hlv.1 (cR_X5_at hD _ S _ rfl hs (fun h => by cases h)) rfl (good_Vh kl_L_7 ki_X5_at ks_X5_at kn_X5 kc_X5_at) rfl ⟨rfl, rfl⟩ (by decide +kernel) ⟨by decide, by decide⟩ (Nat.le_of_ble_eq_true rfl) dL_at_5 hP (fun H locs hP hS => ?_)
  refine lv_i2l hx hb dL_at_8 rfl ?_
  refine va_last (D := D) hx hb hK hP (wo_D hD hqA _ _) hS 40 2 wo_at rfl (vp_in_iff.mpr (by decide)) dL_at_9 (fun H1 locs1 hP1 _ hS1 => ?_)
  refine lv_goto (tgt := 17) hx hb dL_at_10 (by decide) ?_
  refine lv_iconst (v := 0) hx hb dL_at_17 (by decide) ?_
  exact W.iret (v := 0) hx hb hr (fun t ht hW => ⟨⟨rfl, by rw [ht]; rw [wo_set] at hP1; exact hP1⟩, hS1.F ht⟩) hS1.2.2 dL_at_18
set_option maxHeartbeats 1000000 in
set_option maxRecDepth 20000 in
theorem cWT_at {l : Launch} {D : va_G} {g : Nat → Nat} {cI cZ cJ : ClassId} {qo : Nat} {A : Nat → Prop} (hD : ∀ S, va_D A (ww xT g cI cZ S)) (hqA : ¬ A qo) (hl : l.stackTraces = false) {S S1 : XS} {f : Nat → Int64} {a1 a2 : Int32} (hs : m_X5_at [.inr 0, .inl a1, .inl a2] S = some (S1, none)) : Met l yL_at (Jvm.Cond.codeWith yL_at cL_at 5 (some .int) [(0, 10, 13, 13)] :: wA) { frames := 8, cells := 1, slots := 6, locals := 142 } (va_Pc [.ref (g 0), .int a1, .int a2, .ref qo] (wPre D g cI cZ cJ qo A S f)) (wQ D g cI cZ cJ qo A 1 S1 f) 1 6 (fun q => A q ∨ q = qo) := by
  refine xw_ofWH (cc := cL_at) (maxL := 5) (ret := some .int) (hh := [(0, 10, 13, 13)]) (by decide) rfl ?_
  intro p e s m args below meth c s₁ B hml htab hv
  obtain ⟨rfl, hP, hK, hN, hst⟩ := hv
  have hx := B.exec
  have hb := B.bytes
  have hr := B.returns
  have hts := atoms_spec (ws := (Jvm.Cond.codeWith yL_at cL_at 5 (some .int) [(0, 10, 13, 13)] :: wA)) B.pre
  have hown : s.vm.findClass RL = some m.cls := findClass_of_methodNamed B.named
  have hlocks := B.notSynchronized
  have hlv := lv_entry ([.ref (g 0), .int a1, .int a2, .ref qo]) (n := 5) (Nat.le_of_ble_eq_true rfl)
  rw [lg_entry_eq]
  generalize (lg_sl ([.ref (g 0), .int a1, .int a2, .ref qo]) ++ List.replicate (5 - (lg_sl ([.ref (g 0), .int a1, .int a2, .ref qo])).length) Slot.unset).toArray = ls at hlv ⊢
  have hlv : lv_has ls 5 [(0, .ref (g 0)), (1, .int a1), (2, .int a2), (3, .ref qo)] := hlv
  refine lv_aload_n hx hb dL_at_0 rfl (lv_at hlv 3 rfl) ?_
  refine lv_iconst (v := 0) hx hb dL_at_1 (by decide) ?_
  refine lv_aload_n hx hb dL_at_2 rfl (lv_at hlv 0 rfl) ?_
  refine lv_iload_n hx hb dL_at_3 rfl (lv_at hlv 1 rfl) ?_
  refine lv_iload_n hx hb dL_at_4 rfl (lv_at hlv 2 rfl) ?_
  refine wr_T (n := 2) (t := [.inl a1, .inl a2]) (rest := [.int 0, .ref qo]) hx hb hml hown hts hK hN hst hqA hlv.1 (cT_X5_at hD hl _ S _ rfl hs rfl) rfl (good_Vh kl_L_7 ki_X5_at ks_X5_at kn_X5 kc_X5_at) rfl ⟨rfl, rfl⟩ (by decide +kernel) ⟨by decide, by decide⟩ ⟨by decide, by decide⟩ (Nat.le_of_ble_eq_true rfl) dL_at_5 hP htab (by decide) (by decide) (hts _ (List.mem_cons_of_mem _ kx_L_13)) (fun q H1 locs1 hP1 hS1 => ?_)
  refine lv_astore (lv' := [(4, .ref q), (0, .ref (g 0)), (1, .int a1), (2, .int a2), (3, .ref qo)]) hx hb dL_at_13 hlv (by decide) rfl (fun ls hlv => ?_)
  refine lv_iconst (v := 1) hx hb dL_at_15 (by decide) ?_
  exact W.iret (v := 1) hx hb hr (fun t ht hW => ⟨⟨rfl, by rw [ht]; exact hP1⟩, hS1.F ht⟩) hS1.2.2 dL_at_16
set_option maxHeartbeats 1000000 in
set_option maxRecDepth 20000 in
theorem cWR_slurAt {l : Launch} {D : va_G} {g : Nat → Nat} {cI cZ cJ : ClassId} {qo : Nat} {A : Nat → Prop} (hD : ∀ S, va_D A (ww xT g cI cZ S)) (hqA : ¬ A qo) {S S1 : XS} {f : Nat → Int64} {r a1 a2 : Int32} (hs : m_X5_slurAt [.inr 0, .inl a1, .inl a2] S = some (S1, some (some (.inl r)))) : Met l yL_slurAt (Jvm.Cond.codeWith yL_slurAt cL_slurAt 5 (some .int) [(0, 10, 13, 13)] :: wA) { frames := 2, cells := 0, slots := 0, locals := 44 } (va_Pc [.ref (g 0), .int a1, .int a2, .ref qo] (wPre D g cI cZ cJ qo A S f)) (wQ D g cI cZ cJ qo A 0 S1 (vp_updL f (0 : Int32).toNatClampNeg r.toInt64)) 0 0 (fun q => A q ∨ q = qo) := by
  refine xw_ofWH (cc := cL_slurAt) (maxL := 5) (ret := some .int) (hh := [(0, 10, 13, 13)]) (by decide) rfl ?_
  intro p e s m args below meth c s₁ B hml htab hv
  obtain ⟨rfl, hP, hK, hN, hst⟩ := hv
  have hx := B.exec
  have hb := B.bytes
  have hr := B.returns
  have hts := atoms_spec (ws := (Jvm.Cond.codeWith yL_slurAt cL_slurAt 5 (some .int) [(0, 10, 13, 13)] :: wA)) B.pre
  have hown : s.vm.findClass RL = some m.cls := findClass_of_methodNamed B.named
  have hlocks := B.notSynchronized
  have hlv := lv_entry ([.ref (g 0), .int a1, .int a2, .ref qo]) (n := 5) (Nat.le_of_ble_eq_true rfl)
  rw [lg_entry_eq]
  generalize (lg_sl ([.ref (g 0), .int a1, .int a2, .ref qo]) ++ List.replicate (5 - (lg_sl ([.ref (g 0), .int a1, .int a2, .ref qo])).length) Slot.unset).toArray = ls at hlv ⊢
  have hlv : lv_has ls 5 [(0, .ref (g 0)), (1, .int a1), (2, .int a2), (3, .ref qo)] := hlv
  refine lv_aload_n hx hb dL_slurAt_0 rfl (lv_at hlv 3 rfl) ?_
  refine lv_iconst (v := 0) hx hb dL_slurAt_1 (by decide) ?_
  refine lv_aload_n hx hb dL_slurAt_2 rfl (lv_at hlv 0 rfl) ?_
  refine lv_iload_n hx hb dL_slurAt_3 rfl (lv_at hlv 1 rfl) ?_
  refine lv_iload_n hx hb dL_slurAt_4 rfl (lv_at hlv 2 rfl) ?_
  refine wr_R (n := 2) (t := [.inl a1, .inl a2]) (rest := [.int 0, .ref qo]) hx hb hml hown hts hK hN hst hqA hlv.1 (cR_X5_slurAt hD _ S _ rfl hs (fun h => by cases h)) rfl (good_Vh kl_L_15 ki_X5_slurAt ks_X5_slurAt kn_X5 kc_X5_slurAt) rfl ⟨rfl, rfl⟩ (by decide +kernel) ⟨by decide, by decide⟩ (Nat.le_of_ble_eq_true rfl) dL_slurAt_5 hP (fun H locs hP hS => ?_)
  refine lv_i2l hx hb dL_slurAt_8 rfl ?_
  refine va_last (D := D) hx hb hK hP (wo_D hD hqA _ _) hS 40 2 wo_at rfl (vp_in_iff.mpr (by decide)) dL_slurAt_9 (fun H1 locs1 hP1 _ hS1 => ?_)
  refine lv_goto (tgt := 17) hx hb dL_slurAt_10 (by decide) ?_
  refine lv_iconst (v := 0) hx hb dL_slurAt_17 (by decide) ?_
  exact W.iret (v := 0) hx hb hr (fun t ht hW => ⟨⟨rfl, by rw [ht]; rw [wo_set] at hP1; exact hP1⟩, hS1.F ht⟩) hS1.2.2 dL_slurAt_18
set_option maxHeartbeats 1000000 in
set_option maxRecDepth 20000 in
theorem cWT_slurAt {l : Launch} {D : va_G} {g : Nat → Nat} {cI cZ cJ : ClassId} {qo : Nat} {A : Nat → Prop} (hD : ∀ S, va_D A (ww xT g cI cZ S)) (hqA : ¬ A qo) (hl : l.stackTraces = false) {S S1 : XS} {f : Nat → Int64} {a1 a2 : Int32} (hs : m_X5_slurAt [.inr 0, .inl a1, .inl a2] S = some (S1, none)) : Met l yL_slurAt (Jvm.Cond.codeWith yL_slurAt cL_slurAt 5 (some .int) [(0, 10, 13, 13)] :: wA) { frames := 8, cells := 1, slots := 6, locals := 142 } (va_Pc [.ref (g 0), .int a1, .int a2, .ref qo] (wPre D g cI cZ cJ qo A S f)) (wQ D g cI cZ cJ qo A 1 S1 f) 1 6 (fun q => A q ∨ q = qo) := by
  refine xw_ofWH (cc := cL_slurAt) (maxL := 5) (ret := some .int) (hh := [(0, 10, 13, 13)]) (by decide) rfl ?_
  intro p e s m args below meth c s₁ B hml htab hv
  obtain ⟨rfl, hP, hK, hN, hst⟩ := hv
  have hx := B.exec
  have hb := B.bytes
  have hr := B.returns
  have hts := atoms_spec (ws := (Jvm.Cond.codeWith yL_slurAt cL_slurAt 5 (some .int) [(0, 10, 13, 13)] :: wA)) B.pre
  have hown : s.vm.findClass RL = some m.cls := findClass_of_methodNamed B.named
  have hlocks := B.notSynchronized
  have hlv := lv_entry ([.ref (g 0), .int a1, .int a2, .ref qo]) (n := 5) (Nat.le_of_ble_eq_true rfl)
  rw [lg_entry_eq]
  generalize (lg_sl ([.ref (g 0), .int a1, .int a2, .ref qo]) ++ List.replicate (5 - (lg_sl ([.ref (g 0), .int a1, .int a2, .ref qo])).length) Slot.unset).toArray = ls at hlv ⊢
  have hlv : lv_has ls 5 [(0, .ref (g 0)), (1, .int a1), (2, .int a2), (3, .ref qo)] := hlv
  refine lv_aload_n hx hb dL_slurAt_0 rfl (lv_at hlv 3 rfl) ?_
  refine lv_iconst (v := 0) hx hb dL_slurAt_1 (by decide) ?_
  refine lv_aload_n hx hb dL_slurAt_2 rfl (lv_at hlv 0 rfl) ?_
  refine lv_iload_n hx hb dL_slurAt_3 rfl (lv_at hlv 1 rfl) ?_
  refine lv_iload_n hx hb dL_slurAt_4 rfl (lv_at hlv 2 rfl) ?_
  refine wr_T (n := 2) (t := [.inl a1, .inl a2]) (rest := [.int 0, .ref qo]) hx hb hml hown hts hK hN hst hqA hlv.1 (cT_X5_slurAt hD hl _ S _ rfl hs rfl) rfl (good_Vh kl_L_15 ki_X5_slurAt ks_X5_slurAt kn_X5 kc_X5_slurAt) rfl ⟨rfl, rfl⟩ (by decide +kernel) ⟨by decide, by decide⟩ ⟨by decide, by decide⟩ (Nat.le_of_ble_eq_true rfl) dL_slurAt_5 hP htab (by decide) (by decide) (hts _ (List.mem_cons_of_mem _ kx_L_13)) (fun q H1 locs1 hP1 hS1 => ?_)
  refine lv_astore (lv' := [(4, .ref q), (0, .ref (g 0)), (1, .int a1), (2, .int a2), (3, .ref qo)]) hx hb dL_slurAt_13 hlv (by decide) rfl (fun ls hlv => ?_)
  refine lv_iconst (v := 1) hx hb dL_slurAt_15 (by decide) ?_
  exact W.iret (v := 1) hx hb hr (fun t ht hW => ⟨⟨rfl, by rw [ht]; exact hP1⟩, hS1.F ht⟩) hS1.2.2 dL_slurAt_16
set_option maxHeartbeats 1000000 in
set_option maxRecDepth 20000 in
theorem cWR_skyline {l : Launch} {D : va_G} {g : Nat → Nat} {cI cZ cJ : ClassId} {qo : Nat} {A : Nat → Prop} (hD : ∀ S, va_D A (ww xT g cI cZ S)) (hqA : ¬ A qo) {S S1 : XS} {f : Nat → Int64} {r a1 a2 : Int32} (hs : m_X5_skyline [.inr 0, .inl a1, .inl a2] S = some (S1, some (some (.inl r)))) : Met l yL_skyline (Jvm.Cond.codeWith yL_skyline cL_skyline 5 (some .int) [(0, 10, 13, 13)] :: wA) { frames := 3, cells := 0, slots := 0, locals := 67 } (va_Pc [.ref (g 0), .int a1, .int a2, .ref qo] (wPre D g cI cZ cJ qo A S f)) (wQ D g cI cZ cJ qo A 0 S1 (vp_updL f (0 : Int32).toNatClampNeg r.toInt64)) 0 0 (fun q => A q ∨ q = qo) := by
  refine xw_ofWH (cc := cL_skyline) (maxL := 5) (ret := some .int) (hh := [(0, 10, 13, 13)]) (by decide) rfl ?_
  intro p e s m args below meth c s₁ B hml htab hv
  obtain ⟨rfl, hP, hK, hN, hst⟩ := hv
  have hx := B.exec
  have hb := B.bytes
  have hr := B.returns
  have hts := atoms_spec (ws := (Jvm.Cond.codeWith yL_skyline cL_skyline 5 (some .int) [(0, 10, 13, 13)] :: wA)) B.pre
  have hown : s.vm.findClass RL = some m.cls := findClass_of_methodNamed B.named
  have hlocks := B.notSynchronized
  have hlv := lv_entry ([.ref (g 0), .int a1, .int a2, .ref qo]) (n := 5) (Nat.le_of_ble_eq_true rfl)
  rw [lg_entry_eq]
  generalize (lg_sl ([.ref (g 0), .int a1, .int a2, .ref qo]) ++ List.replicate (5 - (lg_sl ([.ref (g 0), .int a1, .int a2, .ref qo])).length) Slot.unset).toArray = ls at hlv ⊢
  have hlv : lv_has ls 5 [(0, .ref (g 0)), (1, .int a1), (2, .int a2), (3, .ref qo)] := hlv
  refine lv_aload_n hx hb dL_skyline_0 rfl (lv_at hlv 3 rfl) ?_
  refine lv_iconst (v := 0) hx hb dL_skyline_1 (by decide) ?_
  refine lv_aload_n hx hb dL_skyline_2 rfl (lv_at hlv 0 rfl) ?_
  refine lv_iload_n hx hb dL_skyline_3 rfl (lv_at hlv 1 rfl) ?_
  refine lv_iload_n hx hb dL_skyline_4 rfl (lv_at hlv 2 rfl) ?_
  refine wr_R (n := 2) (t := [.inl a1, .inl a2]) (rest := [.int 0, .ref qo]) hx hb hml hown hts hK hN hst hqA hlv.1 (cR_X5_skyline hD _ S _ rfl hs (fun h => by cases h)) rfl (good_Vh kl_L_18 ki_X5_skyline ks_X5_skyline kn_X5 kc_X5_skyline) rfl ⟨rfl, rfl⟩ (by decide +kernel) ⟨by decide, by decide⟩ (Nat.le_of_ble_eq_true rfl) dL_skyline_5 hP (fun H locs hP hS => ?_)
  refine lv_i2l hx hb dL_skyline_8 rfl ?_
  refine va_last (D := D) hx hb hK hP (wo_D hD hqA _ _) hS 40 2 wo_at rfl (vp_in_iff.mpr (by decide)) dL_skyline_9 (fun H1 locs1 hP1 _ hS1 => ?_)
  refine lv_goto (tgt := 17) hx hb dL_skyline_10 (by decide) ?_
  refine lv_iconst (v := 0) hx hb dL_skyline_17 (by decide) ?_
  exact W.iret (v := 0) hx hb hr (fun t ht hW => ⟨⟨rfl, by rw [ht]; rw [wo_set] at hP1; exact hP1⟩, hS1.F ht⟩) hS1.2.2 dL_skyline_18
set_option maxHeartbeats 1000000 in
set_option maxRecDepth 20000 in
theorem cWT_skyline {l : Launch} {D : va_G} {g : Nat → Nat} {cI cZ cJ : ClassId} {qo : Nat} {A : Nat → Prop} (hD : ∀ S, va_D A (ww xT g cI cZ S)) (hqA : ¬ A qo) (hl : l.stackTraces = false) {S S1 : XS} {f : Nat → Int64} {a1 a2 : Int32} (hs : m_X5_skyline [.inr 0, .inl a1, .inl a2] S = some (S1, none)) : Met l yL_skyline (Jvm.Cond.codeWith yL_skyline cL_skyline 5 (some .int) [(0, 10, 13, 13)] :: wA) { frames := 8, cells := 1, slots := 6, locals := 142 } (va_Pc [.ref (g 0), .int a1, .int a2, .ref qo] (wPre D g cI cZ cJ qo A S f)) (wQ D g cI cZ cJ qo A 1 S1 f) 1 6 (fun q => A q ∨ q = qo) := by
  refine xw_ofWH (cc := cL_skyline) (maxL := 5) (ret := some .int) (hh := [(0, 10, 13, 13)]) (by decide) rfl ?_
  intro p e s m args below meth c s₁ B hml htab hv
  obtain ⟨rfl, hP, hK, hN, hst⟩ := hv
  have hx := B.exec
  have hb := B.bytes
  have hr := B.returns
  have hts := atoms_spec (ws := (Jvm.Cond.codeWith yL_skyline cL_skyline 5 (some .int) [(0, 10, 13, 13)] :: wA)) B.pre
  have hown : s.vm.findClass RL = some m.cls := findClass_of_methodNamed B.named
  have hlocks := B.notSynchronized
  have hlv := lv_entry ([.ref (g 0), .int a1, .int a2, .ref qo]) (n := 5) (Nat.le_of_ble_eq_true rfl)
  rw [lg_entry_eq]
  generalize (lg_sl ([.ref (g 0), .int a1, .int a2, .ref qo]) ++ List.replicate (5 - (lg_sl ([.ref (g 0), .int a1, .int a2, .ref qo])).length) Slot.unset).toArray = ls at hlv ⊢
  have hlv : lv_has ls 5 [(0, .ref (g 0)), (1, .int a1), (2, .int a2), (3, .ref qo)] := hlv
  refine lv_aload_n hx hb dL_skyline_0 rfl (lv_at hlv 3 rfl) ?_
  refine lv_iconst (v := 0) hx hb dL_skyline_1 (by decide) ?_
  refine lv_aload_n hx hb dL_skyline_2 rfl (lv_at hlv 0 rfl) ?_
  refine lv_iload_n hx hb dL_skyline_3 rfl (lv_at hlv 1 rfl) ?_
  refine lv_iload_n hx hb dL_skyline_4 rfl (lv_at hlv 2 rfl) ?_
  refine wr_T (n := 2) (t := [.inl a1, .inl a2]) (rest := [.int 0, .ref qo]) hx hb hml hown hts hK hN hst hqA hlv.1 (cT_X5_skyline hD hl _ S _ rfl hs rfl) rfl (good_Vh kl_L_18 ki_X5_skyline ks_X5_skyline kn_X5 kc_X5_skyline) rfl ⟨rfl, rfl⟩ (by decide +kernel) ⟨by decide, by decide⟩ ⟨by decide, by decide⟩ (Nat.le_of_ble_eq_true rfl) dL_skyline_5 hP htab (by decide) (by decide) (hts _ (List.mem_cons_of_mem _ kx_L_13)) (fun q H1 locs1 hP1 hS1 => ?_)
  refine lv_astore (lv' := [(4, .ref q), (0, .ref (g 0)), (1, .int a1), (2, .int a2), (3, .ref qo)]) hx hb dL_skyline_13 hlv (by decide) rfl (fun ls hlv => ?_)
  refine lv_iconst (v := 1) hx hb dL_skyline_15 (by decide) ?_
  exact W.iret (v := 1) hx hb hr (fun t ht hW => ⟨⟨rfl, by rw [ht]; exact hP1⟩, hS1.F ht⟩) hS1.2.2 dL_skyline_16
set_option maxHeartbeats 1000000 in
set_option maxRecDepth 20000 in
theorem cWR_row {l : Launch} {D : va_G} {g : Nat → Nat} {cI cZ cJ : ClassId} {qo : Nat} {A : Nat → Prop} (hD : ∀ S, va_D A (ww xT g cI cZ S)) (hqA : ¬ A qo) {S S1 : XS} {f : Nat → Int64} {r a1 a2 : Int32} (hs : m_X5_row [.inr 0, .inl a1, .inl a2] S = some (S1, some (some (.inl r)))) : Met l yL_row (Jvm.Cond.codeWith yL_row cL_row 5 (some .int) [(0, 10, 13, 13)] :: wA) { frames := 2, cells := 0, slots := 0, locals := 43 } (va_Pc [.ref (g 0), .int a1, .int a2, .ref qo] (wPre D g cI cZ cJ qo A S f)) (wQ D g cI cZ cJ qo A 0 S1 (vp_updL f (0 : Int32).toNatClampNeg r.toInt64)) 0 0 (fun q => A q ∨ q = qo) := by
  refine xw_ofWH (cc := cL_row) (maxL := 5) (ret := some .int) (hh := [(0, 10, 13, 13)]) (by decide) rfl ?_
  intro p e s m args below meth c s₁ B hml htab hv
  obtain ⟨rfl, hP, hK, hN, hst⟩ := hv
  have hx := B.exec
  have hb := B.bytes
  have hr := B.returns
  have hts := atoms_spec (ws := (Jvm.Cond.codeWith yL_row cL_row 5 (some .int) [(0, 10, 13, 13)] :: wA)) B.pre
  have hown : s.vm.findClass RL = some m.cls := findClass_of_methodNamed B.named
  have hlocks := B.notSynchronized
  have hlv := lv_entry ([.ref (g 0), .int a1, .int a2, .ref qo]) (n := 5) (Nat.le_of_ble_eq_true rfl)
  rw [lg_entry_eq]
  generalize (lg_sl ([.ref (g 0), .int a1, .int a2, .ref qo]) ++ List.replicate (5 - (lg_sl ([.ref (g 0), .int a1, .int a2, .ref qo])).length) Slot.unset).toArray = ls at hlv ⊢
  have hlv : lv_has ls 5 [(0, .ref (g 0)), (1, .int a1), (2, .int a2), (3, .ref qo)] := hlv
  refine lv_aload_n hx hb dL_row_0 rfl (lv_at hlv 3 rfl) ?_
  refine lv_iconst (v := 0) hx hb dL_row_1 (by decide) ?_
  refine lv_aload_n hx hb dL_row_2 rfl (lv_at hlv 0 rfl) ?_
  refine lv_iload_n hx hb dL_row_3 rfl (lv_at hlv 1 rfl) ?_
  refine lv_iload_n hx hb dL_row_4 rfl (lv_at hlv 2 rfl) ?_
  refine wr_R (n := 2) (t := [.inl a1, .inl a2]) (rest := [.int 0, .ref qo]) hx hb hml hown hts hK hN hst hqA hlv.1 (cR_X5_row hD _ S _ rfl hs (fun h => by cases h)) rfl (good_Vh kl_L_21 ki_X5_row ks_X5_row kn_X5 kc_X5_row) rfl ⟨rfl, rfl⟩ (by decide +kernel) ⟨by decide, by decide⟩ (Nat.le_of_ble_eq_true rfl) dL_row_5 hP (fun H locs hP hS => ?_)
  refine lv_i2l hx hb dL_row_8 rfl ?_
  refine va_last (D := D) hx hb hK hP (wo_D hD hqA _ _) hS 40 2 wo_at rfl (vp_in_iff.mpr (by decide)) dL_row_9 (fun H1 locs1 hP1 _ hS1 => ?_)
  refine lv_goto (tgt := 17) hx hb dL_row_10 (by decide) ?_
  refine lv_iconst (v := 0) hx hb dL_row_17 (by decide) ?_
  exact W.iret (v := 0) hx hb hr (fun t ht hW => ⟨⟨rfl, by rw [ht]; rw [wo_set] at hP1; exact hP1⟩, hS1.F ht⟩) hS1.2.2 dL_row_18
set_option maxHeartbeats 1000000 in
set_option maxRecDepth 20000 in
theorem cWT_row {l : Launch} {D : va_G} {g : Nat → Nat} {cI cZ cJ : ClassId} {qo : Nat} {A : Nat → Prop} (hD : ∀ S, va_D A (ww xT g cI cZ S)) (hqA : ¬ A qo) (hl : l.stackTraces = false) {S S1 : XS} {f : Nat → Int64} {a1 a2 : Int32} (hs : m_X5_row [.inr 0, .inl a1, .inl a2] S = some (S1, none)) : Met l yL_row (Jvm.Cond.codeWith yL_row cL_row 5 (some .int) [(0, 10, 13, 13)] :: wA) { frames := 8, cells := 1, slots := 6, locals := 142 } (va_Pc [.ref (g 0), .int a1, .int a2, .ref qo] (wPre D g cI cZ cJ qo A S f)) (wQ D g cI cZ cJ qo A 1 S1 f) 1 6 (fun q => A q ∨ q = qo) := by
  refine xw_ofWH (cc := cL_row) (maxL := 5) (ret := some .int) (hh := [(0, 10, 13, 13)]) (by decide) rfl ?_
  intro p e s m args below meth c s₁ B hml htab hv
  obtain ⟨rfl, hP, hK, hN, hst⟩ := hv
  have hx := B.exec
  have hb := B.bytes
  have hr := B.returns
  have hts := atoms_spec (ws := (Jvm.Cond.codeWith yL_row cL_row 5 (some .int) [(0, 10, 13, 13)] :: wA)) B.pre
  have hown : s.vm.findClass RL = some m.cls := findClass_of_methodNamed B.named
  have hlocks := B.notSynchronized
  have hlv := lv_entry ([.ref (g 0), .int a1, .int a2, .ref qo]) (n := 5) (Nat.le_of_ble_eq_true rfl)
  rw [lg_entry_eq]
  generalize (lg_sl ([.ref (g 0), .int a1, .int a2, .ref qo]) ++ List.replicate (5 - (lg_sl ([.ref (g 0), .int a1, .int a2, .ref qo])).length) Slot.unset).toArray = ls at hlv ⊢
  have hlv : lv_has ls 5 [(0, .ref (g 0)), (1, .int a1), (2, .int a2), (3, .ref qo)] := hlv
  refine lv_aload_n hx hb dL_row_0 rfl (lv_at hlv 3 rfl) ?_
  refine lv_iconst (v := 0) hx hb dL_row_1 (by decide) ?_
  refine lv_aload_n hx hb dL_row_2 rfl (lv_at hlv 0 rfl) ?_
  refine lv_iload_n hx hb dL_row_3 rfl (lv_at hlv 1 rfl) ?_
  refine lv_iload_n hx hb dL_row_4 rfl (lv_at hlv 2 rfl) ?_
  refine wr_T (n := 2) (t := [.inl a1, .inl a2]) (rest := [.int 0, .ref qo]) hx hb hml hown hts hK hN hst hqA hlv.1 (cT_X5_row hD hl _ S _ rfl hs rfl) rfl (good_Vh kl_L_21 ki_X5_row ks_X5_row kn_X5 kc_X5_row) rfl ⟨rfl, rfl⟩ (by decide +kernel) ⟨by decide, by decide⟩ ⟨by decide, by decide⟩ (Nat.le_of_ble_eq_true rfl) dL_row_5 hP htab (by decide) (by decide) (hts _ (List.mem_cons_of_mem _ kx_L_13)) (fun q H1 locs1 hP1 hS1 => ?_)
  refine lv_astore (lv' := [(4, .ref q), (0, .ref (g 0)), (1, .int a1), (2, .int a2), (3, .ref qo)]) hx hb dL_row_13 hlv (by decide) rfl (fun ls hlv => ?_)
  refine lv_iconst (v := 1) hx hb dL_row_15 (by decide) ?_
  exact W.iret (v := 1) hx hb hr (fun t ht hW => ⟨⟨rfl, by rw [ht]; exact hP1⟩, hS1.F ht⟩) hS1.2.2 dL_row_16
set_option maxHeartbeats 1000000 in
set_option maxRecDepth 20000 in
theorem cWR_order {l : Launch} {D : va_G} {g : Nat → Nat} {cI cZ cJ : ClassId} {qo : Nat} {A : Nat → Prop} (hD : ∀ S, va_D A (ww xT g cI cZ S)) (hqA : ¬ A qo) {S S1 : XS} {f : Nat → Int64} {r a1 a2 a3 : Int32} (hs : m_X5_order [.inr 0, .inl a1, .inl a2, .inl a3] S = some (S1, some (some (.inl r)))) : Met l yL_order (Jvm.Cond.codeWith yL_order cL_order 6 (some .int) [(0, 12, 15, 13)] :: wA) { frames := 3, cells := 0, slots := 0, locals := 71 } (va_Pc [.ref (g 0), .int a1, .int a2, .int a3, .ref qo] (wPre D g cI cZ cJ qo A S f)) (wQ D g cI cZ cJ qo A 0 S1 (vp_updL f (0 : Int32).toNatClampNeg r.toInt64)) 0 0 (fun q => A q ∨ q = qo) := by
  refine xw_ofWH (cc := cL_order) (maxL := 6) (ret := some .int) (hh := [(0, 12, 15, 13)]) (by decide) rfl ?_
  intro p e s m args below meth c s₁ B hml htab hv
  obtain ⟨rfl, hP, hK, hN, hst⟩ := hv
  have hx := B.exec
  have hb := B.bytes
  have hr := B.returns
  have hts := atoms_spec (ws := (Jvm.Cond.codeWith yL_order cL_order 6 (some .int) [(0, 12, 15, 13)] :: wA)) B.pre
  have hown : s.vm.findClass RL = some m.cls := findClass_of_methodNamed B.named
  have hlocks := B.notSynchronized
  have hlv := lv_entry ([.ref (g 0), .int a1, .int a2, .int a3, .ref qo]) (n := 6) (Nat.le_of_ble_eq_true rfl)
  rw [lg_entry_eq]
  generalize (lg_sl ([.ref (g 0), .int a1, .int a2, .int a3, .ref qo]) ++ List.replicate (6 - (lg_sl ([.ref (g 0), .int a1, .int a2, .int a3, .ref qo])).length) Slot.unset).toArray = ls at hlv ⊢
  have hlv : lv_has ls 6 [(0, .ref (g 0)), (1, .int a1), (2, .int a2), (3, .int a3), (4, .ref qo)] := hlv
  refine lv_aload hx hb dL_order_0 (lv_at hlv 4 rfl) ?_
  refine lv_iconst (v := 0) hx hb dL_order_2 (by decide) ?_
  refine lv_aload_n hx hb dL_order_3 rfl (lv_at hlv 0 rfl) ?_
  refine lv_iload_n hx hb dL_order_4 rfl (lv_at hlv 1 rfl) ?_
  refine lv_iload_n hx hb dL_order_5 rfl (lv_at hlv 2 rfl) ?_
  refine lv_iload_n hx hb dL_order_6 rfl (lv_at hlv 3 rfl) ?_
  refine wr_R (n := 3) (t := [.inl a1, .inl a2, .inl a3]) (rest := [.int 0, .ref qo]) hx hb hml hown hts hK hN hst hqA hlv.1 (cR_X5_order hD _ S _ rfl hs (fun h => by cases h)) rfl (good_Vh kl_L_24 ki_X5_order ks_X5_order kn_X5 kc_X5_order) rfl ⟨rfl, rfl⟩ (by decide +kernel) ⟨by decide, by decide⟩ (Nat.le_of_ble_eq_true rfl) dL_order_7 hP (fun H locs hP hS => ?_)
  refine lv_i2l hx hb dL_order_10 rfl ?_
  refine va_last (D := D) hx hb hK hP (wo_D hD hqA _ _) hS 40 2 wo_at rfl (vp_in_iff.mpr (by decide)) dL_order_11 (fun H1 locs1 hP1 _ hS1 => ?_)
  refine lv_goto (tgt := 19) hx hb dL_order_12 (by decide) ?_
  refine lv_iconst (v := 0) hx hb dL_order_19 (by decide) ?_
  exact W.iret (v := 0) hx hb hr (fun t ht hW => ⟨⟨rfl, by rw [ht]; rw [wo_set] at hP1; exact hP1⟩, hS1.F ht⟩) hS1.2.2 dL_order_20
set_option maxHeartbeats 1000000 in
set_option maxRecDepth 20000 in
theorem cWT_order {l : Launch} {D : va_G} {g : Nat → Nat} {cI cZ cJ : ClassId} {qo : Nat} {A : Nat → Prop} (hD : ∀ S, va_D A (ww xT g cI cZ S)) (hqA : ¬ A qo) (hl : l.stackTraces = false) {S S1 : XS} {f : Nat → Int64} {a1 a2 a3 : Int32} (hs : m_X5_order [.inr 0, .inl a1, .inl a2, .inl a3] S = some (S1, none)) : Met l yL_order (Jvm.Cond.codeWith yL_order cL_order 6 (some .int) [(0, 12, 15, 13)] :: wA) { frames := 8, cells := 1, slots := 6, locals := 144 } (va_Pc [.ref (g 0), .int a1, .int a2, .int a3, .ref qo] (wPre D g cI cZ cJ qo A S f)) (wQ D g cI cZ cJ qo A 1 S1 f) 1 6 (fun q => A q ∨ q = qo) := by
  refine xw_ofWH (cc := cL_order) (maxL := 6) (ret := some .int) (hh := [(0, 12, 15, 13)]) (by decide) rfl ?_
  intro p e s m args below meth c s₁ B hml htab hv
  obtain ⟨rfl, hP, hK, hN, hst⟩ := hv
  have hx := B.exec
  have hb := B.bytes
  have hr := B.returns
  have hts := atoms_spec (ws := (Jvm.Cond.codeWith yL_order cL_order 6 (some .int) [(0, 12, 15, 13)] :: wA)) B.pre
  have hown : s.vm.findClass RL = some m.cls := findClass_of_methodNamed B.named
  have hlocks := B.notSynchronized
  have hlv := lv_entry ([.ref (g 0), .int a1, .int a2, .int a3, .ref qo]) (n := 6) (Nat.le_of_ble_eq_true rfl)
  rw [lg_entry_eq]
  generalize (lg_sl ([.ref (g 0), .int a1, .int a2, .int a3, .ref qo]) ++ List.replicate (6 - (lg_sl ([.ref (g 0), .int a1, .int a2, .int a3, .ref qo])).length) Slot.unset).toArray = ls at hlv ⊢
  have hlv : lv_has ls 6 [(0, .ref (g 0)), (1, .int a1), (2, .int a2), (3, .int a3), (4, .ref qo)] := hlv
  refine lv_aload hx hb dL_order_0 (lv_at hlv 4 rfl) ?_
  refine lv_iconst (v := 0) hx hb dL_order_2 (by decide) ?_
  refine lv_aload_n hx hb dL_order_3 rfl (lv_at hlv 0 rfl) ?_
  refine lv_iload_n hx hb dL_order_4 rfl (lv_at hlv 1 rfl) ?_
  refine lv_iload_n hx hb dL_order_5 rfl (lv_at hlv 2 rfl) ?_
  refine lv_iload_n hx hb dL_order_6 rfl (lv_at hlv 3 rfl) ?_
  refine wr_T (n := 3) (t := [.inl a1, .inl a2, .inl a3]) (rest := [.int 0, .ref qo]) hx hb hml hown hts hK hN hst hqA hlv.1 (cT_X5_order hD hl _ S _ rfl hs rfl) rfl (good_Vh kl_L_24 ki_X5_order ks_X5_order kn_X5 kc_X5_order) rfl ⟨rfl, rfl⟩ (by decide +kernel) ⟨by decide, by decide⟩ ⟨by decide, by decide⟩ (Nat.le_of_ble_eq_true rfl) dL_order_7 hP htab (by decide) (by decide) (hts _ (List.mem_cons_of_mem _ kx_L_13)) (fun q H1 locs1 hP1 hS1 => ?_)
  refine lv_astore (lv' := [(5, .ref q), (0, .ref (g 0)), (1, .int a1), (2, .int a2), (3, .int a3), (4, .ref qo)]) hx hb dL_order_15 hlv (by decide) rfl (fun ls hlv => ?_)
  refine lv_iconst (v := 1) hx hb dL_order_17 (by decide) ?_
  exact W.iret (v := 1) hx hb hr (fun t ht hW => ⟨⟨rfl, by rw [ht]; exact hP1⟩, hS1.F ht⟩) hS1.2.2 dL_order_18
set_option maxHeartbeats 1000000 in
set_option maxRecDepth 20000 in
theorem cWR_meets {l : Launch} {D : va_G} {g : Nat → Nat} {cI cZ cJ : ClassId} {qo : Nat} {A : Nat → Prop} (hD : ∀ S, va_D A (ww xT g cI cZ S)) (hqA : ¬ A qo) {S S1 : XS} {f : Nat → Int64} {r a1 a2 : Int32} (hs : m_X5_meets [.inr 0, .inl a1, .inl a2] S = some (S1, some (some (.inl r)))) : Met l yL_meets (Jvm.Cond.codeWith yL_meets cL_meets 5 (some .int) [(0, 10, 13, 13)] :: wA) { frames := 3, cells := 0, slots := 0, locals := 66 } (va_Pc [.ref (g 0), .int a1, .int a2, .ref qo] (wPre D g cI cZ cJ qo A S f)) (wQ D g cI cZ cJ qo A 0 S1 (vp_updL f (0 : Int32).toNatClampNeg r.toInt64)) 0 0 (fun q => A q ∨ q = qo) := by
  refine xw_ofWH (cc := cL_meets) (maxL := 5) (ret := some .int) (hh := [(0, 10, 13, 13)]) (by decide) rfl ?_
  intro p e s m args below meth c s₁ B hml htab hv
  obtain ⟨rfl, hP, hK, hN, hst⟩ := hv
  have hx := B.exec
  have hb := B.bytes
  have hr := B.returns
  have hts := atoms_spec (ws := (Jvm.Cond.codeWith yL_meets cL_meets 5 (some .int) [(0, 10, 13, 13)] :: wA)) B.pre
  have hown : s.vm.findClass RL = some m.cls := findClass_of_methodNamed B.named
  have hlocks := B.notSynchronized
  have hlv := lv_entry ([.ref (g 0), .int a1, .int a2, .ref qo]) (n := 5) (Nat.le_of_ble_eq_true rfl)
  rw [lg_entry_eq]
  generalize (lg_sl ([.ref (g 0), .int a1, .int a2, .ref qo]) ++ List.replicate (5 - (lg_sl ([.ref (g 0), .int a1, .int a2, .ref qo])).length) Slot.unset).toArray = ls at hlv ⊢
  have hlv : lv_has ls 5 [(0, .ref (g 0)), (1, .int a1), (2, .int a2), (3, .ref qo)] := hlv
  refine lv_aload_n hx hb dL_meets_0 rfl (lv_at hlv 3 rfl) ?_
  refine lv_iconst (v := 0) hx hb dL_meets_1 (by decide) ?_
  refine lv_aload_n hx hb dL_meets_2 rfl (lv_at hlv 0 rfl) ?_
  refine lv_iload_n hx hb dL_meets_3 rfl (lv_at hlv 1 rfl) ?_
  refine lv_iload_n hx hb dL_meets_4 rfl (lv_at hlv 2 rfl) ?_
  refine wr_R (n := 2) (t := [.inl a1, .inl a2]) (rest := [.int 0, .ref qo]) hx hb hml hown hts hK hN hst hqA hlv.1 (cR_X5_meets hD _ S _ rfl hs (fun h => by cases h)) rfl (good_Vh kl_L_28 ki_X5_meets ks_X5_meets kn_X5 kc_X5_meets) rfl ⟨rfl, rfl⟩ (by decide +kernel) ⟨by decide, by decide⟩ (Nat.le_of_ble_eq_true rfl) dL_meets_5 hP (fun H locs hP hS => ?_)
  refine lv_i2l hx hb dL_meets_8 rfl ?_
  refine va_last (D := D) hx hb hK hP (wo_D hD hqA _ _) hS 40 2 wo_at rfl (vp_in_iff.mpr (by decide)) dL_meets_9 (fun H1 locs1 hP1 _ hS1 => ?_)
  refine lv_goto (tgt := 17) hx hb dL_meets_10 (by decide) ?_
  refine lv_iconst (v := 0) hx hb dL_meets_17 (by decide) ?_
  exact W.iret (v := 0) hx hb hr (fun t ht hW => ⟨⟨rfl, by rw [ht]; rw [wo_set] at hP1; exact hP1⟩, hS1.F ht⟩) hS1.2.2 dL_meets_18
set_option maxHeartbeats 1000000 in
set_option maxRecDepth 20000 in
theorem cWT_meets {l : Launch} {D : va_G} {g : Nat → Nat} {cI cZ cJ : ClassId} {qo : Nat} {A : Nat → Prop} (hD : ∀ S, va_D A (ww xT g cI cZ S)) (hqA : ¬ A qo) (hl : l.stackTraces = false) {S S1 : XS} {f : Nat → Int64} {a1 a2 : Int32} (hs : m_X5_meets [.inr 0, .inl a1, .inl a2] S = some (S1, none)) : Met l yL_meets (Jvm.Cond.codeWith yL_meets cL_meets 5 (some .int) [(0, 10, 13, 13)] :: wA) { frames := 8, cells := 1, slots := 6, locals := 143 } (va_Pc [.ref (g 0), .int a1, .int a2, .ref qo] (wPre D g cI cZ cJ qo A S f)) (wQ D g cI cZ cJ qo A 1 S1 f) 1 6 (fun q => A q ∨ q = qo) := by
  refine xw_ofWH (cc := cL_meets) (maxL := 5) (ret := some .int) (hh := [(0, 10, 13, 13)]) (by decide) rfl ?_
  intro p e s m args below meth c s₁ B hml htab hv
  obtain ⟨rfl, hP, hK, hN, hst⟩ := hv
  have hx := B.exec
  have hb := B.bytes
  have hr := B.returns
  have hts := atoms_spec (ws := (Jvm.Cond.codeWith yL_meets cL_meets 5 (some .int) [(0, 10, 13, 13)] :: wA)) B.pre
  have hown : s.vm.findClass RL = some m.cls := findClass_of_methodNamed B.named
  have hlocks := B.notSynchronized
  have hlv := lv_entry ([.ref (g 0), .int a1, .int a2, .ref qo]) (n := 5) (Nat.le_of_ble_eq_true rfl)
  rw [lg_entry_eq]
  generalize (lg_sl ([.ref (g 0), .int a1, .int a2, .ref qo]) ++ List.replicate (5 - (lg_sl ([.ref (g 0), .int a1, .int a2, .ref qo])).length) Slot.unset).toArray = ls at hlv ⊢
  have hlv : lv_has ls 5 [(0, .ref (g 0)), (1, .int a1), (2, .int a2), (3, .ref qo)] := hlv
  refine lv_aload_n hx hb dL_meets_0 rfl (lv_at hlv 3 rfl) ?_
  refine lv_iconst (v := 0) hx hb dL_meets_1 (by decide) ?_
  refine lv_aload_n hx hb dL_meets_2 rfl (lv_at hlv 0 rfl) ?_
  refine lv_iload_n hx hb dL_meets_3 rfl (lv_at hlv 1 rfl) ?_
  refine lv_iload_n hx hb dL_meets_4 rfl (lv_at hlv 2 rfl) ?_
  refine wr_T (n := 2) (t := [.inl a1, .inl a2]) (rest := [.int 0, .ref qo]) hx hb hml hown hts hK hN hst hqA hlv.1 (cT_X5_meets hD hl _ S _ rfl hs rfl) rfl (good_Vh kl_L_28 ki_X5_meets ks_X5_meets kn_X5 kc_X5_meets) rfl ⟨rfl, rfl⟩ (by decide +kernel) ⟨by decide, by decide⟩ ⟨by decide, by decide⟩ (Nat.le_of_ble_eq_true rfl) dL_meets_5 hP htab (by decide) (by decide) (hts _ (List.mem_cons_of_mem _ kx_L_13)) (fun q H1 locs1 hP1 hS1 => ?_)
  refine lv_astore (lv' := [(4, .ref q), (0, .ref (g 0)), (1, .int a1), (2, .int a2), (3, .ref qo)]) hx hb dL_meets_13 hlv (by decide) rfl (fun ls hlv => ?_)
  refine lv_iconst (v := 1) hx hb dL_meets_15 (by decide) ?_
  exact W.iret (v := 1) hx hb hr (fun t ht hW => ⟨⟨rfl, by rw [ht]; exact hP1⟩, hS1.F ht⟩) hS1.2.2 dL_meets_16
set_option maxHeartbeats 1000000 in
set_option maxRecDepth 20000 in
theorem cWR_count {l : Launch} {D : va_G} {g : Nat → Nat} {cI cZ cJ : ClassId} {qo : Nat} {A : Nat → Prop} (hD : ∀ S, va_D A (ww xT g cI cZ S)) (hqA : ¬ A qo) {S S1 : XS} {f : Nat → Int64} {r a1 : Int32} (hs : m_X5_count [.inr 0, .inl a1] S = some (S1, some (some (.inl r)))) : Met l yL_count (Jvm.Cond.codeWith yL_count cL_count 4 (some .int) [(0, 9, 12, 13)] :: wA) { frames := 3, cells := 0, slots := 0, locals := 63 } (va_Pc [.ref (g 0), .int a1, .ref qo] (wPre D g cI cZ cJ qo A S f)) (wQ D g cI cZ cJ qo A 0 S1 (vp_updL f (0 : Int32).toNatClampNeg r.toInt64)) 0 0 (fun q => A q ∨ q = qo) := by
  refine xw_ofWH (cc := cL_count) (maxL := 4) (ret := some .int) (hh := [(0, 9, 12, 13)]) (by decide) rfl ?_
  intro p e s m args below meth c s₁ B hml htab hv
  obtain ⟨rfl, hP, hK, hN, hst⟩ := hv
  have hx := B.exec
  have hb := B.bytes
  have hr := B.returns
  have hts := atoms_spec (ws := (Jvm.Cond.codeWith yL_count cL_count 4 (some .int) [(0, 9, 12, 13)] :: wA)) B.pre
  have hown : s.vm.findClass RL = some m.cls := findClass_of_methodNamed B.named
  have hlocks := B.notSynchronized
  have hlv := lv_entry ([.ref (g 0), .int a1, .ref qo]) (n := 4) (Nat.le_of_ble_eq_true rfl)
  rw [lg_entry_eq]
  generalize (lg_sl ([.ref (g 0), .int a1, .ref qo]) ++ List.replicate (4 - (lg_sl ([.ref (g 0), .int a1, .ref qo])).length) Slot.unset).toArray = ls at hlv ⊢
  have hlv : lv_has ls 4 [(0, .ref (g 0)), (1, .int a1), (2, .ref qo)] := hlv
  refine lv_aload_n hx hb dL_count_0 rfl (lv_at hlv 2 rfl) ?_
  refine lv_iconst (v := 0) hx hb dL_count_1 (by decide) ?_
  refine lv_aload_n hx hb dL_count_2 rfl (lv_at hlv 0 rfl) ?_
  refine lv_iload_n hx hb dL_count_3 rfl (lv_at hlv 1 rfl) ?_
  refine wr_R (n := 1) (t := [.inl a1]) (rest := [.int 0, .ref qo]) hx hb hml hown hts hK hN hst hqA hlv.1 (cR_X5_count hD _ S _ rfl hs (fun h => by cases h)) rfl (good_Vh kl_L_31 ki_X5_count ks_X5_count kn_X5 kc_X5_count) rfl ⟨rfl, rfl⟩ (by decide +kernel) ⟨by decide, by decide⟩ (Nat.le_of_ble_eq_true rfl) dL_count_4 hP (fun H locs hP hS => ?_)
  refine lv_i2l hx hb dL_count_7 rfl ?_
  refine va_last (D := D) hx hb hK hP (wo_D hD hqA _ _) hS 40 2 wo_at rfl (vp_in_iff.mpr (by decide)) dL_count_8 (fun H1 locs1 hP1 _ hS1 => ?_)
  refine lv_goto (tgt := 15) hx hb dL_count_9 (by decide) ?_
  refine lv_iconst (v := 0) hx hb dL_count_15 (by decide) ?_
  exact W.iret (v := 0) hx hb hr (fun t ht hW => ⟨⟨rfl, by rw [ht]; rw [wo_set] at hP1; exact hP1⟩, hS1.F ht⟩) hS1.2.2 dL_count_16
set_option maxHeartbeats 1000000 in
set_option maxRecDepth 20000 in
theorem cWT_count {l : Launch} {D : va_G} {g : Nat → Nat} {cI cZ cJ : ClassId} {qo : Nat} {A : Nat → Prop} (hD : ∀ S, va_D A (ww xT g cI cZ S)) (hqA : ¬ A qo) (hl : l.stackTraces = false) {S S1 : XS} {f : Nat → Int64} {a1 : Int32} (hs : m_X5_count [.inr 0, .inl a1] S = some (S1, none)) : Met l yL_count (Jvm.Cond.codeWith yL_count cL_count 4 (some .int) [(0, 9, 12, 13)] :: wA) { frames := 9, cells := 1, slots := 6, locals := 162 } (va_Pc [.ref (g 0), .int a1, .ref qo] (wPre D g cI cZ cJ qo A S f)) (wQ D g cI cZ cJ qo A 1 S1 f) 1 6 (fun q => A q ∨ q = qo) := by
  refine xw_ofWH (cc := cL_count) (maxL := 4) (ret := some .int) (hh := [(0, 9, 12, 13)]) (by decide) rfl ?_
  intro p e s m args below meth c s₁ B hml htab hv
  obtain ⟨rfl, hP, hK, hN, hst⟩ := hv
  have hx := B.exec
  have hb := B.bytes
  have hr := B.returns
  have hts := atoms_spec (ws := (Jvm.Cond.codeWith yL_count cL_count 4 (some .int) [(0, 9, 12, 13)] :: wA)) B.pre
  have hown : s.vm.findClass RL = some m.cls := findClass_of_methodNamed B.named
  have hlocks := B.notSynchronized
  have hlv := lv_entry ([.ref (g 0), .int a1, .ref qo]) (n := 4) (Nat.le_of_ble_eq_true rfl)
  rw [lg_entry_eq]
  generalize (lg_sl ([.ref (g 0), .int a1, .ref qo]) ++ List.replicate (4 - (lg_sl ([.ref (g 0), .int a1, .ref qo])).length) Slot.unset).toArray = ls at hlv ⊢
  have hlv : lv_has ls 4 [(0, .ref (g 0)), (1, .int a1), (2, .ref qo)] := hlv
  refine lv_aload_n hx hb dL_count_0 rfl (lv_at hlv 2 rfl) ?_
  refine lv_iconst (v := 0) hx hb dL_count_1 (by decide) ?_
  refine lv_aload_n hx hb dL_count_2 rfl (lv_at hlv 0 rfl) ?_
  refine lv_iload_n hx hb dL_count_3 rfl (lv_at hlv 1 rfl) ?_
  refine wr_T (n := 1) (t := [.inl a1]) (rest := [.int 0, .ref qo]) hx hb hml hown hts hK hN hst hqA hlv.1 (cT_X5_count hD hl _ S _ rfl hs rfl) rfl (good_Vh kl_L_31 ki_X5_count ks_X5_count kn_X5 kc_X5_count) rfl ⟨rfl, rfl⟩ (by decide +kernel) ⟨by decide, by decide⟩ ⟨by decide, by decide⟩ (Nat.le_of_ble_eq_true rfl) dL_count_4 hP htab (by decide) (by decide) (hts _ (List.mem_cons_of_mem _ kx_L_13)) (fun q H1 locs1 hP1 hS1 => ?_)
  refine lv_astore_n (lv' := [(3, .ref q), (0, .ref (g 0)), (1, .int a1), (2, .ref qo)]) hx hb dL_count_12 rfl hlv (by decide) rfl (fun ls hlv => ?_)
  refine lv_iconst (v := 1) hx hb dL_count_13 (by decide) ?_
  exact W.iret (v := 1) hx hb hr (fun t ht hW => ⟨⟨rfl, by rw [ht]; exact hP1⟩, hS1.F ht⟩) hS1.2.2 dL_count_14
