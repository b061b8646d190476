abbrev iPre (D : va_G) (cI cZ : ClassId) (gs : Nat → Nat) (A : Nat → Prop) (ws : va_W) (sz : Nat) (U : State) : Prop := U.heap.size = sz ∧ va_P D vwCl ws U.heap ∧ va_K D vwCl [(cI, .int), (cZ, .boolean)] U ∧ xNw U ∧ xSt gs A U U.heap ∧ va_D (fun _ => True) ws
abbrev iQ (D : va_G) (A : Nat → Prop) (W1 : (Nat → Nat) → va_W) : Array Value → State → Outcome → State → Prop := va_Qv (fun _ : Nat → Nat => True) (fun a t => va_P D vwCl (W1 a) t.heap ∧ va_D A (W1 a)) A
theorem ww_D {A : Nat → Prop} {T : List WE} {g : Nat → Nat} {cI cZ : ClassId} {S0 : XS} (h : va_D A (ww T g cI cZ S0)) : ∀ S, va_D A (ww T g cI cZ S) := by
  have key : ∀ (S : XS) (k : Nat) (q : Nat × va_E), (ww T g cI cZ S)[k]? = some q → ∃ q0, (ww T g cI cZ S0)[k]? = some q0 ∧ q0.1 = q.1 := by
    intro S k q hq
    unfold ww at hq ⊢
    rw [List.getElem?_mapIdx] at hq ⊢
    cases e : T[k]? with
    | none => rw [e] at hq; cases hq
    | some x =>
      rw [e] at hq
      cases Option.some.inj hq
      exact ⟨_, rfl, rfl⟩
  intro S
  refine ⟨fun i j p q hp hq e => ?_, fun k q hq => ?_⟩
  · obtain ⟨p0, hp0, ep⟩ := key S i p hp
    obtain ⟨q0, hq0, eq⟩ := key S j q hq
    exact h.1 i j p0 q0 hp0 hq0 (by rw [ep, eq, e])
  · obtain ⟨q0, hq0, eq⟩ := key S k q hq
    rw [← eq]
    exact h.2 k q0 hq0
theorem xSt.narrow {gs : Nat → Nat} {A B : Nat → Prop} {s : State} {H : Heap} (h : xSt gs A s H) (hAB : ∀ q, B q → A q) : xSt gs B s H := ⟨fun o ho => ⟨(h.1 o ho).1.narrow hAB, (h.1 o ho).2.narrow hAB⟩, ⟨h.2.1.1.narrow hAB, h.2.1.2.narrow hAB⟩, h.2.2⟩
theorem xSt.re {gs gt : Nat → Nat} {A : Nat → Prop} {s : State} {H : Heap} (h : xSt gs A s H) (e0 : gt 40 = gs 40) (e1 : gt 41 = gs 41) (e2 : gt 42 = gs 42) : xSt gt A s H := by
  refine ⟨fun o ho => ?_, h.2.1, by rw [e2]; exact h.2.2⟩
  rcases ho with rfl | rfl
  · rw [e0]; exact h.1 40 (Or.inl rfl)
  · rw [e1]; exact h.1 41 (Or.inr rfl)
theorem dX0_init_0 : decode cX0_init 0 = .ok (.aload_n 0, 1) := by decide +kernel
theorem dX0_init_1 : decode cX0_init 1 = .ok (.invokespecial 3, 3) := by decide +kernel
theorem dX0_init_4 : decode cX0_init 4 = .ok (.aload_n 0, 1) := by decide +kernel
theorem dX0_init_5 : decode cX0_init 5 = .ok (.bipush 40, 2) := by decide +kernel
theorem dX0_init_7 : decode cX0_init 7 = .ok (.newarray .int, 2) := by decide +kernel
theorem dX0_init_9 : decode cX0_init 9 = .ok (.putfield 9, 3) := by decide +kernel
theorem dX0_init_12 : decode cX0_init 12 = .ok (.aload_n 0, 1) := by decide +kernel
theorem dX0_init_13 : decode cX0_init 13 = .ok (.bipush 40, 2) := by decide +kernel
theorem dX0_init_15 : decode cX0_init 15 = .ok (.newarray .int, 2) := by decide +kernel
theorem dX0_init_17 : decode cX0_init 17 = .ok (.putfield 15, 3) := by decide +kernel
theorem dX0_init_20 : decode cX0_init 20 = .ok (.aload_n 0, 1) := by decide +kernel
theorem dX0_init_21 : decode cX0_init 21 = .ok (.bipush 40, 2) := by decide +kernel
theorem dX0_init_23 : decode cX0_init 23 = .ok (.newarray .int, 2) := by decide +kernel
theorem dX0_init_25 : decode cX0_init 25 = .ok (.putfield 18, 3) := by decide +kernel
theorem dX0_init_28 : decode cX0_init 28 = .ok (.aload_n 0, 1) := by decide +kernel
theorem dX0_init_29 : decode cX0_init 29 = .ok (.bipush 40, 2) := by decide +kernel
theorem dX0_init_31 : decode cX0_init 31 = .ok (.newarray .int, 2) := by decide +kernel
theorem dX0_init_33 : decode cX0_init 33 = .ok (.putfield 21, 3) := by decide +kernel
theorem dX0_init_36 : decode cX0_init 36 = .ok (.aload_n 0, 1) := by decide +kernel
theorem dX0_init_37 : decode cX0_init 37 = .ok (.bipush 40, 2) := by decide +kernel
theorem dX0_init_39 : decode cX0_init 39 = .ok (.newarray .int, 2) := by decide +kernel
theorem dX0_init_41 : decode cX0_init 41 = .ok (.putfield 24, 3) := by decide +kernel
theorem dX0_init_44 : decode cX0_init 44 = .ok (.aload_n 0, 1) := by decide +kernel
theorem dX0_init_45 : decode cX0_init 45 = .ok (.bipush 40, 2) := by decide +kernel
theorem dX0_init_47 : decode cX0_init 47 = .ok (.newarray .int, 2) := by decide +kernel
theorem dX0_init_49 : decode cX0_init 49 = .ok (.putfield 27, 3) := by decide +kernel
theorem dX0_init_52 : decode cX0_init 52 = .ok (.return_, 1) := by decide +kernel
abbrev w0_X0 (h : Nat) : va_W := [(h, .inr (0, [.null, .null, .null, .null, .null, .null, .int 0]))]
abbrev w1_X0 (cI cZ : ClassId) (h : Nat) (a : Nat → Nat) : va_W := [(h, .inr (0, [.ref (a 0), .ref (a 1), .ref (a 2), .ref (a 3), .ref (a 4), .ref (a 5), .int 0])), (a 0, .inl (cI, 40, .inl (fun _ => 0))), (a 1, .inl (cI, 40, .inl (fun _ => 0))), (a 2, .inl (cI, 40, .inl (fun _ => 0))), (a 3, .inl (cI, 40, .inl (fun _ => 0))), (a 4, .inl (cI, 40, .inl (fun _ => 0))), (a 5, .inl (cI, 40, .inl (fun _ => 0)))]
set_option maxHeartbeats 4000000 in
set_option maxRecDepth 100000 in
theorem c_X0_init (l : Launch) (D : va_G) (cI cZ : ClassId) (gs : Nat → Nat) (h0 sz : Nat) : Met l yX0_init (wm yX0_init cX0_init 1 2) { frames := 1, cells := 6, slots := 240, locals := 12 } (va_Pc [.ref h0] (iPre D cI cZ gs (va_A (w0_X0 h0) sz) (w0_X0 h0) sz)) (iQ D (va_A (w0_X0 h0) sz) (w1_X0 cI cZ h0)) 6 240 (va_A (w0_X0 h0) sz) := by
  refine Met.ofW (cc := cX0_init) (maxL := 1) (ret := rety 2) (by decide) rfl ?_
  intro p e s m args below meth c s₁ B hml hv
  obtain ⟨rfl, hsz, hP, hK, hN, hst, hD0⟩ := hv
  have hx := B.exec
  have hb := B.bytes
  have hr := B.returns
  have hts := atoms_spec (ws := wm yX0_init cX0_init 1 2) B.pre
  have hts2 : ∀ w ∈ wA, w.before _ s = true := fun w hw => hts w (List.mem_cons_of_mem _ hw)
  have hown : s.vm.findClass RX0 = some m.cls := findClass_of_methodNamed B.named
  have hlocks := B.notSynchronized
  have hin : meth.name = "<init>" := (name_of_methodNamed B.named B.method).1
  subst hsz
  have hD := hD0.self (sz := s.heap.size)
  generalize hAe : va_A (w0_X0 h0) s.heap.size = A at hD hst ⊢
  have hA : ∀ q : Nat, s.heap.size ≤ q → A q := fun q h => by rw [← hAe]; exact Or.inr h
  have hS : va_S A s.heap s.heap [] := va_S.rf
  have hl := lv_entry ([.ref h0]) (n := 1) (Nat.le_of_ble_eq_true rfl)
  rw [lg_entry_eq]
  generalize (lg_sl ([.ref h0]) ++ List.replicate (1 - (lg_sl ([.ref h0])).length) Slot.unset).toArray = ls at hl ⊢
  have hl : lv_has ls 1 [(0, .ref h0)] := hl
  refine lv_aload_n hx hb dX0_init_0 rfl (lv_at hl 0 rfl) ?_
  refine W.objInit hx hb hown (hts2 _ ko_X0) (hts2 _ ko_i) (hts2 _ ko_c) rfl (by rw [hml]; exact hl.1) rfl dX0_init_1 (Nat.le_of_ble_eq_true rfl) (Nat.le_of_ble_eq_true rfl) ?_
  refine W.eq (g2 := F0 m 4 ls []) rfl ?_
  refine xn_group false (cA := cI) (v := 40) (n := 40) (pc1 := 7) hx hb hown hin hK hA rfl (fun w hw => hts2 w (iw_X0 w hw)) (hts2 _ ka_int) (hK.2 0 _ rfl).2 (lv_at hl 0 rfl) hP hD hS 0 (by decide) (Nat.le_of_ble_eq_true rfl) rfl rfl (by decide +kernel) (hts2 _ kf_X0_9) dX0_init_4 (fun st k => lv_bipush hx hb dX0_init_5 (by decide) k) dX0_init_7 dX0_init_9 (by decide) (by decide) (by decide) (Nat.le_of_ble_eq_true rfl) (Nat.le_of_ble_eq_true rfl) (fun q0 H0 locs0 hP0 hD0 hS0 => ?_)
  clear hP hD hS
  have hP : va_P D vwCl [(h0, .inr (0, [.ref q0, .null, .null, .null, .null, .null, .int 0])), (q0, .inl (cI, 40, .inl (fun _ => 0)))] H0 := hP0
  have hD : va_D A [(h0, .inr (0, [.ref q0, .null, .null, .null, .null, .null, .int 0])), (q0, .inl (cI, 40, .inl (fun _ => 0)))] := hD0
  have hS : va_S A s.heap H0 locs0 := hS0
  clear hP0 hD0 hS0
  refine xn_group false (cA := cI) (v := 40) (n := 40) (pc1 := 15) hx hb hown hin hK hA rfl (fun w hw => hts2 w (iw_X0 w hw)) (hts2 _ ka_int) (hK.2 0 _ rfl).2 (lv_at hl 0 rfl) hP hD hS 1 (by decide) (Nat.le_of_ble_eq_true rfl) rfl rfl (by decide +kernel) (hts2 _ kf_X0_15) dX0_init_12 (fun st k => lv_bipush hx hb dX0_init_13 (by decide) k) dX0_init_15 dX0_init_17 (by decide) (by decide) (by decide) (Nat.le_of_ble_eq_true rfl) (Nat.le_of_ble_eq_true rfl) (fun q1 H1 locs1 hP1 hD1 hS1 => ?_)
  clear hP hD hS
  have hP : va_P D vwCl [(h0, .inr (0, [.ref q0, .ref q1, .null, .null, .null, .null, .int 0])), (q0, .inl (cI, 40, .inl (fun _ => 0))), (q1, .inl (cI, 40, .inl (fun _ => 0)))] H1 := hP1
  have hD : va_D A [(h0, .inr (0, [.ref q0, .ref q1, .null, .null, .null, .null, .int 0])), (q0, .inl (cI, 40, .inl (fun _ => 0))), (q1, .inl (cI, 40, .inl (fun _ => 0)))] := hD1
  have hS : va_S A s.heap H1 locs1 := hS1
  clear hP1 hD1 hS1
  refine xn_group false (cA := cI) (v := 40) (n := 40) (pc1 := 23) hx hb hown hin hK hA rfl (fun w hw => hts2 w (iw_X0 w hw)) (hts2 _ ka_int) (hK.2 0 _ rfl).2 (lv_at hl 0 rfl) hP hD hS 2 (by decide) (Nat.le_of_ble_eq_true rfl) rfl rfl (by decide +kernel) (hts2 _ kf_X0_18) dX0_init_20 (fun st k => lv_bipush hx hb dX0_init_21 (by decide) k) dX0_init_23 dX0_init_25 (by decide) (by decide) (by decide) (Nat.le_of_ble_eq_true rfl) (Nat.le_of_ble_eq_true rfl) (fun q2 H2 locs2 hP2 hD2 hS2 => ?_)
  clear hP hD hS
  have hP : va_P D vwCl [(h0, .inr (0, [.ref q0, .ref q1, .ref q2, .null, .null, .null, .int 0])), (q0, .inl (cI, 40, .inl (fun _ => 0))), (q1, .inl (cI, 40, .inl (fun _ => 0))), (q2, .inl (cI, 40, .inl (fun _ => 0)))] H2 := hP2
  have hD : va_D A [(h0, .inr (0, [.ref q0, .ref q1, .ref q2, .null, .null, .null, .int 0])), (q0, .inl (cI, 40, .inl (fun _ => 0))), (q1, .inl (cI, 40, .inl (fun _ => 0))), (q2, .inl (cI, 40, .inl (fun _ => 0)))] := hD2
  have hS : va_S A s.heap H2 locs2 := hS2
  clear hP2 hD2 hS2
  refine xn_group false (cA := cI) (v := 40) (n := 40) (pc1 := 31) hx hb hown hin hK hA rfl (fun w hw => hts2 w (iw_X0 w hw)) (hts2 _ ka_int) (hK.2 0 _ rfl).2 (lv_at hl 0 rfl) hP hD hS 3 (by decide) (Nat.le_of_ble_eq_true rfl) rfl rfl (by decide +kernel) (hts2 _ kf_X0_21) dX0_init_28 (fun st k => lv_bipush hx hb dX0_init_29 (by decide) k) dX0_init_31 dX0_init_33 (by decide) (by decide) (by decide) (Nat.le_of_ble_eq_true rfl) (Nat.le_of_ble_eq_true rfl) (fun q3 H3 locs3 hP3 hD3 hS3 => ?_)
  clear hP hD hS
  have hP : va_P D vwCl [(h0, .inr (0, [.ref q0, .ref q1, .ref q2, .ref q3, .null, .null, .int 0])), (q0, .inl (cI, 40, .inl (fun _ => 0))), (q1, .inl (cI, 40, .inl (fun _ => 0))), (q2, .inl (cI, 40, .inl (fun _ => 0))), (q3, .inl (cI, 40, .inl (fun _ => 0)))] H3 := hP3
  have hD : va_D A [(h0, .inr (0, [.ref q0, .ref q1, .ref q2, .ref q3, .null, .null, .int 0])), (q0, .inl (cI, 40, .inl (fun _ => 0))), (q1, .inl (cI, 40, .inl (fun _ => 0))), (q2, .inl (cI, 40, .inl (fun _ => 0))), (q3, .inl (cI, 40, .inl (fun _ => 0)))] := hD3
  have hS : va_S A s.heap H3 locs3 := hS3
  clear hP3 hD3 hS3
  refine xn_group false (cA := cI) (v := 40) (n := 40) (pc1 := 39) hx hb hown hin hK hA rfl (fun w hw => hts2 w (iw_X0 w hw)) (hts2 _ ka_int) (hK.2 0 _ rfl).2 (lv_at hl 0 rfl) hP hD hS 4 (by decide) (Nat.le_of_ble_eq_true rfl) rfl rfl (by decide +kernel) (hts2 _ kf_X0_24) dX0_init_36 (fun st k => lv_bipush hx hb dX0_init_37 (by decide) k) dX0_init_39 dX0_init_41 (by decide) (by decide) (by decide) (Nat.le_of_ble_eq_true rfl) (Nat.le_of_ble_eq_true rfl) (fun q4 H4 locs4 hP4 hD4 hS4 => ?_)
  clear hP hD hS
  have hP : va_P D vwCl [(h0, .inr (0, [.ref q0, .ref q1, .ref q2, .ref q3, .ref q4, .null, .int 0])), (q0, .inl (cI, 40, .inl (fun _ => 0))), (q1, .inl (cI, 40, .inl (fun _ => 0))), (q2, .inl (cI, 40, .inl (fun _ => 0))), (q3, .inl (cI, 40, .inl (fun _ => 0))), (q4, .inl (cI, 40, .inl (fun _ => 0)))] H4 := hP4
  have hD : va_D A [(h0, .inr (0, [.ref q0, .ref q1, .ref q2, .ref q3, .ref q4, .null, .int 0])), (q0, .inl (cI, 40, .inl (fun _ => 0))), (q1, .inl (cI, 40, .inl (fun _ => 0))), (q2, .inl (cI, 40, .inl (fun _ => 0))), (q3, .inl (cI, 40, .inl (fun _ => 0))), (q4, .inl (cI, 40, .inl (fun _ => 0)))] := hD4
  have hS : va_S A s.heap H4 locs4 := hS4
  clear hP4 hD4 hS4
  refine xn_group false (cA := cI) (v := 40) (n := 40) (pc1 := 47) hx hb hown hin hK hA rfl (fun w hw => hts2 w (iw_X0 w hw)) (hts2 _ ka_int) (hK.2 0 _ rfl).2 (lv_at hl 0 rfl) hP hD hS 5 (by decide) (Nat.le_of_ble_eq_true rfl) rfl rfl (by decide +kernel) (hts2 _ kf_X0_27) dX0_init_44 (fun st k => lv_bipush hx hb dX0_init_45 (by decide) k) dX0_init_47 dX0_init_49 (by decide) (by decide) (by decide) (Nat.le_of_ble_eq_true rfl) (Nat.le_of_ble_eq_true rfl) (fun q5 H5 locs5 hP5 hD5 hS5 => ?_)
  clear hP hD hS
  have hP : va_P D vwCl [(h0, .inr (0, [.ref q0, .ref q1, .ref q2, .ref q3, .ref q4, .ref q5, .int 0])), (q0, .inl (cI, 40, .inl (fun _ => 0))), (q1, .inl (cI, 40, .inl (fun _ => 0))), (q2, .inl (cI, 40, .inl (fun _ => 0))), (q3, .inl (cI, 40, .inl (fun _ => 0))), (q4, .inl (cI, 40, .inl (fun _ => 0))), (q5, .inl (cI, 40, .inl (fun _ => 0)))] H5 := hP5
  have hD : va_D A [(h0, .inr (0, [.ref q0, .ref q1, .ref q2, .ref q3, .ref q4, .ref q5, .int 0])), (q0, .inl (cI, 40, .inl (fun _ => 0))), (q1, .inl (cI, 40, .inl (fun _ => 0))), (q2, .inl (cI, 40, .inl (fun _ => 0))), (q3, .inl (cI, 40, .inl (fun _ => 0))), (q4, .inl (cI, 40, .inl (fun _ => 0))), (q5, .inl (cI, 40, .inl (fun _ => 0)))] := hD5
  have hS : va_S A s.heap H5 locs5 := hS5
  clear hP5 hD5 hS5
  refine W.widen (k := 6) (n := 240) (Nat.le_of_ble_eq_true rfl) (Nat.le_of_ble_eq_true rfl) ?_
  exact W.vret hx hb hr (fun t ht hW => ⟨⟨(fun k => [q0, q1, q2, q3, q4, q5].getD k 0), rfl, trivial, by rw [ht]; exact hP, hD⟩, hS.F ht⟩) hS.2.2 dX0_init_52
theorem dX2_init_0 : decode cX2_init 0 = .ok (.aload_n 0, 1) := by decide +kernel
theorem dX2_init_1 : decode cX2_init 1 = .ok (.invokespecial 3, 3) := by decide +kernel
theorem dX2_init_4 : decode cX2_init 4 = .ok (.aload_n 0, 1) := by decide +kernel
theorem dX2_init_5 : decode cX2_init 5 = .ok (.bipush 80, 2) := by decide +kernel
theorem dX2_init_7 : decode cX2_init 7 = .ok (.newarray .int, 2) := by decide +kernel
theorem dX2_init_9 : decode cX2_init 9 = .ok (.putfield 9, 3) := by decide +kernel
theorem dX2_init_12 : decode cX2_init 12 = .ok (.aload_n 0, 1) := by decide +kernel
theorem dX2_init_13 : decode cX2_init 13 = .ok (.bipush 80, 2) := by decide +kernel
theorem dX2_init_15 : decode cX2_init 15 = .ok (.newarray .int, 2) := by decide +kernel
theorem dX2_init_17 : decode cX2_init 17 = .ok (.putfield 15, 3) := by decide +kernel
theorem dX2_init_20 : decode cX2_init 20 = .ok (.aload_n 0, 1) := by decide +kernel
theorem dX2_init_21 : decode cX2_init 21 = .ok (.bipush 80, 2) := by decide +kernel
theorem dX2_init_23 : decode cX2_init 23 = .ok (.newarray .int, 2) := by decide +kernel
theorem dX2_init_25 : decode cX2_init 25 = .ok (.putfield 18, 3) := by decide +kernel
theorem dX2_init_28 : decode cX2_init 28 = .ok (.aload_n 0, 1) := by decide +kernel
theorem dX2_init_29 : decode cX2_init 29 = .ok (.bipush 80, 2) := by decide +kernel
theorem dX2_init_31 : decode cX2_init 31 = .ok (.newarray .int, 2) := by decide +kernel
theorem dX2_init_33 : decode cX2_init 33 = .ok (.putfield 21, 3) := by decide +kernel
theorem dX2_init_36 : decode cX2_init 36 = .ok (.aload_n 0, 1) := by decide +kernel
theorem dX2_init_37 : decode cX2_init 37 = .ok (.bipush 80, 2) := by decide +kernel
theorem dX2_init_39 : decode cX2_init 39 = .ok (.newarray .boolean, 2) := by decide +kernel
theorem dX2_init_41 : decode cX2_init 41 = .ok (.putfield 24, 3) := by decide +kernel
theorem dX2_init_44 : decode cX2_init 44 = .ok (.aload_n 0, 1) := by decide +kernel
theorem dX2_init_45 : decode cX2_init 45 = .ok (.bipush 80, 2) := by decide +kernel
theorem dX2_init_47 : decode cX2_init 47 = .ok (.newarray .int, 2) := by decide +kernel
theorem dX2_init_49 : decode cX2_init 49 = .ok (.putfield 28, 3) := by decide +kernel
theorem dX2_init_52 : decode cX2_init 52 = .ok (.aload_n 0, 1) := by decide +kernel
theorem dX2_init_53 : decode cX2_init 53 = .ok (.bipush 80, 2) := by decide +kernel
theorem dX2_init_55 : decode cX2_init 55 = .ok (.newarray .int, 2) := by decide +kernel
theorem dX2_init_57 : decode cX2_init 57 = .ok (.putfield 31, 3) := by decide +kernel
theorem dX2_init_60 : decode cX2_init 60 = .ok (.aload_n 0, 1) := by decide +kernel
theorem dX2_init_61 : decode cX2_init 61 = .ok (.bipush 80, 2) := by decide +kernel
theorem dX2_init_63 : decode cX2_init 63 = .ok (.newarray .int, 2) := by decide +kernel
theorem dX2_init_65 : decode cX2_init 65 = .ok (.putfield 34, 3) := by decide +kernel
theorem dX2_init_68 : decode cX2_init 68 = .ok (.aload_n 0, 1) := by decide +kernel
theorem dX2_init_69 : decode cX2_init 69 = .ok (.bipush 80, 2) := by decide +kernel
theorem dX2_init_71 : decode cX2_init 71 = .ok (.newarray .int, 2) := by decide +kernel
theorem dX2_init_73 : decode cX2_init 73 = .ok (.putfield 37, 3) := by decide +kernel
theorem dX2_init_76 : decode cX2_init 76 = .ok (.aload_n 0, 1) := by decide +kernel
theorem dX2_init_77 : decode cX2_init 77 = .ok (.bipush 80, 2) := by decide +kernel
theorem dX2_init_79 : decode cX2_init 79 = .ok (.newarray .boolean, 2) := by decide +kernel
theorem dX2_init_81 : decode cX2_init 81 = .ok (.putfield 40, 3) := by decide +kernel
theorem dX2_init_84 : decode cX2_init 84 = .ok (.aload_n 0, 1) := by decide +kernel
theorem dX2_init_85 : decode cX2_init 85 = .ok (.bipush 80, 2) := by decide +kernel
theorem dX2_init_87 : decode cX2_init 87 = .ok (.newarray .int, 2) := by decide +kernel
theorem dX2_init_89 : decode cX2_init 89 = .ok (.putfield 43, 3) := by decide +kernel
theorem dX2_init_92 : decode cX2_init 92 = .ok (.return_, 1) := by decide +kernel
abbrev w0_X2 (h : Nat) : va_W := [(h, .inr (2, [.null, .null, .null, .null, .null, .null, .null, .null, .null, .null, .null, .int 0]))]
abbrev w1_X2 (cI cZ : ClassId) (h : Nat) (a : Nat → Nat) : va_W := [(h, .inr (2, [.ref (a 0), .ref (a 1), .ref (a 2), .ref (a 3), .ref (a 4), .ref (a 5), .ref (a 6), .ref (a 7), .ref (a 8), .ref (a 9), .ref (a 10), .int 0])), (a 0, .inl (cI, 80, .inl (fun _ => 0))), (a 1, .inl (cI, 80, .inl (fun _ => 0))), (a 2, .inl (cI, 80, .inl (fun _ => 0))), (a 3, .inl (cI, 80, .inl (fun _ => 0))), (a 4, .inl (cZ, 80, .inl (fun _ => 0))), (a 5, .inl (cI, 80, .inl (fun _ => 0))), (a 6, .inl (cI, 80, .inl (fun _ => 0))), (a 7, .inl (cI, 80, .inl (fun _ => 0))), (a 8, .inl (cI, 80, .inl (fun _ => 0))), (a 9, .inl (cZ, 80, .inl (fun _ => 0))), (a 10, .inl (cI, 80, .inl (fun _ => 0)))]
set_option maxHeartbeats 4000000 in
set_option maxRecDepth 100000 in
theorem c_X2_init (l : Launch) (D : va_G) (cI cZ : ClassId) (gs : Nat → Nat) (h0 sz : Nat) : Met l yX2_init (wm yX2_init cX2_init 1 2) { frames := 1, cells := 11, slots := 880, locals := 12 } (va_Pc [.ref h0] (iPre D cI cZ gs (va_A (w0_X2 h0) sz) (w0_X2 h0) sz)) (iQ D (va_A (w0_X2 h0) sz) (w1_X2 cI cZ h0)) 11 880 (va_A (w0_X2 h0) sz) := by
  refine Met.ofW (cc := cX2_init) (maxL := 1) (ret := rety 2) (by decide) rfl ?_
  intro p e s m args below meth c s₁ B hml hv
  obtain ⟨rfl, hsz, hP, hK, hN, hst, hD0⟩ := hv
  have hx := B.exec
  have hb := B.bytes
  have hr := B.returns
  have hts := atoms_spec (ws := wm yX2_init cX2_init 1 2) B.pre
  have hts2 : ∀ w ∈ wA, w.before _ s = true := fun w hw => hts w (List.mem_cons_of_mem _ hw)
  have hown : s.vm.findClass RX2 = some m.cls := findClass_of_methodNamed B.named
  have hlocks := B.notSynchronized
  have hin : meth.name = "<init>" := (name_of_methodNamed B.named B.method).1
  subst hsz
  have hD := hD0.self (sz := s.heap.size)
  generalize hAe : va_A (w0_X2 h0) s.heap.size = A at hD hst ⊢
  have hA : ∀ q : Nat, s.heap.size ≤ q → A q := fun q h => by rw [← hAe]; exact Or.inr h
  have hS : va_S A s.heap s.heap [] := va_S.rf
  have hl := lv_entry ([.ref h0]) (n := 1) (Nat.le_of_ble_eq_true rfl)
  rw [lg_entry_eq]
  generalize (lg_sl ([.ref h0]) ++ List.replicate (1 - (lg_sl ([.ref h0])).length) Slot.unset).toArray = ls at hl ⊢
  have hl : lv_has ls 1 [(0, .ref h0)] := hl
  refine lv_aload_n hx hb dX2_init_0 rfl (lv_at hl 0 rfl) ?_
  refine W.objInit hx hb hown (hts2 _ ko_X2) (hts2 _ ko_i) (hts2 _ ko_c) rfl (by rw [hml]; exact hl.1) rfl dX2_init_1 (Nat.le_of_ble_eq_true rfl) (Nat.le_of_ble_eq_true rfl) ?_
  refine W.eq (g2 := F0 m 4 ls []) rfl ?_
  refine xn_group false (cA := cI) (v := 80) (n := 80) (pc1 := 7) hx hb hown hin hK hA rfl (fun w hw => hts2 w (iw_X2 w hw)) (hts2 _ ka_int) (hK.2 0 _ rfl).2 (lv_at hl 0 rfl) hP hD hS 0 (by decide) (Nat.le_of_ble_eq_true rfl) rfl rfl (by decide +kernel) (hts2 _ kf_X2_9) dX2_init_4 (fun st k => lv_bipush hx hb dX2_init_5 (by decide) k) dX2_init_7 dX2_init_9 (by decide) (by decide) (by decide) (Nat.le_of_ble_eq_true rfl) (Nat.le_of_ble_eq_true rfl) (fun q0 H0 locs0 hP0 hD0 hS0 => ?_)
  clear hP hD hS
  have hP : va_P D vwCl [(h0, .inr (2, [.ref q0, .null, .null, .null, .null, .null, .null, .null, .null, .null, .null, .int 0])), (q0, .inl (cI, 80, .inl (fun _ => 0)))] H0 := hP0
  have hD : va_D A [(h0, .inr (2, [.ref q0, .null, .null, .null, .null, .null, .null, .null, .null, .null, .null, .int 0])), (q0, .inl (cI, 80, .inl (fun _ => 0)))] := hD0
  have hS : va_S A s.heap H0 locs0 := hS0
  clear hP0 hD0 hS0
  refine xn_group false (cA := cI) (v := 80) (n := 80) (pc1 := 15) hx hb hown hin hK hA rfl (fun w hw => hts2 w (iw_X2 w hw)) (hts2 _ ka_int) (hK.2 0 _ rfl).2 (lv_at hl 0 rfl) hP hD hS 1 (by decide) (Nat.le_of_ble_eq_true rfl) rfl rfl (by decide +kernel) (hts2 _ kf_X2_15) dX2_init_12 (fun st k => lv_bipush hx hb dX2_init_13 (by decide) k) dX2_init_15 dX2_init_17 (by decide) (by decide) (by decide) (Nat.le_of_ble_eq_true rfl) (Nat.le_of_ble_eq_true rfl) (fun q1 H1 locs1 hP1 hD1 hS1 => ?_)
  clear hP hD hS
  have hP : va_P D vwCl [(h0, .inr (2, [.ref q0, .ref q1, .null, .null, .null, .null, .null, .null, .null, .null, .null, .int 0])), (q0, .inl (cI, 80, .inl (fun _ => 0))), (q1, .inl (cI, 80, .inl (fun _ => 0)))] H1 := hP1
  have hD : va_D A [(h0, .inr (2, [.ref q0, .ref q1, .null, .null, .null, .null, .null, .null, .null, .null, .null, .int 0])), (q0, .inl (cI, 80, .inl (fun _ => 0))), (q1, .inl (cI, 80, .inl (fun _ => 0)))] := hD1
  have hS : va_S A s.heap H1 locs1 := hS1
  clear hP1 hD1 hS1
  refine xn_group false (cA := cI) (v := 80) (n := 80) (pc1 := 23) hx hb hown hin hK hA rfl (fun w hw => hts2 w (iw_X2 w hw)) (hts2 _ ka_int) (hK.2 0 _ rfl).2 (lv_at hl 0 rfl) hP hD hS 2 (by decide) (Nat.le_of_ble_eq_true rfl) rfl rfl (by decide +kernel) (hts2 _ kf_X2_18) dX2_init_20 (fun st k => lv_bipush hx hb dX2_init_21 (by decide) k) dX2_init_23 dX2_init_25 (by decide) (by decide) (by decide) (Nat.le_of_ble_eq_true rfl) (Nat.le_of_ble_eq_true rfl) (fun q2 H2 locs2 hP2 hD2 hS2 => ?_)
  clear hP hD hS
  have hP : va_P D vwCl [(h0, .inr (2, [.ref q0, .ref q1, .ref q2, .null, .null, .null, .null, .null, .null, .null, .null, .int 0])), (q0, .inl (cI, 80, .inl (fun _ => 0))), (q1, .inl (cI, 80, .inl (fun _ => 0))), (q2, .inl (cI, 80, .inl (fun _ => 0)))] H2 := hP2
  have hD : va_D A [(h0, .inr (2, [.ref q0, .ref q1, .ref q2, .null, .null, .null, .null, .null, .null, .null, .null, .int 0])), (q0, .inl (cI, 80, .inl (fun _ => 0))), (q1, .inl (cI, 80, .inl (fun _ => 0))), (q2, .inl (cI, 80, .inl (fun _ => 0)))] := hD2
  have hS : va_S A s.heap H2 locs2 := hS2
  clear hP2 hD2 hS2
  refine xn_group false (cA := cI) (v := 80) (n := 80) (pc1 := 31) hx hb hown hin hK hA rfl (fun w hw => hts2 w (iw_X2 w hw)) (hts2 _ ka_int) (hK.2 0 _ rfl).2 (lv_at hl 0 rfl) hP hD hS 3 (by decide) (Nat.le_of_ble_eq_true rfl) rfl rfl (by decide +kernel) (hts2 _ kf_X2_21) dX2_init_28 (fun st k => lv_bipush hx hb dX2_init_29 (by decide) k) dX2_init_31 dX2_init_33 (by decide) (by decide) (by decide) (Nat.le_of_ble_eq_true rfl) (Nat.le_of_ble_eq_true rfl) (fun q3 H3 locs3 hP3 hD3 hS3 => ?_)
  clear hP hD hS
  have hP : va_P D vwCl [(h0, .inr (2, [.ref q0, .ref q1, .ref q2, .ref q3, .null, .null, .null, .null, .null, .null, .null, .int 0])), (q0, .inl (cI, 80, .inl (fun _ => 0))), (q1, .inl (cI, 80, .inl (fun _ => 0))), (q2, .inl (cI, 80, .inl (fun _ => 0))), (q3, .inl (cI, 80, .inl (fun _ => 0)))] H3 := hP3
  have hD : va_D A [(h0, .inr (2, [.ref q0, .ref q1, .ref q2, .ref q3, .null, .null, .null, .null, .null, .null, .null, .int 0])), (q0, .inl (cI, 80, .inl (fun _ => 0))), (q1, .inl (cI, 80, .inl (fun _ => 0))), (q2, .inl (cI, 80, .inl (fun _ => 0))), (q3, .inl (cI, 80, .inl (fun _ => 0)))] := hD3
  have hS : va_S A s.heap H3 locs3 := hS3
  clear hP3 hD3 hS3
  refine xn_group true (cA := cZ) (v := 80) (n := 80) (pc1 := 39) hx hb hown hin hK hA rfl (fun w hw => hts2 w (iw_X2 w hw)) (hts2 _ ka_boolean) (hK.2 1 _ rfl).2 (lv_at hl 0 rfl) hP hD hS 4 (by decide) (Nat.le_of_ble_eq_true rfl) rfl rfl (by decide +kernel) (hts2 _ kf_X2_24) dX2_init_36 (fun st k => lv_bipush hx hb dX2_init_37 (by decide) k) dX2_init_39 dX2_init_41 (by decide) (by decide) (by decide) (Nat.le_of_ble_eq_true rfl) (Nat.le_of_ble_eq_true rfl) (fun q4 H4 locs4 hP4 hD4 hS4 => ?_)
  clear hP hD hS
  have hP : va_P D vwCl [(h0, .inr (2, [.ref q0, .ref q1, .ref q2, .ref q3, .ref q4, .null, .null, .null, .null, .null, .null, .int 0])), (q0, .inl (cI, 80, .inl (fun _ => 0))), (q1, .inl (cI, 80, .inl (fun _ => 0))), (q2, .inl (cI, 80, .inl (fun _ => 0))), (q3, .inl (cI, 80, .inl (fun _ => 0))), (q4, .inl (cZ, 80, .inl (fun _ => 0)))] H4 := hP4
  have hD : va_D A [(h0, .inr (2, [.ref q0, .ref q1, .ref q2, .ref q3, .ref q4, .null, .null, .null, .null, .null, .null, .int 0])), (q0, .inl (cI, 80, .inl (fun _ => 0))), (q1, .inl (cI, 80, .inl (fun _ => 0))), (q2, .inl (cI, 80, .inl (fun _ => 0))), (q3, .inl (cI, 80, .inl (fun _ => 0))), (q4, .inl (cZ, 80, .inl (fun _ => 0)))] := hD4
  have hS : va_S A s.heap H4 locs4 := hS4
  clear hP4 hD4 hS4
  refine xn_group false (cA := cI) (v := 80) (n := 80) (pc1 := 47) hx hb hown hin hK hA rfl (fun w hw => hts2 w (iw_X2 w hw)) (hts2 _ ka_int) (hK.2 0 _ rfl).2 (lv_at hl 0 rfl) hP hD hS 5 (by decide) (Nat.le_of_ble_eq_true rfl) rfl rfl (by decide +kernel) (hts2 _ kf_X2_28) dX2_init_44 (fun st k => lv_bipush hx hb dX2_init_45 (by decide) k) dX2_init_47 dX2_init_49 (by decide) (by decide) (by decide) (Nat.le_of_ble_eq_true rfl) (Nat.le_of_ble_eq_true rfl) (fun q5 H5 locs5 hP5 hD5 hS5 => ?_)
  clear hP hD hS
  have hP : va_P D vwCl [(h0, .inr (2, [.ref q0, .ref q1, .ref q2, .ref q3, .ref q4, .ref q5, .null, .null, .null, .null, .null, .int 0])), (q0, .inl (cI, 80, .inl (fun _ => 0))), (q1, .inl (cI, 80, .inl (fun _ => 0))), (q2, .inl (cI, 80, .inl (fun _ => 0))), (q3, .inl (cI, 80, .inl (fun _ => 0))), (q4, .inl (cZ, 80, .inl (fun _ => 0))), (q5, .inl (cI, 80, .inl (fun _ => 0)))] H5 := hP5
  have hD : va_D A [(h0, .inr (2, [.ref q0, .ref q1, .ref q2, .ref q3, .ref q4, .ref q5, .null, .null, .null, .null, .null, .int 0])), (q0, .inl (cI, 80, .inl (fun _ => 0))), (q1, .inl (cI, 80, .inl (fun _ => 0))), (q2, .inl (cI, 80, .inl (fun _ => 0))), (q3, .inl (cI, 80, .inl (fun _ => 0))), (q4, .inl (cZ, 80, .inl (fun _ => 0))), (q5, .inl (cI, 80, .inl (fun _ => 0)))] := hD5
  have hS : va_S A s.heap H5 locs5 := hS5
  clear hP5 hD5 hS5
  refine xn_group false (cA := cI) (v := 80) (n := 80) (pc1 := 55) hx hb hown hin hK hA rfl (fun w hw => hts2 w (iw_X2 w hw)) (hts2 _ ka_int) (hK.2 0 _ rfl).2 (lv_at hl 0 rfl) hP hD hS 6 (by decide) (Nat.le_of_ble_eq_true rfl) rfl rfl (by decide +kernel) (hts2 _ kf_X2_31) dX2_init_52 (fun st k => lv_bipush hx hb dX2_init_53 (by decide) k) dX2_init_55 dX2_init_57 (by decide) (by decide) (by decide) (Nat.le_of_ble_eq_true rfl) (Nat.le_of_ble_eq_true rfl) (fun q6 H6 locs6 hP6 hD6 hS6 => ?_)
  clear hP hD hS
  have hP : va_P D vwCl [(h0, .inr (2, [.ref q0, .ref q1, .ref q2, .ref q3, .ref q4, .ref q5, .ref q6, .null, .null, .null, .null, .int 0])), (q0, .inl (cI, 80, .inl (fun _ => 0))), (q1, .inl (cI, 80, .inl (fun _ => 0))), (q2, .inl (cI, 80, .inl (fun _ => 0))), (q3, .inl (cI, 80, .inl (fun _ => 0))), (q4, .inl (cZ, 80, .inl (fun _ => 0))), (q5, .inl (cI, 80, .inl (fun _ => 0))), (q6, .inl (cI, 80, .inl (fun _ => 0)))] H6 := hP6
  have hD : va_D A [(h0, .inr (2, [.ref q0, .ref q1, .ref q2, .ref q3, .ref q4, .ref q5, .ref q6, .null, .null, .null, .null, .int 0])), (q0, .inl (cI, 80, .inl (fun _ => 0))), (q1, .inl (cI, 80, .inl (fun _ => 0))), (q2, .inl (cI, 80, .inl (fun _ => 0))), (q3, .inl (cI, 80, .inl (fun _ => 0))), (q4, .inl (cZ, 80, .inl (fun _ => 0))), (q5, .inl (cI, 80, .inl (fun _ => 0))), (q6, .inl (cI, 80, .inl (fun _ => 0)))] := hD6
  have hS : va_S A s.heap H6 locs6 := hS6
  clear hP6 hD6 hS6
  refine xn_group false (cA := cI) (v := 80) (n := 80) (pc1 := 63) hx hb hown hin hK hA rfl (fun w hw => hts2 w (iw_X2 w hw)) (hts2 _ ka_int) (hK.2 0 _ rfl).2 (lv_at hl 0 rfl) hP hD hS 7 (by decide) (Nat.le_of_ble_eq_true rfl) rfl rfl (by decide +kernel) (hts2 _ kf_X2_34) dX2_init_60 (fun st k => lv_bipush hx hb dX2_init_61 (by decide) k) dX2_init_63 dX2_init_65 (by decide) (by decide) (by decide) (Nat.le_of_ble_eq_true rfl) (Nat.le_of_ble_eq_true rfl) (fun q7 H7 locs7 hP7 hD7 hS7 => ?_)
  clear hP hD hS
  have hP : va_P D vwCl [(h0, .inr (2, [.ref q0, .ref q1, .ref q2, .ref q3, .ref q4, .ref q5, .ref q6, .ref q7, .null, .null, .null, .int 0])), (q0, .inl (cI, 80, .inl (fun _ => 0))), (q1, .inl (cI, 80, .inl (fun _ => 0))), (q2, .inl (cI, 80, .inl (fun _ => 0))), (q3, .inl (cI, 80, .inl (fun _ => 0))), (q4, .inl (cZ, 80, .inl (fun _ => 0))), (q5, .inl (cI, 80, .inl (fun _ => 0))), (q6, .inl (cI, 80, .inl (fun _ => 0))), (q7, .inl (cI, 80, .inl (fun _ => 0)))] H7 := hP7
  have hD : va_D A [(h0, .inr (2, [.ref q0, .ref q1, .ref q2, .ref q3, .ref q4, .ref q5, .ref q6, .ref q7, .null, .null, .null, .int 0])), (q0, .inl (cI, 80, .inl (fun _ => 0))), (q1, .inl (cI, 80, .inl (fun _ => 0))), (q2, .inl (cI, 80, .inl (fun _ => 0))), (q3, .inl (cI, 80, .inl (fun _ => 0))), (q4, .inl (cZ, 80, .inl (fun _ => 0))), (q5, .inl (cI, 80, .inl (fun _ => 0))), (q6, .inl (cI, 80, .inl (fun _ => 0))), (q7, .inl (cI, 80, .inl (fun _ => 0)))] := hD7
  have hS : va_S A s.heap H7 locs7 := hS7
  clear hP7 hD7 hS7
  refine xn_group false (cA := cI) (v := 80) (n := 80) (pc1 := 71) hx hb hown hin hK hA rfl (fun w hw => hts2 w (iw_X2 w hw)) (hts2 _ ka_int) (hK.2 0 _ rfl).2 (lv_at hl 0 rfl) hP hD hS 8 (by decide) (Nat.le_of_ble_eq_true rfl) rfl rfl (by decide +kernel) (hts2 _ kf_X2_37) dX2_init_68 (fun st k => lv_bipush hx hb dX2_init_69 (by decide) k) dX2_init_71 dX2_init_73 (by decide) (by decide) (by decide) (Nat.le_of_ble_eq_true rfl) (Nat.le_of_ble_eq_true rfl) (fun q8 H8 locs8 hP8 hD8 hS8 => ?_)
  clear hP hD hS
  have hP : va_P D vwCl [(h0, .inr (2, [.ref q0, .ref q1, .ref q2, .ref q3, .ref q4, .ref q5, .ref q6, .ref q7, .ref q8, .null, .null, .int 0])), (q0, .inl (cI, 80, .inl (fun _ => 0))), (q1, .inl (cI, 80, .inl (fun _ => 0))), (q2, .inl (cI, 80, .inl (fun _ => 0))), (q3, .inl (cI, 80, .inl (fun _ => 0))), (q4, .inl (cZ, 80, .inl (fun _ => 0))), (q5, .inl (cI, 80, .inl (fun _ => 0))), (q6, .inl (cI, 80, .inl (fun _ => 0))), (q7, .inl (cI, 80, .inl (fun _ => 0))), (q8, .inl (cI, 80, .inl (fun _ => 0)))] H8 := hP8
  have hD : va_D A [(h0, .inr (2, [.ref q0, .ref q1, .ref q2, .ref q3, .ref q4, .ref q5, .ref q6, .ref q7, .ref q8, .null, .null, .int 0])), (q0, .inl (cI, 80, .inl (fun _ => 0))), (q1, .inl (cI, 80, .inl (fun _ => 0))), (q2, .inl (cI, 80, .inl (fun _ => 0))), (q3, .inl (cI, 80, .inl (fun _ => 0))), (q4, .inl (cZ, 80, .inl (fun _ => 0))), (q5, .inl (cI, 80, .inl (fun _ => 0))), (q6, .inl (cI, 80, .inl (fun _ => 0))), (q7, .inl (cI, 80, .inl (fun _ => 0))), (q8, .inl (cI, 80, .inl (fun _ => 0)))] := hD8
  have hS : va_S A s.heap H8 locs8 := hS8
  clear hP8 hD8 hS8
  refine xn_group true (cA := cZ) (v := 80) (n := 80) (pc1 := 79) hx hb hown hin hK hA rfl (fun w hw => hts2 w (iw_X2 w hw)) (hts2 _ ka_boolean) (hK.2 1 _ rfl).2 (lv_at hl 0 rfl) hP hD hS 9 (by decide) (Nat.le_of_ble_eq_true rfl) rfl rfl (by decide +kernel) (hts2 _ kf_X2_40) dX2_init_76 (fun st k => lv_bipush hx hb dX2_init_77 (by decide) k) dX2_init_79 dX2_init_81 (by decide) (by decide) (by decide) (Nat.le_of_ble_eq_true rfl) (Nat.le_of_ble_eq_true rfl) (fun q9 H9 locs9 hP9 hD9 hS9 => ?_)
  clear hP hD hS
  have hP : va_P D vwCl [(h0, .inr (2, [.ref q0, .ref q1, .ref q2, .ref q3, .ref q4, .ref q5, .ref q6, .ref q7, .ref q8, .ref q9, .null, .int 0])), (q0, .inl (cI, 80, .inl (fun _ => 0))), (q1, .inl (cI, 80, .inl (fun _ => 0))), (q2, .inl (cI, 80, .inl (fun _ => 0))), (q3, .inl (cI, 80, .inl (fun _ => 0))), (q4, .inl (cZ, 80, .inl (fun _ => 0))), (q5, .inl (cI, 80, .inl (fun _ => 0))), (q6, .inl (cI, 80, .inl (fun _ => 0))), (q7, .inl (cI, 80, .inl (fun _ => 0))), (q8, .inl (cI, 80, .inl (fun _ => 0))), (q9, .inl (cZ, 80, .inl (fun _ => 0)))] H9 := hP9
  have hD : va_D A [(h0, .inr (2, [.ref q0, .ref q1, .ref q2, .ref q3, .ref q4, .ref q5, .ref q6, .ref q7, .ref q8, .ref q9, .null, .int 0])), (q0, .inl (cI, 80, .inl (fun _ => 0))), (q1, .inl (cI, 80, .inl (fun _ => 0))), (q2, .inl (cI, 80, .inl (fun _ => 0))), (q3, .inl (cI, 80, .inl (fun _ => 0))), (q4, .inl (cZ, 80, .inl (fun _ => 0))), (q5, .inl (cI, 80, .inl (fun _ => 0))), (q6, .inl (cI, 80, .inl (fun _ => 0))), (q7, .inl (cI, 80, .inl (fun _ => 0))), (q8, .inl (cI, 80, .inl (fun _ => 0))), (q9, .inl (cZ, 80, .inl (fun _ => 0)))] := hD9
  have hS : va_S A s.heap H9 locs9 := hS9
  clear hP9 hD9 hS9
  refine xn_group false (cA := cI) (v := 80) (n := 80) (pc1 := 87) hx hb hown hin hK hA rfl (fun w hw => hts2 w (iw_X2 w hw)) (hts2 _ ka_int) (hK.2 0 _ rfl).2 (lv_at hl 0 rfl) hP hD hS 10 (by decide) (Nat.le_of_ble_eq_true rfl) rfl rfl (by decide +kernel) (hts2 _ kf_X2_43) dX2_init_84 (fun st k => lv_bipush hx hb dX2_init_85 (by decide) k) dX2_init_87 dX2_init_89 (by decide) (by decide) (by decide) (Nat.le_of_ble_eq_true rfl) (Nat.le_of_ble_eq_true rfl) (fun q10 H10 locs10 hP10 hD10 hS10 => ?_)
  clear hP hD hS
  have hP : va_P D vwCl [(h0, .inr (2, [.ref q0, .ref q1, .ref q2, .ref q3, .ref q4, .ref q5, .ref q6, .ref q7, .ref q8, .ref q9, .ref q10, .int 0])), (q0, .inl (cI, 80, .inl (fun _ => 0))), (q1, .inl (cI, 80, .inl (fun _ => 0))), (q2, .inl (cI, 80, .inl (fun _ => 0))), (q3, .inl (cI, 80, .inl (fun _ => 0))), (q4, .inl (cZ, 80, .inl (fun _ => 0))), (q5, .inl (cI, 80, .inl (fun _ => 0))), (q6, .inl (cI, 80, .inl (fun _ => 0))), (q7, .inl (cI, 80, .inl (fun _ => 0))), (q8, .inl (cI, 80, .inl (fun _ => 0))), (q9, .inl (cZ, 80, .inl (fun _ => 0))), (q10, .inl (cI, 80, .inl (fun _ => 0)))] H10 := hP10
  have hD : va_D A [(h0, .inr (2, [.ref q0, .ref q1, .ref q2, .ref q3, .ref q4, .ref q5, .ref q6, .ref q7, .ref q8, .ref q9, .ref q10, .int 0])), (q0, .inl (cI, 80, .inl (fun _ => 0))), (q1, .inl (cI, 80, .inl (fun _ => 0))), (q2, .inl (cI, 80, .inl (fun _ => 0))), (q3, .inl (cI, 80, .inl (fun _ => 0))), (q4, .inl (cZ, 80, .inl (fun _ => 0))), (q5, .inl (cI, 80, .inl (fun _ => 0))), (q6, .inl (cI, 80, .inl (fun _ => 0))), (q7, .inl (cI, 80, .inl (fun _ => 0))), (q8, .inl (cI, 80, .inl (fun _ => 0))), (q9, .inl (cZ, 80, .inl (fun _ => 0))), (q10, .inl (cI, 80, .inl (fun _ => 0)))] := hD10
  have hS : va_S A s.heap H10 locs10 := hS10
  clear hP10 hD10 hS10
  refine W.widen (k := 11) (n := 880) (Nat.le_of_ble_eq_true rfl) (Nat.le_of_ble_eq_true rfl) ?_
  exact W.vret hx hb hr (fun t ht hW => ⟨⟨(fun k => [q0, q1, q2, q3, q4, q5, q6, q7, q8, q9, q10].getD k 0), rfl, trivial, by rw [ht]; exact hP, hD⟩, hS.F ht⟩) hS.2.2 dX2_init_92
theorem dX3_init_0 : decode cX3_init 0 = .ok (.aload_n 0, 1) := by decide +kernel
theorem dX3_init_1 : decode cX3_init 1 = .ok (.invokespecial 3, 3) := by decide +kernel
theorem dX3_init_4 : decode cX3_init 4 = .ok (.aload_n 0, 1) := by decide +kernel
theorem dX3_init_5 : decode cX3_init 5 = .ok (.sipush 170, 3) := by decide +kernel
theorem dX3_init_8 : decode cX3_init 8 = .ok (.newarray .int, 2) := by decide +kernel
theorem dX3_init_10 : decode cX3_init 10 = .ok (.putfield 11, 3) := by decide +kernel
theorem dX3_init_13 : decode cX3_init 13 = .ok (.aload_n 0, 1) := by decide +kernel
theorem dX3_init_14 : decode cX3_init 14 = .ok (.sipush 170, 3) := by decide +kernel
theorem dX3_init_17 : decode cX3_init 17 = .ok (.newarray .int, 2) := by decide +kernel
theorem dX3_init_19 : decode cX3_init 19 = .ok (.putfield 15, 3) := by decide +kernel
theorem dX3_init_22 : decode cX3_init 22 = .ok (.aload_n 0, 1) := by decide +kernel
theorem dX3_init_23 : decode cX3_init 23 = .ok (.sipush 170, 3) := by decide +kernel
theorem dX3_init_26 : decode cX3_init 26 = .ok (.newarray .int, 2) := by decide +kernel
theorem dX3_init_28 : decode cX3_init 28 = .ok (.putfield 18, 3) := by decide +kernel
theorem dX3_init_31 : decode cX3_init 31 = .ok (.aload_n 0, 1) := by decide +kernel
theorem dX3_init_32 : decode cX3_init 32 = .ok (.bipush 10, 2) := by decide +kernel
theorem dX3_init_34 : decode cX3_init 34 = .ok (.newarray .int, 2) := by decide +kernel
theorem dX3_init_36 : decode cX3_init 36 = .ok (.putfield 23, 3) := by decide +kernel
theorem dX3_init_39 : decode cX3_init 39 = .ok (.return_, 1) := by decide +kernel
abbrev w0_X3 (h : Nat) : va_W := [(h, .inr (3, [.null, .null, .null, .null, .int 0, .int 0]))]
abbrev w1_X3 (cI cZ : ClassId) (h : Nat) (a : Nat → Nat) : va_W := [(h, .inr (3, [.ref (a 0), .ref (a 1), .ref (a 2), .ref (a 3), .int 0, .int 0])), (a 0, .inl (cI, 170, .inl (fun _ => 0))), (a 1, .inl (cI, 170, .inl (fun _ => 0))), (a 2, .inl (cI, 170, .inl (fun _ => 0))), (a 3, .inl (cI, 10, .inl (fun _ => 0)))]
set_option maxHeartbeats 4000000 in
set_option maxRecDepth 100000 in
theorem c_X3_init (l : Launch) (D : va_G) (cI cZ : ClassId) (gs : Nat → Nat) (h0 sz : Nat) : Met l yX3_init (wm yX3_init cX3_init 1 2) { frames := 1, cells := 4, slots := 520, locals := 12 } (va_Pc [.ref h0] (iPre D cI cZ gs (va_A (w0_X3 h0) sz) (w0_X3 h0) sz)) (iQ D (va_A (w0_X3 h0) sz) (w1_X3 cI cZ h0)) 4 520 (va_A (w0_X3 h0) sz) := by
  refine Met.ofW (cc := cX3_init) (maxL := 1) (ret := rety 2) (by decide) rfl ?_
  intro p e s m args below meth c s₁ B hml hv
  obtain ⟨rfl, hsz, hP, hK, hN, hst, hD0⟩ := hv
  have hx := B.exec
  have hb := B.bytes
  have hr := B.returns
  have hts := atoms_spec (ws := wm yX3_init cX3_init 1 2) B.pre
  have hts2 : ∀ w ∈ wA, w.before _ s = true := fun w hw => hts w (List.mem_cons_of_mem _ hw)
  have hown : s.vm.findClass RX3 = some m.cls := findClass_of_methodNamed B.named
  have hlocks := B.notSynchronized
  have hin : meth.name = "<init>" := (name_of_methodNamed B.named B.method).1
  subst hsz
  have hD := hD0.self (sz := s.heap.size)
  generalize hAe : va_A (w0_X3 h0) s.heap.size = A at hD hst ⊢
  have hA : ∀ q : Nat, s.heap.size ≤ q → A q := fun q h => by rw [← hAe]; exact Or.inr h
  have hS : va_S A s.heap s.heap [] := va_S.rf
  have hl := lv_entry ([.ref h0]) (n := 1) (Nat.le_of_ble_eq_true rfl)
  rw [lg_entry_eq]
  generalize (lg_sl ([.ref h0]) ++ List.replicate (1 - (lg_sl ([.ref h0])).length) Slot.unset).toArray = ls at hl ⊢
  have hl : lv_has ls 1 [(0, .ref h0)] := hl
  refine lv_aload_n hx hb dX3_init_0 rfl (lv_at hl 0 rfl) ?_
  refine W.objInit hx hb hown (hts2 _ ko_X3) (hts2 _ ko_i) (hts2 _ ko_c) rfl (by rw [hml]; exact hl.1) rfl dX3_init_1 (Nat.le_of_ble_eq_true rfl) (Nat.le_of_ble_eq_true rfl) ?_
  refine W.eq (g2 := F0 m 4 ls []) rfl ?_
  refine xn_group false (cA := cI) (v := 170) (n := 170) (pc1 := 8) hx hb hown hin hK hA rfl (fun w hw => hts2 w (iw_X3 w hw)) (hts2 _ ka_int) (hK.2 0 _ rfl).2 (lv_at hl 0 rfl) hP hD hS 0 (by decide) (Nat.le_of_ble_eq_true rfl) rfl rfl (by decide +kernel) (hts2 _ kf_X3_11) dX3_init_4 (fun st k => lv_sipush hx hb dX3_init_5 (by decide) k) dX3_init_8 dX3_init_10 (by decide) (by decide) (by decide) (Nat.le_of_ble_eq_true rfl) (Nat.le_of_ble_eq_true rfl) (fun q0 H0 locs0 hP0 hD0 hS0 => ?_)
  clear hP hD hS
  have hP : va_P D vwCl [(h0, .inr (3, [.ref q0, .null, .null, .null, .int 0, .int 0])), (q0, .inl (cI, 170, .inl (fun _ => 0)))] H0 := hP0
  have hD : va_D A [(h0, .inr (3, [.ref q0, .null, .null, .null, .int 0, .int 0])), (q0, .inl (cI, 170, .inl (fun _ => 0)))] := hD0
  have hS : va_S A s.heap H0 locs0 := hS0
  clear hP0 hD0 hS0
  refine xn_group false (cA := cI) (v := 170) (n := 170) (pc1 := 17) hx hb hown hin hK hA rfl (fun w hw => hts2 w (iw_X3 w hw)) (hts2 _ ka_int) (hK.2 0 _ rfl).2 (lv_at hl 0 rfl) hP hD hS 1 (by decide) (Nat.le_of_ble_eq_true rfl) rfl rfl (by decide +kernel) (hts2 _ kf_X3_15) dX3_init_13 (fun st k => lv_sipush hx hb dX3_init_14 (by decide) k) dX3_init_17 dX3_init_19 (by decide) (by decide) (by decide) (Nat.le_of_ble_eq_true rfl) (Nat.le_of_ble_eq_true rfl) (fun q1 H1 locs1 hP1 hD1 hS1 => ?_)
  clear hP hD hS
  have hP : va_P D vwCl [(h0, .inr (3, [.ref q0, .ref q1, .null, .null, .int 0, .int 0])), (q0, .inl (cI, 170, .inl (fun _ => 0))), (q1, .inl (cI, 170, .inl (fun _ => 0)))] H1 := hP1
  have hD : va_D A [(h0, .inr (3, [.ref q0, .ref q1, .null, .null, .int 0, .int 0])), (q0, .inl (cI, 170, .inl (fun _ => 0))), (q1, .inl (cI, 170, .inl (fun _ => 0)))] := hD1
  have hS : va_S A s.heap H1 locs1 := hS1
  clear hP1 hD1 hS1
  refine xn_group false (cA := cI) (v := 170) (n := 170) (pc1 := 26) hx hb hown hin hK hA rfl (fun w hw => hts2 w (iw_X3 w hw)) (hts2 _ ka_int) (hK.2 0 _ rfl).2 (lv_at hl 0 rfl) hP hD hS 2 (by decide) (Nat.le_of_ble_eq_true rfl) rfl rfl (by decide +kernel) (hts2 _ kf_X3_18) dX3_init_22 (fun st k => lv_sipush hx hb dX3_init_23 (by decide) k) dX3_init_26 dX3_init_28 (by decide) (by decide) (by decide) (Nat.le_of_ble_eq_true rfl) (Nat.le_of_ble_eq_true rfl) (fun q2 H2 locs2 hP2 hD2 hS2 => ?_)
  clear hP hD hS
  have hP : va_P D vwCl [(h0, .inr (3, [.ref q0, .ref q1, .ref q2, .null, .int 0, .int 0])), (q0, .inl (cI, 170, .inl (fun _ => 0))), (q1, .inl (cI, 170, .inl (fun _ => 0))), (q2, .inl (cI, 170, .inl (fun _ => 0)))] H2 := hP2
  have hD : va_D A [(h0, .inr (3, [.ref q0, .ref q1, .ref q2, .null, .int 0, .int 0])), (q0, .inl (cI, 170, .inl (fun _ => 0))), (q1, .inl (cI, 170, .inl (fun _ => 0))), (q2, .inl (cI, 170, .inl (fun _ => 0)))] := hD2
  have hS : va_S A s.heap H2 locs2 := hS2
  clear hP2 hD2 hS2
  refine xn_group false (cA := cI) (v := 10) (n := 10) (pc1 := 34) hx hb hown hin hK hA rfl (fun w hw => hts2 w (iw_X3 w hw)) (hts2 _ ka_int) (hK.2 0 _ rfl).2 (lv_at hl 0 rfl) hP hD hS 3 (by decide) (Nat.le_of_ble_eq_true rfl) rfl rfl (by decide +kernel) (hts2 _ kf_X3_23) dX3_init_31 (fun st k => lv_bipush hx hb dX3_init_32 (by decide) k) dX3_init_34 dX3_init_36 (by decide) (by decide) (by decide) (Nat.le_of_ble_eq_true rfl) (Nat.le_of_ble_eq_true rfl) (fun q3 H3 locs3 hP3 hD3 hS3 => ?_)
  clear hP hD hS
  have hP : va_P D vwCl [(h0, .inr (3, [.ref q0, .ref q1, .ref q2, .ref q3, .int 0, .int 0])), (q0, .inl (cI, 170, .inl (fun _ => 0))), (q1, .inl (cI, 170, .inl (fun _ => 0))), (q2, .inl (cI, 170, .inl (fun _ => 0))), (q3, .inl (cI, 10, .inl (fun _ => 0)))] H3 := hP3
  have hD : va_D A [(h0, .inr (3, [.ref q0, .ref q1, .ref q2, .ref q3, .int 0, .int 0])), (q0, .inl (cI, 170, .inl (fun _ => 0))), (q1, .inl (cI, 170, .inl (fun _ => 0))), (q2, .inl (cI, 170, .inl (fun _ => 0))), (q3, .inl (cI, 10, .inl (fun _ => 0)))] := hD3
  have hS : va_S A s.heap H3 locs3 := hS3
  clear hP3 hD3 hS3
  refine W.widen (k := 4) (n := 520) (Nat.le_of_ble_eq_true rfl) (Nat.le_of_ble_eq_true rfl) ?_
  exact W.vret hx hb hr (fun t ht hW => ⟨⟨(fun k => [q0, q1, q2, q3].getD k 0), rfl, trivial, by rw [ht]; exact hP, hD⟩, hS.F ht⟩) hS.2.2 dX3_init_39
theorem dX4_init_0 : decode cX4_init 0 = .ok (.aload_n 0, 1) := by decide +kernel
theorem dX4_init_1 : decode cX4_init 1 = .ok (.invokespecial 3, 3) := by decide +kernel
theorem dX4_init_4 : decode cX4_init 4 = .ok (.aload_n 0, 1) := by decide +kernel
theorem dX4_init_5 : decode cX4_init 5 = .ok (.bipush 10, 2) := by decide +kernel
theorem dX4_init_7 : decode cX4_init 7 = .ok (.newarray .int, 2) := by decide +kernel
theorem dX4_init_9 : decode cX4_init 9 = .ok (.putfield 9, 3) := by decide +kernel
theorem dX4_init_12 : decode cX4_init 12 = .ok (.aload_n 0, 1) := by decide +kernel
theorem dX4_init_13 : decode cX4_init 13 = .ok (.bipush 10, 2) := by decide +kernel
theorem dX4_init_15 : decode cX4_init 15 = .ok (.newarray .int, 2) := by decide +kernel
theorem dX4_init_17 : decode cX4_init 17 = .ok (.putfield 15, 3) := by decide +kernel
theorem dX4_init_20 : decode cX4_init 20 = .ok (.aload_n 0, 1) := by decide +kernel
theorem dX4_init_21 : decode cX4_init 21 = .ok (.bipush 10, 2) := by decide +kernel
theorem dX4_init_23 : decode cX4_init 23 = .ok (.newarray .int, 2) := by decide +kernel
theorem dX4_init_25 : decode cX4_init 25 = .ok (.putfield 18, 3) := by decide +kernel
theorem dX4_init_28 : decode cX4_init 28 = .ok (.aload_n 0, 1) := by decide +kernel
theorem dX4_init_29 : decode cX4_init 29 = .ok (.bipush 10, 2) := by decide +kernel
theorem dX4_init_31 : decode cX4_init 31 = .ok (.newarray .int, 2) := by decide +kernel
theorem dX4_init_33 : decode cX4_init 33 = .ok (.putfield 21, 3) := by decide +kernel
theorem dX4_init_36 : decode cX4_init 36 = .ok (.aload_n 0, 1) := by decide +kernel
theorem dX4_init_37 : decode cX4_init 37 = .ok (.bipush 10, 2) := by decide +kernel
theorem dX4_init_39 : decode cX4_init 39 = .ok (.newarray .int, 2) := by decide +kernel
theorem dX4_init_41 : decode cX4_init 41 = .ok (.putfield 24, 3) := by decide +kernel
theorem dX4_init_44 : decode cX4_init 44 = .ok (.aload_n 0, 1) := by decide +kernel
theorem dX4_init_45 : decode cX4_init 45 = .ok (.bipush 10, 2) := by decide +kernel
theorem dX4_init_47 : decode cX4_init 47 = .ok (.newarray .int, 2) := by decide +kernel
theorem dX4_init_49 : decode cX4_init 49 = .ok (.putfield 27, 3) := by decide +kernel
theorem dX4_init_52 : decode cX4_init 52 = .ok (.return_, 1) := by decide +kernel
abbrev w0_X4 (h : Nat) : va_W := [(h, .inr (4, [.null, .null, .null, .null, .null, .null, .int 0]))]
abbrev w1_X4 (cI cZ : ClassId) (h : Nat) (a : Nat → Nat) : va_W := [(h, .inr (4, [.ref (a 0), .ref (a 1), .ref (a 2), .ref (a 3), .ref (a 4), .ref (a 5), .int 0])), (a 0, .inl (cI, 10, .inl (fun _ => 0))), (a 1, .inl (cI, 10, .inl (fun _ => 0))), (a 2, .inl (cI, 10, .inl (fun _ => 0))), (a 3, .inl (cI, 10, .inl (fun _ => 0))), (a 4, .inl (cI, 10, .inl (fun _ => 0))), (a 5, .inl (cI, 10, .inl (fun _ => 0)))]
set_option maxHeartbeats 4000000 in
set_option maxRecDepth 100000 in
theorem c_X4_init (l : Launch) (D : va_G) (cI cZ : ClassId) (gs : Nat → Nat) (h0 sz : Nat) : Met l yX4_init (wm yX4_init cX4_init 1 2) { frames := 1, cells := 6, slots := 60, locals := 12 } (va_Pc [.ref h0] (iPre D cI cZ gs (va_A (w0_X4 h0) sz) (w0_X4 h0) sz)) (iQ D (va_A (w0_X4 h0) sz) (w1_X4 cI cZ h0)) 6 60 (va_A (w0_X4 h0) sz) := by
  refine Met.ofW (cc := cX4_init) (maxL := 1) (ret := rety 2) (by decide) rfl ?_
  intro p e s m args below meth c s₁ B hml hv
  obtain ⟨rfl, hsz, hP, hK, hN, hst, hD0⟩ := hv
  have hx := B.exec
  have hb := B.bytes
  have hr := B.returns
  have hts := atoms_spec (ws := wm yX4_init cX4_init 1 2) B.pre
  have hts2 : ∀ w ∈ wA, w.before _ s = true := fun w hw => hts w (List.mem_cons_of_mem _ hw)
  have hown : s.vm.findClass RX4 = some m.cls := findClass_of_methodNamed B.named
  have hlocks := B.notSynchronized
  have hin : meth.name = "<init>" := (name_of_methodNamed B.named B.method).1
  subst hsz
  have hD := hD0.self (sz := s.heap.size)
  generalize hAe : va_A (w0_X4 h0) s.heap.size = A at hD hst ⊢
  have hA : ∀ q : Nat, s.heap.size ≤ q → A q := fun q h => by rw [← hAe]; exact Or.inr h
  have hS : va_S A s.heap s.heap [] := va_S.rf
  have hl := lv_entry ([.ref h0]) (n := 1) (Nat.le_of_ble_eq_true rfl)
  rw [lg_entry_eq]
  generalize (lg_sl ([.ref h0]) ++ List.replicate (1 - (lg_sl ([.ref h0])).length) Slot.unset).toArray = ls at hl ⊢
  have hl : lv_has ls 1 [(0, .ref h0)] := hl
  refine lv_aload_n hx hb dX4_init_0 rfl (lv_at hl 0 rfl) ?_
  refine W.objInit hx hb hown (hts2 _ ko_X4) (hts2 _ ko_i) (hts2 _ ko_c) rfl (by rw [hml]; exact hl.1) rfl dX4_init_1 (Nat.le_of_ble_eq_true rfl) (Nat.le_of_ble_eq_true rfl) ?_
  refine W.eq (g2 := F0 m 4 ls []) rfl ?_
  refine xn_group false (cA := cI) (v := 10) (n := 10) (pc1 := 7) hx hb hown hin hK hA rfl (fun w hw => hts2 w (iw_X4 w hw)) (hts2 _ ka_int) (hK.2 0 _ rfl).2 (lv_at hl 0 rfl) hP hD hS 0 (by decide) (Nat.le_of_ble_eq_true rfl) rfl rfl (by decide +kernel) (hts2 _ kf_X4_9) dX4_init_4 (fun st k => lv_bipush hx hb dX4_init_5 (by decide) k) dX4_init_7 dX4_init_9 (by decide) (by decide) (by decide) (Nat.le_of_ble_eq_true rfl) (Nat.le_of_ble_eq_true rfl) (fun q0 H0 locs0 hP0 hD0 hS0 => ?_)
  clear hP hD hS
  have hP : va_P D vwCl [(h0, .inr (4, [.ref q0, .null, .null, .null, .null, .null, .int 0])), (q0, .inl (cI, 10, .inl (fun _ => 0)))] H0 := hP0
  have hD : va_D A [(h0, .inr (4, [.ref q0, .null, .null, .null, .null, .null, .int 0])), (q0, .inl (cI, 10, .inl (fun _ => 0)))] := hD0
  have hS : va_S A s.heap H0 locs0 := hS0
  clear hP0 hD0 hS0
  refine xn_group false (cA := cI) (v := 10) (n := 10) (pc1 := 15) hx hb hown hin hK hA rfl (fun w hw => hts2 w (iw_X4 w hw)) (hts2 _ ka_int) (hK.2 0 _ rfl).2 (lv_at hl 0 rfl) hP hD hS 1 (by decide) (Nat.le_of_ble_eq_true rfl) rfl rfl (by decide +kernel) (hts2 _ kf_X4_15) dX4_init_12 (fun st k => lv_bipush hx hb dX4_init_13 (by decide) k) dX4_init_15 dX4_init_17 (by decide) (by decide) (by decide) (Nat.le_of_ble_eq_true rfl) (Nat.le_of_ble_eq_true rfl) (fun q1 H1 locs1 hP1 hD1 hS1 => ?_)
  clear hP hD hS
  have hP : va_P D vwCl [(h0, .inr (4, [.ref q0, .ref q1, .null, .null, .null, .null, .int 0])), (q0, .inl (cI, 10, .inl (fun _ => 0))), (q1, .inl (cI, 10, .inl (fun _ => 0)))] H1 := hP1
  have hD : va_D A [(h0, .inr (4, [.ref q0, .ref q1, .null, .null, .null, .null, .int 0])), (q0, .inl (cI, 10, .inl (fun _ => 0))), (q1, .inl (cI, 10, .inl (fun _ => 0)))] := hD1
  have hS : va_S A s.heap H1 locs1 := hS1
  clear hP1 hD1 hS1
  refine xn_group false (cA := cI) (v := 10) (n := 10) (pc1 := 23) hx hb hown hin hK hA rfl (fun w hw => hts2 w (iw_X4 w hw)) (hts2 _ ka_int) (hK.2 0 _ rfl).2 (lv_at hl 0 rfl) hP hD hS 2 (by decide) (Nat.le_of_ble_eq_true rfl) rfl rfl (by decide +kernel) (hts2 _ kf_X4_18) dX4_init_20 (fun st k => lv_bipush hx hb dX4_init_21 (by decide) k) dX4_init_23 dX4_init_25 (by decide) (by decide) (by decide) (Nat.le_of_ble_eq_true rfl) (Nat.le_of_ble_eq_true rfl) (fun q2 H2 locs2 hP2 hD2 hS2 => ?_)
  clear hP hD hS
  have hP : va_P D vwCl [(h0, .inr (4, [.ref q0, .ref q1, .ref q2, .null, .null, .null, .int 0])), (q0, .inl (cI, 10, .inl (fun _ => 0))), (q1, .inl (cI, 10, .inl (fun _ => 0))), (q2, .inl (cI, 10, .inl (fun _ => 0)))] H2 := hP2
  have hD : va_D A [(h0, .inr (4, [.ref q0, .ref q1, .ref q2, .null, .null, .null, .int 0])), (q0, .inl (cI, 10, .inl (fun _ => 0))), (q1, .inl (cI, 10, .inl (fun _ => 0))), (q2, .inl (cI, 10, .inl (fun _ => 0)))] := hD2
  have hS : va_S A s.heap H2 locs2 := hS2
  clear hP2 hD2 hS2
  refine xn_group false (cA := cI) (v := 10) (n := 10) (pc1 := 31) hx hb hown hin hK hA rfl (fun w hw => hts2 w (iw_X4 w hw)) (hts2 _ ka_int) (hK.2 0 _ rfl).2 (lv_at hl 0 rfl) hP hD hS 3 (by decide) (Nat.le_of_ble_eq_true rfl) rfl rfl (by decide +kernel) (hts2 _ kf_X4_21) dX4_init_28 (fun st k => lv_bipush hx hb dX4_init_29 (by decide) k) dX4_init_31 dX4_init_33 (by decide) (by decide) (by decide) (Nat.le_of_ble_eq_true rfl) (Nat.le_of_ble_eq_true rfl) (fun q3 H3 locs3 hP3 hD3 hS3 => ?_)
  clear hP hD hS
  have hP : va_P D vwCl [(h0, .inr (4, [.ref q0, .ref q1, .ref q2, .ref q3, .null, .null, .int 0])), (q0, .inl (cI, 10, .inl (fun _ => 0))), (q1, .inl (cI, 10, .inl (fun _ => 0))), (q2, .inl (cI, 10, .inl (fun _ => 0))), (q3, .inl (cI, 10, .inl (fun _ => 0)))] H3 := hP3
  have hD : va_D A [(h0, .inr (4, [.ref q0, .ref q1, .ref q2, .ref q3, .null, .null, .int 0])), (q0, .inl (cI, 10, .inl (fun _ => 0))), (q1, .inl (cI, 10, .inl (fun _ => 0))), (q2, .inl (cI, 10, .inl (fun _ => 0))), (q3, .inl (cI, 10, .inl (fun _ => 0)))] := hD3
  have hS : va_S A s.heap H3 locs3 := hS3
  clear hP3 hD3 hS3
  refine xn_group false (cA := cI) (v := 10) (n := 10) (pc1 := 39) hx hb hown hin hK hA rfl (fun w hw => hts2 w (iw_X4 w hw)) (hts2 _ ka_int) (hK.2 0 _ rfl).2 (lv_at hl 0 rfl) hP hD hS 4 (by decide) (Nat.le_of_ble_eq_true rfl) rfl rfl (by decide +kernel) (hts2 _ kf_X4_24) dX4_init_36 (fun st k => lv_bipush hx hb dX4_init_37 (by decide) k) dX4_init_39 dX4_init_41 (by decide) (by decide) (by decide) (Nat.le_of_ble_eq_true rfl) (Nat.le_of_ble_eq_true rfl) (fun q4 H4 locs4 hP4 hD4 hS4 => ?_)
  clear hP hD hS
  have hP : va_P D vwCl [(h0, .inr (4, [.ref q0, .ref q1, .ref q2, .ref q3, .ref q4, .null, .int 0])), (q0, .inl (cI, 10, .inl (fun _ => 0))), (q1, .inl (cI, 10, .inl (fun _ => 0))), (q2, .inl (cI, 10, .inl (fun _ => 0))), (q3, .inl (cI, 10, .inl (fun _ => 0))), (q4, .inl (cI, 10, .inl (fun _ => 0)))] H4 := hP4
  have hD : va_D A [(h0, .inr (4, [.ref q0, .ref q1, .ref q2, .ref q3, .ref q4, .null, .int 0])), (q0, .inl (cI, 10, .inl (fun _ => 0))), (q1, .inl (cI, 10, .inl (fun _ => 0))), (q2, .inl (cI, 10, .inl (fun _ => 0))), (q3, .inl (cI, 10, .inl (fun _ => 0))), (q4, .inl (cI, 10, .inl (fun _ => 0)))] := hD4
  have hS : va_S A s.heap H4 locs4 := hS4
  clear hP4 hD4 hS4
  refine xn_group false (cA := cI) (v := 10) (n := 10) (pc1 := 47) hx hb hown hin hK hA rfl (fun w hw => hts2 w (iw_X4 w hw)) (hts2 _ ka_int) (hK.2 0 _ rfl).2 (lv_at hl 0 rfl) hP hD hS 5 (by decide) (Nat.le_of_ble_eq_true rfl) rfl rfl (by decide +kernel) (hts2 _ kf_X4_27) dX4_init_44 (fun st k => lv_bipush hx hb dX4_init_45 (by decide) k) dX4_init_47 dX4_init_49 (by decide) (by decide) (by decide) (Nat.le_of_ble_eq_true rfl) (Nat.le_of_ble_eq_true rfl) (fun q5 H5 locs5 hP5 hD5 hS5 => ?_)
  clear hP hD hS
  have hP : va_P D vwCl [(h0, .inr (4, [.ref q0, .ref q1, .ref q2, .ref q3, .ref q4, .ref q5, .int 0])), (q0, .inl (cI, 10, .inl (fun _ => 0))), (q1, .inl (cI, 10, .inl (fun _ => 0))), (q2, .inl (cI, 10, .inl (fun _ => 0))), (q3, .inl (cI, 10, .inl (fun _ => 0))), (q4, .inl (cI, 10, .inl (fun _ => 0))), (q5, .inl (cI, 10, .inl (fun _ => 0)))] H5 := hP5
  have hD : va_D A [(h0, .inr (4, [.ref q0, .ref q1, .ref q2, .ref q3, .ref q4, .ref q5, .int 0])), (q0, .inl (cI, 10, .inl (fun _ => 0))), (q1, .inl (cI, 10, .inl (fun _ => 0))), (q2, .inl (cI, 10, .inl (fun _ => 0))), (q3, .inl (cI, 10, .inl (fun _ => 0))), (q4, .inl (cI, 10, .inl (fun _ => 0))), (q5, .inl (cI, 10, .inl (fun _ => 0)))] := hD5
  have hS : va_S A s.heap H5 locs5 := hS5
  clear hP5 hD5 hS5
  refine W.widen (k := 6) (n := 60) (Nat.le_of_ble_eq_true rfl) (Nat.le_of_ble_eq_true rfl) ?_
  exact W.vret hx hb hr (fun t ht hW => ⟨⟨(fun k => [q0, q1, q2, q3, q4, q5].getD k 0), rfl, trivial, by rw [ht]; exact hP, hD⟩, hS.F ht⟩) hS.2.2 dX4_init_52
