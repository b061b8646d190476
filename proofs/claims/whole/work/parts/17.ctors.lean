def kT : List WE := [.inr (1, [some 1]), .inl (false, 60)]
def FT_X1i : List (Nat × Nat × Nat) := (13, 9, 41) :: FT_X1
theorem fa_X1i : ∀ (s : State) (args : Array Value), (∀ w ∈ wA, w.before args s = true) → xNw s → (∀ q ∈ FT_X1i, xFt s args RX1 q) ∧ (∀ q ∈ PT_X1, xPt s args RX1 q) ∧ ∀ q ∈ KT_X1, (Jvm.Cond.constant RX1 q.1 q.2).before args s = true :=
  fun s args hts hN => ⟨List.forall_mem_cons.mpr ⟨(⟨by decide, hts _ kf_X1_13⟩ : (_ ∧ _)), (fa_X1 s args hts hN).1⟩, (fa_X1 s args hts hN).2⟩
section
variable {p : Program} {l : Launch} {e : Env} {R : Room} {s : State} {m : MethodId} {args : Array Value} {below : List Frame} {meth : Method} {c : Code} {cells slots : Nat} {Q : State → Prop} {D : va_G} {g : Nat → Nat} {cI cZ : ClassId} {A : Nat → Prop} {R0 : RS}
def L_X1_tail : List CE := [(12, .iconst 0, 13, [], 0), (13, .istore_n 1, 14, [], 0), (14, .iload_n 1, 15, [], 0), (15, .bipush 10, 17, [], 10), (17, .if_icmp .ge 47, 20, [64], 0), (20, .iconst 0, 21, [], 0), (21, .istore_n 2, 22, [], 0), (22, .iload_n 2, 23, [], 0), (23, .bipush 6, 25, [], 6), (25, .if_icmp .ge 33, 28, [58], 0), (28, .aload_n 0, 29, [], 0), (29, .getfield 9, 32, [1, 0], 0), (32, .iload_n 1, 33, [], 0), (33, .bipush 6, 35, [], 6), (35, .imul, 36, [], 0), (36, .iload_n 2, 37, [], 0), (37, .iadd, 38, [], 0), (38, .iload_n 2, 39, [], 0), (39, .ifCond .ne 7, 42, [46], 0), (42, .iload_n 1, 43, [], 0), (43, .goto 8, 46, [51], 0), (46, .getstatic 13, 49, [41], 0), (49, .iload_n 2, 50, [], 0), (50, .iaload, 51, [], 0), (51, .iastore, 52, [], 0), (52, .iinc 2 1, 55, [], 1), (55, .goto (-33), 58, [22], 0), (58, .iinc 1 1, 61, [], 1), (61, .goto (-47), 64, [14], 0), (64, .return_, 65, [], 0)]
theorem ok_X1_tail : ∀ q ∈ L_X1_tail, rok cX1_init 3 2 q = true := by decide +kernel
theorem fk_X1_tail : ∀ q ∈ L_X1_tail, fck FT_X1i PT_X1 KT_X1 q = true := by decide +kernel
noncomputable def cs_X1_tail : List CT := []
noncomputable def b_X1_tail_22 (k14 : BT) : Nat → BT
  | 0 => fun _ _ _ => none
  | n + 1 => fun lv st S => brn kT cs_X1_tail L_X1_tail [14, 22] (dsp [(14, [0, 1], k14), (22, [0, 1, 2], b_X1_tail_22 k14 n)]) 32 [] 22 lv st S
theorem s_X1_tail_22 (M : xM p l e R s m args below meth c cells slots Q D kT g cI cZ A 3 cX1_init RX1 2 cs_X1_tail L_X1_tail R0) {k14 : BT} (hk14 : ∀ lv st S, k14 lv st S = some R0 → xG p l e R s m args below meth c cells slots Q D kT g cI cZ A 3 14 lv st S) : ∀ n lv st S, b_X1_tail_22 k14 n lv st S = some R0 → xG p l e R s m args below meth c cells slots Q D kT g cI cZ A 3 22 lv st S := by
  intro n
  induction n with
  | zero => intro lv st S h; cases h
  | succ n ih => intro lv st S h; exact xa_blk M (List.forall_mem_cons.mpr ⟨fun lv st S h => (hk14) lv st S h, List.forall_mem_cons.mpr ⟨fun lv st S h => (ih) lv st S h, fun _ q => absurd q List.not_mem_nil⟩⟩) h
noncomputable def b_X1_tail_14 : Nat → BT
  | 0 => fun _ _ _ => none
  | n + 1 => fun lv st S => brn kT cs_X1_tail L_X1_tail [14, 22] (dsp [(22, [0, 1, 2], b_X1_tail_22 (b_X1_tail_14 n) fu)]) 32 [] 14 lv st S
theorem s_X1_tail_14 (M : xM p l e R s m args below meth c cells slots Q D kT g cI cZ A 3 cX1_init RX1 2 cs_X1_tail L_X1_tail R0) : ∀ n lv st S, b_X1_tail_14 n lv st S = some R0 → xG p l e R s m args below meth c cells slots Q D kT g cI cZ A 3 14 lv st S := by
  intro n
  induction n with
  | zero => intro lv st S h; cases h
  | succ n ih => intro lv st S h; exact xa_blk M (List.forall_mem_cons.mpr ⟨fun lv st S h => (s_X1_tail_22 M ih fu) lv st S h, fun _ q => absurd q List.not_mem_nil⟩) h
noncomputable def m_X1_tail : MT := fun As S => brn kT cs_X1_tail L_X1_tail [14, 22] (dsp [(14, [0, 1], b_X1_tail_14 fu)]) 32 [] 12 (zipN 0 As) [] S
theorem s_X1_tail (M : xM p l e R s m args below meth c cells slots Q D kT g cI cZ A 3 cX1_init RX1 2 cs_X1_tail L_X1_tail R0) {As : List AV} {S : XS} (h : m_X1_tail As S = some R0) : xG p l e R s m args below meth c cells slots Q D kT g cI cZ A 3 12 (zipN 0 As) [] S := xa_blk M (List.forall_mem_cons.mpr ⟨fun lv st S h => (s_X1_tail_14 M fu) lv st S h, fun _ q => absurd q List.not_mem_nil⟩) h
def L_X6_tail : List CE := [(196, .iconst 0, 197, [], 0), (197, .istore_n 1, 198, [], 0), (198, .iload_n 1, 199, [], 0), (199, .bipush 10, 201, [], 10), (201, .if_icmp .ge 43, 204, [244], 0), (204, .aload_n 0, 205, [], 0), (205, .getfield 29, 208, [6, 8], 0), (208, .bipush 6, 210, [], 6), (210, .iload_n 1, 211, [], 0), (211, .imul, 212, [], 0), (212, .iload_n 1, 213, [], 0), (213, .iastore, 214, [], 0), (214, .aload_n 0, 215, [], 0), (215, .getfield 29, 218, [6, 8], 0), (218, .bipush 6, 220, [], 6), (220, .iload_n 1, 221, [], 0), (221, .imul, 222, [], 0), (222, .iconst 1, 223, [], 1), (223, .iadd, 224, [], 0), (224, .iconst 1, 225, [], 1), (225, .iastore, 226, [], 0), (226, .aload_n 0, 227, [], 0), (227, .getfield 29, 230, [6, 8], 0), (230, .bipush 6, 232, [], 6), (232, .iload_n 1, 233, [], 0), (233, .imul, 234, [], 0), (234, .iconst 3, 235, [], 3), (235, .iadd, 236, [], 0), (236, .iconst 2, 237, [], 2), (237, .iastore, 238, [], 0), (238, .iinc 1 1, 241, [], 1), (241, .goto (-43), 244, [198], 0), (244, .return_, 245, [], 0)]
theorem ok_X6_tail : ∀ q ∈ L_X6_tail, rok cX6_init 2 2 q = true := by decide +kernel
theorem fk_X6_tail : ∀ q ∈ L_X6_tail, fck FT_X6 PT_X6 KT_X6 q = true := by decide +kernel
noncomputable def cs_X6_tail : List CT := []
noncomputable def b_X6_tail_198 : Nat → BT
  | 0 => fun _ _ _ => none
  | n + 1 => fun lv st S => brn mT cs_X6_tail L_X6_tail [198] (dsp [(198, [0, 1], b_X6_tail_198 n)]) 35 [] 198 lv st S
theorem s_X6_tail_198 (M : xM p l e R s m args below meth c cells slots Q D mT g cI cZ A 2 cX6_init RX6 2 cs_X6_tail L_X6_tail R0) : ∀ n lv st S, b_X6_tail_198 n lv st S = some R0 → xG p l e R s m args below meth c cells slots Q D mT g cI cZ A 2 198 lv st S := by
  intro n
  induction n with
  | zero => intro lv st S h; cases h
  | succ n ih => intro lv st S h; exact xa_blk M (List.forall_mem_cons.mpr ⟨fun lv st S h => (ih) lv st S h, fun _ q => absurd q List.not_mem_nil⟩) h
noncomputable def m_X6_tail : MT := fun As S => brn mT cs_X6_tail L_X6_tail [198] (dsp [(198, [0, 1], b_X6_tail_198 fu)]) 35 [] 196 (zipN 0 As) [] S
theorem s_X6_tail (M : xM p l e R s m args below meth c cells slots Q D mT g cI cZ A 2 cX6_init RX6 2 cs_X6_tail L_X6_tail R0) {As : List AV} {S : XS} (h : m_X6_tail As S = some R0) : xG p l e R s m args below meth c cells slots Q D mT g cI cZ A 2 196 (zipN 0 As) [] S := xa_blk M (List.forall_mem_cons.mpr ⟨fun lv st S h => (s_X6_tail_198 M fu) lv st S h, fun _ q => absurd q List.not_mem_nil⟩) h
end
theorem dX1_init_0 : decode cX1_init 0 = .ok (.aload_n 0, 1) := by decide +kernel
theorem dX1_init_1 : decode cX1_init 1 = .ok (.invokespecial 1, 3) := by decide +kernel
theorem dX1_init_4 : decode cX1_init 4 = .ok (.aload_n 0, 1) := by decide +kernel
theorem dX1_init_5 : decode cX1_init 5 = .ok (.bipush 60, 2) := by decide +kernel
theorem dX1_init_7 : decode cX1_init 7 = .ok (.newarray .int, 2) := by decide +kernel
theorem dX1_init_9 : decode cX1_init 9 = .ok (.putfield 9, 3) := by decide +kernel
theorem dX1_init_12 : decode cX1_init 12 = .ok (.iconst 0, 1) := by decide +kernel
theorem dX1_init_13 : decode cX1_init 13 = .ok (.istore_n 1, 1) := by decide +kernel
theorem dX1_init_14 : decode cX1_init 14 = .ok (.iload_n 1, 1) := by decide +kernel
theorem dX1_init_15 : decode cX1_init 15 = .ok (.bipush 10, 2) := by decide +kernel
theorem dX1_init_17 : decode cX1_init 17 = .ok (.if_icmp .ge 47, 3) := by decide +kernel
theorem dX1_init_20 : decode cX1_init 20 = .ok (.iconst 0, 1) := by decide +kernel
theorem dX1_init_21 : decode cX1_init 21 = .ok (.istore_n 2, 1) := by decide +kernel
theorem dX1_init_22 : decode cX1_init 22 = .ok (.iload_n 2, 1) := by decide +kernel
theorem dX1_init_23 : decode cX1_init 23 = .ok (.bipush 6, 2) := by decide +kernel
theorem dX1_init_25 : decode cX1_init 25 = .ok (.if_icmp .ge 33, 3) := by decide +kernel
theorem dX1_init_28 : decode cX1_init 28 = .ok (.aload_n 0, 1) := by decide +kernel
theorem dX1_init_29 : decode cX1_init 29 = .ok (.getfield 9, 3) := by decide +kernel
theorem dX1_init_32 : decode cX1_init 32 = .ok (.iload_n 1, 1) := by decide +kernel
theorem dX1_init_33 : decode cX1_init 33 = .ok (.bipush 6, 2) := by decide +kernel
theorem dX1_init_35 : decode cX1_init 35 = .ok (.imul, 1) := by decide +kernel
theorem dX1_init_36 : decode cX1_init 36 = .ok (.iload_n 2, 1) := by decide +kernel
theorem dX1_init_37 : decode cX1_init 37 = .ok (.iadd, 1) := by decide +kernel
theorem dX1_init_38 : decode cX1_init 38 = .ok (.iload_n 2, 1) := by decide +kernel
theorem dX1_init_39 : decode cX1_init 39 = .ok (.ifCond .ne 7, 3) := by decide +kernel
theorem dX1_init_42 : decode cX1_init 42 = .ok (.iload_n 1, 1) := by decide +kernel
theorem dX1_init_43 : decode cX1_init 43 = .ok (.goto 8, 3) := by decide +kernel
theorem dX1_init_46 : decode cX1_init 46 = .ok (.getstatic 13, 3) := by decide +kernel
theorem dX1_init_49 : decode cX1_init 49 = .ok (.iload_n 2, 1) := by decide +kernel
theorem dX1_init_50 : decode cX1_init 50 = .ok (.iaload, 1) := by decide +kernel
theorem dX1_init_51 : decode cX1_init 51 = .ok (.iastore, 1) := by decide +kernel
theorem dX1_init_52 : decode cX1_init 52 = .ok (.iinc 2 1, 3) := by decide +kernel
theorem dX1_init_55 : decode cX1_init 55 = .ok (.goto (-33), 3) := by decide +kernel
theorem dX1_init_58 : decode cX1_init 58 = .ok (.iinc 1 1, 3) := by decide +kernel
theorem dX1_init_61 : decode cX1_init 61 = .ok (.goto (-47), 3) := by decide +kernel
theorem dX1_init_64 : decode cX1_init 64 = .ok (.return_, 1) := by decide +kernel
abbrev w0_X1 (h : Nat) : va_W := [(h, .inr (1, [.null]))]
abbrev w1_X1 (cI cZ : ClassId) (f : Nat → Int32) (h : Nat) (a : Nat → Nat) : va_W := [(h, .inr (1, [.ref (a 0)])), (a 0, .inl (cI, 60, .inl (f)))]
set_option maxHeartbeats 4000000 in
set_option maxRecDepth 100000 in
theorem c_X1_init (l : Launch) (D : va_G) (cI cZ : ClassId) (gs : Nat → Nat) (h0 sz : Nat) {R0 : RS} (htl : m_X1_tail [.inr 0] (fun _ _ => 0) = some R0) (hR0 : R0.2 = some none) : Met l yX1_init (wm yX1_init cX1_init 3 2) { frames := 1, cells := 1, slots := 60, locals := 12 } (va_Pc [.ref h0] (iPre D cI cZ gs (va_A (w0_X1 h0) sz) (w0_X1 h0) sz)) (iQ D (va_A (w0_X1 h0) sz) (w1_X1 cI cZ (R0.1 1) h0)) 1 60 (va_A (w0_X1 h0) sz) := by
  refine Met.ofW (cc := cX1_init) (maxL := 3) (ret := rety 2) (by decide) rfl ?_
  intro p e s m args below meth c s₁ B hml hv
  obtain ⟨rfl, hsz, hP, hK, hN, hst, hD0⟩ := hv
  have hx := B.exec
  have hb := B.bytes
  have hr := B.returns
  have hts := atoms_spec (ws := wm yX1_init cX1_init 3 2) B.pre
  have hts2 : ∀ w ∈ wA, w.before _ s = true := fun w hw => hts w (List.mem_cons_of_mem _ hw)
  have hown : s.vm.findClass RX1 = some m.cls := findClass_of_methodNamed B.named
  have hlocks := B.notSynchronized
  have hin : meth.name = "<init>" := (name_of_methodNamed B.named B.method).1
  subst hsz
  have hD := hD0.self (sz := s.heap.size)
  generalize hAe : va_A (w0_X1 h0) s.heap.size = A at hD hst ⊢
  have hA : ∀ q : Nat, s.heap.size ≤ q → A q := fun q h => by rw [← hAe]; exact Or.inr h
  have hS : va_S A s.heap s.heap [] := va_S.rf
  have hl := lv_entry ([.ref h0]) (n := 3) (Nat.le_of_ble_eq_true rfl)
  rw [lg_entry_eq]
  generalize (lg_sl ([.ref h0]) ++ List.replicate (3 - (lg_sl ([.ref h0])).length) Slot.unset).toArray = ls at hl ⊢
  have hl : lv_has ls 3 [(0, .ref h0)] := hl
  refine lv_aload_n hx hb dX1_init_0 rfl (lv_at hl 0 rfl) ?_
  refine W.objInit hx hb hown (hts2 _ ko_X1) (hts2 _ ko_i) (hts2 _ ko_c) rfl (by rw [hml]; exact hl.1) rfl dX1_init_1 (Nat.le_of_ble_eq_true rfl) (Nat.le_of_ble_eq_true rfl) ?_
  refine W.eq (g2 := F0 m 4 ls []) rfl ?_
  refine xn_group false (cA := cI) (v := 60) (n := 60) (pc1 := 7) hx hb hown hin hK hA rfl (fun w hw => hts2 w (iw_X1 w hw)) (hts2 _ ka_int) (hK.2 0 _ rfl).2 (lv_at hl 0 rfl) hP hD hS 0 (by decide) (Nat.le_of_ble_eq_true rfl) rfl rfl (by decide +kernel) (hts2 _ kf_X1_9) dX1_init_4 (fun st k => lv_bipush hx hb dX1_init_5 (by decide) k) dX1_init_7 dX1_init_9 (by decide) (by decide) (by decide) (Nat.le_of_ble_eq_true rfl) (Nat.le_of_ble_eq_true rfl) (fun q0 H0 locs0 hP0 hD0 hS0 => ?_)
  clear hP hD hS
  have hP : va_P D vwCl [(h0, .inr (1, [.ref q0])), (q0, .inl (cI, 60, .inl (fun _ => 0)))] H0 := hP0
  have hD : va_D A [(h0, .inr (1, [.ref q0])), (q0, .inl (cI, 60, .inl (fun _ => 0)))] := hD0
  have hS : va_S A s.heap H0 locs0 := hS0
  clear hP0 hD0 hS0
  obtain ⟨gt, hgt⟩ : ∃ gt : Nat → Nat, gt = (fun k => if k = 0 then h0 else if k = 1 then q0 else gs k) := ⟨_, rfl⟩
  have hP : va_P D vwCl (ww kT gt cI cZ (fun _ _ => 0)) H0 := by rw [hgt]; exact hP
  have hD : va_D A (ww kT gt cI cZ (fun _ _ => 0)) := by rw [hgt]; exact hD
  have hst2 : xSt gt A s s.heap := hst.re (by rw [hgt]; rfl) (by rw [hgt]; rfl) (by rw [hgt]; rfl)
  have C0 : xC p s m c D kT gt cI cZ A 3 cX1_init RX1 := ⟨hx, hb, hml, hown, hK, ww_D hD, hst2⟩
  obtain ⟨f1, f2, f3⟩ := fa_X1i s _ hts2 hN
  refine W.widen (k := 1) (n := 60) (Nat.le_of_ble_eq_true rfl) (Nat.le_of_ble_eq_true rfl) ?_
  refine s_X1_tail (As := [.inr 0]) (R0 := R0) ⟨C0, all_get (fun _ q => absurd q List.not_mem_nil), ?_, ok_X1_tail, fun q hq => xF_of f1 f2 f3 (fk_X1_tail q hq)⟩ htl _ _ ls hP hS (by rw [hgt]; exact hl)
  intro pc S v H locs ls e0 hP hS hd
  subst e0
  cases v with
  | none =>
    obtain ⟨hd, -⟩ := hd
    exact W.vret hx hb hr (fun t ht hW => ⟨⟨(fun k => [q0].getD k 0), rfl, trivial, by rw [ht]; rw [hgt] at hP; exact hP, by have h9 := ww_D hD S; rw [hgt] at h9; exact h9⟩, hS.F ht⟩) hS.2.2 hd
  | some v =>
    cases v with
    | inl x => exact absurd hd.2.1 (by decide)
    | inr x => exact absurd hd.2 (by decide)
theorem dX6_init_0 : decode cX6_init 0 = .ok (.aload_n 0, 1) := by decide +kernel
theorem dX6_init_1 : decode cX6_init 1 = .ok (.invokespecial 1, 3) := by decide +kernel
theorem dX6_init_4 : decode cX6_init 4 = .ok (.aload_n 0, 1) := by decide +kernel
theorem dX6_init_5 : decode cX6_init 5 = .ok (.bipush 40, 2) := by decide +kernel
theorem dX6_init_7 : decode cX6_init 7 = .ok (.newarray .int, 2) := by decide +kernel
theorem dX6_init_9 : decode cX6_init 9 = .ok (.putfield 7, 3) := by decide +kernel
theorem dX6_init_12 : decode cX6_init 12 = .ok (.aload_n 0, 1) := by decide +kernel
theorem dX6_init_13 : decode cX6_init 13 = .ok (.bipush 40, 2) := by decide +kernel
theorem dX6_init_15 : decode cX6_init 15 = .ok (.newarray .int, 2) := by decide +kernel
theorem dX6_init_17 : decode cX6_init 17 = .ok (.putfield 13, 3) := by decide +kernel
theorem dX6_init_20 : decode cX6_init 20 = .ok (.aload_n 0, 1) := by decide +kernel
theorem dX6_init_21 : decode cX6_init 21 = .ok (.bipush 40, 2) := by decide +kernel
theorem dX6_init_23 : decode cX6_init 23 = .ok (.newarray .int, 2) := by decide +kernel
theorem dX6_init_25 : decode cX6_init 25 = .ok (.putfield 16, 3) := by decide +kernel
theorem dX6_init_28 : decode cX6_init 28 = .ok (.aload_n 0, 1) := by decide +kernel
theorem dX6_init_29 : decode cX6_init 29 = .ok (.bipush 40, 2) := by decide +kernel
theorem dX6_init_31 : decode cX6_init 31 = .ok (.newarray .int, 2) := by decide +kernel
theorem dX6_init_33 : decode cX6_init 33 = .ok (.putfield 19, 3) := by decide +kernel
theorem dX6_init_36 : decode cX6_init 36 = .ok (.aload_n 0, 1) := by decide +kernel
theorem dX6_init_37 : decode cX6_init 37 = .ok (.bipush 40, 2) := by decide +kernel
theorem dX6_init_39 : decode cX6_init 39 = .ok (.newarray .int, 2) := by decide +kernel
theorem dX6_init_41 : decode cX6_init 41 = .ok (.putfield 22, 3) := by decide +kernel
theorem dX6_init_44 : decode cX6_init 44 = .ok (.aload_n 0, 1) := by decide +kernel
theorem dX6_init_45 : decode cX6_init 45 = .ok (.bipush 40, 2) := by decide +kernel
theorem dX6_init_47 : decode cX6_init 47 = .ok (.newarray .boolean, 2) := by decide +kernel
theorem dX6_init_49 : decode cX6_init 49 = .ok (.putfield 25, 3) := by decide +kernel
theorem dX6_init_52 : decode cX6_init 52 = .ok (.aload_n 0, 1) := by decide +kernel
theorem dX6_init_53 : decode cX6_init 53 = .ok (.bipush 60, 2) := by decide +kernel
theorem dX6_init_55 : decode cX6_init 55 = .ok (.newarray .int, 2) := by decide +kernel
theorem dX6_init_57 : decode cX6_init 57 = .ok (.putfield 29, 3) := by decide +kernel
theorem dX6_init_60 : decode cX6_init 60 = .ok (.aload_n 0, 1) := by decide +kernel
theorem dX6_init_61 : decode cX6_init 61 = .ok (.bipush 80, 2) := by decide +kernel
theorem dX6_init_63 : decode cX6_init 63 = .ok (.newarray .int, 2) := by decide +kernel
theorem dX6_init_65 : decode cX6_init 65 = .ok (.putfield 32, 3) := by decide +kernel
theorem dX6_init_68 : decode cX6_init 68 = .ok (.aload_n 0, 1) := by decide +kernel
theorem dX6_init_69 : decode cX6_init 69 = .ok (.bipush 80, 2) := by decide +kernel
theorem dX6_init_71 : decode cX6_init 71 = .ok (.newarray .int, 2) := by decide +kernel
theorem dX6_init_73 : decode cX6_init 73 = .ok (.putfield 35, 3) := by decide +kernel
theorem dX6_init_76 : decode cX6_init 76 = .ok (.aload_n 0, 1) := by decide +kernel
theorem dX6_init_77 : decode cX6_init 77 = .ok (.bipush 80, 2) := by decide +kernel
theorem dX6_init_79 : decode cX6_init 79 = .ok (.newarray .int, 2) := by decide +kernel
theorem dX6_init_81 : decode cX6_init 81 = .ok (.putfield 38, 3) := by decide +kernel
theorem dX6_init_84 : decode cX6_init 84 = .ok (.aload_n 0, 1) := by decide +kernel
theorem dX6_init_85 : decode cX6_init 85 = .ok (.bipush 80, 2) := by decide +kernel
theorem dX6_init_87 : decode cX6_init 87 = .ok (.newarray .int, 2) := by decide +kernel
theorem dX6_init_89 : decode cX6_init 89 = .ok (.putfield 41, 3) := by decide +kernel
theorem dX6_init_92 : decode cX6_init 92 = .ok (.aload_n 0, 1) := by decide +kernel
theorem dX6_init_93 : decode cX6_init 93 = .ok (.bipush 80, 2) := by decide +kernel
theorem dX6_init_95 : decode cX6_init 95 = .ok (.newarray .boolean, 2) := by decide +kernel
theorem dX6_init_97 : decode cX6_init 97 = .ok (.putfield 44, 3) := by decide +kernel
theorem dX6_init_100 : decode cX6_init 100 = .ok (.aload_n 0, 1) := by decide +kernel
theorem dX6_init_101 : decode cX6_init 101 = .ok (.bipush 80, 2) := by decide +kernel
theorem dX6_init_103 : decode cX6_init 103 = .ok (.newarray .boolean, 2) := by decide +kernel
theorem dX6_init_105 : decode cX6_init 105 = .ok (.putfield 47, 3) := by decide +kernel
theorem dX6_init_108 : decode cX6_init 108 = .ok (.aload_n 0, 1) := by decide +kernel
theorem dX6_init_109 : decode cX6_init 109 = .ok (.bipush 80, 2) := by decide +kernel
theorem dX6_init_111 : decode cX6_init 111 = .ok (.newarray .int, 2) := by decide +kernel
theorem dX6_init_113 : decode cX6_init 113 = .ok (.putfield 50, 3) := by decide +kernel
theorem dX6_init_116 : decode cX6_init 116 = .ok (.aload_n 0, 1) := by decide +kernel
theorem dX6_init_117 : decode cX6_init 117 = .ok (.bipush 80, 2) := by decide +kernel
theorem dX6_init_119 : decode cX6_init 119 = .ok (.newarray .boolean, 2) := by decide +kernel
theorem dX6_init_121 : decode cX6_init 121 = .ok (.putfield 53, 3) := by decide +kernel
theorem dX6_init_124 : decode cX6_init 124 = .ok (.aload_n 0, 1) := by decide +kernel
theorem dX6_init_125 : decode cX6_init 125 = .ok (.bipush 80, 2) := by decide +kernel
theorem dX6_init_127 : decode cX6_init 127 = .ok (.newarray .int, 2) := by decide +kernel
theorem dX6_init_129 : decode cX6_init 129 = .ok (.putfield 56, 3) := by decide +kernel
theorem dX6_init_132 : decode cX6_init 132 = .ok (.aload_n 0, 1) := by decide +kernel
theorem dX6_init_133 : decode cX6_init 133 = .ok (.bipush 10, 2) := by decide +kernel
theorem dX6_init_135 : decode cX6_init 135 = .ok (.newarray .int, 2) := by decide +kernel
theorem dX6_init_137 : decode cX6_init 137 = .ok (.putfield 59, 3) := by decide +kernel
theorem dX6_init_140 : decode cX6_init 140 = .ok (.aload_n 0, 1) := by decide +kernel
theorem dX6_init_141 : decode cX6_init 141 = .ok (.bipush 10, 2) := by decide +kernel
theorem dX6_init_143 : decode cX6_init 143 = .ok (.newarray .int, 2) := by decide +kernel
theorem dX6_init_145 : decode cX6_init 145 = .ok (.putfield 62, 3) := by decide +kernel
theorem dX6_init_148 : decode cX6_init 148 = .ok (.aload_n 0, 1) := by decide +kernel
theorem dX6_init_149 : decode cX6_init 149 = .ok (.bipush 10, 2) := by decide +kernel
theorem dX6_init_151 : decode cX6_init 151 = .ok (.newarray .int, 2) := by decide +kernel
theorem dX6_init_153 : decode cX6_init 153 = .ok (.putfield 65, 3) := by decide +kernel
theorem dX6_init_156 : decode cX6_init 156 = .ok (.aload_n 0, 1) := by decide +kernel
theorem dX6_init_157 : decode cX6_init 157 = .ok (.bipush 10, 2) := by decide +kernel
theorem dX6_init_159 : decode cX6_init 159 = .ok (.newarray .int, 2) := by decide +kernel
theorem dX6_init_161 : decode cX6_init 161 = .ok (.putfield 68, 3) := by decide +kernel
theorem dX6_init_164 : decode cX6_init 164 = .ok (.aload_n 0, 1) := by decide +kernel
theorem dX6_init_165 : decode cX6_init 165 = .ok (.bipush 10, 2) := by decide +kernel
theorem dX6_init_167 : decode cX6_init 167 = .ok (.newarray .int, 2) := by decide +kernel
theorem dX6_init_169 : decode cX6_init 169 = .ok (.putfield 71, 3) := by decide +kernel
theorem dX6_init_172 : decode cX6_init 172 = .ok (.aload_n 0, 1) := by decide +kernel
theorem dX6_init_173 : decode cX6_init 173 = .ok (.bipush 20, 2) := by decide +kernel
theorem dX6_init_175 : decode cX6_init 175 = .ok (.newarray .boolean, 2) := by decide +kernel
theorem dX6_init_177 : decode cX6_init 177 = .ok (.putfield 74, 3) := by decide +kernel
theorem dX6_init_180 : decode cX6_init 180 = .ok (.aload_n 0, 1) := by decide +kernel
theorem dX6_init_181 : decode cX6_init 181 = .ok (.bipush 20, 2) := by decide +kernel
theorem dX6_init_183 : decode cX6_init 183 = .ok (.newarray .int, 2) := by decide +kernel
theorem dX6_init_185 : decode cX6_init 185 = .ok (.putfield 77, 3) := by decide +kernel
theorem dX6_init_188 : decode cX6_init 188 = .ok (.aload_n 0, 1) := by decide +kernel
theorem dX6_init_189 : decode cX6_init 189 = .ok (.bipush 80, 2) := by decide +kernel
theorem dX6_init_191 : decode cX6_init 191 = .ok (.newarray .int, 2) := by decide +kernel
theorem dX6_init_193 : decode cX6_init 193 = .ok (.putfield 80, 3) := by decide +kernel
theorem dX6_init_196 : decode cX6_init 196 = .ok (.iconst 0, 1) := by decide +kernel
theorem dX6_init_197 : decode cX6_init 197 = .ok (.istore_n 1, 1) := by decide +kernel
theorem dX6_init_198 : decode cX6_init 198 = .ok (.iload_n 1, 1) := by decide +kernel
theorem dX6_init_199 : decode cX6_init 199 = .ok (.bipush 10, 2) := by decide +kernel
theorem dX6_init_201 : decode cX6_init 201 = .ok (.if_icmp .ge 43, 3) := by decide +kernel
theorem dX6_init_204 : decode cX6_init 204 = .ok (.aload_n 0, 1) := by decide +kernel
theorem dX6_init_205 : decode cX6_init 205 = .ok (.getfield 29, 3) := by decide +kernel
theorem dX6_init_208 : decode cX6_init 208 = .ok (.bipush 6, 2) := by decide +kernel
theorem dX6_init_210 : decode cX6_init 210 = .ok (.iload_n 1, 1) := by decide +kernel
theorem dX6_init_211 : decode cX6_init 211 = .ok (.imul, 1) := by decide +kernel
theorem dX6_init_212 : decode cX6_init 212 = .ok (.iload_n 1, 1) := by decide +kernel
theorem dX6_init_213 : decode cX6_init 213 = .ok (.iastore, 1) := by decide +kernel
theorem dX6_init_214 : decode cX6_init 214 = .ok (.aload_n 0, 1) := by decide +kernel
theorem dX6_init_215 : decode cX6_init 215 = .ok (.getfield 29, 3) := by decide +kernel
theorem dX6_init_218 : decode cX6_init 218 = .ok (.bipush 6, 2) := by decide +kernel
theorem dX6_init_220 : decode cX6_init 220 = .ok (.iload_n 1, 1) := by decide +kernel
theorem dX6_init_221 : decode cX6_init 221 = .ok (.imul, 1) := by decide +kernel
theorem dX6_init_222 : decode cX6_init 222 = .ok (.iconst 1, 1) := by decide +kernel
theorem dX6_init_223 : decode cX6_init 223 = .ok (.iadd, 1) := by decide +kernel
theorem dX6_init_224 : decode cX6_init 224 = .ok (.iconst 1, 1) := by decide +kernel
theorem dX6_init_225 : decode cX6_init 225 = .ok (.iastore, 1) := by decide +kernel
theorem dX6_init_226 : decode cX6_init 226 = .ok (.aload_n 0, 1) := by decide +kernel
theorem dX6_init_227 : decode cX6_init 227 = .ok (.getfield 29, 3) := by decide +kernel
theorem dX6_init_230 : decode cX6_init 230 = .ok (.bipush 6, 2) := by decide +kernel
theorem dX6_init_232 : decode cX6_init 232 = .ok (.iload_n 1, 1) := by decide +kernel
theorem dX6_init_233 : decode cX6_init 233 = .ok (.imul, 1) := by decide +kernel
theorem dX6_init_234 : decode cX6_init 234 = .ok (.iconst 3, 1) := by decide +kernel
theorem dX6_init_235 : decode cX6_init 235 = .ok (.iadd, 1) := by decide +kernel
theorem dX6_init_236 : decode cX6_init 236 = .ok (.iconst 2, 1) := by decide +kernel
theorem dX6_init_237 : decode cX6_init 237 = .ok (.iastore, 1) := by decide +kernel
theorem dX6_init_238 : decode cX6_init 238 = .ok (.iinc 1 1, 3) := by decide +kernel
theorem dX6_init_241 : decode cX6_init 241 = .ok (.goto (-43), 3) := by decide +kernel
theorem dX6_init_244 : decode cX6_init 244 = .ok (.return_, 1) := by decide +kernel
abbrev w0_X6 (h : Nat) : va_W := [(h, .inr (6, [.int 0, .int 0, .null, .null, .null, .null, .null, .null, .null, .int 0, .null, .null, .null, .null, .null, .null, .null, .null, .null, .int 0, .int 0, .null, .null, .null, .null, .null, .int 0, .null, .null, .int 0, .null]))]
set_option maxHeartbeats 8000000 in
set_option maxRecDepth 100000 in
theorem c_X6_init (l : Launch) (D : va_G) (cI cZ : ClassId) (gs : Nat → Nat) (h0 sz : Nat) {R0 : RS} (htl : m_X6_tail [.inr 0] (fun _ _ => 0) = some R0) (hR0 : R0.2 = some none) : Met l yX6_init (wm yX6_init cX6_init 2 2) { frames := 1, cells := 24, slots := 1190, locals := 12 } (va_Pc [.ref h0] (iPre D cI cZ gs (va_A (w0_X6 h0) sz) (w0_X6 h0) sz)) (va_Qv (fun gt : Nat → Nat => gt 0 = h0 ∧ gt 40 = gs 40 ∧ gt 41 = gs 41 ∧ gt 42 = gs 42) (fun gt t => va_P D vwCl (ww mT gt cI cZ R0.1) t.heap ∧ va_D (va_A (w0_X6 h0) sz) (ww mT gt cI cZ R0.1)) (va_A (w0_X6 h0) sz)) 24 1190 (va_A (w0_X6 h0) sz) := by
  refine Met.ofW (cc := cX6_init) (maxL := 2) (ret := rety 2) (by decide) rfl ?_
  intro p e s m args below meth c s₁ B hml hv
  obtain ⟨rfl, hsz, hP, hK, hN, hst, hD0⟩ := hv
  have hx := B.exec
  have hb := B.bytes
  have hr := B.returns
  have hts := atoms_spec (ws := wm yX6_init cX6_init 2 2) B.pre
  have hts2 : ∀ w ∈ wA, w.before _ s = true := fun w hw => hts w (List.mem_cons_of_mem _ hw)
  have hown : s.vm.findClass RX6 = some m.cls := findClass_of_methodNamed B.named
  have hlocks := B.notSynchronized
  have hin : meth.name = "<init>" := (name_of_methodNamed B.named B.method).1
  subst hsz
  have hD := hD0.self (sz := s.heap.size)
  generalize hAe : va_A (w0_X6 h0) s.heap.size = A at hD hst ⊢
  have hA : ∀ q : Nat, s.heap.size ≤ q → A q := fun q h => by rw [← hAe]; exact Or.inr h
  have hS : va_S A s.heap s.heap [] := va_S.rf
  have hl := lv_entry ([.ref h0]) (n := 2) (Nat.le_of_ble_eq_true rfl)
  rw [lg_entry_eq]
  generalize (lg_sl ([.ref h0]) ++ List.replicate (2 - (lg_sl ([.ref h0])).length) Slot.unset).toArray = ls at hl ⊢
  have hl : lv_has ls 2 [(0, .ref h0)] := hl
  refine lv_aload_n hx hb dX6_init_0 rfl (lv_at hl 0 rfl) ?_
  refine W.objInit hx hb hown (hts2 _ ko_X6) (hts2 _ ko_i) (hts2 _ ko_c) rfl (by rw [hml]; exact hl.1) rfl dX6_init_1 (Nat.le_of_ble_eq_true rfl) (Nat.le_of_ble_eq_true rfl) ?_
  refine W.eq (g2 := F0 m 4 ls []) rfl ?_
  refine xn_group false (cA := cI) (v := 40) (n := 40) (pc1 := 7) hx hb hown hin hK hA rfl (fun w hw => hts2 w (iw_X6 w hw)) (hts2 _ ka_int) (hK.2 0 _ rfl).2 (lv_at hl 0 rfl) hP hD hS 2 (by decide) (Nat.le_of_ble_eq_true rfl) rfl rfl (by decide +kernel) (hts2 _ kf_X6_7) dX6_init_4 (fun st k => lv_bipush hx hb dX6_init_5 (by decide) k) dX6_init_7 dX6_init_9 (by decide) (by decide) (by decide) (Nat.le_of_ble_eq_true rfl) (Nat.le_of_ble_eq_true rfl) (fun q0 H0 locs0 hP0 hD0 hS0 => ?_)
  clear hP hD hS
  have hP : va_P D vwCl [(h0, .inr (6, [.int 0, .int 0, .ref q0, .null, .null, .null, .null, .null, .null, .int 0, .null, .null, .null, .null, .null, .null, .null, .null, .null, .int 0, .int 0, .null, .null, .null, .null, .null, .int 0, .null, .null, .int 0, .null])), (q0, .inl (cI, 40, .inl (fun _ => 0)))] H0 := hP0
  have hD : va_D A [(h0, .inr (6, [.int 0, .int 0, .ref q0, .null, .null, .null, .null, .null, .null, .int 0, .null, .null, .null, .null, .null, .null, .null, .null, .null, .int 0, .int 0, .null, .null, .null, .null, .null, .int 0, .null, .null, .int 0, .null])), (q0, .inl (cI, 40, .inl (fun _ => 0)))] := hD0
  have hS : va_S A s.heap H0 locs0 := hS0
  clear hP0 hD0 hS0
  refine xn_group false (cA := cI) (v := 40) (n := 40) (pc1 := 15) hx hb hown hin hK hA rfl (fun w hw => hts2 w (iw_X6 w hw)) (hts2 _ ka_int) (hK.2 0 _ rfl).2 (lv_at hl 0 rfl) hP hD hS 3 (by decide) (Nat.le_of_ble_eq_true rfl) rfl rfl (by decide +kernel) (hts2 _ kf_X6_13) dX6_init_12 (fun st k => lv_bipush hx hb dX6_init_13 (by decide) k) dX6_init_15 dX6_init_17 (by decide) (by decide) (by decide) (Nat.le_of_ble_eq_true rfl) (Nat.le_of_ble_eq_true rfl) (fun q1 H1 locs1 hP1 hD1 hS1 => ?_)
  clear hP hD hS
  have hP : va_P D vwCl [(h0, .inr (6, [.int 0, .int 0, .ref q0, .ref q1, .null, .null, .null, .null, .null, .int 0, .null, .null, .null, .null, .null, .null, .null, .null, .null, .int 0, .int 0, .null, .null, .null, .null, .null, .int 0, .null, .null, .int 0, .null])), (q0, .inl (cI, 40, .inl (fun _ => 0))), (q1, .inl (cI, 40, .inl (fun _ => 0)))] H1 := hP1
  have hD : va_D A [(h0, .inr (6, [.int 0, .int 0, .ref q0, .ref q1, .null, .null, .null, .null, .null, .int 0, .null, .null, .null, .null, .null, .null, .null, .null, .null, .int 0, .int 0, .null, .null, .null, .null, .null, .int 0, .null, .null, .int 0, .null])), (q0, .inl (cI, 40, .inl (fun _ => 0))), (q1, .inl (cI, 40, .inl (fun _ => 0)))] := hD1
  have hS : va_S A s.heap H1 locs1 := hS1
  clear hP1 hD1 hS1
  refine xn_group false (cA := cI) (v := 40) (n := 40) (pc1 := 23) hx hb hown hin hK hA rfl (fun w hw => hts2 w (iw_X6 w hw)) (hts2 _ ka_int) (hK.2 0 _ rfl).2 (lv_at hl 0 rfl) hP hD hS 4 (by decide) (Nat.le_of_ble_eq_true rfl) rfl rfl (by decide +kernel) (hts2 _ kf_X6_16) dX6_init_20 (fun st k => lv_bipush hx hb dX6_init_21 (by decide) k) dX6_init_23 dX6_init_25 (by decide) (by decide) (by decide) (Nat.le_of_ble_eq_true rfl) (Nat.le_of_ble_eq_true rfl) (fun q2 H2 locs2 hP2 hD2 hS2 => ?_)
  clear hP hD hS
  have hP : va_P D vwCl [(h0, .inr (6, [.int 0, .int 0, .ref q0, .ref q1, .ref q2, .null, .null, .null, .null, .int 0, .null, .null, .null, .null, .null, .null, .null, .null, .null, .int 0, .int 0, .null, .null, .null, .null, .null, .int 0, .null, .null, .int 0, .null])), (q0, .inl (cI, 40, .inl (fun _ => 0))), (q1, .inl (cI, 40, .inl (fun _ => 0))), (q2, .inl (cI, 40, .inl (fun _ => 0)))] H2 := hP2
  have hD : va_D A [(h0, .inr (6, [.int 0, .int 0, .ref q0, .ref q1, .ref q2, .null, .null, .null, .null, .int 0, .null, .null, .null, .null, .null, .null, .null, .null, .null, .int 0, .int 0, .null, .null, .null, .null, .null, .int 0, .null, .null, .int 0, .null])), (q0, .inl (cI, 40, .inl (fun _ => 0))), (q1, .inl (cI, 40, .inl (fun _ => 0))), (q2, .inl (cI, 40, .inl (fun _ => 0)))] := hD2
  have hS : va_S A s.heap H2 locs2 := hS2
  clear hP2 hD2 hS2
  refine xn_group false (cA := cI) (v := 40) (n := 40) (pc1 := 31) hx hb hown hin hK hA rfl (fun w hw => hts2 w (iw_X6 w hw)) (hts2 _ ka_int) (hK.2 0 _ rfl).2 (lv_at hl 0 rfl) hP hD hS 5 (by decide) (Nat.le_of_ble_eq_true rfl) rfl rfl (by decide +kernel) (hts2 _ kf_X6_19) dX6_init_28 (fun st k => lv_bipush hx hb dX6_init_29 (by decide) k) dX6_init_31 dX6_init_33 (by decide) (by decide) (by decide) (Nat.le_of_ble_eq_true rfl) (Nat.le_of_ble_eq_true rfl) (fun q3 H3 locs3 hP3 hD3 hS3 => ?_)
  clear hP hD hS
  have hP : va_P D vwCl [(h0, .inr (6, [.int 0, .int 0, .ref q0, .ref q1, .ref q2, .ref q3, .null, .null, .null, .int 0, .null, .null, .null, .null, .null, .null, .null, .null, .null, .int 0, .int 0, .null, .null, .null, .null, .null, .int 0, .null, .null, .int 0, .null])), (q0, .inl (cI, 40, .inl (fun _ => 0))), (q1, .inl (cI, 40, .inl (fun _ => 0))), (q2, .inl (cI, 40, .inl (fun _ => 0))), (q3, .inl (cI, 40, .inl (fun _ => 0)))] H3 := hP3
  have hD : va_D A [(h0, .inr (6, [.int 0, .int 0, .ref q0, .ref q1, .ref q2, .ref q3, .null, .null, .null, .int 0, .null, .null, .null, .null, .null, .null, .null, .null, .null, .int 0, .int 0, .null, .null, .null, .null, .null, .int 0, .null, .null, .int 0, .null])), (q0, .inl (cI, 40, .inl (fun _ => 0))), (q1, .inl (cI, 40, .inl (fun _ => 0))), (q2, .inl (cI, 40, .inl (fun _ => 0))), (q3, .inl (cI, 40, .inl (fun _ => 0)))] := hD3
  have hS : va_S A s.heap H3 locs3 := hS3
  clear hP3 hD3 hS3
  refine xn_group false (cA := cI) (v := 40) (n := 40) (pc1 := 39) hx hb hown hin hK hA rfl (fun w hw => hts2 w (iw_X6 w hw)) (hts2 _ ka_int) (hK.2 0 _ rfl).2 (lv_at hl 0 rfl) hP hD hS 6 (by decide) (Nat.le_of_ble_eq_true rfl) rfl rfl (by decide +kernel) (hts2 _ kf_X6_22) dX6_init_36 (fun st k => lv_bipush hx hb dX6_init_37 (by decide) k) dX6_init_39 dX6_init_41 (by decide) (by decide) (by decide) (Nat.le_of_ble_eq_true rfl) (Nat.le_of_ble_eq_true rfl) (fun q4 H4 locs4 hP4 hD4 hS4 => ?_)
  clear hP hD hS
  have hP : va_P D vwCl [(h0, .inr (6, [.int 0, .int 0, .ref q0, .ref q1, .ref q2, .ref q3, .ref q4, .null, .null, .int 0, .null, .null, .null, .null, .null, .null, .null, .null, .null, .int 0, .int 0, .null, .null, .null, .null, .null, .int 0, .null, .null, .int 0, .null])), (q0, .inl (cI, 40, .inl (fun _ => 0))), (q1, .inl (cI, 40, .inl (fun _ => 0))), (q2, .inl (cI, 40, .inl (fun _ => 0))), (q3, .inl (cI, 40, .inl (fun _ => 0))), (q4, .inl (cI, 40, .inl (fun _ => 0)))] H4 := hP4
  have hD : va_D A [(h0, .inr (6, [.int 0, .int 0, .ref q0, .ref q1, .ref q2, .ref q3, .ref q4, .null, .null, .int 0, .null, .null, .null, .null, .null, .null, .null, .null, .null, .int 0, .int 0, .null, .null, .null, .null, .null, .int 0, .null, .null, .int 0, .null])), (q0, .inl (cI, 40, .inl (fun _ => 0))), (q1, .inl (cI, 40, .inl (fun _ => 0))), (q2, .inl (cI, 40, .inl (fun _ => 0))), (q3, .inl (cI, 40, .inl (fun _ => 0))), (q4, .inl (cI, 40, .inl (fun _ => 0)))] := hD4
  have hS : va_S A s.heap H4 locs4 := hS4
  clear hP4 hD4 hS4
  refine xn_group true (cA := cZ) (v := 40) (n := 40) (pc1 := 47) hx hb hown hin hK hA rfl (fun w hw => hts2 w (iw_X6 w hw)) (hts2 _ ka_boolean) (hK.2 1 _ rfl).2 (lv_at hl 0 rfl) hP hD hS 7 (by decide) (Nat.le_of_ble_eq_true rfl) rfl rfl (by decide +kernel) (hts2 _ kf_X6_25) dX6_init_44 (fun st k => lv_bipush hx hb dX6_init_45 (by decide) k) dX6_init_47 dX6_init_49 (by decide) (by decide) (by decide) (Nat.le_of_ble_eq_true rfl) (Nat.le_of_ble_eq_true rfl) (fun q5 H5 locs5 hP5 hD5 hS5 => ?_)
  clear hP hD hS
  have hP : va_P D vwCl [(h0, .inr (6, [.int 0, .int 0, .ref q0, .ref q1, .ref q2, .ref q3, .ref q4, .ref q5, .null, .int 0, .null, .null, .null, .null, .null, .null, .null, .null, .null, .int 0, .int 0, .null, .null, .null, .null, .null, .int 0, .null, .null, .int 0, .null])), (q0, .inl (cI, 40, .inl (fun _ => 0))), (q1, .inl (cI, 40, .inl (fun _ => 0))), (q2, .inl (cI, 40, .inl (fun _ => 0))), (q3, .inl (cI, 40, .inl (fun _ => 0))), (q4, .inl (cI, 40, .inl (fun _ => 0))), (q5, .inl (cZ, 40, .inl (fun _ => 0)))] H5 := hP5
  have hD : va_D A [(h0, .inr (6, [.int 0, .int 0, .ref q0, .ref q1, .ref q2, .ref q3, .ref q4, .ref q5, .null, .int 0, .null, .null, .null, .null, .null, .null, .null, .null, .null, .int 0, .int 0, .null, .null, .null, .null, .null, .int 0, .null, .null, .int 0, .null])), (q0, .inl (cI, 40, .inl (fun _ => 0))), (q1, .inl (cI, 40, .inl (fun _ => 0))), (q2, .inl (cI, 40, .inl (fun _ => 0))), (q3, .inl (cI, 40, .inl (fun _ => 0))), (q4, .inl (cI, 40, .inl (fun _ => 0))), (q5, .inl (cZ, 40, .inl (fun _ => 0)))] := hD5
  have hS : va_S A s.heap H5 locs5 := hS5
  clear hP5 hD5 hS5
  refine xn_group false (cA := cI) (v := 60) (n := 60) (pc1 := 55) hx hb hown hin hK hA rfl (fun w hw => hts2 w (iw_X6 w hw)) (hts2 _ ka_int) (hK.2 0 _ rfl).2 (lv_at hl 0 rfl) hP hD hS 8 (by decide) (Nat.le_of_ble_eq_true rfl) rfl rfl (by decide +kernel) (hts2 _ kf_X6_29) dX6_init_52 (fun st k => lv_bipush hx hb dX6_init_53 (by decide) k) dX6_init_55 dX6_init_57 (by decide) (by decide) (by decide) (Nat.le_of_ble_eq_true rfl) (Nat.le_of_ble_eq_true rfl) (fun q6 H6 locs6 hP6 hD6 hS6 => ?_)
  clear hP hD hS
  have hP : va_P D vwCl [(h0, .inr (6, [.int 0, .int 0, .ref q0, .ref q1, .ref q2, .ref q3, .ref q4, .ref q5, .ref q6, .int 0, .null, .null, .null, .null, .null, .null, .null, .null, .null, .int 0, .int 0, .null, .null, .null, .null, .null, .int 0, .null, .null, .int 0, .null])), (q0, .inl (cI, 40, .inl (fun _ => 0))), (q1, .inl (cI, 40, .inl (fun _ => 0))), (q2, .inl (cI, 40, .inl (fun _ => 0))), (q3, .inl (cI, 40, .inl (fun _ => 0))), (q4, .inl (cI, 40, .inl (fun _ => 0))), (q5, .inl (cZ, 40, .inl (fun _ => 0))), (q6, .inl (cI, 60, .inl (fun _ => 0)))] H6 := hP6
  have hD : va_D A [(h0, .inr (6, [.int 0, .int 0, .ref q0, .ref q1, .ref q2, .ref q3, .ref q4, .ref q5, .ref q6, .int 0, .null, .null, .null, .null, .null, .null, .null, .null, .null, .int 0, .int 0, .null, .null, .null, .null, .null, .int 0, .null, .null, .int 0, .null])), (q0, .inl (cI, 40, .inl (fun _ => 0))), (q1, .inl (cI, 40, .inl (fun _ => 0))), (q2, .inl (cI, 40, .inl (fun _ => 0))), (q3, .inl (cI, 40, .inl (fun _ => 0))), (q4, .inl (cI, 40, .inl (fun _ => 0))), (q5, .inl (cZ, 40, .inl (fun _ => 0))), (q6, .inl (cI, 60, .inl (fun _ => 0)))] := hD6
  have hS : va_S A s.heap H6 locs6 := hS6
  clear hP6 hD6 hS6
  refine xn_group false (cA := cI) (v := 80) (n := 80) (pc1 := 63) hx hb hown hin hK hA rfl (fun w hw => hts2 w (iw_X6 w hw)) (hts2 _ ka_int) (hK.2 0 _ rfl).2 (lv_at hl 0 rfl) hP hD hS 10 (by decide) (Nat.le_of_ble_eq_true rfl) rfl rfl (by decide +kernel) (hts2 _ kf_X6_32) dX6_init_60 (fun st k => lv_bipush hx hb dX6_init_61 (by decide) k) dX6_init_63 dX6_init_65 (by decide) (by decide) (by decide) (Nat.le_of_ble_eq_true rfl) (Nat.le_of_ble_eq_true rfl) (fun q7 H7 locs7 hP7 hD7 hS7 => ?_)
  clear hP hD hS
  have hP : va_P D vwCl [(h0, .inr (6, [.int 0, .int 0, .ref q0, .ref q1, .ref q2, .ref q3, .ref q4, .ref q5, .ref q6, .int 0, .ref q7, .null, .null, .null, .null, .null, .null, .null, .null, .int 0, .int 0, .null, .null, .null, .null, .null, .int 0, .null, .null, .int 0, .null])), (q0, .inl (cI, 40, .inl (fun _ => 0))), (q1, .inl (cI, 40, .inl (fun _ => 0))), (q2, .inl (cI, 40, .inl (fun _ => 0))), (q3, .inl (cI, 40, .inl (fun _ => 0))), (q4, .inl (cI, 40, .inl (fun _ => 0))), (q5, .inl (cZ, 40, .inl (fun _ => 0))), (q6, .inl (cI, 60, .inl (fun _ => 0))), (q7, .inl (cI, 80, .inl (fun _ => 0)))] H7 := hP7
  have hD : va_D A [(h0, .inr (6, [.int 0, .int 0, .ref q0, .ref q1, .ref q2, .ref q3, .ref q4, .ref q5, .ref q6, .int 0, .ref q7, .null, .null, .null, .null, .null, .null, .null, .null, .int 0, .int 0, .null, .null, .null, .null, .null, .int 0, .null, .null, .int 0, .null])), (q0, .inl (cI, 40, .inl (fun _ => 0))), (q1, .inl (cI, 40, .inl (fun _ => 0))), (q2, .inl (cI, 40, .inl (fun _ => 0))), (q3, .inl (cI, 40, .inl (fun _ => 0))), (q4, .inl (cI, 40, .inl (fun _ => 0))), (q5, .inl (cZ, 40, .inl (fun _ => 0))), (q6, .inl (cI, 60, .inl (fun _ => 0))), (q7, .inl (cI, 80, .inl (fun _ => 0)))] := hD7
  have hS : va_S A s.heap H7 locs7 := hS7
  clear hP7 hD7 hS7
  refine xn_group false (cA := cI) (v := 80) (n := 80) (pc1 := 71) hx hb hown hin hK hA rfl (fun w hw => hts2 w (iw_X6 w hw)) (hts2 _ ka_int) (hK.2 0 _ rfl).2 (lv_at hl 0 rfl) hP hD hS 11 (by decide) (Nat.le_of_ble_eq_true rfl) rfl rfl (by decide +kernel) (hts2 _ kf_X6_35) dX6_init_68 (fun st k => lv_bipush hx hb dX6_init_69 (by decide) k) dX6_init_71 dX6_init_73 (by decide) (by decide) (by decide) (Nat.le_of_ble_eq_true rfl) (Nat.le_of_ble_eq_true rfl) (fun q8 H8 locs8 hP8 hD8 hS8 => ?_)
  clear hP hD hS
  have hP : va_P D vwCl [(h0, .inr (6, [.int 0, .int 0, .ref q0, .ref q1, .ref q2, .ref q3, .ref q4, .ref q5, .ref q6, .int 0, .ref q7, .ref q8, .null, .null, .null, .null, .null, .null, .null, .int 0, .int 0, .null, .null, .null, .null, .null, .int 0, .null, .null, .int 0, .null])), (q0, .inl (cI, 40, .inl (fun _ => 0))), (q1, .inl (cI, 40, .inl (fun _ => 0))), (q2, .inl (cI, 40, .inl (fun _ => 0))), (q3, .inl (cI, 40, .inl (fun _ => 0))), (q4, .inl (cI, 40, .inl (fun _ => 0))), (q5, .inl (cZ, 40, .inl (fun _ => 0))), (q6, .inl (cI, 60, .inl (fun _ => 0))), (q7, .inl (cI, 80, .inl (fun _ => 0))), (q8, .inl (cI, 80, .inl (fun _ => 0)))] H8 := hP8
  have hD : va_D A [(h0, .inr (6, [.int 0, .int 0, .ref q0, .ref q1, .ref q2, .ref q3, .ref q4, .ref q5, .ref q6, .int 0, .ref q7, .ref q8, .null, .null, .null, .null, .null, .null, .null, .int 0, .int 0, .null, .null, .null, .null, .null, .int 0, .null, .null, .int 0, .null])), (q0, .inl (cI, 40, .inl (fun _ => 0))), (q1, .inl (cI, 40, .inl (fun _ => 0))), (q2, .inl (cI, 40, .inl (fun _ => 0))), (q3, .inl (cI, 40, .inl (fun _ => 0))), (q4, .inl (cI, 40, .inl (fun _ => 0))), (q5, .inl (cZ, 40, .inl (fun _ => 0))), (q6, .inl (cI, 60, .inl (fun _ => 0))), (q7, .inl (cI, 80, .inl (fun _ => 0))), (q8, .inl (cI, 80, .inl (fun _ => 0)))] := hD8
  have hS : va_S A s.heap H8 locs8 := hS8
  clear hP8 hD8 hS8
  refine xn_group false (cA := cI) (v := 80) (n := 80) (pc1 := 79) hx hb hown hin hK hA rfl (fun w hw => hts2 w (iw_X6 w hw)) (hts2 _ ka_int) (hK.2 0 _ rfl).2 (lv_at hl 0 rfl) hP hD hS 12 (by decide) (Nat.le_of_ble_eq_true rfl) rfl rfl (by decide +kernel) (hts2 _ kf_X6_38) dX6_init_76 (fun st k => lv_bipush hx hb dX6_init_77 (by decide) k) dX6_init_79 dX6_init_81 (by decide) (by decide) (by decide) (Nat.le_of_ble_eq_true rfl) (Nat.le_of_ble_eq_true rfl) (fun q9 H9 locs9 hP9 hD9 hS9 => ?_)
  clear hP hD hS
  have hP : va_P D vwCl [(h0, .inr (6, [.int 0, .int 0, .ref q0, .ref q1, .ref q2, .ref q3, .ref q4, .ref q5, .ref q6, .int 0, .ref q7, .ref q8, .ref q9, .null, .null, .null, .null, .null, .null, .int 0, .int 0, .null, .null, .null, .null, .null, .int 0, .null, .null, .int 0, .null])), (q0, .inl (cI, 40, .inl (fun _ => 0))), (q1, .inl (cI, 40, .inl (fun _ => 0))), (q2, .inl (cI, 40, .inl (fun _ => 0))), (q3, .inl (cI, 40, .inl (fun _ => 0))), (q4, .inl (cI, 40, .inl (fun _ => 0))), (q5, .inl (cZ, 40, .inl (fun _ => 0))), (q6, .inl (cI, 60, .inl (fun _ => 0))), (q7, .inl (cI, 80, .inl (fun _ => 0))), (q8, .inl (cI, 80, .inl (fun _ => 0))), (q9, .inl (cI, 80, .inl (fun _ => 0)))] H9 := hP9
  have hD : va_D A [(h0, .inr (6, [.int 0, .int 0, .ref q0, .ref q1, .ref q2, .ref q3, .ref q4, .ref q5, .ref q6, .int 0, .ref q7, .ref q8, .ref q9, .null, .null, .null, .null, .null, .null, .int 0, .int 0, .null, .null, .null, .null, .null, .int 0, .null, .null, .int 0, .null])), (q0, .inl (cI, 40, .inl (fun _ => 0))), (q1, .inl (cI, 40, .inl (fun _ => 0))), (q2, .inl (cI, 40, .inl (fun _ => 0))), (q3, .inl (cI, 40, .inl (fun _ => 0))), (q4, .inl (cI, 40, .inl (fun _ => 0))), (q5, .inl (cZ, 40, .inl (fun _ => 0))), (q6, .inl (cI, 60, .inl (fun _ => 0))), (q7, .inl (cI, 80, .inl (fun _ => 0))), (q8, .inl (cI, 80, .inl (fun _ => 0))), (q9, .inl (cI, 80, .inl (fun _ => 0)))] := hD9
  have hS : va_S A s.heap H9 locs9 := hS9
  clear hP9 hD9 hS9
  refine xn_group false (cA := cI) (v := 80) (n := 80) (pc1 := 87) hx hb hown hin hK hA rfl (fun w hw => hts2 w (iw_X6 w hw)) (hts2 _ ka_int) (hK.2 0 _ rfl).2 (lv_at hl 0 rfl) hP hD hS 13 (by decide) (Nat.le_of_ble_eq_true rfl) rfl rfl (by decide +kernel) (hts2 _ kf_X6_41) dX6_init_84 (fun st k => lv_bipush hx hb dX6_init_85 (by decide) k) dX6_init_87 dX6_init_89 (by decide) (by decide) (by decide) (Nat.le_of_ble_eq_true rfl) (Nat.le_of_ble_eq_true rfl) (fun q10 H10 locs10 hP10 hD10 hS10 => ?_)
  clear hP hD hS
  have hP : va_P D vwCl [(h0, .inr (6, [.int 0, .int 0, .ref q0, .ref q1, .ref q2, .ref q3, .ref q4, .ref q5, .ref q6, .int 0, .ref q7, .ref q8, .ref q9, .ref q10, .null, .null, .null, .null, .null, .int 0, .int 0, .null, .null, .null, .null, .null, .int 0, .null, .null, .int 0, .null])), (q0, .inl (cI, 40, .inl (fun _ => 0))), (q1, .inl (cI, 40, .inl (fun _ => 0))), (q2, .inl (cI, 40, .inl (fun _ => 0))), (q3, .inl (cI, 40, .inl (fun _ => 0))), (q4, .inl (cI, 40, .inl (fun _ => 0))), (q5, .inl (cZ, 40, .inl (fun _ => 0))), (q6, .inl (cI, 60, .inl (fun _ => 0))), (q7, .inl (cI, 80, .inl (fun _ => 0))), (q8, .inl (cI, 80, .inl (fun _ => 0))), (q9, .inl (cI, 80, .inl (fun _ => 0))), (q10, .inl (cI, 80, .inl (fun _ => 0)))] H10 := hP10
  have hD : va_D A [(h0, .inr (6, [.int 0, .int 0, .ref q0, .ref q1, .ref q2, .ref q3, .ref q4, .ref q5, .ref q6, .int 0, .ref q7, .ref q8, .ref q9, .ref q10, .null, .null, .null, .null, .null, .int 0, .int 0, .null, .null, .null, .null, .null, .int 0, .null, .null, .int 0, .null])), (q0, .inl (cI, 40, .inl (fun _ => 0))), (q1, .inl (cI, 40, .inl (fun _ => 0))), (q2, .inl (cI, 40, .inl (fun _ => 0))), (q3, .inl (cI, 40, .inl (fun _ => 0))), (q4, .inl (cI, 40, .inl (fun _ => 0))), (q5, .inl (cZ, 40, .inl (fun _ => 0))), (q6, .inl (cI, 60, .inl (fun _ => 0))), (q7, .inl (cI, 80, .inl (fun _ => 0))), (q8, .inl (cI, 80, .inl (fun _ => 0))), (q9, .inl (cI, 80, .inl (fun _ => 0))), (q10, .inl (cI, 80, .inl (fun _ => 0)))] := hD10
  have hS : va_S A s.heap H10 locs10 := hS10
  clear hP10 hD10 hS10
  refine xn_group true (cA := cZ) (v := 80) (n := 80) (pc1 := 95) hx hb hown hin hK hA rfl (fun w hw => hts2 w (iw_X6 w hw)) (hts2 _ ka_boolean) (hK.2 1 _ rfl).2 (lv_at hl 0 rfl) hP hD hS 14 (by decide) (Nat.le_of_ble_eq_true rfl) rfl rfl (by decide +kernel) (hts2 _ kf_X6_44) dX6_init_92 (fun st k => lv_bipush hx hb dX6_init_93 (by decide) k) dX6_init_95 dX6_init_97 (by decide) (by decide) (by decide) (Nat.le_of_ble_eq_true rfl) (Nat.le_of_ble_eq_true rfl) (fun q11 H11 locs11 hP11 hD11 hS11 => ?_)
  clear hP hD hS
  have hP : va_P D vwCl [(h0, .inr (6, [.int 0, .int 0, .ref q0, .ref q1, .ref q2, .ref q3, .ref q4, .ref q5, .ref q6, .int 0, .ref q7, .ref q8, .ref q9, .ref q10, .ref q11, .null, .null, .null, .null, .int 0, .int 0, .null, .null, .null, .null, .null, .int 0, .null, .null, .int 0, .null])), (q0, .inl (cI, 40, .inl (fun _ => 0))), (q1, .inl (cI, 40, .inl (fun _ => 0))), (q2, .inl (cI, 40, .inl (fun _ => 0))), (q3, .inl (cI, 40, .inl (fun _ => 0))), (q4, .inl (cI, 40, .inl (fun _ => 0))), (q5, .inl (cZ, 40, .inl (fun _ => 0))), (q6, .inl (cI, 60, .inl (fun _ => 0))), (q7, .inl (cI, 80, .inl (fun _ => 0))), (q8, .inl (cI, 80, .inl (fun _ => 0))), (q9, .inl (cI, 80, .inl (fun _ => 0))), (q10, .inl (cI, 80, .inl (fun _ => 0))), (q11, .inl (cZ, 80, .inl (fun _ => 0)))] H11 := hP11
  have hD : va_D A [(h0, .inr (6, [.int 0, .int 0, .ref q0, .ref q1, .ref q2, .ref q3, .ref q4, .ref q5, .ref q6, .int 0, .ref q7, .ref q8, .ref q9, .ref q10, .ref q11, .null, .null, .null, .null, .int 0, .int 0, .null, .null, .null, .null, .null, .int 0, .null, .null, .int 0, .null])), (q0, .inl (cI, 40, .inl (fun _ => 0))), (q1, .inl (cI, 40, .inl (fun _ => 0))), (q2, .inl (cI, 40, .inl (fun _ => 0))), (q3, .inl (cI, 40, .inl (fun _ => 0))), (q4, .inl (cI, 40, .inl (fun _ => 0))), (q5, .inl (cZ, 40, .inl (fun _ => 0))), (q6, .inl (cI, 60, .inl (fun _ => 0))), (q7, .inl (cI, 80, .inl (fun _ => 0))), (q8, .inl (cI, 80, .inl (fun _ => 0))), (q9, .inl (cI, 80, .inl (fun _ => 0))), (q10, .inl (cI, 80, .inl (fun _ => 0))), (q11, .inl (cZ, 80, .inl (fun _ => 0)))] := hD11
  have hS : va_S A s.heap H11 locs11 := hS11
  clear hP11 hD11 hS11
  refine xn_group true (cA := cZ) (v := 80) (n := 80) (pc1 := 103) hx hb hown hin hK hA rfl (fun w hw => hts2 w (iw_X6 w hw)) (hts2 _ ka_boolean) (hK.2 1 _ rfl).2 (lv_at hl 0 rfl) hP hD hS 15 (by decide) (Nat.le_of_ble_eq_true rfl) rfl rfl (by decide +kernel) (hts2 _ kf_X6_47) dX6_init_100 (fun st k => lv_bipush hx hb dX6_init_101 (by decide) k) dX6_init_103 dX6_init_105 (by decide) (by decide) (by decide) (Nat.le_of_ble_eq_true rfl) (Nat.le_of_ble_eq_true rfl) (fun q12 H12 locs12 hP12 hD12 hS12 => ?_)
  clear hP hD hS
  have hP : va_P D vwCl [(h0, .inr (6, [.int 0, .int 0, .ref q0, .ref q1, .ref q2, .ref q3, .ref q4, .ref q5, .ref q6, .int 0, .ref q7, .ref q8, .ref q9, .ref q10, .ref q11, .ref q12, .null, .null, .null, .int 0, .int 0, .null, .null, .null, .null, .null, .int 0, .null, .null, .int 0, .null])), (q0, .inl (cI, 40, .inl (fun _ => 0))), (q1, .inl (cI, 40, .inl (fun _ => 0))), (q2, .inl (cI, 40, .inl (fun _ => 0))), (q3, .inl (cI, 40, .inl (fun _ => 0))), (q4, .inl (cI, 40, .inl (fun _ => 0))), (q5, .inl (cZ, 40, .inl (fun _ => 0))), (q6, .inl (cI, 60, .inl (fun _ => 0))), (q7, .inl (cI, 80, .inl (fun _ => 0))), (q8, .inl (cI, 80, .inl (fun _ => 0))), (q9, .inl (cI, 80, .inl (fun _ => 0))), (q10, .inl (cI, 80, .inl (fun _ => 0))), (q11, .inl (cZ, 80, .inl (fun _ => 0))), (q12, .inl (cZ, 80, .inl (fun _ => 0)))] H12 := hP12
  have hD : va_D A [(h0, .inr (6, [.int 0, .int 0, .ref q0, .ref q1, .ref q2, .ref q3, .ref q4, .ref q5, .ref q6, .int 0, .ref q7, .ref q8, .ref q9, .ref q10, .ref q11, .ref q12, .null, .null, .null, .int 0, .int 0, .null, .null, .null, .null, .null, .int 0, .null, .null, .int 0, .null])), (q0, .inl (cI, 40, .inl (fun _ => 0))), (q1, .inl (cI, 40, .inl (fun _ => 0))), (q2, .inl (cI, 40, .inl (fun _ => 0))), (q3, .inl (cI, 40, .inl (fun _ => 0))), (q4, .inl (cI, 40, .inl (fun _ => 0))), (q5, .inl (cZ, 40, .inl (fun _ => 0))), (q6, .inl (cI, 60, .inl (fun _ => 0))), (q7, .inl (cI, 80, .inl (fun _ => 0))), (q8, .inl (cI, 80, .inl (fun _ => 0))), (q9, .inl (cI, 80, .inl (fun _ => 0))), (q10, .inl (cI, 80, .inl (fun _ => 0))), (q11, .inl (cZ, 80, .inl (fun _ => 0))), (q12, .inl (cZ, 80, .inl (fun _ => 0)))] := hD12
  have hS : va_S A s.heap H12 locs12 := hS12
  clear hP12 hD12 hS12
  refine xn_group false (cA := cI) (v := 80) (n := 80) (pc1 := 111) hx hb hown hin hK hA rfl (fun w hw => hts2 w (iw_X6 w hw)) (hts2 _ ka_int) (hK.2 0 _ rfl).2 (lv_at hl 0 rfl) hP hD hS 16 (by decide) (Nat.le_of_ble_eq_true rfl) rfl rfl (by decide +kernel) (hts2 _ kf_X6_50) dX6_init_108 (fun st k => lv_bipush hx hb dX6_init_109 (by decide) k) dX6_init_111 dX6_init_113 (by decide) (by decide) (by decide) (Nat.le_of_ble_eq_true rfl) (Nat.le_of_ble_eq_true rfl) (fun q13 H13 locs13 hP13 hD13 hS13 => ?_)
  clear hP hD hS
  have hP : va_P D vwCl [(h0, .inr (6, [.int 0, .int 0, .ref q0, .ref q1, .ref q2, .ref q3, .ref q4, .ref q5, .ref q6, .int 0, .ref q7, .ref q8, .ref q9, .ref q10, .ref q11, .ref q12, .ref q13, .null, .null, .int 0, .int 0, .null, .null, .null, .null, .null, .int 0, .null, .null, .int 0, .null])), (q0, .inl (cI, 40, .inl (fun _ => 0))), (q1, .inl (cI, 40, .inl (fun _ => 0))), (q2, .inl (cI, 40, .inl (fun _ => 0))), (q3, .inl (cI, 40, .inl (fun _ => 0))), (q4, .inl (cI, 40, .inl (fun _ => 0))), (q5, .inl (cZ, 40, .inl (fun _ => 0))), (q6, .inl (cI, 60, .inl (fun _ => 0))), (q7, .inl (cI, 80, .inl (fun _ => 0))), (q8, .inl (cI, 80, .inl (fun _ => 0))), (q9, .inl (cI, 80, .inl (fun _ => 0))), (q10, .inl (cI, 80, .inl (fun _ => 0))), (q11, .inl (cZ, 80, .inl (fun _ => 0))), (q12, .inl (cZ, 80, .inl (fun _ => 0))), (q13, .inl (cI, 80, .inl (fun _ => 0)))] H13 := hP13
  have hD : va_D A [(h0, .inr (6, [.int 0, .int 0, .ref q0, .ref q1, .ref q2, .ref q3, .ref q4, .ref q5, .ref q6, .int 0, .ref q7, .ref q8, .ref q9, .ref q10, .ref q11, .ref q12, .ref q13, .null, .null, .int 0, .int 0, .null, .null, .null, .null, .null, .int 0, .null, .null, .int 0, .null])), (q0, .inl (cI, 40, .inl (fun _ => 0))), (q1, .inl (cI, 40, .inl (fun _ => 0))), (q2, .inl (cI, 40, .inl (fun _ => 0))), (q3, .inl (cI, 40, .inl (fun _ => 0))), (q4, .inl (cI, 40, .inl (fun _ => 0))), (q5, .inl (cZ, 40, .inl (fun _ => 0))), (q6, .inl (cI, 60, .inl (fun _ => 0))), (q7, .inl (cI, 80, .inl (fun _ => 0))), (q8, .inl (cI, 80, .inl (fun _ => 0))), (q9, .inl (cI, 80, .inl (fun _ => 0))), (q10, .inl (cI, 80, .inl (fun _ => 0))), (q11, .inl (cZ, 80, .inl (fun _ => 0))), (q12, .inl (cZ, 80, .inl (fun _ => 0))), (q13, .inl (cI, 80, .inl (fun _ => 0)))] := hD13
  have hS : va_S A s.heap H13 locs13 := hS13
  clear hP13 hD13 hS13
  refine xn_group true (cA := cZ) (v := 80) (n := 80) (pc1 := 119) hx hb hown hin hK hA rfl (fun w hw => hts2 w (iw_X6 w hw)) (hts2 _ ka_boolean) (hK.2 1 _ rfl).2 (lv_at hl 0 rfl) hP hD hS 17 (by decide) (Nat.le_of_ble_eq_true rfl) rfl rfl (by decide +kernel) (hts2 _ kf_X6_53) dX6_init_116 (fun st k => lv_bipush hx hb dX6_init_117 (by decide) k) dX6_init_119 dX6_init_121 (by decide) (by decide) (by decide) (Nat.le_of_ble_eq_true rfl) (Nat.le_of_ble_eq_true rfl) (fun q14 H14 locs14 hP14 hD14 hS14 => ?_)
  clear hP hD hS
  have hP : va_P D vwCl [(h0, .inr (6, [.int 0, .int 0, .ref q0, .ref q1, .ref q2, .ref q3, .ref q4, .ref q5, .ref q6, .int 0, .ref q7, .ref q8, .ref q9, .ref q10, .ref q11, .ref q12, .ref q13, .ref q14, .null, .int 0, .int 0, .null, .null, .null, .null, .null, .int 0, .null, .null, .int 0, .null])), (q0, .inl (cI, 40, .inl (fun _ => 0))), (q1, .inl (cI, 40, .inl (fun _ => 0))), (q2, .inl (cI, 40, .inl (fun _ => 0))), (q3, .inl (cI, 40, .inl (fun _ => 0))), (q4, .inl (cI, 40, .inl (fun _ => 0))), (q5, .inl (cZ, 40, .inl (fun _ => 0))), (q6, .inl (cI, 60, .inl (fun _ => 0))), (q7, .inl (cI, 80, .inl (fun _ => 0))), (q8, .inl (cI, 80, .inl (fun _ => 0))), (q9, .inl (cI, 80, .inl (fun _ => 0))), (q10, .inl (cI, 80, .inl (fun _ => 0))), (q11, .inl (cZ, 80, .inl (fun _ => 0))), (q12, .inl (cZ, 80, .inl (fun _ => 0))), (q13, .inl (cI, 80, .inl (fun _ => 0))), (q14, .inl (cZ, 80, .inl (fun _ => 0)))] H14 := hP14
  have hD : va_D A [(h0, .inr (6, [.int 0, .int 0, .ref q0, .ref q1, .ref q2, .ref q3, .ref q4, .ref q5, .ref q6, .int 0, .ref q7, .ref q8, .ref q9, .ref q10, .ref q11, .ref q12, .ref q13, .ref q14, .null, .int 0, .int 0, .null, .null, .null, .null, .null, .int 0, .null, .null, .int 0, .null])), (q0, .inl (cI, 40, .inl (fun _ => 0))), (q1, .inl (cI, 40, .inl (fun _ => 0))), (q2, .inl (cI, 40, .inl (fun _ => 0))), (q3, .inl (cI, 40, .inl (fun _ => 0))), (q4, .inl (cI, 40, .inl (fun _ => 0))), (q5, .inl (cZ, 40, .inl (fun _ => 0))), (q6, .inl (cI, 60, .inl (fun _ => 0))), (q7, .inl (cI, 80, .inl (fun _ => 0))), (q8, .inl (cI, 80, .inl (fun _ => 0))), (q9, .inl (cI, 80, .inl (fun _ => 0))), (q10, .inl (cI, 80, .inl (fun _ => 0))), (q11, .inl (cZ, 80, .inl (fun _ => 0))), (q12, .inl (cZ, 80, .inl (fun _ => 0))), (q13, .inl (cI, 80, .inl (fun _ => 0))), (q14, .inl (cZ, 80, .inl (fun _ => 0)))] := hD14
  have hS : va_S A s.heap H14 locs14 := hS14
  clear hP14 hD14 hS14
  refine xn_group false (cA := cI) (v := 80) (n := 80) (pc1 := 127) hx hb hown hin hK hA rfl (fun w hw => hts2 w (iw_X6 w hw)) (hts2 _ ka_int) (hK.2 0 _ rfl).2 (lv_at hl 0 rfl) hP hD hS 18 (by decide) (Nat.le_of_ble_eq_true rfl) rfl rfl (by decide +kernel) (hts2 _ kf_X6_56) dX6_init_124 (fun st k => lv_bipush hx hb dX6_init_125 (by decide) k) dX6_init_127 dX6_init_129 (by decide) (by decide) (by decide) (Nat.le_of_ble_eq_true rfl) (Nat.le_of_ble_eq_true rfl) (fun q15 H15 locs15 hP15 hD15 hS15 => ?_)
  clear hP hD hS
  have hP : va_P D vwCl [(h0, .inr (6, [.int 0, .int 0, .ref q0, .ref q1, .ref q2, .ref q3, .ref q4, .ref q5, .ref q6, .int 0, .ref q7, .ref q8, .ref q9, .ref q10, .ref q11, .ref q12, .ref q13, .ref q14, .ref q15, .int 0, .int 0, .null, .null, .null, .null, .null, .int 0, .null, .null, .int 0, .null])), (q0, .inl (cI, 40, .inl (fun _ => 0))), (q1, .inl (cI, 40, .inl (fun _ => 0))), (q2, .inl (cI, 40, .inl (fun _ => 0))), (q3, .inl (cI, 40, .inl (fun _ => 0))), (q4, .inl (cI, 40, .inl (fun _ => 0))), (q5, .inl (cZ, 40, .inl (fun _ => 0))), (q6, .inl (cI, 60, .inl (fun _ => 0))), (q7, .inl (cI, 80, .inl (fun _ => 0))), (q8, .inl (cI, 80, .inl (fun _ => 0))), (q9, .inl (cI, 80, .inl (fun _ => 0))), (q10, .inl (cI, 80, .inl (fun _ => 0))), (q11, .inl (cZ, 80, .inl (fun _ => 0))), (q12, .inl (cZ, 80, .inl (fun _ => 0))), (q13, .inl (cI, 80, .inl (fun _ => 0))), (q14, .inl (cZ, 80, .inl (fun _ => 0))), (q15, .inl (cI, 80, .inl (fun _ => 0)))] H15 := hP15
  have hD : va_D A [(h0, .inr (6, [.int 0, .int 0, .ref q0, .ref q1, .ref q2, .ref q3, .ref q4, .ref q5, .ref q6, .int 0, .ref q7, .ref q8, .ref q9, .ref q10, .ref q11, .ref q12, .ref q13, .ref q14, .ref q15, .int 0, .int 0, .null, .null, .null, .null, .null, .int 0, .null, .null, .int 0, .null])), (q0, .inl (cI, 40, .inl (fun _ => 0))), (q1, .inl (cI, 40, .inl (fun _ => 0))), (q2, .inl (cI, 40, .inl (fun _ => 0))), (q3, .inl (cI, 40, .inl (fun _ => 0))), (q4, .inl (cI, 40, .inl (fun _ => 0))), (q5, .inl (cZ, 40, .inl (fun _ => 0))), (q6, .inl (cI, 60, .inl (fun _ => 0))), (q7, .inl (cI, 80, .inl (fun _ => 0))), (q8, .inl (cI, 80, .inl (fun _ => 0))), (q9, .inl (cI, 80, .inl (fun _ => 0))), (q10, .inl (cI, 80, .inl (fun _ => 0))), (q11, .inl (cZ, 80, .inl (fun _ => 0))), (q12, .inl (cZ, 80, .inl (fun _ => 0))), (q13, .inl (cI, 80, .inl (fun _ => 0))), (q14, .inl (cZ, 80, .inl (fun _ => 0))), (q15, .inl (cI, 80, .inl (fun _ => 0)))] := hD15
  have hS : va_S A s.heap H15 locs15 := hS15
  clear hP15 hD15 hS15
  refine xn_group false (cA := cI) (v := 10) (n := 10) (pc1 := 135) hx hb hown hin hK hA rfl (fun w hw => hts2 w (iw_X6 w hw)) (hts2 _ ka_int) (hK.2 0 _ rfl).2 (lv_at hl 0 rfl) hP hD hS 21 (by decide) (Nat.le_of_ble_eq_true rfl) rfl rfl (by decide +kernel) (hts2 _ kf_X6_59) dX6_init_132 (fun st k => lv_bipush hx hb dX6_init_133 (by decide) k) dX6_init_135 dX6_init_137 (by decide) (by decide) (by decide) (Nat.le_of_ble_eq_true rfl) (Nat.le_of_ble_eq_true rfl) (fun q16 H16 locs16 hP16 hD16 hS16 => ?_)
  clear hP hD hS
  have hP : va_P D vwCl [(h0, .inr (6, [.int 0, .int 0, .ref q0, .ref q1, .ref q2, .ref q3, .ref q4, .ref q5, .ref q6, .int 0, .ref q7, .ref q8, .ref q9, .ref q10, .ref q11, .ref q12, .ref q13, .ref q14, .ref q15, .int 0, .int 0, .ref q16, .null, .null, .null, .null, .int 0, .null, .null, .int 0, .null])), (q0, .inl (cI, 40, .inl (fun _ => 0))), (q1, .inl (cI, 40, .inl (fun _ => 0))), (q2, .inl (cI, 40, .inl (fun _ => 0))), (q3, .inl (cI, 40, .inl (fun _ => 0))), (q4, .inl (cI, 40, .inl (fun _ => 0))), (q5, .inl (cZ, 40, .inl (fun _ => 0))), (q6, .inl (cI, 60, .inl (fun _ => 0))), (q7, .inl (cI, 80, .inl (fun _ => 0))), (q8, .inl (cI, 80, .inl (fun _ => 0))), (q9, .inl (cI, 80, .inl (fun _ => 0))), (q10, .inl (cI, 80, .inl (fun _ => 0))), (q11, .inl (cZ, 80, .inl (fun _ => 0))), (q12, .inl (cZ, 80, .inl (fun _ => 0))), (q13, .inl (cI, 80, .inl (fun _ => 0))), (q14, .inl (cZ, 80, .inl (fun _ => 0))), (q15, .inl (cI, 80, .inl (fun _ => 0))), (q16, .inl (cI, 10, .inl (fun _ => 0)))] H16 := hP16
  have hD : va_D A [(h0, .inr (6, [.int 0, .int 0, .ref q0, .ref q1, .ref q2, .ref q3, .ref q4, .ref q5, .ref q6, .int 0, .ref q7, .ref q8, .ref q9, .ref q10, .ref q11, .ref q12, .ref q13, .ref q14, .ref q15, .int 0, .int 0, .ref q16, .null, .null, .null, .null, .int 0, .null, .null, .int 0, .null])), (q0, .inl (cI, 40, .inl (fun _ => 0))), (q1, .inl (cI, 40, .inl (fun _ => 0))), (q2, .inl (cI, 40, .inl (fun _ => 0))), (q3, .inl (cI, 40, .inl (fun _ => 0))), (q4, .inl (cI, 40, .inl (fun _ => 0))), (q5, .inl (cZ, 40, .inl (fun _ => 0))), (q6, .inl (cI, 60, .inl (fun _ => 0))), (q7, .inl (cI, 80, .inl (fun _ => 0))), (q8, .inl (cI, 80, .inl (fun _ => 0))), (q9, .inl (cI, 80, .inl (fun _ => 0))), (q10, .inl (cI, 80, .inl (fun _ => 0))), (q11, .inl (cZ, 80, .inl (fun _ => 0))), (q12, .inl (cZ, 80, .inl (fun _ => 0))), (q13, .inl (cI, 80, .inl (fun _ => 0))), (q14, .inl (cZ, 80, .inl (fun _ => 0))), (q15, .inl (cI, 80, .inl (fun _ => 0))), (q16, .inl (cI, 10, .inl (fun _ => 0)))] := hD16
  have hS : va_S A s.heap H16 locs16 := hS16
  clear hP16 hD16 hS16
  refine xn_group false (cA := cI) (v := 10) (n := 10) (pc1 := 143) hx hb hown hin hK hA rfl (fun w hw => hts2 w (iw_X6 w hw)) (hts2 _ ka_int) (hK.2 0 _ rfl).2 (lv_at hl 0 rfl) hP hD hS 22 (by decide) (Nat.le_of_ble_eq_true rfl) rfl rfl (by decide +kernel) (hts2 _ kf_X6_62) dX6_init_140 (fun st k => lv_bipush hx hb dX6_init_141 (by decide) k) dX6_init_143 dX6_init_145 (by decide) (by decide) (by decide) (Nat.le_of_ble_eq_true rfl) (Nat.le_of_ble_eq_true rfl) (fun q17 H17 locs17 hP17 hD17 hS17 => ?_)
  clear hP hD hS
  have hP : va_P D vwCl [(h0, .inr (6, [.int 0, .int 0, .ref q0, .ref q1, .ref q2, .ref q3, .ref q4, .ref q5, .ref q6, .int 0, .ref q7, .ref q8, .ref q9, .ref q10, .ref q11, .ref q12, .ref q13, .ref q14, .ref q15, .int 0, .int 0, .ref q16, .ref q17, .null, .null, .null, .int 0, .null, .null, .int 0, .null])), (q0, .inl (cI, 40, .inl (fun _ => 0))), (q1, .inl (cI, 40, .inl (fun _ => 0))), (q2, .inl (cI, 40, .inl (fun _ => 0))), (q3, .inl (cI, 40, .inl (fun _ => 0))), (q4, .inl (cI, 40, .inl (fun _ => 0))), (q5, .inl (cZ, 40, .inl (fun _ => 0))), (q6, .inl (cI, 60, .inl (fun _ => 0))), (q7, .inl (cI, 80, .inl (fun _ => 0))), (q8, .inl (cI, 80, .inl (fun _ => 0))), (q9, .inl (cI, 80, .inl (fun _ => 0))), (q10, .inl (cI, 80, .inl (fun _ => 0))), (q11, .inl (cZ, 80, .inl (fun _ => 0))), (q12, .inl (cZ, 80, .inl (fun _ => 0))), (q13, .inl (cI, 80, .inl (fun _ => 0))), (q14, .inl (cZ, 80, .inl (fun _ => 0))), (q15, .inl (cI, 80, .inl (fun _ => 0))), (q16, .inl (cI, 10, .inl (fun _ => 0))), (q17, .inl (cI, 10, .inl (fun _ => 0)))] H17 := hP17
  have hD : va_D A [(h0, .inr (6, [.int 0, .int 0, .ref q0, .ref q1, .ref q2, .ref q3, .ref q4, .ref q5, .ref q6, .int 0, .ref q7, .ref q8, .ref q9, .ref q10, .ref q11, .ref q12, .ref q13, .ref q14, .ref q15, .int 0, .int 0, .ref q16, .ref q17, .null, .null, .null, .int 0, .null, .null, .int 0, .null])), (q0, .inl (cI, 40, .inl (fun _ => 0))), (q1, .inl (cI, 40, .inl (fun _ => 0))), (q2, .inl (cI, 40, .inl (fun _ => 0))), (q3, .inl (cI, 40, .inl (fun _ => 0))), (q4, .inl (cI, 40, .inl (fun _ => 0))), (q5, .inl (cZ, 40, .inl (fun _ => 0))), (q6, .inl (cI, 60, .inl (fun _ => 0))), (q7, .inl (cI, 80, .inl (fun _ => 0))), (q8, .inl (cI, 80, .inl (fun _ => 0))), (q9, .inl (cI, 80, .inl (fun _ => 0))), (q10, .inl (cI, 80, .inl (fun _ => 0))), (q11, .inl (cZ, 80, .inl (fun _ => 0))), (q12, .inl (cZ, 80, .inl (fun _ => 0))), (q13, .inl (cI, 80, .inl (fun _ => 0))), (q14, .inl (cZ, 80, .inl (fun _ => 0))), (q15, .inl (cI, 80, .inl (fun _ => 0))), (q16, .inl (cI, 10, .inl (fun _ => 0))), (q17, .inl (cI, 10, .inl (fun _ => 0)))] := hD17
  have hS : va_S A s.heap H17 locs17 := hS17
  clear hP17 hD17 hS17
  refine xn_group false (cA := cI) (v := 10) (n := 10) (pc1 := 151) hx hb hown hin hK hA rfl (fun w hw => hts2 w (iw_X6 w hw)) (hts2 _ ka_int) (hK.2 0 _ rfl).2 (lv_at hl 0 rfl) hP hD hS 23 (by decide) (Nat.le_of_ble_eq_true rfl) rfl rfl (by decide +kernel) (hts2 _ kf_X6_65) dX6_init_148 (fun st k => lv_bipush hx hb dX6_init_149 (by decide) k) dX6_init_151 dX6_init_153 (by decide) (by decide) (by decide) (Nat.le_of_ble_eq_true rfl) (Nat.le_of_ble_eq_true rfl) (fun q18 H18 locs18 hP18 hD18 hS18 => ?_)
  clear hP hD hS
  have hP : va_P D vwCl [(h0, .inr (6, [.int 0, .int 0, .ref q0, .ref q1, .ref q2, .ref q3, .ref q4, .ref q5, .ref q6, .int 0, .ref q7, .ref q8, .ref q9, .ref q10, .ref q11, .ref q12, .ref q13, .ref q14, .ref q15, .int 0, .int 0, .ref q16, .ref q17, .ref q18, .null, .null, .int 0, .null, .null, .int 0, .null])), (q0, .inl (cI, 40, .inl (fun _ => 0))), (q1, .inl (cI, 40, .inl (fun _ => 0))), (q2, .inl (cI, 40, .inl (fun _ => 0))), (q3, .inl (cI, 40, .inl (fun _ => 0))), (q4, .inl (cI, 40, .inl (fun _ => 0))), (q5, .inl (cZ, 40, .inl (fun _ => 0))), (q6, .inl (cI, 60, .inl (fun _ => 0))), (q7, .inl (cI, 80, .inl (fun _ => 0))), (q8, .inl (cI, 80, .inl (fun _ => 0))), (q9, .inl (cI, 80, .inl (fun _ => 0))), (q10, .inl (cI, 80, .inl (fun _ => 0))), (q11, .inl (cZ, 80, .inl (fun _ => 0))), (q12, .inl (cZ, 80, .inl (fun _ => 0))), (q13, .inl (cI, 80, .inl (fun _ => 0))), (q14, .inl (cZ, 80, .inl (fun _ => 0))), (q15, .inl (cI, 80, .inl (fun _ => 0))), (q16, .inl (cI, 10, .inl (fun _ => 0))), (q17, .inl (cI, 10, .inl (fun _ => 0))), (q18, .inl (cI, 10, .inl (fun _ => 0)))] H18 := hP18
  have hD : va_D A [(h0, .inr (6, [.int 0, .int 0, .ref q0, .ref q1, .ref q2, .ref q3, .ref q4, .ref q5, .ref q6, .int 0, .ref q7, .ref q8, .ref q9, .ref q10, .ref q11, .ref q12, .ref q13, .ref q14, .ref q15, .int 0, .int 0, .ref q16, .ref q17, .ref q18, .null, .null, .int 0, .null, .null, .int 0, .null])), (q0, .inl (cI, 40, .inl (fun _ => 0))), (q1, .inl (cI, 40, .inl (fun _ => 0))), (q2, .inl (cI, 40, .inl (fun _ => 0))), (q3, .inl (cI, 40, .inl (fun _ => 0))), (q4, .inl (cI, 40, .inl (fun _ => 0))), (q5, .inl (cZ, 40, .inl (fun _ => 0))), (q6, .inl (cI, 60, .inl (fun _ => 0))), (q7, .inl (cI, 80, .inl (fun _ => 0))), (q8, .inl (cI, 80, .inl (fun _ => 0))), (q9, .inl (cI, 80, .inl (fun _ => 0))), (q10, .inl (cI, 80, .inl (fun _ => 0))), (q11, .inl (cZ, 80, .inl (fun _ => 0))), (q12, .inl (cZ, 80, .inl (fun _ => 0))), (q13, .inl (cI, 80, .inl (fun _ => 0))), (q14, .inl (cZ, 80, .inl (fun _ => 0))), (q15, .inl (cI, 80, .inl (fun _ => 0))), (q16, .inl (cI, 10, .inl (fun _ => 0))), (q17, .inl (cI, 10, .inl (fun _ => 0))), (q18, .inl (cI, 10, .inl (fun _ => 0)))] := hD18
  have hS : va_S A s.heap H18 locs18 := hS18
  clear hP18 hD18 hS18
  refine xn_group false (cA := cI) (v := 10) (n := 10) (pc1 := 159) hx hb hown hin hK hA rfl (fun w hw => hts2 w (iw_X6 w hw)) (hts2 _ ka_int) (hK.2 0 _ rfl).2 (lv_at hl 0 rfl) hP hD hS 24 (by decide) (Nat.le_of_ble_eq_true rfl) rfl rfl (by decide +kernel) (hts2 _ kf_X6_68) dX6_init_156 (fun st k => lv_bipush hx hb dX6_init_157 (by decide) k) dX6_init_159 dX6_init_161 (by decide) (by decide) (by decide) (Nat.le_of_ble_eq_true rfl) (Nat.le_of_ble_eq_true rfl) (fun q19 H19 locs19 hP19 hD19 hS19 => ?_)
  clear hP hD hS
  have hP : va_P D vwCl [(h0, .inr (6, [.int 0, .int 0, .ref q0, .ref q1, .ref q2, .ref q3, .ref q4, .ref q5, .ref q6, .int 0, .ref q7, .ref q8, .ref q9, .ref q10, .ref q11, .ref q12, .ref q13, .ref q14, .ref q15, .int 0, .int 0, .ref q16, .ref q17, .ref q18, .ref q19, .null, .int 0, .null, .null, .int 0, .null])), (q0, .inl (cI, 40, .inl (fun _ => 0))), (q1, .inl (cI, 40, .inl (fun _ => 0))), (q2, .inl (cI, 40, .inl (fun _ => 0))), (q3, .inl (cI, 40, .inl (fun _ => 0))), (q4, .inl (cI, 40, .inl (fun _ => 0))), (q5, .inl (cZ, 40, .inl (fun _ => 0))), (q6, .inl (cI, 60, .inl (fun _ => 0))), (q7, .inl (cI, 80, .inl (fun _ => 0))), (q8, .inl (cI, 80, .inl (fun _ => 0))), (q9, .inl (cI, 80, .inl (fun _ => 0))), (q10, .inl (cI, 80, .inl (fun _ => 0))), (q11, .inl (cZ, 80, .inl (fun _ => 0))), (q12, .inl (cZ, 80, .inl (fun _ => 0))), (q13, .inl (cI, 80, .inl (fun _ => 0))), (q14, .inl (cZ, 80, .inl (fun _ => 0))), (q15, .inl (cI, 80, .inl (fun _ => 0))), (q16, .inl (cI, 10, .inl (fun _ => 0))), (q17, .inl (cI, 10, .inl (fun _ => 0))), (q18, .inl (cI, 10, .inl (fun _ => 0))), (q19, .inl (cI, 10, .inl (fun _ => 0)))] H19 := hP19
  have hD : va_D A [(h0, .inr (6, [.int 0, .int 0, .ref q0, .ref q1, .ref q2, .ref q3, .ref q4, .ref q5, .ref q6, .int 0, .ref q7, .ref q8, .ref q9, .ref q10, .ref q11, .ref q12, .ref q13, .ref q14, .ref q15, .int 0, .int 0, .ref q16, .ref q17, .ref q18, .ref q19, .null, .int 0, .null, .null, .int 0, .null])), (q0, .inl (cI, 40, .inl (fun _ => 0))), (q1, .inl (cI, 40, .inl (fun _ => 0))), (q2, .inl (cI, 40, .inl (fun _ => 0))), (q3, .inl (cI, 40, .inl (fun _ => 0))), (q4, .inl (cI, 40, .inl (fun _ => 0))), (q5, .inl (cZ, 40, .inl (fun _ => 0))), (q6, .inl (cI, 60, .inl (fun _ => 0))), (q7, .inl (cI, 80, .inl (fun _ => 0))), (q8, .inl (cI, 80, .inl (fun _ => 0))), (q9, .inl (cI, 80, .inl (fun _ => 0))), (q10, .inl (cI, 80, .inl (fun _ => 0))), (q11, .inl (cZ, 80, .inl (fun _ => 0))), (q12, .inl (cZ, 80, .inl (fun _ => 0))), (q13, .inl (cI, 80, .inl (fun _ => 0))), (q14, .inl (cZ, 80, .inl (fun _ => 0))), (q15, .inl (cI, 80, .inl (fun _ => 0))), (q16, .inl (cI, 10, .inl (fun _ => 0))), (q17, .inl (cI, 10, .inl (fun _ => 0))), (q18, .inl (cI, 10, .inl (fun _ => 0))), (q19, .inl (cI, 10, .inl (fun _ => 0)))] := hD19
  have hS : va_S A s.heap H19 locs19 := hS19
  clear hP19 hD19 hS19
  refine xn_group false (cA := cI) (v := 10) (n := 10) (pc1 := 167) hx hb hown hin hK hA rfl (fun w hw => hts2 w (iw_X6 w hw)) (hts2 _ ka_int) (hK.2 0 _ rfl).2 (lv_at hl 0 rfl) hP hD hS 25 (by decide) (Nat.le_of_ble_eq_true rfl) rfl rfl (by decide +kernel) (hts2 _ kf_X6_71) dX6_init_164 (fun st k => lv_bipush hx hb dX6_init_165 (by decide) k) dX6_init_167 dX6_init_169 (by decide) (by decide) (by decide) (Nat.le_of_ble_eq_true rfl) (Nat.le_of_ble_eq_true rfl) (fun q20 H20 locs20 hP20 hD20 hS20 => ?_)
  clear hP hD hS
  have hP : va_P D vwCl [(h0, .inr (6, [.int 0, .int 0, .ref q0, .ref q1, .ref q2, .ref q3, .ref q4, .ref q5, .ref q6, .int 0, .ref q7, .ref q8, .ref q9, .ref q10, .ref q11, .ref q12, .ref q13, .ref q14, .ref q15, .int 0, .int 0, .ref q16, .ref q17, .ref q18, .ref q19, .ref q20, .int 0, .null, .null, .int 0, .null])), (q0, .inl (cI, 40, .inl (fun _ => 0))), (q1, .inl (cI, 40, .inl (fun _ => 0))), (q2, .inl (cI, 40, .inl (fun _ => 0))), (q3, .inl (cI, 40, .inl (fun _ => 0))), (q4, .inl (cI, 40, .inl (fun _ => 0))), (q5, .inl (cZ, 40, .inl (fun _ => 0))), (q6, .inl (cI, 60, .inl (fun _ => 0))), (q7, .inl (cI, 80, .inl (fun _ => 0))), (q8, .inl (cI, 80, .inl (fun _ => 0))), (q9, .inl (cI, 80, .inl (fun _ => 0))), (q10, .inl (cI, 80, .inl (fun _ => 0))), (q11, .inl (cZ, 80, .inl (fun _ => 0))), (q12, .inl (cZ, 80, .inl (fun _ => 0))), (q13, .inl (cI, 80, .inl (fun _ => 0))), (q14, .inl (cZ, 80, .inl (fun _ => 0))), (q15, .inl (cI, 80, .inl (fun _ => 0))), (q16, .inl (cI, 10, .inl (fun _ => 0))), (q17, .inl (cI, 10, .inl (fun _ => 0))), (q18, .inl (cI, 10, .inl (fun _ => 0))), (q19, .inl (cI, 10, .inl (fun _ => 0))), (q20, .inl (cI, 10, .inl (fun _ => 0)))] H20 := hP20
  have hD : va_D A [(h0, .inr (6, [.int 0, .int 0, .ref q0, .ref q1, .ref q2, .ref q3, .ref q4, .ref q5, .ref q6, .int 0, .ref q7, .ref q8, .ref q9, .ref q10, .ref q11, .ref q12, .ref q13, .ref q14, .ref q15, .int 0, .int 0, .ref q16, .ref q17, .ref q18, .ref q19, .ref q20, .int 0, .null, .null, .int 0, .null])), (q0, .inl (cI, 40, .inl (fun _ => 0))), (q1, .inl (cI, 40, .inl (fun _ => 0))), (q2, .inl (cI, 40, .inl (fun _ => 0))), (q3, .inl (cI, 40, .inl (fun _ => 0))), (q4, .inl (cI, 40, .inl (fun _ => 0))), (q5, .inl (cZ, 40, .inl (fun _ => 0))), (q6, .inl (cI, 60, .inl (fun _ => 0))), (q7, .inl (cI, 80, .inl (fun _ => 0))), (q8, .inl (cI, 80, .inl (fun _ => 0))), (q9, .inl (cI, 80, .inl (fun _ => 0))), (q10, .inl (cI, 80, .inl (fun _ => 0))), (q11, .inl (cZ, 80, .inl (fun _ => 0))), (q12, .inl (cZ, 80, .inl (fun _ => 0))), (q13, .inl (cI, 80, .inl (fun _ => 0))), (q14, .inl (cZ, 80, .inl (fun _ => 0))), (q15, .inl (cI, 80, .inl (fun _ => 0))), (q16, .inl (cI, 10, .inl (fun _ => 0))), (q17, .inl (cI, 10, .inl (fun _ => 0))), (q18, .inl (cI, 10, .inl (fun _ => 0))), (q19, .inl (cI, 10, .inl (fun _ => 0))), (q20, .inl (cI, 10, .inl (fun _ => 0)))] := hD20
  have hS : va_S A s.heap H20 locs20 := hS20
  clear hP20 hD20 hS20
  refine xn_group true (cA := cZ) (v := 20) (n := 20) (pc1 := 175) hx hb hown hin hK hA rfl (fun w hw => hts2 w (iw_X6 w hw)) (hts2 _ ka_boolean) (hK.2 1 _ rfl).2 (lv_at hl 0 rfl) hP hD hS 27 (by decide) (Nat.le_of_ble_eq_true rfl) rfl rfl (by decide +kernel) (hts2 _ kf_X6_74) dX6_init_172 (fun st k => lv_bipush hx hb dX6_init_173 (by decide) k) dX6_init_175 dX6_init_177 (by decide) (by decide) (by decide) (Nat.le_of_ble_eq_true rfl) (Nat.le_of_ble_eq_true rfl) (fun q21 H21 locs21 hP21 hD21 hS21 => ?_)
  clear hP hD hS
  have hP : va_P D vwCl [(h0, .inr (6, [.int 0, .int 0, .ref q0, .ref q1, .ref q2, .ref q3, .ref q4, .ref q5, .ref q6, .int 0, .ref q7, .ref q8, .ref q9, .ref q10, .ref q11, .ref q12, .ref q13, .ref q14, .ref q15, .int 0, .int 0, .ref q16, .ref q17, .ref q18, .ref q19, .ref q20, .int 0, .ref q21, .null, .int 0, .null])), (q0, .inl (cI, 40, .inl (fun _ => 0))), (q1, .inl (cI, 40, .inl (fun _ => 0))), (q2, .inl (cI, 40, .inl (fun _ => 0))), (q3, .inl (cI, 40, .inl (fun _ => 0))), (q4, .inl (cI, 40, .inl (fun _ => 0))), (q5, .inl (cZ, 40, .inl (fun _ => 0))), (q6, .inl (cI, 60, .inl (fun _ => 0))), (q7, .inl (cI, 80, .inl (fun _ => 0))), (q8, .inl (cI, 80, .inl (fun _ => 0))), (q9, .inl (cI, 80, .inl (fun _ => 0))), (q10, .inl (cI, 80, .inl (fun _ => 0))), (q11, .inl (cZ, 80, .inl (fun _ => 0))), (q12, .inl (cZ, 80, .inl (fun _ => 0))), (q13, .inl (cI, 80, .inl (fun _ => 0))), (q14, .inl (cZ, 80, .inl (fun _ => 0))), (q15, .inl (cI, 80, .inl (fun _ => 0))), (q16, .inl (cI, 10, .inl (fun _ => 0))), (q17, .inl (cI, 10, .inl (fun _ => 0))), (q18, .inl (cI, 10, .inl (fun _ => 0))), (q19, .inl (cI, 10, .inl (fun _ => 0))), (q20, .inl (cI, 10, .inl (fun _ => 0))), (q21, .inl (cZ, 20, .inl (fun _ => 0)))] H21 := hP21
  have hD : va_D A [(h0, .inr (6, [.int 0, .int 0, .ref q0, .ref q1, .ref q2, .ref q3, .ref q4, .ref q5, .ref q6, .int 0, .ref q7, .ref q8, .ref q9, .ref q10, .ref q11, .ref q12, .ref q13, .ref q14, .ref q15, .int 0, .int 0, .ref q16, .ref q17, .ref q18, .ref q19, .ref q20, .int 0, .ref q21, .null, .int 0, .null])), (q0, .inl (cI, 40, .inl (fun _ => 0))), (q1, .inl (cI, 40, .inl (fun _ => 0))), (q2, .inl (cI, 40, .inl (fun _ => 0))), (q3, .inl (cI, 40, .inl (fun _ => 0))), (q4, .inl (cI, 40, .inl (fun _ => 0))), (q5, .inl (cZ, 40, .inl (fun _ => 0))), (q6, .inl (cI, 60, .inl (fun _ => 0))), (q7, .inl (cI, 80, .inl (fun _ => 0))), (q8, .inl (cI, 80, .inl (fun _ => 0))), (q9, .inl (cI, 80, .inl (fun _ => 0))), (q10, .inl (cI, 80, .inl (fun _ => 0))), (q11, .inl (cZ, 80, .inl (fun _ => 0))), (q12, .inl (cZ, 80, .inl (fun _ => 0))), (q13, .inl (cI, 80, .inl (fun _ => 0))), (q14, .inl (cZ, 80, .inl (fun _ => 0))), (q15, .inl (cI, 80, .inl (fun _ => 0))), (q16, .inl (cI, 10, .inl (fun _ => 0))), (q17, .inl (cI, 10, .inl (fun _ => 0))), (q18, .inl (cI, 10, .inl (fun _ => 0))), (q19, .inl (cI, 10, .inl (fun _ => 0))), (q20, .inl (cI, 10, .inl (fun _ => 0))), (q21, .inl (cZ, 20, .inl (fun _ => 0)))] := hD21
  have hS : va_S A s.heap H21 locs21 := hS21
  clear hP21 hD21 hS21
  refine xn_group false (cA := cI) (v := 20) (n := 20) (pc1 := 183) hx hb hown hin hK hA rfl (fun w hw => hts2 w (iw_X6 w hw)) (hts2 _ ka_int) (hK.2 0 _ rfl).2 (lv_at hl 0 rfl) hP hD hS 28 (by decide) (Nat.le_of_ble_eq_true rfl) rfl rfl (by decide +kernel) (hts2 _ kf_X6_77) dX6_init_180 (fun st k => lv_bipush hx hb dX6_init_181 (by decide) k) dX6_init_183 dX6_init_185 (by decide) (by decide) (by decide) (Nat.le_of_ble_eq_true rfl) (Nat.le_of_ble_eq_true rfl) (fun q22 H22 locs22 hP22 hD22 hS22 => ?_)
  clear hP hD hS
  have hP : va_P D vwCl [(h0, .inr (6, [.int 0, .int 0, .ref q0, .ref q1, .ref q2, .ref q3, .ref q4, .ref q5, .ref q6, .int 0, .ref q7, .ref q8, .ref q9, .ref q10, .ref q11, .ref q12, .ref q13, .ref q14, .ref q15, .int 0, .int 0, .ref q16, .ref q17, .ref q18, .ref q19, .ref q20, .int 0, .ref q21, .ref q22, .int 0, .null])), (q0, .inl (cI, 40, .inl (fun _ => 0))), (q1, .inl (cI, 40, .inl (fun _ => 0))), (q2, .inl (cI, 40, .inl (fun _ => 0))), (q3, .inl (cI, 40, .inl (fun _ => 0))), (q4, .inl (cI, 40, .inl (fun _ => 0))), (q5, .inl (cZ, 40, .inl (fun _ => 0))), (q6, .inl (cI, 60, .inl (fun _ => 0))), (q7, .inl (cI, 80, .inl (fun _ => 0))), (q8, .inl (cI, 80, .inl (fun _ => 0))), (q9, .inl (cI, 80, .inl (fun _ => 0))), (q10, .inl (cI, 80, .inl (fun _ => 0))), (q11, .inl (cZ, 80, .inl (fun _ => 0))), (q12, .inl (cZ, 80, .inl (fun _ => 0))), (q13, .inl (cI, 80, .inl (fun _ => 0))), (q14, .inl (cZ, 80, .inl (fun _ => 0))), (q15, .inl (cI, 80, .inl (fun _ => 0))), (q16, .inl (cI, 10, .inl (fun _ => 0))), (q17, .inl (cI, 10, .inl (fun _ => 0))), (q18, .inl (cI, 10, .inl (fun _ => 0))), (q19, .inl (cI, 10, .inl (fun _ => 0))), (q20, .inl (cI, 10, .inl (fun _ => 0))), (q21, .inl (cZ, 20, .inl (fun _ => 0))), (q22, .inl (cI, 20, .inl (fun _ => 0)))] H22 := hP22
  have hD : va_D A [(h0, .inr (6, [.int 0, .int 0, .ref q0, .ref q1, .ref q2, .ref q3, .ref q4, .ref q5, .ref q6, .int 0, .ref q7, .ref q8, .ref q9, .ref q10, .ref q11, .ref q12, .ref q13, .ref q14, .ref q15, .int 0, .int 0, .ref q16, .ref q17, .ref q18, .ref q19, .ref q20, .int 0, .ref q21, .ref q22, .int 0, .null])), (q0, .inl (cI, 40, .inl (fun _ => 0))), (q1, .inl (cI, 40, .inl (fun _ => 0))), (q2, .inl (cI, 40, .inl (fun _ => 0))), (q3, .inl (cI, 40, .inl (fun _ => 0))), (q4, .inl (cI, 40, .inl (fun _ => 0))), (q5, .inl (cZ, 40, .inl (fun _ => 0))), (q6, .inl (cI, 60, .inl (fun _ => 0))), (q7, .inl (cI, 80, .inl (fun _ => 0))), (q8, .inl (cI, 80, .inl (fun _ => 0))), (q9, .inl (cI, 80, .inl (fun _ => 0))), (q10, .inl (cI, 80, .inl (fun _ => 0))), (q11, .inl (cZ, 80, .inl (fun _ => 0))), (q12, .inl (cZ, 80, .inl (fun _ => 0))), (q13, .inl (cI, 80, .inl (fun _ => 0))), (q14, .inl (cZ, 80, .inl (fun _ => 0))), (q15, .inl (cI, 80, .inl (fun _ => 0))), (q16, .inl (cI, 10, .inl (fun _ => 0))), (q17, .inl (cI, 10, .inl (fun _ => 0))), (q18, .inl (cI, 10, .inl (fun _ => 0))), (q19, .inl (cI, 10, .inl (fun _ => 0))), (q20, .inl (cI, 10, .inl (fun _ => 0))), (q21, .inl (cZ, 20, .inl (fun _ => 0))), (q22, .inl (cI, 20, .inl (fun _ => 0)))] := hD22
  have hS : va_S A s.heap H22 locs22 := hS22
  clear hP22 hD22 hS22
  refine xn_group false (cA := cI) (v := 80) (n := 80) (pc1 := 191) hx hb hown hin hK hA rfl (fun w hw => hts2 w (iw_X6 w hw)) (hts2 _ ka_int) (hK.2 0 _ rfl).2 (lv_at hl 0 rfl) hP hD hS 30 (by decide) (Nat.le_of_ble_eq_true rfl) rfl rfl (by decide +kernel) (hts2 _ kf_X6_80) dX6_init_188 (fun st k => lv_bipush hx hb dX6_init_189 (by decide) k) dX6_init_191 dX6_init_193 (by decide) (by decide) (by decide) (Nat.le_of_ble_eq_true rfl) (Nat.le_of_ble_eq_true rfl) (fun q23 H23 locs23 hP23 hD23 hS23 => ?_)
  clear hP hD hS
  have hP : va_P D vwCl [(h0, .inr (6, [.int 0, .int 0, .ref q0, .ref q1, .ref q2, .ref q3, .ref q4, .ref q5, .ref q6, .int 0, .ref q7, .ref q8, .ref q9, .ref q10, .ref q11, .ref q12, .ref q13, .ref q14, .ref q15, .int 0, .int 0, .ref q16, .ref q17, .ref q18, .ref q19, .ref q20, .int 0, .ref q21, .ref q22, .int 0, .ref q23])), (q0, .inl (cI, 40, .inl (fun _ => 0))), (q1, .inl (cI, 40, .inl (fun _ => 0))), (q2, .inl (cI, 40, .inl (fun _ => 0))), (q3, .inl (cI, 40, .inl (fun _ => 0))), (q4, .inl (cI, 40, .inl (fun _ => 0))), (q5, .inl (cZ, 40, .inl (fun _ => 0))), (q6, .inl (cI, 60, .inl (fun _ => 0))), (q7, .inl (cI, 80, .inl (fun _ => 0))), (q8, .inl (cI, 80, .inl (fun _ => 0))), (q9, .inl (cI, 80, .inl (fun _ => 0))), (q10, .inl (cI, 80, .inl (fun _ => 0))), (q11, .inl (cZ, 80, .inl (fun _ => 0))), (q12, .inl (cZ, 80, .inl (fun _ => 0))), (q13, .inl (cI, 80, .inl (fun _ => 0))), (q14, .inl (cZ, 80, .inl (fun _ => 0))), (q15, .inl (cI, 80, .inl (fun _ => 0))), (q16, .inl (cI, 10, .inl (fun _ => 0))), (q17, .inl (cI, 10, .inl (fun _ => 0))), (q18, .inl (cI, 10, .inl (fun _ => 0))), (q19, .inl (cI, 10, .inl (fun _ => 0))), (q20, .inl (cI, 10, .inl (fun _ => 0))), (q21, .inl (cZ, 20, .inl (fun _ => 0))), (q22, .inl (cI, 20, .inl (fun _ => 0))), (q23, .inl (cI, 80, .inl (fun _ => 0)))] H23 := hP23
  have hD : va_D A [(h0, .inr (6, [.int 0, .int 0, .ref q0, .ref q1, .ref q2, .ref q3, .ref q4, .ref q5, .ref q6, .int 0, .ref q7, .ref q8, .ref q9, .ref q10, .ref q11, .ref q12, .ref q13, .ref q14, .ref q15, .int 0, .int 0, .ref q16, .ref q17, .ref q18, .ref q19, .ref q20, .int 0, .ref q21, .ref q22, .int 0, .ref q23])), (q0, .inl (cI, 40, .inl (fun _ => 0))), (q1, .inl (cI, 40, .inl (fun _ => 0))), (q2, .inl (cI, 40, .inl (fun _ => 0))), (q3, .inl (cI, 40, .inl (fun _ => 0))), (q4, .inl (cI, 40, .inl (fun _ => 0))), (q5, .inl (cZ, 40, .inl (fun _ => 0))), (q6, .inl (cI, 60, .inl (fun _ => 0))), (q7, .inl (cI, 80, .inl (fun _ => 0))), (q8, .inl (cI, 80, .inl (fun _ => 0))), (q9, .inl (cI, 80, .inl (fun _ => 0))), (q10, .inl (cI, 80, .inl (fun _ => 0))), (q11, .inl (cZ, 80, .inl (fun _ => 0))), (q12, .inl (cZ, 80, .inl (fun _ => 0))), (q13, .inl (cI, 80, .inl (fun _ => 0))), (q14, .inl (cZ, 80, .inl (fun _ => 0))), (q15, .inl (cI, 80, .inl (fun _ => 0))), (q16, .inl (cI, 10, .inl (fun _ => 0))), (q17, .inl (cI, 10, .inl (fun _ => 0))), (q18, .inl (cI, 10, .inl (fun _ => 0))), (q19, .inl (cI, 10, .inl (fun _ => 0))), (q20, .inl (cI, 10, .inl (fun _ => 0))), (q21, .inl (cZ, 20, .inl (fun _ => 0))), (q22, .inl (cI, 20, .inl (fun _ => 0))), (q23, .inl (cI, 80, .inl (fun _ => 0)))] := hD23
  have hS : va_S A s.heap H23 locs23 := hS23
  clear hP23 hD23 hS23
  obtain ⟨gt, e_0, e_1, e_2, e_3, e_4, e_5, e_6, e_7, e_8, e_9, e_10, e_11, e_12, e_13, e_14, e_15, e_16, e_17, e_18, e_19, e_20, e_21, e_22, e_23, e_24, e40, e41, e42⟩ : ∃ gt : Nat → Nat, gt 0 = h0 ∧ gt 1 = q0 ∧ gt 2 = q1 ∧ gt 3 = q2 ∧ gt 4 = q3 ∧ gt 5 = q4 ∧ gt 6 = q5 ∧ gt 7 = q6 ∧ gt 8 = q7 ∧ gt 9 = q8 ∧ gt 10 = q9 ∧ gt 11 = q10 ∧ gt 12 = q11 ∧ gt 13 = q12 ∧ gt 14 = q13 ∧ gt 15 = q14 ∧ gt 16 = q15 ∧ gt 17 = q16 ∧ gt 18 = q17 ∧ gt 19 = q18 ∧ gt 20 = q19 ∧ gt 21 = q20 ∧ gt 22 = q21 ∧ gt 23 = q22 ∧ gt 24 = q23 ∧ gt 40 = gs 40 ∧ gt 41 = gs 41 ∧ gt 42 = gs 42 := ⟨(fun k => [h0, q0, q1, q2, q3, q4, q5, q6, q7, q8, q9, q10, q11, q12, q13, q14, q15, q16, q17, q18, q19, q20, q21, q22, q23].getD k (gs k)), rfl, rfl, rfl, rfl, rfl, rfl, rfl, rfl, rfl, rfl, rfl, rfl, rfl, rfl, rfl, rfl, rfl, rfl, rfl, rfl, rfl, rfl, rfl, rfl, rfl, rfl, rfl, rfl⟩
  have hP : va_P D vwCl (ww mT gt cI cZ (fun _ _ => 0)) H23 := by rw [ww_mT, e_0, e_1, e_2, e_3, e_4, e_5, e_6, e_7, e_8, e_9, e_10, e_11, e_12, e_13, e_14, e_15, e_16, e_17, e_18, e_19, e_20, e_21, e_22, e_23, e_24]; exact hP
  have hD : va_D A (ww mT gt cI cZ (fun _ _ => 0)) := by rw [ww_mT, e_0, e_1, e_2, e_3, e_4, e_5, e_6, e_7, e_8, e_9, e_10, e_11, e_12, e_13, e_14, e_15, e_16, e_17, e_18, e_19, e_20, e_21, e_22, e_23, e_24]; exact hD
  have hst2 : xSt gt A s s.heap := hst.re e40 e41 e42
  have C0 : xC p s m c D mT gt cI cZ A 2 cX6_init RX6 := ⟨hx, hb, hml, hown, hK, ww_D hD, hst2⟩
  obtain ⟨f1, f2, f3⟩ := fa_X6 s _ hts2 hN
  refine W.widen (k := 24) (n := 1190) (Nat.le_of_ble_eq_true rfl) (Nat.le_of_ble_eq_true rfl) ?_
  refine s_X6_tail (As := [.inr 0]) (R0 := R0) ⟨C0, all_get (fun _ q => absurd q List.not_mem_nil), ?_, ok_X6_tail, fun q hq => xF_of f1 f2 f3 (fk_X6_tail q hq)⟩ htl _ _ ls hP hS (by have h9 : lv_has ls 2 [(0, .ref (gt 0))] := (by rw [e_0]; exact hl); exact h9)
  intro pc S v H locs ls e0 hP hS hd
  subst e0
  cases v with
  | none =>
    obtain ⟨hd, -⟩ := hd
    exact W.vret hx hb hr (fun t ht hW => ⟨⟨gt, rfl, ⟨e_0, e40, e41, e42⟩, by rw [ht]; exact hP, ww_D hD S⟩, hS.F ht⟩) hS.2.2 hd
  | some v =>
    cases v with
    | inl x => exact absurd hd.2.1 (by decide)
    | inr x => exact absurd hd.2 (by decide)
