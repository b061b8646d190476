def kT : List WE := [.inr (1, [some 1]), .inl (false, 60)]
def FT_X1i : List (Nat × Nat × Nat) := (13, 9, 41) :: FT_X1
theorem fa_X1i : ∀ (s : State) (args : Array Value), (∀ w ∈ wA, w.before args s = true) → xNw s → (∀ q ∈ FT_X1i, xFt s args RX1 q) ∧ (∀ q ∈ PT_X1, xPt s args RX1 q) ∧ ∀ q ∈ KT_X1, (Jvm.Cond.constant RX1 q.1 q.2).before args s = true :=
  fun s args hts hN => ⟨List.forall_mem_cons.mpr ⟨(⟨by decide, hts _ kf_X1_13⟩ : (_ ∧ _)), (fa_X1 s args hts hN).1⟩, (fa_X1 s args hts hN).2⟩
section
variable {p : Program} {l : Launch} {e : Env} {R : Room} {s : State} {m : MethodId} {args : Array Value} {below : List Frame} {meth : Method} {c : Code} {cells slots : Nat} {Q : State → Prop} {D : va_G} {g : Nat → Nat} {cI cZ : ClassId} {A : Nat → Prop} {R0 : RS}
def L_X1_tail : List CE := [(12, .iconst 0, 13, [], 0), (13, .istore_n 1, 14, [], 0), (14, .iload_n 1, 15, [], 0), (15, .bipush 10, 17, [], 10), (17, .if_icmp .ge 47, 20, [64], 0), (20, .iconst 0, 21, [], 0), (21, .istore_n 2, 22, [], 0), (22, .iload_n 2, 23, [], 0), (23, .bipush 6, 25, [], 6), (25, .if_icmp .ge 33, 28, [58], 0), (28, .aload_n 0, 29, [], 0), (29, .getfield 9, 32, [1, 0], 0), (32, .iload_n 1, 33, [], 0), (33, .bipush 6, 35, [], 6), (35, .imul, 36, [], 0), (36, .iload_n 2, 37, [], 0), (37, .iadd, 38, [], 0), (38, .iload_n 2, 39, [], 0), (39, .ifCond .ne 7, 42, [46], 0), (42, .iload_n 1, 43, [], 0), (43, .goto 8, 46, [51], 0), (46, .getstatic 13, 49, [41], 0), (49, .iload_n 2, 50, [], 0), (50, .iaload, 51, [], 0), (51, .iastore, 52, [], 0), (52, .iinc 2 1, 55, [], 1), (55, .goto (-33), 58, [22], 0), (58, .iinc 1 1, 61, [], 1), (61, .goto (-47), 64, [14], 0), (64, .return_, 65, [], 0)]
theorem ok_X1_tail : ∀ q ∈ L_X1_tail, rok cX1_init 3 2 q = true := by decide +kernel
theorem fk_X1_tail : ∀ q ∈ L_X1_tail, fck FT_X1i PT_X1 KT_X1 q = true := by decide +kernel
noncomputable def cs_X1_tail : List CT := []
noncomputable def b_X1_tail_22 (k14 : BT) : Nat → BT
  | 0 => fun _ _ _ => none
  | n + 1 => fun lv st S => brn kT cs_X1_tail L_X1_tail [14, 22] (dsp [(14, [0, 1], k14), (22, [0, 1, 2], b_X1_tail_22 k14 n)]) 32 [] 22 lv st S
theorem s_X1_tail_22 (M : xM p l e R s m args below meth c cells slots Q D kT g cI cZ A 3 cX1_init RX1 2 cs_X1_tail L_X1_tail R0) {k14 : BT} (hk14 : ∀ lv st S, k14 lv st S = some R0 → xG p l e R s m args below meth c cells slots Q D kT g cI cZ A 3 14 lv st S) : ∀ n lv st S, b_X1_tail_22 k14 n lv st S = some R0 → xG p l e R s m args below meth c cells slots Q D kT g cI cZ A 3 22 lv st S := by
  intro n
  induction n with
  | zero => intro lv st S h; cases h
  | succ n ih => intro lv st S h; exact xa_blk M (List.forall_mem_cons.mpr ⟨fun lv st S h => (hk14) lv st S h, List.forall_mem_cons.mpr ⟨fun lv st S h => (ih) lv st S h, fun _ q => absurd q List.not_mem_nil⟩⟩) h
noncomputable def b_X1_tail_14 : Nat → BT
  | 0 => fun _ _ _ => none
  | n + 1 => fun lv st S => brn kT cs_X1_tail L_X1_tail [14, 22] (dsp [(22, [0, 1, 2], b_X1_tail_22 (b_X1_tail_14 n) fu)]) 32 [] 14 lv st S
theorem s_X1_tail_14 (M : xM p l e R s m args below meth c cells slots Q D kT g cI cZ A 3 cX1_init RX1 2 cs_X1_tail L_X1_tail R0) : ∀ n lv st S, b_X1_tail_14 n lv st S = some R0 → xG p l e R s m args below meth c cells slots Q D kT g cI cZ A 3 14 lv st S := by
  intro n
  induction n with
  | zero => intro lv st S h; cases h
  | succ n ih => intro lv st S h; exact xa_blk M (List.forall_mem_cons.mpr ⟨fun lv st S h => (s_X1_tail_22 M ih fu) lv st S h, fun _ q => absurd q List.not_mem_nil⟩) h
noncomputable def m_X1_tail : MT := fun As S => brn kT cs_X1_tail L_X1_tail [14, 22] (dsp [(14, [0, 1], b_X1_tail_14 fu)]) 32 [] 12 (zipN 0 As) [] S
theorem s_X1_tail (M : xM p l e R s m args below meth c cells slots Q D kT g cI cZ A 3 cX1_init RX1 2 cs_X1_tail L_X1_tail R0) {As : List AV} {S : XS} (h : m_X1_tail As S = some R0) : xG p l e R s m args below meth c cells slots Q D kT g cI cZ A 3 12 (zipN 0 As) [] S := xa_blk M (List.forall_mem_cons.mpr ⟨fun lv st S h => (s_X1_tail_14 M fu) lv st S h, fun _ q => absurd q List.not_mem_nil⟩) h
def L_X6_tail : List CE := [(196, .iconst 0, 197, [], 0), (197, .istore_n 1, 198, [], 0), (198, .iload_n 1, 199, [], 0), (199, .bipush 10, 201, [], 10), (201, .if_icmp .ge 43, 204, [244], 0), (204, .aload_n 0, 205, [], 0), (205, .getfield 29, 208, [6, 8], 0), (208, .bipush 6, 210, [], 6), (210, .iload_n 1, 211, [], 0), (211, .imul, 212, [], 0), (212, .iload_n 1, 213, [], 0), (213, .iastore, 214, [], 0), (214, .aload_n 0, 215, [], 0), (215, .getfield 29, 218, [6, 8], 0), (218, .bipush 6, 220, [], 6), (220, .iload_n 1, 221, [], 0), (221, .imul, 222, [], 0), (222, .iconst 1, 223, [], 1), (223, .iadd, 224, [], 0), (224, .iconst 1, 225, [], 1), (225, .iastore, 226, [], 0), (226, .aload_n 0, 227, [], 0), (227, .getfield 29, 230, [6, 8], 0), (230, .bipush 6, 232, [], 6), (232, .iload_n 1, 233, [], 0), (233, .imul, 234, [], 0), (234, .iconst 3, 235, [], 3), (235, .iadd, 236, [], 0), (236, .iconst 2, 237, [], 2), (237, .iastore, 238, [], 0), (238, .iinc 1 1, 241, [], 1), (241, .goto (-43), 244, [198], 0), (244, .return_, 245, [], 0)]
theorem ok_X6_tail : ∀ q ∈ L_X6_tail, rok cX6_init 2 2 q = true := by decide +kernel
theorem fk_X6_tail : ∀ q ∈ L_X6_tail, fck FT_X6 PT_X6 KT_X6 q = true := by decide +kernel
noncomputable def cs_X6_tail : List CT := []
noncomputable def b_X6_tail_198 : Nat → BT
  | 0 => fun _ _ _ => none
  | n + 1 => fun lv st S => brn mT cs_X6_tail L_X6_tail [198] (dsp [(198, [0, 1], b_X6_tail_198 n)]) 35 [] 198 lv st S
theorem s_X6_tail_198 (M : xM p l e R s m args below meth c cells slots Q D mT g cI cZ A 2 cX6_init RX6 2 cs_X6_tail L_X6_tail R0) : ∀ n lv st S, b_X6_tail_198 n lv st S = some R0 → xG p l e R s m args below meth c cells slots Q D mT g cI cZ A 2 198 lv st S := by
  intro n
  induction n with
  | zero => intro lv st S h; cases h
  | succ n ih => intro lv st S h; exact xa_blk M (List.forall_mem_cons.mpr ⟨fun lv st S h => (ih) lv st S h, fun _ q => absurd q List.not_mem_nil⟩) h
noncomputable def m_X6_tail : MT := fun As S => brn mT cs_X6_tail L_X6_tail [198] (dsp [(198, [0, 1], b_X6_tail_198 fu)]) 35 [] 196 (zipN 0 As) [] S
theorem s_X6_tail (M : xM p l e R s m args below meth c cells slots Q D mT g cI cZ A 2 cX6_init RX6 2 cs_X6_tail L_X6_tail R0) {As : List AV} {S : XS} (h : m_X6_tail As S = some R0) : xG p l e R s m args below meth c cells slots Q D mT g cI cZ A 2 196 (zipN 0 As) [] S := xa_blk M (List.forall_mem_cons.mpr ⟨fun lv st S h => (s_X6_tail_198 M fu) lv st S h, fun _ q => absurd q List.not_mem_nil⟩) h
end
theorem dX1_init_0 : decode cX1_init 0 = .ok (.aload_n 0, 1) := by decide +kernel
theorem dX1_init_1 : decode cX1_init 1 = .ok (.invokespecial 1, 3) := by decide +kernel
theorem dX1_init_4 : decode cX1_init 4 = .ok (.aload_n 0, 1) := by decide +kernel
theorem dX1_init_5 : decode cX1_init 5 = .ok (.bipush 60, 2) := by decide +kernel
theorem dX1_init_7 : decode cX1_init 7 = .ok (.newarray .int, 2) := by decide +kernel
theorem dX1_init_9 : decode cX1_init 9 = .ok (.putfield 9, 3) := by decide +kernel
theorem dX1_init_12 : decode cX1_init 12 = .ok (.iconst 0, 1) := by decide +kernel
theorem dX1_init_13 : decode cX1_init 13 = .ok (.istore_n 1, 1) := by decide +kernel
theorem dX1_init_14 : decode cX1_init 14 = .ok (.iload_n 1, 1) := by decide +kernel
theorem dX1_init_15 : decode cX1_init 15 = .ok (.bipush 10, 2) := by decide +kernel
theorem dX1_init_17 : decode cX1_init 17 = .ok (.if_icmp .ge 47, 3) := by decide +kernel
theorem dX1_init_20 : decode cX1_init 20 = .ok (.iconst 0, 1) := by decide +kernel
theorem dX1_init_21 : decode cX1_init 21 = .ok (.istore_n 2, 1) := by decide +kernel
theorem dX1_init_22 : decode cX1_init 22 = .ok (.iload_n 2, 1) := by decide +kernel
theorem dX1_init_23 : decode cX1_init 23 = .ok (.bipush 6, 2) := by decide +kernel
theorem dX1_init_25 : decode cX1_init 25 = .ok (.if_icmp .ge 33, 3) := by decide +kernel
theorem dX1_init_28 : decode cX1_init 28 = .ok (.aload_n 0, 1) := by decide +kernel
theorem dX1_init_29 : decode cX1_init 29 = .ok (.getfield 9, 3) := by decide +kernel
theorem dX1_init_32 : decode cX1_init 32 = .ok (.iload_n 1, 1) := by decide +kernel
theorem dX1_init_33 : decode cX1_init 33 = .ok (.bipush 6, 2) := by decide +kernel
theorem dX1_init_35 : decode cX1_init 35 = .ok (.imul, 1) := by decide +kernel
theorem dX1_init_36 : decode cX1_init 36 = .ok (.iload_n 2, 1) := by decide +kernel
theorem dX1_init_37 : decode cX1_init 37 = .ok (.iadd, 1) := by decide +kernel
theorem dX1_init_38 : decode cX1_init 38 = .ok (.iload_n 2, 1) := by decide +kernel
theorem dX1_init_39 : decode cX1_init 39 = .ok (.ifCond .ne 7, 3) := by decide +kernel
theorem dX1_init_42 : decode cX1_init 42 = .ok (.iload_n 1, 1) := by decide +kernel
theorem dX1_init_43 : decode cX1_init 43 = .ok (.goto 8, 3) := by decide +kernel
theorem dX1_init_46 : decode cX1_init 46 = .ok (.getstatic 13, 3) := by decide +kernel
theorem dX1_init_49 : decode cX1_init 49 = .ok (.iload_n 2, 1) := by decide +kernel
theorem dX1_init_50 : decode cX1_init 50 = .ok (.iaload, 1) := by decide +kernel
theorem dX1_init_51 : decode cX1_init 51 = .ok (.iastore, 1) := by decide +kernel
theorem dX1_init_52 : decode cX1_init 52 = .ok (.iinc 2 1, 3) := by decide +kernel
theorem dX1_init_55 : decode cX1_init 55 = .ok (.goto (-33), 3) := by decide +kernel
theorem dX1_init_58 : decode cX1_init 58 = .ok (.iinc 1 1, 3) := by decide +kernel
theorem dX1_init_61 : decode cX1_init 61 = .ok (.goto (-47), 3) := by decide +kernel
theorem dX1_init_64 : decode cX1_init 64 = .ok (.return_, 1) := by decide +kernel
abbrev w0_X1 (h : Nat) : va_W := [(h, .inr (1, [.null]))]
abbrev w1_X1 (cI cZ : ClassId) (f : Nat → Int32) (h : Nat) (a : Nat → Nat) : va_W := [(h, .inr (1, [.ref (a 0)])), (a 0, .inl (cI, 60, .inl (f)))]
set_option maxHeartbeats 4000000 in
set_option maxRecDepth 100000 in
theorem c_X1_init (l : Launch) (D : va_G) (cI cZ : ClassId) (gs : Nat → Nat) (h0 sz : Nat) {R0 : RS} (htl : m_X1_tail [.inr 0] (fun _ _ => 0) = some R0) (hR0 : R0.2 = some none) : Met l yX1_init (wm yX1_init cX1_init 3 2) { frames := 1, cells := 1, slots := 60, locals := 12 } (va_Pc [.ref h0] (iPre D cI cZ gs (va_A (w0_X1 h0) sz) (w0_X1 h0) sz)) (iQ D (va_A (w0_X1 h0) sz) (w1_X1 cI cZ (R0.1 1) h0)) 1 60 (va_A (w0_X1 h0) sz) := by
  refine Met.ofW (cc := cX1_init) (maxL := 3) (ret := rety 2) (by decide) rfl ?_
  intro p e s m args below meth c s₁ B hml hv
  obtain ⟨rfl, hsz, hP, hK, hN, hst, hD0⟩ := hv
  have hx := B.exec
  have hb := B.bytes
  have hr := B.returns
  have hts := atoms_spec (ws := wm yX1_init cX1_init 3 2) B.pre
  have hts2 : ∀ w ∈ wA, w.before _ s = true := fun w hw => hts w (List.mem_cons_of_mem _ hw)
  have hown : s.vm.findClass RX1 = some m.cls := findClass_of_methodNamed B.named
  have hlocks := B.notSynchronized
  have hin : meth.name = "<init>" := (name_of_methodNamed B.named B.method).1
  subst hsz
  have hD := hD0.self (sz := s.heap.size)
  generalize hAe : va_A (w0_X1 h0) s.heap.size = A at hD hst ⊢
  have hA : ∀ q : Nat, s.heap.size ≤ q → A q := fun q h => by rw [← hAe]; exact Or.inr h
  have hS : va_S A s.heap s.heap [] := va_S.rf
  have hl := lv_entry ([.ref h0]) (n := 3) (Nat.le_of_ble_eq_true rfl)
  rw [lg_entry_eq]
  generalize (lg_sl ([.ref h0]) ++ List.replicate (3 - (lg_sl ([.ref h0])).length) Slot.unset).toArray = ls at hl ⊢
  have hl : lv_has ls 3 [(0, .ref h0)] := hl
  refine lv_aload_n hx hb dX1_init_0 rfl (lv_at hl 0 rfl) ?_
  refine W.objInit hx hb hown (hts2 _ ko_X1) (hts2 _ ko_i) (hts2 _ ko_c) rfl (by rw [hml]; exact hl.1) rfl dX1_init_1 (Nat.le_of_ble_eq_true rfl) (Nat.le_of_ble_eq_true rfl) ?_
  refine W.eq (g2 := F0 m 4 ls []) rfl ?_
  refine xn_group false (cA := cI) (v := 60) (n := 60) (pc1 := 7) hx hb hown hin hK hA rfl (fun w hw => hts2 w (iw_X1 w hw)) (hts2 _ ka_int) (hK.2 0 _ rfl).2 (lv_at hl 0 rfl) hP hD hS 0 (by decide) (Nat.le_of_ble_eq_true rfl) rfl rfl (by decide +kernel) (hts2 _ kf_X1_9) dX1_init_4 (fun st k => lv_bipush hx hb dX1_init_5 (by decide) k) dX1_init_7 dX1_init_9 (by decide) (by decide) (by decide) (Nat.le_of_ble_eq_true rfl) (Nat.le_of_ble_eq_true rfl) (fun q0 H0 locs0 hP0 hD0 hS0 => ?_)
  clear hP hD hS
  have hP : va_P D vwCl [(h0, .inr (1, [.ref q0])), (q0, .inl (cI, 60, .inl (fun _ => 0)))] H0 := hP0
  have hD : va_D A [(h0, .inr (1, [.ref q0])), (q0, .inl (cI, 60, .inl (fun _ => 0)))] := hD0
  have hS : va_S A s.heap H0 locs0 := hS0
  clear hP0 hD0 hS0
  obtain ⟨gt, hgt⟩ : ∃ gt : Nat → Nat, gt = (fun k => if k = 0 then h0 else if k = 1 then q0 else gs k) := ⟨_, rfl⟩
  have hP : va_P D vwCl (ww kT gt cI cZ (fun _ _ => 0)) H0 := by rw [hgt]; exact hP
  have hD : va_D A (ww kT gt cI cZ (fun _ _ => 0)) := by rw [hgt]; exact hD
  have hst2 : xSt gt A s s.heap := hst.re (by rw [hgt]; rfl) (by rw [hgt]; rfl) (by rw [hgt]; rfl)
  have C0 : xC p s m c D kT gt cI cZ A 3 cX1_init RX1 := ⟨hx, hb, hml, hown, hK, ww_D hD, hst2⟩
  obtain ⟨f1, f2, f3⟩ := fa_X1i s _ hts2 hN
  refine W.widen (k := 1) (n := 60) (Nat.le_of_ble_eq_true rfl) (Nat.le_of_ble_eq_true rfl) ?_
  refine s_X1_tail (As := [.inr 0]) (R0 := R0) ⟨C0, all_get (fun _ q => absurd q List.not_mem_nil), ?_, ok_X1_tail, fun q hq => xF_of f1 f2 f3 (fk_X1_tail q hq)⟩ htl _ _ ls hP hS (by rw [hgt]; exact hl)
  intro pc S v H locs ls e0 hP hS hd
  subst e0
  cases v with
  | none =>
    obtain ⟨hd, -⟩ := hd
    exact W.vret hx hb hr (fun t ht hW => ⟨⟨(fun k => [q0].getD k 0), rfl, trivial, by rw [ht]; rw [hgt] at hP; exact hP, by rw [hgt] at hD; exact hD⟩, hS.F ht⟩) hS.2.2 hd
  | some v =>
    cases v with
    | inl x => exact absurd hd.2.1 (by decide)
    | inr x => exact absurd hd.2 (by decide)
