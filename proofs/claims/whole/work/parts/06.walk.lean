section
variable {p : Program} {l : Launch} {e : Env} {R : Room} {s : State} {m : MethodId} {args : Array Value} {below : List Frame} {meth : Method} {c : Code} {cells slots : Nat} {Q : State → Prop} {D : va_G} {g : Nat → Nat} {cI cZ : ClassId} {A : Nat → Prop} {R0 : RS}
def L_X0_has : List CE := [(0, .iload_n 1, 1, [], 0), (1, .ifCond .lt 15, 4, [16], 0), (4, .iload_n 1, 5, [], 0), (5, .aload_n 0, 6, [], 0), (6, .getfield 30, 9, [0, 6], 0), (9, .if_icmp .ge 7, 12, [16], 0), (12, .iconst 1, 13, [], 1), (13, .goto 4, 16, [17], 0), (16, .iconst 0, 17, [], 0), (17, .ireturn, 18, [1], 0)]
theorem ok_X0_has : ∀ q ∈ L_X0_has, rok cX0_has 2 1 q = true := by decide +kernel
theorem fk_X0_has : ∀ q ∈ L_X0_has, fck FT_X0 PT_X0 KT_X0 q = true := by decide +kernel
noncomputable def cs_X0_has : List CT := []
noncomputable def m_X0_has : MT := fun As S => brn xT cs_X0_has L_X0_has [] (dsp []) 12 [] 0 (zipN 0 As) [] S
theorem s_X0_has (M : xM p l e R s m args below meth c cells slots Q D xT g cI cZ A 2 cX0_has RX0 1 cs_X0_has L_X0_has R0) {As : List AV} {S : XS} (h : m_X0_has As S = some R0) : xG p l e R s m args below meth c cells slots Q D xT g cI cZ A 2 0 (zipN 0 As) [] S := xa_blk M (fun _ q => absurd q List.not_mem_nil) h
set_option maxRecDepth 20000 in
theorem c_X0_has {l : Launch} {D : va_G} {g : Nat → Nat} {cI cZ : ClassId} {A : Nat → Prop} (hD : ∀ S, va_D A (ww xT g cI cZ S)) : xMet l D xT g cI cZ A yX0_has (wm yX0_has cX0_has 2 1) { frames := 0, cells := 0, slots := 0, locals := 0 } 2 m_X0_has :=
  xa_met (ft := FT_X0) (pt := PT_X0) (kt := KT_X0) (cs := cs_X0_has) (L := L_X0_has) hD (by decide) (by decide) ok_X0_has fk_X0_has fa_X0 (fun p e s m args below meth c Q R0 C0 hts hN => all_get (fun _ q => absurd q List.not_mem_nil)) (fun p e s m args below meth c Q R0 As S M h => s_X0_has M h)
def L_X0_isAt : List CE := [(0, .iconst 0, 1, [], 0), (1, .istore_n 2, 2, [], 0), (2, .iload_n 2, 3, [], 0), (3, .aload_n 0, 4, [], 0), (4, .getfield 30, 7, [0, 6], 0), (7, .if_icmp .ge 21, 10, [28], 0), (10, .aload_n 0, 11, [], 0), (11, .getfield 9, 14, [0, 0], 0), (14, .iload_n 2, 15, [], 0), (15, .iaload, 16, [], 0), (16, .iload_n 1, 17, [], 0), (17, .if_icmp .ne 5, 20, [22], 0), (20, .iconst 1, 21, [], 1), (21, .ireturn, 22, [1], 0), (22, .iinc 2 1, 25, [], 1), (25, .goto (-23), 28, [2], 0), (28, .iconst 0, 29, [], 0), (29, .ireturn, 30, [1], 0)]
theorem ok_X0_isAt : ∀ q ∈ L_X0_isAt, rok cX0_isAt 3 1 q = true := by decide +kernel
theorem fk_X0_isAt : ∀ q ∈ L_X0_isAt, fck FT_X0 PT_X0 KT_X0 q = true := by decide +kernel
noncomputable def cs_X0_isAt : List CT := []
noncomputable def b_X0_isAt_2 : Nat → BT
  | 0 => fun _ _ _ => none
  | n + 1 => fun lv st S => brn xT cs_X0_isAt L_X0_isAt [2] (dsp [(2, [0, 1, 2], b_X0_isAt_2 n)]) 20 [] 2 lv st S
theorem s_X0_isAt_2 (M : xM p l e R s m args below meth c cells slots Q D xT g cI cZ A 3 cX0_isAt RX0 1 cs_X0_isAt L_X0_isAt R0) : ∀ n lv st S, b_X0_isAt_2 n lv st S = some R0 → xG p l e R s m args below meth c cells slots Q D xT g cI cZ A 3 2 lv st S := by
  intro n
  induction n with
  | zero => intro lv st S h; cases h
  | succ n ih => intro lv st S h; exact xa_blk M (List.forall_mem_cons.mpr ⟨fun lv st S h => (ih) lv st S h, fun _ q => absurd q List.not_mem_nil⟩) h
noncomputable def m_X0_isAt : MT := fun As S => brn xT cs_X0_isAt L_X0_isAt [2] (dsp [(2, [0, 1, 2], b_X0_isAt_2 fu)]) 20 [] 0 (zipN 0 As) [] S
theorem s_X0_isAt (M : xM p l e R s m args below meth c cells slots Q D xT g cI cZ A 3 cX0_isAt RX0 1 cs_X0_isAt L_X0_isAt R0) {As : List AV} {S : XS} (h : m_X0_isAt As S = some R0) : xG p l e R s m args below meth c cells slots Q D xT g cI cZ A 3 0 (zipN 0 As) [] S := xa_blk M (List.forall_mem_cons.mpr ⟨fun lv st S h => (s_X0_isAt_2 M fu) lv st S h, fun _ q => absurd q List.not_mem_nil⟩) h
set_option maxRecDepth 20000 in
theorem c_X0_isAt {l : Launch} {D : va_G} {g : Nat → Nat} {cI cZ : ClassId} {A : Nat → Prop} (hD : ∀ S, va_D A (ww xT g cI cZ S)) : xMet l D xT g cI cZ A yX0_isAt (wm yX0_isAt cX0_isAt 3 1) { frames := 0, cells := 0, slots := 0, locals := 0 } 2 m_X0_isAt :=
  xa_met (ft := FT_X0) (pt := PT_X0) (kt := KT_X0) (cs := cs_X0_isAt) (L := L_X0_isAt) hD (by decide) (by decide) ok_X0_isAt fk_X0_isAt fa_X0 (fun p e s m args below meth c Q R0 C0 hts hN => all_get (fun _ q => absurd q List.not_mem_nil)) (fun p e s m args below meth c Q R0 As S M h => s_X0_isAt M h)
def L_X0_add : List CE := [(0, .aload_n 0, 1, [], 0), (1, .getfield 30, 4, [0, 6], 0), (4, .istore 7, 6, [], 0), (6, .aload_n 0, 7, [], 0), (7, .getfield 9, 10, [0, 0], 0), (10, .iload 7, 12, [], 0), (12, .iload_n 1, 13, [], 0), (13, .iastore, 14, [], 0), (14, .aload_n 0, 15, [], 0), (15, .getfield 15, 18, [0, 1], 0), (18, .iload 7, 20, [], 0), (20, .iload_n 2, 21, [], 0), (21, .iastore, 22, [], 0), (22, .aload_n 0, 23, [], 0), (23, .getfield 18, 26, [0, 2], 0), (26, .iload 7, 28, [], 0), (28, .iload_n 3, 29, [], 0), (29, .iastore, 30, [], 0), (30, .aload_n 0, 31, [], 0), (31, .getfield 21, 34, [0, 3], 0), (34, .iload 7, 36, [], 0), (36, .iload 4, 38, [], 0), (38, .iastore, 39, [], 0), (39, .aload_n 0, 40, [], 0), (40, .getfield 24, 43, [0, 4], 0), (43, .iload 7, 45, [], 0), (45, .iload 5, 47, [], 0), (47, .iastore, 48, [], 0), (48, .aload_n 0, 49, [], 0), (49, .getfield 27, 52, [0, 5], 0), (52, .iload 7, 54, [], 0), (54, .iload 6, 56, [], 0), (56, .iastore, 57, [], 0), (57, .aload_n 0, 58, [], 0), (58, .dup, 59, [], 0), (59, .getfield 30, 62, [0, 6], 0), (62, .iconst 1, 63, [], 1), (63, .iadd, 64, [], 0), (64, .putfield 30, 67, [0, 6, 0], 0), (67, .iload 7, 69, [], 0), (69, .ireturn, 70, [0], 0)]
theorem ok_X0_add : ∀ q ∈ L_X0_add, rok cX0_add 8 0 q = true := by decide +kernel
theorem fk_X0_add : ∀ q ∈ L_X0_add, fck FT_X0 PT_X0 KT_X0 q = true := by decide +kernel
noncomputable def cs_X0_add : List CT := []
noncomputable def m_X0_add : MT := fun As S => brn xT cs_X0_add L_X0_add [] (dsp []) 43 [] 0 (zipN 0 As) [] S
theorem s_X0_add (M : xM p l e R s m args below meth c cells slots Q D xT g cI cZ A 8 cX0_add RX0 0 cs_X0_add L_X0_add R0) {As : List AV} {S : XS} (h : m_X0_add As S = some R0) : xG p l e R s m args below meth c cells slots Q D xT g cI cZ A 8 0 (zipN 0 As) [] S := xa_blk M (fun _ q => absurd q List.not_mem_nil) h
set_option maxRecDepth 20000 in
theorem c_X0_add {l : Launch} {D : va_G} {g : Nat → Nat} {cI cZ : ClassId} {A : Nat → Prop} (hD : ∀ S, va_D A (ww xT g cI cZ S)) : xMet l D xT g cI cZ A yX0_add (wm yX0_add cX0_add 8 0) { frames := 0, cells := 0, slots := 0, locals := 0 } 7 m_X0_add :=
  xa_met (ft := FT_X0) (pt := PT_X0) (kt := KT_X0) (cs := cs_X0_add) (L := L_X0_add) hD (by decide) (by decide) ok_X0_add fk_X0_add fa_X0 (fun p e s m args below meth c Q R0 C0 hts hN => all_get (fun _ q => absurd q List.not_mem_nil)) (fun p e s m args below meth c Q R0 As S M h => s_X0_add M h)
def L_X0_next : List CE := [(0, .iconst (-1), 1, [], (-1)), (1, .istore_n 2, 2, [], 0), (2, .iconst 0, 3, [], 0), (3, .istore_n 3, 4, [], 0), (4, .iload_n 3, 5, [], 0), (5, .aload_n 0, 6, [], 0), (6, .getfield 30, 9, [0, 6], 0), (9, .if_icmp .ge 45, 12, [54], 0), (12, .aload_n 0, 13, [], 0), (13, .getfield 9, 16, [0, 0], 0), (16, .iload_n 3, 17, [], 0), (17, .iaload, 18, [], 0), (18, .aload_n 0, 19, [], 0), (19, .getfield 9, 22, [0, 0], 0), (22, .iload_n 1, 23, [], 0), (23, .iaload, 24, [], 0), (24, .if_icmp .le 24, 27, [48], 0), (27, .iload_n 2, 28, [], 0), (28, .ifCond .lt 18, 31, [46], 0), (31, .aload_n 0, 32, [], 0), (32, .getfield 9, 35, [0, 0], 0), (35, .iload_n 3, 36, [], 0), (36, .iaload, 37, [], 0), (37, .aload_n 0, 38, [], 0), (38, .getfield 9, 41, [0, 0], 0), (41, .iload_n 2, 42, [], 0), (42, .iaload, 43, [], 0), (43, .if_icmp .ge 5, 46, [48], 0), (46, .iload_n 3, 47, [], 0), (47, .istore_n 2, 48, [], 0), (48, .iinc 3 1, 51, [], 1), (51, .goto (-47), 54, [4], 0), (54, .iload_n 2, 55, [], 0), (55, .ireturn, 56, [0], 0)]
theorem ok_X0_next : ∀ q ∈ L_X0_next, rok cX0_next 4 0 q = true := by decide +kernel
theorem fk_X0_next : ∀ q ∈ L_X0_next, fck FT_X0 PT_X0 KT_X0 q = true := by decide +kernel
noncomputable def cs_X0_next : List CT := []
noncomputable def b_X0_next_4 : Nat → BT
  | 0 => fun _ _ _ => none
  | n + 1 => fun lv st S => brn xT cs_X0_next L_X0_next [4] (dsp [(4, [0, 1, 2, 3], b_X0_next_4 n)]) 36 [] 4 lv st S
theorem s_X0_next_4 (M : xM p l e R s m args below meth c cells slots Q D xT g cI cZ A 4 cX0_next RX0 0 cs_X0_next L_X0_next R0) : ∀ n lv st S, b_X0_next_4 n lv st S = some R0 → xG p l e R s m args below meth c cells slots Q D xT g cI cZ A 4 4 lv st S := by
  intro n
  induction n with
  | zero => intro lv st S h; cases h
  | succ n ih => intro lv st S h; exact xa_blk M (List.forall_mem_cons.mpr ⟨fun lv st S h => (ih) lv st S h, fun _ q => absurd q List.not_mem_nil⟩) h
noncomputable def m_X0_next : MT := fun As S => brn xT cs_X0_next L_X0_next [4] (dsp [(4, [0, 1, 2, 3], b_X0_next_4 fu)]) 36 [] 0 (zipN 0 As) [] S
theorem s_X0_next (M : xM p l e R s m args below meth c cells slots Q D xT g cI cZ A 4 cX0_next RX0 0 cs_X0_next L_X0_next R0) {As : List AV} {S : XS} (h : m_X0_next As S = some R0) : xG p l e R s m args below meth c cells slots Q D xT g cI cZ A 4 0 (zipN 0 As) [] S := xa_blk M (List.forall_mem_cons.mpr ⟨fun lv st S h => (s_X0_next_4 M fu) lv st S h, fun _ q => absurd q List.not_mem_nil⟩) h
set_option maxRecDepth 20000 in
theorem c_X0_next {l : Launch} {D : va_G} {g : Nat → Nat} {cI cZ : ClassId} {A : Nat → Prop} (hD : ∀ S, va_D A (ww xT g cI cZ S)) : xMet l D xT g cI cZ A yX0_next (wm yX0_next cX0_next 4 0) { frames := 0, cells := 0, slots := 0, locals := 0 } 2 m_X0_next :=
  xa_met (ft := FT_X0) (pt := PT_X0) (kt := KT_X0) (cs := cs_X0_next) (L := L_X0_next) hD (by decide) (by decide) ok_X0_next fk_X0_next fa_X0 (fun p e s m args below meth c Q R0 C0 hts hN => all_get (fun _ q => absurd q List.not_mem_nil)) (fun p e s m args below meth c Q R0 As S M h => s_X0_next M h)
def L_X0_greatestX : List CE := [(0, .iconst 0, 1, [], 0), (1, .istore_n 1, 2, [], 0), (2, .iconst 0, 3, [], 0), (3, .istore_n 2, 4, [], 0), (4, .iload_n 2, 5, [], 0), (5, .aload_n 0, 6, [], 0), (6, .getfield 30, 9, [0, 6], 0), (9, .if_icmp .ge 20, 12, [29], 0), (12, .iload_n 1, 13, [], 0), (13, .aload_n 0, 14, [], 0), (14, .getfield 9, 17, [0, 0], 0), (17, .iload_n 2, 18, [], 0), (18, .iaload, 19, [], 0), (19, .invokestatic 34, 22, [0], 0), (22, .istore_n 1, 23, [], 0), (23, .iinc 2 1, 26, [], 1), (26, .goto (-22), 29, [4], 0), (29, .iload_n 1, 30, [], 0), (30, .ireturn, 31, [0], 0)]
theorem ok_X0_greatestX : ∀ q ∈ L_X0_greatestX, rok cX0_greatestX 3 0 q = true := by decide +kernel
theorem fk_X0_greatestX : ∀ q ∈ L_X0_greatestX, fck FT_X0 PT_X0 KT_X0 q = true := by decide +kernel
noncomputable def cs_X0_greatestX : List CT := [(true, 34, 2, 1, 0, sem_max)]
noncomputable def b_X0_greatestX_4 : Nat → BT
  | 0 => fun _ _ _ => none
  | n + 1 => fun lv st S => brn xT cs_X0_greatestX L_X0_greatestX [4] (dsp [(4, [0, 1, 2], b_X0_greatestX_4 n)]) 21 [] 4 lv st S
theorem s_X0_greatestX_4 (M : xM p l e R s m args below meth c cells slots Q D xT g cI cZ A 3 cX0_greatestX RX0 0 cs_X0_greatestX L_X0_greatestX R0) : ∀ n lv st S, b_X0_greatestX_4 n lv st S = some R0 → xG p l e R s m args below meth c cells slots Q D xT g cI cZ A 3 4 lv st S := by
  intro n
  induction n with
  | zero => intro lv st S h; cases h
  | succ n ih => intro lv st S h; exact xa_blk M (List.forall_mem_cons.mpr ⟨fun lv st S h => (ih) lv st S h, fun _ q => absurd q List.not_mem_nil⟩) h
noncomputable def m_X0_greatestX : MT := fun As S => brn xT cs_X0_greatestX L_X0_greatestX [4] (dsp [(4, [0, 1, 2], b_X0_greatestX_4 fu)]) 21 [] 0 (zipN 0 As) [] S
theorem s_X0_greatestX (M : xM p l e R s m args below meth c cells slots Q D xT g cI cZ A 3 cX0_greatestX RX0 0 cs_X0_greatestX L_X0_greatestX R0) {As : List AV} {S : XS} (h : m_X0_greatestX As S = some R0) : xG p l e R s m args below meth c cells slots Q D xT g cI cZ A 3 0 (zipN 0 As) [] S := xa_blk M (List.forall_mem_cons.mpr ⟨fun lv st S h => (s_X0_greatestX_4 M fu) lv st S h, fun _ q => absurd q List.not_mem_nil⟩) h
set_option maxRecDepth 20000 in
theorem c_X0_greatestX {l : Launch} {D : va_G} {g : Nat → Nat} {cI cZ : ClassId} {A : Nat → Prop} (hD : ∀ S, va_D A (ww xT g cI cZ S)) : xMet l D xT g cI cZ A yX0_greatestX (wm yX0_greatestX cX0_greatestX 3 0) { frames := 1, cells := 0, slots := 0, locals := 21 } 1 m_X0_greatestX :=
  xa_met (ft := FT_X0) (pt := PT_X0) (kt := KT_X0) (cs := cs_X0_greatestX) (L := L_X0_greatestX) hD (by decide) (by decide) ok_X0_greatestX fk_X0_greatestX fa_X0 (fun p e s m args below meth c Q R0 C0 hts hN => all_get (List.forall_mem_cons.mpr ⟨xcf_max C0 (hts _ (List.mem_cons_of_mem _ km_X0_34)) (hts _ (List.mem_cons_of_mem _ km_s)) (hts _ (List.mem_cons_of_mem _ km_n)) (hts _ (List.mem_cons_of_mem _ km_c)) ⟨by decide, by decide⟩ ⟨Nat.zero_le _, Nat.zero_le _⟩, fun _ q => absurd q List.not_mem_nil⟩)) (fun p e s m args below meth c Q R0 As S M h => s_X0_greatestX M h)
def L_X0_moveBehind : List CE := [(0, .iconst 0, 1, [], 0), (1, .istore_n 3, 2, [], 0), (2, .iload_n 3, 3, [], 0), (3, .aload_n 0, 4, [], 0), (4, .getfield 30, 7, [0, 6], 0), (7, .if_icmp .ge 29, 10, [36], 0), (10, .aload_n 0, 11, [], 0), (11, .getfield 9, 14, [0, 0], 0), (14, .iload_n 3, 15, [], 0), (15, .iaload, 16, [], 0), (16, .iload_n 1, 17, [], 0), (17, .if_icmp .le 13, 20, [30], 0), (20, .aload_n 0, 21, [], 0), (21, .getfield 9, 24, [0, 0], 0), (24, .iload_n 3, 25, [], 0), (25, .dup2, 26, [], 0), (26, .iaload, 27, [], 0), (27, .iload_n 2, 28, [], 0), (28, .iadd, 29, [], 0), (29, .iastore, 30, [], 0), (30, .iinc 3 1, 33, [], 1), (33, .goto (-31), 36, [2], 0), (36, .return_, 37, [], 0)]
theorem ok_X0_moveBehind : ∀ q ∈ L_X0_moveBehind, rok cX0_moveBehind 4 2 q = true := by decide +kernel
theorem fk_X0_moveBehind : ∀ q ∈ L_X0_moveBehind, fck FT_X0 PT_X0 KT_X0 q = true := by decide +kernel
noncomputable def cs_X0_moveBehind : List CT := []
noncomputable def b_X0_moveBehind_2 : Nat → BT
  | 0 => fun _ _ _ => none
  | n + 1 => fun lv st S => brn xT cs_X0_moveBehind L_X0_moveBehind [2] (dsp [(2, [0, 1, 2, 3], b_X0_moveBehind_2 n)]) 25 [] 2 lv st S
theorem s_X0_moveBehind_2 (M : xM p l e R s m args below meth c cells slots Q D xT g cI cZ A 4 cX0_moveBehind RX0 2 cs_X0_moveBehind L_X0_moveBehind R0) : ∀ n lv st S, b_X0_moveBehind_2 n lv st S = some R0 → xG p l e R s m args below meth c cells slots Q D xT g cI cZ A 4 2 lv st S := by
  intro n
  induction n with
  | zero => intro lv st S h; cases h
  | succ n ih => intro lv st S h; exact xa_blk M (List.forall_mem_cons.mpr ⟨fun lv st S h => (ih) lv st S h, fun _ q => absurd q List.not_mem_nil⟩) h
noncomputable def m_X0_moveBehind : MT := fun As S => brn xT cs_X0_moveBehind L_X0_moveBehind [2] (dsp [(2, [0, 1, 2, 3], b_X0_moveBehind_2 fu)]) 25 [] 0 (zipN 0 As) [] S
theorem s_X0_moveBehind (M : xM p l e R s m args below meth c cells slots Q D xT g cI cZ A 4 cX0_moveBehind RX0 2 cs_X0_moveBehind L_X0_moveBehind R0) {As : List AV} {S : XS} (h : m_X0_moveBehind As S = some R0) : xG p l e R s m args below meth c cells slots Q D xT g cI cZ A 4 0 (zipN 0 As) [] S := xa_blk M (List.forall_mem_cons.mpr ⟨fun lv st S h => (s_X0_moveBehind_2 M fu) lv st S h, fun _ q => absurd q List.not_mem_nil⟩) h
set_option maxRecDepth 20000 in
theorem c_X0_moveBehind {l : Launch} {D : va_G} {g : Nat → Nat} {cI cZ : ClassId} {A : Nat → Prop} (hD : ∀ S, va_D A (ww xT g cI cZ S)) : xMet l D xT g cI cZ A yX0_moveBehind (wm yX0_moveBehind cX0_moveBehind 4 2) { frames := 0, cells := 0, slots := 0, locals := 0 } 3 m_X0_moveBehind :=
  xa_met (ft := FT_X0) (pt := PT_X0) (kt := KT_X0) (cs := cs_X0_moveBehind) (L := L_X0_moveBehind) hD (by decide) (by decide) ok_X0_moveBehind fk_X0_moveBehind fa_X0 (fun p e s m args below meth c Q R0 C0 hts hN => all_get (fun _ q => absurd q List.not_mem_nil)) (fun p e s m args below meth c Q R0 As S M h => s_X0_moveBehind M h)
def L_X0_haveBothVoices : List CE := [(0, .iconst 0, 1, [], 0), (1, .istore_n 1, 2, [], 0), (2, .iconst 0, 3, [], 0), (3, .istore_n 2, 4, [], 0), (4, .iload_n 2, 5, [], 0), (5, .aload_n 0, 6, [], 0), (6, .getfield 30, 9, [0, 6], 0), (9, .if_icmp .ge 18, 12, [27], 0), (12, .iload_n 1, 13, [], 0), (13, .aload_n 0, 14, [], 0), (14, .getfield 21, 17, [0, 3], 0), (17, .iload_n 2, 18, [], 0), (18, .iaload, 19, [], 0), (19, .iadd, 20, [], 0), (20, .istore_n 1, 21, [], 0), (21, .iinc 2 1, 24, [], 1), (24, .goto (-20), 27, [4], 0), (27, .iload_n 1, 28, [], 0), (28, .ifCond .le 15, 31, [43], 0), (31, .iload_n 1, 32, [], 0), (32, .aload_n 0, 33, [], 0), (33, .getfield 30, 36, [0, 6], 0), (36, .if_icmp .ge 7, 39, [43], 0), (39, .iconst 1, 40, [], 1), (40, .goto 4, 43, [44], 0), (43, .iconst 0, 44, [], 0), (44, .ireturn, 45, [1], 0)]
theorem ok_X0_haveBothVoices : ∀ q ∈ L_X0_haveBothVoices, rok cX0_haveBothVoices 3 1 q = true := by decide +kernel
theorem fk_X0_haveBothVoices : ∀ q ∈ L_X0_haveBothVoices, fck FT_X0 PT_X0 KT_X0 q = true := by decide +kernel
noncomputable def cs_X0_haveBothVoices : List CT := []
noncomputable def b_X0_haveBothVoices_4 : Nat → BT
  | 0 => fun _ _ _ => none
  | n + 1 => fun lv st S => brn xT cs_X0_haveBothVoices L_X0_haveBothVoices [4] (dsp [(4, [0, 1, 2], b_X0_haveBothVoices_4 n)]) 29 [] 4 lv st S
theorem s_X0_haveBothVoices_4 (M : xM p l e R s m args below meth c cells slots Q D xT g cI cZ A 3 cX0_haveBothVoices RX0 1 cs_X0_haveBothVoices L_X0_haveBothVoices R0) : ∀ n lv st S, b_X0_haveBothVoices_4 n lv st S = some R0 → xG p l e R s m args below meth c cells slots Q D xT g cI cZ A 3 4 lv st S := by
  intro n
  induction n with
  | zero => intro lv st S h; cases h
  | succ n ih => intro lv st S h; exact xa_blk M (List.forall_mem_cons.mpr ⟨fun lv st S h => (ih) lv st S h, fun _ q => absurd q List.not_mem_nil⟩) h
noncomputable def m_X0_haveBothVoices : MT := fun As S => brn xT cs_X0_haveBothVoices L_X0_haveBothVoices [4] (dsp [(4, [0, 1, 2], b_X0_haveBothVoices_4 fu)]) 29 [] 0 (zipN 0 As) [] S
theorem s_X0_haveBothVoices (M : xM p l e R s m args below meth c cells slots Q D xT g cI cZ A 3 cX0_haveBothVoices RX0 1 cs_X0_haveBothVoices L_X0_haveBothVoices R0) {As : List AV} {S : XS} (h : m_X0_haveBothVoices As S = some R0) : xG p l e R s m args below meth c cells slots Q D xT g cI cZ A 3 0 (zipN 0 As) [] S := xa_blk M (List.forall_mem_cons.mpr ⟨fun lv st S h => (s_X0_haveBothVoices_4 M fu) lv st S h, fun _ q => absurd q List.not_mem_nil⟩) h
set_option maxRecDepth 20000 in
theorem c_X0_haveBothVoices {l : Launch} {D : va_G} {g : Nat → Nat} {cI cZ : ClassId} {A : Nat → Prop} (hD : ∀ S, va_D A (ww xT g cI cZ S)) : xMet l D xT g cI cZ A yX0_haveBothVoices (wm yX0_haveBothVoices cX0_haveBothVoices 3 1) { frames := 0, cells := 0, slots := 0, locals := 0 } 1 m_X0_haveBothVoices :=
  xa_met (ft := FT_X0) (pt := PT_X0) (kt := KT_X0) (cs := cs_X0_haveBothVoices) (L := L_X0_haveBothVoices) hD (by decide) (by decide) ok_X0_haveBothVoices fk_X0_haveBothVoices fa_X0 (fun p e s m args below meth c Q R0 C0 hts hN => all_get (fun _ q => absurd q List.not_mem_nil)) (fun p e s m args below meth c Q R0 As S M h => s_X0_haveBothVoices M h)
def L_X1_has : List CE := [(0, .iload_n 1, 1, [], 0), (1, .ifCond .lt 13, 4, [14], 0), (4, .iload_n 1, 5, [], 0), (5, .bipush 10, 7, [], 10), (7, .if_icmp .ge 7, 10, [14], 0), (10, .iconst 1, 11, [], 1), (11, .goto 4, 14, [15], 0), (14, .iconst 0, 15, [], 0), (15, .ireturn, 16, [1], 0)]
theorem ok_X1_has : ∀ q ∈ L_X1_has, rok cX1_has 2 1 q = true := by decide +kernel
theorem fk_X1_has : ∀ q ∈ L_X1_has, fck FT_X1 PT_X1 KT_X1 q = true := by decide +kernel
noncomputable def cs_X1_has : List CT := []
noncomputable def m_X1_has : MT := fun As S => brn xT cs_X1_has L_X1_has [] (dsp []) 11 [] 0 (zipN 0 As) [] S
theorem s_X1_has (M : xM p l e R s m args below meth c cells slots Q D xT g cI cZ A 2 cX1_has RX1 1 cs_X1_has L_X1_has R0) {As : List AV} {S : XS} (h : m_X1_has As S = some R0) : xG p l e R s m args below meth c cells slots Q D xT g cI cZ A 2 0 (zipN 0 As) [] S := xa_blk M (fun _ q => absurd q List.not_mem_nil) h
set_option maxRecDepth 20000 in
theorem c_X1_has {l : Launch} {D : va_G} {g : Nat → Nat} {cI cZ : ClassId} {A : Nat → Prop} (hD : ∀ S, va_D A (ww xT g cI cZ S)) : xMet l D xT g cI cZ A yX1_has (wm yX1_has cX1_has 2 1) { frames := 0, cells := 0, slots := 0, locals := 0 } 2 m_X1_has :=
  xa_met (ft := FT_X1) (pt := PT_X1) (kt := KT_X1) (cs := cs_X1_has) (L := L_X1_has) hD (by decide) (by decide) ok_X1_has fk_X1_has fa_X1 (fun p e s m args below meth c Q R0 C0 hts hN => all_get (fun _ q => absurd q List.not_mem_nil)) (fun p e s m args below meth c Q R0 As S M h => s_X1_has M h)
def L_X1_takes : List CE := [(0, .iload_n 1, 1, [], 0), (1, .ifCond .lt 26, 4, [27], 0), (4, .iload_n 1, 5, [], 0), (5, .bipush 6, 7, [], 6), (7, .if_icmp .ge 20, 10, [27], 0), (10, .iload_n 2, 11, [], 0), (11, .ifCond .lt 16, 14, [27], 0), (14, .iload_n 2, 15, [], 0), (15, .getstatic 16, 18, [40], 0), (18, .iload_n 1, 19, [], 0), (19, .iaload, 20, [], 0), (20, .if_icmp .gt 7, 23, [27], 0), (23, .iconst 1, 24, [], 1), (24, .goto 4, 27, [28], 0), (27, .iconst 0, 28, [], 0), (28, .ireturn, 29, [1], 0)]
theorem ok_X1_takes : ∀ q ∈ L_X1_takes, rok cX1_takes 3 1 q = true := by decide +kernel
theorem fk_X1_takes : ∀ q ∈ L_X1_takes, fck FT_X1 PT_X1 KT_X1 q = true := by decide +kernel
noncomputable def cs_X1_takes : List CT := []
noncomputable def m_X1_takes : MT := fun As S => brn xT cs_X1_takes L_X1_takes [] (dsp []) 18 [] 0 (zipN 0 As) [] S
theorem s_X1_takes (M : xM p l e R s m args below meth c cells slots Q D xT g cI cZ A 3 cX1_takes RX1 1 cs_X1_takes L_X1_takes R0) {As : List AV} {S : XS} (h : m_X1_takes As S = some R0) : xG p l e R s m args below meth c cells slots Q D xT g cI cZ A 3 0 (zipN 0 As) [] S := xa_blk M (fun _ q => absurd q List.not_mem_nil) h
set_option maxRecDepth 20000 in
theorem c_X1_takes {l : Launch} {D : va_G} {g : Nat → Nat} {cI cZ : ClassId} {A : Nat → Prop} (hD : ∀ S, va_D A (ww xT g cI cZ S)) : xMet l D xT g cI cZ A yX1_takes (wm yX1_takes cX1_takes 3 1) { frames := 0, cells := 0, slots := 0, locals := 0 } 3 m_X1_takes :=
  xa_met (ft := FT_X1) (pt := PT_X1) (kt := KT_X1) (cs := cs_X1_takes) (L := L_X1_takes) hD (by decide) (by decide) ok_X1_takes fk_X1_takes fa_X1 (fun p e s m args below meth c Q R0 C0 hts hN => all_get (fun _ q => absurd q List.not_mem_nil)) (fun p e s m args below meth c Q R0 As S M h => s_X1_takes M h)
def L_X1_get : List CE := [(0, .aload_n 0, 1, [], 0), (1, .getfield 9, 4, [1, 0], 0), (4, .iload_n 1, 5, [], 0), (5, .bipush 6, 7, [], 6), (7, .imul, 8, [], 0), (8, .iload_n 2, 9, [], 0), (9, .iadd, 10, [], 0), (10, .iaload, 11, [], 0), (11, .ireturn, 12, [0], 0)]
theorem ok_X1_get : ∀ q ∈ L_X1_get, rok cX1_get 3 0 q = true := by decide +kernel
theorem fk_X1_get : ∀ q ∈ L_X1_get, fck FT_X1 PT_X1 KT_X1 q = true := by decide +kernel
noncomputable def cs_X1_get : List CT := []
noncomputable def m_X1_get : MT := fun As S => brn xT cs_X1_get L_X1_get [] (dsp []) 11 [] 0 (zipN 0 As) [] S
theorem s_X1_get (M : xM p l e R s m args below meth c cells slots Q D xT g cI cZ A 3 cX1_get RX1 0 cs_X1_get L_X1_get R0) {As : List AV} {S : XS} (h : m_X1_get As S = some R0) : xG p l e R s m args below meth c cells slots Q D xT g cI cZ A 3 0 (zipN 0 As) [] S := xa_blk M (fun _ q => absurd q List.not_mem_nil) h
set_option maxRecDepth 20000 in
theorem c_X1_get {l : Launch} {D : va_G} {g : Nat → Nat} {cI cZ : ClassId} {A : Nat → Prop} (hD : ∀ S, va_D A (ww xT g cI cZ S)) : xMet l D xT g cI cZ A yX1_get (wm yX1_get cX1_get 3 0) { frames := 0, cells := 0, slots := 0, locals := 0 } 3 m_X1_get :=
  xa_met (ft := FT_X1) (pt := PT_X1) (kt := KT_X1) (cs := cs_X1_get) (L := L_X1_get) hD (by decide) (by decide) ok_X1_get fk_X1_get fa_X1 (fun p e s m args below meth c Q R0 C0 hts hN => all_get (fun _ q => absurd q List.not_mem_nil)) (fun p e s m args below meth c Q R0 As S M h => s_X1_get M h)
def L_X1_change : List CE := [(0, .aload_n 0, 1, [], 0), (1, .iload_n 1, 2, [], 0), (2, .iload_n 2, 3, [], 0), (3, .invokevirtual 19, 6, [0], 0), (6, .istore 4, 8, [], 0), (8, .aload_n 0, 9, [], 0), (9, .getfield 9, 12, [1, 0], 0), (12, .iload_n 1, 13, [], 0), (13, .bipush 6, 15, [], 6), (15, .imul, 16, [], 0), (16, .iload_n 2, 17, [], 0), (17, .iadd, 18, [], 0), (18, .iload_n 3, 19, [], 0), (19, .iastore, 20, [], 0), (20, .iload 4, 22, [], 0), (22, .ireturn, 23, [0], 0)]
theorem ok_X1_change : ∀ q ∈ L_X1_change, rok cX1_change 5 0 q = true := by decide +kernel
theorem fk_X1_change : ∀ q ∈ L_X1_change, fck FT_X1 PT_X1 KT_X1 q = true := by decide +kernel
noncomputable def cs_X1_change : List CT := [(false, 19, 3, 1, 1, m_X1_get)]
noncomputable def m_X1_change : MT := fun As S => brn xT cs_X1_change L_X1_change [] (dsp []) 18 [] 0 (zipN 0 As) [] S
theorem s_X1_change (M : xM p l e R s m args below meth c cells slots Q D xT g cI cZ A 5 cX1_change RX1 0 cs_X1_change L_X1_change R0) {As : List AV} {S : XS} (h : m_X1_change As S = some R0) : xG p l e R s m args below meth c cells slots Q D xT g cI cZ A 5 0 (zipN 0 As) [] S := xa_blk M (fun _ q => absurd q List.not_mem_nil) h
set_option maxRecDepth 20000 in
theorem c_X1_change {l : Launch} {D : va_G} {g : Nat → Nat} {cI cZ : ClassId} {A : Nat → Prop} (hD : ∀ S, va_D A (ww xT g cI cZ S)) : xMet l D xT g cI cZ A yX1_change (wm yX1_change cX1_change 5 0) { frames := 1, cells := 0, slots := 0, locals := 22 } 4 m_X1_change :=
  xa_met (ft := FT_X1) (pt := PT_X1) (kt := KT_X1) (cs := cs_X1_change) (L := L_X1_change) hD (by decide) (by decide) ok_X1_change fk_X1_change fa_X1 (fun p e s m args below meth c Q R0 C0 hts hN => all_get (List.forall_mem_cons.mpr ⟨xcf_V (C := RX1) C0 hts hN (c_X1_get hD) (good_V kl_X1_19 ki_X1_get ks_X1_get kn_X1 kc_X1_get) rfl ⟨rfl, rfl⟩ rfl (by decide +kernel) ⟨by decide, by decide⟩ ⟨Nat.zero_le _, Nat.zero_le _⟩, fun _ q => absurd q List.not_mem_nil⟩)) (fun p e s m args below meth c Q R0 As S M h => s_X1_change M h)
def L_X1_liesFromX : List CE := [(0, .aload_n 0, 1, [], 0), (1, .iload_n 1, 2, [], 0), (2, .iconst 2, 3, [], 2), (3, .invokevirtual 19, 6, [0], 0), (6, .iconst 1, 7, [], 1), (7, .if_icmp .ne 7, 10, [14], 0), (10, .iconst 1, 11, [], 1), (11, .goto 4, 14, [15], 0), (14, .iconst 0, 15, [], 0), (15, .ireturn, 16, [1], 0)]
theorem ok_X1_liesFromX : ∀ q ∈ L_X1_liesFromX, rok cX1_liesFromX 2 1 q = true := by decide +kernel
theorem fk_X1_liesFromX : ∀ q ∈ L_X1_liesFromX, fck FT_X1 PT_X1 KT_X1 q = true := by decide +kernel
noncomputable def cs_X1_liesFromX : List CT := [(false, 19, 3, 1, 1, m_X1_get)]
noncomputable def m_X1_liesFromX : MT := fun As S => brn xT cs_X1_liesFromX L_X1_liesFromX [] (dsp []) 12 [] 0 (zipN 0 As) [] S
theorem s_X1_liesFromX (M : xM p l e R s m args below meth c cells slots Q D xT g cI cZ A 2 cX1_liesFromX RX1 1 cs_X1_liesFromX L_X1_liesFromX R0) {As : List AV} {S : XS} (h : m_X1_liesFromX As S = some R0) : xG p l e R s m args below meth c cells slots Q D xT g cI cZ A 2 0 (zipN 0 As) [] S := xa_blk M (fun _ q => absurd q List.not_mem_nil) h
set_option maxRecDepth 20000 in
theorem c_X1_liesFromX {l : Launch} {D : va_G} {g : Nat → Nat} {cI cZ : ClassId} {A : Nat → Prop} (hD : ∀ S, va_D A (ww xT g cI cZ S)) : xMet l D xT g cI cZ A yX1_liesFromX (wm yX1_liesFromX cX1_liesFromX 2 1) { frames := 1, cells := 0, slots := 0, locals := 22 } 2 m_X1_liesFromX :=
  xa_met (ft := FT_X1) (pt := PT_X1) (kt := KT_X1) (cs := cs_X1_liesFromX) (L := L_X1_liesFromX) hD (by decide) (by decide) ok_X1_liesFromX fk_X1_liesFromX fa_X1 (fun p e s m args below meth c Q R0 C0 hts hN => all_get (List.forall_mem_cons.mpr ⟨xcf_V (C := RX1) C0 hts hN (c_X1_get hD) (good_V kl_X1_19 ki_X1_get ks_X1_get kn_X1 kc_X1_get) rfl ⟨rfl, rfl⟩ rfl (by decide +kernel) ⟨by decide, by decide⟩ ⟨Nat.zero_le _, Nat.zero_le _⟩, fun _ q => absurd q List.not_mem_nil⟩)) (fun p e s m args below meth c Q R0 As S M h => s_X1_liesFromX M h)
def L_X1_isInRow : List CE := [(0, .aload_n 0, 1, [], 0), (1, .iload_n 1, 2, [], 0), (2, .iconst 4, 3, [], 4), (3, .invokevirtual 19, 6, [0], 0), (6, .iconst 1, 7, [], 1), (7, .if_icmp .ne 7, 10, [14], 0), (10, .iconst 1, 11, [], 1), (11, .goto 4, 14, [15], 0), (14, .iconst 0, 15, [], 0), (15, .ireturn, 16, [1], 0)]
theorem ok_X1_isInRow : ∀ q ∈ L_X1_isInRow, rok cX1_isInRow 2 1 q = true := by decide +kernel
theorem fk_X1_isInRow : ∀ q ∈ L_X1_isInRow, fck FT_X1 PT_X1 KT_X1 q = true := by decide +kernel
noncomputable def cs_X1_isInRow : List CT := [(false, 19, 3, 1, 1, m_X1_get)]
noncomputable def m_X1_isInRow : MT := fun As S => brn xT cs_X1_isInRow L_X1_isInRow [] (dsp []) 12 [] 0 (zipN 0 As) [] S
theorem s_X1_isInRow (M : xM p l e R s m args below meth c cells slots Q D xT g cI cZ A 2 cX1_isInRow RX1 1 cs_X1_isInRow L_X1_isInRow R0) {As : List AV} {S : XS} (h : m_X1_isInRow As S = some R0) : xG p l e R s m args below meth c cells slots Q D xT g cI cZ A 2 0 (zipN 0 As) [] S := xa_blk M (fun _ q => absurd q List.not_mem_nil) h
set_option maxRecDepth 20000 in
theorem c_X1_isInRow {l : Launch} {D : va_G} {g : Nat → Nat} {cI cZ : ClassId} {A : Nat → Prop} (hD : ∀ S, va_D A (ww xT g cI cZ S)) : xMet l D xT g cI cZ A yX1_isInRow (wm yX1_isInRow cX1_isInRow 2 1) { frames := 1, cells := 0, slots := 0, locals := 22 } 2 m_X1_isInRow :=
  xa_met (ft := FT_X1) (pt := PT_X1) (kt := KT_X1) (cs := cs_X1_isInRow) (L := L_X1_isInRow) hD (by decide) (by decide) ok_X1_isInRow fk_X1_isInRow fa_X1 (fun p e s m args below meth c Q R0 C0 hts hN => all_get (List.forall_mem_cons.mpr ⟨xcf_V (C := RX1) C0 hts hN (c_X1_get hD) (good_V kl_X1_19 ki_X1_get ks_X1_get kn_X1 kc_X1_get) rfl ⟨rfl, rfl⟩ rfl (by decide +kernel) ⟨by decide, by decide⟩ ⟨Nat.zero_le _, Nat.zero_le _⟩, fun _ q => absurd q List.not_mem_nil⟩)) (fun p e s m args below meth c Q R0 As S M h => s_X1_isInRow M h)
def L_X1_rank : List CE := [(0, .aload_n 0, 1, [], 0), (1, .iload_n 1, 2, [], 0), (2, .iconst 5, 3, [], 5), (3, .invokevirtual 19, 6, [0], 0), (6, .getstatic 16, 9, [40], 0), (9, .iconst 0, 10, [], 0), (10, .iaload, 11, [], 0), (11, .iconst 1, 12, [], 1), (12, .iadd, 13, [], 0), (13, .imul, 14, [], 0), (14, .aload_n 0, 15, [], 0), (15, .iload_n 1, 16, [], 0), (16, .iconst 0, 17, [], 0), (17, .invokevirtual 19, 20, [0], 0), (20, .iadd, 21, [], 0), (21, .ireturn, 22, [0], 0)]
theorem ok_X1_rank : ∀ q ∈ L_X1_rank, rok cX1_rank 2 0 q = true := by decide +kernel
theorem fk_X1_rank : ∀ q ∈ L_X1_rank, fck FT_X1 PT_X1 KT_X1 q = true := by decide +kernel
noncomputable def cs_X1_rank : List CT := [(false, 19, 3, 1, 1, m_X1_get)]
noncomputable def m_X1_rank : MT := fun As S => brn xT cs_X1_rank L_X1_rank [] (dsp []) 18 [] 0 (zipN 0 As) [] S
theorem s_X1_rank (M : xM p l e R s m args below meth c cells slots Q D xT g cI cZ A 2 cX1_rank RX1 0 cs_X1_rank L_X1_rank R0) {As : List AV} {S : XS} (h : m_X1_rank As S = some R0) : xG p l e R s m args below meth c cells slots Q D xT g cI cZ A 2 0 (zipN 0 As) [] S := xa_blk M (fun _ q => absurd q List.not_mem_nil) h
set_option maxRecDepth 20000 in
theorem c_X1_rank {l : Launch} {D : va_G} {g : Nat → Nat} {cI cZ : ClassId} {A : Nat → Prop} (hD : ∀ S, va_D A (ww xT g cI cZ S)) : xMet l D xT g cI cZ A yX1_rank (wm yX1_rank cX1_rank 2 0) { frames := 1, cells := 0, slots := 0, locals := 22 } 2 m_X1_rank :=
  xa_met (ft := FT_X1) (pt := PT_X1) (kt := KT_X1) (cs := cs_X1_rank) (L := L_X1_rank) hD (by decide) (by decide) ok_X1_rank fk_X1_rank fa_X1 (fun p e s m args below meth c Q R0 C0 hts hN => all_get (List.forall_mem_cons.mpr ⟨xcf_V (C := RX1) C0 hts hN (c_X1_get hD) (good_V kl_X1_19 ki_X1_get ks_X1_get kn_X1 kc_X1_get) rfl ⟨rfl, rfl⟩ rfl (by decide +kernel) ⟨by decide, by decide⟩ ⟨Nat.zero_le _, Nat.zero_le _⟩, fun _ q => absurd q List.not_mem_nil⟩)) (fun p e s m args below meth c Q R0 As S M h => s_X1_rank M h)
def L_X2_has : List CE := [(0, .iload_n 1, 1, [], 0), (1, .ifCond .lt 24, 4, [25], 0), (4, .iload_n 1, 5, [], 0), (5, .aload_n 0, 6, [], 0), (6, .getfield 46, 9, [2, 11], 0), (9, .if_icmp .ge 16, 12, [25], 0), (12, .aload_n 0, 13, [], 0), (13, .getfield 24, 16, [2, 4], 0), (16, .iload_n 1, 17, [], 0), (17, .baload, 18, [], 0), (18, .ifCond .ne 7, 21, [25], 0), (21, .iconst 1, 22, [], 1), (22, .goto 4, 25, [26], 0), (25, .iconst 0, 26, [], 0), (26, .ireturn, 27, [1], 0)]
theorem ok_X2_has : ∀ q ∈ L_X2_has, rok cX2_has 2 1 q = true := by decide +kernel
theorem fk_X2_has : ∀ q ∈ L_X2_has, fck FT_X2 PT_X2 KT_X2 q = true := by decide +kernel
noncomputable def cs_X2_has : List CT := []
noncomputable def m_X2_has : MT := fun As S => brn xT cs_X2_has L_X2_has [] (dsp []) 17 [] 0 (zipN 0 As) [] S
theorem s_X2_has (M : xM p l e R s m args below meth c cells slots Q D xT g cI cZ A 2 cX2_has RX2 1 cs_X2_has L_X2_has R0) {As : List AV} {S : XS} (h : m_X2_has As S = some R0) : xG p l e R s m args below meth c cells slots Q D xT g cI cZ A 2 0 (zipN 0 As) [] S := xa_blk M (fun _ q => absurd q List.not_mem_nil) h
set_option maxRecDepth 20000 in
theorem c_X2_has {l : Launch} {D : va_G} {g : Nat → Nat} {cI cZ : ClassId} {A : Nat → Prop} (hD : ∀ S, va_D A (ww xT g cI cZ S)) : xMet l D xT g cI cZ A yX2_has (wm yX2_has cX2_has 2 1) { frames := 0, cells := 0, slots := 0, locals := 0 } 2 m_X2_has :=
  xa_met (ft := FT_X2) (pt := PT_X2) (kt := KT_X2) (cs := cs_X2_has) (L := L_X2_has) hD (by decide) (by decide) ok_X2_has fk_X2_has fa_X2 (fun p e s m args below meth c Q R0 C0 hts hN => all_get (fun _ q => absurd q List.not_mem_nil)) (fun p e s m args below meth c Q R0 As S M h => s_X2_has M h)
def L_X2_add : List CE := [(0, .aload_n 0, 1, [], 0), (1, .getfield 46, 4, [2, 11], 0), (4, .istore 5, 6, [], 0), (6, .aload_n 0, 7, [], 0), (7, .getfield 9, 10, [2, 0], 0), (10, .iload 5, 12, [], 0), (12, .iload_n 1, 13, [], 0), (13, .iastore, 14, [], 0), (14, .aload_n 0, 15, [], 0), (15, .getfield 15, 18, [2, 1], 0), (18, .iload 5, 20, [], 0), (20, .iload_n 2, 21, [], 0), (21, .iastore, 22, [], 0), (22, .aload_n 0, 23, [], 0), (23, .getfield 18, 26, [2, 2], 0), (26, .iload 5, 28, [], 0), (28, .iload_n 3, 29, [], 0), (29, .iastore, 30, [], 0), (30, .aload_n 0, 31, [], 0), (31, .getfield 21, 34, [2, 3], 0), (34, .iload 5, 36, [], 0), (36, .iload 4, 38, [], 0), (38, .iastore, 39, [], 0), (39, .aload_n 0, 40, [], 0), (40, .dup, 41, [], 0), (41, .getfield 46, 44, [2, 11], 0), (44, .iconst 1, 45, [], 1), (45, .iadd, 46, [], 0), (46, .putfield 46, 49, [2, 11, 0], 0), (49, .iload 5, 51, [], 0), (51, .ireturn, 52, [0], 0)]
theorem ok_X2_add : ∀ q ∈ L_X2_add, rok cX2_add 6 0 q = true := by decide +kernel
theorem fk_X2_add : ∀ q ∈ L_X2_add, fck FT_X2 PT_X2 KT_X2 q = true := by decide +kernel
noncomputable def cs_X2_add : List CT := []
noncomputable def m_X2_add : MT := fun As S => brn xT cs_X2_add L_X2_add [] (dsp []) 33 [] 0 (zipN 0 As) [] S
theorem s_X2_add (M : xM p l e R s m args below meth c cells slots Q D xT g cI cZ A 6 cX2_add RX2 0 cs_X2_add L_X2_add R0) {As : List AV} {S : XS} (h : m_X2_add As S = some R0) : xG p l e R s m args below meth c cells slots Q D xT g cI cZ A 6 0 (zipN 0 As) [] S := xa_blk M (fun _ q => absurd q List.not_mem_nil) h
set_option maxRecDepth 20000 in
theorem c_X2_add {l : Launch} {D : va_G} {g : Nat → Nat} {cI cZ : ClassId} {A : Nat → Prop} (hD : ∀ S, va_D A (ww xT g cI cZ S)) : xMet l D xT g cI cZ A yX2_add (wm yX2_add cX2_add 6 0) { frames := 0, cells := 0, slots := 0, locals := 0 } 5 m_X2_add :=
  xa_met (ft := FT_X2) (pt := PT_X2) (kt := KT_X2) (cs := cs_X2_add) (L := L_X2_add) hD (by decide) (by decide) ok_X2_add fk_X2_add fa_X2 (fun p e s m args below meth c Q R0 C0 hts hN => all_get (fun _ q => absurd q List.not_mem_nil)) (fun p e s m args below meth c Q R0 As S M h => s_X2_add M h)
def L_X2_countThere : List CE := [(0, .iconst 0, 1, [], 0), (1, .istore_n 1, 2, [], 0), (2, .iconst 0, 3, [], 0), (3, .istore_n 2, 4, [], 0), (4, .iload_n 2, 5, [], 0), (5, .aload_n 0, 6, [], 0), (6, .getfield 46, 9, [2, 11], 0), (9, .if_icmp .ge 26, 12, [35], 0), (12, .iload_n 1, 13, [], 0), (13, .aload_n 0, 14, [], 0), (14, .getfield 24, 17, [2, 4], 0), (17, .iload_n 2, 18, [], 0), (18, .baload, 19, [], 0), (19, .ifCond .eq 7, 22, [26], 0), (22, .iconst 0, 23, [], 0), (23, .goto 4, 26, [27], 0), (26, .iconst 1, 27, [], 1), (27, .iadd, 28, [], 0), (28, .istore_n 1, 29, [], 0), (29, .iinc 2 1, 32, [], 1), (32, .goto (-28), 35, [4], 0), (35, .iload_n 1, 36, [], 0), (36, .ireturn, 37, [0], 0)]
theorem ok_X2_countThere : ∀ q ∈ L_X2_countThere, rok cX2_countThere 3 0 q = true := by decide +kernel
theorem fk_X2_countThere : ∀ q ∈ L_X2_countThere, fck FT_X2 PT_X2 KT_X2 q = true := by decide +kernel
noncomputable def cs_X2_countThere : List CT := []
noncomputable def b_X2_countThere_4 : Nat → BT
  | 0 => fun _ _ _ => none
  | n + 1 => fun lv st S => brn xT cs_X2_countThere L_X2_countThere [4] (dsp [(4, [0, 1, 2], b_X2_countThere_4 n)]) 25 [] 4 lv st S
theorem s_X2_countThere_4 (M : xM p l e R s m args below meth c cells slots Q D xT g cI cZ A 3 cX2_countThere RX2 0 cs_X2_countThere L_X2_countThere R0) : ∀ n lv st S, b_X2_countThere_4 n lv st S = some R0 → xG p l e R s m args below meth c cells slots Q D xT g cI cZ A 3 4 lv st S := by
  intro n
  induction n with
  | zero => intro lv st S h; cases h
  | succ n ih => intro lv st S h; exact xa_blk M (List.forall_mem_cons.mpr ⟨fun lv st S h => (ih) lv st S h, fun _ q => absurd q List.not_mem_nil⟩) h
noncomputable def m_X2_countThere : MT := fun As S => brn xT cs_X2_countThere L_X2_countThere [4] (dsp [(4, [0, 1, 2], b_X2_countThere_4 fu)]) 25 [] 0 (zipN 0 As) [] S
theorem s_X2_countThere (M : xM p l e R s m args below meth c cells slots Q D xT g cI cZ A 3 cX2_countThere RX2 0 cs_X2_countThere L_X2_countThere R0) {As : List AV} {S : XS} (h : m_X2_countThere As S = some R0) : xG p l e R s m args below meth c cells slots Q D xT g cI cZ A 3 0 (zipN 0 As) [] S := xa_blk M (List.forall_mem_cons.mpr ⟨fun lv st S h => (s_X2_countThere_4 M fu) lv st S h, fun _ q => absurd q List.not_mem_nil⟩) h
set_option maxRecDepth 20000 in
theorem c_X2_countThere {l : Launch} {D : va_G} {g : Nat → Nat} {cI cZ : ClassId} {A : Nat → Prop} (hD : ∀ S, va_D A (ww xT g cI cZ S)) : xMet l D xT g cI cZ A yX2_countThere (wm yX2_countThere cX2_countThere 3 0) { frames := 0, cells := 0, slots := 0, locals := 0 } 1 m_X2_countThere :=
  xa_met (ft := FT_X2) (pt := PT_X2) (kt := KT_X2) (cs := cs_X2_countThere) (L := L_X2_countThere) hD (by decide) (by decide) ok_X2_countThere fk_X2_countThere fa_X2 (fun p e s m args below meth c Q R0 C0 hts hN => all_get (fun _ q => absurd q List.not_mem_nil)) (fun p e s m args below meth c Q R0 As S M h => s_X2_countThere M h)
def L_X2_countAt : List CE := [(0, .iconst 0, 1, [], 0), (1, .istore_n 2, 2, [], 0), (2, .iconst 0, 3, [], 0), (3, .istore_n 3, 4, [], 0), (4, .iload_n 3, 5, [], 0), (5, .aload_n 0, 6, [], 0), (6, .getfield 46, 9, [2, 11], 0), (9, .if_icmp .ge 36, 12, [45], 0), (12, .iload_n 2, 13, [], 0), (13, .aload_n 0, 14, [], 0), (14, .getfield 24, 17, [2, 4], 0), (17, .iload_n 3, 18, [], 0), (18, .baload, 19, [], 0), (19, .ifCond .ne 17, 22, [36], 0), (22, .aload_n 0, 23, [], 0), (23, .getfield 9, 26, [2, 0], 0), (26, .iload_n 3, 27, [], 0), (27, .iaload, 28, [], 0), (28, .iload_n 1, 29, [], 0), (29, .if_icmp .ne 7, 32, [36], 0), (32, .iconst 1, 33, [], 1), (33, .goto 4, 36, [37], 0), (36, .iconst 0, 37, [], 0), (37, .iadd, 38, [], 0), (38, .istore_n 2, 39, [], 0), (39, .iinc 3 1, 42, [], 1), (42, .goto (-38), 45, [4], 0), (45, .iload_n 2, 46, [], 0), (46, .ireturn, 47, [0], 0)]
theorem ok_X2_countAt : ∀ q ∈ L_X2_countAt, rok cX2_countAt 4 0 q = true := by decide +kernel
theorem fk_X2_countAt : ∀ q ∈ L_X2_countAt, fck FT_X2 PT_X2 KT_X2 q = true := by decide +kernel
noncomputable def cs_X2_countAt : List CT := []
noncomputable def b_X2_countAt_4 : Nat → BT
  | 0 => fun _ _ _ => none
  | n + 1 => fun lv st S => brn xT cs_X2_countAt L_X2_countAt [4] (dsp [(4, [0, 1, 2, 3], b_X2_countAt_4 n)]) 31 [] 4 lv st S
theorem s_X2_countAt_4 (M : xM p l e R s m args below meth c cells slots Q D xT g cI cZ A 4 cX2_countAt RX2 0 cs_X2_countAt L_X2_countAt R0) : ∀ n lv st S, b_X2_countAt_4 n lv st S = some R0 → xG p l e R s m args below meth c cells slots Q D xT g cI cZ A 4 4 lv st S := by
  intro n
  induction n with
  | zero => intro lv st S h; cases h
  | succ n ih => intro lv st S h; exact xa_blk M (List.forall_mem_cons.mpr ⟨fun lv st S h => (ih) lv st S h, fun _ q => absurd q List.not_mem_nil⟩) h
noncomputable def m_X2_countAt : MT := fun As S => brn xT cs_X2_countAt L_X2_countAt [4] (dsp [(4, [0, 1, 2, 3], b_X2_countAt_4 fu)]) 31 [] 0 (zipN 0 As) [] S
theorem s_X2_countAt (M : xM p l e R s m args below meth c cells slots Q D xT g cI cZ A 4 cX2_countAt RX2 0 cs_X2_countAt L_X2_countAt R0) {As : List AV} {S : XS} (h : m_X2_countAt As S = some R0) : xG p l e R s m args below meth c cells slots Q D xT g cI cZ A 4 0 (zipN 0 As) [] S := xa_blk M (List.forall_mem_cons.mpr ⟨fun lv st S h => (s_X2_countAt_4 M fu) lv st S h, fun _ q => absurd q List.not_mem_nil⟩) h
set_option maxRecDepth 20000 in
theorem c_X2_countAt {l : Launch} {D : va_G} {g : Nat → Nat} {cI cZ : ClassId} {A : Nat → Prop} (hD : ∀ S, va_D A (ww xT g cI cZ S)) : xMet l D xT g cI cZ A yX2_countAt (wm yX2_countAt cX2_countAt 4 0) { frames := 0, cells := 0, slots := 0, locals := 0 } 2 m_X2_countAt :=
  xa_met (ft := FT_X2) (pt := PT_X2) (kt := KT_X2) (cs := cs_X2_countAt) (L := L_X2_countAt) hD (by decide) (by decide) ok_X2_countAt fk_X2_countAt fa_X2 (fun p e s m args below meth c Q R0 C0 hts hN => all_get (fun _ q => absurd q List.not_mem_nil)) (fun p e s m args below meth c Q R0 As S M h => s_X2_countAt M h)
def L_X2_isOn : List CE := [(0, .aload_n 0, 1, [], 0), (1, .getfield 24, 4, [2, 4], 0), (4, .iload_n 1, 5, [], 0), (5, .baload, 6, [], 0), (6, .ifCond .ne 27, 9, [33], 0), (9, .aload_n 0, 10, [], 0), (10, .getfield 9, 13, [2, 0], 0), (13, .iload_n 1, 14, [], 0), (14, .iaload, 15, [], 0), (15, .iload_n 2, 16, [], 0), (16, .if_icmp .ne 17, 19, [33], 0), (19, .aload_n 0, 20, [], 0), (20, .getfield 31, 23, [2, 6], 0), (23, .iload_n 1, 24, [], 0), (24, .iaload, 25, [], 0), (25, .iload_n 3, 26, [], 0), (26, .if_icmp .ne 7, 29, [33], 0), (29, .iconst 1, 30, [], 1), (30, .goto 4, 33, [34], 0), (33, .iconst 0, 34, [], 0), (34, .ireturn, 35, [1], 0)]
theorem ok_X2_isOn : ∀ q ∈ L_X2_isOn, rok cX2_isOn 4 1 q = true := by decide +kernel
theorem fk_X2_isOn : ∀ q ∈ L_X2_isOn, fck FT_X2 PT_X2 KT_X2 q = true := by decide +kernel
noncomputable def cs_X2_isOn : List CT := []
noncomputable def m_X2_isOn : MT := fun As S => brn xT cs_X2_isOn L_X2_isOn [] (dsp []) 23 [] 0 (zipN 0 As) [] S
theorem s_X2_isOn (M : xM p l e R s m args below meth c cells slots Q D xT g cI cZ A 4 cX2_isOn RX2 1 cs_X2_isOn L_X2_isOn R0) {As : List AV} {S : XS} (h : m_X2_isOn As S = some R0) : xG p l e R s m args below meth c cells slots Q D xT g cI cZ A 4 0 (zipN 0 As) [] S := xa_blk M (fun _ q => absurd q List.not_mem_nil) h
set_option maxRecDepth 20000 in
theorem c_X2_isOn {l : Launch} {D : va_G} {g : Nat → Nat} {cI cZ : ClassId} {A : Nat → Prop} (hD : ∀ S, va_D A (ww xT g cI cZ S)) : xMet l D xT g cI cZ A yX2_isOn (wm yX2_isOn cX2_isOn 4 1) { frames := 0, cells := 0, slots := 0, locals := 0 } 4 m_X2_isOn :=
  xa_met (ft := FT_X2) (pt := PT_X2) (kt := KT_X2) (cs := cs_X2_isOn) (L := L_X2_isOn) hD (by decide) (by decide) ok_X2_isOn fk_X2_isOn fa_X2 (fun p e s m args below meth c Q R0 C0 hts hN => all_get (fun _ q => absurd q List.not_mem_nil)) (fun p e s m args below meth c Q R0 As S M h => s_X2_isOn M h)
def L_X2_isOf : List CE := [(0, .aload_n 0, 1, [], 0), (1, .getfield 15, 4, [2, 1], 0), (4, .iload_n 1, 5, [], 0), (5, .iaload, 6, [], 0), (6, .iload_n 2, 7, [], 0), (7, .if_icmp .ne 17, 10, [24], 0), (10, .aload_n 0, 11, [], 0), (11, .getfield 31, 14, [2, 6], 0), (14, .iload_n 1, 15, [], 0), (15, .iaload, 16, [], 0), (16, .iload_n 3, 17, [], 0), (17, .if_icmp .ne 7, 20, [24], 0), (20, .iconst 1, 21, [], 1), (21, .goto 4, 24, [25], 0), (24, .iconst 0, 25, [], 0), (25, .ireturn, 26, [1], 0)]
theorem ok_X2_isOf : ∀ q ∈ L_X2_isOf, rok cX2_isOf 4 1 q = true := by decide +kernel
theorem fk_X2_isOf : ∀ q ∈ L_X2_isOf, fck FT_X2 PT_X2 KT_X2 q = true := by decide +kernel
noncomputable def cs_X2_isOf : List CT := []
noncomputable def m_X2_isOf : MT := fun As S => brn xT cs_X2_isOf L_X2_isOf [] (dsp []) 18 [] 0 (zipN 0 As) [] S
theorem s_X2_isOf (M : xM p l e R s m args below meth c cells slots Q D xT g cI cZ A 4 cX2_isOf RX2 1 cs_X2_isOf L_X2_isOf R0) {As : List AV} {S : XS} (h : m_X2_isOf As S = some R0) : xG p l e R s m args below meth c cells slots Q D xT g cI cZ A 4 0 (zipN 0 As) [] S := xa_blk M (fun _ q => absurd q List.not_mem_nil) h
set_option maxRecDepth 20000 in
theorem c_X2_isOf {l : Launch} {D : va_G} {g : Nat → Nat} {cI cZ : ClassId} {A : Nat → Prop} (hD : ∀ S, va_D A (ww xT g cI cZ S)) : xMet l D xT g cI cZ A yX2_isOf (wm yX2_isOf cX2_isOf 4 1) { frames := 0, cells := 0, slots := 0, locals := 0 } 4 m_X2_isOf :=
  xa_met (ft := FT_X2) (pt := PT_X2) (kt := KT_X2) (cs := cs_X2_isOf) (L := L_X2_isOf) hD (by decide) (by decide) ok_X2_isOf fk_X2_isOf fa_X2 (fun p e s m args below meth c Q R0 C0 hts hN => all_get (fun _ q => absurd q List.not_mem_nil)) (fun p e s m args below meth c Q R0 As S M h => s_X2_isOf M h)
def L_X2_behind : List CE := [(0, .aload_n 0, 1, [], 0), (1, .getfield 28, 4, [2, 5], 0), (4, .iload_n 1, 5, [], 0), (5, .iaload, 6, [], 0), (6, .aload_n 0, 7, [], 0), (7, .getfield 18, 10, [2, 2], 0), (10, .iload_n 1, 11, [], 0), (11, .iaload, 12, [], 0), (12, .iadd, 13, [], 0), (13, .ireturn, 14, [0], 0)]
theorem ok_X2_behind : ∀ q ∈ L_X2_behind, rok cX2_behind 2 0 q = true := by decide +kernel
theorem fk_X2_behind : ∀ q ∈ L_X2_behind, fck FT_X2 PT_X2 KT_X2 q = true := by decide +kernel
noncomputable def cs_X2_behind : List CT := []
noncomputable def m_X2_behind : MT := fun As S => brn xT cs_X2_behind L_X2_behind [] (dsp []) 12 [] 0 (zipN 0 As) [] S
theorem s_X2_behind (M : xM p l e R s m args below meth c cells slots Q D xT g cI cZ A 2 cX2_behind RX2 0 cs_X2_behind L_X2_behind R0) {As : List AV} {S : XS} (h : m_X2_behind As S = some R0) : xG p l e R s m args below meth c cells slots Q D xT g cI cZ A 2 0 (zipN 0 As) [] S := xa_blk M (fun _ q => absurd q List.not_mem_nil) h
set_option maxRecDepth 20000 in
theorem c_X2_behind {l : Launch} {D : va_G} {g : Nat → Nat} {cI cZ : ClassId} {A : Nat → Prop} (hD : ∀ S, va_D A (ww xT g cI cZ S)) : xMet l D xT g cI cZ A yX2_behind (wm yX2_behind cX2_behind 2 0) { frames := 0, cells := 0, slots := 0, locals := 0 } 2 m_X2_behind :=
  xa_met (ft := FT_X2) (pt := PT_X2) (kt := KT_X2) (cs := cs_X2_behind) (L := L_X2_behind) hD (by decide) (by decide) ok_X2_behind fk_X2_behind fa_X2 (fun p e s m args below meth c Q R0 C0 hts hN => all_get (fun _ q => absurd q List.not_mem_nil)) (fun p e s m args below meth c Q R0 As S M h => s_X2_behind M h)
def L_X2_shareX : List CE := [(0, .aload_n 0, 1, [], 0), (1, .getfield 28, 4, [2, 5], 0), (4, .iload_n 1, 5, [], 0), (5, .iaload, 6, [], 0), (6, .aload_n 0, 7, [], 0), (7, .iload_n 2, 8, [], 0), (8, .invokevirtual 50, 11, [0], 0), (11, .if_icmp .ge 21, 14, [32], 0), (14, .aload_n 0, 15, [], 0), (15, .getfield 28, 18, [2, 5], 0), (18, .iload_n 2, 19, [], 0), (19, .iaload, 20, [], 0), (20, .aload_n 0, 21, [], 0), (21, .iload_n 1, 22, [], 0), (22, .invokevirtual 50, 25, [0], 0), (25, .if_icmp .ge 7, 28, [32], 0), (28, .iconst 1, 29, [], 1), (29, .goto 4, 32, [33], 0), (32, .iconst 0, 33, [], 0), (33, .ireturn, 34, [1], 0)]
theorem ok_X2_shareX : ∀ q ∈ L_X2_shareX, rok cX2_shareX 3 1 q = true := by decide +kernel
theorem fk_X2_shareX : ∀ q ∈ L_X2_shareX, fck FT_X2 PT_X2 KT_X2 q = true := by decide +kernel
noncomputable def cs_X2_shareX : List CT := [(false, 50, 2, 1, 2, m_X2_behind)]
noncomputable def m_X2_shareX : MT := fun As S => brn xT cs_X2_shareX L_X2_shareX [] (dsp []) 22 [] 0 (zipN 0 As) [] S
theorem s_X2_shareX (M : xM p l e R s m args below meth c cells slots Q D xT g cI cZ A 3 cX2_shareX RX2 1 cs_X2_shareX L_X2_shareX R0) {As : List AV} {S : XS} (h : m_X2_shareX As S = some R0) : xG p l e R s m args below meth c cells slots Q D xT g cI cZ A 3 0 (zipN 0 As) [] S := xa_blk M (fun _ q => absurd q List.not_mem_nil) h
set_option maxRecDepth 20000 in
theorem c_X2_shareX {l : Launch} {D : va_G} {g : Nat → Nat} {cI cZ : ClassId} {A : Nat → Prop} (hD : ∀ S, va_D A (ww xT g cI cZ S)) : xMet l D xT g cI cZ A yX2_shareX (wm yX2_shareX cX2_shareX 3 1) { frames := 1, cells := 0, slots := 0, locals := 21 } 3 m_X2_shareX :=
  xa_met (ft := FT_X2) (pt := PT_X2) (kt := KT_X2) (cs := cs_X2_shareX) (L := L_X2_shareX) hD (by decide) (by decide) ok_X2_shareX fk_X2_shareX fa_X2 (fun p e s m args below meth c Q R0 C0 hts hN => all_get (List.forall_mem_cons.mpr ⟨xcf_V (C := RX2) C0 hts hN (c_X2_behind hD) (good_V kl_X2_50 ki_X2_behind ks_X2_behind kn_X2 kc_X2_behind) rfl ⟨rfl, rfl⟩ rfl (by decide +kernel) ⟨by decide, by decide⟩ ⟨Nat.zero_le _, Nat.zero_le _⟩, fun _ q => absurd q List.not_mem_nil⟩)) (fun p e s m args below meth c Q R0 As S M h => s_X2_shareX M h)
def L_X2_countNearer : List CE := [(0, .iconst 0, 1, [], 0), (1, .istore_n 2, 2, [], 0), (2, .iconst 0, 3, [], 0), (3, .istore_n 3, 4, [], 0), (4, .iload_n 3, 5, [], 0), (5, .aload_n 0, 6, [], 0), (6, .getfield 46, 9, [2, 11], 0), (9, .if_icmp .ge 84, 12, [93], 0), (12, .aload_n 0, 13, [], 0), (13, .getfield 34, 16, [2, 7], 0), (16, .iload_n 3, 17, [], 0), (17, .iaload, 18, [], 0), (18, .aload_n 0, 19, [], 0), (19, .getfield 34, 22, [2, 7], 0), (22, .iload_n 1, 23, [], 0), (23, .iaload, 24, [], 0), (24, .if_icmp .lt 23, 27, [47], 0), (27, .aload_n 0, 28, [], 0), (28, .getfield 34, 31, [2, 7], 0), (31, .iload_n 3, 32, [], 0), (32, .iaload, 33, [], 0), (33, .aload_n 0, 34, [], 0), (34, .getfield 34, 37, [2, 7], 0), (37, .iload_n 1, 38, [], 0), (38, .iaload, 39, [], 0), (39, .if_icmp .ne 12, 42, [51], 0), (42, .iload_n 3, 43, [], 0), (43, .iload_n 1, 44, [], 0), (44, .if_icmp .ge 7, 47, [51], 0), (47, .iconst 1, 48, [], 1), (48, .goto 4, 51, [52], 0), (51, .iconst 0, 52, [], 0), (52, .istore 4, 54, [], 0), (54, .iload_n 2, 55, [], 0), (55, .iload 4, 57, [], 0), (57, .ifCond .eq 27, 60, [84], 0), (60, .aload_n 0, 61, [], 0), (61, .iload_n 3, 62, [], 0), (62, .aload_n 0, 63, [], 0), (63, .getfield 9, 66, [2, 0], 0), (66, .iload_n 1, 67, [], 0), (67, .iaload, 68, [], 0), (68, .aload_n 0, 69, [], 0), (69, .getfield 31, 72, [2, 6], 0), (72, .iload_n 1, 73, [], 0), (73, .iaload, 74, [], 0), (74, .invokevirtual 54, 77, [0], 0), (77, .ifCond .eq 7, 80, [84], 0), (80, .iconst 1, 81, [], 1), (81, .goto 4, 84, [85], 0), (84, .iconst 0, 85, [], 0), (85, .iadd, 86, [], 0), (86, .istore_n 2, 87, [], 0), (87, .iinc 3 1, 90, [], 1), (90, .goto (-86), 93, [4], 0), (93, .iload_n 2, 94, [], 0), (94, .ireturn, 95, [0], 0)]
theorem ok_X2_countNearer : ∀ q ∈ L_X2_countNearer, rok cX2_countNearer 5 0 q = true := by decide +kernel
theorem fk_X2_countNearer : ∀ q ∈ L_X2_countNearer, fck FT_X2 PT_X2 KT_X2 q = true := by decide +kernel
noncomputable def cs_X2_countNearer : List CT := [(false, 54, 4, 1, 2, m_X2_isOn)]
noncomputable def b_X2_countNearer_52 (k4 : BT) : BT := fun lv st S => brn xT cs_X2_countNearer L_X2_countNearer [4, 52] (dsp [(4, [0, 1, 2, 3], k4)]) 59 [] 52 lv st S
theorem s_X2_countNearer_52 (M : xM p l e R s m args below meth c cells slots Q D xT g cI cZ A 5 cX2_countNearer RX2 0 cs_X2_countNearer L_X2_countNearer R0) {k4 : BT} (hk4 : ∀ lv st S, k4 lv st S = some R0 → xG p l e R s m args below meth c cells slots Q D xT g cI cZ A 5 4 lv st S) : ∀ lv st S, b_X2_countNearer_52 k4 lv st S = some R0 → xG p l e R s m args below meth c cells slots Q D xT g cI cZ A 5 52 lv st S := fun lv st S h => xa_blk M (List.forall_mem_cons.mpr ⟨fun lv st S h => (hk4) lv st S h, fun _ q => absurd q List.not_mem_nil⟩) h
noncomputable def b_X2_countNearer_4 : Nat → BT
  | 0 => fun _ _ _ => none
  | n + 1 => fun lv st S => brn xT cs_X2_countNearer L_X2_countNearer [4, 52] (dsp [(52, [0, 1, 2, 3], b_X2_countNearer_52 (b_X2_countNearer_4 n))]) 59 [] 4 lv st S
theorem s_X2_countNearer_4 (M : xM p l e R s m args below meth c cells slots Q D xT g cI cZ A 5 cX2_countNearer RX2 0 cs_X2_countNearer L_X2_countNearer R0) : ∀ n lv st S, b_X2_countNearer_4 n lv st S = some R0 → xG p l e R s m args below meth c cells slots Q D xT g cI cZ A 5 4 lv st S := by
  intro n
  induction n with
  | zero => intro lv st S h; cases h
  | succ n ih => intro lv st S h; exact xa_blk M (List.forall_mem_cons.mpr ⟨fun lv st S h => (s_X2_countNearer_52 M ih) lv st S h, fun _ q => absurd q List.not_mem_nil⟩) h
noncomputable def m_X2_countNearer : MT := fun As S => brn xT cs_X2_countNearer L_X2_countNearer [4, 52] (dsp [(4, [0, 1, 2, 3], b_X2_countNearer_4 fu)]) 59 [] 0 (zipN 0 As) [] S
theorem s_X2_countNearer (M : xM p l e R s m args below meth c cells slots Q D xT g cI cZ A 5 cX2_countNearer RX2 0 cs_X2_countNearer L_X2_countNearer R0) {As : List AV} {S : XS} (h : m_X2_countNearer As S = some R0) : xG p l e R s m args below meth c cells slots Q D xT g cI cZ A 5 0 (zipN 0 As) [] S := xa_blk M (List.forall_mem_cons.mpr ⟨fun lv st S h => (s_X2_countNearer_4 M fu) lv st S h, fun _ q => absurd q List.not_mem_nil⟩) h
set_option maxRecDepth 20000 in
theorem c_X2_countNearer {l : Launch} {D : va_G} {g : Nat → Nat} {cI cZ : ClassId} {A : Nat → Prop} (hD : ∀ S, va_D A (ww xT g cI cZ S)) : xMet l D xT g cI cZ A yX2_countNearer (wm yX2_countNearer cX2_countNearer 5 0) { frames := 1, cells := 0, slots := 0, locals := 23 } 2 m_X2_countNearer :=
  xa_met (ft := FT_X2) (pt := PT_X2) (kt := KT_X2) (cs := cs_X2_countNearer) (L := L_X2_countNearer) hD (by decide) (by decide) ok_X2_countNearer fk_X2_countNearer fa_X2 (fun p e s m args below meth c Q R0 C0 hts hN => all_get (List.forall_mem_cons.mpr ⟨xcf_V (C := RX2) C0 hts hN (c_X2_isOn hD) (good_V kl_X2_54 ki_X2_isOn ks_X2_isOn kn_X2 kc_X2_isOn) rfl ⟨rfl, rfl⟩ rfl (by decide +kernel) ⟨by decide, by decide⟩ ⟨Nat.zero_le _, Nat.zero_le _⟩, fun _ q => absurd q List.not_mem_nil⟩)) (fun p e s m args below meth c Q R0 As S M h => s_X2_countNearer M h)
def L_X3_clear : List CE := [(0, .aload_n 0, 1, [], 0), (1, .iconst 0, 2, [], 0), (2, .putfield 26, 5, [3, 4, 0], 0), (5, .aload_n 0, 6, [], 0), (6, .iconst 0, 7, [], 0), (7, .putfield 30, 10, [3, 5, 0], 0), (10, .iconst 0, 11, [], 0), (11, .istore_n 1, 12, [], 0), (12, .iload_n 1, 13, [], 0), (13, .bipush 10, 15, [], 10), (15, .if_icmp .ge 17, 18, [32], 0), (18, .aload_n 0, 19, [], 0), (19, .getfield 23, 22, [3, 3], 0), (22, .iload_n 1, 23, [], 0), (23, .ldc 33, 25, [], (-100003)), (25, .iastore, 26, [], 0), (26, .iinc 1 1, 29, [], 1), (29, .goto (-17), 32, [12], 0), (32, .return_, 33, [], 0)]
theorem ok_X3_clear : ∀ q ∈ L_X3_clear, rok cX3_clear 2 2 q = true := by decide +kernel
theorem fk_X3_clear : ∀ q ∈ L_X3_clear, fck FT_X3 PT_X3 KT_X3 q = true := by decide +kernel
noncomputable def cs_X3_clear : List CT := []
noncomputable def b_X3_clear_12 : Nat → BT
  | 0 => fun _ _ _ => none
  | n + 1 => fun lv st S => brn xT cs_X3_clear L_X3_clear [12] (dsp [(12, [0, 1], b_X3_clear_12 n)]) 21 [] 12 lv st S
theorem s_X3_clear_12 (M : xM p l e R s m args below meth c cells slots Q D xT g cI cZ A 2 cX3_clear RX3 2 cs_X3_clear L_X3_clear R0) : ∀ n lv st S, b_X3_clear_12 n lv st S = some R0 → xG p l e R s m args below meth c cells slots Q D xT g cI cZ A 2 12 lv st S := by
  intro n
  induction n with
  | zero => intro lv st S h; cases h
  | succ n ih => intro lv st S h; exact xa_blk M (List.forall_mem_cons.mpr ⟨fun lv st S h => (ih) lv st S h, fun _ q => absurd q List.not_mem_nil⟩) h
noncomputable def m_X3_clear : MT := fun As S => brn xT cs_X3_clear L_X3_clear [12] (dsp [(12, [0, 1], b_X3_clear_12 fu)]) 21 [] 0 (zipN 0 As) [] S
theorem s_X3_clear (M : xM p l e R s m args below meth c cells slots Q D xT g cI cZ A 2 cX3_clear RX3 2 cs_X3_clear L_X3_clear R0) {As : List AV} {S : XS} (h : m_X3_clear As S = some R0) : xG p l e R s m args below meth c cells slots Q D xT g cI cZ A 2 0 (zipN 0 As) [] S := xa_blk M (List.forall_mem_cons.mpr ⟨fun lv st S h => (s_X3_clear_12 M fu) lv st S h, fun _ q => absurd q List.not_mem_nil⟩) h
set_option maxRecDepth 20000 in
theorem c_X3_clear {l : Launch} {D : va_G} {g : Nat → Nat} {cI cZ : ClassId} {A : Nat → Prop} (hD : ∀ S, va_D A (ww xT g cI cZ S)) : xMet l D xT g cI cZ A yX3_clear (wm yX3_clear cX3_clear 2 2) { frames := 0, cells := 0, slots := 0, locals := 0 } 1 m_X3_clear :=
  xa_met (ft := FT_X3) (pt := PT_X3) (kt := KT_X3) (cs := cs_X3_clear) (L := L_X3_clear) hD (by decide) (by decide) ok_X3_clear fk_X3_clear fa_X3 (fun p e s m args below meth c Q R0 C0 hts hN => all_get (fun _ q => absurd q List.not_mem_nil)) (fun p e s m args below meth c Q R0 As S M h => s_X3_clear M h)
def L_X3_cover : List CE := [(0, .iload_n 3, 1, [], 0), (1, .bipush 18, 3, [], 18), (3, .if_icmp .le 53, 6, [56], 0), (6, .aload_n 0, 7, [], 0), (7, .getfield 26, 10, [3, 4], 0), (10, .sipush 170, 13, [], 170), (13, .if_icmp .ge 43, 16, [56], 0), (16, .aload_n 0, 17, [], 0), (17, .getfield 11, 20, [3, 0], 0), (20, .aload_n 0, 21, [], 0), (21, .getfield 26, 24, [3, 4], 0), (24, .iload_n 1, 25, [], 0), (25, .iastore, 26, [], 0), (26, .aload_n 0, 27, [], 0), (27, .getfield 15, 30, [3, 1], 0), (30, .aload_n 0, 31, [], 0), (31, .getfield 26, 34, [3, 4], 0), (34, .iload_n 2, 35, [], 0), (35, .iastore, 36, [], 0), (36, .aload_n 0, 37, [], 0), (37, .getfield 18, 40, [3, 2], 0), (40, .aload_n 0, 41, [], 0), (41, .getfield 26, 44, [3, 4], 0), (44, .iload_n 3, 45, [], 0), (45, .iastore, 46, [], 0), (46, .aload_n 0, 47, [], 0), (47, .dup, 48, [], 0), (48, .getfield 26, 51, [3, 4], 0), (51, .iconst 1, 52, [], 1), (52, .iadd, 53, [], 0), (53, .putfield 26, 56, [3, 4, 0], 0), (56, .return_, 57, [], 0)]
theorem ok_X3_cover : ∀ q ∈ L_X3_cover, rok cX3_cover 4 2 q = true := by decide +kernel
theorem fk_X3_cover : ∀ q ∈ L_X3_cover, fck FT_X3 PT_X3 KT_X3 q = true := by decide +kernel
noncomputable def cs_X3_cover : List CT := []
noncomputable def m_X3_cover : MT := fun As S => brn xT cs_X3_cover L_X3_cover [] (dsp []) 34 [] 0 (zipN 0 As) [] S
theorem s_X3_cover (M : xM p l e R s m args below meth c cells slots Q D xT g cI cZ A 4 cX3_cover RX3 2 cs_X3_cover L_X3_cover R0) {As : List AV} {S : XS} (h : m_X3_cover As S = some R0) : xG p l e R s m args below meth c cells slots Q D xT g cI cZ A 4 0 (zipN 0 As) [] S := xa_blk M (fun _ q => absurd q List.not_mem_nil) h
set_option maxRecDepth 20000 in
theorem c_X3_cover {l : Launch} {D : va_G} {g : Nat → Nat} {cI cZ : ClassId} {A : Nat → Prop} (hD : ∀ S, va_D A (ww xT g cI cZ S)) : xMet l D xT g cI cZ A yX3_cover (wm yX3_cover cX3_cover 4 2) { frames := 0, cells := 0, slots := 0, locals := 0 } 4 m_X3_cover :=
  xa_met (ft := FT_X3) (pt := PT_X3) (kt := KT_X3) (cs := cs_X3_cover) (L := L_X3_cover) hD (by decide) (by decide) ok_X3_cover fk_X3_cover fa_X3 (fun p e s m args below meth c Q R0 C0 hts hN => all_get (fun _ q => absurd q List.not_mem_nil)) (fun p e s m args below meth c Q R0 As S M h => s_X3_cover M h)
def L_X3_greatest : List CE := [(0, .bipush 18, 2, [], 18), (2, .istore_n 3, 3, [], 0), (3, .iconst 0, 4, [], 0), (4, .istore 4, 6, [], 0), (6, .iload 4, 8, [], 0), (8, .aload_n 0, 9, [], 0), (9, .getfield 26, 12, [3, 4], 0), (12, .if_icmp .ge 43, 15, [55], 0), (15, .aload_n 0, 16, [], 0), (16, .getfield 11, 19, [3, 0], 0), (19, .iload 4, 21, [], 0), (21, .iaload, 22, [], 0), (22, .iload_n 2, 23, [], 0), (23, .if_icmp .gt 26, 26, [49], 0), (26, .aload_n 0, 27, [], 0), (27, .getfield 15, 30, [3, 1], 0), (30, .iload 4, 32, [], 0), (32, .iaload, 33, [], 0), (33, .iload_n 1, 34, [], 0), (34, .if_icmp .lt 15, 37, [49], 0), (37, .iload_n 3, 38, [], 0), (38, .aload_n 0, 39, [], 0), (39, .getfield 18, 42, [3, 2], 0), (42, .iload 4, 44, [], 0), (44, .iaload, 45, [], 0), (45, .invokestatic 34, 48, [0], 0), (48, .istore_n 3, 49, [], 0), (49, .iinc 4 1, 52, [], 1), (52, .goto (-46), 55, [6], 0), (55, .iload_n 3, 56, [], 0), (56, .ireturn, 57, [0], 0)]
theorem ok_X3_greatest : ∀ q ∈ L_X3_greatest, rok cX3_greatest 5 0 q = true := by decide +kernel
theorem fk_X3_greatest : ∀ q ∈ L_X3_greatest, fck FT_X3 PT_X3 KT_X3 q = true := by decide +kernel
noncomputable def cs_X3_greatest : List CT := [(true, 34, 2, 1, 0, sem_max)]
noncomputable def b_X3_greatest_6 : Nat → BT
  | 0 => fun _ _ _ => none
  | n + 1 => fun lv st S => brn xT cs_X3_greatest L_X3_greatest [6] (dsp [(6, [0, 1, 2, 3, 4], b_X3_greatest_6 n)]) 33 [] 6 lv st S
theorem s_X3_greatest_6 (M : xM p l e R s m args below meth c cells slots Q D xT g cI cZ A 5 cX3_greatest RX3 0 cs_X3_greatest L_X3_greatest R0) : ∀ n lv st S, b_X3_greatest_6 n lv st S = some R0 → xG p l e R s m args below meth c cells slots Q D xT g cI cZ A 5 6 lv st S := by
  intro n
  induction n with
  | zero => intro lv st S h; cases h
  | succ n ih => intro lv st S h; exact xa_blk M (List.forall_mem_cons.mpr ⟨fun lv st S h => (ih) lv st S h, fun _ q => absurd q List.not_mem_nil⟩) h
noncomputable def m_X3_greatest : MT := fun As S => brn xT cs_X3_greatest L_X3_greatest [6] (dsp [(6, [0, 1, 2, 3, 4], b_X3_greatest_6 fu)]) 33 [] 0 (zipN 0 As) [] S
theorem s_X3_greatest (M : xM p l e R s m args below meth c cells slots Q D xT g cI cZ A 5 cX3_greatest RX3 0 cs_X3_greatest L_X3_greatest R0) {As : List AV} {S : XS} (h : m_X3_greatest As S = some R0) : xG p l e R s m args below meth c cells slots Q D xT g cI cZ A 5 0 (zipN 0 As) [] S := xa_blk M (List.forall_mem_cons.mpr ⟨fun lv st S h => (s_X3_greatest_6 M fu) lv st S h, fun _ q => absurd q List.not_mem_nil⟩) h
set_option maxRecDepth 20000 in
theorem c_X3_greatest {l : Launch} {D : va_G} {g : Nat → Nat} {cI cZ : ClassId} {A : Nat → Prop} (hD : ∀ S, va_D A (ww xT g cI cZ S)) : xMet l D xT g cI cZ A yX3_greatest (wm yX3_greatest cX3_greatest 5 0) { frames := 1, cells := 0, slots := 0, locals := 21 } 3 m_X3_greatest :=
  xa_met (ft := FT_X3) (pt := PT_X3) (kt := KT_X3) (cs := cs_X3_greatest) (L := L_X3_greatest) hD (by decide) (by decide) ok_X3_greatest fk_X3_greatest fa_X3 (fun p e s m args below meth c Q R0 C0 hts hN => all_get (List.forall_mem_cons.mpr ⟨xcf_max C0 (hts _ (List.mem_cons_of_mem _ km_X3_34)) (hts _ (List.mem_cons_of_mem _ km_s)) (hts _ (List.mem_cons_of_mem _ km_n)) (hts _ (List.mem_cons_of_mem _ km_c)) ⟨by decide, by decide⟩ ⟨Nat.zero_le _, Nat.zero_le _⟩, fun _ q => absurd q List.not_mem_nil⟩)) (fun p e s m args below meth c Q R0 As S M h => s_X3_greatest M h)
def L_X3_reachOut : List CE := [(0, .aload_n 0, 1, [], 0), (1, .aload_n 0, 2, [], 0), (2, .getfield 30, 5, [3, 5], 0), (5, .iload_n 1, 6, [], 0), (6, .invokestatic 34, 9, [0], 0), (9, .putfield 30, 12, [3, 5, 0], 0), (12, .return_, 13, [], 0)]
theorem ok_X3_reachOut : ∀ q ∈ L_X3_reachOut, rok cX3_reachOut 2 2 q = true := by decide +kernel
theorem fk_X3_reachOut : ∀ q ∈ L_X3_reachOut, fck FT_X3 PT_X3 KT_X3 q = true := by decide +kernel
noncomputable def cs_X3_reachOut : List CT := [(true, 34, 2, 1, 0, sem_max)]
noncomputable def m_X3_reachOut : MT := fun As S => brn xT cs_X3_reachOut L_X3_reachOut [] (dsp []) 9 [] 0 (zipN 0 As) [] S
theorem s_X3_reachOut (M : xM p l e R s m args below meth c cells slots Q D xT g cI cZ A 2 cX3_reachOut RX3 2 cs_X3_reachOut L_X3_reachOut R0) {As : List AV} {S : XS} (h : m_X3_reachOut As S = some R0) : xG p l e R s m args below meth c cells slots Q D xT g cI cZ A 2 0 (zipN 0 As) [] S := xa_blk M (fun _ q => absurd q List.not_mem_nil) h
set_option maxRecDepth 20000 in
theorem c_X3_reachOut {l : Launch} {D : va_G} {g : Nat → Nat} {cI cZ : ClassId} {A : Nat → Prop} (hD : ∀ S, va_D A (ww xT g cI cZ S)) : xMet l D xT g cI cZ A yX3_reachOut (wm yX3_reachOut cX3_reachOut 2 2) { frames := 1, cells := 0, slots := 0, locals := 21 } 2 m_X3_reachOut :=
  xa_met (ft := FT_X3) (pt := PT_X3) (kt := KT_X3) (cs := cs_X3_reachOut) (L := L_X3_reachOut) hD (by decide) (by decide) ok_X3_reachOut fk_X3_reachOut fa_X3 (fun p e s m args below meth c Q R0 C0 hts hN => all_get (List.forall_mem_cons.mpr ⟨xcf_max C0 (hts _ (List.mem_cons_of_mem _ km_X3_34)) (hts _ (List.mem_cons_of_mem _ km_s)) (hts _ (List.mem_cons_of_mem _ km_n)) (hts _ (List.mem_cons_of_mem _ km_c)) ⟨by decide, by decide⟩ ⟨Nat.zero_le _, Nat.zero_le _⟩, fun _ q => absurd q List.not_mem_nil⟩)) (fun p e s m args below meth c Q R0 As S M h => s_X3_reachOut M h)
def L_X4_has : List CE := [(0, .iload_n 1, 1, [], 0), (1, .ifCond .lt 15, 4, [16], 0), (4, .iload_n 1, 5, [], 0), (5, .aload_n 0, 6, [], 0), (6, .getfield 30, 9, [4, 6], 0), (9, .if_icmp .ge 7, 12, [16], 0), (12, .iconst 1, 13, [], 1), (13, .goto 4, 16, [17], 0), (16, .iconst 0, 17, [], 0), (17, .ireturn, 18, [1], 0)]
theorem ok_X4_has : ∀ q ∈ L_X4_has, rok cX4_has 2 1 q = true := by decide +kernel
theorem fk_X4_has : ∀ q ∈ L_X4_has, fck FT_X4 PT_X4 KT_X4 q = true := by decide +kernel
noncomputable def cs_X4_has : List CT := []
noncomputable def m_X4_has : MT := fun As S => brn xT cs_X4_has L_X4_has [] (dsp []) 12 [] 0 (zipN 0 As) [] S
theorem s_X4_has (M : xM p l e R s m args below meth c cells slots Q D xT g cI cZ A 2 cX4_has RX4 1 cs_X4_has L_X4_has R0) {As : List AV} {S : XS} (h : m_X4_has As S = some R0) : xG p l e R s m args below meth c cells slots Q D xT g cI cZ A 2 0 (zipN 0 As) [] S := xa_blk M (fun _ q => absurd q List.not_mem_nil) h
set_option maxRecDepth 20000 in
theorem c_X4_has {l : Launch} {D : va_G} {g : Nat → Nat} {cI cZ : ClassId} {A : Nat → Prop} (hD : ∀ S, va_D A (ww xT g cI cZ S)) : xMet l D xT g cI cZ A yX4_has (wm yX4_has cX4_has 2 1) { frames := 0, cells := 0, slots := 0, locals := 0 } 2 m_X4_has :=
  xa_met (ft := FT_X4) (pt := PT_X4) (kt := KT_X4) (cs := cs_X4_has) (L := L_X4_has) hD (by decide) (by decide) ok_X4_has fk_X4_has fa_X4 (fun p e s m args below meth c Q R0 C0 hts hN => all_get (fun _ q => absurd q List.not_mem_nil)) (fun p e s m args below meth c Q R0 As S M h => s_X4_has M h)
def L_X4_add : List CE := [(0, .aload_n 0, 1, [], 0), (1, .getfield 30, 4, [4, 6], 0), (4, .istore 5, 6, [], 0), (6, .aload_n 0, 7, [], 0), (7, .getfield 9, 10, [4, 0], 0), (10, .iload 5, 12, [], 0), (12, .iload_n 1, 13, [], 0), (13, .iastore, 14, [], 0), (14, .aload_n 0, 15, [], 0), (15, .getfield 15, 18, [4, 1], 0), (18, .iload 5, 20, [], 0), (20, .iload_n 2, 21, [], 0), (21, .iastore, 22, [], 0), (22, .aload_n 0, 23, [], 0), (23, .getfield 18, 26, [4, 2], 0), (26, .iload 5, 28, [], 0), (28, .iload_n 3, 29, [], 0), (29, .iastore, 30, [], 0), (30, .aload_n 0, 31, [], 0), (31, .getfield 21, 34, [4, 3], 0), (34, .iload 5, 36, [], 0), (36, .iload 4, 38, [], 0), (38, .iastore, 39, [], 0), (39, .aload_n 0, 40, [], 0), (40, .dup, 41, [], 0), (41, .getfield 30, 44, [4, 6], 0), (44, .iconst 1, 45, [], 1), (45, .iadd, 46, [], 0), (46, .putfield 30, 49, [4, 6, 0], 0), (49, .iload 5, 51, [], 0), (51, .ireturn, 52, [0], 0)]
theorem ok_X4_add : ∀ q ∈ L_X4_add, rok cX4_add 6 0 q = true := by decide +kernel
theorem fk_X4_add : ∀ q ∈ L_X4_add, fck FT_X4 PT_X4 KT_X4 q = true := by decide +kernel
noncomputable def cs_X4_add : List CT := []
noncomputable def m_X4_add : MT := fun As S => brn xT cs_X4_add L_X4_add [] (dsp []) 33 [] 0 (zipN 0 As) [] S
theorem s_X4_add (M : xM p l e R s m args below meth c cells slots Q D xT g cI cZ A 6 cX4_add RX4 0 cs_X4_add L_X4_add R0) {As : List AV} {S : XS} (h : m_X4_add As S = some R0) : xG p l e R s m args below meth c cells slots Q D xT g cI cZ A 6 0 (zipN 0 As) [] S := xa_blk M (fun _ q => absurd q List.not_mem_nil) h
set_option maxRecDepth 20000 in
theorem c_X4_add {l : Launch} {D : va_G} {g : Nat → Nat} {cI cZ : ClassId} {A : Nat → Prop} (hD : ∀ S, va_D A (ww xT g cI cZ S)) : xMet l D xT g cI cZ A yX4_add (wm yX4_add cX4_add 6 0) { frames := 0, cells := 0, slots := 0, locals := 0 } 5 m_X4_add :=
  xa_met (ft := FT_X4) (pt := PT_X4) (kt := KT_X4) (cs := cs_X4_add) (L := L_X4_add) hD (by decide) (by decide) ok_X4_add fk_X4_add fa_X4 (fun p e s m args below meth c Q R0 C0 hts hN => all_get (fun _ q => absurd q List.not_mem_nil)) (fun p e s m args below meth c Q R0 As S M h => s_X4_add M h)
end
