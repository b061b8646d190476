/-! The interpreter is sound. xG: at pc with these locals, this stack and this picture the machine comes to Q. -/
def xG (p : Program) (l : Launch) (e : Env) (R : Room) (s : State) (m : MethodId) (args : Array Value) (below : List Frame) (meth : Method) (c : Code) (cells slots : Nat) (Q : State → Prop) (D : va_G) (T : List WE) (g : Nat → Nat) (cI cZ : ClassId) (A : Nat → Prop) (nL : Nat) (pc : Nat) (lv : LV) (st : List AV) (S : XS) : Prop := ∀ (H : Heap) (locs : List Loc) (ls : Array Slot), va_P D vwCl (ww T g cI cZ S) H → va_S A s.heap H locs → lv_has ls nL (lvc g lv) → W p l e R s m args below meth c H locs cells slots Q (F0 m pc ls (st.map (cv g)))
/-- the static tables stand -/
def stn (o : Nat) : String := if o = 40 then "MOST" else "AT_FIRST"
def stf (o : Nat) : Nat → Int32 := if o = 40 then mostf else firstf
def xTxt : String := "place() has not been called since the last change"
def xSt (g : Nat → Nat) (A : Nat → Prop) (s : State) (H : Heap) : Prop := (∀ o, o = 40 ∨ o = 41 → va_Z RX1 (stn o) "[I" (.ref (g o)) A s H ∧ va_T .int (g o) 6 (fun j => .int (stf o j)) A s H) ∧ (vx_Zq Bundle.tN "UNASSIGNED_STACK" Bundle.steD A s H ∧ vx_Zq Bundle.tN "SUPPRESSED_SENTINEL" Bundle.listD A s H) ∧ vk_R RX5 209 xTxt (g 42) s
theorem xSt.on {g : Nat → Nat} {A : Nat → Prop} {s U : State} {H : Heap} {locs : List Loc} (h : xSt g A s s.heap) (hS : va_S A s.heap H locs) (hU : U.heap = H) (hW : s.WarmedH U.vm) : xSt g A U U.heap := by
  rw [hU]
  exact ⟨fun o ho => ⟨((h.1 o ho).1.kept hS.2.1).moved hW.alike, ((h.1 o ho).2.kept hS.2.1).moved hW.alike⟩, ⟨(h.2.1.1.kept hS.2.1).moved hW.alike, (h.2.1.2.kept hS.2.1).moved hW.alike⟩, h.2.2.warm hW⟩
/-- what holds of the method's own machine -/
def xC (p : Program) (s : State) (m : MethodId) (c : Code) (D : va_G) (T : List WE) (g : Nat → Nat) (cI cZ : ClassId) (A : Nat → Prop) (nL : Nat) (cc : ByteArray) (own : String) : Prop := p.tables.exec = Jvm.exec ∧ c.code = cc ∧ c.maxLocals = nL ∧ s.vm.findClass own = some m.cls ∧ va_K D vwCl [(cI, .int), (cZ, .boolean)] s ∧ (∀ S, va_D A (ww T g cI cZ S)) ∧ xSt g A s s.heap
/-- a field's words -/
def xFw (s : State) (args : Array Value) (own : String) (idx ci k : Nat) (C : String) (Tf : u_T) (N : Nat) : Prop := vwCl[ci]? = some (C, Tf, N) ∧ k < N ∧ (∀ w ∈ u_ws C Tf N, w.before args s = true) ∧ ((Cond.fieldLink own idx (Tf k).1 (Tf k).2.1 (Tf k).2.2.1).before args s = true ∨ ∃ host, (Cond.fieldLinkNest own idx (Tf k).1 (Tf k).2.1 (Tf k).2.2.1 host).before args s = true)
def xF (s : State) (args : Array Value) (own : String) (q : CE) : Prop := match q.2.1 with
  | .getfield idx => ∃ C Tf N, xFw s args own idx (q.2.2.2.1.headD 0) (q.2.2.2.1.getD 1 0) C Tf N
  | .putfield idx => ∃ C Tf N, xFw s args own idx (q.2.2.2.1.headD 0) (q.2.2.2.1.getD 1 0) C Tf N ∧ (Tf (q.2.2.2.1.getD 1 0)).2.2.2 = false ∧ parseFieldDescriptor (Tf (q.2.2.2.1.getD 1 0)).2.2.1 = some (if q.2.2.2.1.getD 2 0 = 0 then .int else .boolean)
  | .ldc idx => (Jvm.Cond.constant own idx q.2.2.2.2).before args s = true
  | .ldc_w idx => (Jvm.Cond.constant own idx q.2.2.2.2).before args s = true
  | .getstatic idx => (q.2.2.2.1.headD 0 = 40 ∨ q.2.2.2.1.headD 0 = 41) ∧ (Jvm.Cond.fieldLink own idx RX1 (stn (q.2.2.2.1.headD 0)) "[I").before args s = true
  | _ => True
def xFt (s : State) (args : Array Value) (own : String) (q : Nat × Nat × Nat) : Prop := if q.2.1 = 9 then (q.2.2 = 40 ∨ q.2.2 = 41) ∧ (Jvm.Cond.fieldLink own q.1 RX1 (stn q.2.2) "[I").before args s = true else ∃ C Tf N, xFw s args own q.1 q.2.1 q.2.2 C Tf N
def xPt (s : State) (args : Array Value) (own : String) (q : Nat × Nat × Nat × Nat) : Prop := ∃ C Tf N, xFw s args own q.1 q.2.1 q.2.2.1 C Tf N ∧ (Tf q.2.2.1).2.2.2 = false ∧ parseFieldDescriptor (Tf q.2.2.1).2.2.1 = some (if q.2.2.2 = 0 then .int else .boolean)
theorem xF_of {s : State} {args : Array Value} {own : String} {ft : List (Nat × Nat × Nat)} {pt : List (Nat × Nat × Nat × Nat)} {kt : List (Nat × Int32)} (h1 : ∀ q ∈ ft, xFt s args own q) (h2 : ∀ q ∈ pt, xPt s args own q) (h3 : ∀ q ∈ kt, (Jvm.Cond.constant own q.1 q.2).before args s = true) {q : CE} (h : fck ft pt kt q = true) : xF s args own q := by
  obtain ⟨pc, i, np, ns, v⟩ := q
  unfold xF
  unfold fck at h
  dsimp only at h ⊢
  split at h
  · obtain ⟨e1, e2⟩ := Bool.and_eq_true_iff.mp h
    have h9 := h1 _ (of_decide_eq_true e1)
    unfold xFt at h9
    rw [if_neg (of_decide_eq_true e2)] at h9
    exact h9
  · exact h2 _ (of_decide_eq_true h)
  · exact h3 _ (of_decide_eq_true h)
  · exact h3 _ (of_decide_eq_true h)
  · exact h1 _ (of_decide_eq_true h)
  · split
    · rename_i a1 a2 a3 a4 a5
      exact (a1 _ rfl).elim
    · rename_i a1 a2 a3 a4 a5
      exact (a2 _ rfl).elim
    · rename_i a1 a2 a3 a4 a5
      exact (a3 _ rfl).elim
    · rename_i a1 a2 a3 a4 a5
      exact (a4 _ rfl).elim
    · rename_i a1 a2 a3 a4 a5
      exact (a5 _ rfl).elim
    · trivial
/-- a callee's row -/
def xCF (p : Program) (l : Launch) (e : Env) (R : Room) (s : State) (m : MethodId) (args : Array Value) (below : List Frame) (meth : Method) (c : Code) (cells slots : Nat) (Q : State → Prop) (D : va_G) (T : List WE) (g : Nat → Nat) (cI cZ : ClassId) (A : Nat → Prop) (nL : Nat) (cc : ByteArray) (R0 : RS) (q : CT) : Prop := ∀ (pc : Nat) (lv : LV) (As rest : List AV) (S : XS) (o : RS), As.length = q.2.2.1 → rest.length ≤ 8 → decode cc pc = .ok (bif q.1 then .invokestatic q.2.1 else .invokevirtual q.2.1, 3) → (q.1 = true ∨ rcv T q.2.2.2.2.1 As = true) → q.2.2.2.2.2 As S = some o → (match o.2 with
  | none => R0 = (o.1, none)
  | some v => xG p l e R s m args below meth c cells slots Q D T g cI cZ A nL (pc + 3) lv (v.toList ++ rest) o.1) → xG p l e R s m args below meth c cells slots Q D T g cI cZ A nL pc lv (As.reverse ++ rest) S
/-- the method's end -/
def xRt (p : Program) (l : Launch) (e : Env) (R : Room) (s : State) (m : MethodId) (args : Array Value) (below : List Frame) (meth : Method) (c : Code) (cells slots : Nat) (Q : State → Prop) (D : va_G) (T : List WE) (g : Nat → Nat) (cI cZ : ClassId) (A : Nat → Prop) (nL : Nat) (cc : ByteArray) (zb : Nat) (R0 : RS) : Prop := ∀ (pc : Nat) (S : XS) (v : Option AV) (H : Heap) (locs : List Loc) (ls : Array Slot), R0 = (S, some v) → va_P D vwCl (ww T g cI cZ S) H → va_S A s.heap H locs → (match v with
  | none => decode cc pc = .ok (.return_, 1) ∧ zb = 2
  | some (.inl x) => decode cc pc = .ok (.ireturn, 1) ∧ zb ≤ 1 ∧ (zb = 0 ∨ x = 0 ∨ x = 1)
  | some (.inr _) => decode cc pc = .ok (.areturn, 1) ∧ zb = 3) → W p l e R s m args below meth c H locs cells slots Q (F0 m pc ls (v.toList.map (cv g)))
theorem vw_known : ∀ (ci : Nat) (C : String) (Tf : u_T) (N : Nat), vwCl[ci]? = some (C, Tf, N) → ∃ ty0 : Nat → FieldType, (∀ k, k < N → parseFieldDescriptor (Tf k).2.2.1 = some (ty0 k)) ∧ (∀ a, a < N → ∀ b, b < N → a ≠ b → (Tf a).2.1 ≠ (Tf b).2.1) := by
  intro ci C Tf N h
  match ci, h with
  | 0, h => cases h; exact ⟨tyX0, tyX0_ok, nmX0⟩
  | 1, h => cases h; exact ⟨tyX1, tyX1_ok, nmX1⟩
  | 2, h => cases h; exact ⟨tyX2, tyX2_ok, nmX2⟩
  | 3, h => cases h; exact ⟨tyX3, tyX3_ok, nmX3⟩
  | 4, h => cases h; exact ⟨tyX4, tyX4_ok, nmX4⟩
  | 5, h => cases h; exact ⟨tyX5, tyX5_ok, nmX5⟩
  | 6, h => cases h; exact ⟨tyX6, tyX6_ok, nmX6⟩
  | k + 7, h => simp [vwCl] at h
theorem brc_some {cd : Jvm.ClassFile.Cond} {x y : Int32} {a b : Option RS} {R : RS} (h : brc cd x y a b = some R) : match cd with
    | .eq => (x = y → a = some R) ∧ (¬ x = y → b = some R)
    | .ne => (¬ x = y → a = some R) ∧ (x = y → b = some R)
    | .lt => (x < y → a = some R) ∧ (¬ x < y → b = some R)
    | .ge => (y ≤ x → a = some R) ∧ (¬ y ≤ x → b = some R)
    | .gt => (y < x → a = some R) ∧ (¬ y < x → b = some R)
    | .le => (x ≤ y → a = some R) ∧ (¬ x ≤ y → b = some R) := by
  cases cd <;> (unfold brc at h; dsimp only at h ⊢; constructor) <;> (intro hc; simpa [hc] using h)
theorem wfd_get {g : Nat → Nat} {S : XS} {k q : Nat} {fds : List (Option Nat)} {d : Option Nat} (h : fds[q]? = some d) : (fds.mapIdx (wfd g S k))[q]? = some (cv g (fdv S k q d)) := by
  rw [List.getElem?_mapIdx, h]
  cases d <;> rfl
theorem ww_setf {T : List WE} {g : Nat → Nat} {cI cZ : ClassId} {S : XS} {k q ci : Nat} {v : Int32} {fds : List (Option Nat)} (h : T[k]? = some (.inr (ci, fds))) (hq : fds[q]? = some none) : (ww T g cI cZ S).set k (g k, .inr (ci, (fds.mapIdx (wfd g S k)).set q (.int v))) = ww T g cI cZ (up2 S k q v) := by
  refine ww_set h ?_
  show _ = (g k, Sum.inr (ci, fds.mapIdx (wfd g (up2 S k q v) k)))
  have e : (fds.mapIdx (wfd g S k)).set q (.int v) = fds.mapIdx (wfd g (up2 S k q v) k) := by
    apply List.ext_getElem?
    intro j
    rw [List.getElem?_set, List.getElem?_mapIdx, List.getElem?_mapIdx, List.length_mapIdx]
    have hl : q < fds.length := (List.getElem?_eq_some_iff.mp hq).1
    by_cases e : q = j
    · subst e
      rw [if_pos rfl, if_pos hl, hq]
      show some _ = some (wfd g (up2 S k q v) k q none)
      unfold wfd
      simp [up2, upd]
    · rw [if_neg e]
      cases fds[j]? with
      | none => rfl
      | some d =>
        show some (wfd g S k j d) = some (wfd g (up2 S k q v) k j d)
        cases d with
        | some _ => rfl
        | none =>
          show some (Value.int (S k j)) = some (Value.int (up2 S k q v k j))
          simp [up2, upd, Ne.symm e]
  rw [e]
theorem narrow_b01 {x : Int32} (h : x = 0 ∨ x = 1) : narrow .boolean (.int x) = .int x := by
  rcases h with h | h <;> subst h <;> decide
theorem fits_b01 {x : Int32} (h : x = 0 ∨ x = 1) : fits .boolean (.int x) = true := by
  rcases h with h | h <;> subst h <;> decide
theorem lk_place {lv : LV} {i : Nat} {v : AV} (h : lk lv i = some v) : ∃ k : Nat, lv[k]? = some (i, v) := by
  induction lv with
  | nil => cases h
  | cons q t ih =>
    obtain ⟨j, w⟩ := q
    unfold lk at h
    cases e : Nat.beq j i with
    | true =>
      rw [e] at h
      cases Option.some.inj h
      cases Nat.eq_of_beq_eq_true e
      exact ⟨0, rfl⟩
    | false =>
      rw [e] at h
      obtain ⟨k, hk⟩ := ih h
      exact ⟨k + 1, hk⟩
theorem lvc_place {g : Nat → Nat} {lv : LV} {k i : Nat} {v : AV} (h : lv[k]? = some (i, v)) : (lvc g lv)[k]? = some (i, cv g v) := by
  unfold lvc
  rw [List.getElem?_map, h]
  rfl
set_option maxHeartbeats 4000000 in
theorem xa_stp {p : Program} {l : Launch} {e : Env} {R : Room} {s : State} {m : MethodId} {args : Array Value} {below : List Frame} {meth : Method} {c : Code} {cells slots : Nat} {Q : State → Prop} {D : va_G} {T : List WE} {g : Nat → Nat} {cI cZ : ClassId} {A : Nat → Prop} {nL : Nat} {cc : ByteArray} {own : String} {zb : Nat} {cs : List CT} {R0 : RS} (C0 : xC p s m c D T g cI cZ A nL cc own) (hcs : ∀ (j : Nat) (q : CT), cs[j]? = some q → xCF p l e R s m args below meth c cells slots Q D T g cI cZ A nL cc R0 q) (hrt : xRt p l e R s m args below meth c cells slots Q D T g cI cZ A nL cc zb R0)
    {pc np : Nat} {i : Instr} {ns : List Nat} {v : Int32} (hr : rok cc nL zb (pc, i, np, ns, v) = true) (hf : xF s args own (pc, i, np, ns, v)) {K : KT} (hK : ∀ pc lv st S, K pc lv st S = some R0 → xG p l e R s m args below meth c cells slots Q D T g cI cZ A nL pc lv st S)
    {lv : LV} {st : List AV} {S : XS} (h : stp T cs i np ns v lv st S K = some R0) : xG p l e R s m args below meth c cells slots Q D T g cI cZ A nL pc lv st S := by
  obtain ⟨hx, hb, hml, hown, hKK, hDD, hst⟩ := C0
  obtain ⟨hr1, ho⟩ := Bool.and_eq_true_iff.mp hr
  obtain ⟨hd0, hn0⟩ := Bool.and_eq_true_iff.mp hr1
  have hd : decode cc pc = .ok (i, np - pc) := of_decide_eq_true hd0
  have hn : ntab i = true → np = pc + ilen i := fun e => by
    rcases Bool.or_eq_true_iff.mp hn0 with q | q
    · have q : (!ntab i) = true := q
      rw [e] at q; cases q
    · exact of_decide_eq_true q
  clear hr hr1 hd0 hn0
  intro H locs ls hP hS hl
  unfold stp at h
  split at h
  · obtain rfl : np = pc + 1 := hn rfl
    rw [Nat.add_sub_cancel_left] at hd
    exact lv_iconst hx hb hd (of_decide_eq_true ho) (hK _ _ _ _ h H locs ls hP hS hl)
  · obtain rfl : np = pc + 2 := hn rfl
    rw [Nat.add_sub_cancel_left] at hd
    exact lv_bipush hx hb hd (of_decide_eq_true ho) (hK _ _ _ _ h H locs ls hP hS hl)
  · obtain rfl : np = pc + 3 := hn rfl
    rw [Nat.add_sub_cancel_left] at hd
    exact lv_sipush hx hb hd (of_decide_eq_true ho) (hK _ _ _ _ h H locs ls hP hS hl)
  · obtain rfl : np = pc + 2 := hn rfl
    rw [Nat.add_sub_cancel_left] at hd
    exact lv_ldc hx hb hown hf hd (hK _ _ _ _ h H locs ls hP hS hl)
  · obtain rfl : np = pc + 3 := hn rfl
    rw [Nat.add_sub_cancel_left] at hd
    exact lv_ldcw hx hb hown hf hd (hK _ _ _ _ h H locs ls hP hS hl)
  · obtain ⟨x, hx1, hh1⟩ := ldi_some h
    obtain rfl : np = pc + 1 := hn rfl
    rw [Nat.add_sub_cancel_left] at hd
    exact lv_iload_n hx hb hd rfl (lk_at hl hx1) (hK _ _ _ _ hh1 H locs ls hP hS hl)
  · obtain ⟨x, hx1, hh1⟩ := ldi_some h
    obtain rfl : np = pc + 2 := hn rfl
    rw [Nat.add_sub_cancel_left] at hd
    exact lv_iload hx hb hd (lk_at hl hx1) (hK _ _ _ _ hh1 H locs ls hP hS hl)
  · obtain ⟨x, hx1, hh1⟩ := ldr_some h
    obtain rfl : np = pc + 1 := hn rfl
    rw [Nat.add_sub_cancel_left] at hd
    exact lv_aload_n hx hb hd rfl (lk_at hl hx1) (hK _ _ _ _ hh1 H locs ls hP hS hl)
  · obtain ⟨x, hx1, hh1⟩ := ldr_some h
    obtain rfl : np = pc + 2 := hn rfl
    rw [Nat.add_sub_cancel_left] at hd
    exact lv_aload hx hb hd (lk_at hl hx1) (hK _ _ _ _ hh1 H locs ls hP hS hl)
  · obtain ⟨x, r, rfl, hh1⟩ := pi1_some h
    obtain rfl : np = pc + 1 := hn rfl
    rw [Nat.add_sub_cancel_left] at hd
    exact lv_istore_n hx hb hd rfl hl (of_decide_eq_true ho) rfl (fun ls hl => hK _ _ _ _ hh1 H locs ls hP hS (lv_dl (v := .inl x) rfl hl))
  · obtain ⟨x, r, rfl, hh1⟩ := pi1_some h
    obtain rfl : np = pc + 2 := hn rfl
    rw [Nat.add_sub_cancel_left] at hd
    exact lv_istore hx hb hd hl (of_decide_eq_true ho) rfl (fun ls hl => hK _ _ _ _ hh1 H locs ls hP hS (lv_dl (v := .inl x) rfl hl))
  · obtain ⟨x, r, rfl, hh1⟩ := pr1_some h
    obtain rfl : np = pc + 1 := hn rfl
    rw [Nat.add_sub_cancel_left] at hd
    exact lv_astore_n hx hb hd rfl hl (of_decide_eq_true ho) rfl (fun ls hl => hK _ _ _ _ hh1 H locs ls hP hS (lv_dl (v := .inr x) rfl hl))
  · obtain ⟨x, r, rfl, hh1⟩ := pr1_some h
    obtain rfl : np = pc + 2 := hn rfl
    rw [Nat.add_sub_cancel_left] at hd
    exact lv_astore hx hb hd hl (of_decide_eq_true ho) rfl (fun ls hl => hK _ _ _ _ hh1 H locs ls hP hS (lv_dl (v := .inr x) rfl hl))
  · obtain ⟨x, hx1, hh1⟩ := ldi_some h
    have ho2 := Bool.and_eq_true_iff.mp ho
    obtain ⟨k9, hk9⟩ := lk_place hx1
    obtain rfl : np = pc + 3 := hn rfl
    rw [Nat.add_sub_cancel_left] at hd
    exact lv_iinc (k := k9) (x := x) (v := x + v) hx hb hd hl (lvc_place hk9) (by rw [of_decide_eq_true ho2.1]) (of_decide_eq_true ho2.2) rfl (fun ls hl => hK _ _ _ _ hh1 H locs ls hP hS (lv_dl (v := .inl (x + v)) rfl hl))
  · obtain ⟨y, r, rfl, hh1⟩ := pi1_some h
    obtain ⟨x, r, rfl, hh2⟩ := pi1_some hh1
    obtain rfl : np = pc + 1 := hn rfl
    rw [Nat.add_sub_cancel_left] at hd
    exact lv_iadd hx hb hd (hK _ _ _ _ hh2 H locs ls hP hS hl)
  · obtain ⟨y, r, rfl, hh1⟩ := pi1_some h
    obtain ⟨x, r, rfl, hh2⟩ := pi1_some hh1
    obtain rfl : np = pc + 1 := hn rfl
    rw [Nat.add_sub_cancel_left] at hd
    exact lv_isub hx hb hd (hK _ _ _ _ hh2 H locs ls hP hS hl)
  · obtain ⟨y, r, rfl, hh1⟩ := pi1_some h
    obtain ⟨x, r, rfl, hh2⟩ := pi1_some hh1
    obtain rfl : np = pc + 1 := hn rfl
    rw [Nat.add_sub_cancel_left] at hd
    exact lv_imul hx hb hd (hK _ _ _ _ hh2 H locs ls hP hS hl)
  · obtain ⟨y, r, rfl, hh1⟩ := pi1_some h
    obtain ⟨x, r, rfl, hh2⟩ := pi1_some hh1
    obtain rfl : np = pc + 1 := hn rfl
    rw [Nat.add_sub_cancel_left] at hd
    exact lv_iand hx hb hd (hK _ _ _ _ hh2 H locs ls hP hS hl)
  · obtain ⟨y, r, rfl, hh1⟩ := pi1_some h
    obtain ⟨x, r, rfl, hh2⟩ := pi1_some hh1
    obtain rfl : np = pc + 1 := hn rfl
    rw [Nat.add_sub_cancel_left] at hd
    exact lv_ior hx hb hd (hK _ _ _ _ hh2 H locs ls hP hS hl)
  · obtain ⟨y, r, rfl, hh1⟩ := pi1_some h
    obtain ⟨x, r, rfl, hh2⟩ := pi1_some hh1
    split at hh2
    · cases hh2
    rename_i hy0
    obtain rfl : np = pc + 1 := hn rfl
    rw [Nat.add_sub_cancel_left] at hd
    exact lv_idiv hx hb hd hy0 (hK _ _ _ _ hh2 H locs ls hP hS hl)
  · obtain ⟨x, r, rfl, hh1⟩ := pi1_some h
    obtain rfl : np = pc + 1 := hn rfl
    rw [Nat.add_sub_cancel_left] at hd
    exact lv_ineg hx hb hd (hK _ _ _ _ hh1 H locs ls hP hS hl)
  · rename_i cd off
    obtain ⟨x, r, rfl, hh1⟩ := pi1_some h
    have hh1 := brc_some hh1
    obtain rfl : np = pc + 3 := hn rfl
    rw [Nat.add_sub_cancel_left] at hd
    cases cd with
    | eq => exact lv_if_eq (tgt := ns.headD 0) hx hb hd (of_decide_eq_true ho) (fun hc => hK _ _ _ _ (hh1.1 hc) H locs ls hP hS hl) (fun hc => hK _ _ _ _ (hh1.2 hc) H locs ls hP hS hl)
    | ne => exact lv_if_ne (tgt := ns.headD 0) hx hb hd (of_decide_eq_true ho) (fun hc => hK _ _ _ _ (hh1.1 hc) H locs ls hP hS hl) (fun hc => hK _ _ _ _ (hh1.2 hc) H locs ls hP hS hl)
    | lt => exact lv_if_lt (tgt := ns.headD 0) hx hb hd (of_decide_eq_true ho) (fun hc => hK _ _ _ _ (hh1.1 hc) H locs ls hP hS hl) (fun hc => hK _ _ _ _ (hh1.2 hc) H locs ls hP hS hl)
    | ge => exact lv_if_ge (tgt := ns.headD 0) hx hb hd (of_decide_eq_true ho) (fun hc => hK _ _ _ _ (hh1.1 hc) H locs ls hP hS hl) (fun hc => hK _ _ _ _ (hh1.2 hc) H locs ls hP hS hl)
    | gt => exact lv_if_gt (tgt := ns.headD 0) hx hb hd (of_decide_eq_true ho) (fun hc => hK _ _ _ _ (hh1.1 hc) H locs ls hP hS hl) (fun hc => hK _ _ _ _ (hh1.2 hc) H locs ls hP hS hl)
    | le => exact lv_if_le (tgt := ns.headD 0) hx hb hd (of_decide_eq_true ho) (fun hc => hK _ _ _ _ (hh1.1 hc) H locs ls hP hS hl) (fun hc => hK _ _ _ _ (hh1.2 hc) H locs ls hP hS hl)
  · rename_i cd off
    obtain ⟨y, r, rfl, hh1⟩ := pi1_some h
    obtain ⟨x, r, rfl, hh2⟩ := pi1_some hh1
    have hh2 := brc_some hh2
    obtain rfl : np = pc + 3 := hn rfl
    rw [Nat.add_sub_cancel_left] at hd
    cases cd with
    | eq => exact lv_icmp_eq (tgt := ns.headD 0) hx hb hd (of_decide_eq_true ho) (fun hc => hK _ _ _ _ (hh2.1 hc) H locs ls hP hS hl) (fun hc => hK _ _ _ _ (hh2.2 hc) H locs ls hP hS hl)
    | ne => exact lv_icmp_ne (tgt := ns.headD 0) hx hb hd (of_decide_eq_true ho) (fun hc => hK _ _ _ _ (hh2.1 hc) H locs ls hP hS hl) (fun hc => hK _ _ _ _ (hh2.2 hc) H locs ls hP hS hl)
    | lt => exact lv_icmp_lt (tgt := ns.headD 0) hx hb hd (of_decide_eq_true ho) (fun hc => hK _ _ _ _ (hh2.1 hc) H locs ls hP hS hl) (fun hc => hK _ _ _ _ (hh2.2 hc) H locs ls hP hS hl)
    | ge => exact lv_icmp_ge (tgt := ns.headD 0) hx hb hd (of_decide_eq_true ho) (fun hc => hK _ _ _ _ (hh2.1 hc) H locs ls hP hS hl) (fun hc => hK _ _ _ _ (hh2.2 hc) H locs ls hP hS hl)
    | gt => exact lv_icmp_gt (tgt := ns.headD 0) hx hb hd (of_decide_eq_true ho) (fun hc => hK _ _ _ _ (hh2.1 hc) H locs ls hP hS hl) (fun hc => hK _ _ _ _ (hh2.2 hc) H locs ls hP hS hl)
    | le => exact lv_icmp_le (tgt := ns.headD 0) hx hb hd (of_decide_eq_true ho) (fun hc => hK _ _ _ _ (hh2.1 hc) H locs ls hP hS hl) (fun hc => hK _ _ _ _ (hh2.2 hc) H locs ls hP hS hl)
  · obtain rfl : np = pc + 3 := hn rfl
    rw [Nat.add_sub_cancel_left] at hd
    exact lv_goto (tgt := ns.headD 0) hx hb hd (of_decide_eq_true ho) (hK _ _ _ _ h H locs ls hP hS hl)
  · rename_i dd lo hi os
    obtain ⟨x, r, rfl, hh1⟩ := pi1_some h
    have ho2 := Bool.and_eq_true_iff.mp ho
    have ho3 := Bool.and_eq_true_iff.mp ho2.1
    have e1 := of_decide_eq_true ho3.1
    have e2 := of_decide_eq_true ho3.2
    have e3 := of_decide_eq_true ho2.2
    have e4 : ns.tail.length = os.size := by
      have := congrArg List.length e3
      simpa using this.symm
    rcases tsw_some _ _ hh1 with ⟨i, t, h1, h2, h3⟩ | ⟨h1, h2⟩
    · have hi : i < ns.tail.length := (List.getElem?_eq_some_iff.mp h1).1
      have e5 : (os.toList.map (fun o => (pc : Int) + o))[i]? = some (t : Int) := by rw [e3, List.getElem?_map, h1]; rfl
      rw [List.getElem?_map] at e5
      cases e6 : os.toList[i]? with
      | none => rw [e6] at e5; cases e5
      | some off =>
        rw [e6] at e5
        have e7 : (pc : Int) + off = (t : Int) := Option.some.inj e5
        refine lv_tableIn (off := off) (tgt := t) hx hb hd (by omega) (by omega) ?_ e7 (hK _ _ _ _ h3 H locs ls hP hS hl)
        rw [show (x.toInt - lo).toNat = i by omega, ← Array.getElem?_toList, e6]
    · refine lv_tableOut (tgt := ns.headD 0) hx hb hd (by omega) e1 (hK _ _ _ _ h2 H locs ls hP hS hl)
  · split at h
    · rename_i v1 r
      obtain rfl : np = pc + 1 := hn rfl
      rw [Nat.add_sub_cancel_left] at hd
      exact lv_dup hx hb hd (cv_cat g v1) (hK _ _ _ _ h H locs ls hP hS hl)
    · cases h
  · split at h
    · rename_i v1 w1 r
      obtain rfl : np = pc + 1 := hn rfl
      rw [Nat.add_sub_cancel_left] at hd
      exact lv_dup2_11 hx hb hd (cv_cat g v1) (cv_cat g w1) (hK _ _ _ _ h H locs ls hP hS hl)
    · cases h
  · obtain rfl : np = pc + 3 := hn rfl
    rw [Nat.add_sub_cancel_left] at hd
    exact va_gets (C := RX1) (n := stn (ns.headD 0)) (d := "[I") (ref := RX1) hx hb (hst.1 _ hf.1).1 hS hown hf.2 (fun _ q => q) hd (hK _ _ _ _ h H locs ls hP hS hl)
  · rename_i idx
    obtain ⟨o, r, rfl, hh1⟩ := pr1_some h
    obtain ⟨fds, d, h1, h2, hh2⟩ := gf_some hh1
    obtain ⟨C, Tf, N, hc, hkN, hw, hlk⟩ := hf
    obtain rfl : np = pc + 3 := hn rfl
    rw [Nat.add_sub_cancel_left] at hd
    rcases hlk with hlk | ⟨host, hlk⟩
    · exact va_get (D := D) (T := Tf) (N := N) (C := C) hx hb hw (fun _ q => q) hown hKK hP o (ww_get h1) hc _ hkN hlk (fun _ q => q) (wfd_get h2) hd (hK _ _ _ _ hh2 H locs ls hP hS hl)
    · exact va_getN (D := D) (T := Tf) (N := N) (C := C) hx hb hw (fun _ q => q) hown hKK hP o (ww_get h1) hc _ hkN hlk (fun _ q => q) (wfd_get h2) hd (hK _ _ _ _ hh2 H locs ls hP hS hl)
  · rename_i idx
    obtain ⟨x, r, rfl, hh1⟩ := pi1_some h
    obtain ⟨o, r, rfl, hh2⟩ := pr1_some hh1
    obtain ⟨fds, h1, h2, h3, hh3⟩ := pf_some hh2
    obtain ⟨C, Tf, N, ⟨hc, hkN, hw, hlk⟩, hfin, hpd⟩ := hf
    obtain ⟨ty0, hty, hnm⟩ := vw_known _ _ _ _ hc
    have hql : ns.getD 1 0 < (fds.mapIdx (wfd g S o)).length := by rw [List.length_mapIdx]; exact (List.getElem?_eq_some_iff.mp h2).1
    have hnv : narrow (if ns.getD 2 0 = 0 then FieldType.int else FieldType.boolean) (.int x) = .int x := by
      by_cases e : ns.getD 2 0 = 0
      · rw [if_pos e]; exact vp_nar_int x
      · rw [if_neg e]; exact narrow_b01 (h3.resolve_left e)
    have hfv : fits (if ns.getD 2 0 = 0 then FieldType.int else FieldType.boolean) (.int x) = true := by
      by_cases e : ns.getD 2 0 = 0
      · rw [if_pos e]; rfl
      · rw [if_neg e]; exact fits_b01 (h3.resolve_left e)
    obtain rfl : np = pc + 3 := hn rfl
    rw [Nat.add_sub_cancel_left] at hd
    rcases hlk with hlk | ⟨host, hlk⟩
    · exact va_put (D := D) (T := Tf) (N := N) (C := C) hx hb hw (fun _ q => q) ty0 hty hnm hown hKK hP (hDD S) hS o (ww_get h1) hc _ hkN hlk (fun _ q => q) hfin hpd hnv hfv hql hd (fun H1 locs1 hP1 _ hS1 => hK _ _ _ _ hh3 H1 locs1 ls (by rw [← ww_setf h1 h2]; exact hP1) hS1 hl)
    · exact va_putN (D := D) (T := Tf) (N := N) (C := C) hx hb hw (fun _ q => q) ty0 hty hnm hown hKK hP (hDD S) hS o (ww_get h1) hc _ hkN hlk (fun _ q => q) hfin hpd hnv hfv hql hd (fun H1 locs1 hP1 _ hS1 => hK _ _ _ _ hh3 H1 locs1 ls (by rw [← ww_setf h1 h2]; exact hP1) hS1 hl)
  · obtain ⟨i, r, rfl, hh1⟩ := pi1_some h
    obtain ⟨o, r, rfl, hh2⟩ := pr1_some hh1
    obtain rfl : np = pc + 1 := hn rfl
    rw [Nat.add_sub_cancel_left] at hd
    rcases al_some hh2 with ⟨n, h1, h2, h3⟩ | ⟨h1, -, h2, h3⟩ | ⟨h1, -, h2, h3⟩
    · exact va_iald (D := D) hx hb hKK hP o 0 (ww_get h1) rfl h2 hd (hK _ _ _ _ h3 H locs ls hP hS hl)
    · subst h1
      exact va_ti hx hb (hst.1 40 (Or.inl rfl)).2 hS h2 rfl hd (hK _ _ _ _ h3 H locs ls hP hS hl)
    · subst h1
      exact va_ti hx hb (hst.1 41 (Or.inr rfl)).2 hS h2 rfl hd (hK _ _ _ _ h3 H locs ls hP hS hl)
  · obtain ⟨i, r, rfl, hh1⟩ := pi1_some h
    obtain ⟨o, r, rfl, hh2⟩ := pr1_some hh1
    obtain rfl : np = pc + 1 := hn rfl
    rw [Nat.add_sub_cancel_left] at hd
    rcases al_some hh2 with ⟨n, h1, h2, h3⟩ | ⟨-, h1, -, -⟩ | ⟨-, h1, -, -⟩
    · exact va_zald (D := D) hx hb hKK hP o 1 (ww_get h1) rfl h2 hd (hK _ _ _ _ h3 H locs ls hP hS hl)
    · cases h1
    · cases h1
  · obtain ⟨x, r, rfl, hh1⟩ := pi1_some h
    obtain ⟨i, r, rfl, hh2⟩ := pi1_some hh1
    obtain ⟨o, r, rfl, hh3⟩ := pr1_some hh2
    obtain ⟨n, h1, h2, hh4⟩ := ast_some hh3
    obtain rfl : np = pc + 1 := hn rfl
    rw [Nat.add_sub_cancel_left] at hd
    exact va_iast (D := D) hx hb hKK hP (hDD S) hS o 0 (ww_get h1) rfl h2 hd (fun H1 locs1 hP1 _ hS1 => hK _ _ _ _ hh4 H1 locs1 ls (by rw [← ww_set h1 (by unfold wce; rw [up2_eq])]; exact hP1) hS1 hl)
  · obtain ⟨x, r, rfl, hh1⟩ := pi1_some h
    obtain ⟨i, r, rfl, hh2⟩ := pi1_some hh1
    obtain ⟨o, r, rfl, hh3⟩ := pr1_some hh2
    obtain ⟨n, h1, h2, hh4⟩ := ast_some hh3
    obtain rfl : np = pc + 1 := hn rfl
    rw [Nat.add_sub_cancel_left] at hd
    exact va_zast (D := D) hx hb hKK hP (hDD S) hS o 1 (ww_get h1) rfl h2 hd (fun H1 locs1 hP1 _ hS1 => hK _ _ _ _ hh4 H1 locs1 ls (by rw [← ww_set h1 (by unfold wce; rw [up2_eq])]; exact hP1) hS1 hl)
  · rename_i idx
    obtain ⟨n, rk, ci, sem, h1, h2, h3, h6, hh1⟩ := cal_some h
    obtain ⟨o, h4, h5⟩ := crk_some hh1
    obtain rfl : np = pc + 3 := hn rfl
    rw [Nat.add_sub_cancel_left] at hd
    have e1 : st = (st.take n).reverse.reverse ++ st.drop n := by rw [List.reverse_reverse, List.take_append_drop]
    rw [e1]
    refine hcs _ _ h1 pc lv (st.take n).reverse (st.drop n) S o ?_ ?_ hd h6 h4 ?_ H locs ls hP hS hl
    · rw [List.length_reverse, List.length_take]; exact Nat.min_eq_left h2
    · rw [List.length_drop]; exact h3
    · cases e2 : o.2 with
      | none => rw [e2] at h5; exact h5
      | some v => rw [e2] at h5; exact hK _ _ _ _ h5
  · rename_i idx
    obtain ⟨n, rk, ci, sem, h1, h2, h3, h6, hh1⟩ := cal_some h
    obtain ⟨o, h4, h5⟩ := crk_some hh1
    obtain rfl : np = pc + 3 := hn rfl
    rw [Nat.add_sub_cancel_left] at hd
    have e1 : st = (st.take n).reverse.reverse ++ st.drop n := by rw [List.reverse_reverse, List.take_append_drop]
    rw [e1]
    refine hcs _ _ h1 pc lv (st.take n).reverse (st.drop n) S o ?_ ?_ hd h6 h4 ?_ H locs ls hP hS hl
    · rw [List.length_reverse, List.length_take]; exact Nat.min_eq_left h2
    · rw [List.length_drop]; exact h3
    · cases e2 : o.2 with
      | none => rw [e2] at h5; exact h5
      | some v => rw [e2] at h5; exact hK _ _ _ _ h5
  · unfold reti at h
    split at h
    · rename_i x
      have hz : (ns.headD 0 = 0 ∨ x = 0 ∨ x = 1) ∧ R0 = (S, some (some (.inl x))) := by
        cases hb0 : Nat.beq (ns.headD 0) 0 with
        | true => rw [hb0] at h; exact ⟨Or.inl (Nat.eq_of_beq_eq_true hb0), (Option.some.inj h).symm⟩
        | false =>
          rw [hb0] at h
          dsimp only [cond_false] at h
          split at h
          · exact ⟨Or.inr (by assumption), (Option.some.inj h).symm⟩
          · cases h
      have ho2 := Bool.and_eq_true_iff.mp ho
      have hzb : ns.headD 0 = zb := of_decide_eq_true ho2.1
      obtain rfl : np = pc + 1 := hn rfl
      rw [Nat.add_sub_cancel_left] at hd
      exact hrt pc S (some (.inl x)) H locs ls hz.2 hP hS ⟨hd, of_decide_eq_true ho2.2, by rw [← hzb]; exact hz.1⟩
    · cases h
  · unfold retr at h
    split at h
    · rename_i x
      obtain rfl : np = pc + 1 := hn rfl
      rw [Nat.add_sub_cancel_left] at hd
      exact hrt pc S (some (.inr x)) H locs ls (Option.some.inj h).symm hP hS ⟨hd, of_decide_eq_true ho⟩
    · cases h
  · unfold retv at h
    split at h
    · have hn1 : np = pc + 1 := hn rfl
      subst hn1
      rw [Nat.add_sub_cancel_left] at hd
      exact hrt pc S none H locs ls (Option.some.inj h).symm hP hS ⟨hd, of_decide_eq_true ho⟩
    · cases h
  · cases h
theorem xa_brn {p : Program} {l : Launch} {e : Env} {R : Room} {s : State} {m : MethodId} {args : Array Value} {below : List Frame} {meth : Method} {c : Code} {cells slots : Nat} {Q : State → Prop} {D : va_G} {T : List WE} {g : Nat → Nat} {cI cZ : ClassId} {A : Nat → Prop} {nL : Nat} {cc : ByteArray} {own : String} {zb : Nat} {cs : List CT} {R0 : RS} (C0 : xC p s m c D T g cI cZ A nL cc own) (hcs : ∀ (j : Nat) (q : CT), cs[j]? = some q → xCF p l e R s m args below meth c cells slots Q D T g cI cZ A nL cc R0 q) (hrt : xRt p l e R s m args below meth c cells slots Q D T g cI cZ A nL cc zb R0)
    {L : List CE} (hL : ∀ q ∈ L, rok cc nL zb q = true) (hF : ∀ q ∈ L, xF s args own q) {ss : List Nat} {K : KT} (hK : ∀ pc lv st S, K pc lv st S = some R0 → xG p l e R s m args below meth c cells slots Q D T g cI cZ A nL pc lv st S) :
    ∀ (n : Nat) (suf : List CE) (_ : ∀ z ∈ suf, z ∈ L) (pc : Nat) (lv : LV) (st : List AV) (S : XS), brn T cs L ss K n suf pc lv st S = some R0 → xG p l e R s m args below meth c cells slots Q D T g cI cZ A nL pc lv st S := by
  intro n
  induction n with
  | zero => intro suf hs pc lv st S h; cases h
  | succ n ih =>
    intro suf hs pc lv st S h
    unfold brn at h
    split at h
    · cases h
    · rename_i pc' i np ns v t e
      obtain ⟨h1, h2, h3⟩ := nxt_mem hs e
      cases h2
      refine xa_stp C0 hcs hrt (hL _ h1) (hF _ h1) ?_ h
      intro pc lv st S h
      cases e2 : mem1 ss pc with
      | true => rw [e2] at h; exact hK _ _ _ _ h
      | false => rw [e2] at h; exact ih t h3 _ _ _ _ h
theorem xa_dsp {p : Program} {l : Launch} {e : Env} {R : Room} {s : State} {m : MethodId} {args : Array Value} {below : List Frame} {meth : Method} {c : Code} {cells slots : Nat} {Q : State → Prop} {D : va_G} {T : List WE} {g : Nat → Nat} {cI cZ : ClassId} {A : Nat → Prop} {nL : Nat} {R0 : RS} : ∀ (ds : List (Nat × List Nat × BT)), (∀ q ∈ ds, ∀ lv st S, q.2.2 lv st S = some R0 → xG p l e R s m args below meth c cells slots Q D T g cI cZ A nL q.1 lv st S) → ∀ pc lv st S, dsp ds pc lv st S = some R0 → xG p l e R s m args below meth c cells slots Q D T g cI cZ A nL pc lv st S := by
  intro ds
  induction ds with
  | nil => intro _ pc lv st S h; cases h
  | cons q t ih =>
    obtain ⟨q, live, f⟩ := q
    intro hds pc lv st S h
    unfold dsp at h
    cases e : Nat.beq q pc with
    | true =>
      rw [e] at h
      cases Nat.eq_of_beq_eq_true e
      dsimp only [cond_true] at h
      split at h
      · rename_i lv' e1
        intro H locs ls hP hS hl
        exact hds _ List.mem_cons_self lv' st S h H locs ls hP hS (pk_has hl live lv' e1)
      · cases h
    | false =>
      rw [e] at h
      exact ih (fun z hz => hds z (List.mem_cons_of_mem _ hz)) pc lv st S h
