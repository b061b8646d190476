/-! Contracts out of the interpreter. -/
def isNest (w : Jvm.Cond) : Bool := match w with
  | .fieldLinkNest _ _ _ _ _ _ => true
  | .methodLinkNest _ _ _ _ => true
  | .declares _ => true
  | .castable _ _ => true
  | _ => false
theorem nest_warm {w : Jvm.Cond} {s U : State} (hn : isNest w = true) (hW : s.WarmedH U.vm) (h : va_Nw w s) : va_Nw w U := by
  unfold isNest at hn
  split at hn
  · exact h.warmF hW
  · exact h.warmM hW
  · exact h.warmD hW
  · exact h.warmC hW
  · cases hn
theorem nest_tabs {w : Jvm.Cond} (hn : isNest w = true) : w.onTables = true := by
  unfold isNest at hn
  split at hn
  · rfl
  · rfl
  · rfl
  · rfl
  · cases hn
def nwl : List Jvm.Cond := [.fieldLinkNest "StackMarks" 100 "StackMarks$Items" "x" "[I" "StackMarks", .fieldLinkNest "StackMarks" 67 "StackMarks$Items" "low" "[I" "StackMarks", .fieldLinkNest "StackMarks" 70 "StackMarks$Items" "high" "[I" "StackMarks", .fieldLinkNest "StackMarks" 188 "StackMarks$Items" "voice" "[I" "StackMarks", .fieldLinkNest "StackMarks" 191 "StackMarks$Items" "stem" "[I" "StackMarks", .fieldLinkNest "StackMarks" 194 "StackMarks$Items" "rest" "[I" "StackMarks", .fieldLinkNest "StackMarks" 200 "StackMarks$Items" "count" "I" "StackMarks", .fieldLinkNest "StackMarks" 181 "StackMarks$Marks" "item" "[I" "StackMarks", .fieldLinkNest "StackMarks" 224 "StackMarks$Marks" "kind" "[I" "StackMarks", .fieldLinkNest "StackMarks" 230 "StackMarks$Marks" "width" "[I" "StackMarks", .fieldLinkNest "StackMarks" 302 "StackMarks$Marks" "height" "[I" "StackMarks", .fieldLinkNest "StackMarks" 96 "StackMarks$Marks" "gone" "[Z" "StackMarks", .fieldLinkNest "StackMarks" 127 "StackMarks$Marks" "left" "[I" "StackMarks", .fieldLinkNest "StackMarks" 134 "StackMarks$Marks" "side" "[I" "StackMarks", .fieldLinkNest "StackMarks" 137 "StackMarks$Marks" "inner" "[I" "StackMarks", .fieldLinkNest "StackMarks" 140 "StackMarks$Marks" "outer" "[I" "StackMarks", .fieldLinkNest "StackMarks" 143 "StackMarks$Marks" "inRow" "[Z" "StackMarks", .fieldLinkNest "StackMarks" 146 "StackMarks$Marks" "turn" "[I" "StackMarks", .fieldLinkNest "StackMarks" 86 "StackMarks$Marks" "count" "I" "StackMarks", .fieldLinkNest "StackMarks" 250 "StackMarks$Slurs" "from" "[I" "StackMarks", .fieldLinkNest "StackMarks" 253 "StackMarks$Slurs" "to" "[I" "StackMarks", .fieldLinkNest "StackMarks" 249 "StackMarks$Slurs" "side" "[I" "StackMarks", .fieldLinkNest "StackMarks" 256 "StackMarks$Slurs" "thickness" "[I" "StackMarks", .fieldLinkNest "StackMarks" 150 "StackMarks$Slurs" "inner" "[I" "StackMarks", .fieldLinkNest "StackMarks" 151 "StackMarks$Slurs" "outer" "[I" "StackMarks", .fieldLinkNest "StackMarks" 106 "StackMarks$Slurs" "count" "I" "StackMarks", .fieldLinkNest "StackMarks" 161 "StackMarks$Outline" "rowInner" "[I" "StackMarks", .fieldLinkNest "StackMarks" 219 "StackMarks$Outline" "outermost" "I" "StackMarks", .methodLinkNest "StackMarks" 9 ⟨"StackMarks$Items", "<init>", "()V"⟩ "StackMarks", .methodLinkNest "StackMarks" 18 ⟨"StackMarks$Kinds", "<init>", "()V"⟩ "StackMarks", .methodLinkNest "StackMarks" 25 ⟨"StackMarks$Marks", "<init>", "()V"⟩ "StackMarks", .methodLinkNest "StackMarks" 32 ⟨"StackMarks$Slurs", "<init>", "()V"⟩ "StackMarks", .methodLinkNest "StackMarks" 39 ⟨"StackMarks$Outline", "<init>", "()V"⟩ "StackMarks", .methodLinkNest "StackMarks" 214 ⟨"StackMarks$Items", "isAt", "(I)Z"⟩ "StackMarks", .methodLinkNest "StackMarks" 217 ⟨"StackMarks$Items", "add", "(IIIIII)I"⟩ "StackMarks", .methodLinkNest "StackMarks" 64 ⟨"StackMarks$Items", "has", "(I)Z"⟩ "StackMarks", .methodLinkNest "StackMarks" 77 ⟨"StackMarks$Kinds", "has", "(I)Z"⟩ "StackMarks", .methodLinkNest "StackMarks" 78 ⟨"StackMarks$Kinds", "takes", "(II)Z"⟩ "StackMarks", .methodLinkNest "StackMarks" 82 ⟨"StackMarks$Kinds", "change", "(III)I"⟩ "StackMarks", .methodLinkNest "StackMarks" 91 ⟨"StackMarks$Marks", "add", "(IIII)I"⟩ "StackMarks", .methodLinkNest "StackMarks" 95 ⟨"StackMarks$Marks", "has", "(I)Z"⟩ "StackMarks", .methodLinkNest "StackMarks" 107 ⟨"StackMarks$Slurs", "add", "(IIII)I"⟩ "StackMarks", .methodLinkNest "StackMarks" 108 ⟨"StackMarks$Outline", "clear", "()V"⟩ "StackMarks", .methodLinkNest "StackMarks" 246 ⟨"StackMarks$Outline", "cover", "(III)V"⟩ "StackMarks", .methodLinkNest "StackMarks" 157 ⟨"StackMarks$Outline", "greatest", "(II)I"⟩ "StackMarks", .methodLinkNest "StackMarks" 259 ⟨"StackMarks$Outline", "reachOut", "(I)V"⟩ "StackMarks", .methodLinkNest "StackMarks" 262 ⟨"StackMarks$Items", "haveBothVoices", "()Z"⟩ "StackMarks", .methodLinkNest "StackMarks" 227 ⟨"StackMarks$Kinds", "liesFromX", "(I)Z"⟩ "StackMarks", .methodLinkNest "StackMarks" 284 ⟨"StackMarks$Kinds", "get", "(II)I"⟩ "StackMarks", .methodLinkNest "StackMarks" 282 ⟨"StackMarks$Kinds", "rank", "(I)I"⟩ "StackMarks", .methodLinkNest "StackMarks" 290 ⟨"StackMarks$Kinds", "isInRow", "(I)Z"⟩ "StackMarks", .methodLinkNest "StackMarks" 130 ⟨"StackMarks$Marks", "behind", "(I)I"⟩ "StackMarks", .methodLinkNest "StackMarks" 314 ⟨"StackMarks$Marks", "isOf", "(III)Z"⟩ "StackMarks", .methodLinkNest "StackMarks" 171 ⟨"StackMarks$Marks", "shareX", "(II)Z"⟩ "StackMarks", .methodLinkNest "StackMarks" 221 ⟨"StackMarks$Items", "next", "(I)I"⟩ "StackMarks", .methodLinkNest "StackMarks" 177 ⟨"StackMarks$Items", "greatestX", "()I"⟩ "StackMarks", .methodLinkNest "StackMarks" 184 ⟨"StackMarks$Items", "moveBehind", "(II)V"⟩ "StackMarks", .methodLinkNest "StackMarks" 197 ⟨"StackMarks$Marks", "countAt", "(I)I"⟩ "StackMarks", .methodLinkNest "StackMarks" 149 ⟨"StackMarks$Slurs", "has", "(I)Z"⟩ "StackMarks", .methodLinkNest "StackMarks" 164 ⟨"StackMarks$Marks", "isOn", "(III)Z"⟩ "StackMarks", .methodLinkNest "StackMarks" 167 ⟨"StackMarks$Marks", "countNearer", "(I)I"⟩ "StackMarks", .methodLinkNest "StackMarks" 201 ⟨"StackMarks$Marks", "countThere", "()I"⟩ "StackMarks", .declares ⟨"java/lang/RuntimeException", "<init>", "(Ljava/lang/String;)V"⟩, .declares ⟨"java/lang/Exception", "<init>", "(Ljava/lang/String;)V"⟩, .declares ⟨"java/lang/Throwable", "<init>", "(Ljava/lang/String;)V"⟩, .castable "java/lang/IllegalStateException" "java/lang/IllegalStateException"]
theorem nwl_nest : ∀ w ∈ nwl, isNest w = true := by decide +kernel
theorem nwl_in : ∀ w ∈ nwl, w ∈ lw_tbl := by decide +kernel
def xNw (U : State) : Prop := ∀ w ∈ nwl, va_Nw w U
theorem xNw.warm {s U : State} (hW : s.WarmedH U.vm) (h : xNw s) : xNw U := fun w hw => nest_warm (nwl_nest w hw) hW (h w hw)
theorem xNw.same {s U : State} (hv : s.vm = U.vm) (h : xNw s) : xNw U := fun w hw => (h w hw).same (nest_tabs (nwl_nest w hw)) hv
def xPre (D : va_G) (T : List WE) (g : Nat → Nat) (cI cZ : ClassId) (A : Nat → Prop) (S : XS) (U : State) : Prop := va_P D vwCl (ww T g cI cZ S) U.heap ∧ va_K D vwCl [(cI, .int), (cZ, .boolean)] U ∧ xNw U ∧ xSt g A U U.heap
def xQ (D : va_G) (T : List WE) (g : Nat → Nat) (cI cZ : ClassId) (A : Nat → Prop) (R0 : RS) : Array Value → State → Outcome → State → Prop := fun _ st oc t => (∃ v : Option AV, R0.2 = some v ∧ oc = .returned (v.map (cv g)) ∧ va_P D vwCl (ww T g cI cZ R0.1) t.heap) ∧ va_F A st t
/-- a method's contract -/
def xMet (l : Launch) (D : va_G) (T : List WE) (g : Nat → Nat) (cI cZ : ClassId) (A : Nat → Prop) (y : MethodName) (ws : List Jvm.Cond) (rm : Room) (n : Nat) (sem : MT) : Prop := ∀ (As : List AV) (S : XS) (R0 : RS), As.length = n → sem As S = some R0 → Met l y ws rm (va_Pc (As.map (cv g)) (xPre D T g cI cZ A S)) (xQ D T g cI cZ A R0) 0 0 A
theorem xPre_blind {D : va_G} {T : List WE} {g : Nat → Nat} {cI cZ : ClassId} {A : Nat → Prop} {S : XS} {av : List Value} : FrameBlind (va_Pc av (xPre D T g cI cZ A S)) := fun a U g mk q => by
  obtain ⟨q0, qP, qK, qN, qS⟩ := q
  exact ⟨q0, qP, va_K.moved (u := U) (U := U.calling g mk a) (Vm.Alike.refl U.vm) qK, xNw.same (s := U) (U := U.calling g mk a) rfl qN, fun o ho => ⟨va_Z.moved (u := U) (U := U.calling g mk a) (Vm.Alike.refl U.vm) (qS.1 o ho).1, va_T.moved (u := U) (U := U.calling g mk a) (Vm.Alike.refl U.vm) (qS.1 o ho).2⟩, ⟨vx_Zq.moved (u := U) (U := U.calling g mk a) (Vm.Alike.refl U.vm) qS.2.1.1, vx_Zq.moved (u := U) (U := U.calling g mk a) (Vm.Alike.refl U.vm) qS.2.1.2⟩, vk_R.same (u := U) (U := U.calling g mk a) rfl qS.2.2⟩
section XCF
variable {p : Program} {l : Launch} {e : Env} {R : Room} {s : State} {m : MethodId} {args : Array Value} {below : List Frame} {meth : Method} {c : Code} {cells slots : Nat} {Q : State → Prop} {D : va_G} {T : List WE} {g : Nat → Nat} {cI cZ : ClassId} {A : Nat → Prop} {nL : Nat} {cc : ByteArray} {own : String} {R0 : RS} {Ts ws ws' : List Jvm.Cond} {y : MethodName} {bytes : ByteArray} {maxL idx n rk ci : Nat} {ret : Option FieldType} {rm : Room} {sem : MT} {C : String} {Tf : u_T} {N : Nat} {host : String}
theorem map_cat (g : Nat → Nat) (r : List AV) : ((r.map (cv g)).map fun v => v.category).sum = r.length := by
  induction r with
  | nil => rfl
  | cons v t ih =>
    simp only [List.map_cons, List.sum_cons, List.length_cons, cv_cat]
    omega
/-- behind a call: on with what the callee left -/
theorem xcf_on {pc : Nat} {lv : LV} {rest : List AV} {o : RS} {H : Heap} {locs : List Loc} {ls : Array Slot} {g0 : JFrame} {a0 : Array Value} (hg0 : g0 = F0 m pc ls g0.stack)
    (hr : va_Run p l e R s m args below meth c H locs cells slots 0 0 g0 (rest.map (cv g)) (xQ D T g cI cZ A o a0) A)
    (hk : match o.2 with
      | none => R0 = (o.1, none)
      | some v => xG p l e R s m args below meth c cells slots Q D T g cI cZ A nL (pc + 3) lv (v.toList ++ rest) o.1)
    (hS : va_S A s.heap H locs) (hl : lv_has ls nL (lvc g lv)) : W p l e R s m args below meth c H locs cells slots Q g0 := by
  intro T0 hT0 X
  obtain ⟨v, st₀, t, T', L, h0, X', hL, e1, e2, ⟨⟨v0, hv0, hv1, hP1⟩, hz, hkk⟩, st⟩ := hr T0 hT0 X
  cases hv1
  rw [hv0] at hk
  rw [h0] at hz hkk
  have hS' : va_S A s.heap T'.heap (locs ++ L) := by
    refine ⟨Nat.le_trans hS.1 (by rw [e1]; exact hz), fun q h1 h2 => ?_, fun q hq => ?_⟩
    · rw [e1, hkk q (Nat.lt_of_lt_of_le h1 hS.1) h2]
      exact hS.2.1 q h1 h2
    · rcases List.mem_append.mp hq with h | h
      · exact hS.2.2 q h
      · exact hL q h
  have K := hk T'.heap (locs ++ L) ls (by rw [e1]; exact hP1) hS' hl
  have e3 : (v0.toList ++ rest).map (cv g) = (v0.map (cv g)).toList ++ rest.map (cv g) := by
    cases v0 <;> rfl
  rw [e3] at K
  obtain ⟨t2, a1, b1⟩ := K T' rfl X'
  refine ⟨t2, st t2 ?_, b1⟩
  rw [hg0]
  exact a1
theorem xcf_V1 (C0 : xC p s m c D T g cI cZ A nL cc own) (hts : ∀ w ∈ Ts, w.before args s = true) (hN : xNw s) {As rest : List AV} {S : XS} {o : RS} (hM : Met l y ws rm (va_Pc (As.map (cv g)) (xPre D T g cI cZ A S)) (xQ D T g cI cZ A o) 0 0 A) (hG : GoodIn Ts (wsV own idx C y ws)) (hw : ws = Jvm.Cond.code y bytes maxL ret :: ws') (hrm : rm.cells = 0 ∧ rm.slots = 0) (hc : vwCl[ci]? = some (C, Tf, N))
    (hd : y.cls = C ∧ y.cls ≠ "java/lang/invoke/MethodHandle" ∧ y.cls ≠ "java/lang/invoke/VarHandle" ∧ (parseMethodDescriptor y.desc).map (fun d => d.parameters.length) = some n) (hR : rm.frames + 1 ≤ R.frames ∧ 8 + (maxL + 11) + rm.locals ≤ R.locals) (hf : cells ≤ R.cells ∧ slots ≤ R.slots) :
    ∀ (pc : Nat) (lv : LV), As.length = n + 1 → rest.length ≤ 8 → decode cc pc = .ok (.invokevirtual idx, 3) → rcv T ci As = true → (match o.2 with
      | none => R0 = (o.1, none)
      | some v => xG p l e R s m args below meth c cells slots Q D T g cI cZ A nL (pc + 3) lv (v.toList ++ rest) o.1) → xG p l e R s m args below meth c cells slots Q D T g cI cZ A nL pc lv (As.reverse ++ rest) S := by
  obtain ⟨hx, hb, hml, hown, hKK, hDD, hst⟩ := C0
  intro pc lv hlen hrest hdg hrc hk H locs ls hP hS hl
  obtain ⟨k0, fds, t, rfl, hT⟩ := rcv_some hrc
  have e0 : ((Sum.inr k0 :: t).reverse ++ rest).map (cv g) = (t.map (cv g)).reverse ++ Value.ref (g k0) :: rest.map (cv g) := by
    simp [cv]
  rw [e0]
  refine xcf_on (o := o) (a0 := _) rfl (va_runV (As := t.map (cv g)) (rest := rest.map (cv g)) ⟨hx, hb, hml, hown, hts⟩ hM (cwV n hts hG hw hrm.1 hrm.2 hd hR) ⟨xPre_blind, va_recv hKK hP hc (ww_get hT), fun U hU hW => ⟨rfl, by rw [hU]; exact hP, va_K.moved hW.alike hKK, hN.warm hW, hst.on hS hU hW⟩⟩ rfl (by rw [List.length_map]; exact Nat.succ.inj hlen) hl.1 rfl (lv_room (by rw [map_cat]; exact hrest)) hdg hf) hk hS hl
theorem xcf_V (C0 : xC p s m c D T g cI cZ A nL cc own) (hts : ∀ w ∈ Ts, w.before args s = true) (hN : xNw s) (hM : xMet l D T g cI cZ A y ws rm (n + 1) sem) (hG : GoodIn Ts (wsV own idx C y ws)) (hw : ws = Jvm.Cond.code y bytes maxL ret :: ws') (hrm : rm.cells = 0 ∧ rm.slots = 0) (hc : vwCl[ci]? = some (C, Tf, N))
    (hd : y.cls = C ∧ y.cls ≠ "java/lang/invoke/MethodHandle" ∧ y.cls ≠ "java/lang/invoke/VarHandle" ∧ (parseMethodDescriptor y.desc).map (fun d => d.parameters.length) = some n) (hR : rm.frames + 1 ≤ R.frames ∧ 8 + (maxL + 11) + rm.locals ≤ R.locals) (hf : cells ≤ R.cells ∧ slots ≤ R.slots) :
    xCF p l e R s m args below meth c cells slots Q D T g cI cZ A nL cc R0 (false, idx, n + 1, rk, ci, sem) := by
  intro pc lv As rest S o hlen hrest hdg hrc hsem hk
  exact xcf_V1 C0 hts hN (hM As S o hlen hsem) hG hw hrm hc hd hR hf pc lv hlen hrest hdg (hrc.resolve_left Bool.false_ne_true) hk
theorem xcf_VN (C0 : xC p s m c D T g cI cZ A nL cc own) (hts : ∀ w ∈ Ts, w.before args s = true) (hN : xNw s) (hM : xMet l D T g cI cZ A y ws rm (n + 1) sem) (hG : GoodIn Ts ws) (hl1 : Jvm.Cond.methodLinkNest own idx y host ∈ nwl) (hi : Jvm.Cond.initialized y.cls ∈ Ts) (him : Jvm.Cond.instanceMethod y ∈ Ts) (hsl : Jvm.Cond.selects C y y ∈ Ts) (hw : ws = Jvm.Cond.code y bytes maxL ret :: ws') (hrm : rm.cells = 0 ∧ rm.slots = 0) (hc : vwCl[ci]? = some (C, Tf, N))
    (hd : y.cls ≠ "java/lang/invoke/MethodHandle" ∧ y.cls ≠ "java/lang/invoke/VarHandle" ∧ (parseMethodDescriptor y.desc).map (fun d => d.parameters.length) = some n) (hR : rm.frames + 1 ≤ R.frames ∧ 8 + (maxL + 11) + rm.locals ≤ R.locals) (hf : cells ≤ R.cells ∧ slots ≤ R.slots) :
    xCF p l e R s m args below meth c cells slots Q D T g cI cZ A nL cc R0 (false, idx, n + 1, rk, ci, sem) := by
  obtain ⟨hx, hb, hml, hown, hKK, hDD, hst⟩ := C0
  intro pc lv As rest S o hlen hrest hdg hrc hsem hk H locs ls hP hS hl
  obtain ⟨k0, fds, t, rfl, hT⟩ := rcv_some (hrc.resolve_left Bool.false_ne_true)
  have e0 : ((Sum.inr k0 :: t).reverse ++ rest).map (cv g) = (t.map (cv g)).reverse ++ Value.ref (g k0) :: rest.map (cv g) := by
    simp [cv]
  rw [e0]
  refine xcf_on (o := o) (a0 := _) rfl (va_runVN (As := t.map (cv g)) (rest := rest.map (cv g)) (C := C) ⟨hx, hb, hml, hown, hts⟩ (hM _ S o hlen hsem) ⟨va_cnB n hts hG hw hrm.1 hrm.2 (hN _ hl1) (hts _ hi) hd hR, hts _ him, hts _ hsl⟩ ⟨xPre_blind, va_recv hKK hP hc (ww_get hT), fun U hU hW => ⟨rfl, by rw [hU]; exact hP, va_K.moved hW.alike hKK, hN.warm hW, hst.on hS hU hW⟩⟩ rfl (by rw [List.length_map]; exact Nat.succ.inj hlen) hl.1 rfl (lv_room (by rw [map_cat]; exact hrest)) hdg hf) hk hS hl
theorem xcf_S (C0 : xC p s m c D T g cI cZ A nL cc own) (hts : ∀ w ∈ Ts, w.before args s = true) (hN : xNw s) (hM : xMet l D T g cI cZ A y ws rm n sem) (hG : GoodIn Ts (va_wsS own idx y ws)) (hw : ws = Jvm.Cond.code y bytes maxL ret :: ws') (hrm : rm.cells = 0 ∧ rm.slots = 0)
    (hd : y.cls ≠ "java/lang/invoke/MethodHandle" ∧ y.cls ≠ "java/lang/invoke/VarHandle" ∧ (parseMethodDescriptor y.desc).map (fun d => d.parameters.length) = some n) (hR : rm.frames + 1 ≤ R.frames ∧ 8 + (maxL + 11) + rm.locals ≤ R.locals) (hf : cells ≤ R.cells ∧ slots ≤ R.slots) :
    xCF p l e R s m args below meth c cells slots Q D T g cI cZ A nL cc R0 (true, idx, n, rk, ci, sem) := by
  obtain ⟨hx, hb, hml, hown, hKK, hDD, hst⟩ := C0
  intro pc lv As rest S o hlen hrest hdg hrc hsem hk H locs ls hP hS hl
  have e0 : (As.reverse ++ rest).map (cv g) = (As.map (cv g)).reverse ++ rest.map (cv g) := by
    simp
  rw [e0]
  refine xcf_on (o := o) (a0 := _) rfl (va_runS (As := As.map (cv g)) (rest := rest.map (cv g)) ⟨hx, hb, hml, hown, hts⟩ (hM _ S o hlen hsem) (va_cwS n hts hG hw hrm.1 hrm.2 hd hR) ⟨xPre_blind, fun U hU hW => ⟨rfl, by rw [hU]; exact hP, va_K.moved hW.alike hKK, hN.warm hW, hst.on hS hU hW⟩⟩ rfl (by rw [List.length_map]; exact hlen) hl.1 rfl (lv_room (by rw [map_cat]; exact hrest)) hdg hf) hk hS hl
/-- Math.max -/
def sem_max : MT := fun As S => match As with
  | [.inl x, .inl y] => some (S, some (some (.inl (if x < y then y else x))))
  | _ => none
theorem xcf_max (C0 : xC p s m c D T g cI cZ A nL cc own) (hlink : (Jvm.Cond.methodLink own idx Lib.Math.max.name).before args s = true) (hstat : (Jvm.Cond.static Lib.Math.max.name).before args s = true) (hini : (Jvm.Cond.initialized "java/lang/Math").before args s = true) (hcode : (Jvm.Cond.code Lib.Math.max.name Lib.Math.max.code 2 (some .int)).before args s = true) (hR : 1 ≤ R.frames ∧ 21 ≤ R.locals) (hf : cells ≤ R.cells ∧ slots ≤ R.slots) :
    xCF p l e R s m args below meth c cells slots Q D T g cI cZ A nL cc R0 (true, idx, 2, 1, ci, sem_max) := by
  obtain ⟨hx, hb, hml, hown, hKK, hDD, hst⟩ := C0
  intro pc lv As rest S o hlen hrest hdg hrc hsem hk H locs ls hP hS hl
  have hsem : sem_max As S = some o := hsem
  unfold sem_max at hsem
  split at hsem
  · rename_i x y
    cases Option.some.inj hsem
    exact va_mmax hx hb (by rw [hml]; exact hl.1.symm) hown hlink hstat hini hcode hR.1 (by rw [map_cat]; exact Nat.le_trans (Nat.add_le_add_right hrest 13) hR.2) hf.1 hf.2 hdg (hk H locs ls hP hS hl)
  · cases hsem
end XCF
/-- all that a method's blocks stand on -/
def xM (p : Program) (l : Launch) (e : Env) (R : Room) (s : State) (m : MethodId) (args : Array Value) (below : List Frame) (meth : Method) (c : Code) (cells slots : Nat) (Q : State → Prop) (D : va_G) (T : List WE) (g : Nat → Nat) (cI cZ : ClassId) (A : Nat → Prop) (nL : Nat) (cc : ByteArray) (own : String) (zb : Nat) (cs : List CT) (L : List CE) (R0 : RS) : Prop :=
  xC p s m c D T g cI cZ A nL cc own ∧ (∀ (j : Nat) (q : CT), cs[j]? = some q → xCF p l e R s m args below meth c cells slots Q D T g cI cZ A nL cc R0 q) ∧ xRt p l e R s m args below meth c cells slots Q D T g cI cZ A nL cc zb R0 ∧ (∀ q ∈ L, rok cc nL zb q = true) ∧ ∀ q ∈ L, xF s args own q
theorem xa_blk {p : Program} {l : Launch} {e : Env} {R : Room} {s : State} {m : MethodId} {args : Array Value} {below : List Frame} {meth : Method} {c : Code} {cells slots : Nat} {Q : State → Prop} {D : va_G} {T : List WE} {g : Nat → Nat} {cI cZ : ClassId} {A : Nat → Prop} {nL : Nat} {cc : ByteArray} {own : String} {zb : Nat} {cs : List CT} {L : List CE} {R0 : RS}
    (M : xM p l e R s m args below meth c cells slots Q D T g cI cZ A nL cc own zb cs L R0) {ss : List Nat} {ds : List (Nat × List Nat × BT)} (hds : ∀ q ∈ ds, ∀ lv st S, q.2.2 lv st S = some R0 → xG p l e R s m args below meth c cells slots Q D T g cI cZ A nL q.1 lv st S)
    {n pc : Nat} {lv : LV} {st : List AV} {S : XS} (h : brn T cs L ss (dsp ds) n [] pc lv st S = some R0) : xG p l e R s m args below meth c cells slots Q D T g cI cZ A nL pc lv st S := by
  obtain ⟨h1, h2, h3, h4, h5⟩ := M
  exact xa_brn h1 h2 h3 h4 h5 (xa_dsp ds hds) n [] (fun _ q => absurd q List.not_mem_nil) pc lv st S h
def rety (zb : Nat) : Option FieldType := match zb with
  | 0 => some .int
  | 1 => some .boolean
  | 2 => none
  | _ => some (.object "StackMarks$Outline")
theorem zip_args (g : Nat → Nat) (As : List AV) : ∀ n, lv_args n (As.map (cv g)) = lvc g (zipN n As) := by
  induction As with
  | nil => intro n; rfl
  | cons v t ih =>
    intro n
    have h1 := ih (n + 1)
    cases v with
    | inl x => exact congrArg (List.cons _) h1
    | inr x => exact congrArg (List.cons _) h1
theorem sl_len (g : Nat → Nat) (As : List AV) : (lg_sl (As.map (cv g))).length = As.length := by
  induction As with
  | nil => rfl
  | cons v t ih =>
    cases v with
    | inl x => exact congrArg Nat.succ ih
    | inr x => exact congrArg Nat.succ ih
/-- a method's words: its own code, and the good words of the tables -/
abbrev wm (y : MethodName) (cc : ByteArray) (nL : Nat) (zb : Nat) : List Jvm.Cond := Jvm.Cond.code y cc nL (rety zb) :: wA
set_option maxHeartbeats 1000000 in
theorem xa_met1 {l : Launch} {D : va_G} {T : List WE} {g : Nat → Nat} {cI cZ : ClassId} {A : Nat → Prop} {y : MethodName} {rm : Room} {n nL zb : Nat} {cc : ByteArray} {cs : List CT} {L : List CE} {As : List AV} {S : XS} {R0 : RS} {ft : List (Nat × Nat × Nat)} {pt : List (Nat × Nat × Nat × Nat)} {kt : List (Nat × Int32)}
    (hD : ∀ S, va_D A (ww T g cI cZ S)) (hy : plainName y.cls = true) (hn : n ≤ nL) (hlen : As.length = n) (hL : ∀ q ∈ L, rok cc nL zb q = true) (hF : ∀ q ∈ L, fck ft pt kt q = true)
    (hfacts : ∀ (s : State) (args : Array Value), (∀ w ∈ wA, w.before args s = true) → xNw s → (∀ q ∈ ft, xFt s args y.cls q) ∧ (∀ q ∈ pt, xPt s args y.cls q) ∧ ∀ q ∈ kt, (Jvm.Cond.constant y.cls q.1 q.2).before args s = true)
    (hcs : ∀ (p : Program) (e : Env) (s : State) (m : MethodId) (args : Array Value) (below : List Frame) (meth : Method) (c : Code) (Q : State → Prop), xC p s m c D T g cI cZ A nL cc y.cls → (∀ w ∈ wm y cc nL zb, w.before args s = true) → xNw s → ∀ (j : Nat) (q : CT), cs[j]? = some q → xCF p l e rm s m args below meth c 0 0 Q D T g cI cZ A nL cc R0 q)
    (hb : ∀ (p : Program) (e : Env) (s : State) (m : MethodId) (args : Array Value) (below : List Frame) (meth : Method) (c : Code) (Q : State → Prop), xM p l e rm s m args below meth c 0 0 Q D T g cI cZ A nL cc y.cls zb cs L R0 → xG p l e rm s m args below meth c 0 0 Q D T g cI cZ A nL 0 (zipN 0 As) [] S) :
    Met l y (wm y cc nL zb) rm (va_Pc (As.map (cv g)) (xPre D T g cI cZ A S)) (xQ D T g cI cZ A R0) 0 0 A := by
  refine Met.ofW (cc := cc) (maxL := nL) (ret := rety zb) hy rfl ?_
  intro p e s m args below meth c s₁ B hml hv
  obtain ⟨rfl, hP, hK, hN, hst⟩ := hv
  have hx := B.exec
  have hbb := B.bytes
  have hr := B.returns
  have hts := atoms_spec (ws := wm y cc nL zb) B.pre
  have hts2 : ∀ w ∈ wA, w.before (As.map (cv g)).toArray s = true := fun w hw => hts w (List.mem_cons_of_mem _ hw)
  have hown : s.vm.findClass y.cls = some m.cls := findClass_of_methodNamed B.named
  have hlocks := B.notSynchronized
  have C0 : xC p s m c D T g cI cZ A nL cc y.cls := ⟨hx, hbb, hml, hown, hK, hD, hst⟩
  obtain ⟨f1, f2, f3⟩ := hfacts s _ hts2 hN
  have hl := lv_entry (As.map (cv g)) (n := nL) (by rw [sl_len, hlen]; exact hn)
  rw [lg_entry_eq]
  generalize (lg_sl (As.map (cv g)) ++ List.replicate (nL - (lg_sl (As.map (cv g))).length) Slot.unset).toArray = ls at hl ⊢
  rw [zip_args] at hl
  have hrt : xRt p l e rm s m (As.map (cv g)).toArray below meth c 0 0 (MQ below (xQ D T g cI cZ A R0) (As.map (cv g)).toArray s 0 0 A) D T g cI cZ A nL cc zb R0 := by
    intro pc S v H locs ls e0 hP hS hd
    subst e0
    cases v with
    | none =>
      obtain ⟨hd, hz⟩ := hd
      subst hz
      exact W.vret hx hbb hr (fun t ht hW => ⟨⟨none, rfl, rfl, by rw [ht]; exact hP⟩, hS.F ht⟩) hS.2.2 hd
    | some v =>
      cases v with
      | inl x =>
        obtain ⟨hd, hz, hz2⟩ := hd
        have hzc : zb = 0 ∨ zb = 1 := by omega
        rcases hzc with hz3 | hz3
        · subst hz3
          exact W.iret (v := x) hx hbb hr (fun t ht hW => ⟨⟨some (.inl x), rfl, rfl, by rw [ht]; exact hP⟩, hS.F ht⟩) hS.2.2 hd
        · subst hz3
          exact W.zret (v := x) hx hbb hr (narrow_b01 (hz2.resolve_left (by decide))) (fun t ht hW => ⟨⟨some (.inl x), rfl, rfl, by rw [ht]; exact hP⟩, hS.F ht⟩) hS.2.2 hd
      | inr x =>
        obtain ⟨hd, hz⟩ := hd
        subst hz
        exact W.aret (v := .ref (g x)) hx hbb hr (Or.inl ⟨_, rfl⟩) (Or.inr ⟨_, rfl⟩) (fun t ht hW => ⟨⟨some (.inr x), rfl, rfl, by rw [ht]; exact hP⟩, hS.F ht⟩) hS.2.2 hd
  exact hb p e s m _ below meth c _ ⟨C0, hcs p e s m _ below meth c _ C0 hts hN, hrt, hL, fun q hq => xF_of f1 f2 f3 (hF q hq)⟩ s.heap [] ls hP va_S.rf hl
theorem xa_met {l : Launch} {D : va_G} {T : List WE} {g : Nat → Nat} {cI cZ : ClassId} {A : Nat → Prop} {y : MethodName} {rm : Room} {n nL zb : Nat} {cc : ByteArray} {cs : List CT} {L : List CE} {sem : MT} {ft : List (Nat × Nat × Nat)} {pt : List (Nat × Nat × Nat × Nat)} {kt : List (Nat × Int32)}
    (hD : ∀ S, va_D A (ww T g cI cZ S)) (hy : plainName y.cls = true) (hn : n ≤ nL) (hL : ∀ q ∈ L, rok cc nL zb q = true) (hF : ∀ q ∈ L, fck ft pt kt q = true)
    (hfacts : ∀ (s : State) (args : Array Value), (∀ w ∈ wA, w.before args s = true) → xNw s → (∀ q ∈ ft, xFt s args y.cls q) ∧ (∀ q ∈ pt, xPt s args y.cls q) ∧ ∀ q ∈ kt, (Jvm.Cond.constant y.cls q.1 q.2).before args s = true)
    (hcs : ∀ (p : Program) (e : Env) (s : State) (m : MethodId) (args : Array Value) (below : List Frame) (meth : Method) (c : Code) (Q : State → Prop) (R0 : RS), xC p s m c D T g cI cZ A nL cc y.cls → (∀ w ∈ wm y cc nL zb, w.before args s = true) → xNw s → ∀ (j : Nat) (q : CT), cs[j]? = some q → xCF p l e rm s m args below meth c 0 0 Q D T g cI cZ A nL cc R0 q)
    (hb : ∀ (p : Program) (e : Env) (s : State) (m : MethodId) (args : Array Value) (below : List Frame) (meth : Method) (c : Code) (Q : State → Prop) (R0 : RS) (As : List AV) (S : XS), xM p l e rm s m args below meth c 0 0 Q D T g cI cZ A nL cc y.cls zb cs L R0 → sem As S = some R0 → xG p l e rm s m args below meth c 0 0 Q D T g cI cZ A nL 0 (zipN 0 As) [] S) :
    xMet l D T g cI cZ A y (wm y cc nL zb) rm n sem :=
  fun As S R0 hlen h => xa_met1 hD hy hn hlen hL hF hfacts (fun p e s m args below meth c Q => hcs p e s m args below meth c Q R0) (fun p e s m args below meth c Q M => hb p e s m args below meth c Q R0 As S M h)
/-- the words of a call among a method's -/
theorem good_V {y1 y : MethodName} {c1 cc : ByteArray} {n1 z1 nL zb idx : Nat} {own C : String} (h1 : Jvm.Cond.methodLink own idx y ∈ wA) (h2 : Jvm.Cond.instanceMethod y ∈ wA) (h3 : Jvm.Cond.selects C y y ∈ wA) (h4 : Jvm.Cond.initialized C ∈ wA) (h5 : Jvm.Cond.code y cc nL (rety zb) ∈ wA) : GoodIn (wm y1 c1 n1 z1) (wsV own idx C y (wm y cc nL zb)) := by
  intro w hw
  have h : w ∈ wA := by
    rcases List.mem_append.mp hw with q | q
    · simp only [List.mem_cons, List.not_mem_nil, or_false] at q
      rcases q with q | q | q | q <;> rw [q] <;> assumption
    · rcases List.mem_cons.mp q with q | q
      · rw [q]; exact h5
      · exact q
  exact ⟨List.mem_cons_of_mem _ h, good_of_word (wA_good w h)⟩
theorem good_S {y1 y : MethodName} {c1 cc : ByteArray} {n1 z1 nL zb idx : Nat} {own : String} (h1 : Jvm.Cond.methodLink own idx y ∈ wA) (h2 : Jvm.Cond.static y ∈ wA) (h4 : Jvm.Cond.initialized y.cls ∈ wA) (h5 : Jvm.Cond.code y cc nL (rety zb) ∈ wA) : GoodIn (wm y1 c1 n1 z1) (va_wsS own idx y (wm y cc nL zb)) := by
  intro w hw
  have h : w ∈ wA := by
    rcases List.mem_append.mp hw with q | q
    · simp only [List.mem_cons, List.not_mem_nil, or_false] at q
      rcases q with q | q | q <;> rw [q] <;> assumption
    · rcases List.mem_cons.mp q with q | q
      · rw [q]; exact h5
      · exact q
  exact ⟨List.mem_cons_of_mem _ h, good_of_word (wA_good w h)⟩
theorem good_N {y1 y : MethodName} {c1 cc : ByteArray} {n1 z1 nL zb : Nat} (h5 : Jvm.Cond.code y cc nL (rety zb) ∈ wA) : GoodIn (wm y1 c1 n1 z1) (wm y cc nL zb) := by
  intro w hw
  have h : w ∈ wA := by
    rcases List.mem_cons.mp hw with q | q
    · rw [q]; exact h5
    · exact q
  exact ⟨List.mem_cons_of_mem _ h, good_of_word (wA_good w h)⟩
