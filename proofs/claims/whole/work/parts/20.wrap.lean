/-! The law's wrappers: x and the row of one long beside it. -/
def wo (g : Nat → Nat) (cI cZ cJ : ClassId) (qo : Nat) (S : XS) (f : Nat → Int64) : va_W := ww xT g cI cZ S ++ [(qo, .inl (cJ, 1, .inr (.inl f)))]
def wPre (D : va_G) (g : Nat → Nat) (cI cZ cJ : ClassId) (qo : Nat) (A : Nat → Prop) (S : XS) (f : Nat → Int64) (U : State) : Prop := va_P D vwCl (wo g cI cZ cJ qo S f) U.heap ∧ va_K D vwCl [(cI, .int), (cZ, .boolean), (cJ, .long)] U ∧ xNw U ∧ xSt g A U U.heap
def wQ (D : va_G) (g : Nat → Nat) (cI cZ cJ : ClassId) (qo : Nat) (A : Nat → Prop) (k : Int32) (S : XS) (f : Nat → Int64) : Array Value → State → Outcome → State → Prop := fun _ st oc t => (oc = .returned (some (.int k)) ∧ va_P D vwCl (wo g cI cZ cJ qo S f) t.heap) ∧ va_F (fun q => A q ∨ q = qo) st t
theorem xT_len : xT.length = 40 := by decide +kernel
theorem ww_len (T : List WE) (g : Nat → Nat) (cI cZ : ClassId) (S : XS) : (ww T g cI cZ S).length = T.length := List.length_mapIdx
theorem wo_x {D : va_G} {g : Nat → Nat} {cI cZ cJ : ClassId} {qo : Nat} {S : XS} {f : Nat → Int64} {H : Heap} (h : va_P D vwCl (wo g cI cZ cJ qo S f) H) : va_P D vwCl (ww xT g cI cZ S) H := fun k q hk => h k q (by
  unfold wo
  rw [List.getElem?_append_left (List.getElem?_eq_some_iff.mp hk).1]
  exact hk)
theorem wo_at {g : Nat → Nat} {cI cZ cJ : ClassId} {qo : Nat} {S : XS} {f : Nat → Int64} : (wo g cI cZ cJ qo S f)[40]? = some (qo, .inl (cJ, 1, .inr (.inl f))) := by
  unfold wo
  rw [List.getElem?_append_right (by rw [ww_len, xT_len]; exact Nat.le_refl _), ww_len, xT_len]
  rfl
theorem wo_mk {D : va_G} {g : Nat → Nat} {cI cZ cJ : ClassId} {qo : Nat} {S : XS} {f : Nat → Int64} {H : Heap} (h : va_P D vwCl (ww xT g cI cZ S) H) (h2 : va_at D vwCl (qo, .inl (cJ, 1, .inr (.inl f))) H) : va_P D vwCl (wo g cI cZ cJ qo S f) H := h.app (fun k x hx => by
  have hz : k < 1 := (List.getElem?_eq_some_iff.mp hx).1
  rw [show k = 0 by omega] at hx
  cases hx
  exact h2)
theorem wo_D {A : Nat → Prop} {g : Nat → Nat} {cI cZ cJ : ClassId} {qo : Nat} (hD : ∀ S, va_D A (ww xT g cI cZ S)) (hq : ¬ A qo) (S : XS) (f : Nat → Int64) : va_D (fun q => A q ∨ q = qo) (wo g cI cZ cJ qo S f) := by
  refine va_D.app ((hD S).weaken (fun _ _ _ h => Or.inl h)) ⟨fun i j x y hx hy _ => ?_, fun k x hx => ?_⟩ (fun i j x y hx hy e => ?_)
  · have h1 : i < 1 := (List.getElem?_eq_some_iff.mp hx).1
    have h2 : j < 1 := (List.getElem?_eq_some_iff.mp hy).1
    omega
  · have hz : k < 1 := (List.getElem?_eq_some_iff.mp hx).1
    rw [show k = 0 by omega] at hx
    cases hx
    exact Or.inr rfl
  · have hz : j < 1 := (List.getElem?_eq_some_iff.mp hy).1
    rw [show j = 0 by omega] at hy
    cases hy
    exact hq (by have := (hD S).2 i x hx; rw [e] at this; exact this)
/-- a contract out of a body that has a table -/
theorem xw_ofWH {l : Launch} {y : MethodName} {ws ws' : List Jvm.Cond} {rm : Room} {Pc : Array Value → State → Prop} {Qc : Array Value → State → Outcome → State → Prop} {mc ms : Nat} {free : Addr → Prop} {cc : ByteArray} {maxL : Nat} {ret : Option FieldType} {hh : List (Nat × Nat × Nat × Nat)}
    (hy : plainName y.cls = true) (hw : ws = Jvm.Cond.codeWith y cc maxL ret hh :: ws')
    (body : ∀ p e s m args below meth c s₁, BodyLoose p l y (headSpec ws rm) cc maxL ret e s m args below meth c s₁ → c.maxLocals = maxL → c.exceptionTable.toList = tableOf hh → Pc args s →
      W p l e (headSpec ws rm).room s m args below meth c s.heap [] 0 0 (MQ below Qc args s mc ms free) (entryFrame m args maxL)) : Met l y ws rm Pc Qc mc ms free := by
  refine MetFree.of_bodyS (code := cc) (maxLocals := maxL) (ret := ret) hy ?_ ?_
  · intro args s m h hn
    obtain ⟨m9, meth, c, hn9, h1, h2, h3, h4, -, h5, h6, -⟩ := Cond.codeWith_spec (atoms_spec (ws := ws) h _ (by rw [hw]; exact List.mem_cons_self))
    cases hn.symm.trans hn9
    exact ⟨meth, c, h1, h2, h3, h4, h5, h6⟩
  · intro p e s m args below meth c s₁ B hml hP _
    have hh0 : s₁.heap = s.heap := by rw [B.state]; rfl
    have ht : c.exceptionTable.toList = tableOf hh := vx_table (x := y) B (bytes := cc) (maxL' := maxL) (ret' := ret) (atoms_spec (ws := ws) B.pre _ (by rw [hw]; exact List.mem_cons_self))
    obtain ⟨t, a1, o, b1, b2, b3⟩ := body p e s m args below meth c s₁ B hml ht hP s₁ hh0 (Stand.of_body B)
    exact ⟨t, o, a1, b1, b2, b3⟩
section WR
variable {p : Program} {l : Launch} {e : Env} {R : Room} {s : State} {m : MethodId} {args : Array Value} {below : List Frame} {meth : Method} {c : Code} {Q : State → Prop} {D : va_G} {g : Nat → Nat} {cI cZ cJ : ClassId} {qo : Nat} {A : Nat → Prop} {nL : Nat} {cc : ByteArray} {own : String} {Ts wy wy' : List Jvm.Cond} {y : MethodName} {bytes : ByteArray} {maxL idx n pc : Nat} {ret : Option FieldType} {rm : Room} {S S1 : XS} {f : Nat → Int64} {r : Int32} {t : List AV} {ls : Array Slot} {rest : List Value}
/-- the call in a wrapper: x returns -/
theorem wr_R (hx : p.tables.exec = Jvm.exec) (hb : c.code = cc) (hml : c.maxLocals = nL) (hown : s.vm.findClass own = some m.cls) (hts : ∀ w ∈ Ts, w.before args s = true) (hK : va_K D vwCl [(cI, .int), (cZ, .boolean), (cJ, .long)] s) (hN : xNw s) (hst : xSt g A s s.heap) (hqA : ¬ A qo) (hls : ls.size = nL)
    (hM : Met l y wy rm (va_Pc ((Sum.inr 0 :: t).map (cv g)) (xPre D xT g cI cZ A S)) (xQ D xT g cI cZ A (S1, some (some (.inl r)))) 0 0 A) (hlen : t.length = n) (hG : GoodIn Ts (wsV own idx RX5 y wy)) (hw : wy = Jvm.Cond.code y bytes maxL ret :: wy') (hrm : rm.cells = 0 ∧ rm.slots = 0)
    (hd : y.cls = RX5 ∧ y.cls ≠ "java/lang/invoke/MethodHandle" ∧ y.cls ≠ "java/lang/invoke/VarHandle" ∧ (parseMethodDescriptor y.desc).map (fun d => d.parameters.length) = some n) (hR : rm.frames + 1 ≤ R.frames ∧ 8 + (maxL + 11) + rm.locals ≤ R.locals)
    (hrest : (rest.map fun v => v.category).sum ≤ 8) (hdg : decode cc pc = .ok (.invokevirtual idx, 3)) (hP : va_P D vwCl (wo g cI cZ cJ qo S f) s.heap)
    (kk : ∀ (H1 : Heap) (locs1 : List Loc), va_P D vwCl (wo g cI cZ cJ qo S1 f) H1 → va_S (fun q => A q ∨ q = qo) s.heap H1 locs1 → W p l e R s m args below meth c H1 locs1 0 0 Q (F0 m (pc + 3) ls (.int r :: rest))) :
    W p l e R s m args below meth c s.heap [] 0 0 Q (F0 m pc ls ((t.map (cv g)).reverse ++ Value.ref (g 0) :: rest)) := by
  have hKx : va_K D vwCl [(cI, .int), (cZ, .boolean)] s := hK.sub [0, 1] rfl
  have hPx := wo_x hP
  have hr := va_runV (l := l) (locs := []) (cells := 0) (slots := 0) (below := below) (meth := meth) (e := e) (R := R) (H := s.heap) (g := F0 m pc ls ((t.map (cv g)).reverse ++ Value.ref (g 0) :: rest)) (As := t.map (cv g)) (b := g 0) (rest := rest) ⟨hx, hb, hml, hown, hts⟩ hM (cwV n hts hG hw hrm.1 hrm.2 hd hR) ⟨xPre_blind, va_recv (ci := 5) (q0 := 0) (q := (RX5, TX5, 10)) hKx hPx rfl (ww_get (T := xT) (k := 0) rfl), fun U hU hW => ⟨rfl, by rw [hU]; exact hPx, va_K.moved hW.alike hKx, hN.warm hW, hst.on va_S.rf hU hW⟩⟩ rfl (by rw [List.length_map]; exact hlen) hls rfl (lv_room hrest) hdg ⟨Nat.zero_le _, Nat.zero_le _⟩
  intro T0 hT0 X
  obtain ⟨v, st₀, t1, T', L, h0, X', hL, e1, e2, ⟨⟨v0, hv0, hv1, hP1⟩, hz, hkk⟩, st⟩ := hr T0 hT0 X
  cases hv1
  cases hv0
  rw [h0] at hz hkk
  have hS' : va_S (fun q => A q ∨ q = qo) s.heap T'.heap ([] ++ L) := by
    refine ⟨by rw [e1]; exact hz, fun q h1 h2 => ?_, fun q hq => Or.inl (hL q hq)⟩
    rw [e1]
    exact hkk q h1 (fun h => h2 (Or.inl h))
  have ho := hP 40 _ wo_at
  have hP2 : va_P D vwCl (wo g cI cZ cJ qo S1 f) T'.heap := wo_mk (by rw [e1]; exact hP1) (ho.kept (by rw [e1]; exact hkk qo ho.lt hqA))
  obtain ⟨t2, a1, b1⟩ := kk T'.heap ([] ++ L) hP2 hS' T' rfl X'
  exact ⟨t2, st t2 a1, b1⟩
/-- .. x throws, and it is caught -/
theorem wr_T (hx : p.tables.exec = Jvm.exec) (hb : c.code = cc) (hml : c.maxLocals = nL) (hown : s.vm.findClass own = some m.cls) (hts : ∀ w ∈ Ts, w.before args s = true) (hK : va_K D vwCl [(cI, .int), (cZ, .boolean), (cJ, .long)] s) (hN : xNw s) (hst : xSt g A s s.heap) (hqA : ¬ A qo) (hls : ls.size = nL)
    (hM : vx_Met l y wy rm (va_Pc ((Sum.inr 0 :: t).map (cv g)) (xPre D xT g cI cZ A S)) (xQ D xT g cI cZ A (S1, none)) (xXC D xT g cI cZ A (S1, none)) 1 6 A) (hlen : t.length = n) (hG : GoodIn Ts (wsV own idx RX5 y wy)) (hw : wy = Jvm.Cond.code y bytes maxL ret :: wy') (hrm : rm.cells = 1 ∧ rm.slots = 6)
    (hd : y.cls = RX5 ∧ y.cls ≠ "java/lang/invoke/MethodHandle" ∧ y.cls ≠ "java/lang/invoke/VarHandle" ∧ (parseMethodDescriptor y.desc).map (fun d => d.parameters.length) = some n) (hR : rm.frames + 1 ≤ R.frames ∧ 8 + (maxL + 11) + rm.locals ≤ R.locals) (hRc : 1 ≤ R.cells ∧ 6 ≤ R.slots)
    (hrest : (rest.map fun v => v.category).sum ≤ 8) (hdg : decode cc pc = .ok (.invokevirtual idx, 3)) (hP : va_P D vwCl (wo g cI cZ cJ qo S f) s.heap)
    {x : ExceptionTableEntry} (htab : c.exceptionTable.toList = [x]) (hcov : covers x pc = true) (h0c : x.catchType ≠ 0) (hlk : (Jvm.Cond.classLink own x.catchType xISE).before args s = true)
    (kk : ∀ (q : Addr) (H1 : Heap) (locs1 : List Loc), va_P D vwCl (wo g cI cZ cJ qo S1 f) H1 → va_S (fun q => A q ∨ q = qo) s.heap H1 locs1 → W p l e R s m args below meth c H1 locs1 1 6 Q (F0 m x.handlerPc ls [.ref q])) :
    W p l e R s m args below meth c s.heap [] 0 0 Q (F0 m pc ls ((t.map (cv g)).reverse ++ Value.ref (g 0) :: rest)) := by
  have hKx : va_K D vwCl [(cI, .int), (cZ, .boolean)] s := hK.sub [0, 1] rfl
  have hPx := wo_x hP
  have hr := vx_runV (l := l) (locs := []) (cells := 0) (slots := 0) (below := below) (meth := meth) (e := e) (R := R) (H := s.heap) (g := F0 m pc ls ((t.map (cv g)).reverse ++ Value.ref (g 0) :: rest)) (As := t.map (cv g)) (b := g 0) (rest := rest) ⟨hx, hb, hml, hown, hts⟩ hM (cwV n hts hG hw hrm.1 hrm.2 hd hR) ⟨xPre_blind, va_recv (ci := 5) (q0 := 0) (q := (RX5, TX5, 10)) hKx hPx rfl (ww_get (T := xT) (k := 0) rfl), fun U hU hW => ⟨rfl, by rw [hU]; exact hPx, va_K.moved hW.alike hKx, hN.warm hW, hst.on va_S.rf hU hW⟩⟩ rfl (by rw [List.length_map]; exact hlen) hls rfl (lv_room hrest) hdg ⟨by simpa using hRc.1, by simpa using hRc.2⟩
  intro T0 hT0 X
  rcases hr T0 hT0 X with ⟨v, st₀, t1, T', L, h0, X', hL, e1, e2, ⟨⟨v0, hv0, hv1, hP1⟩, hF⟩, st⟩ | ⟨q, st₀, t1, T', L, E, ce, h0, X', hL, e1, e2, ⟨hE, -, hP1, hF⟩, hce, hcv, hcl, st⟩
  · cases hv0
  · have hz := hF.1
    have hkk := hF.2
    rw [h0] at hz hkk
    have hS' : va_S (fun q => A q ∨ q = qo) s.heap T'.heap ([] ++ L) := by
      refine ⟨by rw [e1]; exact hz, fun q h1 h2 => ?_, fun q hq => Or.inl (hL q hq)⟩
      rw [e1]
      exact hkk q h1 (fun h => h2 (Or.inl h))
    have ho := hP 40 _ wo_at
    have hP2 : va_P D vwCl (wo g cI cZ cJ qo S1 f) T'.heap := wo_mk (by rw [e1]; exact hP1) (ho.kept (by rw [e1]; exact hkk qo ho.lt hqA))
    subst hE
    have K := xc_catch (p := p) (l := l) (e := e) (R := R) (meth := meth) (c := c) (H := T'.heap) (locs := [] ++ L) (cells := 0 + 1) (slots := 0 + 6) (below := below) (args := args) (Q := Q) (pc := pc) (ls := ls) (rest := rest) hown htab hcov h0c hlk (va_Nw.use rfl (hN _ (by decide +kernel : Jvm.Cond.castable xISE xISE ∈ nwl))) (by rw [e1]; exact hce) hcv hcl (kk q T'.heap ([] ++ L) hP2 hS')
    obtain ⟨t2, a1, b1⟩ := K T' rfl X'
    exact ⟨t2, st.trans a1, b1⟩
end WR
