def xISE : String := "java/lang/IllegalStateException"
def xNms : List String := ["java/lang/RuntimeException", "java/lang/Exception"]
set_option maxRecDepth 20000 in
theorem th_in : ∀ w ∈ (vx_atS RX5 211 xISE xNms).filter goodWord, w ∈ wA := fun w h => List.mem_filter.mpr ⟨(by decide +kernel : ∀ w ∈ (vx_atS RX5 211 xISE xNms).filter goodWord, w ∈ lw_tbl) w h, (List.mem_filter.mp h).2⟩
theorem th_nw : ∀ w ∈ (vx_atS RX5 211 xISE xNms).filter (fun w => !goodWord w), w ∈ nwl := by decide +kernel
theorem th_ot : ∀ w ∈ Cond.classLink RX5 207 xISE :: Cond.initialized xISE :: vx_atS RX5 211 xISE xNms, vx_ot w = true := by decide +kernel
theorem th_cl : Cond.classLink RX5 207 xISE ∈ wA := by decide +kernel
theorem th_ini : Cond.initialized xISE ∈ wA := by decide +kernel
theorem th_words {s : State} {args : Array Value} (hts : ∀ w ∈ wA, w.before args s = true) (hN : xNw s) : ∀ w ∈ vx_atS RX5 211 xISE xNms, w.before args s = true := by
  intro w hw
  by_cases g : goodWord w = true
  · exact hts w (th_in w (List.mem_filter.mpr ⟨hw, g⟩))
  · have h1 : w ∈ (vx_atS RX5 211 xISE xNms).filter (fun w => !goodWord w) := List.mem_filter.mpr ⟨hw, by simp [g]⟩
    exact va_Nw.use (nest_tabs (nwl_nest w (th_nw w h1))) (hN w (th_nw w h1))
/-- what holds where a method has thrown -/
def xXC (D : va_G) (T : List WE) (g : Nat → Nat) (cI cZ : ClassId) (A : Nat → Prop) (R0 : RS) : String → State → State → Prop := fun E st t => E = xISE ∧ R0.2 = none ∧ va_P D vwCl (ww T g cI cZ R0.1) t.heap ∧ va_F A st t
/-- the two contracts of a method that may throw: it returns; it throws -/
def xMetR (l : Launch) (D : va_G) (T : List WE) (g : Nat → Nat) (cI cZ : ClassId) (A : Nat → Prop) (y : MethodName) (ws : List Jvm.Cond) (rm : Room) (n : Nat) (sem : MT) : Prop := ∀ (As : List AV) (S : XS) (R0 : RS), As.length = n → sem As S = some R0 → R0.2 ≠ none → Met l y ws rm (va_Pc (As.map (cv g)) (xPre D T g cI cZ A S)) (xQ D T g cI cZ A R0) 0 0 A
def xMetT (l : Launch) (D : va_G) (T : List WE) (g : Nat → Nat) (cI cZ : ClassId) (A : Nat → Prop) (y : MethodName) (ws : List Jvm.Cond) (rm : Room) (n : Nat) (sem : MT) : Prop := ∀ (As : List AV) (S : XS) (R0 : RS), As.length = n → sem As S = some R0 → R0.2 = none → vx_Met l y ws rm (va_Pc (As.map (cv g)) (xPre D T g cI cZ A S)) (xQ D T g cI cZ A R0) (xXC D T g cI cZ A R0) 1 6 A
section XCT
variable {p : Program} {l : Launch} {e : Env} {R : Room} {s : State} {m : MethodId} {args : Array Value} {below : List Frame} {meth : Method} {c : Code} {cells slots : Nat} {Q : State → Prop} {D : va_G} {T : List WE} {g : Nat → Nat} {cI cZ : ClassId} {A : Nat → Prop} {nL : Nat} {cc : ByteArray} {own : String} {R0 : RS} {Ts ws ws' : List Jvm.Cond} {y : MethodName} {bytes : ByteArray} {maxL idx n rk ci : Nat} {ret : Option FieldType} {rm rmT : Room} {sem : MT} {C : String} {Tf : u_T} {N : Nat} {host : String}
/-- a callee that may throw, where the method itself returns -/
theorem xcf_R (C0 : xC p s m c D T g cI cZ A nL cc own) (hts : ∀ w ∈ Ts, w.before args s = true) (hN : xNw s) (hM : xMetR l D T g cI cZ A y ws rm (n + 1) sem) (hR0 : R0.2 ≠ none) (hG : GoodIn Ts (wsV own idx C y ws)) (hw : ws = Jvm.Cond.code y bytes maxL ret :: ws') (hrm : rm.cells = 0 ∧ rm.slots = 0) (hc : vwCl[ci]? = some (C, Tf, N))
    (hd : y.cls = C ∧ y.cls ≠ "java/lang/invoke/MethodHandle" ∧ y.cls ≠ "java/lang/invoke/VarHandle" ∧ (parseMethodDescriptor y.desc).map (fun d => d.parameters.length) = some n) (hR : rm.frames + 1 ≤ R.frames ∧ 8 + (maxL + 11) + rm.locals ≤ R.locals) (hf : cells ≤ R.cells ∧ slots ≤ R.slots) :
    xCF p l e R s m args below meth c cells slots Q D T g cI cZ A nL cc R0 (false, idx, n + 1, rk, ci, sem) := by
  intro pc lv As rest S o hlen hrest hdg hrc hsem hk
  have ho : o.2 ≠ none := by
    intro e0
    rw [e0] at hk
    exact hR0 (by rw [hk])
  exact xcf_V1 C0 hts hN (hM As S o hlen hsem ho) hG hw hrm hc hd hR hf pc lv hlen hrest hdg (hrc.resolve_left Bool.false_ne_true) hk
/-- .. and where it may throw -/
theorem xcf_T (C0 : xC p s m c D T g cI cZ A nL cc own) (hts : ∀ w ∈ Ts, w.before args s = true) (hN : xNw s) (hM : xMetR l D T g cI cZ A y ws rm (n + 1) sem) (hMT : xMetT l D T g cI cZ A y ws rmT (n + 1) sem) (hout : ∀ x ∈ c.exceptionTable.toList, False) (hlocks : meth.locks = false) (hG : GoodIn Ts (wsV own idx C y ws)) (hw : ws = Jvm.Cond.code y bytes maxL ret :: ws') (hrm : rm.cells = 0 ∧ rm.slots = 0) (hrmT : rmT.cells = 1 ∧ rmT.slots = 6) (hc : vwCl[ci]? = some (C, Tf, N))
    (hd : y.cls = C ∧ y.cls ≠ "java/lang/invoke/MethodHandle" ∧ y.cls ≠ "java/lang/invoke/VarHandle" ∧ (parseMethodDescriptor y.desc).map (fun d => d.parameters.length) = some n) (hR : rm.frames + 1 ≤ R.frames ∧ 8 + (maxL + 11) + rm.locals ≤ R.locals) (hRT : rmT.frames + 1 ≤ R.frames ∧ 8 + (maxL + 11) + rmT.locals ≤ R.locals) (hf : 1 ≤ R.cells ∧ 6 ≤ R.slots) :
    xCF p l e R s m args below meth c 0 0 (vx_MQ below (xQ D T g cI cZ A R0) (xXC D T g cI cZ A R0) args s 1 6 A) D T g cI cZ A nL cc R0 (false, idx, n + 1, rk, ci, sem) := by
  intro pc lv As rest S o hlen hrest hdg hrc hsem hk
  cases ho : o.2 with
  | some v => exact xcf_V1 C0 hts hN (hM As S o hlen hsem (by rw [ho]; exact fun h => by cases h)) hG hw hrm hc hd hR ⟨Nat.zero_le _, Nat.zero_le _⟩ pc lv hlen hrest hdg (hrc.resolve_left Bool.false_ne_true) hk
  | none =>
    rw [ho] at hk
    have hR0 : R0 = (o.1, none) := hk
    obtain ⟨hx, hb, hml, hown, hKK, hDD, hst⟩ := C0
    intro H locs ls hP hS hl
    obtain ⟨k0, fds, t, rfl, hT⟩ := rcv_some (hrc.resolve_left Bool.false_ne_true)
    have e0 : ((Sum.inr k0 :: t).reverse ++ rest).map (cv g) = (t.map (cv g)).reverse ++ Value.ref (g k0) :: rest.map (cv g) := by
      simp [cv]
    rw [e0]
    have hr := vx_runV (l := l) (locs := locs) (cells := 0) (slots := 0) (below := below) (meth := meth) (e := e) (R := R) (g := F0 m pc ls ((t.map (cv g)).reverse ++ Value.ref (g k0) :: rest.map (cv g))) (As := t.map (cv g)) (rest := rest.map (cv g)) ⟨hx, hb, hml, hown, hts⟩ (hMT _ S o hlen hsem ho) (cwV n hts hG hw hrmT.1 hrmT.2 hd hRT) ⟨xPre_blind, va_recv hKK hP hc (ww_get hT), fun U hU hW => ⟨rfl, by rw [hU]; exact hP, va_K.moved hW.alike hKK, hN.warm hW, hst.on hS hU hW⟩⟩ rfl (by rw [List.length_map]; exact Nat.succ.inj hlen) hl.1 rfl (lv_room (by rw [map_cat]; exact hrest)) hdg ⟨by simpa using hf.1, by simpa using hf.2⟩
    intro T0 hT0 X
    rcases hr T0 hT0 X with ⟨v, st₀, t1, T', L, h0, X', hL, e1, e2, ⟨⟨v0, hv0, hv1, hP1⟩, hF⟩, st⟩ | ⟨q, st₀, t1, T', L, E, ce, h0, X', hL, e1, e2, ⟨hE, -, hP1, hF⟩, hce, hcv, hcl, st⟩
    · rw [ho] at hv0; cases hv0
    · have hz := hF.1
      have hkk := hF.2
      rw [h0] at hz hkk
      have hS' : va_S A s.heap T'.heap (locs ++ L) := by
        refine ⟨Nat.le_trans hS.1 (by rw [e1]; exact hz), fun q h1 h2 => ?_, fun q hq => ?_⟩
        · rw [e1, hkk q (Nat.lt_of_lt_of_le h1 hS.1) h2]
          exact hS.2.1 q h1 h2
        · rcases List.mem_append.mp hq with h | h
          · exact hS.2.2 q h
          · exact hL q h
      have K := vx_out (p := p) (l := l) (e := e) (R := R) (s := s) (m := m) (args := args) (below := below) (meth := meth) (c := c) (H := T'.heap) (locs := locs ++ L) (cells := 0 + 1) (slots := 0 + 6) (pc := pc) (ls := ls) (rest := rest.map (cv g)) (E := E) (ce := ce) (q := q) (mc := 1) (ms := 6) (free := A) (Qc := xQ D T g cI cZ A R0) (XC := xXC D T g cI cZ A R0) (fun x hx => (hout x hx).elim) hlocks (by rw [e1]; exact hce) hcv hcl
        (fun t2 ht2 hal => ⟨hE, by rw [hR0], by rw [ht2, e1, hR0]; exact hP1, hS'.F ht2⟩) hS'.2.2 (Nat.le_refl _) (Nat.le_refl _)
      obtain ⟨t2, a1, b1⟩ := K T' rfl X'
      exact ⟨t2, st.trans a1, b1⟩
end XCT
set_option maxHeartbeats 1000000 in
/-- a method that throws -/
theorem xa_metT1 {l : Launch} {D : va_G} {T : List WE} {g : Nat → Nat} {cI cZ : ClassId} {A : Nat → Prop} {y : MethodName} {rm : Room} {n nL zb : Nat} {cc : ByteArray} {cs : List CT} {L : List CE} {As : List AV} {S : XS} {R0 : RS} {ft : List (Nat × Nat × Nat)} {pt : List (Nat × Nat × Nat × Nat)} {kt : List (Nat × Int32)}
    (hD : ∀ S, va_D A (ww T g cI cZ S)) (hy : plainName y.cls = true) (hn : n ≤ nL) (hlen : As.length = n) (hR0 : R0.2 = none) (hL : ∀ q ∈ L, rok cc nL zb q = true) (hF : ∀ q ∈ L, fck ft pt kt q = true)
    (hfacts : ∀ (s : State) (args : Array Value), (∀ w ∈ wA, w.before args s = true) → xNw s → (∀ q ∈ ft, xFt s args y.cls q) ∧ (∀ q ∈ pt, xPt s args y.cls q) ∧ ∀ q ∈ kt, (Jvm.Cond.constant y.cls q.1 q.2).before args s = true)
    (hcs : ∀ (p : Program) (e : Env) (s : State) (m : MethodId) (args : Array Value) (below : List Frame) (meth : Method) (c : Code), xC p s m c D T g cI cZ A nL cc y.cls → (∀ w ∈ wm y cc nL zb, w.before args s = true) → xNw s → (∀ x ∈ c.exceptionTable.toList, False) → meth.locks = false → ∀ (j : Nat) (q : CT), cs[j]? = some q → xCF p l e rm s m args below meth c 0 0 (vx_MQ below (xQ D T g cI cZ A R0) (xXC D T g cI cZ A R0) args s 1 6 A) D T g cI cZ A nL cc R0 q)
    (hb : ∀ (p : Program) (e : Env) (s : State) (m : MethodId) (args : Array Value) (below : List Frame) (meth : Method) (c : Code), (∀ w ∈ wA, w.before args s = true) → xNw s → (∀ x ∈ c.exceptionTable.toList, False) → meth.locks = false → xM p l e rm s m args below meth c 0 0 (vx_MQ below (xQ D T g cI cZ A R0) (xXC D T g cI cZ A R0) args s 1 6 A) D T g cI cZ A nL cc y.cls zb cs L R0 → xG p l e rm s m args below meth c 0 0 (vx_MQ below (xQ D T g cI cZ A R0) (xXC D T g cI cZ A R0) args s 1 6 A) D T g cI cZ A nL 0 (zipN 0 As) [] S) :
    vx_Met l y (wm y cc nL zb) rm (va_Pc (As.map (cv g)) (xPre D T g cI cZ A S)) (xQ D T g cI cZ A R0) (xXC D T g cI cZ A R0) 1 6 A := by
  refine vx_ofW (cc := cc) (maxL := nL) (ret := rety zb) hy rfl ?_
  intro p e s m args below meth c s₁ B hml hout hv
  obtain ⟨rfl, hP, hK, hN, hst⟩ := hv
  have hx := B.exec
  have hbb := B.bytes
  have hts := atoms_spec (ws := wm y cc nL zb) B.pre
  have hts2 : ∀ w ∈ wA, w.before (As.map (cv g)).toArray s = true := fun w hw => hts w (List.mem_cons_of_mem _ hw)
  have hown : s.vm.findClass y.cls = some m.cls := findClass_of_methodNamed B.named
  have hlocks : meth.locks = false := B.notSynchronized
  have C0 : xC p s m c D T g cI cZ A nL cc y.cls := ⟨hx, hbb, hml, hown, hK, hD, hst⟩
  obtain ⟨f1, f2, f3⟩ := hfacts s _ hts2 hN
  have hl := lv_entry (As.map (cv g)) (n := nL) (by rw [sl_len, hlen]; exact hn)
  rw [lg_entry_eq]
  generalize (lg_sl (As.map (cv g)) ++ List.replicate (nL - (lg_sl (As.map (cv g))).length) Slot.unset).toArray = ls at hl ⊢
  rw [zip_args] at hl
  exact hb p e s m _ below meth c hts2 hN hout hlocks ⟨C0, hcs p e s m _ below meth c C0 hts hN hout hlocks, fun pc S v H locs ls e0 _ _ _ => absurd hR0 (by rw [e0]; exact fun h => by cases h), hL, fun q hq => xF_of f1 f2 f3 (hF q hq)⟩ s.heap [] ls hP va_S.rf hl
