/-! The law's calls. -/
theorem good_Vt {y : MethodName} {cc : ByteArray} {nL zb idx : Nat} {own C : String} (h1 : Jvm.Cond.methodLink own idx y ∈ wA) (h2 : Jvm.Cond.instanceMethod y ∈ wA) (h3 : Jvm.Cond.selects C y y ∈ wA) (h4 : Jvm.Cond.initialized C ∈ wA) (h5 : Jvm.Cond.code y cc nL (rety zb) ∈ wA) : GoodIn lw_tbl (wsV own idx C y (wm y cc nL zb)) := by
  intro w hw
  have h : w ∈ wA := by
    rcases List.mem_append.mp hw with q | q
    · simp only [List.mem_cons, List.not_mem_nil, or_false] at q
      rcases q with q | q | q | q <;> rw [q] <;> assumption
    · rcases List.mem_cons.mp q with q | q
      · rw [q]; exact h5
      · exact q
  exact ⟨wA_in w h, good_of_word (wA_good w h)⟩
theorem good_St {w0 : Jvm.Cond} {y : MethodName} {idx : Nat} {own : String} (h1 : Jvm.Cond.methodLink own idx y ∈ wA) (h2 : Jvm.Cond.static y ∈ wA) (h4 : Jvm.Cond.initialized y.cls ∈ wA) (h5 : w0 ∈ wA) : GoodIn lw_tbl (va_wsS own idx y (w0 :: wA)) := by
  intro w hw
  have h : w ∈ wA := by
    rcases List.mem_append.mp hw with q | q
    · simp only [List.mem_cons, List.not_mem_nil, or_false] at q
      rcases q with q | q | q <;> rw [q] <;> assumption
    · rcases List.mem_cons.mp q with q | q
      · rw [q]; exact h5
      · exact q
  exact ⟨wA_in w h, good_of_word (wA_good w h)⟩
theorem wPre_blind {D : va_G} {g : Nat → Nat} {cI cZ cJ : ClassId} {qo : Nat} {A : Nat → Prop} {S : XS} {f : Nat → Int64} {av : List Value} : FrameBlind (va_Pc av (wPre D g cI cZ cJ qo A S f)) := fun a U g mk q => by
  obtain ⟨q0, qP, qK, qN, qS⟩ := q
  exact ⟨q0, qP, va_K.moved (u := U) (U := U.calling g mk a) (Vm.Alike.refl U.vm) qK, xNw.same (s := U) (U := U.calling g mk a) rfl qN, fun o ho => ⟨va_Z.moved (u := U) (U := U.calling g mk a) (Vm.Alike.refl U.vm) (qS.1 o ho).1, va_T.moved (u := U) (U := U.calling g mk a) (Vm.Alike.refl U.vm) (qS.1 o ho).2⟩, ⟨vx_Zq.moved (u := U) (U := U.calling g mk a) (Vm.Alike.refl U.vm) qS.2.1.1, vx_Zq.moved (u := U) (U := U.calling g mk a) (Vm.Alike.refl U.vm) qS.2.1.2⟩, vk_R.same (u := U) (U := U.calling g mk a) rfl qS.2.2⟩
section LCS
variable {p : Program} {l : Launch} {e : Env} {R : Room} {s : State} {m : MethodId} {args : Array Value} {below : List Frame} {meth : Method} {c : Code} {cells slots : Nat} {Q : State → Prop} {D : va_G} {T : List WE} {g : Nat → Nat} {cI cZ cJ : ClassId} {qo : Nat} {A : Nat → Prop} {nL : Nat} {cc : ByteArray} {own C : String} {Tf : u_T} {N : Nat} {fds : List (Option Nat)} {Ts wy wy' : List Jvm.Cond} {y : MethodName} {bytes : ByteArray} {maxL idx n pc ci mc ms : Nat} {ret : Option FieldType} {hh : List (Nat × Nat × Nat × Nat)} {rm : Room} {S S1 : XS} {f f1 : Nat → Int64} {r : Int32} {t : List AV} {av : List Value} {ls : Array Slot} {rest : List Value} {H : Heap} {locs : List Loc}
theorem lc_call (hx : p.tables.exec = Jvm.exec) (hb : c.code = cc) (hml : c.maxLocals = nL) (hown : s.vm.findClass own = some m.cls) (hts : ∀ w ∈ Ts, w.before args s = true) (hK : va_K D vwCl [(cI, .int), (cZ, .boolean), (cJ, .long)] s) (hN : xNw s) (hst : xSt g (fun q => s.heap.size ≤ q) s s.heap) (hAL : ∀ q, A q → s.heap.size ≤ q) (hls : ls.size = nL)
    (hM : Met l y wy rm (va_Pc ((Sum.inr 0 :: t).map (cv g)) (xPre D T g cI cZ A S)) (xQ D T g cI cZ A (S1, some (some (.inl r)))) 0 0 A) (hlen : t.length = n) (hG : GoodIn Ts (wsV own idx C y wy)) (hw : wy = Jvm.Cond.code y bytes maxL ret :: wy') (hrm : rm.cells = 0 ∧ rm.slots = 0) (hT : T[0]? = some (.inr (ci, fds))) (hc : vwCl[ci]? = some (C, Tf, N))
    (hd : y.cls = C ∧ y.cls ≠ "java/lang/invoke/MethodHandle" ∧ y.cls ≠ "java/lang/invoke/VarHandle" ∧ (parseMethodDescriptor y.desc).map (fun d => d.parameters.length) = some n) (hR : rm.frames + 1 ≤ R.frames ∧ 8 + (maxL + 11) + rm.locals ≤ R.locals) (hf : cells ≤ R.cells ∧ slots ≤ R.slots)
    (hrest : (rest.map fun v => v.category).sum ≤ 8) (hdg : decode cc pc = .ok (.invokevirtual idx, 3)) (hP : va_P D vwCl (ww T g cI cZ S) H) (hS : va_S (fun q => s.heap.size ≤ q) s.heap H locs)
    (kk : ∀ (H1 : Heap) (locs1 : List Loc), va_P D vwCl (ww T g cI cZ S1) H1 → (∀ q : Nat, q < H.size → ¬ A q → H1[q]? = H[q]?) → va_S (fun q => s.heap.size ≤ q) s.heap H1 locs1 → W p l e R s m args below meth c H1 locs1 cells slots Q (F0 m (pc + 3) ls (.int r :: rest))) :
    W p l e R s m args below meth c H locs cells slots Q (F0 m pc ls ((t.map (cv g)).reverse ++ Value.ref (g 0) :: rest)) := by
  have hKx : va_K D vwCl [(cI, .int), (cZ, .boolean)] s := hK.sub [0, 1] rfl
  have hr := va_runV (l := l) (locs := locs) (cells := cells) (slots := slots) (below := below) (meth := meth) (e := e) (R := R) (H := H) (g := F0 m pc ls ((t.map (cv g)).reverse ++ Value.ref (g 0) :: rest)) (As := t.map (cv g)) (b := g 0) (rest := rest) ⟨hx, hb, hml, hown, hts⟩ hM (cwV n hts hG hw hrm.1 hrm.2 hd hR) ⟨xPre_blind, va_recv hKx hP hc (ww_get hT), fun U hU hW => ⟨rfl, by rw [hU]; exact hP, va_K.moved hW.alike hKx, hN.warm hW, (hst.on hS hU hW).narrow hAL⟩⟩ rfl (by rw [List.length_map]; exact hlen) hls rfl (lv_room hrest) hdg ⟨hf.1, hf.2⟩
  intro T0 hT0 X
  obtain ⟨v, st₀, t1, T', L, h0, X', hL, e1, e2, ⟨⟨v0, hv0, hv1, hP1⟩, hz, hkk⟩, st⟩ := hr T0 hT0 X
  cases hv1
  cases hv0
  rw [h0] at hz hkk
  have hS' : va_S (fun q => s.heap.size ≤ q) s.heap T'.heap (locs ++ L) := by
    refine ⟨Nat.le_trans hS.1 (by rw [e1]; exact hz), fun q h1 h2 => ?_, fun q hq => ?_⟩
    · rw [e1, hkk q (Nat.lt_of_lt_of_le h1 hS.1) (fun h => h2 (hAL q h))]
      exact hS.2.1 q h1 h2
    · rcases List.mem_append.mp hq with h | h
      · exact hS.2.2 q h
      · exact hAL _ (hL q h)
  obtain ⟨t2, a1, b1⟩ := kk T'.heap (locs ++ L) (by rw [e1]; exact hP1) (fun q h1 h2 => by rw [e1]; exact hkk q h1 h2) hS' T' rfl X'
  exact ⟨t2, st t2 a1, b1⟩
theorem lc_wrap (hx : p.tables.exec = Jvm.exec) (hb : c.code = cc) (hml : c.maxLocals = nL) (hown : s.vm.findClass own = some m.cls) (hts : ∀ w ∈ Ts, w.before args s = true) (hK : va_K D vwCl [(cI, .int), (cZ, .boolean), (cJ, .long)] s) (hN : xNw s) (hst : xSt g (fun q => s.heap.size ≤ q) s s.heap) (hAL : ∀ q, A q → s.heap.size ≤ q) (hqL : s.heap.size ≤ qo) (hls : ls.size = nL)
    (hM : Met l y wy rm (va_Pc av (wPre D g cI cZ cJ qo A S f)) (wQ D g cI cZ cJ qo A r S1 f1) mc ms (fun q => A q ∨ q = qo)) (hlen : av.length = n) (hG : GoodIn Ts (va_wsS own idx y wy)) (hw : wy = Jvm.Cond.codeWith y bytes maxL ret hh :: wy') (hrm : rm.cells = mc ∧ rm.slots = ms)
    (hd : y.cls ≠ "java/lang/invoke/MethodHandle" ∧ y.cls ≠ "java/lang/invoke/VarHandle" ∧ (parseMethodDescriptor y.desc).map (fun d => d.parameters.length) = some n) (hR : rm.frames + 1 ≤ R.frames ∧ 8 + (maxL + 11) + rm.locals ≤ R.locals) (hf : cells + mc ≤ R.cells ∧ slots + ms ≤ R.slots)
    (hrest : (rest.map fun v => v.category).sum ≤ 8) (hdg : decode cc pc = .ok (.invokestatic idx, 3)) (hP : va_P D vwCl (ww xT g cI cZ S) H) (hO : va_at D vwCl (qo, .inl (cJ, 1, .inr (.inl f))) H) (hS : va_S (fun q => s.heap.size ≤ q) s.heap H locs)
    (kk : ∀ (H1 : Heap) (locs1 : List Loc), va_P D vwCl (wo g cI cZ cJ qo S1 f1) H1 → (∀ q : Nat, q < H.size → ¬ (A q ∨ q = qo) → H1[q]? = H[q]?) → va_S (fun q => s.heap.size ≤ q) s.heap H1 locs1 → W p l e R s m args below meth c H1 locs1 (cells + mc) (slots + ms) Q (F0 m (pc + 3) ls (.int r :: rest))) :
    W p l e R s m args below meth c H locs cells slots Q (F0 m pc ls (av.reverse ++ rest)) := by
  have hAL2 : ∀ q, (A q ∨ q = qo) → s.heap.size ≤ q := fun q h => h.elim (hAL q) (fun e => by rw [e]; exact hqL)
  have hr := vx_runSW (l := l) (locs := locs) (cells := cells) (slots := slots) (below := below) (meth := meth) (e := e) (R := R) (H := H) (g := F0 m pc ls (av.reverse ++ rest)) (As := av) (rest := rest) ⟨hx, hb, hml, hown, hts⟩ hM (vx_cwSW n hts hG hw hrm.1 hrm.2 hd hR) ⟨wPre_blind, fun U hU hW => ⟨rfl, by rw [hU]; exact wo_mk hP hO, va_K.moved hW.alike hK, hN.warm hW, (hst.on hS hU hW).narrow hAL⟩⟩ rfl hlen hls rfl (lv_room hrest) hdg ⟨hf.1, hf.2⟩
  intro T0 hT0 X
  obtain ⟨v, st₀, t1, T', L, h0, X', hL, e1, e2, ⟨⟨hv1, hP1⟩, hz, hkk⟩, st⟩ := hr T0 hT0 X
  cases hv1
  rw [h0] at hz hkk
  have hS' : va_S (fun q => s.heap.size ≤ q) s.heap T'.heap (locs ++ L) := by
    refine ⟨Nat.le_trans hS.1 (by rw [e1]; exact hz), fun q h1 h2 => ?_, fun q hq => ?_⟩
    · rw [e1, hkk q (Nat.lt_of_lt_of_le h1 hS.1) (fun h => h2 (hAL2 q h))]
      exact hS.2.1 q h1 h2
    · rcases List.mem_append.mp hq with h | h
      · exact hS.2.2 q h
      · exact hAL2 _ (hL q h)
  obtain ⟨t2, a1, b1⟩ := kk T'.heap (locs ++ L) (by rw [e1]; exact hP1) (fun q h1 h2 => by rw [e1]; exact hkk q h1 h2) hS' T' rfl X'
  exact ⟨t2, st t2 a1, b1⟩
end LCS
/-- the law's own world, and what of it never changes -/
def LW (D : va_G) (cI cZ cJ : ClassId) (g gm : Nat → Nat) (qo : Nat) (S Sm : XS) (f : Nat → Int64) (H : Heap) : Prop := va_P D vwCl (ww xT g cI cZ S) H ∧ va_P D vwCl (ww mT gm cI cZ Sm) H ∧ va_at D vwCl (qo, .inl (cJ, 1, .inr (.inl f))) H
def LC (D : va_G) (cI cZ cJ : ClassId) (g gm : Nat → Nat) (qo : Nat) (AX AM : Nat → Prop) (s : State) : Prop :=
  (∀ S, va_D AX (ww xT g cI cZ S)) ∧ (∀ S, va_D AM (ww mT gm cI cZ S)) ∧ (∀ q, AX q → s.heap.size ≤ q) ∧ (∀ q, AM q → s.heap.size ≤ q) ∧ (¬ AX qo ∧ ¬ AM qo ∧ s.heap.size ≤ qo) ∧ (∀ k, k < 25 → ¬ AX (gm k)) ∧ (∀ k, k < 40 → ¬ AM (g k)) ∧ (∀ k, k < 25 → gm k ≠ qo) ∧ va_K D vwCl [(cI, .int), (cZ, .boolean), (cJ, .long)] s ∧ xNw s ∧ xSt g (fun q => s.heap.size ≤ q) s s.heap ∧ xSt gm (fun q => s.heap.size ≤ q) s s.heap
theorem mT_len : mT.length = 25 := by decide +kernel
theorem ww_addr {T : List WE} {g : Nat → Nat} {cI cZ : ClassId} {S : XS} {k : Nat} {q : Nat × va_E} (h : (ww T g cI cZ S)[k]? = some q) : q.1 = g k ∧ k < T.length := by
  unfold ww at h
  rw [List.getElem?_mapIdx] at h
  cases e : T[k]? with
  | none => rw [e] at h; cases h
  | some x =>
    rw [e] at h
    cases Option.some.inj h
    exact ⟨rfl, (List.getElem?_eq_some_iff.mp e).1⟩
theorem LW.x {D : va_G} {cI cZ cJ : ClassId} {g gm : Nat → Nat} {qo : Nat} {AX AM : Nat → Prop} {s : State} {S S1 Sm : XS} {f : Nat → Int64} {H H1 : Heap} (C : LC D cI cZ cJ g gm qo AX AM s) (h : LW D cI cZ cJ g gm qo S Sm f H) (h1 : va_P D vwCl (ww xT g cI cZ S1) H1) (hk : ∀ q : Nat, q < H.size → ¬ AX q → H1[q]? = H[q]?) : LW D cI cZ cJ g gm qo S1 Sm f H1 := by
  obtain ⟨-, -, -, -, ⟨c5, -, -⟩, c6, -, -, -, -, -, -⟩ := C
  refine ⟨h1, fun k q hq => ?_, h.2.2.kept (hk qo h.2.2.lt c5)⟩
  obtain ⟨e1, e2⟩ := ww_addr hq
  rw [mT_len] at e2
  exact (h.2.1 k q hq).kept (hk q.1 (h.2.1 k q hq).lt (by rw [e1]; exact c6 k e2))
theorem LW.m {D : va_G} {cI cZ cJ : ClassId} {g gm : Nat → Nat} {qo : Nat} {AX AM : Nat → Prop} {s : State} {S Sm1 Sm : XS} {f : Nat → Int64} {H H1 : Heap} (C : LC D cI cZ cJ g gm qo AX AM s) (h : LW D cI cZ cJ g gm qo S Sm f H) (h1 : va_P D vwCl (ww mT gm cI cZ Sm1) H1) (hk : ∀ q : Nat, q < H.size → ¬ AM q → H1[q]? = H[q]?) : LW D cI cZ cJ g gm qo S Sm1 f H1 := by
  obtain ⟨-, -, -, -, ⟨-, c5, -⟩, -, c7, -, -, -, -, -⟩ := C
  refine ⟨fun k q hq => ?_, h1, h.2.2.kept (hk qo h.2.2.lt c5)⟩
  obtain ⟨e1, e2⟩ := ww_addr hq
  rw [xT_len] at e2
  exact (h.1 k q hq).kept (hk q.1 (h.1 k q hq).lt (by rw [e1]; exact c7 k e2))
theorem LW.w {D : va_G} {cI cZ cJ : ClassId} {g gm : Nat → Nat} {qo : Nat} {AX AM : Nat → Prop} {s : State} {S S1 Sm : XS} {f f1 : Nat → Int64} {H H1 : Heap} (C : LC D cI cZ cJ g gm qo AX AM s) (h : LW D cI cZ cJ g gm qo S Sm f H) (h1 : va_P D vwCl (wo g cI cZ cJ qo S1 f1) H1) (hk : ∀ q : Nat, q < H.size → ¬ (AX q ∨ q = qo) → H1[q]? = H[q]?) : LW D cI cZ cJ g gm qo S1 Sm f1 H1 := by
  obtain ⟨-, -, -, -, -, c6, -, c8, -, -, -, -⟩ := C
  refine ⟨wo_x h1, fun k q hq => ?_, h1 40 _ wo_at⟩
  obtain ⟨e1, e2⟩ := ww_addr hq
  rw [mT_len] at e2
  exact (h.2.1 k q hq).kept (hk q.1 (h.2.1 k q hq).lt (by rw [e1]; exact fun hh => hh.elim (c6 k e2) (c8 k e2)))
