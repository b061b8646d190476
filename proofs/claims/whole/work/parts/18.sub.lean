/-! Constructors: a group 'this.f = new C()' of a nest mate's private constructor. -/
section XU
variable {p : Program} {l : Launch} {e : Env} {R : Room} {s : State} {m : MethodId} {args : Array Value} {below : List Frame} {meth : Method} {c : Code} {H : Heap} {locs : List Loc} {cells slots : Nat} {Q : State → Prop} {D : va_G} {A : Nat → Prop} {cc : ByteArray} {own C host : String} {ls : Array Slot} {Tf Tc : u_T} {N Nc ci cj k idx1 idx2 idx3 pc h0 nL maxL mc ms : Nat} {fs fs0 : List Value} {ws : va_W} {cI cZ : ClassId} {gs : Nat → Nat} {y : MethodName} {bytes : ByteArray} {Ts wy wy' : List Jvm.Cond} {rm : Room} {W1 : Nat → (Nat → Nat) → va_W} {tyc : Nat → FieldType}
theorem va_D.apart_app {A : Nat → Prop} {a b : va_W} (ha : va_D A a) (hb : va_D A b) (h : ∀ (i j : Nat) (x y : Nat × va_E), a[i]? = some x → b[j]? = some y → x.1 ≠ y.1) : va_D A (a ++ b) := va_D.app ha hb h
theorem xn_sub (hx : p.tables.exec = Jvm.exec) (hb : c.code = cc) (hml : c.maxLocals = nL) (hown : s.vm.findClass own = some m.cls) (hts : ∀ w ∈ Ts, w.before args s = true) (hin : meth.name = "<init>") (hK : va_K D vwCl [(cI, .int), (cZ, .boolean)] s) (hN : xNw s) (hst : xSt gs A s s.heap) (hA : ∀ q, s.heap.size ≤ q → A q) (hc : vwCl[ci]? = some (own, Tf, N)) (hw : ∀ w ∈ u_ws own Tf N, w.before args s = true)
    (hcc : vwCl[cj]? = some (C, Tc, Nc)) (hwc : ∀ w ∈ u_ws C Tc Nc, w.before args s = true) (htc : ∀ k, k < Nc → parseFieldDescriptor (Tc k).2.2.1 = some (tyc k)) (hfs : ∀ j, j < Nc → defaultValue (tyc j) = vp_V fs0 j)
    (hM : ∀ (q sz : Nat), Met l y wy rm (va_Pc [.ref q] (iPre D cI cZ gs (va_A [(q, .inr (cj, fs0))] sz) [(q, .inr (cj, fs0))] sz)) (iQ D (va_A [(q, .inr (cj, fs0))] sz) (W1 q)) mc ms (va_A [(q, .inr (cj, fs0))] sz))
    (hG : GoodIn Ts wy) (hwy : wy = Jvm.Cond.code y bytes maxL none :: wy') (hrm : rm.cells = mc ∧ rm.slots = ms) (hyn : y.name = "<init>") (hln : Jvm.Cond.methodLinkNest own idx2 y host ∈ nwl) (hini2 : Jvm.Cond.initialized y.cls ∈ Ts) (him : Jvm.Cond.instanceMethod y ∈ Ts)
    (hdd : y.cls ≠ "java/lang/invoke/MethodHandle" ∧ y.cls ≠ "java/lang/invoke/VarHandle" ∧ (parseMethodDescriptor y.desc).map (fun d => d.parameters.length) = some 0) (hR : rm.frames + 1 ≤ R.frames ∧ 8 + (maxL + 11) + rm.locals ≤ R.locals)
    (hcl : Jvm.Cond.classLink own idx1 C ∈ Ts) (hinst : Jvm.Cond.instantiable C Nc ∈ Ts) (hini : Jvm.Cond.initialized C ∈ Ts)
    (hls : ls.size = nL) (hl0 : ls[0]? = some (.val (.ref h0)))
    (hP : va_P D vwCl ((h0, .inr (ci, fs)) :: ws) H) (hD : va_D A ((h0, .inr (ci, fs)) :: ws)) (hS : va_S A s.heap H locs)
    (k : Nat) (hk : k < N) (hkf : k < fs.length) (hfin : (Tf k).2.2.2 = true) (hdecl : (Tf k).1 = own) (hdesc : parseFieldDescriptor (Tf k).2.2.1 = some (.object C)) (hlink : (Jvm.Cond.fieldLink own idx3 own (Tf k).2.1 (Tf k).2.2.1).before args s = true)
    (d0 : decode cc pc = .ok (.aload_n 0, 1)) (d1 : decode cc (pc + 1) = .ok (.new idx1, 3)) (d4 : decode cc (pc + 4) = .ok (.dup, 1)) (d5 : decode cc (pc + 5) = .ok (.invokespecial idx2, 3)) (d8 : decode cc (pc + 8) = .ok (.putfield idx3, 3))
    (hcells : cells + 1 + mc ≤ R.cells) (hslots : slots + Nc + ms ≤ R.slots)
    (kk : ∀ (q : Nat) (a : Nat → Nat) (H1 : Heap) (locs1 : List Loc), va_P D vwCl ((h0, .inr (ci, fs.set k (.ref q))) :: (ws ++ W1 q a)) H1 → va_D A ((h0, .inr (ci, fs.set k (.ref q))) :: (ws ++ W1 q a)) → va_S A s.heap H1 locs1 → W p l e R s m args below meth c H1 locs1 (cells + 1 + mc) (slots + Nc + ms) Q (F0 m (pc + 11) ls [])) :
    W p l e R s m args below meth c H locs cells slots Q (F0 m pc ls []) := by
  refine lv_aload_n hx hb d0 rfl hl0 ?_
  refine va_new (ci := cj) (fs := fs0) (C := C) (T := Tc) (N := Nc) hx hb hwc (fun _ q => q) tyc htc hown (hts _ hcl) (hts _ hinst) (hts _ hini) hK hP hD hS hA hcc hfs (by omega) (by omega) d1 (fun q H1 hP1 hD1 hS1 => ?_)
  refine lv_dup hx hb d4 rfl ?_
  have hq : (((h0, .inr (ci, fs)) :: ws) ++ [(q, .inr (cj, fs0))])[ws.length + 1]? = some (q, .inr (cj, fs0)) := by
    rw [List.getElem?_append_right (by simp)]
    simp
  have hPc : va_P D vwCl [(q, .inr (cj, fs0))] H1 := fun k x hx => by
    have hz : k < 1 := (List.getElem?_eq_some_iff.mp hx).1
    rw [show k = 0 by omega] at hx
    cases hx
    exact hP1 _ _ hq
  have hDc : va_D (fun _ => True) [(q, .inr (cj, fs0))] := ⟨fun i j x y hx hy _ => by
    have h1 : i < 1 := (List.getElem?_eq_some_iff.mp hx).1
    have h2 : j < 1 := (List.getElem?_eq_some_iff.mp hy).1
    omega, fun _ _ _ => trivial⟩
  have hFc : ∀ x, va_A [(q, .inr (cj, fs0))] H1.size x → A x := va_free (wc := [(q, .inr (cj, fs0))]) hD1 hS1 hA [ws.length + 1] (by simp only [List.map_cons, List.map_nil, hq])
  have hpre : ∀ (i : Nat) (x : Nat × va_E), ((h0, .inr (ci, fs)) :: ws)[i]? = some x → i < ws.length + 1 ∧ (((h0, .inr (ci, fs)) :: ws) ++ [(q, .inr (cj, fs0))])[i]? = some x := fun i x hx => by
    have h1 : i < ((h0, (.inr (ci, fs) : va_E)) :: ws).length := (List.getElem?_eq_some_iff.mp hx).1
    refine ⟨by simpa using h1, ?_⟩
    rw [List.getElem?_append_left h1]
    exact hx
  refine va_callv (va_runIN (As := []) (rest := [.ref q, .ref h0]) ⟨hx, hb, hml, hown, hts⟩ (hM q H1.size) ⟨va_cnB 0 hts hG hwy hrm.1 hrm.2 (hN _ hln) (hts _ hini2) hdd hR, hyn, hts _ him⟩ ⟨fun a U g mk q => by
      obtain ⟨q0, q1, qP, qK, qN, qS, qD⟩ := q
      exact ⟨q0, q1, qP, va_K.moved (u := U) (U := U.calling g mk a) (Vm.Alike.refl U.vm) qK, xNw.same (s := U) (U := U.calling g mk a) rfl qN, ⟨fun o ho => ⟨va_Z.moved (u := U) (U := U.calling g mk a) (Vm.Alike.refl U.vm) (qS.1 o ho).1, va_T.moved (u := U) (U := U.calling g mk a) (Vm.Alike.refl U.vm) (qS.1 o ho).2⟩, ⟨vx_Zq.moved (u := U) (U := U.calling g mk a) (Vm.Alike.refl U.vm) qS.2.1.1, vx_Zq.moved (u := U) (U := U.calling g mk a) (Vm.Alike.refl U.vm) qS.2.1.2⟩, vk_R.same (u := U) (U := U.calling g mk a) rfl qS.2.2⟩, qD⟩,
      fun U hU hW => ⟨rfl, by rw [hU], by rw [hU]; exact hPc, va_K.moved hW.alike hK, hN.warm hW, (hst.on hS1 hU hW).narrow hFc, hDc⟩⟩ rfl rfl hls rfl (lv_room (Nat.le_of_ble_eq_true rfl)) d5 ⟨by omega, by omega⟩) hS1 (fun q _ h => hFc q h) hFc (fun u t H2 locs2 ht hvm hw2 hB hz1 hk1 hS2 => ?_)
  obtain ⟨hP2, hD2⟩ := hB
  rw [ht] at hP2
  have hne : ∀ (i : Nat) (x : Nat × va_E), ((h0, .inr (ci, fs)) :: ws)[i]? = some x → x.1 < H1.size ∧ ¬ va_A [(q, .inr (cj, fs0))] H1.size x.1 := fun i x hx => by
    obtain ⟨h1, h2⟩ := hpre i x hx
    have hlt := (hP1 i x h2).lt
    refine ⟨hlt, fun h => ?_⟩
    rcases h with ⟨k2, e2, h3⟩ | h3
    · have hz : k2 < 1 := (List.getElem?_eq_some_iff.mp h3).1
      rw [show k2 = 0 by omega] at h3
      have h4 : x.1 = q := by cases h3; rfl
      have := hD1.1 i (ws.length + 1) x (q, .inr (cj, fs0)) h2 hq h4
      omega
    · omega
  have hPr : va_P D vwCl ((h0, .inr (ci, fs)) :: ws) H2 := fun i x hx => (hP1 i x (hpre i x hx).2).kept (hk1 x.1 (hne i x hx).1 (hne i x hx).2)
  have hP3 : va_P D vwCl (((h0, .inr (ci, fs)) :: ws) ++ W1 q u) H2 := hPr.app hP2
  have hD3 : va_D A (((h0, .inr (ci, fs)) :: ws) ++ W1 q u) := va_D.app hD (hD2.weaken (fun k x _ h => hFc x.1 h)) (fun i j x y hx hy hxy => (hne i x hx).2 (by rw [hxy]; exact hD2.2 j y hy))
  obtain ⟨ty0, hty, hnm⟩ := vw_known _ _ _ _ hc
  exact va_putF (D := D) (ci := ci) (v := .ref q) (ty := .object C) (C := own) (T := Tf) (N := N) hx hb hw (fun _ q => q) ty0 hty hnm hown hK hP3 hD3 hS2 0 rfl hc k hk hlink (fun x h => by rw [hdecl] at h; exact h) hfin hin hdecl hdesc rfl rfl hkf d8 (fun H4 locs4 hP4 hD4 hS4 => kk q u H4 locs4 hP4 hD4 hS4)
end XU
