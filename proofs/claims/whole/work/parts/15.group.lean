/-! Constructors: a group 'this.f = new t[n]'. -/
def aTy (z : Bool) : ArrayType := bif z then .boolean else .int
def eTy (z : Bool) : FieldType := bif z then .boolean else .int
section XN
variable {p : Program} {l : Launch} {e : Env} {R : Room} {s : State} {m : MethodId} {args : Array Value} {below : List Frame} {meth : Method} {c : Code} {H : Heap} {locs : List Loc} {cells slots : Nat} {Q : State → Prop} {D : va_G} {A : Nat → Prop} {H0 : Heap} {cc : ByteArray} {own : String} {ls : Array Slot} {Tf : u_T} {N ci k idx pc pc1 n h0 : Nat} {v : Int32} {fs : List Value} {ws : va_W} {tys : List (ClassId × FieldType)} {cA : ClassId}
theorem xn_group (z : Bool) (hx : p.tables.exec = Jvm.exec) (hb : c.code = cc) (hown : s.vm.findClass own = some m.cls) (hin : meth.name = "<init>") (hK : va_K D vwCl tys s) (hA : ∀ q, H0.size ≤ q → A q) (hc : vwCl[ci]? = some (own, Tf, N)) (hw : ∀ w ∈ u_ws own Tf N, w.before args s = true)
    (harr : (Jvm.Cond.arrayClass (eTy z)).before args s = true) (hcA : s.vm.findClass ("[" ++ (eTy z).toString) = some cA) (hl0 : ls[0]? = some (.val (.ref h0)))
    (hP : va_P D vwCl ((h0, .inr (ci, fs)) :: ws) H) (hD : va_D A ((h0, .inr (ci, fs)) :: ws)) (hS : va_S A H0 H locs)
    (k : Nat) (hk : k < N) (hkf : k < fs.length) (hfin : (Tf k).2.2.2 = true) (hdecl : (Tf k).1 = own) (hdesc : parseFieldDescriptor (Tf k).2.2.1 = some (.array (eTy z))) (hlink : (Jvm.Cond.fieldLink own idx own (Tf k).2.1 (Tf k).2.2.1).before args s = true)
    (d0 : decode cc pc = .ok (.aload_n 0, 1)) (hpush : ∀ (st : List Value), W p l e R s m args below meth c H locs cells slots Q (F0 m pc1 ls (.int v :: st)) → W p l e R s m args below meth c H locs cells slots Q (F0 m (pc + 1) ls st))
    (dn : decode cc pc1 = .ok (.newarray (aTy z), 2)) (dp : decode cc (pc1 + 2) = .ok (.putfield idx, 3)) (hv : v.toNatClampNeg = n) (hv0 : ¬ v < 0) (hn : n ≤ 1000) (hcells : cells + 1 ≤ R.cells) (hslots : slots + n ≤ R.slots)
    (kk : ∀ (q : Nat) (H1 : Heap) (locs1 : List Loc), va_P D vwCl ((h0, .inr (ci, fs.set k (.ref q))) :: (ws ++ [(q, .inl (cA, n, .inl (fun _ => 0)))])) H1 → va_D A ((h0, .inr (ci, fs.set k (.ref q))) :: (ws ++ [(q, .inl (cA, n, .inl (fun _ => 0)))])) → va_S A H0 H1 locs1 → W p l e R s m args below meth c H1 locs1 (cells + 1) (slots + n) Q (F0 m (pc1 + 5) ls [])) :
    W p l e R s m args below meth c H locs cells slots Q (F0 m pc ls []) := by
  refine lv_aload_n hx hb d0 rfl hl0 ?_
  refine hpush _ ?_
  obtain ⟨ty0, hty, hnm⟩ := vw_known _ _ _ _ hc
  have key : ∀ (H1 : Heap), H1[H.size]? = some (arrV cA n (fun _ => .int 0)) → H1.size = H.size + 1 → (∀ q, q < H.size → H1[q]? = H[q]?) → W p l e R s m args below meth c H1 locs (cells + 1) (slots + n) Q (F0 m (pc1 + 2) ls [.ref H.size, .ref h0]) := by
    intro H1 e1 z1 o1
    have hk1 : ∀ (k : Nat) (x : Nat × va_E), ((h0, .inr (ci, fs)) :: ws)[k]? = some x → H1[x.1]? = H[x.1]? := fun k x hx => o1 x.1 ((hP k x hx).lt)
    have hP1 : va_P D vwCl (((h0, .inr (ci, fs)) :: ws) ++ [(H.size, .inl (cA, n, .inl (fun _ => 0)))]) H1 := (hP.kept hk1).app (fun k x hx => by
      have hz : k < 1 := (List.getElem?_eq_some_iff.mp hx).1
      rw [show k = 0 by omega] at hx
      cases hx
      exact e1)
    have hD1 : va_D A (((h0, .inr (ci, fs)) :: ws) ++ [(H.size, .inl (cA, n, .inl (fun _ => 0)))]) := hD.push hP rfl (hA _ hS.1)
    have hS1 : va_S A H0 H1 locs := ⟨Nat.le_trans hS.1 (by omega), fun x h1 h2 => (o1 x (Nat.lt_of_lt_of_le h1 hS.1)).trans (hS.2.1 x h1 h2), hS.2.2⟩
    exact va_putF (D := D) (ci := ci) (v := .ref H.size) (ty := .array (eTy z)) (C := own) (T := Tf) (N := N) hx hb hw (fun _ q => q) ty0 hty hnm hown hK hP1 hD1 hS1 0 rfl hc k hk hlink (fun x h => by rw [hdecl] at h; exact h) hfin hin hdecl hdesc (by cases z <;> rfl) (by cases z <;> rfl) hkf dp (fun H2 locs2 hP2 hD2 hS2 => kk H.size H2 locs2 hP2 hD2 hS2)
  cases z with
  | false =>
    have harr' : (Jvm.Cond.arrayClass (newarray.typeOf .int)).before args s = true := harr
    have dn' : decode cc pc1 = .ok (.newarray .int, 2) := dn
    have hcA' : s.vm.findClass ("[" ++ (newarray.typeOf .int).toString) = some cA := hcA
    have hby : n * componentBytes (newarray.typeOf .int) ≤ 536870912 := Nat.le_trans (Nat.mul_le_mul_right _ hn) (by decide)
    exact va_newaK (atype := .int) (g := F0 m pc1 ls [.int v, .ref h0]) (n := v) (N := n) (rest := [.ref h0]) (h := H.size) hx hb harr' rfl dn' rfl hv0 hv hby hcells hslots rfl (fun H1 cA1 e1 z1 o1 hAr hNm => by
      have e2 : cA1 = cA := Option.some.inj (hNm.symm.trans hcA')
      subst e2
      exact key H1 e1 z1 o1)
  | true =>
    have harr' : (Jvm.Cond.arrayClass (newarray.typeOf .boolean)).before args s = true := harr
    have dn' : decode cc pc1 = .ok (.newarray .boolean, 2) := dn
    have hcA' : s.vm.findClass ("[" ++ (newarray.typeOf .boolean).toString) = some cA := hcA
    have hby : n * componentBytes (newarray.typeOf .boolean) ≤ 536870912 := Nat.le_trans (Nat.mul_le_mul_right _ hn) (by decide)
    exact va_newaK (atype := .boolean) (g := F0 m pc1 ls [.int v, .ref h0]) (n := v) (N := n) (rest := [.ref h0]) (h := H.size) hx hb harr' rfl dn' rfl hv0 hv hby hcells hslots rfl (fun H1 cA1 e1 z1 o1 hAr hNm => by
      have e2 : cA1 = cA := Option.some.inj (hNm.symm.trans hcA')
      subst e2
      exact key H1 e1 z1 o1)
end XN
