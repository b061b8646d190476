theorem hf_X5 : ∀ j, j < 10 → defaultValue (tyX5 j) = vp_V [.null, .null, .null, .null, .null, .null, .null, .int 0, .int 0, .int 0] j := by
  intro j hj
  match j, hj with
  | 0, _ => rfl
  | 1, _ => rfl
  | 2, _ => rfl
  | 3, _ => rfl
  | 4, _ => rfl
  | 5, _ => rfl
  | 6, _ => rfl
  | 7, _ => rfl
  | 8, _ => rfl
  | 9, _ => rfl
  | j + 10, h => exact absurd h (by omega)
theorem hf_X6 : ∀ j, j < 31 → defaultValue (tyX6 j) = vp_V [.int 0, .int 0, .null, .null, .null, .null, .null, .null, .null, .int 0, .null, .null, .null, .null, .null, .null, .null, .null, .null, .int 0, .int 0, .null, .null, .null, .null, .null, .int 0, .null, .null, .int 0, .null] j := by
  intro j hj
  match j, hj with
  | 0, _ => rfl
  | 1, _ => rfl
  | 2, _ => rfl
  | 3, _ => rfl
  | 4, _ => rfl
  | 5, _ => rfl
  | 6, _ => rfl
  | 7, _ => rfl
  | 8, _ => rfl
  | 9, _ => rfl
  | 10, _ => rfl
  | 11, _ => rfl
  | 12, _ => rfl
  | 13, _ => rfl
  | 14, _ => rfl
  | 15, _ => rfl
  | 16, _ => rfl
  | 17, _ => rfl
  | 18, _ => rfl
  | 19, _ => rfl
  | 20, _ => rfl
  | 21, _ => rfl
  | 22, _ => rfl
  | 23, _ => rfl
  | 24, _ => rfl
  | 25, _ => rfl
  | 26, _ => rfl
  | 27, _ => rfl
  | 28, _ => rfl
  | 29, _ => rfl
  | 30, _ => rfl
  | j + 31, h => exact absurd h (by omega)
theorem good_Nt {y : MethodName} {cc : ByteArray} {nL zb : Nat} (h5 : Jvm.Cond.code y cc nL (rety zb) ∈ wA) : GoodIn lw_tbl (wm y cc nL zb) := by
  intro w hw
  have h : w ∈ wA := by
    rcases List.mem_cons.mp hw with q | q
    · rw [q]; exact h5
    · exact q
  exact ⟨wA_in w h, good_of_word (wA_good w h)⟩
theorem iPre_blind {D : va_G} {cI cZ : ClassId} {gs : Nat → Nat} {A : Nat → Prop} {ws : va_W} {sz : Nat} {av : List Value} : FrameBlind (va_Pc av (iPre D cI cZ gs A ws sz)) := fun a U g mk q => by
  obtain ⟨q0, q1, qP, qK, qN, qS, qD⟩ := q
  exact ⟨q0, q1, qP, va_K.moved (u := U) (U := U.calling g mk a) (Vm.Alike.refl U.vm) qK, xNw.same (s := U) (U := U.calling g mk a) rfl qN, ⟨fun o ho => ⟨va_Z.moved (u := U) (U := U.calling g mk a) (Vm.Alike.refl U.vm) (qS.1 o ho).1, va_T.moved (u := U) (U := U.calling g mk a) (Vm.Alike.refl U.vm) (qS.1 o ho).2⟩, ⟨vx_Zq.moved (u := U) (U := U.calling g mk a) (Vm.Alike.refl U.vm) qS.2.1.1, vx_Zq.moved (u := U) (U := U.calling g mk a) (Vm.Alike.refl U.vm) qS.2.1.2⟩, vk_R.same (u := U) (U := U.calling g mk a) rfl qS.2.2⟩, qD⟩
/-- how the two begin -/
def PInit (Rel : XS → XS → Prop) : Prop := ∃ R1 R6 : RS, m_X1_tail [.inr 0] (fun _ _ => 0) = some R1 ∧ R1.2 = some none ∧ m_X6_tail [.inr 0] (fun _ _ => 0) = some R6 ∧ R6.2 = some none ∧ Rel (xS0 (R1.1 1)) R6.1
theorem one_D {A : Nat → Prop} {q : Nat} {x : va_E} (h : A q) : va_D A [(q, x)] := ⟨fun i j x y hx hy _ => by
  have h1 : i < 1 := (List.getElem?_eq_some_iff.mp hx).1
  have h2 : j < 1 := (List.getElem?_eq_some_iff.mp hy).1
  omega, fun k x hx => by
  have hz : k < 1 := (List.getElem?_eq_some_iff.mp hx).1
  rw [show k = 0 by omega] at hx
  cases hx
  exact h⟩
theorem one_A {q sz x : Nat} {y : va_E} : va_A [(q, y)] sz x ↔ x = q ∨ sz ≤ x := by
  constructor
  · rintro (⟨k, e, h⟩ | h)
    · have hz : k < 1 := (List.getElem?_eq_some_iff.mp h).1
      rw [show k = 0 by omega] at h
      cases h
      exact Or.inl rfl
    · exact Or.inr h
  · rintro (h | h)
    · subst h
      exact Or.inl ⟨0, y, rfl⟩
    · exact Or.inr h
theorem ww_has {T : List WE} {g : Nat → Nat} {cI cZ : ClassId} {S : XS} {k : Nat} (h : k < T.length) : ∃ x, (ww T g cI cZ S)[k]? = some (g k, x) := by
  obtain ⟨w, hw⟩ : ∃ w, T[k]? = some w := ⟨T[k], List.getElem?_eq_getElem h⟩
  exact ⟨_, ww_get hw⟩
set_option maxHeartbeats 4000000 in
set_option maxRecDepth 100000 in
theorem whole_start_of {p : Program} {e : Env} {s : State} {m : MethodId} {below : List Frame} {meth : Method} {c : Code} (l : Launch) (hlt : l.stackTraces = false) {b L : Nat} {xs : Nat → Int32} (hL : L ≤ 3072) (C0 : lw_At p s m meth c b L xs) {Rel : XS → XS → Prop} (PS : PSteps Rel) (PI : PInit Rel) : W p l e room_1 s m #[Value.ref b] below meth c s.heap [] 0 0 (lw_Z below #[Value.ref b] s) (entryFrame m ([Value.ref b] : List Value).toArray 7) := by
  obtain ⟨R1, R6, ht1, hr1, ht6, hr6, hrel0⟩ := PI
  obtain ⟨hx, hb, hr, hml, hown, hts, hX, hbl, hlocks, hgv⟩ := id C0
  have hA : ∀ q : Nat, s.heap.size ≤ q → (fun q : Nat => s.heap.size ≤ q) q := fun _ h => h
  obtain ⟨D, cI, cZ, cJ, hK3⟩ := xs_K hts
  have hN := xs_N hts
  obtain ⟨gs, hst⟩ := xs_St hts hgv
  have hK : va_K D vwCl [(cI, .int), (cZ, .boolean)] s := hK3.sub [0, 1] rfl
  have hw2 : ∀ w ∈ wA, w.before #[Value.ref b] s = true := fun w h => hts w (wA_in w h)
  have hS : va_S (fun q : Nat => s.heap.size ≤ q) s.heap s.heap [] := va_S.rf
  have hP : va_P D vwCl [] s.heap := fun k q h => by simp at h
  have hD : va_D (fun q : Nat => s.heap.size ≤ q) [] := ⟨fun i j p q h => by simp at h, fun k q h => by simp at h⟩
  have hl := lv_entry ([.ref b]) (n := 7) (Nat.le_of_ble_eq_true rfl)
  rw [lg_entry_eq]
  generalize (lg_sl ([.ref b]) ++ List.replicate (7 - (lg_sl ([.ref b])).length) Slot.unset).toArray = ls at hl ⊢
  have hl : lv_has ls 7 [(0, .ref b)] := hl
  refine va_new (ci := 5) (fs := [.null, .null, .null, .null, .null, .null, .null, .int 0, .int 0, .int 0]) (C := RX5) (T := TX5) (N := 10) hx hb hw2 iw_X5 tyX5 tyX5_ok hown (hw2 _ kx_L_8) (hw2 _ kz_X5) (hw2 _ kn_X5) hK hP hD hS hA rfl hf_X5 (Nat.le_of_ble_eq_true rfl) (Nat.le_of_ble_eq_true rfl) dL_law_0 (fun q0 H1 hP1 hD1 hS1 => ?_)
  have hP1 : va_P D vwCl (w0_X5 q0) H1 := hP1
  have hD1 : va_D (fun q : Nat => s.heap.size ≤ q) (w0_X5 q0) := hD1
  have hq0 : s.heap.size ≤ q0 := hD1.2 0 _ rfl
  have hF1 : ∀ x, va_A (w0_X5 q0) H1.size x → s.heap.size ≤ x := fun x h => by
    rcases one_A.mp h with h | h
    · rw [h]; exact hq0
    · exact Nat.le_trans hS1.1 h
  refine lv_dup hx hb dL_law_3 rfl ?_
  refine va_callv (va_runI (As := []) (rest := [.ref q0]) ⟨hx, hb, hml, hown, hts⟩ (c_X5_init l D cI cZ gs q0 H1.size ht1 hr1) (cwI 0 hts (good_Nt kc_X5_init) rfl rfl rfl (hw2 _ kn_X5) (hw2 _ kl_L_35) (hw2 _ ki_X5_init) rfl (by decide +kernel) ⟨by decide, by decide⟩) ⟨iPre_blind, fun U hU hW => ⟨rfl, by rw [hU], by rw [hU]; exact hP1, va_K.moved hW.alike hK, hN.warm hW, (hst.on hS1 hU hW).narrow hF1, one_D trivial⟩⟩ rfl rfl hl.1 rfl (lv_room (Nat.le_of_ble_eq_true rfl)) dL_law_4 ⟨Nat.le_of_ble_eq_true rfl, Nat.le_of_ble_eq_true rfl⟩) hS1 (fun q _ h => hF1 q h) hF1 (fun g t H2 locs2 ht hvm hg hB hz1 hk1 hS2 => ?_)
  obtain ⟨hg0, hg40, hg41, hg42⟩ := hg
  obtain ⟨hPx, hDx⟩ := hB
  rw [ht] at hPx
  clear hk1 hz1 ht hvm t
  refine lv_astore_n (lv' := [(1, .ref q0), (0, .ref b)]) hx hb dL_law_7 rfl hl (by decide) rfl (fun ls hl => ?_)
  have hDxL : va_D (fun q : Nat => s.heap.size ≤ q) (ww xT g cI cZ (xS0 (R1.1 1))) := hDx.weaken (fun k x _ h => hF1 x.1 h)
  refine va_new (ci := 6) (fs := [.int 0, .int 0, .null, .null, .null, .null, .null, .null, .null, .int 0, .null, .null, .null, .null, .null, .null, .null, .null, .null, .int 0, .int 0, .null, .null, .null, .null, .null, .int 0, .null, .null, .int 0, .null]) (C := RX6) (T := TX6) (N := 31) hx hb hw2 iw_X6 tyX6 tyX6_ok hown (hw2 _ kx_L_36) (hw2 _ kz_X6) (hw2 _ kn_X6) hK hPx hDxL hS2 hA rfl hf_X6 (Nat.le_of_ble_eq_true rfl) (Nat.le_of_ble_eq_true rfl) dL_law_8 (fun q1 H3 hP3 hD3 hS3 => ?_)
  have hq1 : ((ww xT g cI cZ (xS0 (R1.1 1))) ++ [(q1, (.inr (6, [.int 0, .int 0, .null, .null, .null, .null, .null, .null, .null, .int 0, .null, .null, .null, .null, .null, .null, .null, .null, .null, .int 0, .int 0, .null, .null, .null, .null, .null, .int 0, .null, .null, .int 0, .null]) : va_E))])[40]? = some (q1, .inr (6, [.int 0, .int 0, .null, .null, .null, .null, .null, .null, .null, .int 0, .null, .null, .null, .null, .null, .null, .null, .null, .null, .int 0, .int 0, .null, .null, .null, .null, .null, .int 0, .null, .null, .int 0, .null])) := by
    rw [List.getElem?_append_right (by rw [ww_len, xT_len]; exact Nat.le_refl _), ww_len, xT_len]
    rfl
  have hP3x : va_P D vwCl (ww xT g cI cZ (xS0 (R1.1 1))) H3 := fun k x hx => hP3 k x (by rw [List.getElem?_append_left (List.getElem?_eq_some_iff.mp hx).1]; exact hx)
  have hP3m : va_P D vwCl (w0_X6 q1) H3 := fun k x hx => by
    have hz : k < 1 := (List.getElem?_eq_some_iff.mp hx).1
    rw [show k = 0 by omega] at hx
    cases hx
    exact hP3 40 _ hq1
  have hq1L : s.heap.size ≤ q1 := hD3.2 40 _ hq1
  have hgq1 : ∀ k, k < 40 → g k ≠ q1 := fun k hk e => by
    obtain ⟨x, hx⟩ := ww_has (T := xT) (g := g) (cI := cI) (cZ := cZ) (S := xS0 (R1.1 1)) (k := k) (by rw [xT_len]; exact hk)
    have := hD3.1 k 40 (g k, x) (q1, .inr (6, [.int 0, .int 0, .null, .null, .null, .null, .null, .null, .null, .int 0, .null, .null, .null, .null, .null, .null, .null, .null, .null, .int 0, .int 0, .null, .null, .null, .null, .null, .int 0, .null, .null, .int 0, .null])) (by rw [List.getElem?_append_left (List.getElem?_eq_some_iff.mp hx).1]; exact hx) hq1 e
    omega
  have hgl : ∀ k, k < 40 → g k < H3.size := fun k hk => by
    obtain ⟨x, hx⟩ := ww_has (T := xT) (g := g) (cI := cI) (cZ := cZ) (S := xS0 (R1.1 1)) (k := k) (by rw [xT_len]; exact hk)
    exact (hP3x k _ hx).lt
  have hF3 : ∀ x, va_A (w0_X6 q1) H3.size x → s.heap.size ≤ x := fun x h => by
    rcases one_A.mp h with h | h
    · rw [h]; exact hq1L
    · exact Nat.le_trans hS3.1 h
  refine lv_dup hx hb dL_law_11 rfl ?_
  refine va_callv (va_runI (As := []) (rest := [.ref q1]) ⟨hx, hb, hml, hown, hts⟩ (c_X6_init l D cI cZ gs q1 H3.size ht6 hr6) (cwI 0 hts (good_Nt kc_X6_init) rfl rfl rfl (hw2 _ kn_X6) (hw2 _ kl_L_38) (hw2 _ ki_X6_init) rfl (by decide +kernel) ⟨by decide, by decide⟩) ⟨iPre_blind, fun U hU hW => ⟨rfl, by rw [hU], by rw [hU]; exact hP3m, va_K.moved hW.alike hK, hN.warm hW, (hst.on hS3 hU hW).narrow hF3, one_D trivial⟩⟩ rfl rfl hl.1 rfl (lv_room (Nat.le_of_ble_eq_true rfl)) dL_law_12 ⟨Nat.le_of_ble_eq_true rfl, Nat.le_of_ble_eq_true rfl⟩) hS3 (fun q _ h => hF3 q h) hF3 (fun gm t H4 locs4 ht hvm hgm hB hz1 hk1 hS4 => ?_)
  obtain ⟨hm0, hm40, hm41, hm42⟩ := hgm
  obtain ⟨hPm, hDm⟩ := hB
  rw [ht] at hPm
  have hP4x : va_P D vwCl (ww xT g cI cZ (xS0 (R1.1 1))) H4 := fun k x hx => by
    obtain ⟨e1, e2⟩ := ww_addr hx
    rw [xT_len] at e2
    refine (hP3x k x hx).kept (hk1 x.1 (hP3x k x hx).lt (fun h => ?_))
    rcases one_A.mp h with h | h
    · exact hgq1 k e2 (by rw [← e1]; exact h)
    · have := (hP3x k x hx).lt
      omega
  have hgmA : ∀ k, k < 25 → (gm k = q1 ∨ H3.size ≤ gm k) ∧ gm k < H4.size := fun k hk => by
    obtain ⟨x, hx⟩ := ww_has (T := mT) (g := gm) (cI := cI) (cZ := cZ) (S := R6.1) (k := k) (by rw [mT_len]; exact hk)
    exact ⟨one_A.mp (hDm.2 k _ hx), (hPm k _ hx).lt⟩
  clear hk1 ht hvm t
  refine lv_astore_n (lv' := [(2, .ref q1), (1, .ref q0), (0, .ref b)]) hx hb dL_law_15 rfl hl (by decide) rfl (fun ls hl => ?_)
  refine lv_iconst (v := 1) hx hb dL_law_16 (by decide) ?_
  refine va_newaK (atype := .long) (g := F0 m 17 ls [.int 1]) (n := 1) (N := 1) (rest := []) (h := H4.size) hx hb (hw2 _ ka_long) rfl dL_law_17 rfl (by decide) (by decide) (by decide) (Nat.le_of_ble_eq_true rfl) (Nat.le_of_ble_eq_true rfl) rfl (fun H5 cA e1 z1 o1 hAr hNm => ?_)
  have e2 : cA = cJ := Option.some.inj (hNm.symm.trans (hK3.2 2 _ rfl).2)
  subst e2
  have hO : va_at D vwCl (H4.size, .inl (cA, 1, .inr (.inl (fun _ => 0)))) H5 := e1
  have hP5x : va_P D vwCl (ww xT g cI cZ (xS0 (R1.1 1))) H5 := fun k x hx => (hP4x k x hx).kept (o1 x.1 (hP4x k x hx).lt)
  have hP5m : va_P D vwCl (ww mT gm cI cZ R6.1) H5 := fun k x hx => (hPm k x hx).kept (o1 x.1 (hPm k x hx).lt)
  have hS5 : va_S (fun q : Nat => s.heap.size ≤ q) s.heap H5 locs4 := ⟨Nat.le_trans hS4.1 (by omega), fun x h1 h2 => (o1 x (Nat.lt_of_lt_of_le h1 hS4.1)).trans (hS4.2.1 x h1 h2), hS4.2.2⟩
  have hgL : ∀ k, k < 40 → s.heap.size ≤ g k ∧ g k < H4.size := fun k hk => by
    obtain ⟨x, hx⟩ := ww_has (T := xT) (g := g) (cI := cI) (cZ := cZ) (S := xS0 (R1.1 1)) (k := k) (by rw [xT_len]; exact hk)
    exact ⟨hDxL.2 k _ hx, (hP4x k _ hx).lt⟩
  have hne : ∀ i j, i < 40 → j < 25 → g i ≠ gm j := fun i j hi hj e => by
    rcases (hgmA j hj).1 with h | h
    · exact hgq1 i hi (e.trans h)
    · have := hgl i hi
      omega
  have hgmL : ∀ k, k < 25 → s.heap.size ≤ gm k := fun k hk => by
    rcases (hgmA k hk).1 with h | h
    · rw [h]; exact hq1L
    · exact Nat.le_trans hS3.1 h
  have C : LC D cI cZ cA g gm H4.size (fun q => (∃ k, k < 40 ∧ q = g k) ∨ H5.size ≤ q) (fun q => (∃ k, k < 25 ∧ q = gm k) ∨ H5.size ≤ q) s := by
    refine ⟨ww_D (S0 := xS0 (R1.1 1)) ⟨hDx.1, fun k q hq => ?_⟩, ww_D (S0 := R6.1) ⟨hDm.1, fun k q hq => ?_⟩, ?_, ?_, ⟨?_, ?_, Nat.le_trans hS4.1 (Nat.le_refl _)⟩, ?_, ?_, ?_, hK3, hN, hst.re hg40 hg41 hg42, hst.re hm40 hm41 hm42⟩
    · obtain ⟨e3, e4⟩ := ww_addr hq
      rw [xT_len] at e4
      exact Or.inl ⟨k, e4, e3⟩
    · obtain ⟨e3, e4⟩ := ww_addr hq
      rw [mT_len] at e4
      exact Or.inl ⟨k, e4, e3⟩
    · rintro q (⟨k, hk, rfl⟩ | h)
      · exact (hgL k hk).1
      · exact Nat.le_trans hS5.1 h
    · rintro q (⟨k, hk, rfl⟩ | h)
      · exact hgmL k hk
      · exact Nat.le_trans hS5.1 h
    · rintro (⟨k, hk, h⟩ | h)
      · have := (hgL k hk).2
        omega
      · omega
    · rintro (⟨k, hk, h⟩ | h)
      · have := (hgmA k hk).2
        omega
      · omega
    · rintro k hk (⟨j, hj, h⟩ | h)
      · exact hne j k hj hk h.symm
      · have := (hgmA k hk).2
        omega
    · rintro k hk (⟨j, hj, h⟩ | h)
      · exact hne k j hk hj h
      · have := (hgL k hk).2
        omega
    · intro k hk h
      have := (hgmA k hk).2
      omega
  refine lv_astore_n (lv' := [(3, .ref H4.size), (2, .ref q1), (1, .ref q0), (0, .ref b)]) hx hb dL_law_19 rfl hl (by decide) rfl (fun ls hl => ?_)
  refine lv_iconst (v := 0) hx hb dL_law_20 (by decide) ?_
  refine lv_istore (lv' := [(4, .int 0), (3, .ref H4.size), (2, .ref q1), (1, .ref q0), (0, .ref b)]) hx hb dL_law_21 hl (by decide) rfl (fun ls hl => ?_)
  refine W.widen (k := 66 + 0) (n := 3631 + 6 * 0) (Nat.le_of_ble_eq_true rfl) (Nat.le_of_ble_eq_true rfl) ?_
  rw [← hg0, ← hm0] at hl
  exact law_loop hL C0 hlt C PS 513 0 _ _ _ 0 H5 locs4 ls (by omega) (Nat.zero_le _) rfl hrel0 ⟨hP5x, hP5m, hO⟩ hS5 (lv_sub hl [4, 3, 2, 1, 0] rfl)
