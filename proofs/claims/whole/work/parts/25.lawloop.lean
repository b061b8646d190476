/-- every call of related pictures: the same answer, and related pictures again -/
def PSteps (Rel : XS → XS → Prop) : Prop := ∀ S Sm, Rel S Sm → (∀ a1 a2 a3 a4 a5 : Int32, PD Rel m_X5_note m_X6_note S Sm [.inl a1, .inl a2, .inl a3, .inl a4, .inl a5]) ∧ (∀ a1 a2 a3 : Int32, PD Rel m_X5_rest m_X6_rest S Sm [.inl a1, .inl a2, .inl a3]) ∧ (∀ a1 a2 : Int32, PD Rel m_X5_lift m_X6_lift S Sm [.inl a1, .inl a2]) ∧ (∀ a1 a2 a3 : Int32, PD Rel m_X5_set m_X6_set S Sm [.inl a1, .inl a2, .inl a3]) ∧ (∀ a1 a2 a3 a4 : Int32, PD Rel m_X5_mark m_X6_mark S Sm [.inl a1, .inl a2, .inl a3, .inl a4]) ∧ (∀ a1 : Int32, PD Rel m_X5_drop m_X6_drop S Sm [.inl a1]) ∧ (∀ a1 a2 a3 a4 : Int32, PD Rel m_X5_slur m_X6_slur S Sm [.inl a1, .inl a2, .inl a3, .inl a4]) ∧ (PD Rel m_X5_place m_X6_place S Sm []) ∧ (∀ a1 a2 : Int32, PW Rel m_X5_at m_X6_at S Sm [.inl a1, .inl a2]) ∧ (∀ a1 a2 : Int32, PW Rel m_X5_slurAt m_X6_slurAt S Sm [.inl a1, .inl a2]) ∧ (∀ a1 a2 : Int32, PW Rel m_X5_skyline m_X6_skyline S Sm [.inl a1, .inl a2]) ∧ (∀ a1 a2 : Int32, PW Rel m_X5_row m_X6_row S Sm [.inl a1, .inl a2]) ∧ (∀ a1 a2 a3 : Int32, PW Rel m_X5_order m_X6_order S Sm [.inl a1, .inl a2, .inl a3]) ∧ (∀ a1 a2 : Int32, PW Rel m_X5_meets m_X6_meets S Sm [.inl a1, .inl a2]) ∧ (∀ a1 : Int32, PD Rel m_X5_wide m_X6_wide S Sm [.inl a1]) ∧ (∀ a1 : Int32, PD Rel m_X5_push m_X6_push S Sm [.inl a1]) ∧ (∀ a1 a2 : Int32, PD Rel m_X5_item m_X6_item S Sm [.inl a1, .inl a2]) ∧ (∀ a1 : Int32, PW Rel m_X5_count m_X6_count S Sm [.inl a1])
theorem law_go {L j : Nat} (hL : L ≤ 3072) (hj : 6 * j ≤ L) (h : ¬ (Int32.ofNat L - 6 < nI (6 * j))) : 6 * j + 6 ≤ L := by
  rw [Int32.lt_iff_toInt_lt] at h
  have e1 : (Int32.ofNat L - 6).toInt = (L : Int) - 6 := pk_sub_toInt (a := L) (b := 6) (by omega) (by omega)
  rw [e1, nI_toInt (by omega)] at h
  omega
theorem law_in {L j k : Nat} (hL : L ≤ 3072) (h : 6 * j + 6 ≤ L) (hk : k ≤ 5) {x4 v : Int32} (e : x4 = nI (6 * j)) (hv : v = nI k) : vp_in (x4 + v) L := by
  rw [e, hv, nI_add]
  exact vp_in_nI (by omega) (by omega)
set_option maxHeartbeats 8000000 in
set_option maxRecDepth 100000 in
theorem law_loop {p : Program} {l : Launch} {e : Env} {s : State} {m : MethodId} {below : List Frame} {meth : Method} {c : Code} {b L : Nat} {xs : Nat → Int32} {D : va_G} {cI cZ cJ : ClassId} {g gm : Nat → Nat} {qo : Nat} {AX AM : Nat → Prop} {Rel : XS → XS → Prop} (hL : L ≤ 3072) (C0 : lw_At p s m meth c b L xs) (hlt : l.stackTraces = false) (C : LC D cI cZ cJ g gm qo AX AM s) (PS : PSteps Rel) :
    ∀ (n j : Nat) (S Sm : XS) (f : Nat → Int64) (x4 : Int32) (H : Heap) (locs : List Loc) (ls : Array Slot), 513 ≤ n + j → 6 * j ≤ L → x4 = nI (6 * j) → Rel S Sm → LW D cI cZ cJ g gm qo S Sm f H → va_S (fun q : Nat => s.heap.size ≤ q) s.heap H locs → lv_has ls 7 [(0, .ref b), (1, .ref (g 0)), (2, .ref (gm 0)), (3, .ref qo), (4, .int x4)] → W p l e room_1 s m #[Value.ref b] below meth c H locs (66 + j) (3631 + 6 * j) (lw_Z below #[Value.ref b] s) (F0 m 23 ls []) := by
  obtain ⟨hx, hb, hr, hml, hown, hts, hX, hbl, hlocks, hgv⟩ := id C0
  have hbA : ¬ (fun q : Nat => s.heap.size ≤ q) b := Nat.not_le.mpr hbl
  intro n
  induction n with
  | zero =>
    intro j S Sm f x4 H locs ls h1 h2
    exact absurd h1 (by omega)
  | succ n ih =>
    intro j S Sm f x4 H locs ls hn hj ex4 hrel hLW hS hl
    refine lv_iload hx hb dL_law_23 (lv_at hl 4 rfl) ?_
    refine lv_aload_n hx hb dL_law_25 rfl (lv_at hl 0 rfl) ?_
    refine va_slen hx hb hX hbl hbA hS dL_law_26 ?_
    refine lv_bipush (v := 6) hx hb dL_law_27 (by decide) ?_
    refine lv_isub hx hb dL_law_29 ?_
    refine lv_icmp_gt (tgt := 1065) hx hb dL_law_30 (by decide) (fun _ => ?_) (fun hc => ?_)
    · refine lv_iconst (v := 1) hx hb dL_law_1065 (by decide) ?_
      refine va_forget (fun q hq => hS.2.2 q hq) ?_
      refine W.widen (k := 1091) (n := 11829) (by omega) (by omega) ?_
      exact lw_ret hx hb hr hlocks dL_law_1066
    · rw [ex4] at hc
      have hgo := law_go hL hj hc
      refine lv_aload_n hx hb dL_law_33 rfl (lv_at hl 0 rfl) ?_
      refine lv_iload hx hb dL_law_34 (lv_at hl 4 rfl) ?_
      refine va_sld hx hb hX hbl hbA hS (by rw [ex4]; exact vp_in_nI (by omega) (by omega)) dL_law_36 ?_
      refine lv_bipush (v := 31) hx hb dL_law_37 (by decide) ?_
      refine lv_iand hx hb dL_law_39 ?_
      obtain ⟨k, hk, ek⟩ := pk_andE (xs x4.toNatClampNeg) (m := 31) 5 (by decide)
      rw [ek]
      have hi1 : vp_in (x4 + 1) L := law_in hL hgo (k := 1) (by decide) ex4 rfl
      have hi2 : vp_in (x4 + 2) L := law_in hL hgo (k := 2) (by decide) ex4 rfl
      have hi3 : vp_in (x4 + 3) L := law_in hL hgo (k := 3) (by decide) ex4 rfl
      have hi4 : vp_in (x4 + 4) L := law_in hL hgo (k := 4) (by decide) ex4 rfl
      have hi5 : vp_in (x4 + 5) L := law_in hL hgo (k := 5) (by decide) ex4 rfl
      have hfx : 66 + j + 1 ≤ 1091 ∧ 3631 + 6 * j + 6 ≤ 11829 := ⟨by omega, by omega⟩
      have tail : ∀ (S1 Sm1 : XS) (f1 : Nat → Int64) (H1 : Heap) (locs1 : List Loc) (ls1 : Array Slot), Rel S1 Sm1 → LW D cI cZ cJ g gm qo S1 Sm1 f1 H1 → va_S (fun q : Nat => s.heap.size ≤ q) s.heap H1 locs1 → lv_has ls1 7 [(0, .ref b), (1, .ref (g 0)), (2, .ref (gm 0)), (3, .ref qo), (4, .int x4)] → W p l e room_1 s m #[Value.ref b] below meth c H1 locs1 (66 + j + 1) (3631 + 6 * j + 6) (lw_Z below #[Value.ref b] s) (F0 m 1059 ls1 []) := by
        intro S1 Sm1 f1 H1 locs1 ls1 hrel1 hLW1 hS1 hl1
        refine lv_iinc (v := x4 + 6) (x := x4) (k := 4) (lv' := [(4, .int (x4 + 6)), (0, .ref b), (1, .ref (g 0)), (2, .ref (gm 0)), (3, .ref qo)]) hx hb dL_law_1059 hl1 rfl rfl (by decide) rfl (fun ls2 hl2 => ?_)
        refine lv_goto (tgt := 23) hx hb dL_law_1062 (by decide) ?_
        refine W.widen (k := 66 + (j + 1)) (n := 3631 + 6 * (j + 1)) (by omega) (by omega) ?_
        exact ih (j + 1) S1 Sm1 f1 (x4 + 6) H1 locs1 ls2 (by omega) (by omega) (by rw [ex4, show (6 : Int32) = nI 6 from rfl, nI_add]; rfl) hrel1 hLW1 hS1 (lv_sub hl2 [1, 2, 3, 4, 0] rfl)
      match k, hk with
      | 0, _ =>
        refine lv_tableIn (off := 88) (tgt := 128) hx hb dL_law_40 (by decide) (by decide) (by decide) (by decide) ?_
        exact law_note C0 hlt C ((PS S Sm hrel).1 _ _ _ _ _) hi1 hi2 hi3 hi4 hi5 hLW hS hl hfx tail
      | 1, _ =>
        refine lv_tableIn (off := 161) (tgt := 201) hx hb dL_law_40 (by decide) (by decide) (by decide) (by decide) ?_
        exact law_rest C0 hlt C ((PS S Sm hrel).2.1 _ _ _) hi1 hi2 hi3 hi4 hi5 hLW hS hl hfx tail
      | 2, _ =>
        refine lv_tableIn (off := 210) (tgt := 250) hx hb dL_law_40 (by decide) (by decide) (by decide) (by decide) ?_
        exact law_lift C0 hlt C ((PS S Sm hrel).2.2.1 _ _) hi1 hi2 hi3 hi4 hi5 hLW hS hl hfx tail
      | 3, _ =>
        refine lv_tableIn (off := 247) (tgt := 287) hx hb dL_law_40 (by decide) (by decide) (by decide) (by decide) ?_
        exact law_set C0 hlt C ((PS S Sm hrel).2.2.2.1 _ _ _) hi1 hi2 hi3 hi4 hi5 hLW hS hl hfx tail
      | 4, _ =>
        refine lv_tableIn (off := 296) (tgt := 336) hx hb dL_law_40 (by decide) (by decide) (by decide) (by decide) ?_
        exact law_mark C0 hlt C ((PS S Sm hrel).2.2.2.2.1 _ _ _ _) hi1 hi2 hi3 hi4 hi5 hLW hS hl hfx tail
      | 5, _ =>
        refine lv_tableIn (off := 357) (tgt := 397) hx hb dL_law_40 (by decide) (by decide) (by decide) (by decide) ?_
        exact law_drop C0 hlt C ((PS S Sm hrel).2.2.2.2.2.1 _) hi1 hi2 hi3 hi4 hi5 hLW hS hl hfx tail
      | 6, _ =>
        refine lv_tableIn (off := 382) (tgt := 422) hx hb dL_law_40 (by decide) (by decide) (by decide) (by decide) ?_
        exact law_slur C0 hlt C ((PS S Sm hrel).2.2.2.2.2.2.1 _ _ _ _) hi1 hi2 hi3 hi4 hi5 hLW hS hl hfx tail
      | 7, _ =>
        refine lv_tableIn (off := 443) (tgt := 483) hx hb dL_law_40 (by decide) (by decide) (by decide) (by decide) ?_
        exact law_place C0 hlt C ((PS S Sm hrel).2.2.2.2.2.2.2.1) hi1 hi2 hi3 hi4 hi5 hLW hS hl hfx tail
      | 8, _ =>
        refine lv_tableIn (off := 456) (tgt := 496) hx hb dL_law_40 (by decide) (by decide) (by decide) (by decide) ?_
        exact law_at C0 hlt C ((PS S Sm hrel).2.2.2.2.2.2.2.2.1 _ _) hi1 hi2 hi3 hi4 hi5 hLW hS hl hfx tail
      | 9, _ =>
        refine lv_tableIn (off := 524) (tgt := 564) hx hb dL_law_40 (by decide) (by decide) (by decide) (by decide) ?_
        exact law_slurAt C0 hlt C ((PS S Sm hrel).2.2.2.2.2.2.2.2.2.1 _ _) hi1 hi2 hi3 hi4 hi5 hLW hS hl hfx tail
      | 10, _ =>
        refine lv_tableIn (off := 592) (tgt := 632) hx hb dL_law_40 (by decide) (by decide) (by decide) (by decide) ?_
        exact law_skyline C0 hlt C ((PS S Sm hrel).2.2.2.2.2.2.2.2.2.2.1 _ _) hi1 hi2 hi3 hi4 hi5 hLW hS hl hfx tail
      | 11, _ =>
        refine lv_tableIn (off := 660) (tgt := 700) hx hb dL_law_40 (by decide) (by decide) (by decide) (by decide) ?_
        exact law_row C0 hlt C ((PS S Sm hrel).2.2.2.2.2.2.2.2.2.2.2.1 _ _) hi1 hi2 hi3 hi4 hi5 hLW hS hl hfx tail
      | 12, _ =>
        refine lv_tableIn (off := 728) (tgt := 768) hx hb dL_law_40 (by decide) (by decide) (by decide) (by decide) ?_
        exact law_order C0 hlt C ((PS S Sm hrel).2.2.2.2.2.2.2.2.2.2.2.2.1 _ _ _) hi1 hi2 hi3 hi4 hi5 hLW hS hl hfx tail
      | 13, _ =>
        refine lv_tableIn (off := 808) (tgt := 848) hx hb dL_law_40 (by decide) (by decide) (by decide) (by decide) ?_
        exact law_meets C0 hlt C ((PS S Sm hrel).2.2.2.2.2.2.2.2.2.2.2.2.2.1 _ _) hi1 hi2 hi3 hi4 hi5 hLW hS hl hfx tail
      | 14, _ =>
        refine lv_tableIn (off := 876) (tgt := 916) hx hb dL_law_40 (by decide) (by decide) (by decide) (by decide) ?_
        exact law_wide C0 hlt C ((PS S Sm hrel).2.2.2.2.2.2.2.2.2.2.2.2.2.2.1 _) hi1 hi2 hi3 hi4 hi5 hLW hS hl hfx tail
      | 15, _ =>
        refine lv_tableIn (off := 901) (tgt := 941) hx hb dL_law_40 (by decide) (by decide) (by decide) (by decide) ?_
        exact law_push C0 hlt C ((PS S Sm hrel).2.2.2.2.2.2.2.2.2.2.2.2.2.2.2.1 _) hi1 hi2 hi3 hi4 hi5 hLW hS hl hfx tail
      | 16, _ =>
        refine lv_tableIn (off := 926) (tgt := 966) hx hb dL_law_40 (by decide) (by decide) (by decide) (by decide) ?_
        exact law_item C0 hlt C ((PS S Sm hrel).2.2.2.2.2.2.2.2.2.2.2.2.2.2.2.2.1 _ _) hi1 hi2 hi3 hi4 hi5 hLW hS hl hfx tail
      | 17, _ =>
        refine lv_tableIn (off := 963) (tgt := 1003) hx hb dL_law_40 (by decide) (by decide) (by decide) (by decide) ?_
        exact law_count C0 hlt C ((PS S Sm hrel).2.2.2.2.2.2.2.2.2.2.2.2.2.2.2.2.2 _) hi1 hi2 hi3 hi4 hi5 hLW hS hl hfx tail
      | k + 18, hk =>
        refine lv_tableOut (tgt := 1059) hx hb dL_law_40 (Or.inr (by rw [nI_toInt (by omega)]; omega)) (by decide) ?_
        refine W.widen (k := 66 + j + 1) (n := 3631 + 6 * j + 6) (by omega) (by omega) ?_
        exact tail S Sm f H locs ls hrel hLW hS hl
