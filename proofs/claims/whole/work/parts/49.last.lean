/-! PURE PART: counts, the beginning, and the whole. -/
theorem OT_z {n i : Nat} {S : XS} {s h : Int32} : OT n (i + 1) 0 S s h ↔ OT n i 0 S s h ∨ (S 19 i = s ∧ h = S 21 i + S 20 i) := by
  unfold OT
  rw [ex_succ]
  constructor
  · rintro ((q | q) | ⟨j, w, _⟩)
    · exact Or.inl (Or.inl q)
    · exact Or.inr q
    · omega
  · rintro ((q | ⟨j, w, _⟩) | q)
    · exact Or.inl (Or.inl q)
    · omega
    · exact Or.inl (Or.inr q)
theorem OT_k {n z i : Nat} {S : XS} {s h : Int32} : OT n z (i + 1) S s h ↔ OT n z i S s h ∨ (S 12 i = 0 ∧ S 13 i ≠ 0 ∧ sd n S i = s ∧ h = S 14 i + S 11 i) := by
  unfold OT
  rw [ex_succ, or_assoc]
theorem q_outer {n k z : Nat} {S D : XS} (h : RB n k z S D) (hall : ∀ j, j < k → D 12 j = 0 → D 13 j ≠ 0) (s : Int32) : ∃ r, m_X6_outermost [.inr 0, .inl s] D = ri D r ∧ isX 0 (OT n z k D s) r := by
  have h80 := h.k80
  have h10 := h.z10
  have h58 : ∀ r0, isX 0 (OT n z 0 D s) r0 → ∃ r, b_X6_outermost_58 fu [(0, .inr 0), (1, .inl s), (2, .inl r0), (3, .inl 0)] [] D = ri D r ∧ isX 0 (OT n z k D s) r := by
    intro r0 hr0
    refine lp0 (b := fun fl i (r : Int32) => b_X6_outermost_58 fl [(0, .inr 0), (1, .inl s), (2, .inl r), (3, .inl (nI i))] [] D) (N := k) (by omega) (fun i r => isX 0 (OT n z i D s) r) (fun o => ∃ r, o = ri D r ∧ isX 0 (OT n z k D s) r) hr0 ?_ ?_
    · intro fl i r hi hx
      left
      have hsk : ¬ (D 12 i = 0 ∧ D 13 i ≠ 0 ∧ sd n D i = s) → isX 0 (OT n z (i + 1) D s) r := fun q => isX_cg hx (fun x => by
        rw [OT_k]
        exact ⟨Or.inl, fun w => w.elim id (fun w => absurd ⟨w.1, w.2.1, w.2.2.1⟩ q)⟩)
      simp only [u_X6_outermost_58, h.2.2.1.2.1, if_neg (nI_ge hi (by omega)), gA_nI (show i < 80 by omega) (show 80 < 2 ^ 31 by decide), nI_clamp (show i < 2 ^ 31 by omega), h.sideOf hi, cli_ri, nI_1]
      by_cases c1 : D 12 i = 0
      · by_cases c2 : sd n D i = s
        · refine ⟨_, isX_add hx (T' := OT n z (i + 1) D s) (h := D 14 i + D 11 i) (fun x => ?_), ?_⟩
          · rw [OT_k]
            exact or_congr Iff.rfl ⟨fun w => w.2.2.2, fun w => ⟨c1, hall i hi c1, c2, w⟩⟩
          · rw [if_pos c1, if_pos c2]
            by_cases c3 : D 14 i + D 11 i ≤ r
            · rw [if_pos c3, if_pos c3]
            · rw [if_neg c3, if_neg c3]
        · exact ⟨r, hsk (fun q => c2 q.2.2), by rw [if_pos c1, if_neg c2]⟩
      · exact ⟨r, hsk (fun q => c1 q.1), by rw [if_neg c1]⟩
    · intro fl r hx
      exact ⟨r, by simp only [u_X6_outermost_58, h.2.2.1.2.1, if_pos (nI_le (Nat.le_refl k) (show k < 2 ^ 31 by omega))], hx⟩
  rw [u_X6_outermost]
  refine lp0 (b := fun fl i (r : Int32) => b_X6_outermost_4 fl [(0, .inr 0), (1, .inl s), (2, .inl r), (3, .inl (nI i))] [] D) (N := z) (by omega) (fun i r => isX 0 (OT n i 0 D s) r) (fun o => ∃ r, o = ri D r ∧ isX 0 (OT n z k D s) r) ⟨Int32.le_refl _, fun x q => by rcases q with ⟨j, w, _⟩ | ⟨j, w, _⟩ <;> omega, Or.inl rfl⟩ ?_ ?_
  · intro fl i r hi hx
    left
    simp only [u_X6_outermost_4, h.2.2.2.2.1, if_neg (nI_ge hi (by omega)), gA_nI (show i < 10 by omega) (show 10 < 2 ^ 31 by decide), nI_clamp (show i < 2 ^ 31 by omega), nI_1]
    by_cases c2 : D 19 i = s
    · refine ⟨_, isX_add hx (T' := OT n (i + 1) 0 D s) (h := D 21 i + D 20 i) (fun x => ?_), ?_⟩
      · rw [OT_z]
        exact or_congr Iff.rfl ⟨fun w => w.2, fun w => ⟨c2, w⟩⟩
      · rw [if_pos c2]
        by_cases c3 : D 21 i + D 20 i ≤ r
        · rw [if_pos c3, if_pos c3]
        · rw [if_neg c3, if_neg c3]
    · refine ⟨r, isX_cg hx (fun x => ?_), by rw [if_neg c2]⟩
      rw [OT_z]
      exact ⟨Or.inl, fun w => w.elim id (fun w => absurd w.1 c2)⟩
  · intro fl r hx
    simp only [u_X6_outermost_4, h.2.2.2.2.1, if_pos (nI_le (Nat.le_refl z) (show z < 2 ^ 31 by omega))]
    exact h58 r hx
theorem J.outer {n k z t : Nat} {S D : XS} (h : J n k z z t S D) (hall : ∀ j, j < k → D 12 j = 0 → D 13 j ≠ 0) {s : Int32} {c : Nat} (hc : SC s c) : m_X6_outermost [.inr 0, .inl s] D = ri D (S c 5) := by
  obtain ⟨r, e1, e2⟩ := q_outer h.1 hall s
  rw [e1, isX_un e2 (h.2.2.1 s c hc).2 (fun _ _ => Iff.rfl)]
theorem s_count {S Sm : XS} (hr : RelP PLx S Sm) (a1 : Int32) : PW (RelP PLx) m_X5_count m_X6_count S Sm [.inl a1] := by
  obtain ⟨n, k, z, hb, he, hp⟩ := id hr
  have h80 := hb.k80
  have n' : (up2 Sm 0 0 0) 0 1 = nI n := hb.1.2.1
  have z' : (up2 Sm 0 0 0) 0 20 = nI z := hb.2.2.2.2.1
  have k' : (up2 Sm 0 0 0) 0 9 = nI k := hb.2.2.1.2.1
  have p' : (up2 Sm 0 0 0) 0 29 = S 0 9 := he.symm
  have hX := u_X5_count S a1
  have hM := u_X6_count Sm a1
  have hcq : cq (fun j => S 18 j = 0) k = cq (fun j => (up2 Sm 0 0 0) 12 j = 0 ∧ ((-100003 : Int32) = -100003 ∨ (up2 Sm 0 0 0) 8 j = -100003)) k := by
    refine cq_agr k (fun i hi => ?_)
    show S 18 i = 0 ↔ Sm 12 i = 0 ∧ ((-100003 : Int32) = -100003 ∨ Sm 8 i = -100003)
    rw [(hb.m hi).1.2.2.2.2]
    exact ⟨fun q => ⟨q, Or.inl rfl⟩, fun q => q.1⟩
  by_cases c0 : a1.toInt = 0
  · rw [if_pos c0, hb.1.1] at hX
    rw [if_pos c0, n'] at hM
    exact PW.bad hr hX hM
  rw [if_neg c0] at hX hM
  by_cases c1 : a1.toInt = 1
  · rw [if_pos c1, p_countThere hb.2.2.1.1 h80, cli_ri, hcq] at hX
    rw [if_pos c1, q_marksOf k' h80, cli_ri] at hM
    exact PW.bad hr hX hM
  rw [if_neg c1] at hX hM
  by_cases c2 : a1.toInt = 2
  · rw [if_pos c2, hb.2.2.2.1] at hX
    rw [if_pos c2, z'] at hM
    exact PW.bad hr hX hM
  rw [if_neg c2] at hX hM
  by_cases c3 : a1.toInt = 3
  · rw [if_pos c3] at hX
    rw [if_pos c3, p'] at hM
    by_cases q : S 0 9 = 0
    · rw [if_pos q] at hX hM
      exact PW.bad hr hX hM
    · rw [if_neg q] at hX hM
      exact PW.bad hr hX hM
  rw [if_neg c3] at hX hM
  by_cases c4 : a1.toInt = 4
  · have e4 : a1 = 4 := i32_eq.mpr c4
    subst e4
    rw [if_pos c4] at hX hM
    refine PW.good hr (fun e1 e2 => ?_) (fun n1 k1 z1 t e1 e2 hJ hm hall hb1 => ?_)
    · have e2' : (up2 Sm 0 0 0) 0 29 = 0 := e2
      rw [u_X5_outermost, p_dem0 e1, clv_th, cli_th] at hX
      rw [q_thr0 e2', cli_ri, if_neg (by decide)] at hM
      exact ⟨hX, hM⟩
    · have e2' : (up2 Sm 0 0 0) 0 29 = 1 := e2
      have hall' : ∀ j, j < k1 → (up2 (up2 Sm 0 0 0) 0 0 0) 12 j = 0 → (up2 (up2 Sm 0 0 0) 0 0 0) 13 j ≠ 0 := hall
      rw [u_X5_outermost, p_dem1 e1, clv_rv, p_out SC5, if_pos rfl, cli_ri] at hX
      rw [q_thr1 e2', cli_ri, if_pos rfl, if_pos rfl, hJ.outer hall' SC5, cli_ri] at hM
      exact ⟨_, hX, hM⟩
  rw [if_neg c4] at hX hM
  by_cases c5 : a1.toInt = 5
  · have e4 : a1 = 5 := i32_eq.mpr c5
    subst e4
    rw [if_pos c5] at hX hM
    refine PW.good hr (fun e1 e2 => ?_) (fun n1 k1 z1 t e1 e2 hJ hm hall hb1 => ?_)
    · have e2' : (up2 Sm 0 0 0) 0 29 = 0 := e2
      rw [u_X5_outermost, p_dem0 e1, clv_th, cli_th] at hX
      rw [q_thr0 e2', cli_ri, if_neg (by decide)] at hM
      exact ⟨hX, hM⟩
    · have e2' : (up2 Sm 0 0 0) 0 29 = 1 := e2
      have hall' : ∀ j, j < k1 → (up2 (up2 Sm 0 0 0) 0 0 0) 12 j = 0 → (up2 (up2 Sm 0 0 0) 0 0 0) 13 j ≠ 0 := hall
      rw [u_X5_outermost, p_dem1 e1, clv_rv, p_out SC6, if_neg (by decide), cli_ri] at hX
      rw [q_thr1 e2', cli_ri, if_pos rfl, if_neg (by decide), hJ.outer hall' SC6, cli_ri] at hM
      exact ⟨_, hX, hM⟩
  rw [if_neg c5] at hX hM
  exact PW.bad hr hX hM
theorem PS_all : PSteps (RelP PLx) := fun _ _ hr => ⟨s_note PLx_ok hr, s_rest PLx_ok hr, s_lift PLx_ok hr, s_set PLx_ok hr, s_mark PLx_ok hr, s_drop PLx_ok hr, s_slur PLx_ok hr, s_place hr, s_at hr, s_slurAt hr, s_skyline hr, s_row hr, s_order hr, s_meets hr, s_wide PLx_ok hr, s_push PLx_ok hr, s_item PLx_ok hr, s_count hr⟩
/-! the beginning -/
theorem div6 {a w b v : Nat} (hw : w < 6) (hv : v < 6) (h : 6 * a + w = 6 * b + v) : a = b ∧ w = v := by omega
def val1 (kd w : Nat) : Int32 := if w = 0 then nI kd else firstf w
theorem p_tail : ∃ S, m_X1_tail [.inr 0] (fun _ _ => 0) = rv S ∧ ∀ kd w, kd < 10 → w < 6 → S 1 (6 * kd + w) = val1 kd w := by
  have h22 : ∀ (k14 : BT) (a : Nat) (s : XS), a < 10 → ∃ s', b_X1_tail_22 k14 fu [(0, .inr 0), (1, .inl (nI a)), (2, .inl 0)] [] s = k14 [(0, .inr 0), (1, .inl (nI (a + 1)))] [] s' ∧ (∀ w, w < 6 → s' 1 (6 * a + w) = val1 a w) ∧ (∀ b v, v < 6 → b ≠ a → s' 1 (6 * b + v) = s 1 (6 * b + v)) := by
    intro k14 a s ha
    refine lp0 (b := fun fl i (s : XS) => b_X1_tail_22 k14 fl [(0, .inr 0), (1, .inl (nI a)), (2, .inl (nI i))] [] s) (N := 6) (by omega) (fun i s' => (∀ w, w < i → s' 1 (6 * a + w) = val1 a w) ∧ (∀ b v, v < 6 → b ≠ a → s' 1 (6 * b + v) = s 1 (6 * b + v))) (fun o => ∃ s', o = k14 [(0, .inr 0), (1, .inl (nI (a + 1)))] [] s' ∧ (∀ w, w < 6 → s' 1 (6 * a + w) = val1 a w) ∧ (∀ b v, v < 6 → b ≠ a → s' 1 (6 * b + v) = s 1 (6 * b + v))) ⟨fun w q => absurd q (by omega), fun _ _ _ _ => rfl⟩ ?_ ?_
    · rintro fl i s1 hi ⟨a1, a2⟩
      left
      have n1 : ¬ (6 : Int32) ≤ nI i := by rw [show (6 : Int32) = nI 6 from rfl]; exact nI_ge hi (by omega)
      refine ⟨up2 s1 1 (6 * a + i) (val1 a i), ⟨fun w q => ?_, fun b v hv hb => ?_⟩, ?_⟩
      · rw [up2_at, if_pos rfl]
        by_cases e : w = i
        · rw [if_pos (by omega), e]
        · rw [if_neg (by omega)]
          exact a1 w (by omega)
      · rw [up2_at, if_pos rfl, if_neg (by omega)]
        exact a2 b v hv hb
      · simp only [u_X1_tail_22, if_neg n1, ix6, gA_nI (show i < 6 by omega) (show 6 < 2 ^ 31 by decide), gA_nI (show 6 * a + i < 60 by omega) (show 60 < 2 ^ 31 by decide), nI_clamp (show i < 2 ^ 31 by omega), nI_clamp (show 6 * a + i < 2 ^ 31 by omega), nI_1]
        unfold val1
        by_cases e : i = 0
        · rw [if_pos (by rw [e]; rfl), if_pos e]
        · rw [if_neg (by rw [show (0 : Int32) = nI 0 from rfl, nI_eq (by omega) (by decide)]; exact e), if_neg e]
    · rintro fl s1 ⟨a1, a2⟩
      exact ⟨s1, by simp only [u_X1_tail_22, if_pos (show (6 : Int32) ≤ nI 6 by decide), nI_1], a1, a2⟩
  rw [u_X1_tail]
  refine lp0 (b := fun fl i (s : XS) => b_X1_tail_14 fl [(0, .inr 0), (1, .inl (nI i))] [] s) (N := 10) (by omega) (fun i s => ∀ kd w, kd < i → w < 6 → s 1 (6 * kd + w) = val1 kd w) (fun o => ∃ S, o = rv S ∧ ∀ kd w, kd < 10 → w < 6 → S 1 (6 * kd + w) = val1 kd w) (fun kd w q => absurd q (by omega)) ?_ ?_
  · intro fl i s hi hI
    left
    have n1 : ¬ (10 : Int32) ≤ nI i := by rw [show (10 : Int32) = nI 10 from rfl]; exact nI_ge hi (by omega)
    obtain ⟨s', e1, e2, e3⟩ := h22 (b_X1_tail_14 fl) i s hi
    refine ⟨s', fun kd w q hw => ?_, by simp only [u_X1_tail_14, if_neg n1, e1]⟩
    by_cases e : kd = i
    · rw [e]
      exact e2 w hw
    · rw [e3 kd w hw e]
      exact hI kd w (by omega) hw
  · intro fl s hI
    exact ⟨s, by simp only [u_X1_tail_14, if_pos (show (10 : Int32) ≤ nI 10 by decide)], hI⟩
theorem q_tail : ∃ S, m_X6_tail [.inr 0] (fun _ _ => 0) = rv S ∧ fr [7] (fun _ _ => 0) S ∧ ∀ kd w, kd < 10 → w < 6 → S 7 (6 * kd + w) = val1 kd w := by
  rw [u_X6_tail]
  refine lp0 (b := fun fl i (s : XS) => b_X6_tail_198 fl [(0, .inr 0), (1, .inl (nI i))] [] s) (N := 10) (by omega) (fun i s => fr [7] (fun _ _ => 0) s ∧ (∀ kd w, kd < i → w < 6 → s 7 (6 * kd + w) = val1 kd w) ∧ (∀ kd w, i ≤ kd → w < 6 → s 7 (6 * kd + w) = 0)) (fun o => ∃ S, o = rv S ∧ fr [7] (fun _ _ => 0) S ∧ ∀ kd w, kd < 10 → w < 6 → S 7 (6 * kd + w) = val1 kd w) ⟨fr.rf, fun kd w q => absurd q (by omega), fun _ _ _ _ => rfl⟩ ?_ ?_
  · rintro fl i s hi ⟨a1, a2, a3⟩
    left
    have n1 : ¬ (10 : Int32) ≤ nI i := by rw [show (10 : Int32) = nI 10 from rfl]; exact nI_ge hi (by omega)
    have e0 : 6 * nI i = nI (6 * i) := by rw [show (6 : Int32) = nI 6 from rfl, pk_mul]
    have e1 : nI (6 * i) + 1 = nI (6 * i + 1) := nI_1 _
    have e3 : nI (6 * i) + 3 = nI (6 * i + 3) := nI_add _ 3
    have key : ∀ kd w, w < 6 → up2 (up2 (up2 s 7 (6 * i) (nI i)) 7 (6 * i + 1) 1) 7 (6 * i + 3) 2 7 (6 * kd + w) = if kd = i then (if w = 3 then 2 else if w = 1 then 1 else if w = 0 then nI i else s 7 (6 * kd + w)) else s 7 (6 * kd + w) := by
      intro kd w hw
      rw [up2_at, if_pos rfl, up2_at, if_pos rfl, up2_at, if_pos rfl]
      by_cases e : kd = i
      · subst e
        rw [if_pos rfl]
        by_cases c3 : w = 3
        · rw [if_pos (by omega), if_pos c3]
        · rw [if_neg (by omega), if_neg c3]
          by_cases c1 : w = 1
          · rw [if_pos (by omega), if_pos c1]
          · rw [if_neg (by omega), if_neg c1]
            by_cases c0 : w = 0
            · rw [if_pos (by omega), if_pos c0]
            · rw [if_neg (by omega), if_neg c0]
      · rw [if_neg (by omega), if_neg (by omega), if_neg (by omega), if_neg e]
    refine ⟨up2 (up2 (up2 s 7 (6 * i) (nI i)) 7 (6 * i + 1) 1) 7 (6 * i + 3) 2, ⟨(((a1.tr (fr.up (l := [7]) (by simp))).tr (fr.up (l := [7]) (by simp))).tr (fr.up (l := [7]) (by simp))).mono (by decide), fun kd w q hw => ?_, fun kd w q hw => ?_⟩, ?_⟩
    · rw [key kd w hw]
      by_cases e : kd = i
      · subst e
        rw [if_pos rfl, a3 kd w (Nat.le_refl _) hw]
        match w, hw with
        | 0, _ => rfl
        | 1, _ => rfl
        | 2, _ => rfl
        | 3, _ => rfl
        | 4, _ => rfl
        | 5, _ => rfl
      · rw [if_neg e]
        exact a2 kd w (by omega) hw
    · rw [key kd w hw, if_neg (by omega)]
      exact a3 kd w (by omega) hw
    · simp only [u_X6_tail_198, if_neg n1, e0, e1, e3, gA_nI (show 6 * i < 60 by omega) (show 60 < 2 ^ 31 by decide), gA_nI (show 6 * i + 1 < 60 by omega) (show 60 < 2 ^ 31 by decide), gA_nI (show 6 * i + 3 < 60 by omega) (show 60 < 2 ^ 31 by decide), nI_clamp (show 6 * i < 2 ^ 31 by omega), nI_clamp (show 6 * i + 1 < 2 ^ 31 by omega), nI_clamp (show 6 * i + 3 < 2 ^ 31 by omega), nI_1]
  · rintro fl s ⟨a1, a2, a3⟩
    exact ⟨s, by simp only [u_X6_tail_198, if_pos (show (10 : Int32) ≤ nI 10 by decide)], a1, a2⟩
theorem PI_all : PInit (RelP PLx) := by
  obtain ⟨S, x1, x2⟩ := p_tail
  obtain ⟨Sm, y1, y2, y3⟩ := q_tail
  have hz : ∀ a b, a ≠ 7 → Sm a b = 0 := fun a b q => by rw [y2 a (by simp; exact q)]
  refine ⟨_, _, x1, rfl, y1, rfl, 0, 0, 0, ⟨⟨rfl, hz 0 1 (by decide), by omega, fun j q => absurd q (by omega)⟩, fun kd w hkd hw => ?_, ⟨rfl, hz 0 9 (by decide), ⟨by omega, fun j => ⟨?_, Or.inl (hz 12 j (by decide))⟩⟩, fun j q => absurd q (by omega)⟩, ⟨rfl, hz 0 20 (by decide), by omega, fun j q => absurd q (by omega)⟩⟩, ?_, Or.inl rfl⟩
  · refine ⟨?_, ?_⟩
    · show S 1 (6 * kd + w) = Sm 7 (6 * kd + w)
      rw [x2 kd w hkd hw, y3 kd w hkd hw]
    · show wi (Sm 7 (6 * kd + w)) 0 (mst w)
      rw [y3 kd w hkd hw]
      match w, hw with
      | 0, _ => exact (wi_nI (m := 9) rfl).mpr ⟨kd, by omega, rfl⟩
      | 1, _ => exact (show wi (1 : Int32) 0 3 from ⟨by decide, by decide⟩)
      | 2, _ => exact (show wi (0 : Int32) 0 1 from ⟨by decide, by decide⟩)
      | 3, _ => exact (show wi (2 : Int32) 0 20 from ⟨by decide, by decide⟩)
      | 4, _ => exact (show wi (0 : Int32) 0 1 from ⟨by decide, by decide⟩)
      | 5, _ => exact (show wi (0 : Int32) 0 1 from ⟨by decide, by decide⟩)
  · show (0 : Int32) = Sm 12 j
    rw [hz 12 j (by decide)]
  · show (0 : Int32) = Sm 0 29
    rw [hz 0 29 (by decide)]
