/-! PURE PART: lift, set, mark, drop, slur. -/
theorem s_lift {PL : Nat → Nat → Nat → XS → XS → Prop} (hPL : PLok PL) {S Sm : XS} (hr : RelP PL S Sm) (a1 a2 : Int32) : PD (RelP PL) m_X5_lift m_X6_lift S Sm [.inl a1, .inl a2] := by
  obtain ⟨n, k, z, hb, hp⟩ := id hr
  obtain ⟨⟨i1, i2, i3, i4⟩, hK, hM, hZ⟩ := id hb
  have i2' : (up2 Sm 0 0 0) 0 1 = nI n := i2
  by_cases h1 : okI (nI n) a1
  case neg =>
    refine PD.same hPL hr (r := -100001) ?_ ?_
    · simp only [u_X5_lift, p_has0, i1, b01_f h1, cli_ri, ↓reduceIte]
    · simp only [u_X6_lift, q_item, i2', b01_f h1, cli_ri, ↓reduceIte]
  by_cases h2 : wi a2 (-120) 120
  case neg =>
    refine PD.same hPL hr (r := -100001) ?_ ?_
    · simp only [u_X5_lift, p_has0, i1, b01_t h1, p_within, b01_f h2, cli_ri, ↓reduceIte, r10]
    · simp only [u_X6_lift, q_item, i2', b01_t h1, q_in, b01_f h2, cli_ri, ↓reduceIte, r10]
  obtain ⟨j, hj, rfl⟩ := (okI_iff (by omega)).mp h1
  have hc : (nI j).toNatClampNeg = j := nI_clamp (by omega)
  have hg : ∀ q, gA (nI j) 40 q = q := fun q => gA_nI (by omega) (by decide) q
  obtain ⟨⟨e1, e2, e3, e4, e5, e6⟩, ⟨w1, w2, w3⟩, w4⟩ := id (i4 j hj)
  have w2' := wi_int.mp w2
  have w3' := wi_int.mp w3
  have h2' := wi_int.mp h2
  have c1 : (-120 : Int32).toInt = -120 := rfl
  have c2 : (120 : Int32).toInt = 120 := rfl
  have c3 : (-60 : Int32).toInt = -60 := rfl
  have c4 : (60 : Int32).toInt = 60 := rfl
  have t1 : (Sm 2 j + a2).toInt = (Sm 2 j).toInt + a2.toInt := add_toInt (by omega) (by omega)
  have t2 : (Sm 3 j + a2).toInt = (Sm 3 j).toInt + a2.toInt := add_toInt (by omega) (by omega)
  have m2 : (up2 Sm 0 0 0) 2 j = Sm 2 j := rfl
  have m3 : (up2 Sm 0 0 0) 3 j = Sm 3 j := rfl
  by_cases h3 : (Sm 2 j + a2 < -60)
  · have n1 : ¬ wi (Sm 2 j + a2) (-60) 60 := fun q => q.1 h3
    refine PD.same hPL hr (r := -100001) ?_ ?_
    · simp only [u_X5_lift, p_has0, i1, b01_t h1, p_within, b01_t h2, cli_ri, ↓reduceIte, r10, hg, hc, e2, p_head, b01_f n1]
    · simp only [u_X6_lift, q_item, i2', b01_t h1, q_in, b01_t h2, cli_ri, ↓reduceIte, r10, hg, hc, m2, if_pos h3]
  by_cases h4 : (Sm 3 j + a2 ≤ 60)
  case neg =>
    have n1 : ¬ wi (Sm 3 j + a2) (-60) 60 := fun q => h4 (by have := wi_int.mp q; rw [Int32.le_iff_toInt_le]; exact this.2)
    refine PD.same hPL hr (r := -100001) ?_ ?_
    · simp only [u_X5_lift, p_has0, i1, b01_t h1, p_within, b01_t h2, cli_ri, ↓reduceIte, r10, hg, hc, e2, e3, p_head, b01_f n1]
      by_cases n2 : wi (Sm 2 j + a2) (-60) 60
      · simp only [b01_t n2, ↓reduceIte, r10]
      · simp only [b01_f n2, ↓reduceIte]
    · simp only [u_X6_lift, q_item, i2', b01_t h1, q_in, b01_t h2, cli_ri, ↓reduceIte, r10, hg, hc, m2, m3, if_neg h3, if_neg h4]
  rw [Int32.lt_iff_toInt_lt] at h3
  rw [Int32.le_iff_toInt_le] at h4
  have n1 : wi (Sm 2 j + a2) (-60) 60 := wi_int.mpr (by omega)
  have n2 : wi (Sm 3 j + a2) (-60) 60 := wi_int.mpr (by omega)
  have n3 : wi (Sm 3 j + a2) (Sm 2 j + a2) 60 := wi_int.mpr (by omega)
  have h3' : ¬ (Sm 2 j + a2 < -60) := n1.1
  have h4' : Sm 3 j + a2 ≤ 60 := by rw [Int32.le_iff_toInt_le]; exact h4
  refine ⟨up2 (up2 (up2 S 8 j (Sm 2 j + a2)) 9 j (Sm 3 j + a2)) 0 9 0, up2 (up2 (up2 (up2 Sm 0 0 0) 2 j (Sm 2 j + a2)) 3 j (Sm 3 j + a2)) 0 29 0, 1, ?_, ?_, ?_⟩
  · simp only [u_X5_lift, p_has0, i1, b01_t h1, p_within, b01_t h2, cli_ri, ↓reduceIte, r10, hg, hc, e2, e3, p_head, b01_t n1, b01_t n2, up2_o _ _ (show (9 : Nat) ≠ 8 by decide)]
  · simp only [u_X6_lift, q_item, i2', b01_t h1, q_in, b01_t h2, cli_ri, ↓reduceIte, r10, hg, hc, m2, m3, if_neg h3', if_pos h4', up2_o _ _ (show (3 : Nat) ≠ 2 by decide)]
  · refine RB.pos (n := n) (k := k) (z := z) ⟨⟨i1, i2, i3, fun i hi => ?_⟩, hK, hM, hZ⟩ rfl rfl
    have q := i4 i hi
    by_cases e : i = j
    · subst e
      unfold RIj at q ⊢
      simp only [up2_at]
      simp
      exact ⟨⟨q.1.1, q.1.2.2.2.1, q.1.2.2.2.2.1, q.1.2.2.2.2.2⟩, ⟨q.2.1.1, n1, n3⟩, q.2.2⟩
    · unfold RIj at q ⊢
      simp only [up2_at]
      simp [e]
      simpa using q
theorem p_takes (S : XS) (a1 a2 : Int32) : m_X1_takes [.inr 2, .inl a1, .inl a2] S = ri S (b01 (wi a1 0 5 ∧ wi a2 0 (mostf a1.toNatClampNeg))) := by
  have e : (6 ≤ a1) ↔ (5 < a1) := by
    rw [Int32.le_iff_toInt_le, Int32.lt_iff_toInt_lt, show (6 : Int32).toInt = 6 from rfl, show (5 : Int32).toInt = 5 from rfl]
    omega
  rw [u_X1_takes]
  split
  · rw [b01_f (fun q => q.1.1 (by assumption))]
  split
  · rename_i h
    rw [b01_f (fun q => q.1.2 (e.mp h))]
  split
  · rw [b01_f (fun q => q.2.1 (by assumption))]
  rename_i h1 h2 h3
  have hw : wi a1 0 5 := ⟨h1, fun q => h2 (e.mpr q)⟩
  obtain ⟨w, hw', rfl⟩ := (wi_nI (m := 5) rfl).mp hw
  rw [gA_nI (by omega) (by decide)]
  split
  · rw [b01_f (fun q => q.2.2 (by assumption))]
  · rw [b01_t ⟨hw, h3, by assumption⟩]
theorem q_most (S : XS) {w : Nat} (hw : w < 6) : m_X6_most [.inl (nI w)] S = ri S (mostf w) := by
  rw [u_X6_most, nI_toInt (by omega)]
  match w, hw with
  | 0, _ => rfl
  | 1, _ => rfl
  | 2, _ => rfl
  | 3, _ => rfl
  | 4, _ => rfl
  | 5, _ => rfl
theorem ix6 (a b : Nat) : nI a * 6 + nI b = nI (6 * a + b) := by
  rw [show (6 : Int32) = nI 6 from rfl, pk_mul, nI_add, Nat.mul_comm]
theorem ix6' (a b : Nat) : 6 * nI a + nI b = nI (6 * a + b) := by
  rw [show (6 : Int32) = nI 6 from rfl, pk_mul, nI_add]
theorem s_set {PL : Nat → Nat → Nat → XS → XS → Prop} (hPL : PLok PL) {S Sm : XS} (hr : RelP PL S Sm) (a1 a2 a3 : Int32) : PD (RelP PL) m_X5_set m_X6_set S Sm [.inl a1, .inl a2, .inl a3] := by
  obtain ⟨n, k, z, hb, hp⟩ := id hr
  obtain ⟨hI, hK, hM, hZ⟩ := id hb
  by_cases h1 : wi a1 0 9
  case neg =>
    refine PD.same hPL hr (r := -100001) ?_ ?_
    · simp only [u_X5_set, p_has1, b01_f h1, cli_ri, ↓reduceIte]
    · simp only [u_X6_set, q_in, b01_f h1, cli_ri, ↓reduceIte]
  by_cases h2 : wi a2 0 5
  case neg =>
    refine PD.same hPL hr (r := -100001) ?_ ?_
    · simp only [u_X5_set, p_has1, b01_t h1, p_takes, b01_f (fun q : wi a2 0 5 ∧ wi a3 0 (mostf a2.toNatClampNeg) => h2 q.1), cli_ri, ↓reduceIte, r10]
    · simp only [u_X6_set, q_in, b01_t h1, b01_f h2, cli_ri, ↓reduceIte, r10]
  obtain ⟨kd, hkd, rfl⟩ := (wi_nI (m := 9) rfl).mp h1
  obtain ⟨w, hw, rfl⟩ := (wi_nI (m := 5) rfl).mp h2
  have hc : (nI w).toNatClampNeg = w := nI_clamp (by omega)
  by_cases h3 : wi a3 0 (mostf w)
  case neg =>
    refine PD.same hPL hr (r := -100001) ?_ ?_
    · simp only [u_X5_set, p_has1, b01_t h1, p_takes, hc, b01_f (fun q : wi (nI w) 0 5 ∧ wi a3 0 (mostf w) => h3 q.2), cli_ri, ↓reduceIte, r10]
    · simp only [u_X6_set, q_in, b01_t h1, b01_t h2, q_most _ (show w < 6 by omega), b01_f h3, cli_ri, ↓reduceIte, r10]
  have hg : ∀ q, gA (nI (6 * kd + w)) 60 q = q := fun q => gA_nI (by omega) (by decide) q
  have hc2 : (nI (6 * kd + w)).toNatClampNeg = 6 * kd + w := nI_clamp (by omega)
  have e := hK kd w (by omega) (by omega)
  refine ⟨up2 (up2 S 0 9 0) 13 (6 * kd + w) a3, up2 (up2 (up2 Sm 0 0 0) 7 (6 * kd + w) a3) 0 29 0, Sm 7 (6 * kd + w), ?_, ?_, ?_⟩
  · simp only [u_X5_set, p_has1, b01_t h1, p_takes, hc, b01_t (show wi (nI w) 0 5 ∧ wi a3 0 (mostf w) from ⟨h2, h3⟩), cli_ri, ↓reduceIte, r10, u_X1_change, u_X1_get, ix6, hg, hc2, up2_o _ _ (show (13 : Nat) ≠ 0 by decide), e.1]
  · simp only [u_X6_set, q_in, b01_t h1, b01_t h2, q_most _ (show w < 6 by omega), b01_t h3, cli_ri, ↓reduceIte, r10, ix6', hg, hc2, up2_o _ _ (show (7 : Nat) ≠ 0 by decide)]
  · refine RB.pos (n := n) (k := k) (z := z) ⟨hI, fun kd' w' hk' hw' => ?_, hM, hZ⟩ rfl rfl
    have q := hK kd' w' hk' hw'
    simp only [up2_at]
    by_cases e : 6 * kd' + w' = 6 * kd + w
    · have : w' = w := by omega
      subst this
      simp [e]
      exact h3
    · simp [e]
      simpa using q
def xMark (S : XS) (k : Nat) (a1 a2 a3 a4 : Int32) : XS := up2 (up2 (up2 (up2 (up2 (up2 S 0 9 0) 14 k a1) 15 k a2) 16 k a3) 17 k a4) 3 11 (nI (k + 1))
def mMark (S : XS) (k : Nat) (a1 a2 a3 a4 : Int32) : XS := up2 (up2 (up2 (up2 (up2 (up2 (up2 S 0 0 0) 8 k a1) 9 k a2) 10 k a3) 11 k a4) 0 9 (nI (k + 1))) 0 29 0
theorem s_mark {PL : Nat → Nat → Nat → XS → XS → Prop} (hPL : PLok PL) {S Sm : XS} (hr : RelP PL S Sm) (a1 a2 a3 a4 : Int32) : PD (RelP PL) m_X5_mark m_X6_mark S Sm [.inl a1, .inl a2, .inl a3, .inl a4] := by
  obtain ⟨n, k, z, hb, hp⟩ := id hr
  obtain ⟨⟨i1, i2, i3, i4⟩, hK, ⟨m1, m2, ⟨m3, m5⟩, m4⟩, hZ⟩ := id hb
  have i2' : (up2 Sm 0 0 0) 0 1 = nI n := i2
  have m2' : (up2 Sm 0 0 0) 0 9 = nI k := m2
  by_cases h1 : okI (nI n) a1
  case neg =>
    refine PD.same hPL hr (r := -100001) ?_ ?_
    · simp only [u_X5_mark, p_has0, i1, b01_f h1, cli_ri, ↓reduceIte]
    · simp only [u_X6_mark, q_item, i2', b01_f h1, cli_ri, ↓reduceIte]
  by_cases h2 : wi a2 0 9
  case neg =>
    refine PD.same hPL hr (r := -100001) ?_ ?_
    · simp only [u_X5_mark, p_has0, i1, b01_t h1, p_has1, b01_f h2, cli_ri, ↓reduceIte, r10]
    · simp only [u_X6_mark, q_item, i2', b01_t h1, q_in, b01_f h2, cli_ri, ↓reduceIte, r10]
  by_cases h3 : wi a3 1 400
  case neg =>
    refine PD.same hPL hr (r := -100001) ?_ ?_
    · simp only [u_X5_mark, p_has0, i1, b01_t h1, p_has1, b01_t h2, p_within, b01_f h3, cli_ri, ↓reduceIte, r10]
    · simp only [u_X6_mark, q_item, i2', b01_t h1, q_in, b01_t h2, b01_f h3, cli_ri, ↓reduceIte, r10]
  by_cases h4 : wi a4 1 40
  case neg =>
    refine PD.same hPL hr (r := -100001) ?_ ?_
    · simp only [u_X5_mark, p_has0, i1, b01_t h1, p_has1, b01_t h2, p_within, b01_t h3, b01_f h4, cli_ri, ↓reduceIte, r10]
    · simp only [u_X6_mark, q_item, i2', b01_t h1, q_in, b01_t h2, b01_t h3, b01_f h4, cli_ri, ↓reduceIte, r10]
  by_cases h5 : k < 80
  case neg =>
    have e : k = 80 := by omega
    subst e
    refine PD.same hPL hr (r := -100002) ?_ ?_
    · simp only [u_X5_mark, p_has0, i1, b01_t h1, p_has1, b01_t h2, p_within, b01_t h3, b01_t h4, cli_ri, ↓reduceIte, r10, m1, if_neg (show ¬ nI 80 < 80 by decide)]
    · simp only [u_X6_mark, q_item, i2', b01_t h1, q_in, b01_t h2, b01_t h3, b01_t h4, cli_ri, ↓reduceIte, r10, m2', if_pos (show nI 80 = 80 by decide)]
  have hg : ∀ q, gA (nI k) 80 q = q := fun q => gA_nI h5 (by decide) q
  have hc : (nI k).toNatClampNeg = k := nI_clamp (by omega)
  have n1 : nI k < 80 := by rw [show (80 : Int32) = nI 80 from rfl, nI_ltI (by omega) (by decide)]; exact h5
  have n2 : ¬ nI k = 80 := by rw [show (80 : Int32) = nI 80 from rfl, nI_eq (by omega) (by decide)]; omega
  refine ⟨xMark S k a1 a2 a3 a4, mMark Sm k a1 a2 a3 a4, nI k, ?_, ?_, ?_⟩
  · simp only [u_X5_mark, p_has0, i1, b01_t h1, p_has1, b01_t h2, p_within, b01_t h3, b01_t h4, cli_ri, ↓reduceIte, r10, m1, if_pos n1, u_X2_add, up2_o _ _ (show (3 : Nat) ≠ 0 by decide), up2_o _ _ (show (3 : Nat) ≠ 14 by decide), up2_o _ _ (show (3 : Nat) ≠ 15 by decide), up2_o _ _ (show (3 : Nat) ≠ 16 by decide), up2_o _ _ (show (3 : Nat) ≠ 17 by decide), hg, hc, nI_1, xMark]
  · simp only [u_X6_mark, q_item, i2', b01_t h1, q_in, b01_t h2, b01_t h3, b01_t h4, cli_ri, ↓reduceIte, r10, m2', if_neg n2, up2_o _ _ (show (0 : Nat) ≠ 8 by decide), up2_o _ _ (show (0 : Nat) ≠ 9 by decide), up2_o _ _ (show (0 : Nat) ≠ 10 by decide), up2_o _ _ (show (0 : Nat) ≠ 11 by decide), hg, hc, nI_1, up2_n _ (show (9 : Nat) ≠ 29 by decide), up2_s, nI_pred, mMark]
  · refine RB.pos (n := n) (k := k + 1) (z := z) ⟨⟨i1, i2, i3, i4⟩, hK, ⟨rfl, rfl, ⟨by omega, m5⟩, fun j hj => ?_⟩, hZ⟩ rfl rfl
    by_cases e : j = k
    · subst e
      unfold RMj xMark mMark
      simp only [up2_at]
      simp
      exact ⟨(m5 j).1, (okI_iff (by omega)).mp h1, (by obtain ⟨kd, q1, q2⟩ := (wi_nI (m := 9) rfl).mp h2; exact ⟨kd, by omega, q2⟩), h3, h4, (m5 j).2⟩
    · have q := m4 j (by omega)
      unfold RMj at q ⊢
      unfold xMark mMark
      simp only [up2_at]
      simp [e]
      simpa using q
theorem s_drop {PL : Nat → Nat → Nat → XS → XS → Prop} (hPL : PLok PL) {S Sm : XS} (hr : RelP PL S Sm) (a1 : Int32) : PD (RelP PL) m_X5_drop m_X6_drop S Sm [.inl a1] := by
  obtain ⟨n, k, z, hb, hp⟩ := id hr
  obtain ⟨⟨i1, i2, i3, i4⟩, hK, ⟨m1, m2, ⟨m3, m5⟩, m4⟩, hZ⟩ := id hb
  have m2' : (up2 Sm 0 0 0) 0 9 = nI k := m2
  by_cases h1 : okM Sm k a1
  case neg =>
    refine PD.same hPL hr (r := -100001) ?_ ?_
    · simp only [u_X5_drop, p_has2 m1 m3 (fun j hj => (m5 j).1), b01_f h1, cli_ri, ↓reduceIte]
    · simp only [u_X6_drop, q_mark m2' m3, b01_f (show ¬ okM (up2 Sm 0 0 0) k a1 from h1), cli_ri, ↓reduceIte]
  obtain ⟨j, hj, rfl, hj0⟩ := id h1
  have hg : ∀ q, gA (nI j) 80 q = q := fun q => gA_nI (by omega) (by decide) q
  have hc : (nI j).toNatClampNeg = j := nI_clamp (by omega)
  refine ⟨up2 (up2 S 18 j 1) 0 9 0, up2 (up2 (up2 Sm 0 0 0) 12 j 1) 0 29 0, 1, ?_, ?_, ?_⟩
  · simp only [u_X5_drop, p_has2 m1 m3 (fun j hj => (m5 j).1), b01_t h1, cli_ri, ↓reduceIte, r10, hg, hc, nar1]
  · simp only [u_X6_drop, q_mark m2' m3, b01_t (show okM (up2 Sm 0 0 0) k (nI j) from h1), cli_ri, ↓reduceIte, r10, hg, hc, nar1]
  · have hall : ∀ i, (up2 (up2 S 18 j 1) 0 9 0) 18 i = (up2 (up2 (up2 Sm 0 0 0) 12 j 1) 0 29 0) 12 i ∧ ((up2 (up2 (up2 Sm 0 0 0) 12 j 1) 0 29 0) 12 i = 0 ∨ (up2 (up2 (up2 Sm 0 0 0) 12 j 1) 0 29 0) 12 i = 1) := by
      intro i
      have q := m5 i
      simp only [up2_at]
      by_cases e : i = j
      · simp [e]
      · simp [e]
        simpa using q
    refine RB.pos (n := n) (k := k) (z := z) ⟨⟨i1, i2, i3, i4⟩, hK, ⟨m1, m2, ⟨m3, hall⟩, fun i hi => ?_⟩, hZ⟩ rfl rfl
    obtain ⟨⟨q1, q2, q3, q4, q5⟩, q6, q7, q8, q9, q10⟩ := m4 i hi
    exact ⟨⟨q1, q2, q3, q4, (hall i).1⟩, q6, q7, q8, q9, (hall i).2⟩
def xSlur (S : XS) (k : Nat) (a1 a2 a3 a4 : Int32) : XS := up2 (up2 (up2 (up2 (up2 (up2 S 0 9 0) 25 k a1) 26 k a2) 27 k a3) 28 k a4) 4 6 (nI (k + 1))
def mSlur (S : XS) (k : Nat) (a1 a2 a3 a4 : Int32) : XS := up2 (up2 (up2 (up2 (up2 (up2 (up2 S 0 0 0) 17 k a1) 18 k a2) 19 k a3) 20 k a4) 0 20 (nI (k + 1))) 0 29 0
theorem s_slur {PL : Nat → Nat → Nat → XS → XS → Prop} (hPL : PLok PL) {S Sm : XS} (hr : RelP PL S Sm) (a1 a2 a3 a4 : Int32) : PD (RelP PL) m_X5_slur m_X6_slur S Sm [.inl a1, .inl a2, .inl a3, .inl a4] := by
  obtain ⟨n, k, z, hb, hp⟩ := id hr
  obtain ⟨⟨i1, i2, i3, i4⟩, hK, hM, ⟨z1, z2, z3, z4⟩⟩ := id hb
  have i2' : (up2 Sm 0 0 0) 0 1 = nI n := i2
  have z2' : (up2 Sm 0 0 0) 0 20 = nI z := z2
  by_cases h1 : okI (nI n) a1
  case neg =>
    refine PD.same hPL hr (r := -100001) ?_ ?_
    · simp only [u_X5_slur, p_has0, i1, b01_f h1, cli_ri, ↓reduceIte]
    · simp only [u_X6_slur, q_item, i2', b01_f h1, cli_ri, ↓reduceIte]
  by_cases h2 : okI (nI n) a2
  case neg =>
    refine PD.same hPL hr (r := -100001) ?_ ?_
    · simp only [u_X5_slur, p_has0, i1, b01_t h1, b01_f h2, cli_ri, ↓reduceIte, r10]
    · simp only [u_X6_slur, q_item, i2', b01_t h1, b01_f h2, cli_ri, ↓reduceIte, r10]
  obtain ⟨j1, hj1, rfl⟩ := (okI_iff (by omega)).mp h1
  obtain ⟨j2, hj2, rfl⟩ := (okI_iff (by omega)).mp h2
  have hg1 : ∀ q, gA (nI j1) 40 q = q := fun q => gA_nI (by omega) (by decide) q
  have hc1 : (nI j1).toNatClampNeg = j1 := nI_clamp (by omega)
  have hg2 : ∀ q, gA (nI j2) 40 q = q := fun q => gA_nI (by omega) (by decide) q
  have hc2 : (nI j2).toNatClampNeg = j2 := nI_clamp (by omega)
  have e1 : S 7 j1 = Sm 1 j1 := (i4 j1 hj1).1.1
  have e2 : S 7 j2 = Sm 1 j2 := (i4 j2 hj2).1.1
  have f1 : (up2 Sm 0 0 0) 1 j1 = Sm 1 j1 := rfl
  have f2 : (up2 Sm 0 0 0) 1 j2 = Sm 1 j2 := rfl
  by_cases h3 : sdP a3
  case neg =>
    refine PD.same hPL hr (r := -100001) ?_ ?_
    · simp only [u_X5_slur, p_has0, i1, b01_t h1, b01_t h2, cli_ri, ↓reduceIte, r10, hg1, hg2, p_side, b01_f h3, ite_self]
    · simp only [u_X6_slur, q_item, i2', b01_t h1, b01_t h2, cli_ri, ↓reduceIte, r10, q_side, b01_f h3]
  by_cases h4 : wi a4 1 20
  case neg =>
    refine PD.same hPL hr (r := -100001) ?_ ?_
    · simp only [u_X5_slur, p_has0, i1, b01_t h1, b01_t h2, cli_ri, ↓reduceIte, r10, hg1, hg2, p_side, b01_t h3, p_within, b01_f h4, ite_self]
    · simp only [u_X6_slur, q_item, i2', b01_t h1, b01_t h2, cli_ri, ↓reduceIte, r10, q_side, b01_t h3, q_in, b01_f h4]
  by_cases h6 : Sm 1 j1 < Sm 1 j2
  case neg =>
    refine PD.same hPL hr (r := -100001) ?_ ?_
    · simp only [u_X5_slur, p_has0, i1, b01_t h1, b01_t h2, cli_ri, ↓reduceIte, r10, hg1, hg2, hc1, hc2, e1, e2, if_neg h6]
    · simp only [u_X6_slur, q_item, i2', b01_t h1, b01_t h2, cli_ri, ↓reduceIte, r10, q_side, b01_t h3, q_in, b01_t h4, hg1, hg2, hc1, hc2, f1, f2, if_neg h6]
  by_cases h5 : z < 10
  case neg =>
    have e : z = 10 := by omega
    subst e
    refine PD.same hPL hr (r := -100002) ?_ ?_
    · simp only [u_X5_slur, p_has0, i1, b01_t h1, b01_t h2, cli_ri, ↓reduceIte, r10, hg1, hg2, hc1, hc2, e1, e2, if_pos h6, p_side, b01_t h3, p_within, b01_t h4, z1, if_neg (show ¬ nI 10 < 10 by decide)]
    · simp only [u_X6_slur, q_item, i2', b01_t h1, b01_t h2, cli_ri, ↓reduceIte, r10, q_side, b01_t h3, q_in, b01_t h4, hg1, hg2, hc1, hc2, f1, f2, if_pos h6, z2', if_pos (show nI 10 = 10 by decide)]
  have hg : ∀ q, gA (nI z) 10 q = q := fun q => gA_nI h5 (by decide) q
  have hc : (nI z).toNatClampNeg = z := nI_clamp (by omega)
  have n1 : nI z < 10 := by rw [show (10 : Int32) = nI 10 from rfl, nI_ltI (by omega) (by decide)]; exact h5
  have n2 : ¬ nI z = 10 := by rw [show (10 : Int32) = nI 10 from rfl, nI_eq (by omega) (by decide)]; omega
  refine ⟨xSlur S z (nI j1) (nI j2) a3 a4, mSlur Sm z (nI j1) (nI j2) a3 a4, nI z, ?_, ?_, ?_⟩
  · simp only [u_X5_slur, p_has0, i1, b01_t h1, b01_t h2, cli_ri, ↓reduceIte, r10, hg1, hg2, hc1, hc2, e1, e2, if_pos h6, p_side, b01_t h3, p_within, b01_t h4, z1, if_pos n1, u_X4_add, up2_o _ _ (show (4 : Nat) ≠ 0 by decide), up2_o _ _ (show (4 : Nat) ≠ 25 by decide), up2_o _ _ (show (4 : Nat) ≠ 26 by decide), up2_o _ _ (show (4 : Nat) ≠ 27 by decide), up2_o _ _ (show (4 : Nat) ≠ 28 by decide), hg, hc, nI_1, xSlur]
  · simp only [u_X6_slur, q_item, i2', b01_t h1, b01_t h2, cli_ri, ↓reduceIte, r10, q_side, b01_t h3, q_in, b01_t h4, hg1, hg2, hc1, hc2, f1, f2, if_pos h6, z2', if_neg n2, up2_o _ _ (show (0 : Nat) ≠ 17 by decide), up2_o _ _ (show (0 : Nat) ≠ 18 by decide), up2_o _ _ (show (0 : Nat) ≠ 19 by decide), up2_o _ _ (show (0 : Nat) ≠ 20 by decide), hg, hc, nI_1, up2_n _ (show (20 : Nat) ≠ 29 by decide), up2_s, nI_pred, mSlur]
  · refine RB.pos (n := n) (k := k) (z := z + 1) ⟨⟨i1, i2, i3, i4⟩, hK, hM, ⟨rfl, rfl, by omega, fun j hj => ?_⟩⟩ rfl rfl
    by_cases e : j = z
    · subst e
      unfold RZj xSlur mSlur
      simp only [up2_at]
      simp
      exact ⟨⟨j1, hj1, rfl⟩, ⟨j2, hj2, rfl⟩, h3, h4⟩
    · have q := z4 j (by omega)
      unfold RZj at q ⊢
      unfold xSlur mSlur
      simp only [up2_at]
      simp [e]
      simpa using q
