/-! PURE PART: note, rest. -/
noncomputable def cif (c : Prop) (x y : Option RS) : Option RS := @ite _ c (Classical.propDecidable c) x y
theorem cif_t {c : Prop} {x y : Option RS} (h : c) : cif c x y = x := by unfold cif; exact if_pos h
theorem cif_f {c : Prop} {x y : Option RS} (h : ¬ c) : cif c x y = y := by unfold cif; exact if_neg h
theorem cif_and {a b : Prop} {x y : Option RS} : cif a (cif b x y) y = cif (a ∧ b) x y := by
  by_cases ha : a
  · by_cases hb : b
    · rw [cif_t ha, cif_t hb, cif_t ⟨ha, hb⟩]
    · rw [cif_t ha, cif_f hb, cif_f (fun q => hb q.2)]
  · rw [cif_f ha, cif_f (fun q => ha q.1)]
theorem cif_iff {a b : Prop} {x y : Option RS} (h : a ↔ b) : cif a x y = cif b x y := by rw [propext h]
theorem ite_cif {c : Prop} [Decidable c] {x y : Option RS} : (if c then y else x) = cif (¬ c) x y := by
  by_cases h : c
  · rw [if_pos h, cif_f (fun q => q h)]
  · rw [if_neg h, cif_t h]
theorem ite_cif2 {c : Prop} [Decidable c] {x y : Option RS} : (if c then x else y) = cif c x y := by
  by_cases h : c
  · rw [if_pos h, cif_t h]
  · rw [if_neg h, cif_f h]
/-- a test's answer is asked for at once -/
theorem cli_b {S : XS} {c : Prop} {A B : XS → Option RS} : cli (ri S (b01 c)) (fun S1 r1 => if r1 = 0 then A S1 else B S1) = cif c (B S) (A S) := by
  rw [cli_ri]
  by_cases h : c
  · rw [b01_t h, cif_t h]; rfl
  · rw [b01_f h, cif_f h]; rfl
theorem cli_bn {S : XS} {c : Prop} {A B : XS → Option RS} : cli (ri S (b01 c)) (fun S1 r1 => if r1 = 0 then A S1 else B S1) = cif (¬ c) (A S) (B S) := by
  rw [cli_ri]
  by_cases h : c
  · rw [b01_t h, cif_f (fun q => q h)]; rfl
  · rw [b01_f h, cif_t h]; rfl
theorem cli_cif {c : Prop} {x y : Option RS} {k : XS → Int32 → Option RS} : cli (cif c x y) k = cif c (cli x k) (cli y k) := by
  by_cases h : c
  · rw [cif_t h, cif_t h]
  · rw [cif_f h, cif_f h]
def xAdd (S : XS) (n : Nat) (a1 a2 a3 a4 a5 a6 : Int32) : XS := up2 (up2 (up2 (up2 (up2 (up2 (up2 (up2 S 0 9 0) 7 n a1) 8 n a2) 9 n a3) 10 n a4) 11 n a5) 12 n a6) 1 6 (nI (n + 1))
def mAdd (S : XS) (n : Nat) (a1 a2 a3 a4 a5 a6 : Int32) : XS := up2 (up2 (up2 (up2 (up2 (up2 (up2 (up2 S 1 n a1) 2 n a2) 3 n a3) 4 n a4) 5 n a5) 6 n a6) 0 1 (nI (n + 1))) 0 29 0
theorem p_addItem {S : XS} {n : Nat} (hn : S 1 6 = nI n) (h40 : n ≤ 40) (a1 a2 a3 a4 a5 a6 : Int32) : m_X5_addItem [.inr 0, .inl a1, .inl a2, .inl a3, .inl a4, .inl a5, .inl a6] S = cif (wi a1 0 100000 ∧ wi a4 0 1 ∧ ¬ exq (S 7) 0 n a1) (cif (n < 40) (ri (xAdd S n a1 a2 a3 a4 a5 a6) (nI n)) (ri S (-100002))) (ri S (-100001)) := by
  rw [u_X5_addItem, p_within, cli_b, p_within, cli_b, p_isAt hn h40, cli_bn, cif_and, cif_and]
  simp only [and_assoc]
  by_cases hv : wi a1 0 100000 ∧ wi a4 0 1 ∧ ¬ exq (S 7) 0 n a1
  · rw [cif_t hv, cif_t hv]
    by_cases h : n < 40
    · rw [cif_t h, hn, if_pos (by rw [show (40 : Int32) = nI 40 from rfl, nI_ltI (by omega) (by decide)]; exact h)]
      rw [p_add0 (S := up2 S 0 9 0) hn h, cli_ri]
      rfl
    · rw [cif_f h, hn, if_neg (by rw [show (40 : Int32) = nI 40 from rfl, nI_ltI (by omega) (by decide)]; exact h)]
  · rw [cif_f hv, cif_f hv]
theorem p_note {S : XS} {n : Nat} (hn : S 1 6 = nI n) (h40 : n ≤ 40) (a1 a2 a3 a4 a5 : Int32) : m_X5_note [.inr 0, .inl a1, .inl a2, .inl a3, .inl a4, .inl a5] S = cif (wi a2 (-60) 60 ∧ wi a3 (-60) 60 ∧ ¬ a3 < a2 ∧ wi a5 (-1) 1 ∧ wi a1 0 100000 ∧ wi a4 0 1 ∧ ¬ exq (S 7) 0 n a1) (cif (n < 40) (ri (xAdd S n a1 a2 a3 a4 a5 0) (nI n)) (ri S (-100002))) (ri S (-100001)) := by
  rw [u_X5_note, p_head, cli_b, p_head, cli_b, ite_cif, p_within, cli_b, p_addItem hn h40, cli_cif, cli_cif]
  simp only [cli_ri]
  rw [cif_and, cif_and, cif_and, cif_and]
  simp only [and_assoc]
theorem p_rest {S : XS} {n : Nat} (hn : S 1 6 = nI n) (h40 : n ≤ 40) (a1 a2 a3 : Int32) : m_X5_rest [.inr 0, .inl a1, .inl a2, .inl a3] S = cif (wi a2 (-60) 60 ∧ wi a1 0 100000 ∧ wi a3 0 1 ∧ ¬ exq (S 7) 0 n a1) (cif (n < 40) (ri (xAdd S n a1 a2 a2 a3 0 1) (nI n)) (ri S (-100002))) (ri S (-100001)) := by
  rw [u_X5_rest, p_head, cli_b, p_addItem hn h40, cli_cif, cli_cif]
  simp only [cli_ri]
  rw [cif_and]
theorem q_come2 {S : XS} {n : Nat} (hn : S 0 1 = nI n) (h40 : n ≤ 40) (a1 a2 a3 a4 a5 a6 : Int32) (ha : a6 = 0 ∨ a6 = 1) : m_X6_come [.inr 0, .inl a1, .inl a2, .inl a3, .inl a4, .inl a5, .inl a6] S = cif (n < 40) (ri (mAdd S n a1 a2 a3 a4 a5 a6) (nI n)) (ri S (-100002)) := by
  by_cases h : n < 40
  · rw [cif_t h, q_come hn h _ _ _ _ _ _ ha]
    rfl
  · have e : n = 40 := by omega
    subst e
    rw [cif_f h, u_X6_come, hn, if_pos (show nI 40 = 40 from rfl)]
theorem q_note {S : XS} {n : Nat} (hn : S 0 1 = nI n) (h40 : n ≤ 40) (a1 a2 a3 a4 a5 : Int32) : m_X6_note [.inr 0, .inl a1, .inl a2, .inl a3, .inl a4, .inl a5] S = cif (wi a1 0 100000 ∧ wi a2 (-60) 60 ∧ wi a3 a2 60 ∧ wi a4 0 1 ∧ wi a5 (-1) 1 ∧ ¬ exq (S 1) 0 n a1) (cif (n < 40) (ri (mAdd (up2 S 0 0 0) n a1 a2 a3 a4 a5 0) (nI n)) (ri (up2 S 0 0 0) (-100002))) (ri (up2 S 0 0 0) (-100001)) := by
  rw [u_X6_note, q_in, cli_b, q_in, cli_b, q_in, cli_b, q_in, cli_b, q_in, cli_b, q_taken (S := up2 S 0 0 0) hn h40, cli_bn, q_come2 (S := up2 S 0 0 0) hn h40 _ _ _ _ _ _ (Or.inl rfl), cli_cif]
  simp only [cli_ri]
  rw [cif_and, cif_and, cif_and, cif_and, cif_and]
  simp only [and_assoc]
  rfl
theorem q_rest {S : XS} {n : Nat} (hn : S 0 1 = nI n) (h40 : n ≤ 40) (a1 a2 a3 : Int32) : m_X6_rest [.inr 0, .inl a1, .inl a2, .inl a3] S = cif (wi a1 0 100000 ∧ wi a2 (-60) 60 ∧ wi a3 0 1 ∧ ¬ exq (S 1) 0 n a1) (cif (n < 40) (ri (mAdd (up2 S 0 0 0) n a1 a2 a2 a3 0 1) (nI n)) (ri (up2 S 0 0 0) (-100002))) (ri (up2 S 0 0 0) (-100001)) := by
  rw [u_X6_rest, q_in, cli_b, q_in, cli_b, q_in, cli_b, q_taken (S := up2 S 0 0 0) hn h40, cli_bn, q_come2 (S := up2 S 0 0 0) hn h40 _ _ _ _ _ _ (Or.inr rfl), cli_cif]
  simp only [cli_ri]
  rw [cif_and, cif_and, cif_and]
  simp only [and_assoc]
  rfl
theorem exq_agr {f g : Nat → Int32} {n : Nat} {x : Int32} (h : ∀ j, j < n → f j = g j) : exq f 0 n x ↔ exq g 0 n x := by
  constructor
  · rintro ⟨j, h1, h2, h3⟩
    exact ⟨j, h1, h2, by rw [← h j h2]; exact h3⟩
  · rintro ⟨j, h1, h2, h3⟩
    exact ⟨j, h1, h2, by rw [h j h2]; exact h3⟩
theorem RB.add {n k z : Nat} {S Sm : XS} (h : RB n k z S Sm) (hn : n < 40) {a1 a2 a3 a4 a5 a6 : Int32} (h1 : wi a1 0 100000) (h2 : wi a2 (-60) 60) (h3 : wi a3 a2 60) (h4 : a4 = 0 ∨ a4 = 1) (h5 : a5 = -1 ∨ a5 = 0 ∨ a5 = 1) (h6 : a6 = 0 ∨ (a6 = 1 ∧ a5 = 0)) : RB (n + 1) k z (xAdd S n a1 a2 a3 a4 a5 a6) (mAdd (up2 Sm 0 0 0) n a1 a2 a3 a4 a5 a6) := by
  obtain ⟨⟨i1, i2, i3, i4⟩, hK, ⟨m1, m2, m3, m4⟩, ⟨z1, z2, z3, z4⟩⟩ := h
  refine ⟨⟨rfl, rfl, by omega, fun j hj => ?_⟩, hK, ⟨m1, m2, m3, fun j hj => ?_⟩, ⟨z1, z2, z3, fun j hj => ?_⟩⟩
  · by_cases e : j = n
    · subst e
      unfold RIj xAdd mAdd
      simp only [up2_at]
      simp
      exact ⟨⟨h1, h2, h3⟩, h4, h5, h6⟩
    · have q := i4 j (by omega)
      unfold RIj at q ⊢
      unfold xAdd mAdd
      simp only [up2_at]
      simp [e]
      simpa using q
  · obtain ⟨q1, ⟨i, q2, q3⟩, q4⟩ := m4 j hj
    exact ⟨q1, ⟨i, by omega, q3⟩, q4⟩
  · obtain ⟨q1, ⟨i, q2, q3⟩, ⟨i', q4, q5⟩, q6⟩ := z4 j hj
    exact ⟨q1, ⟨i, by omega, q3⟩, ⟨i', by omega, q5⟩, q6⟩
theorem RelP.add {PL : Nat → Nat → Nat → XS → XS → Prop} {n k z : Nat} {S Sm : XS} (h : RB n k z S Sm) (hn : n < 40) {a1 a2 a3 a4 a5 a6 : Int32} (h1 : wi a1 0 100000) (h2 : wi a2 (-60) 60) (h3 : wi a3 a2 60) (h4 : a4 = 0 ∨ a4 = 1) (h5 : a5 = -1 ∨ a5 = 0 ∨ a5 = 1) (h6 : a6 = 0 ∨ (a6 = 1 ∧ a5 = 0)) : RelP PL (xAdd S n a1 a2 a3 a4 a5 a6) (mAdd (up2 Sm 0 0 0) n a1 a2 a3 a4 a5 a6) :=
  ⟨n + 1, k, z, h.add hn h1 h2 h3 h4 h5 h6, rfl, Or.inl rfl⟩
theorem wi01 {a : Int32} (h : wi a 0 1) : a = 0 ∨ a = 1 := by
  obtain ⟨h1, h2⟩ := h
  rw [Int32.lt_iff_toInt_lt] at h1 h2
  have e0 : (0 : Int32).toInt = 0 := by decide
  have e1 : (1 : Int32).toInt = 1 := by decide
  rw [e0] at h1
  rw [e1] at h2
  rcases (show a.toInt = 0 ∨ a.toInt = 1 by omega) with e | e
  · exact Or.inl (Int32.toInt_inj.mp (by rw [e, e0]))
  · exact Or.inr (Int32.toInt_inj.mp (by rw [e, e1]))
theorem wi11 {a : Int32} (h : wi a (-1) 1) : a = -1 ∨ a = 0 ∨ a = 1 := by
  obtain ⟨h1, h2⟩ := h
  rw [Int32.lt_iff_toInt_lt] at h1 h2
  have em : (-1 : Int32).toInt = -1 := by decide
  have e0 : (0 : Int32).toInt = 0 := by decide
  have e1 : (1 : Int32).toInt = 1 := by decide
  rw [em] at h1
  rw [e1] at h2
  rcases (show a.toInt = -1 ∨ a.toInt = 0 ∨ a.toInt = 1 by omega) with e | e | e
  · exact Or.inl (Int32.toInt_inj.mp (by rw [e, em]))
  · exact Or.inr (Or.inl (Int32.toInt_inj.mp (by rw [e, e0])))
  · exact Or.inr (Or.inr (Int32.toInt_inj.mp (by rw [e, e1])))
theorem wi_up {a b l : Int32} (h1 : ¬ a < l) (h2 : ¬ b < a) : ¬ b < l := by
  rw [Int32.lt_iff_toInt_lt] at *
  omega
theorem s_note {PL : Nat → Nat → Nat → XS → XS → Prop} (hPL : PLok PL) {S Sm : XS} (hr : RelP PL S Sm) (a1 a2 a3 a4 a5 : Int32) : PD (RelP PL) m_X5_note m_X6_note S Sm [.inl a1, .inl a2, .inl a3, .inl a4, .inl a5] := by
  obtain ⟨n, k, z, hb, hp⟩ := id hr
  obtain ⟨i1, i2, i3, i4⟩ := hb.1
  unfold PD
  rw [p_note i1 i3, q_note i2 i3]
  have hx : exq (S 7) 0 n a1 ↔ exq (Sm 1) 0 n a1 := exq_agr (fun j hj => (i4 j hj).1.1)
  by_cases hv : wi a1 0 100000 ∧ wi a2 (-60) 60 ∧ wi a3 a2 60 ∧ wi a4 0 1 ∧ wi a5 (-1) 1 ∧ ¬ exq (Sm 1) 0 n a1
  · obtain ⟨v1, v2, v3, v4, v5, v6⟩ := id hv
    rw [cif_t hv, cif_t ⟨v2, ⟨wi_up v2.1 v3.1, v3.2⟩, v3.1, v5, v1, v4, fun q => v6 (hx.mp q)⟩]
    by_cases h : n < 40
    · rw [cif_t h, cif_t h]
      exact ⟨_, _, _, rfl, rfl, RelP.add hb h v1 v2 v3 (wi01 v4) (wi11 v5) (Or.inl rfl)⟩
    · rw [cif_f h, cif_f h]
      exact ⟨_, _, _, rfl, rfl, hr.code hPL⟩
  · rw [cif_f hv, cif_f (fun q => hv ⟨q.2.2.2.2.1, q.1, ⟨q.2.2.1, q.2.1.2⟩, q.2.2.2.2.2.1, q.2.2.2.1, fun w => q.2.2.2.2.2.2 (hx.mpr w)⟩)]
    exact ⟨_, _, _, rfl, rfl, hr.code hPL⟩
theorem s_rest {PL : Nat → Nat → Nat → XS → XS → Prop} (hPL : PLok PL) {S Sm : XS} (hr : RelP PL S Sm) (a1 a2 a3 : Int32) : PD (RelP PL) m_X5_rest m_X6_rest S Sm [.inl a1, .inl a2, .inl a3] := by
  obtain ⟨n, k, z, hb, hp⟩ := id hr
  obtain ⟨i1, i2, i3, i4⟩ := hb.1
  unfold PD
  rw [p_rest i1 i3, q_rest i2 i3]
  have hx : exq (S 7) 0 n a1 ↔ exq (Sm 1) 0 n a1 := exq_agr (fun j hj => (i4 j hj).1.1)
  by_cases hv : wi a1 0 100000 ∧ wi a2 (-60) 60 ∧ wi a3 0 1 ∧ ¬ exq (Sm 1) 0 n a1
  · obtain ⟨v1, v2, v3, v4⟩ := id hv
    rw [cif_t hv, cif_t ⟨v2, v1, v3, fun q => v4 (hx.mp q)⟩]
    by_cases h : n < 40
    · rw [cif_t h, cif_t h]
      exact ⟨_, _, _, rfl, rfl, RelP.add hb h v1 v2 ⟨by rw [Int32.lt_iff_toInt_lt]; omega, v2.2⟩ (wi01 v3) (Or.inr (Or.inl rfl)) (Or.inr ⟨rfl, rfl⟩)⟩
    · rw [cif_f h, cif_f h]
      exact ⟨_, _, _, rfl, rfl, hr.code hPL⟩
  · rw [cif_f hv, cif_f (fun q => hv ⟨q.2.1, q.1, q.2.2.1, fun w => q.2.2.2 (hx.mpr w)⟩)]
    exact ⟨_, _, _, rfl, rfl, hr.code hPL⟩
