/-! PURE PART: wide, push, item. -/
noncomputable def cq (p : Nat → Prop) : Nat → Int32
  | 0 => 0
  | i + 1 => cq p i + b01 (p i)
theorem cq_agr {p q : Nat → Prop} : ∀ k, (∀ j, j < k → (p j ↔ q j)) → cq p k = cq q k := by
  intro k
  induction k with
  | zero => intro _; rfl
  | succ k ih =>
    intro h
    unfold cq
    rw [ih (fun j hj => h j (by omega)), b01_iff (h k (by omega))]
theorem p_countAt {S : XS} {k : Nat} (hk : S 3 11 = nI k) (h80 : k ≤ 80) (a : Int32) : m_X2_countAt [.inr 3, .inl a] S = ri S (cq (fun j => S 18 j = 0 ∧ S 14 j = a) k) := by
  rw [u_X2_countAt]
  refine lp0 (b := fun fl i (acc : Int32) => b_X2_countAt_4 fl [(0, .inr 3), (1, .inl a), (2, .inl acc), (3, .inl (nI i))] [] S) (N := k) (by omega) (fun i acc => acc = cq (fun j => S 18 j = 0 ∧ S 14 j = a) i) (fun r => r = ri S (cq (fun j => S 18 j = 0 ∧ S 14 j = a) k)) rfl ?_ ?_
  · rintro fl i s hi rfl
    left
    simp only [u_X2_countAt_4, hk, if_neg (nI_ge hi (by omega)), gA_nI (show i < 80 by omega) (by decide), nI_clamp (show i < 2 ^ 31 by omega), nI_1]
    by_cases h1 : S 18 i = 0
    · by_cases h2 : S 14 i = a
      · exact ⟨_, rfl, by rw [if_pos h1, if_pos h2, cq, b01_t ⟨h1, h2⟩]⟩
      · exact ⟨_, rfl, by rw [if_pos h1, if_neg h2, cq, b01_f (fun q => h2 q.2)]⟩
    · exact ⟨_, rfl, by rw [if_neg h1, cq, b01_f (fun q => h1 q.1)]⟩
  · rintro fl s rfl
    simp only [u_X2_countAt_4, hk, if_pos (nI_le (Nat.le_refl k) (by omega))]
theorem p_countThere {S : XS} {k : Nat} (hk : S 3 11 = nI k) (h80 : k ≤ 80) : m_X2_countThere [.inr 3] S = ri S (cq (fun j => S 18 j = 0) k) := by
  rw [u_X2_countThere]
  refine lp0 (b := fun fl i (acc : Int32) => b_X2_countThere_4 fl [(0, .inr 3), (1, .inl acc), (2, .inl (nI i))] [] S) (N := k) (by omega) (fun i acc => acc = cq (fun j => S 18 j = 0) i) (fun r => r = ri S (cq (fun j => S 18 j = 0) k)) rfl ?_ ?_
  · rintro fl i s hi rfl
    left
    simp only [u_X2_countThere_4, hk, if_neg (nI_ge hi (by omega)), gA_nI (show i < 80 by omega) (by decide), nI_clamp (show i < 2 ^ 31 by omega), nI_1]
    by_cases h1 : S 18 i = 0
    · exact ⟨_, rfl, by rw [if_pos h1, cq, b01_t h1]⟩
    · exact ⟨_, rfl, by rw [if_neg h1, cq, b01_f h1]⟩
  · rintro fl s rfl
    simp only [u_X2_countThere_4, hk, if_pos (nI_le (Nat.le_refl k) (by omega))]
theorem q_marksOf {S : XS} {k : Nat} (hk : S 0 9 = nI k) (h80 : k ≤ 80) (a : Int32) : m_X6_marksOf [.inr 0, .inl a] S = ri S (cq (fun j => S 12 j = 0 ∧ (a = -100003 ∨ S 8 j = a)) k) := by
  rw [u_X6_marksOf]
  refine lp0 (b := fun fl i (acc : Int32) => b_X6_marksOf_4 fl [(0, .inr 0), (1, .inl a), (2, .inl acc), (3, .inl (nI i))] [] S) (N := k) (by omega) (fun i acc => acc = cq (fun j => S 12 j = 0 ∧ (a = -100003 ∨ S 8 j = a)) i) (fun r => r = ri S (cq (fun j => S 12 j = 0 ∧ (a = -100003 ∨ S 8 j = a)) k)) rfl ?_ ?_
  · rintro fl i s hi rfl
    left
    simp only [u_X6_marksOf_4, hk, if_neg (nI_ge hi (by omega)), gA_nI (show i < 80 by omega) (by decide), nI_clamp (show i < 2 ^ 31 by omega), nI_1]
    by_cases h1 : S 12 i = 0
    · by_cases h3 : a = -100003
      · exact ⟨_, rfl, by rw [if_pos h1, if_pos h3, cq, b01_t ⟨h1, Or.inl h3⟩]⟩
      · by_cases h2 : S 8 i = a
        · exact ⟨_, rfl, by rw [if_pos h1, if_neg h3, if_pos h2, cq, b01_t ⟨h1, Or.inr h2⟩]⟩
        · exact ⟨_, rfl, by rw [if_pos h1, if_neg h3, if_neg h2, cq, b01_f (fun q => q.2.elim h3 h2)]⟩
    · exact ⟨_, rfl, by rw [if_neg h1, cq, b01_f (fun q => h1 q.1)]⟩
  · rintro fl s rfl
    simp only [u_X6_marksOf_4, hk, if_pos (nI_le (Nat.le_refl k) (by omega))]
theorem s_item {PL : Nat → Nat → Nat → XS → XS → Prop} (hPL : PLok PL) {S Sm : XS} (hr : RelP PL S Sm) (a1 a2 : Int32) : PD (RelP PL) m_X5_item m_X6_item S Sm [.inl a1, .inl a2] := by
  obtain ⟨n, k, z, hb, hp⟩ := id hr
  obtain ⟨⟨i1, i2, i3, i4⟩, hK, ⟨m1, m2, ⟨m3, m5⟩, m4⟩, hZ⟩ := id hb
  have i2' : (up2 Sm 0 0 0) 0 1 = nI n := i2
  have m2' : (up2 Sm 0 0 0) 0 9 = nI k := m2
  by_cases h1 : okI (nI n) a1
  case neg =>
    refine PD.same hPL hr (r := -100001) ?_ ?_
    · simp only [u_X5_item, p_has0, i1, b01_f h1, cli_ri, ↓reduceIte]
    · simp only [u_X6_item, q_item, i2', b01_f h1, cli_ri, ↓reduceIte]
  obtain ⟨j, hj, rfl⟩ := (okI_iff (by omega)).mp h1
  have hg : ∀ q, gA (nI j) 40 q = q := fun q => gA_nI (by omega) (by decide) q
  have hc : (nI j).toNatClampNeg = j := nI_clamp (by omega)
  obtain ⟨⟨e1, e2, e3, e4, e5, e6⟩, -, -, -, w6⟩ := id (i4 j hj)
  have hs : ∀ c, c ≠ 0 → (up2 Sm 0 0 0) c j = Sm c j := fun c q => up2_o _ _ q
  have hne : ¬ nI j = -100003 := fun q => nI_pos (show j < 2 ^ 31 by omega) (by rw [q]; decide)
  have hcq : cq (fun i => S 18 i = 0 ∧ S 14 i = nI j) k = cq (fun i => (up2 Sm 0 0 0) 12 i = 0 ∧ (nI j = -100003 ∨ (up2 Sm 0 0 0) 8 i = nI j)) k := by
    refine cq_agr k (fun i hi => ?_)
    show S 18 i = 0 ∧ S 14 i = nI j ↔ Sm 12 i = 0 ∧ (nI j = -100003 ∨ Sm 8 i = nI j)
    rw [(m4 i hi).1.1, (m4 i hi).1.2.2.2.2]
    exact ⟨fun q => ⟨q.1, Or.inr q.2⟩, fun q => ⟨q.1, q.2.elim (fun w => absurd w hne) id⟩⟩
  have hX := u_X5_item S (nI j) a2
  have hM := u_X6_item Sm (nI j) a2
  simp only [p_has0, i1, b01_t h1, cli_ri, ↓reduceIte, r10, hg, hc, p_countAt m1 m3, e1, e2, e3, e4, e5, e6] at hX
  simp only [q_item, i2', b01_t h1, cli_ri, ↓reduceIte, r10, hg, hc, q_marksOf m2' m3, hs 1 (by decide), hs 2 (by decide), hs 3 (by decide), hs 4 (by decide), hs 5 (by decide), hs 6 (by decide)] at hM
  rw [hcq] at hX
  have e6' : (if Sm 6 j = 0 then (some (up2 Sm 0 0 0, some (some (.inl 0))) : Option RS) else some (up2 Sm 0 0 0, some (some (.inl 1)))) = ri (up2 Sm 0 0 0) (Sm 6 j) := by
    rcases w6 with w | ⟨w, -⟩ <;> rw [w] <;> rfl
  rw [e6'] at hM
  have tk : ∀ r, (m_X5_item [.inr 0, .inl (nI j), .inl a2] S = ri S r) → (m_X6_item [.inr 0, .inl (nI j), .inl a2] Sm = ri (up2 Sm 0 0 0) r) → PD (RelP PL) m_X5_item m_X6_item S Sm [.inl (nI j), .inl a2] := fun r q1 q2 => PD.same hPL hr q1 q2
  by_cases c0 : a2.toInt = 0
  · rw [if_pos c0] at hX hM; exact tk _ hX hM
  rw [if_neg c0] at hX hM
  by_cases c1 : a2.toInt = 1
  · rw [if_pos c1] at hX hM; exact tk _ hX hM
  rw [if_neg c1] at hX hM
  by_cases c2 : a2.toInt = 2
  · rw [if_pos c2] at hX hM; exact tk _ hX hM
  rw [if_neg c2] at hX hM
  by_cases c3 : a2.toInt = 3
  · rw [if_pos c3] at hX hM; exact tk _ hX hM
  rw [if_neg c3] at hX hM
  by_cases c4 : a2.toInt = 4
  · rw [if_pos c4] at hX hM; exact tk _ hX hM
  rw [if_neg c4] at hX hM
  by_cases c5 : a2.toInt = 5
  · rw [if_pos c5] at hX hM; exact tk _ hX hM
  rw [if_neg c5] at hX hM
  by_cases c6 : a2.toInt = 6
  · rw [if_pos c6] at hX hM; exact tk _ hX hM
  rw [if_neg c6] at hX hM
  exact tk _ hX hM
